section
-- ===== PART A: goes FIRST, ahead of the names: the tables' words, and 'selects' of the private methods out of them =====
/-- a private method of a class that the tables say can be made, by its rows of tables_1 -/
def lw_okq (q : MethodName × Nat) : Prop := (q.1.cls ≠ "java/lang/invoke/MethodHandle" ∧ q.1.cls ≠ "java/lang/invoke/VarHandle") ∧ Cond.instantiable q.1.cls q.2 ∈ tables_1 ∧ Cond.privateMethod q.1 ∈ tables_1 ∧ Cond.instanceMethod q.1 ∈ tables_1
theorem lw_p0 : lw_okq (⟨"TwelveShort", "isPerson", "(I)Z"⟩, 11) := ⟨⟨by decide +kernel, by decide +kernel⟩, List.mem_of_getElem? (i := 19) (by decide +kernel), List.mem_of_getElem? (i := 291) (by decide +kernel), List.mem_of_getElem? (i := 292) (by decide +kernel)⟩
theorem lw_p1 : lw_okq (⟨"TwelveShort", "lawThatCounts", "(LTwelveShort$House;I)LTwelveShort$Law;"⟩, 11) := ⟨⟨by decide +kernel, by decide +kernel⟩, List.mem_of_getElem? (i := 19) (by decide +kernel), List.mem_of_getElem? (i := 295) (by decide +kernel), List.mem_of_getElem? (i := 296) (by decide +kernel)⟩
theorem lw_p2 : lw_okq (⟨"TwelveShort$House", "broughtBy", "(I)I"⟩, 12) := ⟨⟨by decide +kernel, by decide +kernel⟩, List.mem_of_getElem? (i := 27) (by decide +kernel), List.mem_of_getElem? (i := 399) (by decide +kernel), List.mem_of_getElem? (i := 400) (by decide +kernel)⟩
theorem lw_p3 : lw_okq (⟨"TwelveShort$House", "withOneSentFor", "(I)I"⟩, 12) := ⟨⟨by decide +kernel, by decide +kernel⟩, List.mem_of_getElem? (i := 27) (by decide +kernel), List.mem_of_getElem? (i := 414) (by decide +kernel), List.mem_of_getElem? (i := 415) (by decide +kernel)⟩
theorem lw_p4 : lw_okq (⟨"TwelveShort$House", "drawComers", "(LTwelveShort$Law;)I"⟩, 12) := ⟨⟨by decide +kernel, by decide +kernel⟩, List.mem_of_getElem? (i := 27) (by decide +kernel), List.mem_of_getElem? (i := 434) (by decide +kernel), List.mem_of_getElem? (i := 435) (by decide +kernel)⟩
theorem lw_p5 : lw_okq (⟨"TwelveShort$House", "drawFog", "()V"⟩, 12) := ⟨⟨by decide +kernel, by decide +kernel⟩, List.mem_of_getElem? (i := 27) (by decide +kernel), List.mem_of_getElem? (i := 440) (by decide +kernel), List.mem_of_getElem? (i := 441) (by decide +kernel)⟩
theorem lw_p6 : lw_okq (⟨"TwelveShort", "sumDifferences", "(LTwelveShort$Row;)V"⟩, 11) := ⟨⟨by decide +kernel, by decide +kernel⟩, List.mem_of_getElem? (i := 19) (by decide +kernel), List.mem_of_getElem? (i := 501) (by decide +kernel), List.mem_of_getElem? (i := 502) (by decide +kernel)⟩
theorem lw_p7 : lw_okq (⟨"TwelveShort$Tape", "byteAt", "(I)I"⟩, 5) := ⟨⟨by decide +kernel, by decide +kernel⟩, List.mem_of_getElem? (i := 124) (by decide +kernel), List.mem_of_getElem? (i := 557) (by decide +kernel), List.mem_of_getElem? (i := 558) (by decide +kernel)⟩
theorem lw_p8 : lw_okq (⟨"TwelveShort$Tape", "sortAt", "(I)I"⟩, 5) := ⟨⟨by decide +kernel, by decide +kernel⟩, List.mem_of_getElem? (i := 124) (by decide +kernel), List.mem_of_getElem? (i := 561) (by decide +kernel), List.mem_of_getElem? (i := 562) (by decide +kernel)⟩
theorem lw_p9 : lw_okq (⟨"TwelveShort$Reader", "readKey", "(LTwelveShort$Law;)V"⟩, 4) := ⟨⟨by decide +kernel, by decide +kernel⟩, List.mem_of_getElem? (i := 118) (by decide +kernel), List.mem_of_getElem? (i := 565) (by decide +kernel), List.mem_of_getElem? (i := 566) (by decide +kernel)⟩
theorem lw_p10 : lw_okq (⟨"TwelveShort$Reader", "fail", "()V"⟩, 4) := ⟨⟨by decide +kernel, by decide +kernel⟩, List.mem_of_getElem? (i := 118) (by decide +kernel), List.mem_of_getElem? (i := 632) (by decide +kernel), List.mem_of_getElem? (i := 633) (by decide +kernel)⟩
theorem lw_p11 : lw_okq (⟨"TwelveShort$Reader", "readLevel", "(ILTwelveShort$Law;)V"⟩, 4) := ⟨⟨by decide +kernel, by decide +kernel⟩, List.mem_of_getElem? (i := 118) (by decide +kernel), List.mem_of_getElem? (i := 636) (by decide +kernel), List.mem_of_getElem? (i := 637) (by decide +kernel)⟩
theorem lw_p12 : lw_okq (⟨"TwelveShort$Reader", "readPiece", "(LTwelveShort$Law;)V"⟩, 4) := ⟨⟨by decide +kernel, by decide +kernel⟩, List.mem_of_getElem? (i := 118) (by decide +kernel), List.mem_of_getElem? (i := 640) (by decide +kernel), List.mem_of_getElem? (i := 641) (by decide +kernel)⟩
theorem lw_p13 : lw_okq (⟨"TwelveShort$Law", "addStep", "(I)V"⟩, 5) := ⟨⟨by decide +kernel, by decide +kernel⟩, List.mem_of_getElem? (i := 166) (by decide +kernel), List.mem_of_getElem? (i := 713) (by decide +kernel), List.mem_of_getElem? (i := 714) (by decide +kernel)⟩
theorem lw_p14 : lw_okq (⟨"TwelveShort$Reader", "readNot", "(LTwelveShort$Law;)V"⟩, 4) := ⟨⟨by decide +kernel, by decide +kernel⟩, List.mem_of_getElem? (i := 118) (by decide +kernel), List.mem_of_getElem? (i := 734) (by decide +kernel), List.mem_of_getElem? (i := 735) (by decide +kernel)⟩
theorem lw_p15 : lw_okq (⟨"TwelveShort$Reader", "readBracket", "(LTwelveShort$Law;)V"⟩, 4) := ⟨⟨by decide +kernel, by decide +kernel⟩, List.mem_of_getElem? (i := 118) (by decide +kernel), List.mem_of_getElem? (i := 742) (by decide +kernel), List.mem_of_getElem? (i := 743) (by decide +kernel)⟩
def lw_privs_1 : List (MethodName × Nat) := [(⟨"TwelveShort", "isPerson", "(I)Z"⟩, 11), (⟨"TwelveShort", "lawThatCounts", "(LTwelveShort$House;I)LTwelveShort$Law;"⟩, 11), (⟨"TwelveShort$House", "broughtBy", "(I)I"⟩, 12), (⟨"TwelveShort$House", "withOneSentFor", "(I)I"⟩, 12), (⟨"TwelveShort$House", "drawComers", "(LTwelveShort$Law;)I"⟩, 12), (⟨"TwelveShort$House", "drawFog", "()V"⟩, 12), (⟨"TwelveShort", "sumDifferences", "(LTwelveShort$Row;)V"⟩, 11), (⟨"TwelveShort$Tape", "byteAt", "(I)I"⟩, 5), (⟨"TwelveShort$Tape", "sortAt", "(I)I"⟩, 5), (⟨"TwelveShort$Reader", "readKey", "(LTwelveShort$Law;)V"⟩, 4), (⟨"TwelveShort$Reader", "fail", "()V"⟩, 4), (⟨"TwelveShort$Reader", "readLevel", "(ILTwelveShort$Law;)V"⟩, 4), (⟨"TwelveShort$Reader", "readPiece", "(LTwelveShort$Law;)V"⟩, 4), (⟨"TwelveShort$Law", "addStep", "(I)V"⟩, 5), (⟨"TwelveShort$Reader", "readNot", "(LTwelveShort$Law;)V"⟩, 4), (⟨"TwelveShort$Reader", "readBracket", "(LTwelveShort$Law;)V"⟩, 4)]
theorem lw_r1 : ∀ q ∈ lw_privs_1, lw_okq q := List.forall_mem_cons.mpr ⟨lw_p0, List.forall_mem_cons.mpr ⟨lw_p1, List.forall_mem_cons.mpr ⟨lw_p2, List.forall_mem_cons.mpr ⟨lw_p3, List.forall_mem_cons.mpr ⟨lw_p4, List.forall_mem_cons.mpr ⟨lw_p5, List.forall_mem_cons.mpr ⟨lw_p6, List.forall_mem_cons.mpr ⟨lw_p7, List.forall_mem_cons.mpr ⟨lw_p8, List.forall_mem_cons.mpr ⟨lw_p9, List.forall_mem_cons.mpr ⟨lw_p10, List.forall_mem_cons.mpr ⟨lw_p11, List.forall_mem_cons.mpr ⟨lw_p12, List.forall_mem_cons.mpr ⟨lw_p13, List.forall_mem_cons.mpr ⟨lw_p14, List.forall_mem_cons.mpr ⟨lw_p15, fun _ h => absurd h List.not_mem_nil⟩⟩⟩⟩⟩⟩⟩⟩⟩⟩⟩⟩⟩⟩⟩⟩
theorem lw_p16 : lw_okq (⟨"TwelveShort", "firstOtherwise", "(II)I"⟩, 11) := ⟨⟨by decide +kernel, by decide +kernel⟩, List.mem_of_getElem? (i := 19) (by decide +kernel), List.mem_of_getElem? (i := 828) (by decide +kernel), List.mem_of_getElem? (i := 829) (by decide +kernel)⟩
theorem lw_p17 : lw_okq (⟨"TwelveShort", "isNext", "(III)Z"⟩, 11) := ⟨⟨by decide +kernel, by decide +kernel⟩, List.mem_of_getElem? (i := 19) (by decide +kernel), List.mem_of_getElem? (i := 832) (by decide +kernel), List.mem_of_getElem? (i := 833) (by decide +kernel)⟩
theorem lw_p18 : lw_okq (⟨"TwelveShortModel", "joins", "(IIII)V"⟩, 31) := ⟨⟨by decide +kernel, by decide +kernel⟩, List.mem_of_getElem? (i := 849) (by decide +kernel), List.mem_of_getElem? (i := 961) (by decide +kernel), List.mem_of_getElem? (i := 962) (by decide +kernel)⟩
theorem lw_p19 : lw_okq (⟨"TwelveShortModel", "sets", "(III)V"⟩, 31) := ⟨⟨by decide +kernel, by decide +kernel⟩, List.mem_of_getElem? (i := 849) (by decide +kernel), List.mem_of_getElem? (i := 965) (by decide +kernel), List.mem_of_getElem? (i := 966) (by decide +kernel)⟩
theorem lw_p20 : lw_okq (⟨"TwelveShortModel", "isPerson", "(I)Z"⟩, 31) := ⟨⟨by decide +kernel, by decide +kernel⟩, List.mem_of_getElem? (i := 849) (by decide +kernel), List.mem_of_getElem? (i := 973) (by decide +kernel), List.mem_of_getElem? (i := 974) (by decide +kernel)⟩
theorem lw_p21 : lw_okq (⟨"TwelveShortModel", "comesBy", "(I)I"⟩, 31) := ⟨⟨by decide +kernel, by decide +kernel⟩, List.mem_of_getElem? (i := 849) (by decide +kernel), List.mem_of_getElem? (i := 978) (by decide +kernel), List.mem_of_getElem? (i := 979) (by decide +kernel)⟩
theorem lw_p22 : lw_okq (⟨"TwelveShortModel", "plain", "(I)I"⟩, 31) := ⟨⟨by decide +kernel, by decide +kernel⟩, List.mem_of_getElem? (i := 849) (by decide +kernel), List.mem_of_getElem? (i := 982) (by decide +kernel), List.mem_of_getElem? (i := 983) (by decide +kernel)⟩
theorem lw_p23 : lw_okq (⟨"TwelveShortModel", "counts", "(I)I"⟩, 31) := ⟨⟨by decide +kernel, by decide +kernel⟩, List.mem_of_getElem? (i := 849) (by decide +kernel), List.mem_of_getElem? (i := 986) (by decide +kernel), List.mem_of_getElem? (i := 987) (by decide +kernel)⟩
theorem lw_p24 : lw_okq (⟨"TwelveShortModel", "textAt", "(I)I"⟩, 31) := ⟨⟨by decide +kernel, by decide +kernel⟩, List.mem_of_getElem? (i := 849) (by decide +kernel), List.mem_of_getElem? (i := 990) (by decide +kernel), List.mem_of_getElem? (i := 991) (by decide +kernel)⟩
theorem lw_p25 : lw_okq (⟨"TwelveShortModel", "of", "(II)I"⟩, 31) := ⟨⟨by decide +kernel, by decide +kernel⟩, List.mem_of_getElem? (i := 849) (by decide +kernel), List.mem_of_getElem? (i := 994) (by decide +kernel), List.mem_of_getElem? (i := 995) (by decide +kernel)⟩
theorem lw_p26 : lw_okq (⟨"TwelveShortModel", "worked", "(I)I"⟩, 31) := ⟨⟨by decide +kernel, by decide +kernel⟩, List.mem_of_getElem? (i := 849) (by decide +kernel), List.mem_of_getElem? (i := 1001) (by decide +kernel), List.mem_of_getElem? (i := 1002) (by decide +kernel)⟩
theorem lw_p27 : lw_okq (⟨"TwelveShortModel", "walks", "(I)I"⟩, 31) := ⟨⟨by decide +kernel, by decide +kernel⟩, List.mem_of_getElem? (i := 849) (by decide +kernel), List.mem_of_getElem? (i := 1014) (by decide +kernel), List.mem_of_getElem? (i := 1015) (by decide +kernel)⟩
theorem lw_p28 : lw_okq (⟨"TwelveShortModel", "brings", "(I)I"⟩, 31) := ⟨⟨by decide +kernel, by decide +kernel⟩, List.mem_of_getElem? (i := 849) (by decide +kernel), List.mem_of_getElem? (i := 1018) (by decide +kernel), List.mem_of_getElem? (i := 1019) (by decide +kernel)⟩
theorem lw_p29 : lw_okq (⟨"TwelveShortModel", "worth", "(I)I"⟩, 31) := ⟨⟨by decide +kernel, by decide +kernel⟩, List.mem_of_getElem? (i := 849) (by decide +kernel), List.mem_of_getElem? (i := 1022) (by decide +kernel), List.mem_of_getElem? (i := 1023) (by decide +kernel)⟩
theorem lw_p30 : lw_okq (⟨"TwelveShortModel", "changes", "(II)I"⟩, 31) := ⟨⟨by decide +kernel, by decide +kernel⟩, List.mem_of_getElem? (i := 849) (by decide +kernel), List.mem_of_getElem? (i := 1038) (by decide +kernel), List.mem_of_getElem? (i := 1039) (by decide +kernel)⟩
theorem lw_p31 : lw_okq (⟨"TwelveShortModel", "drawn", "()I"⟩, 31) := ⟨⟨by decide +kernel, by decide +kernel⟩, List.mem_of_getElem? (i := 849) (by decide +kernel), List.mem_of_getElem? (i := 1057) (by decide +kernel), List.mem_of_getElem? (i := 1058) (by decide +kernel)⟩
def lw_privs_2 : List (MethodName × Nat) := [(⟨"TwelveShort", "firstOtherwise", "(II)I"⟩, 11), (⟨"TwelveShort", "isNext", "(III)Z"⟩, 11), (⟨"TwelveShortModel", "joins", "(IIII)V"⟩, 31), (⟨"TwelveShortModel", "sets", "(III)V"⟩, 31), (⟨"TwelveShortModel", "isPerson", "(I)Z"⟩, 31), (⟨"TwelveShortModel", "comesBy", "(I)I"⟩, 31), (⟨"TwelveShortModel", "plain", "(I)I"⟩, 31), (⟨"TwelveShortModel", "counts", "(I)I"⟩, 31), (⟨"TwelveShortModel", "textAt", "(I)I"⟩, 31), (⟨"TwelveShortModel", "of", "(II)I"⟩, 31), (⟨"TwelveShortModel", "worked", "(I)I"⟩, 31), (⟨"TwelveShortModel", "walks", "(I)I"⟩, 31), (⟨"TwelveShortModel", "brings", "(I)I"⟩, 31), (⟨"TwelveShortModel", "worth", "(I)I"⟩, 31), (⟨"TwelveShortModel", "changes", "(II)I"⟩, 31), (⟨"TwelveShortModel", "drawn", "()I"⟩, 31)]
theorem lw_r2 : ∀ q ∈ lw_privs_2, lw_okq q := List.forall_mem_cons.mpr ⟨lw_p16, List.forall_mem_cons.mpr ⟨lw_p17, List.forall_mem_cons.mpr ⟨lw_p18, List.forall_mem_cons.mpr ⟨lw_p19, List.forall_mem_cons.mpr ⟨lw_p20, List.forall_mem_cons.mpr ⟨lw_p21, List.forall_mem_cons.mpr ⟨lw_p22, List.forall_mem_cons.mpr ⟨lw_p23, List.forall_mem_cons.mpr ⟨lw_p24, List.forall_mem_cons.mpr ⟨lw_p25, List.forall_mem_cons.mpr ⟨lw_p26, List.forall_mem_cons.mpr ⟨lw_p27, List.forall_mem_cons.mpr ⟨lw_p28, List.forall_mem_cons.mpr ⟨lw_p29, List.forall_mem_cons.mpr ⟨lw_p30, List.forall_mem_cons.mpr ⟨lw_p31, fun _ h => absurd h List.not_mem_nil⟩⟩⟩⟩⟩⟩⟩⟩⟩⟩⟩⟩⟩⟩⟩⟩
theorem lw_p32 : lw_okq (⟨"TwelveShortModel", "broughtBy", "(I)I"⟩, 31) := ⟨⟨by decide +kernel, by decide +kernel⟩, List.mem_of_getElem? (i := 849) (by decide +kernel), List.mem_of_getElem? (i := 1071) (by decide +kernel), List.mem_of_getElem? (i := 1072) (by decide +kernel)⟩
theorem lw_p33 : lw_okq (⟨"TwelveShortModel", "dines", "(I)I"⟩, 31) := ⟨⟨by decide +kernel, by decide +kernel⟩, List.mem_of_getElem? (i := 849) (by decide +kernel), List.mem_of_getElem? (i := 1080) (by decide +kernel), List.mem_of_getElem? (i := 1081) (by decide +kernel)⟩
theorem lw_p34 : lw_okq (⟨"TwelveShortModel", "nearest", "(I)I"⟩, 31) := ⟨⟨by decide +kernel, by decide +kernel⟩, List.mem_of_getElem? (i := 849) (by decide +kernel), List.mem_of_getElem? (i := 1084) (by decide +kernel), List.mem_of_getElem? (i := 1085) (by decide +kernel)⟩
theorem lw_p35 : lw_okq (⟨"TwelveShortModel", "goesOnMany", "(I)V"⟩, 31) := ⟨⟨by decide +kernel, by decide +kernel⟩, List.mem_of_getElem? (i := 849) (by decide +kernel), List.mem_of_getElem? (i := 1093) (by decide +kernel), List.mem_of_getElem? (i := 1094) (by decide +kernel)⟩
theorem lw_p36 : lw_okq (⟨"TwelveShortModel", "goesOn", "()V"⟩, 31) := ⟨⟨by decide +kernel, by decide +kernel⟩, List.mem_of_getElem? (i := 849) (by decide +kernel), List.mem_of_getElem? (i := 1097) (by decide +kernel), List.mem_of_getElem? (i := 1098) (by decide +kernel)⟩
theorem lw_p37 : lw_okq (⟨"TwelveShortModel", "houseOf", "(I)I"⟩, 31) := ⟨⟨by decide +kernel, by decide +kernel⟩, List.mem_of_getElem? (i := 849) (by decide +kernel), List.mem_of_getElem? (i := 1105) (by decide +kernel), List.mem_of_getElem? (i := 1106) (by decide +kernel)⟩
theorem lw_p38 : lw_okq (⟨"TwelveShortModel", "sumOf", "(I)I"⟩, 31) := ⟨⟨by decide +kernel, by decide +kernel⟩, List.mem_of_getElem? (i := 849) (by decide +kernel), List.mem_of_getElem? (i := 1109) (by decide +kernel), List.mem_of_getElem? (i := 1110) (by decide +kernel)⟩
theorem lw_p39 : lw_okq (⟨"TwelveShortModel", "laysBy", "()V"⟩, 31) := ⟨⟨by decide +kernel, by decide +kernel⟩, List.mem_of_getElem? (i := 849) (by decide +kernel), List.mem_of_getElem? (i := 1120) (by decide +kernel), List.mem_of_getElem? (i := 1121) (by decide +kernel)⟩
theorem lw_p40 : lw_okq (⟨"TwelveShortModel", "laysBack", "()V"⟩, 31) := ⟨⟨by decide +kernel, by decide +kernel⟩, List.mem_of_getElem? (i := 849) (by decide +kernel), List.mem_of_getElem? (i := 1124) (by decide +kernel), List.mem_of_getElem? (i := 1125) (by decide +kernel)⟩
theorem lw_p41 : lw_okq (⟨"TwelveShortModel", "mostBy", "(IIIII)I"⟩, 31) := ⟨⟨by decide +kernel, by decide +kernel⟩, List.mem_of_getElem? (i := 849) (by decide +kernel), List.mem_of_getElem? (i := 1140) (by decide +kernel), List.mem_of_getElem? (i := 1141) (by decide +kernel)⟩
theorem lw_p42 : lw_okq (⟨"TwelveShortModel", "parse", "()I"⟩, 31) := ⟨⟨by decide +kernel, by decide +kernel⟩, List.mem_of_getElem? (i := 849) (by decide +kernel), List.mem_of_getElem? (i := 1172) (by decide +kernel), List.mem_of_getElem? (i := 1173) (by decide +kernel)⟩
theorem lw_p43 : lw_okq (⟨"TwelveShortModel", "nextToken", "()V"⟩, 31) := ⟨⟨by decide +kernel, by decide +kernel⟩, List.mem_of_getElem? (i := 849) (by decide +kernel), List.mem_of_getElem? (i := 1176) (by decide +kernel), List.mem_of_getElem? (i := 1177) (by decide +kernel)⟩
theorem lw_p44 : lw_okq (⟨"TwelveShortModel", "isLetter", "(I)Z"⟩, 31) := ⟨⟨by decide +kernel, by decide +kernel⟩, List.mem_of_getElem? (i := 849) (by decide +kernel), List.mem_of_getElem? (i := 1180) (by decide +kernel), List.mem_of_getElem? (i := 1181) (by decide +kernel)⟩
theorem lw_p45 : lw_okq (⟨"TwelveShortModel", "isDigit", "(I)Z"⟩, 31) := ⟨⟨by decide +kernel, by decide +kernel⟩, List.mem_of_getElem? (i := 849) (by decide +kernel), List.mem_of_getElem? (i := 1186) (by decide +kernel), List.mem_of_getElem? (i := 1187) (by decide +kernel)⟩
theorem lw_p46 : lw_okq (⟨"TwelveShortModel", "key", "()I"⟩, 31) := ⟨⟨by decide +kernel, by decide +kernel⟩, List.mem_of_getElem? (i := 849) (by decide +kernel), List.mem_of_getElem? (i := 1192) (by decide +kernel), List.mem_of_getElem? (i := 1193) (by decide +kernel)⟩
theorem lw_p47 : lw_okq (⟨"TwelveShortModel", "isWordAt", "(IIII)Z"⟩, 31) := ⟨⟨by decide +kernel, by decide +kernel⟩, List.mem_of_getElem? (i := 849) (by decide +kernel), List.mem_of_getElem? (i := 1196) (by decide +kernel), List.mem_of_getElem? (i := 1197) (by decide +kernel)⟩
def lw_privs_3 : List (MethodName × Nat) := [(⟨"TwelveShortModel", "broughtBy", "(I)I"⟩, 31), (⟨"TwelveShortModel", "dines", "(I)I"⟩, 31), (⟨"TwelveShortModel", "nearest", "(I)I"⟩, 31), (⟨"TwelveShortModel", "goesOnMany", "(I)V"⟩, 31), (⟨"TwelveShortModel", "goesOn", "()V"⟩, 31), (⟨"TwelveShortModel", "houseOf", "(I)I"⟩, 31), (⟨"TwelveShortModel", "sumOf", "(I)I"⟩, 31), (⟨"TwelveShortModel", "laysBy", "()V"⟩, 31), (⟨"TwelveShortModel", "laysBack", "()V"⟩, 31), (⟨"TwelveShortModel", "mostBy", "(IIIII)I"⟩, 31), (⟨"TwelveShortModel", "parse", "()I"⟩, 31), (⟨"TwelveShortModel", "nextToken", "()V"⟩, 31), (⟨"TwelveShortModel", "isLetter", "(I)Z"⟩, 31), (⟨"TwelveShortModel", "isDigit", "(I)Z"⟩, 31), (⟨"TwelveShortModel", "key", "()I"⟩, 31), (⟨"TwelveShortModel", "isWordAt", "(IIII)Z"⟩, 31)]
theorem lw_r3 : ∀ q ∈ lw_privs_3, lw_okq q := List.forall_mem_cons.mpr ⟨lw_p32, List.forall_mem_cons.mpr ⟨lw_p33, List.forall_mem_cons.mpr ⟨lw_p34, List.forall_mem_cons.mpr ⟨lw_p35, List.forall_mem_cons.mpr ⟨lw_p36, List.forall_mem_cons.mpr ⟨lw_p37, List.forall_mem_cons.mpr ⟨lw_p38, List.forall_mem_cons.mpr ⟨lw_p39, List.forall_mem_cons.mpr ⟨lw_p40, List.forall_mem_cons.mpr ⟨lw_p41, List.forall_mem_cons.mpr ⟨lw_p42, List.forall_mem_cons.mpr ⟨lw_p43, List.forall_mem_cons.mpr ⟨lw_p44, List.forall_mem_cons.mpr ⟨lw_p45, List.forall_mem_cons.mpr ⟨lw_p46, List.forall_mem_cons.mpr ⟨lw_p47, fun _ h => absurd h List.not_mem_nil⟩⟩⟩⟩⟩⟩⟩⟩⟩⟩⟩⟩⟩⟩⟩⟩
theorem lw_p48 : lw_okq (⟨"TwelveShortModel", "either", "(I)Z"⟩, 31) := ⟨⟨by decide +kernel, by decide +kernel⟩, List.mem_of_getElem? (i := 849) (by decide +kernel), List.mem_of_getElem? (i := 1200) (by decide +kernel), List.mem_of_getElem? (i := 1201) (by decide +kernel)⟩
theorem lw_p49 : lw_okq (⟨"TwelveShortModel", "both", "(I)Z"⟩, 31) := ⟨⟨by decide +kernel, by decide +kernel⟩, List.mem_of_getElem? (i := 849) (by decide +kernel), List.mem_of_getElem? (i := 1204) (by decide +kernel), List.mem_of_getElem? (i := 1205) (by decide +kernel)⟩
theorem lw_p50 : lw_okq (⟨"TwelveShortModel", "test", "(I)Z"⟩, 31) := ⟨⟨by decide +kernel, by decide +kernel⟩, List.mem_of_getElem? (i := 849) (by decide +kernel), List.mem_of_getElem? (i := 1208) (by decide +kernel), List.mem_of_getElem? (i := 1209) (by decide +kernel)⟩
theorem lw_p51 : lw_okq (⟨"TwelveShortModel", "sum", "(I)Z"⟩, 31) := ⟨⟨by decide +kernel, by decide +kernel⟩, List.mem_of_getElem? (i := 849) (by decide +kernel), List.mem_of_getElem? (i := 1212) (by decide +kernel), List.mem_of_getElem? (i := 1213) (by decide +kernel)⟩
theorem lw_p52 : lw_okq (⟨"TwelveShortModel", "term", "(I)Z"⟩, 31) := ⟨⟨by decide +kernel, by decide +kernel⟩, List.mem_of_getElem? (i := 849) (by decide +kernel), List.mem_of_getElem? (i := 1216) (by decide +kernel), List.mem_of_getElem? (i := 1217) (by decide +kernel)⟩
theorem lw_p53 : lw_okq (⟨"TwelveShortModel", "part0", "(I)Z"⟩, 31) := ⟨⟨by decide +kernel, by decide +kernel⟩, List.mem_of_getElem? (i := 849) (by decide +kernel), List.mem_of_getElem? (i := 1220) (by decide +kernel), List.mem_of_getElem? (i := 1221) (by decide +kernel)⟩
theorem lw_p54 : lw_okq (⟨"TwelveShortModel", "step", "(II)V"⟩, 31) := ⟨⟨by decide +kernel, by decide +kernel⟩, List.mem_of_getElem? (i := 849) (by decide +kernel), List.mem_of_getElem? (i := 1224) (by decide +kernel), List.mem_of_getElem? (i := 1225) (by decide +kernel)⟩
theorem lw_p55 : lw_okq (⟨"TwelveShortModel", "isSign", "(I)Z"⟩, 31) := ⟨⟨by decide +kernel, by decide +kernel⟩, List.mem_of_getElem? (i := 849) (by decide +kernel), List.mem_of_getElem? (i := 1231) (by decide +kernel), List.mem_of_getElem? (i := 1232) (by decide +kernel)⟩
theorem lw_p56 : lw_okq (⟨"TwelveShortModel", "isText", "(I)Z"⟩, 31) := ⟨⟨by decide +kernel, by decide +kernel⟩, List.mem_of_getElem? (i := 849) (by decide +kernel), List.mem_of_getElem? (i := 1239) (by decide +kernel), List.mem_of_getElem? (i := 1240) (by decide +kernel)⟩
theorem lw_p57 : lw_okq (⟨"TwelveShortModel", "unlike", "(II)J"⟩, 31) := ⟨⟨by decide +kernel, by decide +kernel⟩, List.mem_of_getElem? (i := 849) (by decide +kernel), List.mem_of_getElem? (i := 1278) (by decide +kernel), List.mem_of_getElem? (i := 1279) (by decide +kernel)⟩
theorem lw_p58 : lw_okq (⟨"TwelveShortModel", "setAside", "([I[I)V"⟩, 31) := ⟨⟨by decide +kernel, by decide +kernel⟩, List.mem_of_getElem? (i := 849) (by decide +kernel), List.mem_of_getElem? (i := 1318) (by decide +kernel), List.mem_of_getElem? (i := 1319) (by decide +kernel)⟩
def lw_privs_4 : List (MethodName × Nat) := [(⟨"TwelveShortModel", "either", "(I)Z"⟩, 31), (⟨"TwelveShortModel", "both", "(I)Z"⟩, 31), (⟨"TwelveShortModel", "test", "(I)Z"⟩, 31), (⟨"TwelveShortModel", "sum", "(I)Z"⟩, 31), (⟨"TwelveShortModel", "term", "(I)Z"⟩, 31), (⟨"TwelveShortModel", "part0", "(I)Z"⟩, 31), (⟨"TwelveShortModel", "step", "(II)V"⟩, 31), (⟨"TwelveShortModel", "isSign", "(I)Z"⟩, 31), (⟨"TwelveShortModel", "isText", "(I)Z"⟩, 31), (⟨"TwelveShortModel", "unlike", "(II)J"⟩, 31), (⟨"TwelveShortModel", "setAside", "([I[I)V"⟩, 31)]
theorem lw_r4 : ∀ q ∈ lw_privs_4, lw_okq q := List.forall_mem_cons.mpr ⟨lw_p48, List.forall_mem_cons.mpr ⟨lw_p49, List.forall_mem_cons.mpr ⟨lw_p50, List.forall_mem_cons.mpr ⟨lw_p51, List.forall_mem_cons.mpr ⟨lw_p52, List.forall_mem_cons.mpr ⟨lw_p53, List.forall_mem_cons.mpr ⟨lw_p54, List.forall_mem_cons.mpr ⟨lw_p55, List.forall_mem_cons.mpr ⟨lw_p56, List.forall_mem_cons.mpr ⟨lw_p57, List.forall_mem_cons.mpr ⟨lw_p58, fun _ h => absurd h List.not_mem_nil⟩⟩⟩⟩⟩⟩⟩⟩⟩⟩⟩
def lw_privs : List (MethodName × Nat) := lw_privs_1 ++ (lw_privs_2 ++ (lw_privs_3 ++ (lw_privs_4)))
def lw_tbl : List Cond := k2_sels lw_privs ++ tables_1
theorem lw_privs_ok : ∀ q ∈ lw_privs, lw_okq q := by
  show ∀ q ∈ lw_privs_1 ++ (lw_privs_2 ++ (lw_privs_3 ++ (lw_privs_4))), lw_okq q
  exact List.forall_mem_append.mpr ⟨lw_r1, List.forall_mem_append.mpr ⟨lw_r2, List.forall_mem_append.mpr ⟨lw_r3, lw_r4⟩⟩⟩
def RX0 : String := "TwelveShort$Guest"
def TX0 : u_T := fun k => match k with
  | 0 => ("TwelveShort$Guest", "kind", "I", false)
  | 1 => ("TwelveShort$Guest", "odds", "I", false)
  | 2 => ("TwelveShort$Guest", "steps", "I", false)
  | 3 => ("TwelveShort$Guest", "wit", "I", false)
  | _ => ("TwelveShort$Guest", "times", "I", false)
def tyX0 : Nat → FieldType := fun k => match k with
  | 0 => .int
  | 1 => .int
  | 2 => .int
  | 3 => .int
  | _ => .int
abbrev wsX00 : List Cond := u_ws RX0 TX0 5
theorem nmX0 : ∀ a, a < 5 → ∀ b, b < 5 → a ≠ b → (TX0 a).2.1 ≠ (TX0 b).2.1 := by decide +kernel
theorem tyX0_ok : ∀ k, k < 5 → parseFieldDescriptor (TX0 k).2.2.1 = some (tyX0 k) := by decide +kernel
abbrev cX0_init : ByteArray := prog_2_method_1_code
def yX0_init : MethodName := ⟨RX0, "<init>", "()V"⟩
abbrev cX0_copyFrom : ByteArray := prog_2_method_2_code
def yX0_copyFrom : MethodName := ⟨RX0, "copyFrom", "(LTwelveShort$Guest;)V"⟩
abbrev cX0_isOf : ByteArray := prog_2_method_3_code
def yX0_isOf : MethodName := ⟨RX0, "isOf", "(I)Z"⟩
abbrev cX0_comes : ByteArray := prog_2_method_4_code
def yX0_comes : MethodName := ⟨RX0, "comes", "(II)I"⟩
abbrev cX0_walks : ByteArray := prog_2_method_5_code
def yX0_walks : MethodName := ⟨RX0, "walks", "()I"⟩
abbrev cX0_brings : ByteArray := prog_2_method_6_code
def yX0_brings : MethodName := ⟨RX0, "brings", "()I"⟩
abbrev cX0_worth : ByteArray := prog_2_method_7_code
def yX0_worth : MethodName := ⟨RX0, "worth", "()I"⟩
def RX1 : String := "TwelveShort$House"
def TX1 : u_T := fun k => match k with
  | 0 => ("TwelveShort$House", "guests", "[LTwelveShort$Guest;", true)
  | 1 => ("TwelveShort$House", "counting", "[I", true)
  | 2 => ("TwelveShort$House", "people", "I", false)
  | 3 => ("TwelveShort$House", "never", "I", false)
  | 4 => ("TwelveShort$House", "fog", "I", false)
  | 5 => ("TwelveShort$House", "sat", "I", false)
  | 6 => ("TwelveShort$House", "talk", "I", false)
  | 7 => ("TwelveShort$House", "sent", "I", false)
  | 8 => ("TwelveShort$House", "failed", "I", false)
  | 9 => ("TwelveShort$House", "evening", "I", false)
  | 10 => ("TwelveShort$House", "z", "I", false)
  | _ => ("TwelveShort$House", "texts", "I", false)
def tyX1 : Nat → FieldType := fun k => match k with
  | 0 => .array (.object "TwelveShort$Guest")
  | 1 => .array .int
  | 2 => .int
  | 3 => .int
  | 4 => .int
  | 5 => .int
  | 6 => .int
  | 7 => .int
  | 8 => .int
  | 9 => .int
  | 10 => .int
  | _ => .int
abbrev wsX10 : List Cond := u_ws RX1 TX1 12
theorem nmX1 : ∀ a, a < 12 → ∀ b, b < 12 → a ≠ b → (TX1 a).2.1 ≠ (TX1 b).2.1 := by decide +kernel
theorem tyX1_ok : ∀ k, k < 12 → parseFieldDescriptor (TX1 k).2.2.1 = some (tyX1 k) := by decide +kernel
abbrev cX1_init : ByteArray := prog_3_method_1_code
def yX1_init : MethodName := ⟨RX1, "<init>", "()V"⟩
abbrev cX1_copyFrom : ByteArray := prog_3_method_2_code
def yX1_copyFrom : MethodName := ⟨RX1, "copyFrom", "(LTwelveShort$House;)V"⟩
abbrev cX1_welcome : ByteArray := prog_3_method_3_code
def yX1_welcome : MethodName := ⟨RX1, "welcome", "(IIII)I"⟩
abbrev cX1_welcomeDrawn : ByteArray := prog_3_method_4_code
def yX1_welcomeDrawn : MethodName := ⟨RX1, "welcomeDrawn", "()V"⟩
abbrev cX1_draw : ByteArray := prog_3_method_5_code
def yX1_draw : MethodName := ⟨RX1, "draw", "()I"⟩
abbrev cX1_comesBy : ByteArray := prog_3_method_6_code
def yX1_comesBy : MethodName := ⟨RX1, "comesBy", "(LTwelveShort$Guest;LTwelveShort$Law;)I"⟩
abbrev cX1_nearestBut : ByteArray := prog_3_method_7_code
def yX1_nearestBut : MethodName := ⟨RX1, "nearestBut", "(I)I"⟩
abbrev cX1_dine : ByteArray := prog_3_method_8_code
def yX1_dine : MethodName := ⟨RX1, "dine", "(I)I"⟩
abbrev cX1_withOneSentFor : ByteArray := prog_3_method_9_code
def yX1_withOneSentFor : MethodName := ⟨RX1, "withOneSentFor", "(I)I"⟩
abbrev cX1_pass : ByteArray := prog_3_method_10_code
def yX1_pass : MethodName := ⟨RX1, "pass", "(ILTwelveShort$Law;)V"⟩
abbrev cX1_drawComers : ByteArray := prog_3_method_11_code
def yX1_drawComers : MethodName := ⟨RX1, "drawComers", "(LTwelveShort$Law;)I"⟩
abbrev cX1_drawFog : ByteArray := prog_3_method_12_code
def yX1_drawFog : MethodName := ⟨RX1, "drawFog", "()V"⟩
abbrev cX1_total : ByteArray := prog_3_method_13_code
def yX1_total : MethodName := ⟨RX1, "total", "(I)I"⟩
abbrev cX1_oddsOfAll : ByteArray := prog_3_method_14_code
def yX1_oddsOfAll : MethodName := ⟨RX1, "oddsOfAll", "()I"⟩
abbrev cX1_witOfAll : ByteArray := prog_3_method_15_code
def yX1_witOfAll : MethodName := ⟨RX1, "witOfAll", "()I"⟩
abbrev cX1_fewestThatBring : ByteArray := prog_3_method_16_code
def yX1_fewestThatBring : MethodName := ⟨RX1, "fewestThatBring", "(I)I"⟩
abbrev cX1_broughtBy : ByteArray := prog_3_method_17_code
def yX1_broughtBy : MethodName := ⟨RX1, "broughtBy", "(I)I"⟩
def RX2 : String := "TwelveShort$Law"
def TX2 : u_T := fun k => match k with
  | 0 => ("TwelveShort$Law", "steps", "[I", true)
  | 1 => ("TwelveShort$Law", "values", "[I", true)
  | 2 => ("TwelveShort$Law", "size", "I", false)
  | 3 => ("TwelveShort$Law", "key", "I", false)
  | _ => ("TwelveShort$Law", "leaves", "I", false)
def tyX2 : Nat → FieldType := fun k => match k with
  | 0 => .array .int
  | 1 => .array .int
  | 2 => .int
  | 3 => .int
  | _ => .int
abbrev wsX20 : List Cond := u_ws RX2 TX2 5
theorem nmX2 : ∀ a, a < 5 → ∀ b, b < 5 → a ≠ b → (TX2 a).2.1 ≠ (TX2 b).2.1 := by decide +kernel
theorem tyX2_ok : ∀ k, k < 5 → parseFieldDescriptor (TX2 k).2.2.1 = some (tyX2 k) := by decide +kernel
abbrev cX2_init : ByteArray := prog_4_method_1_code
def yX2_init : MethodName := ⟨RX2, "<init>", "()V"⟩
abbrev cX2_begin : ByteArray := prog_4_method_2_code
def yX2_begin : MethodName := ⟨RX2, "begin", "(I)V"⟩
abbrev cX2_addNumber : ByteArray := prog_4_method_3_code
def yX2_addNumber : MethodName := ⟨RX2, "addNumber", "(I)V"⟩
abbrev cX2_addName : ByteArray := prog_4_method_4_code
def yX2_addName : MethodName := ⟨RX2, "addName", "(I)V"⟩
abbrev cX2_addSign : ByteArray := prog_4_method_5_code
def yX2_addSign : MethodName := ⟨RX2, "addSign", "(I)V"⟩
abbrev cX2_addStep : ByteArray := prog_4_method_6_code
def yX2_addStep : MethodName := ⟨RX2, "addStep", "(I)V"⟩
abbrev cX2_gives : ByteArray := prog_4_method_7_code
def yX2_gives : MethodName := ⟨RX2, "gives", "(IIII)I"⟩
abbrev cX2_named : ByteArray := prog_4_method_8_code
def yX2_named : MethodName := ⟨RX2, "named", "(IIIII)I"⟩
abbrev cX2_worked : ByteArray := prog_4_method_9_code
def yX2_worked : MethodName := ⟨RX2, "worked", "(III)I"⟩
def RX3 : String := "TwelveShort$Reader"
def TX3 : u_T := fun k => match k with
  | 0 => ("TwelveShort$Reader", "tape", "LTwelveShort$Tape;", true)
  | 1 => ("TwelveShort$Reader", "fault", "I", false)
  | 2 => ("TwelveShort$Reader", "openBrackets", "I", false)
  | _ => ("TwelveShort$Reader", "openNots", "I", false)
def tyX3 : Nat → FieldType := fun k => match k with
  | 0 => .object "TwelveShort$Tape"
  | 1 => .int
  | 2 => .int
  | _ => .int
abbrev wsX30 : List Cond := u_ws RX3 TX3 4
theorem nmX3 : ∀ a, a < 4 → ∀ b, b < 4 → a ≠ b → (TX3 a).2.1 ≠ (TX3 b).2.1 := by decide +kernel
theorem tyX3_ok : ∀ k, k < 4 → parseFieldDescriptor (TX3 k).2.2.1 = some (tyX3 k) := by decide +kernel
abbrev cX3_init : ByteArray := prog_5_method_1_code
def yX3_init : MethodName := ⟨RX3, "<init>", "()V"⟩
abbrev cX3_findFault : ByteArray := prog_5_method_2_code
def yX3_findFault : MethodName := ⟨RX3, "findFault", "(LTwelveShort$Law;)I"⟩
abbrev cX3_fail : ByteArray := prog_5_method_3_code
def yX3_fail : MethodName := ⟨RX3, "fail", "()V"⟩
abbrev cX3_readKey : ByteArray := prog_5_method_4_code
def yX3_readKey : MethodName := ⟨RX3, "readKey", "(LTwelveShort$Law;)V"⟩
abbrev cX3_wordOf : ByteArray := prog_5_method_5_code
def yX3_wordOf : MethodName := ⟨RX3, "wordOf", "(I)Ljava/lang/String;"⟩
abbrev cX3_namesOf : ByteArray := prog_5_method_6_code
def yX3_namesOf : MethodName := ⟨RX3, "namesOf", "(I)Ljava/lang/String;"⟩
abbrev cX3_readLevel : ByteArray := prog_5_method_7_code
def yX3_readLevel : MethodName := ⟨RX3, "readLevel", "(ILTwelveShort$Law;)V"⟩
abbrev cX3_levelOf : ByteArray := prog_5_method_8_code
def yX3_levelOf : MethodName := ⟨RX3, "levelOf", "(I)I"⟩
abbrev cX3_readPiece : ByteArray := prog_5_method_9_code
def yX3_readPiece : MethodName := ⟨RX3, "readPiece", "(LTwelveShort$Law;)V"⟩
abbrev cX3_readNot : ByteArray := prog_5_method_10_code
def yX3_readNot : MethodName := ⟨RX3, "readNot", "(LTwelveShort$Law;)V"⟩
abbrev cX3_readBracket : ByteArray := prog_5_method_11_code
def yX3_readBracket : MethodName := ⟨RX3, "readBracket", "(LTwelveShort$Law;)V"⟩
def RX4 : String := "TwelveShort$Row"
def TX4 : u_T := fun k => match k with
  | 0 => ("TwelveShort$Row", "places", "[I", true)
  | 1 => ("TwelveShort$Row", "sort", "I", false)
  | _ => ("TwelveShort$Row", "size", "I", false)
def tyX4 : Nat → FieldType := fun k => match k with
  | 0 => .array .int
  | 1 => .int
  | _ => .int
abbrev wsX40 : List Cond := u_ws RX4 TX4 3
theorem nmX4 : ∀ a, a < 3 → ∀ b, b < 3 → a ≠ b → (TX4 a).2.1 ≠ (TX4 b).2.1 := by decide +kernel
theorem tyX4_ok : ∀ k, k < 3 → parseFieldDescriptor (TX4 k).2.2.1 = some (tyX4 k) := by decide +kernel
abbrev cX4_init : ByteArray := prog_6_method_1_code
def yX4_init : MethodName := ⟨RX4, "<init>", "()V"⟩
abbrev cX4_isMissing : ByteArray := prog_6_method_2_code
def yX4_isMissing : MethodName := ⟨RX4, "isMissing", "()Z"⟩
abbrev cX4_become : ByteArray := prog_6_method_3_code
def yX4_become : MethodName := ⟨RX4, "become", "(II)V"⟩
abbrev cX4_copyFrom : ByteArray := prog_6_method_4_code
def yX4_copyFrom : MethodName := ⟨RX4, "copyFrom", "(LTwelveShort$Row;)V"⟩
abbrev cX4_hasPlace : ByteArray := prog_6_method_5_code
def yX4_hasPlace : MethodName := ⟨RX4, "hasPlace", "(I)Z"⟩
abbrev cX4_hasPlaces : ByteArray := prog_6_method_6_code
def yX4_hasPlaces : MethodName := ⟨RX4, "hasPlaces", "(II)Z"⟩
abbrev cX4_hasNumber : ByteArray := prog_6_method_7_code
def yX4_hasNumber : MethodName := ⟨RX4, "hasNumber", "(I)Z"⟩
def RX5 : String := "TwelveShort$Slot"
def TX5 : u_T := fun k => match k with
  | 0 => ("TwelveShort$Slot", "guest", "LTwelveShort$Guest;", true)
  | 1 => ("TwelveShort$Slot", "row", "LTwelveShort$Row;", true)
  | 2 => ("TwelveShort$Slot", "thing", "I", false)
  | _ => ("TwelveShort$Slot", "number", "I", false)
def tyX5 : Nat → FieldType := fun k => match k with
  | 0 => .object "TwelveShort$Guest"
  | 1 => .object "TwelveShort$Row"
  | 2 => .int
  | _ => .int
abbrev wsX50 : List Cond := u_ws RX5 TX5 4
theorem nmX5 : ∀ a, a < 4 → ∀ b, b < 4 → a ≠ b → (TX5 a).2.1 ≠ (TX5 b).2.1 := by decide +kernel
theorem tyX5_ok : ∀ k, k < 4 → parseFieldDescriptor (TX5 k).2.2.1 = some (tyX5 k) := by decide +kernel
abbrev cX5_init : ByteArray := prog_7_method_1_code
def yX5_init : MethodName := ⟨RX5, "<init>", "()V"⟩
def RX6 : String := "TwelveShort$Tape"
def TX6 : u_T := fun k => match k with
  | 0 => ("TwelveShort$Tape", "bytes", "[I", true)
  | 1 => ("TwelveShort$Tape", "size", "I", false)
  | 2 => ("TwelveShort$Tape", "sort", "I", false)
  | 3 => ("TwelveShort$Tape", "start", "I", false)
  | _ => ("TwelveShort$Tape", "stop", "I", false)
def tyX6 : Nat → FieldType := fun k => match k with
  | 0 => .array .int
  | 1 => .int
  | 2 => .int
  | 3 => .int
  | _ => .int
abbrev wsX60 : List Cond := u_ws RX6 TX6 5
theorem nmX6 : ∀ a, a < 5 → ∀ b, b < 5 → a ≠ b → (TX6 a).2.1 ≠ (TX6 b).2.1 := by decide +kernel
theorem tyX6_ok : ∀ k, k < 5 → parseFieldDescriptor (TX6 k).2.2.1 = some (tyX6 k) := by decide +kernel
abbrev cX6_init : ByteArray := prog_8_method_1_code
def yX6_init : MethodName := ⟨RX6, "<init>", "()V"⟩
abbrev cX6_addFour : ByteArray := prog_8_method_2_code
def yX6_addFour : MethodName := ⟨RX6, "addFour", "(I)V"⟩
abbrev cX6_lookAtFirst : ByteArray := prog_8_method_3_code
def yX6_lookAtFirst : MethodName := ⟨RX6, "lookAtFirst", "()V"⟩
abbrev cX6_lookAtNext : ByteArray := prog_8_method_4_code
def yX6_lookAtNext : MethodName := ⟨RX6, "lookAtNext", "()V"⟩
abbrev cX6_sign : ByteArray := prog_8_method_5_code
def yX6_sign : MethodName := ⟨RX6, "sign", "()I"⟩
abbrev cX6_isWord : ByteArray := prog_8_method_6_code
def yX6_isWord : MethodName := ⟨RX6, "isWord", "(Ljava/lang/String;)Z"⟩
abbrev cX6_isNumber : ByteArray := prog_8_method_7_code
def yX6_isNumber : MethodName := ⟨RX6, "isNumber", "()Z"⟩
abbrev cX6_number : ByteArray := prog_8_method_8_code
def yX6_number : MethodName := ⟨RX6, "number", "()I"⟩
abbrev cX6_nameAmong : ByteArray := prog_8_method_9_code
def yX6_nameAmong : MethodName := ⟨RX6, "nameAmong", "(Ljava/lang/String;)I"⟩
abbrev cX6_byteAt : ByteArray := prog_8_method_10_code
def yX6_byteAt : MethodName := ⟨RX6, "byteAt", "(I)I"⟩
abbrev cX6_sortAt : ByteArray := prog_8_method_11_code
def yX6_sortAt : MethodName := ⟨RX6, "sortAt", "(I)I"⟩
def RX7 : String := "TwelveShort"
def TX7 : u_T := fun k => match k with
  | 0 => ("TwelveShort", "now", "LTwelveShort$House;", true)
  | 1 => ("TwelveShort", "thought", "LTwelveShort$House;", true)
  | 2 => ("TwelveShort", "image", "LTwelveShort$House;", true)
  | 3 => ("TwelveShort", "hasImage", "Z", false)
  | 4 => ("TwelveShort", "laws", "[LTwelveShort$Law;", true)
  | 5 => ("TwelveShort", "reader", "LTwelveShort$Reader;", true)
  | 6 => ("TwelveShort", "rows", "[LTwelveShort$Row;", true)
  | 7 => ("TwelveShort", "slots", "[LTwelveShort$Slot;", true)
  | 8 => ("TwelveShort", "waiting", "[I", true)
  | 9 => ("TwelveShort", "waitingMany", "I", false)
  | _ => ("TwelveShort", "differences", "[I", true)
def tyX7 : Nat → FieldType := fun k => match k with
  | 0 => .object "TwelveShort$House"
  | 1 => .object "TwelveShort$House"
  | 2 => .object "TwelveShort$House"
  | 3 => .boolean
  | 4 => .array (.object "TwelveShort$Law")
  | 5 => .object "TwelveShort$Reader"
  | 6 => .array (.object "TwelveShort$Row")
  | 7 => .array (.object "TwelveShort$Slot")
  | 8 => .array .int
  | 9 => .int
  | _ => .array .int
abbrev wsX70 : List Cond := u_ws RX7 TX7 11
theorem nmX7 : ∀ a, a < 11 → ∀ b, b < 11 → a ≠ b → (TX7 a).2.1 ≠ (TX7 b).2.1 := by decide +kernel
theorem tyX7_ok : ∀ k, k < 11 → parseFieldDescriptor (TX7 k).2.2.1 = some (tyX7 k) := by decide +kernel
abbrev cX7_init : ByteArray := prog_1_method_1_code
def yX7_init : MethodName := ⟨RX7, "<init>", "()V"⟩
abbrev cX7_person : ByteArray := prog_1_method_2_code
def yX7_person : MethodName := ⟨RX7, "person", "(IIII)I"⟩
abbrev cX7_told : ByteArray := prog_1_method_3_code
def yX7_told : MethodName := ⟨RX7, "told", "(II)I"⟩
abbrev cX7_as : ByteArray := prog_1_method_4_code
def yX7_as : MethodName := ⟨RX7, "as", "(II)I"⟩
abbrev cX7_turns : ByteArray := prog_1_method_5_code
def yX7_turns : MethodName := ⟨RX7, "turns", "(II)I"⟩
abbrev cX7_set : ByteArray := prog_1_method_6_code
def yX7_set : MethodName := ⟨RX7, "set", "(III)I"⟩
abbrev cX7_rule : ByteArray := prog_1_method_7_code
def yX7_rule : MethodName := ⟨RX7, "rule", "(II)I"⟩
abbrev cX7_deal : ByteArray := prog_1_method_8_code
def yX7_deal : MethodName := ⟨RX7, "deal", "(I)I"⟩
abbrev cX7_seed : ByteArray := prog_1_method_9_code
def yX7_seed : MethodName := ⟨RX7, "seed", "(I)I"⟩
abbrev cX7_fewest : ByteArray := prog_1_method_10_code
def yX7_fewest : MethodName := ⟨RX7, "fewest", "(II)I"⟩
abbrev cX7_sits : ByteArray := prog_1_method_11_code
def yX7_sits : MethodName := ⟨RX7, "sits", "(I)I"⟩
abbrev cX7_evenings : ByteArray := prog_1_method_12_code
def yX7_evenings : MethodName := ⟨RX7, "evenings", "(I)I"⟩
abbrev cX7_house : ByteArray := prog_1_method_13_code
def yX7_house : MethodName := ⟨RX7, "house", "(I)I"⟩
abbrev cX7_behind : ByteArray := prog_1_method_14_code
def yX7_behind : MethodName := ⟨RX7, "behind", "(II)I"⟩
abbrev cX7_meets : ByteArray := prog_1_method_15_code
def yX7_meets : MethodName := ⟨RX7, "meets", "(II)I"⟩
abbrev cX7_door : ByteArray := prog_1_method_16_code
def yX7_door : MethodName := ⟨RX7, "door", "(II)I"⟩
abbrev cX7_never : ByteArray := prog_1_method_17_code
def yX7_never : MethodName := ⟨RX7, "never", "(II)I"⟩
abbrev cX7_becomes : ByteArray := prog_1_method_18_code
def yX7_becomes : MethodName := ⟨RX7, "becomes", "(III)I"⟩
abbrev cX7_like : ByteArray := prog_1_method_19_code
def yX7_like : MethodName := ⟨RX7, "like", "(II)I"⟩
abbrev cX7_fee : ByteArray := prog_1_method_20_code
def yX7_fee : MethodName := ⟨RX7, "fee", "()I"⟩
abbrev cX7_fine : ByteArray := prog_1_method_21_code
def yX7_fine : MethodName := ⟨RX7, "fine", "(I)I"⟩
abbrev cX7_feed : ByteArray := prog_1_method_22_code
def yX7_feed : MethodName := ⟨RX7, "feed", "(III)I"⟩
abbrev cX7_trim : ByteArray := prog_1_method_23_code
def yX7_trim : MethodName := ⟨RX7, "trim", "(I)I"⟩
abbrev cX7_text : ByteArray := prog_1_method_24_code
def yX7_text : MethodName := ⟨RX7, "text", "()I"⟩
abbrev cX7_textTold : ByteArray := prog_1_method_25_code
def yX7_textTold : MethodName := ⟨RX7, "textTold", "(II)I"⟩
abbrev cX7_why : ByteArray := prog_1_method_26_code
def yX7_why : MethodName := ⟨RX7, "why", "(I)I"⟩
abbrev cX7_sheet : ByteArray := prog_1_method_27_code
def yX7_sheet : MethodName := ⟨RX7, "sheet", "(III)I"⟩
abbrev cX7_mark : ByteArray := prog_1_method_28_code
def yX7_mark : MethodName := ⟨RX7, "mark", "(III)I"⟩
abbrev cX7_pour : ByteArray := prog_1_method_29_code
def yX7_pour : MethodName := ⟨RX7, "pour", "(I)I"⟩
abbrev cX7_reads : ByteArray := prog_1_method_30_code
def yX7_reads : MethodName := ⟨RX7, "reads", "(I)I"⟩
abbrev cX7_copy : ByteArray := prog_1_method_31_code
def yX7_copy : MethodName := ⟨RX7, "copy", "(IIIII)I"⟩
abbrev cX7_lay : ByteArray := prog_1_method_32_code
def yX7_lay : MethodName := ⟨RX7, "lay", "(III)I"⟩
abbrev cX7_ask : ByteArray := prog_1_method_33_code
def yX7_ask : MethodName := ⟨RX7, "ask", "(II)I"⟩
abbrev cX7_item : ByteArray := prog_1_method_34_code
def yX7_item : MethodName := ⟨RX7, "item", "(II)I"⟩
abbrev cX7_rest : ByteArray := prog_1_method_35_code
def yX7_rest : MethodName := ⟨RX7, "rest", "(II)I"⟩
abbrev cX7_tell : ByteArray := prog_1_method_36_code
def yX7_tell : MethodName := ⟨RX7, "tell", "(I)I"⟩
abbrev cX7_check : ByteArray := prog_1_method_37_code
def yX7_check : MethodName := ⟨RX7, "check", "(I)I"⟩
abbrev cX7_keep : ByteArray := prog_1_method_38_code
def yX7_keep : MethodName := ⟨RX7, "keep", "()I"⟩
abbrev cX7_back : ByteArray := prog_1_method_39_code
def yX7_back : MethodName := ⟨RX7, "back", "()I"⟩
abbrev cX7_count : ByteArray := prog_1_method_40_code
def yX7_count : MethodName := ⟨RX7, "count", "(I)I"⟩
abbrev cX7_isWithin : ByteArray := prog_1_method_41_code
def yX7_isWithin : MethodName := ⟨RX7, "isWithin", "(III)Z"⟩
abbrev cX7_held : ByteArray := prog_1_method_42_code
def yX7_held : MethodName := ⟨RX7, "held", "(III)I"⟩
abbrev cX7_isKind : ByteArray := prog_1_method_43_code
def yX7_isKind : MethodName := ⟨RX7, "isKind", "(I)Z"⟩
abbrev cX7_isSheet : ByteArray := prog_1_method_44_code
def yX7_isSheet : MethodName := ⟨RX7, "isSheet", "(I)Z"⟩
abbrev cX7_isSlot : ByteArray := prog_1_method_45_code
def yX7_isSlot : MethodName := ⟨RX7, "isSlot", "(I)Z"⟩
abbrev cX7_isPerson : ByteArray := prog_1_method_46_code
def yX7_isPerson : MethodName := ⟨RX7, "isPerson", "(I)Z"⟩
abbrev cX7_mostOf : ByteArray := prog_1_method_47_code
def yX7_mostOf : MethodName := ⟨RX7, "mostOf", "(I)I"⟩
abbrev cX7_lawThatCounts : ByteArray := prog_1_method_48_code
def yX7_lawThatCounts : MethodName := ⟨RX7, "lawThatCounts", "(LTwelveShort$House;I)LTwelveShort$Law;"⟩
abbrev cX7_sumDifferences : ByteArray := prog_1_method_49_code
def yX7_sumDifferences : MethodName := ⟨RX7, "sumDifferences", "(LTwelveShort$Row;)V"⟩
abbrev cX7_firstOtherwise : ByteArray := prog_1_method_50_code
def yX7_firstOtherwise : MethodName := ⟨RX7, "firstOtherwise", "(II)I"⟩
abbrev cX7_isNext : ByteArray := prog_1_method_51_code
def yX7_isNext : MethodName := ⟨RX7, "isNext", "(III)Z"⟩
def RX8 : String := "TwelveShortModel"
def TX8 : u_T := fun k => match k with
  | 0 => ("TwelveShortModel", "s", "[I", true)
  | 1 => ("TwelveShortModel", "image", "[I", true)
  | 2 => ("TwelveShortModel", "aside", "[I", true)
  | 3 => ("TwelveShortModel", "hasImage", "Z", false)
  | 4 => ("TwelveShortModel", "tSort", "[I", true)
  | 5 => ("TwelveShortModel", "tSize", "[I", true)
  | 6 => ("TwelveShortModel", "tNumber", "[I", true)
  | 7 => ("TwelveShortModel", "held", "[I", true)
  | 8 => ("TwelveShortModel", "heldNumber", "[I", true)
  | 9 => ("TwelveShortModel", "heldWorth", "[I", true)
  | 10 => ("TwelveShortModel", "heldSize", "[I", true)
  | 11 => ("TwelveShortModel", "heldRow", "[I", true)
  | 12 => ("TwelveShortModel", "close", "[I", true)
  | 13 => ("TwelveShortModel", "tape", "[I", true)
  | 14 => ("TwelveShortModel", "taped", "I", false)
  | 15 => ("TwelveShortModel", "begin", "I", false)
  | 16 => ("TwelveShortModel", "behind", "I", false)
  | 17 => ("TwelveShortModel", "token", "I", false)
  | 18 => ("TwelveShortModel", "number", "I", false)
  | 19 => ("TwelveShortModel", "letter", "I", false)
  | 20 => ("TwelveShortModel", "deep", "I", false)
  | 21 => ("TwelveShortModel", "turned", "I", false)
  | 22 => ("TwelveShortModel", "laid", "I", false)
  | 23 => ("TwelveShortModel", "laidAt", "I", false)
  | 24 => ("TwelveShortModel", "said", "I", false)
  | 25 => ("TwelveShortModel", "named", "[I", true)
  | 26 => ("TwelveShortModel", "pile", "[I", true)
  | 27 => ("TwelveShortModel", "carried", "[I", true)
  | 28 => ("TwelveShortModel", "waits", "[I", true)
  | 29 => ("TwelveShortModel", "waiting", "I", false)
  | _ => ("TwelveShortModel", "rowDue", "[I", true)
def tyX8 : Nat → FieldType := fun k => match k with
  | 0 => .array .int
  | 1 => .array .int
  | 2 => .array .int
  | 3 => .boolean
  | 4 => .array .int
  | 5 => .array .int
  | 6 => .array .int
  | 7 => .array .int
  | 8 => .array .int
  | 9 => .array .int
  | 10 => .array .int
  | 11 => .array .int
  | 12 => .array .int
  | 13 => .array .int
  | 14 => .int
  | 15 => .int
  | 16 => .int
  | 17 => .int
  | 18 => .int
  | 19 => .int
  | 20 => .int
  | 21 => .int
  | 22 => .int
  | 23 => .int
  | 24 => .int
  | 25 => .array .int
  | 26 => .array .int
  | 27 => .array .int
  | 28 => .array .int
  | 29 => .int
  | _ => .array .int
abbrev wsX80 : List Cond := u_ws RX8 TX8 31
theorem nmX8 : ∀ a, a < 31 → ∀ b, b < 31 → a ≠ b → (TX8 a).2.1 ≠ (TX8 b).2.1 := by decide +kernel
theorem tyX8_ok : ∀ k, k < 31 → parseFieldDescriptor (TX8 k).2.2.1 = some (tyX8 k) := by decide +kernel
abbrev cX8_init : ByteArray := prog_10_method_1_code
def yX8_init : MethodName := ⟨RX8, "<init>", "()V"⟩
abbrev cX8_isIn : ByteArray := prog_10_method_2_code
def yX8_isIn : MethodName := ⟨RX8, "isIn", "(JJJ)Z"⟩
abbrev cX8_orNone : ByteArray := prog_10_method_3_code
def yX8_orNone : MethodName := ⟨RX8, "orNone", "(I)I"⟩
abbrev cX8_within : ByteArray := prog_10_method_4_code
def yX8_within : MethodName := ⟨RX8, "within", "(II)I"⟩
abbrev cX8_off : ByteArray := prog_10_method_5_code
def yX8_off : MethodName := ⟨RX8, "off", "(II)I"⟩
abbrev cX8_least : ByteArray := prog_10_method_6_code
def yX8_least : MethodName := ⟨RX8, "least", "(II)I"⟩
abbrev cX8_changes : ByteArray := prog_10_method_7_code
def yX8_changes : MethodName := ⟨RX8, "changes", "(II)I"⟩
abbrev cX8_textAt : ByteArray := prog_10_method_8_code
def yX8_textAt : MethodName := ⟨RX8, "textAt", "(I)I"⟩
abbrev cX8_of : ByteArray := prog_10_method_9_code
def yX8_of : MethodName := ⟨RX8, "of", "(II)I"⟩
abbrev cX8_sets : ByteArray := prog_10_method_10_code
def yX8_sets : MethodName := ⟨RX8, "sets", "(III)V"⟩
abbrev cX8_isPerson : ByteArray := prog_10_method_11_code
def yX8_isPerson : MethodName := ⟨RX8, "isPerson", "(I)Z"⟩
abbrev cX8_isText : ByteArray := prog_10_method_12_code
def yX8_isText : MethodName := ⟨RX8, "isText", "(I)Z"⟩
abbrev cX8_drawn : ByteArray := prog_10_method_13_code
def yX8_drawn : MethodName := ⟨RX8, "drawn", "()I"⟩
abbrev cX8_isOf : ByteArray := prog_10_method_14_code
def yX8_isOf : MethodName := ⟨RX8, "isOf", "(II)Z"⟩
abbrev cX8_many : ByteArray := prog_10_method_15_code
def yX8_many : MethodName := ⟨RX8, "many", "(I)I"⟩
abbrev cX8_plain : ByteArray := prog_10_method_16_code
def yX8_plain : MethodName := ⟨RX8, "plain", "(I)I"⟩
abbrev cX8_comesBy : ByteArray := prog_10_method_17_code
def yX8_comesBy : MethodName := ⟨RX8, "comesBy", "(I)I"⟩
abbrev cX8_walks : ByteArray := prog_10_method_18_code
def yX8_walks : MethodName := ⟨RX8, "walks", "(I)I"⟩
abbrev cX8_brings : ByteArray := prog_10_method_19_code
def yX8_brings : MethodName := ⟨RX8, "brings", "(I)I"⟩
abbrev cX8_worth : ByteArray := prog_10_method_20_code
def yX8_worth : MethodName := ⟨RX8, "worth", "(I)I"⟩
abbrev cX8_joins : ByteArray := prog_10_method_21_code
def yX8_joins : MethodName := ⟨RX8, "joins", "(IIII)V"⟩
abbrev cX8_person : ByteArray := prog_10_method_22_code
def yX8_person : MethodName := ⟨RX8, "person", "(IIII)I"⟩
abbrev cX8_told : ByteArray := prog_10_method_23_code
def yX8_told : MethodName := ⟨RX8, "told", "(II)I"⟩
abbrev cX8_as : ByteArray := prog_10_method_24_code
def yX8_as : MethodName := ⟨RX8, "as", "(II)I"⟩
abbrev cX8_turns : ByteArray := prog_10_method_25_code
def yX8_turns : MethodName := ⟨RX8, "turns", "(II)I"⟩
abbrev cX8_set : ByteArray := prog_10_method_26_code
def yX8_set : MethodName := ⟨RX8, "set", "(III)I"⟩
abbrev cX8_rule : ByteArray := prog_10_method_27_code
def yX8_rule : MethodName := ⟨RX8, "rule", "(II)I"⟩
abbrev cX8_deal : ByteArray := prog_10_method_28_code
def yX8_deal : MethodName := ⟨RX8, "deal", "(I)I"⟩
abbrev cX8_seed : ByteArray := prog_10_method_29_code
def yX8_seed : MethodName := ⟨RX8, "seed", "(I)I"⟩
abbrev cX8_broughtBy : ByteArray := prog_10_method_30_code
def yX8_broughtBy : MethodName := ⟨RX8, "broughtBy", "(I)I"⟩
abbrev cX8_fewest : ByteArray := prog_10_method_31_code
def yX8_fewest : MethodName := ⟨RX8, "fewest", "(II)I"⟩
abbrev cX8_nearest : ByteArray := prog_10_method_32_code
def yX8_nearest : MethodName := ⟨RX8, "nearest", "(I)I"⟩
abbrev cX8_dines : ByteArray := prog_10_method_33_code
def yX8_dines : MethodName := ⟨RX8, "dines", "(I)I"⟩
abbrev cX8_sits : ByteArray := prog_10_method_34_code
def yX8_sits : MethodName := ⟨RX8, "sits", "(I)I"⟩
abbrev cX8_goesOn : ByteArray := prog_10_method_35_code
def yX8_goesOn : MethodName := ⟨RX8, "goesOn", "()V"⟩
abbrev cX8_goesOnMany : ByteArray := prog_10_method_36_code
def yX8_goesOnMany : MethodName := ⟨RX8, "goesOnMany", "(I)V"⟩
abbrev cX8_evenings : ByteArray := prog_10_method_37_code
def yX8_evenings : MethodName := ⟨RX8, "evenings", "(I)I"⟩
abbrev cX8_sumOf : ByteArray := prog_10_method_38_code
def yX8_sumOf : MethodName := ⟨RX8, "sumOf", "(I)I"⟩
abbrev cX8_houseOf : ByteArray := prog_10_method_39_code
def yX8_houseOf : MethodName := ⟨RX8, "houseOf", "(I)I"⟩
abbrev cX8_house : ByteArray := prog_10_method_40_code
def yX8_house : MethodName := ⟨RX8, "house", "(I)I"⟩
abbrev cX8_laysBy : ByteArray := prog_10_method_41_code
def yX8_laysBy : MethodName := ⟨RX8, "laysBy", "()V"⟩
abbrev cX8_laysBack : ByteArray := prog_10_method_42_code
def yX8_laysBack : MethodName := ⟨RX8, "laysBack", "()V"⟩
abbrev cX8_behind : ByteArray := prog_10_method_43_code
def yX8_behind : MethodName := ⟨RX8, "behind", "(II)I"⟩
abbrev cX8_meets : ByteArray := prog_10_method_44_code
def yX8_meets : MethodName := ⟨RX8, "meets", "(II)I"⟩
abbrev cX8_isAsked : ByteArray := prog_10_method_45_code
def yX8_isAsked : MethodName := ⟨RX8, "isAsked", "(II)Z"⟩
abbrev cX8_mostBy : ByteArray := prog_10_method_46_code
def yX8_mostBy : MethodName := ⟨RX8, "mostBy", "(IIIII)I"⟩
abbrev cX8_door : ByteArray := prog_10_method_47_code
def yX8_door : MethodName := ⟨RX8, "door", "(II)I"⟩
abbrev cX8_never : ByteArray := prog_10_method_48_code
def yX8_never : MethodName := ⟨RX8, "never", "(II)I"⟩
abbrev cX8_becomes : ByteArray := prog_10_method_49_code
def yX8_becomes : MethodName := ⟨RX8, "becomes", "(III)I"⟩
abbrev cX8_fee : ByteArray := prog_10_method_50_code
def yX8_fee : MethodName := ⟨RX8, "fee", "()I"⟩
abbrev cX8_fine : ByteArray := prog_10_method_51_code
def yX8_fine : MethodName := ⟨RX8, "fine", "(I)I"⟩
abbrev cX8_feed : ByteArray := prog_10_method_52_code
def yX8_feed : MethodName := ⟨RX8, "feed", "(III)I"⟩
abbrev cX8_trim : ByteArray := prog_10_method_53_code
def yX8_trim : MethodName := ⟨RX8, "trim", "(I)I"⟩
abbrev cX8_isLetter : ByteArray := prog_10_method_54_code
def yX8_isLetter : MethodName := ⟨RX8, "isLetter", "(I)Z"⟩
abbrev cX8_isDigit : ByteArray := prog_10_method_55_code
def yX8_isDigit : MethodName := ⟨RX8, "isDigit", "(I)Z"⟩
abbrev cX8_nextToken : ByteArray := prog_10_method_56_code
def yX8_nextToken : MethodName := ⟨RX8, "nextToken", "()V"⟩
abbrev cX8_isSign : ByteArray := prog_10_method_57_code
def yX8_isSign : MethodName := ⟨RX8, "isSign", "(I)Z"⟩
abbrev cX8_isWordAt : ByteArray := prog_10_method_58_code
def yX8_isWordAt : MethodName := ⟨RX8, "isWordAt", "(IIII)Z"⟩
abbrev cX8_key : ByteArray := prog_10_method_59_code
def yX8_key : MethodName := ⟨RX8, "key", "()I"⟩
abbrev cX8_isName : ByteArray := prog_10_method_60_code
def yX8_isName : MethodName := ⟨RX8, "isName", "(II)Z"⟩
abbrev cX8_step : ByteArray := prog_10_method_61_code
def yX8_step : MethodName := ⟨RX8, "step", "(II)V"⟩
abbrev cX8_either : ByteArray := prog_10_method_62_code
def yX8_either : MethodName := ⟨RX8, "either", "(I)Z"⟩
abbrev cX8_both : ByteArray := prog_10_method_63_code
def yX8_both : MethodName := ⟨RX8, "both", "(I)Z"⟩
abbrev cX8_test : ByteArray := prog_10_method_64_code
def yX8_test : MethodName := ⟨RX8, "test", "(I)Z"⟩
abbrev cX8_sum : ByteArray := prog_10_method_65_code
def yX8_sum : MethodName := ⟨RX8, "sum", "(I)Z"⟩
abbrev cX8_term : ByteArray := prog_10_method_66_code
def yX8_term : MethodName := ⟨RX8, "term", "(I)Z"⟩
abbrev cX8_part0 : ByteArray := prog_10_method_67_code
def yX8_part0 : MethodName := ⟨RX8, "part0", "(I)Z"⟩
abbrev cX8_parse : ByteArray := prog_10_method_68_code
def yX8_parse : MethodName := ⟨RX8, "parse", "()I"⟩
abbrev cX8_text : ByteArray := prog_10_method_69_code
def yX8_text : MethodName := ⟨RX8, "text", "()I"⟩
abbrev cX8_textTold : ByteArray := prog_10_method_70_code
def yX8_textTold : MethodName := ⟨RX8, "textTold", "(II)I"⟩
abbrev cX8_counts : ByteArray := prog_10_method_71_code
def yX8_counts : MethodName := ⟨RX8, "counts", "(I)I"⟩
abbrev cX8_why : ByteArray := prog_10_method_72_code
def yX8_why : MethodName := ⟨RX8, "why", "(I)I"⟩
abbrev cX8_joined : ByteArray := prog_10_method_73_code
def yX8_joined : MethodName := ⟨RX8, "joined", "(III)I"⟩
abbrev cX8_worked : ByteArray := prog_10_method_74_code
def yX8_worked : MethodName := ⟨RX8, "worked", "(I)I"⟩
abbrev cX8_isSheet : ByteArray := prog_10_method_75_code
def yX8_isSheet : MethodName := ⟨RX8, "isSheet", "(I)Z"⟩
abbrev cX8_sheet : ByteArray := prog_10_method_76_code
def yX8_sheet : MethodName := ⟨RX8, "sheet", "(III)I"⟩
abbrev cX8_mark : ByteArray := prog_10_method_77_code
def yX8_mark : MethodName := ⟨RX8, "mark", "(III)I"⟩
abbrev cX8_pour : ByteArray := prog_10_method_78_code
def yX8_pour : MethodName := ⟨RX8, "pour", "(I)I"⟩
abbrev cX8_reads : ByteArray := prog_10_method_79_code
def yX8_reads : MethodName := ⟨RX8, "reads", "(I)I"⟩
abbrev cX8_unlike : ByteArray := prog_10_method_80_code
def yX8_unlike : MethodName := ⟨RX8, "unlike", "(II)J"⟩
abbrev cX8_like : ByteArray := prog_10_method_81_code
def yX8_like : MethodName := ⟨RX8, "like", "(II)I"⟩
abbrev cX8_copy : ByteArray := prog_10_method_82_code
def yX8_copy : MethodName := ⟨RX8, "copy", "(IIIII)I"⟩
abbrev cX8_isSlot : ByteArray := prog_10_method_83_code
def yX8_isSlot : MethodName := ⟨RX8, "isSlot", "(I)Z"⟩
abbrev cX8_lay : ByteArray := prog_10_method_84_code
def yX8_lay : MethodName := ⟨RX8, "lay", "(III)I"⟩
abbrev cX8_ask : ByteArray := prog_10_method_85_code
def yX8_ask : MethodName := ⟨RX8, "ask", "(II)I"⟩
abbrev cX8_item : ByteArray := prog_10_method_86_code
def yX8_item : MethodName := ⟨RX8, "item", "(II)I"⟩
abbrev cX8_rest : ByteArray := prog_10_method_87_code
def yX8_rest : MethodName := ⟨RX8, "rest", "(II)I"⟩
abbrev cX8_tell : ByteArray := prog_10_method_88_code
def yX8_tell : MethodName := ⟨RX8, "tell", "(I)I"⟩
abbrev cX8_setAside : ByteArray := prog_10_method_89_code
def yX8_setAside : MethodName := ⟨RX8, "setAside", "([I[I)V"⟩
abbrev cX8_check : ByteArray := prog_10_method_90_code
def yX8_check : MethodName := ⟨RX8, "check", "(I)I"⟩
abbrev cX8_keep : ByteArray := prog_10_method_91_code
def yX8_keep : MethodName := ⟨RX8, "keep", "()I"⟩
abbrev cX8_back : ByteArray := prog_10_method_92_code
def yX8_back : MethodName := ⟨RX8, "back", "()I"⟩
abbrev cX8_count : ByteArray := prog_10_method_93_code
def yX8_count : MethodName := ⟨RX8, "count", "(I)I"⟩
def RJ11 : String := "java/lang/Character"
def TJ11 : u_T := fun k => match k with
  | _ => ("", "", "", false)
def tyJ11 : Nat → FieldType := fun k => match k with
  | _ => .int
abbrev wsJ110 : List Cond := u_ws RJ11 TJ11 0
theorem nmJ11 : ∀ a, a < 0 → ∀ b, b < 0 → a ≠ b → (TJ11 a).2.1 ≠ (TJ11 b).2.1 := by decide +kernel
theorem tyJ11_ok : ∀ k, k < 0 → parseFieldDescriptor (TJ11 k).2.2.1 = some (tyJ11 k) := by decide +kernel
abbrev cJ11_isValidCodePoint_9a6ad : ByteArray := prog_11_method_11_code
def yJ11_isValidCodePoint_9a6ad : MethodName := ⟨RJ11, "isValidCodePoint", "(I)Z"⟩
abbrev cJ11_highSurrogate_5068e : ByteArray := prog_11_method_28_code
def yJ11_highSurrogate_5068e : MethodName := ⟨RJ11, "highSurrogate", "(I)C"⟩
abbrev cJ11_lowSurrogate_5068e : ByteArray := prog_11_method_29_code
def yJ11_lowSurrogate_5068e : MethodName := ⟨RJ11, "lowSurrogate", "(I)C"⟩
def RJ6 : String := "java/lang/Integer"
def TJ6 : u_T := fun k => match k with
  | _ => ("", "", "", false)
def tyJ6 : Nat → FieldType := fun k => match k with
  | _ => .int
abbrev wsJ60 : List Cond := u_ws RJ6 TJ6 0
theorem nmJ6 : ∀ a, a < 0 → ∀ b, b < 0 → a ≠ b → (TJ6 a).2.1 ≠ (TJ6 b).2.1 := by decide +kernel
theorem tyJ6_ok : ∀ k, k < 0 → parseFieldDescriptor (TJ6 k).2.2.1 = some (tyJ6 k) := by decide +kernel
abbrev cJ6_bitCount_0f7a4 : ByteArray := prog_12_method_49_code
def yJ6_bitCount_0f7a4 : MethodName := ⟨RJ6, "bitCount", "(I)I"⟩
def RJ9 : String := "java/lang/Math"
def TJ9 : u_T := fun k => match k with
  | _ => ("", "", "", false)
def tyJ9 : Nat → FieldType := fun k => match k with
  | _ => .int
abbrev wsJ90 : List Cond := u_ws RJ9 TJ9 0
theorem nmJ9 : ∀ a, a < 0 → ∀ b, b < 0 → a ≠ b → (TJ9 a).2.1 ≠ (TJ9 b).2.1 := by decide +kernel
theorem tyJ9_ok : ∀ k, k < 0 → parseFieldDescriptor (TJ9 k).2.2.1 = some (tyJ9 k) := by decide +kernel
abbrev cJ9_abs_0f7a4 : ByteArray := prog_13_method_59_code
def yJ9_abs_0f7a4 : MethodName := ⟨RJ9, "abs", "(I)I"⟩
abbrev cJ9_max_7cf53 : ByteArray := prog_13_method_65_code
def yJ9_max_7cf53 : MethodName := ⟨RJ9, "max", "(II)I"⟩
abbrev cJ9_min_7cf53 : ByteArray := prog_13_method_69_code
def yJ9_min_7cf53 : MethodName := ⟨RJ9, "min", "(II)I"⟩
def RJ0 : String := "java/lang/String"
def TJ0 : u_T := fun k => match k with
  | _ => ("", "", "", false)
def tyJ0 : Nat → FieldType := fun k => match k with
  | _ => .int
abbrev wsJ00 : List Cond := u_ws RJ0 TJ0 0
theorem nmJ0 : ∀ a, a < 0 → ∀ b, b < 0 → a ≠ b → (TJ0 a).2.1 ≠ (TJ0 b).2.1 := by decide +kernel
theorem tyJ0_ok : ∀ k, k < 0 → parseFieldDescriptor (TJ0 k).2.2.1 = some (tyJ0 k) := by decide +kernel
abbrev cJ0_length_8abf5 : ByteArray := prog_14_method_54_code
def yJ0_length_8abf5 : MethodName := ⟨RJ0, "length", "()I"⟩
abbrev cJ0_charAt_5068e : ByteArray := prog_14_method_56_code
def yJ0_charAt_5068e : MethodName := ⟨RJ0, "charAt", "(I)C"⟩
abbrev cJ0_indexOf_0f7a4 : ByteArray := prog_14_method_79_code
def yJ0_indexOf_0f7a4 : MethodName := ⟨RJ0, "indexOf", "(I)I"⟩
abbrev cJ0_indexOf_7cf53 : ByteArray := prog_14_method_80_code
def yJ0_indexOf_7cf53 : MethodName := ⟨RJ0, "indexOf", "(II)I"⟩
abbrev cJ0_coder_7d493 : ByteArray := prog_14_method_152_code
def yJ0_coder_7d493 : MethodName := ⟨RJ0, "coder", "()B"⟩
abbrev cJ0_isLatin1_aae02 : ByteArray := prog_14_method_154_code
def yJ0_isLatin1_aae02 : MethodName := ⟨RJ0, "isLatin1", "()Z"⟩
abbrev cJ0_checkIndex_df160 : ByteArray := prog_14_method_155_code
def yJ0_checkIndex_df160 : MethodName := ⟨RJ0, "checkIndex", "(II)V"⟩
abbrev cJ0_checkBoundsBeginEnd_23922 : ByteArray := prog_14_method_158_code
def yJ0_checkBoundsBeginEnd_23922 : MethodName := ⟨RJ0, "checkBoundsBeginEnd", "(III)V"⟩
def RJ1 : String := "java/lang/StringLatin1"
def TJ1 : u_T := fun k => match k with
  | _ => ("", "", "", false)
def tyJ1 : Nat → FieldType := fun k => match k with
  | _ => .int
abbrev wsJ10 : List Cond := u_ws RJ1 TJ1 0
theorem nmJ1 : ∀ a, a < 0 → ∀ b, b < 0 → a ≠ b → (TJ1 a).2.1 ≠ (TJ1 b).2.1 := by decide +kernel
theorem tyJ1_ok : ∀ k, k < 0 → parseFieldDescriptor (TJ1 k).2.2.1 = some (tyJ1 k) := by decide +kernel
abbrev cJ1_charAt_3b067 : ByteArray := prog_15_method_2_code
def yJ1_charAt_3b067 : MethodName := ⟨RJ1, "charAt", "([BI)C"⟩
abbrev cJ1_canEncode_9a6ad : ByteArray := prog_15_method_4_code
def yJ1_canEncode_9a6ad : MethodName := ⟨RJ1, "canEncode", "(I)Z"⟩
abbrev cJ1_indexOf_4cfef : ByteArray := prog_15_method_22_code
def yJ1_indexOf_4cfef : MethodName := ⟨RJ1, "indexOf", "([BIII)I"⟩
abbrev cJ1_indexOfChar_4cfef : ByteArray := prog_15_method_23_code
def yJ1_indexOfChar_4cfef : MethodName := ⟨RJ1, "indexOfChar", "([BIII)I"⟩
def RJ2 : String := "java/lang/StringUTF16"
def TJ2 : u_T := fun k => match k with
  | _ => ("", "", "", false)
def tyJ2 : Nat → FieldType := fun k => match k with
  | _ => .int
abbrev wsJ20 : List Cond := u_ws RJ2 TJ2 0
theorem nmJ2 : ∀ a, a < 0 → ∀ b, b < 0 → a ≠ b → (TJ2 a).2.1 ≠ (TJ2 b).2.1 := by decide +kernel
theorem tyJ2_ok : ∀ k, k < 0 → parseFieldDescriptor (TJ2 k).2.2.1 = some (tyJ2 k) := by decide +kernel
abbrev cJ2_getChar_3b067 : ByteArray := prog_16_method_5_code
def yJ2_getChar_3b067 : MethodName := ⟨RJ2, "getChar", "([BI)C"⟩
abbrev cJ2_length_9d52b : ByteArray := prog_16_method_6_code
def yJ2_length_9d52b : MethodName := ⟨RJ2, "length", "([B)I"⟩
abbrev cJ2_indexOf_4cfef : ByteArray := prog_16_method_40_code
def yJ2_indexOf_4cfef : MethodName := ⟨RJ2, "indexOf", "([BIII)I"⟩
abbrev cJ2_indexOfChar_4cfef : ByteArray := prog_16_method_47_code
def yJ2_indexOfChar_4cfef : MethodName := ⟨RJ2, "indexOfChar", "([BIII)I"⟩
abbrev cJ2_indexOfCharUnsafe_4cfef : ByteArray := prog_16_method_48_code
def yJ2_indexOfCharUnsafe_4cfef : MethodName := ⟨RJ2, "indexOfCharUnsafe", "([BIII)I"⟩
abbrev cJ2_indexOfSupplementary_4cfef : ByteArray := prog_16_method_49_code
def yJ2_indexOfSupplementary_4cfef : MethodName := ⟨RJ2, "indexOfSupplementary", "([BIII)I"⟩
abbrev cJ2_charAt_3b067 : ByteArray := prog_16_method_83_code
def yJ2_charAt_3b067 : MethodName := ⟨RJ2, "charAt", "([BI)C"⟩
abbrev cJ2_checkIndex_2214a : ByteArray := prog_16_method_91_code
def yJ2_checkIndex_2214a : MethodName := ⟨RJ2, "checkIndex", "(I[B)V"⟩
abbrev cJ2_checkBoundsBeginEnd_d044e : ByteArray := prog_16_method_93_code
def yJ2_checkBoundsBeginEnd_d044e : MethodName := ⟨RJ2, "checkBoundsBeginEnd", "(II[B)V"⟩
def RJ10 : String := "java/lang/System"
def TJ10 : u_T := fun k => match k with
  | _ => ("", "", "", false)
def tyJ10 : Nat → FieldType := fun k => match k with
  | _ => .int
abbrev wsJ100 : List Cond := u_ws RJ10 TJ10 0
theorem nmJ10 : ∀ a, a < 0 → ∀ b, b < 0 → a ≠ b → (TJ10 a).2.1 ≠ (TJ10 b).2.1 := by decide +kernel
theorem tyJ10_ok : ∀ k, k < 0 → parseFieldDescriptor (TJ10 k).2.2.1 = some (tyJ10 k) := by decide +kernel
def RJ3 : String := "jdk/internal/util/Preconditions"
def TJ3 : u_T := fun k => match k with
  | _ => ("", "", "", false)
def tyJ3 : Nat → FieldType := fun k => match k with
  | _ => .int
abbrev wsJ30 : List Cond := u_ws RJ3 TJ3 0
theorem nmJ3 : ∀ a, a < 0 → ∀ b, b < 0 → a ≠ b → (TJ3 a).2.1 ≠ (TJ3 b).2.1 := by decide +kernel
theorem tyJ3_ok : ∀ k, k < 0 → parseFieldDescriptor (TJ3 k).2.2.1 = some (tyJ3 k) := by decide +kernel
abbrev cJ3_checkIndex_8e157 : ByteArray := prog_18_method_11_code
def yJ3_checkIndex_8e157 : MethodName := ⟨RJ3, "checkIndex", "(IILjava/util/function/BiFunction;)I"⟩
abbrev cJ3_checkFromToIndex_8c36e : ByteArray := prog_18_method_12_code
def yJ3_checkFromToIndex_8c36e : MethodName := ⟨RJ3, "checkFromToIndex", "(IIILjava/util/function/BiFunction;)I"⟩
def RL : String := "TwelveShortLaw"
abbrev cL_law : ByteArray := code
def yL_law : MethodName := ⟨RL, "law", "([I)Z"⟩
/-! THE CLAIM OUT OF ONE WALK OF THE LAW'S BODY. Your part is whole_start (and what it stands on); all else here is the same for every law, but numbers. -/
def R_law : String := "TwelveShortLaw"
def lw_P (b : Addr) (xs : List Int32) (args : Array Value) (s : State) : Prop := args = #[.ref b] ∧ s.IntsAt b xs ∧ xs.length ≤ 3072 ∧ (Jvm.Cond.and given_1 narrow_1).before args s = true
def lw_Q (_ : Array Value) (s : State) (o : Outcome) (t : State) : Prop := o = .returned (some (.int 1)) ∧ Framed s o t [] 600000 7302249
def lw_Z (below : List Frame) (a : Array Value) (s : State) : State → Prop := fun t => ∃ o, t.status = .running ∧ Ended t below o ∧ lw_Q a s o t
/-- the law's own end, with 1 on the stack, nothing written that was there before, its room as the claim has it -/
theorem lw_ret {p : Program} {l : Launch} {e : Env} {s : State} {m : MethodId} {below : List Frame} {meth : Method} {c : Code} {b : Nat} (hx : p.tables.exec = Jvm.exec) (hb : c.code = code) (hr : meth.sig.returnType = ret) (hlocks : meth.locks = false) {pc : Nat} {H : Heap} {ls : Array Slot} (hdg : decode code pc = .ok (.ireturn, 1)) : W p l e room_1 s m #[Value.ref b] below meth c H [] 600000 7302249 (lw_Z below #[Value.ref b] s) (F0 m pc ls [.int 1]) := by
  intro T hT X
  obtain ⟨fs, hret, hrun, hended, hW, hframe⟩ := X.leave (v := some (.int 1)) (hlocks := hlocks) (fun h => by rw [hr] at h; cases h)
  have hmeth' : T.vm.method? m = some meth := X.method'
  refine ⟨T.setFrames fs, ?_, .returned (some (.int 1)), hrun, hended, rfl, ⟨_, rfl⟩, hW, hframe⟩
  jvm_step X.here [X.here.top, hx, hb, hdg, hmeth', hr, ret, narrow_b1]
  (try refine ⟨rfl, ?_⟩); (try refine ⟨rfl, ?_⟩)
  first | (intro acts; rw [hret _ acts rfl rfl rfl]) | rw [hret _ _ rfl rfl rfl]
  exact Steps.refl _
/-- what holds at the law's entry: the machine, the code, the tables' words (any of lw_tbl by 'hts w (by decide +kernel)'), the script of L ints xs at the cell b, what the Statement gives of the start (any of its parts by flat_of_before) -/
def lw_At (p : Program) (s : State) (m : MethodId) (meth : Method) (c : Code) (b L : Nat) (xs : Nat → Int32) : Prop :=
  p.tables.exec = Jvm.exec ∧ c.code = code ∧ meth.sig.returnType = ret ∧ c.maxLocals = 4 ∧ s.vm.findClass R_law = some m.cls ∧ (∀ w ∈ lw_tbl, w.before #[Value.ref b] s = true) ∧ va_X b L xs s s.heap ∧ b < s.heap.size ∧ meth.locks = false ∧ (Jvm.Cond.and given_1 narrow_1).before #[Value.ref b] s = true
end
section
/-! the tables of the abstract machine: methods by number, decoded instructions, links. Written by wip/gen/gen1.py -/
def aBytesL : List ByteArray := [cJ6_bitCount_0f7a4, cJ0_length_8abf5, cJ0_charAt_5068e, cJ0_indexOf_0f7a4, cJ0_indexOf_7cf53, cJ0_coder_7d493, cJ0_isLatin1_aae02, cJ0_checkIndex_df160, cJ1_charAt_3b067, cJ1_canEncode_9a6ad, cJ1_indexOf_4cfef, cJ1_indexOfChar_4cfef, cJ3_checkIndex_8e157, cX0_copyFrom, cX0_isOf, cX0_comes, cX0_walks, cX0_brings, cX0_worth, cX1_copyFrom, cX1_welcome, cX1_welcomeDrawn, cX1_draw, cX1_comesBy, cX1_nearestBut, cX1_dine, cX1_withOneSentFor, cX1_pass, cX1_drawComers, cX1_drawFog, cX1_total, cX1_oddsOfAll, cX1_witOfAll, cX1_fewestThatBring, cX1_broughtBy, cX2_begin, cX2_addNumber, cX2_addName, cX2_addSign, cX2_addStep, cX2_gives, cX2_named, cX2_worked, cX3_findFault, cX3_fail, cX3_readKey, cX3_wordOf, cX3_namesOf, cX3_readLevel, cX3_levelOf, cX3_readPiece, cX3_readNot, cX3_readBracket, cX4_isMissing, cX4_become, cX4_copyFrom, cX4_hasPlace, cX4_hasPlaces, cX4_hasNumber, cX6_addFour, cX6_lookAtFirst, cX6_lookAtNext, cX6_sign, cX6_isWord, cX6_isNumber, cX6_number, cX6_nameAmong, cX6_byteAt, cX6_sortAt, cX7_person, cX7_told, cX7_as, cX7_turns, cX7_set, cX7_rule, cX7_deal, cX7_seed, cX7_fewest, cX7_sits, cX7_evenings, cX7_house, cX7_behind, cX7_meets, cX7_door, cX7_never, cX7_becomes, cX7_like, cX7_fee, cX7_fine, cX7_feed, cX7_trim, cX7_text, cX7_textTold, cX7_why, cX7_sheet, cX7_mark, cX7_pour, cX7_reads, cX7_copy, cX7_lay, cX7_ask, cX7_item, cX7_rest, cX7_tell, cX7_check, cX7_keep, cX7_back, cX7_count, cX7_isWithin, cX7_held, cX7_isKind, cX7_isSheet, cX7_isSlot, cX7_isPerson, cX7_mostOf, cX7_lawThatCounts, cX7_sumDifferences, cX7_firstOtherwise, cX7_isNext, cX8_isIn, cX8_orNone, cX8_within, cX8_off, cX8_least, cX8_changes, cX8_textAt, cX8_of, cX8_sets, cX8_isPerson, cX8_isText, cX8_drawn, cX8_isOf, cX8_many, cX8_plain, cX8_comesBy, cX8_walks, cX8_brings, cX8_worth, cX8_joins, cX8_person, cX8_told, cX8_as, cX8_turns, cX8_set, cX8_rule, cX8_deal, cX8_seed, cX8_broughtBy, cX8_fewest, cX8_nearest, cX8_dines, cX8_sits, cX8_goesOn, cX8_goesOnMany, cX8_evenings, cX8_sumOf, cX8_houseOf, cX8_house, cX8_laysBy, cX8_laysBack, cX8_behind, cX8_meets, cX8_isAsked, cX8_mostBy, cX8_door, cX8_never, cX8_becomes, cX8_fee, cX8_fine, cX8_feed, cX8_trim, cX8_isLetter, cX8_isDigit, cX8_nextToken, cX8_isSign, cX8_isWordAt, cX8_key, cX8_isName, cX8_step, cX8_either, cX8_both, cX8_test, cX8_sum, cX8_term, cX8_part0, cX8_parse, cX8_text, cX8_textTold, cX8_counts, cX8_why, cX8_joined, cX8_worked, cX8_isSheet, cX8_sheet, cX8_mark, cX8_pour, cX8_reads, cX8_unlike, cX8_like, cX8_copy, cX8_isSlot, cX8_lay, cX8_ask, cX8_item, cX8_rest, cX8_tell, cX8_setAside, cX8_check, cX8_keep, cX8_back, cX8_count, cL_law]
def aNameL : List MethodName := [yJ6_bitCount_0f7a4, yJ0_length_8abf5, yJ0_charAt_5068e, yJ0_indexOf_0f7a4, yJ0_indexOf_7cf53, yJ0_coder_7d493, yJ0_isLatin1_aae02, yJ0_checkIndex_df160, yJ1_charAt_3b067, yJ1_canEncode_9a6ad, yJ1_indexOf_4cfef, yJ1_indexOfChar_4cfef, yJ3_checkIndex_8e157, yX0_copyFrom, yX0_isOf, yX0_comes, yX0_walks, yX0_brings, yX0_worth, yX1_copyFrom, yX1_welcome, yX1_welcomeDrawn, yX1_draw, yX1_comesBy, yX1_nearestBut, yX1_dine, yX1_withOneSentFor, yX1_pass, yX1_drawComers, yX1_drawFog, yX1_total, yX1_oddsOfAll, yX1_witOfAll, yX1_fewestThatBring, yX1_broughtBy, yX2_begin, yX2_addNumber, yX2_addName, yX2_addSign, yX2_addStep, yX2_gives, yX2_named, yX2_worked, yX3_findFault, yX3_fail, yX3_readKey, yX3_wordOf, yX3_namesOf, yX3_readLevel, yX3_levelOf, yX3_readPiece, yX3_readNot, yX3_readBracket, yX4_isMissing, yX4_become, yX4_copyFrom, yX4_hasPlace, yX4_hasPlaces, yX4_hasNumber, yX6_addFour, yX6_lookAtFirst, yX6_lookAtNext, yX6_sign, yX6_isWord, yX6_isNumber, yX6_number, yX6_nameAmong, yX6_byteAt, yX6_sortAt, yX7_person, yX7_told, yX7_as, yX7_turns, yX7_set, yX7_rule, yX7_deal, yX7_seed, yX7_fewest, yX7_sits, yX7_evenings, yX7_house, yX7_behind, yX7_meets, yX7_door, yX7_never, yX7_becomes, yX7_like, yX7_fee, yX7_fine, yX7_feed, yX7_trim, yX7_text, yX7_textTold, yX7_why, yX7_sheet, yX7_mark, yX7_pour, yX7_reads, yX7_copy, yX7_lay, yX7_ask, yX7_item, yX7_rest, yX7_tell, yX7_check, yX7_keep, yX7_back, yX7_count, yX7_isWithin, yX7_held, yX7_isKind, yX7_isSheet, yX7_isSlot, yX7_isPerson, yX7_mostOf, yX7_lawThatCounts, yX7_sumDifferences, yX7_firstOtherwise, yX7_isNext, yX8_isIn, yX8_orNone, yX8_within, yX8_off, yX8_least, yX8_changes, yX8_textAt, yX8_of, yX8_sets, yX8_isPerson, yX8_isText, yX8_drawn, yX8_isOf, yX8_many, yX8_plain, yX8_comesBy, yX8_walks, yX8_brings, yX8_worth, yX8_joins, yX8_person, yX8_told, yX8_as, yX8_turns, yX8_set, yX8_rule, yX8_deal, yX8_seed, yX8_broughtBy, yX8_fewest, yX8_nearest, yX8_dines, yX8_sits, yX8_goesOn, yX8_goesOnMany, yX8_evenings, yX8_sumOf, yX8_houseOf, yX8_house, yX8_laysBy, yX8_laysBack, yX8_behind, yX8_meets, yX8_isAsked, yX8_mostBy, yX8_door, yX8_never, yX8_becomes, yX8_fee, yX8_fine, yX8_feed, yX8_trim, yX8_isLetter, yX8_isDigit, yX8_nextToken, yX8_isSign, yX8_isWordAt, yX8_key, yX8_isName, yX8_step, yX8_either, yX8_both, yX8_test, yX8_sum, yX8_term, yX8_part0, yX8_parse, yX8_text, yX8_textTold, yX8_counts, yX8_why, yX8_joined, yX8_worked, yX8_isSheet, yX8_sheet, yX8_mark, yX8_pour, yX8_reads, yX8_unlike, yX8_like, yX8_copy, yX8_isSlot, yX8_lay, yX8_ask, yX8_item, yX8_rest, yX8_tell, yX8_setAside, yX8_check, yX8_keep, yX8_back, yX8_count, yL_law]
def aMLL : List Nat := [1, 1, 2, 2, 3, 1, 1, 2, 2, 1, 4, 6, 3, 2, 4, 5, 3, 4, 3, 3, 6, 5, 1, 5, 6, 5, 3, 4, 4, 2, 2, 3, 3, 6, 4, 2, 2, 2, 2, 2, 8, 5, 3, 2, 1, 3, 1, 1, 6, 1, 3, 2, 2, 1, 4, 3, 2, 3, 2, 3, 1, 3, 1, 3, 1, 3, 2, 2, 3, 5, 4, 4, 4, 6, 4, 4, 3, 4, 2, 3, 3, 3, 6, 7, 7, 8, 5, 2, 4, 5, 2, 4, 3, 2, 4, 5, 6, 4, 8, 6, 4, 4, 4, 2, 3, 1, 1, 2, 3, 3, 1, 1, 1, 2, 1, 4, 5, 7, 4, 6, 1, 2, 2, 2, 4, 2, 3, 4, 2, 2, 1, 2, 3, 3, 4, 3, 3, 3, 6, 5, 3, 3, 3, 5, 3, 6, 2, 4, 5, 4, 6, 2, 5, 3, 3, 4, 2, 2, 2, 2, 4, 6, 2, 10, 3, 3, 4, 2, 3, 6, 2, 2, 2, 3, 2, 6, 1, 2, 3, 2, 2, 3, 3, 3, 2, 3, 3, 3, 4, 2, 3, 6, 1, 5, 4, 6, 4, 7, 10, 7, 1, 7, 3, 4, 3, 2, 4, 5, 1, 1, 2, 4]
def aRetL : List (Option FieldType) := [(some FieldType.int), (some FieldType.int), (some FieldType.char), (some FieldType.int), (some FieldType.int), (some FieldType.byte), (some FieldType.boolean), none, (some FieldType.char), (some FieldType.boolean), (some FieldType.int), (some FieldType.int), (some FieldType.int), none, (some FieldType.boolean), (some FieldType.int), (some FieldType.int), (some FieldType.int), (some FieldType.int), none, (some FieldType.int), none, (some FieldType.int), (some FieldType.int), (some FieldType.int), (some FieldType.int), (some FieldType.int), none, (some FieldType.int), none, (some FieldType.int), (some FieldType.int), (some FieldType.int), (some FieldType.int), (some FieldType.int), none, none, none, none, none, (some FieldType.int), (some FieldType.int), (some FieldType.int), (some FieldType.int), none, none, (some (FieldType.object "java/lang/String")), (some (FieldType.object "java/lang/String")), none, (some FieldType.int), none, none, none, (some FieldType.boolean), none, none, (some FieldType.boolean), (some FieldType.boolean), (some FieldType.boolean), none, none, none, (some FieldType.int), (some FieldType.boolean), (some FieldType.boolean), (some FieldType.int), (some FieldType.int), (some FieldType.int), (some FieldType.int), (some FieldType.int), (some FieldType.int), (some FieldType.int), (some FieldType.int), (some FieldType.int), (some FieldType.int), (some FieldType.int), (some FieldType.int), (some FieldType.int), (some FieldType.int), (some FieldType.int), (some FieldType.int), (some FieldType.int), (some FieldType.int), (some FieldType.int), (some FieldType.int), (some FieldType.int), (some FieldType.int), (some FieldType.int), (some FieldType.int), (some FieldType.int), (some FieldType.int), (some FieldType.int), (some FieldType.int), (some FieldType.int), (some FieldType.int), (some FieldType.int), (some FieldType.int), (some FieldType.int), (some FieldType.int), (some FieldType.int), (some FieldType.int), (some FieldType.int), (some FieldType.int), (some FieldType.int), (some FieldType.int), (some FieldType.int), (some FieldType.int), (some FieldType.int), (some FieldType.boolean), (some FieldType.int), (some FieldType.boolean), (some FieldType.boolean), (some FieldType.boolean), (some FieldType.boolean), (some FieldType.int), (some (FieldType.object "TwelveShort$Law")), none, (some FieldType.int), (some FieldType.boolean), (some FieldType.boolean), (some FieldType.int), (some FieldType.int), (some FieldType.int), (some FieldType.int), (some FieldType.int), (some FieldType.int), (some FieldType.int), none, (some FieldType.boolean), (some FieldType.boolean), (some FieldType.int), (some FieldType.boolean), (some FieldType.int), (some FieldType.int), (some FieldType.int), (some FieldType.int), (some FieldType.int), (some FieldType.int), none, (some FieldType.int), (some FieldType.int), (some FieldType.int), (some FieldType.int), (some FieldType.int), (some FieldType.int), (some FieldType.int), (some FieldType.int), (some FieldType.int), (some FieldType.int), (some FieldType.int), (some FieldType.int), (some FieldType.int), none, none, (some FieldType.int), (some FieldType.int), (some FieldType.int), (some FieldType.int), none, none, (some FieldType.int), (some FieldType.int), (some FieldType.boolean), (some FieldType.int), (some FieldType.int), (some FieldType.int), (some FieldType.int), (some FieldType.int), (some FieldType.int), (some FieldType.int), (some FieldType.int), (some FieldType.boolean), (some FieldType.boolean), none, (some FieldType.boolean), (some FieldType.boolean), (some FieldType.int), (some FieldType.boolean), none, (some FieldType.boolean), (some FieldType.boolean), (some FieldType.boolean), (some FieldType.boolean), (some FieldType.boolean), (some FieldType.boolean), (some FieldType.int), (some FieldType.int), (some FieldType.int), (some FieldType.int), (some FieldType.int), (some FieldType.int), (some FieldType.int), (some FieldType.boolean), (some FieldType.int), (some FieldType.int), (some FieldType.int), (some FieldType.int), (some FieldType.long), (some FieldType.int), (some FieldType.int), (some FieldType.boolean), (some FieldType.int), (some FieldType.int), (some FieldType.int), (some FieldType.int), (some FieldType.int), none, (some FieldType.int), (some FieldType.int), (some FieldType.int), (some FieldType.int), (some .boolean)]
def aCoL : List Nat := [10, 12, 12, 12, 12, 12, 12, 12, 13, 13, 13, 13, 14, 0, 0, 0, 0, 0, 0, 1, 1, 1, 1, 1, 1, 1, 1, 1, 1, 1, 1, 1, 1, 1, 1, 2, 2, 2, 2, 2, 2, 2, 2, 3, 3, 3, 3, 3, 3, 3, 3, 3, 3, 4, 4, 4, 4, 4, 4, 6, 6, 6, 6, 6, 6, 6, 6, 6, 6, 7, 7, 7, 7, 7, 7, 7, 7, 7, 7, 7, 7, 7, 7, 7, 7, 7, 7, 7, 7, 7, 7, 7, 7, 7, 7, 7, 7, 7, 7, 7, 7, 7, 7, 7, 7, 7, 7, 7, 7, 7, 7, 7, 7, 7, 7, 7, 7, 7, 7, 8, 8, 8, 8, 8, 8, 8, 8, 8, 8, 8, 8, 8, 8, 8, 8, 8, 8, 8, 8, 8, 8, 8, 8, 8, 8, 8, 8, 8, 8, 8, 8, 8, 8, 8, 8, 8, 8, 8, 8, 8, 8, 8, 8, 8, 8, 8, 8, 8, 8, 8, 8, 8, 8, 8, 8, 8, 8, 8, 8, 8, 8, 8, 8, 8, 8, 8, 8, 8, 8, 8, 8, 8, 8, 8, 8, 8, 8, 8, 8, 8, 8, 8, 8, 8, 8, 8, 8, 8, 8, 8, 8, 9]
def aClsL : List String := [RX0, RX1, RX2, RX3, RX4, RX5, RX6, RX7, RX8, RL, RJ6, RJ9, RJ0, RJ1, RJ3]
def aNpL : List Nat := [1, 0, 1, 1, 2, 0, 0, 2, 2, 1, 4, 4, 3, 1, 1, 2, 0, 0, 0, 1, 4, 0, 0, 2, 1, 1, 1, 2, 1, 0, 1, 0, 0, 1, 1, 1, 1, 1, 1, 1, 4, 5, 3, 1, 0, 1, 1, 1, 2, 1, 1, 1, 1, 0, 2, 1, 1, 2, 1, 1, 0, 0, 0, 1, 0, 0, 1, 1, 1, 4, 2, 2, 2, 3, 2, 1, 1, 2, 1, 1, 1, 2, 2, 2, 2, 3, 2, 0, 1, 3, 1, 0, 2, 1, 3, 3, 1, 1, 5, 3, 2, 2, 2, 1, 1, 0, 0, 1, 3, 3, 1, 1, 1, 1, 1, 2, 1, 2, 3, 3, 1, 2, 2, 2, 2, 1, 2, 3, 1, 1, 0, 2, 1, 1, 1, 1, 1, 1, 4, 4, 2, 2, 2, 3, 2, 1, 1, 1, 2, 1, 1, 1, 0, 1, 1, 1, 1, 1, 0, 0, 2, 2, 2, 5, 2, 2, 3, 0, 1, 3, 1, 1, 1, 0, 1, 4, 0, 2, 2, 1, 1, 1, 1, 1, 1, 0, 0, 2, 1, 1, 3, 1, 1, 3, 3, 1, 1, 2, 2, 5, 1, 3, 2, 2, 2, 1, 2, 1, 0, 0, 1, 1]
def aBytes (m : Nat) : ByteArray := aBytesL.getD m ByteArray.empty
def aName (m : Nat) : MethodName := aNameL.getD m yL_law
def aML (m : Nat) : Nat := aMLL.getD m 0
def aRet (m : Nat) : Option FieldType := aRetL.getD m none
def aCo (m : Nat) : Nat := aCoL.getD m 0
def aCls (m : Nat) : String := aClsL.getD (aCo m) ""
def aNp (m : Nat) : Nat := aNpL.getD m 0
def aN : Nat := 212
def aLk {α : Type} : List (Nat × α) → Nat → Option α
  | [], _ => none
  | q :: l, k => bif Nat.beq q.1 k then some q.2 else aLk l k
def cdJ6_bitCount_0f7a4 : List (Nat × Instr × Nat) := [(0, .iload_n 0, 1), (1, .iload_n 0, 1), (2, .iconst 1, 1), (3, .iushr, 1), (4, .ldc_w 265, 3), (7, .iand, 1), (8, .isub, 1), (9, .istore_n 0, 1), (10, .iload_n 0, 1), (11, .ldc_w 266, 3), (14, .iand, 1), (15, .iload_n 0, 1), (16, .iconst 2, 1), (17, .iushr, 1), (18, .ldc_w 266, 3), (21, .iand, 1), (22, .iadd, 1), (23, .istore_n 0, 1), (24, .iload_n 0, 1), (25, .iload_n 0, 1), (26, .iconst 4, 1), (27, .iushr, 1), (28, .iadd, 1), (29, .ldc_w 267, 3), (32, .iand, 1), (33, .istore_n 0, 1), (34, .iload_n 0, 1), (35, .iload_n 0, 1), (36, .bipush 8, 2), (38, .iushr, 1), (39, .iadd, 1), (40, .istore_n 0, 1), (41, .iload_n 0, 1), (42, .iload_n 0, 1), (43, .bipush 16, 2), (45, .iushr, 1), (46, .iadd, 1), (47, .istore_n 0, 1), (48, .iload_n 0, 1), (49, .bipush 63, 2), (51, .iand, 1), (52, .ireturn, 1)]
def cdJ0_length_8abf5 : List (Nat × Instr × Nat) := [(0, .aload_n 0, 1), (1, .getfield 9, 3), (4, .arraylength, 1), (5, .aload_n 0, 1), (6, .invokevirtual 335, 3), (9, .ishr, 1), (10, .ireturn, 1)]
def cdJ0_charAt_5068e : List (Nat × Instr × Nat) := [(0, .aload_n 0, 1), (1, .invokevirtual 492, 3), (4, .ifCond .eq 12, 3), (7, .aload_n 0, 1), (8, .getfield 9, 3), (11, .iload_n 1, 1), (12, .invokestatic 495, 3), (15, .ireturn, 1), (16, .aload_n 0, 1), (17, .getfield 9, 3), (20, .iload_n 1, 1), (21, .invokestatic 498, 3), (24, .ireturn, 1)]
def cdJ0_indexOf_0f7a4 : List (Nat × Instr × Nat) := [(0, .aload_n 0, 1), (1, .iload_n 1, 1), (2, .iconst 0, 1), (3, .invokevirtual 633, 3), (6, .ireturn, 1)]
def cdJ0_indexOf_7cf53 : List (Nat × Instr × Nat) := [(0, .aload_n 0, 1), (1, .invokevirtual 492, 3), (4, .ifCond .eq 19, 3), (7, .aload_n 0, 1), (8, .getfield 9, 3), (11, .iload_n 1, 1), (12, .iload_n 2, 1), (13, .aload_n 0, 1), (14, .invokevirtual 505, 3), (17, .invokestatic 637, 3), (20, .goto 16, 3), (23, .aload_n 0, 1), (24, .getfield 9, 3), (27, .iload_n 1, 1), (28, .iload_n 2, 1), (29, .aload_n 0, 1), (30, .invokevirtual 505, 3), (33, .invokestatic 640, 3), (36, .ireturn, 1)]
def cdJ0_coder_7d493 : List (Nat × Instr × Nat) := [(0, .getstatic 38, 3), (3, .ifCond .eq 10, 3), (6, .aload_n 0, 1), (7, .getfield 15, 3), (10, .goto 4, 3), (13, .iconst 1, 1), (14, .ireturn, 1)]
def cdJ0_isLatin1_aae02 : List (Nat × Instr × Nat) := [(0, .getstatic 38, 3), (3, .ifCond .eq 14, 3), (6, .aload_n 0, 1), (7, .getfield 15, 3), (10, .ifCond .ne 7, 3), (13, .iconst 1, 1), (14, .goto 4, 3), (17, .iconst 0, 1), (18, .ireturn, 1)]
def cdJ0_checkIndex_df160 : List (Nat × Instr × Nat) := [(0, .iload_n 0, 1), (1, .iload_n 1, 1), (2, .getstatic 1053, 3), (5, .invokestatic 1059, 3), (8, .pop, 1), (9, .return_, 1)]
def cdJ1_charAt_3b067 : List (Nat × Instr × Nat) := [(0, .iload_n 1, 1), (1, .aload_n 0, 1), (2, .arraylength, 1), (3, .invokestatic 9, 3), (6, .aload_n 0, 1), (7, .iload_n 1, 1), (8, .baload, 1), (9, .sipush 255, 3), (12, .iand, 1), (13, .i2c, 1), (14, .ireturn, 1)]
def cdJ1_canEncode_9a6ad : List (Nat × Instr × Nat) := [(0, .iload_n 0, 1), (1, .ifCond .lt 14, 3), (4, .iload_n 0, 1), (5, .sipush 255, 3), (8, .if_icmp .gt 7, 3), (11, .iconst 1, 1), (12, .goto 4, 3), (15, .iconst 0, 1), (16, .ireturn, 1)]
def cdJ1_indexOf_4cfef : List (Nat × Instr × Nat) := [(0, .iload_n 1, 1), (1, .invokestatic 88, 3), (4, .ifCond .ne 5, 3), (7, .iconst (-1), 1), (8, .ireturn, 1), (9, .iload_n 2, 1), (10, .iconst 0, 1), (11, .invokestatic 92, 3), (14, .istore_n 2, 1), (15, .iload_n 3, 1), (16, .aload_n 0, 1), (17, .arraylength, 1), (18, .invokestatic 38, 3), (21, .istore_n 3, 1), (22, .iload_n 2, 1), (23, .iload_n 3, 1), (24, .if_icmp .lt 5, 3), (27, .iconst (-1), 1), (28, .ireturn, 1), (29, .aload_n 0, 1), (30, .iload_n 1, 1), (31, .iload_n 2, 1), (32, .iload_n 3, 1), (33, .invokestatic 95, 3), (36, .ireturn, 1)]
def cdJ1_indexOfChar_4cfef : List (Nat × Instr × Nat) := [(0, .iload_n 1, 1), (1, .i2b, 1), (2, .istore 4, 2), (4, .iload_n 2, 1), (5, .istore 5, 2), (7, .iload 5, 2), (9, .iload_n 3, 1), (10, .if_icmp .ge 21, 3), (13, .aload_n 0, 1), (14, .iload 5, 2), (16, .baload, 1), (17, .iload 4, 2), (19, .if_icmp .ne 6, 3), (22, .iload 5, 2), (24, .ireturn, 1), (25, .iinc 5 1, 3), (28, .goto (-21), 3), (31, .iconst (-1), 1), (32, .ireturn, 1)]
def cdJ3_checkIndex_8e157 : List (Nat × Instr × Nat) := [(0, .iload_n 0, 1), (1, .ifCond .lt 8, 3), (4, .iload_n 0, 1), (5, .iload_n 1, 1), (6, .if_icmp .lt 10, 3), (9, .aload_n 2, 1), (10, .iload_n 0, 1), (11, .iload_n 1, 1), (12, .invokestatic 95, 3), (15, .athrow, 1), (16, .iload_n 0, 1), (17, .ireturn, 1)]
def cdX0_copyFrom : List (Nat × Instr × Nat) := [(0, .aload_n 0, 1), (1, .aload_n 1, 1), (2, .getfield 9, 3), (5, .putfield 9, 3), (8, .aload_n 0, 1), (9, .aload_n 1, 1), (10, .getfield 15, 3), (13, .putfield 15, 3), (16, .aload_n 0, 1), (17, .aload_n 1, 1), (18, .getfield 18, 3), (21, .putfield 18, 3), (24, .aload_n 0, 1), (25, .aload_n 1, 1), (26, .getfield 21, 3), (29, .putfield 21, 3), (32, .aload_n 0, 1), (33, .aload_n 1, 1), (34, .getfield 24, 3), (37, .putfield 24, 3), (40, .return_, 1)]
def cdX0_isOf : List (Nat × Instr × Nat) := [(0, .aload_n 0, 1), (1, .getfield 9, 3), (4, .istore_n 2, 1), (5, .iconst 0, 1), (6, .istore_n 3, 1), (7, .iload_n 3, 1), (8, .bipush 6, 2), (10, .if_icmp .ge 29, 3), (13, .iload_n 2, 1), (14, .invokestatic 27, 3), (17, .ifCond .eq 22, 3), (20, .iload_n 2, 1), (21, .iload_n 1, 1), (22, .if_icmp .ne 5, 3), (25, .iconst 1, 1), (26, .ireturn, 1), (27, .getstatic 31, 3), (30, .iload_n 2, 1), (31, .iaload, 1), (32, .istore_n 2, 1), (33, .iinc 3 1, 3), (36, .goto (-29), 3), (39, .iconst 0, 1), (40, .ireturn, 1)]
def cdX0_comes : List (Nat × Instr × Nat) := [(0, .iload_n 1, 1), (1, .iconst 2, 1), (2, .idiv, 1), (3, .istore_n 3, 1), (4, .aload_n 0, 1), (5, .getfield 18, 3), (8, .bipush 60, 2), (10, .if_icmp .le 7, 3), (13, .iconst 0, 1), (14, .goto 4, 3), (17, .iload_n 1, 1), (18, .istore 4, 2), (20, .aload_n 0, 1), (21, .getfield 9, 3), (24, .tableswitch 63 1 5 #[36, 48, 38, 51, 61], 36), (60, .iload_n 3, 1), (61, .ireturn, 1), (62, .iload_n 3, 1), (63, .bipush 10, 2), (65, .iadd, 1), (66, .bipush 100, 2), (68, .invokestatic 35, 3), (71, .ireturn, 1), (72, .iload 4, 2), (74, .ireturn, 1), (75, .iload 4, 2), (77, .iload_n 2, 1), (78, .iadd, 1), (79, .bipush 100, 2), (81, .invokestatic 35, 3), (84, .ireturn, 1), (85, .iconst 0, 1), (86, .ireturn, 1), (87, .iload_n 1, 1), (88, .ireturn, 1)]
def cdX0_walks : List (Nat × Instr × Nat) := [(0, .iconst 2, 1), (1, .aload_n 0, 1), (2, .getfield 18, 3), (5, .imul, 1), (6, .istore_n 1, 1), (7, .aload_n 0, 1), (8, .getfield 18, 3), (11, .bipush 10, 2), (13, .isub, 1), (14, .iconst 0, 1), (15, .invokestatic 41, 3), (18, .istore_n 2, 1), (19, .aload_n 0, 1), (20, .getfield 9, 3), (23, .tableswitch 52 1 5 #[33, 43, 35, 45, 49], 33), (56, .iload_n 1, 1), (57, .ireturn, 1), (58, .iload_n 1, 1), (59, .iconst 5, 1), (60, .isub, 1), (61, .iconst 0, 1), (62, .invokestatic 41, 3), (65, .ireturn, 1), (66, .iload_n 2, 1), (67, .ireturn, 1), (68, .iload_n 2, 1), (69, .iconst 2, 1), (70, .idiv, 1), (71, .ireturn, 1), (72, .bipush 99, 2), (74, .ireturn, 1), (75, .aload_n 0, 1), (76, .getfield 18, 3), (79, .ireturn, 1)]
def cdX0_brings : List (Nat × Instr × Nat) := [(0, .aload_n 0, 1), (1, .getfield 21, 3), (4, .bipush 10, 2), (6, .idiv, 1), (7, .istore_n 1, 1), (8, .iload_n 1, 1), (9, .iconst 5, 1), (10, .iadd, 1), (11, .istore_n 2, 1), (12, .iload_n 1, 1), (13, .iconst 1, 1), (14, .isub, 1), (15, .iconst 0, 1), (16, .invokestatic 41, 3), (19, .istore_n 3, 1), (20, .aload_n 0, 1), (21, .getfield 9, 3), (24, .tableswitch 50 1 5 #[36, 42, 38, 44, 48], 36), (60, .iload_n 2, 1), (61, .ireturn, 1), (62, .iconst 2, 1), (63, .iload_n 2, 1), (64, .imul, 1), (65, .ireturn, 1), (66, .iload_n 3, 1), (67, .ireturn, 1), (68, .iload_n 3, 1), (69, .iconst 2, 1), (70, .iadd, 1), (71, .ireturn, 1), (72, .iconst 0, 1), (73, .ireturn, 1), (74, .iload_n 1, 1), (75, .ireturn, 1)]
def cdX0_worth : List (Nat × Instr × Nat) := [(0, .aload_n 0, 1), (1, .getfield 21, 3), (4, .aload_n 0, 1), (5, .getfield 24, 3), (8, .iadd, 1), (9, .istore_n 1, 1), (10, .bipush 99, 2), (12, .aload_n 0, 1), (13, .getfield 18, 3), (16, .isub, 1), (17, .istore_n 2, 1), (18, .aload_n 0, 1), (19, .getfield 9, 3), (22, .tableswitch 52 1 5 #[34, 40, 36, 42, 47], 34), (56, .iload_n 1, 1), (57, .ireturn, 1), (58, .iload_n 1, 1), (59, .iconst 2, 1), (60, .idiv, 1), (61, .ireturn, 1), (62, .iload_n 2, 1), (63, .ireturn, 1), (64, .iload_n 2, 1), (65, .bipush 7, 2), (67, .iadd, 1), (68, .ireturn, 1), (69, .aload_n 0, 1), (70, .getfield 15, 3), (73, .ireturn, 1), (74, .aload_n 0, 1), (75, .getfield 21, 3), (78, .ireturn, 1)]
def cdX1_copyFrom : List (Nat × Instr × Nat) := [(0, .iconst 0, 1), (1, .istore_n 2, 1), (2, .iload_n 2, 1), (3, .aload_n 1, 1), (4, .getfield 21, 3), (7, .if_icmp .ge 24, 3), (10, .aload_n 0, 1), (11, .getfield 11, 3), (14, .iload_n 2, 1), (15, .aaload, 1), (16, .aload_n 1, 1), (17, .getfield 11, 3), (20, .iload_n 2, 1), (21, .aaload, 1), (22, .invokevirtual 53, 3), (25, .iinc 2 1, 3), (28, .goto (-26), 3), (31, .iconst 0, 1), (32, .istore_n 2, 1), (33, .iload_n 2, 1), (34, .iconst 3, 1), (35, .if_icmp .ge 21, 3), (38, .aload_n 0, 1), (39, .getfield 17, 3), (42, .iload_n 2, 1), (43, .aload_n 1, 1), (44, .getfield 17, 3), (47, .iload_n 2, 1), (48, .iaload, 1), (49, .iastore, 1), (50, .iinc 2 1, 3), (53, .goto (-20), 3), (56, .aload_n 0, 1), (57, .aload_n 1, 1), (58, .getfield 21, 3), (61, .putfield 21, 3), (64, .aload_n 0, 1), (65, .aload_n 1, 1), (66, .getfield 25, 3), (69, .putfield 25, 3), (72, .aload_n 0, 1), (73, .aload_n 1, 1), (74, .getfield 28, 3), (77, .putfield 28, 3), (80, .aload_n 0, 1), (81, .aload_n 1, 1), (82, .getfield 31, 3), (85, .putfield 31, 3), (88, .aload_n 0, 1), (89, .aload_n 1, 1), (90, .getfield 34, 3), (93, .putfield 34, 3), (96, .aload_n 0, 1), (97, .aload_n 1, 1), (98, .getfield 37, 3), (101, .putfield 37, 3), (104, .aload_n 0, 1), (105, .aload_n 1, 1), (106, .getfield 40, 3), (109, .putfield 40, 3), (112, .aload_n 0, 1), (113, .aload_n 1, 1), (114, .getfield 43, 3), (117, .putfield 43, 3), (120, .aload_n 0, 1), (121, .aload_n 1, 1), (122, .getfield 46, 3), (125, .putfield 46, 3), (128, .aload_n 0, 1), (129, .aload_n 1, 1), (130, .getfield 49, 3), (133, .putfield 49, 3), (136, .return_, 1)]
def cdX1_welcome : List (Nat × Instr × Nat) := [(0, .aload_n 0, 1), (1, .getfield 21, 3), (4, .iconst 0, 1), (5, .aload_n 0, 1), (6, .getfield 11, 3), (9, .arraylength, 1), (10, .iconst 1, 1), (11, .isub, 1), (12, .invokestatic 57, 3), (15, .ifCond .ne 6, 3), (18, .ldc 61, 2), (20, .ireturn, 1), (21, .aload_n 0, 1), (22, .getfield 11, 3), (25, .aload_n 0, 1), (26, .getfield 21, 3), (29, .aaload, 1), (30, .astore 5, 2), (32, .aload 5, 2), (34, .iload_n 1, 1), (35, .putfield 62, 3), (38, .aload 5, 2), (40, .iload_n 2, 1), (41, .putfield 65, 3), (44, .aload 5, 2), (46, .iload_n 3, 1), (47, .putfield 68, 3), (50, .aload 5, 2), (52, .iload 4, 2), (54, .putfield 71, 3), (57, .aload 5, 2), (59, .iconst 0, 1), (60, .putfield 74, 3), (63, .aload_n 0, 1), (64, .dup, 1), (65, .getfield 21, 3), (68, .iconst 1, 1), (69, .iadd, 1), (70, .putfield 21, 3), (73, .aload_n 0, 1), (74, .getfield 21, 3), (77, .iconst 1, 1), (78, .isub, 1), (79, .ireturn, 1)]
def cdX1_welcomeDrawn : List (Nat × Instr × Nat) := [(0, .aload_n 0, 1), (1, .invokevirtual 77, 3), (4, .bipush 6, 2), (6, .irem, 1), (7, .istore_n 1, 1), (8, .aload_n 0, 1), (9, .invokevirtual 77, 3), (12, .bipush 101, 2), (14, .irem, 1), (15, .istore_n 2, 1), (16, .aload_n 0, 1), (17, .invokevirtual 77, 3), (20, .bipush 100, 2), (22, .irem, 1), (23, .istore_n 3, 1), (24, .aload_n 0, 1), (25, .invokevirtual 77, 3), (28, .bipush 100, 2), (30, .irem, 1), (31, .istore 4, 2), (33, .aload_n 0, 1), (34, .iload_n 1, 1), (35, .iload_n 2, 1), (36, .iload_n 3, 1), (37, .iload 4, 2), (39, .invokevirtual 81, 3), (42, .pop, 1), (43, .return_, 1)]
def cdX1_draw : List (Nat × Instr × Nat) := [(0, .aload_n 0, 1), (1, .aload_n 0, 1), (2, .getfield 46, 3), (5, .ldc 85, 2), (7, .imul, 1), (8, .sipush 12345, 3), (11, .iadd, 1), (12, .putfield 46, 3), (15, .aload_n 0, 1), (16, .getfield 46, 3), (19, .bipush 8, 2), (21, .iushr, 1), (22, .ireturn, 1)]
def cdX1_comesBy : List (Nat × Instr × Nat) := [(0, .aload_n 0, 1), (1, .getfield 31, 3), (4, .invokestatic 86, 3), (7, .istore_n 3, 1), (8, .aload_n 1, 1), (9, .getfield 65, 3), (12, .istore 4, 2), (14, .aload_n 2, 1), (15, .ifnull 28, 3), (18, .aload_n 2, 1), (19, .aload_n 1, 1), (20, .getfield 65, 3), (23, .aload_n 1, 1), (24, .getfield 71, 3), (27, .aload_n 1, 1), (28, .getfield 74, 3), (31, .iload_n 3, 1), (32, .invokevirtual 92, 3), (35, .iconst 0, 1), (36, .bipush 100, 2), (38, .invokestatic 97, 3), (41, .istore 4, 2), (43, .aload_n 1, 1), (44, .iload 4, 2), (46, .iload_n 3, 1), (47, .invokevirtual 101, 3), (50, .ireturn, 1)]
def cdX1_nearestBut : List (Nat × Instr × Nat) := [(0, .iconst (-1), 1), (1, .istore_n 2, 1), (2, .iconst 0, 1), (3, .istore_n 3, 1), (4, .iconst 0, 1), (5, .istore 4, 2), (7, .iload 4, 2), (9, .aload_n 0, 1), (10, .getfield 21, 3), (13, .if_icmp .ge 46, 3), (16, .iload_n 1, 1), (17, .iload 4, 2), (19, .ishr, 1), (20, .iconst 1, 1), (21, .iand, 1), (22, .ifCond .ne 31, 3), (25, .aload_n 0, 1), (26, .getfield 11, 3), (29, .iload 4, 2), (31, .aaload, 1), (32, .invokevirtual 105, 3), (35, .istore 5, 2), (37, .iload_n 2, 1), (38, .ifCond .lt 9, 3), (41, .iload 5, 2), (43, .iload_n 3, 1), (44, .if_icmp .ge 9, 3), (47, .iload 4, 2), (49, .istore_n 2, 1), (50, .iload 5, 2), (52, .istore_n 3, 1), (53, .iinc 4 1, 3), (56, .goto (-49), 3), (59, .iload_n 2, 1), (60, .ireturn, 1)]
def cdX1_dine : List (Nat × Instr × Nat) := [(0, .aload_n 0, 1), (1, .iload_n 1, 1), (2, .invokestatic 86, 3), (5, .aload_n 0, 1), (6, .getfield 25, 3), (9, .if_icmp .ne 11, 3), (12, .aload_n 0, 1), (13, .iload_n 1, 1), (14, .invokevirtual 108, 3), (17, .goto 4, 3), (20, .iload_n 1, 1), (21, .putfield 31, 3), (24, .iconst 0, 1), (25, .istore_n 2, 1), (26, .iconst 0, 1), (27, .istore_n 3, 1), (28, .iload_n 3, 1), (29, .aload_n 0, 1), (30, .getfield 21, 3), (33, .if_icmp .ge 91, 3), (36, .aload_n 0, 1), (37, .getfield 11, 3), (40, .iload_n 3, 1), (41, .aaload, 1), (42, .astore 4, 2), (44, .aload_n 0, 1), (45, .getfield 31, 3), (48, .iload_n 3, 1), (49, .ishr, 1), (50, .iconst 1, 1), (51, .iand, 1), (52, .iconst 1, 1), (53, .if_icmp .ne 49, 3), (56, .aload 4, 2), (58, .aload 4, 2), (60, .getfield 65, 3), (63, .iconst 2, 1), (64, .iadd, 1), (65, .bipush 100, 2), (67, .invokestatic 111, 3), (70, .putfield 65, 3), (73, .aload 4, 2), (75, .aload 4, 2), (77, .getfield 74, 3), (80, .iconst 1, 1), (81, .iadd, 1), (82, .sipush 9999, 3), (85, .invokestatic 111, 3), (88, .putfield 74, 3), (91, .iload_n 2, 1), (92, .aload 4, 2), (94, .invokevirtual 116, 3), (97, .iadd, 1), (98, .istore_n 2, 1), (99, .goto 19, 3), (102, .aload 4, 2), (104, .aload 4, 2), (106, .getfield 65, 3), (109, .iconst 1, 1), (110, .isub, 1), (111, .iconst 0, 1), (112, .invokestatic 119, 3), (115, .putfield 65, 3), (118, .iinc 3 1, 3), (121, .goto (-93), 3), (124, .aload_n 0, 1), (125, .aload_n 0, 1), (126, .getfield 34, 3), (129, .iload_n 2, 1), (130, .iadd, 1), (131, .ldc 122, 2), (133, .invokestatic 111, 3), (136, .putfield 34, 3), (139, .iload_n 2, 1), (140, .ireturn, 1)]
def cdX1_withOneSentFor : List (Nat × Instr × Nat) := [(0, .aload_n 0, 1), (1, .iload_n 1, 1), (2, .invokevirtual 123, 3), (5, .istore_n 2, 1), (6, .iload_n 2, 1), (7, .ifCond .ge 15, 3), (10, .aload_n 0, 1), (11, .dup, 1), (12, .getfield 40, 3), (15, .iconst 1, 1), (16, .iadd, 1), (17, .putfield 40, 3), (20, .iload_n 1, 1), (21, .ireturn, 1), (22, .aload_n 0, 1), (23, .dup, 1), (24, .getfield 37, 3), (27, .iconst 1, 1), (28, .iadd, 1), (29, .putfield 37, 3), (32, .iload_n 1, 1), (33, .iconst 1, 1), (34, .iload_n 2, 1), (35, .ishl, 1), (36, .ior, 1), (37, .ireturn, 1)]
def cdX1_pass : List (Nat × Instr × Nat) := [(0, .iconst 0, 1), (1, .istore_n 3, 1), (2, .iload_n 3, 1), (3, .iload_n 1, 1), (4, .if_icmp .ge 33, 3), (7, .aload_n 0, 1), (8, .aload_n 0, 1), (9, .aload_n 2, 1), (10, .invokevirtual 126, 3), (13, .invokevirtual 130, 3), (16, .pop, 1), (17, .aload_n 0, 1), (18, .invokevirtual 133, 3), (21, .aload_n 0, 1), (22, .dup, 1), (23, .getfield 43, 3), (26, .iconst 1, 1), (27, .iadd, 1), (28, .putfield 43, 3), (31, .iinc 3 1, 3), (34, .goto (-32), 3), (37, .return_, 1)]
def cdX1_drawComers : List (Nat × Instr × Nat) := [(0, .iconst 0, 1), (1, .istore_n 2, 1), (2, .iconst 0, 1), (3, .istore_n 3, 1), (4, .iload_n 3, 1), (5, .aload_n 0, 1), (6, .getfield 21, 3), (9, .if_icmp .ge 36, 3), (12, .aload_n 0, 1), (13, .invokevirtual 77, 3), (16, .bipush 100, 2), (18, .irem, 1), (19, .aload_n 0, 1), (20, .aload_n 0, 1), (21, .getfield 11, 3), (24, .iload_n 3, 1), (25, .aaload, 1), (26, .aload_n 1, 1), (27, .invokevirtual 136, 3), (30, .if_icmp .ge 9, 3), (33, .iload_n 2, 1), (34, .iconst 1, 1), (35, .iload_n 3, 1), (36, .ishl, 1), (37, .ior, 1), (38, .istore_n 2, 1), (39, .iinc 3 1, 3), (42, .goto (-38), 3), (45, .iload_n 2, 1), (46, .ireturn, 1)]
def cdX1_drawFog : List (Nat × Instr × Nat) := [(0, .aload_n 0, 1), (1, .invokevirtual 77, 3), (4, .bipush 100, 2), (6, .irem, 1), (7, .aload_n 0, 1), (8, .getfield 28, 3), (11, .if_icmp .ge 36, 3), (14, .aload_n 0, 1), (15, .getfield 21, 3), (18, .ifCond .le 29, 3), (21, .aload_n 0, 1), (22, .invokevirtual 77, 3), (25, .aload_n 0, 1), (26, .getfield 21, 3), (29, .irem, 1), (30, .istore_n 1, 1), (31, .aload_n 0, 1), (32, .getfield 11, 3), (35, .iload_n 1, 1), (36, .aaload, 1), (37, .aload_n 0, 1), (38, .invokevirtual 77, 3), (41, .bipush 100, 2), (43, .irem, 1), (44, .putfield 68, 3), (47, .return_, 1)]
def cdX1_total : List (Nat × Instr × Nat) := [(0, .iload_n 1, 1), (1, .tableswitch 51 0 3 #[31, 36, 41, 46], 31), (32, .aload_n 0, 1), (33, .getfield 34, 3), (36, .ireturn, 1), (37, .aload_n 0, 1), (38, .getfield 37, 3), (41, .ireturn, 1), (42, .aload_n 0, 1), (43, .getfield 40, 3), (46, .ireturn, 1), (47, .aload_n 0, 1), (48, .getfield 31, 3), (51, .ireturn, 1), (52, .aload_n 0, 1), (53, .invokevirtual 140, 3), (56, .ireturn, 1)]
def cdX1_oddsOfAll : List (Nat × Instr × Nat) := [(0, .iconst 0, 1), (1, .istore_n 1, 1), (2, .iconst 0, 1), (3, .istore_n 2, 1), (4, .iload_n 2, 1), (5, .aload_n 0, 1), (6, .getfield 21, 3), (9, .if_icmp .ge 21, 3), (12, .iload_n 1, 1), (13, .aload_n 0, 1), (14, .getfield 11, 3), (17, .iload_n 2, 1), (18, .aaload, 1), (19, .getfield 65, 3), (22, .iadd, 1), (23, .istore_n 1, 1), (24, .iinc 2 1, 3), (27, .goto (-23), 3), (30, .iload_n 1, 1), (31, .ireturn, 1)]
def cdX1_witOfAll : List (Nat × Instr × Nat) := [(0, .iconst 0, 1), (1, .istore_n 1, 1), (2, .iconst 0, 1), (3, .istore_n 2, 1), (4, .iload_n 2, 1), (5, .aload_n 0, 1), (6, .getfield 21, 3), (9, .if_icmp .ge 21, 3), (12, .iload_n 1, 1), (13, .aload_n 0, 1), (14, .getfield 11, 3), (17, .iload_n 2, 1), (18, .aaload, 1), (19, .getfield 71, 3), (22, .iadd, 1), (23, .istore_n 1, 1), (24, .iinc 2 1, 3), (27, .goto (-23), 3), (30, .iload_n 1, 1), (31, .ireturn, 1)]
def cdX1_fewestThatBring : List (Nat × Instr × Nat) := [(0, .iconst (-1), 1), (1, .istore_n 2, 1), (2, .bipush 11, 2), (4, .istore_n 3, 1), (5, .iconst 0, 1), (6, .istore 4, 2), (8, .iload 4, 2), (10, .iconst 1, 1), (11, .aload_n 0, 1), (12, .getfield 21, 3), (15, .ishl, 1), (16, .if_icmp .ge 38, 3), (19, .iload 4, 2), (21, .invokestatic 86, 3), (24, .istore 5, 2), (26, .iload 5, 2), (28, .iload_n 3, 1), (29, .if_icmp .ge 19, 3), (32, .aload_n 0, 1), (33, .iload 4, 2), (35, .invokevirtual 143, 3), (38, .iload_n 1, 1), (39, .if_icmp .lt 9, 3), (42, .iload 4, 2), (44, .istore_n 2, 1), (45, .iload 5, 2), (47, .istore_n 3, 1), (48, .iinc 4 1, 3), (51, .goto (-43), 3), (54, .iload_n 2, 1), (55, .ireturn, 1)]
def cdX1_broughtBy : List (Nat × Instr × Nat) := [(0, .iconst 0, 1), (1, .istore_n 2, 1), (2, .iconst 0, 1), (3, .istore_n 3, 1), (4, .iload_n 3, 1), (5, .aload_n 0, 1), (6, .getfield 21, 3), (9, .if_icmp .ge 30, 3), (12, .iload_n 1, 1), (13, .iload_n 3, 1), (14, .ishr, 1), (15, .iconst 1, 1), (16, .iand, 1), (17, .iconst 1, 1), (18, .if_icmp .ne 15, 3), (21, .iload_n 2, 1), (22, .aload_n 0, 1), (23, .getfield 11, 3), (26, .iload_n 3, 1), (27, .aaload, 1), (28, .invokevirtual 116, 3), (31, .iadd, 1), (32, .istore_n 2, 1), (33, .iinc 3 1, 3), (36, .goto (-32), 3), (39, .iload_n 2, 1), (40, .ireturn, 1)]
def cdX2_begin : List (Nat × Instr × Nat) := [(0, .aload_n 0, 1), (1, .iload_n 1, 1), (2, .putfield 22, 3), (5, .aload_n 0, 1), (6, .iconst 0, 1), (7, .putfield 18, 3), (10, .aload_n 0, 1), (11, .iconst 0, 1), (12, .putfield 25, 3), (15, .return_, 1)]
def cdX2_addNumber : List (Nat × Instr × Nat) := [(0, .aload_n 0, 1), (1, .iload_n 1, 1), (2, .invokevirtual 28, 3), (5, .aload_n 0, 1), (6, .dup, 1), (7, .getfield 25, 3), (10, .iconst 1, 1), (11, .iadd, 1), (12, .putfield 25, 3), (15, .return_, 1)]
def cdX2_addName : List (Nat × Instr × Nat) := [(0, .aload_n 0, 1), (1, .iconst (-1), 1), (2, .iload_n 1, 1), (3, .isub, 1), (4, .invokevirtual 28, 3), (7, .aload_n 0, 1), (8, .dup, 1), (9, .getfield 25, 3), (12, .iconst 1, 1), (13, .iadd, 1), (14, .putfield 25, 3), (17, .return_, 1)]
def cdX2_addSign : List (Nat × Instr × Nat) := [(0, .aload_n 0, 1), (1, .iload_n 1, 1), (2, .ineg, 1), (3, .invokevirtual 28, 3), (6, .return_, 1)]
def cdX2_addStep : List (Nat × Instr × Nat) := [(0, .aload_n 0, 1), (1, .getfield 18, 3), (4, .iconst 0, 1), (5, .aload_n 0, 1), (6, .getfield 9, 3), (9, .arraylength, 1), (10, .iconst 1, 1), (11, .isub, 1), (12, .invokestatic 32, 3), (15, .ifCond .eq 23, 3), (18, .aload_n 0, 1), (19, .getfield 9, 3), (22, .aload_n 0, 1), (23, .getfield 18, 3), (26, .iload_n 1, 1), (27, .iastore, 1), (28, .aload_n 0, 1), (29, .dup, 1), (30, .getfield 18, 3), (33, .iconst 1, 1), (34, .iadd, 1), (35, .putfield 18, 3), (38, .return_, 1)]
def cdX2_gives : List (Nat × Instr × Nat) := [(0, .iconst (-1), 1), (1, .istore 5, 2), (3, .iconst 0, 1), (4, .istore 6, 2), (6, .iload 6, 2), (8, .aload_n 0, 1), (9, .getfield 18, 3), (12, .if_icmp .ge 145, 3), (15, .aload_n 0, 1), (16, .getfield 9, 3), (19, .iload 6, 2), (21, .iaload, 1), (22, .istore 7, 2), (24, .iload 7, 2), (26, .bipush (-4), 2), (28, .if_icmp .lt 48, 3), (31, .iload 5, 2), (33, .iconst 1, 1), (34, .iadd, 1), (35, .aload_n 0, 1), (36, .getfield 15, 3), (39, .arraylength, 1), (40, .if_icmp .ge 111, 3), (43, .iinc 5 1, 3), (46, .aload_n 0, 1), (47, .getfield 15, 3), (50, .iload 5, 2), (52, .iload 7, 2), (54, .ifCond .lt 8, 3), (57, .iload 7, 2), (59, .goto 13, 3), (62, .iload 7, 2), (64, .iload_n 1, 1), (65, .iload_n 2, 1), (66, .iload_n 3, 1), (67, .iload 4, 2), (69, .invokestatic 36, 3), (72, .iastore, 1), (73, .goto 78, 3), (76, .iload 7, 2), (78, .bipush (-33), 2), (80, .if_icmp .ne 33, 3), (83, .iload 5, 2), (85, .ifCond .lt 66, 3), (88, .aload_n 0, 1), (89, .getfield 15, 3), (92, .iload 5, 2), (94, .aload_n 0, 1), (95, .getfield 15, 3), (98, .iload 5, 2), (100, .iaload, 1), (101, .ifCond .ne 7, 3), (104, .iconst 1, 1), (105, .goto 4, 3), (108, .iconst 0, 1), (109, .iastore, 1), (110, .goto 41, 3), (113, .iload 5, 2), (115, .iconst 1, 1), (116, .if_icmp .lt 35, 3), (119, .iinc 5 (-1), 3), (122, .aload_n 0, 1), (123, .getfield 15, 3), (126, .iload 5, 2), (128, .iload 7, 2), (130, .ineg, 1), (131, .aload_n 0, 1), (132, .getfield 15, 3), (135, .iload 5, 2), (137, .iaload, 1), (138, .aload_n 0, 1), (139, .getfield 15, 3), (142, .iload 5, 2), (144, .iconst 1, 1), (145, .iadd, 1), (146, .iaload, 1), (147, .invokestatic 40, 3), (150, .iastore, 1), (151, .iinc 6 1, 3), (154, .goto (-148), 3), (157, .iload 5, 2), (159, .ifCond .lt 13, 3), (162, .aload_n 0, 1), (163, .getfield 15, 3), (166, .iload 5, 2), (168, .iaload, 1), (169, .goto 4, 3), (172, .iconst 0, 1), (173, .ireturn, 1)]
def cdX2_named : List (Nat × Instr × Nat) := [(0, .iload_n 0, 1), (1, .tableswitch 33 (-3) (-1) #[31, 29, 27], 27), (28, .iload_n 1, 1), (29, .ireturn, 1), (30, .iload_n 2, 1), (31, .ireturn, 1), (32, .iload_n 3, 1), (33, .ireturn, 1), (34, .iload 4, 2), (36, .ireturn, 1)]
def cdX2_worked : List (Nat × Instr × Nat) := [(0, .iload_n 0, 1), (1, .lookupswitch 148 #[(38, 89), (42, 144), (43, 136), (45, 140), (60, 103), (61, 114), (62, 125), (124, 75)], 75), (76, .iload_n 1, 1), (77, .ifCond .ne 7, 3), (80, .iload_n 2, 1), (81, .ifCond .eq 7, 3), (84, .iconst 1, 1), (85, .goto 4, 3), (88, .iconst 0, 1), (89, .ireturn, 1), (90, .iload_n 1, 1), (91, .ifCond .eq 11, 3), (94, .iload_n 2, 1), (95, .ifCond .eq 7, 3), (98, .iconst 1, 1), (99, .goto 4, 3), (102, .iconst 0, 1), (103, .ireturn, 1), (104, .iload_n 1, 1), (105, .iload_n 2, 1), (106, .if_icmp .ge 7, 3), (109, .iconst 1, 1), (110, .goto 4, 3), (113, .iconst 0, 1), (114, .ireturn, 1), (115, .iload_n 1, 1), (116, .iload_n 2, 1), (117, .if_icmp .ne 7, 3), (120, .iconst 1, 1), (121, .goto 4, 3), (124, .iconst 0, 1), (125, .ireturn, 1), (126, .iload_n 1, 1), (127, .iload_n 2, 1), (128, .if_icmp .le 7, 3), (131, .iconst 1, 1), (132, .goto 4, 3), (135, .iconst 0, 1), (136, .ireturn, 1), (137, .iload_n 1, 1), (138, .iload_n 2, 1), (139, .iadd, 1), (140, .ireturn, 1), (141, .iload_n 1, 1), (142, .iload_n 2, 1), (143, .isub, 1), (144, .ireturn, 1), (145, .iload_n 1, 1), (146, .iload_n 2, 1), (147, .imul, 1), (148, .ireturn, 1), (149, .iload_n 2, 1), (150, .ifCond .ne 7, 3), (153, .iconst 0, 1), (154, .goto 6, 3), (157, .iload_n 1, 1), (158, .iload_n 2, 1), (159, .idiv, 1), (160, .ireturn, 1)]
def cdX3_findFault : List (Nat × Instr × Nat) := [(0, .aload_n 0, 1), (1, .iconst (-1), 1), (2, .putfield 18, 3), (5, .aload_n 0, 1), (6, .iconst 0, 1), (7, .putfield 22, 3), (10, .aload_n 0, 1), (11, .iconst 0, 1), (12, .putfield 25, 3), (15, .aload_n 0, 1), (16, .getfield 12, 3), (19, .invokevirtual 28, 3), (22, .aload_n 0, 1), (23, .aload_n 1, 1), (24, .invokevirtual 31, 3), (27, .aload_n 0, 1), (28, .iconst 0, 1), (29, .aload_n 1, 1), (30, .invokevirtual 35, 3), (33, .aload_n 0, 1), (34, .getfield 12, 3), (37, .getfield 39, 3), (40, .ifCond .eq 7, 3), (43, .aload_n 0, 1), (44, .invokevirtual 42, 3), (47, .aload_n 0, 1), (48, .getfield 18, 3), (51, .ireturn, 1)]
def cdX3_fail : List (Nat × Instr × Nat) := [(0, .aload_n 0, 1), (1, .getfield 18, 3), (4, .ifCond .ge 14, 3), (7, .aload_n 0, 1), (8, .aload_n 0, 1), (9, .getfield 12, 3), (12, .getfield 45, 3), (15, .putfield 18, 3), (18, .return_, 1)]
def cdX3_readKey : List (Nat × Instr × Nat) := [(0, .iconst 0, 1), (1, .istore_n 2, 1), (2, .iload_n 2, 1), (3, .iconst 3, 1), (4, .if_icmp .ge 36, 3), (7, .aload_n 0, 1), (8, .getfield 12, 3), (11, .iload_n 2, 1), (12, .invokestatic 48, 3), (15, .invokevirtual 52, 3), (18, .ifCond .eq 16, 3), (21, .aload_n 1, 1), (22, .iload_n 2, 1), (23, .invokevirtual 56, 3), (26, .aload_n 0, 1), (27, .getfield 12, 3), (30, .invokevirtual 62, 3), (33, .return_, 1), (34, .iinc 2 1, 3), (37, .goto (-35), 3), (40, .aload_n 0, 1), (41, .invokevirtual 42, 3), (44, .return_, 1)]
def cdX3_wordOf : List (Nat × Instr × Nat) := [(0, .iload_n 0, 1), (1, .lookupswitch 33 #[(0, 27), (1, 30)], 27), (28, .ldc 65, 2), (30, .areturn, 1), (31, .ldc 67, 2), (33, .areturn, 1), (34, .ldc 69, 2), (36, .areturn, 1)]
def cdX3_namesOf : List (Nat × Instr × Nat) := [(0, .iload_n 0, 1), (1, .lookupswitch 33 #[(0, 27), (1, 30)], 27), (28, .ldc 71, 2), (30, .areturn, 1), (31, .ldc 73, 2), (33, .areturn, 1), (34, .ldc 75, 2), (36, .areturn, 1)]
def cdX3_readLevel : List (Nat × Instr × Nat) := [(0, .iload_n 1, 1), (1, .iconst 5, 1), (2, .if_icmp .lt 9, 3), (5, .aload_n 0, 1), (6, .aload_n 2, 1), (7, .invokevirtual 77, 3), (10, .return_, 1), (11, .aload_n 0, 1), (12, .iload_n 1, 1), (13, .iconst 1, 1), (14, .iadd, 1), (15, .aload_n 2, 1), (16, .invokevirtual 35, 3), (19, .iload_n 1, 1), (20, .iconst 2, 1), (21, .if_icmp .ne 7, 3), (24, .iconst 1, 1), (25, .goto 5, 3), (28, .bipush 96, 2), (30, .istore_n 3, 1), (31, .iconst 0, 1), (32, .istore 4, 2), (34, .iload 4, 2), (36, .iload_n 3, 1), (37, .if_icmp .ge 60, 3), (40, .aload_n 0, 1), (41, .getfield 18, 3), (44, .ifCond .ge 53, 3), (47, .aload_n 0, 1), (48, .getfield 12, 3), (51, .invokevirtual 80, 3), (54, .invokestatic 84, 3), (57, .iload_n 1, 1), (58, .if_icmp .ne 39, 3), (61, .aload_n 0, 1), (62, .getfield 12, 3), (65, .invokevirtual 80, 3), (68, .istore 5, 2), (70, .aload_n 0, 1), (71, .getfield 12, 3), (74, .invokevirtual 62, 3), (77, .aload_n 0, 1), (78, .iload_n 1, 1), (79, .iconst 1, 1), (80, .iadd, 1), (81, .aload_n 2, 1), (82, .invokevirtual 35, 3), (85, .aload_n 2, 1), (86, .iload 5, 2), (88, .invokevirtual 88, 3), (91, .iinc 4 1, 3), (94, .goto (-60), 3), (97, .return_, 1)]
def cdX3_levelOf : List (Nat × Instr × Nat) := [(0, .iload_n 0, 1), (1, .lookupswitch 93 #[(38, 85), (42, 91), (43, 89), (45, 89), (47, 91), (60, 87), (61, 87), (62, 87), (124, 83)], 83), (84, .iconst 0, 1), (85, .ireturn, 1), (86, .iconst 1, 1), (87, .ireturn, 1), (88, .iconst 2, 1), (89, .ireturn, 1), (90, .iconst 3, 1), (91, .ireturn, 1), (92, .iconst 4, 1), (93, .ireturn, 1), (94, .iconst (-1), 1), (95, .ireturn, 1)]
def cdX3_readPiece : List (Nat × Instr × Nat) := [(0, .aload_n 0, 1), (1, .getfield 18, 3), (4, .ifCond .lt 4, 3), (7, .return_, 1), (8, .aload_n 0, 1), (9, .getfield 12, 3), (12, .aload_n 1, 1), (13, .getfield 91, 3), (16, .invokestatic 94, 3), (19, .invokevirtual 97, 3), (22, .istore_n 2, 1), (23, .iload_n 2, 1), (24, .ifCond .lt 18, 3), (27, .aload_n 1, 1), (28, .iload_n 2, 1), (29, .invokevirtual 101, 3), (32, .aload_n 0, 1), (33, .getfield 12, 3), (36, .invokevirtual 62, 3), (39, .goto 96, 3), (42, .aload_n 0, 1), (43, .getfield 12, 3), (46, .invokevirtual 104, 3), (49, .ifCond .eq 24, 3), (52, .aload_n 1, 1), (53, .aload_n 0, 1), (54, .getfield 12, 3), (57, .invokevirtual 108, 3), (60, .invokevirtual 111, 3), (63, .aload_n 0, 1), (64, .getfield 12, 3), (67, .invokevirtual 62, 3), (70, .goto 65, 3), (73, .aload_n 0, 1), (74, .getfield 12, 3), (77, .invokevirtual 80, 3), (80, .bipush 33, 2), (82, .if_icmp .ne 20, 3), (85, .aload_n 0, 1), (86, .getfield 25, 3), (89, .bipush 8, 2), (91, .if_icmp .ge 11, 3), (94, .aload_n 0, 1), (95, .aload_n 1, 1), (96, .invokevirtual 114, 3), (99, .goto 36, 3), (102, .aload_n 0, 1), (103, .getfield 12, 3), (106, .invokevirtual 80, 3), (109, .bipush 40, 2), (111, .if_icmp .ne 20, 3), (114, .aload_n 0, 1), (115, .getfield 22, 3), (118, .bipush 8, 2), (120, .if_icmp .ge 11, 3), (123, .aload_n 0, 1), (124, .aload_n 1, 1), (125, .invokevirtual 117, 3), (128, .goto 7, 3), (131, .aload_n 0, 1), (132, .invokevirtual 42, 3), (135, .return_, 1)]
def cdX3_readNot : List (Nat × Instr × Nat) := [(0, .aload_n 0, 1), (1, .dup, 1), (2, .getfield 25, 3), (5, .iconst 1, 1), (6, .iadd, 1), (7, .putfield 25, 3), (10, .aload_n 0, 1), (11, .getfield 12, 3), (14, .invokevirtual 62, 3), (17, .aload_n 0, 1), (18, .aload_n 1, 1), (19, .invokevirtual 77, 3), (22, .aload_n 1, 1), (23, .bipush 33, 2), (25, .invokevirtual 88, 3), (28, .aload_n 0, 1), (29, .dup, 1), (30, .getfield 25, 3), (33, .iconst 1, 1), (34, .isub, 1), (35, .putfield 25, 3), (38, .return_, 1)]
def cdX3_readBracket : List (Nat × Instr × Nat) := [(0, .aload_n 0, 1), (1, .dup, 1), (2, .getfield 22, 3), (5, .iconst 1, 1), (6, .iadd, 1), (7, .putfield 22, 3), (10, .aload_n 0, 1), (11, .getfield 12, 3), (14, .invokevirtual 62, 3), (17, .aload_n 0, 1), (18, .iconst 0, 1), (19, .aload_n 1, 1), (20, .invokevirtual 35, 3), (23, .aload_n 0, 1), (24, .getfield 18, 3), (27, .ifCond .ge 25, 3), (30, .aload_n 0, 1), (31, .getfield 12, 3), (34, .invokevirtual 80, 3), (37, .bipush 41, 2), (39, .if_icmp .ne 13, 3), (42, .aload_n 0, 1), (43, .getfield 12, 3), (46, .invokevirtual 62, 3), (49, .goto 7, 3), (52, .aload_n 0, 1), (53, .invokevirtual 42, 3), (56, .aload_n 0, 1), (57, .dup, 1), (58, .getfield 22, 3), (61, .iconst 1, 1), (62, .isub, 1), (63, .putfield 22, 3), (66, .return_, 1)]
def cdX4_isMissing : List (Nat × Instr × Nat) := [(0, .aload_n 0, 1), (1, .getfield 15, 3), (4, .iconst (-1), 1), (5, .if_icmp .ne 7, 3), (8, .iconst 1, 1), (9, .goto 4, 3), (12, .iconst 0, 1), (13, .ireturn, 1)]
def cdX4_become : List (Nat × Instr × Nat) := [(0, .aload_n 0, 1), (1, .iload_n 1, 1), (2, .putfield 15, 3), (5, .aload_n 0, 1), (6, .iload_n 2, 1), (7, .iconst 0, 1), (8, .bipush 24, 2), (10, .invokestatic 22, 3), (13, .putfield 19, 3), (16, .iconst 0, 1), (17, .istore_n 3, 1), (18, .iload_n 3, 1), (19, .aload_n 0, 1), (20, .getfield 9, 3), (23, .arraylength, 1), (24, .if_icmp .ge 16, 3), (27, .aload_n 0, 1), (28, .getfield 9, 3), (31, .iload_n 3, 1), (32, .iconst 0, 1), (33, .iastore, 1), (34, .iinc 3 1, 3), (37, .goto (-19), 3), (40, .return_, 1)]
def cdX4_copyFrom : List (Nat × Instr × Nat) := [(0, .aload_n 0, 1), (1, .aload_n 1, 1), (2, .getfield 15, 3), (5, .putfield 15, 3), (8, .aload_n 0, 1), (9, .aload_n 1, 1), (10, .getfield 19, 3), (13, .putfield 19, 3), (16, .iconst 0, 1), (17, .istore_n 2, 1), (18, .iload_n 2, 1), (19, .aload_n 0, 1), (20, .getfield 9, 3), (23, .arraylength, 1), (24, .if_icmp .ge 21, 3), (27, .aload_n 0, 1), (28, .getfield 9, 3), (31, .iload_n 2, 1), (32, .aload_n 1, 1), (33, .getfield 9, 3), (36, .iload_n 2, 1), (37, .iaload, 1), (38, .iastore, 1), (39, .iinc 2 1, 3), (42, .goto (-24), 3), (45, .return_, 1)]
def cdX4_hasPlace : List (Nat × Instr × Nat) := [(0, .iload_n 1, 1), (1, .iconst 0, 1), (2, .aload_n 0, 1), (3, .getfield 19, 3), (6, .iconst 1, 1), (7, .isub, 1), (8, .invokestatic 26, 3), (11, .ireturn, 1)]
def cdX4_hasPlaces : List (Nat × Instr × Nat) := [(0, .iload_n 2, 1), (1, .ifCond .lt 29, 3), (4, .iload_n 1, 1), (5, .iconst 0, 1), (6, .aload_n 0, 1), (7, .getfield 19, 3), (10, .invokestatic 26, 3), (13, .ifCond .eq 17, 3), (16, .iload_n 2, 1), (17, .aload_n 0, 1), (18, .getfield 19, 3), (21, .iload_n 1, 1), (22, .isub, 1), (23, .if_icmp .gt 7, 3), (26, .iconst 1, 1), (27, .goto 4, 3), (30, .iconst 0, 1), (31, .ireturn, 1)]
def cdX4_hasNumber : List (Nat × Instr × Nat) := [(0, .aload_n 0, 1), (1, .iload_n 1, 1), (2, .invokevirtual 30, 3), (5, .ifCond .eq 18, 3), (8, .aload_n 0, 1), (9, .getfield 9, 3), (12, .iload_n 1, 1), (13, .iaload, 1), (14, .ldc 34, 2), (16, .if_icmp .eq 7, 3), (19, .iconst 1, 1), (20, .goto 4, 3), (23, .iconst 0, 1), (24, .ireturn, 1)]
def cdX6_addFour : List (Nat × Instr × Nat) := [(0, .bipush 24, 2), (2, .istore_n 2, 1), (3, .iload_n 2, 1), (4, .ifCond .lt 53, 3), (7, .aload_n 0, 1), (8, .getfield 15, 3), (11, .iconst 0, 1), (12, .aload_n 0, 1), (13, .getfield 9, 3), (16, .arraylength, 1), (17, .iconst 1, 1), (18, .isub, 1), (19, .invokestatic 28, 3), (22, .ifCond .eq 29, 3), (25, .aload_n 0, 1), (26, .getfield 9, 3), (29, .aload_n 0, 1), (30, .getfield 15, 3), (33, .iload_n 1, 1), (34, .iload_n 2, 1), (35, .iushr, 1), (36, .sipush 255, 3), (39, .iand, 1), (40, .iastore, 1), (41, .aload_n 0, 1), (42, .dup, 1), (43, .getfield 15, 3), (46, .iconst 1, 1), (47, .iadd, 1), (48, .putfield 15, 3), (51, .iinc 2 (-8), 3), (54, .goto (-51), 3), (57, .return_, 1)]
def cdX6_lookAtFirst : List (Nat × Instr × Nat) := [(0, .aload_n 0, 1), (1, .iconst 0, 1), (2, .putfield 19, 3), (5, .aload_n 0, 1), (6, .iconst 0, 1), (7, .putfield 25, 3), (10, .aload_n 0, 1), (11, .invokevirtual 32, 3), (14, .return_, 1)]
def cdX6_lookAtNext : List (Nat × Instr × Nat) := [(0, .aload_n 0, 1), (1, .getfield 19, 3), (4, .iconst 1, 1), (5, .if_icmp .eq 11, 3), (8, .aload_n 0, 1), (9, .getfield 19, 3), (12, .iconst 2, 1), (13, .if_icmp .ne 7, 3), (16, .iconst 1, 1), (17, .goto 4, 3), (20, .iconst 0, 1), (21, .istore_n 1, 1), (22, .aload_n 0, 1), (23, .getfield 25, 3), (26, .istore_n 2, 1), (27, .aload_n 0, 1), (28, .aload_n 0, 1), (29, .getfield 25, 3), (32, .putfield 22, 3), (35, .aload_n 0, 1), (36, .getfield 22, 3), (39, .aload_n 0, 1), (40, .getfield 15, 3), (43, .if_icmp .ge 29, 3), (46, .aload_n 0, 1), (47, .aload_n 0, 1), (48, .getfield 22, 3), (51, .invokevirtual 35, 3), (54, .bipush 32, 2), (56, .if_icmp .ne 16, 3), (59, .aload_n 0, 1), (60, .dup, 1), (61, .getfield 22, 3), (64, .iconst 1, 1), (65, .iadd, 1), (66, .putfield 22, 3), (69, .goto (-34), 3), (72, .aload_n 0, 1), (73, .aload_n 0, 1), (74, .aload_n 0, 1), (75, .getfield 22, 3), (78, .invokevirtual 39, 3), (81, .putfield 19, 3), (84, .aload_n 0, 1), (85, .aload_n 0, 1), (86, .getfield 19, 3), (89, .ifCond .ne 10, 3), (92, .aload_n 0, 1), (93, .getfield 22, 3), (96, .goto 9, 3), (99, .aload_n 0, 1), (100, .getfield 22, 3), (103, .iconst 1, 1), (104, .iadd, 1), (105, .putfield 25, 3), (108, .aload_n 0, 1), (109, .getfield 19, 3), (112, .iconst 1, 1), (113, .if_icmp .eq 11, 3), (116, .aload_n 0, 1), (117, .getfield 19, 3), (120, .iconst 2, 1), (121, .if_icmp .ne 59, 3), (124, .aload_n 0, 1), (125, .getfield 25, 3), (128, .aload_n 0, 1), (129, .getfield 15, 3), (132, .if_icmp .ge 31, 3), (135, .aload_n 0, 1), (136, .aload_n 0, 1), (137, .getfield 25, 3), (140, .invokevirtual 39, 3), (143, .aload_n 0, 1), (144, .getfield 19, 3), (147, .if_icmp .ne 16, 3), (150, .aload_n 0, 1), (151, .dup, 1), (152, .getfield 25, 3), (155, .iconst 1, 1), (156, .iadd, 1), (157, .putfield 25, 3), (160, .goto (-36), 3), (163, .iload_n 1, 1), (164, .ifCond .eq 16, 3), (167, .aload_n 0, 1), (168, .getfield 22, 3), (171, .iload_n 2, 1), (172, .if_icmp .ne 8, 3), (175, .aload_n 0, 1), (176, .iconst 4, 1), (177, .putfield 19, 3), (180, .return_, 1)]
def cdX6_sign : List (Nat × Instr × Nat) := [(0, .aload_n 0, 1), (1, .getfield 19, 3), (4, .iconst 3, 1), (5, .if_icmp .ne 14, 3), (8, .aload_n 0, 1), (9, .aload_n 0, 1), (10, .getfield 22, 3), (13, .invokevirtual 35, 3), (16, .goto 4, 3), (19, .iconst (-1), 1), (20, .ireturn, 1)]
def cdX6_isWord : List (Nat × Instr × Nat) := [(0, .aload_n 0, 1), (1, .getfield 19, 3), (4, .iconst 1, 1), (5, .if_icmp .ne 19, 3), (8, .aload_n 0, 1), (9, .getfield 25, 3), (12, .aload_n 0, 1), (13, .getfield 22, 3), (16, .isub, 1), (17, .aload_n 1, 1), (18, .invokevirtual 42, 3), (21, .if_icmp .eq 5, 3), (24, .iconst 0, 1), (25, .ireturn, 1), (26, .iconst 0, 1), (27, .istore_n 2, 1), (28, .iload_n 2, 1), (29, .aload_n 1, 1), (30, .invokevirtual 42, 3), (33, .if_icmp .ge 29, 3), (36, .aload_n 0, 1), (37, .aload_n 0, 1), (38, .getfield 22, 3), (41, .iload_n 2, 1), (42, .iadd, 1), (43, .invokevirtual 35, 3), (46, .aload_n 1, 1), (47, .iload_n 2, 1), (48, .invokevirtual 48, 3), (51, .if_icmp .eq 5, 3), (54, .iconst 0, 1), (55, .ireturn, 1), (56, .iinc 2 1, 3), (59, .goto (-31), 3), (62, .iconst 1, 1), (63, .ireturn, 1)]
def cdX6_isNumber : List (Nat × Instr × Nat) := [(0, .aload_n 0, 1), (1, .getfield 19, 3), (4, .iconst 2, 1), (5, .if_icmp .ne 20, 3), (8, .aload_n 0, 1), (9, .getfield 25, 3), (12, .aload_n 0, 1), (13, .getfield 22, 3), (16, .isub, 1), (17, .iconst 4, 1), (18, .if_icmp .gt 7, 3), (21, .iconst 1, 1), (22, .goto 4, 3), (25, .iconst 0, 1), (26, .ireturn, 1)]
def cdX6_number : List (Nat × Instr × Nat) := [(0, .iconst 0, 1), (1, .istore_n 1, 1), (2, .aload_n 0, 1), (3, .getfield 22, 3), (6, .istore_n 2, 1), (7, .iload_n 2, 1), (8, .aload_n 0, 1), (9, .getfield 25, 3), (12, .if_icmp .ge 23, 3), (15, .iload_n 1, 1), (16, .bipush 10, 2), (18, .imul, 1), (19, .aload_n 0, 1), (20, .iload_n 2, 1), (21, .invokevirtual 35, 3), (24, .iadd, 1), (25, .bipush 48, 2), (27, .isub, 1), (28, .istore_n 1, 1), (29, .iinc 2 1, 3), (32, .goto (-25), 3), (35, .iload_n 1, 1), (36, .ireturn, 1)]
def cdX6_nameAmong : List (Nat × Instr × Nat) := [(0, .aload_n 0, 1), (1, .getfield 19, 3), (4, .iconst 1, 1), (5, .if_icmp .ne 32, 3), (8, .aload_n 0, 1), (9, .getfield 25, 3), (12, .aload_n 0, 1), (13, .getfield 22, 3), (16, .isub, 1), (17, .iconst 1, 1), (18, .if_icmp .ne 19, 3), (21, .aload_n 1, 1), (22, .aload_n 0, 1), (23, .aload_n 0, 1), (24, .getfield 22, 3), (27, .invokevirtual 35, 3), (30, .i2c, 1), (31, .invokevirtual 52, 3), (34, .goto 4, 3), (37, .iconst (-1), 1), (38, .ireturn, 1)]
def cdX6_byteAt : List (Nat × Instr × Nat) := [(0, .iload_n 1, 1), (1, .ifCond .lt 21, 3), (4, .iload_n 1, 1), (5, .aload_n 0, 1), (6, .getfield 9, 3), (9, .arraylength, 1), (10, .if_icmp .ge 12, 3), (13, .aload_n 0, 1), (14, .getfield 9, 3), (17, .iload_n 1, 1), (18, .iaload, 1), (19, .goto 4, 3), (22, .iconst (-1), 1), (23, .ireturn, 1)]
def cdX6_sortAt : List (Nat × Instr × Nat) := [(0, .iload_n 1, 1), (1, .aload_n 0, 1), (2, .getfield 15, 3), (5, .if_icmp .lt 5, 3), (8, .iconst 0, 1), (9, .ireturn, 1), (10, .aload_n 0, 1), (11, .iload_n 1, 1), (12, .invokevirtual 35, 3), (15, .istore_n 2, 1), (16, .iload_n 2, 1), (17, .bipush 97, 2), (19, .if_icmp .lt 11, 3), (22, .iload_n 2, 1), (23, .bipush 122, 2), (25, .if_icmp .gt 5, 3), (28, .iconst 1, 1), (29, .ireturn, 1), (30, .iload_n 2, 1), (31, .bipush 48, 2), (33, .if_icmp .lt 13, 3), (36, .iload_n 2, 1), (37, .bipush 57, 2), (39, .if_icmp .gt 7, 3), (42, .iconst 2, 1), (43, .goto 4, 3), (46, .iconst 3, 1), (47, .ireturn, 1)]
def cdX7_person : List (Nat × Instr × Nat) := [(0, .iload_n 1, 1), (1, .invokestatic 65, 3), (4, .ifCond .eq 13, 3), (7, .iload_n 2, 1), (8, .iconst 0, 1), (9, .bipush 100, 2), (11, .invokestatic 69, 3), (14, .ifCond .ne 6, 3), (17, .ldc 73, 2), (19, .ireturn, 1), (20, .iload_n 3, 1), (21, .iconst 0, 1), (22, .bipush 99, 2), (24, .invokestatic 69, 3), (27, .ifCond .eq 14, 3), (30, .iload 4, 2), (32, .iconst 0, 1), (33, .bipush 99, 2), (35, .invokestatic 69, 3), (38, .ifCond .ne 6, 3), (41, .ldc 73, 2), (43, .ireturn, 1), (44, .aload_n 0, 1), (45, .getfield 10, 3), (48, .getfield 74, 3), (51, .bipush 10, 2), (53, .if_icmp .lt 6, 3), (56, .ldc 77, 2), (58, .ireturn, 1), (59, .aload_n 0, 1), (60, .getfield 10, 3), (63, .iload_n 1, 1), (64, .iload_n 2, 1), (65, .iload_n 3, 1), (66, .iload 4, 2), (68, .invokevirtual 78, 3), (71, .ireturn, 1)]
def cdX7_told : List (Nat × Instr × Nat) := [(0, .aload_n 0, 1), (1, .iload_n 1, 1), (2, .invokevirtual 82, 3), (5, .ifCond .ne 6, 3), (8, .ldc 73, 2), (10, .ireturn, 1), (11, .aload_n 0, 1), (12, .getfield 10, 3), (15, .getfield 85, 3), (18, .iload_n 1, 1), (19, .aaload, 1), (20, .astore_n 3, 1), (21, .iload_n 2, 1), (22, .tableswitch 108 0 8 #[50, 55, 60, 65, 70, 75, 93, 98, 103], 50), (72, .aload_n 3, 1), (73, .getfield 89, 3), (76, .ireturn, 1), (77, .aload_n 3, 1), (78, .getfield 94, 3), (81, .ireturn, 1), (82, .aload_n 3, 1), (83, .getfield 97, 3), (86, .ireturn, 1), (87, .aload_n 3, 1), (88, .getfield 100, 3), (91, .ireturn, 1), (92, .aload_n 3, 1), (93, .getfield 103, 3), (96, .ireturn, 1), (97, .aload_n 0, 1), (98, .getfield 10, 3), (101, .aload_n 3, 1), (102, .aload_n 0, 1), (103, .aload_n 0, 1), (104, .getfield 10, 3), (107, .iconst 0, 1), (108, .invokevirtual 106, 3), (111, .invokevirtual 110, 3), (114, .ireturn, 1), (115, .aload_n 3, 1), (116, .invokevirtual 114, 3), (119, .ireturn, 1), (120, .aload_n 3, 1), (121, .invokevirtual 118, 3), (124, .ireturn, 1), (125, .aload_n 3, 1), (126, .invokevirtual 121, 3), (129, .ireturn, 1), (130, .ldc 73, 2), (132, .ireturn, 1)]
def cdX7_as : List (Nat × Instr × Nat) := [(0, .aload_n 0, 1), (1, .iload_n 1, 1), (2, .invokevirtual 82, 3), (5, .ifCond .eq 10, 3), (8, .iload_n 2, 1), (9, .invokestatic 65, 3), (12, .ifCond .ne 6, 3), (15, .ldc 73, 2), (17, .ireturn, 1), (18, .aload_n 0, 1), (19, .getfield 10, 3), (22, .getfield 85, 3), (25, .iload_n 1, 1), (26, .aaload, 1), (27, .astore_n 3, 1), (28, .aload_n 3, 1), (29, .iload_n 2, 1), (30, .invokevirtual 124, 3), (33, .ifCond .eq 10, 3), (36, .aload_n 3, 1), (37, .getfield 100, 3), (40, .goto 5, 3), (43, .ldc 127, 2), (45, .ireturn, 1)]
def cdX7_turns : List (Nat × Instr × Nat) := [(0, .aload_n 0, 1), (1, .iload_n 1, 1), (2, .invokevirtual 82, 3), (5, .ifCond .eq 10, 3), (8, .iload_n 2, 1), (9, .invokestatic 65, 3), (12, .ifCond .ne 6, 3), (15, .ldc 73, 2), (17, .ireturn, 1), (18, .aload_n 0, 1), (19, .getfield 10, 3), (22, .getfield 85, 3), (25, .iload_n 1, 1), (26, .aaload, 1), (27, .getfield 89, 3), (30, .istore_n 3, 1), (31, .aload_n 0, 1), (32, .getfield 10, 3), (35, .getfield 85, 3), (38, .iload_n 1, 1), (39, .aaload, 1), (40, .iload_n 2, 1), (41, .putfield 89, 3), (44, .iload_n 3, 1), (45, .ireturn, 1)]
def cdX7_set : List (Nat × Instr × Nat) := [(0, .aload_n 0, 1), (1, .iload_n 1, 1), (2, .invokevirtual 82, 3), (5, .ifCond .eq 24, 3), (8, .iload_n 2, 1), (9, .iconst 1, 1), (10, .iconst 4, 1), (11, .invokestatic 69, 3), (14, .ifCond .eq 15, 3), (17, .iload_n 3, 1), (18, .iconst 0, 1), (19, .iload_n 2, 1), (20, .invokestatic 128, 3), (23, .invokestatic 69, 3), (26, .ifCond .ne 6, 3), (29, .ldc 73, 2), (31, .ireturn, 1), (32, .aload_n 0, 1), (33, .getfield 10, 3), (36, .getfield 85, 3), (39, .iload_n 1, 1), (40, .aaload, 1), (41, .astore 4, 2), (43, .iload_n 2, 1), (44, .tableswitch 76 1 3 #[28, 44, 60], 28), (72, .aload 4, 2), (74, .getfield 94, 3), (77, .istore 5, 2), (79, .aload 4, 2), (81, .iload_n 3, 1), (82, .putfield 94, 3), (85, .iload 5, 2), (87, .ireturn, 1), (88, .aload 4, 2), (90, .getfield 97, 3), (93, .istore 5, 2), (95, .aload 4, 2), (97, .iload_n 3, 1), (98, .putfield 97, 3), (101, .iload 5, 2), (103, .ireturn, 1), (104, .aload 4, 2), (106, .getfield 100, 3), (109, .istore 5, 2), (111, .aload 4, 2), (113, .iload_n 3, 1), (114, .putfield 100, 3), (117, .iload 5, 2), (119, .ireturn, 1), (120, .aload 4, 2), (122, .getfield 103, 3), (125, .istore 5, 2), (127, .aload 4, 2), (129, .iload_n 3, 1), (130, .putfield 103, 3), (133, .iload 5, 2), (135, .ireturn, 1)]
def cdX7_rule : List (Nat × Instr × Nat) := [(0, .iload_n 1, 1), (1, .ifCond .ne 31, 3), (4, .iload_n 2, 1), (5, .iconst 0, 1), (6, .bipush 10, 2), (8, .invokestatic 69, 3), (11, .ifCond .eq 21, 3), (14, .aload_n 0, 1), (15, .getfield 10, 3), (18, .getfield 132, 3), (21, .istore_n 3, 1), (22, .aload_n 0, 1), (23, .getfield 10, 3), (26, .iload_n 2, 1), (27, .putfield 132, 3), (30, .iload_n 3, 1), (31, .ireturn, 1), (32, .iload_n 1, 1), (33, .iconst 1, 1), (34, .if_icmp .ne 31, 3), (37, .iload_n 2, 1), (38, .iconst 0, 1), (39, .bipush 100, 2), (41, .invokestatic 69, 3), (44, .ifCond .eq 21, 3), (47, .aload_n 0, 1), (48, .getfield 10, 3), (51, .getfield 135, 3), (54, .istore_n 3, 1), (55, .aload_n 0, 1), (56, .getfield 10, 3), (59, .iload_n 2, 1), (60, .putfield 135, 3), (63, .iload_n 3, 1), (64, .ireturn, 1), (65, .ldc 73, 2), (67, .ireturn, 1)]
def cdX7_deal : List (Nat × Instr × Nat) := [(0, .iload_n 1, 1), (1, .iconst 1, 1), (2, .bipush 10, 2), (4, .invokestatic 69, 3), (7, .ifCond .ne 6, 3), (10, .ldc 73, 2), (12, .ireturn, 1), (13, .iload_n 1, 1), (14, .bipush 10, 2), (16, .aload_n 0, 1), (17, .getfield 10, 3), (20, .getfield 74, 3), (23, .isub, 1), (24, .invokestatic 138, 3), (27, .istore_n 2, 1), (28, .iconst 0, 1), (29, .istore_n 3, 1), (30, .iload_n 3, 1), (31, .iload_n 2, 1), (32, .if_icmp .ge 16, 3), (35, .aload_n 0, 1), (36, .getfield 10, 3), (39, .invokevirtual 144, 3), (42, .iinc 3 1, 3), (45, .goto (-15), 3), (48, .iload_n 2, 1), (49, .ireturn, 1)]
def cdX7_seed : List (Nat × Instr × Nat) := [(0, .aload_n 0, 1), (1, .getfield 10, 3), (4, .getfield 147, 3), (7, .istore_n 2, 1), (8, .aload_n 0, 1), (9, .getfield 10, 3), (12, .iload_n 1, 1), (13, .putfield 147, 3), (16, .iload_n 2, 1), (17, .ireturn, 1)]
def cdX7_fewest : List (Nat × Instr × Nat) := [(0, .iload_n 1, 1), (1, .iconst 0, 1), (2, .sipush 999, 3), (5, .invokestatic 69, 3), (8, .ifCond .eq 12, 3), (11, .iload_n 2, 1), (12, .iconst 0, 1), (13, .iconst 1, 1), (14, .invokestatic 69, 3), (17, .ifCond .ne 6, 3), (20, .ldc 73, 2), (22, .ireturn, 1), (23, .aload_n 0, 1), (24, .getfield 10, 3), (27, .iload_n 1, 1), (28, .invokevirtual 150, 3), (31, .istore_n 3, 1), (32, .iload_n 3, 1), (33, .ifCond .ge 6, 3), (36, .ldc 153, 2), (38, .ireturn, 1), (39, .iload_n 2, 1), (40, .ifCond .ne 7, 3), (43, .iload_n 3, 1), (44, .goto 7, 3), (47, .iload_n 3, 1), (48, .invokestatic 154, 3), (51, .ireturn, 1)]
def cdX7_sits : List (Nat × Instr × Nat) := [(0, .iload_n 1, 1), (1, .iconst 0, 1), (2, .iconst 1, 1), (3, .aload_n 0, 1), (4, .getfield 10, 3), (7, .getfield 74, 3), (10, .ishl, 1), (11, .iconst 1, 1), (12, .isub, 1), (13, .invokestatic 69, 3), (16, .ifCond .ne 6, 3), (19, .ldc 73, 2), (21, .ireturn, 1), (22, .aload_n 0, 1), (23, .getfield 10, 3), (26, .iload_n 1, 1), (27, .invokevirtual 159, 3), (30, .ireturn, 1)]
def cdX7_evenings : List (Nat × Instr × Nat) := [(0, .iload_n 1, 1), (1, .iconst 1, 1), (2, .bipush 100, 2), (4, .invokestatic 69, 3), (7, .ifCond .ne 6, 3), (10, .ldc 73, 2), (12, .ireturn, 1), (13, .aload_n 0, 1), (14, .getfield 10, 3), (17, .getfield 162, 3), (20, .istore_n 2, 1), (21, .aload_n 0, 1), (22, .getfield 10, 3), (25, .iload_n 1, 1), (26, .sipush 9999, 3), (29, .aload_n 0, 1), (30, .getfield 10, 3), (33, .getfield 165, 3), (36, .isub, 1), (37, .invokestatic 138, 3), (40, .aload_n 0, 1), (41, .aload_n 0, 1), (42, .getfield 10, 3), (45, .iconst 0, 1), (46, .invokevirtual 106, 3), (49, .invokevirtual 168, 3), (52, .aload_n 0, 1), (53, .getfield 10, 3), (56, .getfield 162, 3), (59, .iload_n 2, 1), (60, .isub, 1), (61, .ireturn, 1)]
def cdX7_house : List (Nat × Instr × Nat) := [(0, .iload_n 1, 1), (1, .iconst 0, 1), (2, .iconst 4, 1), (3, .invokestatic 69, 3), (6, .ifCond .eq 12, 3), (9, .aload_n 0, 1), (10, .getfield 10, 3), (13, .iload_n 1, 1), (14, .invokevirtual 172, 3), (17, .ireturn, 1), (18, .iload_n 1, 1), (19, .iconst 5, 1), (20, .if_icmp .ne 11, 3), (23, .aload_n 0, 1), (24, .getfield 10, 3), (27, .invokevirtual 175, 3), (30, .ireturn, 1), (31, .iload_n 1, 1), (32, .bipush 6, 2), (34, .if_icmp .eq 6, 3), (37, .ldc 73, 2), (39, .ireturn, 1), (40, .aload_n 0, 1), (41, .getfield 10, 3), (44, .aload_n 0, 1), (45, .getfield 10, 3), (48, .getfield 178, 3), (51, .invokevirtual 181, 3), (54, .istore_n 2, 1), (55, .iload_n 2, 1), (56, .ifCond .ge 8, 3), (59, .ldc 153, 2), (61, .goto 4, 3), (64, .iload_n 2, 1), (65, .ireturn, 1)]
def cdX7_behind : List (Nat × Instr × Nat) := [(0, .iload_n 1, 1), (1, .iconst 0, 1), (2, .bipush 100, 2), (4, .invokestatic 69, 3), (7, .ifCond .eq 20, 3), (10, .iload_n 2, 1), (11, .iconst 0, 1), (12, .iconst 4, 1), (13, .aload_n 0, 1), (14, .getfield 10, 3), (17, .getfield 74, 3), (20, .iadd, 1), (21, .invokestatic 69, 3), (24, .ifCond .ne 6, 3), (27, .ldc 73, 2), (29, .ireturn, 1), (30, .aload_n 0, 1), (31, .getfield 16, 3), (34, .aload_n 0, 1), (35, .getfield 10, 3), (38, .invokevirtual 184, 3), (41, .aload_n 0, 1), (42, .getfield 16, 3), (45, .iload_n 1, 1), (46, .aload_n 0, 1), (47, .aload_n 0, 1), (48, .getfield 10, 3), (51, .iconst 0, 1), (52, .invokevirtual 106, 3), (55, .invokevirtual 168, 3), (58, .iload_n 2, 1), (59, .iconst 5, 1), (60, .if_icmp .ge 14, 3), (63, .aload_n 0, 1), (64, .getfield 16, 3), (67, .iload_n 2, 1), (68, .invokevirtual 172, 3), (71, .goto 17, 3), (74, .aload_n 0, 1), (75, .getfield 16, 3), (78, .getfield 85, 3), (81, .iload_n 2, 1), (82, .iconst 5, 1), (83, .isub, 1), (84, .aaload, 1), (85, .getfield 103, 3), (88, .ireturn, 1)]
def cdX7_meets : List (Nat × Instr × Nat) := [(0, .aload_n 0, 1), (1, .iload_n 1, 1), (2, .invokevirtual 82, 3), (5, .ifCond .eq 16, 3), (8, .aload_n 0, 1), (9, .iload_n 2, 1), (10, .invokevirtual 82, 3), (13, .ifCond .eq 8, 3), (16, .iload_n 1, 1), (17, .iload_n 2, 1), (18, .if_icmp .ne 6, 3), (21, .ldc 73, 2), (23, .ireturn, 1), (24, .iconst 1, 1), (25, .iload_n 1, 1), (26, .ishl, 1), (27, .iconst 1, 1), (28, .iload_n 2, 1), (29, .ishl, 1), (30, .ior, 1), (31, .istore_n 3, 1), (32, .aload_n 0, 1), (33, .aload_n 0, 1), (34, .getfield 10, 3), (37, .iconst 0, 1), (38, .invokevirtual 106, 3), (41, .astore 4, 2), (43, .aload_n 0, 1), (44, .getfield 16, 3), (47, .aload_n 0, 1), (48, .getfield 10, 3), (51, .invokevirtual 184, 3), (54, .iconst 1, 1), (55, .istore 5, 2), (57, .iload 5, 2), (59, .sipush 200, 3), (62, .if_icmp .gt 35, 3), (65, .aload_n 0, 1), (66, .getfield 16, 3), (69, .iconst 1, 1), (70, .aload 4, 2), (72, .invokevirtual 168, 3), (75, .aload_n 0, 1), (76, .getfield 16, 3), (79, .getfield 178, 3), (82, .iload_n 3, 1), (83, .iand, 1), (84, .iload_n 3, 1), (85, .if_icmp .ne 6, 3), (88, .iload 5, 2), (90, .ireturn, 1), (91, .iinc 5 1, 3), (94, .goto (-37), 3), (97, .ldc 153, 2), (99, .ireturn, 1)]
def cdX7_door : List (Nat × Instr × Nat) := [(0, .iload_n 1, 1), (1, .iconst 1, 1), (2, .bipush 60, 2), (4, .invokestatic 69, 3), (7, .ifCond .eq 12, 3), (10, .iload_n 2, 1), (11, .iconst 0, 1), (12, .iconst 1, 1), (13, .invokestatic 69, 3), (16, .ifCond .ne 6, 3), (19, .ldc 73, 2), (21, .ireturn, 1), (22, .aload_n 0, 1), (23, .getfield 10, 3), (26, .getfield 74, 3), (29, .ifCond .ne 6, 3), (32, .ldc 153, 2), (34, .ireturn, 1), (35, .aload_n 0, 1), (36, .aload_n 0, 1), (37, .getfield 10, 3), (40, .iconst 0, 1), (41, .invokevirtual 106, 3), (44, .astore_n 3, 1), (45, .iconst 0, 1), (46, .istore 4, 2), (48, .iconst (-1), 1), (49, .istore 5, 2), (51, .iconst 0, 1), (52, .istore 6, 2), (54, .iload 6, 2), (56, .aload_n 0, 1), (57, .getfield 10, 3), (60, .getfield 74, 3), (63, .if_icmp .ge 68, 3), (66, .aload_n 0, 1), (67, .getfield 16, 3), (70, .aload_n 0, 1), (71, .getfield 10, 3), (74, .invokevirtual 184, 3), (77, .aload_n 0, 1), (78, .getfield 16, 3), (81, .getfield 85, 3), (84, .iload 6, 2), (86, .aaload, 1), (87, .iconst 0, 1), (88, .putfield 97, 3), (91, .aload_n 0, 1), (92, .getfield 16, 3), (95, .iload_n 1, 1), (96, .aload_n 3, 1), (97, .invokevirtual 168, 3), (100, .aload_n 0, 1), (101, .getfield 16, 3), (104, .getfield 188, 3), (107, .iload 5, 2), (109, .if_icmp .le 16, 3), (112, .aload_n 0, 1), (113, .getfield 16, 3), (116, .getfield 188, 3), (119, .istore 5, 2), (121, .iload 6, 2), (123, .istore 4, 2), (125, .iinc 6 1, 3), (128, .goto (-74), 3), (131, .iload_n 2, 1), (132, .ifCond .ne 8, 3), (135, .iload 4, 2), (137, .goto 5, 3), (140, .iload 5, 2), (142, .ireturn, 1)]
def cdX7_never : List (Nat × Instr × Nat) := [(0, .iload_n 1, 1), (1, .iconst 1, 1), (2, .bipush 60, 2), (4, .invokestatic 69, 3), (7, .ifCond .eq 12, 3), (10, .iload_n 2, 1), (11, .iconst 0, 1), (12, .iconst 1, 1), (13, .invokestatic 69, 3), (16, .ifCond .ne 6, 3), (19, .ldc 73, 2), (21, .ireturn, 1), (22, .aload_n 0, 1), (23, .aload_n 0, 1), (24, .getfield 10, 3), (27, .iconst 0, 1), (28, .invokevirtual 106, 3), (31, .astore_n 3, 1), (32, .iconst 0, 1), (33, .istore 4, 2), (35, .iconst (-1), 1), (36, .istore 5, 2), (38, .iconst 0, 1), (39, .istore 6, 2), (41, .iload 6, 2), (43, .bipush 10, 2), (45, .if_icmp .gt 63, 3), (48, .aload_n 0, 1), (49, .getfield 16, 3), (52, .aload_n 0, 1), (53, .getfield 10, 3), (56, .invokevirtual 184, 3), (59, .aload_n 0, 1), (60, .getfield 16, 3), (63, .iload 6, 2), (65, .putfield 132, 3), (68, .aload_n 0, 1), (69, .getfield 16, 3), (72, .iload_n 1, 1), (73, .aload_n 3, 1), (74, .invokevirtual 168, 3), (77, .aload_n 0, 1), (78, .getfield 16, 3), (81, .getfield 188, 3), (84, .iload 5, 2), (86, .if_icmp .le 16, 3), (89, .aload_n 0, 1), (90, .getfield 16, 3), (93, .getfield 188, 3), (96, .istore 5, 2), (98, .iload 6, 2), (100, .istore 4, 2), (102, .iinc 6 1, 3), (105, .goto (-64), 3), (108, .iload_n 2, 1), (109, .ifCond .ne 8, 3), (112, .iload 4, 2), (114, .goto 5, 3), (117, .iload 5, 2), (119, .ireturn, 1)]
def cdX7_becomes : List (Nat × Instr × Nat) := [(0, .aload_n 0, 1), (1, .iload_n 1, 1), (2, .invokevirtual 82, 3), (5, .ifCond .eq 22, 3), (8, .iload_n 2, 1), (9, .iconst 1, 1), (10, .bipush 60, 2), (12, .invokestatic 69, 3), (15, .ifCond .eq 12, 3), (18, .iload_n 3, 1), (19, .iconst 0, 1), (20, .iconst 1, 1), (21, .invokestatic 69, 3), (24, .ifCond .ne 6, 3), (27, .ldc 73, 2), (29, .ireturn, 1), (30, .aload_n 0, 1), (31, .aload_n 0, 1), (32, .getfield 10, 3), (35, .iconst 0, 1), (36, .invokevirtual 106, 3), (39, .astore 4, 2), (41, .iconst 0, 1), (42, .istore 5, 2), (44, .iconst (-1), 1), (45, .istore 6, 2), (47, .iconst 0, 1), (48, .istore 7, 2), (50, .iload 7, 2), (52, .bipush 6, 2), (54, .if_icmp .ge 69, 3), (57, .aload_n 0, 1), (58, .getfield 16, 3), (61, .aload_n 0, 1), (62, .getfield 10, 3), (65, .invokevirtual 184, 3), (68, .aload_n 0, 1), (69, .getfield 16, 3), (72, .getfield 85, 3), (75, .iload_n 1, 1), (76, .aaload, 1), (77, .iload 7, 2), (79, .putfield 89, 3), (82, .aload_n 0, 1), (83, .getfield 16, 3), (86, .iload_n 2, 1), (87, .aload 4, 2), (89, .invokevirtual 168, 3), (92, .aload_n 0, 1), (93, .getfield 16, 3), (96, .getfield 188, 3), (99, .iload 6, 2), (101, .if_icmp .le 16, 3), (104, .aload_n 0, 1), (105, .getfield 16, 3), (108, .getfield 188, 3), (111, .istore 6, 2), (113, .iload 7, 2), (115, .istore 5, 2), (117, .iinc 7 1, 3), (120, .goto (-70), 3), (123, .iload_n 3, 1), (124, .ifCond .ne 8, 3), (127, .iload 5, 2), (129, .goto 5, 3), (132, .iload 6, 2), (134, .ireturn, 1)]
def cdX7_like : List (Nat × Instr × Nat) := [(0, .iload_n 1, 1), (1, .invokestatic 191, 3), (4, .ifCond .eq 12, 3), (7, .iload_n 2, 1), (8, .iconst 0, 1), (9, .iconst 1, 1), (10, .invokestatic 69, 3), (13, .ifCond .ne 6, 3), (16, .ldc 73, 2), (18, .ireturn, 1), (19, .aload_n 0, 1), (20, .getfield 41, 3), (23, .iload_n 1, 1), (24, .aaload, 1), (25, .invokevirtual 194, 3), (28, .ifCond .eq 6, 3), (31, .ldc 198, 2), (33, .ireturn, 1), (34, .aload_n 0, 1), (35, .getfield 10, 3), (38, .getfield 74, 3), (41, .ifCond .ne 6, 3), (44, .ldc 153, 2), (46, .ireturn, 1), (47, .aload_n 0, 1), (48, .aload_n 0, 1), (49, .getfield 41, 3), (52, .iload_n 1, 1), (53, .aaload, 1), (54, .invokevirtual 199, 3), (57, .iconst 0, 1), (58, .istore_n 3, 1), (59, .iconst 1, 1), (60, .istore 4, 2), (62, .iload 4, 2), (64, .aload_n 0, 1), (65, .getfield 10, 3), (68, .getfield 74, 3), (71, .if_icmp .ge 28, 3), (74, .aload_n 0, 1), (75, .getfield 59, 3), (78, .iload 4, 2), (80, .iaload, 1), (81, .aload_n 0, 1), (82, .getfield 59, 3), (85, .iload_n 3, 1), (86, .iaload, 1), (87, .if_icmp .ge 6, 3), (90, .iload 4, 2), (92, .istore_n 3, 1), (93, .iinc 4 1, 3), (96, .goto (-34), 3), (99, .iload_n 2, 1), (100, .ifCond .ne 7, 3), (103, .iload_n 3, 1), (104, .goto 9, 3), (107, .aload_n 0, 1), (108, .getfield 59, 3), (111, .iload_n 3, 1), (112, .iaload, 1), (113, .ireturn, 1)]
def cdX7_fee : List (Nat × Instr × Nat) := [(0, .aload_n 0, 1), (1, .aload_n 0, 1), (2, .getfield 10, 3), (5, .iconst 1, 1), (6, .invokevirtual 106, 3), (9, .astore_n 1, 1), (10, .aload_n 1, 1), (11, .ifnonnull 13, 3), (14, .aload_n 0, 1), (15, .getfield 10, 3), (18, .getfield 162, 3), (21, .goto 23, 3), (24, .aload_n 1, 1), (25, .aload_n 0, 1), (26, .getfield 10, 3), (29, .getfield 162, 3), (32, .aload_n 0, 1), (33, .getfield 10, 3), (36, .getfield 203, 3), (39, .iconst 0, 1), (40, .iconst 0, 1), (41, .invokevirtual 206, 3), (44, .ireturn, 1)]
def cdX7_fine : List (Nat × Instr × Nat) := [(0, .aload_n 0, 1), (1, .iload_n 1, 1), (2, .invokevirtual 82, 3), (5, .ifCond .ne 6, 3), (8, .ldc 73, 2), (10, .ireturn, 1), (11, .aload_n 0, 1), (12, .getfield 10, 3), (15, .getfield 85, 3), (18, .iload_n 1, 1), (19, .aaload, 1), (20, .astore_n 2, 1), (21, .aload_n 0, 1), (22, .aload_n 0, 1), (23, .getfield 10, 3), (26, .iconst 2, 1), (27, .invokevirtual 106, 3), (30, .astore_n 3, 1), (31, .aload_n 3, 1), (32, .ifnonnull 10, 3), (35, .aload_n 2, 1), (36, .getfield 100, 3), (39, .goto 17, 3), (42, .aload_n 3, 1), (43, .aload_n 2, 1), (44, .getfield 94, 3), (47, .aload_n 2, 1), (48, .getfield 100, 3), (51, .iconst 0, 1), (52, .iconst 0, 1), (53, .invokevirtual 206, 3), (56, .ireturn, 1)]
def cdX7_feed : List (Nat × Instr × Nat) := [(0, .aload_n 0, 1), (1, .getfield 35, 3), (4, .getfield 209, 3), (7, .astore 4, 2), (9, .aload 4, 2), (11, .getfield 213, 3), (14, .bipush 12, 2), (16, .iadd, 1), (17, .bipush 96, 2), (19, .if_icmp .le 6, 3), (22, .ldc 77, 2), (24, .ireturn, 1), (25, .aload 4, 2), (27, .iload_n 1, 1), (28, .invokevirtual 218, 3), (31, .aload 4, 2), (33, .iload_n 2, 1), (34, .invokevirtual 218, 3), (37, .aload 4, 2), (39, .iload_n 3, 1), (40, .invokevirtual 218, 3), (43, .aload 4, 2), (45, .getfield 213, 3), (48, .ireturn, 1)]
def cdX7_trim : List (Nat × Instr × Nat) := [(0, .iload_n 1, 1), (1, .iconst 0, 1), (2, .aload_n 0, 1), (3, .getfield 35, 3), (6, .getfield 209, 3), (9, .getfield 213, 3), (12, .invokestatic 69, 3), (15, .ifCond .ne 6, 3), (18, .ldc 73, 2), (20, .ireturn, 1), (21, .aload_n 0, 1), (22, .getfield 35, 3), (25, .getfield 209, 3), (28, .iload_n 1, 1), (29, .putfield 213, 3), (32, .iload_n 1, 1), (33, .ireturn, 1)]
def cdX7_text : List (Nat × Instr × Nat) := [(0, .aload_n 0, 1), (1, .getfield 10, 3), (4, .getfield 222, 3), (7, .iconst 0, 1), (8, .bipush 14, 2), (10, .invokestatic 225, 3), (13, .istore_n 1, 1), (14, .aload_n 0, 1), (15, .getfield 28, 3), (18, .iload_n 1, 1), (19, .aaload, 1), (20, .astore_n 2, 1), (21, .aload_n 0, 1), (22, .getfield 35, 3), (25, .aload_n 2, 1), (26, .invokevirtual 229, 3), (29, .istore_n 3, 1), (30, .aload_n 0, 1), (31, .getfield 35, 3), (34, .getfield 209, 3), (37, .iconst 0, 1), (38, .putfield 213, 3), (41, .iload_n 3, 1), (42, .ifCond .lt 8, 3), (45, .bipush (-100), 2), (47, .iload_n 3, 1), (48, .isub, 1), (49, .ireturn, 1), (50, .iload_n 1, 1), (51, .bipush 14, 2), (53, .if_icmp .ne 6, 3), (56, .ldc 77, 2), (58, .ireturn, 1), (59, .aload_n 0, 1), (60, .getfield 10, 3), (63, .iload_n 1, 1), (64, .iconst 1, 1), (65, .iadd, 1), (66, .putfield 222, 3), (69, .aload_n 0, 1), (70, .getfield 10, 3), (73, .getfield 233, 3), (76, .aload_n 2, 1), (77, .getfield 236, 3), (80, .iload_n 1, 1), (81, .iastore, 1), (82, .iload_n 1, 1), (83, .ireturn, 1)]
def cdX7_textTold : List (Nat × Instr × Nat) := [(0, .iload_n 1, 1), (1, .iconst 0, 1), (2, .aload_n 0, 1), (3, .getfield 10, 3), (6, .getfield 222, 3), (9, .iconst 1, 1), (10, .isub, 1), (11, .invokestatic 69, 3), (14, .ifCond .eq 12, 3), (17, .iload_n 2, 1), (18, .iconst 0, 1), (19, .iconst 1, 1), (20, .invokestatic 69, 3), (23, .ifCond .ne 6, 3), (26, .ldc 73, 2), (28, .ireturn, 1), (29, .iload_n 2, 1), (30, .ifCond .ne 15, 3), (33, .aload_n 0, 1), (34, .getfield 28, 3), (37, .iload_n 1, 1), (38, .aaload, 1), (39, .getfield 236, 3), (42, .goto 12, 3), (45, .aload_n 0, 1), (46, .getfield 28, 3), (49, .iload_n 1, 1), (50, .aaload, 1), (51, .getfield 239, 3), (54, .ireturn, 1)]
def cdX7_why : List (Nat × Instr × Nat) := [(0, .iload_n 1, 1), (1, .iconst 0, 1), (2, .iconst 2, 1), (3, .invokestatic 69, 3), (6, .ifCond .ne 6, 3), (9, .ldc 73, 2), (11, .ireturn, 1), (12, .aload_n 0, 1), (13, .getfield 10, 3), (16, .getfield 233, 3), (19, .iload_n 1, 1), (20, .iaload, 1), (21, .ifCond .ge 8, 3), (24, .ldc 153, 2), (26, .goto 12, 3), (29, .aload_n 0, 1), (30, .getfield 10, 3), (33, .getfield 233, 3), (36, .iload_n 1, 1), (37, .iaload, 1), (38, .ireturn, 1)]
def cdX7_sheet : List (Nat × Instr × Nat) := [(0, .iload_n 1, 1), (1, .invokestatic 191, 3), (4, .ifCond .eq 12, 3), (7, .iload_n 2, 1), (8, .iconst (-1), 1), (9, .iconst 1, 1), (10, .invokestatic 69, 3), (13, .ifCond .ne 6, 3), (16, .ldc 73, 2), (18, .ireturn, 1), (19, .iload_n 2, 1), (20, .iconst (-1), 1), (21, .if_icmp .ne 16, 3), (24, .aload_n 0, 1), (25, .getfield 41, 3), (28, .iload_n 1, 1), (29, .aaload, 1), (30, .iconst (-1), 1), (31, .iconst 0, 1), (32, .invokevirtual 242, 3), (35, .iconst 0, 1), (36, .ireturn, 1), (37, .iload_n 3, 1), (38, .bipush 24, 2), (40, .if_icmp .le 6, 3), (43, .ldc 73, 2), (45, .ireturn, 1), (46, .iload_n 3, 1), (47, .ifCond .ge 6, 3), (50, .ldc 246, 2), (52, .ireturn, 1), (53, .aload_n 0, 1), (54, .getfield 41, 3), (57, .iload_n 1, 1), (58, .aaload, 1), (59, .iload_n 2, 1), (60, .iload_n 3, 1), (61, .invokevirtual 242, 3), (64, .iload_n 3, 1), (65, .ireturn, 1)]
def cdX7_mark : List (Nat × Instr × Nat) := [(0, .iload_n 1, 1), (1, .invokestatic 191, 3), (4, .ifCond .ne 6, 3), (7, .ldc 73, 2), (9, .ireturn, 1), (10, .aload_n 0, 1), (11, .getfield 41, 3), (14, .iload_n 1, 1), (15, .aaload, 1), (16, .astore 4, 2), (18, .aload 4, 2), (20, .invokevirtual 194, 3), (23, .ifCond .eq 6, 3), (26, .ldc 198, 2), (28, .ireturn, 1), (29, .aload 4, 2), (31, .iload_n 2, 1), (32, .invokevirtual 247, 3), (35, .ifCond .ne 6, 3), (38, .ldc 250, 2), (40, .ireturn, 1), (41, .aload 4, 2), (43, .getfield 251, 3), (46, .ifCond .ne 23, 3), (49, .iload_n 3, 1), (50, .ldc 153, 2), (52, .if_icmp .ne 6, 3), (55, .ldc 127, 2), (57, .ireturn, 1), (58, .aload 4, 2), (60, .getfield 254, 3), (63, .iload_n 2, 1), (64, .iload_n 3, 1), (65, .i2s, 1), (66, .iastore, 1), (67, .iconst 1, 1), (68, .ireturn, 1), (69, .iload_n 3, 1), (70, .ldc 153, 2), (72, .if_icmp .eq 19, 3), (75, .iload_n 3, 1), (76, .ldc_w 257, 3), (79, .ldc_w 258, 3), (82, .invokestatic 69, 3), (85, .ifCond .ne 6, 3), (88, .ldc 73, 2), (90, .ireturn, 1), (91, .aload 4, 2), (93, .getfield 254, 3), (96, .iload_n 2, 1), (97, .iload_n 3, 1), (98, .iastore, 1), (99, .iconst 1, 1), (100, .ireturn, 1)]
def cdX7_pour : List (Nat × Instr × Nat) := [(0, .iload_n 1, 1), (1, .invokestatic 191, 3), (4, .ifCond .ne 6, 3), (7, .ldc 73, 2), (9, .ireturn, 1), (10, .aload_n 0, 1), (11, .getfield 41, 3), (14, .iload_n 1, 1), (15, .aaload, 1), (16, .astore_n 2, 1), (17, .aload_n 2, 1), (18, .invokevirtual 194, 3), (21, .ifCond .eq 6, 3), (24, .ldc 198, 2), (26, .ireturn, 1), (27, .iconst 0, 1), (28, .istore_n 3, 1), (29, .iconst 0, 1), (30, .istore 4, 2), (32, .iload 4, 2), (34, .aload_n 0, 1), (35, .getfield 10, 3), (38, .getfield 74, 3), (41, .if_icmp .ge 74, 3), (44, .aload_n 2, 1), (45, .iload 4, 2), (47, .invokevirtual 259, 3), (50, .ifCond .eq 59, 3), (53, .aload_n 2, 1), (54, .getfield 254, 3), (57, .iload 4, 2), (59, .iaload, 1), (60, .iconst 0, 1), (61, .bipush 100, 2), (63, .invokestatic 225, 3), (66, .istore 5, 2), (68, .iload_n 3, 1), (69, .iload 5, 2), (71, .aload_n 0, 1), (72, .getfield 10, 3), (75, .getfield 85, 3), (78, .iload 4, 2), (80, .aaload, 1), (81, .getfield 94, 3), (84, .if_icmp .ne 7, 3), (87, .iconst 0, 1), (88, .goto 4, 3), (91, .iconst 1, 1), (92, .iadd, 1), (93, .istore_n 3, 1), (94, .aload_n 0, 1), (95, .getfield 10, 3), (98, .getfield 85, 3), (101, .iload 4, 2), (103, .aaload, 1), (104, .iload 5, 2), (106, .putfield 94, 3), (109, .iinc 4 1, 3), (112, .goto (-80), 3), (115, .iload_n 3, 1), (116, .ireturn, 1)]
def cdX7_reads : List (Nat × Instr × Nat) := [(0, .iload_n 1, 1), (1, .invokestatic 191, 3), (4, .ifCond .ne 6, 3), (7, .ldc 73, 2), (9, .ireturn, 1), (10, .aload_n 0, 1), (11, .getfield 41, 3), (14, .iload_n 1, 1), (15, .aaload, 1), (16, .astore_n 2, 1), (17, .aload_n 2, 1), (18, .invokevirtual 194, 3), (21, .ifCond .eq 6, 3), (24, .ldc 198, 2), (26, .ireturn, 1), (27, .iconst 0, 1), (28, .istore_n 3, 1), (29, .iload_n 3, 1), (30, .aload_n 2, 1), (31, .getfield 262, 3), (34, .if_icmp .ge 48, 3), (37, .aload_n 2, 1), (38, .iload_n 3, 1), (39, .invokevirtual 259, 3), (42, .ifCond .eq 34, 3), (45, .aload_n 0, 1), (46, .iload_n 3, 1), (47, .invokevirtual 82, 3), (50, .ifCond .eq 24, 3), (53, .aload_n 2, 1), (54, .getfield 254, 3), (57, .iload_n 3, 1), (58, .iaload, 1), (59, .aload_n 0, 1), (60, .getfield 10, 3), (63, .getfield 85, 3), (66, .iload_n 3, 1), (67, .aaload, 1), (68, .getfield 97, 3), (71, .if_icmp .eq 5, 3), (74, .iload_n 3, 1), (75, .ireturn, 1), (76, .iinc 3 1, 3), (79, .goto (-50), 3), (82, .ldc 153, 2), (84, .ireturn, 1)]
def cdX7_copy : List (Nat × Instr × Nat) := [(0, .iload_n 1, 1), (1, .invokestatic 191, 3), (4, .ifCond .eq 10, 3), (7, .iload_n 3, 1), (8, .invokestatic 191, 3), (11, .ifCond .ne 6, 3), (14, .ldc 73, 2), (16, .ireturn, 1), (17, .aload_n 0, 1), (18, .getfield 41, 3), (21, .iload_n 1, 1), (22, .aaload, 1), (23, .astore 6, 2), (25, .aload_n 0, 1), (26, .getfield 41, 3), (29, .iload_n 3, 1), (30, .aaload, 1), (31, .astore 7, 2), (33, .aload 6, 2), (35, .invokevirtual 194, 3), (38, .ifCond .ne 11, 3), (41, .aload 7, 2), (43, .invokevirtual 194, 3), (46, .ifCond .eq 6, 3), (49, .ldc 198, 2), (51, .ireturn, 1), (52, .aload 6, 2), (54, .getfield 251, 3), (57, .aload 7, 2), (59, .getfield 251, 3), (62, .if_icmp .eq 6, 3), (65, .ldc 127, 2), (67, .ireturn, 1), (68, .aload 6, 2), (70, .iload_n 2, 1), (71, .iload 5, 2), (73, .invokevirtual 263, 3), (76, .ifCond .eq 15, 3), (79, .aload 7, 2), (81, .iload 4, 2), (83, .iload 5, 2), (85, .invokevirtual 263, 3), (88, .ifCond .ne 6, 3), (91, .ldc 250, 2), (93, .ireturn, 1), (94, .aload 6, 2), (96, .getfield 254, 3), (99, .iload_n 2, 1), (100, .aload 7, 2), (102, .getfield 254, 3), (105, .iload 4, 2), (107, .iload 5, 2), (109, .invokestatic 267, 3), (112, .iload 5, 2), (114, .ireturn, 1)]
def cdX7_lay : List (Nat × Instr × Nat) := [(0, .iload_n 1, 1), (1, .invokestatic 273, 3), (4, .ifCond .eq 12, 3), (7, .iload_n 2, 1), (8, .iconst 0, 1), (9, .iconst 3, 1), (10, .invokestatic 69, 3), (13, .ifCond .ne 6, 3), (16, .ldc 73, 2), (18, .ireturn, 1), (19, .iload_n 2, 1), (20, .iconst 1, 1), (21, .if_icmp .ne 11, 3), (24, .aload_n 0, 1), (25, .iload_n 3, 1), (26, .invokevirtual 82, 3), (29, .ifCond .eq 15, 3), (32, .iload_n 2, 1), (33, .iconst 2, 1), (34, .if_icmp .ne 13, 3), (37, .iload_n 3, 1), (38, .invokestatic 191, 3), (41, .ifCond .ne 6, 3), (44, .ldc 73, 2), (46, .ireturn, 1), (47, .iload_n 2, 1), (48, .iconst 2, 1), (49, .if_icmp .ne 18, 3), (52, .aload_n 0, 1), (53, .getfield 41, 3), (56, .iload_n 3, 1), (57, .aaload, 1), (58, .invokevirtual 194, 3), (61, .ifCond .eq 6, 3), (64, .ldc 198, 2), (66, .ireturn, 1), (67, .aload_n 0, 1), (68, .getfield 47, 3), (71, .iload_n 1, 1), (72, .aaload, 1), (73, .astore 4, 2), (75, .aload 4, 2), (77, .getfield 276, 3), (80, .istore 5, 2), (82, .aload 4, 2), (84, .iload_n 2, 1), (85, .putfield 276, 3), (88, .iload_n 2, 1), (89, .iconst 1, 1), (90, .if_icmp .ne 23, 3), (93, .aload 4, 2), (95, .getfield 279, 3), (98, .aload_n 0, 1), (99, .getfield 10, 3), (102, .getfield 85, 3), (105, .iload_n 3, 1), (106, .aaload, 1), (107, .invokevirtual 283, 3), (110, .goto 36, 3), (113, .iload_n 2, 1), (114, .iconst 2, 1), (115, .if_icmp .ne 20, 3), (118, .aload 4, 2), (120, .getfield 286, 3), (123, .aload_n 0, 1), (124, .getfield 41, 3), (127, .iload_n 3, 1), (128, .aaload, 1), (129, .invokevirtual 290, 3), (132, .goto 14, 3), (135, .iload_n 2, 1), (136, .iconst 3, 1), (137, .if_icmp .ne 9, 3), (140, .aload 4, 2), (142, .iload_n 3, 1), (143, .putfield 292, 3), (146, .iload 5, 2), (148, .ireturn, 1)]
def cdX7_ask : List (Nat × Instr × Nat) := [(0, .iload_n 1, 1), (1, .invokestatic 273, 3), (4, .ifCond .eq 10, 3), (7, .iload_n 2, 1), (8, .invokestatic 65, 3), (11, .ifCond .ne 6, 3), (14, .ldc 73, 2), (16, .ireturn, 1), (17, .aload_n 0, 1), (18, .getfield 47, 3), (21, .iload_n 1, 1), (22, .aaload, 1), (23, .astore_n 3, 1), (24, .aload_n 3, 1), (25, .getfield 276, 3), (28, .ifCond .ne 6, 3), (31, .ldc 198, 2), (33, .ireturn, 1), (34, .aload_n 3, 1), (35, .getfield 276, 3), (38, .iconst 1, 1), (39, .if_icmp .ne 14, 3), (42, .aload_n 3, 1), (43, .getfield 279, 3), (46, .iload_n 2, 1), (47, .invokevirtual 124, 3), (50, .ifCond .ne 6, 3), (53, .ldc 127, 2), (55, .ireturn, 1), (56, .aload_n 3, 1), (57, .getfield 279, 3), (60, .invokevirtual 121, 3), (63, .ireturn, 1)]
def cdX7_item : List (Nat × Instr × Nat) := [(0, .iload_n 1, 1), (1, .invokestatic 273, 3), (4, .ifCond .ne 6, 3), (7, .ldc 73, 2), (9, .ireturn, 1), (10, .aload_n 0, 1), (11, .getfield 47, 3), (14, .iload_n 1, 1), (15, .aaload, 1), (16, .astore_n 3, 1), (17, .aload_n 3, 1), (18, .getfield 276, 3), (21, .ifCond .ne 6, 3), (24, .ldc 198, 2), (26, .ireturn, 1), (27, .aload_n 3, 1), (28, .getfield 276, 3), (31, .iconst 2, 1), (32, .if_icmp .eq 6, 3), (35, .ldc 127, 2), (37, .ireturn, 1), (38, .aload_n 3, 1), (39, .getfield 286, 3), (42, .iload_n 2, 1), (43, .invokevirtual 247, 3), (46, .ifCond .ne 6, 3), (49, .ldc 250, 2), (51, .ireturn, 1), (52, .aload_n 3, 1), (53, .getfield 286, 3), (56, .iload_n 2, 1), (57, .invokevirtual 259, 3), (60, .ifCond .eq 15, 3), (63, .aload_n 3, 1), (64, .getfield 286, 3), (67, .getfield 254, 3), (70, .iload_n 2, 1), (71, .iaload, 1), (72, .goto 5, 3), (75, .ldc 127, 2), (77, .ireturn, 1)]
def cdX7_rest : List (Nat × Instr × Nat) := [(0, .iload_n 1, 1), (1, .invokestatic 273, 3), (4, .ifCond .ne 6, 3), (7, .ldc 73, 2), (9, .ireturn, 1), (10, .aload_n 0, 1), (11, .getfield 47, 3), (14, .iload_n 1, 1), (15, .aaload, 1), (16, .astore_n 3, 1), (17, .aload_n 3, 1), (18, .getfield 276, 3), (21, .ifCond .ne 6, 3), (24, .ldc 198, 2), (26, .ireturn, 1), (27, .aload_n 3, 1), (28, .getfield 276, 3), (31, .iconst 3, 1), (32, .if_icmp .eq 6, 3), (35, .ldc 127, 2), (37, .ireturn, 1), (38, .iload_n 2, 1), (39, .ifCond .ne 9, 3), (42, .ldc_w 295, 3), (45, .goto 9, 3), (48, .aload_n 3, 1), (49, .getfield 292, 3), (52, .iload_n 2, 1), (53, .irem, 1), (54, .ireturn, 1)]
def cdX7_tell : List (Nat × Instr × Nat) := [(0, .aload_n 0, 1), (1, .getfield 55, 3), (4, .iconst 0, 1), (5, .aload_n 0, 1), (6, .getfield 51, 3), (9, .arraylength, 1), (10, .iconst 1, 1), (11, .isub, 1), (12, .invokestatic 69, 3), (15, .ifCond .ne 6, 3), (18, .ldc 77, 2), (20, .ireturn, 1), (21, .aload_n 0, 1), (22, .getfield 51, 3), (25, .aload_n 0, 1), (26, .getfield 55, 3), (29, .iload_n 1, 1), (30, .iastore, 1), (31, .aload_n 0, 1), (32, .dup, 1), (33, .getfield 55, 3), (36, .iconst 1, 1), (37, .iadd, 1), (38, .putfield 55, 3), (41, .aload_n 0, 1), (42, .getfield 55, 3), (45, .ireturn, 1)]
def cdX7_check : List (Nat × Instr × Nat) := [(0, .aload_n 0, 1), (1, .getfield 55, 3), (4, .istore_n 2, 1), (5, .aload_n 0, 1), (6, .iconst 0, 1), (7, .putfield 55, 3), (10, .iload_n 1, 1), (11, .iconst 1, 1), (12, .bipush 30, 2), (14, .invokestatic 69, 3), (17, .ifCond .ne 6, 3), (20, .ldc 73, 2), (22, .ireturn, 1), (23, .aload_n 0, 1), (24, .getfield 22, 3), (27, .ifCond .eq 12, 3), (30, .aload_n 0, 1), (31, .iload_n 1, 1), (32, .iload_n 2, 1), (33, .invokevirtual 296, 3), (36, .goto 6, 3), (39, .ldc_w 295, 3), (42, .ireturn, 1)]
def cdX7_keep : List (Nat × Instr × Nat) := [(0, .aload_n 0, 1), (1, .getfield 19, 3), (4, .aload_n 0, 1), (5, .getfield 10, 3), (8, .invokevirtual 184, 3), (11, .aload_n 0, 1), (12, .iconst 1, 1), (13, .putfield 22, 3), (16, .aload_n 0, 1), (17, .getfield 10, 3), (20, .getfield 74, 3), (23, .ireturn, 1)]
def cdX7_back : List (Nat × Instr × Nat) := [(0, .aload_n 0, 1), (1, .getfield 22, 3), (4, .ifCond .ne 7, 3), (7, .ldc_w 295, 3), (10, .ireturn, 1), (11, .aload_n 0, 1), (12, .getfield 10, 3), (15, .aload_n 0, 1), (16, .getfield 19, 3), (19, .invokevirtual 184, 3), (22, .aload_n 0, 1), (23, .getfield 10, 3), (26, .getfield 74, 3), (29, .ireturn, 1)]
def cdX7_count : List (Nat × Instr × Nat) := [(0, .iload_n 1, 1), (1, .tableswitch 111 0 7 #[47, 55, 63, 71, 79, 87, 92, 103], 47), (48, .aload_n 0, 1), (49, .getfield 10, 3), (52, .getfield 74, 3), (55, .ireturn, 1), (56, .aload_n 0, 1), (57, .getfield 10, 3), (60, .getfield 165, 3), (63, .ireturn, 1), (64, .aload_n 0, 1), (65, .getfield 10, 3), (68, .getfield 132, 3), (71, .ireturn, 1), (72, .aload_n 0, 1), (73, .getfield 10, 3), (76, .getfield 135, 3), (79, .ireturn, 1), (80, .aload_n 0, 1), (81, .getfield 10, 3), (84, .getfield 222, 3), (87, .ireturn, 1), (88, .aload_n 0, 1), (89, .getfield 55, 3), (92, .ireturn, 1), (93, .aload_n 0, 1), (94, .getfield 35, 3), (97, .getfield 209, 3), (100, .getfield 213, 3), (103, .ireturn, 1), (104, .aload_n 0, 1), (105, .getfield 10, 3), (108, .getfield 147, 3), (111, .ireturn, 1), (112, .ldc 73, 2), (114, .ireturn, 1)]
def cdX7_isWithin : List (Nat × Instr × Nat) := [(0, .iload_n 0, 1), (1, .iload_n 1, 1), (2, .if_icmp .lt 12, 3), (5, .iload_n 0, 1), (6, .iload_n 2, 1), (7, .if_icmp .gt 7, 3), (10, .iconst 1, 1), (11, .goto 4, 3), (14, .iconst 0, 1), (15, .ireturn, 1)]
def cdX7_held : List (Nat × Instr × Nat) := [(0, .iload_n 1, 1), (1, .iload_n 0, 1), (2, .iload_n 2, 1), (3, .invokestatic 138, 3), (6, .invokestatic 299, 3), (9, .ireturn, 1)]
def cdX7_isKind : List (Nat × Instr × Nat) := [(0, .iload_n 0, 1), (1, .iconst 0, 1), (2, .iconst 5, 1), (3, .invokestatic 69, 3), (6, .ireturn, 1)]
def cdX7_isSheet : List (Nat × Instr × Nat) := [(0, .iload_n 0, 1), (1, .iconst 0, 1), (2, .iconst 3, 1), (3, .invokestatic 69, 3), (6, .ireturn, 1)]
def cdX7_isSlot : List (Nat × Instr × Nat) := [(0, .iload_n 0, 1), (1, .iconst 0, 1), (2, .iconst 4, 1), (3, .invokestatic 69, 3), (6, .ireturn, 1)]
def cdX7_isPerson : List (Nat × Instr × Nat) := [(0, .iload_n 1, 1), (1, .iconst 0, 1), (2, .aload_n 0, 1), (3, .getfield 10, 3), (6, .getfield 74, 3), (9, .iconst 1, 1), (10, .isub, 1), (11, .invokestatic 69, 3), (14, .ireturn, 1)]
def cdX7_mostOf : List (Nat × Instr × Nat) := [(0, .iload_n 0, 1), (1, .tableswitch 36 1 3 #[27, 30, 33], 27), (28, .bipush 100, 2), (30, .ireturn, 1), (31, .bipush 99, 2), (33, .ireturn, 1), (34, .bipush 99, 2), (36, .ireturn, 1), (37, .sipush 9999, 3), (40, .ireturn, 1)]
def cdX7_lawThatCounts : List (Nat × Instr × Nat) := [(0, .aload_n 1, 1), (1, .getfield 233, 3), (4, .iload_n 2, 1), (5, .iaload, 1), (6, .istore_n 3, 1), (7, .iload_n 3, 1), (8, .iconst 0, 1), (9, .bipush 13, 2), (11, .invokestatic 69, 3), (14, .ifCond .eq 12, 3), (17, .aload_n 0, 1), (18, .getfield 28, 3), (21, .iload_n 3, 1), (22, .aaload, 1), (23, .goto 4, 3), (26, .aconst_null, 1), (27, .areturn, 1)]
def cdX7_sumDifferences : List (Nat × Instr × Nat) := [(0, .aload_n 0, 1), (1, .aload_n 0, 1), (2, .getfield 10, 3), (5, .iconst 0, 1), (6, .invokevirtual 106, 3), (9, .astore_n 2, 1), (10, .iconst 0, 1), (11, .istore_n 3, 1), (12, .iload_n 3, 1), (13, .aload_n 0, 1), (14, .getfield 59, 3), (17, .arraylength, 1), (18, .if_icmp .ge 16, 3), (21, .aload_n 0, 1), (22, .getfield 59, 3), (25, .iload_n 3, 1), (26, .iconst 0, 1), (27, .iastore, 1), (28, .iinc 3 1, 3), (31, .goto (-19), 3), (34, .aload_n 0, 1), (35, .getfield 16, 3), (38, .aload_n 0, 1), (39, .getfield 10, 3), (42, .invokevirtual 184, 3), (45, .iconst 0, 1), (46, .istore_n 3, 1), (47, .iload_n 3, 1), (48, .aload_n 1, 1), (49, .getfield 262, 3), (52, .if_icmp .ge 80, 3), (55, .aload_n 1, 1), (56, .iload_n 3, 1), (57, .invokevirtual 259, 3), (60, .ifCond .eq 57, 3), (63, .iconst 0, 1), (64, .istore 4, 2), (66, .iload 4, 2), (68, .aload_n 0, 1), (69, .getfield 16, 3), (72, .getfield 74, 3), (75, .if_icmp .ge 42, 3), (78, .aload_n 0, 1), (79, .getfield 59, 3), (82, .iload 4, 2), (84, .dup2, 1), (85, .iaload, 1), (86, .aload_n 0, 1), (87, .getfield 16, 3), (90, .getfield 85, 3), (93, .iload 4, 2), (95, .aaload, 1), (96, .getfield 103, 3), (99, .aload_n 1, 1), (100, .getfield 254, 3), (103, .iload_n 3, 1), (104, .iaload, 1), (105, .isub, 1), (106, .invokestatic 302, 3), (109, .iadd, 1), (110, .iastore, 1), (111, .iinc 4 1, 3), (114, .goto (-48), 3), (117, .aload_n 0, 1), (118, .getfield 16, 3), (121, .iconst 1, 1), (122, .aload_n 2, 1), (123, .invokevirtual 168, 3), (126, .iinc 3 1, 3), (129, .goto (-82), 3), (132, .return_, 1)]
def cdX7_firstOtherwise : List (Nat × Instr × Nat) := [(0, .aload_n 0, 1), (1, .aload_n 0, 1), (2, .getfield 19, 3), (5, .iconst 0, 1), (6, .invokevirtual 106, 3), (9, .astore_n 3, 1), (10, .iload_n 1, 1), (11, .sipush 9999, 3), (14, .aload_n 0, 1), (15, .getfield 19, 3), (18, .getfield 165, 3), (21, .isub, 1), (22, .invokestatic 138, 3), (25, .istore 4, 2), (27, .iconst 0, 1), (28, .istore 5, 2), (30, .aload_n 0, 1), (31, .getfield 16, 3), (34, .aload_n 0, 1), (35, .getfield 19, 3), (38, .invokevirtual 184, 3), (41, .iconst 0, 1), (42, .istore 6, 2), (44, .iload 6, 2), (46, .iload 4, 2), (48, .if_icmp .ge 67, 3), (51, .aload_n 0, 1), (52, .getfield 16, 3), (55, .iconst 1, 1), (56, .aload_n 3, 1), (57, .invokevirtual 168, 3), (60, .aload_n 0, 1), (61, .iload 5, 2), (63, .iload_n 2, 1), (64, .aload_n 0, 1), (65, .getfield 16, 3), (68, .getfield 188, 3), (71, .invokevirtual 305, 3), (74, .ifCond .ne 8, 3), (77, .iconst 1, 1), (78, .iload 5, 2), (80, .iadd, 1), (81, .ireturn, 1), (82, .aload_n 0, 1), (83, .iload 5, 2), (85, .iconst 1, 1), (86, .iadd, 1), (87, .iload_n 2, 1), (88, .aload_n 0, 1), (89, .getfield 16, 3), (92, .invokevirtual 308, 3), (95, .invokevirtual 305, 3), (98, .ifCond .ne 8, 3), (101, .iconst 2, 1), (102, .iload 5, 2), (104, .iadd, 1), (105, .ireturn, 1), (106, .iinc 5 2, 3), (109, .iinc 6 1, 3), (112, .goto (-68), 3), (115, .iload 5, 2), (117, .iload_n 2, 1), (118, .if_icmp .ne 7, 3), (121, .iconst 0, 1), (122, .goto 7, 3), (125, .iconst 1, 1), (126, .iload 5, 2), (128, .iadd, 1), (129, .ireturn, 1)]
def cdX7_isNext : List (Nat × Instr × Nat) := [(0, .iload_n 1, 1), (1, .iload_n 2, 1), (2, .if_icmp .ge 26, 3), (5, .iload_n 1, 1), (6, .aload_n 0, 1), (7, .getfield 51, 3), (10, .arraylength, 1), (11, .if_icmp .ge 17, 3), (14, .aload_n 0, 1), (15, .getfield 51, 3), (18, .iload_n 1, 1), (19, .iaload, 1), (20, .iload_n 3, 1), (21, .if_icmp .ne 7, 3), (24, .iconst 1, 1), (25, .goto 4, 3), (28, .iconst 0, 1), (29, .ireturn, 1)]
def cdX8_isIn : List (Nat × Instr × Nat) := [(0, .lload_n 0, 1), (1, .lload_n 2, 1), (2, .lcmp, 1), (3, .ifCond .lt 14, 3), (6, .lload_n 0, 1), (7, .lload 4, 2), (9, .lcmp, 1), (10, .ifCond .gt 7, 3), (13, .iconst 1, 1), (14, .goto 4, 3), (17, .iconst 0, 1), (18, .ireturn, 1)]
def cdX8_orNone : List (Nat × Instr × Nat) := [(0, .iload_n 0, 1), (1, .ifCond .ge 8, 3), (4, .ldc 64, 2), (6, .goto 4, 3), (9, .iload_n 0, 1), (10, .ireturn, 1)]
def cdX8_within : List (Nat × Instr × Nat) := [(0, .iload_n 0, 1), (1, .ifCond .ge 7, 3), (4, .iconst 0, 1), (5, .goto 13, 3), (8, .iload_n 0, 1), (9, .iload_n 1, 1), (10, .if_icmp .le 7, 3), (13, .iload_n 1, 1), (14, .goto 4, 3), (17, .iload_n 0, 1), (18, .ireturn, 1)]
def cdX8_off : List (Nat × Instr × Nat) := [(0, .iload_n 0, 1), (1, .iload_n 1, 1), (2, .if_icmp .ge 9, 3), (5, .iload_n 1, 1), (6, .iload_n 0, 1), (7, .isub, 1), (8, .goto 6, 3), (11, .iload_n 0, 1), (12, .iload_n 1, 1), (13, .isub, 1), (14, .ireturn, 1)]
def cdX8_least : List (Nat × Instr × Nat) := [(0, .iload_n 0, 1), (1, .iload_n 1, 1), (2, .if_icmp .ge 7, 3), (5, .iload_n 0, 1), (6, .goto 4, 3), (9, .iload_n 1, 1), (10, .ireturn, 1)]
def cdX8_changes : List (Nat × Instr × Nat) := [(0, .aload_n 0, 1), (1, .getfield 7, 3), (4, .iload_n 1, 1), (5, .iaload, 1), (6, .istore_n 3, 1), (7, .aload_n 0, 1), (8, .getfield 7, 3), (11, .iload_n 1, 1), (12, .iload_n 2, 1), (13, .iastore, 1), (14, .iload_n 3, 1), (15, .ireturn, 1)]
def cdX8_textAt : List (Nat × Instr × Nat) := [(0, .bipush 60, 2), (2, .sipush 200, 3), (5, .iload_n 1, 1), (6, .imul, 1), (7, .iadd, 1), (8, .ireturn, 1)]
def cdX8_of : List (Nat × Instr × Nat) := [(0, .aload_n 0, 1), (1, .getfield 7, 3), (4, .bipush 10, 2), (6, .iconst 5, 1), (7, .iload_n 1, 1), (8, .imul, 1), (9, .iadd, 1), (10, .iload_n 2, 1), (11, .iadd, 1), (12, .iaload, 1), (13, .ireturn, 1)]
def cdX8_sets : List (Nat × Instr × Nat) := [(0, .aload_n 0, 1), (1, .getfield 7, 3), (4, .bipush 10, 2), (6, .iconst 5, 1), (7, .iload_n 1, 1), (8, .imul, 1), (9, .iadd, 1), (10, .iload_n 2, 1), (11, .iadd, 1), (12, .iload_n 3, 1), (13, .iastore, 1), (14, .return_, 1)]
def cdX8_isPerson : List (Nat × Instr × Nat) := [(0, .iload_n 1, 1), (1, .i2l, 1), (2, .lconst 0, 1), (3, .aload_n 0, 1), (4, .getfield 7, 3), (7, .iconst 0, 1), (8, .iaload, 1), (9, .iconst 1, 1), (10, .isub, 1), (11, .i2l, 1), (12, .invokestatic 65, 3), (15, .ireturn, 1)]
def cdX8_isText : List (Nat × Instr × Nat) := [(0, .iload_n 1, 1), (1, .i2l, 1), (2, .lconst 0, 1), (3, .aload_n 0, 1), (4, .getfield 7, 3), (7, .iconst 1, 1), (8, .iaload, 1), (9, .iconst 1, 1), (10, .isub, 1), (11, .i2l, 1), (12, .invokestatic 65, 3), (15, .ireturn, 1)]
def cdX8_drawn : List (Nat × Instr × Nat) := [(0, .aload_n 0, 1), (1, .getfield 7, 3), (4, .bipush 9, 2), (6, .aload_n 0, 1), (7, .getfield 7, 3), (10, .bipush 9, 2), (12, .iaload, 1), (13, .ldc 69, 2), (15, .imul, 1), (16, .sipush 12345, 3), (19, .iadd, 1), (20, .iastore, 1), (21, .aload_n 0, 1), (22, .getfield 7, 3), (25, .bipush 9, 2), (27, .iaload, 1), (28, .bipush 8, 2), (30, .iushr, 1), (31, .ireturn, 1)]
def cdX8_isOf : List (Nat × Instr × Nat) := [(0, .iload_n 0, 1), (1, .iload_n 1, 1), (2, .if_icmp .eq 27, 3), (5, .iload_n 1, 1), (6, .ifCond .eq 23, 3), (9, .iload_n 1, 1), (10, .iconst 1, 1), (11, .if_icmp .ne 8, 3), (14, .iload_n 0, 1), (15, .iconst 3, 1), (16, .if_icmp .eq 13, 3), (19, .iload_n 1, 1), (20, .iconst 2, 1), (21, .if_icmp .ne 12, 3), (24, .iload_n 0, 1), (25, .iconst 4, 1), (26, .if_icmp .ne 7, 3), (29, .iconst 1, 1), (30, .goto 4, 3), (33, .iconst 0, 1), (34, .ireturn, 1)]
def cdX8_many : List (Nat × Instr × Nat) := [(0, .iconst 0, 1), (1, .istore_n 1, 1), (2, .iload_n 0, 1), (3, .istore_n 2, 1), (4, .iload_n 2, 1), (5, .ifCond .eq 15, 3), (8, .iinc 1 1, 3), (11, .iload_n 2, 1), (12, .iload_n 2, 1), (13, .iconst 1, 1), (14, .isub, 1), (15, .iand, 1), (16, .istore_n 2, 1), (17, .goto (-13), 3), (20, .iload_n 1, 1), (21, .ireturn, 1)]
def cdX8_plain : List (Nat × Instr × Nat) := [(0, .aload_n 0, 1), (1, .iconst 0, 1), (2, .invokevirtual 70, 3), (5, .istore_n 2, 1), (6, .iload_n 2, 1), (7, .ifCond .ge 10, 3), (10, .aload_n 0, 1), (11, .iload_n 1, 1), (12, .iconst 1, 1), (13, .invokevirtual 74, 3), (16, .ireturn, 1), (17, .aload_n 0, 1), (18, .getfield 49, 3), (21, .bipush 111, 2), (23, .aload_n 0, 1), (24, .iload_n 1, 1), (25, .iconst 1, 1), (26, .invokevirtual 74, 3), (29, .iastore, 1), (30, .aload_n 0, 1), (31, .getfield 49, 3), (34, .bipush 119, 2), (36, .aload_n 0, 1), (37, .iload_n 1, 1), (38, .iconst 3, 1), (39, .invokevirtual 74, 3), (42, .iastore, 1), (43, .aload_n 0, 1), (44, .getfield 49, 3), (47, .bipush 116, 2), (49, .aload_n 0, 1), (50, .iload_n 1, 1), (51, .iconst 4, 1), (52, .invokevirtual 74, 3), (55, .iastore, 1), (56, .aload_n 0, 1), (57, .getfield 49, 3), (60, .bipush 110, 2), (62, .aload_n 0, 1), (63, .getfield 7, 3), (66, .iconst 5, 1), (67, .iaload, 1), (68, .invokestatic 78, 3), (71, .iastore, 1), (72, .aload_n 0, 1), (73, .iload_n 2, 1), (74, .invokevirtual 81, 3), (77, .bipush 100, 2), (79, .invokestatic 84, 3), (82, .ireturn, 1)]
def cdX8_comesBy : List (Nat × Instr × Nat) := [(0, .aload_n 0, 1), (1, .iload_n 1, 1), (2, .invokevirtual 87, 3), (5, .istore_n 2, 1), (6, .aload_n 0, 1), (7, .iload_n 1, 1), (8, .iconst 2, 1), (9, .invokevirtual 74, 3), (12, .bipush 60, 2), (14, .if_icmp .le 7, 3), (17, .iconst 0, 1), (18, .goto 4, 3), (21, .iload_n 2, 1), (22, .istore_n 3, 1), (23, .aload_n 0, 1), (24, .iload_n 1, 1), (25, .iconst 0, 1), (26, .invokevirtual 74, 3), (29, .tableswitch 72 1 5 #[35, 39, 41, 53, 70], 35), (64, .iload_n 2, 1), (65, .iconst 2, 1), (66, .idiv, 1), (67, .ireturn, 1), (68, .iload_n 3, 1), (69, .ireturn, 1), (70, .bipush 100, 2), (72, .iload_n 2, 1), (73, .iconst 2, 1), (74, .idiv, 1), (75, .bipush 10, 2), (77, .iadd, 1), (78, .invokestatic 90, 3), (81, .ireturn, 1), (82, .bipush 100, 2), (84, .iload_n 3, 1), (85, .aload_n 0, 1), (86, .getfield 7, 3), (89, .iconst 5, 1), (90, .iaload, 1), (91, .invokestatic 78, 3), (94, .iadd, 1), (95, .invokestatic 90, 3), (98, .ireturn, 1), (99, .iconst 0, 1), (100, .ireturn, 1), (101, .iload_n 2, 1), (102, .ireturn, 1)]
def cdX8_walks : List (Nat × Instr × Nat) := [(0, .aload_n 0, 1), (1, .iload_n 1, 1), (2, .iconst 2, 1), (3, .invokevirtual 74, 3), (6, .istore_n 2, 1), (7, .aload_n 0, 1), (8, .iload_n 1, 1), (9, .iconst 0, 1), (10, .invokevirtual 74, 3), (13, .tableswitch 76 1 5 #[35, 39, 49, 61, 73], 35), (48, .iconst 2, 1), (49, .iload_n 2, 1), (50, .imul, 1), (51, .ireturn, 1), (52, .iload_n 2, 1), (53, .bipush 10, 2), (55, .isub, 1), (56, .bipush 99, 2), (58, .invokestatic 84, 3), (61, .ireturn, 1), (62, .iconst 2, 1), (63, .iload_n 2, 1), (64, .imul, 1), (65, .iconst 5, 1), (66, .isub, 1), (67, .sipush 198, 3), (70, .invokestatic 84, 3), (73, .ireturn, 1), (74, .iload_n 2, 1), (75, .bipush 10, 2), (77, .isub, 1), (78, .bipush 99, 2), (80, .invokestatic 84, 3), (83, .iconst 2, 1), (84, .idiv, 1), (85, .ireturn, 1), (86, .bipush 99, 2), (88, .ireturn, 1), (89, .iload_n 2, 1), (90, .ireturn, 1)]
def cdX8_brings : List (Nat × Instr × Nat) := [(0, .aload_n 0, 1), (1, .iload_n 1, 1), (2, .iconst 3, 1), (3, .invokevirtual 74, 3), (6, .bipush 10, 2), (8, .idiv, 1), (9, .istore_n 2, 1), (10, .aload_n 0, 1), (11, .iload_n 1, 1), (12, .iconst 0, 1), (13, .invokevirtual 74, 3), (16, .tableswitch 68 1 5 #[36, 40, 49, 55, 66], 36), (52, .iload_n 2, 1), (53, .iconst 5, 1), (54, .iadd, 1), (55, .ireturn, 1), (56, .iload_n 2, 1), (57, .iconst 1, 1), (58, .isub, 1), (59, .bipush 99, 2), (61, .invokestatic 84, 3), (64, .ireturn, 1), (65, .iconst 2, 1), (66, .iload_n 2, 1), (67, .iconst 5, 1), (68, .iadd, 1), (69, .imul, 1), (70, .ireturn, 1), (71, .iload_n 2, 1), (72, .iconst 1, 1), (73, .isub, 1), (74, .bipush 99, 2), (76, .invokestatic 84, 3), (79, .iconst 2, 1), (80, .iadd, 1), (81, .ireturn, 1), (82, .iconst 0, 1), (83, .ireturn, 1), (84, .iload_n 2, 1), (85, .ireturn, 1)]
def cdX8_worth : List (Nat × Instr × Nat) := [(0, .aload_n 0, 1), (1, .iload_n 1, 1), (2, .iconst 3, 1), (3, .invokevirtual 74, 3), (6, .aload_n 0, 1), (7, .iload_n 1, 1), (8, .iconst 4, 1), (9, .invokevirtual 74, 3), (12, .iadd, 1), (13, .istore_n 2, 1), (14, .aload_n 0, 1), (15, .iload_n 1, 1), (16, .iconst 0, 1), (17, .invokevirtual 74, 3), (20, .tableswitch 72 1 5 #[36, 38, 48, 52, 65], 36), (56, .iload_n 2, 1), (57, .ireturn, 1), (58, .bipush 99, 2), (60, .aload_n 0, 1), (61, .iload_n 1, 1), (62, .iconst 2, 1), (63, .invokevirtual 74, 3), (66, .isub, 1), (67, .ireturn, 1), (68, .iload_n 2, 1), (69, .iconst 2, 1), (70, .idiv, 1), (71, .ireturn, 1), (72, .bipush 99, 2), (74, .aload_n 0, 1), (75, .iload_n 1, 1), (76, .iconst 2, 1), (77, .invokevirtual 74, 3), (80, .isub, 1), (81, .bipush 7, 2), (83, .iadd, 1), (84, .ireturn, 1), (85, .aload_n 0, 1), (86, .iload_n 1, 1), (87, .iconst 1, 1), (88, .invokevirtual 74, 3), (91, .ireturn, 1), (92, .aload_n 0, 1), (93, .iload_n 1, 1), (94, .iconst 3, 1), (95, .invokevirtual 74, 3), (98, .ireturn, 1)]
def cdX8_joins : List (Nat × Instr × Nat) := [(0, .aload_n 0, 1), (1, .getfield 7, 3), (4, .iconst 0, 1), (5, .iaload, 1), (6, .istore 5, 2), (8, .aload_n 0, 1), (9, .getfield 7, 3), (12, .iconst 0, 1), (13, .dup2, 1), (14, .iaload, 1), (15, .iconst 1, 1), (16, .iadd, 1), (17, .iastore, 1), (18, .aload_n 0, 1), (19, .iload 5, 2), (21, .iconst 0, 1), (22, .iload_n 1, 1), (23, .invokevirtual 93, 3), (26, .aload_n 0, 1), (27, .iload 5, 2), (29, .iconst 1, 1), (30, .iload_n 2, 1), (31, .invokevirtual 93, 3), (34, .aload_n 0, 1), (35, .iload 5, 2), (37, .iconst 2, 1), (38, .iload_n 3, 1), (39, .invokevirtual 93, 3), (42, .aload_n 0, 1), (43, .iload 5, 2), (45, .iconst 3, 1), (46, .iload 4, 2), (48, .invokevirtual 93, 3), (51, .aload_n 0, 1), (52, .iload 5, 2), (54, .iconst 4, 1), (55, .iconst 0, 1), (56, .invokevirtual 93, 3), (59, .return_, 1)]
def cdX8_person : List (Nat × Instr × Nat) := [(0, .iload_n 1, 1), (1, .i2l, 1), (2, .lconst 0, 1), (3, .ldc2_w 97, 3), (6, .invokestatic 65, 3), (9, .ifCond .eq 40, 3), (12, .iload_n 2, 1), (13, .i2l, 1), (14, .lconst 0, 1), (15, .ldc2_w 99, 3), (18, .invokestatic 65, 3), (21, .ifCond .eq 28, 3), (24, .iload_n 3, 1), (25, .i2l, 1), (26, .lconst 0, 1), (27, .ldc2_w 101, 3), (30, .invokestatic 65, 3), (33, .ifCond .eq 16, 3), (36, .iload 4, 2), (38, .i2l, 1), (39, .lconst 0, 1), (40, .ldc2_w 101, 3), (43, .invokestatic 65, 3), (46, .ifCond .ne 6, 3), (49, .ldc 103, 2), (51, .ireturn, 1), (52, .aload_n 0, 1), (53, .getfield 7, 3), (56, .iconst 0, 1), (57, .iaload, 1), (58, .bipush 10, 2), (60, .if_icmp .ne 6, 3), (63, .ldc 104, 2), (65, .ireturn, 1), (66, .aload_n 0, 1), (67, .iload_n 1, 1), (68, .iload_n 2, 1), (69, .iload_n 3, 1), (70, .iload 4, 2), (72, .invokevirtual 105, 3), (75, .aload_n 0, 1), (76, .getfield 7, 3), (79, .iconst 0, 1), (80, .iaload, 1), (81, .iconst 1, 1), (82, .isub, 1), (83, .ireturn, 1)]
def cdX8_told : List (Nat × Instr × Nat) := [(0, .aload_n 0, 1), (1, .iload_n 1, 1), (2, .invokevirtual 109, 3), (5, .ifCond .eq 15, 3), (8, .iload_n 2, 1), (9, .i2l, 1), (10, .lconst 0, 1), (11, .ldc2_w 113, 3), (14, .invokestatic 65, 3), (17, .ifCond .ne 6, 3), (20, .ldc 103, 2), (22, .ireturn, 1), (23, .iload_n 2, 1), (24, .tableswitch 56 5 8 #[32, 38, 44, 50], 32), (56, .aload_n 0, 1), (57, .iload_n 1, 1), (58, .invokevirtual 115, 3), (61, .ireturn, 1), (62, .aload_n 0, 1), (63, .iload_n 1, 1), (64, .invokevirtual 118, 3), (67, .ireturn, 1), (68, .aload_n 0, 1), (69, .iload_n 1, 1), (70, .invokevirtual 121, 3), (73, .ireturn, 1), (74, .aload_n 0, 1), (75, .iload_n 1, 1), (76, .invokevirtual 124, 3), (79, .ireturn, 1), (80, .aload_n 0, 1), (81, .iload_n 1, 1), (82, .iload_n 2, 1), (83, .invokevirtual 74, 3), (86, .ireturn, 1)]
def cdX8_as : List (Nat × Instr × Nat) := [(0, .aload_n 0, 1), (1, .iload_n 1, 1), (2, .invokevirtual 109, 3), (5, .ifCond .eq 15, 3), (8, .iload_n 2, 1), (9, .i2l, 1), (10, .lconst 0, 1), (11, .ldc2_w 97, 3), (14, .invokestatic 65, 3), (17, .ifCond .ne 6, 3), (20, .ldc 103, 2), (22, .ireturn, 1), (23, .aload_n 0, 1), (24, .iload_n 1, 1), (25, .iconst 0, 1), (26, .invokevirtual 74, 3), (29, .iload_n 2, 1), (30, .invokestatic 127, 3), (33, .ifCond .eq 12, 3), (36, .aload_n 0, 1), (37, .iload_n 1, 1), (38, .iconst 3, 1), (39, .invokevirtual 74, 3), (42, .goto 5, 3), (45, .ldc 131, 2), (47, .ireturn, 1)]
def cdX8_turns : List (Nat × Instr × Nat) := [(0, .aload_n 0, 1), (1, .iload_n 1, 1), (2, .invokevirtual 109, 3), (5, .ifCond .eq 29, 3), (8, .iload_n 2, 1), (9, .i2l, 1), (10, .lconst 0, 1), (11, .ldc2_w 97, 3), (14, .invokestatic 65, 3), (17, .ifCond .eq 17, 3), (20, .aload_n 0, 1), (21, .bipush 10, 2), (23, .iconst 5, 1), (24, .iload_n 1, 1), (25, .imul, 1), (26, .iadd, 1), (27, .iload_n 2, 1), (28, .invokevirtual 132, 3), (31, .goto 5, 3), (34, .ldc 103, 2), (36, .ireturn, 1)]
def cdX8_set : List (Nat × Instr × Nat) := [(0, .aload_n 0, 1), (1, .iload_n 1, 1), (2, .invokevirtual 109, 3), (5, .ifCond .eq 53, 3), (8, .iload_n 2, 1), (9, .i2l, 1), (10, .lconst 1, 1), (11, .ldc2_w 135, 3), (14, .invokestatic 65, 3), (17, .ifCond .eq 41, 3), (20, .iload_n 3, 1), (21, .i2l, 1), (22, .lconst 0, 1), (23, .iload_n 2, 1), (24, .iconst 1, 1), (25, .if_icmp .ne 9, 3), (28, .ldc2_w 99, 3), (31, .goto 17, 3), (34, .iload_n 2, 1), (35, .iconst 4, 1), (36, .if_icmp .ne 9, 3), (39, .ldc2_w 137, 3), (42, .goto 6, 3), (45, .ldc2_w 101, 3), (48, .invokestatic 65, 3), (51, .ifCond .eq 7, 3), (54, .iconst 1, 1), (55, .goto 4, 3), (58, .iconst 0, 1), (59, .istore 4, 2), (61, .iload 4, 2), (63, .ifCond .eq 19, 3), (66, .aload_n 0, 1), (67, .bipush 10, 2), (69, .iconst 5, 1), (70, .iload_n 1, 1), (71, .imul, 1), (72, .iadd, 1), (73, .iload_n 2, 1), (74, .iadd, 1), (75, .iload_n 3, 1), (76, .invokevirtual 132, 3), (79, .goto 5, 3), (82, .ldc 103, 2), (84, .ireturn, 1)]
def cdX8_rule : List (Nat × Instr × Nat) := [(0, .iload_n 1, 1), (1, .i2l, 1), (2, .lconst 0, 1), (3, .lconst 1, 1), (4, .invokestatic 65, 3), (7, .ifCond .eq 36, 3), (10, .iload_n 2, 1), (11, .i2l, 1), (12, .lconst 0, 1), (13, .iload_n 1, 1), (14, .ifCond .ne 9, 3), (17, .ldc2_w 139, 3), (20, .goto 6, 3), (23, .ldc2_w 99, 3), (26, .invokestatic 65, 3), (29, .ifCond .eq 14, 3), (32, .aload_n 0, 1), (33, .iconst 3, 1), (34, .iload_n 1, 1), (35, .iadd, 1), (36, .iload_n 2, 1), (37, .invokevirtual 132, 3), (40, .goto 5, 3), (43, .ldc 103, 2), (45, .ireturn, 1)]
def cdX8_deal : List (Nat × Instr × Nat) := [(0, .iload_n 1, 1), (1, .i2l, 1), (2, .lconst 1, 1), (3, .ldc2_w 139, 3), (6, .invokestatic 65, 3), (9, .ifCond .ne 6, 3), (12, .ldc 103, 2), (14, .ireturn, 1), (15, .iconst 0, 1), (16, .istore_n 2, 1), (17, .iload_n 2, 1), (18, .iload_n 1, 1), (19, .if_icmp .ge 62, 3), (22, .aload_n 0, 1), (23, .getfield 7, 3), (26, .iconst 0, 1), (27, .iaload, 1), (28, .bipush 10, 2), (30, .if_icmp .ge 51, 3), (33, .aload_n 0, 1), (34, .invokevirtual 141, 3), (37, .bipush 6, 2), (39, .irem, 1), (40, .istore_n 3, 1), (41, .aload_n 0, 1), (42, .invokevirtual 141, 3), (45, .bipush 101, 2), (47, .irem, 1), (48, .istore 4, 2), (50, .aload_n 0, 1), (51, .invokevirtual 141, 3), (54, .bipush 100, 2), (56, .irem, 1), (57, .istore 5, 2), (59, .aload_n 0, 1), (60, .iload_n 3, 1), (61, .iload 4, 2), (63, .iload 5, 2), (65, .aload_n 0, 1), (66, .invokevirtual 141, 3), (69, .bipush 100, 2), (71, .irem, 1), (72, .invokevirtual 105, 3), (75, .iinc 2 1, 3), (78, .goto (-61), 3), (81, .iload_n 2, 1), (82, .ireturn, 1)]
def cdX8_seed : List (Nat × Instr × Nat) := [(0, .aload_n 0, 1), (1, .bipush 9, 2), (3, .iload_n 1, 1), (4, .invokevirtual 132, 3), (7, .ireturn, 1)]
def cdX8_broughtBy : List (Nat × Instr × Nat) := [(0, .iconst 0, 1), (1, .istore_n 2, 1), (2, .iconst 0, 1), (3, .istore_n 3, 1), (4, .iload_n 3, 1), (5, .aload_n 0, 1), (6, .getfield 7, 3), (9, .iconst 0, 1), (10, .iaload, 1), (11, .if_icmp .ge 30, 3), (14, .iload_n 2, 1), (15, .iload_n 1, 1), (16, .iload_n 3, 1), (17, .ishr, 1), (18, .iconst 1, 1), (19, .iand, 1), (20, .iconst 1, 1), (21, .if_icmp .ne 11, 3), (24, .aload_n 0, 1), (25, .iload_n 3, 1), (26, .invokevirtual 121, 3), (29, .goto 4, 3), (32, .iconst 0, 1), (33, .iadd, 1), (34, .istore_n 2, 1), (35, .iinc 3 1, 3), (38, .goto (-34), 3), (41, .iload_n 2, 1), (42, .ireturn, 1)]
def cdX8_fewest : List (Nat × Instr × Nat) := [(0, .iload_n 1, 1), (1, .i2l, 1), (2, .lconst 0, 1), (3, .ldc2_w 145, 3), (6, .invokestatic 65, 3), (9, .ifCond .eq 13, 3), (12, .iload_n 2, 1), (13, .i2l, 1), (14, .lconst 0, 1), (15, .lconst 1, 1), (16, .invokestatic 65, 3), (19, .ifCond .ne 6, 3), (22, .ldc 103, 2), (24, .ireturn, 1), (25, .iconst (-1), 1), (26, .istore_n 3, 1), (27, .iconst 0, 1), (28, .istore 4, 2), (30, .iload 4, 2), (32, .iconst 1, 1), (33, .aload_n 0, 1), (34, .getfield 7, 3), (37, .iconst 0, 1), (38, .iaload, 1), (39, .ishl, 1), (40, .if_icmp .ge 42, 3), (43, .iload_n 3, 1), (44, .ifCond .lt 15, 3), (47, .iload 4, 2), (49, .invokestatic 78, 3), (52, .iload_n 3, 1), (53, .invokestatic 78, 3), (56, .if_icmp .ge 18, 3), (59, .aload_n 0, 1), (60, .iload 4, 2), (62, .invokevirtual 147, 3), (65, .iload_n 1, 1), (66, .if_icmp .lt 8, 3), (69, .iload 4, 2), (71, .goto 4, 3), (74, .iload_n 3, 1), (75, .istore_n 3, 1), (76, .iinc 4 1, 3), (79, .goto (-49), 3), (82, .iload_n 3, 1), (83, .ifCond .ge 8, 3), (86, .ldc 64, 2), (88, .goto 15, 3), (91, .iload_n 2, 1), (92, .ifCond .ne 7, 3), (95, .iload_n 3, 1), (96, .goto 7, 3), (99, .iload_n 3, 1), (100, .invokestatic 78, 3), (103, .ireturn, 1)]
def cdX8_nearest : List (Nat × Instr × Nat) := [(0, .iconst (-1), 1), (1, .istore_n 2, 1), (2, .iconst 0, 1), (3, .istore_n 3, 1), (4, .iload_n 3, 1), (5, .aload_n 0, 1), (6, .getfield 7, 3), (9, .iconst 0, 1), (10, .iaload, 1), (11, .if_icmp .ge 40, 3), (14, .iload_n 1, 1), (15, .iload_n 3, 1), (16, .ishr, 1), (17, .iconst 1, 1), (18, .iand, 1), (19, .ifCond .ne 24, 3), (22, .iload_n 2, 1), (23, .ifCond .lt 16, 3), (26, .aload_n 0, 1), (27, .iload_n 3, 1), (28, .invokevirtual 118, 3), (31, .aload_n 0, 1), (32, .iload_n 2, 1), (33, .invokevirtual 118, 3), (36, .if_icmp .ge 7, 3), (39, .iload_n 3, 1), (40, .goto 4, 3), (43, .iload_n 2, 1), (44, .istore_n 2, 1), (45, .iinc 3 1, 3), (48, .goto (-44), 3), (51, .iload_n 2, 1), (52, .ireturn, 1)]
def cdX8_dines : List (Nat × Instr × Nat) := [(0, .iload_n 1, 1), (1, .istore_n 2, 1), (2, .iload_n 1, 1), (3, .invokestatic 78, 3), (6, .aload_n 0, 1), (7, .getfield 7, 3), (10, .iconst 3, 1), (11, .iaload, 1), (12, .if_icmp .ne 43, 3), (15, .aload_n 0, 1), (16, .iload_n 1, 1), (17, .invokevirtual 150, 3), (20, .istore_n 3, 1), (21, .iload_n 2, 1), (22, .iload_n 3, 1), (23, .ifCond .ge 7, 3), (26, .iconst 0, 1), (27, .goto 6, 3), (30, .iconst 1, 1), (31, .iload_n 3, 1), (32, .ishl, 1), (33, .ior, 1), (34, .istore_n 2, 1), (35, .aload_n 0, 1), (36, .getfield 7, 3), (39, .iload_n 3, 1), (40, .ifCond .ge 8, 3), (43, .bipush 8, 2), (45, .goto 5, 3), (48, .bipush 7, 2), (50, .dup2, 1), (51, .iaload, 1), (52, .iconst 1, 1), (53, .iadd, 1), (54, .iastore, 1), (55, .aload_n 0, 1), (56, .iload_n 2, 1), (57, .invokevirtual 147, 3), (60, .istore_n 3, 1), (61, .iconst 0, 1), (62, .istore 4, 2), (64, .iload 4, 2), (66, .aload_n 0, 1), (67, .getfield 7, 3), (70, .iconst 0, 1), (71, .iaload, 1), (72, .if_icmp .ge 87, 3), (75, .iload_n 2, 1), (76, .iload 4, 2), (78, .ishr, 1), (79, .iconst 1, 1), (80, .iand, 1), (81, .iconst 1, 1), (82, .if_icmp .ne 7, 3), (85, .iconst 1, 1), (86, .goto 4, 3), (89, .iconst 0, 1), (90, .istore 5, 2), (92, .aload_n 0, 1), (93, .iload 4, 2), (95, .iconst 1, 1), (96, .aload_n 0, 1), (97, .iload 4, 2), (99, .iconst 1, 1), (100, .invokevirtual 74, 3), (103, .iload 5, 2), (105, .ifCond .eq 7, 3), (108, .iconst 2, 1), (109, .goto 4, 3), (112, .iconst (-1), 1), (113, .iadd, 1), (114, .bipush 100, 2), (116, .invokestatic 84, 3), (119, .invokevirtual 93, 3), (122, .aload_n 0, 1), (123, .iload 4, 2), (125, .iconst 4, 1), (126, .sipush 9999, 3), (129, .aload_n 0, 1), (130, .iload 4, 2), (132, .iconst 4, 1), (133, .invokevirtual 74, 3), (136, .iload 5, 2), (138, .ifCond .eq 7, 3), (141, .iconst 1, 1), (142, .goto 4, 3), (145, .iconst 0, 1), (146, .iadd, 1), (147, .invokestatic 90, 3), (150, .invokevirtual 93, 3), (153, .iinc 4 1, 3), (156, .goto (-92), 3), (159, .aload_n 0, 1), (160, .getfield 7, 3), (163, .bipush 6, 2), (165, .ldc 153, 2), (167, .aload_n 0, 1), (168, .getfield 7, 3), (171, .bipush 6, 2), (173, .iaload, 1), (174, .iload_n 3, 1), (175, .iadd, 1), (176, .invokestatic 90, 3), (179, .iastore, 1), (180, .aload_n 0, 1), (181, .getfield 7, 3), (184, .iconst 5, 1), (185, .iload_n 2, 1), (186, .iastore, 1), (187, .iload_n 3, 1), (188, .ireturn, 1)]
def cdX8_sits : List (Nat × Instr × Nat) := [(0, .iload_n 1, 1), (1, .i2l, 1), (2, .lconst 0, 1), (3, .iconst 1, 1), (4, .aload_n 0, 1), (5, .getfield 7, 3), (8, .iconst 0, 1), (9, .iaload, 1), (10, .ishl, 1), (11, .iconst 1, 1), (12, .isub, 1), (13, .i2l, 1), (14, .invokestatic 65, 3), (17, .ifCond .eq 11, 3), (20, .aload_n 0, 1), (21, .iload_n 1, 1), (22, .invokevirtual 154, 3), (25, .goto 5, 3), (28, .ldc 103, 2), (30, .ireturn, 1)]
def cdX8_goesOn : List (Nat × Instr × Nat) := [(0, .iconst 0, 1), (1, .istore_n 1, 1), (2, .iconst 0, 1), (3, .istore_n 2, 1), (4, .iload_n 2, 1), (5, .aload_n 0, 1), (6, .getfield 7, 3), (9, .iconst 0, 1), (10, .iaload, 1), (11, .if_icmp .ge 34, 3), (14, .iload_n 1, 1), (15, .aload_n 0, 1), (16, .invokevirtual 141, 3), (19, .bipush 100, 2), (21, .irem, 1), (22, .aload_n 0, 1), (23, .iload_n 2, 1), (24, .invokevirtual 115, 3), (27, .if_icmp .ge 9, 3), (30, .iconst 1, 1), (31, .iload_n 2, 1), (32, .ishl, 1), (33, .goto 4, 3), (36, .iconst 0, 1), (37, .ior, 1), (38, .istore_n 1, 1), (39, .iinc 2 1, 3), (42, .goto (-38), 3), (45, .aload_n 0, 1), (46, .iload_n 1, 1), (47, .invokevirtual 154, 3), (50, .istore_n 2, 1), (51, .aload_n 0, 1), (52, .invokevirtual 141, 3), (55, .bipush 100, 2), (57, .irem, 1), (58, .aload_n 0, 1), (59, .getfield 7, 3), (62, .iconst 4, 1), (63, .iaload, 1), (64, .if_icmp .ge 7, 3), (67, .iconst 1, 1), (68, .goto 4, 3), (71, .iconst 0, 1), (72, .istore_n 3, 1), (73, .iload_n 3, 1), (74, .ifCond .eq 39, 3), (77, .aload_n 0, 1), (78, .getfield 7, 3), (81, .iconst 0, 1), (82, .iaload, 1), (83, .ifCond .le 30, 3), (86, .aload_n 0, 1), (87, .invokevirtual 141, 3), (90, .aload_n 0, 1), (91, .getfield 7, 3), (94, .iconst 0, 1), (95, .iaload, 1), (96, .irem, 1), (97, .istore 4, 2), (99, .aload_n 0, 1), (100, .iload 4, 2), (102, .iconst 2, 1), (103, .aload_n 0, 1), (104, .invokevirtual 141, 3), (107, .bipush 100, 2), (109, .irem, 1), (110, .invokevirtual 93, 3), (113, .aload_n 0, 1), (114, .getfield 7, 3), (117, .iconst 2, 1), (118, .dup2, 1), (119, .iaload, 1), (120, .iconst 1, 1), (121, .iadd, 1), (122, .iastore, 1), (123, .return_, 1)]
def cdX8_goesOnMany : List (Nat × Instr × Nat) := [(0, .iconst 0, 1), (1, .istore_n 2, 1), (2, .iload_n 2, 1), (3, .iload_n 1, 1), (4, .if_icmp .ge 13, 3), (7, .aload_n 0, 1), (8, .invokevirtual 157, 3), (11, .iinc 2 1, 3), (14, .goto (-12), 3), (17, .return_, 1)]
def cdX8_evenings : List (Nat × Instr × Nat) := [(0, .iload_n 1, 1), (1, .i2l, 1), (2, .lconst 1, 1), (3, .ldc2_w 99, 3), (6, .invokestatic 65, 3), (9, .ifCond .ne 6, 3), (12, .ldc 103, 2), (14, .ireturn, 1), (15, .aload_n 0, 1), (16, .getfield 7, 3), (19, .bipush 7, 2), (21, .iaload, 1), (22, .istore_n 2, 1), (23, .aload_n 0, 1), (24, .iload_n 1, 1), (25, .sipush 9999, 3), (28, .aload_n 0, 1), (29, .getfield 7, 3), (32, .iconst 2, 1), (33, .iaload, 1), (34, .isub, 1), (35, .invokestatic 90, 3), (38, .invokevirtual 160, 3), (41, .aload_n 0, 1), (42, .getfield 7, 3), (45, .bipush 7, 2), (47, .iaload, 1), (48, .iload_n 2, 1), (49, .isub, 1), (50, .ireturn, 1)]
def cdX8_sumOf : List (Nat × Instr × Nat) := [(0, .iconst 0, 1), (1, .istore_n 2, 1), (2, .iconst 0, 1), (3, .istore_n 3, 1), (4, .iload_n 3, 1), (5, .aload_n 0, 1), (6, .getfield 7, 3), (9, .iconst 0, 1), (10, .iaload, 1), (11, .if_icmp .ge 18, 3), (14, .iload_n 2, 1), (15, .aload_n 0, 1), (16, .iload_n 3, 1), (17, .iload_n 1, 1), (18, .invokevirtual 74, 3), (21, .iadd, 1), (22, .istore_n 2, 1), (23, .iinc 3 1, 3), (26, .goto (-22), 3), (29, .iload_n 2, 1), (30, .ireturn, 1)]
def cdX8_houseOf : List (Nat × Instr × Nat) := [(0, .iload_n 1, 1), (1, .tableswitch 62 0 3 #[31, 39, 47, 55], 31), (32, .aload_n 0, 1), (33, .getfield 7, 3), (36, .bipush 6, 2), (38, .iaload, 1), (39, .ireturn, 1), (40, .aload_n 0, 1), (41, .getfield 7, 3), (44, .bipush 7, 2), (46, .iaload, 1), (47, .ireturn, 1), (48, .aload_n 0, 1), (49, .getfield 7, 3), (52, .bipush 8, 2), (54, .iaload, 1), (55, .ireturn, 1), (56, .aload_n 0, 1), (57, .getfield 7, 3), (60, .iconst 5, 1), (61, .iaload, 1), (62, .ireturn, 1), (63, .aload_n 0, 1), (64, .iconst 1, 1), (65, .invokevirtual 164, 3), (68, .ireturn, 1)]
def cdX8_house : List (Nat × Instr × Nat) := [(0, .iload_n 1, 1), (1, .i2l, 1), (2, .lconst 0, 1), (3, .ldc2_w 135, 3), (6, .invokestatic 65, 3), (9, .ifCond .eq 11, 3), (12, .aload_n 0, 1), (13, .iload_n 1, 1), (14, .invokevirtual 167, 3), (17, .goto 40, 3), (20, .iload_n 1, 1), (21, .iconst 5, 1), (22, .if_icmp .ne 11, 3), (25, .aload_n 0, 1), (26, .iconst 3, 1), (27, .invokevirtual 164, 3), (30, .goto 27, 3), (33, .iload_n 1, 1), (34, .bipush 6, 2), (36, .if_icmp .ne 19, 3), (39, .aload_n 0, 1), (40, .aload_n 0, 1), (41, .getfield 7, 3), (44, .iconst 5, 1), (45, .iaload, 1), (46, .invokevirtual 150, 3), (49, .invokestatic 170, 3), (52, .goto 5, 3), (55, .ldc 103, 2), (57, .ireturn, 1)]
def cdX8_laysBy : List (Nat × Instr × Nat) := [(0, .iconst 0, 1), (1, .istore_n 1, 1), (2, .iload_n 1, 1), (3, .bipush 60, 2), (5, .if_icmp .ge 21, 3), (8, .aload_n 0, 1), (9, .getfield 43, 3), (12, .iload_n 1, 1), (13, .aload_n 0, 1), (14, .getfield 7, 3), (17, .iload_n 1, 1), (18, .iaload, 1), (19, .iastore, 1), (20, .iinc 1 1, 3), (23, .goto (-21), 3), (26, .return_, 1)]
def cdX8_laysBack : List (Nat × Instr × Nat) := [(0, .iconst 0, 1), (1, .istore_n 1, 1), (2, .iload_n 1, 1), (3, .bipush 60, 2), (5, .if_icmp .ge 21, 3), (8, .aload_n 0, 1), (9, .getfield 7, 3), (12, .iload_n 1, 1), (13, .aload_n 0, 1), (14, .getfield 43, 3), (17, .iload_n 1, 1), (18, .iaload, 1), (19, .iastore, 1), (20, .iinc 1 1, 3), (23, .goto (-21), 3), (26, .return_, 1)]
def cdX8_behind : List (Nat × Instr × Nat) := [(0, .iload_n 1, 1), (1, .i2l, 1), (2, .lconst 0, 1), (3, .ldc2_w 99, 3), (6, .invokestatic 65, 3), (9, .ifCond .eq 22, 3), (12, .iload_n 2, 1), (13, .ifCond .lt 18, 3), (16, .iload_n 2, 1), (17, .iconst 4, 1), (18, .if_icmp .le 16, 3), (21, .aload_n 0, 1), (22, .iload_n 2, 1), (23, .iconst 5, 1), (24, .isub, 1), (25, .invokevirtual 109, 3), (28, .ifCond .ne 6, 3), (31, .ldc 103, 2), (33, .ireturn, 1), (34, .aload_n 0, 1), (35, .invokevirtual 173, 3), (38, .aload_n 0, 1), (39, .iload_n 1, 1), (40, .invokevirtual 160, 3), (43, .iload_n 2, 1), (44, .iconst 5, 1), (45, .if_icmp .ge 11, 3), (48, .aload_n 0, 1), (49, .iload_n 2, 1), (50, .invokevirtual 167, 3), (53, .goto 11, 3), (56, .aload_n 0, 1), (57, .iload_n 2, 1), (58, .iconst 5, 1), (59, .isub, 1), (60, .iconst 4, 1), (61, .invokevirtual 74, 3), (64, .istore_n 3, 1), (65, .aload_n 0, 1), (66, .invokevirtual 176, 3), (69, .iload_n 3, 1), (70, .ireturn, 1)]
def cdX8_meets : List (Nat × Instr × Nat) := [(0, .aload_n 0, 1), (1, .iload_n 1, 1), (2, .invokevirtual 109, 3), (5, .ifCond .eq 16, 3), (8, .aload_n 0, 1), (9, .iload_n 2, 1), (10, .invokevirtual 109, 3), (13, .ifCond .eq 8, 3), (16, .iload_n 1, 1), (17, .iload_n 2, 1), (18, .if_icmp .ne 6, 3), (21, .ldc 103, 2), (23, .ireturn, 1), (24, .aload_n 0, 1), (25, .invokevirtual 173, 3), (28, .iconst 1, 1), (29, .iload_n 1, 1), (30, .ishl, 1), (31, .iconst 1, 1), (32, .iload_n 2, 1), (33, .ishl, 1), (34, .ior, 1), (35, .istore_n 3, 1), (36, .iconst 0, 1), (37, .istore 4, 2), (39, .iconst 0, 1), (40, .istore 5, 2), (42, .iload 4, 2), (44, .sipush 200, 3), (47, .if_icmp .ge 37, 3), (50, .iload 5, 2), (52, .ifCond .ne 32, 3), (55, .aload_n 0, 1), (56, .invokevirtual 157, 3), (59, .aload_n 0, 1), (60, .getfield 7, 3), (63, .iconst 5, 1), (64, .iaload, 1), (65, .iload_n 3, 1), (66, .iand, 1), (67, .iload_n 3, 1), (68, .if_icmp .ne 7, 3), (71, .iconst 1, 1), (72, .goto 4, 3), (75, .iconst 0, 1), (76, .istore 5, 2), (78, .iinc 4 1, 3), (81, .goto (-39), 3), (84, .aload_n 0, 1), (85, .invokevirtual 176, 3), (88, .iload 5, 2), (90, .ifCond .eq 8, 3), (93, .iload 4, 2), (95, .goto 5, 3), (98, .ldc 64, 2), (100, .ireturn, 1)]
def cdX8_isAsked : List (Nat × Instr × Nat) := [(0, .iload_n 0, 1), (1, .i2l, 1), (2, .lconst 1, 1), (3, .ldc2_w 179, 3), (6, .invokestatic 65, 3), (9, .ifCond .eq 17, 3), (12, .iload_n 1, 1), (13, .i2l, 1), (14, .lconst 0, 1), (15, .lconst 1, 1), (16, .invokestatic 65, 3), (19, .ifCond .eq 7, 3), (22, .iconst 1, 1), (23, .goto 4, 3), (26, .iconst 0, 1), (27, .ireturn, 1)]
def cdX8_mostBy : List (Nat × Instr × Nat) := [(0, .aload_n 0, 1), (1, .invokevirtual 173, 3), (4, .iconst (-1), 1), (5, .istore 6, 2), (7, .iconst (-1), 1), (8, .istore 7, 2), (10, .iconst 0, 1), (11, .istore 8, 2), (13, .iload 8, 2), (15, .iload_n 3, 1), (16, .if_icmp .gt 81, 3), (19, .aload_n 0, 1), (20, .getfield 7, 3), (23, .iload_n 1, 1), (24, .iload_n 2, 1), (25, .iload 8, 2), (27, .imul, 1), (28, .iadd, 1), (29, .iload_n 2, 1), (30, .ifCond .le 7, 3), (33, .iconst 0, 1), (34, .goto 5, 3), (37, .iload 8, 2), (39, .iastore, 1), (40, .aload_n 0, 1), (41, .iload 4, 2), (43, .invokevirtual 160, 3), (46, .aload_n 0, 1), (47, .getfield 7, 3), (50, .bipush 6, 2), (52, .iaload, 1), (53, .istore 9, 2), (55, .aload_n 0, 1), (56, .invokevirtual 176, 3), (59, .iload 9, 2), (61, .iload 7, 2), (63, .if_icmp .le 8, 3), (66, .iload 8, 2), (68, .goto 5, 3), (71, .iload 6, 2), (73, .istore 6, 2), (75, .iload 9, 2), (77, .iload 7, 2), (79, .if_icmp .le 8, 3), (82, .iload 9, 2), (84, .goto 5, 3), (87, .iload 7, 2), (89, .istore 7, 2), (91, .iinc 8 1, 3), (94, .goto (-81), 3), (97, .iload 6, 2), (99, .ifCond .ge 8, 3), (102, .ldc 64, 2), (104, .goto 15, 3), (107, .iload 5, 2), (109, .ifCond .ne 8, 3), (112, .iload 6, 2), (114, .goto 5, 3), (117, .iload 7, 2), (119, .ireturn, 1)]
def cdX8_door : List (Nat × Instr × Nat) := [(0, .iload_n 1, 1), (1, .iload_n 2, 1), (2, .invokestatic 181, 3), (5, .ifCond .eq 23, 3), (8, .aload_n 0, 1), (9, .bipush 12, 2), (11, .iconst 5, 1), (12, .aload_n 0, 1), (13, .getfield 7, 3), (16, .iconst 0, 1), (17, .iaload, 1), (18, .iconst 1, 1), (19, .isub, 1), (20, .iload_n 1, 1), (21, .iload_n 2, 1), (22, .invokevirtual 184, 3), (25, .goto 5, 3), (28, .ldc 103, 2), (30, .ireturn, 1)]
def cdX8_never : List (Nat × Instr × Nat) := [(0, .iload_n 1, 1), (1, .iload_n 2, 1), (2, .invokestatic 181, 3), (5, .ifCond .eq 16, 3), (8, .aload_n 0, 1), (9, .iconst 3, 1), (10, .iconst 0, 1), (11, .bipush 10, 2), (13, .iload_n 1, 1), (14, .iload_n 2, 1), (15, .invokevirtual 184, 3), (18, .goto 5, 3), (21, .ldc 103, 2), (23, .ireturn, 1)]
def cdX8_becomes : List (Nat × Instr × Nat) := [(0, .aload_n 0, 1), (1, .iload_n 1, 1), (2, .invokevirtual 109, 3), (5, .ifCond .eq 28, 3), (8, .iload_n 2, 1), (9, .iload_n 3, 1), (10, .invokestatic 181, 3), (13, .ifCond .eq 20, 3), (16, .aload_n 0, 1), (17, .bipush 10, 2), (19, .iconst 5, 1), (20, .iload_n 1, 1), (21, .imul, 1), (22, .iadd, 1), (23, .iconst 0, 1), (24, .iconst 5, 1), (25, .iload_n 2, 1), (26, .iload_n 3, 1), (27, .invokevirtual 184, 3), (30, .goto 5, 3), (33, .ldc 103, 2), (35, .ireturn, 1)]
def cdX8_fee : List (Nat × Instr × Nat) := [(0, .aload_n 0, 1), (1, .iconst 1, 1), (2, .invokevirtual 70, 3), (5, .istore_n 1, 1), (6, .iload_n 1, 1), (7, .ifCond .ge 11, 3), (10, .aload_n 0, 1), (11, .getfield 7, 3), (14, .bipush 7, 2), (16, .iaload, 1), (17, .ireturn, 1), (18, .aload_n 0, 1), (19, .getfield 49, 3), (22, .bipush 115, 2), (24, .aload_n 0, 1), (25, .getfield 7, 3), (28, .bipush 7, 2), (30, .iaload, 1), (31, .iastore, 1), (32, .aload_n 0, 1), (33, .getfield 49, 3), (36, .bipush 102, 2), (38, .aload_n 0, 1), (39, .getfield 7, 3), (42, .bipush 8, 2), (44, .iaload, 1), (45, .iastore, 1), (46, .aload_n 0, 1), (47, .iload_n 1, 1), (48, .invokevirtual 81, 3), (51, .ireturn, 1)]
def cdX8_fine : List (Nat × Instr × Nat) := [(0, .aload_n 0, 1), (1, .iload_n 1, 1), (2, .invokevirtual 109, 3), (5, .ifCond .ne 6, 3), (8, .ldc 103, 2), (10, .ireturn, 1), (11, .aload_n 0, 1), (12, .iconst 2, 1), (13, .invokevirtual 70, 3), (16, .istore_n 2, 1), (17, .iload_n 2, 1), (18, .ifCond .ge 10, 3), (21, .aload_n 0, 1), (22, .iload_n 1, 1), (23, .iconst 3, 1), (24, .invokevirtual 74, 3), (27, .ireturn, 1), (28, .aload_n 0, 1), (29, .getfield 49, 3), (32, .bipush 111, 2), (34, .aload_n 0, 1), (35, .iload_n 1, 1), (36, .iconst 1, 1), (37, .invokevirtual 74, 3), (40, .iastore, 1), (41, .aload_n 0, 1), (42, .getfield 49, 3), (45, .bipush 119, 2), (47, .aload_n 0, 1), (48, .iload_n 1, 1), (49, .iconst 3, 1), (50, .invokevirtual 74, 3), (53, .iastore, 1), (54, .aload_n 0, 1), (55, .iload_n 2, 1), (56, .invokevirtual 81, 3), (59, .ireturn, 1)]
def cdX8_feed : List (Nat × Instr × Nat) := [(0, .aload_n 0, 1), (1, .getfield 188, 3), (4, .bipush 12, 2), (6, .iadd, 1), (7, .bipush 96, 2), (9, .if_icmp .le 6, 3), (12, .ldc 104, 2), (14, .ireturn, 1), (15, .iconst 0, 1), (16, .istore 4, 2), (18, .iload 4, 2), (20, .bipush 12, 2), (22, .if_icmp .ge 69, 3), (25, .iload 4, 2), (27, .iconst 4, 1), (28, .if_icmp .ge 7, 3), (31, .iload_n 1, 1), (32, .goto 15, 3), (35, .iload 4, 2), (37, .bipush 8, 2), (39, .if_icmp .ge 7, 3), (42, .iload_n 2, 1), (43, .goto 4, 3), (46, .iload_n 3, 1), (47, .istore 5, 2), (49, .aload_n 0, 1), (50, .getfield 46, 3), (53, .aload_n 0, 1), (54, .getfield 188, 3), (57, .iload 5, 2), (59, .bipush 24, 2), (61, .bipush 8, 2), (63, .iload 4, 2), (65, .iconst 4, 1), (66, .irem, 1), (67, .imul, 1), (68, .isub, 1), (69, .ishr, 1), (70, .sipush 255, 3), (73, .iand, 1), (74, .iastore, 1), (75, .aload_n 0, 1), (76, .dup, 1), (77, .getfield 188, 3), (80, .iconst 1, 1), (81, .iadd, 1), (82, .putfield 188, 3), (85, .iinc 4 1, 3), (88, .goto (-70), 3), (91, .aload_n 0, 1), (92, .getfield 188, 3), (95, .ireturn, 1)]
def cdX8_trim : List (Nat × Instr × Nat) := [(0, .iload_n 1, 1), (1, .i2l, 1), (2, .lconst 0, 1), (3, .aload_n 0, 1), (4, .getfield 188, 3), (7, .i2l, 1), (8, .invokestatic 65, 3), (11, .ifCond .ne 6, 3), (14, .ldc 103, 2), (16, .ireturn, 1), (17, .aload_n 0, 1), (18, .iload_n 1, 1), (19, .putfield 188, 3), (22, .iload_n 1, 1), (23, .ireturn, 1)]
def cdX8_isLetter : List (Nat × Instr × Nat) := [(0, .iload_n 1, 1), (1, .aload_n 0, 1), (2, .getfield 188, 3), (5, .if_icmp .ge 26, 3), (8, .aload_n 0, 1), (9, .getfield 46, 3), (12, .iload_n 1, 1), (13, .iaload, 1), (14, .i2l, 1), (15, .ldc2_w 192, 3), (18, .ldc2_w 194, 3), (21, .invokestatic 65, 3), (24, .ifCond .eq 7, 3), (27, .iconst 1, 1), (28, .goto 4, 3), (31, .iconst 0, 1), (32, .ireturn, 1)]
def cdX8_isDigit : List (Nat × Instr × Nat) := [(0, .iload_n 1, 1), (1, .aload_n 0, 1), (2, .getfield 188, 3), (5, .if_icmp .ge 26, 3), (8, .aload_n 0, 1), (9, .getfield 46, 3), (12, .iload_n 1, 1), (13, .iaload, 1), (14, .i2l, 1), (15, .ldc2_w 196, 3), (18, .ldc2_w 198, 3), (21, .invokestatic 65, 3), (24, .ifCond .eq 7, 3), (27, .iconst 1, 1), (28, .goto 4, 3), (31, .iconst 0, 1), (32, .ireturn, 1)]
def cdX8_nextToken : List (Nat × Instr × Nat) := [(0, .aload_n 0, 1), (1, .getfield 200, 3), (4, .ifCond .le 23, 3), (7, .aload_n 0, 1), (8, .getfield 203, 3), (11, .iconst 1, 1), (12, .if_icmp .eq 11, 3), (15, .aload_n 0, 1), (16, .getfield 203, 3), (19, .iconst 2, 1), (20, .if_icmp .ne 7, 3), (23, .iconst 1, 1), (24, .goto 4, 3), (27, .iconst 0, 1), (28, .istore_n 1, 1), (29, .aload_n 0, 1), (30, .getfield 200, 3), (33, .istore_n 2, 1), (34, .aload_n 0, 1), (35, .getfield 200, 3), (38, .aload_n 0, 1), (39, .getfield 188, 3), (42, .if_icmp .ge 30, 3), (45, .aload_n 0, 1), (46, .getfield 46, 3), (49, .aload_n 0, 1), (50, .getfield 200, 3), (53, .iaload, 1), (54, .bipush 32, 2), (56, .if_icmp .ne 16, 3), (59, .aload_n 0, 1), (60, .dup, 1), (61, .getfield 200, 3), (64, .iconst 1, 1), (65, .iadd, 1), (66, .putfield 200, 3), (69, .goto (-35), 3), (72, .iload_n 1, 1), (73, .ifCond .eq 15, 3), (76, .iload_n 2, 1), (77, .aload_n 0, 1), (78, .getfield 200, 3), (81, .if_icmp .ne 7, 3), (84, .iconst 1, 1), (85, .goto 4, 3), (88, .iconst 0, 1), (89, .istore_n 1, 1), (90, .aload_n 0, 1), (91, .aload_n 0, 1), (92, .getfield 200, 3), (95, .putfield 206, 3), (98, .aload_n 0, 1), (99, .getfield 206, 3), (102, .aload_n 0, 1), (103, .getfield 188, 3), (106, .if_icmp .ne 11, 3), (109, .aload_n 0, 1), (110, .iconst 0, 1), (111, .putfield 203, 3), (114, .goto 225, 3), (117, .aload_n 0, 1), (118, .aload_n 0, 1), (119, .getfield 206, 3), (122, .invokevirtual 209, 3), (125, .ifCond .eq 73, 3), (128, .aload_n 0, 1), (129, .aload_n 0, 1), (130, .getfield 200, 3), (133, .invokevirtual 209, 3), (136, .ifCond .eq 16, 3), (139, .aload_n 0, 1), (140, .dup, 1), (141, .getfield 200, 3), (144, .iconst 1, 1), (145, .iadd, 1), (146, .putfield 200, 3), (149, .goto (-21), 3), (152, .aload_n 0, 1), (153, .iload_n 1, 1), (154, .ifCond .eq 7, 3), (157, .iconst 4, 1), (158, .goto 4, 3), (161, .iconst 1, 1), (162, .putfield 203, 3), (165, .aload_n 0, 1), (166, .aload_n 0, 1), (167, .getfield 200, 3), (170, .aload_n 0, 1), (171, .getfield 206, 3), (174, .isub, 1), (175, .iconst 1, 1), (176, .if_icmp .ne 15, 3), (179, .aload_n 0, 1), (180, .getfield 46, 3), (183, .aload_n 0, 1), (184, .getfield 206, 3), (187, .iaload, 1), (188, .goto 4, 3), (191, .iconst 0, 1), (192, .putfield 212, 3), (195, .goto 144, 3), (198, .aload_n 0, 1), (199, .aload_n 0, 1), (200, .getfield 206, 3), (203, .invokevirtual 215, 3), (206, .ifCond .eq 105, 3), (209, .aload_n 0, 1), (210, .iconst 0, 1), (211, .putfield 218, 3), (214, .aload_n 0, 1), (215, .aload_n 0, 1), (216, .getfield 200, 3), (219, .invokevirtual 215, 3), (222, .ifCond .eq 60, 3), (225, .aload_n 0, 1), (226, .aload_n 0, 1), (227, .getfield 200, 3), (230, .aload_n 0, 1), (231, .getfield 206, 3), (234, .isub, 1), (235, .iconst 4, 1), (236, .if_icmp .ge 26, 3), (239, .bipush 10, 2), (241, .aload_n 0, 1), (242, .getfield 218, 3), (245, .imul, 1), (246, .aload_n 0, 1), (247, .getfield 46, 3), (250, .aload_n 0, 1), (251, .getfield 200, 3), (254, .iaload, 1), (255, .iadd, 1), (256, .bipush 48, 2), (258, .isub, 1), (259, .goto 7, 3), (262, .aload_n 0, 1), (263, .getfield 218, 3), (266, .putfield 218, 3), (269, .aload_n 0, 1), (270, .dup, 1), (271, .getfield 200, 3), (274, .iconst 1, 1), (275, .iadd, 1), (276, .putfield 200, 3), (279, .goto (-65), 3), (282, .aload_n 0, 1), (283, .iload_n 1, 1), (284, .ifCond .ne 16, 3), (287, .aload_n 0, 1), (288, .getfield 200, 3), (291, .aload_n 0, 1), (292, .getfield 206, 3), (295, .isub, 1), (296, .iconst 4, 1), (297, .if_icmp .le 7, 3), (300, .iconst 4, 1), (301, .goto 4, 3), (304, .iconst 2, 1), (305, .putfield 203, 3), (308, .goto 31, 3), (311, .aload_n 0, 1), (312, .iconst 3, 1), (313, .putfield 203, 3), (316, .aload_n 0, 1), (317, .aload_n 0, 1), (318, .getfield 46, 3), (321, .aload_n 0, 1), (322, .getfield 206, 3), (325, .iaload, 1), (326, .putfield 212, 3), (329, .aload_n 0, 1), (330, .dup, 1), (331, .getfield 200, 3), (334, .iconst 1, 1), (335, .iadd, 1), (336, .putfield 200, 3), (339, .return_, 1)]
def cdX8_isSign : List (Nat × Instr × Nat) := [(0, .aload_n 0, 1), (1, .getfield 203, 3), (4, .iconst 3, 1), (5, .if_icmp .ne 15, 3), (8, .aload_n 0, 1), (9, .getfield 212, 3), (12, .iload_n 1, 1), (13, .if_icmp .ne 7, 3), (16, .iconst 1, 1), (17, .goto 4, 3), (20, .iconst 0, 1), (21, .ireturn, 1)]
def cdX8_isWordAt : List (Nat × Instr × Nat) := [(0, .iload 4, 2), (2, .ifCond .ne 7, 3), (5, .iconst 3, 1), (6, .goto 4, 3), (9, .iconst 4, 1), (10, .istore 5, 2), (12, .aload_n 0, 1), (13, .getfield 203, 3), (16, .iconst 1, 1), (17, .if_icmp .ne 85, 3), (20, .aload_n 0, 1), (21, .getfield 200, 3), (24, .aload_n 0, 1), (25, .getfield 206, 3), (28, .isub, 1), (29, .iload 5, 2), (31, .if_icmp .ne 71, 3), (34, .aload_n 0, 1), (35, .getfield 46, 3), (38, .aload_n 0, 1), (39, .getfield 206, 3), (42, .iaload, 1), (43, .iload_n 1, 1), (44, .if_icmp .ne 58, 3), (47, .aload_n 0, 1), (48, .getfield 46, 3), (51, .aload_n 0, 1), (52, .getfield 206, 3), (55, .iconst 1, 1), (56, .iadd, 1), (57, .iaload, 1), (58, .iload_n 2, 1), (59, .if_icmp .ne 43, 3), (62, .aload_n 0, 1), (63, .getfield 46, 3), (66, .aload_n 0, 1), (67, .getfield 206, 3), (70, .iconst 2, 1), (71, .iadd, 1), (72, .iaload, 1), (73, .iload_n 3, 1), (74, .if_icmp .ne 28, 3), (77, .iload 4, 2), (79, .ifCond .eq 19, 3), (82, .aload_n 0, 1), (83, .getfield 46, 3), (86, .aload_n 0, 1), (87, .getfield 206, 3), (90, .iconst 3, 1), (91, .iadd, 1), (92, .iaload, 1), (93, .iload 4, 2), (95, .if_icmp .ne 7, 3), (98, .iconst 1, 1), (99, .goto 4, 3), (102, .iconst 0, 1), (103, .ireturn, 1)]
def cdX8_key : List (Nat × Instr × Nat) := [(0, .aload_n 0, 1), (1, .bipush 97, 2), (3, .bipush 115, 2), (5, .bipush 107, 2), (7, .iconst 0, 1), (8, .invokevirtual 221, 3), (11, .ifCond .eq 5, 3), (14, .iconst 0, 1), (15, .ireturn, 1), (16, .aload_n 0, 1), (17, .bipush 102, 2), (19, .bipush 101, 2), (21, .bipush 101, 2), (23, .iconst 0, 1), (24, .invokevirtual 221, 3), (27, .ifCond .eq 5, 3), (30, .iconst 1, 1), (31, .ireturn, 1), (32, .aload_n 0, 1), (33, .bipush 102, 2), (35, .bipush 105, 2), (37, .bipush 110, 2), (39, .bipush 101, 2), (41, .invokevirtual 221, 3), (44, .ifCond .eq 7, 3), (47, .iconst 2, 1), (48, .goto 4, 3), (51, .iconst (-1), 1), (52, .ireturn, 1)]
def cdX8_isName : List (Nat × Instr × Nat) := [(0, .iload_n 0, 1), (1, .lookupswitch 75 #[(0, 27), (1, 57)], 27), (28, .iload_n 1, 1), (29, .bipush 111, 2), (31, .if_icmp .eq 21, 3), (34, .iload_n 1, 1), (35, .bipush 119, 2), (37, .if_icmp .eq 15, 3), (40, .iload_n 1, 1), (41, .bipush 116, 2), (43, .if_icmp .eq 9, 3), (46, .iload_n 1, 1), (47, .bipush 110, 2), (49, .if_icmp .ne 7, 3), (52, .iconst 1, 1), (53, .goto 4, 3), (56, .iconst 0, 1), (57, .ireturn, 1), (58, .iload_n 1, 1), (59, .bipush 115, 2), (61, .if_icmp .eq 9, 3), (64, .iload_n 1, 1), (65, .bipush 102, 2), (67, .if_icmp .ne 7, 3), (70, .iconst 1, 1), (71, .goto 4, 3), (74, .iconst 0, 1), (75, .ireturn, 1), (76, .iload_n 1, 1), (77, .bipush 111, 2), (79, .if_icmp .eq 9, 3), (82, .iload_n 1, 1), (83, .bipush 119, 2), (85, .if_icmp .ne 7, 3), (88, .iconst 1, 1), (89, .goto 4, 3), (92, .iconst 0, 1), (93, .ireturn, 1)]
def cdX8_step : List (Nat × Instr × Nat) := [(0, .aload_n 0, 1), (1, .getfield 7, 3), (4, .aload_n 0, 1), (5, .getfield 225, 3), (8, .iconst 2, 1), (9, .aload_n 0, 1), (10, .getfield 228, 3), (13, .imul, 1), (14, .iadd, 1), (15, .iload_n 1, 1), (16, .iastore, 1), (17, .aload_n 0, 1), (18, .getfield 7, 3), (21, .aload_n 0, 1), (22, .getfield 225, 3), (25, .iconst 2, 1), (26, .aload_n 0, 1), (27, .getfield 228, 3), (30, .imul, 1), (31, .iadd, 1), (32, .iconst 1, 1), (33, .iadd, 1), (34, .iload_n 2, 1), (35, .iastore, 1), (36, .aload_n 0, 1), (37, .dup, 1), (38, .getfield 228, 3), (41, .iconst 1, 1), (42, .iadd, 1), (43, .putfield 228, 3), (46, .return_, 1)]
def cdX8_either : List (Nat × Instr × Nat) := [(0, .aload_n 0, 1), (1, .iload_n 1, 1), (2, .invokevirtual 231, 3), (5, .ifCond .ne 5, 3), (8, .iconst 0, 1), (9, .ireturn, 1), (10, .aload_n 0, 1), (11, .bipush 124, 2), (13, .invokevirtual 234, 3), (16, .ifCond .eq 27, 3), (19, .aload_n 0, 1), (20, .invokevirtual 237, 3), (23, .aload_n 0, 1), (24, .iload_n 1, 1), (25, .invokevirtual 231, 3), (28, .ifCond .ne 5, 3), (31, .iconst 0, 1), (32, .ireturn, 1), (33, .aload_n 0, 1), (34, .iconst 2, 1), (35, .bipush 124, 2), (37, .invokevirtual 240, 3), (40, .goto (-30), 3), (43, .iconst 1, 1), (44, .ireturn, 1)]
def cdX8_both : List (Nat × Instr × Nat) := [(0, .aload_n 0, 1), (1, .iload_n 1, 1), (2, .invokevirtual 244, 3), (5, .ifCond .ne 5, 3), (8, .iconst 0, 1), (9, .ireturn, 1), (10, .aload_n 0, 1), (11, .bipush 38, 2), (13, .invokevirtual 234, 3), (16, .ifCond .eq 27, 3), (19, .aload_n 0, 1), (20, .invokevirtual 237, 3), (23, .aload_n 0, 1), (24, .iload_n 1, 1), (25, .invokevirtual 244, 3), (28, .ifCond .ne 5, 3), (31, .iconst 0, 1), (32, .ireturn, 1), (33, .aload_n 0, 1), (34, .iconst 2, 1), (35, .bipush 38, 2), (37, .invokevirtual 240, 3), (40, .goto (-30), 3), (43, .iconst 1, 1), (44, .ireturn, 1)]
def cdX8_test : List (Nat × Instr × Nat) := [(0, .aload_n 0, 1), (1, .iload_n 1, 1), (2, .invokevirtual 247, 3), (5, .ifCond .ne 5, 3), (8, .iconst 0, 1), (9, .ireturn, 1), (10, .aload_n 0, 1), (11, .bipush 60, 2), (13, .invokevirtual 234, 3), (16, .ifCond .ne 21, 3), (19, .aload_n 0, 1), (20, .bipush 61, 2), (22, .invokevirtual 234, 3), (25, .ifCond .ne 12, 3), (28, .aload_n 0, 1), (29, .bipush 62, 2), (31, .invokevirtual 234, 3), (34, .ifCond .eq 28, 3), (37, .aload_n 0, 1), (38, .getfield 212, 3), (41, .istore_n 2, 1), (42, .aload_n 0, 1), (43, .invokevirtual 237, 3), (46, .aload_n 0, 1), (47, .iload_n 1, 1), (48, .invokevirtual 247, 3), (51, .ifCond .ne 5, 3), (54, .iconst 0, 1), (55, .ireturn, 1), (56, .aload_n 0, 1), (57, .iconst 2, 1), (58, .iload_n 2, 1), (59, .invokevirtual 240, 3), (62, .iconst 1, 1), (63, .ireturn, 1)]
def cdX8_sum : List (Nat × Instr × Nat) := [(0, .aload_n 0, 1), (1, .iload_n 1, 1), (2, .invokevirtual 250, 3), (5, .ifCond .ne 5, 3), (8, .iconst 0, 1), (9, .ireturn, 1), (10, .aload_n 0, 1), (11, .bipush 43, 2), (13, .invokevirtual 234, 3), (16, .ifCond .ne 12, 3), (19, .aload_n 0, 1), (20, .bipush 45, 2), (22, .invokevirtual 234, 3), (25, .ifCond .eq 31, 3), (28, .aload_n 0, 1), (29, .getfield 212, 3), (32, .istore_n 2, 1), (33, .aload_n 0, 1), (34, .invokevirtual 237, 3), (37, .aload_n 0, 1), (38, .iload_n 1, 1), (39, .invokevirtual 250, 3), (42, .ifCond .ne 5, 3), (45, .iconst 0, 1), (46, .ireturn, 1), (47, .aload_n 0, 1), (48, .iconst 2, 1), (49, .iload_n 2, 1), (50, .invokevirtual 240, 3), (53, .goto (-43), 3), (56, .iconst 1, 1), (57, .ireturn, 1)]
def cdX8_term : List (Nat × Instr × Nat) := [(0, .aload_n 0, 1), (1, .iload_n 1, 1), (2, .invokevirtual 253, 3), (5, .ifCond .ne 5, 3), (8, .iconst 0, 1), (9, .ireturn, 1), (10, .aload_n 0, 1), (11, .bipush 42, 2), (13, .invokevirtual 234, 3), (16, .ifCond .ne 12, 3), (19, .aload_n 0, 1), (20, .bipush 47, 2), (22, .invokevirtual 234, 3), (25, .ifCond .eq 31, 3), (28, .aload_n 0, 1), (29, .getfield 212, 3), (32, .istore_n 2, 1), (33, .aload_n 0, 1), (34, .invokevirtual 237, 3), (37, .aload_n 0, 1), (38, .iload_n 1, 1), (39, .invokevirtual 253, 3), (42, .ifCond .ne 5, 3), (45, .iconst 0, 1), (46, .ireturn, 1), (47, .aload_n 0, 1), (48, .iconst 2, 1), (49, .iload_n 2, 1), (50, .invokevirtual 240, 3), (53, .goto (-43), 3), (56, .iconst 1, 1), (57, .ireturn, 1)]
def cdX8_part0 : List (Nat × Instr × Nat) := [(0, .aload_n 0, 1), (1, .getfield 203, 3), (4, .iconst 2, 1), (5, .if_icmp .ne 28, 3), (8, .aload_n 0, 1), (9, .iconst 0, 1), (10, .aload_n 0, 1), (11, .getfield 218, 3), (14, .invokevirtual 240, 3), (17, .aload_n 0, 1), (18, .dup, 1), (19, .getfield 256, 3), (22, .iconst 1, 1), (23, .iadd, 1), (24, .putfield 256, 3), (27, .aload_n 0, 1), (28, .invokevirtual 237, 3), (31, .iconst 1, 1), (32, .ireturn, 1), (33, .aload_n 0, 1), (34, .getfield 203, 3), (37, .iconst 1, 1), (38, .if_icmp .ne 46, 3), (41, .aload_n 0, 1), (42, .getfield 212, 3), (45, .ifCond .eq 39, 3), (48, .iload_n 1, 1), (49, .aload_n 0, 1), (50, .getfield 212, 3), (53, .invokestatic 259, 3), (56, .ifCond .eq 28, 3), (59, .aload_n 0, 1), (60, .iconst 1, 1), (61, .aload_n 0, 1), (62, .getfield 212, 3), (65, .invokevirtual 240, 3), (68, .aload_n 0, 1), (69, .dup, 1), (70, .getfield 256, 3), (73, .iconst 1, 1), (74, .iadd, 1), (75, .putfield 256, 3), (78, .aload_n 0, 1), (79, .invokevirtual 237, 3), (82, .iconst 1, 1), (83, .ireturn, 1), (84, .aload_n 0, 1), (85, .bipush 33, 2), (87, .invokevirtual 234, 3), (90, .ifCond .eq 55, 3), (93, .aload_n 0, 1), (94, .getfield 262, 3), (97, .bipush 8, 2), (99, .if_icmp .ge 46, 3), (102, .aload_n 0, 1), (103, .dup, 1), (104, .getfield 262, 3), (107, .iconst 1, 1), (108, .iadd, 1), (109, .putfield 262, 3), (112, .aload_n 0, 1), (113, .invokevirtual 237, 3), (116, .aload_n 0, 1), (117, .iload_n 1, 1), (118, .invokevirtual 253, 3), (121, .ifCond .ne 5, 3), (124, .iconst 0, 1), (125, .ireturn, 1), (126, .aload_n 0, 1), (127, .dup, 1), (128, .getfield 262, 3), (131, .iconst 1, 1), (132, .isub, 1), (133, .putfield 262, 3), (136, .aload_n 0, 1), (137, .iconst 2, 1), (138, .bipush 33, 2), (140, .invokevirtual 240, 3), (143, .iconst 1, 1), (144, .ireturn, 1), (145, .aload_n 0, 1), (146, .bipush 40, 2), (148, .invokevirtual 234, 3), (151, .ifCond .eq 12, 3), (154, .aload_n 0, 1), (155, .getfield 265, 3), (158, .bipush 8, 2), (160, .if_icmp .ne 5, 3), (163, .iconst 0, 1), (164, .ireturn, 1), (165, .aload_n 0, 1), (166, .dup, 1), (167, .getfield 265, 3), (170, .iconst 1, 1), (171, .iadd, 1), (172, .putfield 265, 3), (175, .aload_n 0, 1), (176, .invokevirtual 237, 3), (179, .aload_n 0, 1), (180, .iload_n 1, 1), (181, .invokevirtual 268, 3), (184, .ifCond .eq 12, 3), (187, .aload_n 0, 1), (188, .bipush 41, 2), (190, .invokevirtual 234, 3), (193, .ifCond .ne 5, 3), (196, .iconst 0, 1), (197, .ireturn, 1), (198, .aload_n 0, 1), (199, .dup, 1), (200, .getfield 265, 3), (203, .iconst 1, 1), (204, .isub, 1), (205, .putfield 265, 3), (208, .aload_n 0, 1), (209, .invokevirtual 237, 3), (212, .iconst 1, 1), (213, .ireturn, 1)]
def cdX8_parse : List (Nat × Instr × Nat) := [(0, .aload_n 0, 1), (1, .iconst 0, 1), (2, .putfield 200, 3), (5, .aload_n 0, 1), (6, .iconst 3, 1), (7, .putfield 203, 3), (10, .aload_n 0, 1), (11, .iconst 0, 1), (12, .putfield 265, 3), (15, .aload_n 0, 1), (16, .iconst 0, 1), (17, .putfield 262, 3), (20, .aload_n 0, 1), (21, .iconst 0, 1), (22, .putfield 228, 3), (25, .aload_n 0, 1), (26, .iconst 0, 1), (27, .putfield 256, 3), (30, .aload_n 0, 1), (31, .aload_n 0, 1), (32, .getfield 7, 3), (35, .iconst 1, 1), (36, .iaload, 1), (37, .bipush 14, 2), (39, .if_icmp .ge 18, 3), (42, .aload_n 0, 1), (43, .aload_n 0, 1), (44, .getfield 7, 3), (47, .iconst 1, 1), (48, .iaload, 1), (49, .invokevirtual 271, 3), (52, .iconst 4, 1), (53, .iadd, 1), (54, .goto 6, 3), (57, .sipush 2860, 3), (60, .putfield 225, 3), (63, .aload_n 0, 1), (64, .invokevirtual 237, 3), (67, .aload_n 0, 1), (68, .invokevirtual 274, 3), (71, .istore_n 1, 1), (72, .iload_n 1, 1), (73, .ifCond .lt 7, 3), (76, .iconst 1, 1), (77, .goto 4, 3), (80, .iconst 0, 1), (81, .istore_n 2, 1), (82, .iload_n 2, 1), (83, .ifCond .eq 28, 3), (86, .aload_n 0, 1), (87, .invokevirtual 237, 3), (90, .aload_n 0, 1), (91, .iload_n 1, 1), (92, .invokevirtual 268, 3), (95, .ifCond .eq 14, 3), (98, .aload_n 0, 1), (99, .getfield 203, 3), (102, .ifCond .ne 7, 3), (105, .iconst 1, 1), (106, .goto 4, 3), (109, .iconst 0, 1), (110, .istore_n 2, 1), (111, .aload_n 0, 1), (112, .iconst 0, 1), (113, .putfield 188, 3), (116, .iload_n 2, 1), (117, .ifCond .eq 7, 3), (120, .iload_n 1, 1), (121, .goto 4, 3), (124, .iconst (-1), 1), (125, .ireturn, 1)]
def cdX8_text : List (Nat × Instr × Nat) := [(0, .aload_n 0, 1), (1, .invokevirtual 277, 3), (4, .istore_n 1, 1), (5, .iload_n 1, 1), (6, .ifCond .ge 11, 3), (9, .bipush (-100), 2), (11, .aload_n 0, 1), (12, .getfield 206, 3), (15, .isub, 1), (16, .ireturn, 1), (17, .aload_n 0, 1), (18, .getfield 7, 3), (21, .iconst 1, 1), (22, .iaload, 1), (23, .bipush 14, 2), (25, .if_icmp .ne 6, 3), (28, .ldc 104, 2), (30, .ireturn, 1), (31, .aload_n 0, 1), (32, .aload_n 0, 1), (33, .getfield 7, 3), (36, .iconst 1, 1), (37, .iaload, 1), (38, .invokevirtual 271, 3), (41, .istore_n 2, 1), (42, .aload_n 0, 1), (43, .getfield 7, 3), (46, .iload_n 2, 1), (47, .iconst 0, 1), (48, .iadd, 1), (49, .iload_n 1, 1), (50, .iastore, 1), (51, .aload_n 0, 1), (52, .getfield 7, 3), (55, .iload_n 2, 1), (56, .iconst 1, 1), (57, .iadd, 1), (58, .aload_n 0, 1), (59, .getfield 256, 3), (62, .iastore, 1), (63, .aload_n 0, 1), (64, .getfield 7, 3), (67, .iload_n 2, 1), (68, .iconst 2, 1), (69, .iadd, 1), (70, .aload_n 0, 1), (71, .getfield 228, 3), (74, .iastore, 1), (75, .aload_n 0, 1), (76, .getfield 7, 3), (79, .iconst 1, 1), (80, .dup2, 1), (81, .iaload, 1), (82, .iconst 1, 1), (83, .iadd, 1), (84, .iastore, 1), (85, .aload_n 0, 1), (86, .getfield 7, 3), (89, .iconst 1, 1), (90, .iaload, 1), (91, .iconst 1, 1), (92, .isub, 1), (93, .ireturn, 1)]
def cdX8_textTold : List (Nat × Instr × Nat) := [(0, .aload_n 0, 1), (1, .iload_n 1, 1), (2, .invokevirtual 280, 3), (5, .ifCond .eq 13, 3), (8, .iload_n 2, 1), (9, .i2l, 1), (10, .lconst 0, 1), (11, .lconst 1, 1), (12, .invokestatic 65, 3), (15, .ifCond .ne 6, 3), (18, .ldc 103, 2), (20, .ireturn, 1), (21, .aload_n 0, 1), (22, .getfield 7, 3), (25, .aload_n 0, 1), (26, .iload_n 1, 1), (27, .invokevirtual 271, 3), (30, .iload_n 2, 1), (31, .iadd, 1), (32, .iaload, 1), (33, .ireturn, 1)]
def cdX8_counts : List (Nat × Instr × Nat) := [(0, .iconst (-1), 1), (1, .istore_n 2, 1), (2, .iconst 0, 1), (3, .istore_n 3, 1), (4, .iload_n 3, 1), (5, .aload_n 0, 1), (6, .getfield 7, 3), (9, .iconst 1, 1), (10, .iaload, 1), (11, .if_icmp .ge 29, 3), (14, .aload_n 0, 1), (15, .getfield 7, 3), (18, .aload_n 0, 1), (19, .iload_n 3, 1), (20, .invokevirtual 271, 3), (23, .iaload, 1), (24, .iload_n 1, 1), (25, .if_icmp .ne 7, 3), (28, .iload_n 3, 1), (29, .goto 4, 3), (32, .iload_n 2, 1), (33, .istore_n 2, 1), (34, .iinc 3 1, 3), (37, .goto (-33), 3), (40, .iload_n 2, 1), (41, .ireturn, 1)]
def cdX8_why : List (Nat × Instr × Nat) := [(0, .iload_n 1, 1), (1, .i2l, 1), (2, .lconst 0, 1), (3, .ldc2_w 283, 3), (6, .invokestatic 65, 3), (9, .ifCond .eq 14, 3), (12, .aload_n 0, 1), (13, .iload_n 1, 1), (14, .invokevirtual 70, 3), (17, .invokestatic 170, 3), (20, .goto 5, 3), (23, .ldc 103, 2), (25, .ireturn, 1)]
def cdX8_joined : List (Nat × Instr × Nat) := [(0, .iload_n 0, 1), (1, .tableswitch 196 38 62 #[182, 196, 196, 196, 123, 115, 196, 119, 196, 127, 196, 196, 196, 196, 196, 196, 196, 196, 196, 196, 196, 196, 149, 171, 160], 115), (116, .iload_n 1, 1), (117, .iload_n 2, 1), (118, .iadd, 1), (119, .ireturn, 1), (120, .iload_n 1, 1), (121, .iload_n 2, 1), (122, .isub, 1), (123, .ireturn, 1), (124, .iload_n 1, 1), (125, .iload_n 2, 1), (126, .imul, 1), (127, .ireturn, 1), (128, .iload_n 2, 1), (129, .ifCond .ne 7, 3), (132, .iconst 0, 1), (133, .goto 16, 3), (136, .iload_n 2, 1), (137, .iconst (-1), 1), (138, .if_icmp .ne 8, 3), (141, .iload_n 1, 1), (142, .ineg, 1), (143, .goto 6, 3), (146, .iload_n 1, 1), (147, .iload_n 2, 1), (148, .idiv, 1), (149, .ireturn, 1), (150, .iload_n 1, 1), (151, .iload_n 2, 1), (152, .if_icmp .ge 7, 3), (155, .iconst 1, 1), (156, .goto 4, 3), (159, .iconst 0, 1), (160, .ireturn, 1), (161, .iload_n 1, 1), (162, .iload_n 2, 1), (163, .if_icmp .le 7, 3), (166, .iconst 1, 1), (167, .goto 4, 3), (170, .iconst 0, 1), (171, .ireturn, 1), (172, .iload_n 1, 1), (173, .iload_n 2, 1), (174, .if_icmp .ne 7, 3), (177, .iconst 1, 1), (178, .goto 4, 3), (181, .iconst 0, 1), (182, .ireturn, 1), (183, .iload_n 1, 1), (184, .ifCond .eq 11, 3), (187, .iload_n 2, 1), (188, .ifCond .eq 7, 3), (191, .iconst 1, 1), (192, .goto 4, 3), (195, .iconst 0, 1), (196, .ireturn, 1), (197, .iload_n 1, 1), (198, .ifCond .ne 7, 3), (201, .iload_n 2, 1), (202, .ifCond .eq 7, 3), (205, .iconst 1, 1), (206, .goto 4, 3), (209, .iconst 0, 1), (210, .ireturn, 1)]
def cdX8_worked : List (Nat × Instr × Nat) := [(0, .iconst 0, 1), (1, .istore_n 2, 1), (2, .iconst 0, 1), (3, .istore_n 3, 1), (4, .iload_n 3, 1), (5, .aload_n 0, 1), (6, .getfield 7, 3), (9, .aload_n 0, 1), (10, .iload_n 1, 1), (11, .invokevirtual 271, 3), (14, .iconst 2, 1), (15, .iadd, 1), (16, .iaload, 1), (17, .if_icmp .ge 146, 3), (20, .aload_n 0, 1), (21, .getfield 7, 3), (24, .aload_n 0, 1), (25, .iload_n 1, 1), (26, .invokevirtual 271, 3), (29, .iconst 4, 1), (30, .iadd, 1), (31, .iconst 2, 1), (32, .iload_n 3, 1), (33, .imul, 1), (34, .iadd, 1), (35, .iaload, 1), (36, .istore 4, 2), (38, .aload_n 0, 1), (39, .getfield 7, 3), (42, .aload_n 0, 1), (43, .iload_n 1, 1), (44, .invokevirtual 271, 3), (47, .iconst 4, 1), (48, .iadd, 1), (49, .iconst 2, 1), (50, .iload_n 3, 1), (51, .imul, 1), (52, .iadd, 1), (53, .iconst 1, 1), (54, .iadd, 1), (55, .iaload, 1), (56, .istore 5, 2), (58, .iload 4, 2), (60, .iconst 2, 1), (61, .if_icmp .eq 32, 3), (64, .aload_n 0, 1), (65, .getfield 52, 3), (68, .iload_n 2, 1), (69, .iload 4, 2), (71, .ifCond .ne 8, 3), (74, .iload 5, 2), (76, .goto 10, 3), (79, .aload_n 0, 1), (80, .getfield 49, 3), (83, .iload 5, 2), (85, .iaload, 1), (86, .iastore, 1), (87, .iinc 2 1, 3), (90, .goto 67, 3), (93, .iload 5, 2), (95, .bipush 33, 2), (97, .if_icmp .ne 30, 3), (100, .aload_n 0, 1), (101, .getfield 52, 3), (104, .iload_n 2, 1), (105, .iconst 1, 1), (106, .isub, 1), (107, .aload_n 0, 1), (108, .getfield 52, 3), (111, .iload_n 2, 1), (112, .iconst 1, 1), (113, .isub, 1), (114, .iaload, 1), (115, .ifCond .ne 7, 3), (118, .iconst 1, 1), (119, .goto 4, 3), (122, .iconst 0, 1), (123, .iastore, 1), (124, .goto 33, 3), (127, .iinc 2 (-1), 3), (130, .aload_n 0, 1), (131, .getfield 52, 3), (134, .iload_n 2, 1), (135, .iconst 1, 1), (136, .isub, 1), (137, .iload 5, 2), (139, .aload_n 0, 1), (140, .getfield 52, 3), (143, .iload_n 2, 1), (144, .iconst 1, 1), (145, .isub, 1), (146, .iaload, 1), (147, .aload_n 0, 1), (148, .getfield 52, 3), (151, .iload_n 2, 1), (152, .iaload, 1), (153, .invokestatic 285, 3), (156, .iastore, 1), (157, .iinc 3 1, 3), (160, .goto (-156), 3), (163, .aload_n 0, 1), (164, .getfield 52, 3), (167, .iconst 0, 1), (168, .iaload, 1), (169, .ireturn, 1)]
def cdX8_isSheet : List (Nat × Instr × Nat) := [(0, .iload_n 0, 1), (1, .i2l, 1), (2, .lconst 0, 1), (3, .ldc2_w 289, 3), (6, .invokestatic 65, 3), (9, .ireturn, 1)]
def cdX8_sheet : List (Nat × Instr × Nat) := [(0, .iload_n 1, 1), (1, .invokestatic 291, 3), (4, .ifCond .eq 25, 3), (7, .iload_n 2, 1), (8, .i2l, 1), (9, .ldc2_w 294, 3), (12, .lconst 1, 1), (13, .invokestatic 65, 3), (16, .ifCond .eq 13, 3), (19, .iload_n 2, 1), (20, .ifCond .lt 12, 3), (23, .iload_n 3, 1), (24, .bipush 24, 2), (26, .if_icmp .le 6, 3), (29, .ldc 103, 2), (31, .ireturn, 1), (32, .iload_n 2, 1), (33, .ifCond .lt 11, 3), (36, .iload_n 3, 1), (37, .ifCond .ge 7, 3), (40, .ldc_w 296, 3), (43, .ireturn, 1), (44, .aload_n 0, 1), (45, .getfield 19, 3), (48, .iload_n 1, 1), (49, .iload_n 2, 1), (50, .iastore, 1), (51, .aload_n 0, 1), (52, .getfield 22, 3), (55, .iload_n 1, 1), (56, .iload_n 2, 1), (57, .ifCond .ge 7, 3), (60, .iconst 0, 1), (61, .goto 4, 3), (64, .iload_n 3, 1), (65, .iastore, 1), (66, .iconst 0, 1), (67, .istore 4, 2), (69, .iload 4, 2), (71, .bipush 24, 2), (73, .if_icmp .ge 22, 3), (76, .aload_n 0, 1), (77, .getfield 25, 3), (80, .bipush 24, 2), (82, .iload_n 1, 1), (83, .imul, 1), (84, .iload 4, 2), (86, .iadd, 1), (87, .iconst 0, 1), (88, .iastore, 1), (89, .iinc 4 1, 3), (92, .goto (-23), 3), (95, .aload_n 0, 1), (96, .getfield 22, 3), (99, .iload_n 1, 1), (100, .iaload, 1), (101, .ireturn, 1)]
def cdX8_mark : List (Nat × Instr × Nat) := [(0, .iload_n 1, 1), (1, .invokestatic 291, 3), (4, .ifCond .ne 6, 3), (7, .ldc 103, 2), (9, .ireturn, 1), (10, .aload_n 0, 1), (11, .getfield 19, 3), (14, .iload_n 1, 1), (15, .iaload, 1), (16, .ifCond .ge 7, 3), (19, .ldc_w 297, 3), (22, .ireturn, 1), (23, .iload_n 2, 1), (24, .i2l, 1), (25, .lconst 0, 1), (26, .aload_n 0, 1), (27, .getfield 22, 3), (30, .iload_n 1, 1), (31, .iaload, 1), (32, .iconst 1, 1), (33, .isub, 1), (34, .i2l, 1), (35, .invokestatic 65, 3), (38, .ifCond .ne 7, 3), (41, .ldc_w 298, 3), (44, .ireturn, 1), (45, .aload_n 0, 1), (46, .getfield 19, 3), (49, .iload_n 1, 1), (50, .iaload, 1), (51, .ifCond .ne 12, 3), (54, .iload_n 3, 1), (55, .ldc 64, 2), (57, .if_icmp .ne 6, 3), (60, .ldc 131, 2), (62, .ireturn, 1), (63, .aload_n 0, 1), (64, .getfield 19, 3), (67, .iload_n 1, 1), (68, .iaload, 1), (69, .iconst 1, 1), (70, .if_icmp .ne 26, 3), (73, .iload_n 3, 1), (74, .ldc 64, 2), (76, .if_icmp .eq 20, 3), (79, .iload_n 3, 1), (80, .i2l, 1), (81, .ldc2_w 299, 3), (84, .ldc2_w 301, 3), (87, .invokestatic 65, 3), (90, .ifCond .ne 6, 3), (93, .ldc 103, 2), (95, .ireturn, 1), (96, .aload_n 0, 1), (97, .getfield 25, 3), (100, .bipush 24, 2), (102, .iload_n 1, 1), (103, .imul, 1), (104, .iload_n 2, 1), (105, .iadd, 1), (106, .aload_n 0, 1), (107, .getfield 19, 3), (110, .iload_n 1, 1), (111, .iaload, 1), (112, .ifCond .ne 13, 3), (115, .iload_n 3, 1), (116, .bipush 16, 2), (118, .ishl, 1), (119, .bipush 16, 2), (121, .ishr, 1), (122, .goto 4, 3), (125, .iload_n 3, 1), (126, .iastore, 1), (127, .iconst 1, 1), (128, .ireturn, 1)]
def cdX8_pour : List (Nat × Instr × Nat) := [(0, .iload_n 1, 1), (1, .invokestatic 291, 3), (4, .ifCond .ne 6, 3), (7, .ldc 103, 2), (9, .ireturn, 1), (10, .aload_n 0, 1), (11, .getfield 19, 3), (14, .iload_n 1, 1), (15, .iaload, 1), (16, .ifCond .ge 7, 3), (19, .ldc_w 297, 3), (22, .ireturn, 1), (23, .iconst 0, 1), (24, .istore_n 2, 1), (25, .iconst 0, 1), (26, .istore_n 3, 1), (27, .iload_n 3, 1), (28, .aload_n 0, 1), (29, .getfield 22, 3), (32, .iload_n 1, 1), (33, .iaload, 1), (34, .if_icmp .ge 84, 3), (37, .iload_n 3, 1), (38, .aload_n 0, 1), (39, .getfield 7, 3), (42, .iconst 0, 1), (43, .iaload, 1), (44, .if_icmp .ge 74, 3), (47, .aload_n 0, 1), (48, .getfield 25, 3), (51, .bipush 24, 2), (53, .iload_n 1, 1), (54, .imul, 1), (55, .iload_n 3, 1), (56, .iadd, 1), (57, .iaload, 1), (58, .istore 4, 2), (60, .iload 4, 2), (62, .ldc 64, 2), (64, .if_icmp .ne 12, 3), (67, .aload_n 0, 1), (68, .iload_n 3, 1), (69, .iconst 1, 1), (70, .invokevirtual 74, 3), (73, .goto 10, 3), (76, .iload 4, 2), (78, .bipush 100, 2), (80, .invokestatic 84, 3), (83, .istore 5, 2), (85, .iload_n 2, 1), (86, .iload 5, 2), (88, .aload_n 0, 1), (89, .bipush 10, 2), (91, .iconst 5, 1), (92, .iload_n 3, 1), (93, .imul, 1), (94, .iadd, 1), (95, .iconst 1, 1), (96, .iadd, 1), (97, .iload 5, 2), (99, .invokevirtual 132, 3), (102, .if_icmp .ne 7, 3), (105, .iconst 0, 1), (106, .goto 4, 3), (109, .iconst 1, 1), (110, .iadd, 1), (111, .istore_n 2, 1), (112, .iinc 3 1, 3), (115, .goto (-88), 3), (118, .iload_n 2, 1), (119, .ireturn, 1)]
def cdX8_reads : List (Nat × Instr × Nat) := [(0, .iload_n 1, 1), (1, .invokestatic 291, 3), (4, .ifCond .ne 6, 3), (7, .ldc 103, 2), (9, .ireturn, 1), (10, .aload_n 0, 1), (11, .getfield 19, 3), (14, .iload_n 1, 1), (15, .iaload, 1), (16, .ifCond .ge 7, 3), (19, .ldc_w 297, 3), (22, .ireturn, 1), (23, .iconst 0, 1), (24, .istore_n 2, 1), (25, .iload_n 2, 1), (26, .aload_n 0, 1), (27, .getfield 22, 3), (30, .iload_n 1, 1), (31, .iaload, 1), (32, .if_icmp .ge 49, 3), (35, .aload_n 0, 1), (36, .getfield 25, 3), (39, .bipush 24, 2), (41, .iload_n 1, 1), (42, .imul, 1), (43, .iload_n 2, 1), (44, .iadd, 1), (45, .iaload, 1), (46, .istore_n 3, 1), (47, .iload_n 3, 1), (48, .ldc 64, 2), (50, .if_icmp .eq 25, 3), (53, .iload_n 2, 1), (54, .aload_n 0, 1), (55, .getfield 7, 3), (58, .iconst 0, 1), (59, .iaload, 1), (60, .if_icmp .ge 13, 3), (63, .iload_n 3, 1), (64, .aload_n 0, 1), (65, .iload_n 2, 1), (66, .iconst 2, 1), (67, .invokevirtual 74, 3), (70, .if_icmp .eq 5, 3), (73, .iload_n 2, 1), (74, .ireturn, 1), (75, .iinc 2 1, 3), (78, .goto (-53), 3), (81, .ldc 64, 2), (83, .ireturn, 1)]
def cdX8_unlike : List (Nat × Instr × Nat) := [(0, .aload_n 0, 1), (1, .invokevirtual 173, 3), (4, .lconst 0, 1), (5, .lstore_n 3, 1), (6, .iconst 0, 1), (7, .istore 5, 2), (9, .iload 5, 2), (11, .aload_n 0, 1), (12, .getfield 22, 3), (15, .iload_n 1, 1), (16, .iaload, 1), (17, .if_icmp .ge 53, 3), (20, .aload_n 0, 1), (21, .getfield 25, 3), (24, .bipush 24, 2), (26, .iload_n 1, 1), (27, .imul, 1), (28, .iload 5, 2), (30, .iadd, 1), (31, .iaload, 1), (32, .istore 6, 2), (34, .lload_n 3, 1), (35, .iload 6, 2), (37, .ldc 64, 2), (39, .if_icmp .ne 7, 3), (42, .lconst 0, 1), (43, .goto 15, 3), (46, .iload 6, 2), (48, .aload_n 0, 1), (49, .iload_n 2, 1), (50, .iconst 4, 1), (51, .invokevirtual 74, 3), (54, .invokestatic 303, 3), (57, .i2l, 1), (58, .ladd, 1), (59, .lstore_n 3, 1), (60, .aload_n 0, 1), (61, .invokevirtual 157, 3), (64, .iinc 5 1, 3), (67, .goto (-58), 3), (70, .aload_n 0, 1), (71, .invokevirtual 176, 3), (74, .lload_n 3, 1), (75, .lreturn, 1)]
def cdX8_like : List (Nat × Instr × Nat) := [(0, .iload_n 1, 1), (1, .invokestatic 291, 3), (4, .ifCond .eq 13, 3), (7, .iload_n 2, 1), (8, .i2l, 1), (9, .lconst 0, 1), (10, .lconst 1, 1), (11, .invokestatic 65, 3), (14, .ifCond .ne 6, 3), (17, .ldc 103, 2), (19, .ireturn, 1), (20, .aload_n 0, 1), (21, .getfield 19, 3), (24, .iload_n 1, 1), (25, .iaload, 1), (26, .ifCond .ge 7, 3), (29, .ldc_w 297, 3), (32, .ireturn, 1), (33, .iconst (-1), 1), (34, .istore_n 3, 1), (35, .lconst 0, 1), (36, .lstore 4, 2), (38, .iconst 0, 1), (39, .istore 6, 2), (41, .iload 6, 2), (43, .aload_n 0, 1), (44, .getfield 7, 3), (47, .iconst 0, 1), (48, .iaload, 1), (49, .if_icmp .ge 63, 3), (52, .aload_n 0, 1), (53, .iload_n 1, 1), (54, .iload 6, 2), (56, .invokevirtual 306, 3), (59, .lstore 7, 2), (61, .iload_n 3, 1), (62, .ifCond .lt 11, 3), (65, .lload 7, 2), (67, .lload 4, 2), (69, .lcmp, 1), (70, .ifCond .ge 7, 3), (73, .iconst 1, 1), (74, .goto 4, 3), (77, .iconst 0, 1), (78, .istore 9, 2), (80, .iload 9, 2), (82, .ifCond .eq 8, 3), (85, .iload 6, 2), (87, .goto 4, 3), (90, .iload_n 3, 1), (91, .istore_n 3, 1), (92, .iload 9, 2), (94, .ifCond .eq 8, 3), (97, .lload 7, 2), (99, .goto 5, 3), (102, .lload 4, 2), (104, .lstore 4, 2), (106, .iinc 6 1, 3), (109, .goto (-68), 3), (112, .iload_n 3, 1), (113, .ifCond .ge 8, 3), (116, .ldc 64, 2), (118, .goto 14, 3), (121, .iload_n 2, 1), (122, .ifCond .ne 7, 3), (125, .iload_n 3, 1), (126, .goto 6, 3), (129, .lload 4, 2), (131, .l2i, 1), (132, .ireturn, 1)]
def cdX8_copy : List (Nat × Instr × Nat) := [(0, .iload_n 1, 1), (1, .invokestatic 291, 3), (4, .ifCond .eq 10, 3), (7, .iload_n 3, 1), (8, .invokestatic 291, 3), (11, .ifCond .ne 6, 3), (14, .ldc 103, 2), (16, .ireturn, 1), (17, .aload_n 0, 1), (18, .getfield 19, 3), (21, .iload_n 1, 1), (22, .iaload, 1), (23, .ifCond .lt 12, 3), (26, .aload_n 0, 1), (27, .getfield 19, 3), (30, .iload_n 3, 1), (31, .iaload, 1), (32, .ifCond .ge 7, 3), (35, .ldc_w 297, 3), (38, .ireturn, 1), (39, .aload_n 0, 1), (40, .getfield 19, 3), (43, .iload_n 1, 1), (44, .iaload, 1), (45, .aload_n 0, 1), (46, .getfield 19, 3), (49, .iload_n 3, 1), (50, .iaload, 1), (51, .if_icmp .eq 6, 3), (54, .ldc 131, 2), (56, .ireturn, 1), (57, .iload_n 2, 1), (58, .ifCond .lt 48, 3), (61, .iload 4, 2), (63, .ifCond .lt 43, 3), (66, .iload 5, 2), (68, .ifCond .lt 38, 3), (71, .iload_n 2, 1), (72, .i2l, 1), (73, .iload 5, 2), (75, .i2l, 1), (76, .ladd, 1), (77, .aload_n 0, 1), (78, .getfield 22, 3), (81, .iload_n 1, 1), (82, .iaload, 1), (83, .i2l, 1), (84, .lcmp, 1), (85, .ifCond .gt 21, 3), (88, .iload 4, 2), (90, .i2l, 1), (91, .iload 5, 2), (93, .i2l, 1), (94, .ladd, 1), (95, .aload_n 0, 1), (96, .getfield 22, 3), (99, .iload_n 3, 1), (100, .iaload, 1), (101, .i2l, 1), (102, .lcmp, 1), (103, .ifCond .le 7, 3), (106, .ldc_w 298, 3), (109, .ireturn, 1), (110, .iconst 0, 1), (111, .istore 6, 2), (113, .iload 6, 2), (115, .iload 5, 2), (117, .if_icmp .ge 30, 3), (120, .aload_n 0, 1), (121, .getfield 55, 3), (124, .iload 6, 2), (126, .aload_n 0, 1), (127, .getfield 25, 3), (130, .bipush 24, 2), (132, .iload_n 1, 1), (133, .imul, 1), (134, .iload_n 2, 1), (135, .iadd, 1), (136, .iload 6, 2), (138, .iadd, 1), (139, .iaload, 1), (140, .iastore, 1), (141, .iinc 6 1, 3), (144, .goto (-31), 3), (147, .iconst 0, 1), (148, .istore 6, 2), (150, .iload 6, 2), (152, .iload 5, 2), (154, .if_icmp .ge 31, 3), (157, .aload_n 0, 1), (158, .getfield 25, 3), (161, .bipush 24, 2), (163, .iload_n 3, 1), (164, .imul, 1), (165, .iload 4, 2), (167, .iadd, 1), (168, .iload 6, 2), (170, .iadd, 1), (171, .aload_n 0, 1), (172, .getfield 55, 3), (175, .iload 6, 2), (177, .iaload, 1), (178, .iastore, 1), (179, .iinc 6 1, 3), (182, .goto (-32), 3), (185, .iload 5, 2), (187, .ireturn, 1)]
def cdX8_isSlot : List (Nat × Instr × Nat) := [(0, .iload_n 0, 1), (1, .i2l, 1), (2, .lconst 0, 1), (3, .ldc2_w 135, 3), (6, .invokestatic 65, 3), (9, .ireturn, 1)]
def cdX8_lay : List (Nat × Instr × Nat) := [(0, .iload_n 2, 1), (1, .ifCond .eq 33, 3), (4, .iload_n 2, 1), (5, .iconst 3, 1), (6, .if_icmp .eq 28, 3), (9, .iload_n 2, 1), (10, .iconst 1, 1), (11, .if_icmp .ne 11, 3), (14, .aload_n 0, 1), (15, .iload_n 3, 1), (16, .invokevirtual 109, 3), (19, .ifCond .ne 15, 3), (22, .iload_n 2, 1), (23, .iconst 2, 1), (24, .if_icmp .ne 14, 3), (27, .iload_n 3, 1), (28, .invokestatic 291, 3), (31, .ifCond .eq 7, 3), (34, .iconst 1, 1), (35, .goto 4, 3), (38, .iconst 0, 1), (39, .istore 4, 2), (41, .iload_n 1, 1), (42, .invokestatic 310, 3), (45, .ifCond .eq 8, 3), (48, .iload 4, 2), (50, .ifCond .ne 6, 3), (53, .ldc 103, 2), (55, .ireturn, 1), (56, .iload_n 2, 1), (57, .iconst 2, 1), (58, .if_icmp .ne 16, 3), (61, .aload_n 0, 1), (62, .getfield 19, 3), (65, .iload_n 3, 1), (66, .iaload, 1), (67, .ifCond .ge 7, 3), (70, .ldc_w 297, 3), (73, .ireturn, 1), (74, .aload_n 0, 1), (75, .getfield 28, 3), (78, .iload_n 1, 1), (79, .iaload, 1), (80, .istore 5, 2), (82, .aload_n 0, 1), (83, .getfield 28, 3), (86, .iload_n 1, 1), (87, .iload_n 2, 1), (88, .iastore, 1), (89, .aload_n 0, 1), (90, .getfield 31, 3), (93, .iload_n 1, 1), (94, .iload_n 2, 1), (95, .iconst 1, 1), (96, .if_icmp .ne 12, 3), (99, .aload_n 0, 1), (100, .iload_n 3, 1), (101, .iconst 0, 1), (102, .invokevirtual 74, 3), (105, .goto 4, 3), (108, .iload_n 3, 1), (109, .iastore, 1), (110, .aload_n 0, 1), (111, .getfield 34, 3), (114, .iload_n 1, 1), (115, .iload_n 2, 1), (116, .iconst 1, 1), (117, .if_icmp .ne 11, 3), (120, .aload_n 0, 1), (121, .iload_n 3, 1), (122, .invokevirtual 124, 3), (125, .goto 4, 3), (128, .iconst 0, 1), (129, .iastore, 1), (130, .iload_n 2, 1), (131, .iconst 2, 1), (132, .if_icmp .ne 55, 3), (135, .aload_n 0, 1), (136, .getfield 37, 3), (139, .iload_n 1, 1), (140, .aload_n 0, 1), (141, .getfield 22, 3), (144, .iload_n 3, 1), (145, .iaload, 1), (146, .iastore, 1), (147, .iconst 0, 1), (148, .istore 6, 2), (150, .iload 6, 2), (152, .bipush 24, 2), (154, .if_icmp .ge 33, 3), (157, .aload_n 0, 1), (158, .getfield 40, 3), (161, .bipush 24, 2), (163, .iload_n 1, 1), (164, .imul, 1), (165, .iload 6, 2), (167, .iadd, 1), (168, .aload_n 0, 1), (169, .getfield 25, 3), (172, .bipush 24, 2), (174, .iload_n 3, 1), (175, .imul, 1), (176, .iload 6, 2), (178, .iadd, 1), (179, .iaload, 1), (180, .iastore, 1), (181, .iinc 6 1, 3), (184, .goto (-34), 3), (187, .iload 5, 2), (189, .ireturn, 1)]
def cdX8_ask : List (Nat × Instr × Nat) := [(0, .iload_n 1, 1), (1, .invokestatic 310, 3), (4, .ifCond .eq 15, 3), (7, .iload_n 2, 1), (8, .i2l, 1), (9, .lconst 0, 1), (10, .ldc2_w 97, 3), (13, .invokestatic 65, 3), (16, .ifCond .ne 6, 3), (19, .ldc 103, 2), (21, .ireturn, 1), (22, .aload_n 0, 1), (23, .getfield 28, 3), (26, .iload_n 1, 1), (27, .iaload, 1), (28, .ifCond .ne 7, 3), (31, .ldc_w 297, 3), (34, .ireturn, 1), (35, .aload_n 0, 1), (36, .getfield 28, 3), (39, .iload_n 1, 1), (40, .iaload, 1), (41, .iconst 1, 1), (42, .if_icmp .ne 25, 3), (45, .aload_n 0, 1), (46, .getfield 31, 3), (49, .iload_n 1, 1), (50, .iaload, 1), (51, .iload_n 2, 1), (52, .invokestatic 127, 3), (55, .ifCond .eq 12, 3), (58, .aload_n 0, 1), (59, .getfield 34, 3), (62, .iload_n 1, 1), (63, .iaload, 1), (64, .goto 5, 3), (67, .ldc 131, 2), (69, .ireturn, 1)]
def cdX8_item : List (Nat × Instr × Nat) := [(0, .iload_n 1, 1), (1, .invokestatic 310, 3), (4, .ifCond .ne 6, 3), (7, .ldc 103, 2), (9, .ireturn, 1), (10, .aload_n 0, 1), (11, .getfield 28, 3), (14, .iload_n 1, 1), (15, .iaload, 1), (16, .iconst 2, 1), (17, .if_icmp .eq 21, 3), (20, .aload_n 0, 1), (21, .getfield 28, 3), (24, .iload_n 1, 1), (25, .iaload, 1), (26, .ifCond .ne 9, 3), (29, .ldc_w 297, 3), (32, .goto 5, 3), (35, .ldc 131, 2), (37, .ireturn, 1), (38, .iload_n 2, 1), (39, .i2l, 1), (40, .lconst 0, 1), (41, .aload_n 0, 1), (42, .getfield 37, 3), (45, .iload_n 1, 1), (46, .iaload, 1), (47, .iconst 1, 1), (48, .isub, 1), (49, .i2l, 1), (50, .invokestatic 65, 3), (53, .ifCond .ne 7, 3), (56, .ldc_w 298, 3), (59, .ireturn, 1), (60, .aload_n 0, 1), (61, .getfield 40, 3), (64, .bipush 24, 2), (66, .iload_n 1, 1), (67, .imul, 1), (68, .iload_n 2, 1), (69, .iadd, 1), (70, .iaload, 1), (71, .istore_n 3, 1), (72, .iload_n 3, 1), (73, .ldc 64, 2), (75, .if_icmp .ne 8, 3), (78, .ldc 131, 2), (80, .goto 4, 3), (83, .iload_n 3, 1), (84, .ireturn, 1)]
def cdX8_rest : List (Nat × Instr × Nat) := [(0, .iload_n 1, 1), (1, .invokestatic 310, 3), (4, .ifCond .ne 6, 3), (7, .ldc 103, 2), (9, .ireturn, 1), (10, .aload_n 0, 1), (11, .getfield 28, 3), (14, .iload_n 1, 1), (15, .iaload, 1), (16, .iconst 3, 1), (17, .if_icmp .eq 21, 3), (20, .aload_n 0, 1), (21, .getfield 28, 3), (24, .iload_n 1, 1), (25, .iaload, 1), (26, .ifCond .ne 9, 3), (29, .ldc_w 297, 3), (32, .goto 5, 3), (35, .ldc 131, 2), (37, .ireturn, 1), (38, .iload_n 2, 1), (39, .ifCond .ne 9, 3), (42, .ldc_w 313, 3), (45, .goto 11, 3), (48, .aload_n 0, 1), (49, .getfield 31, 3), (52, .iload_n 1, 1), (53, .iaload, 1), (54, .iload_n 2, 1), (55, .irem, 1), (56, .ireturn, 1)]
def cdX8_tell : List (Nat × Instr × Nat) := [(0, .aload_n 0, 1), (1, .getfield 314, 3), (4, .bipush 60, 2), (6, .if_icmp .ne 6, 3), (9, .ldc 104, 2), (11, .ireturn, 1), (12, .aload_n 0, 1), (13, .getfield 58, 3), (16, .aload_n 0, 1), (17, .getfield 314, 3), (20, .iload_n 1, 1), (21, .iastore, 1), (22, .aload_n 0, 1), (23, .dup, 1), (24, .getfield 314, 3), (27, .iconst 1, 1), (28, .iadd, 1), (29, .putfield 314, 3), (32, .aload_n 0, 1), (33, .getfield 314, 3), (36, .ireturn, 1)]
def cdX8_setAside : List (Nat × Instr × Nat) := [(0, .iconst 0, 1), (1, .istore_n 3, 1), (2, .iload_n 3, 1), (3, .sipush 2860, 3), (6, .if_icmp .ge 15, 3), (9, .aload_n 2, 1), (10, .iload_n 3, 1), (11, .aload_n 1, 1), (12, .iload_n 3, 1), (13, .iaload, 1), (14, .iastore, 1), (15, .iinc 3 1, 3), (18, .goto (-16), 3), (21, .return_, 1)]
def cdX8_check : List (Nat × Instr × Nat) := [(0, .aload_n 0, 1), (1, .getfield 314, 3), (4, .istore_n 2, 1), (5, .aload_n 0, 1), (6, .iconst 0, 1), (7, .putfield 314, 3), (10, .iload_n 1, 1), (11, .i2l, 1), (12, .lconst 1, 1), (13, .ldc2_w 317, 3), (16, .invokestatic 65, 3), (19, .ifCond .ne 6, 3), (22, .ldc 103, 2), (24, .ireturn, 1), (25, .aload_n 0, 1), (26, .getfield 319, 3), (29, .ifCond .ne 7, 3), (32, .ldc_w 313, 3), (35, .ireturn, 1), (36, .aload_n 0, 1), (37, .aload_n 0, 1), (38, .getfield 7, 3), (41, .aload_n 0, 1), (42, .getfield 16, 3), (45, .invokevirtual 323, 3), (48, .aload_n 0, 1), (49, .aload_n 0, 1), (50, .getfield 13, 3), (53, .aload_n 0, 1), (54, .getfield 7, 3), (57, .invokevirtual 323, 3), (60, .iconst 0, 1), (61, .istore_n 3, 1), (62, .iconst 0, 1), (63, .istore 4, 2), (65, .iload 4, 2), (67, .iload_n 1, 1), (68, .if_icmp .ge 54, 3), (71, .aload_n 0, 1), (72, .getfield 7, 3), (75, .iconst 2, 1), (76, .iaload, 1), (77, .sipush 9999, 3), (80, .if_icmp .ge 42, 3), (83, .aload_n 0, 1), (84, .invokevirtual 157, 3), (87, .aload_n 0, 1), (88, .getfield 61, 3), (91, .iload_n 3, 1), (92, .aload_n 0, 1), (93, .getfield 7, 3), (96, .bipush 6, 2), (98, .iaload, 1), (99, .iastore, 1), (100, .aload_n 0, 1), (101, .getfield 61, 3), (104, .iload_n 3, 1), (105, .iconst 1, 1), (106, .iadd, 1), (107, .aload_n 0, 1), (108, .iconst 1, 1), (109, .invokevirtual 164, 3), (112, .iastore, 1), (113, .iinc 3 2, 3), (116, .iinc 4 1, 3), (119, .goto (-54), 3), (122, .aload_n 0, 1), (123, .aload_n 0, 1), (124, .getfield 16, 3), (127, .aload_n 0, 1), (128, .getfield 7, 3), (131, .invokevirtual 323, 3), (134, .iconst 0, 1), (135, .istore 4, 2), (137, .iload 4, 2), (139, .iload_n 2, 1), (140, .if_icmp .ge 32, 3), (143, .iload 4, 2), (145, .iload_n 3, 1), (146, .if_icmp .ge 26, 3), (149, .aload_n 0, 1), (150, .getfield 58, 3), (153, .iload 4, 2), (155, .iaload, 1), (156, .aload_n 0, 1), (157, .getfield 61, 3), (160, .iload 4, 2), (162, .iaload, 1), (163, .if_icmp .ne 9, 3), (166, .iinc 4 1, 3), (169, .goto (-32), 3), (172, .iload 4, 2), (174, .iload_n 2, 1), (175, .if_icmp .ne 13, 3), (178, .iload 4, 2), (180, .iload_n 3, 1), (181, .if_icmp .ne 7, 3), (184, .iconst 0, 1), (185, .goto 7, 3), (188, .iconst 1, 1), (189, .iload 4, 2), (191, .iadd, 1), (192, .ireturn, 1)]
def cdX8_keep : List (Nat × Instr × Nat) := [(0, .aload_n 0, 1), (1, .iconst 1, 1), (2, .putfield 319, 3), (5, .aload_n 0, 1), (6, .aload_n 0, 1), (7, .getfield 7, 3), (10, .aload_n 0, 1), (11, .getfield 13, 3), (14, .invokevirtual 323, 3), (17, .aload_n 0, 1), (18, .getfield 7, 3), (21, .iconst 0, 1), (22, .iaload, 1), (23, .ireturn, 1)]
def cdX8_back : List (Nat × Instr × Nat) := [(0, .aload_n 0, 1), (1, .getfield 319, 3), (4, .ifCond .ne 7, 3), (7, .ldc_w 313, 3), (10, .ireturn, 1), (11, .aload_n 0, 1), (12, .aload_n 0, 1), (13, .getfield 13, 3), (16, .aload_n 0, 1), (17, .getfield 7, 3), (20, .invokevirtual 323, 3), (23, .aload_n 0, 1), (24, .getfield 7, 3), (27, .iconst 0, 1), (28, .iaload, 1), (29, .ireturn, 1)]
def cdX8_count : List (Nat × Instr × Nat) := [(0, .iload_n 1, 1), (1, .tableswitch 100 0 7 #[47, 54, 61, 68, 75, 82, 87, 92], 47), (48, .aload_n 0, 1), (49, .getfield 7, 3), (52, .iconst 0, 1), (53, .iaload, 1), (54, .ireturn, 1), (55, .aload_n 0, 1), (56, .getfield 7, 3), (59, .iconst 2, 1), (60, .iaload, 1), (61, .ireturn, 1), (62, .aload_n 0, 1), (63, .getfield 7, 3), (66, .iconst 3, 1), (67, .iaload, 1), (68, .ireturn, 1), (69, .aload_n 0, 1), (70, .getfield 7, 3), (73, .iconst 4, 1), (74, .iaload, 1), (75, .ireturn, 1), (76, .aload_n 0, 1), (77, .getfield 7, 3), (80, .iconst 1, 1), (81, .iaload, 1), (82, .ireturn, 1), (83, .aload_n 0, 1), (84, .getfield 314, 3), (87, .ireturn, 1), (88, .aload_n 0, 1), (89, .getfield 188, 3), (92, .ireturn, 1), (93, .aload_n 0, 1), (94, .getfield 7, 3), (97, .bipush 9, 2), (99, .iaload, 1), (100, .ireturn, 1), (101, .ldc 103, 2), (103, .ireturn, 1)]
def cdL_law_0 : List (Nat × Instr × Nat) := [(0, .new 7, 3), (3, .dup, 1), (4, .invokespecial 9, 3), (7, .astore_n 1, 1), (8, .new 10, 3), (11, .dup, 1), (12, .invokespecial 12, 3), (15, .astore_n 2, 1), (16, .iconst 0, 1), (17, .istore_n 3, 1), (18, .iload_n 3, 1), (19, .aload_n 0, 1), (20, .arraylength, 1), (21, .bipush 6, 2), (23, .isub, 1), (24, .if_icmp .gt 1373, 3), (27, .aload_n 0, 1), (28, .iload_n 3, 1), (29, .iaload, 1), (30, .bipush 63, 2), (32, .iand, 1), (33, .tableswitch 1358 0 38 #[171, 224, 257, 290, 323, 366, 399, 422, 445, 478, 501, 524, 547, 580, 613, 646, 679, 722, 755, 768, 791, 834, 857, 870, 903, 926, 969, 1012, 1035, 1058, 1121, 1164, 1197, 1230, 1263, 1286, 1309, 1322, 1335], 171), (204, .aload_n 1, 1), (205, .aload_n 0, 1), (206, .iload_n 3, 1), (207, .iconst 1, 1), (208, .iadd, 1), (209, .iaload, 1), (210, .aload_n 0, 1), (211, .iload_n 3, 1), (212, .iconst 2, 1), (213, .iadd, 1), (214, .iaload, 1), (215, .aload_n 0, 1), (216, .iload_n 3, 1), (217, .iconst 3, 1), (218, .iadd, 1), (219, .iaload, 1), (220, .aload_n 0, 1), (221, .iload_n 3, 1), (222, .iconst 4, 1), (223, .iadd, 1), (224, .iaload, 1), (225, .invokevirtual 13, 3), (228, .aload_n 2, 1)]
def cdL_law_1 : List (Nat × Instr × Nat) := [(229, .aload_n 0, 1), (230, .iload_n 3, 1), (231, .iconst 1, 1), (232, .iadd, 1), (233, .iaload, 1), (234, .aload_n 0, 1), (235, .iload_n 3, 1), (236, .iconst 2, 1), (237, .iadd, 1), (238, .iaload, 1), (239, .aload_n 0, 1), (240, .iload_n 3, 1), (241, .iconst 3, 1), (242, .iadd, 1), (243, .iaload, 1), (244, .aload_n 0, 1), (245, .iload_n 3, 1), (246, .iconst 4, 1), (247, .iadd, 1), (248, .iaload, 1), (249, .invokevirtual 17, 3), (252, .if_icmp .eq 1139, 3), (255, .iconst 0, 1), (256, .ireturn, 1), (257, .aload_n 1, 1), (258, .aload_n 0, 1), (259, .iload_n 3, 1), (260, .iconst 1, 1), (261, .iadd, 1), (262, .iaload, 1), (263, .aload_n 0, 1), (264, .iload_n 3, 1), (265, .iconst 2, 1), (266, .iadd, 1), (267, .iaload, 1), (268, .invokevirtual 18, 3), (271, .aload_n 2, 1), (272, .aload_n 0, 1), (273, .iload_n 3, 1), (274, .iconst 1, 1), (275, .iadd, 1), (276, .iaload, 1), (277, .aload_n 0, 1), (278, .iload_n 3, 1), (279, .iconst 2, 1)]
def cdL_law_2 : List (Nat × Instr × Nat) := [(280, .iadd, 1), (281, .iaload, 1), (282, .invokevirtual 22, 3), (285, .if_icmp .eq 1106, 3), (288, .iconst 0, 1), (289, .ireturn, 1), (290, .aload_n 1, 1), (291, .aload_n 0, 1), (292, .iload_n 3, 1), (293, .iconst 1, 1), (294, .iadd, 1), (295, .iaload, 1), (296, .aload_n 0, 1), (297, .iload_n 3, 1), (298, .iconst 2, 1), (299, .iadd, 1), (300, .iaload, 1), (301, .invokevirtual 23, 3), (304, .aload_n 2, 1), (305, .aload_n 0, 1), (306, .iload_n 3, 1), (307, .iconst 1, 1), (308, .iadd, 1), (309, .iaload, 1), (310, .aload_n 0, 1), (311, .iload_n 3, 1), (312, .iconst 2, 1), (313, .iadd, 1), (314, .iaload, 1), (315, .invokevirtual 26, 3), (318, .if_icmp .eq 1073, 3), (321, .iconst 0, 1), (322, .ireturn, 1), (323, .aload_n 1, 1), (324, .aload_n 0, 1), (325, .iload_n 3, 1), (326, .iconst 1, 1), (327, .iadd, 1), (328, .iaload, 1), (329, .aload_n 0, 1), (330, .iload_n 3, 1), (331, .iconst 2, 1), (332, .iadd, 1), (333, .iaload, 1), (334, .invokevirtual 27, 3)]
def cdL_law_3 : List (Nat × Instr × Nat) := [(337, .aload_n 2, 1), (338, .aload_n 0, 1), (339, .iload_n 3, 1), (340, .iconst 1, 1), (341, .iadd, 1), (342, .iaload, 1), (343, .aload_n 0, 1), (344, .iload_n 3, 1), (345, .iconst 2, 1), (346, .iadd, 1), (347, .iaload, 1), (348, .invokevirtual 30, 3), (351, .if_icmp .eq 1040, 3), (354, .iconst 0, 1), (355, .ireturn, 1), (356, .aload_n 1, 1), (357, .aload_n 0, 1), (358, .iload_n 3, 1), (359, .iconst 1, 1), (360, .iadd, 1), (361, .iaload, 1), (362, .aload_n 0, 1), (363, .iload_n 3, 1), (364, .iconst 2, 1), (365, .iadd, 1), (366, .iaload, 1), (367, .aload_n 0, 1), (368, .iload_n 3, 1), (369, .iconst 3, 1), (370, .iadd, 1), (371, .iaload, 1), (372, .invokevirtual 31, 3), (375, .aload_n 2, 1), (376, .aload_n 0, 1), (377, .iload_n 3, 1), (378, .iconst 1, 1), (379, .iadd, 1), (380, .iaload, 1), (381, .aload_n 0, 1), (382, .iload_n 3, 1), (383, .iconst 2, 1), (384, .iadd, 1), (385, .iaload, 1), (386, .aload_n 0, 1), (387, .iload_n 3, 1)]
def cdL_law_4 : List (Nat × Instr × Nat) := [(388, .iconst 3, 1), (389, .iadd, 1), (390, .iaload, 1), (391, .invokevirtual 35, 3), (394, .if_icmp .eq 997, 3), (397, .iconst 0, 1), (398, .ireturn, 1), (399, .aload_n 1, 1), (400, .aload_n 0, 1), (401, .iload_n 3, 1), (402, .iconst 1, 1), (403, .iadd, 1), (404, .iaload, 1), (405, .aload_n 0, 1), (406, .iload_n 3, 1), (407, .iconst 2, 1), (408, .iadd, 1), (409, .iaload, 1), (410, .invokevirtual 36, 3), (413, .aload_n 2, 1), (414, .aload_n 0, 1), (415, .iload_n 3, 1), (416, .iconst 1, 1), (417, .iadd, 1), (418, .iaload, 1), (419, .aload_n 0, 1), (420, .iload_n 3, 1), (421, .iconst 2, 1), (422, .iadd, 1), (423, .iaload, 1), (424, .invokevirtual 39, 3), (427, .if_icmp .eq 964, 3), (430, .iconst 0, 1), (431, .ireturn, 1), (432, .aload_n 1, 1), (433, .aload_n 0, 1), (434, .iload_n 3, 1), (435, .iconst 1, 1), (436, .iadd, 1), (437, .iaload, 1), (438, .invokevirtual 40, 3), (441, .aload_n 2, 1), (442, .aload_n 0, 1), (443, .iload_n 3, 1), (444, .iconst 1, 1)]
def cdL_law_5 : List (Nat × Instr × Nat) := [(445, .iadd, 1), (446, .iaload, 1), (447, .invokevirtual 44, 3), (450, .if_icmp .eq 941, 3), (453, .iconst 0, 1), (454, .ireturn, 1), (455, .aload_n 1, 1), (456, .aload_n 0, 1), (457, .iload_n 3, 1), (458, .iconst 1, 1), (459, .iadd, 1), (460, .iaload, 1), (461, .invokevirtual 45, 3), (464, .aload_n 2, 1), (465, .aload_n 0, 1), (466, .iload_n 3, 1), (467, .iconst 1, 1), (468, .iadd, 1), (469, .iaload, 1), (470, .invokevirtual 48, 3), (473, .if_icmp .eq 918, 3), (476, .iconst 0, 1), (477, .ireturn, 1), (478, .aload_n 1, 1), (479, .aload_n 0, 1), (480, .iload_n 3, 1), (481, .iconst 1, 1), (482, .iadd, 1), (483, .iaload, 1), (484, .aload_n 0, 1), (485, .iload_n 3, 1), (486, .iconst 2, 1), (487, .iadd, 1), (488, .iaload, 1), (489, .invokevirtual 49, 3), (492, .aload_n 2, 1), (493, .aload_n 0, 1), (494, .iload_n 3, 1), (495, .iconst 1, 1), (496, .iadd, 1), (497, .iaload, 1), (498, .aload_n 0, 1), (499, .iload_n 3, 1), (500, .iconst 2, 1), (501, .iadd, 1)]
def cdL_law_6 : List (Nat × Instr × Nat) := [(502, .iaload, 1), (503, .invokevirtual 52, 3), (506, .if_icmp .eq 885, 3), (509, .iconst 0, 1), (510, .ireturn, 1), (511, .aload_n 1, 1), (512, .aload_n 0, 1), (513, .iload_n 3, 1), (514, .iconst 1, 1), (515, .iadd, 1), (516, .iaload, 1), (517, .invokevirtual 53, 3), (520, .aload_n 2, 1), (521, .aload_n 0, 1), (522, .iload_n 3, 1), (523, .iconst 1, 1), (524, .iadd, 1), (525, .iaload, 1), (526, .invokevirtual 56, 3), (529, .if_icmp .eq 862, 3), (532, .iconst 0, 1), (533, .ireturn, 1), (534, .aload_n 1, 1), (535, .aload_n 0, 1), (536, .iload_n 3, 1), (537, .iconst 1, 1), (538, .iadd, 1), (539, .iaload, 1), (540, .invokevirtual 57, 3), (543, .aload_n 2, 1), (544, .aload_n 0, 1), (545, .iload_n 3, 1), (546, .iconst 1, 1), (547, .iadd, 1), (548, .iaload, 1), (549, .invokevirtual 60, 3), (552, .if_icmp .eq 839, 3), (555, .iconst 0, 1), (556, .ireturn, 1), (557, .aload_n 1, 1), (558, .aload_n 0, 1), (559, .iload_n 3, 1), (560, .iconst 1, 1), (561, .iadd, 1), (562, .iaload, 1)]
def cdL_law_7 : List (Nat × Instr × Nat) := [(563, .invokevirtual 61, 3), (566, .aload_n 2, 1), (567, .aload_n 0, 1), (568, .iload_n 3, 1), (569, .iconst 1, 1), (570, .iadd, 1), (571, .iaload, 1), (572, .invokevirtual 64, 3), (575, .if_icmp .eq 816, 3), (578, .iconst 0, 1), (579, .ireturn, 1), (580, .aload_n 1, 1), (581, .aload_n 0, 1), (582, .iload_n 3, 1), (583, .iconst 1, 1), (584, .iadd, 1), (585, .iaload, 1), (586, .aload_n 0, 1), (587, .iload_n 3, 1), (588, .iconst 2, 1), (589, .iadd, 1), (590, .iaload, 1), (591, .invokevirtual 65, 3), (594, .aload_n 2, 1), (595, .aload_n 0, 1), (596, .iload_n 3, 1), (597, .iconst 1, 1), (598, .iadd, 1), (599, .iaload, 1), (600, .aload_n 0, 1), (601, .iload_n 3, 1), (602, .iconst 2, 1), (603, .iadd, 1), (604, .iaload, 1), (605, .invokevirtual 68, 3), (608, .if_icmp .eq 783, 3), (611, .iconst 0, 1), (612, .ireturn, 1), (613, .aload_n 1, 1), (614, .aload_n 0, 1), (615, .iload_n 3, 1), (616, .iconst 1, 1), (617, .iadd, 1), (618, .iaload, 1), (619, .aload_n 0, 1)]
def cdL_law_8 : List (Nat × Instr × Nat) := [(620, .iload_n 3, 1), (621, .iconst 2, 1), (622, .iadd, 1), (623, .iaload, 1), (624, .invokevirtual 69, 3), (627, .aload_n 2, 1), (628, .aload_n 0, 1), (629, .iload_n 3, 1), (630, .iconst 1, 1), (631, .iadd, 1), (632, .iaload, 1), (633, .aload_n 0, 1), (634, .iload_n 3, 1), (635, .iconst 2, 1), (636, .iadd, 1), (637, .iaload, 1), (638, .invokevirtual 72, 3), (641, .if_icmp .eq 750, 3), (644, .iconst 0, 1), (645, .ireturn, 1), (646, .aload_n 1, 1), (647, .aload_n 0, 1), (648, .iload_n 3, 1), (649, .iconst 1, 1), (650, .iadd, 1), (651, .iaload, 1), (652, .aload_n 0, 1), (653, .iload_n 3, 1), (654, .iconst 2, 1), (655, .iadd, 1), (656, .iaload, 1), (657, .invokevirtual 73, 3), (660, .aload_n 2, 1), (661, .aload_n 0, 1), (662, .iload_n 3, 1), (663, .iconst 1, 1), (664, .iadd, 1), (665, .iaload, 1), (666, .aload_n 0, 1), (667, .iload_n 3, 1), (668, .iconst 2, 1), (669, .iadd, 1), (670, .iaload, 1), (671, .invokevirtual 76, 3), (674, .if_icmp .eq 717, 3)]
def cdL_law_9 : List (Nat × Instr × Nat) := [(677, .iconst 0, 1), (678, .ireturn, 1), (679, .aload_n 1, 1), (680, .aload_n 0, 1), (681, .iload_n 3, 1), (682, .iconst 1, 1), (683, .iadd, 1), (684, .iaload, 1), (685, .aload_n 0, 1), (686, .iload_n 3, 1), (687, .iconst 2, 1), (688, .iadd, 1), (689, .iaload, 1), (690, .invokevirtual 77, 3), (693, .aload_n 2, 1), (694, .aload_n 0, 1), (695, .iload_n 3, 1), (696, .iconst 1, 1), (697, .iadd, 1), (698, .iaload, 1), (699, .aload_n 0, 1), (700, .iload_n 3, 1), (701, .iconst 2, 1), (702, .iadd, 1), (703, .iaload, 1), (704, .invokevirtual 80, 3), (707, .if_icmp .eq 684, 3), (710, .iconst 0, 1), (711, .ireturn, 1), (712, .aload_n 1, 1), (713, .aload_n 0, 1), (714, .iload_n 3, 1), (715, .iconst 1, 1), (716, .iadd, 1), (717, .iaload, 1), (718, .aload_n 0, 1), (719, .iload_n 3, 1), (720, .iconst 2, 1), (721, .iadd, 1), (722, .iaload, 1), (723, .aload_n 0, 1), (724, .iload_n 3, 1), (725, .iconst 3, 1), (726, .iadd, 1), (727, .iaload, 1)]
def cdL_law_10 : List (Nat × Instr × Nat) := [(728, .invokevirtual 81, 3), (731, .aload_n 2, 1), (732, .aload_n 0, 1), (733, .iload_n 3, 1), (734, .iconst 1, 1), (735, .iadd, 1), (736, .iaload, 1), (737, .aload_n 0, 1), (738, .iload_n 3, 1), (739, .iconst 2, 1), (740, .iadd, 1), (741, .iaload, 1), (742, .aload_n 0, 1), (743, .iload_n 3, 1), (744, .iconst 3, 1), (745, .iadd, 1), (746, .iaload, 1), (747, .invokevirtual 84, 3), (750, .if_icmp .eq 641, 3), (753, .iconst 0, 1), (754, .ireturn, 1), (755, .aload_n 1, 1), (756, .aload_n 0, 1), (757, .iload_n 3, 1), (758, .iconst 1, 1), (759, .iadd, 1), (760, .iaload, 1), (761, .aload_n 0, 1), (762, .iload_n 3, 1), (763, .iconst 2, 1), (764, .iadd, 1), (765, .iaload, 1), (766, .invokevirtual 85, 3), (769, .aload_n 2, 1), (770, .aload_n 0, 1), (771, .iload_n 3, 1), (772, .iconst 1, 1), (773, .iadd, 1), (774, .iaload, 1), (775, .aload_n 0, 1), (776, .iload_n 3, 1), (777, .iconst 2, 1), (778, .iadd, 1), (779, .iaload, 1), (780, .invokevirtual 88, 3)]
def cdL_law_11 : List (Nat × Instr × Nat) := [(783, .if_icmp .eq 608, 3), (786, .iconst 0, 1), (787, .ireturn, 1), (788, .aload_n 1, 1), (789, .invokevirtual 89, 3), (792, .aload_n 2, 1), (793, .invokevirtual 93, 3), (796, .if_icmp .eq 595, 3), (799, .iconst 0, 1), (800, .ireturn, 1), (801, .aload_n 1, 1), (802, .aload_n 0, 1), (803, .iload_n 3, 1), (804, .iconst 1, 1), (805, .iadd, 1), (806, .iaload, 1), (807, .invokevirtual 94, 3), (810, .aload_n 2, 1), (811, .aload_n 0, 1), (812, .iload_n 3, 1), (813, .iconst 1, 1), (814, .iadd, 1), (815, .iaload, 1), (816, .invokevirtual 97, 3), (819, .if_icmp .eq 572, 3), (822, .iconst 0, 1), (823, .ireturn, 1), (824, .aload_n 1, 1), (825, .aload_n 0, 1), (826, .iload_n 3, 1), (827, .iconst 1, 1), (828, .iadd, 1), (829, .iaload, 1), (830, .aload_n 0, 1), (831, .iload_n 3, 1), (832, .iconst 2, 1), (833, .iadd, 1), (834, .iaload, 1), (835, .aload_n 0, 1), (836, .iload_n 3, 1), (837, .iconst 3, 1), (838, .iadd, 1), (839, .iaload, 1), (840, .invokevirtual 98, 3), (843, .aload_n 2, 1)]
def cdL_law_12 : List (Nat × Instr × Nat) := [(844, .aload_n 0, 1), (845, .iload_n 3, 1), (846, .iconst 1, 1), (847, .iadd, 1), (848, .iaload, 1), (849, .aload_n 0, 1), (850, .iload_n 3, 1), (851, .iconst 2, 1), (852, .iadd, 1), (853, .iaload, 1), (854, .aload_n 0, 1), (855, .iload_n 3, 1), (856, .iconst 3, 1), (857, .iadd, 1), (858, .iaload, 1), (859, .invokevirtual 101, 3), (862, .if_icmp .eq 529, 3), (865, .iconst 0, 1), (866, .ireturn, 1), (867, .aload_n 1, 1), (868, .aload_n 0, 1), (869, .iload_n 3, 1), (870, .iconst 1, 1), (871, .iadd, 1), (872, .iaload, 1), (873, .invokevirtual 102, 3), (876, .aload_n 2, 1), (877, .aload_n 0, 1), (878, .iload_n 3, 1), (879, .iconst 1, 1), (880, .iadd, 1), (881, .iaload, 1), (882, .invokevirtual 105, 3), (885, .if_icmp .eq 506, 3), (888, .iconst 0, 1), (889, .ireturn, 1), (890, .aload_n 1, 1), (891, .invokevirtual 106, 3), (894, .aload_n 2, 1), (895, .invokevirtual 109, 3), (898, .if_icmp .eq 493, 3), (901, .iconst 0, 1), (902, .ireturn, 1), (903, .aload_n 1, 1), (904, .aload_n 0, 1)]
def cdL_law_13 : List (Nat × Instr × Nat) := [(905, .iload_n 3, 1), (906, .iconst 1, 1), (907, .iadd, 1), (908, .iaload, 1), (909, .aload_n 0, 1), (910, .iload_n 3, 1), (911, .iconst 2, 1), (912, .iadd, 1), (913, .iaload, 1), (914, .invokevirtual 110, 3), (917, .aload_n 2, 1), (918, .aload_n 0, 1), (919, .iload_n 3, 1), (920, .iconst 1, 1), (921, .iadd, 1), (922, .iaload, 1), (923, .aload_n 0, 1), (924, .iload_n 3, 1), (925, .iconst 2, 1), (926, .iadd, 1), (927, .iaload, 1), (928, .invokevirtual 113, 3), (931, .if_icmp .eq 460, 3), (934, .iconst 0, 1), (935, .ireturn, 1), (936, .aload_n 1, 1), (937, .aload_n 0, 1), (938, .iload_n 3, 1), (939, .iconst 1, 1), (940, .iadd, 1), (941, .iaload, 1), (942, .invokevirtual 114, 3), (945, .aload_n 2, 1), (946, .aload_n 0, 1), (947, .iload_n 3, 1), (948, .iconst 1, 1), (949, .iadd, 1), (950, .iaload, 1), (951, .invokevirtual 117, 3), (954, .if_icmp .eq 437, 3), (957, .iconst 0, 1), (958, .ireturn, 1), (959, .aload_n 1, 1), (960, .aload_n 0, 1), (961, .iload_n 3, 1)]
def cdL_law_14 : List (Nat × Instr × Nat) := [(962, .iconst 1, 1), (963, .iadd, 1), (964, .iaload, 1), (965, .aload_n 0, 1), (966, .iload_n 3, 1), (967, .iconst 2, 1), (968, .iadd, 1), (969, .iaload, 1), (970, .aload_n 0, 1), (971, .iload_n 3, 1), (972, .iconst 3, 1), (973, .iadd, 1), (974, .iaload, 1), (975, .invokevirtual 118, 3), (978, .aload_n 2, 1), (979, .aload_n 0, 1), (980, .iload_n 3, 1), (981, .iconst 1, 1), (982, .iadd, 1), (983, .iaload, 1), (984, .aload_n 0, 1), (985, .iload_n 3, 1), (986, .iconst 2, 1), (987, .iadd, 1), (988, .iaload, 1), (989, .aload_n 0, 1), (990, .iload_n 3, 1), (991, .iconst 3, 1), (992, .iadd, 1), (993, .iaload, 1), (994, .invokevirtual 121, 3), (997, .if_icmp .eq 394, 3), (1000, .iconst 0, 1), (1001, .ireturn, 1), (1002, .aload_n 1, 1), (1003, .aload_n 0, 1), (1004, .iload_n 3, 1), (1005, .iconst 1, 1), (1006, .iadd, 1), (1007, .iaload, 1), (1008, .aload_n 0, 1), (1009, .iload_n 3, 1), (1010, .iconst 2, 1), (1011, .iadd, 1), (1012, .iaload, 1)]
def cdL_law_15 : List (Nat × Instr × Nat) := [(1013, .aload_n 0, 1), (1014, .iload_n 3, 1), (1015, .iconst 3, 1), (1016, .iadd, 1), (1017, .iaload, 1), (1018, .invokevirtual 122, 3), (1021, .aload_n 2, 1), (1022, .aload_n 0, 1), (1023, .iload_n 3, 1), (1024, .iconst 1, 1), (1025, .iadd, 1), (1026, .iaload, 1), (1027, .aload_n 0, 1), (1028, .iload_n 3, 1), (1029, .iconst 2, 1), (1030, .iadd, 1), (1031, .iaload, 1), (1032, .aload_n 0, 1), (1033, .iload_n 3, 1), (1034, .iconst 3, 1), (1035, .iadd, 1), (1036, .iaload, 1), (1037, .invokevirtual 125, 3), (1040, .if_icmp .eq 351, 3), (1043, .iconst 0, 1), (1044, .ireturn, 1), (1045, .aload_n 1, 1), (1046, .aload_n 0, 1), (1047, .iload_n 3, 1), (1048, .iconst 1, 1), (1049, .iadd, 1), (1050, .iaload, 1), (1051, .invokevirtual 126, 3), (1054, .aload_n 2, 1), (1055, .aload_n 0, 1), (1056, .iload_n 3, 1), (1057, .iconst 1, 1), (1058, .iadd, 1), (1059, .iaload, 1), (1060, .invokevirtual 129, 3), (1063, .if_icmp .eq 328, 3), (1066, .iconst 0, 1), (1067, .ireturn, 1), (1068, .aload_n 1, 1), (1069, .aload_n 0, 1)]
def cdL_law_16 : List (Nat × Instr × Nat) := [(1070, .iload_n 3, 1), (1071, .iconst 1, 1), (1072, .iadd, 1), (1073, .iaload, 1), (1074, .invokevirtual 130, 3), (1077, .aload_n 2, 1), (1078, .aload_n 0, 1), (1079, .iload_n 3, 1), (1080, .iconst 1, 1), (1081, .iadd, 1), (1082, .iaload, 1), (1083, .invokevirtual 133, 3), (1086, .if_icmp .eq 305, 3), (1089, .iconst 0, 1), (1090, .ireturn, 1), (1091, .aload_n 1, 1), (1092, .aload_n 0, 1), (1093, .iload_n 3, 1), (1094, .iconst 1, 1), (1095, .iadd, 1), (1096, .iaload, 1), (1097, .aload_n 0, 1), (1098, .iload_n 3, 1), (1099, .iconst 2, 1), (1100, .iadd, 1), (1101, .iaload, 1), (1102, .aload_n 0, 1), (1103, .iload_n 3, 1), (1104, .iconst 3, 1), (1105, .iadd, 1), (1106, .iaload, 1), (1107, .aload_n 0, 1), (1108, .iload_n 3, 1), (1109, .iconst 4, 1), (1110, .iadd, 1), (1111, .iaload, 1), (1112, .aload_n 0, 1), (1113, .iload_n 3, 1), (1114, .iconst 5, 1), (1115, .iadd, 1), (1116, .iaload, 1), (1117, .invokevirtual 134, 3), (1120, .aload_n 2, 1), (1121, .aload_n 0, 1), (1122, .iload_n 3, 1)]
def cdL_law_17 : List (Nat × Instr × Nat) := [(1123, .iconst 1, 1), (1124, .iadd, 1), (1125, .iaload, 1), (1126, .aload_n 0, 1), (1127, .iload_n 3, 1), (1128, .iconst 2, 1), (1129, .iadd, 1), (1130, .iaload, 1), (1131, .aload_n 0, 1), (1132, .iload_n 3, 1), (1133, .iconst 3, 1), (1134, .iadd, 1), (1135, .iaload, 1), (1136, .aload_n 0, 1), (1137, .iload_n 3, 1), (1138, .iconst 4, 1), (1139, .iadd, 1), (1140, .iaload, 1), (1141, .aload_n 0, 1), (1142, .iload_n 3, 1), (1143, .iconst 5, 1), (1144, .iadd, 1), (1145, .iaload, 1), (1146, .invokevirtual 138, 3), (1149, .if_icmp .eq 242, 3), (1152, .iconst 0, 1), (1153, .ireturn, 1), (1154, .aload_n 1, 1), (1155, .aload_n 0, 1), (1156, .iload_n 3, 1), (1157, .iconst 1, 1), (1158, .iadd, 1), (1159, .iaload, 1), (1160, .aload_n 0, 1), (1161, .iload_n 3, 1), (1162, .iconst 2, 1), (1163, .iadd, 1), (1164, .iaload, 1), (1165, .aload_n 0, 1), (1166, .iload_n 3, 1), (1167, .iconst 3, 1), (1168, .iadd, 1), (1169, .iaload, 1), (1170, .invokevirtual 139, 3), (1173, .aload_n 2, 1)]
def cdL_law_18 : List (Nat × Instr × Nat) := [(1174, .aload_n 0, 1), (1175, .iload_n 3, 1), (1176, .iconst 1, 1), (1177, .iadd, 1), (1178, .iaload, 1), (1179, .aload_n 0, 1), (1180, .iload_n 3, 1), (1181, .iconst 2, 1), (1182, .iadd, 1), (1183, .iaload, 1), (1184, .aload_n 0, 1), (1185, .iload_n 3, 1), (1186, .iconst 3, 1), (1187, .iadd, 1), (1188, .iaload, 1), (1189, .invokevirtual 142, 3), (1192, .if_icmp .eq 199, 3), (1195, .iconst 0, 1), (1196, .ireturn, 1), (1197, .aload_n 1, 1), (1198, .aload_n 0, 1), (1199, .iload_n 3, 1), (1200, .iconst 1, 1), (1201, .iadd, 1), (1202, .iaload, 1), (1203, .aload_n 0, 1), (1204, .iload_n 3, 1), (1205, .iconst 2, 1), (1206, .iadd, 1), (1207, .iaload, 1), (1208, .invokevirtual 143, 3), (1211, .aload_n 2, 1), (1212, .aload_n 0, 1), (1213, .iload_n 3, 1), (1214, .iconst 1, 1), (1215, .iadd, 1), (1216, .iaload, 1), (1217, .aload_n 0, 1), (1218, .iload_n 3, 1), (1219, .iconst 2, 1), (1220, .iadd, 1), (1221, .iaload, 1), (1222, .invokevirtual 146, 3), (1225, .if_icmp .eq 166, 3), (1228, .iconst 0, 1)]
def cdL_law_19 : List (Nat × Instr × Nat) := [(1229, .ireturn, 1), (1230, .aload_n 1, 1), (1231, .aload_n 0, 1), (1232, .iload_n 3, 1), (1233, .iconst 1, 1), (1234, .iadd, 1), (1235, .iaload, 1), (1236, .aload_n 0, 1), (1237, .iload_n 3, 1), (1238, .iconst 2, 1), (1239, .iadd, 1), (1240, .iaload, 1), (1241, .invokevirtual 147, 3), (1244, .aload_n 2, 1), (1245, .aload_n 0, 1), (1246, .iload_n 3, 1), (1247, .iconst 1, 1), (1248, .iadd, 1), (1249, .iaload, 1), (1250, .aload_n 0, 1), (1251, .iload_n 3, 1), (1252, .iconst 2, 1), (1253, .iadd, 1), (1254, .iaload, 1), (1255, .invokevirtual 150, 3), (1258, .if_icmp .eq 133, 3), (1261, .iconst 0, 1), (1262, .ireturn, 1), (1263, .aload_n 1, 1), (1264, .aload_n 0, 1), (1265, .iload_n 3, 1), (1266, .iconst 1, 1), (1267, .iadd, 1), (1268, .iaload, 1), (1269, .aload_n 0, 1), (1270, .iload_n 3, 1), (1271, .iconst 2, 1), (1272, .iadd, 1), (1273, .iaload, 1), (1274, .invokevirtual 151, 3), (1277, .aload_n 2, 1), (1278, .aload_n 0, 1), (1279, .iload_n 3, 1), (1280, .iconst 1, 1), (1281, .iadd, 1)]
def cdL_law_20 : List (Nat × Instr × Nat) := [(1282, .iaload, 1), (1283, .aload_n 0, 1), (1284, .iload_n 3, 1), (1285, .iconst 2, 1), (1286, .iadd, 1), (1287, .iaload, 1), (1288, .invokevirtual 154, 3), (1291, .if_icmp .eq 100, 3), (1294, .iconst 0, 1), (1295, .ireturn, 1), (1296, .aload_n 1, 1), (1297, .aload_n 0, 1), (1298, .iload_n 3, 1), (1299, .iconst 1, 1), (1300, .iadd, 1), (1301, .iaload, 1), (1302, .invokevirtual 155, 3), (1305, .aload_n 2, 1), (1306, .aload_n 0, 1), (1307, .iload_n 3, 1), (1308, .iconst 1, 1), (1309, .iadd, 1), (1310, .iaload, 1), (1311, .invokevirtual 158, 3), (1314, .if_icmp .eq 77, 3), (1317, .iconst 0, 1), (1318, .ireturn, 1), (1319, .aload_n 1, 1), (1320, .aload_n 0, 1), (1321, .iload_n 3, 1), (1322, .iconst 1, 1), (1323, .iadd, 1), (1324, .iaload, 1), (1325, .invokevirtual 159, 3), (1328, .aload_n 2, 1), (1329, .aload_n 0, 1), (1330, .iload_n 3, 1), (1331, .iconst 1, 1), (1332, .iadd, 1), (1333, .iaload, 1), (1334, .invokevirtual 162, 3), (1337, .if_icmp .eq 54, 3), (1340, .iconst 0, 1), (1341, .ireturn, 1), (1342, .aload_n 1, 1)]
def cdL_law_21 : List (Nat × Instr × Nat) := [(1343, .invokevirtual 163, 3), (1346, .aload_n 2, 1), (1347, .invokevirtual 166, 3), (1350, .if_icmp .eq 41, 3), (1353, .iconst 0, 1), (1354, .ireturn, 1), (1355, .aload_n 1, 1), (1356, .invokevirtual 167, 3), (1359, .aload_n 2, 1), (1360, .invokevirtual 170, 3), (1363, .if_icmp .eq 28, 3), (1366, .iconst 0, 1), (1367, .ireturn, 1), (1368, .aload_n 1, 1), (1369, .aload_n 0, 1), (1370, .iload_n 3, 1), (1371, .iconst 1, 1), (1372, .iadd, 1), (1373, .iaload, 1), (1374, .invokevirtual 171, 3), (1377, .aload_n 2, 1), (1378, .aload_n 0, 1), (1379, .iload_n 3, 1), (1380, .iconst 1, 1), (1381, .iadd, 1), (1382, .iaload, 1), (1383, .invokevirtual 174, 3), (1386, .if_icmp .eq 5, 3), (1389, .iconst 0, 1), (1390, .ireturn, 1), (1391, .iinc 3 6, 3), (1394, .goto (-1376), 3), (1397, .iconst 1, 1), (1398, .ireturn, 1)]
def cdL_law : List (Nat × Instr × Nat) := cdL_law_0 ++ (cdL_law_1 ++ (cdL_law_2 ++ (cdL_law_3 ++ (cdL_law_4 ++ (cdL_law_5 ++ (cdL_law_6 ++ (cdL_law_7 ++ (cdL_law_8 ++ (cdL_law_9 ++ (cdL_law_10 ++ (cdL_law_11 ++ (cdL_law_12 ++ (cdL_law_13 ++ (cdL_law_14 ++ (cdL_law_15 ++ (cdL_law_16 ++ (cdL_law_17 ++ (cdL_law_18 ++ (cdL_law_19 ++ (cdL_law_20 ++ (cdL_law_21)))))))))))))))))))))
def aCdL : List (List (Nat × Instr × Nat)) := [cdJ6_bitCount_0f7a4, cdJ0_length_8abf5, cdJ0_charAt_5068e, cdJ0_indexOf_0f7a4, cdJ0_indexOf_7cf53, cdJ0_coder_7d493, cdJ0_isLatin1_aae02, cdJ0_checkIndex_df160, cdJ1_charAt_3b067, cdJ1_canEncode_9a6ad, cdJ1_indexOf_4cfef, cdJ1_indexOfChar_4cfef, cdJ3_checkIndex_8e157, cdX0_copyFrom, cdX0_isOf, cdX0_comes, cdX0_walks, cdX0_brings, cdX0_worth, cdX1_copyFrom, cdX1_welcome, cdX1_welcomeDrawn, cdX1_draw, cdX1_comesBy, cdX1_nearestBut, cdX1_dine, cdX1_withOneSentFor, cdX1_pass, cdX1_drawComers, cdX1_drawFog, cdX1_total, cdX1_oddsOfAll, cdX1_witOfAll, cdX1_fewestThatBring, cdX1_broughtBy, cdX2_begin, cdX2_addNumber, cdX2_addName, cdX2_addSign, cdX2_addStep, cdX2_gives, cdX2_named, cdX2_worked, cdX3_findFault, cdX3_fail, cdX3_readKey, cdX3_wordOf, cdX3_namesOf, cdX3_readLevel, cdX3_levelOf, cdX3_readPiece, cdX3_readNot, cdX3_readBracket, cdX4_isMissing, cdX4_become, cdX4_copyFrom, cdX4_hasPlace, cdX4_hasPlaces, cdX4_hasNumber, cdX6_addFour, cdX6_lookAtFirst, cdX6_lookAtNext, cdX6_sign, cdX6_isWord, cdX6_isNumber, cdX6_number, cdX6_nameAmong, cdX6_byteAt, cdX6_sortAt, cdX7_person, cdX7_told, cdX7_as, cdX7_turns, cdX7_set, cdX7_rule, cdX7_deal, cdX7_seed, cdX7_fewest, cdX7_sits, cdX7_evenings, cdX7_house, cdX7_behind, cdX7_meets, cdX7_door, cdX7_never, cdX7_becomes, cdX7_like, cdX7_fee, cdX7_fine, cdX7_feed, cdX7_trim, cdX7_text, cdX7_textTold, cdX7_why, cdX7_sheet, cdX7_mark, cdX7_pour, cdX7_reads, cdX7_copy, cdX7_lay, cdX7_ask, cdX7_item, cdX7_rest, cdX7_tell, cdX7_check, cdX7_keep, cdX7_back, cdX7_count, cdX7_isWithin, cdX7_held, cdX7_isKind, cdX7_isSheet, cdX7_isSlot, cdX7_isPerson, cdX7_mostOf, cdX7_lawThatCounts, cdX7_sumDifferences, cdX7_firstOtherwise, cdX7_isNext, cdX8_isIn, cdX8_orNone, cdX8_within, cdX8_off, cdX8_least, cdX8_changes, cdX8_textAt, cdX8_of, cdX8_sets, cdX8_isPerson, cdX8_isText, cdX8_drawn, cdX8_isOf, cdX8_many, cdX8_plain, cdX8_comesBy, cdX8_walks, cdX8_brings, cdX8_worth, cdX8_joins, cdX8_person, cdX8_told, cdX8_as, cdX8_turns, cdX8_set, cdX8_rule, cdX8_deal, cdX8_seed, cdX8_broughtBy, cdX8_fewest, cdX8_nearest, cdX8_dines, cdX8_sits, cdX8_goesOn, cdX8_goesOnMany, cdX8_evenings, cdX8_sumOf, cdX8_houseOf, cdX8_house, cdX8_laysBy, cdX8_laysBack, cdX8_behind, cdX8_meets, cdX8_isAsked, cdX8_mostBy, cdX8_door, cdX8_never, cdX8_becomes, cdX8_fee, cdX8_fine, cdX8_feed, cdX8_trim, cdX8_isLetter, cdX8_isDigit, cdX8_nextToken, cdX8_isSign, cdX8_isWordAt, cdX8_key, cdX8_isName, cdX8_step, cdX8_either, cdX8_both, cdX8_test, cdX8_sum, cdX8_term, cdX8_part0, cdX8_parse, cdX8_text, cdX8_textTold, cdX8_counts, cdX8_why, cdX8_joined, cdX8_worked, cdX8_isSheet, cdX8_sheet, cdX8_mark, cdX8_pour, cdX8_reads, cdX8_unlike, cdX8_like, cdX8_copy, cdX8_isSlot, cdX8_lay, cdX8_ask, cdX8_item, cdX8_rest, cdX8_tell, cdX8_setAside, cdX8_check, cdX8_keep, cdX8_back, cdX8_count, cdL_law]
def aCd (m : Nat) : List (Nat × Instr × Nat) := aCdL.getD m []
def aIns (m pc : Nat) : Option (Instr × Nat) := aLk (aCd m) pc
/-- own class and pool number: class, slot, place among the tables -/
def aFldL : List (Nat × Nat × Nat × Nat) := [(9, 0, 0, 39), (10062, 0, 0, 40), (70089, 0, 0, 41), (15, 0, 1, 42), (10065, 0, 1, 43), (70094, 0, 1, 44), (18, 0, 2, 45), (10068, 0, 2, 46), (70097, 0, 2, 47), (21, 0, 3, 48), (10071, 0, 3, 49), (70100, 0, 3, 50), (24, 0, 4, 51), (10074, 0, 4, 52), (70103, 0, 4, 53), (10011, 1, 0, 66), (70085, 1, 0, 67), (10017, 1, 1, 68), (70233, 1, 1, 69), (10021, 1, 2, 70), (70074, 1, 2, 71), (10025, 1, 3, 72), (70132, 1, 3, 73), (10028, 1, 4, 74), (70135, 1, 4, 75), (10031, 1, 5, 76), (70178, 1, 5, 77), (10034, 1, 6, 78), (70188, 1, 6, 79), (10037, 1, 7, 80), (70162, 1, 7, 81), (10040, 1, 8, 82), (70203, 1, 8, 83), (10043, 1, 9, 84), (70165, 1, 9, 85), (10046, 1, 10, 86), (70147, 1, 10, 87), (10049, 1, 11, 88), (70222, 1, 11, 89), (60009, 6, 0, 129), (60015, 6, 1, 130), (70213, 6, 1, 131), (60019, 6, 2, 132), (30039, 6, 2, 133), (60022, 6, 3, 134), (30045, 6, 3, 135), (60025, 6, 4, 136), (30012, 3, 0, 148), (70209, 3, 0, 149), (30018, 3, 1, 150), (30022, 3, 2, 151), (30025, 3, 3, 152), (20009, 2, 0, 171), (20015, 2, 1, 172), (20018, 2, 2, 173), (20022, 2, 3, 174), (30091, 2, 3, 175), (70236, 2, 3, 176), (20025, 2, 4, 177), (70239, 2, 4, 178), (40009, 4, 0, 195), (70254, 4, 0, 196), (40015, 4, 1, 197), (70251, 4, 1, 198), (40019, 4, 2, 199), (70262, 4, 2, 200), (50012, 5, 0, 217), (70279, 5, 0, 218), (50021, 5, 1, 219), (70286, 5, 1, 220), (50025, 5, 2, 221), (70276, 5, 2, 222), (50029, 5, 3, 223), (70292, 5, 3, 224), (70010, 7, 0, 234), (70016, 7, 1, 235), (70019, 7, 2, 236), (70022, 7, 3, 237), (70028, 7, 4, 238), (70035, 7, 5, 239), (70041, 7, 6, 240), (70047, 7, 7, 241), (70051, 7, 8, 242), (70055, 7, 9, 243), (70059, 7, 10, 244), (80007, 8, 0, 854), (80013, 8, 1, 855), (80016, 8, 2, 856), (80319, 8, 3, 857), (80019, 8, 4, 858), (80022, 8, 5, 859), (80025, 8, 6, 860), (80028, 8, 7, 861), (80031, 8, 8, 862), (80034, 8, 9, 863), (80037, 8, 10, 864), (80040, 8, 11, 865), (80043, 8, 12, 866), (80046, 8, 13, 867), (80188, 8, 14, 868), (80206, 8, 15, 869), (80200, 8, 16, 870), (80203, 8, 17, 871), (80218, 8, 18, 872), (80212, 8, 19, 873), (80265, 8, 20, 874), (80262, 8, 21, 875), (80228, 8, 22, 876), (80225, 8, 23, 877), (80256, 8, 24, 878), (80049, 8, 25, 879), (80052, 8, 26, 880), (80055, 8, 27, 881), (80058, 8, 28, 882), (80314, 8, 29, 883), (80061, 8, 30, 884)]
def aFld (c i : Nat) : Option (Nat × Nat × Nat) := bif Nat.blt i 10000 then aLk aFldL (10000 * c + i) else none
def aCstL : List (Nat × Int32 × Nat) := [(70073, (-1000000001), 278), (70077, (-1000000003), 279), (10061, (-1000000005), 285), (100265, 1431655765, 305), (100266, 858993459, 306), (100267, 252645135, 307), (70127, (-1000000012), 356), (10085, 1103515245, 384), (70153, (-1000000005), 403), (10122, 99999, 424), (70198, (-1000000011), 499), (40034, (-1000000005), 513), (70246, (-1000000014), 766), (70250, (-1000000013), 772), (70257, (-99999), 773), (70258, 99999, 774), (70295, (-1000000002), 818), (80103, (-1000000001), 958), (80104, (-1000000003), 959), (80131, (-1000000012), 1032), (80069, 1103515245, 1060), (80064, (-1000000005), 1074), (80153, 99999, 1087), (80296, (-1000000014), 1256), (80297, (-1000000011), 1261), (80298, (-1000000013), 1262), (80313, (-1000000002), 1307)]
def aCst (c i : Nat) : Option (Int32 × Nat) := bif Nat.blt i 10000 then aLk aCstL (10000 * c + i) else none
def aCslL : List (Nat × Int64 × Nat) := [(80097, 5, 952), (80099, 100, 956), (80101, 99, 957), (80113, 8, 976), (80135, 4, 1045), (80137, 9999, 1046), (80139, 10, 1051), (80145, 999, 1069), (80179, 60, 1138), (80192, 97, 1183), (80194, 122, 1184), (80196, 48, 1189), (80198, 57, 1190), (80283, 2, 1246), (80289, 3, 1254), (80294, (-1), 1255), (80299, (-99999), 1263), (80301, 99999, 1264), (80317, 30, 1316)]
def aCsl (c i : Nat) : Option (Int64 × Nat) := bif Nat.blt i 10000 then aLk aCslL (10000 * c + i) else none
def aStrL : List (Nat × Nat) := [(30065, 0), (30067, 1), (30069, 2), (30071, 3), (30073, 4), (30075, 5)]
def aStr (c i : Nat) : Option Nat := bif Nat.blt i 10000 then aLk aStrL (10000 * c + i) else none
def aStrIx (j : Nat) : Nat := ([65, 67, 69, 71, 73, 75] : List Nat).getD j 0
def aStrTx (j : Nat) : String := (["ask", "fee", "fine", "owtn", "sf", "ow"] : List String).getD j ""
def aStrBy (j : Nat) : List Int32 := ([[97, 115, 107], [102, 101, 101], [102, 105, 110, 101], [111, 119, 116, 110], [115, 102], [111, 119]] : List (List Int32)).getD j []
/-- own class and pool number: kind (0 static, 1 static of a nest mate, 2 virtual, 3 max, 4 min, 5 abs), method, places among the tables -/
def aCallL : List (Nat × Nat × Nat × Nat × Nat × Nat) := [(90013, 2, 69, 327, 328, 329), (70065, 0, 110, 331, 332, 0), (70069, 0, 108, 334, 335, 0), (70078, 2, 20, 339, 340, 341), (10057, 1, 108, 343, 335, 0), (90018, 2, 70, 345, 346, 347), (70082, 2, 113, 349, 351, 0), (70106, 2, 115, 353, 355, 1), (70110, 2, 23, 357, 358, 359), (10086, 0, 0, 361, 362, 0), (10092, 2, 40, 367, 368, 369), (20036, 0, 41, 371, 372, 0), (20040, 0, 42, 374, 375, 0), (10097, 1, 109, 377, 378, 0), (70138, 4, 0, 380, 381, 382), (70299, 3, 0, 383, 384, 385), (10101, 2, 15, 386, 387, 388), (35, 4, 0, 390, 381, 382), (70114, 2, 16, 391, 392, 393), (41, 3, 0, 395, 384, 385), (70118, 2, 17, 396, 397, 398), (70121, 2, 18, 400, 401, 402), (90023, 2, 71, 404, 405, 406), (70124, 2, 14, 408, 409, 410), (27, 1, 110, 412, 332, 0), (90027, 2, 72, 416, 417, 418), (90031, 2, 73, 420, 421, 422), (70128, 0, 114, 424, 425, 0), (90036, 2, 74, 427, 428, 429), (90040, 2, 75, 431, 432, 433), (70144, 2, 21, 435, 436, 437), (10077, 2, 22, 439, 440, 441), (10081, 2, 20, 444, 340, 341), (90045, 2, 76, 445, 446, 447), (90049, 2, 77, 449, 450, 451), (70150, 2, 33, 453, 454, 455), (10143, 2, 34, 457, 459, 2), (10116, 2, 17, 461, 397, 398), (70154, 0, 0, 463, 362, 0), (90053, 2, 78, 464, 465, 466), (70159, 2, 25, 468, 469, 470), (10108, 2, 26, 472, 474, 3), (10123, 2, 24, 476, 477, 478), (10105, 2, 16, 480, 392, 393), (10111, 4, 0, 481, 381, 382), (10119, 3, 0, 482, 384, 385), (90057, 2, 79, 484, 485, 486), (70168, 2, 27, 488, 489, 490), (10126, 2, 28, 492, 494, 4), (10136, 2, 23, 496, 358, 359), (10130, 2, 25, 497, 469, 470), (10133, 2, 29, 498, 500, 5), (90061, 2, 80, 502, 503, 504), (70172, 2, 30, 506, 507, 508), (10140, 2, 31, 510, 511, 512), (70175, 2, 32, 514, 515, 516), (70181, 2, 24, 518, 477, 478), (90065, 2, 81, 519, 520, 521), (70184, 2, 19, 523, 524, 525), (10053, 2, 13, 527, 528, 529), (90069, 2, 82, 531, 532, 533), (90073, 2, 83, 535, 536, 537), (90077, 2, 84, 539, 540, 541), (90081, 2, 85, 543, 544, 545), (90085, 2, 86, 547, 548, 549), (70191, 0, 111, 551, 552, 0), (70194, 2, 53, 554, 555, 556), (70199, 2, 116, 559, 561, 6), (70259, 2, 58, 563, 564, 565), (40030, 2, 56, 567, 568, 569), (40026, 1, 108, 571, 335, 0), (70302, 5, 0, 573, 574, 575), (90089, 2, 87, 576, 577, 578), (70206, 2, 40, 580, 368, 369), (90094, 2, 88, 581, 582, 583), (90098, 2, 89, 585, 586, 587), (70218, 2, 59, 589, 590, 591), (60028, 1, 108, 593, 335, 0), (90102, 2, 90, 594, 595, 596), (90106, 2, 91, 598, 599, 600), (70225, 0, 109, 602, 378, 0), (70229, 2, 43, 603, 604, 605), (30028, 2, 60, 607, 608, 609), (60032, 2, 61, 611, 612, 613), (60035, 2, 67, 615, 617, 7), (60039, 2, 68, 619, 621, 8), (30031, 2, 45, 623, 625, 9), (30048, 0, 46, 627, 628, 0), (30052, 2, 63, 633, 634, 635), (60042, 2, 1, 637, 638, 639), (120335, 2, 5, 641, 642, 643), (60048, 2, 2, 647, 648, 649), (120492, 2, 6, 651, 652, 653), (120495, 0, 8, 655, 656, 0), (130009, 0, 7, 658, 659, 0), (121059, 0, 12, 663, 664, 0), (30056, 2, 35, 685, 686, 687), (30062, 2, 61, 689, 612, 613), (30042, 2, 44, 690, 692, 10), (30035, 2, 48, 694, 696, 11), (30077, 2, 50, 698, 700, 12), (30094, 0, 47, 702, 703, 0), (30097, 2, 66, 708, 709, 710), (60052, 2, 3, 712, 713, 714), (120633, 2, 4, 716, 717, 718), (120505, 2, 1, 720, 638, 639), (120637, 0, 10, 721, 722, 0), (130088, 0, 9, 724, 725, 0), (130092, 3, 0, 727, 384, 385), (130038, 4, 0, 728, 381, 382), (130095, 0, 11, 729, 730, 0), (30101, 2, 37, 767, 768, 769), (20028, 2, 39, 771, 773, 13), (20032, 1, 108, 775, 335, 0), (30104, 2, 64, 776, 777, 778), (30108, 2, 65, 780, 781, 782), (30111, 2, 36, 784, 785, 786), (30080, 2, 62, 788, 789, 790), (30114, 2, 51, 792, 794, 14), (30088, 2, 38, 796, 797, 798), (30117, 2, 52, 800, 802, 15), (30084, 0, 49, 804, 805, 0), (90110, 2, 92, 808, 809, 810), (90114, 2, 93, 812, 813, 814), (90118, 2, 94, 816, 817, 818), (70242, 2, 54, 820, 821, 822), (40022, 1, 109, 824, 378, 0), (90122, 2, 95, 826, 827, 828), (70247, 2, 56, 830, 568, 569), (90126, 2, 96, 834, 835, 836), (90130, 2, 97, 838, 839, 840), (90134, 2, 98, 842, 843, 844), (70263, 2, 57, 846, 847, 848), (90139, 2, 99, 853, 854, 855), (70273, 0, 112, 857, 858, 0), (70283, 2, 13, 860, 528, 529), (70290, 2, 55, 861, 862, 863), (90143, 2, 100, 865, 866, 867), (90147, 2, 101, 869, 870, 871), (90151, 2, 102, 873, 874, 875), (90155, 2, 103, 878, 879, 880), (90159, 2, 104, 882, 883, 884), (70296, 2, 117, 886, 888, 16), (70305, 2, 118, 890, 892, 17), (70308, 2, 31, 894, 511, 512), (90163, 2, 105, 895, 896, 897), (90167, 2, 106, 899, 900, 901), (90171, 2, 107, 903, 904, 905), (90017, 2, 139, 1007, 1008, 1009), (80065, 0, 119, 1012, 1013, 0), (80105, 2, 138, 1019, 1021, 18), (80093, 2, 127, 1023, 1025, 19), (90022, 2, 140, 1027, 1028, 1029), (80109, 2, 128, 1031, 1033, 20), (80115, 2, 134, 1036, 1038, 21), (80087, 2, 133, 1040, 1042, 22), (80070, 2, 188, 1044, 1046, 23), (80271, 2, 125, 1048, 1050, 24), (80074, 2, 126, 1052, 1054, 25), (80078, 0, 132, 1056, 1057, 0), (80081, 2, 191, 1059, 1061, 26), (80285, 0, 190, 1063, 1064, 0), (80084, 0, 121, 1066, 1067, 0), (80090, 0, 123, 1069, 1070, 0), (80118, 2, 135, 1072, 1074, 27), (80121, 2, 136, 1076, 1078, 28), (80124, 2, 137, 1080, 1082, 29), (90026, 2, 141, 1084, 1085, 1086), (80127, 0, 131, 1088, 1089, 0), (90030, 2, 142, 1092, 1093, 1094), (80132, 2, 124, 1096, 1098, 30), (90035, 2, 143, 1100, 1101, 1102), (90039, 2, 144, 1106, 1107, 1108), (90044, 2, 145, 1111, 1112, 1113), (80141, 2, 130, 1115, 1117, 31), (90048, 2, 146, 1120, 1121, 1122), (90052, 2, 148, 1124, 1125, 1126), (80147, 2, 147, 1129, 1131, 32), (90056, 2, 151, 1134, 1135, 1136), (80154, 2, 150, 1138, 1140, 33), (80150, 2, 149, 1142, 1144, 34), (90060, 2, 154, 1147, 1148, 1149), (80160, 2, 153, 1151, 1153, 35), (80157, 2, 152, 1155, 1157, 36), (90064, 2, 157, 1159, 1160, 1161), (80167, 2, 156, 1163, 1165, 37), (80164, 2, 155, 1167, 1169, 38), (80170, 0, 120, 1171, 1172, 0), (90068, 2, 160, 1174, 1175, 1176), (80173, 2, 158, 1178, 1180, 39), (80176, 2, 159, 1182, 1184, 40), (90072, 2, 161, 1186, 1187, 1188), (90076, 2, 164, 1190, 1191, 1192), (80181, 0, 162, 1194, 1195, 0), (80184, 2, 163, 1198, 1200, 41), (90080, 2, 165, 1202, 1203, 1204), (90084, 2, 166, 1206, 1207, 1208), (90093, 2, 167, 1210, 1211, 1212), (90097, 2, 168, 1214, 1215, 1216), (90101, 2, 169, 1218, 1219, 1220), (90105, 2, 170, 1222, 1223, 1224), (90109, 2, 186, 1226, 1227, 1228), (80277, 2, 185, 1230, 1232, 42), (80237, 2, 173, 1234, 1236, 43), (80209, 2, 171, 1238, 1240, 44), (80215, 2, 172, 1244, 1246, 45), (80274, 2, 176, 1250, 1252, 46), (80221, 2, 175, 1254, 1256, 47), (80268, 2, 179, 1258, 1260, 48), (80231, 2, 180, 1262, 1264, 49), (80244, 2, 181, 1266, 1268, 50), (80247, 2, 182, 1270, 1272, 51), (80250, 2, 183, 1274, 1276, 52), (80253, 2, 184, 1278, 1280, 53), (80240, 2, 178, 1282, 1284, 54), (80259, 0, 177, 1286, 1287, 0), (80234, 2, 174, 1289, 1291, 55), (90113, 2, 187, 1293, 1294, 1295), (80280, 2, 129, 1297, 1299, 56), (90117, 2, 189, 1301, 1302, 1303), (90121, 2, 193, 1306, 1307, 1308), (80291, 0, 192, 1310, 1311, 0), (90125, 2, 194, 1316, 1317, 1318), (90129, 2, 195, 1324, 1325, 1326), (90133, 2, 196, 1328, 1329, 1330), (90088, 2, 198, 1332, 1333, 1334), (80306, 2, 197, 1336, 1338, 57), (80303, 0, 122, 1340, 1341, 0), (90138, 2, 199, 1343, 1344, 1345), (90142, 2, 201, 1347, 1348, 1349), (80310, 0, 200, 1351, 1352, 0), (90146, 2, 202, 1354, 1355, 1356), (90150, 2, 203, 1358, 1359, 1360), (90154, 2, 204, 1362, 1363, 1364), (90158, 2, 205, 1367, 1368, 1369), (90162, 2, 207, 1371, 1372, 1373), (80323, 2, 206, 1376, 1378, 58), (90166, 2, 208, 1380, 1381, 1382), (90170, 2, 209, 1384, 1385, 1386), (90174, 2, 210, 1388, 1389, 1390)]
def aCall (c i : Nat) : Option (Nat × Nat × Nat × Nat × Nat) := bif Nat.blt i 10000 then aLk aCallL (10000 * c + i) else none
def aCodeIxL : List Nat := [363, 640, 650, 715, 719, 644, 654, 660, 657, 726, 723, 731, 665, 530, 411, 389, 394, 399, 403, 526, 342, 438, 442, 360, 479, 471, 475, 491, 495, 501, 509, 513, 517, 456, 460, 688, 787, 770, 799, 774, 370, 373, 376, 606, 693, 626, 629, 704, 697, 806, 701, 795, 803, 557, 823, 864, 570, 849, 566, 592, 610, 614, 791, 636, 779, 783, 711, 618, 622, 330, 348, 407, 419, 423, 430, 434, 448, 452, 467, 487, 505, 522, 534, 538, 542, 546, 550, 579, 584, 588, 597, 601, 811, 815, 819, 829, 837, 841, 845, 856, 868, 872, 876, 881, 885, 898, 902, 906, 336, 379, 333, 553, 859, 352, 426, 356, 562, 889, 893, 1014, 1173, 1068, 1342, 1071, 1099, 1051, 1055, 1026, 1034, 1300, 1118, 1090, 1058, 1043, 1039, 1075, 1079, 1083, 1022, 1010, 1030, 1087, 1095, 1103, 1109, 1114, 1123, 1132, 1127, 1145, 1141, 1137, 1158, 1154, 1150, 1170, 1166, 1162, 1181, 1185, 1177, 1189, 1196, 1201, 1193, 1205, 1209, 1213, 1217, 1221, 1225, 1241, 1247, 1237, 1292, 1257, 1253, 1288, 1285, 1261, 1265, 1269, 1273, 1277, 1281, 1233, 1229, 1296, 1047, 1304, 1065, 1062, 1312, 1309, 1319, 1327, 1331, 1339, 1335, 1346, 1353, 1350, 1357, 1361, 1365, 1370, 1379, 1374, 1383, 1387, 1391, 0]
def aIniIxL : List Nat := [69, 71, 71, 71, 71, 71, 71, 71, 72, 72, 72, 72, 73, 62, 62, 62, 62, 62, 62, 61, 61, 61, 61, 61, 61, 61, 61, 61, 61, 61, 61, 61, 61, 61, 61, 65, 65, 65, 65, 65, 65, 65, 65, 63, 63, 63, 63, 63, 63, 63, 63, 63, 63, 66, 66, 66, 66, 66, 66, 64, 64, 64, 64, 64, 64, 64, 64, 64, 64, 60, 60, 60, 60, 60, 60, 60, 60, 60, 60, 60, 60, 60, 60, 60, 60, 60, 60, 60, 60, 60, 60, 60, 60, 60, 60, 60, 60, 60, 60, 60, 60, 60, 60, 60, 60, 60, 60, 60, 60, 60, 60, 60, 60, 60, 60, 60, 60, 60, 60, 68, 68, 68, 68, 68, 68, 68, 68, 68, 68, 68, 68, 68, 68, 68, 68, 68, 68, 68, 68, 68, 68, 68, 68, 68, 68, 68, 68, 68, 68, 68, 68, 68, 68, 68, 68, 68, 68, 68, 68, 68, 68, 68, 68, 68, 68, 68, 68, 68, 68, 68, 68, 68, 68, 68, 68, 68, 68, 68, 68, 68, 68, 68, 68, 68, 68, 68, 68, 68, 68, 68, 68, 68, 68, 68, 68, 68, 68, 68, 68, 68, 68, 68, 68, 68, 68, 68, 68, 68, 68, 68, 68, 59]
end
section
abbrev vwCl9 : List vw_C := [(RX0, TX0, 5), (RX1, TX1, 12), (RX2, TX2, 5), (RX3, TX3, 4), (RX4, TX4, 3), (RX5, TX5, 4), (RX6, TX6, 5), (RX7, TX7, 11), (RX8, TX8, 31)]
/-! the tables agree with the bytes, and with the words of the tables. Written by wip/gen/gen2.py -/
def aOwn (key : Nat) : String := aClsL.getD (key / 10000) ""
def aCkm (l : List (Nat × Instr × Nat)) (b : ByteArray) : Bool := l.all (fun e => decide (decode b e.1 = .ok (e.2.1, e.2.2)))
set_option maxRecDepth 100000 in
theorem ckJ6_bitCount_0f7a4 : aCkm cdJ6_bitCount_0f7a4 cJ6_bitCount_0f7a4 = true := by decide +kernel
set_option maxRecDepth 100000 in
theorem ckJ0_length_8abf5 : aCkm cdJ0_length_8abf5 cJ0_length_8abf5 = true := by decide +kernel
set_option maxRecDepth 100000 in
theorem ckJ0_charAt_5068e : aCkm cdJ0_charAt_5068e cJ0_charAt_5068e = true := by decide +kernel
set_option maxRecDepth 100000 in
theorem ckJ0_indexOf_0f7a4 : aCkm cdJ0_indexOf_0f7a4 cJ0_indexOf_0f7a4 = true := by decide +kernel
set_option maxRecDepth 100000 in
theorem ckJ0_indexOf_7cf53 : aCkm cdJ0_indexOf_7cf53 cJ0_indexOf_7cf53 = true := by decide +kernel
set_option maxRecDepth 100000 in
theorem ckJ0_coder_7d493 : aCkm cdJ0_coder_7d493 cJ0_coder_7d493 = true := by decide +kernel
set_option maxRecDepth 100000 in
theorem ckJ0_isLatin1_aae02 : aCkm cdJ0_isLatin1_aae02 cJ0_isLatin1_aae02 = true := by decide +kernel
set_option maxRecDepth 100000 in
theorem ckJ0_checkIndex_df160 : aCkm cdJ0_checkIndex_df160 cJ0_checkIndex_df160 = true := by decide +kernel
set_option maxRecDepth 100000 in
theorem ckJ1_charAt_3b067 : aCkm cdJ1_charAt_3b067 cJ1_charAt_3b067 = true := by decide +kernel
set_option maxRecDepth 100000 in
theorem ckJ1_canEncode_9a6ad : aCkm cdJ1_canEncode_9a6ad cJ1_canEncode_9a6ad = true := by decide +kernel
set_option maxRecDepth 100000 in
theorem ckJ1_indexOf_4cfef : aCkm cdJ1_indexOf_4cfef cJ1_indexOf_4cfef = true := by decide +kernel
set_option maxRecDepth 100000 in
theorem ckJ1_indexOfChar_4cfef : aCkm cdJ1_indexOfChar_4cfef cJ1_indexOfChar_4cfef = true := by decide +kernel
set_option maxRecDepth 100000 in
theorem ckJ3_checkIndex_8e157 : aCkm cdJ3_checkIndex_8e157 cJ3_checkIndex_8e157 = true := by decide +kernel
set_option maxRecDepth 100000 in
theorem ckX0_copyFrom : aCkm cdX0_copyFrom cX0_copyFrom = true := by decide +kernel
set_option maxRecDepth 100000 in
theorem ckX0_isOf : aCkm cdX0_isOf cX0_isOf = true := by decide +kernel
set_option maxRecDepth 100000 in
theorem ckX0_comes : aCkm cdX0_comes cX0_comes = true := by decide +kernel
set_option maxRecDepth 100000 in
theorem ckX0_walks : aCkm cdX0_walks cX0_walks = true := by decide +kernel
set_option maxRecDepth 100000 in
theorem ckX0_brings : aCkm cdX0_brings cX0_brings = true := by decide +kernel
set_option maxRecDepth 100000 in
theorem ckX0_worth : aCkm cdX0_worth cX0_worth = true := by decide +kernel
set_option maxRecDepth 100000 in
theorem ckX1_copyFrom : aCkm cdX1_copyFrom cX1_copyFrom = true := by decide +kernel
set_option maxRecDepth 100000 in
theorem ckX1_welcome : aCkm cdX1_welcome cX1_welcome = true := by decide +kernel
set_option maxRecDepth 100000 in
theorem ckX1_welcomeDrawn : aCkm cdX1_welcomeDrawn cX1_welcomeDrawn = true := by decide +kernel
set_option maxRecDepth 100000 in
theorem ckX1_draw : aCkm cdX1_draw cX1_draw = true := by decide +kernel
set_option maxRecDepth 100000 in
theorem ckX1_comesBy : aCkm cdX1_comesBy cX1_comesBy = true := by decide +kernel
set_option maxRecDepth 100000 in
theorem ckX1_nearestBut : aCkm cdX1_nearestBut cX1_nearestBut = true := by decide +kernel
set_option maxRecDepth 100000 in
theorem ckX1_dine : aCkm cdX1_dine cX1_dine = true := by decide +kernel
set_option maxRecDepth 100000 in
theorem ckX1_withOneSentFor : aCkm cdX1_withOneSentFor cX1_withOneSentFor = true := by decide +kernel
set_option maxRecDepth 100000 in
theorem ckX1_pass : aCkm cdX1_pass cX1_pass = true := by decide +kernel
set_option maxRecDepth 100000 in
theorem ckX1_drawComers : aCkm cdX1_drawComers cX1_drawComers = true := by decide +kernel
set_option maxRecDepth 100000 in
theorem ckX1_drawFog : aCkm cdX1_drawFog cX1_drawFog = true := by decide +kernel
set_option maxRecDepth 100000 in
theorem ckX1_total : aCkm cdX1_total cX1_total = true := by decide +kernel
set_option maxRecDepth 100000 in
theorem ckX1_oddsOfAll : aCkm cdX1_oddsOfAll cX1_oddsOfAll = true := by decide +kernel
set_option maxRecDepth 100000 in
theorem ckX1_witOfAll : aCkm cdX1_witOfAll cX1_witOfAll = true := by decide +kernel
set_option maxRecDepth 100000 in
theorem ckX1_fewestThatBring : aCkm cdX1_fewestThatBring cX1_fewestThatBring = true := by decide +kernel
set_option maxRecDepth 100000 in
theorem ckX1_broughtBy : aCkm cdX1_broughtBy cX1_broughtBy = true := by decide +kernel
set_option maxRecDepth 100000 in
theorem ckX2_begin : aCkm cdX2_begin cX2_begin = true := by decide +kernel
set_option maxRecDepth 100000 in
theorem ckX2_addNumber : aCkm cdX2_addNumber cX2_addNumber = true := by decide +kernel
set_option maxRecDepth 100000 in
theorem ckX2_addName : aCkm cdX2_addName cX2_addName = true := by decide +kernel
set_option maxRecDepth 100000 in
theorem ckX2_addSign : aCkm cdX2_addSign cX2_addSign = true := by decide +kernel
set_option maxRecDepth 100000 in
theorem ckX2_addStep : aCkm cdX2_addStep cX2_addStep = true := by decide +kernel
set_option maxRecDepth 100000 in
theorem ckX2_gives : aCkm cdX2_gives cX2_gives = true := by decide +kernel
set_option maxRecDepth 100000 in
theorem ckX2_named : aCkm cdX2_named cX2_named = true := by decide +kernel
set_option maxRecDepth 100000 in
theorem ckX2_worked : aCkm cdX2_worked cX2_worked = true := by decide +kernel
set_option maxRecDepth 100000 in
theorem ckX3_findFault : aCkm cdX3_findFault cX3_findFault = true := by decide +kernel
set_option maxRecDepth 100000 in
theorem ckX3_fail : aCkm cdX3_fail cX3_fail = true := by decide +kernel
set_option maxRecDepth 100000 in
theorem ckX3_readKey : aCkm cdX3_readKey cX3_readKey = true := by decide +kernel
set_option maxRecDepth 100000 in
theorem ckX3_wordOf : aCkm cdX3_wordOf cX3_wordOf = true := by decide +kernel
set_option maxRecDepth 100000 in
theorem ckX3_namesOf : aCkm cdX3_namesOf cX3_namesOf = true := by decide +kernel
set_option maxRecDepth 100000 in
theorem ckX3_readLevel : aCkm cdX3_readLevel cX3_readLevel = true := by decide +kernel
set_option maxRecDepth 100000 in
theorem ckX3_levelOf : aCkm cdX3_levelOf cX3_levelOf = true := by decide +kernel
set_option maxRecDepth 100000 in
theorem ckX3_readPiece : aCkm cdX3_readPiece cX3_readPiece = true := by decide +kernel
set_option maxRecDepth 100000 in
theorem ckX3_readNot : aCkm cdX3_readNot cX3_readNot = true := by decide +kernel
set_option maxRecDepth 100000 in
theorem ckX3_readBracket : aCkm cdX3_readBracket cX3_readBracket = true := by decide +kernel
set_option maxRecDepth 100000 in
theorem ckX4_isMissing : aCkm cdX4_isMissing cX4_isMissing = true := by decide +kernel
set_option maxRecDepth 100000 in
theorem ckX4_become : aCkm cdX4_become cX4_become = true := by decide +kernel
set_option maxRecDepth 100000 in
theorem ckX4_copyFrom : aCkm cdX4_copyFrom cX4_copyFrom = true := by decide +kernel
set_option maxRecDepth 100000 in
theorem ckX4_hasPlace : aCkm cdX4_hasPlace cX4_hasPlace = true := by decide +kernel
set_option maxRecDepth 100000 in
theorem ckX4_hasPlaces : aCkm cdX4_hasPlaces cX4_hasPlaces = true := by decide +kernel
set_option maxRecDepth 100000 in
theorem ckX4_hasNumber : aCkm cdX4_hasNumber cX4_hasNumber = true := by decide +kernel
set_option maxRecDepth 100000 in
theorem ckX6_addFour : aCkm cdX6_addFour cX6_addFour = true := by decide +kernel
set_option maxRecDepth 100000 in
theorem ckX6_lookAtFirst : aCkm cdX6_lookAtFirst cX6_lookAtFirst = true := by decide +kernel
set_option maxRecDepth 100000 in
theorem ckX6_lookAtNext : aCkm cdX6_lookAtNext cX6_lookAtNext = true := by decide +kernel
set_option maxRecDepth 100000 in
theorem ckX6_sign : aCkm cdX6_sign cX6_sign = true := by decide +kernel
set_option maxRecDepth 100000 in
theorem ckX6_isWord : aCkm cdX6_isWord cX6_isWord = true := by decide +kernel
set_option maxRecDepth 100000 in
theorem ckX6_isNumber : aCkm cdX6_isNumber cX6_isNumber = true := by decide +kernel
set_option maxRecDepth 100000 in
theorem ckX6_number : aCkm cdX6_number cX6_number = true := by decide +kernel
set_option maxRecDepth 100000 in
theorem ckX6_nameAmong : aCkm cdX6_nameAmong cX6_nameAmong = true := by decide +kernel
set_option maxRecDepth 100000 in
theorem ckX6_byteAt : aCkm cdX6_byteAt cX6_byteAt = true := by decide +kernel
set_option maxRecDepth 100000 in
theorem ckX6_sortAt : aCkm cdX6_sortAt cX6_sortAt = true := by decide +kernel
set_option maxRecDepth 100000 in
theorem ckX7_person : aCkm cdX7_person cX7_person = true := by decide +kernel
set_option maxRecDepth 100000 in
theorem ckX7_told : aCkm cdX7_told cX7_told = true := by decide +kernel
set_option maxRecDepth 100000 in
theorem ckX7_as : aCkm cdX7_as cX7_as = true := by decide +kernel
set_option maxRecDepth 100000 in
theorem ckX7_turns : aCkm cdX7_turns cX7_turns = true := by decide +kernel
set_option maxRecDepth 100000 in
theorem ckX7_set : aCkm cdX7_set cX7_set = true := by decide +kernel
set_option maxRecDepth 100000 in
theorem ckX7_rule : aCkm cdX7_rule cX7_rule = true := by decide +kernel
set_option maxRecDepth 100000 in
theorem ckX7_deal : aCkm cdX7_deal cX7_deal = true := by decide +kernel
set_option maxRecDepth 100000 in
theorem ckX7_seed : aCkm cdX7_seed cX7_seed = true := by decide +kernel
set_option maxRecDepth 100000 in
theorem ckX7_fewest : aCkm cdX7_fewest cX7_fewest = true := by decide +kernel
set_option maxRecDepth 100000 in
theorem ckX7_sits : aCkm cdX7_sits cX7_sits = true := by decide +kernel
set_option maxRecDepth 100000 in
theorem ckX7_evenings : aCkm cdX7_evenings cX7_evenings = true := by decide +kernel
set_option maxRecDepth 100000 in
theorem ckX7_house : aCkm cdX7_house cX7_house = true := by decide +kernel
set_option maxRecDepth 100000 in
theorem ckX7_behind : aCkm cdX7_behind cX7_behind = true := by decide +kernel
set_option maxRecDepth 100000 in
theorem ckX7_meets : aCkm cdX7_meets cX7_meets = true := by decide +kernel
set_option maxRecDepth 100000 in
theorem ckX7_door : aCkm cdX7_door cX7_door = true := by decide +kernel
set_option maxRecDepth 100000 in
theorem ckX7_never : aCkm cdX7_never cX7_never = true := by decide +kernel
set_option maxRecDepth 100000 in
theorem ckX7_becomes : aCkm cdX7_becomes cX7_becomes = true := by decide +kernel
set_option maxRecDepth 100000 in
theorem ckX7_like : aCkm cdX7_like cX7_like = true := by decide +kernel
set_option maxRecDepth 100000 in
theorem ckX7_fee : aCkm cdX7_fee cX7_fee = true := by decide +kernel
set_option maxRecDepth 100000 in
theorem ckX7_fine : aCkm cdX7_fine cX7_fine = true := by decide +kernel
set_option maxRecDepth 100000 in
theorem ckX7_feed : aCkm cdX7_feed cX7_feed = true := by decide +kernel
set_option maxRecDepth 100000 in
theorem ckX7_trim : aCkm cdX7_trim cX7_trim = true := by decide +kernel
set_option maxRecDepth 100000 in
theorem ckX7_text : aCkm cdX7_text cX7_text = true := by decide +kernel
set_option maxRecDepth 100000 in
theorem ckX7_textTold : aCkm cdX7_textTold cX7_textTold = true := by decide +kernel
set_option maxRecDepth 100000 in
theorem ckX7_why : aCkm cdX7_why cX7_why = true := by decide +kernel
set_option maxRecDepth 100000 in
theorem ckX7_sheet : aCkm cdX7_sheet cX7_sheet = true := by decide +kernel
set_option maxRecDepth 100000 in
theorem ckX7_mark : aCkm cdX7_mark cX7_mark = true := by decide +kernel
set_option maxRecDepth 100000 in
theorem ckX7_pour : aCkm cdX7_pour cX7_pour = true := by decide +kernel
set_option maxRecDepth 100000 in
theorem ckX7_reads : aCkm cdX7_reads cX7_reads = true := by decide +kernel
set_option maxRecDepth 100000 in
theorem ckX7_copy : aCkm cdX7_copy cX7_copy = true := by decide +kernel
set_option maxRecDepth 100000 in
theorem ckX7_lay : aCkm cdX7_lay cX7_lay = true := by decide +kernel
set_option maxRecDepth 100000 in
theorem ckX7_ask : aCkm cdX7_ask cX7_ask = true := by decide +kernel
set_option maxRecDepth 100000 in
theorem ckX7_item : aCkm cdX7_item cX7_item = true := by decide +kernel
set_option maxRecDepth 100000 in
theorem ckX7_rest : aCkm cdX7_rest cX7_rest = true := by decide +kernel
set_option maxRecDepth 100000 in
theorem ckX7_tell : aCkm cdX7_tell cX7_tell = true := by decide +kernel
set_option maxRecDepth 100000 in
theorem ckX7_check : aCkm cdX7_check cX7_check = true := by decide +kernel
set_option maxRecDepth 100000 in
theorem ckX7_keep : aCkm cdX7_keep cX7_keep = true := by decide +kernel
set_option maxRecDepth 100000 in
theorem ckX7_back : aCkm cdX7_back cX7_back = true := by decide +kernel
set_option maxRecDepth 100000 in
theorem ckX7_count : aCkm cdX7_count cX7_count = true := by decide +kernel
set_option maxRecDepth 100000 in
theorem ckX7_isWithin : aCkm cdX7_isWithin cX7_isWithin = true := by decide +kernel
set_option maxRecDepth 100000 in
theorem ckX7_held : aCkm cdX7_held cX7_held = true := by decide +kernel
set_option maxRecDepth 100000 in
theorem ckX7_isKind : aCkm cdX7_isKind cX7_isKind = true := by decide +kernel
set_option maxRecDepth 100000 in
theorem ckX7_isSheet : aCkm cdX7_isSheet cX7_isSheet = true := by decide +kernel
set_option maxRecDepth 100000 in
theorem ckX7_isSlot : aCkm cdX7_isSlot cX7_isSlot = true := by decide +kernel
set_option maxRecDepth 100000 in
theorem ckX7_isPerson : aCkm cdX7_isPerson cX7_isPerson = true := by decide +kernel
set_option maxRecDepth 100000 in
theorem ckX7_mostOf : aCkm cdX7_mostOf cX7_mostOf = true := by decide +kernel
set_option maxRecDepth 100000 in
theorem ckX7_lawThatCounts : aCkm cdX7_lawThatCounts cX7_lawThatCounts = true := by decide +kernel
set_option maxRecDepth 100000 in
theorem ckX7_sumDifferences : aCkm cdX7_sumDifferences cX7_sumDifferences = true := by decide +kernel
set_option maxRecDepth 100000 in
theorem ckX7_firstOtherwise : aCkm cdX7_firstOtherwise cX7_firstOtherwise = true := by decide +kernel
set_option maxRecDepth 100000 in
theorem ckX7_isNext : aCkm cdX7_isNext cX7_isNext = true := by decide +kernel
set_option maxRecDepth 100000 in
theorem ckX8_isIn : aCkm cdX8_isIn cX8_isIn = true := by decide +kernel
set_option maxRecDepth 100000 in
theorem ckX8_orNone : aCkm cdX8_orNone cX8_orNone = true := by decide +kernel
set_option maxRecDepth 100000 in
theorem ckX8_within : aCkm cdX8_within cX8_within = true := by decide +kernel
set_option maxRecDepth 100000 in
theorem ckX8_off : aCkm cdX8_off cX8_off = true := by decide +kernel
set_option maxRecDepth 100000 in
theorem ckX8_least : aCkm cdX8_least cX8_least = true := by decide +kernel
set_option maxRecDepth 100000 in
theorem ckX8_changes : aCkm cdX8_changes cX8_changes = true := by decide +kernel
set_option maxRecDepth 100000 in
theorem ckX8_textAt : aCkm cdX8_textAt cX8_textAt = true := by decide +kernel
set_option maxRecDepth 100000 in
theorem ckX8_of : aCkm cdX8_of cX8_of = true := by decide +kernel
set_option maxRecDepth 100000 in
theorem ckX8_sets : aCkm cdX8_sets cX8_sets = true := by decide +kernel
set_option maxRecDepth 100000 in
theorem ckX8_isPerson : aCkm cdX8_isPerson cX8_isPerson = true := by decide +kernel
set_option maxRecDepth 100000 in
theorem ckX8_isText : aCkm cdX8_isText cX8_isText = true := by decide +kernel
set_option maxRecDepth 100000 in
theorem ckX8_drawn : aCkm cdX8_drawn cX8_drawn = true := by decide +kernel
set_option maxRecDepth 100000 in
theorem ckX8_isOf : aCkm cdX8_isOf cX8_isOf = true := by decide +kernel
set_option maxRecDepth 100000 in
theorem ckX8_many : aCkm cdX8_many cX8_many = true := by decide +kernel
set_option maxRecDepth 100000 in
theorem ckX8_plain : aCkm cdX8_plain cX8_plain = true := by decide +kernel
set_option maxRecDepth 100000 in
theorem ckX8_comesBy : aCkm cdX8_comesBy cX8_comesBy = true := by decide +kernel
set_option maxRecDepth 100000 in
theorem ckX8_walks : aCkm cdX8_walks cX8_walks = true := by decide +kernel
set_option maxRecDepth 100000 in
theorem ckX8_brings : aCkm cdX8_brings cX8_brings = true := by decide +kernel
set_option maxRecDepth 100000 in
theorem ckX8_worth : aCkm cdX8_worth cX8_worth = true := by decide +kernel
set_option maxRecDepth 100000 in
theorem ckX8_joins : aCkm cdX8_joins cX8_joins = true := by decide +kernel
set_option maxRecDepth 100000 in
theorem ckX8_person : aCkm cdX8_person cX8_person = true := by decide +kernel
set_option maxRecDepth 100000 in
theorem ckX8_told : aCkm cdX8_told cX8_told = true := by decide +kernel
set_option maxRecDepth 100000 in
theorem ckX8_as : aCkm cdX8_as cX8_as = true := by decide +kernel
set_option maxRecDepth 100000 in
theorem ckX8_turns : aCkm cdX8_turns cX8_turns = true := by decide +kernel
set_option maxRecDepth 100000 in
theorem ckX8_set : aCkm cdX8_set cX8_set = true := by decide +kernel
set_option maxRecDepth 100000 in
theorem ckX8_rule : aCkm cdX8_rule cX8_rule = true := by decide +kernel
set_option maxRecDepth 100000 in
theorem ckX8_deal : aCkm cdX8_deal cX8_deal = true := by decide +kernel
set_option maxRecDepth 100000 in
theorem ckX8_seed : aCkm cdX8_seed cX8_seed = true := by decide +kernel
set_option maxRecDepth 100000 in
theorem ckX8_broughtBy : aCkm cdX8_broughtBy cX8_broughtBy = true := by decide +kernel
set_option maxRecDepth 100000 in
theorem ckX8_fewest : aCkm cdX8_fewest cX8_fewest = true := by decide +kernel
set_option maxRecDepth 100000 in
theorem ckX8_nearest : aCkm cdX8_nearest cX8_nearest = true := by decide +kernel
set_option maxRecDepth 100000 in
theorem ckX8_dines : aCkm cdX8_dines cX8_dines = true := by decide +kernel
set_option maxRecDepth 100000 in
theorem ckX8_sits : aCkm cdX8_sits cX8_sits = true := by decide +kernel
set_option maxRecDepth 100000 in
theorem ckX8_goesOn : aCkm cdX8_goesOn cX8_goesOn = true := by decide +kernel
set_option maxRecDepth 100000 in
theorem ckX8_goesOnMany : aCkm cdX8_goesOnMany cX8_goesOnMany = true := by decide +kernel
set_option maxRecDepth 100000 in
theorem ckX8_evenings : aCkm cdX8_evenings cX8_evenings = true := by decide +kernel
set_option maxRecDepth 100000 in
theorem ckX8_sumOf : aCkm cdX8_sumOf cX8_sumOf = true := by decide +kernel
set_option maxRecDepth 100000 in
theorem ckX8_houseOf : aCkm cdX8_houseOf cX8_houseOf = true := by decide +kernel
set_option maxRecDepth 100000 in
theorem ckX8_house : aCkm cdX8_house cX8_house = true := by decide +kernel
set_option maxRecDepth 100000 in
theorem ckX8_laysBy : aCkm cdX8_laysBy cX8_laysBy = true := by decide +kernel
set_option maxRecDepth 100000 in
theorem ckX8_laysBack : aCkm cdX8_laysBack cX8_laysBack = true := by decide +kernel
set_option maxRecDepth 100000 in
theorem ckX8_behind : aCkm cdX8_behind cX8_behind = true := by decide +kernel
set_option maxRecDepth 100000 in
theorem ckX8_meets : aCkm cdX8_meets cX8_meets = true := by decide +kernel
set_option maxRecDepth 100000 in
theorem ckX8_isAsked : aCkm cdX8_isAsked cX8_isAsked = true := by decide +kernel
set_option maxRecDepth 100000 in
theorem ckX8_mostBy : aCkm cdX8_mostBy cX8_mostBy = true := by decide +kernel
set_option maxRecDepth 100000 in
theorem ckX8_door : aCkm cdX8_door cX8_door = true := by decide +kernel
set_option maxRecDepth 100000 in
theorem ckX8_never : aCkm cdX8_never cX8_never = true := by decide +kernel
set_option maxRecDepth 100000 in
theorem ckX8_becomes : aCkm cdX8_becomes cX8_becomes = true := by decide +kernel
set_option maxRecDepth 100000 in
theorem ckX8_fee : aCkm cdX8_fee cX8_fee = true := by decide +kernel
set_option maxRecDepth 100000 in
theorem ckX8_fine : aCkm cdX8_fine cX8_fine = true := by decide +kernel
set_option maxRecDepth 100000 in
theorem ckX8_feed : aCkm cdX8_feed cX8_feed = true := by decide +kernel
set_option maxRecDepth 100000 in
theorem ckX8_trim : aCkm cdX8_trim cX8_trim = true := by decide +kernel
set_option maxRecDepth 100000 in
theorem ckX8_isLetter : aCkm cdX8_isLetter cX8_isLetter = true := by decide +kernel
set_option maxRecDepth 100000 in
theorem ckX8_isDigit : aCkm cdX8_isDigit cX8_isDigit = true := by decide +kernel
set_option maxRecDepth 100000 in
theorem ckX8_nextToken : aCkm cdX8_nextToken cX8_nextToken = true := by decide +kernel
set_option maxRecDepth 100000 in
theorem ckX8_isSign : aCkm cdX8_isSign cX8_isSign = true := by decide +kernel
set_option maxRecDepth 100000 in
theorem ckX8_isWordAt : aCkm cdX8_isWordAt cX8_isWordAt = true := by decide +kernel
set_option maxRecDepth 100000 in
theorem ckX8_key : aCkm cdX8_key cX8_key = true := by decide +kernel
set_option maxRecDepth 100000 in
theorem ckX8_isName : aCkm cdX8_isName cX8_isName = true := by decide +kernel
set_option maxRecDepth 100000 in
theorem ckX8_step : aCkm cdX8_step cX8_step = true := by decide +kernel
set_option maxRecDepth 100000 in
theorem ckX8_either : aCkm cdX8_either cX8_either = true := by decide +kernel
set_option maxRecDepth 100000 in
theorem ckX8_both : aCkm cdX8_both cX8_both = true := by decide +kernel
set_option maxRecDepth 100000 in
theorem ckX8_test : aCkm cdX8_test cX8_test = true := by decide +kernel
set_option maxRecDepth 100000 in
theorem ckX8_sum : aCkm cdX8_sum cX8_sum = true := by decide +kernel
set_option maxRecDepth 100000 in
theorem ckX8_term : aCkm cdX8_term cX8_term = true := by decide +kernel
set_option maxRecDepth 100000 in
theorem ckX8_part0 : aCkm cdX8_part0 cX8_part0 = true := by decide +kernel
set_option maxRecDepth 100000 in
theorem ckX8_parse : aCkm cdX8_parse cX8_parse = true := by decide +kernel
set_option maxRecDepth 100000 in
theorem ckX8_text : aCkm cdX8_text cX8_text = true := by decide +kernel
set_option maxRecDepth 100000 in
theorem ckX8_textTold : aCkm cdX8_textTold cX8_textTold = true := by decide +kernel
set_option maxRecDepth 100000 in
theorem ckX8_counts : aCkm cdX8_counts cX8_counts = true := by decide +kernel
set_option maxRecDepth 100000 in
theorem ckX8_why : aCkm cdX8_why cX8_why = true := by decide +kernel
set_option maxRecDepth 100000 in
theorem ckX8_joined : aCkm cdX8_joined cX8_joined = true := by decide +kernel
set_option maxRecDepth 100000 in
theorem ckX8_worked : aCkm cdX8_worked cX8_worked = true := by decide +kernel
set_option maxRecDepth 100000 in
theorem ckX8_isSheet : aCkm cdX8_isSheet cX8_isSheet = true := by decide +kernel
set_option maxRecDepth 100000 in
theorem ckX8_sheet : aCkm cdX8_sheet cX8_sheet = true := by decide +kernel
set_option maxRecDepth 100000 in
theorem ckX8_mark : aCkm cdX8_mark cX8_mark = true := by decide +kernel
set_option maxRecDepth 100000 in
theorem ckX8_pour : aCkm cdX8_pour cX8_pour = true := by decide +kernel
set_option maxRecDepth 100000 in
theorem ckX8_reads : aCkm cdX8_reads cX8_reads = true := by decide +kernel
set_option maxRecDepth 100000 in
theorem ckX8_unlike : aCkm cdX8_unlike cX8_unlike = true := by decide +kernel
set_option maxRecDepth 100000 in
theorem ckX8_like : aCkm cdX8_like cX8_like = true := by decide +kernel
set_option maxRecDepth 100000 in
theorem ckX8_copy : aCkm cdX8_copy cX8_copy = true := by decide +kernel
set_option maxRecDepth 100000 in
theorem ckX8_isSlot : aCkm cdX8_isSlot cX8_isSlot = true := by decide +kernel
set_option maxRecDepth 100000 in
theorem ckX8_lay : aCkm cdX8_lay cX8_lay = true := by decide +kernel
set_option maxRecDepth 100000 in
theorem ckX8_ask : aCkm cdX8_ask cX8_ask = true := by decide +kernel
set_option maxRecDepth 100000 in
theorem ckX8_item : aCkm cdX8_item cX8_item = true := by decide +kernel
set_option maxRecDepth 100000 in
theorem ckX8_rest : aCkm cdX8_rest cX8_rest = true := by decide +kernel
set_option maxRecDepth 100000 in
theorem ckX8_tell : aCkm cdX8_tell cX8_tell = true := by decide +kernel
set_option maxRecDepth 100000 in
theorem ckX8_setAside : aCkm cdX8_setAside cX8_setAside = true := by decide +kernel
set_option maxRecDepth 100000 in
theorem ckX8_check : aCkm cdX8_check cX8_check = true := by decide +kernel
set_option maxRecDepth 100000 in
theorem ckX8_keep : aCkm cdX8_keep cX8_keep = true := by decide +kernel
set_option maxRecDepth 100000 in
theorem ckX8_back : aCkm cdX8_back cX8_back = true := by decide +kernel
set_option maxRecDepth 100000 in
theorem ckX8_count : aCkm cdX8_count cX8_count = true := by decide +kernel
end
section
set_option maxRecDepth 100000 in
theorem ckL_law_0 : aCkm cdL_law_0 cL_law = true := by decide +kernel
set_option maxRecDepth 100000 in
theorem ckL_law_1 : aCkm cdL_law_1 cL_law = true := by decide +kernel
set_option maxRecDepth 100000 in
theorem ckL_law_2 : aCkm cdL_law_2 cL_law = true := by decide +kernel
set_option maxRecDepth 100000 in
theorem ckL_law_3 : aCkm cdL_law_3 cL_law = true := by decide +kernel
set_option maxRecDepth 100000 in
theorem ckL_law_4 : aCkm cdL_law_4 cL_law = true := by decide +kernel
set_option maxRecDepth 100000 in
theorem ckL_law_5 : aCkm cdL_law_5 cL_law = true := by decide +kernel
set_option maxRecDepth 100000 in
theorem ckL_law_6 : aCkm cdL_law_6 cL_law = true := by decide +kernel
set_option maxRecDepth 100000 in
theorem ckL_law_7 : aCkm cdL_law_7 cL_law = true := by decide +kernel
set_option maxRecDepth 100000 in
theorem ckL_law_8 : aCkm cdL_law_8 cL_law = true := by decide +kernel
set_option maxRecDepth 100000 in
theorem ckL_law_9 : aCkm cdL_law_9 cL_law = true := by decide +kernel
set_option maxRecDepth 100000 in
theorem ckL_law_10 : aCkm cdL_law_10 cL_law = true := by decide +kernel
set_option maxRecDepth 100000 in
theorem ckL_law_11 : aCkm cdL_law_11 cL_law = true := by decide +kernel
set_option maxRecDepth 100000 in
theorem ckL_law_12 : aCkm cdL_law_12 cL_law = true := by decide +kernel
set_option maxRecDepth 100000 in
theorem ckL_law_13 : aCkm cdL_law_13 cL_law = true := by decide +kernel
set_option maxRecDepth 100000 in
theorem ckL_law_14 : aCkm cdL_law_14 cL_law = true := by decide +kernel
set_option maxRecDepth 100000 in
theorem ckL_law_15 : aCkm cdL_law_15 cL_law = true := by decide +kernel
set_option maxRecDepth 100000 in
theorem ckL_law_16 : aCkm cdL_law_16 cL_law = true := by decide +kernel
set_option maxRecDepth 100000 in
theorem ckL_law_17 : aCkm cdL_law_17 cL_law = true := by decide +kernel
set_option maxRecDepth 100000 in
theorem ckL_law_18 : aCkm cdL_law_18 cL_law = true := by decide +kernel
set_option maxRecDepth 100000 in
theorem ckL_law_19 : aCkm cdL_law_19 cL_law = true := by decide +kernel
set_option maxRecDepth 100000 in
theorem ckL_law_20 : aCkm cdL_law_20 cL_law = true := by decide +kernel
set_option maxRecDepth 100000 in
theorem ckL_law_21 : aCkm cdL_law_21 cL_law = true := by decide +kernel
theorem aCkm_app {l1 l2 : List (Nat × Instr × Nat)} {b : ByteArray} (h1 : aCkm l1 b = true) (h2 : aCkm l2 b = true) : aCkm (l1 ++ l2) b = true := by
  unfold aCkm at *
  rw [List.all_append, h1, h2]
  rfl
theorem ckL_law : aCkm cdL_law cL_law = true := aCkm_app ckL_law_0 (aCkm_app ckL_law_1 (aCkm_app ckL_law_2 (aCkm_app ckL_law_3 (aCkm_app ckL_law_4 (aCkm_app ckL_law_5 (aCkm_app ckL_law_6 (aCkm_app ckL_law_7 (aCkm_app ckL_law_8 (aCkm_app ckL_law_9 (aCkm_app ckL_law_10 (aCkm_app ckL_law_11 (aCkm_app ckL_law_12 (aCkm_app ckL_law_13 (aCkm_app ckL_law_14 (aCkm_app ckL_law_15 (aCkm_app ckL_law_16 (aCkm_app ckL_law_17 (aCkm_app ckL_law_18 (aCkm_app ckL_law_19 (aCkm_app ckL_law_20 (ckL_law_21)))))))))))))))))))))
end
section
set_option maxRecDepth 100000 in
theorem aCkAll : ∀ q ∈ aCdL.zip aBytesL, aCkm q.1 q.2 = true := List.forall_mem_cons.mpr ⟨ckJ6_bitCount_0f7a4, List.forall_mem_cons.mpr ⟨ckJ0_length_8abf5, List.forall_mem_cons.mpr ⟨ckJ0_charAt_5068e, List.forall_mem_cons.mpr ⟨ckJ0_indexOf_0f7a4, List.forall_mem_cons.mpr ⟨ckJ0_indexOf_7cf53, List.forall_mem_cons.mpr ⟨ckJ0_coder_7d493, List.forall_mem_cons.mpr ⟨ckJ0_isLatin1_aae02, List.forall_mem_cons.mpr ⟨ckJ0_checkIndex_df160, List.forall_mem_cons.mpr ⟨ckJ1_charAt_3b067, List.forall_mem_cons.mpr ⟨ckJ1_canEncode_9a6ad, List.forall_mem_cons.mpr ⟨ckJ1_indexOf_4cfef, List.forall_mem_cons.mpr ⟨ckJ1_indexOfChar_4cfef, List.forall_mem_cons.mpr ⟨ckJ3_checkIndex_8e157, List.forall_mem_cons.mpr ⟨ckX0_copyFrom, List.forall_mem_cons.mpr ⟨ckX0_isOf, List.forall_mem_cons.mpr ⟨ckX0_comes, List.forall_mem_cons.mpr ⟨ckX0_walks, List.forall_mem_cons.mpr ⟨ckX0_brings, List.forall_mem_cons.mpr ⟨ckX0_worth, List.forall_mem_cons.mpr ⟨ckX1_copyFrom, List.forall_mem_cons.mpr ⟨ckX1_welcome, List.forall_mem_cons.mpr ⟨ckX1_welcomeDrawn, List.forall_mem_cons.mpr ⟨ckX1_draw, List.forall_mem_cons.mpr ⟨ckX1_comesBy, List.forall_mem_cons.mpr ⟨ckX1_nearestBut, List.forall_mem_cons.mpr ⟨ckX1_dine, List.forall_mem_cons.mpr ⟨ckX1_withOneSentFor, List.forall_mem_cons.mpr ⟨ckX1_pass, List.forall_mem_cons.mpr ⟨ckX1_drawComers, List.forall_mem_cons.mpr ⟨ckX1_drawFog, List.forall_mem_cons.mpr ⟨ckX1_total, List.forall_mem_cons.mpr ⟨ckX1_oddsOfAll, List.forall_mem_cons.mpr ⟨ckX1_witOfAll, List.forall_mem_cons.mpr ⟨ckX1_fewestThatBring, List.forall_mem_cons.mpr ⟨ckX1_broughtBy, List.forall_mem_cons.mpr ⟨ckX2_begin, List.forall_mem_cons.mpr ⟨ckX2_addNumber, List.forall_mem_cons.mpr ⟨ckX2_addName, List.forall_mem_cons.mpr ⟨ckX2_addSign, List.forall_mem_cons.mpr ⟨ckX2_addStep, List.forall_mem_cons.mpr ⟨ckX2_gives, List.forall_mem_cons.mpr ⟨ckX2_named, List.forall_mem_cons.mpr ⟨ckX2_worked, List.forall_mem_cons.mpr ⟨ckX3_findFault, List.forall_mem_cons.mpr ⟨ckX3_fail, List.forall_mem_cons.mpr ⟨ckX3_readKey, List.forall_mem_cons.mpr ⟨ckX3_wordOf, List.forall_mem_cons.mpr ⟨ckX3_namesOf, List.forall_mem_cons.mpr ⟨ckX3_readLevel, List.forall_mem_cons.mpr ⟨ckX3_levelOf, List.forall_mem_cons.mpr ⟨ckX3_readPiece, List.forall_mem_cons.mpr ⟨ckX3_readNot, List.forall_mem_cons.mpr ⟨ckX3_readBracket, List.forall_mem_cons.mpr ⟨ckX4_isMissing, List.forall_mem_cons.mpr ⟨ckX4_become, List.forall_mem_cons.mpr ⟨ckX4_copyFrom, List.forall_mem_cons.mpr ⟨ckX4_hasPlace, List.forall_mem_cons.mpr ⟨ckX4_hasPlaces, List.forall_mem_cons.mpr ⟨ckX4_hasNumber, List.forall_mem_cons.mpr ⟨ckX6_addFour, List.forall_mem_cons.mpr ⟨ckX6_lookAtFirst, List.forall_mem_cons.mpr ⟨ckX6_lookAtNext, List.forall_mem_cons.mpr ⟨ckX6_sign, List.forall_mem_cons.mpr ⟨ckX6_isWord, List.forall_mem_cons.mpr ⟨ckX6_isNumber, List.forall_mem_cons.mpr ⟨ckX6_number, List.forall_mem_cons.mpr ⟨ckX6_nameAmong, List.forall_mem_cons.mpr ⟨ckX6_byteAt, List.forall_mem_cons.mpr ⟨ckX6_sortAt, List.forall_mem_cons.mpr ⟨ckX7_person, List.forall_mem_cons.mpr ⟨ckX7_told, List.forall_mem_cons.mpr ⟨ckX7_as, List.forall_mem_cons.mpr ⟨ckX7_turns, List.forall_mem_cons.mpr ⟨ckX7_set, List.forall_mem_cons.mpr ⟨ckX7_rule, List.forall_mem_cons.mpr ⟨ckX7_deal, List.forall_mem_cons.mpr ⟨ckX7_seed, List.forall_mem_cons.mpr ⟨ckX7_fewest, List.forall_mem_cons.mpr ⟨ckX7_sits, List.forall_mem_cons.mpr ⟨ckX7_evenings, List.forall_mem_cons.mpr ⟨ckX7_house, List.forall_mem_cons.mpr ⟨ckX7_behind, List.forall_mem_cons.mpr ⟨ckX7_meets, List.forall_mem_cons.mpr ⟨ckX7_door, List.forall_mem_cons.mpr ⟨ckX7_never, List.forall_mem_cons.mpr ⟨ckX7_becomes, List.forall_mem_cons.mpr ⟨ckX7_like, List.forall_mem_cons.mpr ⟨ckX7_fee, List.forall_mem_cons.mpr ⟨ckX7_fine, List.forall_mem_cons.mpr ⟨ckX7_feed, List.forall_mem_cons.mpr ⟨ckX7_trim, List.forall_mem_cons.mpr ⟨ckX7_text, List.forall_mem_cons.mpr ⟨ckX7_textTold, List.forall_mem_cons.mpr ⟨ckX7_why, List.forall_mem_cons.mpr ⟨ckX7_sheet, List.forall_mem_cons.mpr ⟨ckX7_mark, List.forall_mem_cons.mpr ⟨ckX7_pour, List.forall_mem_cons.mpr ⟨ckX7_reads, List.forall_mem_cons.mpr ⟨ckX7_copy, List.forall_mem_cons.mpr ⟨ckX7_lay, List.forall_mem_cons.mpr ⟨ckX7_ask, List.forall_mem_cons.mpr ⟨ckX7_item, List.forall_mem_cons.mpr ⟨ckX7_rest, List.forall_mem_cons.mpr ⟨ckX7_tell, List.forall_mem_cons.mpr ⟨ckX7_check, List.forall_mem_cons.mpr ⟨ckX7_keep, List.forall_mem_cons.mpr ⟨ckX7_back, List.forall_mem_cons.mpr ⟨ckX7_count, List.forall_mem_cons.mpr ⟨ckX7_isWithin, List.forall_mem_cons.mpr ⟨ckX7_held, List.forall_mem_cons.mpr ⟨ckX7_isKind, List.forall_mem_cons.mpr ⟨ckX7_isSheet, List.forall_mem_cons.mpr ⟨ckX7_isSlot, List.forall_mem_cons.mpr ⟨ckX7_isPerson, List.forall_mem_cons.mpr ⟨ckX7_mostOf, List.forall_mem_cons.mpr ⟨ckX7_lawThatCounts, List.forall_mem_cons.mpr ⟨ckX7_sumDifferences, List.forall_mem_cons.mpr ⟨ckX7_firstOtherwise, List.forall_mem_cons.mpr ⟨ckX7_isNext, List.forall_mem_cons.mpr ⟨ckX8_isIn, List.forall_mem_cons.mpr ⟨ckX8_orNone, List.forall_mem_cons.mpr ⟨ckX8_within, List.forall_mem_cons.mpr ⟨ckX8_off, List.forall_mem_cons.mpr ⟨ckX8_least, List.forall_mem_cons.mpr ⟨ckX8_changes, List.forall_mem_cons.mpr ⟨ckX8_textAt, List.forall_mem_cons.mpr ⟨ckX8_of, List.forall_mem_cons.mpr ⟨ckX8_sets, List.forall_mem_cons.mpr ⟨ckX8_isPerson, List.forall_mem_cons.mpr ⟨ckX8_isText, List.forall_mem_cons.mpr ⟨ckX8_drawn, List.forall_mem_cons.mpr ⟨ckX8_isOf, List.forall_mem_cons.mpr ⟨ckX8_many, List.forall_mem_cons.mpr ⟨ckX8_plain, List.forall_mem_cons.mpr ⟨ckX8_comesBy, List.forall_mem_cons.mpr ⟨ckX8_walks, List.forall_mem_cons.mpr ⟨ckX8_brings, List.forall_mem_cons.mpr ⟨ckX8_worth, List.forall_mem_cons.mpr ⟨ckX8_joins, List.forall_mem_cons.mpr ⟨ckX8_person, List.forall_mem_cons.mpr ⟨ckX8_told, List.forall_mem_cons.mpr ⟨ckX8_as, List.forall_mem_cons.mpr ⟨ckX8_turns, List.forall_mem_cons.mpr ⟨ckX8_set, List.forall_mem_cons.mpr ⟨ckX8_rule, List.forall_mem_cons.mpr ⟨ckX8_deal, List.forall_mem_cons.mpr ⟨ckX8_seed, List.forall_mem_cons.mpr ⟨ckX8_broughtBy, List.forall_mem_cons.mpr ⟨ckX8_fewest, List.forall_mem_cons.mpr ⟨ckX8_nearest, List.forall_mem_cons.mpr ⟨ckX8_dines, List.forall_mem_cons.mpr ⟨ckX8_sits, List.forall_mem_cons.mpr ⟨ckX8_goesOn, List.forall_mem_cons.mpr ⟨ckX8_goesOnMany, List.forall_mem_cons.mpr ⟨ckX8_evenings, List.forall_mem_cons.mpr ⟨ckX8_sumOf, List.forall_mem_cons.mpr ⟨ckX8_houseOf, List.forall_mem_cons.mpr ⟨ckX8_house, List.forall_mem_cons.mpr ⟨ckX8_laysBy, List.forall_mem_cons.mpr ⟨ckX8_laysBack, List.forall_mem_cons.mpr ⟨ckX8_behind, List.forall_mem_cons.mpr ⟨ckX8_meets, List.forall_mem_cons.mpr ⟨ckX8_isAsked, List.forall_mem_cons.mpr ⟨ckX8_mostBy, List.forall_mem_cons.mpr ⟨ckX8_door, List.forall_mem_cons.mpr ⟨ckX8_never, List.forall_mem_cons.mpr ⟨ckX8_becomes, List.forall_mem_cons.mpr ⟨ckX8_fee, List.forall_mem_cons.mpr ⟨ckX8_fine, List.forall_mem_cons.mpr ⟨ckX8_feed, List.forall_mem_cons.mpr ⟨ckX8_trim, List.forall_mem_cons.mpr ⟨ckX8_isLetter, List.forall_mem_cons.mpr ⟨ckX8_isDigit, List.forall_mem_cons.mpr ⟨ckX8_nextToken, List.forall_mem_cons.mpr ⟨ckX8_isSign, List.forall_mem_cons.mpr ⟨ckX8_isWordAt, List.forall_mem_cons.mpr ⟨ckX8_key, List.forall_mem_cons.mpr ⟨ckX8_isName, List.forall_mem_cons.mpr ⟨ckX8_step, List.forall_mem_cons.mpr ⟨ckX8_either, List.forall_mem_cons.mpr ⟨ckX8_both, List.forall_mem_cons.mpr ⟨ckX8_test, List.forall_mem_cons.mpr ⟨ckX8_sum, List.forall_mem_cons.mpr ⟨ckX8_term, List.forall_mem_cons.mpr ⟨ckX8_part0, List.forall_mem_cons.mpr ⟨ckX8_parse, List.forall_mem_cons.mpr ⟨ckX8_text, List.forall_mem_cons.mpr ⟨ckX8_textTold, List.forall_mem_cons.mpr ⟨ckX8_counts, List.forall_mem_cons.mpr ⟨ckX8_why, List.forall_mem_cons.mpr ⟨ckX8_joined, List.forall_mem_cons.mpr ⟨ckX8_worked, List.forall_mem_cons.mpr ⟨ckX8_isSheet, List.forall_mem_cons.mpr ⟨ckX8_sheet, List.forall_mem_cons.mpr ⟨ckX8_mark, List.forall_mem_cons.mpr ⟨ckX8_pour, List.forall_mem_cons.mpr ⟨ckX8_reads, List.forall_mem_cons.mpr ⟨ckX8_unlike, List.forall_mem_cons.mpr ⟨ckX8_like, List.forall_mem_cons.mpr ⟨ckX8_copy, List.forall_mem_cons.mpr ⟨ckX8_isSlot, List.forall_mem_cons.mpr ⟨ckX8_lay, List.forall_mem_cons.mpr ⟨ckX8_ask, List.forall_mem_cons.mpr ⟨ckX8_item, List.forall_mem_cons.mpr ⟨ckX8_rest, List.forall_mem_cons.mpr ⟨ckX8_tell, List.forall_mem_cons.mpr ⟨ckX8_setAside, List.forall_mem_cons.mpr ⟨ckX8_check, List.forall_mem_cons.mpr ⟨ckX8_keep, List.forall_mem_cons.mpr ⟨ckX8_back, List.forall_mem_cons.mpr ⟨ckX8_count, List.forall_mem_cons.mpr ⟨ckL_law, fun _ h => absurd h List.not_mem_nil⟩⟩⟩⟩⟩⟩⟩⟩⟩⟩⟩⟩⟩⟩⟩⟩⟩⟩⟩⟩⟩⟩⟩⟩⟩⟩⟩⟩⟩⟩⟩⟩⟩⟩⟩⟩⟩⟩⟩⟩⟩⟩⟩⟩⟩⟩⟩⟩⟩⟩⟩⟩⟩⟩⟩⟩⟩⟩⟩⟩⟩⟩⟩⟩⟩⟩⟩⟩⟩⟩⟩⟩⟩⟩⟩⟩⟩⟩⟩⟩⟩⟩⟩⟩⟩⟩⟩⟩⟩⟩⟩⟩⟩⟩⟩⟩⟩⟩⟩⟩⟩⟩⟩⟩⟩⟩⟩⟩⟩⟩⟩⟩⟩⟩⟩⟩⟩⟩⟩⟩⟩⟩⟩⟩⟩⟩⟩⟩⟩⟩⟩⟩⟩⟩⟩⟩⟩⟩⟩⟩⟩⟩⟩⟩⟩⟩⟩⟩⟩⟩⟩⟩⟩⟩⟩⟩⟩⟩⟩⟩⟩⟩⟩⟩⟩⟩⟩⟩⟩⟩⟩⟩⟩⟩⟩⟩⟩⟩⟩⟩⟩⟩⟩⟩⟩⟩⟩⟩⟩⟩⟩⟩⟩⟩⟩⟩⟩⟩⟩⟩⟩⟩⟩⟩⟩⟩⟩⟩⟩⟩⟩⟩
theorem aIns_decode {m pc : Nat} {i : Instr} {n : Nat} (h : aIns m pc = some (i, n)) : decode (aBytes m) pc = .ok (i, n) := by
  have lk : ∀ (l : List (Nat × Instr × Nat)), aLk l pc = some (i, n) → (pc, i, n) ∈ l := by
    intro l
    induction l with
    | nil => intro h; simp [aLk] at h
    | cons q l ih =>
      intro h
      unfold aLk at h
      cases hq : Nat.beq q.1 pc with
      | true =>
        rw [hq] at h
        simp only [cond_true, Option.some.injEq] at h
        have : q = (pc, i, n) := by
          rw [← h, ← Nat.eq_of_beq_eq_true hq]
        rw [this]
        exact List.mem_cons_self
      | false =>
        rw [hq] at h
        simp only [cond_false] at h
        exact List.mem_cons_of_mem _ (ih h)
  have hm := lk _ h
  have hl : m < aCdL.length := by
    rcases Nat.lt_or_ge m aCdL.length with h1 | h1
    · exact h1
    · unfold aCd at hm
      rw [List.getD_eq_getElem?_getD, List.getElem?_eq_none h1] at hm
      simp at hm
  have hlb : m < aBytesL.length := by
    have : aCdL.length = aBytesL.length := by decide +kernel
    omega
  have hz : (aCdL.zip aBytesL)[m]? = some (aCd m, aBytes m) := by
    rw [List.getElem?_zip_eq_some]
    refine ⟨?_, ?_⟩
    · unfold aCd
      rw [List.getD_eq_getElem?_getD, List.getElem?_eq_getElem hl]
      rfl
    · unfold aBytes
      rw [List.getD_eq_getElem?_getD, List.getElem?_eq_getElem hlb]
      rfl
  have h2 := aCkAll _ (List.mem_of_getElem? hz)
  have h3 := List.all_eq_true.mp h2 _ hm
  simpa using h3
end
section
/-- the words that every method of the machine takes: those of the tables that can be carried -/
def aTG : List Cond := lw_tbl.filter goodWord
def aInT (ix : Nat) (w : Cond) : Bool := decide (lw_tbl[ix]? = some w) && goodWord w
theorem aInT_mem {ix : Nat} {w : Cond} (h : aInT ix w = true) : w ∈ aTG := by
  unfold aInT at h
  simp only [Bool.and_eq_true, decide_eq_true_eq] at h
  exact List.mem_filter.mpr ⟨List.mem_of_getElem? h.1, h.2⟩
theorem aTG_good : GoodIn aTG aTG := fun w hw => ⟨hw, good_of_word (List.mem_filter.mp hw).2⟩
def aMck (m : Nat) : Bool := aInT (aCodeIxL.getD m 0) (.code (aName m) (aBytes m) (aML m) (aRet m)) && aInT (aIniIxL.getD m 0) (.initialized (aName m).cls) && decide ((aName m).cls ≠ "java/lang/invoke/MethodHandle" ∧ (aName m).cls ≠ "java/lang/invoke/VarHandle") && decide ((parseMethodDescriptor (aName m).desc).map (fun d => d.parameters.length) = some (aNp m)) && plainName (aName m).cls && decide ((aName m).cls = aCls m) && decide (aML m ≤ 40)
theorem mk0 : aMck 0 = true := by decide +kernel
theorem mk1 : aMck 1 = true := by decide +kernel
theorem mk2 : aMck 2 = true := by decide +kernel
theorem mk3 : aMck 3 = true := by decide +kernel
theorem mk4 : aMck 4 = true := by decide +kernel
theorem mk5 : aMck 5 = true := by decide +kernel
theorem mk6 : aMck 6 = true := by decide +kernel
theorem mk7 : aMck 7 = true := by decide +kernel
theorem mk8 : aMck 8 = true := by decide +kernel
theorem mk9 : aMck 9 = true := by decide +kernel
theorem mk10 : aMck 10 = true := by decide +kernel
theorem mk11 : aMck 11 = true := by decide +kernel
theorem mk12 : aMck 12 = true := by decide +kernel
theorem mk13 : aMck 13 = true := by decide +kernel
theorem mk14 : aMck 14 = true := by decide +kernel
theorem mk15 : aMck 15 = true := by decide +kernel
theorem mk16 : aMck 16 = true := by decide +kernel
theorem mk17 : aMck 17 = true := by decide +kernel
theorem mk18 : aMck 18 = true := by decide +kernel
theorem mk19 : aMck 19 = true := by decide +kernel
theorem mk20 : aMck 20 = true := by decide +kernel
theorem mk21 : aMck 21 = true := by decide +kernel
theorem mk22 : aMck 22 = true := by decide +kernel
theorem mk23 : aMck 23 = true := by decide +kernel
theorem mk24 : aMck 24 = true := by decide +kernel
theorem mk25 : aMck 25 = true := by decide +kernel
theorem mk26 : aMck 26 = true := by decide +kernel
theorem mk27 : aMck 27 = true := by decide +kernel
theorem mk28 : aMck 28 = true := by decide +kernel
theorem mk29 : aMck 29 = true := by decide +kernel
theorem mk30 : aMck 30 = true := by decide +kernel
theorem mk31 : aMck 31 = true := by decide +kernel
theorem mk32 : aMck 32 = true := by decide +kernel
theorem mk33 : aMck 33 = true := by decide +kernel
theorem mk34 : aMck 34 = true := by decide +kernel
theorem mk35 : aMck 35 = true := by decide +kernel
theorem mk36 : aMck 36 = true := by decide +kernel
theorem mk37 : aMck 37 = true := by decide +kernel
theorem mk38 : aMck 38 = true := by decide +kernel
theorem mk39 : aMck 39 = true := by decide +kernel
theorem mk40 : aMck 40 = true := by decide +kernel
theorem mk41 : aMck 41 = true := by decide +kernel
theorem mk42 : aMck 42 = true := by decide +kernel
theorem mk43 : aMck 43 = true := by decide +kernel
theorem mk44 : aMck 44 = true := by decide +kernel
theorem mk45 : aMck 45 = true := by decide +kernel
theorem mk46 : aMck 46 = true := by decide +kernel
theorem mk47 : aMck 47 = true := by decide +kernel
theorem mk48 : aMck 48 = true := by decide +kernel
theorem mk49 : aMck 49 = true := by decide +kernel
theorem mk50 : aMck 50 = true := by decide +kernel
theorem mk51 : aMck 51 = true := by decide +kernel
theorem mk52 : aMck 52 = true := by decide +kernel
theorem mk53 : aMck 53 = true := by decide +kernel
theorem mk54 : aMck 54 = true := by decide +kernel
theorem mk55 : aMck 55 = true := by decide +kernel
theorem mk56 : aMck 56 = true := by decide +kernel
theorem mk57 : aMck 57 = true := by decide +kernel
theorem mk58 : aMck 58 = true := by decide +kernel
theorem mk59 : aMck 59 = true := by decide +kernel
theorem mk60 : aMck 60 = true := by decide +kernel
theorem mk61 : aMck 61 = true := by decide +kernel
theorem mk62 : aMck 62 = true := by decide +kernel
theorem mk63 : aMck 63 = true := by decide +kernel
theorem mk64 : aMck 64 = true := by decide +kernel
theorem mk65 : aMck 65 = true := by decide +kernel
theorem mk66 : aMck 66 = true := by decide +kernel
theorem mk67 : aMck 67 = true := by decide +kernel
theorem mk68 : aMck 68 = true := by decide +kernel
theorem mk69 : aMck 69 = true := by decide +kernel
theorem mk70 : aMck 70 = true := by decide +kernel
theorem mk71 : aMck 71 = true := by decide +kernel
theorem mk72 : aMck 72 = true := by decide +kernel
theorem mk73 : aMck 73 = true := by decide +kernel
theorem mk74 : aMck 74 = true := by decide +kernel
theorem mk75 : aMck 75 = true := by decide +kernel
theorem mk76 : aMck 76 = true := by decide +kernel
theorem mk77 : aMck 77 = true := by decide +kernel
theorem mk78 : aMck 78 = true := by decide +kernel
theorem mk79 : aMck 79 = true := by decide +kernel
theorem mk80 : aMck 80 = true := by decide +kernel
theorem mk81 : aMck 81 = true := by decide +kernel
theorem mk82 : aMck 82 = true := by decide +kernel
theorem mk83 : aMck 83 = true := by decide +kernel
theorem mk84 : aMck 84 = true := by decide +kernel
theorem mk85 : aMck 85 = true := by decide +kernel
theorem mk86 : aMck 86 = true := by decide +kernel
theorem mk87 : aMck 87 = true := by decide +kernel
theorem mk88 : aMck 88 = true := by decide +kernel
theorem mk89 : aMck 89 = true := by decide +kernel
theorem mk90 : aMck 90 = true := by decide +kernel
theorem mk91 : aMck 91 = true := by decide +kernel
theorem mk92 : aMck 92 = true := by decide +kernel
theorem mk93 : aMck 93 = true := by decide +kernel
theorem mk94 : aMck 94 = true := by decide +kernel
theorem mk95 : aMck 95 = true := by decide +kernel
theorem mk96 : aMck 96 = true := by decide +kernel
theorem mk97 : aMck 97 = true := by decide +kernel
theorem mk98 : aMck 98 = true := by decide +kernel
theorem mk99 : aMck 99 = true := by decide +kernel
theorem mk100 : aMck 100 = true := by decide +kernel
theorem mk101 : aMck 101 = true := by decide +kernel
theorem mk102 : aMck 102 = true := by decide +kernel
theorem mk103 : aMck 103 = true := by decide +kernel
theorem mk104 : aMck 104 = true := by decide +kernel
theorem mk105 : aMck 105 = true := by decide +kernel
theorem mk106 : aMck 106 = true := by decide +kernel
theorem mk107 : aMck 107 = true := by decide +kernel
theorem mk108 : aMck 108 = true := by decide +kernel
theorem mk109 : aMck 109 = true := by decide +kernel
theorem mk110 : aMck 110 = true := by decide +kernel
theorem mk111 : aMck 111 = true := by decide +kernel
theorem mk112 : aMck 112 = true := by decide +kernel
theorem mk113 : aMck 113 = true := by decide +kernel
theorem mk114 : aMck 114 = true := by decide +kernel
theorem mk115 : aMck 115 = true := by decide +kernel
theorem mk116 : aMck 116 = true := by decide +kernel
theorem mk117 : aMck 117 = true := by decide +kernel
theorem mk118 : aMck 118 = true := by decide +kernel
theorem mk119 : aMck 119 = true := by decide +kernel
theorem mk120 : aMck 120 = true := by decide +kernel
theorem mk121 : aMck 121 = true := by decide +kernel
theorem mk122 : aMck 122 = true := by decide +kernel
theorem mk123 : aMck 123 = true := by decide +kernel
theorem mk124 : aMck 124 = true := by decide +kernel
theorem mk125 : aMck 125 = true := by decide +kernel
theorem mk126 : aMck 126 = true := by decide +kernel
theorem mk127 : aMck 127 = true := by decide +kernel
theorem mk128 : aMck 128 = true := by decide +kernel
theorem mk129 : aMck 129 = true := by decide +kernel
theorem mk130 : aMck 130 = true := by decide +kernel
theorem mk131 : aMck 131 = true := by decide +kernel
theorem mk132 : aMck 132 = true := by decide +kernel
theorem mk133 : aMck 133 = true := by decide +kernel
theorem mk134 : aMck 134 = true := by decide +kernel
theorem mk135 : aMck 135 = true := by decide +kernel
theorem mk136 : aMck 136 = true := by decide +kernel
theorem mk137 : aMck 137 = true := by decide +kernel
theorem mk138 : aMck 138 = true := by decide +kernel
theorem mk139 : aMck 139 = true := by decide +kernel
theorem mk140 : aMck 140 = true := by decide +kernel
theorem mk141 : aMck 141 = true := by decide +kernel
theorem mk142 : aMck 142 = true := by decide +kernel
theorem mk143 : aMck 143 = true := by decide +kernel
theorem mk144 : aMck 144 = true := by decide +kernel
theorem mk145 : aMck 145 = true := by decide +kernel
theorem mk146 : aMck 146 = true := by decide +kernel
theorem mk147 : aMck 147 = true := by decide +kernel
theorem mk148 : aMck 148 = true := by decide +kernel
theorem mk149 : aMck 149 = true := by decide +kernel
theorem mk150 : aMck 150 = true := by decide +kernel
theorem mk151 : aMck 151 = true := by decide +kernel
theorem mk152 : aMck 152 = true := by decide +kernel
theorem mk153 : aMck 153 = true := by decide +kernel
theorem mk154 : aMck 154 = true := by decide +kernel
theorem mk155 : aMck 155 = true := by decide +kernel
theorem mk156 : aMck 156 = true := by decide +kernel
theorem mk157 : aMck 157 = true := by decide +kernel
theorem mk158 : aMck 158 = true := by decide +kernel
theorem mk159 : aMck 159 = true := by decide +kernel
theorem mk160 : aMck 160 = true := by decide +kernel
theorem mk161 : aMck 161 = true := by decide +kernel
theorem mk162 : aMck 162 = true := by decide +kernel
theorem mk163 : aMck 163 = true := by decide +kernel
theorem mk164 : aMck 164 = true := by decide +kernel
theorem mk165 : aMck 165 = true := by decide +kernel
theorem mk166 : aMck 166 = true := by decide +kernel
theorem mk167 : aMck 167 = true := by decide +kernel
theorem mk168 : aMck 168 = true := by decide +kernel
theorem mk169 : aMck 169 = true := by decide +kernel
theorem mk170 : aMck 170 = true := by decide +kernel
theorem mk171 : aMck 171 = true := by decide +kernel
theorem mk172 : aMck 172 = true := by decide +kernel
theorem mk173 : aMck 173 = true := by decide +kernel
theorem mk174 : aMck 174 = true := by decide +kernel
theorem mk175 : aMck 175 = true := by decide +kernel
theorem mk176 : aMck 176 = true := by decide +kernel
theorem mk177 : aMck 177 = true := by decide +kernel
theorem mk178 : aMck 178 = true := by decide +kernel
theorem mk179 : aMck 179 = true := by decide +kernel
theorem mk180 : aMck 180 = true := by decide +kernel
theorem mk181 : aMck 181 = true := by decide +kernel
theorem mk182 : aMck 182 = true := by decide +kernel
theorem mk183 : aMck 183 = true := by decide +kernel
theorem mk184 : aMck 184 = true := by decide +kernel
theorem mk185 : aMck 185 = true := by decide +kernel
theorem mk186 : aMck 186 = true := by decide +kernel
theorem mk187 : aMck 187 = true := by decide +kernel
theorem mk188 : aMck 188 = true := by decide +kernel
theorem mk189 : aMck 189 = true := by decide +kernel
theorem mk190 : aMck 190 = true := by decide +kernel
theorem mk191 : aMck 191 = true := by decide +kernel
theorem mk192 : aMck 192 = true := by decide +kernel
theorem mk193 : aMck 193 = true := by decide +kernel
theorem mk194 : aMck 194 = true := by decide +kernel
theorem mk195 : aMck 195 = true := by decide +kernel
theorem mk196 : aMck 196 = true := by decide +kernel
theorem mk197 : aMck 197 = true := by decide +kernel
theorem mk198 : aMck 198 = true := by decide +kernel
theorem mk199 : aMck 199 = true := by decide +kernel
theorem mk200 : aMck 200 = true := by decide +kernel
theorem mk201 : aMck 201 = true := by decide +kernel
theorem mk202 : aMck 202 = true := by decide +kernel
theorem mk203 : aMck 203 = true := by decide +kernel
theorem mk204 : aMck 204 = true := by decide +kernel
theorem mk205 : aMck 205 = true := by decide +kernel
theorem mk206 : aMck 206 = true := by decide +kernel
theorem mk207 : aMck 207 = true := by decide +kernel
theorem mk208 : aMck 208 = true := by decide +kernel
theorem mk209 : aMck 209 = true := by decide +kernel
theorem mk210 : aMck 210 = true := by decide +kernel
set_option maxRecDepth 100000 in
theorem aMckC : ∀ m ∈ ([0, 1, 2, 3, 4, 5, 6, 7, 8, 9, 10, 11, 12, 13, 14, 15, 16, 17, 18, 19, 20, 21, 22, 23, 24, 25, 26, 27, 28, 29, 30, 31, 32, 33, 34, 35, 36, 37, 38, 39, 40, 41, 42, 43, 44, 45, 46, 47, 48, 49, 50, 51, 52, 53, 54, 55, 56, 57, 58, 59, 60, 61, 62, 63, 64, 65, 66, 67, 68, 69, 70, 71, 72, 73, 74, 75, 76, 77, 78, 79, 80, 81, 82, 83, 84, 85, 86, 87, 88, 89, 90, 91, 92, 93, 94, 95, 96, 97, 98, 99, 100, 101, 102, 103, 104, 105, 106, 107, 108, 109, 110, 111, 112, 113, 114, 115, 116, 117, 118, 119, 120, 121, 122, 123, 124, 125, 126, 127, 128, 129, 130, 131, 132, 133, 134, 135, 136, 137, 138, 139, 140, 141, 142, 143, 144, 145, 146, 147, 148, 149, 150, 151, 152, 153, 154, 155, 156, 157, 158, 159, 160, 161, 162, 163, 164, 165, 166, 167, 168, 169, 170, 171, 172, 173, 174, 175, 176, 177, 178, 179, 180, 181, 182, 183, 184, 185, 186, 187, 188, 189, 190, 191, 192, 193, 194, 195, 196, 197, 198, 199, 200, 201, 202, 203, 204, 205, 206, 207, 208, 209, 210] : List Nat), aMck m = true := List.forall_mem_cons.mpr ⟨mk0, List.forall_mem_cons.mpr ⟨mk1, List.forall_mem_cons.mpr ⟨mk2, List.forall_mem_cons.mpr ⟨mk3, List.forall_mem_cons.mpr ⟨mk4, List.forall_mem_cons.mpr ⟨mk5, List.forall_mem_cons.mpr ⟨mk6, List.forall_mem_cons.mpr ⟨mk7, List.forall_mem_cons.mpr ⟨mk8, List.forall_mem_cons.mpr ⟨mk9, List.forall_mem_cons.mpr ⟨mk10, List.forall_mem_cons.mpr ⟨mk11, List.forall_mem_cons.mpr ⟨mk12, List.forall_mem_cons.mpr ⟨mk13, List.forall_mem_cons.mpr ⟨mk14, List.forall_mem_cons.mpr ⟨mk15, List.forall_mem_cons.mpr ⟨mk16, List.forall_mem_cons.mpr ⟨mk17, List.forall_mem_cons.mpr ⟨mk18, List.forall_mem_cons.mpr ⟨mk19, List.forall_mem_cons.mpr ⟨mk20, List.forall_mem_cons.mpr ⟨mk21, List.forall_mem_cons.mpr ⟨mk22, List.forall_mem_cons.mpr ⟨mk23, List.forall_mem_cons.mpr ⟨mk24, List.forall_mem_cons.mpr ⟨mk25, List.forall_mem_cons.mpr ⟨mk26, List.forall_mem_cons.mpr ⟨mk27, List.forall_mem_cons.mpr ⟨mk28, List.forall_mem_cons.mpr ⟨mk29, List.forall_mem_cons.mpr ⟨mk30, List.forall_mem_cons.mpr ⟨mk31, List.forall_mem_cons.mpr ⟨mk32, List.forall_mem_cons.mpr ⟨mk33, List.forall_mem_cons.mpr ⟨mk34, List.forall_mem_cons.mpr ⟨mk35, List.forall_mem_cons.mpr ⟨mk36, List.forall_mem_cons.mpr ⟨mk37, List.forall_mem_cons.mpr ⟨mk38, List.forall_mem_cons.mpr ⟨mk39, List.forall_mem_cons.mpr ⟨mk40, List.forall_mem_cons.mpr ⟨mk41, List.forall_mem_cons.mpr ⟨mk42, List.forall_mem_cons.mpr ⟨mk43, List.forall_mem_cons.mpr ⟨mk44, List.forall_mem_cons.mpr ⟨mk45, List.forall_mem_cons.mpr ⟨mk46, List.forall_mem_cons.mpr ⟨mk47, List.forall_mem_cons.mpr ⟨mk48, List.forall_mem_cons.mpr ⟨mk49, List.forall_mem_cons.mpr ⟨mk50, List.forall_mem_cons.mpr ⟨mk51, List.forall_mem_cons.mpr ⟨mk52, List.forall_mem_cons.mpr ⟨mk53, List.forall_mem_cons.mpr ⟨mk54, List.forall_mem_cons.mpr ⟨mk55, List.forall_mem_cons.mpr ⟨mk56, List.forall_mem_cons.mpr ⟨mk57, List.forall_mem_cons.mpr ⟨mk58, List.forall_mem_cons.mpr ⟨mk59, List.forall_mem_cons.mpr ⟨mk60, List.forall_mem_cons.mpr ⟨mk61, List.forall_mem_cons.mpr ⟨mk62, List.forall_mem_cons.mpr ⟨mk63, List.forall_mem_cons.mpr ⟨mk64, List.forall_mem_cons.mpr ⟨mk65, List.forall_mem_cons.mpr ⟨mk66, List.forall_mem_cons.mpr ⟨mk67, List.forall_mem_cons.mpr ⟨mk68, List.forall_mem_cons.mpr ⟨mk69, List.forall_mem_cons.mpr ⟨mk70, List.forall_mem_cons.mpr ⟨mk71, List.forall_mem_cons.mpr ⟨mk72, List.forall_mem_cons.mpr ⟨mk73, List.forall_mem_cons.mpr ⟨mk74, List.forall_mem_cons.mpr ⟨mk75, List.forall_mem_cons.mpr ⟨mk76, List.forall_mem_cons.mpr ⟨mk77, List.forall_mem_cons.mpr ⟨mk78, List.forall_mem_cons.mpr ⟨mk79, List.forall_mem_cons.mpr ⟨mk80, List.forall_mem_cons.mpr ⟨mk81, List.forall_mem_cons.mpr ⟨mk82, List.forall_mem_cons.mpr ⟨mk83, List.forall_mem_cons.mpr ⟨mk84, List.forall_mem_cons.mpr ⟨mk85, List.forall_mem_cons.mpr ⟨mk86, List.forall_mem_cons.mpr ⟨mk87, List.forall_mem_cons.mpr ⟨mk88, List.forall_mem_cons.mpr ⟨mk89, List.forall_mem_cons.mpr ⟨mk90, List.forall_mem_cons.mpr ⟨mk91, List.forall_mem_cons.mpr ⟨mk92, List.forall_mem_cons.mpr ⟨mk93, List.forall_mem_cons.mpr ⟨mk94, List.forall_mem_cons.mpr ⟨mk95, List.forall_mem_cons.mpr ⟨mk96, List.forall_mem_cons.mpr ⟨mk97, List.forall_mem_cons.mpr ⟨mk98, List.forall_mem_cons.mpr ⟨mk99, List.forall_mem_cons.mpr ⟨mk100, List.forall_mem_cons.mpr ⟨mk101, List.forall_mem_cons.mpr ⟨mk102, List.forall_mem_cons.mpr ⟨mk103, List.forall_mem_cons.mpr ⟨mk104, List.forall_mem_cons.mpr ⟨mk105, List.forall_mem_cons.mpr ⟨mk106, List.forall_mem_cons.mpr ⟨mk107, List.forall_mem_cons.mpr ⟨mk108, List.forall_mem_cons.mpr ⟨mk109, List.forall_mem_cons.mpr ⟨mk110, List.forall_mem_cons.mpr ⟨mk111, List.forall_mem_cons.mpr ⟨mk112, List.forall_mem_cons.mpr ⟨mk113, List.forall_mem_cons.mpr ⟨mk114, List.forall_mem_cons.mpr ⟨mk115, List.forall_mem_cons.mpr ⟨mk116, List.forall_mem_cons.mpr ⟨mk117, List.forall_mem_cons.mpr ⟨mk118, List.forall_mem_cons.mpr ⟨mk119, List.forall_mem_cons.mpr ⟨mk120, List.forall_mem_cons.mpr ⟨mk121, List.forall_mem_cons.mpr ⟨mk122, List.forall_mem_cons.mpr ⟨mk123, List.forall_mem_cons.mpr ⟨mk124, List.forall_mem_cons.mpr ⟨mk125, List.forall_mem_cons.mpr ⟨mk126, List.forall_mem_cons.mpr ⟨mk127, List.forall_mem_cons.mpr ⟨mk128, List.forall_mem_cons.mpr ⟨mk129, List.forall_mem_cons.mpr ⟨mk130, List.forall_mem_cons.mpr ⟨mk131, List.forall_mem_cons.mpr ⟨mk132, List.forall_mem_cons.mpr ⟨mk133, List.forall_mem_cons.mpr ⟨mk134, List.forall_mem_cons.mpr ⟨mk135, List.forall_mem_cons.mpr ⟨mk136, List.forall_mem_cons.mpr ⟨mk137, List.forall_mem_cons.mpr ⟨mk138, List.forall_mem_cons.mpr ⟨mk139, List.forall_mem_cons.mpr ⟨mk140, List.forall_mem_cons.mpr ⟨mk141, List.forall_mem_cons.mpr ⟨mk142, List.forall_mem_cons.mpr ⟨mk143, List.forall_mem_cons.mpr ⟨mk144, List.forall_mem_cons.mpr ⟨mk145, List.forall_mem_cons.mpr ⟨mk146, List.forall_mem_cons.mpr ⟨mk147, List.forall_mem_cons.mpr ⟨mk148, List.forall_mem_cons.mpr ⟨mk149, List.forall_mem_cons.mpr ⟨mk150, List.forall_mem_cons.mpr ⟨mk151, List.forall_mem_cons.mpr ⟨mk152, List.forall_mem_cons.mpr ⟨mk153, List.forall_mem_cons.mpr ⟨mk154, List.forall_mem_cons.mpr ⟨mk155, List.forall_mem_cons.mpr ⟨mk156, List.forall_mem_cons.mpr ⟨mk157, List.forall_mem_cons.mpr ⟨mk158, List.forall_mem_cons.mpr ⟨mk159, List.forall_mem_cons.mpr ⟨mk160, List.forall_mem_cons.mpr ⟨mk161, List.forall_mem_cons.mpr ⟨mk162, List.forall_mem_cons.mpr ⟨mk163, List.forall_mem_cons.mpr ⟨mk164, List.forall_mem_cons.mpr ⟨mk165, List.forall_mem_cons.mpr ⟨mk166, List.forall_mem_cons.mpr ⟨mk167, List.forall_mem_cons.mpr ⟨mk168, List.forall_mem_cons.mpr ⟨mk169, List.forall_mem_cons.mpr ⟨mk170, List.forall_mem_cons.mpr ⟨mk171, List.forall_mem_cons.mpr ⟨mk172, List.forall_mem_cons.mpr ⟨mk173, List.forall_mem_cons.mpr ⟨mk174, List.forall_mem_cons.mpr ⟨mk175, List.forall_mem_cons.mpr ⟨mk176, List.forall_mem_cons.mpr ⟨mk177, List.forall_mem_cons.mpr ⟨mk178, List.forall_mem_cons.mpr ⟨mk179, List.forall_mem_cons.mpr ⟨mk180, List.forall_mem_cons.mpr ⟨mk181, List.forall_mem_cons.mpr ⟨mk182, List.forall_mem_cons.mpr ⟨mk183, List.forall_mem_cons.mpr ⟨mk184, List.forall_mem_cons.mpr ⟨mk185, List.forall_mem_cons.mpr ⟨mk186, List.forall_mem_cons.mpr ⟨mk187, List.forall_mem_cons.mpr ⟨mk188, List.forall_mem_cons.mpr ⟨mk189, List.forall_mem_cons.mpr ⟨mk190, List.forall_mem_cons.mpr ⟨mk191, List.forall_mem_cons.mpr ⟨mk192, List.forall_mem_cons.mpr ⟨mk193, List.forall_mem_cons.mpr ⟨mk194, List.forall_mem_cons.mpr ⟨mk195, List.forall_mem_cons.mpr ⟨mk196, List.forall_mem_cons.mpr ⟨mk197, List.forall_mem_cons.mpr ⟨mk198, List.forall_mem_cons.mpr ⟨mk199, List.forall_mem_cons.mpr ⟨mk200, List.forall_mem_cons.mpr ⟨mk201, List.forall_mem_cons.mpr ⟨mk202, List.forall_mem_cons.mpr ⟨mk203, List.forall_mem_cons.mpr ⟨mk204, List.forall_mem_cons.mpr ⟨mk205, List.forall_mem_cons.mpr ⟨mk206, List.forall_mem_cons.mpr ⟨mk207, List.forall_mem_cons.mpr ⟨mk208, List.forall_mem_cons.mpr ⟨mk209, List.forall_mem_cons.mpr ⟨mk210, fun _ h => absurd h List.not_mem_nil⟩⟩⟩⟩⟩⟩⟩⟩⟩⟩⟩⟩⟩⟩⟩⟩⟩⟩⟩⟩⟩⟩⟩⟩⟩⟩⟩⟩⟩⟩⟩⟩⟩⟩⟩⟩⟩⟩⟩⟩⟩⟩⟩⟩⟩⟩⟩⟩⟩⟩⟩⟩⟩⟩⟩⟩⟩⟩⟩⟩⟩⟩⟩⟩⟩⟩⟩⟩⟩⟩⟩⟩⟩⟩⟩⟩⟩⟩⟩⟩⟩⟩⟩⟩⟩⟩⟩⟩⟩⟩⟩⟩⟩⟩⟩⟩⟩⟩⟩⟩⟩⟩⟩⟩⟩⟩⟩⟩⟩⟩⟩⟩⟩⟩⟩⟩⟩⟩⟩⟩⟩⟩⟩⟩⟩⟩⟩⟩⟩⟩⟩⟩⟩⟩⟩⟩⟩⟩⟩⟩⟩⟩⟩⟩⟩⟩⟩⟩⟩⟩⟩⟩⟩⟩⟩⟩⟩⟩⟩⟩⟩⟩⟩⟩⟩⟩⟩⟩⟩⟩⟩⟩⟩⟩⟩⟩⟩⟩⟩⟩⟩⟩⟩⟩⟩⟩⟩⟩⟩⟩⟩⟩⟩⟩⟩⟩⟩⟩⟩⟩⟩⟩⟩⟩⟩⟩⟩⟩⟩⟩⟩
set_option maxRecDepth 100000 in
theorem aMckAll {m : Nat} (h : m < aN - 1) : aMck m = true := by
  have h1 : m ∈ List.range 211 := List.mem_range.mpr h
  rw [show List.range 211 = [0, 1, 2, 3, 4, 5, 6, 7, 8, 9, 10, 11, 12, 13, 14, 15, 16, 17, 18, 19, 20, 21, 22, 23, 24, 25, 26, 27, 28, 29, 30, 31, 32, 33, 34, 35, 36, 37, 38, 39, 40, 41, 42, 43, 44, 45, 46, 47, 48, 49, 50, 51, 52, 53, 54, 55, 56, 57, 58, 59, 60, 61, 62, 63, 64, 65, 66, 67, 68, 69, 70, 71, 72, 73, 74, 75, 76, 77, 78, 79, 80, 81, 82, 83, 84, 85, 86, 87, 88, 89, 90, 91, 92, 93, 94, 95, 96, 97, 98, 99, 100, 101, 102, 103, 104, 105, 106, 107, 108, 109, 110, 111, 112, 113, 114, 115, 116, 117, 118, 119, 120, 121, 122, 123, 124, 125, 126, 127, 128, 129, 130, 131, 132, 133, 134, 135, 136, 137, 138, 139, 140, 141, 142, 143, 144, 145, 146, 147, 148, 149, 150, 151, 152, 153, 154, 155, 156, 157, 158, 159, 160, 161, 162, 163, 164, 165, 166, 167, 168, 169, 170, 171, 172, 173, 174, 175, 176, 177, 178, 179, 180, 181, 182, 183, 184, 185, 186, 187, 188, 189, 190, 191, 192, 193, 194, 195, 196, 197, 198, 199, 200, 201, 202, 203, 204, 205, 206, 207, 208, 209, 210] from by decide +kernel] at h1
  exact aMckC m h1
end
section
def aFck (q : Nat × Nat × Nat × Nat) : Bool := match vwCl9[q.2.1]? with
  | some r => decide (q.2.2.1 < r.2.2) && aInT (59 + q.2.2.2) (.fieldLink (aOwn q.1) (q.1 % 10000) r.1 (r.2.1 q.2.2.1).2.1 (r.2.1 q.2.2.1).2.2.1) && decide ((r.2.1 q.2.2.1).1 = r.1)
  | none => false
set_option maxRecDepth 100000 in
theorem aFckAll : aFldL.all aFck = true := by decide +kernel
set_option maxRecDepth 100000 in
theorem aCstAll : aCstL.all (fun q => aInT (59 + q.2.2) (.constant (aOwn q.1) (q.1 % 10000) q.2.1)) = true := by decide +kernel
set_option maxRecDepth 100000 in
theorem aCslAll : aCslL.all (fun q => aInT (59 + q.2.2) (.constantLong (aOwn q.1) (q.1 % 10000) q.2.1)) = true := by decide +kernel
end
section
def aMathN (k : Nat) : MethodName := if k = 3 then Lib.Math.max.name else if k = 4 then Lib.Math.min.name else Lib.Math.abs.name
def aMathC (k : Nat) : ByteArray := if k = 3 then Lib.Math.max.code else if k = 4 then Lib.Math.min.code else Lib.Math.abs.code
def aCallCk (q : Nat × Nat × Nat × Nat × Nat × Nat) : Bool := match q with
  | (key, kind, m, i1, i2, i3) => match kind with
    | 0 => aInT i1 (.methodLink (aOwn key) (key % 10000) (aName m)) && aInT i2 (.static (aName m)) && decide (m < aN - 1)
    | 1 => decide (lw_tbl[i1]? = some (.methodLinkNest (aOwn key) (key % 10000) (aName m) "TwelveShort")) && aInT i2 (.static (aName m)) && decide (m < aN - 1)
    | 2 => aInT i1 (.methodLink (aOwn key) (key % 10000) (aName m)) && aInT i2 (.instanceMethod (aName m)) && aInT i3 (.selects (aName m).cls (aName m) (aName m)) && decide (m < aN - 1)
    | k => aInT i1 (.methodLink (aOwn key) (key % 10000) (aMathN k)) && aInT i2 (.static (aMathN k)) && aInT i3 (.code (aMathN k) (aMathC k) (if k = 5 then 1 else 2) (some .int)) && decide (k = 3 ∨ k = 4 ∨ k = 5)
theorem mc0 : aCallCk (90013, 2, 69, 327, 328, 329) = true := by decide +kernel
theorem mc1 : aCallCk (70065, 0, 110, 331, 332, 0) = true := by decide +kernel
theorem mc2 : aCallCk (70069, 0, 108, 334, 335, 0) = true := by decide +kernel
theorem mc3 : aCallCk (70078, 2, 20, 339, 340, 341) = true := by decide +kernel
theorem mc4 : aCallCk (10057, 1, 108, 343, 335, 0) = true := by decide +kernel
theorem mc5 : aCallCk (90018, 2, 70, 345, 346, 347) = true := by decide +kernel
theorem mc6 : aCallCk (70082, 2, 113, 349, 351, 0) = true := by decide +kernel
theorem mc7 : aCallCk (70106, 2, 115, 353, 355, 1) = true := by decide +kernel
theorem mc8 : aCallCk (70110, 2, 23, 357, 358, 359) = true := by decide +kernel
theorem mc9 : aCallCk (10086, 0, 0, 361, 362, 0) = true := by decide +kernel
theorem mc10 : aCallCk (10092, 2, 40, 367, 368, 369) = true := by decide +kernel
theorem mc11 : aCallCk (20036, 0, 41, 371, 372, 0) = true := by decide +kernel
theorem mc12 : aCallCk (20040, 0, 42, 374, 375, 0) = true := by decide +kernel
theorem mc13 : aCallCk (10097, 1, 109, 377, 378, 0) = true := by decide +kernel
theorem mc14 : aCallCk (70138, 4, 0, 380, 381, 382) = true := by decide +kernel
theorem mc15 : aCallCk (70299, 3, 0, 383, 384, 385) = true := by decide +kernel
theorem mc16 : aCallCk (10101, 2, 15, 386, 387, 388) = true := by decide +kernel
theorem mc17 : aCallCk (35, 4, 0, 390, 381, 382) = true := by decide +kernel
theorem mc18 : aCallCk (70114, 2, 16, 391, 392, 393) = true := by decide +kernel
theorem mc19 : aCallCk (41, 3, 0, 395, 384, 385) = true := by decide +kernel
theorem mc20 : aCallCk (70118, 2, 17, 396, 397, 398) = true := by decide +kernel
theorem mc21 : aCallCk (70121, 2, 18, 400, 401, 402) = true := by decide +kernel
theorem mc22 : aCallCk (90023, 2, 71, 404, 405, 406) = true := by decide +kernel
theorem mc23 : aCallCk (70124, 2, 14, 408, 409, 410) = true := by decide +kernel
theorem mc24 : aCallCk (27, 1, 110, 412, 332, 0) = true := by decide +kernel
theorem mc25 : aCallCk (90027, 2, 72, 416, 417, 418) = true := by decide +kernel
theorem mc26 : aCallCk (90031, 2, 73, 420, 421, 422) = true := by decide +kernel
theorem mc27 : aCallCk (70128, 0, 114, 424, 425, 0) = true := by decide +kernel
theorem mc28 : aCallCk (90036, 2, 74, 427, 428, 429) = true := by decide +kernel
theorem mc29 : aCallCk (90040, 2, 75, 431, 432, 433) = true := by decide +kernel
theorem mc30 : aCallCk (70144, 2, 21, 435, 436, 437) = true := by decide +kernel
theorem mc31 : aCallCk (10077, 2, 22, 439, 440, 441) = true := by decide +kernel
theorem mc32 : aCallCk (10081, 2, 20, 444, 340, 341) = true := by decide +kernel
theorem mc33 : aCallCk (90045, 2, 76, 445, 446, 447) = true := by decide +kernel
theorem mc34 : aCallCk (90049, 2, 77, 449, 450, 451) = true := by decide +kernel
theorem mc35 : aCallCk (70150, 2, 33, 453, 454, 455) = true := by decide +kernel
theorem mc36 : aCallCk (10143, 2, 34, 457, 459, 2) = true := by decide +kernel
theorem mc37 : aCallCk (10116, 2, 17, 461, 397, 398) = true := by decide +kernel
theorem mc38 : aCallCk (70154, 0, 0, 463, 362, 0) = true := by decide +kernel
theorem mc39 : aCallCk (90053, 2, 78, 464, 465, 466) = true := by decide +kernel
theorem mc40 : aCallCk (70159, 2, 25, 468, 469, 470) = true := by decide +kernel
theorem mc41 : aCallCk (10108, 2, 26, 472, 474, 3) = true := by decide +kernel
theorem mc42 : aCallCk (10123, 2, 24, 476, 477, 478) = true := by decide +kernel
theorem mc43 : aCallCk (10105, 2, 16, 480, 392, 393) = true := by decide +kernel
theorem mc44 : aCallCk (10111, 4, 0, 481, 381, 382) = true := by decide +kernel
theorem mc45 : aCallCk (10119, 3, 0, 482, 384, 385) = true := by decide +kernel
theorem mc46 : aCallCk (90057, 2, 79, 484, 485, 486) = true := by decide +kernel
theorem mc47 : aCallCk (70168, 2, 27, 488, 489, 490) = true := by decide +kernel
theorem mc48 : aCallCk (10126, 2, 28, 492, 494, 4) = true := by decide +kernel
theorem mc49 : aCallCk (10136, 2, 23, 496, 358, 359) = true := by decide +kernel
theorem mc50 : aCallCk (10130, 2, 25, 497, 469, 470) = true := by decide +kernel
theorem mc51 : aCallCk (10133, 2, 29, 498, 500, 5) = true := by decide +kernel
theorem mc52 : aCallCk (90061, 2, 80, 502, 503, 504) = true := by decide +kernel
theorem mc53 : aCallCk (70172, 2, 30, 506, 507, 508) = true := by decide +kernel
theorem mc54 : aCallCk (10140, 2, 31, 510, 511, 512) = true := by decide +kernel
theorem mc55 : aCallCk (70175, 2, 32, 514, 515, 516) = true := by decide +kernel
theorem mc56 : aCallCk (70181, 2, 24, 518, 477, 478) = true := by decide +kernel
theorem mc57 : aCallCk (90065, 2, 81, 519, 520, 521) = true := by decide +kernel
theorem mc58 : aCallCk (70184, 2, 19, 523, 524, 525) = true := by decide +kernel
theorem mc59 : aCallCk (10053, 2, 13, 527, 528, 529) = true := by decide +kernel
theorem mc60 : aCallCk (90069, 2, 82, 531, 532, 533) = true := by decide +kernel
theorem mc61 : aCallCk (90073, 2, 83, 535, 536, 537) = true := by decide +kernel
theorem mc62 : aCallCk (90077, 2, 84, 539, 540, 541) = true := by decide +kernel
theorem mc63 : aCallCk (90081, 2, 85, 543, 544, 545) = true := by decide +kernel
theorem mc64 : aCallCk (90085, 2, 86, 547, 548, 549) = true := by decide +kernel
theorem mc65 : aCallCk (70191, 0, 111, 551, 552, 0) = true := by decide +kernel
theorem mc66 : aCallCk (70194, 2, 53, 554, 555, 556) = true := by decide +kernel
theorem mc67 : aCallCk (70199, 2, 116, 559, 561, 6) = true := by decide +kernel
theorem mc68 : aCallCk (70259, 2, 58, 563, 564, 565) = true := by decide +kernel
theorem mc69 : aCallCk (40030, 2, 56, 567, 568, 569) = true := by decide +kernel
theorem mc70 : aCallCk (40026, 1, 108, 571, 335, 0) = true := by decide +kernel
theorem mc71 : aCallCk (70302, 5, 0, 573, 574, 575) = true := by decide +kernel
theorem mc72 : aCallCk (90089, 2, 87, 576, 577, 578) = true := by decide +kernel
theorem mc73 : aCallCk (70206, 2, 40, 580, 368, 369) = true := by decide +kernel
theorem mc74 : aCallCk (90094, 2, 88, 581, 582, 583) = true := by decide +kernel
theorem mc75 : aCallCk (90098, 2, 89, 585, 586, 587) = true := by decide +kernel
theorem mc76 : aCallCk (70218, 2, 59, 589, 590, 591) = true := by decide +kernel
theorem mc77 : aCallCk (60028, 1, 108, 593, 335, 0) = true := by decide +kernel
theorem mc78 : aCallCk (90102, 2, 90, 594, 595, 596) = true := by decide +kernel
theorem mc79 : aCallCk (90106, 2, 91, 598, 599, 600) = true := by decide +kernel
theorem mc80 : aCallCk (70225, 0, 109, 602, 378, 0) = true := by decide +kernel
theorem mc81 : aCallCk (70229, 2, 43, 603, 604, 605) = true := by decide +kernel
theorem mc82 : aCallCk (30028, 2, 60, 607, 608, 609) = true := by decide +kernel
theorem mc83 : aCallCk (60032, 2, 61, 611, 612, 613) = true := by decide +kernel
theorem mc84 : aCallCk (60035, 2, 67, 615, 617, 7) = true := by decide +kernel
theorem mc85 : aCallCk (60039, 2, 68, 619, 621, 8) = true := by decide +kernel
theorem mc86 : aCallCk (30031, 2, 45, 623, 625, 9) = true := by decide +kernel
theorem mc87 : aCallCk (30048, 0, 46, 627, 628, 0) = true := by decide +kernel
theorem mc88 : aCallCk (30052, 2, 63, 633, 634, 635) = true := by decide +kernel
theorem mc89 : aCallCk (60042, 2, 1, 637, 638, 639) = true := by decide +kernel
theorem mc90 : aCallCk (120335, 2, 5, 641, 642, 643) = true := by decide +kernel
theorem mc91 : aCallCk (60048, 2, 2, 647, 648, 649) = true := by decide +kernel
theorem mc92 : aCallCk (120492, 2, 6, 651, 652, 653) = true := by decide +kernel
theorem mc93 : aCallCk (120495, 0, 8, 655, 656, 0) = true := by decide +kernel
theorem mc94 : aCallCk (130009, 0, 7, 658, 659, 0) = true := by decide +kernel
theorem mc95 : aCallCk (121059, 0, 12, 663, 664, 0) = true := by decide +kernel
theorem mc96 : aCallCk (30056, 2, 35, 685, 686, 687) = true := by decide +kernel
theorem mc97 : aCallCk (30062, 2, 61, 689, 612, 613) = true := by decide +kernel
theorem mc98 : aCallCk (30042, 2, 44, 690, 692, 10) = true := by decide +kernel
theorem mc99 : aCallCk (30035, 2, 48, 694, 696, 11) = true := by decide +kernel
theorem mc100 : aCallCk (30077, 2, 50, 698, 700, 12) = true := by decide +kernel
theorem mc101 : aCallCk (30094, 0, 47, 702, 703, 0) = true := by decide +kernel
theorem mc102 : aCallCk (30097, 2, 66, 708, 709, 710) = true := by decide +kernel
theorem mc103 : aCallCk (60052, 2, 3, 712, 713, 714) = true := by decide +kernel
theorem mc104 : aCallCk (120633, 2, 4, 716, 717, 718) = true := by decide +kernel
theorem mc105 : aCallCk (120505, 2, 1, 720, 638, 639) = true := by decide +kernel
theorem mc106 : aCallCk (120637, 0, 10, 721, 722, 0) = true := by decide +kernel
theorem mc107 : aCallCk (130088, 0, 9, 724, 725, 0) = true := by decide +kernel
theorem mc108 : aCallCk (130092, 3, 0, 727, 384, 385) = true := by decide +kernel
theorem mc109 : aCallCk (130038, 4, 0, 728, 381, 382) = true := by decide +kernel
theorem mc110 : aCallCk (130095, 0, 11, 729, 730, 0) = true := by decide +kernel
theorem mc111 : aCallCk (30101, 2, 37, 767, 768, 769) = true := by decide +kernel
theorem mc112 : aCallCk (20028, 2, 39, 771, 773, 13) = true := by decide +kernel
theorem mc113 : aCallCk (20032, 1, 108, 775, 335, 0) = true := by decide +kernel
theorem mc114 : aCallCk (30104, 2, 64, 776, 777, 778) = true := by decide +kernel
theorem mc115 : aCallCk (30108, 2, 65, 780, 781, 782) = true := by decide +kernel
theorem mc116 : aCallCk (30111, 2, 36, 784, 785, 786) = true := by decide +kernel
theorem mc117 : aCallCk (30080, 2, 62, 788, 789, 790) = true := by decide +kernel
theorem mc118 : aCallCk (30114, 2, 51, 792, 794, 14) = true := by decide +kernel
theorem mc119 : aCallCk (30088, 2, 38, 796, 797, 798) = true := by decide +kernel
theorem mc120 : aCallCk (30117, 2, 52, 800, 802, 15) = true := by decide +kernel
theorem mc121 : aCallCk (30084, 0, 49, 804, 805, 0) = true := by decide +kernel
theorem mc122 : aCallCk (90110, 2, 92, 808, 809, 810) = true := by decide +kernel
theorem mc123 : aCallCk (90114, 2, 93, 812, 813, 814) = true := by decide +kernel
theorem mc124 : aCallCk (90118, 2, 94, 816, 817, 818) = true := by decide +kernel
theorem mc125 : aCallCk (70242, 2, 54, 820, 821, 822) = true := by decide +kernel
theorem mc126 : aCallCk (40022, 1, 109, 824, 378, 0) = true := by decide +kernel
theorem mc127 : aCallCk (90122, 2, 95, 826, 827, 828) = true := by decide +kernel
theorem mc128 : aCallCk (70247, 2, 56, 830, 568, 569) = true := by decide +kernel
theorem mc129 : aCallCk (90126, 2, 96, 834, 835, 836) = true := by decide +kernel
theorem mc130 : aCallCk (90130, 2, 97, 838, 839, 840) = true := by decide +kernel
theorem mc131 : aCallCk (90134, 2, 98, 842, 843, 844) = true := by decide +kernel
theorem mc132 : aCallCk (70263, 2, 57, 846, 847, 848) = true := by decide +kernel
theorem mc133 : aCallCk (90139, 2, 99, 853, 854, 855) = true := by decide +kernel
theorem mc134 : aCallCk (70273, 0, 112, 857, 858, 0) = true := by decide +kernel
theorem mc135 : aCallCk (70283, 2, 13, 860, 528, 529) = true := by decide +kernel
theorem mc136 : aCallCk (70290, 2, 55, 861, 862, 863) = true := by decide +kernel
theorem mc137 : aCallCk (90143, 2, 100, 865, 866, 867) = true := by decide +kernel
theorem mc138 : aCallCk (90147, 2, 101, 869, 870, 871) = true := by decide +kernel
theorem mc139 : aCallCk (90151, 2, 102, 873, 874, 875) = true := by decide +kernel
theorem mc140 : aCallCk (90155, 2, 103, 878, 879, 880) = true := by decide +kernel
theorem mc141 : aCallCk (90159, 2, 104, 882, 883, 884) = true := by decide +kernel
theorem mc142 : aCallCk (70296, 2, 117, 886, 888, 16) = true := by decide +kernel
theorem mc143 : aCallCk (70305, 2, 118, 890, 892, 17) = true := by decide +kernel
theorem mc144 : aCallCk (70308, 2, 31, 894, 511, 512) = true := by decide +kernel
theorem mc145 : aCallCk (90163, 2, 105, 895, 896, 897) = true := by decide +kernel
theorem mc146 : aCallCk (90167, 2, 106, 899, 900, 901) = true := by decide +kernel
theorem mc147 : aCallCk (90171, 2, 107, 903, 904, 905) = true := by decide +kernel
theorem mc148 : aCallCk (90017, 2, 139, 1007, 1008, 1009) = true := by decide +kernel
theorem mc149 : aCallCk (80065, 0, 119, 1012, 1013, 0) = true := by decide +kernel
theorem mc150 : aCallCk (80105, 2, 138, 1019, 1021, 18) = true := by decide +kernel
theorem mc151 : aCallCk (80093, 2, 127, 1023, 1025, 19) = true := by decide +kernel
theorem mc152 : aCallCk (90022, 2, 140, 1027, 1028, 1029) = true := by decide +kernel
theorem mc153 : aCallCk (80109, 2, 128, 1031, 1033, 20) = true := by decide +kernel
theorem mc154 : aCallCk (80115, 2, 134, 1036, 1038, 21) = true := by decide +kernel
theorem mc155 : aCallCk (80087, 2, 133, 1040, 1042, 22) = true := by decide +kernel
theorem mc156 : aCallCk (80070, 2, 188, 1044, 1046, 23) = true := by decide +kernel
theorem mc157 : aCallCk (80271, 2, 125, 1048, 1050, 24) = true := by decide +kernel
theorem mc158 : aCallCk (80074, 2, 126, 1052, 1054, 25) = true := by decide +kernel
theorem mc159 : aCallCk (80078, 0, 132, 1056, 1057, 0) = true := by decide +kernel
theorem mc160 : aCallCk (80081, 2, 191, 1059, 1061, 26) = true := by decide +kernel
theorem mc161 : aCallCk (80285, 0, 190, 1063, 1064, 0) = true := by decide +kernel
theorem mc162 : aCallCk (80084, 0, 121, 1066, 1067, 0) = true := by decide +kernel
theorem mc163 : aCallCk (80090, 0, 123, 1069, 1070, 0) = true := by decide +kernel
theorem mc164 : aCallCk (80118, 2, 135, 1072, 1074, 27) = true := by decide +kernel
theorem mc165 : aCallCk (80121, 2, 136, 1076, 1078, 28) = true := by decide +kernel
theorem mc166 : aCallCk (80124, 2, 137, 1080, 1082, 29) = true := by decide +kernel
theorem mc167 : aCallCk (90026, 2, 141, 1084, 1085, 1086) = true := by decide +kernel
theorem mc168 : aCallCk (80127, 0, 131, 1088, 1089, 0) = true := by decide +kernel
theorem mc169 : aCallCk (90030, 2, 142, 1092, 1093, 1094) = true := by decide +kernel
theorem mc170 : aCallCk (80132, 2, 124, 1096, 1098, 30) = true := by decide +kernel
theorem mc171 : aCallCk (90035, 2, 143, 1100, 1101, 1102) = true := by decide +kernel
theorem mc172 : aCallCk (90039, 2, 144, 1106, 1107, 1108) = true := by decide +kernel
theorem mc173 : aCallCk (90044, 2, 145, 1111, 1112, 1113) = true := by decide +kernel
theorem mc174 : aCallCk (80141, 2, 130, 1115, 1117, 31) = true := by decide +kernel
theorem mc175 : aCallCk (90048, 2, 146, 1120, 1121, 1122) = true := by decide +kernel
theorem mc176 : aCallCk (90052, 2, 148, 1124, 1125, 1126) = true := by decide +kernel
theorem mc177 : aCallCk (80147, 2, 147, 1129, 1131, 32) = true := by decide +kernel
theorem mc178 : aCallCk (90056, 2, 151, 1134, 1135, 1136) = true := by decide +kernel
theorem mc179 : aCallCk (80154, 2, 150, 1138, 1140, 33) = true := by decide +kernel
theorem mc180 : aCallCk (80150, 2, 149, 1142, 1144, 34) = true := by decide +kernel
theorem mc181 : aCallCk (90060, 2, 154, 1147, 1148, 1149) = true := by decide +kernel
theorem mc182 : aCallCk (80160, 2, 153, 1151, 1153, 35) = true := by decide +kernel
theorem mc183 : aCallCk (80157, 2, 152, 1155, 1157, 36) = true := by decide +kernel
theorem mc184 : aCallCk (90064, 2, 157, 1159, 1160, 1161) = true := by decide +kernel
theorem mc185 : aCallCk (80167, 2, 156, 1163, 1165, 37) = true := by decide +kernel
theorem mc186 : aCallCk (80164, 2, 155, 1167, 1169, 38) = true := by decide +kernel
theorem mc187 : aCallCk (80170, 0, 120, 1171, 1172, 0) = true := by decide +kernel
theorem mc188 : aCallCk (90068, 2, 160, 1174, 1175, 1176) = true := by decide +kernel
theorem mc189 : aCallCk (80173, 2, 158, 1178, 1180, 39) = true := by decide +kernel
theorem mc190 : aCallCk (80176, 2, 159, 1182, 1184, 40) = true := by decide +kernel
theorem mc191 : aCallCk (90072, 2, 161, 1186, 1187, 1188) = true := by decide +kernel
theorem mc192 : aCallCk (90076, 2, 164, 1190, 1191, 1192) = true := by decide +kernel
theorem mc193 : aCallCk (80181, 0, 162, 1194, 1195, 0) = true := by decide +kernel
theorem mc194 : aCallCk (80184, 2, 163, 1198, 1200, 41) = true := by decide +kernel
theorem mc195 : aCallCk (90080, 2, 165, 1202, 1203, 1204) = true := by decide +kernel
theorem mc196 : aCallCk (90084, 2, 166, 1206, 1207, 1208) = true := by decide +kernel
theorem mc197 : aCallCk (90093, 2, 167, 1210, 1211, 1212) = true := by decide +kernel
theorem mc198 : aCallCk (90097, 2, 168, 1214, 1215, 1216) = true := by decide +kernel
theorem mc199 : aCallCk (90101, 2, 169, 1218, 1219, 1220) = true := by decide +kernel
theorem mc200 : aCallCk (90105, 2, 170, 1222, 1223, 1224) = true := by decide +kernel
theorem mc201 : aCallCk (90109, 2, 186, 1226, 1227, 1228) = true := by decide +kernel
theorem mc202 : aCallCk (80277, 2, 185, 1230, 1232, 42) = true := by decide +kernel
theorem mc203 : aCallCk (80237, 2, 173, 1234, 1236, 43) = true := by decide +kernel
theorem mc204 : aCallCk (80209, 2, 171, 1238, 1240, 44) = true := by decide +kernel
theorem mc205 : aCallCk (80215, 2, 172, 1244, 1246, 45) = true := by decide +kernel
theorem mc206 : aCallCk (80274, 2, 176, 1250, 1252, 46) = true := by decide +kernel
theorem mc207 : aCallCk (80221, 2, 175, 1254, 1256, 47) = true := by decide +kernel
theorem mc208 : aCallCk (80268, 2, 179, 1258, 1260, 48) = true := by decide +kernel
theorem mc209 : aCallCk (80231, 2, 180, 1262, 1264, 49) = true := by decide +kernel
theorem mc210 : aCallCk (80244, 2, 181, 1266, 1268, 50) = true := by decide +kernel
theorem mc211 : aCallCk (80247, 2, 182, 1270, 1272, 51) = true := by decide +kernel
theorem mc212 : aCallCk (80250, 2, 183, 1274, 1276, 52) = true := by decide +kernel
theorem mc213 : aCallCk (80253, 2, 184, 1278, 1280, 53) = true := by decide +kernel
theorem mc214 : aCallCk (80240, 2, 178, 1282, 1284, 54) = true := by decide +kernel
theorem mc215 : aCallCk (80259, 0, 177, 1286, 1287, 0) = true := by decide +kernel
theorem mc216 : aCallCk (80234, 2, 174, 1289, 1291, 55) = true := by decide +kernel
theorem mc217 : aCallCk (90113, 2, 187, 1293, 1294, 1295) = true := by decide +kernel
theorem mc218 : aCallCk (80280, 2, 129, 1297, 1299, 56) = true := by decide +kernel
theorem mc219 : aCallCk (90117, 2, 189, 1301, 1302, 1303) = true := by decide +kernel
theorem mc220 : aCallCk (90121, 2, 193, 1306, 1307, 1308) = true := by decide +kernel
theorem mc221 : aCallCk (80291, 0, 192, 1310, 1311, 0) = true := by decide +kernel
theorem mc222 : aCallCk (90125, 2, 194, 1316, 1317, 1318) = true := by decide +kernel
theorem mc223 : aCallCk (90129, 2, 195, 1324, 1325, 1326) = true := by decide +kernel
theorem mc224 : aCallCk (90133, 2, 196, 1328, 1329, 1330) = true := by decide +kernel
theorem mc225 : aCallCk (90088, 2, 198, 1332, 1333, 1334) = true := by decide +kernel
theorem mc226 : aCallCk (80306, 2, 197, 1336, 1338, 57) = true := by decide +kernel
theorem mc227 : aCallCk (80303, 0, 122, 1340, 1341, 0) = true := by decide +kernel
theorem mc228 : aCallCk (90138, 2, 199, 1343, 1344, 1345) = true := by decide +kernel
theorem mc229 : aCallCk (90142, 2, 201, 1347, 1348, 1349) = true := by decide +kernel
theorem mc230 : aCallCk (80310, 0, 200, 1351, 1352, 0) = true := by decide +kernel
theorem mc231 : aCallCk (90146, 2, 202, 1354, 1355, 1356) = true := by decide +kernel
theorem mc232 : aCallCk (90150, 2, 203, 1358, 1359, 1360) = true := by decide +kernel
theorem mc233 : aCallCk (90154, 2, 204, 1362, 1363, 1364) = true := by decide +kernel
theorem mc234 : aCallCk (90158, 2, 205, 1367, 1368, 1369) = true := by decide +kernel
theorem mc235 : aCallCk (90162, 2, 207, 1371, 1372, 1373) = true := by decide +kernel
theorem mc236 : aCallCk (80323, 2, 206, 1376, 1378, 58) = true := by decide +kernel
theorem mc237 : aCallCk (90166, 2, 208, 1380, 1381, 1382) = true := by decide +kernel
theorem mc238 : aCallCk (90170, 2, 209, 1384, 1385, 1386) = true := by decide +kernel
theorem mc239 : aCallCk (90174, 2, 210, 1388, 1389, 1390) = true := by decide +kernel
set_option maxRecDepth 100000 in
theorem aCallAll : ∀ q ∈ aCallL, aCallCk q = true := List.forall_mem_cons.mpr ⟨mc0, List.forall_mem_cons.mpr ⟨mc1, List.forall_mem_cons.mpr ⟨mc2, List.forall_mem_cons.mpr ⟨mc3, List.forall_mem_cons.mpr ⟨mc4, List.forall_mem_cons.mpr ⟨mc5, List.forall_mem_cons.mpr ⟨mc6, List.forall_mem_cons.mpr ⟨mc7, List.forall_mem_cons.mpr ⟨mc8, List.forall_mem_cons.mpr ⟨mc9, List.forall_mem_cons.mpr ⟨mc10, List.forall_mem_cons.mpr ⟨mc11, List.forall_mem_cons.mpr ⟨mc12, List.forall_mem_cons.mpr ⟨mc13, List.forall_mem_cons.mpr ⟨mc14, List.forall_mem_cons.mpr ⟨mc15, List.forall_mem_cons.mpr ⟨mc16, List.forall_mem_cons.mpr ⟨mc17, List.forall_mem_cons.mpr ⟨mc18, List.forall_mem_cons.mpr ⟨mc19, List.forall_mem_cons.mpr ⟨mc20, List.forall_mem_cons.mpr ⟨mc21, List.forall_mem_cons.mpr ⟨mc22, List.forall_mem_cons.mpr ⟨mc23, List.forall_mem_cons.mpr ⟨mc24, List.forall_mem_cons.mpr ⟨mc25, List.forall_mem_cons.mpr ⟨mc26, List.forall_mem_cons.mpr ⟨mc27, List.forall_mem_cons.mpr ⟨mc28, List.forall_mem_cons.mpr ⟨mc29, List.forall_mem_cons.mpr ⟨mc30, List.forall_mem_cons.mpr ⟨mc31, List.forall_mem_cons.mpr ⟨mc32, List.forall_mem_cons.mpr ⟨mc33, List.forall_mem_cons.mpr ⟨mc34, List.forall_mem_cons.mpr ⟨mc35, List.forall_mem_cons.mpr ⟨mc36, List.forall_mem_cons.mpr ⟨mc37, List.forall_mem_cons.mpr ⟨mc38, List.forall_mem_cons.mpr ⟨mc39, List.forall_mem_cons.mpr ⟨mc40, List.forall_mem_cons.mpr ⟨mc41, List.forall_mem_cons.mpr ⟨mc42, List.forall_mem_cons.mpr ⟨mc43, List.forall_mem_cons.mpr ⟨mc44, List.forall_mem_cons.mpr ⟨mc45, List.forall_mem_cons.mpr ⟨mc46, List.forall_mem_cons.mpr ⟨mc47, List.forall_mem_cons.mpr ⟨mc48, List.forall_mem_cons.mpr ⟨mc49, List.forall_mem_cons.mpr ⟨mc50, List.forall_mem_cons.mpr ⟨mc51, List.forall_mem_cons.mpr ⟨mc52, List.forall_mem_cons.mpr ⟨mc53, List.forall_mem_cons.mpr ⟨mc54, List.forall_mem_cons.mpr ⟨mc55, List.forall_mem_cons.mpr ⟨mc56, List.forall_mem_cons.mpr ⟨mc57, List.forall_mem_cons.mpr ⟨mc58, List.forall_mem_cons.mpr ⟨mc59, List.forall_mem_cons.mpr ⟨mc60, List.forall_mem_cons.mpr ⟨mc61, List.forall_mem_cons.mpr ⟨mc62, List.forall_mem_cons.mpr ⟨mc63, List.forall_mem_cons.mpr ⟨mc64, List.forall_mem_cons.mpr ⟨mc65, List.forall_mem_cons.mpr ⟨mc66, List.forall_mem_cons.mpr ⟨mc67, List.forall_mem_cons.mpr ⟨mc68, List.forall_mem_cons.mpr ⟨mc69, List.forall_mem_cons.mpr ⟨mc70, List.forall_mem_cons.mpr ⟨mc71, List.forall_mem_cons.mpr ⟨mc72, List.forall_mem_cons.mpr ⟨mc73, List.forall_mem_cons.mpr ⟨mc74, List.forall_mem_cons.mpr ⟨mc75, List.forall_mem_cons.mpr ⟨mc76, List.forall_mem_cons.mpr ⟨mc77, List.forall_mem_cons.mpr ⟨mc78, List.forall_mem_cons.mpr ⟨mc79, List.forall_mem_cons.mpr ⟨mc80, List.forall_mem_cons.mpr ⟨mc81, List.forall_mem_cons.mpr ⟨mc82, List.forall_mem_cons.mpr ⟨mc83, List.forall_mem_cons.mpr ⟨mc84, List.forall_mem_cons.mpr ⟨mc85, List.forall_mem_cons.mpr ⟨mc86, List.forall_mem_cons.mpr ⟨mc87, List.forall_mem_cons.mpr ⟨mc88, List.forall_mem_cons.mpr ⟨mc89, List.forall_mem_cons.mpr ⟨mc90, List.forall_mem_cons.mpr ⟨mc91, List.forall_mem_cons.mpr ⟨mc92, List.forall_mem_cons.mpr ⟨mc93, List.forall_mem_cons.mpr ⟨mc94, List.forall_mem_cons.mpr ⟨mc95, List.forall_mem_cons.mpr ⟨mc96, List.forall_mem_cons.mpr ⟨mc97, List.forall_mem_cons.mpr ⟨mc98, List.forall_mem_cons.mpr ⟨mc99, List.forall_mem_cons.mpr ⟨mc100, List.forall_mem_cons.mpr ⟨mc101, List.forall_mem_cons.mpr ⟨mc102, List.forall_mem_cons.mpr ⟨mc103, List.forall_mem_cons.mpr ⟨mc104, List.forall_mem_cons.mpr ⟨mc105, List.forall_mem_cons.mpr ⟨mc106, List.forall_mem_cons.mpr ⟨mc107, List.forall_mem_cons.mpr ⟨mc108, List.forall_mem_cons.mpr ⟨mc109, List.forall_mem_cons.mpr ⟨mc110, List.forall_mem_cons.mpr ⟨mc111, List.forall_mem_cons.mpr ⟨mc112, List.forall_mem_cons.mpr ⟨mc113, List.forall_mem_cons.mpr ⟨mc114, List.forall_mem_cons.mpr ⟨mc115, List.forall_mem_cons.mpr ⟨mc116, List.forall_mem_cons.mpr ⟨mc117, List.forall_mem_cons.mpr ⟨mc118, List.forall_mem_cons.mpr ⟨mc119, List.forall_mem_cons.mpr ⟨mc120, List.forall_mem_cons.mpr ⟨mc121, List.forall_mem_cons.mpr ⟨mc122, List.forall_mem_cons.mpr ⟨mc123, List.forall_mem_cons.mpr ⟨mc124, List.forall_mem_cons.mpr ⟨mc125, List.forall_mem_cons.mpr ⟨mc126, List.forall_mem_cons.mpr ⟨mc127, List.forall_mem_cons.mpr ⟨mc128, List.forall_mem_cons.mpr ⟨mc129, List.forall_mem_cons.mpr ⟨mc130, List.forall_mem_cons.mpr ⟨mc131, List.forall_mem_cons.mpr ⟨mc132, List.forall_mem_cons.mpr ⟨mc133, List.forall_mem_cons.mpr ⟨mc134, List.forall_mem_cons.mpr ⟨mc135, List.forall_mem_cons.mpr ⟨mc136, List.forall_mem_cons.mpr ⟨mc137, List.forall_mem_cons.mpr ⟨mc138, List.forall_mem_cons.mpr ⟨mc139, List.forall_mem_cons.mpr ⟨mc140, List.forall_mem_cons.mpr ⟨mc141, List.forall_mem_cons.mpr ⟨mc142, List.forall_mem_cons.mpr ⟨mc143, List.forall_mem_cons.mpr ⟨mc144, List.forall_mem_cons.mpr ⟨mc145, List.forall_mem_cons.mpr ⟨mc146, List.forall_mem_cons.mpr ⟨mc147, List.forall_mem_cons.mpr ⟨mc148, List.forall_mem_cons.mpr ⟨mc149, List.forall_mem_cons.mpr ⟨mc150, List.forall_mem_cons.mpr ⟨mc151, List.forall_mem_cons.mpr ⟨mc152, List.forall_mem_cons.mpr ⟨mc153, List.forall_mem_cons.mpr ⟨mc154, List.forall_mem_cons.mpr ⟨mc155, List.forall_mem_cons.mpr ⟨mc156, List.forall_mem_cons.mpr ⟨mc157, List.forall_mem_cons.mpr ⟨mc158, List.forall_mem_cons.mpr ⟨mc159, List.forall_mem_cons.mpr ⟨mc160, List.forall_mem_cons.mpr ⟨mc161, List.forall_mem_cons.mpr ⟨mc162, List.forall_mem_cons.mpr ⟨mc163, List.forall_mem_cons.mpr ⟨mc164, List.forall_mem_cons.mpr ⟨mc165, List.forall_mem_cons.mpr ⟨mc166, List.forall_mem_cons.mpr ⟨mc167, List.forall_mem_cons.mpr ⟨mc168, List.forall_mem_cons.mpr ⟨mc169, List.forall_mem_cons.mpr ⟨mc170, List.forall_mem_cons.mpr ⟨mc171, List.forall_mem_cons.mpr ⟨mc172, List.forall_mem_cons.mpr ⟨mc173, List.forall_mem_cons.mpr ⟨mc174, List.forall_mem_cons.mpr ⟨mc175, List.forall_mem_cons.mpr ⟨mc176, List.forall_mem_cons.mpr ⟨mc177, List.forall_mem_cons.mpr ⟨mc178, List.forall_mem_cons.mpr ⟨mc179, List.forall_mem_cons.mpr ⟨mc180, List.forall_mem_cons.mpr ⟨mc181, List.forall_mem_cons.mpr ⟨mc182, List.forall_mem_cons.mpr ⟨mc183, List.forall_mem_cons.mpr ⟨mc184, List.forall_mem_cons.mpr ⟨mc185, List.forall_mem_cons.mpr ⟨mc186, List.forall_mem_cons.mpr ⟨mc187, List.forall_mem_cons.mpr ⟨mc188, List.forall_mem_cons.mpr ⟨mc189, List.forall_mem_cons.mpr ⟨mc190, List.forall_mem_cons.mpr ⟨mc191, List.forall_mem_cons.mpr ⟨mc192, List.forall_mem_cons.mpr ⟨mc193, List.forall_mem_cons.mpr ⟨mc194, List.forall_mem_cons.mpr ⟨mc195, List.forall_mem_cons.mpr ⟨mc196, List.forall_mem_cons.mpr ⟨mc197, List.forall_mem_cons.mpr ⟨mc198, List.forall_mem_cons.mpr ⟨mc199, List.forall_mem_cons.mpr ⟨mc200, List.forall_mem_cons.mpr ⟨mc201, List.forall_mem_cons.mpr ⟨mc202, List.forall_mem_cons.mpr ⟨mc203, List.forall_mem_cons.mpr ⟨mc204, List.forall_mem_cons.mpr ⟨mc205, List.forall_mem_cons.mpr ⟨mc206, List.forall_mem_cons.mpr ⟨mc207, List.forall_mem_cons.mpr ⟨mc208, List.forall_mem_cons.mpr ⟨mc209, List.forall_mem_cons.mpr ⟨mc210, List.forall_mem_cons.mpr ⟨mc211, List.forall_mem_cons.mpr ⟨mc212, List.forall_mem_cons.mpr ⟨mc213, List.forall_mem_cons.mpr ⟨mc214, List.forall_mem_cons.mpr ⟨mc215, List.forall_mem_cons.mpr ⟨mc216, List.forall_mem_cons.mpr ⟨mc217, List.forall_mem_cons.mpr ⟨mc218, List.forall_mem_cons.mpr ⟨mc219, List.forall_mem_cons.mpr ⟨mc220, List.forall_mem_cons.mpr ⟨mc221, List.forall_mem_cons.mpr ⟨mc222, List.forall_mem_cons.mpr ⟨mc223, List.forall_mem_cons.mpr ⟨mc224, List.forall_mem_cons.mpr ⟨mc225, List.forall_mem_cons.mpr ⟨mc226, List.forall_mem_cons.mpr ⟨mc227, List.forall_mem_cons.mpr ⟨mc228, List.forall_mem_cons.mpr ⟨mc229, List.forall_mem_cons.mpr ⟨mc230, List.forall_mem_cons.mpr ⟨mc231, List.forall_mem_cons.mpr ⟨mc232, List.forall_mem_cons.mpr ⟨mc233, List.forall_mem_cons.mpr ⟨mc234, List.forall_mem_cons.mpr ⟨mc235, List.forall_mem_cons.mpr ⟨mc236, List.forall_mem_cons.mpr ⟨mc237, List.forall_mem_cons.mpr ⟨mc238, List.forall_mem_cons.mpr ⟨mc239, fun _ h => absurd h List.not_mem_nil⟩⟩⟩⟩⟩⟩⟩⟩⟩⟩⟩⟩⟩⟩⟩⟩⟩⟩⟩⟩⟩⟩⟩⟩⟩⟩⟩⟩⟩⟩⟩⟩⟩⟩⟩⟩⟩⟩⟩⟩⟩⟩⟩⟩⟩⟩⟩⟩⟩⟩⟩⟩⟩⟩⟩⟩⟩⟩⟩⟩⟩⟩⟩⟩⟩⟩⟩⟩⟩⟩⟩⟩⟩⟩⟩⟩⟩⟩⟩⟩⟩⟩⟩⟩⟩⟩⟩⟩⟩⟩⟩⟩⟩⟩⟩⟩⟩⟩⟩⟩⟩⟩⟩⟩⟩⟩⟩⟩⟩⟩⟩⟩⟩⟩⟩⟩⟩⟩⟩⟩⟩⟩⟩⟩⟩⟩⟩⟩⟩⟩⟩⟩⟩⟩⟩⟩⟩⟩⟩⟩⟩⟩⟩⟩⟩⟩⟩⟩⟩⟩⟩⟩⟩⟩⟩⟩⟩⟩⟩⟩⟩⟩⟩⟩⟩⟩⟩⟩⟩⟩⟩⟩⟩⟩⟩⟩⟩⟩⟩⟩⟩⟩⟩⟩⟩⟩⟩⟩⟩⟩⟩⟩⟩⟩⟩⟩⟩⟩⟩⟩⟩⟩⟩⟩⟩⟩⟩⟩⟩⟩⟩⟩⟩⟩⟩⟩⟩⟩⟩⟩⟩⟩⟩⟩⟩⟩⟩⟩⟩⟩⟩⟩⟩⟩⟩⟩⟩⟩⟩⟩
theorem aStrV : aInT 1392 (.fieldLink "java/lang/String" 9 "java/lang/String" "value" "[B") = true := by decide +kernel
theorem aStrC : aInT 1393 (.fieldLink "java/lang/String" 15 "java/lang/String" "coder" "B") = true := by decide +kernel
theorem aStrS : aInT 645 (.fieldLink "java/lang/String" 38 "java/lang/String" "COMPACT_STRINGS" "Z") = true := by decide +kernel
theorem aStrF : aInT 661 (.fieldLink "java/lang/String" 1053 "jdk/internal/util/Preconditions" "SIOOBE_FORMATTER" "Ljava/util/function/BiFunction;") = true := by decide +kernel
theorem aMathI : aInT 70 (.initialized "java/lang/Math") = true := by decide +kernel
end
section
/-! the cells by number: 0 the class's object and all that it makes, 121 the reference's. Written by wip/gen/gen3.py -/
def aShpL : List Nat := [7, 1, 21, 20, 0, 0, 0, 0, 0, 0, 0, 0, 0, 0, 1, 21, 20, 0, 0, 0, 0, 0, 0, 0, 0, 0, 0, 1, 21, 20, 0, 0, 0, 0, 0, 0, 0, 0, 0, 0, 22, 3, 6, 20, 23, 24, 20, 20, 2, 20, 20, 2, 20, 20, 2, 20, 20, 2, 20, 20, 2, 20, 20, 2, 20, 20, 2, 20, 20, 2, 20, 20, 2, 20, 20, 2, 20, 20, 2, 20, 20, 2, 20, 20, 2, 20, 20, 2, 20, 20, 2, 20, 20, 4, 20, 4, 20, 4, 20, 4, 20, 5, 0, 4, 20, 5, 0, 4, 20, 5, 0, 4, 20, 5, 0, 4, 20, 5, 0, 4, 20, 8, 20, 20, 20, 20, 20, 20, 20, 20, 20, 20, 20, 20, 20, 20, 20, 20, 20, 20]
def aLenL : List Nat := [0, 0, 10, 3, 0, 0, 0, 0, 0, 0, 0, 0, 0, 0, 0, 10, 3, 0, 0, 0, 0, 0, 0, 0, 0, 0, 0, 0, 10, 3, 0, 0, 0, 0, 0, 0, 0, 0, 0, 0, 15, 0, 0, 96, 4, 5, 60, 10, 0, 96, 48, 0, 96, 48, 0, 96, 48, 0, 96, 48, 0, 96, 48, 0, 96, 48, 0, 96, 48, 0, 96, 48, 0, 96, 48, 0, 96, 48, 0, 96, 48, 0, 96, 48, 0, 96, 48, 0, 96, 48, 0, 96, 48, 0, 24, 0, 24, 0, 24, 0, 24, 0, 0, 0, 24, 0, 0, 0, 24, 0, 0, 0, 24, 0, 0, 0, 24, 0, 0, 0, 24, 0, 3060, 3060, 3060, 4, 4, 96, 5, 5, 5, 5, 120, 60, 96, 128, 100, 24, 60, 60]
def aRfL : List (List Nat) := [[1, 14, 27, 0, 40, 41, 44, 45, 46, 0, 47], [2, 3], [4, 5, 6, 7, 8, 9, 10, 11, 12, 13], [], [], [], [], [], [], [], [], [], [], [], [15, 16], [17, 18, 19, 20, 21, 22, 23, 24, 25, 26], [], [], [], [], [], [], [], [], [], [], [], [28, 29], [30, 31, 32, 33, 34, 35, 36, 37, 38, 39], [], [], [], [], [], [], [], [], [], [], [], [48, 51, 54, 57, 60, 63, 66, 69, 72, 75, 78, 81, 84, 87, 90], [42], [43], [], [93, 95, 97, 99], [101, 105, 109, 113, 117], [], [], [49, 50], [], [], [52, 53], [], [], [55, 56], [], [], [58, 59], [], [], [61, 62], [], [], [64, 65], [], [], [67, 68], [], [], [70, 71], [], [], [73, 74], [], [], [76, 77], [], [], [79, 80], [], [], [82, 83], [], [], [85, 86], [], [], [88, 89], [], [], [91, 92], [], [], [94], [], [96], [], [98], [], [100], [], [102, 103], [], [104], [], [106, 107], [], [108], [], [110, 111], [], [112], [], [114, 115], [], [116], [], [118, 119], [], [120], [], [122, 123, 124, 0, 125, 126, 127, 128, 129, 130, 131, 132, 133, 134, 0, 0, 0, 0, 0, 0, 0, 0, 0, 0, 0, 135, 136, 137, 138, 0, 139], [], [], [], [], [], [], [], [], [], [], [], [], [], [], [], [], [], []]
def aFcL : List (List Nat) := [[0, 0, 0, 0, 0], [2, 2, 0, 0, 0, 0, 0, 0, 0, 0, 0, 0], [2, 2, 0, 0, 0], [2, 0, 0, 0], [2, 0, 0], [2, 2, 0, 0], [2, 0, 0, 0, 0], [2, 2, 2, 1, 2, 2, 2, 2, 2, 0, 2], [2, 2, 2, 1, 2, 2, 2, 2, 2, 2, 2, 2, 2, 2, 0, 0, 0, 0, 0, 0, 0, 0, 0, 0, 0, 2, 2, 2, 2, 0, 2]]
def aFfL : List (List Nat) := [[0, 0, 0, 0, 0], [1, 1, 0, 0, 0, 0, 0, 0, 0, 0, 0, 0], [1, 1, 0, 0, 0], [1, 0, 0, 0], [1, 0, 0], [1, 1, 0, 0], [1, 0, 0, 0, 0], [1, 1, 1, 0, 1, 1, 1, 1, 1, 0, 1], [1, 1, 1, 0, 1, 1, 1, 1, 1, 1, 1, 1, 1, 1, 0, 0, 0, 0, 0, 0, 0, 0, 0, 0, 0, 1, 1, 1, 1, 0, 1]]
/-- what a cell is: below 9 an object of that class; 20 ints; 21 to 24 references -/
def aShp (c : Nat) : Nat := aShpL.getD c 99
def aLen (c : Nat) : Nat := aLenL.getD c 0
def aRf (c k : Nat) : Nat := (aRfL.getD c []).getD k 0
/-- a field: 0 int, 1 boolean, 2 a reference -/
def aFc (ci k : Nat) : Nat := (aFcL.getD ci []).getD k 9
def aFf (ci k : Nat) : Nat := (aFfL.getD ci []).getD k 1
def aNf (ci : Nat) : Nat := ([5, 12, 5, 4, 3, 4, 5, 11, 31] : List Nat).getD ci 0
abbrev IM : Type := Nat → Nat → Int32
/-- depth left, method, place, locals, stack, ints -/
abbrev St : Type := Nat × Nat × Nat × List Value × List Value × IM
abbrev Po : Type := Value → IM → Prop
/-- nothing is known of this local -/
abbrev UN : Value := .float 0
abbrev Tr : Type := (Prop × St) ⊕ (Prop × St × St) ⊕ (Prop × St × (Value → IM → St)) ⊕ (Prop × Value × IM)
def tJ (c : Prop) (s : St) : Tr := .inl (c, s)
def tB (c : Prop) (s1 s2 : St) : Tr := .inr (.inl (c, s1, s2))
def tC (c : Prop) (s : St) (k : Value → IM → St) : Tr := .inr (.inr (.inl (c, s, k)))
def tR (c : Prop) (v : Value) (I : IM) : Tr := .inr (.inr (.inr (c, v, I)))
def tX : Tr := tR False .null (fun _ _ => 0)
def up (I : IM) (c k : Nat) (v : Int32) : IM := fun c' => if c' = c then upd (I c) k v else I c'
def aUnder (k : Nat) : Int32 := ([-1, 0, 0, 1, 2, 0] : List Int32).getD k 0
/-- an array of ints read: of UNDER, which nobody writes, or of a cell -/
def aRd (I : IM) (c k : Nat) : Int32 := if c = 1001 then aUnder k else I c k
/-- the length of an array: the script's stands in the ints, at 1002 -/
def aAl (I : IM) (c : Nat) : Nat := if c = 1000 then (I 1002 0).toNatClampNeg else if c = 1001 then 6 else aLen c
def aIA (c : Nat) : Prop := c = 1000 ∨ c = 1001 ∨ aShp c = 20
def aBin (st : List Value) (f : Int32 → Int32 → List Value → Tr) : Tr := match st with
  | .int y :: .int x :: r => f x y r
  | _ => tX
def aUni (st : List Value) (f : Int32 → List Value → Tr) : Tr := match st with
  | .int x :: r => f x r
  | _ => tX
def aRef (st : List Value) (f : Nat → List Value → Tr) : Tr := match st with
  | .ref x :: r => f x r
  | _ => tX
def aLdI (ls : List Value) (k : Nat) (f : Int32 → Tr) : Tr := match ls[k]? with
  | some (.int x) => f x
  | _ => tX
def aLdL (ls : List Value) (k : Nat) (f : Int64 → Tr) : Tr := match ls[k]? with
  | some (.long x) => f x
  | _ => tX
def aIsR (v : Value) : Bool := match v with
  | .ref _ => true
  | .null => true
  | _ => false
def aLdA (ls : List Value) (k : Nat) (f : Value → Tr) : Tr := match ls[k]? with
  | some v => bif aIsR v then f v else tX
  | none => tX
/-- a store doesn't hit a long's second half -/
def aOkS (ls : List Value) (k : Nat) : Bool := match k with
  | 0 => true
  | j + 1 => match ls[j]? with
    | some (.long _) => false
    | some (.double _) => false
    | _ => true
def aTg (pc : Nat) (off : Int) : Nat := ((pc : Int) + off).toNat
def aTk (pc : Nat) (off : Int) : Prop := 0 ≤ (pc : Int) + off
def aCmp (c : ClassFile.Cond) (x y : Int32) : Prop := match c with
  | .eq => x = y
  | .ne => ¬ x = y
  | .lt => x < y
  | .ge => y ≤ x
  | .gt => y < x
  | .le => x ≤ y
def aTsel (pc : Nat) (dflt : Int) (x : Int32) : List Int → Int32 → Nat
  | [], _ => aTg pc dflt
  | o :: os, k => if x = k then aTg pc o else aTsel pc dflt x os (k + 1)
def aLsel (pc : Nat) (dflt : Int) (x : Int32) : List (Int × Int) → Nat
  | [] => aTg pc dflt
  | o :: os => if x = Int32.ofInt o.1 then aTg pc o.2 else aLsel pc dflt x os
/-- the arguments as locals -/
def aLay : List Value → List Value
  | [] => []
  | v :: vs => if v.category = 2 then v :: UN :: aLay vs else v :: aLay vs
def aEnt (m : Nat) (as : List Value) : List Value := aLay as ++ List.replicate (aML m - (aLay as).length) UN
def aCat (st : List Value) : Nat := (st.map fun v => v.category).sum
def aOk2 (v : Value) : Bool := match v with
  | .int _ => true
  | .long _ => true
  | .ref _ => true
  | .null => true
  | _ => false
/-- a call of method m' with n arguments on the stack -/
def aGo (d m pc : Nat) (ls st : List Value) (I : IM) (m' n : Nat) : Tr :=
  tC (1 ≤ d ∧ n ≤ st.length ∧ aCat (st.drop n) ≤ 8 ∧ (aLay (st.take n).reverse).length ≤ aML m' ∧ (st.take n).all aOk2 = true) (d - 1, m', 0, aEnt m' (st.take n).reverse, [], I)
    (fun r I' => (d, m, pc + 3, ls, if aRet m' = none then st.drop n else r :: st.drop n, I'))
def aNar (ty : Option FieldType) (x : Int32) : Prop := match ty with
  | some t => narrow t (.int x) = .int x
  | none => False
/-- the class of the receiver -/
def aRecv (m' c : Nat) : Prop := (aCo m' < 9 ∧ aShp c = aCo m') ∨ (aCo m' = 12 ∧ 1010 ≤ c ∧ c < 1016)
def TI (i : Instr) (n d m pc : Nat) (ls st : List Value) (I : IM) : Tr :=
  match i with
  | .iconst k => tJ (n = 1) (d, m, pc + 1, ls, .int (Int32.ofInt k) :: st, I)
  | .bipush k => tJ (n = 2) (d, m, pc + 2, ls, .int (Int8.ofInt k).toInt32 :: st, I)
  | .sipush k => tJ (n = 3) (d, m, pc + 3, ls, .int (Int16.ofInt k).toInt32 :: st, I)
  | .lconst k => tJ (n = 1) (d, m, pc + 1, ls, .long (Int64.ofNat k.val) :: st, I)
  | .aconst_null => tJ (n = 1) (d, m, pc + 1, ls, .null :: st, I)
  | .ldc x => match aCst (aCo m) x with
    | some v => tJ (n = 2) (d, m, pc + 2, ls, .int v.1 :: st, I)
    | none => match aStr (aCo m) x with
      | some j => tJ (n = 2) (d, m, pc + 2, ls, .ref (1010 + j) :: st, I)
      | none => tX
  | .ldc_w x => match aCst (aCo m) x with
    | some v => tJ (n = 3) (d, m, pc + 3, ls, .int v.1 :: st, I)
    | none => tX
  | .ldc2_w x => match aCsl (aCo m) x with
    | some v => tJ (n = 3) (d, m, pc + 3, ls, .long v.1 :: st, I)
    | none => tX
  | .iload_n k => aLdI ls k.val fun x => tJ (n = 1) (d, m, pc + 1, ls, .int x :: st, I)
  | .iload k => aLdI ls k fun x => tJ (n = 2) (d, m, pc + 2, ls, .int x :: st, I)
  | .lload_n k => aLdL ls k.val fun x => tJ (n = 1) (d, m, pc + 1, ls, .long x :: st, I)
  | .lload k => aLdL ls k fun x => tJ (n = 2) (d, m, pc + 2, ls, .long x :: st, I)
  | .aload_n k => aLdA ls k.val fun v => tJ (n = 1) (d, m, pc + 1, ls, v :: st, I)
  | .aload k => aLdA ls k fun v => tJ (n = 2) (d, m, pc + 2, ls, v :: st, I)
  | .istore_n k => aUni st fun x r => tJ (n = 1 ∧ k.val < aML m ∧ aOkS ls k.val = true) (d, m, pc + 1, ls.set k.val (.int x), r, I)
  | .istore k => aUni st fun x r => tJ (n = 2 ∧ k < aML m ∧ aOkS ls k = true) (d, m, pc + 2, ls.set k (.int x), r, I)
  | .lstore_n k => match st with
    | .long x :: r => tJ (n = 1 ∧ k.val + 1 < aML m ∧ aOkS ls k.val = true) (d, m, pc + 1, (ls.set k.val (.long x)).set (k.val + 1) UN, r, I)
    | _ => tX
  | .lstore k => match st with
    | .long x :: r => tJ (n = 2 ∧ k + 1 < aML m ∧ aOkS ls k = true) (d, m, pc + 2, (ls.set k (.long x)).set (k + 1) UN, r, I)
    | _ => tX
  | .astore_n k => match st with
    | v :: r => tJ (n = 1 ∧ k.val < aML m ∧ aOkS ls k.val = true ∧ aIsR v = true) (d, m, pc + 1, ls.set k.val v, r, I)
    | _ => tX
  | .astore k => match st with
    | v :: r => tJ (n = 2 ∧ k < aML m ∧ aOkS ls k = true ∧ aIsR v = true) (d, m, pc + 2, ls.set k v, r, I)
    | _ => tX
  | .iinc k c => aLdI ls k fun x => tJ (n = 3 ∧ k < aML m ∧ aOkS ls k = true) (d, m, pc + 3, ls.set k (.int (x + Int32.ofInt c)), st, I)
  | .iadd => aBin st fun x y r => tJ (n = 1) (d, m, pc + 1, ls, .int (x + y) :: r, I)
  | .isub => aBin st fun x y r => tJ (n = 1) (d, m, pc + 1, ls, .int (x - y) :: r, I)
  | .imul => aBin st fun x y r => tJ (n = 1) (d, m, pc + 1, ls, .int (x * y) :: r, I)
  | .idiv => aBin st fun x y r => tJ (n = 1 ∧ ¬ y = 0) (d, m, pc + 1, ls, .int (x / y) :: r, I)
  | .irem => aBin st fun x y r => tJ (n = 1 ∧ ¬ y = 0) (d, m, pc + 1, ls, .int (x - x / y * y) :: r, I)
  | .iand => aBin st fun x y r => tJ (n = 1) (d, m, pc + 1, ls, .int (x &&& y) :: r, I)
  | .ior => aBin st fun x y r => tJ (n = 1) (d, m, pc + 1, ls, .int (x ||| y) :: r, I)
  | .ishl => aBin st fun x y r => tJ (n = 1) (d, m, pc + 1, ls, .int (x <<< (y &&& 31)) :: r, I)
  | .ishr => aBin st fun x y r => tJ (n = 1) (d, m, pc + 1, ls, .int (x >>> (y &&& 31)) :: r, I)
  | .iushr => aBin st fun x y r => tJ (n = 1) (d, m, pc + 1, ls, .int (x.toUInt32 >>> (y.toUInt32 &&& Int32.toUInt32 31)).toInt32 :: r, I)
  | .ineg => aUni st fun x r => tJ (n = 1) (d, m, pc + 1, ls, .int (-x) :: r, I)
  | .i2l => aUni st fun x r => tJ (n = 1) (d, m, pc + 1, ls, .long x.toInt64 :: r, I)
  | .i2s => aUni st fun x r => tJ (n = 1) (d, m, pc + 1, ls, .int x.toInt16.toInt32 :: r, I)
  | .i2b => aUni st fun x r => tJ (n = 1) (d, m, pc + 1, ls, .int x.toInt8.toInt32 :: r, I)
  | .i2c => aUni st fun x r => tJ (n = 1) (d, m, pc + 1, ls, .int (x.toUInt32 % 65536).toInt32 :: r, I)
  | .l2i => match st with
    | .long x :: r => tJ (n = 1) (d, m, pc + 1, ls, .int x.toInt32 :: r, I)
    | _ => tX
  | .ladd => match st with
    | .long y :: .long x :: r => tJ (n = 1) (d, m, pc + 1, ls, .long (x + y) :: r, I)
    | _ => tX
  | .lcmp => match st with
    | .long y :: .long x :: r => tJ (n = 1) (d, m, pc + 1, ls, .int (lg_cmp x y) :: r, I)
    | _ => tX
  | .dup => match st with
    | v :: r => tJ (n = 1 ∧ v.category = 1) (d, m, pc + 1, ls, v :: v :: r, I)
    | _ => tX
  | .dup2 => match st with
    | v :: w :: r => tJ (n = 1 ∧ v.category = 1 ∧ w.category = 1) (d, m, pc + 1, ls, v :: w :: v :: w :: r, I)
    | _ => tX
  | .pop => match st with
    | v :: r => tJ (n = 1 ∧ v.category = 1) (d, m, pc + 1, ls, r, I)
    | _ => tX
  | .goto o => tJ (n = 3 ∧ aTk pc o) (d, m, aTg pc o, ls, st, I)
  | .ifCond c o => aUni st fun x r => bif decide (n = 3 ∧ 0 ≤ (pc : Int) + o) then tB (aCmp c x 0) (d, m, aTg pc o, ls, r, I) (d, m, pc + 3, ls, r, I) else tX
  | .if_icmp c o => aBin st fun x y r => bif decide (n = 3 ∧ 0 ≤ (pc : Int) + o) then tB (aCmp c x y) (d, m, aTg pc o, ls, r, I) (d, m, pc + 3, ls, r, I) else tX
  | .ifnull o => match st with
    | .ref x :: r => tJ (n = 3 ∧ x ≠ 1030) (d, m, pc + 3, ls, r, I)
    | .null :: r => tJ (n = 3 ∧ aTk pc o) (d, m, aTg pc o, ls, r, I)
    | _ => tX
  | .ifnonnull o => match st with
    | .ref x :: r => tJ (n = 3 ∧ aTk pc o ∧ x ≠ 1030) (d, m, aTg pc o, ls, r, I)
    | .null :: r => tJ (n = 3) (d, m, pc + 3, ls, r, I)
    | _ => tX
  | .tableswitch dflt lo hi offs => aUni st fun x r => tJ (-2147483648 ≤ lo ∧ hi < 2147483647 ∧ lo ≤ hi + 1 ∧ (offs.size : Int) = hi + 1 - lo ∧ aTk pc dflt ∧ ∀ o ∈ offs.toList, aTk pc o) (d, m, aTsel pc dflt x offs.toList (Int32.ofInt lo), ls, r, I)
  | .lookupswitch dflt ps => aUni st fun x r => tJ ((ps.toList.zip (ps.toList.drop 1)).all (fun (a, next) => a.1 < next.1) = true ∧ aTk pc dflt ∧ ∀ o ∈ ps.toList, -2147483648 ≤ o.1 ∧ o.1 ≤ 2147483647 ∧ aTk pc o.2) (d, m, aLsel pc dflt x ps.toList, ls, r, I)
  | .getfield x => aRef st fun c r => match aFld (aCo m) x with
    | some f => bif Nat.beq (aFc f.1 f.2.1) 2 then tJ (n = 3 ∧ aShp c = f.1) (d, m, pc + 3, ls, .ref (aRf c f.2.1) :: r, I) else tJ (n = 3 ∧ aShp c = f.1) (d, m, pc + 3, ls, .int (I c f.2.1) :: r, I)
    | none => bif Nat.beq (aCo m) 12 then (bif Nat.beq x 9 then tJ (n = 3 ∧ 1010 ≤ c ∧ c < 1016) (d, m, pc + 3, ls, .ref (c + 10) :: r, I) else bif Nat.beq x 15 then tJ (n = 3 ∧ 1010 ≤ c ∧ c < 1016) (d, m, pc + 3, ls, .int 0 :: r, I) else tX) else tX
  | .putfield x => match st with
    | .int v :: .ref c :: r => match aFld (aCo m) x with
      | some f => tJ (n = 3 ∧ aShp c = f.1 ∧ aFf f.1 f.2.1 = 0 ∧ (aFc f.1 f.2.1 = 0 ∨ (aFc f.1 f.2.1 = 1 ∧ (v = 0 ∨ v = 1)))) (d, m, pc + 3, ls, r, up I c f.2.1 v)
      | none => tX
    | _ => tX
  | .getstatic x => bif Nat.beq (aCo m) 0 && Nat.beq x 31 then tJ (n = 3) (d, m, pc + 3, ls, .ref 1001 :: st, I)
    else bif Nat.beq (aCo m) 12 && Nat.beq x 38 then tJ (n = 3) (d, m, pc + 3, ls, .int 1 :: st, I)
    else bif Nat.beq (aCo m) 12 && Nat.beq x 1053 then tJ (n = 3) (d, m, pc + 3, ls, .ref 1030 :: st, I) else tX
  | .arraylength => aRef st fun c r => bif (Nat.ble 1020 c && Nat.blt c 1026) then tJ (n = 1) (d, m, pc + 1, ls, .int (nI (aStrBy (c - 1020)).length) :: r, I) else tJ (n = 1 ∧ (aIA c ∨ (20 ≤ aShp c ∧ aShp c ≤ 24)) ∧ (c = 1000 → ¬ I 1002 0 < 0)) (d, m, pc + 1, ls, .int (nI (aAl I c)) :: r, I)
  | .iaload => match st with
    | .int j :: .ref c :: r => tJ (n = 1 ∧ aIA c ∧ vp_in j (aAl I c)) (d, m, pc + 1, ls, .int (aRd I c j.toNatClampNeg) :: r, I)
    | _ => tX
  | .baload => match st with
    | .int j :: .ref c :: r => tJ (n = 1 ∧ 1020 ≤ c ∧ c < 1026 ∧ vp_in j (aStrBy (c - 1020)).length) (d, m, pc + 1, ls, .int ((aStrBy (c - 1020)).getD j.toNatClampNeg 0) :: r, I)
    | _ => tX
  | .iastore => match st with
    | .int v :: .int j :: .ref c :: r => tJ (n = 1 ∧ aShp c = 20 ∧ vp_in j (aLen c)) (d, m, pc + 1, ls, r, up I c j.toNatClampNeg v)
    | _ => tX
  | .aaload => match st with
    | .int j :: .ref c :: r => tJ (n = 1 ∧ 21 ≤ aShp c ∧ aShp c ≤ 24 ∧ vp_in j (aLen c)) (d, m, pc + 1, ls, .ref (aRf c j.toNatClampNeg) :: r, I)
    | _ => tX
  | .invokestatic x => bif Nat.beq (aCo m) 7 && Nat.beq x 267 then (match st with
      | .int k :: .int dp :: .ref b :: .int sp :: .ref a :: r => tJ (n = 3 ∧ 1 ≤ d ∧ aCat r ≤ 8 ∧ aShp a = 20 ∧ aShp b = 20 ∧ ¬ sp < 0 ∧ ¬ dp < 0 ∧ ¬ k < 0 ∧ sp.toNatClampNeg + k.toNatClampNeg ≤ aLen a ∧ dp.toNatClampNeg + k.toNatClampNeg ≤ aLen b) (d, m, pc + 3, ls, r, fun c' => if c' = b then va_cpy (I a) (I b) sp.toNatClampNeg dp.toNatClampNeg k.toNatClampNeg else I c')
      | _ => tX)
    else match aCall (aCo m) x with
    | some q => bif Nat.beq n 3 && (Nat.beq q.1 0 || Nat.beq q.1 1) then aGo d m pc ls st I q.2.1 (aNp q.2.1)
      else bif Nat.beq q.1 3 then aBin st fun x y r => tJ (n = 3 ∧ 1 ≤ d ∧ aCat r ≤ 8) (d, m, pc + 3, ls, .int (if x < y then y else x) :: r, I)
      else bif Nat.beq q.1 4 then aBin st fun x y r => tJ (n = 3 ∧ 1 ≤ d ∧ aCat r ≤ 8) (d, m, pc + 3, ls, .int (if y < x then y else x) :: r, I)
      else bif Nat.beq q.1 5 then aUni st fun x r => tJ (n = 3 ∧ 1 ≤ d ∧ aCat r ≤ 8) (d, m, pc + 3, ls, .int (if 0 ≤ x then x else 0 - x) :: r, I)
      else tX
    | none => tX
  | .invokevirtual x => match aCall (aCo m) x with
    | some q => bif Nat.beq n 3 && Nat.beq q.1 2 then (match st.drop (aNp q.2.1) with
      | .ref c :: _ => match aGo d m pc ls st I q.2.1 (aNp q.2.1 + 1) with
        | .inr (.inr (.inl t)) => tC (t.1 ∧ aRecv q.2.1 c) t.2.1 t.2.2
        | t => t
      | _ => tX) else tX
    | none => tX
  | .ireturn => match st with
    | [.int v] => tR (n = 1 ∧ aNar (aRet m) v) (.int v) I
    | _ => tX
  | .return_ => match st with
    | [] => tR (n = 1 ∧ aRet m = none) .null I
    | _ => tX
  | .areturn => match st with
    | [v] => tR (n = 1 ∧ aIsR v = true ∧ ((∃ k, aRet m = some (.object k)) ∨ ∃ t, aRet m = some (.array t))) v I
    | _ => tX
  | .lreturn => match st with
    | [.long v] => tR (n = 1 ∧ aRet m = some .long) (.long v) I
    | _ => tX
  | _ => tX
def T (s : St) : Tr := match s with
  | (d, m, pc, ls, st, I) => match aIns m pc with
    | some q => TI q.1 q.2 d m pc ls st I
    | none => tX
def FT (P : St → Po → Prop) (t : Tr) (Q : Po) : Prop := match t with
  | .inl q => q.1 ∧ P q.2 Q
  | .inr (.inl q) => (q.1 → P q.2.1 Q) ∧ (¬ q.1 → P q.2.2 Q)
  | .inr (.inr (.inl q)) => q.1 ∧ ∃ R : Po, P q.2.1 R ∧ ∀ r I, R r I → P (q.2.2 r I) Q
  | .inr (.inr (.inr q)) => q.1 ∧ Q q.2.1 q.2.2
/-- from the state s the abstract machine returns, and what it returns holds Q -/
def E (s : St) (Q : Po) : Prop := ∀ P : St → Po → Prop, (∀ s Q, FT P (T s) Q → P s Q) → P s Q
theorem FT_mono {P P' : St → Po → Prop} (h : ∀ s Q, P s Q → P' s Q) {t : Tr} {Q : Po} (k : FT P t Q) : FT P' t Q := by
  obtain q | q | q | q := t
  · exact ⟨k.1, h _ _ k.2⟩
  · exact ⟨fun c => h _ _ (k.1 c), fun c => h _ _ (k.2 c)⟩
  · obtain ⟨k1, R, k2, k3⟩ := k
    exact ⟨k1, R, h _ _ k2, fun r I hr => h _ _ (k3 r I hr)⟩
  · exact k
theorem E_of {s : St} {Q : Po} (h : FT E (T s) Q) : E s Q := fun P hP => hP s Q (FT_mono (fun s Q k => k P hP) h)
theorem E_to {s : St} {Q : Po} (h : E s Q) : FT E (T s) Q := h (fun s Q => FT E (T s) Q) (fun _ _ k => FT_mono (fun _ _ k => E_of k) k)
theorem E_iff (s : St) (Q : Po) : E s Q ↔ FT E (T s) Q := ⟨E_to, E_of⟩
theorem E_monoQ {s : St} {Q Q' : Po} (h : E s Q) (hQ : ∀ r I, Q r I → Q' r I) : E s Q' := by
  refine h (fun s Q => ∀ Q' : Po, (∀ r I, Q r I → Q' r I) → E s Q') ?_ Q' hQ
  intro s Q k Q' hQ
  apply E_of
  generalize T s = t at k
  obtain q | q | q | q := t
  · exact ⟨k.1, k.2 _ hQ⟩
  · exact ⟨fun c => k.1 c _ hQ, fun c => k.2 c _ hQ⟩
  · obtain ⟨k1, R, k2, k3⟩ := k
    exact ⟨k1, R, k2 _ (fun _ _ h => h), fun r I hr => k3 r I hr _ hQ⟩
  · exact ⟨k.1, hQ _ _ k.2⟩
theorem E_jmp {s s' : St} {c : Prop} {Q : Po} (h : T s = tJ c s') (hc : c) : E s Q ↔ E s' Q := by
  rw [E_iff, h]
  exact ⟨fun k => k.2, fun k => ⟨hc, k⟩⟩
theorem E_jmpc {s s' : St} {c c' : Prop} {Q : Po} (h : T s = tJ c s') (hc : c ↔ c') : E s Q ↔ c' ∧ E s' Q := by
  rw [E_iff, h, ← hc]
  exact Iff.rfl
theorem E_br {s s1 s2 : St} {c : Prop} [Decidable c] {Q : Po} (h : T s = tB c s1 s2) : E s Q ↔ if c then E s1 Q else E s2 Q := by
  rw [E_iff, h]
  by_cases hc : c
  · rw [if_pos hc]
    exact ⟨fun k => k.1 hc, fun k => ⟨fun _ => k, fun n => absurd hc n⟩⟩
  · rw [if_neg hc]
    exact ⟨fun k => k.2 hc, fun k => ⟨fun n => absurd n hc, fun _ => k⟩⟩
theorem E_cal {s s' : St} {c : Prop} {k : Value → IM → St} {Q : Po} (h : T s = tC c s' k) (hc : c) : E s Q ↔ E s' (fun r I => E (k r I) Q) := by
  rw [E_iff, h]
  refine ⟨fun q => ?_, fun q => ⟨hc, _, q, fun _ _ h => h⟩⟩
  obtain ⟨_, R, q1, q2⟩ := q
  exact E_monoQ q1 q2
theorem E_calc {s s' : St} {c c' : Prop} {k : Value → IM → St} {Q : Po} (h : T s = tC c s' k) (hc : c ↔ c') : E s Q ↔ c' ∧ E s' (fun r I => E (k r I) Q) := by
  by_cases h0 : c'
  · rw [E_cal h (hc.mpr h0)]
    exact ⟨fun q => ⟨h0, q⟩, fun q => q.2⟩
  · rw [E_iff, h]
    exact ⟨fun q => absurd (hc.mp q.1) h0, fun q => absurd q.1 h0⟩
theorem E_ret {s : St} {c : Prop} {v : Value} {I : IM} {Q : Po} (h : T s = tR c v I) (hc : c) : E s Q ↔ Q v I := by
  rw [E_iff, h]
  exact ⟨fun k => k.2, fun k => ⟨hc, k⟩⟩
theorem E_retc {s : St} {c c' : Prop} {v : Value} {I : IM} {Q : Po} (h : T s = tR c v I) (hc : c ↔ c') : E s Q ↔ c' ∧ Q v I := by
  rw [E_iff, h, ← hc]
  exact Iff.rfl
theorem T_ins {d m pc : Nat} {ls st : List Value} {I : IM} {i : Instr} {n : Nat} (h : aIns m pc = some (i, n)) : T (d, m, pc, ls, st, I) = TI i n d m pc ls st I := by
  show (match aIns m pc with | some q => TI q.1 q.2 d m pc ls st I | none => tX) = _
  rw [h]
end
section
/-! what the machine's heap holds when the abstract machine has the ints I -/
/-- base, old addresses, the formatter of the JDK (never used), numbers of the classes, their slots, classes of the arrays -/
abbrev GG : Type := Nat × (Nat → Nat) × Value × (Nat → ClassId) × (Nat → Nat → Nat) × (Nat → ClassId)
def gAdr (g : GG) (c : Nat) : Nat := if c < 1000 then g.1 + c else g.2.1 (c - 1000)
def trv (g : GG) (v : Value) : Value := match v with
  | .ref c => if c = 1030 then g.2.2.1 else .ref (gAdr g c)
  | .int x => .int x
  | .long x => .long x
  | .null => .null
  | .float x => .float x
  | .double x => .double x
  | .retAddr x => .retAddr x
def gA (g : GG) : Nat → Prop := fun q => g.1 ≤ q
def gD (g : GG) : va_G := (g.2.2.2.1, g.2.2.2.2.1)
def gC (g : GG) (k : Nat) : ClassId := g.2.2.2.2.2 k
def gTys (g : GG) : List (ClassId × FieldType) := [(gC g 0, .int), (gC g 1, .object RX0), (gC g 2, .object RX2), (gC g 3, .object RX4), (gC g 4, .object RX5)]
def gFm (g : GG) : Prop := g.2.2.1 = .null ∨ ∃ a, g.2.2.1 = .ref a
def aFv (g : GG) (c ci : Nat) (row : Nat → Int32) (k : Nat) : Value := bif Nat.beq (aFc ci k) 2 then .ref (g.1 + aRf c k) else .int (row k)
def aEn (g : GG) (c : Nat) (row : Nat → Int32) : va_E :=
  if aShp c < 9 then .inr (aShp c, (List.range (aNf (aShp c))).map (aFv g c (aShp c) row))
  else if aShp c = 20 then .inl (gC g 0, aLen c, .inl row)
  else .inl (gC g (aShp c - 20), aLen c, .inr (.inr (.inr (.inr (fun j => some (g.1 + aRf c j))))))
def aW (g : GG) (I : IM) : va_W := (List.range 140).map (fun c => (g.1 + c, aEn g c (I c)))
def aWorld (g : GG) (I : IM) (H : Heap) (U : State) : Prop := va_P (gD g) vwCl9 (aW g I) H ∧ va_K (gD g) vwCl9 (gTys g) U ∧ va_X (g.2.1 0) (I 1002 0).toNatClampNeg (I 1000) U H
def aOld (g : GG) (U : State) (H : Heap) : Prop :=
  gFm g ∧ g.2.1 0 < g.1 ∧ g.1 ≤ H.size ∧
  va_Z "TwelveShort" "UNDER" "[I" (.ref (g.2.1 1)) (gA g) U H ∧ va_T .int (g.2.1 1) 6 (fun j => .int (aUnder j)) (gA g) U H ∧
  vk_S 6 ((List.range 6).map fun i => (aStrBy i).length) ((List.range 6).map aStrBy) (fun i => g.2.1 (10 + i)) (fun i => g.2.1 (20 + i)) (gA g) U H ∧
  (∀ i, i < 6 → vk_R RX3 (aStrIx i) (aStrTx i) (g.2.1 (10 + i)) U) ∧
  va_Z "java/lang/String" "COMPACT_STRINGS" "Z" (.int 1) (gA g) U H ∧
  va_Z "jdk/internal/util/Preconditions" "SIOOBE_FORMATTER" "Ljava/util/function/BiFunction;" g.2.2.1 (gA g) U H ∧
  (∀ q ∈ aCallL, q.2.1 = 1 → va_Nw (.methodLinkNest (aOwn q.1) (q.1 % 10000) (aName q.2.2.1) "TwelveShort") U) ∧
  va_Nw (.fieldLinkNest RX0 31 "TwelveShort" "UNDER" "[I" "TwelveShort") U
theorem aOld.go {g : GG} {s t : State} {H H1 : Heap} (h : aOld g s H) (hW : s.WarmedH t.vm) (hz : H.size ≤ H1.size) (hk : ∀ a : Nat, a < H.size → ¬ gA g a → H1[a]? = H[a]?) : aOld g t H1 := by
  obtain ⟨h1, h2, h3, h4, h5, h6, h7, h8, h9, h10, h11⟩ := h
  exact ⟨h1, h2, Nat.le_trans h3 hz, (h4.moved hW.alike).kept hk, (h5.moved hW.alike).kept hk, (h6.moved hW.alike).kept hk, fun i hi => (h7 i hi).warm hW, (h8.moved hW.alike).kept hk, (h9.moved hW.alike).kept hk, fun q hq h => (h10 q hq h).warmM hW, h11.warmF hW⟩
theorem aWorld.moved {g : GG} {I : IM} {H : Heap} {u U : State} (hvm : u.vm.Alike U.vm) (h : aWorld g I H u) : aWorld g I H U := ⟨h.1, h.2.1.moved hvm, h.2.2.moved hvm⟩
theorem trv_cat {g : GG} (hf : gFm g) (v : Value) : (trv g v).category = v.category := by
  cases v with
  | ref c =>
    unfold trv
    dsimp only
    by_cases h : c = 1030
    · rw [if_pos h]
      rcases hf with h1 | ⟨a, h1⟩ <;> rw [h1] <;> rfl
    · rw [if_neg h]; rfl
  | _ => rfl
theorem trv_in {g : GG} {c : Nat} (h : c < 140) : trv g (.ref c) = .ref (g.1 + c) := by
  unfold trv gAdr
  dsimp only
  rw [if_neg (show ¬ c = 1030 by omega), if_pos (show c < 1000 by omega)]
theorem trv_old {g : GG} {c : Nat} (h : 1000 ≤ c) (h2 : c ≠ 1030) : trv g (.ref c) = .ref (g.2.1 (c - 1000)) := by
  unfold trv gAdr
  dsimp only
  rw [if_neg h2, if_neg (show ¬ c < 1000 by omega)]
theorem aCat_trv {g : GG} (hf : gFm g) (st : List Value) : ((st.map (trv g)).map fun v => v.category).sum = aCat st := by
  unfold aCat
  rw [List.map_map]
  congr 1
  apply List.map_congr_left
  intro v _
  exact trv_cat hf v
theorem aShp_lt {c s : Nat} (h : aShp c = s) (hs : s ≠ 99) : c < 140 := by
  rcases Nat.lt_or_ge c 140 with h1 | h1
  · exact h1
  · exfalso
    apply hs
    rw [← h]
    unfold aShp
    rw [List.getD_eq_getElem?_getD, List.getElem?_eq_none (by exact h1)]
    rfl
theorem aW_at (g : GG) (I : IM) {c : Nat} (h : c < 140) : (aW g I)[c]? = some (g.1 + c, aEn g c (I c)) := by
  unfold aW
  rw [List.getElem?_map, List.getElem?_range h]
  rfl
theorem aW_set (g : GG) (I : IM) {c : Nat} (row : Nat → Int32) (h : c < 140) : (aW g I).set c (g.1 + c, aEn g c row) = aW g (fun c' => if c' = c then row else I c') := by
  apply List.ext_getElem?
  intro k
  by_cases hk : k < 140
  · rw [aW_at g _ hk]
    by_cases hc : k = c
    · subst hc
      rw [List.getElem?_set_self (by unfold aW; simpa using hk), if_pos rfl]
    · rw [List.getElem?_set_ne (Ne.symm hc), aW_at g _ hk, if_neg hc]
  · rw [List.getElem?_eq_none (by simp [aW]; omega), List.getElem?_eq_none (by simp [aW]; omega)]
theorem aW_D (g : GG) (I : IM) : va_D (gA g) (aW g I) := by
  have key : ∀ (k : Nat) (q : Nat × va_E), (aW g I)[k]? = some q → q.1 = g.1 + k := by
    intro k q hq
    have hk : k < 140 := by
      have := (List.getElem?_eq_some_iff.mp hq).1
      simpa [aW] using this
    rw [aW_at g I hk] at hq
    cases hq
    rfl
  refine ⟨fun i j p q hi hj h => ?_, fun k q hk => ?_⟩
  · rw [key i p hi, key j q hj] at h
    omega
  · rw [key k q hk]
    exact Nat.le_add_right _ _
/-! the locals -/
def aLoc (g : GG) (lsA : Array Slot) (n : Nat) (ls : List Value) : Prop := lsA.size = n ∧ lv_wf lsA ∧ ∀ (i : Nat) (v : Value), ls[i]? = some v → v ≠ UN → lsA[i]? = some (.val (trv g v))
def aPs (g : GG) (ls : List Value) : List (Nat × Value) := (List.range ls.length).filterMap (fun i => match ls[i]? with
  | some v => if v = UN then none else some (i, trv g v)
  | none => none)
theorem aPs_mem {g : GG} {ls : List Value} {q : Nat × Value} : q ∈ aPs g ls ↔ ∃ v, ls[q.1]? = some v ∧ v ≠ UN ∧ q.2 = trv g v := by
  unfold aPs
  rw [List.mem_filterMap]
  constructor
  · rintro ⟨i, -, hi⟩
    cases hv : ls[i]? with
    | none => rw [hv] at hi; cases hi
    | some v =>
      rw [hv] at hi
      dsimp only at hi
      by_cases hu : v = UN
      · rw [if_pos hu] at hi; cases hi
      · rw [if_neg hu] at hi
        cases hi
        exact ⟨v, hv, hu, rfl⟩
  · rintro ⟨v, h1, h2, h3⟩
    refine ⟨q.1, List.mem_range.mpr (List.getElem?_eq_some_iff.mp h1).1, ?_⟩
    rw [h1]
    dsimp only
    rw [if_neg h2, ← h3]
theorem aLoc.has {g : GG} {lsA : Array Slot} {n : Nat} {ls : List Value} (h : aLoc g lsA n ls) : lv_has lsA n (aPs g ls) := by
  refine ⟨h.1, h.2.1, fun q hq => ?_⟩
  obtain ⟨v, h1, h2, h3⟩ := aPs_mem.mp hq
  rw [h3]
  exact h.2.2 _ _ h1 h2
theorem aLoc.st1 {g : GG} {lsA : Array Slot} {n k : Nat} {ls : List Value} {v : Value} (hf : gFm g) (ok : aOkS ls k = true) (h : lv_has lsA n ((k, trv g v) :: (aPs g ls).filter (fun q => !(q.1 == k) && !(q.1 + 1 == k && q.2.category == 2)))) : aLoc g lsA n (ls.set k v) := by
  refine ⟨h.1, h.2.1, fun i w hi hw => ?_⟩
  by_cases hik : i = k
  · subst hik
    have hl : i < ls.length := by
      have := (List.getElem?_eq_some_iff.mp hi).1
      simpa using this
    rw [List.getElem?_set_self hl] at hi
    cases hi
    exact h.2.2 _ List.mem_cons_self
  · rw [List.getElem?_set_ne (Ne.symm hik)] at hi
    refine h.2.2 (i, trv g w) (List.mem_cons_of_mem _ (List.mem_filter.mpr ⟨aPs_mem.mpr ⟨w, hi, hw, rfl⟩, ?_⟩))
    simp only [Bool.and_eq_true, Bool.not_eq_true', beq_eq_false_iff_ne, ne_eq, Bool.and_eq_false_iff]
    refine ⟨hik, ?_⟩
    by_cases h1 : i + 1 = k
    · right
      subst h1
      rw [trv_cat hf]
      unfold aOkS at ok
      dsimp only at ok
      rw [hi] at ok
      cases w <;> simp [Value.category] at ok ⊢
    · exact Or.inl h1
theorem aLoc.st2 {g : GG} {lsA : Array Slot} {n k : Nat} {ls : List Value} {x : Int64} (hf : gFm g) (ok : aOkS ls k = true) (h : lv_has lsA n ((k, Value.long x) :: (aPs g ls).filter (fun q => !(q.1 == k) && (!(q.1 == k + 1) && !(q.1 + 1 == k && q.2.category == 2))))) : aLoc g lsA n ((ls.set k (.long x)).set (k + 1) UN) := by
  refine ⟨h.1, h.2.1, fun i w hi hw => ?_⟩
  by_cases hik1 : i = k + 1
  · subst hik1
    have hl : k + 1 < (ls.set k (.long x)).length := by
      have := (List.getElem?_eq_some_iff.mp hi).1
      simpa using this
    rw [List.getElem?_set_self hl] at hi
    cases hi
    exact absurd rfl hw
  · rw [List.getElem?_set_ne (Ne.symm hik1)] at hi
    by_cases hik : i = k
    · subst hik
      have hl : i < ls.length := by
        have := (List.getElem?_eq_some_iff.mp hi).1
        simpa using this
      rw [List.getElem?_set_self hl] at hi
      cases hi
      exact h.2.2 _ List.mem_cons_self
    · rw [List.getElem?_set_ne (Ne.symm hik)] at hi
      refine h.2.2 (i, trv g w) (List.mem_cons_of_mem _ (List.mem_filter.mpr ⟨aPs_mem.mpr ⟨w, hi, hw, rfl⟩, ?_⟩))
      simp only [Bool.and_eq_true, Bool.not_eq_true', beq_eq_false_iff_ne, ne_eq, Bool.and_eq_false_iff]
      refine ⟨hik, hik1, ?_⟩
      by_cases h1 : i + 1 = k
      · right
        subst h1
        rw [trv_cat hf]
        unfold aOkS at ok
        dsimp only at ok
        rw [hi] at ok
        cases w <;> simp [Value.category] at ok ⊢
      · exact Or.inl h1
theorem aLay_args (g : GG) (hf : gFm g) (as : List Value) : ∀ (k i : Nat) (v : Value), (aLay as)[i]? = some v → v ≠ UN → (k + i, trv g v) ∈ lv_args k (as.map (trv g)) := by
  induction as with
  | nil => intro k i v h; simp [aLay] at h
  | cons a as ih =>
    intro k i v h hv
    show _ ∈ lv_args k (trv g a :: as.map (trv g))
    unfold lv_args
    rw [trv_cat hf]
    unfold aLay at h
    by_cases hc : a.category = 2
    · rw [if_pos hc] at h ⊢
      match i, h with
      | 0, h => cases h; exact List.mem_cons_self
      | 1, h => cases h; exact absurd rfl hv
      | i + 2, h =>
        have := ih (k + 2) i v h hv
        exact List.mem_cons_of_mem _ (by rw [show k + (i + 2) = k + 2 + i by omega]; exact this)
    · rw [if_neg hc] at h ⊢
      match i, h with
      | 0, h => cases h; exact List.mem_cons_self
      | i + 1, h =>
        have := ih (k + 1) i v h hv
        exact List.mem_cons_of_mem _ (by rw [show k + (i + 1) = k + 1 + i by omega]; exact this)
theorem aLay_len (g : GG) (hf : gFm g) (as : List Value) : (lg_sl (as.map (trv g))).length = (aLay as).length := by
  induction as with
  | nil => rfl
  | cons a as ih =>
    unfold lg_sl at ih ⊢
    unfold aLay
    rw [List.map_cons, List.flatMap_cons, List.length_append, ih, trv_cat hf]
    by_cases hc : a.category = 2
    · rw [if_pos hc, if_pos hc]; simp; omega
    · rw [if_neg hc, if_neg hc]; simp; omega
theorem aLoc_ent (g : GG) (hf : gFm g) {m : Nat} {as : List Value} (h : (aLay as).length ≤ aML m) : aLoc g ((lg_sl (as.map (trv g)) ++ List.replicate (aML m - (lg_sl (as.map (trv g))).length) Slot.unset).toArray) (aML m) (aEnt m as) := by
  have hl := lv_entry (as.map (trv g)) (n := aML m) (by rw [aLay_len g hf]; exact h)
  refine ⟨hl.1, hl.2.1, fun i v hi hv => ?_⟩
  unfold aEnt at hi
  by_cases hk : i < (aLay as).length
  · rw [List.getElem?_append_left hk] at hi
    have := aLay_args g hf as 0 i v hi hv
    rw [Nat.zero_add] at this
    exact hl.2.2 _ this
  · rw [List.getElem?_append_right (by omega)] at hi
    have := List.mem_of_getElem? hi
    rw [List.mem_replicate] at this
    exact absurd this.2 hv
end
section
/-! the abstract machine's steps are the machine's -/
def aCx (g : GG) (p : Program) (R : Room) (s0 : State) (mi : MethodId) (args : Array Value) (c : Code) (cells slots d m : Nat) : Prop :=
  p.tables.exec = Jvm.exec ∧ c.code = aBytes m ∧ c.maxLocals = aML m ∧ s0.vm.findClass (aCls m) = some mi.cls ∧ (∀ w ∈ aTG, w.before args s0 = true) ∧ d ≤ R.frames ∧ 60 * d ≤ R.locals ∧ cells ≤ R.cells ∧ slots ≤ R.slots
def aRst (g : GG) (m : Nat) (r : Value) : List Value := if aRet m = none then [] else [trv g r]
def aRok (m : Nat) (i : Instr) (r : Value) : Prop := match i with
  | .ireturn => ∃ v, r = .int v ∧ aNar (aRet m) v
  | .return_ => aRet m = none
  | .areturn => aIsR r = true ∧ ((∃ k, aRet m = some (.object k)) ∨ ∃ t, aRet m = some (.array t))
  | .lreturn => ∃ v, r = .long v ∧ aRet m = some .long
  | _ => False
def aBk (g : GG) (m : Nat) (Q : Po) (p : Program) (l : Launch) (e : Env) (R : Room) (s0 : State) (mi : MethodId) (args : Array Value) (below : List Frame) (meth : Method) (c : Code) (cells slots : Nat) (Z : State → Prop) : Prop :=
  ∀ (r : Value) (I : IM) (H : Heap) (locs : List Loc) (pc : Nat) (lsA : Array Slot) (i : Instr), Q r I → aWorld g I H s0 → va_S (gA g) s0.heap H locs → aIns m pc = some (i, 1) → aRok m i r →
    W p l e R s0 mi args below meth c H locs cells slots Z (F0 mi pc lsA (aRst g m r))
def Sh (s : St) (Q : Po) : Prop := ∀ (g : GG) (p : Program) (l : Launch) (e : Env) (R : Room) (s0 : State) (mi : MethodId) (args : Array Value) (below : List Frame) (meth : Method) (c : Code) (H : Heap) (locs : List Loc) (cells slots : Nat) (Z : State → Prop) (lsA : Array Slot),
  aCx g p R s0 mi args c cells slots s.1 s.2.1 → aWorld g s.2.2.2.2.2 H s0 → aOld g s0 s0.heap → va_S (gA g) s0.heap H locs → aLoc g lsA (aML s.2.1) s.2.2.2.1 → aBk g s.2.1 Q p l e R s0 mi args below meth c cells slots Z →
    W p l e R s0 mi args below meth c H locs cells slots Z (F0 mi s.2.2.1 lsA (s.2.2.2.2.1.map (trv g)))
theorem aBin_inv {P : St → Po → Prop} {st : List Value} {f : Int32 → Int32 → List Value → Tr} {Q : Po} (h : FT P (aBin st f) Q) : ∃ x y r, st = .int y :: .int x :: r ∧ FT P (f x y r) Q := by
  unfold aBin at h
  split at h
  · exact ⟨_, _, _, rfl, h⟩
  · exact absurd h.1 id
theorem aUni_inv {P : St → Po → Prop} {st : List Value} {f : Int32 → List Value → Tr} {Q : Po} (h : FT P (aUni st f) Q) : ∃ x r, st = .int x :: r ∧ FT P (f x r) Q := by
  unfold aUni at h
  split at h
  · exact ⟨_, _, rfl, h⟩
  · exact absurd h.1 id
theorem aRef_inv {P : St → Po → Prop} {st : List Value} {f : Nat → List Value → Tr} {Q : Po} (h : FT P (aRef st f) Q) : ∃ x r, st = .ref x :: r ∧ FT P (f x r) Q := by
  unfold aRef at h
  split at h
  · exact ⟨_, _, rfl, h⟩
  · exact absurd h.1 id
theorem aLdI_inv {P : St → Po → Prop} {ls : List Value} {k : Nat} {f : Int32 → Tr} {Q : Po} (h : FT P (aLdI ls k f) Q) : ∃ x, ls[k]? = some (.int x) ∧ FT P (f x) Q := by
  unfold aLdI at h
  split at h
  · rename_i x hx
    exact ⟨x, hx, h⟩
  · exact absurd h.1 id
theorem aLdL_inv {P : St → Po → Prop} {ls : List Value} {k : Nat} {f : Int64 → Tr} {Q : Po} (h : FT P (aLdL ls k f) Q) : ∃ x, ls[k]? = some (.long x) ∧ FT P (f x) Q := by
  unfold aLdL at h
  split at h
  · rename_i x hx
    exact ⟨x, hx, h⟩
  · exact absurd h.1 id
theorem aLdA_inv {P : St → Po → Prop} {ls : List Value} {k : Nat} {f : Value → Tr} {Q : Po} (h : FT P (aLdA ls k f) Q) : ∃ v, ls[k]? = some v ∧ aIsR v = true ∧ FT P (f v) Q := by
  unfold aLdA at h
  split at h
  · rename_i v hv
    cases hr : aIsR v with
    | true => rw [hr] at h; exact ⟨v, hv, hr, h⟩
    | false => rw [hr] at h; exact absurd h.1 id
  · exact absurd h.1 id
theorem aIsR_cases {g : GG} (hf : gFm g) {v : Value} (h : aIsR v = true) : trv g v = .null ∨ ∃ a, trv g v = .ref a := by
  cases v with
  | ref c =>
    unfold trv
    dsimp only
    by_cases hc : c = 1030
    · rw [if_pos hc]; exact hf
    · rw [if_neg hc]; exact Or.inr ⟨_, rfl⟩
  | null => exact Or.inl rfl
  | _ => cases h
section SH
variable {d m pc n : Nat} {ls st : List Value} {I : IM} {Q : Po}
theorem sh_iconst {k : Int} (hi : aIns m pc = some (.iconst k, n)) (h : FT Sh (TI (.iconst k) n d m pc ls st I) Q) : Sh (d, m, pc, ls, st, I) Q := by
  obtain ⟨rfl, h⟩ := h
  intro g p l e R s0 mi args below meth c H locs cells slots Z lsA C w ol hS hl hb
  exact lv_iconst C.1 C.2.1 (aIns_decode hi) rfl (h g p l e R s0 mi args below meth c H locs cells slots Z lsA C w ol hS hl hb)
theorem sh_bipush {k : Int} (hi : aIns m pc = some (.bipush k, n)) (h : FT Sh (TI (.bipush k) n d m pc ls st I) Q) : Sh (d, m, pc, ls, st, I) Q := by
  obtain ⟨rfl, h⟩ := h
  intro g p l e R s0 mi args below meth c H locs cells slots Z lsA C w ol hS hl hb
  exact lv_bipush C.1 C.2.1 (aIns_decode hi) rfl (h g p l e R s0 mi args below meth c H locs cells slots Z lsA C w ol hS hl hb)
theorem sh_sipush {k : Int} (hi : aIns m pc = some (.sipush k, n)) (h : FT Sh (TI (.sipush k) n d m pc ls st I) Q) : Sh (d, m, pc, ls, st, I) Q := by
  obtain ⟨rfl, h⟩ := h
  intro g p l e R s0 mi args below meth c H locs cells slots Z lsA C w ol hS hl hb
  exact lv_sipush C.1 C.2.1 (aIns_decode hi) rfl (h g p l e R s0 mi args below meth c H locs cells slots Z lsA C w ol hS hl hb)
theorem sh_lconst {k : Fin 2} (hi : aIns m pc = some (.lconst k, n)) (h : FT Sh (TI (.lconst k) n d m pc ls st I) Q) : Sh (d, m, pc, ls, st, I) Q := by
  obtain ⟨rfl, h⟩ := h
  intro g p l e R s0 mi args below meth c H locs cells slots Z lsA C w ol hS hl hb
  exact lv_lconst C.1 C.2.1 (aIns_decode hi) rfl (h g p l e R s0 mi args below meth c H locs cells slots Z lsA C w ol hS hl hb)
theorem sh_aconst_null (hi : aIns m pc = some (.aconst_null, n)) (h : FT Sh (TI (.aconst_null) n d m pc ls st I) Q) : Sh (d, m, pc, ls, st, I) Q := by
  obtain ⟨rfl, h⟩ := h
  intro g p l e R s0 mi args below meth c H locs cells slots Z lsA C w ol hS hl hb
  exact lv_null C.1 C.2.1 (aIns_decode hi) (h g p l e R s0 mi args below meth c H locs cells slots Z lsA C w ol hS hl hb)
theorem sh_iadd (hi : aIns m pc = some (.iadd, n)) (h : FT Sh (TI (.iadd) n d m pc ls st I) Q) : Sh (d, m, pc, ls, st, I) Q := by
  obtain ⟨x, y, r, rfl, rfl, h⟩ := aBin_inv h
  intro g p l e R s0 mi args below meth c H locs cells slots Z lsA C w ol hS hl hb
  exact lv_iadd C.1 C.2.1 (aIns_decode hi) (h g p l e R s0 mi args below meth c H locs cells slots Z lsA C w ol hS hl hb)
theorem sh_isub (hi : aIns m pc = some (.isub, n)) (h : FT Sh (TI (.isub) n d m pc ls st I) Q) : Sh (d, m, pc, ls, st, I) Q := by
  obtain ⟨x, y, r, rfl, rfl, h⟩ := aBin_inv h
  intro g p l e R s0 mi args below meth c H locs cells slots Z lsA C w ol hS hl hb
  exact lv_isub C.1 C.2.1 (aIns_decode hi) (h g p l e R s0 mi args below meth c H locs cells slots Z lsA C w ol hS hl hb)
theorem sh_imul (hi : aIns m pc = some (.imul, n)) (h : FT Sh (TI (.imul) n d m pc ls st I) Q) : Sh (d, m, pc, ls, st, I) Q := by
  obtain ⟨x, y, r, rfl, rfl, h⟩ := aBin_inv h
  intro g p l e R s0 mi args below meth c H locs cells slots Z lsA C w ol hS hl hb
  exact lv_imul C.1 C.2.1 (aIns_decode hi) (h g p l e R s0 mi args below meth c H locs cells slots Z lsA C w ol hS hl hb)
theorem sh_iand (hi : aIns m pc = some (.iand, n)) (h : FT Sh (TI (.iand) n d m pc ls st I) Q) : Sh (d, m, pc, ls, st, I) Q := by
  obtain ⟨x, y, r, rfl, rfl, h⟩ := aBin_inv h
  intro g p l e R s0 mi args below meth c H locs cells slots Z lsA C w ol hS hl hb
  exact lv_iand C.1 C.2.1 (aIns_decode hi) (h g p l e R s0 mi args below meth c H locs cells slots Z lsA C w ol hS hl hb)
theorem sh_ior (hi : aIns m pc = some (.ior, n)) (h : FT Sh (TI (.ior) n d m pc ls st I) Q) : Sh (d, m, pc, ls, st, I) Q := by
  obtain ⟨x, y, r, rfl, rfl, h⟩ := aBin_inv h
  intro g p l e R s0 mi args below meth c H locs cells slots Z lsA C w ol hS hl hb
  exact lv_ior C.1 C.2.1 (aIns_decode hi) (h g p l e R s0 mi args below meth c H locs cells slots Z lsA C w ol hS hl hb)
theorem sh_ishl (hi : aIns m pc = some (.ishl, n)) (h : FT Sh (TI (.ishl) n d m pc ls st I) Q) : Sh (d, m, pc, ls, st, I) Q := by
  obtain ⟨x, y, r, rfl, rfl, h⟩ := aBin_inv h
  intro g p l e R s0 mi args below meth c H locs cells slots Z lsA C w ol hS hl hb
  exact lv_ishl C.1 C.2.1 (aIns_decode hi) (h g p l e R s0 mi args below meth c H locs cells slots Z lsA C w ol hS hl hb)
theorem sh_ishr (hi : aIns m pc = some (.ishr, n)) (h : FT Sh (TI (.ishr) n d m pc ls st I) Q) : Sh (d, m, pc, ls, st, I) Q := by
  obtain ⟨x, y, r, rfl, rfl, h⟩ := aBin_inv h
  intro g p l e R s0 mi args below meth c H locs cells slots Z lsA C w ol hS hl hb
  exact lv_ishr C.1 C.2.1 (aIns_decode hi) (h g p l e R s0 mi args below meth c H locs cells slots Z lsA C w ol hS hl hb)
theorem sh_idiv (hi : aIns m pc = some (.idiv, n)) (h : FT Sh (TI (.idiv) n d m pc ls st I) Q) : Sh (d, m, pc, ls, st, I) Q := by
  obtain ⟨x, y, r, rfl, ⟨rfl, h0⟩, h⟩ := aBin_inv h
  intro g p l e R s0 mi args below meth c H locs cells slots Z lsA C w ol hS hl hb
  exact lv_idiv C.1 C.2.1 (aIns_decode hi) h0 (h g p l e R s0 mi args below meth c H locs cells slots Z lsA C w ol hS hl hb)
theorem sh_irem (hi : aIns m pc = some (.irem, n)) (h : FT Sh (TI (.irem) n d m pc ls st I) Q) : Sh (d, m, pc, ls, st, I) Q := by
  obtain ⟨x, y, r, rfl, ⟨rfl, h0⟩, h⟩ := aBin_inv h
  intro g p l e R s0 mi args below meth c H locs cells slots Z lsA C w ol hS hl hb
  exact lv_irem C.1 C.2.1 (aIns_decode hi) h0 (h g p l e R s0 mi args below meth c H locs cells slots Z lsA C w ol hS hl hb)
theorem sh_iushr (hi : aIns m pc = some (.iushr, n)) (h : FT Sh (TI (.iushr) n d m pc ls st I) Q) : Sh (d, m, pc, ls, st, I) Q := by
  obtain ⟨x, y, r, rfl, rfl, h⟩ := aBin_inv h
  intro g p l e R s0 mi args below meth c H locs cells slots Z lsA C w ol hS hl hb
  exact lv_iushr C.1 C.2.1 (aIns_decode hi) rfl (h g p l e R s0 mi args below meth c H locs cells slots Z lsA C w ol hS hl hb)
theorem sh_ineg (hi : aIns m pc = some (.ineg, n)) (h : FT Sh (TI (.ineg) n d m pc ls st I) Q) : Sh (d, m, pc, ls, st, I) Q := by
  obtain ⟨x, r, rfl, rfl, h⟩ := aUni_inv h
  intro g p l e R s0 mi args below meth c H locs cells slots Z lsA C w ol hS hl hb
  exact lv_ineg C.1 C.2.1 (aIns_decode hi) (h g p l e R s0 mi args below meth c H locs cells slots Z lsA C w ol hS hl hb)
theorem sh_i2l (hi : aIns m pc = some (.i2l, n)) (h : FT Sh (TI (.i2l) n d m pc ls st I) Q) : Sh (d, m, pc, ls, st, I) Q := by
  obtain ⟨x, r, rfl, rfl, h⟩ := aUni_inv h
  intro g p l e R s0 mi args below meth c H locs cells slots Z lsA C w ol hS hl hb
  exact lv_i2l C.1 C.2.1 (aIns_decode hi) rfl (h g p l e R s0 mi args below meth c H locs cells slots Z lsA C w ol hS hl hb)
theorem sh_i2s (hi : aIns m pc = some (.i2s, n)) (h : FT Sh (TI (.i2s) n d m pc ls st I) Q) : Sh (d, m, pc, ls, st, I) Q := by
  obtain ⟨x, r, rfl, rfl, h⟩ := aUni_inv h
  intro g p l e R s0 mi args below meth c H locs cells slots Z lsA C w ol hS hl hb
  exact lv_i2s C.1 C.2.1 (aIns_decode hi) rfl (h g p l e R s0 mi args below meth c H locs cells slots Z lsA C w ol hS hl hb)
theorem sh_i2b (hi : aIns m pc = some (.i2b, n)) (h : FT Sh (TI (.i2b) n d m pc ls st I) Q) : Sh (d, m, pc, ls, st, I) Q := by
  obtain ⟨x, r, rfl, rfl, h⟩ := aUni_inv h
  intro g p l e R s0 mi args below meth c H locs cells slots Z lsA C w ol hS hl hb
  exact lv_i2b C.1 C.2.1 (aIns_decode hi) rfl (h g p l e R s0 mi args below meth c H locs cells slots Z lsA C w ol hS hl hb)
theorem sh_i2c (hi : aIns m pc = some (.i2c, n)) (h : FT Sh (TI (.i2c) n d m pc ls st I) Q) : Sh (d, m, pc, ls, st, I) Q := by
  obtain ⟨x, r, rfl, rfl, h⟩ := aUni_inv h
  intro g p l e R s0 mi args below meth c H locs cells slots Z lsA C w ol hS hl hb
  exact lv_i2c C.1 C.2.1 (aIns_decode hi) rfl (h g p l e R s0 mi args below meth c H locs cells slots Z lsA C w ol hS hl hb)
theorem sh_l2i (hi : aIns m pc = some (.l2i, n)) (h : FT Sh (TI (.l2i) n d m pc ls st I) Q) : Sh (d, m, pc, ls, st, I) Q := by
  unfold TI at h
  dsimp only at h
  split at h
  · obtain ⟨rfl, h⟩ := h
    intro g p l e R s0 mi args below meth c H locs cells slots Z lsA C w ol hS hl hb
    exact lv_l2i C.1 C.2.1 (aIns_decode hi) rfl (h g p l e R s0 mi args below meth c H locs cells slots Z lsA C w ol hS hl hb)
  · exact absurd h.1 id
theorem sh_ladd (hi : aIns m pc = some (.ladd, n)) (h : FT Sh (TI (.ladd) n d m pc ls st I) Q) : Sh (d, m, pc, ls, st, I) Q := by
  unfold TI at h
  dsimp only at h
  split at h
  · obtain ⟨rfl, h⟩ := h
    intro g p l e R s0 mi args below meth c H locs cells slots Z lsA C w ol hS hl hb
    exact lv_ladd C.1 C.2.1 (aIns_decode hi) (h g p l e R s0 mi args below meth c H locs cells slots Z lsA C w ol hS hl hb)
  · exact absurd h.1 id
theorem sh_lcmp (hi : aIns m pc = some (.lcmp, n)) (h : FT Sh (TI (.lcmp) n d m pc ls st I) Q) : Sh (d, m, pc, ls, st, I) Q := by
  unfold TI at h
  dsimp only at h
  split at h
  · obtain ⟨rfl, h⟩ := h
    intro g p l e R s0 mi args below meth c H locs cells slots Z lsA C w ol hS hl hb
    exact W.lcmp C.1 C.2.1 (aIns_decode hi) (h g p l e R s0 mi args below meth c H locs cells slots Z lsA C w ol hS hl hb)
  · exact absurd h.1 id
theorem sh_dup (hi : aIns m pc = some (.dup, n)) (h : FT Sh (TI (.dup) n d m pc ls st I) Q) : Sh (d, m, pc, ls, st, I) Q := by
  unfold TI at h
  dsimp only at h
  split at h
  · obtain ⟨⟨rfl, h0⟩, h⟩ := h
    intro g p l e R s0 mi args below meth c H locs cells slots Z lsA C w ol hS hl hb
    exact lv_dup C.1 C.2.1 (aIns_decode hi) ((trv_cat ol.1 _).trans h0) (h g p l e R s0 mi args below meth c H locs cells slots Z lsA C w ol hS hl hb)
  · exact absurd h.1 id
theorem sh_dup2 (hi : aIns m pc = some (.dup2, n)) (h : FT Sh (TI (.dup2) n d m pc ls st I) Q) : Sh (d, m, pc, ls, st, I) Q := by
  unfold TI at h
  dsimp only at h
  split at h
  · obtain ⟨⟨rfl, h0, h1⟩, h⟩ := h
    intro g p l e R s0 mi args below meth c H locs cells slots Z lsA C w ol hS hl hb
    exact lv_dup2_11 C.1 C.2.1 (aIns_decode hi) ((trv_cat ol.1 _).trans h0) ((trv_cat ol.1 _).trans h1) (h g p l e R s0 mi args below meth c H locs cells slots Z lsA C w ol hS hl hb)
  · exact absurd h.1 id
theorem sh_pop (hi : aIns m pc = some (.pop, n)) (h : FT Sh (TI (.pop) n d m pc ls st I) Q) : Sh (d, m, pc, ls, st, I) Q := by
  unfold TI at h
  dsimp only at h
  split at h
  · obtain ⟨⟨rfl, h0⟩, h⟩ := h
    intro g p l e R s0 mi args below meth c H locs cells slots Z lsA C w ol hS hl hb
    exact lv_pop C.1 C.2.1 (aIns_decode hi) ((trv_cat ol.1 _).trans h0) (h g p l e R s0 mi args below meth c H locs cells slots Z lsA C w ol hS hl hb)
  · exact absurd h.1 id
theorem sh_iload_n {k : Fin 4} (hi : aIns m pc = some (.iload_n k, n)) (h : FT Sh (TI (.iload_n k) n d m pc ls st I) Q) : Sh (d, m, pc, ls, st, I) Q := by
  obtain ⟨x, hx, rfl, h⟩ := aLdI_inv h
  intro g p l e R s0 mi args below meth c H locs cells slots Z lsA C w ol hS hl hb
  exact lv_iload_n C.1 C.2.1 (aIns_decode hi) rfl (hl.2.2 _ _ hx (fun e => by cases e)) (h g p l e R s0 mi args below meth c H locs cells slots Z lsA C w ol hS hl hb)
theorem sh_iload {k : Nat} (hi : aIns m pc = some (.iload k, n)) (h : FT Sh (TI (.iload k) n d m pc ls st I) Q) : Sh (d, m, pc, ls, st, I) Q := by
  obtain ⟨x, hx, rfl, h⟩ := aLdI_inv h
  intro g p l e R s0 mi args below meth c H locs cells slots Z lsA C w ol hS hl hb
  exact lv_iload C.1 C.2.1 (aIns_decode hi) (hl.2.2 _ _ hx (fun e => by cases e)) (h g p l e R s0 mi args below meth c H locs cells slots Z lsA C w ol hS hl hb)
theorem sh_lload_n {k : Fin 4} (hi : aIns m pc = some (.lload_n k, n)) (h : FT Sh (TI (.lload_n k) n d m pc ls st I) Q) : Sh (d, m, pc, ls, st, I) Q := by
  obtain ⟨x, hx, rfl, h⟩ := aLdL_inv h
  intro g p l e R s0 mi args below meth c H locs cells slots Z lsA C w ol hS hl hb
  exact lv_lload_n C.1 C.2.1 (aIns_decode hi) rfl (hl.2.2 _ _ hx (fun e => by cases e)) (h g p l e R s0 mi args below meth c H locs cells slots Z lsA C w ol hS hl hb)
theorem sh_lload {k : Nat} (hi : aIns m pc = some (.lload k, n)) (h : FT Sh (TI (.lload k) n d m pc ls st I) Q) : Sh (d, m, pc, ls, st, I) Q := by
  obtain ⟨x, hx, rfl, h⟩ := aLdL_inv h
  intro g p l e R s0 mi args below meth c H locs cells slots Z lsA C w ol hS hl hb
  exact lv_lload C.1 C.2.1 (aIns_decode hi) (hl.2.2 _ _ hx (fun e => by cases e)) (h g p l e R s0 mi args below meth c H locs cells slots Z lsA C w ol hS hl hb)
theorem sh_aload_n {k : Fin 4} (hi : aIns m pc = some (.aload_n k, n)) (h : FT Sh (TI (.aload_n k) n d m pc ls st I) Q) : Sh (d, m, pc, ls, st, I) Q := by
  obtain ⟨v, hv, hr, rfl, h⟩ := aLdA_inv h
  intro g p l e R s0 mi args below meth c H locs cells slots Z lsA C w ol hS hl hb
  have hk := hl.2.2 _ _ hv (fun e => by rw [e] at hr; cases hr)
  have h' := h g p l e R s0 mi args below meth c H locs cells slots Z lsA C w ol hS hl hb
  rcases aIsR_cases ol.1 hr with ht | ⟨a, ht⟩
  · rw [ht] at hk
    refine lv_aload_nN C.1 C.2.1 (aIns_decode hi) rfl hk ?_
    have e : trv g v :: st.map (trv g) = .null :: st.map (trv g) := by rw [ht]
    exact e ▸ h'
  · rw [ht] at hk
    refine lv_aload_n C.1 C.2.1 (aIns_decode hi) rfl hk ?_
    have e : trv g v :: st.map (trv g) = .ref a :: st.map (trv g) := by rw [ht]
    exact e ▸ h'
theorem sh_aload {k : Nat} (hi : aIns m pc = some (.aload k, n)) (h : FT Sh (TI (.aload k) n d m pc ls st I) Q) : Sh (d, m, pc, ls, st, I) Q := by
  obtain ⟨v, hv, hr, rfl, h⟩ := aLdA_inv h
  intro g p l e R s0 mi args below meth c H locs cells slots Z lsA C w ol hS hl hb
  have hk := hl.2.2 _ _ hv (fun e => by rw [e] at hr; cases hr)
  have h' := h g p l e R s0 mi args below meth c H locs cells slots Z lsA C w ol hS hl hb
  rcases aIsR_cases ol.1 hr with ht | ⟨a, ht⟩
  · rw [ht] at hk
    refine lv_aloadN C.1 C.2.1 (aIns_decode hi) hk ?_
    have e : trv g v :: st.map (trv g) = .null :: st.map (trv g) := by rw [ht]
    exact e ▸ h'
  · rw [ht] at hk
    refine lv_aload C.1 C.2.1 (aIns_decode hi) hk ?_
    have e : trv g v :: st.map (trv g) = .ref a :: st.map (trv g) := by rw [ht]
    exact e ▸ h'
theorem sh_istore_n {k : Fin 4} (hi : aIns m pc = some (.istore_n k, n)) (h : FT Sh (TI (.istore_n k) n d m pc ls st I) Q) : Sh (d, m, pc, ls, st, I) Q := by
  obtain ⟨x, r, rfl, ⟨rfl, hk, ok⟩, h⟩ := aUni_inv h
  intro g p l e R s0 mi args below meth c H locs cells slots Z lsA C w ol hS hl hb
  exact lv_istore_n C.1 C.2.1 (aIns_decode hi) rfl hl.has hk rfl (fun lsB hlB => h g p l e R s0 mi args below meth c H locs cells slots Z lsB C w ol hS (aLoc.st1 (v := .int x) ol.1 ok hlB) hb)
theorem sh_istore {k : Nat} (hi : aIns m pc = some (.istore k, n)) (h : FT Sh (TI (.istore k) n d m pc ls st I) Q) : Sh (d, m, pc, ls, st, I) Q := by
  obtain ⟨x, r, rfl, ⟨rfl, hk, ok⟩, h⟩ := aUni_inv h
  intro g p l e R s0 mi args below meth c H locs cells slots Z lsA C w ol hS hl hb
  exact lv_istore C.1 C.2.1 (aIns_decode hi) hl.has hk rfl (fun lsB hlB => h g p l e R s0 mi args below meth c H locs cells slots Z lsB C w ol hS (aLoc.st1 (v := .int x) ol.1 ok hlB) hb)
theorem sh_iinc {k : Nat} {cc : Int} (hi : aIns m pc = some (.iinc k cc, n)) (h : FT Sh (TI (.iinc k cc) n d m pc ls st I) Q) : Sh (d, m, pc, ls, st, I) Q := by
  obtain ⟨x, hx, ⟨rfl, hk, ok⟩, h⟩ := aLdI_inv h
  intro g p l e R s0 mi args below meth c H locs cells slots Z lsA C w ol hS hl hb
  obtain ⟨j, hj⟩ := List.getElem?_of_mem (aPs_mem.mpr ⟨_, hx, (fun e => by cases e), rfl⟩ : (k, Value.int x) ∈ aPs g ls)
  exact lv_iinc C.1 C.2.1 (aIns_decode hi) hl.has hj rfl hk rfl (fun lsB hlB => h g p l e R s0 mi args below meth c H locs cells slots Z lsB C w ol hS (aLoc.st1 (v := .int (x + Int32.ofInt cc)) ol.1 ok hlB) hb)
theorem sh_lstore_n {k : Fin 4} (hi : aIns m pc = some (.lstore_n k, n)) (h : FT Sh (TI (.lstore_n k) n d m pc ls st I) Q) : Sh (d, m, pc, ls, st, I) Q := by
  unfold TI at h
  dsimp only at h
  split at h
  · obtain ⟨⟨rfl, hk, ok⟩, h⟩ := h
    intro g p l e R s0 mi args below meth c H locs cells slots Z lsA C w ol hS hl hb
    exact lv_lstore_n C.1 C.2.1 (aIns_decode hi) rfl hl.has hk rfl (fun lsB hlB => h g p l e R s0 mi args below meth c H locs cells slots Z lsB C w ol hS (aLoc.st2 ol.1 ok hlB) hb)
  · exact absurd h.1 id
theorem sh_lstore {k : Nat} (hi : aIns m pc = some (.lstore k, n)) (h : FT Sh (TI (.lstore k) n d m pc ls st I) Q) : Sh (d, m, pc, ls, st, I) Q := by
  unfold TI at h
  dsimp only at h
  split at h
  · obtain ⟨⟨rfl, hk, ok⟩, h⟩ := h
    intro g p l e R s0 mi args below meth c H locs cells slots Z lsA C w ol hS hl hb
    exact lv_lstore C.1 C.2.1 (aIns_decode hi) hl.has hk rfl (fun lsB hlB => h g p l e R s0 mi args below meth c H locs cells slots Z lsB C w ol hS (aLoc.st2 ol.1 ok hlB) hb)
  · exact absurd h.1 id
theorem sh_astore_n {k : Fin 4} (hi : aIns m pc = some (.astore_n k, n)) (h : FT Sh (TI (.astore_n k) n d m pc ls st I) Q) : Sh (d, m, pc, ls, st, I) Q := by
  unfold TI at h
  dsimp only at h
  split at h
  · rename_i v r
    obtain ⟨⟨rfl, hk, ok, hr⟩, h⟩ := h
    intro g p l e R s0 mi args below meth c H locs cells slots Z lsA C w ol hS hl hb
    have h' := fun (lsB : Array Slot) hlB => h g p l e R s0 mi args below meth c H locs cells slots Z lsB C w ol hS (aLoc.st1 (v := v) ol.1 ok hlB) hb
    show W p l e R s0 mi args below meth c H locs cells slots Z (F0 mi pc lsA (trv g v :: r.map (trv g)))
    rcases aIsR_cases ol.1 hr with ht | ⟨a, ht⟩
    · rw [ht] at h' ⊢
      exact lv_astore_nN C.1 C.2.1 (aIns_decode hi) rfl hl.has hk rfl h'
    · rw [ht] at h' ⊢
      exact lv_astore_n C.1 C.2.1 (aIns_decode hi) rfl hl.has hk rfl h'
  · exact absurd h.1 id
theorem sh_astore {k : Nat} (hi : aIns m pc = some (.astore k, n)) (h : FT Sh (TI (.astore k) n d m pc ls st I) Q) : Sh (d, m, pc, ls, st, I) Q := by
  unfold TI at h
  dsimp only at h
  split at h
  · rename_i v r
    obtain ⟨⟨rfl, hk, ok, hr⟩, h⟩ := h
    intro g p l e R s0 mi args below meth c H locs cells slots Z lsA C w ol hS hl hb
    have h' := fun (lsB : Array Slot) hlB => h g p l e R s0 mi args below meth c H locs cells slots Z lsB C w ol hS (aLoc.st1 (v := v) ol.1 ok hlB) hb
    show W p l e R s0 mi args below meth c H locs cells slots Z (F0 mi pc lsA (trv g v :: r.map (trv g)))
    rcases aIsR_cases ol.1 hr with ht | ⟨a, ht⟩
    · rw [ht] at h' ⊢
      exact lv_astoreN C.1 C.2.1 (aIns_decode hi) hl.has hk rfl h'
    · rw [ht] at h' ⊢
      exact lv_astore C.1 C.2.1 (aIns_decode hi) hl.has hk rfl h'
  · exact absurd h.1 id
theorem aTg_eq {pc : Nat} {o : Int} (h : 0 ≤ (pc : Int) + o) : (pc : Int) + o = (aTg pc o : Int) := by
  unfold aTg
  omega
theorem sh_goto {k : Int} (hi : aIns m pc = some (.goto k, n)) (h : FT Sh (TI (.goto k) n d m pc ls st I) Q) : Sh (d, m, pc, ls, st, I) Q := by
  obtain ⟨⟨rfl, ht⟩, h⟩ := h
  intro g p l e R s0 mi args below meth c H locs cells slots Z lsA C w ol hS hl hb
  exact lv_goto C.1 C.2.1 (aIns_decode hi) (aTg_eq ht) (h g p l e R s0 mi args below meth c H locs cells slots Z lsA C w ol hS hl hb)
theorem sh_ifCond {cc : ClassFile.Cond} {k : Int} (hi : aIns m pc = some (.ifCond cc k, n)) (h : FT Sh (TI (.ifCond cc k) n d m pc ls st I) Q) : Sh (d, m, pc, ls, st, I) Q := by
  obtain ⟨x, r, rfl, hh⟩ := aUni_inv h
  by_cases hd : (n = 3 ∧ 0 ≤ (pc : Int) + k)
  · rw [decide_eq_true hd] at hh
    obtain ⟨rfl, ht⟩ := hd
    obtain ⟨h1, h2⟩ := hh
    intro g p l e R s0 mi args below meth c H locs cells slots Z lsA C w ol hS hl hb
    cases cc with
    | eq => exact lv_if_eq C.1 C.2.1 (aIns_decode hi) (aTg_eq ht) (fun q => h1 q g p l e R s0 mi args below meth c H locs cells slots Z lsA C w ol hS hl hb) (fun q => h2 q g p l e R s0 mi args below meth c H locs cells slots Z lsA C w ol hS hl hb)
    | ne => exact lv_if_ne C.1 C.2.1 (aIns_decode hi) (aTg_eq ht) (fun q => h1 q g p l e R s0 mi args below meth c H locs cells slots Z lsA C w ol hS hl hb) (fun q => h2 (fun z => z q) g p l e R s0 mi args below meth c H locs cells slots Z lsA C w ol hS hl hb)
    | lt => exact lv_if_lt C.1 C.2.1 (aIns_decode hi) (aTg_eq ht) (fun q => h1 q g p l e R s0 mi args below meth c H locs cells slots Z lsA C w ol hS hl hb) (fun q => h2 q g p l e R s0 mi args below meth c H locs cells slots Z lsA C w ol hS hl hb)
    | ge => exact lv_if_ge C.1 C.2.1 (aIns_decode hi) (aTg_eq ht) (fun q => h1 q g p l e R s0 mi args below meth c H locs cells slots Z lsA C w ol hS hl hb) (fun q => h2 q g p l e R s0 mi args below meth c H locs cells slots Z lsA C w ol hS hl hb)
    | gt => exact lv_if_gt C.1 C.2.1 (aIns_decode hi) (aTg_eq ht) (fun q => h1 q g p l e R s0 mi args below meth c H locs cells slots Z lsA C w ol hS hl hb) (fun q => h2 q g p l e R s0 mi args below meth c H locs cells slots Z lsA C w ol hS hl hb)
    | le => exact lv_if_le C.1 C.2.1 (aIns_decode hi) (aTg_eq ht) (fun q => h1 q g p l e R s0 mi args below meth c H locs cells slots Z lsA C w ol hS hl hb) (fun q => h2 q g p l e R s0 mi args below meth c H locs cells slots Z lsA C w ol hS hl hb)
  · rw [decide_eq_false hd] at hh
    exact absurd hh.1 id
theorem sh_if_icmp {cc : ClassFile.Cond} {k : Int} (hi : aIns m pc = some (.if_icmp cc k, n)) (h : FT Sh (TI (.if_icmp cc k) n d m pc ls st I) Q) : Sh (d, m, pc, ls, st, I) Q := by
  obtain ⟨x, y, r, rfl, hh⟩ := aBin_inv h
  by_cases hd : (n = 3 ∧ 0 ≤ (pc : Int) + k)
  · rw [decide_eq_true hd] at hh
    obtain ⟨rfl, ht⟩ := hd
    obtain ⟨h1, h2⟩ := hh
    intro g p l e R s0 mi args below meth c H locs cells slots Z lsA C w ol hS hl hb
    cases cc with
    | eq => exact lv_icmp_eq C.1 C.2.1 (aIns_decode hi) (aTg_eq ht) (fun q => h1 q g p l e R s0 mi args below meth c H locs cells slots Z lsA C w ol hS hl hb) (fun q => h2 q g p l e R s0 mi args below meth c H locs cells slots Z lsA C w ol hS hl hb)
    | ne => exact lv_icmp_ne C.1 C.2.1 (aIns_decode hi) (aTg_eq ht) (fun q => h1 q g p l e R s0 mi args below meth c H locs cells slots Z lsA C w ol hS hl hb) (fun q => h2 (fun z => z q) g p l e R s0 mi args below meth c H locs cells slots Z lsA C w ol hS hl hb)
    | lt => exact lv_icmp_lt C.1 C.2.1 (aIns_decode hi) (aTg_eq ht) (fun q => h1 q g p l e R s0 mi args below meth c H locs cells slots Z lsA C w ol hS hl hb) (fun q => h2 q g p l e R s0 mi args below meth c H locs cells slots Z lsA C w ol hS hl hb)
    | ge => exact lv_icmp_ge C.1 C.2.1 (aIns_decode hi) (aTg_eq ht) (fun q => h1 q g p l e R s0 mi args below meth c H locs cells slots Z lsA C w ol hS hl hb) (fun q => h2 q g p l e R s0 mi args below meth c H locs cells slots Z lsA C w ol hS hl hb)
    | gt => exact lv_icmp_gt C.1 C.2.1 (aIns_decode hi) (aTg_eq ht) (fun q => h1 q g p l e R s0 mi args below meth c H locs cells slots Z lsA C w ol hS hl hb) (fun q => h2 q g p l e R s0 mi args below meth c H locs cells slots Z lsA C w ol hS hl hb)
    | le => exact lv_icmp_le C.1 C.2.1 (aIns_decode hi) (aTg_eq ht) (fun q => h1 q g p l e R s0 mi args below meth c H locs cells slots Z lsA C w ol hS hl hb) (fun q => h2 q g p l e R s0 mi args below meth c H locs cells slots Z lsA C w ol hS hl hb)
  · rw [decide_eq_false hd] at hh
    exact absurd hh.1 id
theorem sh_ifnull {k : Int} (hi : aIns m pc = some (.ifnull k, n)) (h : FT Sh (TI (.ifnull k) n d m pc ls st I) Q) : Sh (d, m, pc, ls, st, I) Q := by
  unfold TI at h
  dsimp only at h
  split at h
  · obtain ⟨⟨rfl, hc⟩, h⟩ := h
    intro g p l e R s0 mi args below meth c H locs cells slots Z lsA C w ol hS hl hb
    rename_i cc r
    show W p l e R s0 mi args below meth c H locs cells slots Z (F0 mi pc lsA (trv g (.ref cc) :: r.map (trv g)))
    rw [show trv g (.ref cc) = .ref (gAdr g cc) by unfold trv; exact if_neg hc]
    exact lv_ifnull C.1 C.2.1 (aIns_decode hi) (h g p l e R s0 mi args below meth c H locs cells slots Z lsA C w ol hS hl hb)
  · obtain ⟨⟨rfl, ht⟩, h⟩ := h
    intro g p l e R s0 mi args below meth c H locs cells slots Z lsA C w ol hS hl hb
    exact lv_ifnullN C.1 C.2.1 (aIns_decode hi) (aTg_eq ht) (h g p l e R s0 mi args below meth c H locs cells slots Z lsA C w ol hS hl hb)
  · exact absurd h.1 id
theorem sh_ifnonnull {k : Int} (hi : aIns m pc = some (.ifnonnull k, n)) (h : FT Sh (TI (.ifnonnull k) n d m pc ls st I) Q) : Sh (d, m, pc, ls, st, I) Q := by
  unfold TI at h
  dsimp only at h
  split at h
  · obtain ⟨⟨rfl, ht, hc⟩, h⟩ := h
    intro g p l e R s0 mi args below meth c H locs cells slots Z lsA C w ol hS hl hb
    rename_i cc r
    show W p l e R s0 mi args below meth c H locs cells slots Z (F0 mi pc lsA (trv g (.ref cc) :: r.map (trv g)))
    rw [show trv g (.ref cc) = .ref (gAdr g cc) by unfold trv; exact if_neg hc]
    exact lv_ifnonnull C.1 C.2.1 (aIns_decode hi) (aTg_eq ht) (h g p l e R s0 mi args below meth c H locs cells slots Z lsA C w ol hS hl hb)
  · obtain ⟨rfl, h⟩ := h
    intro g p l e R s0 mi args below meth c H locs cells slots Z lsA C w ol hS hl hb
    exact lv_ifnonnullN C.1 C.2.1 (aIns_decode hi) (h g p l e R s0 mi args below meth c H locs cells slots Z lsA C w ol hS hl hb)
  · exact absurd h.1 id
end SH
end
section
/-! the steps that touch the heap, the switches, the calls, the returns -/
theorem aNat6 (b c : Nat) (h1 : b ≤ c) (h2 : c < b + 6) : ∃ i, i < 6 ∧ c = b + i := ⟨c - b, by omega, by omega⟩
theorem aLk_mem {α : Type} {k : Nat} {v : α} : ∀ {l : List (Nat × α)}, aLk l k = some v → (k, v) ∈ l := by
  intro l
  induction l with
  | nil => intro h; simp [aLk] at h
  | cons q l ih =>
    intro h
    unfold aLk at h
    cases hq : Nat.beq q.1 k with
    | true =>
      rw [hq] at h
      simp only [cond_true, Option.some.injEq] at h
      have : q = (k, v) := by rw [← h, ← Nat.eq_of_beq_eq_true hq]
      rw [this]
      exact List.mem_cons_self
    | false =>
      rw [hq] at h
      simp only [cond_false] at h
      exact List.mem_cons_of_mem _ (ih h)
theorem aBlk {α : Type} {l : List (Nat × α)} {c i : Nat} {v : α} (h : (bif Nat.blt i 10000 then aLk l (10000 * c + i) else none) = some v) : (10000 * c + i, v) ∈ l ∧ i < 10000 := by
  cases hb : Nat.blt i 10000 with
  | true =>
    rw [hb] at h
    exact ⟨aLk_mem h, by simpa using hb⟩
  | false => rw [hb] at h; cases h
theorem aOwn_key {c i : Nat} (h : i < 10000) : aOwn (10000 * c + i) = aClsL.getD c "" ∧ (10000 * c + i) % 10000 = i := by
  unfold aOwn
  rw [show (10000 * c + i) / 10000 = c by omega]
  exact ⟨rfl, by omega⟩
theorem aFld_ok {m x : Nat} {f : Nat × Nat × Nat} (h : aFld (aCo m) x = some f) : ∃ r : vw_C, vwCl9[f.1]? = some r ∧ f.2.1 < r.2.2 ∧ Cond.fieldLink (aCls m) x r.1 (r.2.1 f.2.1).2.1 (r.2.1 f.2.1).2.2.1 ∈ aTG ∧ (r.2.1 f.2.1).1 = r.1 := by
  obtain ⟨h1, h2⟩ := aBlk h
  have h3 := List.all_eq_true.mp aFckAll _ h1
  unfold aFck at h3
  dsimp only at h3
  rw [(aOwn_key h2).1, (aOwn_key h2).2] at h3
  cases hr : vwCl9[f.1]? with
  | none => rw [hr] at h3; cases h3
  | some r =>
    rw [hr] at h3
    simp only [Bool.and_eq_true, decide_eq_true_eq] at h3
    exact ⟨r, rfl, h3.1.1, aInT_mem h3.1.2, h3.2⟩
set_option maxRecDepth 100000 in
theorem aUwsAll : vwCl9.all (fun r => (u_ws r.1 r.2.1 r.2.2).all (fun w => decide (w ∈ lw_tbl) && goodWord w)) = true := by decide +kernel
theorem aUws {ci : Nat} {r : vw_C} (h : vwCl9[ci]? = some r) : ∀ w ∈ u_ws r.1 r.2.1 r.2.2, w ∈ aTG := by
  intro w hw
  have h1 := List.all_eq_true.mp (List.all_eq_true.mp aUwsAll _ (List.mem_of_getElem? h)) w hw
  simp only [Bool.and_eq_true, decide_eq_true_eq] at h1
  exact List.mem_filter.mpr ⟨h1.1, h1.2⟩
theorem aCl9 {ci : Nat} {r : vw_C} (h : vwCl9[ci]? = some r) : ci < 9 ∧ r.2.2 = aNf ci ∧ (∃ ty : Nat → FieldType, ∀ k, k < r.2.2 → parseFieldDescriptor (r.2.1 k).2.2.1 = some (ty k)) ∧ (∀ a, a < r.2.2 → ∀ b, b < r.2.2 → a ≠ b → (r.2.1 a).2.1 ≠ (r.2.1 b).2.1) ∧ (∀ k, k < r.2.2 → aFf ci k = 0 → (r.2.1 k).2.2.2 = false) ∧ (∀ k, k < r.2.2 → aFc ci k = 0 → parseFieldDescriptor (r.2.1 k).2.2.1 = some .int) ∧ (∀ k, k < r.2.2 → aFc ci k = 1 → parseFieldDescriptor (r.2.1 k).2.2.1 = some .boolean) := by
  match ci, h with
  | 0, h => cases h; exact ⟨by decide, rfl, ⟨_, tyX0_ok⟩, nmX0, by decide +kernel, by decide +kernel, by decide +kernel⟩
  | 1, h => cases h; exact ⟨by decide, rfl, ⟨_, tyX1_ok⟩, nmX1, by decide +kernel, by decide +kernel, by decide +kernel⟩
  | 2, h => cases h; exact ⟨by decide, rfl, ⟨_, tyX2_ok⟩, nmX2, by decide +kernel, by decide +kernel, by decide +kernel⟩
  | 3, h => cases h; exact ⟨by decide, rfl, ⟨_, tyX3_ok⟩, nmX3, by decide +kernel, by decide +kernel, by decide +kernel⟩
  | 4, h => cases h; exact ⟨by decide, rfl, ⟨_, tyX4_ok⟩, nmX4, by decide +kernel, by decide +kernel, by decide +kernel⟩
  | 5, h => cases h; exact ⟨by decide, rfl, ⟨_, tyX5_ok⟩, nmX5, by decide +kernel, by decide +kernel, by decide +kernel⟩
  | 6, h => cases h; exact ⟨by decide, rfl, ⟨_, tyX6_ok⟩, nmX6, by decide +kernel, by decide +kernel, by decide +kernel⟩
  | 7, h => cases h; exact ⟨by decide, rfl, ⟨_, tyX7_ok⟩, nmX7, by decide +kernel, by decide +kernel, by decide +kernel⟩
  | 8, h => cases h; exact ⟨by decide, rfl, ⟨_, tyX8_ok⟩, nmX8, by decide +kernel, by decide +kernel, by decide +kernel⟩
  | k + 9, h => simp at h
theorem aRfAll : aRfL.all (fun l => l.all (fun v => decide (v < 140))) = true := by decide +kernel
theorem aRf_lt (c k : Nat) : aRf c k < 140 := by
  unfold aRf
  rw [List.getD_eq_getElem?_getD]
  cases h : (aRfL.getD c [])[k]? with
  | none => exact (by decide : (0 : Nat) < 140)
  | some v =>
    have h1 := List.mem_of_getElem? h
    rw [List.getD_eq_getElem?_getD] at h1
    cases h2 : aRfL[c]? with
    | none => rw [h2] at h1; simp at h1
    | some l =>
      rw [h2] at h1
      have h3 := List.all_eq_true.mp (List.all_eq_true.mp aRfAll l (List.mem_of_getElem? h2)) v h1
      simpa using h3
theorem aEn_obj {g : GG} {c ci : Nat} {row : Nat → Int32} (h : aShp c = ci) (h9 : ci < 9) : aEn g c row = .inr (ci, (List.range (aNf ci)).map (aFv g c ci row)) := by
  unfold aEn
  rw [h, if_pos h9]
theorem aEn_ints {g : GG} {c : Nat} {row : Nat → Int32} (h : aShp c = 20) : aEn g c row = .inl (gC g 0, aLen c, .inl row) := by
  unfold aEn
  rw [h, if_neg (by decide), if_pos rfl]
theorem aEn_refs {g : GG} {c s : Nat} {row : Nat → Int32} (h : aShp c = s) (h1 : 21 ≤ s) : aEn g c row = .inl (gC g (s - 20), aLen c, .inr (.inr (.inr (.inr (fun j => some (g.1 + aRf c j)))))) := by
  unfold aEn
  rw [h, if_neg (by omega), if_neg (by omega)]
theorem aFv_set {g : GG} {c ci n k : Nat} {row : Nat → Int32} {v : Int32} (hk : aFc ci k ≠ 2) : ((List.range n).map (aFv g c ci row)).set k (.int v) = (List.range n).map (aFv g c ci (upd row k v)) := by
  apply List.ext_getElem?
  intro j
  by_cases hj : j < n
  · rw [List.getElem?_map, List.getElem?_range hj]
    by_cases hjk : j = k
    · subst hjk
      rw [List.getElem?_set_self (by simpa using hj)]
      show some (Value.int v) = some (aFv g c ci (upd row j v) j)
      unfold aFv
      rw [show Nat.beq (aFc ci j) 2 = false by cases hq : Nat.beq (aFc ci j) 2 with | false => rfl | true => exact absurd (Nat.eq_of_beq_eq_true hq) hk]
      simp [upd]
    · rw [List.getElem?_set_ne (Ne.symm hjk), List.getElem?_map, List.getElem?_range hj]
      show some (aFv g c ci row j) = some (aFv g c ci (upd row k v) j)
      unfold aFv upd
      rw [if_neg hjk]
  · rw [List.getElem?_eq_none (by simp; omega), List.getElem?_eq_none (by simp; omega)]
theorem aScr {g : GG} {I : IM} {U : State} {H H0 H1 : Heap} {locs locs1 : List Loc} (hX : va_X (g.2.1 0) (I 1002 0).toNatClampNeg (I 1000) U H) (hb : g.2.1 0 < g.1) (hz : g.1 ≤ H0.size) (hS : va_S (gA g) H0 H locs) (hS1 : va_S (gA g) H0 H1 locs1) : va_X (g.2.1 0) (I 1002 0).toNatClampNeg (I 1000) U H1 := by
  have hn : ¬ gA g (g.2.1 0) := Nat.not_le.mpr hb
  refine hX.kept ?_
  rw [hS.2.1 _ (by omega) hn, hS1.2.1 _ (by omega) hn]
theorem aX0 {g : GG} {I : IM} {U : State} {H H0 : Heap} {locs : List Loc} (hX : va_X (g.2.1 0) (I 1002 0).toNatClampNeg (I 1000) U H) (hb : g.2.1 0 < g.1) (hz : g.1 ≤ H0.size) (hS : va_S (gA g) H0 H locs) : va_X (g.2.1 0) (I 1002 0).toNatClampNeg (I 1000) U H0 := aScr hX hb hz hS va_S.rf
theorem up_old {I : IM} {c k : Nat} {v : Int32} (h : c < 140) : up I c k v 1000 = I 1000 ∧ up I c k v 1002 = I 1002 := by
  unfold up
  rw [if_neg (by omega), if_neg (by omega)]
  exact ⟨rfl, rfl⟩
/-- behind a store: the world with one row of ints changed -/
theorem aWorld.row {g : GG} {I : IM} {c : Nat} {row : Nat → Int32} {e0 : va_E} {U : State} {H H0 H1 : Heap} {locs locs1 : List Loc} (w : aWorld g I H U) (hc : c < 140) (hb : g.2.1 0 < g.1) (hz : g.1 ≤ H0.size) (hS : va_S (gA g) H0 H locs) (hS1 : va_S (gA g) H0 H1 locs1) (he : e0 = aEn g c row) (hP : va_P (gD g) vwCl9 ((aW g I).set c (g.1 + c, e0)) H1) : aWorld g (fun c' => if c' = c then row else I c') H1 U := by
  refine ⟨?_, w.2.1, ?_⟩
  · rw [he, aW_set g I row hc] at hP
    exact hP
  · have h := aScr w.2.2 hb hz hS hS1
    have e1 : (fun c' => if c' = c then row else I c') 1002 = I 1002 := if_neg (by omega)
    have e2 : (fun c' => if c' = c then row else I c') 1000 = I 1000 := if_neg (by omega)
    rw [e1, e2]
    exact h
section SH2
variable {d m pc n : Nat} {ls st : List Value} {I : IM} {Q : Po}
theorem sh_getfield {x : Nat} (hi : aIns m pc = some (.getfield x, n)) (h : FT Sh (TI (.getfield x) n d m pc ls st I) Q) : Sh (d, m, pc, ls, st, I) Q := by
  obtain ⟨c0, r, rfl, hh⟩ := aRef_inv h
  replace h := hh
  cases hf : aFld (aCo m) x with
  | some f =>
    rw [hf] at h
    dsimp only at h
    obtain ⟨q, h1, h2, h3, h4⟩ := aFld_ok hf
    obtain ⟨h9, hN, -⟩ := aCl9 h1
    have key : n = 3 ∧ aShp c0 = f.1 → (∀ (g : GG) (v : Value), trv g v = aFv g c0 f.1 (I c0) f.2.1 → True) → True := fun _ _ => trivial
    have main : n = 3 ∧ aShp c0 = f.1 → ∀ (v : Value), (∀ g : GG, trv g v = aFv g c0 f.1 (I c0) f.2.1) → Sh (d, m, pc + 3, ls, v :: r, I) Q → Sh (d, m, pc, ls, .ref c0 :: r, I) Q := by
      rintro ⟨rfl, hs⟩ v hv h
      intro g p l e R s0 mi args below meth c H locs cells slots Z lsA C w ol hS hl hb
      have hc := aShp_lt hs (by omega)
      show W p l e R s0 mi args below meth c H locs cells slots Z (F0 mi pc lsA (trv g (.ref c0) :: r.map (trv g)))
      rw [trv_in hc]
      have he := aW_at g I hc
      rw [aEn_obj hs h9] at he
      refine va_get (C := q.1) (T := q.2.1) (N := q.2.2) C.1 C.2.1 C.2.2.2.2.1 (aUws h1) C.2.2.2.1 w.2.1 w.1 c0 he h1 f.2.1 h2 (C.2.2.2.2.1 _ h3) (fun y hy => by rw [h4] at hy; exact hy) (v := trv g v) ?_ (aIns_decode hi) ?_
      · rw [hv g, List.getElem?_map, List.getElem?_range (by omega)]
        rfl
      · exact h g p l e R s0 mi args below meth c H locs cells slots Z lsA C w ol hS hl hb
    cases hk : Nat.beq (aFc f.1 f.2.1) 2 with
    | true =>
      rw [hk] at h
      exact main h.1 _ (fun g => by rw [trv_in (aRf_lt _ _)]; unfold aFv; rw [hk]; rfl) h.2
    | false =>
      rw [hk] at h
      exact main h.1 _ (fun g => by unfold aFv; rw [hk]; rfl) h.2
  | none =>
    rw [hf] at h
    dsimp only at h
    cases h12 : Nat.beq (aCo m) 12 with
    | false => rw [h12] at h; exact absurd h.1 id
    | true =>
      rw [h12] at h
      have hcl : aCls m = "java/lang/String" := by
        unfold aCls
        rw [Nat.eq_of_beq_eq_true h12]
        rfl
      cases hx9 : Nat.beq x 9 with
      | true =>
        rw [hx9] at h
        obtain ⟨⟨rfl, ha, hb2⟩, h⟩ := h
        have := Nat.eq_of_beq_eq_true hx9
        subst this
        intro g p l e R s0 mi args below meth c H locs cells slots Z lsA C w ol hS hl hb
        have h' := h g p l e R s0 mi args below meth c H locs cells slots Z lsA C w ol hS hl hb
        show W p l e R s0 mi args below meth c H locs cells slots Z (F0 mi pc lsA (trv g (.ref c0) :: r.map (trv g)))
        have h'' : W p l e R s0 mi args below meth c H locs cells slots Z (F0 mi (pc + 3) lsA (trv g (.ref (c0 + 10)) :: r.map (trv g))) := h'
        rw [trv_old (by omega) (by omega)] at h'' ⊢
        obtain ⟨i, hi6, rfl⟩ := aNat6 1010 c0 ha hb2
        rw [show 1010 + i - 1000 = 10 + i by omega]
        rw [show 1010 + i + 10 - 1000 = 20 + i by omega] at h''
        have hK := ol.2.2.2.2.2.1.1 i hi6
        refine vk_getf (own := aCls m) (ref := "java/lang/String") (index := 9) C.1 C.2.1 hK.2.2.1 hS C.2.2.2.1 (C.2.2.2.2.1 _ ?_) (fun _ hy => hy) (aIns_decode hi) h''
        rw [hcl]
        exact aInT_mem aStrV
      | false =>
        rw [hx9] at h
        cases hx15 : Nat.beq x 15 with
        | false => rw [hx15] at h; exact absurd h.1 id
        | true =>
          rw [hx15] at h
          obtain ⟨⟨rfl, ha, hb2⟩, h⟩ := h
          have := Nat.eq_of_beq_eq_true hx15
          subst this
          intro g p l e R s0 mi args below meth c H locs cells slots Z lsA C w ol hS hl hb
          have h' := h g p l e R s0 mi args below meth c H locs cells slots Z lsA C w ol hS hl hb
          show W p l e R s0 mi args below meth c H locs cells slots Z (F0 mi pc lsA (trv g (.ref c0) :: r.map (trv g)))
          rw [trv_old (by omega) (by omega)]
          obtain ⟨i, hi6, rfl⟩ := aNat6 1010 c0 ha hb2
          rw [show 1010 + i - 1000 = 10 + i by omega]
          have hK := ol.2.2.2.2.2.1.1 i hi6
          refine vk_getf (own := aCls m) (ref := "java/lang/String") (index := 15) C.1 C.2.1 hK.2.1 hS C.2.2.2.1 (C.2.2.2.2.1 _ ?_) (fun _ hy => hy) (aIns_decode hi) h'
          rw [hcl]
          exact aInT_mem aStrC
theorem sh_putfield {x : Nat} (hi : aIns m pc = some (.putfield x, n)) (h : FT Sh (TI (.putfield x) n d m pc ls st I) Q) : Sh (d, m, pc, ls, st, I) Q := by
  unfold TI at h
  dsimp only at h
  split at h
  · rename_i v c0 r
    cases hf : aFld (aCo m) x with
    | none => rw [hf] at h; exact absurd h.1 id
    | some f =>
      rw [hf] at h
      obtain ⟨⟨rfl, hs, hff, hty⟩, h⟩ := h
      obtain ⟨q, h1, h2, h3, h4⟩ := aFld_ok hf
      obtain ⟨h9, hN, ⟨ty, ht⟩, hnm, hfin, hint, hbool⟩ := aCl9 h1
      intro g p l e R s0 mi args below meth c H locs cells slots Z lsA C w ol hS hl hb
      have hc := aShp_lt hs (by omega)
      show W p l e R s0 mi args below meth c H locs cells slots Z (F0 mi pc lsA (.int v :: trv g (.ref c0) :: r.map (trv g)))
      rw [trv_in hc]
      have he := aW_at g I hc
      rw [aEn_obj hs h9] at he
      have h2' : f.2.1 < aNf f.1 := by omega
      have hnr : aFc f.1 f.2.1 ≠ 2 := by rcases hty with e | ⟨e, -⟩ <;> rw [e] <;> decide
      have fin : ∀ (H1 : Heap) (locs1 : List Loc), va_P (gD g) vwCl9 ((aW g I).set c0 (g.1 + c0, .inr (f.1, ((List.range (aNf f.1)).map (aFv g c0 f.1 (I c0))).set f.2.1 (.int v)))) H1 → va_D (gA g) ((aW g I).set c0 (g.1 + c0, .inr (f.1, ((List.range (aNf f.1)).map (aFv g c0 f.1 (I c0))).set f.2.1 (.int v)))) → va_S (gA g) s0.heap H1 locs1 → W p l e R s0 mi args below meth c H1 locs1 cells slots Z (F0 mi (pc + 3) lsA (r.map (trv g))) := by
        intro H1 locs1 hP1 _ hS1
        have w1 : aWorld g (up I c0 f.2.1 v) H1 s0 := w.row (row := upd (I c0) f.2.1 v) hc ol.2.1 ol.2.2.1 hS hS1 (by rw [aEn_obj hs h9, aFv_set hnr]) hP1
        exact h g p l e R s0 mi args below meth c H1 locs1 cells slots Z lsA C w1 ol hS1 hl hb
      rcases hty with hty | ⟨hty, hv⟩
      · exact va_put (C := q.1) (T := q.2.1) (N := q.2.2) C.1 C.2.1 C.2.2.2.2.1 (aUws h1) ty ht hnm C.2.2.2.1 w.2.1 w.1 (aW_D g I) hS c0 he h1 f.2.1 h2 (C.2.2.2.2.1 _ h3) (fun y hy => by rw [h4] at hy; exact hy) (hfin _ h2 hff) (ty := .int) (hint _ h2 hty) rfl rfl (by simpa using h2') (aIns_decode hi) fin
      · exact va_put (C := q.1) (T := q.2.1) (N := q.2.2) C.1 C.2.1 C.2.2.2.2.1 (aUws h1) ty ht hnm C.2.2.2.1 w.2.1 w.1 (aW_D g I) hS c0 he h1 f.2.1 h2 (C.2.2.2.2.1 _ h3) (fun y hy => by rw [h4] at hy; exact hy) (hfin _ h2 hff) (ty := .boolean) (hbool _ h2 hty) (by rcases hv with rfl | rfl <;> decide) (by rcases hv with rfl | rfl <;> decide) (by simpa using h2') (aIns_decode hi) fin
  · exact absurd h.1 id
theorem sh_getstatic {x : Nat} (hi : aIns m pc = some (.getstatic x, n)) (h : FT Sh (TI (.getstatic x) n d m pc ls st I) Q) : Sh (d, m, pc, ls, st, I) Q := by
  unfold TI at h
  dsimp only at h
  cases h1 : (Nat.beq (aCo m) 0 && Nat.beq x 31) with
  | true =>
    rw [h1] at h
    obtain ⟨rfl, h⟩ := h
    simp only [Bool.and_eq_true] at h1
    have hx := Nat.eq_of_beq_eq_true h1.2
    subst hx
    have hcl : aCls m = RX0 := by
      unfold aCls
      rw [Nat.eq_of_beq_eq_true h1.1]
      rfl
    intro g p l e R s0 mi args below meth c H locs cells slots Z lsA C w ol hS hl hb
    have h' : W p l e R s0 mi args below meth c H locs cells slots Z (F0 mi (pc + 3) lsA (trv g (.ref 1001) :: st.map (trv g))) := h g p l e R s0 mi args below meth c H locs cells slots Z lsA C w ol hS hl hb
    rw [trv_old (by decide) (by decide)] at h'
    have ho := C.2.2.2.1
    rw [hcl] at ho
    exact va_getsN (own := RX0) (ref := "TwelveShort") (host := "TwelveShort") (index := 31) C.1 C.2.1 ol.2.2.2.1 hS ho (ol.2.2.2.2.2.2.2.2.2.2.use rfl) (fun _ hy => hy) (aIns_decode hi) h'
  | false =>
    rw [h1] at h
    cases h2 : (Nat.beq (aCo m) 12 && Nat.beq x 38) with
    | true =>
      rw [h2] at h
      obtain ⟨rfl, h⟩ := h
      simp only [Bool.and_eq_true] at h2
      have hx := Nat.eq_of_beq_eq_true h2.2
      subst hx
      have hcl : aCls m = "java/lang/String" := by
        unfold aCls
        rw [Nat.eq_of_beq_eq_true h2.1]
        rfl
      intro g p l e R s0 mi args below meth c H locs cells slots Z lsA C w ol hS hl hb
      have h' := h g p l e R s0 mi args below meth c H locs cells slots Z lsA C w ol hS hl hb
      have ho := C.2.2.2.1
      rw [hcl] at ho
      exact va_gets (own := "java/lang/String") (ref := "java/lang/String") (index := 38) C.1 C.2.1 ol.2.2.2.2.2.2.2.1 hS ho (C.2.2.2.2.1 _ (aInT_mem aStrS)) (fun _ hy => hy) (aIns_decode hi) h'
    | false =>
      rw [h2] at h
      cases h3 : (Nat.beq (aCo m) 12 && Nat.beq x 1053) with
      | false => rw [h3] at h; exact absurd h.1 id
      | true =>
        rw [h3] at h
        obtain ⟨rfl, h⟩ := h
        simp only [Bool.and_eq_true] at h3
        have hx := Nat.eq_of_beq_eq_true h3.2
        subst hx
        have hcl : aCls m = "java/lang/String" := by
          unfold aCls
          rw [Nat.eq_of_beq_eq_true h3.1]
          rfl
        intro g p l e R s0 mi args below meth c H locs cells slots Z lsA C w ol hS hl hb
        have h' : W p l e R s0 mi args below meth c H locs cells slots Z (F0 mi (pc + 3) lsA (trv g (.ref 1030) :: st.map (trv g))) := h g p l e R s0 mi args below meth c H locs cells slots Z lsA C w ol hS hl hb
        rw [show trv g (.ref 1030) = g.2.2.1 from rfl] at h'
        have ho := C.2.2.2.1
        rw [hcl] at ho
        exact va_gets (own := "java/lang/String") (ref := "jdk/internal/util/Preconditions") (index := 1053) C.1 C.2.1 ol.2.2.2.2.2.2.2.2.1 hS ho (C.2.2.2.2.1 _ (aInT_mem aStrF)) (fun _ hy => hy) (aIns_decode hi) h'
theorem aStrLen {i : Nat} (h : i < 6) : ((List.range 6).map fun i => (aStrBy i).length).getD i 0 = (aStrBy i).length ∧ ((List.range 6).map aStrBy).getD i [] = aStrBy i := by
  rw [List.getD_eq_getElem?_getD, List.getD_eq_getElem?_getD, List.getElem?_map, List.getElem?_map, List.getElem?_range h]
  exact ⟨rfl, rfl⟩
theorem gTys_at {g : GG} {s : Nat} (h1 : 20 ≤ s) (h2 : s ≤ 24) : ∃ ty, (gTys g)[s - 20]? = some (gC g (s - 20), ty) ∧ (21 ≤ s → ∃ C, ty = .object C) ∧ (s = 20 → ty = .int) := by
  match s, h1, h2 with
  | 20, _, _ => exact ⟨_, rfl, fun h => by omega, fun _ => rfl⟩
  | 21, _, _ => exact ⟨_, rfl, fun _ => ⟨_, rfl⟩, fun h => by omega⟩
  | 22, _, _ => exact ⟨_, rfl, fun _ => ⟨_, rfl⟩, fun h => by omega⟩
  | 23, _, _ => exact ⟨_, rfl, fun _ => ⟨_, rfl⟩, fun h => by omega⟩
  | 24, _, _ => exact ⟨_, rfl, fun _ => ⟨_, rfl⟩, fun h => by omega⟩
  | k + 25, _, h => exact absurd h (by omega)
theorem sh_arraylength (hi : aIns m pc = some (.arraylength, n)) (h : FT Sh (TI .arraylength n d m pc ls st I) Q) : Sh (d, m, pc, ls, st, I) Q := by
  obtain ⟨c0, r, rfl, hh⟩ := aRef_inv h
  replace h := hh
  cases hb0 : (Nat.ble 1020 c0 && Nat.blt c0 1026) with
  | true =>
    rw [hb0] at h
    obtain ⟨rfl, h⟩ := h
    simp only [Bool.and_eq_true, Nat.ble_eq, Nat.blt_eq] at hb0
    obtain ⟨i, hi6, rfl⟩ := aNat6 1020 c0 hb0.1 hb0.2
    rw [show 1020 + i - 1020 = i by omega] at h
    intro g p l e R s0 mi args below meth c H locs cells slots Z lsA C w ol hS hl hb
    have h' := h g p l e R s0 mi args below meth c H locs cells slots Z lsA C w ol hS hl hb
    show W p l e R s0 mi args below meth c H locs cells slots Z (F0 mi pc lsA (trv g (.ref (1020 + i)) :: r.map (trv g)))
    rw [trv_old (by omega) (by omega), show 1020 + i - 1000 = 20 + i by omega]
    have hT := (ol.2.2.2.2.2.1.1 i hi6).2.2.2
    rw [(aStrLen hi6).1] at hT
    exact va_tlen C.1 C.2.1 hT hS rfl (aIns_decode hi) h'
  | false =>
    rw [hb0] at h
    obtain ⟨⟨rfl, hk, hn⟩, h⟩ := h
    intro g p l e R s0 mi args below meth c H locs cells slots Z lsA C w ol hS hl hb
    have h' := h g p l e R s0 mi args below meth c H locs cells slots Z lsA C w ol hS hl hb
    show W p l e R s0 mi args below meth c H locs cells slots Z (F0 mi pc lsA (trv g (.ref c0) :: r.map (trv g)))
    by_cases h0 : c0 = 1000
    · subst h0
      rw [trv_old (by decide) (by decide)]
      exact va_slen C.1 C.2.1 (aX0 w.2.2 ol.2.1 ol.2.2.1 hS) (Nat.lt_of_lt_of_le ol.2.1 ol.2.2.1) (Nat.not_le.mpr ol.2.1) hS (aIns_decode hi) h'
    · by_cases h1 : c0 = 1001
      · subst h1
        rw [trv_old (by decide) (by decide)]
        exact va_tlen C.1 C.2.1 ol.2.2.2.2.1 hS rfl (aIns_decode hi) h'
      · have hs : 20 ≤ aShp c0 ∧ aShp c0 ≤ 24 := by
          rcases hk with (e | e | e) | e
          · exact absurd e h0
          · exact absurd e h1
          · omega
          · exact e
        have hc := aShp_lt (c := c0) rfl (by omega)
        rw [trv_in hc]
        have he := aW_at g I hc
        have hal : aAl I c0 = aLen c0 := by unfold aAl; rw [if_neg h0, if_neg h1]
        obtain ⟨ty, t1, -, -⟩ := gTys_at (g := g) hs.1 hs.2
        by_cases h20 : aShp c0 = 20
        · rw [aEn_ints h20] at he
          exact va_alen C.1 C.2.1 w.2.1 w.1 c0 0 he (ty := .int) rfl (v := nI (aAl I c0)) (by rw [hal]; rfl) (aIns_decode hi) h'
        · rw [aEn_refs rfl (by omega)] at he
          exact va_alen C.1 C.2.1 w.2.1 w.1 c0 (aShp c0 - 20) he t1 (v := nI (aAl I c0)) (by rw [hal]; rfl) (aIns_decode hi) h'
theorem sh_iaload (hi : aIns m pc = some (.iaload, n)) (h : FT Sh (TI .iaload n d m pc ls st I) Q) : Sh (d, m, pc, ls, st, I) Q := by
  unfold TI at h
  dsimp only at h
  split at h
  · rename_i j c0 r
    obtain ⟨⟨rfl, hk, hin⟩, h⟩ := h
    intro g p l e R s0 mi args below meth c H locs cells slots Z lsA C w ol hS hl hb
    have h' := h g p l e R s0 mi args below meth c H locs cells slots Z lsA C w ol hS hl hb
    show W p l e R s0 mi args below meth c H locs cells slots Z (F0 mi pc lsA (.int j :: trv g (.ref c0) :: r.map (trv g)))
    by_cases h0 : c0 = 1000
    · subst h0
      rw [trv_old (by decide) (by decide)]
      exact va_sld C.1 C.2.1 (aX0 w.2.2 ol.2.1 ol.2.2.1 hS) (Nat.lt_of_lt_of_le ol.2.1 ol.2.2.1) (Nat.not_le.mpr ol.2.1) hS hin (aIns_decode hi) h'
    · by_cases h1 : c0 = 1001
      · subst h1
        rw [trv_old (by decide) (by decide)]
        exact va_ti C.1 C.2.1 ol.2.2.2.2.1 hS hin rfl (aIns_decode hi) h'
      · have h20 : aShp c0 = 20 := by
          rcases hk with e | e | e
          · exact absurd e h0
          · exact absurd e h1
          · exact e
        have hc := aShp_lt h20 (by decide)
        rw [trv_in hc]
        have he := aW_at g I hc
        rw [aEn_ints h20] at he
        have hal : aAl I c0 = aLen c0 := by unfold aAl; rw [if_neg h0, if_neg h1]
        rw [hal] at hin
        have hrd : aRd I c0 j.toNatClampNeg = I c0 j.toNatClampNeg := by unfold aRd; rw [if_neg h1]
        have h'' : W p l e R s0 mi args below meth c H locs cells slots Z (F0 mi (pc + 1) lsA (.int (aRd I c0 j.toNatClampNeg) :: r.map (trv g))) := h'
        rw [hrd] at h''
        exact va_iald C.1 C.2.1 w.2.1 w.1 c0 0 he rfl hin (aIns_decode hi) h''
  · exact absurd h.1 id
theorem sh_baload (hi : aIns m pc = some (.baload, n)) (h : FT Sh (TI .baload n d m pc ls st I) Q) : Sh (d, m, pc, ls, st, I) Q := by
  unfold TI at h
  dsimp only at h
  split at h
  · rename_i j c0 r
    obtain ⟨⟨rfl, h1, h2, hin⟩, h⟩ := h
    obtain ⟨i, hi6, rfl⟩ := aNat6 1020 c0 h1 h2
    rw [show 1020 + i - 1020 = i by omega] at h hin
    intro g p l e R s0 mi args below meth c H locs cells slots Z lsA C w ol hS hl hb
    have h' := h g p l e R s0 mi args below meth c H locs cells slots Z lsA C w ol hS hl hb
    show W p l e R s0 mi args below meth c H locs cells slots Z (F0 mi pc lsA (.int j :: trv g (.ref (1020 + i)) :: r.map (trv g)))
    rw [trv_old (by omega) (by omega), show 1020 + i - 1000 = 20 + i by omega]
    have hT := (ol.2.2.2.2.2.1.1 i hi6).2.2.2
    rw [(aStrLen hi6).1, (aStrLen hi6).2] at hT
    exact va_tb C.1 C.2.1 hT hS hin rfl (aIns_decode hi) h'
  · exact absurd h.1 id
theorem sh_aaload (hi : aIns m pc = some (.aaload, n)) (h : FT Sh (TI .aaload n d m pc ls st I) Q) : Sh (d, m, pc, ls, st, I) Q := by
  unfold TI at h
  dsimp only at h
  split at h
  · rename_i j c0 r
    obtain ⟨⟨rfl, h1, h2, hin⟩, h⟩ := h
    intro g p l e R s0 mi args below meth c H locs cells slots Z lsA C w ol hS hl hb
    have h' : W p l e R s0 mi args below meth c H locs cells slots Z (F0 mi (pc + 1) lsA (trv g (.ref (aRf c0 j.toNatClampNeg)) :: r.map (trv g))) := h g p l e R s0 mi args below meth c H locs cells slots Z lsA C w ol hS hl hb
    rw [trv_in (aRf_lt _ _)] at h'
    show W p l e R s0 mi args below meth c H locs cells slots Z (F0 mi pc lsA (.int j :: trv g (.ref c0) :: r.map (trv g)))
    have hc := aShp_lt (c := c0) rfl (by omega)
    rw [trv_in hc]
    have he := aW_at g I hc
    rw [aEn_refs rfl h1] at he
    obtain ⟨ty, t1, t2, -⟩ := gTys_at (g := g) (s := aShp c0) (by omega) h2
    obtain ⟨Cn, rfl⟩ := t2 h1
    exact va_aldq C.1 C.2.1 w.2.1 w.1 c0 (aShp c0 - 20) he t1 hin (aIns_decode hi) h'
  · exact absurd h.1 id
theorem sh_iastore (hi : aIns m pc = some (.iastore, n)) (h : FT Sh (TI .iastore n d m pc ls st I) Q) : Sh (d, m, pc, ls, st, I) Q := by
  unfold TI at h
  dsimp only at h
  split at h
  · rename_i v j c0 r
    obtain ⟨⟨rfl, h20, hin⟩, h⟩ := h
    intro g p l e R s0 mi args below meth c H locs cells slots Z lsA C w ol hS hl hb
    show W p l e R s0 mi args below meth c H locs cells slots Z (F0 mi pc lsA (.int v :: .int j :: trv g (.ref c0) :: r.map (trv g)))
    have hc := aShp_lt h20 (by decide)
    rw [trv_in hc]
    have he := aW_at g I hc
    rw [aEn_ints h20] at he
    refine va_iast C.1 C.2.1 w.2.1 w.1 (aW_D g I) hS c0 0 he rfl hin (aIns_decode hi) (fun H1 locs1 hP1 _ hS1 => ?_)
    exact h g p l e R s0 mi args below meth c H1 locs1 cells slots Z lsA C (w.row (row := upd (I c0) j.toNatClampNeg v) hc ol.2.1 ol.2.2.1 hS hS1 (by rw [aEn_ints h20]) hP1) ol hS1 hl hb
  · exact absurd h.1 id
theorem aCst_ok {m x : Nat} {v : Int32 × Nat} (h : aCst (aCo m) x = some v) : Cond.constant (aCls m) x v.1 ∈ aTG := by
  obtain ⟨h1, h2⟩ := aBlk h
  have h3 := List.all_eq_true.mp aCstAll _ h1
  dsimp only at h3
  rw [(aOwn_key h2).1, (aOwn_key h2).2] at h3
  exact aInT_mem h3
theorem aCsl_ok {m x : Nat} {v : Int64 × Nat} (h : aCsl (aCo m) x = some v) : Cond.constantLong (aCls m) x v.1 ∈ aTG := by
  obtain ⟨h1, h2⟩ := aBlk h
  have h3 := List.all_eq_true.mp aCslAll _ h1
  dsimp only at h3
  rw [(aOwn_key h2).1, (aOwn_key h2).2] at h3
  exact aInT_mem h3
theorem aStrLAll : aStrL.all (fun q => decide (q.1 / 10000 = 3 ∧ q.2 < 6 ∧ aStrIx q.2 = q.1 % 10000)) = true := by decide +kernel
theorem sh_ldc {x : Nat} (hi : aIns m pc = some (.ldc x, n)) (h : FT Sh (TI (.ldc x) n d m pc ls st I) Q) : Sh (d, m, pc, ls, st, I) Q := by
  unfold TI at h
  dsimp only at h
  cases hc : aCst (aCo m) x with
  | some v =>
    rw [hc] at h
    obtain ⟨rfl, h⟩ := h
    intro g p l e R s0 mi args below meth c H locs cells slots Z lsA C w ol hS hl hb
    exact lv_ldc C.1 C.2.1 C.2.2.2.1 (C.2.2.2.2.1 _ (aCst_ok hc)) (aIns_decode hi) (h g p l e R s0 mi args below meth c H locs cells slots Z lsA C w ol hS hl hb)
  | none =>
    rw [hc] at h
    dsimp only at h
    cases hs : aStr (aCo m) x with
    | none => rw [hs] at h; exact absurd h.1 id
    | some j =>
      rw [hs] at h
      obtain ⟨rfl, h⟩ := h
      obtain ⟨h1, h2⟩ := aBlk hs
      have h3 := List.all_eq_true.mp aStrLAll _ h1
      simp only [decide_eq_true_eq] at h3
      obtain ⟨h4, h5, h6⟩ := h3
      rw [(aOwn_key h2).2] at h6
      rw [show (10000 * aCo m + x) / 10000 = aCo m by omega] at h4
      intro g p l e R s0 mi args below meth c H locs cells slots Z lsA C w ol hS hl hb
      have h' : W p l e R s0 mi args below meth c H locs cells slots Z (F0 mi (pc + 2) lsA (trv g (.ref (1010 + j)) :: st.map (trv g))) := h g p l e R s0 mi args below meth c H locs cells slots Z lsA C w ol hS hl hb
      rw [trv_old (by omega) (by omega), show 1010 + j - 1000 = 10 + j by omega] at h'
      have ho := C.2.2.2.1
      have hcl : aCls m = RX3 := by unfold aCls; rw [h4]; rfl
      rw [hcl] at ho
      have hR := ol.2.2.2.2.2.2.1 j h5
      rw [h6] at hR
      exact va_ldcS C.1 C.2.1 ho hR (aIns_decode hi) h'
theorem sh_ldc_w {x : Nat} (hi : aIns m pc = some (.ldc_w x, n)) (h : FT Sh (TI (.ldc_w x) n d m pc ls st I) Q) : Sh (d, m, pc, ls, st, I) Q := by
  unfold TI at h
  dsimp only at h
  cases hc : aCst (aCo m) x with
  | some v =>
    rw [hc] at h
    obtain ⟨rfl, h⟩ := h
    intro g p l e R s0 mi args below meth c H locs cells slots Z lsA C w ol hS hl hb
    exact lv_ldcw C.1 C.2.1 C.2.2.2.1 (C.2.2.2.2.1 _ (aCst_ok hc)) (aIns_decode hi) (h g p l e R s0 mi args below meth c H locs cells slots Z lsA C w ol hS hl hb)
  | none => rw [hc] at h; exact absurd h.1 id
theorem sh_ldc2_w {x : Nat} (hi : aIns m pc = some (.ldc2_w x, n)) (h : FT Sh (TI (.ldc2_w x) n d m pc ls st I) Q) : Sh (d, m, pc, ls, st, I) Q := by
  unfold TI at h
  dsimp only at h
  cases hc : aCsl (aCo m) x with
  | some v =>
    rw [hc] at h
    obtain ⟨rfl, h⟩ := h
    intro g p l e R s0 mi args below meth c H locs cells slots Z lsA C w ol hS hl hb
    exact lv_ldc2 C.1 C.2.1 C.2.2.2.1 (C.2.2.2.2.1 _ (aCsl_ok hc)) (aIns_decode hi) (h g p l e R s0 mi args below meth c H locs cells slots Z lsA C w ol hS hl hb)
  | none => rw [hc] at h; exact absurd h.1 id
/-! switches -/
theorem aOfInt_eq {x : Int32} {k : Int} (h1 : -2147483648 ≤ k) (h2 : k ≤ 2147483647) : x = Int32.ofInt k ↔ x.toInt = k := by
  constructor
  · rintro rfl
    exact Int32.toInt_ofInt_of_le (by simpa using h1) (by
      have : (2 : Int) ^ 31 = 2147483648 := by decide
      omega)
  · intro h
    apply Int32.toInt_inj.mp
    rw [h]
    exact (Int32.toInt_ofInt_of_le (by simpa using h1) (by
      have : (2 : Int) ^ 31 = 2147483648 := by decide
      omega)).symm
theorem aTsel_spec (pc : Nat) (dflt : Int) (x : Int32) : ∀ (os : List Int) (lo : Int), -2147483648 ≤ lo → lo + os.length ≤ 2147483647 →
    ((x.toInt < lo ∨ lo + os.length ≤ x.toInt) → aTsel pc dflt x os (Int32.ofInt lo) = aTg pc dflt) ∧ (∀ o, lo ≤ x.toInt → os[(x.toInt - lo).toNat]? = some o → aTsel pc dflt x os (Int32.ofInt lo) = aTg pc o) := by
  intro os
  induction os with
  | nil => intro lo _ _; exact ⟨fun _ => rfl, fun o _ h => by simp at h⟩
  | cons a os ih =>
    intro lo h1 h2
    simp only [List.length_cons] at h2 ⊢
    have e := aOfInt_eq (x := x) h1 (by omega)
    have e2 : Int32.ofInt lo + 1 = Int32.ofInt (lo + 1) := by rw [Int32.ofInt_add]; rfl
    have ih' := ih (lo + 1) (by omega) (by omega)
    unfold aTsel
    rw [e2]
    refine ⟨fun h => ?_, fun o h3 h4 => ?_⟩
    · rw [if_neg (fun q => by have := e.mp q; omega)]
      exact ih'.1 (by omega)
    · by_cases hx : x.toInt = lo
      · rw [if_pos (e.mpr hx)]
        rw [hx, show (lo - lo).toNat = 0 by omega] at h4
        cases h4
        rfl
      · rw [if_neg (fun q => hx (e.mp q))]
        refine ih'.2 o (by omega) ?_
        rw [show (x.toInt - lo).toNat = (x.toInt - (lo + 1)).toNat + 1 by omega] at h4
        exact h4
theorem sh_tableswitch {dflt lo hi' : Int} {offs : Array Int} (hi : aIns m pc = some (.tableswitch dflt lo hi' offs, n)) (h : FT Sh (TI (.tableswitch dflt lo hi' offs) n d m pc ls st I) Q) : Sh (d, m, pc, ls, st, I) Q := by
  obtain ⟨x, r, rfl, ⟨h1, h2, h3, h4, h5, h6⟩, h⟩ := aUni_inv h
  have hsz : (offs.toList.length : Int) = hi' + 1 - lo := by rw [Array.length_toList]; exact h4
  obtain ⟨s1, s2⟩ := aTsel_spec pc dflt x offs.toList lo h1 (by omega)
  intro g p l e R s0 mi args below meth c H locs cells slots Z lsA C w ol hS hl hb
  have h' : W p l e R s0 mi args below meth c H locs cells slots Z (F0 mi (aTsel pc dflt x offs.toList (Int32.ofInt lo)) lsA (r.map (trv g))) := h g p l e R s0 mi args below meth c H locs cells slots Z lsA C w ol hS hl hb
  by_cases hx : x.toInt < lo ∨ hi' < x.toInt
  · rw [s1 (by omega)] at h'
    exact lv_tableOut C.1 C.2.1 (aIns_decode hi) hx (aTg_eq h5) h'
  · have hlt : (x.toInt - lo).toNat < offs.toList.length := by omega
    have ho : offs.toList[(x.toInt - lo).toNat]? = some offs.toList[(x.toInt - lo).toNat] := List.getElem?_eq_getElem hlt
    rw [s2 _ (by omega) ho] at h'
    have hm : aTk pc offs.toList[(x.toInt - lo).toNat] := h6 _ (List.getElem_mem hlt)
    exact lv_tableIn C.1 C.2.1 (aIns_decode hi) (by omega) (by omega) (by rw [← Array.getElem?_toList]; exact ho) (aTg_eq hm) h'
theorem aLsel_spec (pc : Nat) (dflt : Int) (x : Int32) (hd : aTk pc dflt) : ∀ (ps : List (Int × Int)), (∀ o ∈ ps, -2147483648 ≤ o.1 ∧ o.1 ≤ 2147483647 ∧ aTk pc o.2) → aLsel pc dflt x ps = aTg pc (Op.lookupswitch.offset ps dflt x.toInt) ∧ aTk pc (Op.lookupswitch.offset ps dflt x.toInt) := by
  intro ps
  induction ps with
  | nil => intro _; exact ⟨rfl, hd⟩
  | cons a ps ih =>
    intro h
    obtain ⟨a1, a2⟩ := a
    obtain ⟨q1, q2, q3⟩ := h (a1, a2) List.mem_cons_self
    have ih' := ih (fun o ho => h o (List.mem_cons_of_mem _ ho))
    have e := aOfInt_eq (x := x) q1 q2
    unfold aLsel
    rw [Op.lookupswitch.offset_cons]
    by_cases hx : a1 = x.toInt
    · rw [if_pos hx, if_pos (e.mpr hx.symm)]
      exact ⟨rfl, q3⟩
    · rw [if_neg hx, if_neg (fun q => hx (e.mp q).symm)]
      exact ih'
theorem sh_lookupswitch {dflt : Int} {ps : Array (Int × Int)} (hi : aIns m pc = some (.lookupswitch dflt ps, n)) (h : FT Sh (TI (.lookupswitch dflt ps) n d m pc ls st I) Q) : Sh (d, m, pc, ls, st, I) Q := by
  obtain ⟨x, r, rfl, ⟨h1, h2, h3⟩, h⟩ := aUni_inv h
  obtain ⟨s1, s2⟩ := aLsel_spec pc dflt x h2 ps.toList h3
  intro g p l e R s0 mi args below meth c H locs cells slots Z lsA C w ol hS hl hb
  have h' : W p l e R s0 mi args below meth c H locs cells slots Z (F0 mi (aLsel pc dflt x ps.toList) lsA (r.map (trv g))) := h g p l e R s0 mi args below meth c H locs cells slots Z lsA C w ol hS hl hb
  rw [s1] at h'
  exact lv_lookup C.1 C.2.1 (aIns_decode hi) h1 rfl (aTg_eq s2) h'
/-! returns -/
theorem sh_ireturn (hi : aIns m pc = some (.ireturn, n)) (h : FT Sh (TI .ireturn n d m pc ls st I) Q) : Sh (d, m, pc, ls, st, I) Q := by
  unfold TI at h
  dsimp only at h
  split at h
  · rename_i v
    obtain ⟨⟨rfl, hn⟩, h⟩ := h
    intro g p l e R s0 mi args below meth c H locs cells slots Z lsA C w ol hS hl hb
    have h' := hb (.int v) I H locs pc lsA _ h w hS hi ⟨v, rfl, hn⟩
    unfold aRst at h'
    rw [if_neg (fun e => by have hn' : aNar (aRet m) v := hn; rw [e] at hn'; exact hn')] at h'
    exact h'
  · exact absurd h.1 id
theorem sh_return_ (hi : aIns m pc = some (.return_, n)) (h : FT Sh (TI .return_ n d m pc ls st I) Q) : Sh (d, m, pc, ls, st, I) Q := by
  unfold TI at h
  dsimp only at h
  split at h
  · obtain ⟨⟨rfl, hn⟩, h⟩ := h
    intro g p l e R s0 mi args below meth c H locs cells slots Z lsA C w ol hS hl hb
    have h' := hb .null I H locs pc lsA _ h w hS hi hn
    unfold aRst at h'
    rw [if_pos hn] at h'
    exact h'
  · exact absurd h.1 id
theorem sh_areturn (hi : aIns m pc = some (.areturn, n)) (h : FT Sh (TI .areturn n d m pc ls st I) Q) : Sh (d, m, pc, ls, st, I) Q := by
  unfold TI at h
  dsimp only at h
  split at h
  · rename_i v
    obtain ⟨⟨rfl, hn1, hn2⟩, h⟩ := h
    intro g p l e R s0 mi args below meth c H locs cells slots Z lsA C w ol hS hl hb
    have h' := hb v I H locs pc lsA _ h w hS hi ⟨hn1, hn2⟩
    unfold aRst at h'
    rw [if_neg (fun e => by rcases hn2 with ⟨k, q⟩ | ⟨k, q⟩ <;> (rw [show aRet m = none from e] at q; cases q))] at h'
    exact h'
  · exact absurd h.1 id
theorem sh_lreturn (hi : aIns m pc = some (.lreturn, n)) (h : FT Sh (TI .lreturn n d m pc ls st I) Q) : Sh (d, m, pc, ls, st, I) Q := by
  unfold TI at h
  dsimp only at h
  split at h
  · rename_i v
    obtain ⟨⟨rfl, hn⟩, h⟩ := h
    intro g p l e R s0 mi args below meth c H locs cells slots Z lsA C w ol hS hl hb
    have h' := hb (.long v) I H locs pc lsA _ h w hS hi ⟨v, rfl, hn⟩
    unfold aRst at h'
    rw [if_neg (fun e => by rw [show aRet m = none from e] at hn; cases hn)] at h'
    exact h'
  · exact absurd h.1 id
end SH2
end
section
theorem aCpL : aInT 850 (.methodLink RX7 267 arraycopyName) = true := by decide +kernel
theorem aCpN : aInT 852 (.native arraycopyName) = true := by decide +kernel
theorem aCpS : aInT 851 (.static arraycopyName) = true := by decide +kernel
theorem aCpIn : aInT 76 (.initialized "java/lang/System") = true := by decide +kernel
/-! calls; the abstract machine is sound -/
def aWs (m : Nat) : List Cond := .code (aName m) (aBytes m) (aML m) (aRet m) :: aTG
def aRm (d : Nat) : Room := { frames := d, cells := 0, slots := 0, locals := 60 * d }
def aPcd (g : GG) (I : IM) (as : List Value) : Array Value → State → Prop := va_Pc (as.map (trv g)) (fun U => aWorld g I U.heap U ∧ aOld g U U.heap)
def aQc (g : GG) (m : Nat) (Q : Po) : Array Value → State → Outcome → State → Prop := fun _ st o t => (∃ (r : Value) (I : IM), o = .returned (if aRet m = none then none else some (trv g r)) ∧ Q r I ∧ aWorld g I t.heap t) ∧ va_F (gA g) st t
theorem aMck_ok {m : Nat} (h : m < aN - 1) : Cond.code (aName m) (aBytes m) (aML m) (aRet m) ∈ aTG ∧ Cond.initialized (aName m).cls ∈ aTG ∧ ((aName m).cls ≠ "java/lang/invoke/MethodHandle" ∧ (aName m).cls ≠ "java/lang/invoke/VarHandle") ∧ (parseMethodDescriptor (aName m).desc).map (fun d => d.parameters.length) = some (aNp m) ∧ plainName (aName m).cls = true ∧ (aName m).cls = aCls m ∧ aML m ≤ 40 := by
  have h1 := aMckAll h
  unfold aMck at h1
  simp only [Bool.and_eq_true, decide_eq_true_eq] at h1
  obtain ⟨⟨⟨⟨⟨⟨a, b⟩, c⟩, d⟩, e⟩, f⟩, k⟩ := h1
  exact ⟨aInT_mem a, aInT_mem b, c, d, e, f, k⟩
theorem aGoodIn {ws : List Cond} (h : ∀ w ∈ ws, w ∈ aTG) : GoodIn aTG ws := fun w hw => ⟨h w hw, good_of_word (List.mem_filter.mp (h w hw)).2⟩
theorem aBlind (g : GG) (I : IM) (as : List Value) : FrameBlind (aPcd g I as) := by
  intro a U g' mk ⟨q1, q2, q3⟩
  exact ⟨q1, aWorld.moved (u := U) (U := U.calling g' mk a) (Vm.Alike.refl U.vm) q2, aOld.go (s := U) (t := U.calling g' mk a) q3 (State.WarmedH.refl U) (Nat.le_refl _) (fun _ _ _ => rfl)⟩
set_option maxHeartbeats 1000000 in
theorem aMet {g : GG} (l : Launch) {d m : Nat} {as : List Value} {I : IM} {Q : Po} (hm : m < aN - 1) (hS : Sh (d, m, 0, aEnt m as, [], I) Q) (hlen : (aLay as).length ≤ aML m) : Met l (aName m) (aWs m) (aRm d) (aPcd g I as) (aQc g m Q) 0 0 (gA g) := by
  obtain ⟨k1, k2, k3, k4, k5, k6, k7⟩ := aMck_ok hm
  refine Met.ofW (cc := aBytes m) (maxL := aML m) (ret := aRet m) k5 rfl ?_
  intro p e s mi args below meth c s₁ B hml hv
  obtain ⟨rfl, hw, ho⟩ := hv
  have hts0 := atoms_spec (ws := aWs m) B.pre
  have hts : ∀ w ∈ aTG, w.before (as.map (trv g)).toArray s = true := fun w h => hts0 w (List.mem_cons_of_mem _ h)
  have hown : s.vm.findClass (aCls m) = some mi.cls := by rw [← k6]; exact findClass_of_methodNamed B.named
  have hlocks := B.notSynchronized
  have hr := B.returns
  have hx := B.exec
  have hb := B.bytes
  rw [lg_entry_eq]
  refine hS g p l e _ s mi _ below meth c s.heap [] 0 0 _ _ ⟨hx, hb, hml, hown, hts, Nat.le_refl _, Nat.le_refl _, Nat.zero_le _, Nat.zero_le _⟩ hw ho va_S.rf (aLoc_ent g ho.1 hlen) ?_
  intro r I' H' locs' pc' lsA' i hq hw' hS' hi' hok
  have fin : ∀ (v : Option Value) (t : State), t.heap = H' → s.WarmedH t.vm → v = (if aRet m = none then none else some (trv g r)) → aQc g m Q (as.map (trv g)).toArray s (.returned v) t := fun v t ht hW hv => ⟨⟨r, I', by rw [hv], hq, by rw [ht]; exact hw'.moved hW.alike⟩, hS'.F ht⟩
  show W p l e _ s mi _ below meth c H' locs' 0 0 (MQ below (aQc g m Q) (as.map (trv g)).toArray s 0 0 (gA g)) (F0 mi pc' lsA' (aRst g m r))
  have hd := aIns_decode hi'
  cases i with
  | ireturn =>
    obtain ⟨v, rfl, hn⟩ := hok
    cases hR : aRet m with
    | none => rw [hR] at hn; exact absurd hn id
    | some ty =>
      rw [hR] at hn
      have e1 : aRst g m (.int v) = [.int v] := by unfold aRst; rw [hR]; rfl
      rw [e1]
      exact W.zret hx hb (by rw [hr, hR]) hn (fun t ht hW => fin _ t ht hW (by rw [hR]; rfl)) hS'.2.2 hd
  | return_ =>
    have hR : aRet m = none := hok
    have e1 : aRst g m r = [] := by unfold aRst; rw [if_pos hR]
    rw [e1]
    exact W.vret hx hb (by rw [hr, hR]) (fun t ht hW => fin _ t ht hW (by rw [if_pos hR])) hS'.2.2 hd
  | areturn =>
    obtain ⟨hv, hR⟩ := hok
    have hne : ¬ aRet m = none := by rcases hR with ⟨k, q⟩ | ⟨k, q⟩ <;> (rw [q]; intro z; cases z)
    have e1 : aRst g m r = [trv g r] := by unfold aRst; rw [if_neg hne]
    rw [e1]
    rcases hR with ⟨k, q⟩ | ⟨k, q⟩
    · exact W.aret hx hb (rt := .object k) (by rw [hr, q]) (Or.inl ⟨_, rfl⟩) (aIsR_cases ho.1 hv) (fun t ht hW => fin _ t ht hW (by rw [if_neg hne])) hS'.2.2 hd
    · exact W.aret hx hb (rt := .array k) (by rw [hr, q]) (Or.inr ⟨_, rfl⟩) (aIsR_cases ho.1 hv) (fun t ht hW => fin _ t ht hW (by rw [if_neg hne])) hS'.2.2 hd
  | lreturn =>
    obtain ⟨v, rfl, hR⟩ := hok
    have e1 : aRst g m (.long v) = [.long v] := by unfold aRst; rw [hR]; rfl
    rw [e1]
    exact W.lret hx hb (by rw [hr, hR]) (fun t ht hW => fin _ t ht hW (by rw [hR]; rfl)) hS'.2.2 hd
  | _ => exact absurd hok id
section SH3
variable {d m pc n : Nat} {ls st : List Value} {I : IM} {Q : Po}
theorem aRunW {g : GG} {p : Program} {l : Launch} {e : Env} {R : Room} {s0 : State} {mi : MethodId} {args : Array Value} {below : List Frame} {meth : Method} {c : Code} {H : Heap} {locs : List Loc} {cells slots : Nat} {Z : State → Prop} {lsA : Array Slot} {m' : Nat} {Q' : Po} {a : Array Value} {st0 rest : List Value}
    (hr : va_Run p l e R s0 mi args below meth c H locs cells slots 0 0 (F0 mi pc lsA st0) rest (aQc g m' Q' a) (gA g)) (hS : va_S (gA g) s0.heap H locs)
    (kk : ∀ (r : Value) (I' : IM) (H1 : Heap) (locs1 : List Loc), Q' r I' → aWorld g I' H1 s0 → va_S (gA g) s0.heap H1 locs1 → W p l e R s0 mi args below meth c H1 locs1 cells slots Z (F0 mi (pc + 3) lsA (if aRet m' = none then rest else trv g r :: rest))) : W p l e R s0 mi args below meth c H locs cells slots Z (F0 mi pc lsA st0) := by
  intro T hT X
  obtain ⟨v, st₀, t, T', L, h0, X', hL, e1, e2, ⟨⟨r, I', hv, hq, hw⟩, hz, hk⟩, st⟩ := hr T hT X
  rw [h0] at hz hk
  have hv' : v = (if aRet m' = none then none else some (trv g r)) := by injection hv
  have hvm : t.vm.Alike s0.vm := by rw [← e2]; exact X'.warmed.alike.symm
  obtain ⟨t2, a1, b1⟩ := kk r I' T'.heap (locs ++ L) hq (by rw [e1]; exact hw.moved hvm)
    ⟨Nat.le_trans hS.1 (by rw [e1]; exact hz), fun q h1 h2 => by rw [e1, hk q (Nat.lt_of_lt_of_le h1 hS.1) h2]; exact hS.2.1 q h1 h2, fun q hq => by
      rcases List.mem_append.mp hq with h | h
      · exact hS.2.2 q h
      · exact hL q h⟩ T' rfl X'
  refine ⟨t2, st t2 ?_, b1⟩
  have e3 : v.toList ++ rest = (if aRet m' = none then rest else trv g r :: rest) := by
    rw [hv']
    by_cases hn : aRet m' = none
    · rw [if_pos hn, if_pos hn]; rfl
    · rw [if_neg hn, if_neg hn]; rfl
  show Steps p.tables e below (T'.setTop { (F0 mi pc lsA st0) with pc := pc + 3, stack := v.toList ++ rest }) t2
  rw [e3]
  exact a1
theorem aPre {g : GG} {s0 : State} {H : Heap} {locs : List Loc} {I : IM} {as : List Value} (w : aWorld g I H s0) (ol : aOld g s0 s0.heap) (hS : va_S (gA g) s0.heap H locs) : ∀ U : State, U.heap = H → s0.WarmedH U.vm → aPcd g I as (as.map (trv g)).toArray U := by
  intro U hU hW
  refine ⟨rfl, ?_, ?_⟩
  · rw [hU]; exact w.moved hW.alike
  · rw [hU]; exact ol.go hW hS.1 hS.2.1
theorem aBackW {g : GG} {p : Program} {l : Launch} {e : Env} {R : Room} {s0 : State} {mi : MethodId} {args : Array Value} {below : List Frame} {meth : Method} {c : Code} {H : Heap} {locs : List Loc} {cells slots : Nat} {Z : State → Prop} {lsA : Array Slot} {m' k : Nat} {Q' : Po} {a : Array Value}
    (C : aCx g p R s0 mi args c cells slots d m) (ol : aOld g s0 s0.heap) (hS : va_S (gA g) s0.heap H locs) (hl : aLoc g lsA (aML m) ls) (hb : aBk g m Q p l e R s0 mi args below meth c cells slots Z)
    (h2 : ∀ r I', Q' r I' → Sh (d, m, pc + 3, ls, if aRet m' = none then st.drop k else r :: st.drop k, I') Q)
    (hr : va_Run p l e R s0 mi args below meth c H locs cells slots 0 0 (F0 mi pc lsA (st.map (trv g))) ((st.drop k).map (trv g)) (aQc g m' Q' a) (gA g)) : W p l e R s0 mi args below meth c H locs cells slots Z (F0 mi pc lsA (st.map (trv g))) := by
  refine aRunW hr hS (fun r I' H1 locs1 hq w1 hS1 => ?_)
  have h3 := h2 r I' hq g p l e R s0 mi args below meth c H1 locs1 cells slots Z lsA C w1 ol hS1 hl hb
  have e4 : (if aRet m' = none then st.drop k else r :: st.drop k).map (trv g) = (if aRet m' = none then (st.drop k).map (trv g) else trv g r :: (st.drop k).map (trv g)) := by
    by_cases hn : aRet m' = none
    · rw [if_pos hn, if_pos hn]
    · rw [if_neg hn, if_neg hn]; rfl
  have h4 : W p l e R s0 mi args below meth c H1 locs1 cells slots Z (F0 mi (pc + 3) lsA ((if aRet m' = none then st.drop k else r :: st.drop k).map (trv g))) := h3
  rw [e4] at h4
  exact h4
theorem aSplit (g : GG) (st : List Value) (k : Nat) : st.map (trv g) = (((st.take k).reverse).map (trv g)).reverse ++ (st.drop k).map (trv g) := by
  rw [← List.map_reverse, List.reverse_reverse, ← List.map_append, List.take_append_drop]
theorem aGoS {x m' k0 i1 i2 i3 : Nat} (hi : aIns m pc = some (.invokestatic x, 3)) (hc : aCall (aCo m) x = some (k0, m', i1, i2, i3)) (hk : k0 = 0 ∨ k0 = 1) (h : FT Sh (aGo d m pc ls st I m' (aNp m')) Q) : Sh (d, m, pc, ls, st, I) Q := by
  obtain ⟨⟨hd, hn, hcat, hlay, hok⟩, Q', h1, h2⟩ := h
  obtain ⟨c1, c2⟩ := aBlk hc
  have c3 := aCallAll _ c1
  intro g p l e R s0 mi args below meth c H locs cells slots Z lsA C w ol hS hl hb
  refine aBackW (Q' := Q') (a := ((((st.take (aNp m')).reverse).map (trv g))).toArray) (st := st) (k := aNp m') (m' := m') C ol hS hl hb h2 ?_
  have hlen : (((st.take (aNp m')).reverse).map (trv g)).length = aNp m' := by simp; omega
  have hcat' : 2 * (F0 mi pc lsA (st.map (trv g))).monitorRoom + (((st.drop (aNp m')).map (trv g)).map fun v => v.category).sum ≤ 8 := lv_room (by rw [aCat_trv ol.1]; exact hcat)
  have S : CallFix p mi c (aBytes m) (aML m) s0 args aTG (aCls m) := ⟨C.1, C.2.1, C.2.2.1, C.2.2.2.1, C.2.2.2.2.1⟩
  have hce := C.2.2.2.2.2.2.2.1
  have hsl := C.2.2.2.2.2.2.2.2
  have hfr := C.2.2.2.2.2.1
  have hlo := C.2.2.2.2.2.2.1
  have hp : PreS s0 H (aPcd g I (st.take (aNp m')).reverse) (((st.take (aNp m')).reverse).map (trv g)) := ⟨aBlind g I _, aPre w ol hS⟩
  rcases hk with rfl | rfl
  · unfold aCallCk at c3
    dsimp only at c3
    rw [(aOwn_key c2).1, (aOwn_key c2).2] at c3
    simp only [Bool.and_eq_true, decide_eq_true_eq] at c3
    obtain ⟨⟨q1, q2⟩, q3⟩ := c3
    obtain ⟨k1, k2, k3, k4, k5, k6, k7⟩ := aMck_ok q3
    have hM := aMet (g := g) l q3 h1 hlay
    have hT : GoodIn aTG (va_wsS (aCls m) x (aName m') (aWs m')) := aGoodIn (fun w hw => by
      rcases List.mem_append.mp hw with hw | hw
      · rcases List.mem_cons.mp hw with rfl | hw
        · exact aInT_mem q1
        · rcases List.mem_cons.mp hw with rfl | hw
          · exact aInT_mem q2
          · rw [List.mem_singleton.mp hw]; exact k2
      · rcases List.mem_cons.mp hw with rfl | hw
        · exact k1
        · exact hw)
    exact va_runS S hM (va_cwS (rm := aRm (d - 1)) (aNp m') C.2.2.2.2.1 hT rfl rfl rfl ⟨k3.1, k3.2, k4⟩ ⟨by show d - 1 + 1 ≤ _; omega, by show 8 + (aML m' + 11) + 60 * (d - 1) ≤ _; omega⟩) hp rfl hlen hl.1 (aSplit g st (aNp m')) hcat' (aIns_decode hi) ⟨hce, hsl⟩
  · unfold aCallCk at c3
    dsimp only at c3
    rw [(aOwn_key c2).1, (aOwn_key c2).2] at c3
    simp only [Bool.and_eq_true, decide_eq_true_eq] at c3
    obtain ⟨⟨q1, q2⟩, q3⟩ := c3
    obtain ⟨k1, k2, k3, k4, k5, k6, k7⟩ := aMck_ok q3
    have hM := aMet (g := g) l q3 h1 hlay
    have hG : GoodIn aTG (aWs m') := aGoodIn (fun w hw => by
      rcases List.mem_cons.mp hw with rfl | hw
      · exact k1
      · exact hw)
    have hN := ol.2.2.2.2.2.2.2.2.2.1 _ c1 rfl
    rw [(aOwn_key c2).1, (aOwn_key c2).2] at hN
    exact va_runSN S hM ⟨va_cnB (rm := aRm (d - 1)) (aNp m') C.2.2.2.2.1 hG rfl rfl rfl hN (C.2.2.2.2.1 _ k2) ⟨k3.1, k3.2, k4⟩ ⟨by show d - 1 + 1 ≤ _; omega, by show 8 + (aML m' + 11) + 60 * (d - 1) ≤ _; omega⟩, C.2.2.2.2.1 _ (aInT_mem q2), trivial⟩ hp rfl hlen hl.1 (aSplit g st (aNp m')) hcat' (aIns_decode hi) ⟨hce, hsl⟩
theorem aClsAll : (List.range 9).all (fun ci => match vwCl9[ci]? with | some q => decide (q.1 = aClsL.getD ci "") | none => false) = true := by decide +kernel
theorem aGoV {x m' i1 i2 i3 c0 : Nat} {tl : List Value} (hi : aIns m pc = some (.invokevirtual x, 3)) (hc : aCall (aCo m) x = some (2, m', i1, i2, i3)) (hst : st.drop (aNp m') = .ref c0 :: tl) (hrc : aRecv m' c0) (h : FT Sh (aGo d m pc ls st I m' (aNp m' + 1)) Q) : Sh (d, m, pc, ls, st, I) Q := by
  obtain ⟨⟨hd, hn, hcat, hlay, hok⟩, Q', h1, h2⟩ := h
  obtain ⟨c1, c2⟩ := aBlk hc
  have c3 := aCallAll _ c1
  unfold aCallCk at c3
  dsimp only at c3
  rw [(aOwn_key c2).1, (aOwn_key c2).2] at c3
  simp only [Bool.and_eq_true, decide_eq_true_eq] at c3
  obtain ⟨⟨⟨q1, q2⟩, q2b⟩, q3⟩ := c3
  obtain ⟨k1, k2, k3, k4, k5, k6, k7⟩ := aMck_ok q3
  intro g p l e R s0 mi args below meth c H locs cells slots Z lsA C w ol hS hl hb
  have htk : st.take (aNp m' + 1) = st.take (aNp m') ++ [.ref c0] := by
    have h0 : st[aNp m']? = some (.ref c0) := by
      have := congrArg (fun l : List Value => l[0]?) hst
      simpa using this
    rw [List.take_add_one, h0]
    rfl
  have hrev : (st.take (aNp m' + 1)).reverse = .ref c0 :: (st.take (aNp m')).reverse := by rw [htk]; simp
  obtain ⟨b, hbv, hrecv⟩ : ∃ b, trv g (.ref c0) = .ref b ∧ ∃ cellB : Cell, H[b]? = some cellB ∧ cellB.vm.isStatics = false ∧ s0.vm.findClass (aName m').cls = some cellB.cls := by
    rcases hrc with ⟨h9, hs⟩ | ⟨h12, ha, hb2⟩
    · have hc0 := aShp_lt hs (by omega)
      refine ⟨g.1 + c0, trv_in hc0, ?_⟩
      have hk := List.all_eq_true.mp aClsAll (aCo m') (List.mem_range.mpr h9)
      cases hq : vwCl9[aCo m']? with
      | none => rw [hq] at hk; cases hk
      | some q =>
        rw [hq] at hk
        simp only [decide_eq_true_eq] at hk
        have he := aW_at g I hc0
        rw [aEn_obj hs h9] at he
        have := va_recv w.2.1 w.1 hq he
        rw [k6]
        unfold aCls
        rw [← hk]
        exact this
    · obtain ⟨i, hi6, rfl⟩ := aNat6 1010 c0 ha hb2
      refine ⟨g.2.1 (10 + i), by rw [trv_old (by omega) (by omega), show 1010 + i - 1000 = 10 + i by omega], ?_⟩
      have := vk_recv ol.2.2.2.2.2.1 hi6 hS
      rw [k6]
      unfold aCls
      rw [h12]
      exact this
  have hmap : ((st.take (aNp m' + 1)).reverse).map (trv g) = .ref b :: ((st.take (aNp m')).reverse).map (trv g) := by rw [hrev, List.map_cons, hbv]
  refine aBackW (Q' := Q') (a := (Value.ref b :: ((st.take (aNp m')).reverse).map (trv g)).toArray) (st := st) (k := aNp m' + 1) (m' := m') C ol hS hl hb h2 ?_
  have hlen : (((st.take (aNp m')).reverse).map (trv g)).length = aNp m' := by simp; omega
  have hcat' : 2 * (F0 mi pc lsA (st.map (trv g))).monitorRoom + (((st.drop (aNp m' + 1)).map (trv g)).map fun v => v.category).sum ≤ 8 := lv_room (by rw [aCat_trv ol.1]; exact hcat)
  have S : CallFix p mi c (aBytes m) (aML m) s0 args aTG (aCls m) := ⟨C.1, C.2.1, C.2.2.1, C.2.2.2.1, C.2.2.2.2.1⟩
  have hce := C.2.2.2.2.2.2.2.1
  have hsl := C.2.2.2.2.2.2.2.2
  have hfr := C.2.2.2.2.2.1
  have hlo := C.2.2.2.2.2.2.1
  have hM := aMet (g := g) l q3 h1 hlay
  have hp : PreV s0 H (aName m').cls b (aPcd g I (st.take (aNp m' + 1)).reverse) (((st.take (aNp m')).reverse).map (trv g)) := ⟨aBlind g I _, hrecv, fun U hU hW => by rw [← hmap]; exact aPre w ol hS U hU hW⟩
  have hT : GoodIn aTG (wsV (aCls m) x (aName m').cls (aName m') (aWs m')) := aGoodIn (fun w hw => by
    rcases List.mem_append.mp hw with hw | hw
    · rcases List.mem_cons.mp hw with rfl | hw
      · exact aInT_mem q1
      · rcases List.mem_cons.mp hw with rfl | hw
        · exact aInT_mem q2
        · rcases List.mem_cons.mp hw with rfl | hw
          · exact aInT_mem q2b
          · rw [List.mem_singleton.mp hw]; exact k2
    · rcases List.mem_cons.mp hw with rfl | hw
      · exact k1
      · exact hw)
  have hstk : (F0 mi pc lsA (st.map (trv g))).stack = (((st.take (aNp m')).reverse).map (trv g)).reverse ++ .ref b :: (st.drop (aNp m' + 1)).map (trv g) := by
    show st.map (trv g) = _
    rw [aSplit g st (aNp m' + 1), hmap]
    simp
  exact va_runV S hM (cwV (rm := aRm (d - 1)) (aNp m') C.2.2.2.2.1 hT rfl rfl rfl ⟨rfl, k3.1, k3.2, k4⟩ ⟨by show d - 1 + 1 ≤ _; omega, by show 8 + (aML m' + 11) + 60 * (d - 1) ≤ _; omega⟩) hp rfl hlen hl.1 hstk hcat' (aIns_decode hi) ⟨hce, hsl⟩
theorem sh_invokestatic {x : Nat} (hi : aIns m pc = some (.invokestatic x, n)) (h : FT Sh (TI (.invokestatic x) n d m pc ls st I) Q) : Sh (d, m, pc, ls, st, I) Q := by
  unfold TI at h
  dsimp only at h
  cases h1 : (Nat.beq (aCo m) 7 && Nat.beq x 267) with
  | true =>
    rw [h1] at h
    simp only [Bool.and_eq_true] at h1
    have hx := Nat.eq_of_beq_eq_true h1.2
    subst hx
    have hcl : aCls m = RX7 := by
      unfold aCls
      rw [Nat.eq_of_beq_eq_true h1.1]
      rfl
    simp only [cond_true] at h
    split at h
    · rename_i k dp b sp a r
      obtain ⟨⟨rfl, hd, hcat, ha, hb20, q1, q2, q3, q4, q5⟩, h⟩ := h
      intro g p l e R s0 mi args below meth c H locs cells slots Z lsA C w ol hS hl hb
      show W p l e R s0 mi args below meth c H locs cells slots Z (F0 mi pc lsA (.int k :: .int dp :: trv g (.ref b) :: .int sp :: trv g (.ref a) :: r.map (trv g)))
      have hca := aShp_lt ha (by decide)
      have hcb := aShp_lt hb20 (by decide)
      rw [trv_in hca, trv_in hcb]
      have hea := aW_at g I hca
      rw [aEn_ints ha] at hea
      have heb := aW_at g I hcb
      rw [aEn_ints hb20] at heb
      have ho := C.2.2.2.1
      rw [hcl] at ho
      have hts := C.2.2.2.2.1
      have hfr := C.2.2.2.2.2.1
      have hlo := C.2.2.2.2.2.2.1
      have hnw : nativeFrameWords "java/lang/System" "arraycopy" 5 ≤ 30 := by decide +kernel
      have hcat2 := aCat_trv ol.1 r
      have hd1 : 1 ≤ R.frames := Nat.le_trans hd hfr
      have hl1 : (((r.map (trv g)).map fun v => v.category).sum + (nativeFrameWords "java/lang/System" "arraycopy" 5 + 11)) ≤ R.locals := by
        have hd' : 1 ≤ d := hd
        have hlo' : 60 * d ≤ R.locals := hlo
        rw [hcat2]
        omega
      refine va_copyi (own := RX7) (index := 267) C.1 C.2.1 (by rw [hl.1]; exact C.2.2.1) ho (hts _ (aInT_mem aCpL)) (hts _ (aInT_mem aCpN)) (hts _ (aInT_mem aCpS)) (hts _ (aInT_mem aCpIn)) w.2.1 w.1 (aW_D g I) hS a b 0 0 hea heb rfl rfl rfl q1 q2 q3 q4 q5 (fun _ _ => rfl) hd1 hl1 (aIns_decode hi) (fun H1 locs1 hP1 _ hS1 => ?_)
      exact h g p l e R s0 mi args below meth c H1 locs1 cells slots Z lsA C (w.row (row := va_cpy (I a) (I b) sp.toNatClampNeg dp.toNatClampNeg k.toNatClampNeg) hcb ol.2.1 ol.2.2.1 hS hS1 (by rw [aEn_ints hb20]) hP1) ol hS1 hl hb
    · exact absurd h.1 id
  | false =>
    rw [h1] at h
    simp only [cond_false] at h
    cases hc : aCall (aCo m) x with
    | none => rw [hc] at h; exact absurd h.1 id
    | some q =>
      obtain ⟨k0, m', i1, i2, i3⟩ := q
      rw [hc] at h
      dsimp only at h
      cases h2 : (Nat.beq n 3 && (Nat.beq k0 0 || Nat.beq k0 1)) with
      | true =>
        rw [h2] at h
        simp only [Bool.and_eq_true, Bool.or_eq_true] at h2
        have hn := Nat.eq_of_beq_eq_true h2.1
        subst hn
        exact aGoS hi hc (h2.2.imp Nat.eq_of_beq_eq_true Nat.eq_of_beq_eq_true) h
      | false =>
        rw [h2] at h
        simp only [cond_false] at h
        obtain ⟨c1, c2⟩ := aBlk hc
        have c3 := aCallAll _ c1
        cases h3 : Nat.beq k0 3 with
        | true =>
          rw [h3] at h
          simp only [cond_true] at h
          obtain ⟨x1, y1, r, rfl, ⟨rfl, hd, hcat⟩, h⟩ := aBin_inv h
          have hk := Nat.eq_of_beq_eq_true h3
          subst hk
          unfold aCallCk at c3
          dsimp only at c3
          rw [(aOwn_key c2).1, (aOwn_key c2).2] at c3
          simp only [Bool.and_eq_true, decide_eq_true_eq] at c3
          obtain ⟨⟨⟨q1, q2⟩, q3⟩, -⟩ := c3
          intro g p l e R s0 mi args below meth c H locs cells slots Z lsA C w ol hS hl hb
          have hts := C.2.2.2.2.1
          have hfr := C.2.2.2.2.2.1
          have hlo := C.2.2.2.2.2.2.1
          exact va_mmax C.1 C.2.1 (by rw [hl.1]; exact C.2.2.1) C.2.2.2.1 (hts _ (aInT_mem q1)) (hts _ (aInT_mem q2)) (hts _ (aInT_mem aMathI)) (hts _ (aInT_mem q3)) (by omega) (by rw [aCat_trv ol.1]; omega) C.2.2.2.2.2.2.2.1 C.2.2.2.2.2.2.2.2 (aIns_decode hi) (h g p l e R s0 mi args below meth c H locs cells slots Z lsA C w ol hS hl hb)
        | false =>
          rw [h3] at h
          simp only [cond_false] at h
          cases h4 : Nat.beq k0 4 with
          | true =>
            rw [h4] at h
            simp only [cond_true] at h
            obtain ⟨x1, y1, r, rfl, ⟨rfl, hd, hcat⟩, h⟩ := aBin_inv h
            have hk := Nat.eq_of_beq_eq_true h4
            subst hk
            unfold aCallCk at c3
            dsimp only at c3
            rw [(aOwn_key c2).1, (aOwn_key c2).2] at c3
            simp only [Bool.and_eq_true, decide_eq_true_eq] at c3
            obtain ⟨⟨⟨q1, q2⟩, q3⟩, -⟩ := c3
            intro g p l e R s0 mi args below meth c H locs cells slots Z lsA C w ol hS hl hb
            have hts := C.2.2.2.2.1
            have hfr := C.2.2.2.2.2.1
            have hlo := C.2.2.2.2.2.2.1
            exact va_mmin C.1 C.2.1 (by rw [hl.1]; exact C.2.2.1) C.2.2.2.1 (hts _ (aInT_mem q1)) (hts _ (aInT_mem q2)) (hts _ (aInT_mem aMathI)) (hts _ (aInT_mem q3)) (by omega) (by rw [aCat_trv ol.1]; omega) C.2.2.2.2.2.2.2.1 C.2.2.2.2.2.2.2.2 (aIns_decode hi) (h g p l e R s0 mi args below meth c H locs cells slots Z lsA C w ol hS hl hb)
          | false =>
            rw [h4] at h
            simp only [cond_false] at h
            cases h5 : Nat.beq k0 5 with
            | false => rw [h5] at h; exact absurd h.1 id
            | true =>
              rw [h5] at h
              simp only [cond_true] at h
              obtain ⟨x1, r, rfl, ⟨rfl, hd, hcat⟩, h⟩ := aUni_inv h
              have hk := Nat.eq_of_beq_eq_true h5
              subst hk
              unfold aCallCk at c3
              dsimp only at c3
              rw [(aOwn_key c2).1, (aOwn_key c2).2] at c3
              simp only [Bool.and_eq_true, decide_eq_true_eq] at c3
              obtain ⟨⟨⟨q1, q2⟩, q3⟩, -⟩ := c3
              intro g p l e R s0 mi args below meth c H locs cells slots Z lsA C w ol hS hl hb
              have hts := C.2.2.2.2.1
              have hfr := C.2.2.2.2.2.1
              have hlo := C.2.2.2.2.2.2.1
              exact va_mabs C.1 C.2.1 (by rw [hl.1]; exact C.2.2.1) C.2.2.2.1 (hts _ (aInT_mem q1)) (hts _ (aInT_mem q2)) (hts _ (aInT_mem aMathI)) (hts _ (aInT_mem q3)) (by omega) (by rw [aCat_trv ol.1]; omega) C.2.2.2.2.2.2.2.1 C.2.2.2.2.2.2.2.2 (aIns_decode hi) (h g p l e R s0 mi args below meth c H locs cells slots Z lsA C w ol hS hl hb)
theorem sh_invokevirtual {x : Nat} (hi : aIns m pc = some (.invokevirtual x, n)) (h : FT Sh (TI (.invokevirtual x) n d m pc ls st I) Q) : Sh (d, m, pc, ls, st, I) Q := by
  unfold TI at h
  dsimp only at h
  cases hc : aCall (aCo m) x with
  | none => rw [hc] at h; exact absurd h.1 id
  | some q =>
    obtain ⟨k0, m', i1, i2, i3⟩ := q
    rw [hc] at h
    dsimp only at h
    cases h2 : (Nat.beq n 3 && Nat.beq k0 2) with
    | false => rw [h2] at h; exact absurd h.1 id
    | true =>
      rw [h2] at h
      simp only [Bool.and_eq_true] at h2
      have hn := Nat.eq_of_beq_eq_true h2.1
      subst hn
      have hk := Nat.eq_of_beq_eq_true h2.2
      subst hk
      simp only [cond_true] at h
      split at h
      · rename_i c0 tl hst
        obtain ⟨⟨hg, hrc⟩, h⟩ := h
        exact aGoV hi hc hst hrc ⟨hg, h⟩
      · exact absurd h.1 id
end SH3
end
section
/-! what the abstract machine does, the machine does -/
set_option maxHeartbeats 1000000 in
theorem aSoundI {i : Instr} {n d m pc : Nat} {ls st : List Value} {I : IM} {Q : Po} (hi : aIns m pc = some (i, n)) (h : FT Sh (TI i n d m pc ls st I) Q) : Sh (d, m, pc, ls, st, I) Q := by
  cases i with
  | iconst a0 => exact sh_iconst hi h
  | bipush a0 => exact sh_bipush hi h
  | sipush a0 => exact sh_sipush hi h
  | lconst a0 => exact sh_lconst hi h
  | aconst_null => exact sh_aconst_null hi h
  | ldc a0 => exact sh_ldc hi h
  | ldc_w a0 => exact sh_ldc_w hi h
  | ldc2_w a0 => exact sh_ldc2_w hi h
  | iload_n a0 => exact sh_iload_n hi h
  | iload a0 => exact sh_iload hi h
  | lload_n a0 => exact sh_lload_n hi h
  | lload a0 => exact sh_lload hi h
  | aload_n a0 => exact sh_aload_n hi h
  | aload a0 => exact sh_aload hi h
  | istore_n a0 => exact sh_istore_n hi h
  | istore a0 => exact sh_istore hi h
  | lstore_n a0 => exact sh_lstore_n hi h
  | lstore a0 => exact sh_lstore hi h
  | astore_n a0 => exact sh_astore_n hi h
  | astore a0 => exact sh_astore hi h
  | iinc a0 a1 => exact sh_iinc hi h
  | iadd => exact sh_iadd hi h
  | isub => exact sh_isub hi h
  | imul => exact sh_imul hi h
  | idiv => exact sh_idiv hi h
  | irem => exact sh_irem hi h
  | iand => exact sh_iand hi h
  | ior => exact sh_ior hi h
  | ishl => exact sh_ishl hi h
  | ishr => exact sh_ishr hi h
  | iushr => exact sh_iushr hi h
  | ineg => exact sh_ineg hi h
  | i2l => exact sh_i2l hi h
  | i2s => exact sh_i2s hi h
  | i2b => exact sh_i2b hi h
  | i2c => exact sh_i2c hi h
  | l2i => exact sh_l2i hi h
  | ladd => exact sh_ladd hi h
  | lcmp => exact sh_lcmp hi h
  | dup => exact sh_dup hi h
  | dup2 => exact sh_dup2 hi h
  | pop => exact sh_pop hi h
  | goto a0 => exact sh_goto hi h
  | ifCond a0 a1 => exact sh_ifCond hi h
  | if_icmp a0 a1 => exact sh_if_icmp hi h
  | ifnull a0 => exact sh_ifnull hi h
  | ifnonnull a0 => exact sh_ifnonnull hi h
  | tableswitch a0 a1 a2 a3 => exact sh_tableswitch hi h
  | lookupswitch a0 a1 => exact sh_lookupswitch hi h
  | getfield a0 => exact sh_getfield hi h
  | putfield a0 => exact sh_putfield hi h
  | getstatic a0 => exact sh_getstatic hi h
  | arraylength => exact sh_arraylength hi h
  | iaload => exact sh_iaload hi h
  | baload => exact sh_baload hi h
  | iastore => exact sh_iastore hi h
  | aaload => exact sh_aaload hi h
  | invokestatic a0 => exact sh_invokestatic hi h
  | invokevirtual a0 => exact sh_invokevirtual hi h
  | ireturn => exact sh_ireturn hi h
  | return_ => exact sh_return_ hi h
  | areturn => exact sh_areturn hi h
  | lreturn => exact sh_lreturn hi h
  | _ => exact absurd h.1 id
theorem aSound {s : St} {Q : Po} (h : E s Q) : Sh s Q := by
  refine h Sh (fun s Q k => ?_)
  obtain ⟨d, m, pc, ls, st, I⟩ := s
  cases hi : aIns m pc with
  | none =>
    have k' : FT Sh (match aIns m pc with | some q => TI q.1 q.2 d m pc ls st I | none => tX) Q := k
    rw [hi] at k'
    exact absurd k'.1 id
  | some q =>
    have k' : FT Sh (match aIns m pc with | some q => TI q.1 q.2 d m pc ls st I | none => tX) Q := k
    rw [hi] at k'
    exact aSoundI hi k'
end
section
/-! the abstract machine, an instruction a row -/
section EL
variable {d m pc : Nat} {ls st : List Value} {I : IM} {Q : Po}
theorem e_iconst {k : Int} {v : Int32} (h : aIns m pc = some (.iconst k, 1)) (hv : Int32.ofInt k = v) : E (d, m, pc, ls, st, I) Q ↔ E (d, m, pc + 1, ls, .int v :: st, I) Q := by subst hv; exact E_jmp (T_ins h) rfl
theorem e_bipush {k : Int} {v : Int32} (h : aIns m pc = some (.bipush k, 2)) (hv : (Int8.ofInt k).toInt32 = v) : E (d, m, pc, ls, st, I) Q ↔ E (d, m, pc + 2, ls, .int v :: st, I) Q := by subst hv; exact E_jmp (T_ins h) rfl
theorem e_sipush {k : Int} {v : Int32} (h : aIns m pc = some (.sipush k, 3)) (hv : (Int16.ofInt k).toInt32 = v) : E (d, m, pc, ls, st, I) Q ↔ E (d, m, pc + 3, ls, .int v :: st, I) Q := by subst hv; exact E_jmp (T_ins h) rfl
theorem e_lconst {k : Fin 2} {v : Int64} (h : aIns m pc = some (.lconst k, 1)) (hv : Int64.ofNat k.val = v) : E (d, m, pc, ls, st, I) Q ↔ E (d, m, pc + 1, ls, .long v :: st, I) Q := by subst hv; exact E_jmp (T_ins h) rfl
theorem e_aconst_null (h : aIns m pc = some (.aconst_null, 1)) : E (d, m, pc, ls, st, I) Q ↔ E (d, m, pc + 1, ls, .null :: st, I) Q := E_jmp (T_ins h) rfl
theorem e_ldc {x ix : Nat} {v : Int32} (h : aIns m pc = some (.ldc x, 2)) (hc : aCst (aCo m) x = some (v, ix)) : E (d, m, pc, ls, st, I) Q ↔ E (d, m, pc + 2, ls, .int v :: st, I) Q :=
  E_jmp (c := 2 = 2) (by rw [T_ins h]; unfold TI; dsimp only; rw [hc]) rfl
theorem e_ldcs {x j : Nat} (h : aIns m pc = some (.ldc x, 2)) (hc : aCst (aCo m) x = none) (hs : aStr (aCo m) x = some j) : E (d, m, pc, ls, st, I) Q ↔ E (d, m, pc + 2, ls, .ref (1010 + j) :: st, I) Q :=
  E_jmp (c := 2 = 2) (by rw [T_ins h]; unfold TI; dsimp only; rw [hc]; dsimp only; rw [hs]) rfl
theorem e_ldc_w {x ix : Nat} {v : Int32} (h : aIns m pc = some (.ldc_w x, 3)) (hc : aCst (aCo m) x = some (v, ix)) : E (d, m, pc, ls, st, I) Q ↔ E (d, m, pc + 3, ls, .int v :: st, I) Q :=
  E_jmp (c := 3 = 3) (by rw [T_ins h]; unfold TI; dsimp only; rw [hc]) rfl
theorem e_ldc2_w {x ix : Nat} {v : Int64} (h : aIns m pc = some (.ldc2_w x, 3)) (hc : aCsl (aCo m) x = some (v, ix)) : E (d, m, pc, ls, st, I) Q ↔ E (d, m, pc + 3, ls, .long v :: st, I) Q :=
  E_jmp (c := 3 = 3) (by rw [T_ins h]; unfold TI; dsimp only; rw [hc]) rfl
theorem e_iload_n {k : Fin 4} {x : Int32} (h : aIns m pc = some (.iload_n k, 1)) (hl : ls[k.val]? = some (.int x)) : E (d, m, pc, ls, st, I) Q ↔ E (d, m, pc + 1, ls, .int x :: st, I) Q :=
  E_jmp (c := 1 = 1) (by rw [T_ins h]; unfold TI; dsimp only; unfold aLdI; rw [hl]) rfl
theorem e_iload {k : Nat} {x : Int32} (h : aIns m pc = some (.iload k, 2)) (hl : ls[k]? = some (.int x)) : E (d, m, pc, ls, st, I) Q ↔ E (d, m, pc + 2, ls, .int x :: st, I) Q :=
  E_jmp (c := 2 = 2) (by rw [T_ins h]; unfold TI; dsimp only; unfold aLdI; rw [hl]) rfl
theorem e_lload_n {k : Fin 4} {x : Int64} (h : aIns m pc = some (.lload_n k, 1)) (hl : ls[k.val]? = some (.long x)) : E (d, m, pc, ls, st, I) Q ↔ E (d, m, pc + 1, ls, .long x :: st, I) Q :=
  E_jmp (c := 1 = 1) (by rw [T_ins h]; unfold TI; dsimp only; unfold aLdL; rw [hl]) rfl
theorem e_lload {k : Nat} {x : Int64} (h : aIns m pc = some (.lload k, 2)) (hl : ls[k]? = some (.long x)) : E (d, m, pc, ls, st, I) Q ↔ E (d, m, pc + 2, ls, .long x :: st, I) Q :=
  E_jmp (c := 2 = 2) (by rw [T_ins h]; unfold TI; dsimp only; unfold aLdL; rw [hl]) rfl
theorem e_aload_n {k : Fin 4} {v : Value} (h : aIns m pc = some (.aload_n k, 1)) (hl : ls[k.val]? = some v) (hv : aIsR v = true) : E (d, m, pc, ls, st, I) Q ↔ E (d, m, pc + 1, ls, v :: st, I) Q :=
  E_jmp (c := 1 = 1) (by rw [T_ins h]; unfold TI; dsimp only; unfold aLdA; rw [hl]; dsimp only; rw [hv]; rfl) rfl
theorem e_aload {k : Nat} {v : Value} (h : aIns m pc = some (.aload k, 2)) (hl : ls[k]? = some v) (hv : aIsR v = true) : E (d, m, pc, ls, st, I) Q ↔ E (d, m, pc + 2, ls, v :: st, I) Q :=
  E_jmp (c := 2 = 2) (by rw [T_ins h]; unfold TI; dsimp only; unfold aLdA; rw [hl]; dsimp only; rw [hv]; rfl) rfl
theorem e_istore_n {k : Fin 4} {x : Int32} {ls' : List Value} (h : aIns m pc = some (.istore_n k, 1)) (hk : k.val < aML m) (ok : aOkS ls k.val = true) (hl : ls.set k.val (.int x) = ls') : E (d, m, pc, ls, .int x :: st, I) Q ↔ E (d, m, pc + 1, ls', st, I) Q := by subst hl; exact E_jmp (T_ins h) ⟨rfl, hk, ok⟩
theorem e_istore {k : Nat} {x : Int32} {ls' : List Value} (h : aIns m pc = some (.istore k, 2)) (hk : k < aML m) (ok : aOkS ls k = true) (hl : ls.set k (.int x) = ls') : E (d, m, pc, ls, .int x :: st, I) Q ↔ E (d, m, pc + 2, ls', st, I) Q := by subst hl; exact E_jmp (T_ins h) ⟨rfl, hk, ok⟩
theorem e_lstore_n {k : Fin 4} {x : Int64} {ls' : List Value} (h : aIns m pc = some (.lstore_n k, 1)) (hk : k.val + 1 < aML m) (ok : aOkS ls k.val = true) (hl : (ls.set k.val (.long x)).set (k.val + 1) UN = ls') : E (d, m, pc, ls, .long x :: st, I) Q ↔ E (d, m, pc + 1, ls', st, I) Q := by subst hl; exact E_jmp (T_ins h) ⟨rfl, hk, ok⟩
theorem e_lstore {k : Nat} {x : Int64} {ls' : List Value} (h : aIns m pc = some (.lstore k, 2)) (hk : k + 1 < aML m) (ok : aOkS ls k = true) (hl : (ls.set k (.long x)).set (k + 1) UN = ls') : E (d, m, pc, ls, .long x :: st, I) Q ↔ E (d, m, pc + 2, ls', st, I) Q := by subst hl; exact E_jmp (T_ins h) ⟨rfl, hk, ok⟩
theorem e_astore_n {k : Fin 4} {v : Value} {ls' : List Value} (h : aIns m pc = some (.astore_n k, 1)) (hk : k.val < aML m) (ok : aOkS ls k.val = true) (hv : aIsR v = true) (hl : ls.set k.val v = ls') : E (d, m, pc, ls, v :: st, I) Q ↔ E (d, m, pc + 1, ls', st, I) Q := by subst hl; exact E_jmp (T_ins h) ⟨rfl, hk, ok, hv⟩
theorem e_astore {k : Nat} {v : Value} {ls' : List Value} (h : aIns m pc = some (.astore k, 2)) (hk : k < aML m) (ok : aOkS ls k = true) (hv : aIsR v = true) (hl : ls.set k v = ls') : E (d, m, pc, ls, v :: st, I) Q ↔ E (d, m, pc + 2, ls', st, I) Q := by subst hl; exact E_jmp (T_ins h) ⟨rfl, hk, ok, hv⟩
theorem e_iinc {k : Nat} {c : Int} {x v : Int32} {ls' : List Value} (h : aIns m pc = some (.iinc k c, 3)) (hx : ls[k]? = some (.int x)) (hk : k < aML m) (ok : aOkS ls k = true) (hv : Int32.ofInt c = v) (hl : ls.set k (.int (x + v)) = ls') : E (d, m, pc, ls, st, I) Q ↔ E (d, m, pc + 3, ls', st, I) Q := by
  subst hv; subst hl
  exact E_jmp (c := 3 = 3 ∧ k < aML m ∧ aOkS ls k = true) (by rw [T_ins h]; unfold TI; dsimp only; unfold aLdI; rw [hx]) ⟨rfl, hk, ok⟩
theorem e_iadd {x y : Int32} (h : aIns m pc = some (.iadd, 1)) : E (d, m, pc, ls, .int y :: .int x :: st, I) Q ↔ E (d, m, pc + 1, ls, .int (x + y) :: st, I) Q := E_jmp (T_ins h) rfl
theorem e_isub {x y : Int32} (h : aIns m pc = some (.isub, 1)) : E (d, m, pc, ls, .int y :: .int x :: st, I) Q ↔ E (d, m, pc + 1, ls, .int (x - y) :: st, I) Q := E_jmp (T_ins h) rfl
theorem e_imul {x y : Int32} (h : aIns m pc = some (.imul, 1)) : E (d, m, pc, ls, .int y :: .int x :: st, I) Q ↔ E (d, m, pc + 1, ls, .int (x * y) :: st, I) Q := E_jmp (T_ins h) rfl
theorem e_iand {x y : Int32} (h : aIns m pc = some (.iand, 1)) : E (d, m, pc, ls, .int y :: .int x :: st, I) Q ↔ E (d, m, pc + 1, ls, .int (x &&& y) :: st, I) Q := E_jmp (T_ins h) rfl
theorem e_ior {x y : Int32} (h : aIns m pc = some (.ior, 1)) : E (d, m, pc, ls, .int y :: .int x :: st, I) Q ↔ E (d, m, pc + 1, ls, .int (x ||| y) :: st, I) Q := E_jmp (T_ins h) rfl
theorem e_ishl {x y : Int32} (h : aIns m pc = some (.ishl, 1)) : E (d, m, pc, ls, .int y :: .int x :: st, I) Q ↔ E (d, m, pc + 1, ls, .int (x <<< (y &&& 31)) :: st, I) Q := E_jmp (T_ins h) rfl
theorem e_ishr {x y : Int32} (h : aIns m pc = some (.ishr, 1)) : E (d, m, pc, ls, .int y :: .int x :: st, I) Q ↔ E (d, m, pc + 1, ls, .int (x >>> (y &&& 31)) :: st, I) Q := E_jmp (T_ins h) rfl
/-- x >>> y of Java -/
def jUshr (x y : Int32) : Int32 := (x.toUInt32 >>> (y.toUInt32 &&& Int32.toUInt32 31)).toInt32
theorem e_iushr {x y : Int32} (h : aIns m pc = some (.iushr, 1)) : E (d, m, pc, ls, .int y :: .int x :: st, I) Q ↔ E (d, m, pc + 1, ls, .int (jUshr x y) :: st, I) Q := E_jmp (T_ins h) rfl
theorem e_idiv {x y : Int32} (h : aIns m pc = some (.idiv, 1)) : E (d, m, pc, ls, .int y :: .int x :: st, I) Q ↔ ¬ y = 0 ∧ E (d, m, pc + 1, ls, .int (x / y) :: st, I) Q := E_jmpc (T_ins h) ⟨fun k => k.2, fun k => ⟨rfl, k⟩⟩
/-- x % y of Java -/
def jRem (x y : Int32) : Int32 := x - x / y * y
theorem e_irem {x y : Int32} (h : aIns m pc = some (.irem, 1)) : E (d, m, pc, ls, .int y :: .int x :: st, I) Q ↔ ¬ y = 0 ∧ E (d, m, pc + 1, ls, .int (jRem x y) :: st, I) Q := E_jmpc (T_ins h) ⟨fun k => k.2, fun k => ⟨rfl, k⟩⟩
theorem e_ineg {x : Int32} (h : aIns m pc = some (.ineg, 1)) : E (d, m, pc, ls, .int x :: st, I) Q ↔ E (d, m, pc + 1, ls, .int (-x) :: st, I) Q := E_jmp (T_ins h) rfl
theorem e_i2l {x : Int32} (h : aIns m pc = some (.i2l, 1)) : E (d, m, pc, ls, .int x :: st, I) Q ↔ E (d, m, pc + 1, ls, .long x.toInt64 :: st, I) Q := E_jmp (T_ins h) rfl
theorem e_i2s {x : Int32} (h : aIns m pc = some (.i2s, 1)) : E (d, m, pc, ls, .int x :: st, I) Q ↔ E (d, m, pc + 1, ls, .int x.toInt16.toInt32 :: st, I) Q := E_jmp (T_ins h) rfl
theorem e_i2b {x : Int32} (h : aIns m pc = some (.i2b, 1)) : E (d, m, pc, ls, .int x :: st, I) Q ↔ E (d, m, pc + 1, ls, .int x.toInt8.toInt32 :: st, I) Q := E_jmp (T_ins h) rfl
theorem e_i2c {x : Int32} (h : aIns m pc = some (.i2c, 1)) : E (d, m, pc, ls, .int x :: st, I) Q ↔ E (d, m, pc + 1, ls, .int (x.toUInt32 % 65536).toInt32 :: st, I) Q := E_jmp (T_ins h) rfl
theorem e_l2i {x : Int64} (h : aIns m pc = some (.l2i, 1)) : E (d, m, pc, ls, .long x :: st, I) Q ↔ E (d, m, pc + 1, ls, .int x.toInt32 :: st, I) Q := E_jmp (T_ins h) rfl
theorem e_ladd {x y : Int64} (h : aIns m pc = some (.ladd, 1)) : E (d, m, pc, ls, .long y :: .long x :: st, I) Q ↔ E (d, m, pc + 1, ls, .long (x + y) :: st, I) Q := E_jmp (T_ins h) rfl
theorem e_lcmp {x y : Int64} (h : aIns m pc = some (.lcmp, 1)) : E (d, m, pc, ls, .long y :: .long x :: st, I) Q ↔ E (d, m, pc + 1, ls, .int (lg_cmp x y) :: st, I) Q := E_jmp (T_ins h) rfl
theorem e_dup {v : Value} (h : aIns m pc = some (.dup, 1)) (hv : v.category = 1) : E (d, m, pc, ls, v :: st, I) Q ↔ E (d, m, pc + 1, ls, v :: v :: st, I) Q := E_jmp (T_ins h) ⟨rfl, hv⟩
theorem e_dup2 {v w : Value} (h : aIns m pc = some (.dup2, 1)) (hv : v.category = 1) (hw : w.category = 1) : E (d, m, pc, ls, v :: w :: st, I) Q ↔ E (d, m, pc + 1, ls, v :: w :: v :: w :: st, I) Q := E_jmp (T_ins h) ⟨rfl, hv, hw⟩
theorem e_pop {v : Value} (h : aIns m pc = some (.pop, 1)) (hv : v.category = 1) : E (d, m, pc, ls, v :: st, I) Q ↔ E (d, m, pc + 1, ls, st, I) Q := E_jmp (T_ins h) ⟨rfl, hv⟩
theorem e_goto {o : Int} {t : Nat} (h : aIns m pc = some (.goto o, 3)) (ht : (pc : Int) + o = (t : Int)) : E (d, m, pc, ls, st, I) Q ↔ E (d, m, t, ls, st, I) Q := by
  have e : aTg pc o = t := by unfold aTg; omega
  subst e
  exact E_jmp (T_ins h) ⟨rfl, by unfold aTk; omega⟩
theorem e_brU {c : ClassFile.Cond} {o : Int} {t : Nat} {x : Int32} (h : aIns m pc = some (.ifCond c o, 3)) (ht : (pc : Int) + o = (t : Int)) : T (d, m, pc, ls, .int x :: st, I) = tB (aCmp c x 0) (d, m, t, ls, st, I) (d, m, pc + 3, ls, st, I) := by
  have e : aTg pc o = t := by unfold aTg; omega
  subst e
  rw [T_ins h]
  unfold TI aUni
  dsimp only
  rw [decide_eq_true (⟨rfl, by omega⟩ : (3 : Nat) = 3 ∧ 0 ≤ (pc : Int) + o)]
  rfl
theorem e_brB {c : ClassFile.Cond} {o : Int} {t : Nat} {x y : Int32} (h : aIns m pc = some (.if_icmp c o, 3)) (ht : (pc : Int) + o = (t : Int)) : T (d, m, pc, ls, .int y :: .int x :: st, I) = tB (aCmp c x y) (d, m, t, ls, st, I) (d, m, pc + 3, ls, st, I) := by
  have e : aTg pc o = t := by unfold aTg; omega
  subst e
  rw [T_ins h]
  unfold TI aBin
  dsimp only
  rw [decide_eq_true (⟨rfl, by omega⟩ : (3 : Nat) = 3 ∧ 0 ≤ (pc : Int) + o)]
  rfl
theorem ite_neg {c : Prop} [Decidable c] [Decidable (¬ c)] {A B X : Prop} (h : X ↔ if ¬ c then A else B) : X ↔ if c then B else A := by
  rw [h]
  by_cases hc : c
  · rw [if_neg (fun n => n hc), if_pos hc]
  · rw [if_pos hc, if_neg hc]
theorem ite_ge {x y : Int32} {A B X : Prop} (h : X ↔ if y ≤ x then A else B) : X ↔ if x < y then B else A := by
  rw [h]
  by_cases hc : x < y
  · rw [if_neg (Int32.not_le.mpr hc), if_pos hc]
  · rw [if_pos (Int32.not_lt.mp hc), if_neg hc]
variable {o : Int} {t : Nat} {x y : Int32}
theorem e_if_eq (h : aIns m pc = some (.ifCond .eq o, 3)) (ht : (pc : Int) + o = (t : Int)) : E (d, m, pc, ls, .int x :: st, I) Q ↔ if x = 0 then E (d, m, t, ls, st, I) Q else E (d, m, pc + 3, ls, st, I) Q := E_br (c := x = 0) (e_brU h ht)
theorem e_if_ne (h : aIns m pc = some (.ifCond .ne o, 3)) (ht : (pc : Int) + o = (t : Int)) : E (d, m, pc, ls, .int x :: st, I) Q ↔ if x = 0 then E (d, m, pc + 3, ls, st, I) Q else E (d, m, t, ls, st, I) Q := ite_neg (E_br (c := ¬ x = 0) (e_brU h ht))
theorem e_if_lt (h : aIns m pc = some (.ifCond .lt o, 3)) (ht : (pc : Int) + o = (t : Int)) : E (d, m, pc, ls, .int x :: st, I) Q ↔ if x < 0 then E (d, m, t, ls, st, I) Q else E (d, m, pc + 3, ls, st, I) Q := E_br (c := x < 0) (e_brU h ht)
theorem e_if_ge (h : aIns m pc = some (.ifCond .ge o, 3)) (ht : (pc : Int) + o = (t : Int)) : E (d, m, pc, ls, .int x :: st, I) Q ↔ if x < 0 then E (d, m, pc + 3, ls, st, I) Q else E (d, m, t, ls, st, I) Q := ite_ge (E_br (c := 0 ≤ x) (e_brU h ht))
theorem e_if_gt (h : aIns m pc = some (.ifCond .gt o, 3)) (ht : (pc : Int) + o = (t : Int)) : E (d, m, pc, ls, .int x :: st, I) Q ↔ if 0 < x then E (d, m, t, ls, st, I) Q else E (d, m, pc + 3, ls, st, I) Q := E_br (c := 0 < x) (e_brU h ht)
theorem e_if_le (h : aIns m pc = some (.ifCond .le o, 3)) (ht : (pc : Int) + o = (t : Int)) : E (d, m, pc, ls, .int x :: st, I) Q ↔ if 0 < x then E (d, m, pc + 3, ls, st, I) Q else E (d, m, t, ls, st, I) Q := ite_ge (E_br (c := x ≤ 0) (e_brU h ht))
theorem e_icmp_eq (h : aIns m pc = some (.if_icmp .eq o, 3)) (ht : (pc : Int) + o = (t : Int)) : E (d, m, pc, ls, .int y :: .int x :: st, I) Q ↔ if x = y then E (d, m, t, ls, st, I) Q else E (d, m, pc + 3, ls, st, I) Q := E_br (c := x = y) (e_brB h ht)
theorem e_icmp_ne (h : aIns m pc = some (.if_icmp .ne o, 3)) (ht : (pc : Int) + o = (t : Int)) : E (d, m, pc, ls, .int y :: .int x :: st, I) Q ↔ if x = y then E (d, m, pc + 3, ls, st, I) Q else E (d, m, t, ls, st, I) Q := ite_neg (E_br (c := ¬ x = y) (e_brB h ht))
theorem e_icmp_lt (h : aIns m pc = some (.if_icmp .lt o, 3)) (ht : (pc : Int) + o = (t : Int)) : E (d, m, pc, ls, .int y :: .int x :: st, I) Q ↔ if x < y then E (d, m, t, ls, st, I) Q else E (d, m, pc + 3, ls, st, I) Q := E_br (c := x < y) (e_brB h ht)
theorem e_icmp_ge (h : aIns m pc = some (.if_icmp .ge o, 3)) (ht : (pc : Int) + o = (t : Int)) : E (d, m, pc, ls, .int y :: .int x :: st, I) Q ↔ if x < y then E (d, m, pc + 3, ls, st, I) Q else E (d, m, t, ls, st, I) Q := ite_ge (E_br (c := y ≤ x) (e_brB h ht))
theorem e_icmp_gt (h : aIns m pc = some (.if_icmp .gt o, 3)) (ht : (pc : Int) + o = (t : Int)) : E (d, m, pc, ls, .int y :: .int x :: st, I) Q ↔ if y < x then E (d, m, t, ls, st, I) Q else E (d, m, pc + 3, ls, st, I) Q := E_br (c := y < x) (e_brB h ht)
theorem e_icmp_le (h : aIns m pc = some (.if_icmp .le o, 3)) (ht : (pc : Int) + o = (t : Int)) : E (d, m, pc, ls, .int y :: .int x :: st, I) Q ↔ if y < x then E (d, m, pc + 3, ls, st, I) Q else E (d, m, t, ls, st, I) Q := ite_ge (E_br (c := x ≤ y) (e_brB h ht))
theorem e_ifnull_r {c : Nat} (h : aIns m pc = some (.ifnull o, 3)) (hc : c ≠ 1030) : E (d, m, pc, ls, .ref c :: st, I) Q ↔ E (d, m, pc + 3, ls, st, I) Q := E_jmp (T_ins h) ⟨rfl, hc⟩
theorem e_ifnull_0 (h : aIns m pc = some (.ifnull o, 3)) (ht : (pc : Int) + o = (t : Int)) : E (d, m, pc, ls, .null :: st, I) Q ↔ E (d, m, t, ls, st, I) Q := by
  have e : aTg pc o = t := by unfold aTg; omega
  subst e
  exact E_jmp (T_ins h) ⟨rfl, by unfold aTk; omega⟩
theorem e_ifnonnull_r {c : Nat} (h : aIns m pc = some (.ifnonnull o, 3)) (ht : (pc : Int) + o = (t : Int)) (hc : c ≠ 1030) : E (d, m, pc, ls, .ref c :: st, I) Q ↔ E (d, m, t, ls, st, I) Q := by
  have e : aTg pc o = t := by unfold aTg; omega
  subst e
  exact E_jmp (T_ins h) ⟨rfl, by unfold aTk; omega, hc⟩
theorem e_ifnonnull_0 (h : aIns m pc = some (.ifnonnull o, 3)) : E (d, m, pc, ls, .null :: st, I) Q ↔ E (d, m, pc + 3, ls, st, I) Q := E_jmp (T_ins h) rfl
theorem e_tsw {dflt lo hi : Int} {offs : Array Int} {n : Nat} {k : Int32} (h : aIns m pc = some (.tableswitch dflt lo hi offs, n)) (hk : Int32.ofInt lo = k) (hc : (-2147483648 ≤ lo ∧ hi < 2147483647 ∧ lo ≤ hi + 1 ∧ (offs.size : Int) = hi + 1 - lo ∧ 0 ≤ (pc : Int) + dflt ∧ ∀ o ∈ offs.toList, 0 ≤ (pc : Int) + o)) : E (d, m, pc, ls, .int x :: st, I) Q ↔ E (d, m, aTsel pc dflt x offs.toList k, ls, st, I) Q := by
  subst hk
  exact E_jmp (T_ins h) hc
theorem e_tsel_nil {dflt : Int} {k : Int32} (ht : aTg pc dflt = t) : E (d, m, aTsel pc dflt x [] k, ls, st, I) Q ↔ E (d, m, t, ls, st, I) Q := by subst ht; exact Iff.rfl
theorem e_tsel_cons {dflt a : Int} {os : List Int} {k k2 : Int32} {X : Prop} (hn : k + 1 = k2) (ht : aTg pc a = t) (h2 : E (d, m, aTsel pc dflt x os k2, ls, st, I) Q ↔ X) : E (d, m, aTsel pc dflt x (a :: os) k, ls, st, I) Q ↔ if x = k then E (d, m, t, ls, st, I) Q else X := by
  subst ht; subst hn
  rw [← h2]
  unfold aTsel
  by_cases hx : x = k
  · rw [if_pos hx, if_pos hx]
  · rw [if_neg hx, if_neg hx]
    cases os <;> rfl
theorem e_lsw {dflt : Int} {ps : Array (Int × Int)} {n : Nat} (h : aIns m pc = some (.lookupswitch dflt ps, n)) (hc : ((ps.toList.zip (ps.toList.drop 1)).all (fun (a, next) => a.1 < next.1) = true ∧ 0 ≤ (pc : Int) + dflt ∧ ∀ o ∈ ps.toList, -2147483648 ≤ o.1 ∧ o.1 ≤ 2147483647 ∧ 0 ≤ (pc : Int) + o.2)) : E (d, m, pc, ls, .int x :: st, I) Q ↔ E (d, m, aLsel pc dflt x ps.toList, ls, st, I) Q := E_jmp (T_ins h) hc
theorem e_lsel_nil {dflt : Int} (ht : aTg pc dflt = t) : E (d, m, aLsel pc dflt x [], ls, st, I) Q ↔ E (d, m, t, ls, st, I) Q := by subst ht; exact Iff.rfl
theorem e_lsel_cons {dflt a b : Int} {os : List (Int × Int)} {k : Int32} {X : Prop} (hn : Int32.ofInt a = k) (ht : aTg pc b = t) (h2 : E (d, m, aLsel pc dflt x os, ls, st, I) Q ↔ X) : E (d, m, aLsel pc dflt x ((a, b) :: os), ls, st, I) Q ↔ if x = k then E (d, m, t, ls, st, I) Q else X := by
  subst ht; subst hn
  rw [← h2]
  rw [show aLsel pc dflt x ((a, b) :: os) = if x = Int32.ofInt a then aTg pc b else aLsel pc dflt x os from rfl]
  by_cases hx : x = Int32.ofInt a
  · rw [if_pos hx, if_pos hx]
  · rw [if_neg hx, if_neg hx]
variable {c ci k ix v0 : Nat} {v j : Int32}
theorem e_getf_i {f : Nat} (h : aIns m pc = some (.getfield f, 3)) (hf : aFld (aCo m) f = some (ci, k, ix)) (hk : Nat.beq (aFc ci k) 2 = false) (hs : aShp c = ci) : E (d, m, pc, ls, .ref c :: st, I) Q ↔ E (d, m, pc + 3, ls, .int (I c k) :: st, I) Q :=
  E_jmp (c := 3 = 3 ∧ aShp c = ci) (by rw [T_ins h]; unfold TI aRef; dsimp only; rw [hf]; dsimp only; rw [hk]; rfl) ⟨rfl, hs⟩
theorem e_getf_r {f : Nat} (h : aIns m pc = some (.getfield f, 3)) (hf : aFld (aCo m) f = some (ci, k, ix)) (hk : Nat.beq (aFc ci k) 2 = true) (hs : aShp c = ci) : E (d, m, pc, ls, .ref c :: st, I) Q ↔ E (d, m, pc + 3, ls, .ref (aRf c k) :: st, I) Q :=
  E_jmp (c := 3 = 3 ∧ aShp c = ci) (by rw [T_ins h]; unfold TI aRef; dsimp only; rw [hf]; dsimp only; rw [hk]; rfl) ⟨rfl, hs⟩
theorem e_getf_sv (h : aIns m pc = some (.getfield 9, 3)) (hm : aFld (aCo m) 9 = none) (h12 : Nat.beq (aCo m) 12 = true) (hc : 1010 ≤ c ∧ c < 1016) : E (d, m, pc, ls, .ref c :: st, I) Q ↔ E (d, m, pc + 3, ls, .ref (c + 10) :: st, I) Q :=
  E_jmp (c := 3 = 3 ∧ 1010 ≤ c ∧ c < 1016) (by rw [T_ins h]; unfold TI aRef; dsimp only; rw [hm]; dsimp only; rw [h12]; rfl) ⟨rfl, hc⟩
theorem e_getf_sc (h : aIns m pc = some (.getfield 15, 3)) (hm : aFld (aCo m) 15 = none) (h12 : Nat.beq (aCo m) 12 = true) (hc : 1010 ≤ c ∧ c < 1016) : E (d, m, pc, ls, .ref c :: st, I) Q ↔ E (d, m, pc + 3, ls, .int 0 :: st, I) Q :=
  E_jmp (c := 3 = 3 ∧ 1010 ≤ c ∧ c < 1016) (by rw [T_ins h]; unfold TI aRef; dsimp only; rw [hm]; dsimp only; rw [h12]; rfl) ⟨rfl, hc⟩
theorem e_putf {f : Nat} (h : aIns m pc = some (.putfield f, 3)) (hf : aFld (aCo m) f = some (ci, k, ix)) (hff : aFf ci k = 0) (hk : aFc ci k = 0) (hs : aShp c = ci) : E (d, m, pc, ls, .int v :: .ref c :: st, I) Q ↔ E (d, m, pc + 3, ls, st, up I c k v) Q :=
  E_jmp (c := 3 = 3 ∧ aShp c = ci ∧ aFf ci k = 0 ∧ (aFc ci k = 0 ∨ (aFc ci k = 1 ∧ (v = 0 ∨ v = 1)))) (by rw [T_ins h]; unfold TI; dsimp only; rw [hf]) ⟨rfl, hs, hff, Or.inl hk⟩
theorem e_putf_z {f : Nat} (h : aIns m pc = some (.putfield f, 3)) (hf : aFld (aCo m) f = some (ci, k, ix)) (hff : aFf ci k = 0) (hk : aFc ci k = 1) (hv : v = 0 ∨ v = 1) (hs : aShp c = ci) : E (d, m, pc, ls, .int v :: .ref c :: st, I) Q ↔ E (d, m, pc + 3, ls, st, up I c k v) Q :=
  E_jmp (c := 3 = 3 ∧ aShp c = ci ∧ aFf ci k = 0 ∧ (aFc ci k = 0 ∨ (aFc ci k = 1 ∧ (v = 0 ∨ v = 1)))) (by rw [T_ins h]; unfold TI; dsimp only; rw [hf]) ⟨rfl, hs, hff, Or.inr ⟨hk, hv⟩⟩
theorem e_getst_u (h : aIns m pc = some (.getstatic 31, 3)) (hm : aCo m = 0) : E (d, m, pc, ls, st, I) Q ↔ E (d, m, pc + 3, ls, .ref 1001 :: st, I) Q :=
  E_jmp (c := 3 = 3) (by rw [T_ins h]; unfold TI; dsimp only; rw [hm]; rfl) rfl
theorem e_getst_c (h : aIns m pc = some (.getstatic 38, 3)) (hm : aCo m = 12) : E (d, m, pc, ls, st, I) Q ↔ E (d, m, pc + 3, ls, .int 1 :: st, I) Q :=
  E_jmp (c := 3 = 3) (by rw [T_ins h]; unfold TI; dsimp only; rw [hm]; rfl) rfl
theorem e_getst_f (h : aIns m pc = some (.getstatic 1053, 3)) (hm : aCo m = 12) : E (d, m, pc, ls, st, I) Q ↔ E (d, m, pc + 3, ls, .ref 1030 :: st, I) Q :=
  E_jmp (c := 3 = 3) (by rw [T_ins h]; unfold TI; dsimp only; rw [hm]; rfl) rfl
theorem aShp_ne {c s : Nat} (h : aShp c = s) (hs : s ≠ 99) : c ≠ 1000 ∧ c ≠ 1001 ∧ c < 140 := by
  have := aShp_lt h hs
  omega
theorem e_alen {s : Nat} (h : aIns m pc = some (.arraylength, 1)) (hs : aShp c = s) (h1 : 20 ≤ s) (h2 : s ≤ 24) : E (d, m, pc, ls, .ref c :: st, I) Q ↔ E (d, m, pc + 1, ls, .int (nI (aLen c)) :: st, I) Q := by
  obtain ⟨n1, n2, n3⟩ := aShp_ne hs (by omega)
  have hal : aAl I c = aLen c := by unfold aAl; rw [if_neg n1, if_neg n2]
  rw [← hal]
  have hb : (Nat.ble 1020 c && Nat.blt c 1026) = false := by
    cases hq : Nat.ble 1020 c with
    | false => rfl
    | true => rw [Nat.ble_eq] at hq; omega
  refine E_jmp (c := 1 = 1 ∧ (aIA c ∨ (20 ≤ aShp c ∧ aShp c ≤ 24)) ∧ (c = 1000 → ¬ I 1002 0 < 0)) ?_ ⟨rfl, Or.inr (by omega), fun e => absurd e n1⟩
  rw [T_ins h]
  unfold TI aRef
  dsimp only
  rw [hb]
  rfl
theorem e_alen_s (h : aIns m pc = some (.arraylength, 1)) (hn : ¬ I 1002 0 < 0) : E (d, m, pc, ls, .ref 1000 :: st, I) Q ↔ E (d, m, pc + 1, ls, .int (nI (I 1002 0).toNatClampNeg) :: st, I) Q :=
  E_jmp (c := 1 = 1 ∧ (aIA 1000 ∨ (20 ≤ aShp 1000 ∧ aShp 1000 ≤ 24)) ∧ ((1000 : Nat) = 1000 → ¬ I 1002 0 < 0)) (T_ins h) ⟨rfl, Or.inl (Or.inl rfl), fun _ => hn⟩
theorem aS2B {c : Nat} (h : 1010 ≤ c ∧ c < 1016) : 1020 ≤ c + 10 ∧ c + 10 < 1026 := by omega
theorem e_alen_b (h : aIns m pc = some (.arraylength, 1)) (hi : 1020 ≤ c ∧ c < 1026) : E (d, m, pc, ls, .ref c :: st, I) Q ↔ E (d, m, pc + 1, ls, .int (nI (aStrBy (c - 1020)).length) :: st, I) Q := by
  have hb : (Nat.ble 1020 c && Nat.blt c 1026) = true := by
    simp only [Bool.and_eq_true, Nat.ble_eq, Nat.blt_eq]
    omega
  refine E_jmp (c := 1 = 1) ?_ rfl
  rw [T_ins h]
  unfold TI aRef
  dsimp only
  rw [hb]
  rfl
theorem e_iald (h : aIns m pc = some (.iaload, 1)) (hs : aShp c = 20) : E (d, m, pc, ls, .int j :: .ref c :: st, I) Q ↔ vp_in j (aLen c) ∧ E (d, m, pc + 1, ls, .int (I c j.toNatClampNeg) :: st, I) Q := by
  obtain ⟨n1, n2, n3⟩ := aShp_ne hs (by decide)
  have hal : aAl I c = aLen c := by unfold aAl; rw [if_neg n1, if_neg n2]
  have hrd : aRd I c j.toNatClampNeg = I c j.toNatClampNeg := by unfold aRd; rw [if_neg n2]
  rw [← hal, ← hrd]
  exact E_jmpc (T_ins h) ⟨fun q => q.2.2, fun q => ⟨rfl, Or.inr (Or.inr hs), q⟩⟩
theorem e_iald_u (h : aIns m pc = some (.iaload, 1)) : E (d, m, pc, ls, .int j :: .ref 1001 :: st, I) Q ↔ vp_in j 6 ∧ E (d, m, pc + 1, ls, .int (aUnder j.toNatClampNeg) :: st, I) Q := E_jmpc (T_ins h) ⟨fun q => q.2.2, fun q => ⟨rfl, Or.inr (Or.inl rfl), q⟩⟩
theorem e_iald_s (h : aIns m pc = some (.iaload, 1)) : E (d, m, pc, ls, .int j :: .ref 1000 :: st, I) Q ↔ vp_in j (I 1002 0).toNatClampNeg ∧ E (d, m, pc + 1, ls, .int (I 1000 j.toNatClampNeg) :: st, I) Q := E_jmpc (T_ins h) ⟨fun q => q.2.2, fun q => ⟨rfl, Or.inl rfl, q⟩⟩
theorem e_bald (h : aIns m pc = some (.baload, 1)) (hi : 1020 ≤ c ∧ c < 1026) : E (d, m, pc, ls, .int j :: .ref c :: st, I) Q ↔ vp_in j (aStrBy (c - 1020)).length ∧ E (d, m, pc + 1, ls, .int ((aStrBy (c - 1020)).getD j.toNatClampNeg 0) :: st, I) Q :=
  E_jmpc (T_ins h) ⟨fun q => q.2.2.2, fun q => ⟨rfl, hi.1, hi.2, q⟩⟩
theorem e_iast (h : aIns m pc = some (.iastore, 1)) (hs : aShp c = 20) : E (d, m, pc, ls, .int v :: .int j :: .ref c :: st, I) Q ↔ vp_in j (aLen c) ∧ E (d, m, pc + 1, ls, st, up I c j.toNatClampNeg v) Q := E_jmpc (T_ins h) ⟨fun q => q.2.2, fun q => ⟨rfl, hs, q⟩⟩
theorem e_aald {s : Nat} (h : aIns m pc = some (.aaload, 1)) (hs : aShp c = s) (h1 : 21 ≤ s) (h2 : s ≤ 24) : E (d, m, pc, ls, .int j :: .ref c :: st, I) Q ↔ vp_in j (aLen c) ∧ E (d, m, pc + 1, ls, .ref (aRf c j.toNatClampNeg) :: st, I) Q := E_jmpc (T_ins h) ⟨fun q => q.2.2.2, fun q => ⟨rfl, by omega, by omega, q⟩⟩
/-! calls -/
theorem e_cs {x q m' i1 i2 i3 : Nat} {as : List Value} {ent : List Value} (h : aIns m pc = some (.invokestatic x, 3)) (hx : (Nat.beq (aCo m) 7 && Nat.beq x 267) = false) (hc : aCall (aCo m) x = some (q, m', i1, i2, i3)) (hq : (Nat.beq q 0 || Nat.beq q 1) = true) (hn : as.length = aNp m') (he : aEnt m' as.reverse = ent) (hk : aCat st ≤ 8 ∧ (aLay as.reverse).length ≤ aML m' ∧ as.all aOk2 = true) : E (d + 1, m, pc, ls, as ++ st, I) Q ↔ E (d, m', 0, ent, [], I) (fun r I' => E (d + 1, m, pc + 3, ls, if aRet m' = none then st else r :: st, I') Q) := by
  subst he
  have e1 : (as ++ st).take (aNp m') = as := by rw [← hn]; simp
  have e2 : (as ++ st).drop (aNp m') = st := by rw [← hn]; simp
  have hT : T (d + 1, m, pc, ls, as ++ st, I) = aGo (d + 1) m pc ls (as ++ st) I m' (aNp m') := by
    rw [T_ins h]
    unfold TI
    dsimp only
    rw [hx]
    simp only [cond_false]
    rw [hc]
    dsimp only
    rw [hq]
    rfl
  unfold aGo at hT
  rw [e1, e2] at hT
  exact E_cal hT ⟨by omega, by rw [List.length_append]; omega, hk.1, hk.2.1, hk.2.2⟩
theorem e_cv {x m' i1 i2 i3 c0 : Nat} {as : List Value} {ent : List Value} (h : aIns m pc = some (.invokevirtual x, 3)) (hc : aCall (aCo m) x = some (2, m', i1, i2, i3)) (hn : as.length = aNp m') (he : aEnt m' (Value.ref c0 :: as.reverse) = ent) (hk : aCat st ≤ 8 ∧ (aLay (Value.ref c0 :: as.reverse)).length ≤ aML m' ∧ as.all aOk2 = true) (hr : aRecv m' c0) : E (d + 1, m, pc, ls, as ++ Value.ref c0 :: st, I) Q ↔ E (d, m', 0, ent, [], I) (fun r I' => E (d + 1, m, pc + 3, ls, if aRet m' = none then st else r :: st, I') Q) := by
  subst he
  have e1 : (as ++ Value.ref c0 :: st).take (aNp m' + 1) = as ++ [Value.ref c0] := by
    rw [← hn, show as ++ Value.ref c0 :: st = (as ++ [Value.ref c0]) ++ st by simp, List.take_append_of_le_length (by simp), List.take_of_length_le (by simp)]
  have e2 : (as ++ Value.ref c0 :: st).drop (aNp m' + 1) = st := by
    rw [← hn, show as ++ Value.ref c0 :: st = (as ++ [Value.ref c0]) ++ st by simp, List.drop_left' (by simp)]
  have e3 : (as ++ Value.ref c0 :: st).drop (aNp m') = Value.ref c0 :: st := by rw [← hn]; simp
  have hT : T (d + 1, m, pc, ls, as ++ Value.ref c0 :: st, I) = tC ((1 ≤ d + 1 ∧ aNp m' + 1 ≤ (as ++ Value.ref c0 :: st).length ∧ aCat st ≤ 8 ∧ (aLay (as ++ [Value.ref c0]).reverse).length ≤ aML m' ∧ (as ++ [Value.ref c0]).all aOk2 = true) ∧ aRecv m' c0) (d, m', 0, aEnt m' (as ++ [Value.ref c0]).reverse, [], I) (fun r I' => (d + 1, m, pc + 3, ls, if aRet m' = none then st else r :: st, I')) := by
    rw [T_ins h]
    unfold TI
    dsimp only
    rw [hc]
    dsimp only
    rw [show (Nat.beq 3 3 && Nat.beq 2 2) = true from rfl]
    simp only [cond_true]
    rw [e3]
    dsimp only
    unfold aGo
    rw [e1, e2]
    rfl
  have e4 : (as ++ [Value.ref c0]).reverse = Value.ref c0 :: as.reverse := by simp
  rw [e4] at hT
  exact E_cal hT ⟨⟨by omega, by simp; omega, hk.1, hk.2.1, by rw [List.all_append, hk.2.2]; rfl⟩, hr⟩
theorem e_max {f m0 i1 i2 i3 : Nat} (h : aIns m pc = some (.invokestatic f, 3)) (hx : (Nat.beq (aCo m) 7 && Nat.beq f 267) = false) (hc : aCall (aCo m) f = some (3, m0, i1, i2, i3)) (hk : aCat st ≤ 8) : E (d + 1, m, pc, ls, .int y :: .int x :: st, I) Q ↔ E (d + 1, m, pc + 3, ls, .int (if x < y then y else x) :: st, I) Q := by
  refine E_jmp (c := 3 = 3 ∧ 1 ≤ d + 1 ∧ aCat st ≤ 8) ?_ ⟨rfl, by omega, hk⟩
  rw [T_ins h]
  unfold TI
  dsimp only
  rw [hx]
  simp only [cond_false]
  rw [hc]
  rfl
theorem e_min {f m0 i1 i2 i3 : Nat} (h : aIns m pc = some (.invokestatic f, 3)) (hx : (Nat.beq (aCo m) 7 && Nat.beq f 267) = false) (hc : aCall (aCo m) f = some (4, m0, i1, i2, i3)) (hk : aCat st ≤ 8) : E (d + 1, m, pc, ls, .int y :: .int x :: st, I) Q ↔ E (d + 1, m, pc + 3, ls, .int (if y < x then y else x) :: st, I) Q := by
  refine E_jmp (c := 3 = 3 ∧ 1 ≤ d + 1 ∧ aCat st ≤ 8) ?_ ⟨rfl, by omega, hk⟩
  rw [T_ins h]
  unfold TI
  dsimp only
  rw [hx]
  simp only [cond_false]
  rw [hc]
  rfl
theorem e_abs {f m0 i1 i2 i3 : Nat} (h : aIns m pc = some (.invokestatic f, 3)) (hx : (Nat.beq (aCo m) 7 && Nat.beq f 267) = false) (hc : aCall (aCo m) f = some (5, m0, i1, i2, i3)) (hk : aCat st ≤ 8) : E (d + 1, m, pc, ls, .int x :: st, I) Q ↔ E (d + 1, m, pc + 3, ls, .int (if 0 ≤ x then x else 0 - x) :: st, I) Q := by
  refine E_jmp (c := 3 = 3 ∧ 1 ≤ d + 1 ∧ aCat st ≤ 8) ?_ ⟨rfl, by omega, hk⟩
  rw [T_ins h]
  unfold TI
  dsimp only
  rw [hx]
  simp only [cond_false]
  rw [hc]
  rfl
theorem e_copy {k dp sp : Int32} {a b : Nat} (h : aIns m pc = some (.invokestatic 267, 3)) (hm : aCo m = 7) (hk : aCat st ≤ 8) (ha : aShp a = 20) (hb : aShp b = 20) : E (d + 1, m, pc, ls, .int k :: .int dp :: .ref b :: .int sp :: .ref a :: st, I) Q ↔ (¬ sp < 0 ∧ ¬ dp < 0 ∧ ¬ k < 0 ∧ sp.toNatClampNeg + k.toNatClampNeg ≤ aLen a ∧ dp.toNatClampNeg + k.toNatClampNeg ≤ aLen b) ∧ E (d + 1, m, pc + 3, ls, st, fun c' => if c' = b then va_cpy (I a) (I b) sp.toNatClampNeg dp.toNatClampNeg k.toNatClampNeg else I c') Q := by
  refine E_jmpc (c := 3 = 3 ∧ 1 ≤ d + 1 ∧ aCat st ≤ 8 ∧ aShp a = 20 ∧ aShp b = 20 ∧ ¬ sp < 0 ∧ ¬ dp < 0 ∧ ¬ k < 0 ∧ sp.toNatClampNeg + k.toNatClampNeg ≤ aLen a ∧ dp.toNatClampNeg + k.toNatClampNeg ≤ aLen b) ?_ ⟨fun q => q.2.2.2.2.2, fun q => ⟨rfl, by omega, hk, ha, hb, q⟩⟩
  rw [T_ins h]
  unfold TI
  dsimp only
  rw [hm]
  rfl
/-! returns -/
theorem e_iret (h : aIns m pc = some (.ireturn, 1)) (hr : aRet m = some .int) : E (d, m, pc, ls, [.int v], I) Q ↔ Q (.int v) I := E_ret (T_ins h) ⟨rfl, by rw [hr]; exact vp_nar_int v⟩
theorem e_zret (h : aIns m pc = some (.ireturn, 1)) (hr : aRet m = some .boolean) (hv : v = 0 ∨ v = 1) : E (d, m, pc, ls, [.int v], I) Q ↔ Q (.int v) I := E_ret (T_ins h) ⟨rfl, by rw [hr]; exact hv.elim (fun e => by subst e; exact (show narrow .boolean (.int 0) = .int 0 by decide +kernel)) (fun e => by subst e; exact (show narrow .boolean (.int 1) = .int 1 by decide +kernel))⟩
theorem e_zretc (h : aIns m pc = some (.ireturn, 1)) (hr : aRet m = some .boolean) : E (d, m, pc, ls, [.int v], I) Q ↔ aNar (some .boolean) v ∧ Q (.int v) I := E_retc (T_ins h) ⟨fun q => by rw [← hr]; exact q.2, fun q => ⟨rfl, by rw [hr]; exact q⟩⟩
theorem e_xret {ty : FieldType} (h : aIns m pc = some (.ireturn, 1)) (hr : aRet m = some ty) : E (d, m, pc, ls, [.int v], I) Q ↔ aNar (some ty) v ∧ Q (.int v) I := E_retc (T_ins h) ⟨fun q => by rw [← hr]; exact q.2, fun q => ⟨rfl, by rw [hr]; exact q⟩⟩
theorem e_vret (h : aIns m pc = some (.return_, 1)) (hr : aRet m = none) : E (d, m, pc, ls, [], I) Q ↔ Q .null I := E_ret (T_ins h) ⟨rfl, hr⟩
theorem e_aret {w : Value} {kn : String} (h : aIns m pc = some (.areturn, 1)) (hr : aRet m = some (.object kn)) (hw : aIsR w = true) : E (d, m, pc, ls, [w], I) Q ↔ Q w I := E_ret (T_ins h) ⟨rfl, hw, Or.inl ⟨_, hr⟩⟩
theorem e_lret {w : Int64} (h : aIns m pc = some (.lreturn, 1)) (hr : aRet m = some .long) : E (d, m, pc, ls, [.long w], I) Q ↔ Q (.long w) I := E_ret (T_ins h) ⟨rfl, hr⟩
end EL
end
section
/-! what each straight stretch of the methods does. Written by wip/gen/blocks.py -/
/-! 0 java/lang/Integer.bitCount(I)I -/
theorem b0_0 {d : Nat} {l0 : Int32} {I : IM} {Q : Po} : E (d, 0, 0, [.int l0], [], I) Q ↔ Q (.int ((((((((l0 - ((jUshr l0 1) &&& 1431655765)) &&& 858993459) + ((jUshr (l0 - ((jUshr l0 1) &&& 1431655765)) 2) &&& 858993459)) + (jUshr (((l0 - ((jUshr l0 1) &&& 1431655765)) &&& 858993459) + ((jUshr (l0 - ((jUshr l0 1) &&& 1431655765)) 2) &&& 858993459)) 4)) &&& 252645135) + (jUshr (((((l0 - ((jUshr l0 1) &&& 1431655765)) &&& 858993459) + ((jUshr (l0 - ((jUshr l0 1) &&& 1431655765)) 2) &&& 858993459)) + (jUshr (((l0 - ((jUshr l0 1) &&& 1431655765)) &&& 858993459) + ((jUshr (l0 - ((jUshr l0 1) &&& 1431655765)) 2) &&& 858993459)) 4)) &&& 252645135) 8)) + (jUshr ((((((l0 - ((jUshr l0 1) &&& 1431655765)) &&& 858993459) + ((jUshr (l0 - ((jUshr l0 1) &&& 1431655765)) 2) &&& 858993459)) + (jUshr (((l0 - ((jUshr l0 1) &&& 1431655765)) &&& 858993459) + ((jUshr (l0 - ((jUshr l0 1) &&& 1431655765)) 2) &&& 858993459)) 4)) &&& 252645135) + (jUshr (((((l0 - ((jUshr l0 1) &&& 1431655765)) &&& 858993459) + ((jUshr (l0 - ((jUshr l0 1) &&& 1431655765)) 2) &&& 858993459)) + (jUshr (((l0 - ((jUshr l0 1) &&& 1431655765)) &&& 858993459) + ((jUshr (l0 - ((jUshr l0 1) &&& 1431655765)) 2) &&& 858993459)) 4)) &&& 252645135) 8)) 16)) &&& 63)) I := (e_iload_n rfl rfl).trans ((e_iload_n rfl rfl).trans ((e_iconst (v := 1) rfl (by decide)).trans ((e_iushr rfl).trans ((e_ldc_w rfl rfl).trans ((e_iand rfl).trans ((e_isub rfl).trans ((e_istore_n rfl (by decide) rfl rfl).trans ((e_iload_n rfl rfl).trans ((e_ldc_w rfl rfl).trans ((e_iand rfl).trans ((e_iload_n rfl rfl).trans ((e_iconst (v := 2) rfl (by decide)).trans ((e_iushr rfl).trans ((e_ldc_w rfl rfl).trans ((e_iand rfl).trans ((e_iadd rfl).trans ((e_istore_n rfl (by decide) rfl rfl).trans ((e_iload_n rfl rfl).trans ((e_iload_n rfl rfl).trans ((e_iconst (v := 4) rfl (by decide)).trans ((e_iushr rfl).trans ((e_iadd rfl).trans ((e_ldc_w rfl rfl).trans ((e_iand rfl).trans ((e_istore_n rfl (by decide) rfl rfl).trans ((e_iload_n rfl rfl).trans ((e_iload_n rfl rfl).trans ((e_bipush (v := 8) rfl (by decide)).trans ((e_iushr rfl).trans ((e_iadd rfl).trans ((e_istore_n rfl (by decide) rfl rfl).trans ((e_iload_n rfl rfl).trans ((e_iload_n rfl rfl).trans ((e_bipush (v := 16) rfl (by decide)).trans ((e_iushr rfl).trans ((e_iadd rfl).trans ((e_istore_n rfl (by decide) rfl rfl).trans ((e_iload_n rfl rfl).trans ((e_bipush (v := 63) rfl (by decide)).trans ((e_iand rfl).trans (e_iret rfl rfl)))))))))))))))))))))))))))))))))))))))))
/-! 1 java/lang/String.length()I -/
theorem b1_0 {d : Nat} {l0 : Nat} {I : IM} {Q : Po} (h0 : 1010 ≤ l0 ∧ l0 < 1016) : E (d + 1, 1, 0, [.ref l0], [], I) Q ↔ E (d, 5, 0, [.ref l0], [], I) (fun r I' => E (d + 1, 1, 9, [.ref l0], [r, .int (nI (aStrBy (l0 + 10 - 1020)).length)], I') Q) := (e_aload_n rfl rfl rfl).trans ((e_getf_sv rfl rfl rfl h0).trans ((e_alen_b rfl (aS2B h0)).trans ((e_aload_n rfl rfl rfl).trans (e_cv (as := []) rfl rfl rfl rfl ⟨Nat.le_of_ble_eq_true rfl, Nat.le_of_ble_eq_true rfl, rfl⟩ (Or.inr ⟨rfl, h0⟩)))))
theorem b1_9 {d : Nat} {l0 : Nat} {s0 : Int32} {s1 : Int32} {I : IM} {Q : Po} : E (d, 1, 9, [.ref l0], [.int s1, .int s0], I) Q ↔ Q (.int (s0 >>> (s1 &&& 31))) I := (e_ishr rfl).trans (e_iret rfl rfl)
/-! 2 java/lang/String.charAt(I)C -/
theorem b2_0 {d : Nat} {l0 : Nat} {l1 : Int32} {I : IM} {Q : Po} (h0 : 1010 ≤ l0 ∧ l0 < 1016) : E (d + 1, 2, 0, [.ref l0, .int l1], [], I) Q ↔ E (d, 6, 0, [.ref l0], [], I) (fun r I' => E (d + 1, 2, 4, [.ref l0, .int l1], [r], I') Q) := (e_aload_n rfl rfl rfl).trans (e_cv (as := []) rfl rfl rfl rfl ⟨Nat.le_of_ble_eq_true rfl, Nat.le_of_ble_eq_true rfl, rfl⟩ (Or.inr ⟨rfl, h0⟩))
theorem b2_4 {d : Nat} {l0 : Nat} {l1 : Int32} {s0 : Int32} {I : IM} {Q : Po} : E (d, 2, 4, [.ref l0, .int l1], [.int s0], I) Q ↔ if s0 = 0 then E (d, 2, 16, [.ref l0, .int l1], [], I) Q else E (d, 2, 7, [.ref l0, .int l1], [], I) Q := e_if_eq rfl rfl
theorem b2_7 {d : Nat} {l0 : Nat} {l1 : Int32} {I : IM} {Q : Po} (h0 : 1010 ≤ l0 ∧ l0 < 1016) : E (d + 1, 2, 7, [.ref l0, .int l1], [], I) Q ↔ E (d, 8, 0, [.ref (l0 + 10), .int l1], [], I) (fun r I' => E (d + 1, 2, 15, [.ref l0, .int l1], [r], I') Q) := (e_aload_n rfl rfl rfl).trans ((e_getf_sv rfl rfl rfl h0).trans ((e_iload_n rfl rfl).trans (e_cs (as := [.int l1, .ref (l0 + 10)]) rfl rfl rfl rfl rfl rfl ⟨Nat.le_of_ble_eq_true rfl, Nat.le_of_ble_eq_true rfl, rfl⟩)))
theorem b2_15 {d : Nat} {l0 : Nat} {l1 : Int32} {s0 : Int32} {I : IM} {Q : Po} : E (d, 2, 15, [.ref l0, .int l1], [.int s0], I) Q ↔ aNar (some .char) s0 ∧ Q (.int s0) I := e_xret rfl rfl
/-! 3 java/lang/String.indexOf(I)I -/
theorem b3_0 {d : Nat} {l0 : Nat} {l1 : Int32} {I : IM} {Q : Po} (h0 : 1010 ≤ l0 ∧ l0 < 1016) : E (d + 1, 3, 0, [.ref l0, .int l1], [], I) Q ↔ E (d, 4, 0, [.ref l0, .int l1, .int 0], [], I) (fun r I' => E (d + 1, 3, 6, [.ref l0, .int l1], [r], I') Q) := (e_aload_n rfl rfl rfl).trans ((e_iload_n rfl rfl).trans ((e_iconst (v := 0) rfl (by decide)).trans (e_cv (as := [.int 0, .int l1]) rfl rfl rfl rfl ⟨Nat.le_of_ble_eq_true rfl, Nat.le_of_ble_eq_true rfl, rfl⟩ (Or.inr ⟨rfl, h0⟩))))
theorem b3_6 {d : Nat} {l0 : Nat} {l1 : Int32} {s0 : Int32} {I : IM} {Q : Po} : E (d, 3, 6, [.ref l0, .int l1], [.int s0], I) Q ↔ Q (.int s0) I := e_iret rfl rfl
/-! 4 java/lang/String.indexOf(II)I -/
theorem b4_0 {d : Nat} {l0 : Nat} {l1 : Int32} {l2 : Int32} {I : IM} {Q : Po} (h0 : 1010 ≤ l0 ∧ l0 < 1016) : E (d + 1, 4, 0, [.ref l0, .int l1, .int l2], [], I) Q ↔ E (d, 6, 0, [.ref l0], [], I) (fun r I' => E (d + 1, 4, 4, [.ref l0, .int l1, .int l2], [r], I') Q) := (e_aload_n rfl rfl rfl).trans (e_cv (as := []) rfl rfl rfl rfl ⟨Nat.le_of_ble_eq_true rfl, Nat.le_of_ble_eq_true rfl, rfl⟩ (Or.inr ⟨rfl, h0⟩))
theorem b4_4 {d : Nat} {l0 : Nat} {l1 : Int32} {l2 : Int32} {s0 : Int32} {I : IM} {Q : Po} : E (d, 4, 4, [.ref l0, .int l1, .int l2], [.int s0], I) Q ↔ if s0 = 0 then E (d, 4, 23, [.ref l0, .int l1, .int l2], [], I) Q else E (d, 4, 7, [.ref l0, .int l1, .int l2], [], I) Q := e_if_eq rfl rfl
theorem b4_7 {d : Nat} {l0 : Nat} {l1 : Int32} {l2 : Int32} {I : IM} {Q : Po} (h0 : 1010 ≤ l0 ∧ l0 < 1016) : E (d + 1, 4, 7, [.ref l0, .int l1, .int l2], [], I) Q ↔ E (d, 1, 0, [.ref l0], [], I) (fun r I' => E (d + 1, 4, 17, [.ref l0, .int l1, .int l2], [r, .int l2, .int l1, .ref (l0 + 10)], I') Q) := (e_aload_n rfl rfl rfl).trans ((e_getf_sv rfl rfl rfl h0).trans ((e_iload_n rfl rfl).trans ((e_iload_n rfl rfl).trans ((e_aload_n rfl rfl rfl).trans (e_cv (as := []) rfl rfl rfl rfl ⟨Nat.le_of_ble_eq_true rfl, Nat.le_of_ble_eq_true rfl, rfl⟩ (Or.inr ⟨rfl, h0⟩))))))
theorem b4_17 {d : Nat} {l0 : Nat} {l1 : Int32} {l2 : Int32} {s0 : Nat} {s1 : Int32} {s2 : Int32} {s3 : Int32} {I : IM} {Q : Po} : E (d + 1, 4, 17, [.ref l0, .int l1, .int l2], [.int s3, .int s2, .int s1, .ref s0], I) Q ↔ E (d, 10, 0, [.ref s0, .int s1, .int s2, .int s3], [], I) (fun r I' => E (d + 1, 4, 20, [.ref l0, .int l1, .int l2], [r], I') Q) := e_cs (as := [.int s3, .int s2, .int s1, .ref s0]) rfl rfl rfl rfl rfl rfl ⟨Nat.le_of_ble_eq_true rfl, Nat.le_of_ble_eq_true rfl, rfl⟩
theorem b4_20 {d : Nat} {l0 : Nat} {l1 : Int32} {l2 : Int32} {s0 : Int32} {I : IM} {Q : Po} : E (d, 4, 20, [.ref l0, .int l1, .int l2], [.int s0], I) Q ↔ E (d, 4, 36, [.ref l0, .int l1, .int l2], [.int s0], I) Q := e_goto rfl rfl
theorem b4_23 {d : Nat} {l0 : Nat} {l1 : Int32} {l2 : Int32} {I : IM} {Q : Po} (h0 : 1010 ≤ l0 ∧ l0 < 1016) : E (d + 1, 4, 23, [.ref l0, .int l1, .int l2], [], I) Q ↔ E (d, 1, 0, [.ref l0], [], I) (fun r I' => E (d + 1, 4, 33, [.ref l0, .int l1, .int l2], [r, .int l2, .int l1, .ref (l0 + 10)], I') Q) := (e_aload_n rfl rfl rfl).trans ((e_getf_sv rfl rfl rfl h0).trans ((e_iload_n rfl rfl).trans ((e_iload_n rfl rfl).trans ((e_aload_n rfl rfl rfl).trans (e_cv (as := []) rfl rfl rfl rfl ⟨Nat.le_of_ble_eq_true rfl, Nat.le_of_ble_eq_true rfl, rfl⟩ (Or.inr ⟨rfl, h0⟩))))))
theorem b4_36 {d : Nat} {l0 : Nat} {l1 : Int32} {l2 : Int32} {s0 : Int32} {I : IM} {Q : Po} : E (d, 4, 36, [.ref l0, .int l1, .int l2], [.int s0], I) Q ↔ Q (.int s0) I := e_iret rfl rfl
/-! 5 java/lang/String.coder()B -/
theorem b5_0 {d : Nat} {l0 : Nat} {I : IM} {Q : Po} : E (d, 5, 0, [.ref l0], [], I) Q ↔ if (1 : Int32) = 0 then E (d, 5, 13, [.ref l0], [], I) Q else E (d, 5, 6, [.ref l0], [], I) Q := (e_getst_c rfl rfl).trans (e_if_eq rfl rfl)
theorem b5_6 {d : Nat} {l0 : Nat} {I : IM} {Q : Po} (h0 : 1010 ≤ l0 ∧ l0 < 1016) : E (d, 5, 6, [.ref l0], [], I) Q ↔ E (d, 5, 14, [.ref l0], [.int 0], I) Q := (e_aload_n rfl rfl rfl).trans ((e_getf_sc rfl rfl rfl h0).trans (e_goto rfl rfl))
theorem b5_13 {d : Nat} {l0 : Nat} {I : IM} {Q : Po} : E (d, 5, 13, [.ref l0], [], I) Q ↔ E (d, 5, 14, [.ref l0], [.int 1], I) Q := e_iconst (v := 1) rfl (by decide)
theorem b5_14 {d : Nat} {l0 : Nat} {s0 : Int32} {I : IM} {Q : Po} : E (d, 5, 14, [.ref l0], [.int s0], I) Q ↔ aNar (some .byte) s0 ∧ Q (.int s0) I := e_xret rfl rfl
/-! 6 java/lang/String.isLatin1()Z -/
theorem b6_0 {d : Nat} {l0 : Nat} {I : IM} {Q : Po} : E (d, 6, 0, [.ref l0], [], I) Q ↔ if (1 : Int32) = 0 then E (d, 6, 17, [.ref l0], [], I) Q else E (d, 6, 6, [.ref l0], [], I) Q := (e_getst_c rfl rfl).trans (e_if_eq rfl rfl)
theorem b6_6 {d : Nat} {l0 : Nat} {I : IM} {Q : Po} (h0 : 1010 ≤ l0 ∧ l0 < 1016) : E (d, 6, 6, [.ref l0], [], I) Q ↔ if (0 : Int32) = 0 then E (d, 6, 13, [.ref l0], [], I) Q else E (d, 6, 17, [.ref l0], [], I) Q := (e_aload_n rfl rfl rfl).trans ((e_getf_sc rfl rfl rfl h0).trans (e_if_ne rfl rfl))
theorem b6_13 {d : Nat} {l0 : Nat} {I : IM} {Q : Po} : E (d, 6, 13, [.ref l0], [], I) Q ↔ E (d, 6, 18, [.ref l0], [.int 1], I) Q := (e_iconst (v := 1) rfl (by decide)).trans (e_goto rfl rfl)
theorem b6_17 {d : Nat} {l0 : Nat} {I : IM} {Q : Po} : E (d, 6, 17, [.ref l0], [], I) Q ↔ E (d, 6, 18, [.ref l0], [.int 0], I) Q := e_iconst (v := 0) rfl (by decide)
theorem b6_18 {d : Nat} {l0 : Nat} {s0 : Int32} {I : IM} {Q : Po} : E (d, 6, 18, [.ref l0], [.int s0], I) Q ↔ aNar (some .boolean) s0 ∧ Q (.int s0) I := e_zretc rfl rfl
/-! 7 java/lang/String.checkIndex(II)V -/
theorem b7_0 {d : Nat} {l0 : Int32} {l1 : Int32} {I : IM} {Q : Po} : E (d + 1, 7, 0, [.int l0, .int l1], [], I) Q ↔ E (d, 12, 0, [.int l0, .int l1, .ref 1030], [], I) (fun r I' => E (d + 1, 7, 8, [.int l0, .int l1], [r], I') Q) := (e_iload_n rfl rfl).trans ((e_iload_n rfl rfl).trans ((e_getst_f rfl rfl).trans (e_cs (as := [.ref 1030, .int l1, .int l0]) rfl rfl rfl rfl rfl rfl ⟨Nat.le_of_ble_eq_true rfl, Nat.le_of_ble_eq_true rfl, rfl⟩)))
theorem b7_8 {d : Nat} {l0 : Int32} {l1 : Int32} {s0 : Int32} {I : IM} {Q : Po} : E (d, 7, 8, [.int l0, .int l1], [.int s0], I) Q ↔ Q .null I := (e_pop rfl rfl).trans (e_vret rfl rfl)
/-! 8 java/lang/StringLatin1.charAt([BI)C -/
theorem b8_0 {d : Nat} {l0 : Nat} {l1 : Int32} {I : IM} {Q : Po} (h0 : 1020 ≤ l0 ∧ l0 < 1026) : E (d + 1, 8, 0, [.ref l0, .int l1], [], I) Q ↔ E (d, 7, 0, [.int l1, .int (nI (aStrBy (l0 - 1020)).length)], [], I) (fun r I' => E (d + 1, 8, 6, [.ref l0, .int l1], [], I') Q) := (e_iload_n rfl rfl).trans ((e_aload_n rfl rfl rfl).trans ((e_alen_b rfl h0).trans (e_cs (as := [.int (nI (aStrBy (l0 - 1020)).length), .int l1]) rfl rfl rfl rfl rfl rfl ⟨Nat.le_of_ble_eq_true rfl, Nat.le_of_ble_eq_true rfl, rfl⟩)))
theorem b8_6 {d : Nat} {l0 : Nat} {l1 : Int32} {I : IM} {Q : Po} (h0 : 1020 ≤ l0 ∧ l0 < 1026) : E (d, 8, 6, [.ref l0, .int l1], [], I) Q ↔ vp_in l1 (aStrBy (l0 - 1020)).length ∧ aNar (some .char) (((Int32.toUInt32 (((aStrBy (l0 - 1020)).getD (Int32.toNatClampNeg l1) 0) &&& 255)) % 65536).toInt32) ∧ Q (.int (((Int32.toUInt32 (((aStrBy (l0 - 1020)).getD (Int32.toNatClampNeg l1) 0) &&& 255)) % 65536).toInt32)) I := (e_aload_n rfl rfl rfl).trans ((e_iload_n rfl rfl).trans ((e_bald rfl h0).trans (and_congr_right' ((e_sipush (v := 255) rfl (by decide)).trans ((e_iand rfl).trans ((e_i2c rfl).trans (e_xret rfl rfl)))))))
/-! 9 java/lang/StringLatin1.canEncode(I)Z -/
theorem b9_0 {d : Nat} {l0 : Int32} {I : IM} {Q : Po} : E (d, 9, 0, [.int l0], [], I) Q ↔ if l0 < 0 then E (d, 9, 15, [.int l0], [], I) Q else E (d, 9, 4, [.int l0], [], I) Q := (e_iload_n rfl rfl).trans (e_if_lt rfl rfl)
theorem b9_4 {d : Nat} {l0 : Int32} {I : IM} {Q : Po} : E (d, 9, 4, [.int l0], [], I) Q ↔ if 255 < l0 then E (d, 9, 15, [.int l0], [], I) Q else E (d, 9, 11, [.int l0], [], I) Q := (e_iload_n rfl rfl).trans ((e_sipush (v := 255) rfl (by decide)).trans (e_icmp_gt rfl rfl))
theorem b9_11 {d : Nat} {l0 : Int32} {I : IM} {Q : Po} : E (d, 9, 11, [.int l0], [], I) Q ↔ E (d, 9, 16, [.int l0], [.int 1], I) Q := (e_iconst (v := 1) rfl (by decide)).trans (e_goto rfl rfl)
theorem b9_15 {d : Nat} {l0 : Int32} {I : IM} {Q : Po} : E (d, 9, 15, [.int l0], [], I) Q ↔ E (d, 9, 16, [.int l0], [.int 0], I) Q := e_iconst (v := 0) rfl (by decide)
theorem b9_16 {d : Nat} {l0 : Int32} {s0 : Int32} {I : IM} {Q : Po} : E (d, 9, 16, [.int l0], [.int s0], I) Q ↔ aNar (some .boolean) s0 ∧ Q (.int s0) I := e_zretc rfl rfl
/-! 10 java/lang/StringLatin1.indexOf([BIII)I -/
theorem b10_0 {d : Nat} {l0 : Nat} {l1 : Int32} {l2 : Int32} {l3 : Int32} {I : IM} {Q : Po} : E (d + 1, 10, 0, [.ref l0, .int l1, .int l2, .int l3], [], I) Q ↔ E (d, 9, 0, [.int l1], [], I) (fun r I' => E (d + 1, 10, 4, [.ref l0, .int l1, .int l2, .int l3], [r], I') Q) := (e_iload_n rfl rfl).trans (e_cs (as := [.int l1]) rfl rfl rfl rfl rfl rfl ⟨Nat.le_of_ble_eq_true rfl, Nat.le_of_ble_eq_true rfl, rfl⟩)
theorem b10_4 {d : Nat} {l0 : Nat} {l1 : Int32} {l2 : Int32} {l3 : Int32} {s0 : Int32} {I : IM} {Q : Po} : E (d, 10, 4, [.ref l0, .int l1, .int l2, .int l3], [.int s0], I) Q ↔ if s0 = 0 then E (d, 10, 7, [.ref l0, .int l1, .int l2, .int l3], [], I) Q else E (d, 10, 9, [.ref l0, .int l1, .int l2, .int l3], [], I) Q := e_if_ne rfl rfl
theorem b10_7 {d : Nat} {l0 : Nat} {l1 : Int32} {l2 : Int32} {l3 : Int32} {I : IM} {Q : Po} : E (d, 10, 7, [.ref l0, .int l1, .int l2, .int l3], [], I) Q ↔ Q (.int (-1)) I := (e_iconst (v := (-1)) rfl (by decide)).trans (e_iret rfl rfl)
theorem b10_9 {d : Nat} {l0 : Nat} {l1 : Int32} {l2 : Int32} {l3 : Int32} {I : IM} {Q : Po} (h0 : 1020 ≤ l0 ∧ l0 < 1026) : E (d + 1, 10, 9, [.ref l0, .int l1, .int l2, .int l3], [], I) Q ↔ if (if l2 < 0 then 0 else l2) < (if (nI (aStrBy (l0 - 1020)).length) < l3 then (nI (aStrBy (l0 - 1020)).length) else l3) then E (d + 1, 10, 29, [.ref l0, .int l1, .int (if l2 < 0 then 0 else l2), .int (if (nI (aStrBy (l0 - 1020)).length) < l3 then (nI (aStrBy (l0 - 1020)).length) else l3)], [], I) Q else E (d + 1, 10, 27, [.ref l0, .int l1, .int (if l2 < 0 then 0 else l2), .int (if (nI (aStrBy (l0 - 1020)).length) < l3 then (nI (aStrBy (l0 - 1020)).length) else l3)], [], I) Q := (e_iload_n rfl rfl).trans ((e_iconst (v := 0) rfl (by decide)).trans ((e_max rfl rfl rfl (Nat.le_of_ble_eq_true rfl)).trans ((e_istore_n rfl (by decide) rfl rfl).trans ((e_iload_n rfl rfl).trans ((e_aload_n rfl rfl rfl).trans ((e_alen_b rfl h0).trans ((e_min rfl rfl rfl (Nat.le_of_ble_eq_true rfl)).trans ((e_istore_n rfl (by decide) rfl rfl).trans ((e_iload_n rfl rfl).trans ((e_iload_n rfl rfl).trans (e_icmp_lt rfl rfl)))))))))))
theorem b10_27 {d : Nat} {l0 : Nat} {l1 : Int32} {l2 : Int32} {l3 : Int32} {I : IM} {Q : Po} : E (d, 10, 27, [.ref l0, .int l1, .int l2, .int l3], [], I) Q ↔ Q (.int (-1)) I := (e_iconst (v := (-1)) rfl (by decide)).trans (e_iret rfl rfl)
theorem b10_29 {d : Nat} {l0 : Nat} {l1 : Int32} {l2 : Int32} {l3 : Int32} {I : IM} {Q : Po} : E (d + 1, 10, 29, [.ref l0, .int l1, .int l2, .int l3], [], I) Q ↔ E (d, 11, 0, [.ref l0, .int l1, .int l2, .int l3, UN, UN], [], I) (fun r I' => E (d + 1, 10, 36, [.ref l0, .int l1, .int l2, .int l3], [r], I') Q) := (e_aload_n rfl rfl rfl).trans ((e_iload_n rfl rfl).trans ((e_iload_n rfl rfl).trans ((e_iload_n rfl rfl).trans (e_cs (as := [.int l3, .int l2, .int l1, .ref l0]) rfl rfl rfl rfl rfl rfl ⟨Nat.le_of_ble_eq_true rfl, Nat.le_of_ble_eq_true rfl, rfl⟩))))
theorem b10_36 {d : Nat} {l0 : Nat} {l1 : Int32} {l2 : Int32} {l3 : Int32} {s0 : Int32} {I : IM} {Q : Po} : E (d, 10, 36, [.ref l0, .int l1, .int l2, .int l3], [.int s0], I) Q ↔ Q (.int s0) I := e_iret rfl rfl
/-! 11 java/lang/StringLatin1.indexOfChar([BIII)I -/
theorem b11_0 {d : Nat} {l0 : Nat} {l1 : Int32} {l2 : Int32} {l3 : Int32} {l4 : Value} {l5 : Value} {I : IM} {Q : Po} : E (d, 11, 0, [.ref l0, .int l1, .int l2, .int l3, l4, l5], [], I) Q ↔ E (d, 11, 7, [.ref l0, .int l1, .int l2, .int l3, .int ((Int32.toInt8 l1).toInt32), .int l2], [], I) Q := (e_iload_n rfl rfl).trans ((e_i2b rfl).trans ((e_istore rfl (by decide) rfl rfl).trans ((e_iload_n rfl rfl).trans (e_istore rfl (by decide) rfl rfl))))
theorem b11_7 {d : Nat} {l0 : Nat} {l1 : Int32} {l2 : Int32} {l3 : Int32} {l4 : Int32} {l5 : Int32} {I : IM} {Q : Po} : E (d, 11, 7, [.ref l0, .int l1, .int l2, .int l3, .int l4, .int l5], [], I) Q ↔ if l5 < l3 then E (d, 11, 13, [.ref l0, .int l1, .int l2, .int l3, .int l4, .int l5], [], I) Q else E (d, 11, 31, [.ref l0, .int l1, .int l2, .int l3, .int l4, .int l5], [], I) Q := (e_iload rfl rfl).trans ((e_iload_n rfl rfl).trans (e_icmp_ge rfl rfl))
theorem b11_13 {d : Nat} {l0 : Nat} {l1 : Int32} {l2 : Int32} {l3 : Int32} {l4 : Int32} {l5 : Int32} {I : IM} {Q : Po} (h0 : 1020 ≤ l0 ∧ l0 < 1026) : E (d, 11, 13, [.ref l0, .int l1, .int l2, .int l3, .int l4, .int l5], [], I) Q ↔ vp_in l5 (aStrBy (l0 - 1020)).length ∧ (if ((aStrBy (l0 - 1020)).getD (Int32.toNatClampNeg l5) 0) = l4 then E (d, 11, 22, [.ref l0, .int l1, .int l2, .int l3, .int l4, .int l5], [], I) Q else E (d, 11, 25, [.ref l0, .int l1, .int l2, .int l3, .int l4, .int l5], [], I) Q) := (e_aload_n rfl rfl rfl).trans ((e_iload rfl rfl).trans ((e_bald rfl h0).trans (and_congr_right' ((e_iload rfl rfl).trans (e_icmp_ne rfl rfl)))))
theorem b11_22 {d : Nat} {l0 : Nat} {l1 : Int32} {l2 : Int32} {l3 : Int32} {l4 : Int32} {l5 : Int32} {I : IM} {Q : Po} : E (d, 11, 22, [.ref l0, .int l1, .int l2, .int l3, .int l4, .int l5], [], I) Q ↔ Q (.int l5) I := (e_iload rfl rfl).trans (e_iret rfl rfl)
theorem b11_25 {d : Nat} {l0 : Nat} {l1 : Int32} {l2 : Int32} {l3 : Int32} {l4 : Int32} {l5 : Int32} {I : IM} {Q : Po} : E (d, 11, 25, [.ref l0, .int l1, .int l2, .int l3, .int l4, .int l5], [], I) Q ↔ E (d, 11, 7, [.ref l0, .int l1, .int l2, .int l3, .int l4, .int (l5 + 1)], [], I) Q := (e_iinc (v := 1) rfl rfl (by decide) rfl (by decide) rfl).trans (e_goto rfl rfl)
theorem b11_31 {d : Nat} {l0 : Nat} {l1 : Int32} {l2 : Int32} {l3 : Int32} {l4 : Int32} {l5 : Int32} {I : IM} {Q : Po} : E (d, 11, 31, [.ref l0, .int l1, .int l2, .int l3, .int l4, .int l5], [], I) Q ↔ Q (.int (-1)) I := (e_iconst (v := (-1)) rfl (by decide)).trans (e_iret rfl rfl)
/-! 12 jdk/internal/util/Preconditions.checkIndex(IILjava/util/function/BiFunction;)I -/
theorem b12_0 {d : Nat} {l0 : Int32} {l1 : Int32} {l2 : Nat} {I : IM} {Q : Po} : E (d, 12, 0, [.int l0, .int l1, .ref l2], [], I) Q ↔ if l0 < 0 then E (d, 12, 9, [.int l0, .int l1, .ref l2], [], I) Q else E (d, 12, 4, [.int l0, .int l1, .ref l2], [], I) Q := (e_iload_n rfl rfl).trans (e_if_lt rfl rfl)
theorem b12_4 {d : Nat} {l0 : Int32} {l1 : Int32} {l2 : Nat} {I : IM} {Q : Po} : E (d, 12, 4, [.int l0, .int l1, .ref l2], [], I) Q ↔ if l0 < l1 then E (d, 12, 16, [.int l0, .int l1, .ref l2], [], I) Q else E (d, 12, 9, [.int l0, .int l1, .ref l2], [], I) Q := (e_iload_n rfl rfl).trans ((e_iload_n rfl rfl).trans (e_icmp_lt rfl rfl))
theorem b12_16 {d : Nat} {l0 : Int32} {l1 : Int32} {l2 : Nat} {I : IM} {Q : Po} : E (d, 12, 16, [.int l0, .int l1, .ref l2], [], I) Q ↔ Q (.int l0) I := (e_iload_n rfl rfl).trans (e_iret rfl rfl)
/-! 13 TwelveShort$Guest.copyFrom(LTwelveShort$Guest;)V -/
theorem b13_0 {d : Nat} {l0 : Nat} {l1 : Nat} {I : IM} {Q : Po} (h0 : aShp l1 = 0) (h1 : aShp l0 = 0) : E (d, 13, 0, [.ref l0, .ref l1], [], I) Q ↔ Q .null (up (up (up (up (up I l0 0 (I l1 0)) l0 1 (((up I l0 0 (I l1 0))) l1 1)) l0 2 (((up (up I l0 0 (I l1 0)) l0 1 (((up I l0 0 (I l1 0))) l1 1))) l1 2)) l0 3 (((up (up (up I l0 0 (I l1 0)) l0 1 (((up I l0 0 (I l1 0))) l1 1)) l0 2 (((up (up I l0 0 (I l1 0)) l0 1 (((up I l0 0 (I l1 0))) l1 1))) l1 2))) l1 3)) l0 4 (((up (up (up (up I l0 0 (I l1 0)) l0 1 (((up I l0 0 (I l1 0))) l1 1)) l0 2 (((up (up I l0 0 (I l1 0)) l0 1 (((up I l0 0 (I l1 0))) l1 1))) l1 2)) l0 3 (((up (up (up I l0 0 (I l1 0)) l0 1 (((up I l0 0 (I l1 0))) l1 1)) l0 2 (((up (up I l0 0 (I l1 0)) l0 1 (((up I l0 0 (I l1 0))) l1 1))) l1 2))) l1 3))) l1 4)) := (e_aload_n rfl rfl rfl).trans ((e_aload_n rfl rfl rfl).trans ((e_getf_i rfl rfl rfl h0).trans ((e_putf rfl rfl rfl rfl h1).trans ((e_aload_n rfl rfl rfl).trans ((e_aload_n rfl rfl rfl).trans ((e_getf_i rfl rfl rfl h0).trans ((e_putf rfl rfl rfl rfl h1).trans ((e_aload_n rfl rfl rfl).trans ((e_aload_n rfl rfl rfl).trans ((e_getf_i rfl rfl rfl h0).trans ((e_putf rfl rfl rfl rfl h1).trans ((e_aload_n rfl rfl rfl).trans ((e_aload_n rfl rfl rfl).trans ((e_getf_i rfl rfl rfl h0).trans ((e_putf rfl rfl rfl rfl h1).trans ((e_aload_n rfl rfl rfl).trans ((e_aload_n rfl rfl rfl).trans ((e_getf_i rfl rfl rfl h0).trans ((e_putf rfl rfl rfl rfl h1).trans (e_vret rfl rfl))))))))))))))))))))
/-! 14 TwelveShort$Guest.isOf(I)Z -/
theorem b14_0 {d : Nat} {l0 : Nat} {l1 : Int32} {l2 : Value} {l3 : Value} {I : IM} {Q : Po} (h0 : aShp l0 = 0) : E (d, 14, 0, [.ref l0, .int l1, l2, l3], [], I) Q ↔ E (d, 14, 7, [.ref l0, .int l1, .int (I l0 0), .int 0], [], I) Q := (e_aload_n rfl rfl rfl).trans ((e_getf_i rfl rfl rfl h0).trans ((e_istore_n rfl (by decide) rfl rfl).trans ((e_iconst (v := 0) rfl (by decide)).trans (e_istore_n rfl (by decide) rfl rfl))))
theorem b14_7 {d : Nat} {l0 : Nat} {l1 : Int32} {l2 : Int32} {l3 : Int32} {I : IM} {Q : Po} : E (d, 14, 7, [.ref l0, .int l1, .int l2, .int l3], [], I) Q ↔ if l3 < 6 then E (d, 14, 13, [.ref l0, .int l1, .int l2, .int l3], [], I) Q else E (d, 14, 39, [.ref l0, .int l1, .int l2, .int l3], [], I) Q := (e_iload_n rfl rfl).trans ((e_bipush (v := 6) rfl (by decide)).trans (e_icmp_ge rfl rfl))
theorem b14_13 {d : Nat} {l0 : Nat} {l1 : Int32} {l2 : Int32} {l3 : Int32} {I : IM} {Q : Po} : E (d + 1, 14, 13, [.ref l0, .int l1, .int l2, .int l3], [], I) Q ↔ E (d, 110, 0, [.int l2], [], I) (fun r I' => E (d + 1, 14, 17, [.ref l0, .int l1, .int l2, .int l3], [r], I') Q) := (e_iload_n rfl rfl).trans (e_cs (as := [.int l2]) rfl rfl rfl rfl rfl rfl ⟨Nat.le_of_ble_eq_true rfl, Nat.le_of_ble_eq_true rfl, rfl⟩)
theorem b14_17 {d : Nat} {l0 : Nat} {l1 : Int32} {l2 : Int32} {l3 : Int32} {s0 : Int32} {I : IM} {Q : Po} : E (d, 14, 17, [.ref l0, .int l1, .int l2, .int l3], [.int s0], I) Q ↔ if s0 = 0 then E (d, 14, 39, [.ref l0, .int l1, .int l2, .int l3], [], I) Q else E (d, 14, 20, [.ref l0, .int l1, .int l2, .int l3], [], I) Q := e_if_eq rfl rfl
theorem b14_20 {d : Nat} {l0 : Nat} {l1 : Int32} {l2 : Int32} {l3 : Int32} {I : IM} {Q : Po} : E (d, 14, 20, [.ref l0, .int l1, .int l2, .int l3], [], I) Q ↔ if l2 = l1 then E (d, 14, 25, [.ref l0, .int l1, .int l2, .int l3], [], I) Q else E (d, 14, 27, [.ref l0, .int l1, .int l2, .int l3], [], I) Q := (e_iload_n rfl rfl).trans ((e_iload_n rfl rfl).trans (e_icmp_ne rfl rfl))
theorem b14_25 {d : Nat} {l0 : Nat} {l1 : Int32} {l2 : Int32} {l3 : Int32} {I : IM} {Q : Po} : E (d, 14, 25, [.ref l0, .int l1, .int l2, .int l3], [], I) Q ↔ Q (.int 1) I := (e_iconst (v := 1) rfl (by decide)).trans (e_zret rfl rfl (by decide))
theorem b14_27 {d : Nat} {l0 : Nat} {l1 : Int32} {l2 : Int32} {l3 : Int32} {I : IM} {Q : Po} : E (d, 14, 27, [.ref l0, .int l1, .int l2, .int l3], [], I) Q ↔ vp_in l2 6 ∧ E (d, 14, 7, [.ref l0, .int l1, .int (aUnder (Int32.toNatClampNeg l2)), .int (l3 + 1)], [], I) Q := (e_getst_u rfl rfl).trans ((e_iload_n rfl rfl).trans ((e_iald_u rfl).trans (and_congr_right' ((e_istore_n rfl (by decide) rfl rfl).trans ((e_iinc (v := 1) rfl rfl (by decide) rfl (by decide) rfl).trans (e_goto rfl rfl))))))
theorem b14_39 {d : Nat} {l0 : Nat} {l1 : Int32} {l2 : Int32} {l3 : Int32} {I : IM} {Q : Po} : E (d, 14, 39, [.ref l0, .int l1, .int l2, .int l3], [], I) Q ↔ Q (.int 0) I := (e_iconst (v := 0) rfl (by decide)).trans (e_zret rfl rfl (by decide))
/-! 15 TwelveShort$Guest.comes(II)I -/
theorem b15_0 {d : Nat} {l0 : Nat} {l1 : Int32} {l2 : Int32} {l3 : Value} {l4 : Value} {I : IM} {Q : Po} (h0 : aShp l0 = 0) : E (d, 15, 0, [.ref l0, .int l1, .int l2, l3, l4], [], I) Q ↔ ¬ (2 : Int32) = 0 ∧ (if 60 < (I l0 2) then E (d, 15, 13, [.ref l0, .int l1, .int l2, .int (l1 / 2), l4], [], I) Q else E (d, 15, 17, [.ref l0, .int l1, .int l2, .int (l1 / 2), l4], [], I) Q) := (e_iload_n rfl rfl).trans ((e_iconst (v := 2) rfl (by decide)).trans ((e_idiv rfl).trans (and_congr_right' ((e_istore_n rfl (by decide) rfl rfl).trans ((e_aload_n rfl rfl rfl).trans ((e_getf_i rfl rfl rfl h0).trans ((e_bipush (v := 60) rfl (by decide)).trans (e_icmp_le rfl rfl))))))))
theorem b15_13 {d : Nat} {l0 : Nat} {l1 : Int32} {l2 : Int32} {l3 : Int32} {l4 : Value} {I : IM} {Q : Po} : E (d, 15, 13, [.ref l0, .int l1, .int l2, .int l3, l4], [], I) Q ↔ E (d, 15, 18, [.ref l0, .int l1, .int l2, .int l3, l4], [.int 0], I) Q := (e_iconst (v := 0) rfl (by decide)).trans (e_goto rfl rfl)
theorem b15_17 {d : Nat} {l0 : Nat} {l1 : Int32} {l2 : Int32} {l3 : Int32} {l4 : Value} {I : IM} {Q : Po} : E (d, 15, 17, [.ref l0, .int l1, .int l2, .int l3, l4], [], I) Q ↔ E (d, 15, 18, [.ref l0, .int l1, .int l2, .int l3, l4], [.int l1], I) Q := e_iload_n rfl rfl
theorem b15_18 {d : Nat} {l0 : Nat} {l1 : Int32} {l2 : Int32} {l3 : Int32} {l4 : Value} {s0 : Int32} {I : IM} {Q : Po} (h0 : aShp l0 = 0) : E (d, 15, 18, [.ref l0, .int l1, .int l2, .int l3, l4], [.int s0], I) Q ↔ if (I l0 0) = 1 then E (d, 15, 60, [.ref l0, .int l1, .int l2, .int l3, .int s0], [], I) Q else if (I l0 0) = 2 then E (d, 15, 72, [.ref l0, .int l1, .int l2, .int l3, .int s0], [], I) Q else if (I l0 0) = 3 then E (d, 15, 62, [.ref l0, .int l1, .int l2, .int l3, .int s0], [], I) Q else if (I l0 0) = 4 then E (d, 15, 75, [.ref l0, .int l1, .int l2, .int l3, .int s0], [], I) Q else if (I l0 0) = 5 then E (d, 15, 85, [.ref l0, .int l1, .int l2, .int l3, .int s0], [], I) Q else E (d, 15, 87, [.ref l0, .int l1, .int l2, .int l3, .int s0], [], I) Q := (e_istore rfl (by decide) rfl rfl).trans ((e_aload_n rfl rfl rfl).trans ((e_getf_i rfl rfl rfl h0).trans ((e_tsw (k := 1) rfl (by decide) (by decide)).trans (e_tsel_cons (k := 1) (k2 := 2) (by decide) rfl (e_tsel_cons (k := 2) (k2 := 3) (by decide) rfl (e_tsel_cons (k := 3) (k2 := 4) (by decide) rfl (e_tsel_cons (k := 4) (k2 := 5) (by decide) rfl (e_tsel_cons (k := 5) (k2 := 6) (by decide) rfl (e_tsel_nil rfl)))))))))
theorem b15_60 {d : Nat} {l0 : Nat} {l1 : Int32} {l2 : Int32} {l3 : Int32} {l4 : Int32} {I : IM} {Q : Po} : E (d, 15, 60, [.ref l0, .int l1, .int l2, .int l3, .int l4], [], I) Q ↔ Q (.int l3) I := (e_iload_n rfl rfl).trans (e_iret rfl rfl)
theorem b15_62 {d : Nat} {l0 : Nat} {l1 : Int32} {l2 : Int32} {l3 : Int32} {l4 : Int32} {I : IM} {Q : Po} : E (d + 1, 15, 62, [.ref l0, .int l1, .int l2, .int l3, .int l4], [], I) Q ↔ Q (.int (if 100 < (l3 + 10) then 100 else (l3 + 10))) I := (e_iload_n rfl rfl).trans ((e_bipush (v := 10) rfl (by decide)).trans ((e_iadd rfl).trans ((e_bipush (v := 100) rfl (by decide)).trans ((e_min rfl rfl rfl (Nat.le_of_ble_eq_true rfl)).trans (e_iret rfl rfl)))))
theorem b15_72 {d : Nat} {l0 : Nat} {l1 : Int32} {l2 : Int32} {l3 : Int32} {l4 : Int32} {I : IM} {Q : Po} : E (d, 15, 72, [.ref l0, .int l1, .int l2, .int l3, .int l4], [], I) Q ↔ Q (.int l4) I := (e_iload rfl rfl).trans (e_iret rfl rfl)
theorem b15_75 {d : Nat} {l0 : Nat} {l1 : Int32} {l2 : Int32} {l3 : Int32} {l4 : Int32} {I : IM} {Q : Po} : E (d + 1, 15, 75, [.ref l0, .int l1, .int l2, .int l3, .int l4], [], I) Q ↔ Q (.int (if 100 < (l4 + l2) then 100 else (l4 + l2))) I := (e_iload rfl rfl).trans ((e_iload_n rfl rfl).trans ((e_iadd rfl).trans ((e_bipush (v := 100) rfl (by decide)).trans ((e_min rfl rfl rfl (Nat.le_of_ble_eq_true rfl)).trans (e_iret rfl rfl)))))
theorem b15_85 {d : Nat} {l0 : Nat} {l1 : Int32} {l2 : Int32} {l3 : Int32} {l4 : Int32} {I : IM} {Q : Po} : E (d, 15, 85, [.ref l0, .int l1, .int l2, .int l3, .int l4], [], I) Q ↔ Q (.int 0) I := (e_iconst (v := 0) rfl (by decide)).trans (e_iret rfl rfl)
theorem b15_87 {d : Nat} {l0 : Nat} {l1 : Int32} {l2 : Int32} {l3 : Int32} {l4 : Int32} {I : IM} {Q : Po} : E (d, 15, 87, [.ref l0, .int l1, .int l2, .int l3, .int l4], [], I) Q ↔ Q (.int l1) I := (e_iload_n rfl rfl).trans (e_iret rfl rfl)
/-! 16 TwelveShort$Guest.walks()I -/
theorem b16_0 {d : Nat} {l0 : Nat} {l1 : Value} {l2 : Value} {I : IM} {Q : Po} (h0 : aShp l0 = 0) : E (d + 1, 16, 0, [.ref l0, l1, l2], [], I) Q ↔ if (I l0 0) = 1 then E (d + 1, 16, 56, [.ref l0, .int (2 * (I l0 2)), .int (if ((I l0 2) - 10) < 0 then 0 else ((I l0 2) - 10))], [], I) Q else if (I l0 0) = 2 then E (d + 1, 16, 66, [.ref l0, .int (2 * (I l0 2)), .int (if ((I l0 2) - 10) < 0 then 0 else ((I l0 2) - 10))], [], I) Q else if (I l0 0) = 3 then E (d + 1, 16, 58, [.ref l0, .int (2 * (I l0 2)), .int (if ((I l0 2) - 10) < 0 then 0 else ((I l0 2) - 10))], [], I) Q else if (I l0 0) = 4 then E (d + 1, 16, 68, [.ref l0, .int (2 * (I l0 2)), .int (if ((I l0 2) - 10) < 0 then 0 else ((I l0 2) - 10))], [], I) Q else if (I l0 0) = 5 then E (d + 1, 16, 72, [.ref l0, .int (2 * (I l0 2)), .int (if ((I l0 2) - 10) < 0 then 0 else ((I l0 2) - 10))], [], I) Q else E (d + 1, 16, 75, [.ref l0, .int (2 * (I l0 2)), .int (if ((I l0 2) - 10) < 0 then 0 else ((I l0 2) - 10))], [], I) Q := (e_iconst (v := 2) rfl (by decide)).trans ((e_aload_n rfl rfl rfl).trans ((e_getf_i rfl rfl rfl h0).trans ((e_imul rfl).trans ((e_istore_n rfl (by decide) rfl rfl).trans ((e_aload_n rfl rfl rfl).trans ((e_getf_i rfl rfl rfl h0).trans ((e_bipush (v := 10) rfl (by decide)).trans ((e_isub rfl).trans ((e_iconst (v := 0) rfl (by decide)).trans ((e_max rfl rfl rfl (Nat.le_of_ble_eq_true rfl)).trans ((e_istore_n rfl (by decide) rfl rfl).trans ((e_aload_n rfl rfl rfl).trans ((e_getf_i rfl rfl rfl h0).trans ((e_tsw (k := 1) rfl (by decide) (by decide)).trans (e_tsel_cons (k := 1) (k2 := 2) (by decide) rfl (e_tsel_cons (k := 2) (k2 := 3) (by decide) rfl (e_tsel_cons (k := 3) (k2 := 4) (by decide) rfl (e_tsel_cons (k := 4) (k2 := 5) (by decide) rfl (e_tsel_cons (k := 5) (k2 := 6) (by decide) rfl (e_tsel_nil rfl))))))))))))))))))))
theorem b16_56 {d : Nat} {l0 : Nat} {l1 : Int32} {l2 : Int32} {I : IM} {Q : Po} : E (d, 16, 56, [.ref l0, .int l1, .int l2], [], I) Q ↔ Q (.int l1) I := (e_iload_n rfl rfl).trans (e_iret rfl rfl)
theorem b16_58 {d : Nat} {l0 : Nat} {l1 : Int32} {l2 : Int32} {I : IM} {Q : Po} : E (d + 1, 16, 58, [.ref l0, .int l1, .int l2], [], I) Q ↔ Q (.int (if (l1 - 5) < 0 then 0 else (l1 - 5))) I := (e_iload_n rfl rfl).trans ((e_iconst (v := 5) rfl (by decide)).trans ((e_isub rfl).trans ((e_iconst (v := 0) rfl (by decide)).trans ((e_max rfl rfl rfl (Nat.le_of_ble_eq_true rfl)).trans (e_iret rfl rfl)))))
theorem b16_66 {d : Nat} {l0 : Nat} {l1 : Int32} {l2 : Int32} {I : IM} {Q : Po} : E (d, 16, 66, [.ref l0, .int l1, .int l2], [], I) Q ↔ Q (.int l2) I := (e_iload_n rfl rfl).trans (e_iret rfl rfl)
theorem b16_68 {d : Nat} {l0 : Nat} {l1 : Int32} {l2 : Int32} {I : IM} {Q : Po} : E (d, 16, 68, [.ref l0, .int l1, .int l2], [], I) Q ↔ ¬ (2 : Int32) = 0 ∧ Q (.int (l2 / 2)) I := (e_iload_n rfl rfl).trans ((e_iconst (v := 2) rfl (by decide)).trans ((e_idiv rfl).trans (and_congr_right' (e_iret rfl rfl))))
theorem b16_72 {d : Nat} {l0 : Nat} {l1 : Int32} {l2 : Int32} {I : IM} {Q : Po} : E (d, 16, 72, [.ref l0, .int l1, .int l2], [], I) Q ↔ Q (.int 99) I := (e_bipush (v := 99) rfl (by decide)).trans (e_iret rfl rfl)
theorem b16_75 {d : Nat} {l0 : Nat} {l1 : Int32} {l2 : Int32} {I : IM} {Q : Po} (h0 : aShp l0 = 0) : E (d, 16, 75, [.ref l0, .int l1, .int l2], [], I) Q ↔ Q (.int (I l0 2)) I := (e_aload_n rfl rfl rfl).trans ((e_getf_i rfl rfl rfl h0).trans (e_iret rfl rfl))
/-! 17 TwelveShort$Guest.brings()I -/
theorem b17_0 {d : Nat} {l0 : Nat} {l1 : Value} {l2 : Value} {l3 : Value} {I : IM} {Q : Po} (h0 : aShp l0 = 0) : E (d + 1, 17, 0, [.ref l0, l1, l2, l3], [], I) Q ↔ ¬ (10 : Int32) = 0 ∧ (if (I l0 0) = 1 then E (d + 1, 17, 60, [.ref l0, .int ((I l0 3) / 10), .int (((I l0 3) / 10) + 5), .int (if (((I l0 3) / 10) - 1) < 0 then 0 else (((I l0 3) / 10) - 1))], [], I) Q else if (I l0 0) = 2 then E (d + 1, 17, 66, [.ref l0, .int ((I l0 3) / 10), .int (((I l0 3) / 10) + 5), .int (if (((I l0 3) / 10) - 1) < 0 then 0 else (((I l0 3) / 10) - 1))], [], I) Q else if (I l0 0) = 3 then E (d + 1, 17, 62, [.ref l0, .int ((I l0 3) / 10), .int (((I l0 3) / 10) + 5), .int (if (((I l0 3) / 10) - 1) < 0 then 0 else (((I l0 3) / 10) - 1))], [], I) Q else if (I l0 0) = 4 then E (d + 1, 17, 68, [.ref l0, .int ((I l0 3) / 10), .int (((I l0 3) / 10) + 5), .int (if (((I l0 3) / 10) - 1) < 0 then 0 else (((I l0 3) / 10) - 1))], [], I) Q else if (I l0 0) = 5 then E (d + 1, 17, 72, [.ref l0, .int ((I l0 3) / 10), .int (((I l0 3) / 10) + 5), .int (if (((I l0 3) / 10) - 1) < 0 then 0 else (((I l0 3) / 10) - 1))], [], I) Q else E (d + 1, 17, 74, [.ref l0, .int ((I l0 3) / 10), .int (((I l0 3) / 10) + 5), .int (if (((I l0 3) / 10) - 1) < 0 then 0 else (((I l0 3) / 10) - 1))], [], I) Q) := (e_aload_n rfl rfl rfl).trans ((e_getf_i rfl rfl rfl h0).trans ((e_bipush (v := 10) rfl (by decide)).trans ((e_idiv rfl).trans (and_congr_right' ((e_istore_n rfl (by decide) rfl rfl).trans ((e_iload_n rfl rfl).trans ((e_iconst (v := 5) rfl (by decide)).trans ((e_iadd rfl).trans ((e_istore_n rfl (by decide) rfl rfl).trans ((e_iload_n rfl rfl).trans ((e_iconst (v := 1) rfl (by decide)).trans ((e_isub rfl).trans ((e_iconst (v := 0) rfl (by decide)).trans ((e_max rfl rfl rfl (Nat.le_of_ble_eq_true rfl)).trans ((e_istore_n rfl (by decide) rfl rfl).trans ((e_aload_n rfl rfl rfl).trans ((e_getf_i rfl rfl rfl h0).trans ((e_tsw (k := 1) rfl (by decide) (by decide)).trans (e_tsel_cons (k := 1) (k2 := 2) (by decide) rfl (e_tsel_cons (k := 2) (k2 := 3) (by decide) rfl (e_tsel_cons (k := 3) (k2 := 4) (by decide) rfl (e_tsel_cons (k := 4) (k2 := 5) (by decide) rfl (e_tsel_cons (k := 5) (k2 := 6) (by decide) rfl (e_tsel_nil rfl))))))))))))))))))))))))
theorem b17_60 {d : Nat} {l0 : Nat} {l1 : Int32} {l2 : Int32} {l3 : Int32} {I : IM} {Q : Po} : E (d, 17, 60, [.ref l0, .int l1, .int l2, .int l3], [], I) Q ↔ Q (.int l2) I := (e_iload_n rfl rfl).trans (e_iret rfl rfl)
theorem b17_62 {d : Nat} {l0 : Nat} {l1 : Int32} {l2 : Int32} {l3 : Int32} {I : IM} {Q : Po} : E (d, 17, 62, [.ref l0, .int l1, .int l2, .int l3], [], I) Q ↔ Q (.int (2 * l2)) I := (e_iconst (v := 2) rfl (by decide)).trans ((e_iload_n rfl rfl).trans ((e_imul rfl).trans (e_iret rfl rfl)))
theorem b17_66 {d : Nat} {l0 : Nat} {l1 : Int32} {l2 : Int32} {l3 : Int32} {I : IM} {Q : Po} : E (d, 17, 66, [.ref l0, .int l1, .int l2, .int l3], [], I) Q ↔ Q (.int l3) I := (e_iload_n rfl rfl).trans (e_iret rfl rfl)
theorem b17_68 {d : Nat} {l0 : Nat} {l1 : Int32} {l2 : Int32} {l3 : Int32} {I : IM} {Q : Po} : E (d, 17, 68, [.ref l0, .int l1, .int l2, .int l3], [], I) Q ↔ Q (.int (l3 + 2)) I := (e_iload_n rfl rfl).trans ((e_iconst (v := 2) rfl (by decide)).trans ((e_iadd rfl).trans (e_iret rfl rfl)))
theorem b17_72 {d : Nat} {l0 : Nat} {l1 : Int32} {l2 : Int32} {l3 : Int32} {I : IM} {Q : Po} : E (d, 17, 72, [.ref l0, .int l1, .int l2, .int l3], [], I) Q ↔ Q (.int 0) I := (e_iconst (v := 0) rfl (by decide)).trans (e_iret rfl rfl)
theorem b17_74 {d : Nat} {l0 : Nat} {l1 : Int32} {l2 : Int32} {l3 : Int32} {I : IM} {Q : Po} : E (d, 17, 74, [.ref l0, .int l1, .int l2, .int l3], [], I) Q ↔ Q (.int l1) I := (e_iload_n rfl rfl).trans (e_iret rfl rfl)
/-! 18 TwelveShort$Guest.worth()I -/
theorem b18_0 {d : Nat} {l0 : Nat} {l1 : Value} {l2 : Value} {I : IM} {Q : Po} (h0 : aShp l0 = 0) : E (d, 18, 0, [.ref l0, l1, l2], [], I) Q ↔ if (I l0 0) = 1 then E (d, 18, 56, [.ref l0, .int ((I l0 3) + (I l0 4)), .int (99 - (I l0 2))], [], I) Q else if (I l0 0) = 2 then E (d, 18, 62, [.ref l0, .int ((I l0 3) + (I l0 4)), .int (99 - (I l0 2))], [], I) Q else if (I l0 0) = 3 then E (d, 18, 58, [.ref l0, .int ((I l0 3) + (I l0 4)), .int (99 - (I l0 2))], [], I) Q else if (I l0 0) = 4 then E (d, 18, 64, [.ref l0, .int ((I l0 3) + (I l0 4)), .int (99 - (I l0 2))], [], I) Q else if (I l0 0) = 5 then E (d, 18, 69, [.ref l0, .int ((I l0 3) + (I l0 4)), .int (99 - (I l0 2))], [], I) Q else E (d, 18, 74, [.ref l0, .int ((I l0 3) + (I l0 4)), .int (99 - (I l0 2))], [], I) Q := (e_aload_n rfl rfl rfl).trans ((e_getf_i rfl rfl rfl h0).trans ((e_aload_n rfl rfl rfl).trans ((e_getf_i rfl rfl rfl h0).trans ((e_iadd rfl).trans ((e_istore_n rfl (by decide) rfl rfl).trans ((e_bipush (v := 99) rfl (by decide)).trans ((e_aload_n rfl rfl rfl).trans ((e_getf_i rfl rfl rfl h0).trans ((e_isub rfl).trans ((e_istore_n rfl (by decide) rfl rfl).trans ((e_aload_n rfl rfl rfl).trans ((e_getf_i rfl rfl rfl h0).trans ((e_tsw (k := 1) rfl (by decide) (by decide)).trans (e_tsel_cons (k := 1) (k2 := 2) (by decide) rfl (e_tsel_cons (k := 2) (k2 := 3) (by decide) rfl (e_tsel_cons (k := 3) (k2 := 4) (by decide) rfl (e_tsel_cons (k := 4) (k2 := 5) (by decide) rfl (e_tsel_cons (k := 5) (k2 := 6) (by decide) rfl (e_tsel_nil rfl)))))))))))))))))))
theorem b18_56 {d : Nat} {l0 : Nat} {l1 : Int32} {l2 : Int32} {I : IM} {Q : Po} : E (d, 18, 56, [.ref l0, .int l1, .int l2], [], I) Q ↔ Q (.int l1) I := (e_iload_n rfl rfl).trans (e_iret rfl rfl)
theorem b18_58 {d : Nat} {l0 : Nat} {l1 : Int32} {l2 : Int32} {I : IM} {Q : Po} : E (d, 18, 58, [.ref l0, .int l1, .int l2], [], I) Q ↔ ¬ (2 : Int32) = 0 ∧ Q (.int (l1 / 2)) I := (e_iload_n rfl rfl).trans ((e_iconst (v := 2) rfl (by decide)).trans ((e_idiv rfl).trans (and_congr_right' (e_iret rfl rfl))))
theorem b18_62 {d : Nat} {l0 : Nat} {l1 : Int32} {l2 : Int32} {I : IM} {Q : Po} : E (d, 18, 62, [.ref l0, .int l1, .int l2], [], I) Q ↔ Q (.int l2) I := (e_iload_n rfl rfl).trans (e_iret rfl rfl)
theorem b18_64 {d : Nat} {l0 : Nat} {l1 : Int32} {l2 : Int32} {I : IM} {Q : Po} : E (d, 18, 64, [.ref l0, .int l1, .int l2], [], I) Q ↔ Q (.int (l2 + 7)) I := (e_iload_n rfl rfl).trans ((e_bipush (v := 7) rfl (by decide)).trans ((e_iadd rfl).trans (e_iret rfl rfl)))
theorem b18_69 {d : Nat} {l0 : Nat} {l1 : Int32} {l2 : Int32} {I : IM} {Q : Po} (h0 : aShp l0 = 0) : E (d, 18, 69, [.ref l0, .int l1, .int l2], [], I) Q ↔ Q (.int (I l0 1)) I := (e_aload_n rfl rfl rfl).trans ((e_getf_i rfl rfl rfl h0).trans (e_iret rfl rfl))
theorem b18_74 {d : Nat} {l0 : Nat} {l1 : Int32} {l2 : Int32} {I : IM} {Q : Po} (h0 : aShp l0 = 0) : E (d, 18, 74, [.ref l0, .int l1, .int l2], [], I) Q ↔ Q (.int (I l0 3)) I := (e_aload_n rfl rfl rfl).trans ((e_getf_i rfl rfl rfl h0).trans (e_iret rfl rfl))
/-! 19 TwelveShort$House.copyFrom(LTwelveShort$House;)V -/
theorem b19_0 {d : Nat} {l0 : Nat} {l1 : Nat} {l2 : Value} {I : IM} {Q : Po} : E (d, 19, 0, [.ref l0, .ref l1, l2], [], I) Q ↔ E (d, 19, 2, [.ref l0, .ref l1, .int 0], [], I) Q := (e_iconst (v := 0) rfl (by decide)).trans (e_istore_n rfl (by decide) rfl rfl)
theorem b19_2 {d : Nat} {l0 : Nat} {l1 : Nat} {l2 : Int32} {I : IM} {Q : Po} (h0 : aShp l1 = 1) : E (d, 19, 2, [.ref l0, .ref l1, .int l2], [], I) Q ↔ if l2 < (I l1 2) then E (d, 19, 10, [.ref l0, .ref l1, .int l2], [], I) Q else E (d, 19, 31, [.ref l0, .ref l1, .int l2], [], I) Q := (e_iload_n rfl rfl).trans ((e_aload_n rfl rfl rfl).trans ((e_getf_i rfl rfl rfl h0).trans (e_icmp_ge rfl rfl)))
theorem b19_10 {d : Nat} {l0 : Nat} {l1 : Nat} {l2 : Int32} {I : IM} {Q : Po} (h0 : aShp l0 = 1) (h1 : aShp (aRf l0 0) = 21) (h2 : aShp l1 = 1) (h3 : aShp (aRf l1 0) = 21) (h4 : aShp (aRf (aRf l0 0) (Int32.toNatClampNeg l2)) = 0) : E (d + 1, 19, 10, [.ref l0, .ref l1, .int l2], [], I) Q ↔ vp_in l2 (aLen (aRf l0 0)) ∧ vp_in l2 (aLen (aRf l1 0)) ∧ E (d, 13, 0, [.ref (aRf (aRf l0 0) (Int32.toNatClampNeg l2)), .ref (aRf (aRf l1 0) (Int32.toNatClampNeg l2))], [], I) (fun r I' => E (d + 1, 19, 25, [.ref l0, .ref l1, .int l2], [], I') Q) := (e_aload_n rfl rfl rfl).trans ((e_getf_r rfl rfl rfl h0).trans ((e_iload_n rfl rfl).trans ((e_aald rfl h1 (by decide) (by decide)).trans (and_congr_right' ((e_aload_n rfl rfl rfl).trans ((e_getf_r rfl rfl rfl h2).trans ((e_iload_n rfl rfl).trans ((e_aald rfl h3 (by decide) (by decide)).trans (and_congr_right' (e_cv (as := [.ref (aRf (aRf l1 0) (Int32.toNatClampNeg l2))]) rfl rfl rfl rfl ⟨Nat.le_of_ble_eq_true rfl, Nat.le_of_ble_eq_true rfl, rfl⟩ (Or.inl ⟨by decide, h4⟩)))))))))))
theorem b19_25 {d : Nat} {l0 : Nat} {l1 : Nat} {l2 : Int32} {I : IM} {Q : Po} : E (d, 19, 25, [.ref l0, .ref l1, .int l2], [], I) Q ↔ E (d, 19, 2, [.ref l0, .ref l1, .int (l2 + 1)], [], I) Q := (e_iinc (v := 1) rfl rfl (by decide) rfl (by decide) rfl).trans (e_goto rfl rfl)
theorem b19_31 {d : Nat} {l0 : Nat} {l1 : Nat} {l2 : Int32} {I : IM} {Q : Po} : E (d, 19, 31, [.ref l0, .ref l1, .int l2], [], I) Q ↔ E (d, 19, 33, [.ref l0, .ref l1, .int 0], [], I) Q := (e_iconst (v := 0) rfl (by decide)).trans (e_istore_n rfl (by decide) rfl rfl)
theorem b19_33 {d : Nat} {l0 : Nat} {l1 : Nat} {l2 : Int32} {I : IM} {Q : Po} : E (d, 19, 33, [.ref l0, .ref l1, .int l2], [], I) Q ↔ if l2 < 3 then E (d, 19, 38, [.ref l0, .ref l1, .int l2], [], I) Q else E (d, 19, 56, [.ref l0, .ref l1, .int l2], [], I) Q := (e_iload_n rfl rfl).trans ((e_iconst (v := 3) rfl (by decide)).trans (e_icmp_ge rfl rfl))
theorem b19_38 {d : Nat} {l0 : Nat} {l1 : Nat} {l2 : Int32} {I : IM} {Q : Po} (h0 : aShp l0 = 1) (h1 : aShp l1 = 1) (h2 : aShp (aRf l1 1) = 20) (h3 : aShp (aRf l0 1) = 20) : E (d, 19, 38, [.ref l0, .ref l1, .int l2], [], I) Q ↔ vp_in l2 (aLen (aRf l1 1)) ∧ vp_in l2 (aLen (aRf l0 1)) ∧ E (d, 19, 33, [.ref l0, .ref l1, .int (l2 + 1)], [], (up I (aRf l0 1) (Int32.toNatClampNeg l2) (I (aRf l1 1) (Int32.toNatClampNeg l2)))) Q := (e_aload_n rfl rfl rfl).trans ((e_getf_r rfl rfl rfl h0).trans ((e_iload_n rfl rfl).trans ((e_aload_n rfl rfl rfl).trans ((e_getf_r rfl rfl rfl h1).trans ((e_iload_n rfl rfl).trans ((e_iald rfl h2).trans (and_congr_right' ((e_iast rfl h3).trans (and_congr_right' ((e_iinc (v := 1) rfl rfl (by decide) rfl (by decide) rfl).trans (e_goto rfl rfl)))))))))))
theorem b19_56 {d : Nat} {l0 : Nat} {l1 : Nat} {l2 : Int32} {I : IM} {Q : Po} (h0 : aShp l1 = 1) (h1 : aShp l0 = 1) : E (d, 19, 56, [.ref l0, .ref l1, .int l2], [], I) Q ↔ Q .null (up (up (up (up (up (up (up (up (up (up I l0 2 (I l1 2)) l0 3 (((up I l0 2 (I l1 2))) l1 3)) l0 4 (((up (up I l0 2 (I l1 2)) l0 3 (((up I l0 2 (I l1 2))) l1 3))) l1 4)) l0 5 (((up (up (up I l0 2 (I l1 2)) l0 3 (((up I l0 2 (I l1 2))) l1 3)) l0 4 (((up (up I l0 2 (I l1 2)) l0 3 (((up I l0 2 (I l1 2))) l1 3))) l1 4))) l1 5)) l0 6 (((up (up (up (up I l0 2 (I l1 2)) l0 3 (((up I l0 2 (I l1 2))) l1 3)) l0 4 (((up (up I l0 2 (I l1 2)) l0 3 (((up I l0 2 (I l1 2))) l1 3))) l1 4)) l0 5 (((up (up (up I l0 2 (I l1 2)) l0 3 (((up I l0 2 (I l1 2))) l1 3)) l0 4 (((up (up I l0 2 (I l1 2)) l0 3 (((up I l0 2 (I l1 2))) l1 3))) l1 4))) l1 5))) l1 6)) l0 7 (((up (up (up (up (up I l0 2 (I l1 2)) l0 3 (((up I l0 2 (I l1 2))) l1 3)) l0 4 (((up (up I l0 2 (I l1 2)) l0 3 (((up I l0 2 (I l1 2))) l1 3))) l1 4)) l0 5 (((up (up (up I l0 2 (I l1 2)) l0 3 (((up I l0 2 (I l1 2))) l1 3)) l0 4 (((up (up I l0 2 (I l1 2)) l0 3 (((up I l0 2 (I l1 2))) l1 3))) l1 4))) l1 5)) l0 6 (((up (up (up (up I l0 2 (I l1 2)) l0 3 (((up I l0 2 (I l1 2))) l1 3)) l0 4 (((up (up I l0 2 (I l1 2)) l0 3 (((up I l0 2 (I l1 2))) l1 3))) l1 4)) l0 5 (((up (up (up I l0 2 (I l1 2)) l0 3 (((up I l0 2 (I l1 2))) l1 3)) l0 4 (((up (up I l0 2 (I l1 2)) l0 3 (((up I l0 2 (I l1 2))) l1 3))) l1 4))) l1 5))) l1 6))) l1 7)) l0 8 (((up (up (up (up (up (up I l0 2 (I l1 2)) l0 3 (((up I l0 2 (I l1 2))) l1 3)) l0 4 (((up (up I l0 2 (I l1 2)) l0 3 (((up I l0 2 (I l1 2))) l1 3))) l1 4)) l0 5 (((up (up (up I l0 2 (I l1 2)) l0 3 (((up I l0 2 (I l1 2))) l1 3)) l0 4 (((up (up I l0 2 (I l1 2)) l0 3 (((up I l0 2 (I l1 2))) l1 3))) l1 4))) l1 5)) l0 6 (((up (up (up (up I l0 2 (I l1 2)) l0 3 (((up I l0 2 (I l1 2))) l1 3)) l0 4 (((up (up I l0 2 (I l1 2)) l0 3 (((up I l0 2 (I l1 2))) l1 3))) l1 4)) l0 5 (((up (up (up I l0 2 (I l1 2)) l0 3 (((up I l0 2 (I l1 2))) l1 3)) l0 4 (((up (up I l0 2 (I l1 2)) l0 3 (((up I l0 2 (I l1 2))) l1 3))) l1 4))) l1 5))) l1 6)) l0 7 (((up (up (up (up (up I l0 2 (I l1 2)) l0 3 (((up I l0 2 (I l1 2))) l1 3)) l0 4 (((up (up I l0 2 (I l1 2)) l0 3 (((up I l0 2 (I l1 2))) l1 3))) l1 4)) l0 5 (((up (up (up I l0 2 (I l1 2)) l0 3 (((up I l0 2 (I l1 2))) l1 3)) l0 4 (((up (up I l0 2 (I l1 2)) l0 3 (((up I l0 2 (I l1 2))) l1 3))) l1 4))) l1 5)) l0 6 (((up (up (up (up I l0 2 (I l1 2)) l0 3 (((up I l0 2 (I l1 2))) l1 3)) l0 4 (((up (up I l0 2 (I l1 2)) l0 3 (((up I l0 2 (I l1 2))) l1 3))) l1 4)) l0 5 (((up (up (up I l0 2 (I l1 2)) l0 3 (((up I l0 2 (I l1 2))) l1 3)) l0 4 (((up (up I l0 2 (I l1 2)) l0 3 (((up I l0 2 (I l1 2))) l1 3))) l1 4))) l1 5))) l1 6))) l1 7))) l1 8)) l0 9 (((up (up (up (up (up (up (up I l0 2 (I l1 2)) l0 3 (((up I l0 2 (I l1 2))) l1 3)) l0 4 (((up (up I l0 2 (I l1 2)) l0 3 (((up I l0 2 (I l1 2))) l1 3))) l1 4)) l0 5 (((up (up (up I l0 2 (I l1 2)) l0 3 (((up I l0 2 (I l1 2))) l1 3)) l0 4 (((up (up I l0 2 (I l1 2)) l0 3 (((up I l0 2 (I l1 2))) l1 3))) l1 4))) l1 5)) l0 6 (((up (up (up (up I l0 2 (I l1 2)) l0 3 (((up I l0 2 (I l1 2))) l1 3)) l0 4 (((up (up I l0 2 (I l1 2)) l0 3 (((up I l0 2 (I l1 2))) l1 3))) l1 4)) l0 5 (((up (up (up I l0 2 (I l1 2)) l0 3 (((up I l0 2 (I l1 2))) l1 3)) l0 4 (((up (up I l0 2 (I l1 2)) l0 3 (((up I l0 2 (I l1 2))) l1 3))) l1 4))) l1 5))) l1 6)) l0 7 (((up (up (up (up (up I l0 2 (I l1 2)) l0 3 (((up I l0 2 (I l1 2))) l1 3)) l0 4 (((up (up I l0 2 (I l1 2)) l0 3 (((up I l0 2 (I l1 2))) l1 3))) l1 4)) l0 5 (((up (up (up I l0 2 (I l1 2)) l0 3 (((up I l0 2 (I l1 2))) l1 3)) l0 4 (((up (up I l0 2 (I l1 2)) l0 3 (((up I l0 2 (I l1 2))) l1 3))) l1 4))) l1 5)) l0 6 (((up (up (up (up I l0 2 (I l1 2)) l0 3 (((up I l0 2 (I l1 2))) l1 3)) l0 4 (((up (up I l0 2 (I l1 2)) l0 3 (((up I l0 2 (I l1 2))) l1 3))) l1 4)) l0 5 (((up (up (up I l0 2 (I l1 2)) l0 3 (((up I l0 2 (I l1 2))) l1 3)) l0 4 (((up (up I l0 2 (I l1 2)) l0 3 (((up I l0 2 (I l1 2))) l1 3))) l1 4))) l1 5))) l1 6))) l1 7)) l0 8 (((up (up (up (up (up (up I l0 2 (I l1 2)) l0 3 (((up I l0 2 (I l1 2))) l1 3)) l0 4 (((up (up I l0 2 (I l1 2)) l0 3 (((up I l0 2 (I l1 2))) l1 3))) l1 4)) l0 5 (((up (up (up I l0 2 (I l1 2)) l0 3 (((up I l0 2 (I l1 2))) l1 3)) l0 4 (((up (up I l0 2 (I l1 2)) l0 3 (((up I l0 2 (I l1 2))) l1 3))) l1 4))) l1 5)) l0 6 (((up (up (up (up I l0 2 (I l1 2)) l0 3 (((up I l0 2 (I l1 2))) l1 3)) l0 4 (((up (up I l0 2 (I l1 2)) l0 3 (((up I l0 2 (I l1 2))) l1 3))) l1 4)) l0 5 (((up (up (up I l0 2 (I l1 2)) l0 3 (((up I l0 2 (I l1 2))) l1 3)) l0 4 (((up (up I l0 2 (I l1 2)) l0 3 (((up I l0 2 (I l1 2))) l1 3))) l1 4))) l1 5))) l1 6)) l0 7 (((up (up (up (up (up I l0 2 (I l1 2)) l0 3 (((up I l0 2 (I l1 2))) l1 3)) l0 4 (((up (up I l0 2 (I l1 2)) l0 3 (((up I l0 2 (I l1 2))) l1 3))) l1 4)) l0 5 (((up (up (up I l0 2 (I l1 2)) l0 3 (((up I l0 2 (I l1 2))) l1 3)) l0 4 (((up (up I l0 2 (I l1 2)) l0 3 (((up I l0 2 (I l1 2))) l1 3))) l1 4))) l1 5)) l0 6 (((up (up (up (up I l0 2 (I l1 2)) l0 3 (((up I l0 2 (I l1 2))) l1 3)) l0 4 (((up (up I l0 2 (I l1 2)) l0 3 (((up I l0 2 (I l1 2))) l1 3))) l1 4)) l0 5 (((up (up (up I l0 2 (I l1 2)) l0 3 (((up I l0 2 (I l1 2))) l1 3)) l0 4 (((up (up I l0 2 (I l1 2)) l0 3 (((up I l0 2 (I l1 2))) l1 3))) l1 4))) l1 5))) l1 6))) l1 7))) l1 8))) l1 9)) l0 10 (((up (up (up (up (up (up (up (up I l0 2 (I l1 2)) l0 3 (((up I l0 2 (I l1 2))) l1 3)) l0 4 (((up (up I l0 2 (I l1 2)) l0 3 (((up I l0 2 (I l1 2))) l1 3))) l1 4)) l0 5 (((up (up (up I l0 2 (I l1 2)) l0 3 (((up I l0 2 (I l1 2))) l1 3)) l0 4 (((up (up I l0 2 (I l1 2)) l0 3 (((up I l0 2 (I l1 2))) l1 3))) l1 4))) l1 5)) l0 6 (((up (up (up (up I l0 2 (I l1 2)) l0 3 (((up I l0 2 (I l1 2))) l1 3)) l0 4 (((up (up I l0 2 (I l1 2)) l0 3 (((up I l0 2 (I l1 2))) l1 3))) l1 4)) l0 5 (((up (up (up I l0 2 (I l1 2)) l0 3 (((up I l0 2 (I l1 2))) l1 3)) l0 4 (((up (up I l0 2 (I l1 2)) l0 3 (((up I l0 2 (I l1 2))) l1 3))) l1 4))) l1 5))) l1 6)) l0 7 (((up (up (up (up (up I l0 2 (I l1 2)) l0 3 (((up I l0 2 (I l1 2))) l1 3)) l0 4 (((up (up I l0 2 (I l1 2)) l0 3 (((up I l0 2 (I l1 2))) l1 3))) l1 4)) l0 5 (((up (up (up I l0 2 (I l1 2)) l0 3 (((up I l0 2 (I l1 2))) l1 3)) l0 4 (((up (up I l0 2 (I l1 2)) l0 3 (((up I l0 2 (I l1 2))) l1 3))) l1 4))) l1 5)) l0 6 (((up (up (up (up I l0 2 (I l1 2)) l0 3 (((up I l0 2 (I l1 2))) l1 3)) l0 4 (((up (up I l0 2 (I l1 2)) l0 3 (((up I l0 2 (I l1 2))) l1 3))) l1 4)) l0 5 (((up (up (up I l0 2 (I l1 2)) l0 3 (((up I l0 2 (I l1 2))) l1 3)) l0 4 (((up (up I l0 2 (I l1 2)) l0 3 (((up I l0 2 (I l1 2))) l1 3))) l1 4))) l1 5))) l1 6))) l1 7)) l0 8 (((up (up (up (up (up (up I l0 2 (I l1 2)) l0 3 (((up I l0 2 (I l1 2))) l1 3)) l0 4 (((up (up I l0 2 (I l1 2)) l0 3 (((up I l0 2 (I l1 2))) l1 3))) l1 4)) l0 5 (((up (up (up I l0 2 (I l1 2)) l0 3 (((up I l0 2 (I l1 2))) l1 3)) l0 4 (((up (up I l0 2 (I l1 2)) l0 3 (((up I l0 2 (I l1 2))) l1 3))) l1 4))) l1 5)) l0 6 (((up (up (up (up I l0 2 (I l1 2)) l0 3 (((up I l0 2 (I l1 2))) l1 3)) l0 4 (((up (up I l0 2 (I l1 2)) l0 3 (((up I l0 2 (I l1 2))) l1 3))) l1 4)) l0 5 (((up (up (up I l0 2 (I l1 2)) l0 3 (((up I l0 2 (I l1 2))) l1 3)) l0 4 (((up (up I l0 2 (I l1 2)) l0 3 (((up I l0 2 (I l1 2))) l1 3))) l1 4))) l1 5))) l1 6)) l0 7 (((up (up (up (up (up I l0 2 (I l1 2)) l0 3 (((up I l0 2 (I l1 2))) l1 3)) l0 4 (((up (up I l0 2 (I l1 2)) l0 3 (((up I l0 2 (I l1 2))) l1 3))) l1 4)) l0 5 (((up (up (up I l0 2 (I l1 2)) l0 3 (((up I l0 2 (I l1 2))) l1 3)) l0 4 (((up (up I l0 2 (I l1 2)) l0 3 (((up I l0 2 (I l1 2))) l1 3))) l1 4))) l1 5)) l0 6 (((up (up (up (up I l0 2 (I l1 2)) l0 3 (((up I l0 2 (I l1 2))) l1 3)) l0 4 (((up (up I l0 2 (I l1 2)) l0 3 (((up I l0 2 (I l1 2))) l1 3))) l1 4)) l0 5 (((up (up (up I l0 2 (I l1 2)) l0 3 (((up I l0 2 (I l1 2))) l1 3)) l0 4 (((up (up I l0 2 (I l1 2)) l0 3 (((up I l0 2 (I l1 2))) l1 3))) l1 4))) l1 5))) l1 6))) l1 7))) l1 8)) l0 9 (((up (up (up (up (up (up (up I l0 2 (I l1 2)) l0 3 (((up I l0 2 (I l1 2))) l1 3)) l0 4 (((up (up I l0 2 (I l1 2)) l0 3 (((up I l0 2 (I l1 2))) l1 3))) l1 4)) l0 5 (((up (up (up I l0 2 (I l1 2)) l0 3 (((up I l0 2 (I l1 2))) l1 3)) l0 4 (((up (up I l0 2 (I l1 2)) l0 3 (((up I l0 2 (I l1 2))) l1 3))) l1 4))) l1 5)) l0 6 (((up (up (up (up I l0 2 (I l1 2)) l0 3 (((up I l0 2 (I l1 2))) l1 3)) l0 4 (((up (up I l0 2 (I l1 2)) l0 3 (((up I l0 2 (I l1 2))) l1 3))) l1 4)) l0 5 (((up (up (up I l0 2 (I l1 2)) l0 3 (((up I l0 2 (I l1 2))) l1 3)) l0 4 (((up (up I l0 2 (I l1 2)) l0 3 (((up I l0 2 (I l1 2))) l1 3))) l1 4))) l1 5))) l1 6)) l0 7 (((up (up (up (up (up I l0 2 (I l1 2)) l0 3 (((up I l0 2 (I l1 2))) l1 3)) l0 4 (((up (up I l0 2 (I l1 2)) l0 3 (((up I l0 2 (I l1 2))) l1 3))) l1 4)) l0 5 (((up (up (up I l0 2 (I l1 2)) l0 3 (((up I l0 2 (I l1 2))) l1 3)) l0 4 (((up (up I l0 2 (I l1 2)) l0 3 (((up I l0 2 (I l1 2))) l1 3))) l1 4))) l1 5)) l0 6 (((up (up (up (up I l0 2 (I l1 2)) l0 3 (((up I l0 2 (I l1 2))) l1 3)) l0 4 (((up (up I l0 2 (I l1 2)) l0 3 (((up I l0 2 (I l1 2))) l1 3))) l1 4)) l0 5 (((up (up (up I l0 2 (I l1 2)) l0 3 (((up I l0 2 (I l1 2))) l1 3)) l0 4 (((up (up I l0 2 (I l1 2)) l0 3 (((up I l0 2 (I l1 2))) l1 3))) l1 4))) l1 5))) l1 6))) l1 7)) l0 8 (((up (up (up (up (up (up I l0 2 (I l1 2)) l0 3 (((up I l0 2 (I l1 2))) l1 3)) l0 4 (((up (up I l0 2 (I l1 2)) l0 3 (((up I l0 2 (I l1 2))) l1 3))) l1 4)) l0 5 (((up (up (up I l0 2 (I l1 2)) l0 3 (((up I l0 2 (I l1 2))) l1 3)) l0 4 (((up (up I l0 2 (I l1 2)) l0 3 (((up I l0 2 (I l1 2))) l1 3))) l1 4))) l1 5)) l0 6 (((up (up (up (up I l0 2 (I l1 2)) l0 3 (((up I l0 2 (I l1 2))) l1 3)) l0 4 (((up (up I l0 2 (I l1 2)) l0 3 (((up I l0 2 (I l1 2))) l1 3))) l1 4)) l0 5 (((up (up (up I l0 2 (I l1 2)) l0 3 (((up I l0 2 (I l1 2))) l1 3)) l0 4 (((up (up I l0 2 (I l1 2)) l0 3 (((up I l0 2 (I l1 2))) l1 3))) l1 4))) l1 5))) l1 6)) l0 7 (((up (up (up (up (up I l0 2 (I l1 2)) l0 3 (((up I l0 2 (I l1 2))) l1 3)) l0 4 (((up (up I l0 2 (I l1 2)) l0 3 (((up I l0 2 (I l1 2))) l1 3))) l1 4)) l0 5 (((up (up (up I l0 2 (I l1 2)) l0 3 (((up I l0 2 (I l1 2))) l1 3)) l0 4 (((up (up I l0 2 (I l1 2)) l0 3 (((up I l0 2 (I l1 2))) l1 3))) l1 4))) l1 5)) l0 6 (((up (up (up (up I l0 2 (I l1 2)) l0 3 (((up I l0 2 (I l1 2))) l1 3)) l0 4 (((up (up I l0 2 (I l1 2)) l0 3 (((up I l0 2 (I l1 2))) l1 3))) l1 4)) l0 5 (((up (up (up I l0 2 (I l1 2)) l0 3 (((up I l0 2 (I l1 2))) l1 3)) l0 4 (((up (up I l0 2 (I l1 2)) l0 3 (((up I l0 2 (I l1 2))) l1 3))) l1 4))) l1 5))) l1 6))) l1 7))) l1 8))) l1 9))) l1 10)) l0 11 (((up (up (up (up (up (up (up (up (up I l0 2 (I l1 2)) l0 3 (((up I l0 2 (I l1 2))) l1 3)) l0 4 (((up (up I l0 2 (I l1 2)) l0 3 (((up I l0 2 (I l1 2))) l1 3))) l1 4)) l0 5 (((up (up (up I l0 2 (I l1 2)) l0 3 (((up I l0 2 (I l1 2))) l1 3)) l0 4 (((up (up I l0 2 (I l1 2)) l0 3 (((up I l0 2 (I l1 2))) l1 3))) l1 4))) l1 5)) l0 6 (((up (up (up (up I l0 2 (I l1 2)) l0 3 (((up I l0 2 (I l1 2))) l1 3)) l0 4 (((up (up I l0 2 (I l1 2)) l0 3 (((up I l0 2 (I l1 2))) l1 3))) l1 4)) l0 5 (((up (up (up I l0 2 (I l1 2)) l0 3 (((up I l0 2 (I l1 2))) l1 3)) l0 4 (((up (up I l0 2 (I l1 2)) l0 3 (((up I l0 2 (I l1 2))) l1 3))) l1 4))) l1 5))) l1 6)) l0 7 (((up (up (up (up (up I l0 2 (I l1 2)) l0 3 (((up I l0 2 (I l1 2))) l1 3)) l0 4 (((up (up I l0 2 (I l1 2)) l0 3 (((up I l0 2 (I l1 2))) l1 3))) l1 4)) l0 5 (((up (up (up I l0 2 (I l1 2)) l0 3 (((up I l0 2 (I l1 2))) l1 3)) l0 4 (((up (up I l0 2 (I l1 2)) l0 3 (((up I l0 2 (I l1 2))) l1 3))) l1 4))) l1 5)) l0 6 (((up (up (up (up I l0 2 (I l1 2)) l0 3 (((up I l0 2 (I l1 2))) l1 3)) l0 4 (((up (up I l0 2 (I l1 2)) l0 3 (((up I l0 2 (I l1 2))) l1 3))) l1 4)) l0 5 (((up (up (up I l0 2 (I l1 2)) l0 3 (((up I l0 2 (I l1 2))) l1 3)) l0 4 (((up (up I l0 2 (I l1 2)) l0 3 (((up I l0 2 (I l1 2))) l1 3))) l1 4))) l1 5))) l1 6))) l1 7)) l0 8 (((up (up (up (up (up (up I l0 2 (I l1 2)) l0 3 (((up I l0 2 (I l1 2))) l1 3)) l0 4 (((up (up I l0 2 (I l1 2)) l0 3 (((up I l0 2 (I l1 2))) l1 3))) l1 4)) l0 5 (((up (up (up I l0 2 (I l1 2)) l0 3 (((up I l0 2 (I l1 2))) l1 3)) l0 4 (((up (up I l0 2 (I l1 2)) l0 3 (((up I l0 2 (I l1 2))) l1 3))) l1 4))) l1 5)) l0 6 (((up (up (up (up I l0 2 (I l1 2)) l0 3 (((up I l0 2 (I l1 2))) l1 3)) l0 4 (((up (up I l0 2 (I l1 2)) l0 3 (((up I l0 2 (I l1 2))) l1 3))) l1 4)) l0 5 (((up (up (up I l0 2 (I l1 2)) l0 3 (((up I l0 2 (I l1 2))) l1 3)) l0 4 (((up (up I l0 2 (I l1 2)) l0 3 (((up I l0 2 (I l1 2))) l1 3))) l1 4))) l1 5))) l1 6)) l0 7 (((up (up (up (up (up I l0 2 (I l1 2)) l0 3 (((up I l0 2 (I l1 2))) l1 3)) l0 4 (((up (up I l0 2 (I l1 2)) l0 3 (((up I l0 2 (I l1 2))) l1 3))) l1 4)) l0 5 (((up (up (up I l0 2 (I l1 2)) l0 3 (((up I l0 2 (I l1 2))) l1 3)) l0 4 (((up (up I l0 2 (I l1 2)) l0 3 (((up I l0 2 (I l1 2))) l1 3))) l1 4))) l1 5)) l0 6 (((up (up (up (up I l0 2 (I l1 2)) l0 3 (((up I l0 2 (I l1 2))) l1 3)) l0 4 (((up (up I l0 2 (I l1 2)) l0 3 (((up I l0 2 (I l1 2))) l1 3))) l1 4)) l0 5 (((up (up (up I l0 2 (I l1 2)) l0 3 (((up I l0 2 (I l1 2))) l1 3)) l0 4 (((up (up I l0 2 (I l1 2)) l0 3 (((up I l0 2 (I l1 2))) l1 3))) l1 4))) l1 5))) l1 6))) l1 7))) l1 8)) l0 9 (((up (up (up (up (up (up (up I l0 2 (I l1 2)) l0 3 (((up I l0 2 (I l1 2))) l1 3)) l0 4 (((up (up I l0 2 (I l1 2)) l0 3 (((up I l0 2 (I l1 2))) l1 3))) l1 4)) l0 5 (((up (up (up I l0 2 (I l1 2)) l0 3 (((up I l0 2 (I l1 2))) l1 3)) l0 4 (((up (up I l0 2 (I l1 2)) l0 3 (((up I l0 2 (I l1 2))) l1 3))) l1 4))) l1 5)) l0 6 (((up (up (up (up I l0 2 (I l1 2)) l0 3 (((up I l0 2 (I l1 2))) l1 3)) l0 4 (((up (up I l0 2 (I l1 2)) l0 3 (((up I l0 2 (I l1 2))) l1 3))) l1 4)) l0 5 (((up (up (up I l0 2 (I l1 2)) l0 3 (((up I l0 2 (I l1 2))) l1 3)) l0 4 (((up (up I l0 2 (I l1 2)) l0 3 (((up I l0 2 (I l1 2))) l1 3))) l1 4))) l1 5))) l1 6)) l0 7 (((up (up (up (up (up I l0 2 (I l1 2)) l0 3 (((up I l0 2 (I l1 2))) l1 3)) l0 4 (((up (up I l0 2 (I l1 2)) l0 3 (((up I l0 2 (I l1 2))) l1 3))) l1 4)) l0 5 (((up (up (up I l0 2 (I l1 2)) l0 3 (((up I l0 2 (I l1 2))) l1 3)) l0 4 (((up (up I l0 2 (I l1 2)) l0 3 (((up I l0 2 (I l1 2))) l1 3))) l1 4))) l1 5)) l0 6 (((up (up (up (up I l0 2 (I l1 2)) l0 3 (((up I l0 2 (I l1 2))) l1 3)) l0 4 (((up (up I l0 2 (I l1 2)) l0 3 (((up I l0 2 (I l1 2))) l1 3))) l1 4)) l0 5 (((up (up (up I l0 2 (I l1 2)) l0 3 (((up I l0 2 (I l1 2))) l1 3)) l0 4 (((up (up I l0 2 (I l1 2)) l0 3 (((up I l0 2 (I l1 2))) l1 3))) l1 4))) l1 5))) l1 6))) l1 7)) l0 8 (((up (up (up (up (up (up I l0 2 (I l1 2)) l0 3 (((up I l0 2 (I l1 2))) l1 3)) l0 4 (((up (up I l0 2 (I l1 2)) l0 3 (((up I l0 2 (I l1 2))) l1 3))) l1 4)) l0 5 (((up (up (up I l0 2 (I l1 2)) l0 3 (((up I l0 2 (I l1 2))) l1 3)) l0 4 (((up (up I l0 2 (I l1 2)) l0 3 (((up I l0 2 (I l1 2))) l1 3))) l1 4))) l1 5)) l0 6 (((up (up (up (up I l0 2 (I l1 2)) l0 3 (((up I l0 2 (I l1 2))) l1 3)) l0 4 (((up (up I l0 2 (I l1 2)) l0 3 (((up I l0 2 (I l1 2))) l1 3))) l1 4)) l0 5 (((up (up (up I l0 2 (I l1 2)) l0 3 (((up I l0 2 (I l1 2))) l1 3)) l0 4 (((up (up I l0 2 (I l1 2)) l0 3 (((up I l0 2 (I l1 2))) l1 3))) l1 4))) l1 5))) l1 6)) l0 7 (((up (up (up (up (up I l0 2 (I l1 2)) l0 3 (((up I l0 2 (I l1 2))) l1 3)) l0 4 (((up (up I l0 2 (I l1 2)) l0 3 (((up I l0 2 (I l1 2))) l1 3))) l1 4)) l0 5 (((up (up (up I l0 2 (I l1 2)) l0 3 (((up I l0 2 (I l1 2))) l1 3)) l0 4 (((up (up I l0 2 (I l1 2)) l0 3 (((up I l0 2 (I l1 2))) l1 3))) l1 4))) l1 5)) l0 6 (((up (up (up (up I l0 2 (I l1 2)) l0 3 (((up I l0 2 (I l1 2))) l1 3)) l0 4 (((up (up I l0 2 (I l1 2)) l0 3 (((up I l0 2 (I l1 2))) l1 3))) l1 4)) l0 5 (((up (up (up I l0 2 (I l1 2)) l0 3 (((up I l0 2 (I l1 2))) l1 3)) l0 4 (((up (up I l0 2 (I l1 2)) l0 3 (((up I l0 2 (I l1 2))) l1 3))) l1 4))) l1 5))) l1 6))) l1 7))) l1 8))) l1 9)) l0 10 (((up (up (up (up (up (up (up (up I l0 2 (I l1 2)) l0 3 (((up I l0 2 (I l1 2))) l1 3)) l0 4 (((up (up I l0 2 (I l1 2)) l0 3 (((up I l0 2 (I l1 2))) l1 3))) l1 4)) l0 5 (((up (up (up I l0 2 (I l1 2)) l0 3 (((up I l0 2 (I l1 2))) l1 3)) l0 4 (((up (up I l0 2 (I l1 2)) l0 3 (((up I l0 2 (I l1 2))) l1 3))) l1 4))) l1 5)) l0 6 (((up (up (up (up I l0 2 (I l1 2)) l0 3 (((up I l0 2 (I l1 2))) l1 3)) l0 4 (((up (up I l0 2 (I l1 2)) l0 3 (((up I l0 2 (I l1 2))) l1 3))) l1 4)) l0 5 (((up (up (up I l0 2 (I l1 2)) l0 3 (((up I l0 2 (I l1 2))) l1 3)) l0 4 (((up (up I l0 2 (I l1 2)) l0 3 (((up I l0 2 (I l1 2))) l1 3))) l1 4))) l1 5))) l1 6)) l0 7 (((up (up (up (up (up I l0 2 (I l1 2)) l0 3 (((up I l0 2 (I l1 2))) l1 3)) l0 4 (((up (up I l0 2 (I l1 2)) l0 3 (((up I l0 2 (I l1 2))) l1 3))) l1 4)) l0 5 (((up (up (up I l0 2 (I l1 2)) l0 3 (((up I l0 2 (I l1 2))) l1 3)) l0 4 (((up (up I l0 2 (I l1 2)) l0 3 (((up I l0 2 (I l1 2))) l1 3))) l1 4))) l1 5)) l0 6 (((up (up (up (up I l0 2 (I l1 2)) l0 3 (((up I l0 2 (I l1 2))) l1 3)) l0 4 (((up (up I l0 2 (I l1 2)) l0 3 (((up I l0 2 (I l1 2))) l1 3))) l1 4)) l0 5 (((up (up (up I l0 2 (I l1 2)) l0 3 (((up I l0 2 (I l1 2))) l1 3)) l0 4 (((up (up I l0 2 (I l1 2)) l0 3 (((up I l0 2 (I l1 2))) l1 3))) l1 4))) l1 5))) l1 6))) l1 7)) l0 8 (((up (up (up (up (up (up I l0 2 (I l1 2)) l0 3 (((up I l0 2 (I l1 2))) l1 3)) l0 4 (((up (up I l0 2 (I l1 2)) l0 3 (((up I l0 2 (I l1 2))) l1 3))) l1 4)) l0 5 (((up (up (up I l0 2 (I l1 2)) l0 3 (((up I l0 2 (I l1 2))) l1 3)) l0 4 (((up (up I l0 2 (I l1 2)) l0 3 (((up I l0 2 (I l1 2))) l1 3))) l1 4))) l1 5)) l0 6 (((up (up (up (up I l0 2 (I l1 2)) l0 3 (((up I l0 2 (I l1 2))) l1 3)) l0 4 (((up (up I l0 2 (I l1 2)) l0 3 (((up I l0 2 (I l1 2))) l1 3))) l1 4)) l0 5 (((up (up (up I l0 2 (I l1 2)) l0 3 (((up I l0 2 (I l1 2))) l1 3)) l0 4 (((up (up I l0 2 (I l1 2)) l0 3 (((up I l0 2 (I l1 2))) l1 3))) l1 4))) l1 5))) l1 6)) l0 7 (((up (up (up (up (up I l0 2 (I l1 2)) l0 3 (((up I l0 2 (I l1 2))) l1 3)) l0 4 (((up (up I l0 2 (I l1 2)) l0 3 (((up I l0 2 (I l1 2))) l1 3))) l1 4)) l0 5 (((up (up (up I l0 2 (I l1 2)) l0 3 (((up I l0 2 (I l1 2))) l1 3)) l0 4 (((up (up I l0 2 (I l1 2)) l0 3 (((up I l0 2 (I l1 2))) l1 3))) l1 4))) l1 5)) l0 6 (((up (up (up (up I l0 2 (I l1 2)) l0 3 (((up I l0 2 (I l1 2))) l1 3)) l0 4 (((up (up I l0 2 (I l1 2)) l0 3 (((up I l0 2 (I l1 2))) l1 3))) l1 4)) l0 5 (((up (up (up I l0 2 (I l1 2)) l0 3 (((up I l0 2 (I l1 2))) l1 3)) l0 4 (((up (up I l0 2 (I l1 2)) l0 3 (((up I l0 2 (I l1 2))) l1 3))) l1 4))) l1 5))) l1 6))) l1 7))) l1 8)) l0 9 (((up (up (up (up (up (up (up I l0 2 (I l1 2)) l0 3 (((up I l0 2 (I l1 2))) l1 3)) l0 4 (((up (up I l0 2 (I l1 2)) l0 3 (((up I l0 2 (I l1 2))) l1 3))) l1 4)) l0 5 (((up (up (up I l0 2 (I l1 2)) l0 3 (((up I l0 2 (I l1 2))) l1 3)) l0 4 (((up (up I l0 2 (I l1 2)) l0 3 (((up I l0 2 (I l1 2))) l1 3))) l1 4))) l1 5)) l0 6 (((up (up (up (up I l0 2 (I l1 2)) l0 3 (((up I l0 2 (I l1 2))) l1 3)) l0 4 (((up (up I l0 2 (I l1 2)) l0 3 (((up I l0 2 (I l1 2))) l1 3))) l1 4)) l0 5 (((up (up (up I l0 2 (I l1 2)) l0 3 (((up I l0 2 (I l1 2))) l1 3)) l0 4 (((up (up I l0 2 (I l1 2)) l0 3 (((up I l0 2 (I l1 2))) l1 3))) l1 4))) l1 5))) l1 6)) l0 7 (((up (up (up (up (up I l0 2 (I l1 2)) l0 3 (((up I l0 2 (I l1 2))) l1 3)) l0 4 (((up (up I l0 2 (I l1 2)) l0 3 (((up I l0 2 (I l1 2))) l1 3))) l1 4)) l0 5 (((up (up (up I l0 2 (I l1 2)) l0 3 (((up I l0 2 (I l1 2))) l1 3)) l0 4 (((up (up I l0 2 (I l1 2)) l0 3 (((up I l0 2 (I l1 2))) l1 3))) l1 4))) l1 5)) l0 6 (((up (up (up (up I l0 2 (I l1 2)) l0 3 (((up I l0 2 (I l1 2))) l1 3)) l0 4 (((up (up I l0 2 (I l1 2)) l0 3 (((up I l0 2 (I l1 2))) l1 3))) l1 4)) l0 5 (((up (up (up I l0 2 (I l1 2)) l0 3 (((up I l0 2 (I l1 2))) l1 3)) l0 4 (((up (up I l0 2 (I l1 2)) l0 3 (((up I l0 2 (I l1 2))) l1 3))) l1 4))) l1 5))) l1 6))) l1 7)) l0 8 (((up (up (up (up (up (up I l0 2 (I l1 2)) l0 3 (((up I l0 2 (I l1 2))) l1 3)) l0 4 (((up (up I l0 2 (I l1 2)) l0 3 (((up I l0 2 (I l1 2))) l1 3))) l1 4)) l0 5 (((up (up (up I l0 2 (I l1 2)) l0 3 (((up I l0 2 (I l1 2))) l1 3)) l0 4 (((up (up I l0 2 (I l1 2)) l0 3 (((up I l0 2 (I l1 2))) l1 3))) l1 4))) l1 5)) l0 6 (((up (up (up (up I l0 2 (I l1 2)) l0 3 (((up I l0 2 (I l1 2))) l1 3)) l0 4 (((up (up I l0 2 (I l1 2)) l0 3 (((up I l0 2 (I l1 2))) l1 3))) l1 4)) l0 5 (((up (up (up I l0 2 (I l1 2)) l0 3 (((up I l0 2 (I l1 2))) l1 3)) l0 4 (((up (up I l0 2 (I l1 2)) l0 3 (((up I l0 2 (I l1 2))) l1 3))) l1 4))) l1 5))) l1 6)) l0 7 (((up (up (up (up (up I l0 2 (I l1 2)) l0 3 (((up I l0 2 (I l1 2))) l1 3)) l0 4 (((up (up I l0 2 (I l1 2)) l0 3 (((up I l0 2 (I l1 2))) l1 3))) l1 4)) l0 5 (((up (up (up I l0 2 (I l1 2)) l0 3 (((up I l0 2 (I l1 2))) l1 3)) l0 4 (((up (up I l0 2 (I l1 2)) l0 3 (((up I l0 2 (I l1 2))) l1 3))) l1 4))) l1 5)) l0 6 (((up (up (up (up I l0 2 (I l1 2)) l0 3 (((up I l0 2 (I l1 2))) l1 3)) l0 4 (((up (up I l0 2 (I l1 2)) l0 3 (((up I l0 2 (I l1 2))) l1 3))) l1 4)) l0 5 (((up (up (up I l0 2 (I l1 2)) l0 3 (((up I l0 2 (I l1 2))) l1 3)) l0 4 (((up (up I l0 2 (I l1 2)) l0 3 (((up I l0 2 (I l1 2))) l1 3))) l1 4))) l1 5))) l1 6))) l1 7))) l1 8))) l1 9))) l1 10))) l1 11)) := (e_aload_n rfl rfl rfl).trans ((e_aload_n rfl rfl rfl).trans ((e_getf_i rfl rfl rfl h0).trans ((e_putf rfl rfl rfl rfl h1).trans ((e_aload_n rfl rfl rfl).trans ((e_aload_n rfl rfl rfl).trans ((e_getf_i rfl rfl rfl h0).trans ((e_putf rfl rfl rfl rfl h1).trans ((e_aload_n rfl rfl rfl).trans ((e_aload_n rfl rfl rfl).trans ((e_getf_i rfl rfl rfl h0).trans ((e_putf rfl rfl rfl rfl h1).trans ((e_aload_n rfl rfl rfl).trans ((e_aload_n rfl rfl rfl).trans ((e_getf_i rfl rfl rfl h0).trans ((e_putf rfl rfl rfl rfl h1).trans ((e_aload_n rfl rfl rfl).trans ((e_aload_n rfl rfl rfl).trans ((e_getf_i rfl rfl rfl h0).trans ((e_putf rfl rfl rfl rfl h1).trans ((e_aload_n rfl rfl rfl).trans ((e_aload_n rfl rfl rfl).trans ((e_getf_i rfl rfl rfl h0).trans ((e_putf rfl rfl rfl rfl h1).trans ((e_aload_n rfl rfl rfl).trans ((e_aload_n rfl rfl rfl).trans ((e_getf_i rfl rfl rfl h0).trans ((e_putf rfl rfl rfl rfl h1).trans ((e_aload_n rfl rfl rfl).trans ((e_aload_n rfl rfl rfl).trans ((e_getf_i rfl rfl rfl h0).trans ((e_putf rfl rfl rfl rfl h1).trans ((e_aload_n rfl rfl rfl).trans ((e_aload_n rfl rfl rfl).trans ((e_getf_i rfl rfl rfl h0).trans ((e_putf rfl rfl rfl rfl h1).trans ((e_aload_n rfl rfl rfl).trans ((e_aload_n rfl rfl rfl).trans ((e_getf_i rfl rfl rfl h0).trans ((e_putf rfl rfl rfl rfl h1).trans (e_vret rfl rfl))))))))))))))))))))))))))))))))))))))))
/-! 20 TwelveShort$House.welcome(IIII)I -/
theorem b20_0 {d : Nat} {l0 : Nat} {l1 : Int32} {l2 : Int32} {l3 : Int32} {l4 : Int32} {l5 : Value} {I : IM} {Q : Po} (h0 : aShp l0 = 1) (h1 : aShp (aRf l0 0) = 21) : E (d + 1, 20, 0, [.ref l0, .int l1, .int l2, .int l3, .int l4, l5], [], I) Q ↔ E (d, 108, 0, [.int (I l0 2), .int 0, .int ((nI (aLen (aRf l0 0))) - 1)], [], I) (fun r I' => E (d + 1, 20, 15, [.ref l0, .int l1, .int l2, .int l3, .int l4, l5], [r], I') Q) := (e_aload_n rfl rfl rfl).trans ((e_getf_i rfl rfl rfl h0).trans ((e_iconst (v := 0) rfl (by decide)).trans ((e_aload_n rfl rfl rfl).trans ((e_getf_r rfl rfl rfl h0).trans ((e_alen rfl h1 (by decide) (by decide)).trans ((e_iconst (v := 1) rfl (by decide)).trans ((e_isub rfl).trans (e_cs (as := [.int ((nI (aLen (aRf l0 0))) - 1), .int 0, .int (I l0 2)]) rfl rfl rfl rfl rfl rfl ⟨Nat.le_of_ble_eq_true rfl, Nat.le_of_ble_eq_true rfl, rfl⟩))))))))
theorem b20_15 {d : Nat} {l0 : Nat} {l1 : Int32} {l2 : Int32} {l3 : Int32} {l4 : Int32} {l5 : Value} {s0 : Int32} {I : IM} {Q : Po} : E (d, 20, 15, [.ref l0, .int l1, .int l2, .int l3, .int l4, l5], [.int s0], I) Q ↔ if s0 = 0 then E (d, 20, 18, [.ref l0, .int l1, .int l2, .int l3, .int l4, l5], [], I) Q else E (d, 20, 21, [.ref l0, .int l1, .int l2, .int l3, .int l4, l5], [], I) Q := e_if_ne rfl rfl
theorem b20_18 {d : Nat} {l0 : Nat} {l1 : Int32} {l2 : Int32} {l3 : Int32} {l4 : Int32} {l5 : Value} {I : IM} {Q : Po} : E (d, 20, 18, [.ref l0, .int l1, .int l2, .int l3, .int l4, l5], [], I) Q ↔ Q (.int (-1000000005)) I := (e_ldc rfl rfl).trans (e_iret rfl rfl)
theorem b20_21 {d : Nat} {l0 : Nat} {l1 : Int32} {l2 : Int32} {l3 : Int32} {l4 : Int32} {l5 : Value} {I : IM} {Q : Po} (h0 : aShp l0 = 1) (h1 : aShp (aRf l0 0) = 21) (h2 : aShp (aRf (aRf l0 0) (Int32.toNatClampNeg (I l0 2))) = 0) : E (d, 20, 21, [.ref l0, .int l1, .int l2, .int l3, .int l4, l5], [], I) Q ↔ vp_in (I l0 2) (aLen (aRf l0 0)) ∧ Q (.int ((((up (up (up (up (up (up I (aRf (aRf l0 0) (Int32.toNatClampNeg (I l0 2))) 0 l1) (aRf (aRf l0 0) (Int32.toNatClampNeg (I l0 2))) 1 l2) (aRf (aRf l0 0) (Int32.toNatClampNeg (I l0 2))) 2 l3) (aRf (aRf l0 0) (Int32.toNatClampNeg (I l0 2))) 3 l4) (aRf (aRf l0 0) (Int32.toNatClampNeg (I l0 2))) 4 0) l0 2 ((((up (up (up (up (up I (aRf (aRf l0 0) (Int32.toNatClampNeg (I l0 2))) 0 l1) (aRf (aRf l0 0) (Int32.toNatClampNeg (I l0 2))) 1 l2) (aRf (aRf l0 0) (Int32.toNatClampNeg (I l0 2))) 2 l3) (aRf (aRf l0 0) (Int32.toNatClampNeg (I l0 2))) 3 l4) (aRf (aRf l0 0) (Int32.toNatClampNeg (I l0 2))) 4 0)) l0 2) + 1))) l0 2) - 1)) (up (up (up (up (up (up I (aRf (aRf l0 0) (Int32.toNatClampNeg (I l0 2))) 0 l1) (aRf (aRf l0 0) (Int32.toNatClampNeg (I l0 2))) 1 l2) (aRf (aRf l0 0) (Int32.toNatClampNeg (I l0 2))) 2 l3) (aRf (aRf l0 0) (Int32.toNatClampNeg (I l0 2))) 3 l4) (aRf (aRf l0 0) (Int32.toNatClampNeg (I l0 2))) 4 0) l0 2 ((((up (up (up (up (up I (aRf (aRf l0 0) (Int32.toNatClampNeg (I l0 2))) 0 l1) (aRf (aRf l0 0) (Int32.toNatClampNeg (I l0 2))) 1 l2) (aRf (aRf l0 0) (Int32.toNatClampNeg (I l0 2))) 2 l3) (aRf (aRf l0 0) (Int32.toNatClampNeg (I l0 2))) 3 l4) (aRf (aRf l0 0) (Int32.toNatClampNeg (I l0 2))) 4 0)) l0 2) + 1)) := (e_aload_n rfl rfl rfl).trans ((e_getf_r rfl rfl rfl h0).trans ((e_aload_n rfl rfl rfl).trans ((e_getf_i rfl rfl rfl h0).trans ((e_aald rfl h1 (by decide) (by decide)).trans (and_congr_right' ((e_astore rfl (by decide) rfl rfl rfl).trans ((e_aload rfl rfl rfl).trans ((e_iload_n rfl rfl).trans ((e_putf rfl rfl rfl rfl h2).trans ((e_aload rfl rfl rfl).trans ((e_iload_n rfl rfl).trans ((e_putf rfl rfl rfl rfl h2).trans ((e_aload rfl rfl rfl).trans ((e_iload_n rfl rfl).trans ((e_putf rfl rfl rfl rfl h2).trans ((e_aload rfl rfl rfl).trans ((e_iload rfl rfl).trans ((e_putf rfl rfl rfl rfl h2).trans ((e_aload rfl rfl rfl).trans ((e_iconst (v := 0) rfl (by decide)).trans ((e_putf rfl rfl rfl rfl h2).trans ((e_aload_n rfl rfl rfl).trans ((e_dup rfl rfl).trans ((e_getf_i rfl rfl rfl h0).trans ((e_iconst (v := 1) rfl (by decide)).trans ((e_iadd rfl).trans ((e_putf rfl rfl rfl rfl h0).trans ((e_aload_n rfl rfl rfl).trans ((e_getf_i rfl rfl rfl h0).trans ((e_iconst (v := 1) rfl (by decide)).trans ((e_isub rfl).trans (e_iret rfl rfl))))))))))))))))))))))))))))))))
/-! 21 TwelveShort$House.welcomeDrawn()V -/
theorem b21_0 {d : Nat} {l0 : Nat} {l1 : Value} {l2 : Value} {l3 : Value} {l4 : Value} {I : IM} {Q : Po} (h0 : aShp l0 = 1) : E (d + 1, 21, 0, [.ref l0, l1, l2, l3, l4], [], I) Q ↔ E (d, 22, 0, [.ref l0], [], I) (fun r I' => E (d + 1, 21, 4, [.ref l0, l1, l2, l3, l4], [r], I') Q) := (e_aload_n rfl rfl rfl).trans (e_cv (as := []) rfl rfl rfl rfl ⟨Nat.le_of_ble_eq_true rfl, Nat.le_of_ble_eq_true rfl, rfl⟩ (Or.inl ⟨by decide, h0⟩))
theorem b21_4 {d : Nat} {l0 : Nat} {l1 : Value} {l2 : Value} {l3 : Value} {l4 : Value} {s0 : Int32} {I : IM} {Q : Po} (h0 : aShp l0 = 1) : E (d + 1, 21, 4, [.ref l0, l1, l2, l3, l4], [.int s0], I) Q ↔ ¬ (6 : Int32) = 0 ∧ E (d, 22, 0, [.ref l0], [], I) (fun r I' => E (d + 1, 21, 12, [.ref l0, .int (jRem s0 6), l2, l3, l4], [r], I') Q) := (e_bipush (v := 6) rfl (by decide)).trans ((e_irem rfl).trans (and_congr_right' ((e_istore_n rfl (by decide) rfl rfl).trans ((e_aload_n rfl rfl rfl).trans (e_cv (as := []) rfl rfl rfl rfl ⟨Nat.le_of_ble_eq_true rfl, Nat.le_of_ble_eq_true rfl, rfl⟩ (Or.inl ⟨by decide, h0⟩))))))
theorem b21_12 {d : Nat} {l0 : Nat} {l1 : Int32} {l2 : Value} {l3 : Value} {l4 : Value} {s0 : Int32} {I : IM} {Q : Po} (h0 : aShp l0 = 1) : E (d + 1, 21, 12, [.ref l0, .int l1, l2, l3, l4], [.int s0], I) Q ↔ ¬ (101 : Int32) = 0 ∧ E (d, 22, 0, [.ref l0], [], I) (fun r I' => E (d + 1, 21, 20, [.ref l0, .int l1, .int (jRem s0 101), l3, l4], [r], I') Q) := (e_bipush (v := 101) rfl (by decide)).trans ((e_irem rfl).trans (and_congr_right' ((e_istore_n rfl (by decide) rfl rfl).trans ((e_aload_n rfl rfl rfl).trans (e_cv (as := []) rfl rfl rfl rfl ⟨Nat.le_of_ble_eq_true rfl, Nat.le_of_ble_eq_true rfl, rfl⟩ (Or.inl ⟨by decide, h0⟩))))))
theorem b21_20 {d : Nat} {l0 : Nat} {l1 : Int32} {l2 : Int32} {l3 : Value} {l4 : Value} {s0 : Int32} {I : IM} {Q : Po} (h0 : aShp l0 = 1) : E (d + 1, 21, 20, [.ref l0, .int l1, .int l2, l3, l4], [.int s0], I) Q ↔ ¬ (100 : Int32) = 0 ∧ E (d, 22, 0, [.ref l0], [], I) (fun r I' => E (d + 1, 21, 28, [.ref l0, .int l1, .int l2, .int (jRem s0 100), l4], [r], I') Q) := (e_bipush (v := 100) rfl (by decide)).trans ((e_irem rfl).trans (and_congr_right' ((e_istore_n rfl (by decide) rfl rfl).trans ((e_aload_n rfl rfl rfl).trans (e_cv (as := []) rfl rfl rfl rfl ⟨Nat.le_of_ble_eq_true rfl, Nat.le_of_ble_eq_true rfl, rfl⟩ (Or.inl ⟨by decide, h0⟩))))))
theorem b21_28 {d : Nat} {l0 : Nat} {l1 : Int32} {l2 : Int32} {l3 : Int32} {l4 : Value} {s0 : Int32} {I : IM} {Q : Po} (h0 : aShp l0 = 1) : E (d + 1, 21, 28, [.ref l0, .int l1, .int l2, .int l3, l4], [.int s0], I) Q ↔ ¬ (100 : Int32) = 0 ∧ E (d, 20, 0, [.ref l0, .int l1, .int l2, .int l3, .int (jRem s0 100), UN], [], I) (fun r I' => E (d + 1, 21, 42, [.ref l0, .int l1, .int l2, .int l3, .int (jRem s0 100)], [r], I') Q) := (e_bipush (v := 100) rfl (by decide)).trans ((e_irem rfl).trans (and_congr_right' ((e_istore rfl (by decide) rfl rfl).trans ((e_aload_n rfl rfl rfl).trans ((e_iload_n rfl rfl).trans ((e_iload_n rfl rfl).trans ((e_iload_n rfl rfl).trans ((e_iload rfl rfl).trans (e_cv (as := [.int (jRem s0 100), .int l3, .int l2, .int l1]) rfl rfl rfl rfl ⟨Nat.le_of_ble_eq_true rfl, Nat.le_of_ble_eq_true rfl, rfl⟩ (Or.inl ⟨by decide, h0⟩))))))))))
theorem b21_42 {d : Nat} {l0 : Nat} {l1 : Int32} {l2 : Int32} {l3 : Int32} {l4 : Int32} {s0 : Int32} {I : IM} {Q : Po} : E (d, 21, 42, [.ref l0, .int l1, .int l2, .int l3, .int l4], [.int s0], I) Q ↔ Q .null I := (e_pop rfl rfl).trans (e_vret rfl rfl)
/-! 22 TwelveShort$House.draw()I -/
theorem b22_0 {d : Nat} {l0 : Nat} {I : IM} {Q : Po} (h0 : aShp l0 = 1) : E (d, 22, 0, [.ref l0], [], I) Q ↔ Q (.int (jUshr (((up I l0 10 (((I l0 10) * 1103515245) + 12345))) l0 10) 8)) (up I l0 10 (((I l0 10) * 1103515245) + 12345)) := (e_aload_n rfl rfl rfl).trans ((e_aload_n rfl rfl rfl).trans ((e_getf_i rfl rfl rfl h0).trans ((e_ldc rfl rfl).trans ((e_imul rfl).trans ((e_sipush (v := 12345) rfl (by decide)).trans ((e_iadd rfl).trans ((e_putf rfl rfl rfl rfl h0).trans ((e_aload_n rfl rfl rfl).trans ((e_getf_i rfl rfl rfl h0).trans ((e_bipush (v := 8) rfl (by decide)).trans ((e_iushr rfl).trans (e_iret rfl rfl))))))))))))
/-! 23 TwelveShort$House.comesBy(LTwelveShort$Guest;LTwelveShort$Law;)I -/
theorem b23_0n {d : Nat} {l0 : Nat} {l1 : Nat} {l3 : Value} {l4 : Value} {I : IM} {Q : Po} (h0 : aShp l0 = 1) : E (d + 1, 23, 0, [.ref l0, .ref l1, .null, l3, l4], [], I) Q ↔ E (d, 0, 0, [.int (I l0 5)], [], I) (fun r I' => E (d + 1, 23, 7, [.ref l0, .ref l1, .null, l3, l4], [r], I') Q) := (e_aload_n rfl rfl rfl).trans ((e_getf_i rfl rfl rfl h0).trans (e_cs (as := [.int (I l0 5)]) rfl rfl rfl rfl rfl rfl ⟨Nat.le_of_ble_eq_true rfl, Nat.le_of_ble_eq_true rfl, rfl⟩))
theorem b23_0r {d : Nat} {l0 : Nat} {l1 : Nat} {l2 : Nat} {l3 : Value} {l4 : Value} {I : IM} {Q : Po} (h0 : aShp l0 = 1) : E (d + 1, 23, 0, [.ref l0, .ref l1, .ref l2, l3, l4], [], I) Q ↔ E (d, 0, 0, [.int (I l0 5)], [], I) (fun r I' => E (d + 1, 23, 7, [.ref l0, .ref l1, .ref l2, l3, l4], [r], I') Q) := (e_aload_n rfl rfl rfl).trans ((e_getf_i rfl rfl rfl h0).trans (e_cs (as := [.int (I l0 5)]) rfl rfl rfl rfl rfl rfl ⟨Nat.le_of_ble_eq_true rfl, Nat.le_of_ble_eq_true rfl, rfl⟩))
theorem b23_7n {d : Nat} {l0 : Nat} {l1 : Nat} {l3 : Value} {l4 : Value} {s0 : Int32} {I : IM} {Q : Po} (h0 : aShp l1 = 0) : E (d, 23, 7, [.ref l0, .ref l1, .null, l3, l4], [.int s0], I) Q ↔ E (d, 23, 43, [.ref l0, .ref l1, .null, .int s0, .int (I l1 1)], [], I) Q := (e_istore_n rfl (by decide) rfl rfl).trans ((e_aload_n rfl rfl rfl).trans ((e_getf_i rfl rfl rfl h0).trans ((e_istore rfl (by decide) rfl rfl).trans ((e_aload_n rfl rfl rfl).trans (e_ifnull_0 rfl rfl)))))
theorem b23_7r {d : Nat} {l0 : Nat} {l1 : Nat} {l2 : Nat} {l3 : Value} {l4 : Value} {s0 : Int32} {I : IM} {Q : Po} (h0 : aShp l1 = 0) (h1 : l2 ≠ 1030) : E (d, 23, 7, [.ref l0, .ref l1, .ref l2, l3, l4], [.int s0], I) Q ↔ E (d, 23, 18, [.ref l0, .ref l1, .ref l2, .int s0, .int (I l1 1)], [], I) Q := (e_istore_n rfl (by decide) rfl rfl).trans ((e_aload_n rfl rfl rfl).trans ((e_getf_i rfl rfl rfl h0).trans ((e_istore rfl (by decide) rfl rfl).trans ((e_aload_n rfl rfl rfl).trans (e_ifnull_r rfl h1)))))
theorem b23_18r {d : Nat} {l0 : Nat} {l1 : Nat} {l2 : Nat} {l3 : Int32} {l4 : Int32} {I : IM} {Q : Po} (h0 : aShp l1 = 0) (h1 : aShp l2 = 2) : E (d + 1, 23, 18, [.ref l0, .ref l1, .ref l2, .int l3, .int l4], [], I) Q ↔ E (d, 40, 0, [.ref l2, .int (I l1 1), .int (I l1 3), .int (I l1 4), .int l3, UN, UN, UN], [], I) (fun r I' => E (d + 1, 23, 35, [.ref l0, .ref l1, .ref l2, .int l3, .int l4], [r], I') Q) := (e_aload_n rfl rfl rfl).trans ((e_aload_n rfl rfl rfl).trans ((e_getf_i rfl rfl rfl h0).trans ((e_aload_n rfl rfl rfl).trans ((e_getf_i rfl rfl rfl h0).trans ((e_aload_n rfl rfl rfl).trans ((e_getf_i rfl rfl rfl h0).trans ((e_iload_n rfl rfl).trans (e_cv (as := [.int l3, .int (I l1 4), .int (I l1 3), .int (I l1 1)]) rfl rfl rfl rfl ⟨Nat.le_of_ble_eq_true rfl, Nat.le_of_ble_eq_true rfl, rfl⟩ (Or.inl ⟨by decide, h1⟩)))))))))
theorem b23_35n {d : Nat} {l0 : Nat} {l1 : Nat} {l3 : Int32} {l4 : Int32} {s0 : Int32} {I : IM} {Q : Po} : E (d + 1, 23, 35, [.ref l0, .ref l1, .null, .int l3, .int l4], [.int s0], I) Q ↔ E (d, 109, 0, [.int s0, .int 0, .int 100], [], I) (fun r I' => E (d + 1, 23, 41, [.ref l0, .ref l1, .null, .int l3, .int l4], [r], I') Q) := (e_iconst (v := 0) rfl (by decide)).trans ((e_bipush (v := 100) rfl (by decide)).trans (e_cs (as := [.int 100, .int 0, .int s0]) rfl rfl rfl rfl rfl rfl ⟨Nat.le_of_ble_eq_true rfl, Nat.le_of_ble_eq_true rfl, rfl⟩))
theorem b23_35r {d : Nat} {l0 : Nat} {l1 : Nat} {l2 : Nat} {l3 : Int32} {l4 : Int32} {s0 : Int32} {I : IM} {Q : Po} : E (d + 1, 23, 35, [.ref l0, .ref l1, .ref l2, .int l3, .int l4], [.int s0], I) Q ↔ E (d, 109, 0, [.int s0, .int 0, .int 100], [], I) (fun r I' => E (d + 1, 23, 41, [.ref l0, .ref l1, .ref l2, .int l3, .int l4], [r], I') Q) := (e_iconst (v := 0) rfl (by decide)).trans ((e_bipush (v := 100) rfl (by decide)).trans (e_cs (as := [.int 100, .int 0, .int s0]) rfl rfl rfl rfl rfl rfl ⟨Nat.le_of_ble_eq_true rfl, Nat.le_of_ble_eq_true rfl, rfl⟩))
theorem b23_41n {d : Nat} {l0 : Nat} {l1 : Nat} {l3 : Int32} {l4 : Int32} {s0 : Int32} {I : IM} {Q : Po} : E (d, 23, 41, [.ref l0, .ref l1, .null, .int l3, .int l4], [.int s0], I) Q ↔ E (d, 23, 43, [.ref l0, .ref l1, .null, .int l3, .int s0], [], I) Q := e_istore rfl (by decide) rfl rfl
theorem b23_41r {d : Nat} {l0 : Nat} {l1 : Nat} {l2 : Nat} {l3 : Int32} {l4 : Int32} {s0 : Int32} {I : IM} {Q : Po} : E (d, 23, 41, [.ref l0, .ref l1, .ref l2, .int l3, .int l4], [.int s0], I) Q ↔ E (d, 23, 43, [.ref l0, .ref l1, .ref l2, .int l3, .int s0], [], I) Q := e_istore rfl (by decide) rfl rfl
theorem b23_43n {d : Nat} {l0 : Nat} {l1 : Nat} {l3 : Int32} {l4 : Int32} {I : IM} {Q : Po} (h0 : aShp l1 = 0) : E (d + 1, 23, 43, [.ref l0, .ref l1, .null, .int l3, .int l4], [], I) Q ↔ E (d, 15, 0, [.ref l1, .int l4, .int l3, UN, UN], [], I) (fun r I' => E (d + 1, 23, 50, [.ref l0, .ref l1, .null, .int l3, .int l4], [r], I') Q) := (e_aload_n rfl rfl rfl).trans ((e_iload rfl rfl).trans ((e_iload_n rfl rfl).trans (e_cv (as := [.int l3, .int l4]) rfl rfl rfl rfl ⟨Nat.le_of_ble_eq_true rfl, Nat.le_of_ble_eq_true rfl, rfl⟩ (Or.inl ⟨by decide, h0⟩))))
theorem b23_43r {d : Nat} {l0 : Nat} {l1 : Nat} {l2 : Nat} {l3 : Int32} {l4 : Int32} {I : IM} {Q : Po} (h0 : aShp l1 = 0) : E (d + 1, 23, 43, [.ref l0, .ref l1, .ref l2, .int l3, .int l4], [], I) Q ↔ E (d, 15, 0, [.ref l1, .int l4, .int l3, UN, UN], [], I) (fun r I' => E (d + 1, 23, 50, [.ref l0, .ref l1, .ref l2, .int l3, .int l4], [r], I') Q) := (e_aload_n rfl rfl rfl).trans ((e_iload rfl rfl).trans ((e_iload_n rfl rfl).trans (e_cv (as := [.int l3, .int l4]) rfl rfl rfl rfl ⟨Nat.le_of_ble_eq_true rfl, Nat.le_of_ble_eq_true rfl, rfl⟩ (Or.inl ⟨by decide, h0⟩))))
theorem b23_50n {d : Nat} {l0 : Nat} {l1 : Nat} {l3 : Int32} {l4 : Int32} {s0 : Int32} {I : IM} {Q : Po} : E (d, 23, 50, [.ref l0, .ref l1, .null, .int l3, .int l4], [.int s0], I) Q ↔ Q (.int s0) I := e_iret rfl rfl
theorem b23_50r {d : Nat} {l0 : Nat} {l1 : Nat} {l2 : Nat} {l3 : Int32} {l4 : Int32} {s0 : Int32} {I : IM} {Q : Po} : E (d, 23, 50, [.ref l0, .ref l1, .ref l2, .int l3, .int l4], [.int s0], I) Q ↔ Q (.int s0) I := e_iret rfl rfl
/-! 24 TwelveShort$House.nearestBut(I)I -/
theorem b24_0 {d : Nat} {l0 : Nat} {l1 : Int32} {l2 : Value} {l3 : Value} {l4 : Value} {l5 : Value} {I : IM} {Q : Po} : E (d, 24, 0, [.ref l0, .int l1, l2, l3, l4, l5], [], I) Q ↔ E (d, 24, 7, [.ref l0, .int l1, .int (-1), .int 0, .int 0, l5], [], I) Q := (e_iconst (v := (-1)) rfl (by decide)).trans ((e_istore_n rfl (by decide) rfl rfl).trans ((e_iconst (v := 0) rfl (by decide)).trans ((e_istore_n rfl (by decide) rfl rfl).trans ((e_iconst (v := 0) rfl (by decide)).trans (e_istore rfl (by decide) rfl rfl)))))
theorem b24_7 {d : Nat} {l0 : Nat} {l1 : Int32} {l2 : Int32} {l3 : Int32} {l4 : Int32} {l5 : Value} {I : IM} {Q : Po} (h0 : aShp l0 = 1) : E (d, 24, 7, [.ref l0, .int l1, .int l2, .int l3, .int l4, l5], [], I) Q ↔ if l4 < (I l0 2) then E (d, 24, 16, [.ref l0, .int l1, .int l2, .int l3, .int l4, l5], [], I) Q else E (d, 24, 59, [.ref l0, .int l1, .int l2, .int l3, .int l4, l5], [], I) Q := (e_iload rfl rfl).trans ((e_aload_n rfl rfl rfl).trans ((e_getf_i rfl rfl rfl h0).trans (e_icmp_ge rfl rfl)))
theorem b24_16 {d : Nat} {l0 : Nat} {l1 : Int32} {l2 : Int32} {l3 : Int32} {l4 : Int32} {l5 : Value} {I : IM} {Q : Po} : E (d, 24, 16, [.ref l0, .int l1, .int l2, .int l3, .int l4, l5], [], I) Q ↔ if ((l1 >>> (l4 &&& 31)) &&& 1) = 0 then E (d, 24, 25, [.ref l0, .int l1, .int l2, .int l3, .int l4, l5], [], I) Q else E (d, 24, 53, [.ref l0, .int l1, .int l2, .int l3, .int l4, l5], [], I) Q := (e_iload_n rfl rfl).trans ((e_iload rfl rfl).trans ((e_ishr rfl).trans ((e_iconst (v := 1) rfl (by decide)).trans ((e_iand rfl).trans (e_if_ne rfl rfl)))))
theorem b24_25 {d : Nat} {l0 : Nat} {l1 : Int32} {l2 : Int32} {l3 : Int32} {l4 : Int32} {l5 : Value} {I : IM} {Q : Po} (h0 : aShp l0 = 1) (h1 : aShp (aRf l0 0) = 21) (h2 : aShp (aRf (aRf l0 0) (Int32.toNatClampNeg l4)) = 0) : E (d + 1, 24, 25, [.ref l0, .int l1, .int l2, .int l3, .int l4, l5], [], I) Q ↔ vp_in l4 (aLen (aRf l0 0)) ∧ E (d, 16, 0, [.ref (aRf (aRf l0 0) (Int32.toNatClampNeg l4)), UN, UN], [], I) (fun r I' => E (d + 1, 24, 35, [.ref l0, .int l1, .int l2, .int l3, .int l4, l5], [r], I') Q) := (e_aload_n rfl rfl rfl).trans ((e_getf_r rfl rfl rfl h0).trans ((e_iload rfl rfl).trans ((e_aald rfl h1 (by decide) (by decide)).trans (and_congr_right' (e_cv (as := []) rfl rfl rfl rfl ⟨Nat.le_of_ble_eq_true rfl, Nat.le_of_ble_eq_true rfl, rfl⟩ (Or.inl ⟨by decide, h2⟩))))))
theorem b24_35 {d : Nat} {l0 : Nat} {l1 : Int32} {l2 : Int32} {l3 : Int32} {l4 : Int32} {l5 : Value} {s0 : Int32} {I : IM} {Q : Po} : E (d, 24, 35, [.ref l0, .int l1, .int l2, .int l3, .int l4, l5], [.int s0], I) Q ↔ if l2 < 0 then E (d, 24, 47, [.ref l0, .int l1, .int l2, .int l3, .int l4, .int s0], [], I) Q else E (d, 24, 41, [.ref l0, .int l1, .int l2, .int l3, .int l4, .int s0], [], I) Q := (e_istore rfl (by decide) rfl rfl).trans ((e_iload_n rfl rfl).trans (e_if_lt rfl rfl))
theorem b24_41 {d : Nat} {l0 : Nat} {l1 : Int32} {l2 : Int32} {l3 : Int32} {l4 : Int32} {l5 : Int32} {I : IM} {Q : Po} : E (d, 24, 41, [.ref l0, .int l1, .int l2, .int l3, .int l4, .int l5], [], I) Q ↔ if l5 < l3 then E (d, 24, 47, [.ref l0, .int l1, .int l2, .int l3, .int l4, .int l5], [], I) Q else E (d, 24, 53, [.ref l0, .int l1, .int l2, .int l3, .int l4, .int l5], [], I) Q := (e_iload rfl rfl).trans ((e_iload_n rfl rfl).trans (e_icmp_ge rfl rfl))
theorem b24_47 {d : Nat} {l0 : Nat} {l1 : Int32} {l2 : Int32} {l3 : Int32} {l4 : Int32} {l5 : Int32} {I : IM} {Q : Po} : E (d, 24, 47, [.ref l0, .int l1, .int l2, .int l3, .int l4, .int l5], [], I) Q ↔ E (d, 24, 53, [.ref l0, .int l1, .int l4, .int l5, .int l4, .int l5], [], I) Q := (e_iload rfl rfl).trans ((e_istore_n rfl (by decide) rfl rfl).trans ((e_iload rfl rfl).trans (e_istore_n rfl (by decide) rfl rfl)))
theorem b24_53 {d : Nat} {l0 : Nat} {l1 : Int32} {l2 : Int32} {l3 : Int32} {l4 : Int32} {l5 : Value} {I : IM} {Q : Po} : E (d, 24, 53, [.ref l0, .int l1, .int l2, .int l3, .int l4, l5], [], I) Q ↔ E (d, 24, 7, [.ref l0, .int l1, .int l2, .int l3, .int (l4 + 1), l5], [], I) Q := (e_iinc (v := 1) rfl rfl (by decide) rfl (by decide) rfl).trans (e_goto rfl rfl)
theorem b24_59 {d : Nat} {l0 : Nat} {l1 : Int32} {l2 : Int32} {l3 : Int32} {l4 : Int32} {l5 : Value} {I : IM} {Q : Po} : E (d, 24, 59, [.ref l0, .int l1, .int l2, .int l3, .int l4, l5], [], I) Q ↔ Q (.int l2) I := (e_iload_n rfl rfl).trans (e_iret rfl rfl)
/-! 25 TwelveShort$House.dine(I)I -/
theorem b25_0 {d : Nat} {l0 : Nat} {l1 : Int32} {l2 : Value} {l3 : Value} {l4 : Value} {I : IM} {Q : Po} : E (d + 1, 25, 0, [.ref l0, .int l1, l2, l3, l4], [], I) Q ↔ E (d, 0, 0, [.int l1], [], I) (fun r I' => E (d + 1, 25, 5, [.ref l0, .int l1, l2, l3, l4], [r, .ref l0], I') Q) := (e_aload_n rfl rfl rfl).trans ((e_iload_n rfl rfl).trans (e_cs (as := [.int l1]) rfl rfl rfl rfl rfl rfl ⟨Nat.le_of_ble_eq_true rfl, Nat.le_of_ble_eq_true rfl, rfl⟩))
theorem b25_5 {d : Nat} {l0 : Nat} {l1 : Int32} {l2 : Value} {l3 : Value} {l4 : Value} {s0 : Nat} {s1 : Int32} {I : IM} {Q : Po} (h0 : aShp l0 = 1) : E (d, 25, 5, [.ref l0, .int l1, l2, l3, l4], [.int s1, .ref s0], I) Q ↔ if s1 = (I l0 3) then E (d, 25, 12, [.ref l0, .int l1, l2, l3, l4], [.ref s0], I) Q else E (d, 25, 20, [.ref l0, .int l1, l2, l3, l4], [.ref s0], I) Q := (e_aload_n rfl rfl rfl).trans ((e_getf_i rfl rfl rfl h0).trans (e_icmp_ne rfl rfl))
theorem b25_12 {d : Nat} {l0 : Nat} {l1 : Int32} {l2 : Value} {l3 : Value} {l4 : Value} {s0 : Nat} {I : IM} {Q : Po} (h0 : aShp l0 = 1) : E (d + 1, 25, 12, [.ref l0, .int l1, l2, l3, l4], [.ref s0], I) Q ↔ E (d, 26, 0, [.ref l0, .int l1, UN], [], I) (fun r I' => E (d + 1, 25, 17, [.ref l0, .int l1, l2, l3, l4], [r, .ref s0], I') Q) := (e_aload_n rfl rfl rfl).trans ((e_iload_n rfl rfl).trans (e_cv (as := [.int l1]) rfl rfl rfl rfl ⟨Nat.le_of_ble_eq_true rfl, Nat.le_of_ble_eq_true rfl, rfl⟩ (Or.inl ⟨by decide, h0⟩)))
theorem b25_17 {d : Nat} {l0 : Nat} {l1 : Int32} {l2 : Value} {l3 : Value} {l4 : Value} {s0 : Nat} {s1 : Int32} {I : IM} {Q : Po} : E (d, 25, 17, [.ref l0, .int l1, l2, l3, l4], [.int s1, .ref s0], I) Q ↔ E (d, 25, 21, [.ref l0, .int l1, l2, l3, l4], [.int s1, .ref s0], I) Q := e_goto rfl rfl
theorem b25_20 {d : Nat} {l0 : Nat} {l1 : Int32} {l2 : Value} {l3 : Value} {l4 : Value} {s0 : Nat} {I : IM} {Q : Po} : E (d, 25, 20, [.ref l0, .int l1, l2, l3, l4], [.ref s0], I) Q ↔ E (d, 25, 21, [.ref l0, .int l1, l2, l3, l4], [.int l1, .ref s0], I) Q := e_iload_n rfl rfl
theorem b25_21 {d : Nat} {l0 : Nat} {l1 : Int32} {l2 : Value} {l3 : Value} {l4 : Value} {s0 : Nat} {s1 : Int32} {I : IM} {Q : Po} (h0 : aShp s0 = 1) : E (d, 25, 21, [.ref l0, .int l1, l2, l3, l4], [.int s1, .ref s0], I) Q ↔ E (d, 25, 28, [.ref l0, .int l1, .int 0, .int 0, l4], [], (up I s0 5 s1)) Q := (e_putf rfl rfl rfl rfl h0).trans ((e_iconst (v := 0) rfl (by decide)).trans ((e_istore_n rfl (by decide) rfl rfl).trans ((e_iconst (v := 0) rfl (by decide)).trans (e_istore_n rfl (by decide) rfl rfl))))
theorem b25_28 {d : Nat} {l0 : Nat} {l1 : Int32} {l2 : Int32} {l3 : Int32} {l4 : Value} {I : IM} {Q : Po} (h0 : aShp l0 = 1) : E (d, 25, 28, [.ref l0, .int l1, .int l2, .int l3, l4], [], I) Q ↔ if l3 < (I l0 2) then E (d, 25, 36, [.ref l0, .int l1, .int l2, .int l3, l4], [], I) Q else E (d, 25, 124, [.ref l0, .int l1, .int l2, .int l3, l4], [], I) Q := (e_iload_n rfl rfl).trans ((e_aload_n rfl rfl rfl).trans ((e_getf_i rfl rfl rfl h0).trans (e_icmp_ge rfl rfl)))
theorem b25_36 {d : Nat} {l0 : Nat} {l1 : Int32} {l2 : Int32} {l3 : Int32} {l4 : Value} {I : IM} {Q : Po} (h0 : aShp l0 = 1) (h1 : aShp (aRf l0 0) = 21) : E (d, 25, 36, [.ref l0, .int l1, .int l2, .int l3, l4], [], I) Q ↔ vp_in l3 (aLen (aRf l0 0)) ∧ (if (((I l0 5) >>> (l3 &&& 31)) &&& 1) = 1 then E (d, 25, 56, [.ref l0, .int l1, .int l2, .int l3, .ref (aRf (aRf l0 0) (Int32.toNatClampNeg l3))], [], I) Q else E (d, 25, 102, [.ref l0, .int l1, .int l2, .int l3, .ref (aRf (aRf l0 0) (Int32.toNatClampNeg l3))], [], I) Q) := (e_aload_n rfl rfl rfl).trans ((e_getf_r rfl rfl rfl h0).trans ((e_iload_n rfl rfl).trans ((e_aald rfl h1 (by decide) (by decide)).trans (and_congr_right' ((e_astore rfl (by decide) rfl rfl rfl).trans ((e_aload_n rfl rfl rfl).trans ((e_getf_i rfl rfl rfl h0).trans ((e_iload_n rfl rfl).trans ((e_ishr rfl).trans ((e_iconst (v := 1) rfl (by decide)).trans ((e_iand rfl).trans ((e_iconst (v := 1) rfl (by decide)).trans (e_icmp_ne rfl rfl)))))))))))))
theorem b25_56 {d : Nat} {l0 : Nat} {l1 : Int32} {l2 : Int32} {l3 : Int32} {l4 : Nat} {I : IM} {Q : Po} (h0 : aShp l4 = 0) : E (d + 1, 25, 56, [.ref l0, .int l1, .int l2, .int l3, .ref l4], [], I) Q ↔ E (d, 17, 0, [.ref l4, UN, UN, UN], [], (up (up I l4 1 (if 100 < ((I l4 1) + 2) then 100 else ((I l4 1) + 2))) l4 4 (if 9999 < ((((up I l4 1 (if 100 < ((I l4 1) + 2) then 100 else ((I l4 1) + 2)))) l4 4) + 1) then 9999 else ((((up I l4 1 (if 100 < ((I l4 1) + 2) then 100 else ((I l4 1) + 2)))) l4 4) + 1)))) (fun r I' => E (d + 1, 25, 97, [.ref l0, .int l1, .int l2, .int l3, .ref l4], [r, .int l2], I') Q) := (e_aload rfl rfl rfl).trans ((e_aload rfl rfl rfl).trans ((e_getf_i rfl rfl rfl h0).trans ((e_iconst (v := 2) rfl (by decide)).trans ((e_iadd rfl).trans ((e_bipush (v := 100) rfl (by decide)).trans ((e_min rfl rfl rfl (Nat.le_of_ble_eq_true rfl)).trans ((e_putf rfl rfl rfl rfl h0).trans ((e_aload rfl rfl rfl).trans ((e_aload rfl rfl rfl).trans ((e_getf_i rfl rfl rfl h0).trans ((e_iconst (v := 1) rfl (by decide)).trans ((e_iadd rfl).trans ((e_sipush (v := 9999) rfl (by decide)).trans ((e_min rfl rfl rfl (Nat.le_of_ble_eq_true rfl)).trans ((e_putf rfl rfl rfl rfl h0).trans ((e_iload_n rfl rfl).trans ((e_aload rfl rfl rfl).trans (e_cv (as := []) rfl rfl rfl rfl ⟨Nat.le_of_ble_eq_true rfl, Nat.le_of_ble_eq_true rfl, rfl⟩ (Or.inl ⟨by decide, h0⟩)))))))))))))))))))
theorem b25_97 {d : Nat} {l0 : Nat} {l1 : Int32} {l2 : Int32} {l3 : Int32} {l4 : Nat} {s0 : Int32} {s1 : Int32} {I : IM} {Q : Po} : E (d, 25, 97, [.ref l0, .int l1, .int l2, .int l3, .ref l4], [.int s1, .int s0], I) Q ↔ E (d, 25, 118, [.ref l0, .int l1, .int (s0 + s1), .int l3, .ref l4], [], I) Q := (e_iadd rfl).trans ((e_istore_n rfl (by decide) rfl rfl).trans (e_goto rfl rfl))
theorem b25_102 {d : Nat} {l0 : Nat} {l1 : Int32} {l2 : Int32} {l3 : Int32} {l4 : Nat} {I : IM} {Q : Po} (h0 : aShp l4 = 0) : E (d + 1, 25, 102, [.ref l0, .int l1, .int l2, .int l3, .ref l4], [], I) Q ↔ E (d + 1, 25, 118, [.ref l0, .int l1, .int l2, .int l3, .ref l4], [], (up I l4 1 (if ((I l4 1) - 1) < 0 then 0 else ((I l4 1) - 1)))) Q := (e_aload rfl rfl rfl).trans ((e_aload rfl rfl rfl).trans ((e_getf_i rfl rfl rfl h0).trans ((e_iconst (v := 1) rfl (by decide)).trans ((e_isub rfl).trans ((e_iconst (v := 0) rfl (by decide)).trans ((e_max rfl rfl rfl (Nat.le_of_ble_eq_true rfl)).trans (e_putf rfl rfl rfl rfl h0)))))))
theorem b25_118 {d : Nat} {l0 : Nat} {l1 : Int32} {l2 : Int32} {l3 : Int32} {l4 : Nat} {I : IM} {Q : Po} : E (d, 25, 118, [.ref l0, .int l1, .int l2, .int l3, .ref l4], [], I) Q ↔ E (d, 25, 28, [.ref l0, .int l1, .int l2, .int (l3 + 1), .ref l4], [], I) Q := (e_iinc (v := 1) rfl rfl (by decide) rfl (by decide) rfl).trans (e_goto rfl rfl)
theorem b25_124 {d : Nat} {l0 : Nat} {l1 : Int32} {l2 : Int32} {l3 : Int32} {l4 : Value} {I : IM} {Q : Po} (h0 : aShp l0 = 1) : E (d + 1, 25, 124, [.ref l0, .int l1, .int l2, .int l3, l4], [], I) Q ↔ Q (.int l2) (up I l0 6 (if 99999 < ((I l0 6) + l2) then 99999 else ((I l0 6) + l2))) := (e_aload_n rfl rfl rfl).trans ((e_aload_n rfl rfl rfl).trans ((e_getf_i rfl rfl rfl h0).trans ((e_iload_n rfl rfl).trans ((e_iadd rfl).trans ((e_ldc rfl rfl).trans ((e_min rfl rfl rfl (Nat.le_of_ble_eq_true rfl)).trans ((e_putf rfl rfl rfl rfl h0).trans ((e_iload_n rfl rfl).trans (e_iret rfl rfl)))))))))
/-! 26 TwelveShort$House.withOneSentFor(I)I -/
theorem b26_0 {d : Nat} {l0 : Nat} {l1 : Int32} {l2 : Value} {I : IM} {Q : Po} (h0 : aShp l0 = 1) : E (d + 1, 26, 0, [.ref l0, .int l1, l2], [], I) Q ↔ E (d, 24, 0, [.ref l0, .int l1, UN, UN, UN, UN], [], I) (fun r I' => E (d + 1, 26, 5, [.ref l0, .int l1, l2], [r], I') Q) := (e_aload_n rfl rfl rfl).trans ((e_iload_n rfl rfl).trans (e_cv (as := [.int l1]) rfl rfl rfl rfl ⟨Nat.le_of_ble_eq_true rfl, Nat.le_of_ble_eq_true rfl, rfl⟩ (Or.inl ⟨by decide, h0⟩)))
theorem b26_5 {d : Nat} {l0 : Nat} {l1 : Int32} {l2 : Value} {s0 : Int32} {I : IM} {Q : Po} : E (d, 26, 5, [.ref l0, .int l1, l2], [.int s0], I) Q ↔ if s0 < 0 then E (d, 26, 10, [.ref l0, .int l1, .int s0], [], I) Q else E (d, 26, 22, [.ref l0, .int l1, .int s0], [], I) Q := (e_istore_n rfl (by decide) rfl rfl).trans ((e_iload_n rfl rfl).trans (e_if_ge rfl rfl))
theorem b26_10 {d : Nat} {l0 : Nat} {l1 : Int32} {l2 : Int32} {I : IM} {Q : Po} (h0 : aShp l0 = 1) : E (d, 26, 10, [.ref l0, .int l1, .int l2], [], I) Q ↔ Q (.int l1) (up I l0 8 ((I l0 8) + 1)) := (e_aload_n rfl rfl rfl).trans ((e_dup rfl rfl).trans ((e_getf_i rfl rfl rfl h0).trans ((e_iconst (v := 1) rfl (by decide)).trans ((e_iadd rfl).trans ((e_putf rfl rfl rfl rfl h0).trans ((e_iload_n rfl rfl).trans (e_iret rfl rfl)))))))
theorem b26_22 {d : Nat} {l0 : Nat} {l1 : Int32} {l2 : Int32} {I : IM} {Q : Po} (h0 : aShp l0 = 1) : E (d, 26, 22, [.ref l0, .int l1, .int l2], [], I) Q ↔ Q (.int (l1 ||| (1 <<< (l2 &&& 31)))) (up I l0 7 ((I l0 7) + 1)) := (e_aload_n rfl rfl rfl).trans ((e_dup rfl rfl).trans ((e_getf_i rfl rfl rfl h0).trans ((e_iconst (v := 1) rfl (by decide)).trans ((e_iadd rfl).trans ((e_putf rfl rfl rfl rfl h0).trans ((e_iload_n rfl rfl).trans ((e_iconst (v := 1) rfl (by decide)).trans ((e_iload_n rfl rfl).trans ((e_ishl rfl).trans ((e_ior rfl).trans (e_iret rfl rfl)))))))))))
/-! 27 TwelveShort$House.pass(ILTwelveShort$Law;)V -/
theorem b27_0n {d : Nat} {l0 : Nat} {l1 : Int32} {l3 : Value} {I : IM} {Q : Po} : E (d, 27, 0, [.ref l0, .int l1, .null, l3], [], I) Q ↔ E (d, 27, 2, [.ref l0, .int l1, .null, .int 0], [], I) Q := (e_iconst (v := 0) rfl (by decide)).trans (e_istore_n rfl (by decide) rfl rfl)
theorem b27_0r {d : Nat} {l0 : Nat} {l1 : Int32} {l2 : Nat} {l3 : Value} {I : IM} {Q : Po} : E (d, 27, 0, [.ref l0, .int l1, .ref l2, l3], [], I) Q ↔ E (d, 27, 2, [.ref l0, .int l1, .ref l2, .int 0], [], I) Q := (e_iconst (v := 0) rfl (by decide)).trans (e_istore_n rfl (by decide) rfl rfl)
theorem b27_2n {d : Nat} {l0 : Nat} {l1 : Int32} {l3 : Int32} {I : IM} {Q : Po} : E (d, 27, 2, [.ref l0, .int l1, .null, .int l3], [], I) Q ↔ if l3 < l1 then E (d, 27, 7, [.ref l0, .int l1, .null, .int l3], [], I) Q else E (d, 27, 37, [.ref l0, .int l1, .null, .int l3], [], I) Q := (e_iload_n rfl rfl).trans ((e_iload_n rfl rfl).trans (e_icmp_ge rfl rfl))
theorem b27_2r {d : Nat} {l0 : Nat} {l1 : Int32} {l2 : Nat} {l3 : Int32} {I : IM} {Q : Po} : E (d, 27, 2, [.ref l0, .int l1, .ref l2, .int l3], [], I) Q ↔ if l3 < l1 then E (d, 27, 7, [.ref l0, .int l1, .ref l2, .int l3], [], I) Q else E (d, 27, 37, [.ref l0, .int l1, .ref l2, .int l3], [], I) Q := (e_iload_n rfl rfl).trans ((e_iload_n rfl rfl).trans (e_icmp_ge rfl rfl))
theorem b27_7n {d : Nat} {l0 : Nat} {l1 : Int32} {l3 : Int32} {I : IM} {Q : Po} (h0 : aShp l0 = 1) : E (d + 1, 27, 7, [.ref l0, .int l1, .null, .int l3], [], I) Q ↔ E (d, 28, 0, [.ref l0, .null, UN, UN], [], I) (fun r I' => E (d + 1, 27, 13, [.ref l0, .int l1, .null, .int l3], [r, .ref l0], I') Q) := (e_aload_n rfl rfl rfl).trans ((e_aload_n rfl rfl rfl).trans ((e_aload_n rfl rfl rfl).trans (e_cv (as := [.null]) rfl rfl rfl rfl ⟨Nat.le_of_ble_eq_true rfl, Nat.le_of_ble_eq_true rfl, rfl⟩ (Or.inl ⟨by decide, h0⟩))))
theorem b27_7r {d : Nat} {l0 : Nat} {l1 : Int32} {l2 : Nat} {l3 : Int32} {I : IM} {Q : Po} (h0 : aShp l0 = 1) : E (d + 1, 27, 7, [.ref l0, .int l1, .ref l2, .int l3], [], I) Q ↔ E (d, 28, 0, [.ref l0, .ref l2, UN, UN], [], I) (fun r I' => E (d + 1, 27, 13, [.ref l0, .int l1, .ref l2, .int l3], [r, .ref l0], I') Q) := (e_aload_n rfl rfl rfl).trans ((e_aload_n rfl rfl rfl).trans ((e_aload_n rfl rfl rfl).trans (e_cv (as := [.ref l2]) rfl rfl rfl rfl ⟨Nat.le_of_ble_eq_true rfl, Nat.le_of_ble_eq_true rfl, rfl⟩ (Or.inl ⟨by decide, h0⟩))))
theorem b27_13n {d : Nat} {l0 : Nat} {l1 : Int32} {l3 : Int32} {s0 : Nat} {s1 : Int32} {I : IM} {Q : Po} (h0 : aShp s0 = 1) : E (d + 1, 27, 13, [.ref l0, .int l1, .null, .int l3], [.int s1, .ref s0], I) Q ↔ E (d, 25, 0, [.ref s0, .int s1, UN, UN, UN], [], I) (fun r I' => E (d + 1, 27, 16, [.ref l0, .int l1, .null, .int l3], [r], I') Q) := e_cv (as := [.int s1]) rfl rfl rfl rfl ⟨Nat.le_of_ble_eq_true rfl, Nat.le_of_ble_eq_true rfl, rfl⟩ (Or.inl ⟨by decide, h0⟩)
theorem b27_13r {d : Nat} {l0 : Nat} {l1 : Int32} {l2 : Nat} {l3 : Int32} {s0 : Nat} {s1 : Int32} {I : IM} {Q : Po} (h0 : aShp s0 = 1) : E (d + 1, 27, 13, [.ref l0, .int l1, .ref l2, .int l3], [.int s1, .ref s0], I) Q ↔ E (d, 25, 0, [.ref s0, .int s1, UN, UN, UN], [], I) (fun r I' => E (d + 1, 27, 16, [.ref l0, .int l1, .ref l2, .int l3], [r], I') Q) := e_cv (as := [.int s1]) rfl rfl rfl rfl ⟨Nat.le_of_ble_eq_true rfl, Nat.le_of_ble_eq_true rfl, rfl⟩ (Or.inl ⟨by decide, h0⟩)
theorem b27_16n {d : Nat} {l0 : Nat} {l1 : Int32} {l3 : Int32} {s0 : Int32} {I : IM} {Q : Po} (h0 : aShp l0 = 1) : E (d + 1, 27, 16, [.ref l0, .int l1, .null, .int l3], [.int s0], I) Q ↔ E (d, 29, 0, [.ref l0, UN], [], I) (fun r I' => E (d + 1, 27, 21, [.ref l0, .int l1, .null, .int l3], [], I') Q) := (e_pop rfl rfl).trans ((e_aload_n rfl rfl rfl).trans (e_cv (as := []) rfl rfl rfl rfl ⟨Nat.le_of_ble_eq_true rfl, Nat.le_of_ble_eq_true rfl, rfl⟩ (Or.inl ⟨by decide, h0⟩)))
theorem b27_16r {d : Nat} {l0 : Nat} {l1 : Int32} {l2 : Nat} {l3 : Int32} {s0 : Int32} {I : IM} {Q : Po} (h0 : aShp l0 = 1) : E (d + 1, 27, 16, [.ref l0, .int l1, .ref l2, .int l3], [.int s0], I) Q ↔ E (d, 29, 0, [.ref l0, UN], [], I) (fun r I' => E (d + 1, 27, 21, [.ref l0, .int l1, .ref l2, .int l3], [], I') Q) := (e_pop rfl rfl).trans ((e_aload_n rfl rfl rfl).trans (e_cv (as := []) rfl rfl rfl rfl ⟨Nat.le_of_ble_eq_true rfl, Nat.le_of_ble_eq_true rfl, rfl⟩ (Or.inl ⟨by decide, h0⟩)))
theorem b27_21n {d : Nat} {l0 : Nat} {l1 : Int32} {l3 : Int32} {I : IM} {Q : Po} (h0 : aShp l0 = 1) : E (d, 27, 21, [.ref l0, .int l1, .null, .int l3], [], I) Q ↔ E (d, 27, 2, [.ref l0, .int l1, .null, .int (l3 + 1)], [], (up I l0 9 ((I l0 9) + 1))) Q := (e_aload_n rfl rfl rfl).trans ((e_dup rfl rfl).trans ((e_getf_i rfl rfl rfl h0).trans ((e_iconst (v := 1) rfl (by decide)).trans ((e_iadd rfl).trans ((e_putf rfl rfl rfl rfl h0).trans ((e_iinc (v := 1) rfl rfl (by decide) rfl (by decide) rfl).trans (e_goto rfl rfl)))))))
theorem b27_21r {d : Nat} {l0 : Nat} {l1 : Int32} {l2 : Nat} {l3 : Int32} {I : IM} {Q : Po} (h0 : aShp l0 = 1) : E (d, 27, 21, [.ref l0, .int l1, .ref l2, .int l3], [], I) Q ↔ E (d, 27, 2, [.ref l0, .int l1, .ref l2, .int (l3 + 1)], [], (up I l0 9 ((I l0 9) + 1))) Q := (e_aload_n rfl rfl rfl).trans ((e_dup rfl rfl).trans ((e_getf_i rfl rfl rfl h0).trans ((e_iconst (v := 1) rfl (by decide)).trans ((e_iadd rfl).trans ((e_putf rfl rfl rfl rfl h0).trans ((e_iinc (v := 1) rfl rfl (by decide) rfl (by decide) rfl).trans (e_goto rfl rfl)))))))
theorem b27_37n {d : Nat} {l0 : Nat} {l1 : Int32} {l3 : Int32} {I : IM} {Q : Po} : E (d, 27, 37, [.ref l0, .int l1, .null, .int l3], [], I) Q ↔ Q .null I := e_vret rfl rfl
theorem b27_37r {d : Nat} {l0 : Nat} {l1 : Int32} {l2 : Nat} {l3 : Int32} {I : IM} {Q : Po} : E (d, 27, 37, [.ref l0, .int l1, .ref l2, .int l3], [], I) Q ↔ Q .null I := e_vret rfl rfl
/-! 28 TwelveShort$House.drawComers(LTwelveShort$Law;)I -/
theorem b28_0n {d : Nat} {l0 : Nat} {l2 : Value} {l3 : Value} {I : IM} {Q : Po} : E (d, 28, 0, [.ref l0, .null, l2, l3], [], I) Q ↔ E (d, 28, 4, [.ref l0, .null, .int 0, .int 0], [], I) Q := (e_iconst (v := 0) rfl (by decide)).trans ((e_istore_n rfl (by decide) rfl rfl).trans ((e_iconst (v := 0) rfl (by decide)).trans (e_istore_n rfl (by decide) rfl rfl)))
theorem b28_0r {d : Nat} {l0 : Nat} {l1 : Nat} {l2 : Value} {l3 : Value} {I : IM} {Q : Po} : E (d, 28, 0, [.ref l0, .ref l1, l2, l3], [], I) Q ↔ E (d, 28, 4, [.ref l0, .ref l1, .int 0, .int 0], [], I) Q := (e_iconst (v := 0) rfl (by decide)).trans ((e_istore_n rfl (by decide) rfl rfl).trans ((e_iconst (v := 0) rfl (by decide)).trans (e_istore_n rfl (by decide) rfl rfl)))
theorem b28_4n {d : Nat} {l0 : Nat} {l2 : Int32} {l3 : Int32} {I : IM} {Q : Po} (h0 : aShp l0 = 1) : E (d, 28, 4, [.ref l0, .null, .int l2, .int l3], [], I) Q ↔ if l3 < (I l0 2) then E (d, 28, 12, [.ref l0, .null, .int l2, .int l3], [], I) Q else E (d, 28, 45, [.ref l0, .null, .int l2, .int l3], [], I) Q := (e_iload_n rfl rfl).trans ((e_aload_n rfl rfl rfl).trans ((e_getf_i rfl rfl rfl h0).trans (e_icmp_ge rfl rfl)))
theorem b28_4r {d : Nat} {l0 : Nat} {l1 : Nat} {l2 : Int32} {l3 : Int32} {I : IM} {Q : Po} (h0 : aShp l0 = 1) : E (d, 28, 4, [.ref l0, .ref l1, .int l2, .int l3], [], I) Q ↔ if l3 < (I l0 2) then E (d, 28, 12, [.ref l0, .ref l1, .int l2, .int l3], [], I) Q else E (d, 28, 45, [.ref l0, .ref l1, .int l2, .int l3], [], I) Q := (e_iload_n rfl rfl).trans ((e_aload_n rfl rfl rfl).trans ((e_getf_i rfl rfl rfl h0).trans (e_icmp_ge rfl rfl)))
theorem b28_12n {d : Nat} {l0 : Nat} {l2 : Int32} {l3 : Int32} {I : IM} {Q : Po} (h0 : aShp l0 = 1) : E (d + 1, 28, 12, [.ref l0, .null, .int l2, .int l3], [], I) Q ↔ E (d, 22, 0, [.ref l0], [], I) (fun r I' => E (d + 1, 28, 16, [.ref l0, .null, .int l2, .int l3], [r], I') Q) := (e_aload_n rfl rfl rfl).trans (e_cv (as := []) rfl rfl rfl rfl ⟨Nat.le_of_ble_eq_true rfl, Nat.le_of_ble_eq_true rfl, rfl⟩ (Or.inl ⟨by decide, h0⟩))
theorem b28_12r {d : Nat} {l0 : Nat} {l1 : Nat} {l2 : Int32} {l3 : Int32} {I : IM} {Q : Po} (h0 : aShp l0 = 1) : E (d + 1, 28, 12, [.ref l0, .ref l1, .int l2, .int l3], [], I) Q ↔ E (d, 22, 0, [.ref l0], [], I) (fun r I' => E (d + 1, 28, 16, [.ref l0, .ref l1, .int l2, .int l3], [r], I') Q) := (e_aload_n rfl rfl rfl).trans (e_cv (as := []) rfl rfl rfl rfl ⟨Nat.le_of_ble_eq_true rfl, Nat.le_of_ble_eq_true rfl, rfl⟩ (Or.inl ⟨by decide, h0⟩))
theorem b28_16n {d : Nat} {l0 : Nat} {l2 : Int32} {l3 : Int32} {s0 : Int32} {I : IM} {Q : Po} (h0 : aShp l0 = 1) (h1 : aShp (aRf l0 0) = 21) : E (d + 1, 28, 16, [.ref l0, .null, .int l2, .int l3], [.int s0], I) Q ↔ ¬ (100 : Int32) = 0 ∧ vp_in l3 (aLen (aRf l0 0)) ∧ E (d, 23, 0, [.ref l0, .ref (aRf (aRf l0 0) (Int32.toNatClampNeg l3)), .null, UN, UN], [], I) (fun r I' => E (d + 1, 28, 30, [.ref l0, .null, .int l2, .int l3], [r, .int (jRem s0 100)], I') Q) := (e_bipush (v := 100) rfl (by decide)).trans ((e_irem rfl).trans (and_congr_right' ((e_aload_n rfl rfl rfl).trans ((e_aload_n rfl rfl rfl).trans ((e_getf_r rfl rfl rfl h0).trans ((e_iload_n rfl rfl).trans ((e_aald rfl h1 (by decide) (by decide)).trans (and_congr_right' ((e_aload_n rfl rfl rfl).trans (e_cv (as := [.null, .ref (aRf (aRf l0 0) (Int32.toNatClampNeg l3))]) rfl rfl rfl rfl ⟨Nat.le_of_ble_eq_true rfl, Nat.le_of_ble_eq_true rfl, rfl⟩ (Or.inl ⟨by decide, h0⟩)))))))))))
theorem b28_16r {d : Nat} {l0 : Nat} {l1 : Nat} {l2 : Int32} {l3 : Int32} {s0 : Int32} {I : IM} {Q : Po} (h0 : aShp l0 = 1) (h1 : aShp (aRf l0 0) = 21) : E (d + 1, 28, 16, [.ref l0, .ref l1, .int l2, .int l3], [.int s0], I) Q ↔ ¬ (100 : Int32) = 0 ∧ vp_in l3 (aLen (aRf l0 0)) ∧ E (d, 23, 0, [.ref l0, .ref (aRf (aRf l0 0) (Int32.toNatClampNeg l3)), .ref l1, UN, UN], [], I) (fun r I' => E (d + 1, 28, 30, [.ref l0, .ref l1, .int l2, .int l3], [r, .int (jRem s0 100)], I') Q) := (e_bipush (v := 100) rfl (by decide)).trans ((e_irem rfl).trans (and_congr_right' ((e_aload_n rfl rfl rfl).trans ((e_aload_n rfl rfl rfl).trans ((e_getf_r rfl rfl rfl h0).trans ((e_iload_n rfl rfl).trans ((e_aald rfl h1 (by decide) (by decide)).trans (and_congr_right' ((e_aload_n rfl rfl rfl).trans (e_cv (as := [.ref l1, .ref (aRf (aRf l0 0) (Int32.toNatClampNeg l3))]) rfl rfl rfl rfl ⟨Nat.le_of_ble_eq_true rfl, Nat.le_of_ble_eq_true rfl, rfl⟩ (Or.inl ⟨by decide, h0⟩)))))))))))
theorem b28_30n {d : Nat} {l0 : Nat} {l2 : Int32} {l3 : Int32} {s0 : Int32} {s1 : Int32} {I : IM} {Q : Po} : E (d, 28, 30, [.ref l0, .null, .int l2, .int l3], [.int s1, .int s0], I) Q ↔ if s0 < s1 then E (d, 28, 33, [.ref l0, .null, .int l2, .int l3], [], I) Q else E (d, 28, 39, [.ref l0, .null, .int l2, .int l3], [], I) Q := e_icmp_ge rfl rfl
theorem b28_30r {d : Nat} {l0 : Nat} {l1 : Nat} {l2 : Int32} {l3 : Int32} {s0 : Int32} {s1 : Int32} {I : IM} {Q : Po} : E (d, 28, 30, [.ref l0, .ref l1, .int l2, .int l3], [.int s1, .int s0], I) Q ↔ if s0 < s1 then E (d, 28, 33, [.ref l0, .ref l1, .int l2, .int l3], [], I) Q else E (d, 28, 39, [.ref l0, .ref l1, .int l2, .int l3], [], I) Q := e_icmp_ge rfl rfl
theorem b28_33n {d : Nat} {l0 : Nat} {l2 : Int32} {l3 : Int32} {I : IM} {Q : Po} : E (d, 28, 33, [.ref l0, .null, .int l2, .int l3], [], I) Q ↔ E (d, 28, 39, [.ref l0, .null, .int (l2 ||| (1 <<< (l3 &&& 31))), .int l3], [], I) Q := (e_iload_n rfl rfl).trans ((e_iconst (v := 1) rfl (by decide)).trans ((e_iload_n rfl rfl).trans ((e_ishl rfl).trans ((e_ior rfl).trans (e_istore_n rfl (by decide) rfl rfl)))))
theorem b28_33r {d : Nat} {l0 : Nat} {l1 : Nat} {l2 : Int32} {l3 : Int32} {I : IM} {Q : Po} : E (d, 28, 33, [.ref l0, .ref l1, .int l2, .int l3], [], I) Q ↔ E (d, 28, 39, [.ref l0, .ref l1, .int (l2 ||| (1 <<< (l3 &&& 31))), .int l3], [], I) Q := (e_iload_n rfl rfl).trans ((e_iconst (v := 1) rfl (by decide)).trans ((e_iload_n rfl rfl).trans ((e_ishl rfl).trans ((e_ior rfl).trans (e_istore_n rfl (by decide) rfl rfl)))))
theorem b28_39n {d : Nat} {l0 : Nat} {l2 : Int32} {l3 : Int32} {I : IM} {Q : Po} : E (d, 28, 39, [.ref l0, .null, .int l2, .int l3], [], I) Q ↔ E (d, 28, 4, [.ref l0, .null, .int l2, .int (l3 + 1)], [], I) Q := (e_iinc (v := 1) rfl rfl (by decide) rfl (by decide) rfl).trans (e_goto rfl rfl)
theorem b28_39r {d : Nat} {l0 : Nat} {l1 : Nat} {l2 : Int32} {l3 : Int32} {I : IM} {Q : Po} : E (d, 28, 39, [.ref l0, .ref l1, .int l2, .int l3], [], I) Q ↔ E (d, 28, 4, [.ref l0, .ref l1, .int l2, .int (l3 + 1)], [], I) Q := (e_iinc (v := 1) rfl rfl (by decide) rfl (by decide) rfl).trans (e_goto rfl rfl)
theorem b28_45n {d : Nat} {l0 : Nat} {l2 : Int32} {l3 : Int32} {I : IM} {Q : Po} : E (d, 28, 45, [.ref l0, .null, .int l2, .int l3], [], I) Q ↔ Q (.int l2) I := (e_iload_n rfl rfl).trans (e_iret rfl rfl)
theorem b28_45r {d : Nat} {l0 : Nat} {l1 : Nat} {l2 : Int32} {l3 : Int32} {I : IM} {Q : Po} : E (d, 28, 45, [.ref l0, .ref l1, .int l2, .int l3], [], I) Q ↔ Q (.int l2) I := (e_iload_n rfl rfl).trans (e_iret rfl rfl)
/-! 29 TwelveShort$House.drawFog()V -/
theorem b29_0 {d : Nat} {l0 : Nat} {l1 : Value} {I : IM} {Q : Po} (h0 : aShp l0 = 1) : E (d + 1, 29, 0, [.ref l0, l1], [], I) Q ↔ E (d, 22, 0, [.ref l0], [], I) (fun r I' => E (d + 1, 29, 4, [.ref l0, l1], [r], I') Q) := (e_aload_n rfl rfl rfl).trans (e_cv (as := []) rfl rfl rfl rfl ⟨Nat.le_of_ble_eq_true rfl, Nat.le_of_ble_eq_true rfl, rfl⟩ (Or.inl ⟨by decide, h0⟩))
theorem b29_4 {d : Nat} {l0 : Nat} {l1 : Value} {s0 : Int32} {I : IM} {Q : Po} (h0 : aShp l0 = 1) : E (d, 29, 4, [.ref l0, l1], [.int s0], I) Q ↔ ¬ (100 : Int32) = 0 ∧ (if (jRem s0 100) < (I l0 4) then E (d, 29, 14, [.ref l0, l1], [], I) Q else E (d, 29, 47, [.ref l0, l1], [], I) Q) := (e_bipush (v := 100) rfl (by decide)).trans ((e_irem rfl).trans (and_congr_right' ((e_aload_n rfl rfl rfl).trans ((e_getf_i rfl rfl rfl h0).trans (e_icmp_ge rfl rfl)))))
theorem b29_14 {d : Nat} {l0 : Nat} {l1 : Value} {I : IM} {Q : Po} (h0 : aShp l0 = 1) : E (d, 29, 14, [.ref l0, l1], [], I) Q ↔ if 0 < (I l0 2) then E (d, 29, 21, [.ref l0, l1], [], I) Q else E (d, 29, 47, [.ref l0, l1], [], I) Q := (e_aload_n rfl rfl rfl).trans ((e_getf_i rfl rfl rfl h0).trans (e_if_le rfl rfl))
theorem b29_21 {d : Nat} {l0 : Nat} {l1 : Value} {I : IM} {Q : Po} (h0 : aShp l0 = 1) : E (d + 1, 29, 21, [.ref l0, l1], [], I) Q ↔ E (d, 22, 0, [.ref l0], [], I) (fun r I' => E (d + 1, 29, 25, [.ref l0, l1], [r], I') Q) := (e_aload_n rfl rfl rfl).trans (e_cv (as := []) rfl rfl rfl rfl ⟨Nat.le_of_ble_eq_true rfl, Nat.le_of_ble_eq_true rfl, rfl⟩ (Or.inl ⟨by decide, h0⟩))
theorem b29_25 {d : Nat} {l0 : Nat} {l1 : Value} {s0 : Int32} {I : IM} {Q : Po} (h0 : aShp l0 = 1) (h1 : aShp (aRf l0 0) = 21) : E (d + 1, 29, 25, [.ref l0, l1], [.int s0], I) Q ↔ ¬ (I l0 2 : Int32) = 0 ∧ vp_in (jRem s0 (I l0 2)) (aLen (aRf l0 0)) ∧ E (d, 22, 0, [.ref l0], [], I) (fun r I' => E (d + 1, 29, 41, [.ref l0, .int (jRem s0 (I l0 2))], [r, .ref (aRf (aRf l0 0) (Int32.toNatClampNeg (jRem s0 (I l0 2))))], I') Q) := (e_aload_n rfl rfl rfl).trans ((e_getf_i rfl rfl rfl h0).trans ((e_irem rfl).trans (and_congr_right' ((e_istore_n rfl (by decide) rfl rfl).trans ((e_aload_n rfl rfl rfl).trans ((e_getf_r rfl rfl rfl h0).trans ((e_iload_n rfl rfl).trans ((e_aald rfl h1 (by decide) (by decide)).trans (and_congr_right' ((e_aload_n rfl rfl rfl).trans (e_cv (as := []) rfl rfl rfl rfl ⟨Nat.le_of_ble_eq_true rfl, Nat.le_of_ble_eq_true rfl, rfl⟩ (Or.inl ⟨by decide, h0⟩))))))))))))
theorem b29_41 {d : Nat} {l0 : Nat} {l1 : Int32} {s0 : Nat} {s1 : Int32} {I : IM} {Q : Po} (h0 : aShp s0 = 0) : E (d, 29, 41, [.ref l0, .int l1], [.int s1, .ref s0], I) Q ↔ ¬ (100 : Int32) = 0 ∧ E (d, 29, 47, [.ref l0, .int l1], [], (up I s0 2 (jRem s1 100))) Q := (e_bipush (v := 100) rfl (by decide)).trans ((e_irem rfl).trans (and_congr_right' (e_putf rfl rfl rfl rfl h0)))
theorem b29_47 {d : Nat} {l0 : Nat} {l1 : Value} {I : IM} {Q : Po} : E (d, 29, 47, [.ref l0, l1], [], I) Q ↔ Q .null I := e_vret rfl rfl
/-! 30 TwelveShort$House.total(I)I -/
theorem b30_0 {d : Nat} {l0 : Nat} {l1 : Int32} {I : IM} {Q : Po} : E (d, 30, 0, [.ref l0, .int l1], [], I) Q ↔ if l1 = 0 then E (d, 30, 32, [.ref l0, .int l1], [], I) Q else if l1 = 1 then E (d, 30, 37, [.ref l0, .int l1], [], I) Q else if l1 = 2 then E (d, 30, 42, [.ref l0, .int l1], [], I) Q else if l1 = 3 then E (d, 30, 47, [.ref l0, .int l1], [], I) Q else E (d, 30, 52, [.ref l0, .int l1], [], I) Q := (e_iload_n rfl rfl).trans ((e_tsw (k := 0) rfl (by decide) (by decide)).trans (e_tsel_cons (k := 0) (k2 := 1) (by decide) rfl (e_tsel_cons (k := 1) (k2 := 2) (by decide) rfl (e_tsel_cons (k := 2) (k2 := 3) (by decide) rfl (e_tsel_cons (k := 3) (k2 := 4) (by decide) rfl (e_tsel_nil rfl))))))
theorem b30_32 {d : Nat} {l0 : Nat} {l1 : Int32} {I : IM} {Q : Po} (h0 : aShp l0 = 1) : E (d, 30, 32, [.ref l0, .int l1], [], I) Q ↔ Q (.int (I l0 6)) I := (e_aload_n rfl rfl rfl).trans ((e_getf_i rfl rfl rfl h0).trans (e_iret rfl rfl))
theorem b30_37 {d : Nat} {l0 : Nat} {l1 : Int32} {I : IM} {Q : Po} (h0 : aShp l0 = 1) : E (d, 30, 37, [.ref l0, .int l1], [], I) Q ↔ Q (.int (I l0 7)) I := (e_aload_n rfl rfl rfl).trans ((e_getf_i rfl rfl rfl h0).trans (e_iret rfl rfl))
theorem b30_42 {d : Nat} {l0 : Nat} {l1 : Int32} {I : IM} {Q : Po} (h0 : aShp l0 = 1) : E (d, 30, 42, [.ref l0, .int l1], [], I) Q ↔ Q (.int (I l0 8)) I := (e_aload_n rfl rfl rfl).trans ((e_getf_i rfl rfl rfl h0).trans (e_iret rfl rfl))
theorem b30_47 {d : Nat} {l0 : Nat} {l1 : Int32} {I : IM} {Q : Po} (h0 : aShp l0 = 1) : E (d, 30, 47, [.ref l0, .int l1], [], I) Q ↔ Q (.int (I l0 5)) I := (e_aload_n rfl rfl rfl).trans ((e_getf_i rfl rfl rfl h0).trans (e_iret rfl rfl))
theorem b30_52 {d : Nat} {l0 : Nat} {l1 : Int32} {I : IM} {Q : Po} (h0 : aShp l0 = 1) : E (d + 1, 30, 52, [.ref l0, .int l1], [], I) Q ↔ E (d, 31, 0, [.ref l0, UN, UN], [], I) (fun r I' => E (d + 1, 30, 56, [.ref l0, .int l1], [r], I') Q) := (e_aload_n rfl rfl rfl).trans (e_cv (as := []) rfl rfl rfl rfl ⟨Nat.le_of_ble_eq_true rfl, Nat.le_of_ble_eq_true rfl, rfl⟩ (Or.inl ⟨by decide, h0⟩))
theorem b30_56 {d : Nat} {l0 : Nat} {l1 : Int32} {s0 : Int32} {I : IM} {Q : Po} : E (d, 30, 56, [.ref l0, .int l1], [.int s0], I) Q ↔ Q (.int s0) I := e_iret rfl rfl
/-! 31 TwelveShort$House.oddsOfAll()I -/
theorem b31_0 {d : Nat} {l0 : Nat} {l1 : Value} {l2 : Value} {I : IM} {Q : Po} : E (d, 31, 0, [.ref l0, l1, l2], [], I) Q ↔ E (d, 31, 4, [.ref l0, .int 0, .int 0], [], I) Q := (e_iconst (v := 0) rfl (by decide)).trans ((e_istore_n rfl (by decide) rfl rfl).trans ((e_iconst (v := 0) rfl (by decide)).trans (e_istore_n rfl (by decide) rfl rfl)))
theorem b31_4 {d : Nat} {l0 : Nat} {l1 : Int32} {l2 : Int32} {I : IM} {Q : Po} (h0 : aShp l0 = 1) : E (d, 31, 4, [.ref l0, .int l1, .int l2], [], I) Q ↔ if l2 < (I l0 2) then E (d, 31, 12, [.ref l0, .int l1, .int l2], [], I) Q else E (d, 31, 30, [.ref l0, .int l1, .int l2], [], I) Q := (e_iload_n rfl rfl).trans ((e_aload_n rfl rfl rfl).trans ((e_getf_i rfl rfl rfl h0).trans (e_icmp_ge rfl rfl)))
theorem b31_12 {d : Nat} {l0 : Nat} {l1 : Int32} {l2 : Int32} {I : IM} {Q : Po} (h0 : aShp l0 = 1) (h1 : aShp (aRf l0 0) = 21) (h2 : aShp (aRf (aRf l0 0) (Int32.toNatClampNeg l2)) = 0) : E (d, 31, 12, [.ref l0, .int l1, .int l2], [], I) Q ↔ vp_in l2 (aLen (aRf l0 0)) ∧ E (d, 31, 4, [.ref l0, .int (l1 + (I (aRf (aRf l0 0) (Int32.toNatClampNeg l2)) 1)), .int (l2 + 1)], [], I) Q := (e_iload_n rfl rfl).trans ((e_aload_n rfl rfl rfl).trans ((e_getf_r rfl rfl rfl h0).trans ((e_iload_n rfl rfl).trans ((e_aald rfl h1 (by decide) (by decide)).trans (and_congr_right' ((e_getf_i rfl rfl rfl h2).trans ((e_iadd rfl).trans ((e_istore_n rfl (by decide) rfl rfl).trans ((e_iinc (v := 1) rfl rfl (by decide) rfl (by decide) rfl).trans (e_goto rfl rfl))))))))))
theorem b31_30 {d : Nat} {l0 : Nat} {l1 : Int32} {l2 : Int32} {I : IM} {Q : Po} : E (d, 31, 30, [.ref l0, .int l1, .int l2], [], I) Q ↔ Q (.int l1) I := (e_iload_n rfl rfl).trans (e_iret rfl rfl)
/-! 32 TwelveShort$House.witOfAll()I -/
theorem b32_0 {d : Nat} {l0 : Nat} {l1 : Value} {l2 : Value} {I : IM} {Q : Po} : E (d, 32, 0, [.ref l0, l1, l2], [], I) Q ↔ E (d, 32, 4, [.ref l0, .int 0, .int 0], [], I) Q := (e_iconst (v := 0) rfl (by decide)).trans ((e_istore_n rfl (by decide) rfl rfl).trans ((e_iconst (v := 0) rfl (by decide)).trans (e_istore_n rfl (by decide) rfl rfl)))
theorem b32_4 {d : Nat} {l0 : Nat} {l1 : Int32} {l2 : Int32} {I : IM} {Q : Po} (h0 : aShp l0 = 1) : E (d, 32, 4, [.ref l0, .int l1, .int l2], [], I) Q ↔ if l2 < (I l0 2) then E (d, 32, 12, [.ref l0, .int l1, .int l2], [], I) Q else E (d, 32, 30, [.ref l0, .int l1, .int l2], [], I) Q := (e_iload_n rfl rfl).trans ((e_aload_n rfl rfl rfl).trans ((e_getf_i rfl rfl rfl h0).trans (e_icmp_ge rfl rfl)))
theorem b32_12 {d : Nat} {l0 : Nat} {l1 : Int32} {l2 : Int32} {I : IM} {Q : Po} (h0 : aShp l0 = 1) (h1 : aShp (aRf l0 0) = 21) (h2 : aShp (aRf (aRf l0 0) (Int32.toNatClampNeg l2)) = 0) : E (d, 32, 12, [.ref l0, .int l1, .int l2], [], I) Q ↔ vp_in l2 (aLen (aRf l0 0)) ∧ E (d, 32, 4, [.ref l0, .int (l1 + (I (aRf (aRf l0 0) (Int32.toNatClampNeg l2)) 3)), .int (l2 + 1)], [], I) Q := (e_iload_n rfl rfl).trans ((e_aload_n rfl rfl rfl).trans ((e_getf_r rfl rfl rfl h0).trans ((e_iload_n rfl rfl).trans ((e_aald rfl h1 (by decide) (by decide)).trans (and_congr_right' ((e_getf_i rfl rfl rfl h2).trans ((e_iadd rfl).trans ((e_istore_n rfl (by decide) rfl rfl).trans ((e_iinc (v := 1) rfl rfl (by decide) rfl (by decide) rfl).trans (e_goto rfl rfl))))))))))
theorem b32_30 {d : Nat} {l0 : Nat} {l1 : Int32} {l2 : Int32} {I : IM} {Q : Po} : E (d, 32, 30, [.ref l0, .int l1, .int l2], [], I) Q ↔ Q (.int l1) I := (e_iload_n rfl rfl).trans (e_iret rfl rfl)
/-! 33 TwelveShort$House.fewestThatBring(I)I -/
theorem b33_0 {d : Nat} {l0 : Nat} {l1 : Int32} {l2 : Value} {l3 : Value} {l4 : Value} {l5 : Value} {I : IM} {Q : Po} : E (d, 33, 0, [.ref l0, .int l1, l2, l3, l4, l5], [], I) Q ↔ E (d, 33, 8, [.ref l0, .int l1, .int (-1), .int 11, .int 0, l5], [], I) Q := (e_iconst (v := (-1)) rfl (by decide)).trans ((e_istore_n rfl (by decide) rfl rfl).trans ((e_bipush (v := 11) rfl (by decide)).trans ((e_istore_n rfl (by decide) rfl rfl).trans ((e_iconst (v := 0) rfl (by decide)).trans (e_istore rfl (by decide) rfl rfl)))))
theorem b33_8 {d : Nat} {l0 : Nat} {l1 : Int32} {l2 : Int32} {l3 : Int32} {l4 : Int32} {l5 : Value} {I : IM} {Q : Po} (h0 : aShp l0 = 1) : E (d, 33, 8, [.ref l0, .int l1, .int l2, .int l3, .int l4, l5], [], I) Q ↔ if l4 < (1 <<< ((I l0 2) &&& 31)) then E (d, 33, 19, [.ref l0, .int l1, .int l2, .int l3, .int l4, l5], [], I) Q else E (d, 33, 54, [.ref l0, .int l1, .int l2, .int l3, .int l4, l5], [], I) Q := (e_iload rfl rfl).trans ((e_iconst (v := 1) rfl (by decide)).trans ((e_aload_n rfl rfl rfl).trans ((e_getf_i rfl rfl rfl h0).trans ((e_ishl rfl).trans (e_icmp_ge rfl rfl)))))
theorem b33_19 {d : Nat} {l0 : Nat} {l1 : Int32} {l2 : Int32} {l3 : Int32} {l4 : Int32} {l5 : Value} {I : IM} {Q : Po} : E (d + 1, 33, 19, [.ref l0, .int l1, .int l2, .int l3, .int l4, l5], [], I) Q ↔ E (d, 0, 0, [.int l4], [], I) (fun r I' => E (d + 1, 33, 24, [.ref l0, .int l1, .int l2, .int l3, .int l4, l5], [r], I') Q) := (e_iload rfl rfl).trans (e_cs (as := [.int l4]) rfl rfl rfl rfl rfl rfl ⟨Nat.le_of_ble_eq_true rfl, Nat.le_of_ble_eq_true rfl, rfl⟩)
theorem b33_24 {d : Nat} {l0 : Nat} {l1 : Int32} {l2 : Int32} {l3 : Int32} {l4 : Int32} {l5 : Value} {s0 : Int32} {I : IM} {Q : Po} : E (d, 33, 24, [.ref l0, .int l1, .int l2, .int l3, .int l4, l5], [.int s0], I) Q ↔ if s0 < l3 then E (d, 33, 32, [.ref l0, .int l1, .int l2, .int l3, .int l4, .int s0], [], I) Q else E (d, 33, 48, [.ref l0, .int l1, .int l2, .int l3, .int l4, .int s0], [], I) Q := (e_istore rfl (by decide) rfl rfl).trans ((e_iload rfl rfl).trans ((e_iload_n rfl rfl).trans (e_icmp_ge rfl rfl)))
theorem b33_32 {d : Nat} {l0 : Nat} {l1 : Int32} {l2 : Int32} {l3 : Int32} {l4 : Int32} {l5 : Int32} {I : IM} {Q : Po} (h0 : aShp l0 = 1) : E (d + 1, 33, 32, [.ref l0, .int l1, .int l2, .int l3, .int l4, .int l5], [], I) Q ↔ E (d, 34, 0, [.ref l0, .int l4, UN, UN], [], I) (fun r I' => E (d + 1, 33, 38, [.ref l0, .int l1, .int l2, .int l3, .int l4, .int l5], [r], I') Q) := (e_aload_n rfl rfl rfl).trans ((e_iload rfl rfl).trans (e_cv (as := [.int l4]) rfl rfl rfl rfl ⟨Nat.le_of_ble_eq_true rfl, Nat.le_of_ble_eq_true rfl, rfl⟩ (Or.inl ⟨by decide, h0⟩)))
theorem b33_38 {d : Nat} {l0 : Nat} {l1 : Int32} {l2 : Int32} {l3 : Int32} {l4 : Int32} {l5 : Int32} {s0 : Int32} {I : IM} {Q : Po} : E (d, 33, 38, [.ref l0, .int l1, .int l2, .int l3, .int l4, .int l5], [.int s0], I) Q ↔ if s0 < l1 then E (d, 33, 48, [.ref l0, .int l1, .int l2, .int l3, .int l4, .int l5], [], I) Q else E (d, 33, 42, [.ref l0, .int l1, .int l2, .int l3, .int l4, .int l5], [], I) Q := (e_iload_n rfl rfl).trans (e_icmp_lt rfl rfl)
theorem b33_42 {d : Nat} {l0 : Nat} {l1 : Int32} {l2 : Int32} {l3 : Int32} {l4 : Int32} {l5 : Int32} {I : IM} {Q : Po} : E (d, 33, 42, [.ref l0, .int l1, .int l2, .int l3, .int l4, .int l5], [], I) Q ↔ E (d, 33, 48, [.ref l0, .int l1, .int l4, .int l5, .int l4, .int l5], [], I) Q := (e_iload rfl rfl).trans ((e_istore_n rfl (by decide) rfl rfl).trans ((e_iload rfl rfl).trans (e_istore_n rfl (by decide) rfl rfl)))
theorem b33_48 {d : Nat} {l0 : Nat} {l1 : Int32} {l2 : Int32} {l3 : Int32} {l4 : Int32} {l5 : Int32} {I : IM} {Q : Po} : E (d, 33, 48, [.ref l0, .int l1, .int l2, .int l3, .int l4, .int l5], [], I) Q ↔ E (d, 33, 8, [.ref l0, .int l1, .int l2, .int l3, .int (l4 + 1), .int l5], [], I) Q := (e_iinc (v := 1) rfl rfl (by decide) rfl (by decide) rfl).trans (e_goto rfl rfl)
theorem b33_54 {d : Nat} {l0 : Nat} {l1 : Int32} {l2 : Int32} {l3 : Int32} {l4 : Int32} {l5 : Value} {I : IM} {Q : Po} : E (d, 33, 54, [.ref l0, .int l1, .int l2, .int l3, .int l4, l5], [], I) Q ↔ Q (.int l2) I := (e_iload_n rfl rfl).trans (e_iret rfl rfl)
/-! 34 TwelveShort$House.broughtBy(I)I -/
theorem b34_0 {d : Nat} {l0 : Nat} {l1 : Int32} {l2 : Value} {l3 : Value} {I : IM} {Q : Po} : E (d, 34, 0, [.ref l0, .int l1, l2, l3], [], I) Q ↔ E (d, 34, 4, [.ref l0, .int l1, .int 0, .int 0], [], I) Q := (e_iconst (v := 0) rfl (by decide)).trans ((e_istore_n rfl (by decide) rfl rfl).trans ((e_iconst (v := 0) rfl (by decide)).trans (e_istore_n rfl (by decide) rfl rfl)))
theorem b34_4 {d : Nat} {l0 : Nat} {l1 : Int32} {l2 : Int32} {l3 : Int32} {I : IM} {Q : Po} (h0 : aShp l0 = 1) : E (d, 34, 4, [.ref l0, .int l1, .int l2, .int l3], [], I) Q ↔ if l3 < (I l0 2) then E (d, 34, 12, [.ref l0, .int l1, .int l2, .int l3], [], I) Q else E (d, 34, 39, [.ref l0, .int l1, .int l2, .int l3], [], I) Q := (e_iload_n rfl rfl).trans ((e_aload_n rfl rfl rfl).trans ((e_getf_i rfl rfl rfl h0).trans (e_icmp_ge rfl rfl)))
theorem b34_12 {d : Nat} {l0 : Nat} {l1 : Int32} {l2 : Int32} {l3 : Int32} {I : IM} {Q : Po} : E (d, 34, 12, [.ref l0, .int l1, .int l2, .int l3], [], I) Q ↔ if ((l1 >>> (l3 &&& 31)) &&& 1) = 1 then E (d, 34, 21, [.ref l0, .int l1, .int l2, .int l3], [], I) Q else E (d, 34, 33, [.ref l0, .int l1, .int l2, .int l3], [], I) Q := (e_iload_n rfl rfl).trans ((e_iload_n rfl rfl).trans ((e_ishr rfl).trans ((e_iconst (v := 1) rfl (by decide)).trans ((e_iand rfl).trans ((e_iconst (v := 1) rfl (by decide)).trans (e_icmp_ne rfl rfl))))))
theorem b34_21 {d : Nat} {l0 : Nat} {l1 : Int32} {l2 : Int32} {l3 : Int32} {I : IM} {Q : Po} (h0 : aShp l0 = 1) (h1 : aShp (aRf l0 0) = 21) (h2 : aShp (aRf (aRf l0 0) (Int32.toNatClampNeg l3)) = 0) : E (d + 1, 34, 21, [.ref l0, .int l1, .int l2, .int l3], [], I) Q ↔ vp_in l3 (aLen (aRf l0 0)) ∧ E (d, 17, 0, [.ref (aRf (aRf l0 0) (Int32.toNatClampNeg l3)), UN, UN, UN], [], I) (fun r I' => E (d + 1, 34, 31, [.ref l0, .int l1, .int l2, .int l3], [r, .int l2], I') Q) := (e_iload_n rfl rfl).trans ((e_aload_n rfl rfl rfl).trans ((e_getf_r rfl rfl rfl h0).trans ((e_iload_n rfl rfl).trans ((e_aald rfl h1 (by decide) (by decide)).trans (and_congr_right' (e_cv (as := []) rfl rfl rfl rfl ⟨Nat.le_of_ble_eq_true rfl, Nat.le_of_ble_eq_true rfl, rfl⟩ (Or.inl ⟨by decide, h2⟩)))))))
theorem b34_31 {d : Nat} {l0 : Nat} {l1 : Int32} {l2 : Int32} {l3 : Int32} {s0 : Int32} {s1 : Int32} {I : IM} {Q : Po} : E (d, 34, 31, [.ref l0, .int l1, .int l2, .int l3], [.int s1, .int s0], I) Q ↔ E (d, 34, 33, [.ref l0, .int l1, .int (s0 + s1), .int l3], [], I) Q := (e_iadd rfl).trans (e_istore_n rfl (by decide) rfl rfl)
theorem b34_33 {d : Nat} {l0 : Nat} {l1 : Int32} {l2 : Int32} {l3 : Int32} {I : IM} {Q : Po} : E (d, 34, 33, [.ref l0, .int l1, .int l2, .int l3], [], I) Q ↔ E (d, 34, 4, [.ref l0, .int l1, .int l2, .int (l3 + 1)], [], I) Q := (e_iinc (v := 1) rfl rfl (by decide) rfl (by decide) rfl).trans (e_goto rfl rfl)
theorem b34_39 {d : Nat} {l0 : Nat} {l1 : Int32} {l2 : Int32} {l3 : Int32} {I : IM} {Q : Po} : E (d, 34, 39, [.ref l0, .int l1, .int l2, .int l3], [], I) Q ↔ Q (.int l2) I := (e_iload_n rfl rfl).trans (e_iret rfl rfl)
end
