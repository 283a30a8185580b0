section
-- ===== PART A: goes FIRST, ahead of the names: the tables' words, and 'selects' of the private methods out of them =====
/-- a private method of a class that the tables say can be made, by its rows of tables_1 -/
def lw_okq (q : MethodName × Nat) : Prop := (q.1.cls ≠ "java/lang/invoke/MethodHandle" ∧ q.1.cls ≠ "java/lang/invoke/VarHandle") ∧ Cond.instantiable q.1.cls q.2 ∈ tables_1 ∧ Cond.privateMethod q.1 ∈ tables_1 ∧ Cond.instanceMethod q.1 ∈ tables_1
theorem lw_p0 : lw_okq (⟨"java/lang/Throwable", "fillInStackTrace", "(I)Ljava/lang/Throwable;"⟩, 6) := ⟨⟨by decide +kernel, by decide +kernel⟩, List.mem_of_getElem? (i := 522) (by decide +kernel), List.mem_of_getElem? (i := 520) (by decide +kernel), List.mem_of_getElem? (i := 521) (by decide +kernel)⟩
theorem lw_p1 : lw_okq (⟨"TextAtlas", "feedInt", "(I)V"⟩, 16) := ⟨⟨by decide +kernel, by decide +kernel⟩, List.mem_of_getElem? (i := 36) (by decide +kernel), List.mem_of_getElem? (i := 548) (by decide +kernel), List.mem_of_getElem? (i := 549) (by decide +kernel)⟩
theorem lw_p2 : lw_okq (⟨"TextAtlas", "requireOpen", "()V"⟩, 16) := ⟨⟨by decide +kernel, by decide +kernel⟩, List.mem_of_getElem? (i := 36) (by decide +kernel), List.mem_of_getElem? (i := 587) (by decide +kernel), List.mem_of_getElem? (i := 588) (by decide +kernel)⟩
theorem lw_p3 : lw_okq (⟨"TextAtlas$Reader", "split", "(II)Z"⟩, 6) := ⟨⟨by decide +kernel, by decide +kernel⟩, List.mem_of_getElem? (i := 233) (by decide +kernel), List.mem_of_getElem? (i := 613) (by decide +kernel), List.mem_of_getElem? (i := 614) (by decide +kernel)⟩
theorem lw_p4 : lw_okq (⟨"TextAtlas$Reader", "isPlain", "(I)Z"⟩, 6) := ⟨⟨by decide +kernel, by decide +kernel⟩, List.mem_of_getElem? (i := 233) (by decide +kernel), List.mem_of_getElem? (i := 617) (by decide +kernel), List.mem_of_getElem? (i := 618) (by decide +kernel)⟩
theorem lw_p5 : lw_okq (⟨"TextAtlas$Reader", "commentStart", "(I)I"⟩, 6) := ⟨⟨by decide +kernel, by decide +kernel⟩, List.mem_of_getElem? (i := 233) (by decide +kernel), List.mem_of_getElem? (i := 621) (by decide +kernel), List.mem_of_getElem? (i := 622) (by decide +kernel)⟩
theorem lw_p6 : lw_okq (⟨"TextAtlas$Reader", "trim", "(III)V"⟩, 6) := ⟨⟨by decide +kernel, by decide +kernel⟩, List.mem_of_getElem? (i := 233) (by decide +kernel), List.mem_of_getElem? (i := 625) (by decide +kernel), List.mem_of_getElem? (i := 626) (by decide +kernel)⟩
theorem lw_p7 : lw_okq (⟨"TextAtlas$Reader", "skipBlanks", "(II)I"⟩, 6) := ⟨⟨by decide +kernel, by decide +kernel⟩, List.mem_of_getElem? (i := 233) (by decide +kernel), List.mem_of_getElem? (i := 629) (by decide +kernel), List.mem_of_getElem? (i := 630) (by decide +kernel)⟩
theorem lw_p8 : lw_okq (⟨"TextAtlas$Reader", "isBlank", "(I)Z"⟩, 6) := ⟨⟨by decide +kernel, by decide +kernel⟩, List.mem_of_getElem? (i := 233) (by decide +kernel), List.mem_of_getElem? (i := 633) (by decide +kernel), List.mem_of_getElem? (i := 634) (by decide +kernel)⟩
theorem lw_p9 : lw_okq (⟨"TextAtlas$Reader", "takeFact", "()I"⟩, 6) := ⟨⟨by decide +kernel, by decide +kernel⟩, List.mem_of_getElem? (i := 233) (by decide +kernel), List.mem_of_getElem? (i := 637) (by decide +kernel), List.mem_of_getElem? (i := 638) (by decide +kernel)⟩
theorem lw_p10 : lw_okq (⟨"TextAtlas$Reader", "readCodes", "()Z"⟩, 6) := ⟨⟨by decide +kernel, by decide +kernel⟩, List.mem_of_getElem? (i := 233) (by decide +kernel), List.mem_of_getElem? (i := 643) (by decide +kernel), List.mem_of_getElem? (i := 644) (by decide +kernel)⟩
theorem lw_p11 : lw_okq (⟨"TextAtlas$Reader", "readCode", "(II)I"⟩, 6) := ⟨⟨by decide +kernel, by decide +kernel⟩, List.mem_of_getElem? (i := 233) (by decide +kernel), List.mem_of_getElem? (i := 647) (by decide +kernel), List.mem_of_getElem? (i := 648) (by decide +kernel)⟩
theorem lw_p12 : lw_okq (⟨"TextAtlas$Reader", "readHex", "(II)I"⟩, 6) := ⟨⟨by decide +kernel, by decide +kernel⟩, List.mem_of_getElem? (i := 233) (by decide +kernel), List.mem_of_getElem? (i := 651) (by decide +kernel), List.mem_of_getElem? (i := 652) (by decide +kernel)⟩
theorem lw_p13 : lw_okq (⟨"TextAtlas$Reader", "readCategory", "(LTextAtlas$Fact;)Z"⟩, 6) := ⟨⟨by decide +kernel, by decide +kernel⟩, List.mem_of_getElem? (i := 233) (by decide +kernel), List.mem_of_getElem? (i := 656) (by decide +kernel), List.mem_of_getElem? (i := 657) (by decide +kernel)⟩
theorem lw_p14 : lw_okq (⟨"TextAtlas$Reader", "readClass", "(LTextAtlas$Fact;)Z"⟩, 6) := ⟨⟨by decide +kernel, by decide +kernel⟩, List.mem_of_getElem? (i := 233) (by decide +kernel), List.mem_of_getElem? (i := 660) (by decide +kernel), List.mem_of_getElem? (i := 661) (by decide +kernel)⟩
theorem lw_p15 : lw_okq (⟨"TextAtlas$Reader", "readDecomposition", "(LTextAtlas$Fact;)Z"⟩, 6) := ⟨⟨by decide +kernel, by decide +kernel⟩, List.mem_of_getElem? (i := 233) (by decide +kernel), List.mem_of_getElem? (i := 664) (by decide +kernel), List.mem_of_getElem? (i := 665) (by decide +kernel)⟩
def lw_privs_1 : List (MethodName × Nat) := [(⟨"java/lang/Throwable", "fillInStackTrace", "(I)Ljava/lang/Throwable;"⟩, 6), (⟨"TextAtlas", "feedInt", "(I)V"⟩, 16), (⟨"TextAtlas", "requireOpen", "()V"⟩, 16), (⟨"TextAtlas$Reader", "split", "(II)Z"⟩, 6), (⟨"TextAtlas$Reader", "isPlain", "(I)Z"⟩, 6), (⟨"TextAtlas$Reader", "commentStart", "(I)I"⟩, 6), (⟨"TextAtlas$Reader", "trim", "(III)V"⟩, 6), (⟨"TextAtlas$Reader", "skipBlanks", "(II)I"⟩, 6), (⟨"TextAtlas$Reader", "isBlank", "(I)Z"⟩, 6), (⟨"TextAtlas$Reader", "takeFact", "()I"⟩, 6), (⟨"TextAtlas$Reader", "readCodes", "()Z"⟩, 6), (⟨"TextAtlas$Reader", "readCode", "(II)I"⟩, 6), (⟨"TextAtlas$Reader", "readHex", "(II)I"⟩, 6), (⟨"TextAtlas$Reader", "readCategory", "(LTextAtlas$Fact;)Z"⟩, 6), (⟨"TextAtlas$Reader", "readClass", "(LTextAtlas$Fact;)Z"⟩, 6), (⟨"TextAtlas$Reader", "readDecomposition", "(LTextAtlas$Fact;)Z"⟩, 6)]
theorem lw_r1 : ∀ q ∈ lw_privs_1, lw_okq q := List.forall_mem_cons.mpr ⟨lw_p0, List.forall_mem_cons.mpr ⟨lw_p1, List.forall_mem_cons.mpr ⟨lw_p2, List.forall_mem_cons.mpr ⟨lw_p3, List.forall_mem_cons.mpr ⟨lw_p4, List.forall_mem_cons.mpr ⟨lw_p5, List.forall_mem_cons.mpr ⟨lw_p6, List.forall_mem_cons.mpr ⟨lw_p7, List.forall_mem_cons.mpr ⟨lw_p8, List.forall_mem_cons.mpr ⟨lw_p9, List.forall_mem_cons.mpr ⟨lw_p10, List.forall_mem_cons.mpr ⟨lw_p11, List.forall_mem_cons.mpr ⟨lw_p12, List.forall_mem_cons.mpr ⟨lw_p13, List.forall_mem_cons.mpr ⟨lw_p14, List.forall_mem_cons.mpr ⟨lw_p15, fun _ h => absurd h List.not_mem_nil⟩⟩⟩⟩⟩⟩⟩⟩⟩⟩⟩⟩⟩⟩⟩⟩
theorem lw_p16 : lw_okq (⟨"TextAtlas$Reader", "isEmptyField", "(I)Z"⟩, 6) := ⟨⟨by decide +kernel, by decide +kernel⟩, List.mem_of_getElem? (i := 233) (by decide +kernel), List.mem_of_getElem? (i := 668) (by decide +kernel), List.mem_of_getElem? (i := 669) (by decide +kernel)⟩
theorem lw_p17 : lw_okq (⟨"TextAtlas$Reader", "skipLetters", "(II)I"⟩, 6) := ⟨⟨by decide +kernel, by decide +kernel⟩, List.mem_of_getElem? (i := 233) (by decide +kernel), List.mem_of_getElem? (i := 672) (by decide +kernel), List.mem_of_getElem? (i := 673) (by decide +kernel)⟩
theorem lw_p18 : lw_okq (⟨"TextAtlas$Reader", "readRow", "(III)[I"⟩, 6) := ⟨⟨by decide +kernel, by decide +kernel⟩, List.mem_of_getElem? (i := 233) (by decide +kernel), List.mem_of_getElem? (i := 679) (by decide +kernel), List.mem_of_getElem? (i := 680) (by decide +kernel)⟩
theorem lw_p19 : lw_okq (⟨"TextAtlas$Reader", "countTokens", "(II)I"⟩, 6) := ⟨⟨by decide +kernel, by decide +kernel⟩, List.mem_of_getElem? (i := 233) (by decide +kernel), List.mem_of_getElem? (i := 683) (by decide +kernel), List.mem_of_getElem? (i := 684) (by decide +kernel)⟩
theorem lw_p20 : lw_okq (⟨"TextAtlas$Reader", "skipToken", "(II)I"⟩, 6) := ⟨⟨by decide +kernel, by decide +kernel⟩, List.mem_of_getElem? (i := 233) (by decide +kernel), List.mem_of_getElem? (i := 687) (by decide +kernel), List.mem_of_getElem? (i := 688) (by decide +kernel)⟩
theorem lw_p21 : lw_okq (⟨"TextAtlas$Reader", "isCodeOrNothing", "(I)Z"⟩, 6) := ⟨⟨by decide +kernel, by decide +kernel⟩, List.mem_of_getElem? (i := 233) (by decide +kernel), List.mem_of_getElem? (i := 691) (by decide +kernel), List.mem_of_getElem? (i := 692) (by decide +kernel)⟩
theorem lw_p22 : lw_okq (⟨"TextAtlas$Data", "cutBefore", "(I)I"⟩, 8) := ⟨⟨by decide +kernel, by decide +kernel⟩, List.mem_of_getElem? (i := 71) (by decide +kernel), List.mem_of_getElem? (i := 699) (by decide +kernel), List.mem_of_getElem? (i := 700) (by decide +kernel)⟩
theorem lw_p23 : lw_okq (⟨"TextAtlas$Reader", "takeSpecial", "()I"⟩, 6) := ⟨⟨by decide +kernel, by decide +kernel⟩, List.mem_of_getElem? (i := 233) (by decide +kernel), List.mem_of_getElem? (i := 712) (by decide +kernel), List.mem_of_getElem? (i := 713) (by decide +kernel)⟩
theorem lw_p24 : lw_okq (⟨"TextAtlas$Reader", "readRowOrNothing", "(I)[I"⟩, 6) := ⟨⟨by decide +kernel, by decide +kernel⟩, List.mem_of_getElem? (i := 233) (by decide +kernel), List.mem_of_getElem? (i := 743) (by decide +kernel), List.mem_of_getElem? (i := 744) (by decide +kernel)⟩
theorem lw_p25 : lw_okq (⟨"TextAtlas$Reader", "readConditions", "(II)I"⟩, 6) := ⟨⟨by decide +kernel, by decide +kernel⟩, List.mem_of_getElem? (i := 233) (by decide +kernel), List.mem_of_getElem? (i := 747) (by decide +kernel), List.mem_of_getElem? (i := 748) (by decide +kernel)⟩
theorem lw_p26 : lw_okq (⟨"TextAtlas$Reader", "nameIndex", "(Ljava/lang/String;II)I"⟩, 6) := ⟨⟨by decide +kernel, by decide +kernel⟩, List.mem_of_getElem? (i := 233) (by decide +kernel), List.mem_of_getElem? (i := 752) (by decide +kernel), List.mem_of_getElem? (i := 753) (by decide +kernel)⟩
theorem lw_p27 : lw_okq (⟨"TextAtlas$Reader", "reads", "(Ljava/lang/String;IIII)Z"⟩, 6) := ⟨⟨by decide +kernel, by decide +kernel⟩, List.mem_of_getElem? (i := 233) (by decide +kernel), List.mem_of_getElem? (i := 804) (by decide +kernel), List.mem_of_getElem? (i := 805) (by decide +kernel)⟩
theorem lw_p28 : lw_okq (⟨"TextAtlas$Data", "onlySpanOf", "(I)LTextAtlas$Span;"⟩, 8) := ⟨⟨by decide +kernel, by decide +kernel⟩, List.mem_of_getElem? (i := 71) (by decide +kernel), List.mem_of_getElem? (i := 812) (by decide +kernel), List.mem_of_getElem? (i := 813) (by decide +kernel)⟩
theorem lw_p29 : lw_okq (⟨"TextAtlas$Reader", "takeFold", "()I"⟩, 6) := ⟨⟨by decide +kernel, by decide +kernel⟩, List.mem_of_getElem? (i := 233) (by decide +kernel), List.mem_of_getElem? (i := 816) (by decide +kernel), List.mem_of_getElem? (i := 817) (by decide +kernel)⟩
theorem lw_p30 : lw_okq (⟨"TextAtlas$Reader", "takeProperty", "()I"⟩, 6) := ⟨⟨by decide +kernel, by decide +kernel⟩, List.mem_of_getElem? (i := 233) (by decide +kernel), List.mem_of_getElem? (i := 824) (by decide +kernel), List.mem_of_getElem? (i := 825) (by decide +kernel)⟩
theorem lw_p31 : lw_okq (⟨"TextAtlas$Reader", "startsWith", "(Ljava/lang/String;II)Z"⟩, 6) := ⟨⟨by decide +kernel, by decide +kernel⟩, List.mem_of_getElem? (i := 233) (by decide +kernel), List.mem_of_getElem? (i := 830) (by decide +kernel), List.mem_of_getElem? (i := 831) (by decide +kernel)⟩
def lw_privs_2 : List (MethodName × Nat) := [(⟨"TextAtlas$Reader", "isEmptyField", "(I)Z"⟩, 6), (⟨"TextAtlas$Reader", "skipLetters", "(II)I"⟩, 6), (⟨"TextAtlas$Reader", "readRow", "(III)[I"⟩, 6), (⟨"TextAtlas$Reader", "countTokens", "(II)I"⟩, 6), (⟨"TextAtlas$Reader", "skipToken", "(II)I"⟩, 6), (⟨"TextAtlas$Reader", "isCodeOrNothing", "(I)Z"⟩, 6), (⟨"TextAtlas$Data", "cutBefore", "(I)I"⟩, 8), (⟨"TextAtlas$Reader", "takeSpecial", "()I"⟩, 6), (⟨"TextAtlas$Reader", "readRowOrNothing", "(I)[I"⟩, 6), (⟨"TextAtlas$Reader", "readConditions", "(II)I"⟩, 6), (⟨"TextAtlas$Reader", "nameIndex", "(Ljava/lang/String;II)I"⟩, 6), (⟨"TextAtlas$Reader", "reads", "(Ljava/lang/String;IIII)Z"⟩, 6), (⟨"TextAtlas$Data", "onlySpanOf", "(I)LTextAtlas$Span;"⟩, 8), (⟨"TextAtlas$Reader", "takeFold", "()I"⟩, 6), (⟨"TextAtlas$Reader", "takeProperty", "()I"⟩, 6), (⟨"TextAtlas$Reader", "startsWith", "(Ljava/lang/String;II)Z"⟩, 6)]
theorem lw_r2 : ∀ q ∈ lw_privs_2, lw_okq q := List.forall_mem_cons.mpr ⟨lw_p16, List.forall_mem_cons.mpr ⟨lw_p17, List.forall_mem_cons.mpr ⟨lw_p18, List.forall_mem_cons.mpr ⟨lw_p19, List.forall_mem_cons.mpr ⟨lw_p20, List.forall_mem_cons.mpr ⟨lw_p21, List.forall_mem_cons.mpr ⟨lw_p22, List.forall_mem_cons.mpr ⟨lw_p23, List.forall_mem_cons.mpr ⟨lw_p24, List.forall_mem_cons.mpr ⟨lw_p25, List.forall_mem_cons.mpr ⟨lw_p26, List.forall_mem_cons.mpr ⟨lw_p27, List.forall_mem_cons.mpr ⟨lw_p28, List.forall_mem_cons.mpr ⟨lw_p29, List.forall_mem_cons.mpr ⟨lw_p30, List.forall_mem_cons.mpr ⟨lw_p31, fun _ h => absurd h List.not_mem_nil⟩⟩⟩⟩⟩⟩⟩⟩⟩⟩⟩⟩⟩⟩⟩⟩
theorem lw_p32 : lw_okq (⟨"TextAtlas$Reader", "takeEntry", "()I"⟩, 6) := ⟨⟨by decide +kernel, by decide +kernel⟩, List.mem_of_getElem? (i := 233) (by decide +kernel), List.mem_of_getElem? (i := 845) (by decide +kernel), List.mem_of_getElem? (i := 846) (by decide +kernel)⟩
theorem lw_p33 : lw_okq (⟨"TextAtlas$Reader", "readElements", "(II)[J"⟩, 6) := ⟨⟨by decide +kernel, by decide +kernel⟩, List.mem_of_getElem? (i := 233) (by decide +kernel), List.mem_of_getElem? (i := 849) (by decide +kernel), List.mem_of_getElem? (i := 850) (by decide +kernel)⟩
theorem lw_p34 : lw_okq (⟨"TextAtlas$Reader", "countElements", "(II)I"⟩, 6) := ⟨⟨by decide +kernel, by decide +kernel⟩, List.mem_of_getElem? (i := 233) (by decide +kernel), List.mem_of_getElem? (i := 853) (by decide +kernel), List.mem_of_getElem? (i := 854) (by decide +kernel)⟩
theorem lw_p35 : lw_okq (⟨"TextAtlas$Reader", "readElement", "(I)J"⟩, 6) := ⟨⟨by decide +kernel, by decide +kernel⟩, List.mem_of_getElem? (i := 233) (by decide +kernel), List.mem_of_getElem? (i := 857) (by decide +kernel), List.mem_of_getElem? (i := 858) (by decide +kernel)⟩
theorem lw_p36 : lw_okq (⟨"TextAtlas$Decompositions", "checkShapes", "()Z"⟩, 9) := ⟨⟨by decide +kernel, by decide +kernel⟩, List.mem_of_getElem? (i := 258) (by decide +kernel), List.mem_of_getElem? (i := 915) (by decide +kernel), List.mem_of_getElem? (i := 916) (by decide +kernel)⟩
theorem lw_p37 : lw_okq (⟨"TextAtlas$Decompositions", "expandFrom", "(LTextAtlas$Fact;)Z"⟩, 9) := ⟨⟨by decide +kernel, by decide +kernel⟩, List.mem_of_getElem? (i := 258) (by decide +kernel), List.mem_of_getElem? (i := 924) (by decide +kernel), List.mem_of_getElem? (i := 925) (by decide +kernel)⟩
theorem lw_p38 : lw_okq (⟨"TextAtlas$Decompositions", "enter", "(LTextAtlas$Fact;)Z"⟩, 9) := ⟨⟨by decide +kernel, by decide +kernel⟩, List.mem_of_getElem? (i := 258) (by decide +kernel), List.mem_of_getElem? (i := 928) (by decide +kernel), List.mem_of_getElem? (i := 929) (by decide +kernel)⟩
theorem lw_p39 : lw_okq (⟨"TextAtlas$Decompositions", "close", "(LTextAtlas$Fact;)Z"⟩, 9) := ⟨⟨by decide +kernel, by decide +kernel⟩, List.mem_of_getElem? (i := 258) (by decide +kernel), List.mem_of_getElem? (i := 933) (by decide +kernel), List.mem_of_getElem? (i := 934) (by decide +kernel)⟩
theorem lw_p40 : lw_okq (⟨"TextAtlas$Decompositions", "poolFull", "(IIZ)Z"⟩, 9) := ⟨⟨by decide +kernel, by decide +kernel⟩, List.mem_of_getElem? (i := 258) (by decide +kernel), List.mem_of_getElem? (i := 937) (by decide +kernel), List.mem_of_getElem? (i := 938) (by decide +kernel)⟩
theorem lw_p41 : lw_okq (⟨"TextAtlas$Decompositions", "poolSyllable", "(II)Z"⟩, 9) := ⟨⟨by decide +kernel, by decide +kernel⟩, List.mem_of_getElem? (i := 258) (by decide +kernel), List.mem_of_getElem? (i := 941) (by decide +kernel), List.mem_of_getElem? (i := 942) (by decide +kernel)⟩
theorem lw_p42 : lw_okq (⟨"TextAtlas$Decompositions", "poolPoint", "(II)Z"⟩, 9) := ⟨⟨by decide +kernel, by decide +kernel⟩, List.mem_of_getElem? (i := 258) (by decide +kernel), List.mem_of_getElem? (i := 951) (by decide +kernel), List.mem_of_getElem? (i := 952) (by decide +kernel)⟩
theorem lw_p43 : lw_okq (⟨"TextAtlas$Decompositions", "descend", "(I)Z"⟩, 9) := ⟨⟨by decide +kernel, by decide +kernel⟩, List.mem_of_getElem? (i := 258) (by decide +kernel), List.mem_of_getElem? (i := 959) (by decide +kernel), List.mem_of_getElem? (i := 960) (by decide +kernel)⟩
theorem lw_p44 : lw_okq (⟨"TextAtlas$Decompositions", "gatherPairs", "()Z"⟩, 9) := ⟨⟨by decide +kernel, by decide +kernel⟩, List.mem_of_getElem? (i := 258) (by decide +kernel), List.mem_of_getElem? (i := 963) (by decide +kernel), List.mem_of_getElem? (i := 964) (by decide +kernel)⟩
theorem lw_p45 : lw_okq (⟨"TextAtlas$Decompositions", "isExcluded", "(I)Z"⟩, 9) := ⟨⟨by decide +kernel, by decide +kernel⟩, List.mem_of_getElem? (i := 258) (by decide +kernel), List.mem_of_getElem? (i := 967) (by decide +kernel), List.mem_of_getElem? (i := 968) (by decide +kernel)⟩
theorem lw_p46 : lw_okq (⟨"TextAtlas$Decompositions", "insertPair", "(III)Z"⟩, 9) := ⟨⟨by decide +kernel, by decide +kernel⟩, List.mem_of_getElem? (i := 258) (by decide +kernel), List.mem_of_getElem? (i := 982) (by decide +kernel), List.mem_of_getElem? (i := 983) (by decide +kernel)⟩
theorem lw_p47 : lw_okq (⟨"TextAtlas", "pointsOnTape", "(I)I"⟩, 16) := ⟨⟨by decide +kernel, by decide +kernel⟩, List.mem_of_getElem? (i := 36) (by decide +kernel), List.mem_of_getElem? (i := 1018) (by decide +kernel), List.mem_of_getElem? (i := 1019) (by decide +kernel)⟩
def lw_privs_3 : List (MethodName × Nat) := [(⟨"TextAtlas$Reader", "takeEntry", "()I"⟩, 6), (⟨"TextAtlas$Reader", "readElements", "(II)[J"⟩, 6), (⟨"TextAtlas$Reader", "countElements", "(II)I"⟩, 6), (⟨"TextAtlas$Reader", "readElement", "(I)J"⟩, 6), (⟨"TextAtlas$Decompositions", "checkShapes", "()Z"⟩, 9), (⟨"TextAtlas$Decompositions", "expandFrom", "(LTextAtlas$Fact;)Z"⟩, 9), (⟨"TextAtlas$Decompositions", "enter", "(LTextAtlas$Fact;)Z"⟩, 9), (⟨"TextAtlas$Decompositions", "close", "(LTextAtlas$Fact;)Z"⟩, 9), (⟨"TextAtlas$Decompositions", "poolFull", "(IIZ)Z"⟩, 9), (⟨"TextAtlas$Decompositions", "poolSyllable", "(II)Z"⟩, 9), (⟨"TextAtlas$Decompositions", "poolPoint", "(II)Z"⟩, 9), (⟨"TextAtlas$Decompositions", "descend", "(I)Z"⟩, 9), (⟨"TextAtlas$Decompositions", "gatherPairs", "()Z"⟩, 9), (⟨"TextAtlas$Decompositions", "isExcluded", "(I)Z"⟩, 9), (⟨"TextAtlas$Decompositions", "insertPair", "(III)Z"⟩, 9), (⟨"TextAtlas", "pointsOnTape", "(I)I"⟩, 16)]
theorem lw_r3 : ∀ q ∈ lw_privs_3, lw_okq q := List.forall_mem_cons.mpr ⟨lw_p32, List.forall_mem_cons.mpr ⟨lw_p33, List.forall_mem_cons.mpr ⟨lw_p34, List.forall_mem_cons.mpr ⟨lw_p35, List.forall_mem_cons.mpr ⟨lw_p36, List.forall_mem_cons.mpr ⟨lw_p37, List.forall_mem_cons.mpr ⟨lw_p38, List.forall_mem_cons.mpr ⟨lw_p39, List.forall_mem_cons.mpr ⟨lw_p40, List.forall_mem_cons.mpr ⟨lw_p41, List.forall_mem_cons.mpr ⟨lw_p42, List.forall_mem_cons.mpr ⟨lw_p43, List.forall_mem_cons.mpr ⟨lw_p44, List.forall_mem_cons.mpr ⟨lw_p45, List.forall_mem_cons.mpr ⟨lw_p46, List.forall_mem_cons.mpr ⟨lw_p47, fun _ h => absurd h List.not_mem_nil⟩⟩⟩⟩⟩⟩⟩⟩⟩⟩⟩⟩⟩⟩⟩⟩
theorem lw_p48 : lw_okq (⟨"TextAtlas", "decodeAt", "(II)I"⟩, 16) := ⟨⟨by decide +kernel, by decide +kernel⟩, List.mem_of_getElem? (i := 36) (by decide +kernel), List.mem_of_getElem? (i := 1022) (by decide +kernel), List.mem_of_getElem? (i := 1023) (by decide +kernel)⟩
theorem lw_p49 : lw_okq (⟨"TextAtlas", "readTape", "(LTextAtlas$Text;II)V"⟩, 16) := ⟨⟨by decide +kernel, by decide +kernel⟩, List.mem_of_getElem? (i := 36) (by decide +kernel), List.mem_of_getElem? (i := 1035) (by decide +kernel), List.mem_of_getElem? (i := 1036) (by decide +kernel)⟩
theorem lw_p50 : lw_okq (⟨"TextAtlas", "requireSealed", "()V"⟩, 16) := ⟨⟨by decide +kernel, by decide +kernel⟩, List.mem_of_getElem? (i := 36) (by decide +kernel), List.mem_of_getElem? (i := 1088) (by decide +kernel), List.mem_of_getElem? (i := 1089) (by decide +kernel)⟩
theorem lw_p51 : lw_okq (⟨"TextAtlas$Forms", "expand", "(LTextAtlas$Text;LTextAtlas$Text;I)Z"⟩, 5) := ⟨⟨by decide +kernel, by decide +kernel⟩, List.mem_of_getElem? (i := 295) (by decide +kernel), List.mem_of_getElem? (i := 1096) (by decide +kernel), List.mem_of_getElem? (i := 1097) (by decide +kernel)⟩
theorem lw_p52 : lw_okq (⟨"TextAtlas$Forms", "finish", "(LTextAtlas$Text;I)Z"⟩, 5) := ⟨⟨by decide +kernel, by decide +kernel⟩, List.mem_of_getElem? (i := 295) (by decide +kernel), List.mem_of_getElem? (i := 1112) (by decide +kernel), List.mem_of_getElem? (i := 1113) (by decide +kernel)⟩
theorem lw_p53 : lw_okq (⟨"TextAtlas$Forms", "putInOrder", "(LTextAtlas$Text;)V"⟩, 5) := ⟨⟨by decide +kernel, by decide +kernel⟩, List.mem_of_getElem? (i := 295) (by decide +kernel), List.mem_of_getElem? (i := 1117) (by decide +kernel), List.mem_of_getElem? (i := 1118) (by decide +kernel)⟩
theorem lw_p54 : lw_okq (⟨"TextAtlas$Forms", "sortRun", "([III)V"⟩, 5) := ⟨⟨by decide +kernel, by decide +kernel⟩, List.mem_of_getElem? (i := 295) (by decide +kernel), List.mem_of_getElem? (i := 1121) (by decide +kernel), List.mem_of_getElem? (i := 1122) (by decide +kernel)⟩
theorem lw_p55 : lw_okq (⟨"TextAtlas$Forms", "mergeRuns", "([IIII)V"⟩, 5) := ⟨⟨by decide +kernel, by decide +kernel⟩, List.mem_of_getElem? (i := 295) (by decide +kernel), List.mem_of_getElem? (i := 1128) (by decide +kernel), List.mem_of_getElem? (i := 1129) (by decide +kernel)⟩
theorem lw_p56 : lw_okq (⟨"TextAtlas$Forms", "compose", "(LTextAtlas$Text;)V"⟩, 5) := ⟨⟨by decide +kernel, by decide +kernel⟩, List.mem_of_getElem? (i := 295) (by decide +kernel), List.mem_of_getElem? (i := 1133) (by decide +kernel), List.mem_of_getElem? (i := 1134) (by decide +kernel)⟩
theorem lw_p57 : lw_okq (⟨"TextAtlas$Forms", "lastStarter", "(I)I"⟩, 5) := ⟨⟨by decide +kernel, by decide +kernel⟩, List.mem_of_getElem? (i := 295) (by decide +kernel), List.mem_of_getElem? (i := 1141) (by decide +kernel), List.mem_of_getElem? (i := 1142) (by decide +kernel)⟩
theorem lw_p58 : lw_okq (⟨"TextAtlas$Forms", "highestClass", "(II)I"⟩, 5) := ⟨⟨by decide +kernel, by decide +kernel⟩, List.mem_of_getElem? (i := 295) (by decide +kernel), List.mem_of_getElem? (i := 1145) (by decide +kernel), List.mem_of_getElem? (i := 1146) (by decide +kernel)⟩
theorem lw_p59 : lw_okq (⟨"TextAtlas", "keepMade", "(I)I"⟩, 16) := ⟨⟨by decide +kernel, by decide +kernel⟩, List.mem_of_getElem? (i := 36) (by decide +kernel), List.mem_of_getElem? (i := 1152) (by decide +kernel), List.mem_of_getElem? (i := 1153) (by decide +kernel)⟩
theorem lw_p60 : lw_okq (⟨"TextAtlas$Casing", "load", "(LTextAtlas$Text;I)V"⟩, 10) := ⟨⟨by decide +kernel, by decide +kernel⟩, List.mem_of_getElem? (i := 346) (by decide +kernel), List.mem_of_getElem? (i := 1199) (by decide +kernel), List.mem_of_getElem? (i := 1200) (by decide +kernel)⟩
theorem lw_p61 : lw_okq (⟨"TextAtlas$Breaks", "isAttached", "(I)Z"⟩, 7) := ⟨⟨by decide +kernel, by decide +kernel⟩, List.mem_of_getElem? (i := 317) (by decide +kernel), List.mem_of_getElem? (i := 1211) (by decide +kernel), List.mem_of_getElem? (i := 1212) (by decide +kernel)⟩
theorem lw_p62 : lw_okq (⟨"TextAtlas$Casing", "titleStep", "(I)I"⟩, 10) := ⟨⟨by decide +kernel, by decide +kernel⟩, List.mem_of_getElem? (i := 346) (by decide +kernel), List.mem_of_getElem? (i := 1221) (by decide +kernel), List.mem_of_getElem? (i := 1222) (by decide +kernel)⟩
theorem lw_p63 : lw_okq (⟨"TextAtlas$Breaks", "isWordBoundary", "(I)Z"⟩, 7) := ⟨⟨by decide +kernel, by decide +kernel⟩, List.mem_of_getElem? (i := 317) (by decide +kernel), List.mem_of_getElem? (i := 1229) (by decide +kernel), List.mem_of_getElem? (i := 1230) (by decide +kernel)⟩
def lw_privs_4 : List (MethodName × Nat) := [(⟨"TextAtlas", "decodeAt", "(II)I"⟩, 16), (⟨"TextAtlas", "readTape", "(LTextAtlas$Text;II)V"⟩, 16), (⟨"TextAtlas", "requireSealed", "()V"⟩, 16), (⟨"TextAtlas$Forms", "expand", "(LTextAtlas$Text;LTextAtlas$Text;I)Z"⟩, 5), (⟨"TextAtlas$Forms", "finish", "(LTextAtlas$Text;I)Z"⟩, 5), (⟨"TextAtlas$Forms", "putInOrder", "(LTextAtlas$Text;)V"⟩, 5), (⟨"TextAtlas$Forms", "sortRun", "([III)V"⟩, 5), (⟨"TextAtlas$Forms", "mergeRuns", "([IIII)V"⟩, 5), (⟨"TextAtlas$Forms", "compose", "(LTextAtlas$Text;)V"⟩, 5), (⟨"TextAtlas$Forms", "lastStarter", "(I)I"⟩, 5), (⟨"TextAtlas$Forms", "highestClass", "(II)I"⟩, 5), (⟨"TextAtlas", "keepMade", "(I)I"⟩, 16), (⟨"TextAtlas$Casing", "load", "(LTextAtlas$Text;I)V"⟩, 10), (⟨"TextAtlas$Breaks", "isAttached", "(I)Z"⟩, 7), (⟨"TextAtlas$Casing", "titleStep", "(I)I"⟩, 10), (⟨"TextAtlas$Breaks", "isWordBoundary", "(I)Z"⟩, 7)]
theorem lw_r4 : ∀ q ∈ lw_privs_4, lw_okq q := List.forall_mem_cons.mpr ⟨lw_p48, List.forall_mem_cons.mpr ⟨lw_p49, List.forall_mem_cons.mpr ⟨lw_p50, List.forall_mem_cons.mpr ⟨lw_p51, List.forall_mem_cons.mpr ⟨lw_p52, List.forall_mem_cons.mpr ⟨lw_p53, List.forall_mem_cons.mpr ⟨lw_p54, List.forall_mem_cons.mpr ⟨lw_p55, List.forall_mem_cons.mpr ⟨lw_p56, List.forall_mem_cons.mpr ⟨lw_p57, List.forall_mem_cons.mpr ⟨lw_p58, List.forall_mem_cons.mpr ⟨lw_p59, List.forall_mem_cons.mpr ⟨lw_p60, List.forall_mem_cons.mpr ⟨lw_p61, List.forall_mem_cons.mpr ⟨lw_p62, List.forall_mem_cons.mpr ⟨lw_p63, fun _ h => absurd h List.not_mem_nil⟩⟩⟩⟩⟩⟩⟩⟩⟩⟩⟩⟩⟩⟩⟩⟩
theorem lw_p64 : lw_okq (⟨"TextAtlas$Breaks", "valueBehind", "(I)I"⟩, 7) := ⟨⟨by decide +kernel, by decide +kernel⟩, List.mem_of_getElem? (i := 317) (by decide +kernel), List.mem_of_getElem? (i := 1245) (by decide +kernel), List.mem_of_getElem? (i := 1246) (by decide +kernel)⟩
theorem lw_p65 : lw_okq (⟨"TextAtlas$Breaks", "isGraphemeBoundary", "(I)Z"⟩, 7) := ⟨⟨by decide +kernel, by decide +kernel⟩, List.mem_of_getElem? (i := 317) (by decide +kernel), List.mem_of_getElem? (i := 1249) (by decide +kernel), List.mem_of_getElem? (i := 1250) (by decide +kernel)⟩
theorem lw_p66 : lw_okq (⟨"TextAtlas$Breaks", "isPictureBefore", "(I)Z"⟩, 7) := ⟨⟨by decide +kernel, by decide +kernel⟩, List.mem_of_getElem? (i := 317) (by decide +kernel), List.mem_of_getElem? (i := 1259) (by decide +kernel), List.mem_of_getElem? (i := 1260) (by decide +kernel)⟩
theorem lw_p67 : lw_okq (⟨"TextAtlas$Casing", "appendMapped", "(LTextAtlas$Text;II)Z"⟩, 10) := ⟨⟨by decide +kernel, by decide +kernel⟩, List.mem_of_getElem? (i := 346) (by decide +kernel), List.mem_of_getElem? (i := 1263) (by decide +kernel), List.mem_of_getElem? (i := 1264) (by decide +kernel)⟩
theorem lw_p68 : lw_okq (⟨"TextAtlas$Casing", "specialRow", "(II)[I"⟩, 10) := ⟨⟨by decide +kernel, by decide +kernel⟩, List.mem_of_getElem? (i := 346) (by decide +kernel), List.mem_of_getElem? (i := 1267) (by decide +kernel), List.mem_of_getElem? (i := 1268) (by decide +kernel)⟩
theorem lw_p69 : lw_okq (⟨"TextAtlas$Casing", "allHold", "(II)Z"⟩, 10) := ⟨⟨by decide +kernel, by decide +kernel⟩, List.mem_of_getElem? (i := 346) (by decide +kernel), List.mem_of_getElem? (i := 1275) (by decide +kernel), List.mem_of_getElem? (i := 1276) (by decide +kernel)⟩
theorem lw_p70 : lw_okq (⟨"TextAtlas$Casing", "holds", "(II)Z"⟩, 10) := ⟨⟨by decide +kernel, by decide +kernel⟩, List.mem_of_getElem? (i := 346) (by decide +kernel), List.mem_of_getElem? (i := 1279) (by decide +kernel), List.mem_of_getElem? (i := 1280) (by decide +kernel)⟩
theorem lw_p71 : lw_okq (⟨"TextAtlas$Casing", "casedBefore", "(I)Z"⟩, 10) := ⟨⟨by decide +kernel, by decide +kernel⟩, List.mem_of_getElem? (i := 346) (by decide +kernel), List.mem_of_getElem? (i := 1283) (by decide +kernel), List.mem_of_getElem? (i := 1284) (by decide +kernel)⟩
theorem lw_p72 : lw_okq (⟨"TextAtlas$Casing", "casedBehind", "(I)Z"⟩, 10) := ⟨⟨by decide +kernel, by decide +kernel⟩, List.mem_of_getElem? (i := 346) (by decide +kernel), List.mem_of_getElem? (i := 1287) (by decide +kernel), List.mem_of_getElem? (i := 1288) (by decide +kernel)⟩
theorem lw_p73 : lw_okq (⟨"TextAtlas$Casing", "softDottedBefore", "(I)Z"⟩, 10) := ⟨⟨by decide +kernel, by decide +kernel⟩, List.mem_of_getElem? (i := 346) (by decide +kernel), List.mem_of_getElem? (i := 1291) (by decide +kernel), List.mem_of_getElem? (i := 1292) (by decide +kernel)⟩
theorem lw_p74 : lw_okq (⟨"TextAtlas$Casing", "aboveBehind", "(I)Z"⟩, 10) := ⟨⟨by decide +kernel, by decide +kernel⟩, List.mem_of_getElem? (i := 346) (by decide +kernel), List.mem_of_getElem? (i := 1295) (by decide +kernel), List.mem_of_getElem? (i := 1296) (by decide +kernel)⟩
theorem lw_p75 : lw_okq (⟨"TextAtlas$Casing", "dotBehind", "(I)Z"⟩, 10) := ⟨⟨by decide +kernel, by decide +kernel⟩, List.mem_of_getElem? (i := 346) (by decide +kernel), List.mem_of_getElem? (i := 1299) (by decide +kernel), List.mem_of_getElem? (i := 1300) (by decide +kernel)⟩
theorem lw_p76 : lw_okq (⟨"TextAtlas$Casing", "capitalIBefore", "(I)Z"⟩, 10) := ⟨⟨by decide +kernel, by decide +kernel⟩, List.mem_of_getElem? (i := 346) (by decide +kernel), List.mem_of_getElem? (i := 1303) (by decide +kernel), List.mem_of_getElem? (i := 1304) (by decide +kernel)⟩
theorem lw_p77 : lw_okq (⟨"TextAtlas$Casing", "ownCase", "(II)I"⟩, 10) := ⟨⟨by decide +kernel, by decide +kernel⟩, List.mem_of_getElem? (i := 346) (by decide +kernel), List.mem_of_getElem? (i := 1307) (by decide +kernel), List.mem_of_getElem? (i := 1308) (by decide +kernel)⟩
theorem lw_p78 : lw_okq (⟨"TextAtlas", "foldForMatch", "(LTextAtlas$Text;LTextAtlas$Text;I)Z"⟩, 16) := ⟨⟨by decide +kernel, by decide +kernel⟩, List.mem_of_getElem? (i := 36) (by decide +kernel), List.mem_of_getElem? (i := 1318) (by decide +kernel), List.mem_of_getElem? (i := 1319) (by decide +kernel)⟩
theorem lw_p79 : lw_okq (⟨"TextAtlas", "requirePlace", "(III)V"⟩, 16) := ⟨⟨by decide +kernel, by decide +kernel⟩, List.mem_of_getElem? (i := 36) (by decide +kernel), List.mem_of_getElem? (i := 1329) (by decide +kernel), List.mem_of_getElem? (i := 1330) (by decide +kernel)⟩
def lw_privs_5 : List (MethodName × Nat) := [(⟨"TextAtlas$Breaks", "valueBehind", "(I)I"⟩, 7), (⟨"TextAtlas$Breaks", "isGraphemeBoundary", "(I)Z"⟩, 7), (⟨"TextAtlas$Breaks", "isPictureBefore", "(I)Z"⟩, 7), (⟨"TextAtlas$Casing", "appendMapped", "(LTextAtlas$Text;II)Z"⟩, 10), (⟨"TextAtlas$Casing", "specialRow", "(II)[I"⟩, 10), (⟨"TextAtlas$Casing", "allHold", "(II)Z"⟩, 10), (⟨"TextAtlas$Casing", "holds", "(II)Z"⟩, 10), (⟨"TextAtlas$Casing", "casedBefore", "(I)Z"⟩, 10), (⟨"TextAtlas$Casing", "casedBehind", "(I)Z"⟩, 10), (⟨"TextAtlas$Casing", "softDottedBefore", "(I)Z"⟩, 10), (⟨"TextAtlas$Casing", "aboveBehind", "(I)Z"⟩, 10), (⟨"TextAtlas$Casing", "dotBehind", "(I)Z"⟩, 10), (⟨"TextAtlas$Casing", "capitalIBefore", "(I)Z"⟩, 10), (⟨"TextAtlas$Casing", "ownCase", "(II)I"⟩, 10), (⟨"TextAtlas", "foldForMatch", "(LTextAtlas$Text;LTextAtlas$Text;I)Z"⟩, 16), (⟨"TextAtlas", "requirePlace", "(III)V"⟩, 16)]
theorem lw_r5 : ∀ q ∈ lw_privs_5, lw_okq q := List.forall_mem_cons.mpr ⟨lw_p64, List.forall_mem_cons.mpr ⟨lw_p65, List.forall_mem_cons.mpr ⟨lw_p66, List.forall_mem_cons.mpr ⟨lw_p67, List.forall_mem_cons.mpr ⟨lw_p68, List.forall_mem_cons.mpr ⟨lw_p69, List.forall_mem_cons.mpr ⟨lw_p70, List.forall_mem_cons.mpr ⟨lw_p71, List.forall_mem_cons.mpr ⟨lw_p72, List.forall_mem_cons.mpr ⟨lw_p73, List.forall_mem_cons.mpr ⟨lw_p74, List.forall_mem_cons.mpr ⟨lw_p75, List.forall_mem_cons.mpr ⟨lw_p76, List.forall_mem_cons.mpr ⟨lw_p77, List.forall_mem_cons.mpr ⟨lw_p78, List.forall_mem_cons.mpr ⟨lw_p79, fun _ h => absurd h List.not_mem_nil⟩⟩⟩⟩⟩⟩⟩⟩⟩⟩⟩⟩⟩⟩⟩⟩
theorem lw_p80 : lw_okq (⟨"TextAtlas$Collation", "takeElements", "(I)I"⟩, 8) := ⟨⟨by decide +kernel, by decide +kernel⟩, List.mem_of_getElem? (i := 383) (by decide +kernel), List.mem_of_getElem? (i := 1364) (by decide +kernel), List.mem_of_getElem? (i := 1365) (by decide +kernel)⟩
theorem lw_p81 : lw_okq (⟨"TextAtlas$Collation", "longestEntry", "(I)I"⟩, 8) := ⟨⟨by decide +kernel, by decide +kernel⟩, List.mem_of_getElem? (i := 383) (by decide +kernel), List.mem_of_getElem? (i := 1368) (by decide +kernel), List.mem_of_getElem? (i := 1369) (by decide +kernel)⟩
theorem lw_p82 : lw_okq (⟨"TextAtlas$Collation", "putImplicit", "(I)V"⟩, 8) := ⟨⟨by decide +kernel, by decide +kernel⟩, List.mem_of_getElem? (i := 383) (by decide +kernel), List.mem_of_getElem? (i := 1377) (by decide +kernel), List.mem_of_getElem? (i := 1378) (by decide +kernel)⟩
theorem lw_p83 : lw_okq (⟨"TextAtlas$Collation", "put", "(J)V"⟩, 8) := ⟨⟨by decide +kernel, by decide +kernel⟩, List.mem_of_getElem? (i := 383) (by decide +kernel), List.mem_of_getElem? (i := 1387) (by decide +kernel), List.mem_of_getElem? (i := 1388) (by decide +kernel)⟩
theorem lw_p84 : lw_okq (⟨"TextAtlas$Collation", "shift", "(J)J"⟩, 8) := ⟨⟨by decide +kernel, by decide +kernel⟩, List.mem_of_getElem? (i := 383) (by decide +kernel), List.mem_of_getElem? (i := 1391) (by decide +kernel), List.mem_of_getElem? (i := 1392) (by decide +kernel)⟩
theorem lw_p85 : lw_okq (⟨"TextAtlas$Collation", "longerEntry", "(II)I"⟩, 8) := ⟨⟨by decide +kernel, by decide +kernel⟩, List.mem_of_getElem? (i := 383) (by decide +kernel), List.mem_of_getElem? (i := 1402) (by decide +kernel), List.mem_of_getElem? (i := 1403) (by decide +kernel)⟩
theorem lw_p86 : lw_okq (⟨"TextAtlas$Collation", "closeGap", "(II)V"⟩, 8) := ⟨⟨by decide +kernel, by decide +kernel⟩, List.mem_of_getElem? (i := 383) (by decide +kernel), List.mem_of_getElem? (i := 1407) (by decide +kernel), List.mem_of_getElem? (i := 1408) (by decide +kernel)⟩
theorem lw_p87 : lw_okq (⟨"TextAtlas$Collation", "weight", "(II)J"⟩, 8) := ⟨⟨by decide +kernel, by decide +kernel⟩, List.mem_of_getElem? (i := 383) (by decide +kernel), List.mem_of_getElem? (i := 1419) (by decide +kernel), List.mem_of_getElem? (i := 1420) (by decide +kernel)⟩
theorem lw_p88 : lw_okq (⟨"TextAtlas$Collation", "levelOrder", "(LTextAtlas$Collation;I)I"⟩, 8) := ⟨⟨by decide +kernel, by decide +kernel⟩, List.mem_of_getElem? (i := 383) (by decide +kernel), List.mem_of_getElem? (i := 1441) (by decide +kernel), List.mem_of_getElem? (i := 1442) (by decide +kernel)⟩
theorem lw_p89 : lw_okq (⟨"TextAtlas$Collation", "skipZeros", "(II)I"⟩, 8) := ⟨⟨by decide +kernel, by decide +kernel⟩, List.mem_of_getElem? (i := 383) (by decide +kernel), List.mem_of_getElem? (i := 1445) (by decide +kernel), List.mem_of_getElem? (i := 1446) (by decide +kernel)⟩
theorem lw_p90 : lw_okq (⟨"TextAtlas", "writeUtf8", "(I)V"⟩, 16) := ⟨⟨by decide +kernel, by decide +kernel⟩, List.mem_of_getElem? (i := 36) (by decide +kernel), List.mem_of_getElem? (i := 1476) (by decide +kernel), List.mem_of_getElem? (i := 1477) (by decide +kernel)⟩
theorem lw_p91 : lw_okq (⟨"TextAtlasModel", "fail", "(I)I"⟩, 42) := ⟨⟨by decide +kernel, by decide +kernel⟩, List.mem_of_getElem? (i := 1494) (by decide +kernel), List.mem_of_getElem? (i := 1685) (by decide +kernel), List.mem_of_getElem? (i := 1686) (by decide +kernel)⟩
theorem lw_p92 : lw_okq (⟨"TextAtlasModel", "fields", "(II)V"⟩, 42) := ⟨⟨by decide +kernel, by decide +kernel⟩, List.mem_of_getElem? (i := 1494) (by decide +kernel), List.mem_of_getElem? (i := 1739) (by decide +kernel), List.mem_of_getElem? (i := 1740) (by decide +kernel)⟩
theorem lw_p93 : lw_okq (⟨"TextAtlasModel", "can", "(Z)V"⟩, 42) := ⟨⟨by decide +kernel, by decide +kernel⟩, List.mem_of_getElem? (i := 1494) (by decide +kernel), List.mem_of_getElem? (i := 1743) (by decide +kernel), List.mem_of_getElem? (i := 1744) (by decide +kernel)⟩
theorem lw_p94 : lw_okq (⟨"TextAtlasModel", "blank", "(I)Z"⟩, 42) := ⟨⟨by decide +kernel, by decide +kernel⟩, List.mem_of_getElem? (i := 1494) (by decide +kernel), List.mem_of_getElem? (i := 1748) (by decide +kernel), List.mem_of_getElem? (i := 1749) (by decide +kernel)⟩
theorem lw_p95 : lw_okq (⟨"TextAtlasModel", "points", "(LTextAtlasModel$Line;)V"⟩, 42) := ⟨⟨by decide +kernel, by decide +kernel⟩, List.mem_of_getElem? (i := 1494) (by decide +kernel), List.mem_of_getElem? (i := 1752) (by decide +kernel), List.mem_of_getElem? (i := 1753) (by decide +kernel)⟩
def lw_privs_6 : List (MethodName × Nat) := [(⟨"TextAtlas$Collation", "takeElements", "(I)I"⟩, 8), (⟨"TextAtlas$Collation", "longestEntry", "(I)I"⟩, 8), (⟨"TextAtlas$Collation", "putImplicit", "(I)V"⟩, 8), (⟨"TextAtlas$Collation", "put", "(J)V"⟩, 8), (⟨"TextAtlas$Collation", "shift", "(J)J"⟩, 8), (⟨"TextAtlas$Collation", "longerEntry", "(II)I"⟩, 8), (⟨"TextAtlas$Collation", "closeGap", "(II)V"⟩, 8), (⟨"TextAtlas$Collation", "weight", "(II)J"⟩, 8), (⟨"TextAtlas$Collation", "levelOrder", "(LTextAtlas$Collation;I)I"⟩, 8), (⟨"TextAtlas$Collation", "skipZeros", "(II)I"⟩, 8), (⟨"TextAtlas", "writeUtf8", "(I)V"⟩, 16), (⟨"TextAtlasModel", "fail", "(I)I"⟩, 42), (⟨"TextAtlasModel", "fields", "(II)V"⟩, 42), (⟨"TextAtlasModel", "can", "(Z)V"⟩, 42), (⟨"TextAtlasModel", "blank", "(I)Z"⟩, 42), (⟨"TextAtlasModel", "points", "(LTextAtlasModel$Line;)V"⟩, 42)]
theorem lw_r6 : ∀ q ∈ lw_privs_6, lw_okq q := List.forall_mem_cons.mpr ⟨lw_p80, List.forall_mem_cons.mpr ⟨lw_p81, List.forall_mem_cons.mpr ⟨lw_p82, List.forall_mem_cons.mpr ⟨lw_p83, List.forall_mem_cons.mpr ⟨lw_p84, List.forall_mem_cons.mpr ⟨lw_p85, List.forall_mem_cons.mpr ⟨lw_p86, List.forall_mem_cons.mpr ⟨lw_p87, List.forall_mem_cons.mpr ⟨lw_p88, List.forall_mem_cons.mpr ⟨lw_p89, List.forall_mem_cons.mpr ⟨lw_p90, List.forall_mem_cons.mpr ⟨lw_p91, List.forall_mem_cons.mpr ⟨lw_p92, List.forall_mem_cons.mpr ⟨lw_p93, List.forall_mem_cons.mpr ⟨lw_p94, List.forall_mem_cons.mpr ⟨lw_p95, fun _ h => absurd h List.not_mem_nil⟩⟩⟩⟩⟩⟩⟩⟩⟩⟩⟩⟩⟩⟩⟩⟩
theorem lw_p96 : lw_okq (⟨"TextAtlasModel", "field", "(I)V"⟩, 42) := ⟨⟨by decide +kernel, by decide +kernel⟩, List.mem_of_getElem? (i := 1494) (by decide +kernel), List.mem_of_getElem? (i := 1756) (by decide +kernel), List.mem_of_getElem? (i := 1757) (by decide +kernel)⟩
theorem lw_p97 : lw_okq (⟨"TextAtlasModel", "codes", "(LTextAtlasModel$Line;)V"⟩, 42) := ⟨⟨by decide +kernel, by decide +kernel⟩, List.mem_of_getElem? (i := 1494) (by decide +kernel), List.mem_of_getElem? (i := 1760) (by decide +kernel), List.mem_of_getElem? (i := 1761) (by decide +kernel)⟩
theorem lw_p98 : lw_okq (⟨"TextAtlasModel", "code", "()I"⟩, 42) := ⟨⟨by decide +kernel, by decide +kernel⟩, List.mem_of_getElem? (i := 1494) (by decide +kernel), List.mem_of_getElem? (i := 1764) (by decide +kernel), List.mem_of_getElem? (i := 1765) (by decide +kernel)⟩
theorem lw_p99 : lw_okq (⟨"TextAtlasModel", "hex", "()I"⟩, 42) := ⟨⟨by decide +kernel, by decide +kernel⟩, List.mem_of_getElem? (i := 1494) (by decide +kernel), List.mem_of_getElem? (i := 1768) (by decide +kernel), List.mem_of_getElem? (i := 1769) (by decide +kernel)⟩
theorem lw_p100 : lw_okq (⟨"TextAtlasModel", "peek", "()I"⟩, 42) := ⟨⟨by decide +kernel, by decide +kernel⟩, List.mem_of_getElem? (i := 1494) (by decide +kernel), List.mem_of_getElem? (i := 1772) (by decide +kernel), List.mem_of_getElem? (i := 1773) (by decide +kernel)⟩
theorem lw_p101 : lw_okq (⟨"TextAtlasModel", "end", "()V"⟩, 42) := ⟨⟨by decide +kernel, by decide +kernel⟩, List.mem_of_getElem? (i := 1494) (by decide +kernel), List.mem_of_getElem? (i := 1777) (by decide +kernel), List.mem_of_getElem? (i := 1778) (by decide +kernel)⟩
theorem lw_p102 : lw_okq (⟨"TextAtlasModel", "blanks", "()V"⟩, 42) := ⟨⟨by decide +kernel, by decide +kernel⟩, List.mem_of_getElem? (i := 1494) (by decide +kernel), List.mem_of_getElem? (i := 1781) (by decide +kernel), List.mem_of_getElem? (i := 1782) (by decide +kernel)⟩
theorem lw_p103 : lw_okq (⟨"TextAtlasModel", "row", "(LTextAtlasModel$Line;II)V"⟩, 42) := ⟨⟨by decide +kernel, by decide +kernel⟩, List.mem_of_getElem? (i := 1494) (by decide +kernel), List.mem_of_getElem? (i := 1785) (by decide +kernel), List.mem_of_getElem? (i := 1786) (by decide +kernel)⟩
theorem lw_p104 : lw_okq (⟨"TextAtlasModel", "keep", "(I)V"⟩, 42) := ⟨⟨by decide +kernel, by decide +kernel⟩, List.mem_of_getElem? (i := 1494) (by decide +kernel), List.mem_of_getElem? (i := 1789) (by decide +kernel), List.mem_of_getElem? (i := 1790) (by decide +kernel)⟩
theorem lw_p105 : lw_okq (⟨"TextAtlasModel", "optional", "(I)I"⟩, 42) := ⟨⟨by decide +kernel, by decide +kernel⟩, List.mem_of_getElem? (i := 1494) (by decide +kernel), List.mem_of_getElem? (i := 1793) (by decide +kernel), List.mem_of_getElem? (i := 1794) (by decide +kernel)⟩
theorem lw_p106 : lw_okq (⟨"TextAtlasModel", "cases", "(LTextAtlasModel$Line;)V"⟩, 42) := ⟨⟨by decide +kernel, by decide +kernel⟩, List.mem_of_getElem? (i := 1494) (by decide +kernel), List.mem_of_getElem? (i := 1797) (by decide +kernel), List.mem_of_getElem? (i := 1798) (by decide +kernel)⟩
theorem lw_p107 : lw_okq (⟨"TextAtlasModel", "word", "()Ljava/lang/String;"⟩, 42) := ⟨⟨by decide +kernel, by decide +kernel⟩, List.mem_of_getElem? (i := 1494) (by decide +kernel), List.mem_of_getElem? (i := 1801) (by decide +kernel), List.mem_of_getElem? (i := 1802) (by decide +kernel)⟩
theorem lw_p108 : lw_okq (⟨"TextAtlasModel", "among", "(Ljava/lang/String;I[Ljava/lang/String;)I"⟩, 42) := ⟨⟨by decide +kernel, by decide +kernel⟩, List.mem_of_getElem? (i := 1494) (by decide +kernel), List.mem_of_getElem? (i := 2042) (by decide +kernel), List.mem_of_getElem? (i := 2043) (by decide +kernel)⟩
theorem lw_p109 : lw_okq (⟨"TextAtlasModel", "folding", "(LTextAtlasModel$Line;)V"⟩, 42) := ⟨⟨by decide +kernel, by decide +kernel⟩, List.mem_of_getElem? (i := 1494) (by decide +kernel), List.mem_of_getElem? (i := 2048) (by decide +kernel), List.mem_of_getElem? (i := 2049) (by decide +kernel)⟩
theorem lw_p110 : lw_okq (⟨"TextAtlasModel", "property", "(LTextAtlasModel$Line;)V"⟩, 42) := ⟨⟨by decide +kernel, by decide +kernel⟩, List.mem_of_getElem? (i := 1494) (by decide +kernel), List.mem_of_getElem? (i := 2052) (by decide +kernel), List.mem_of_getElem? (i := 2053) (by decide +kernel)⟩
theorem lw_p111 : lw_okq (⟨"TextAtlasModel", "begins", "(Ljava/lang/String;Ljava/lang/String;)Z"⟩, 42) := ⟨⟨by decide +kernel, by decide +kernel⟩, List.mem_of_getElem? (i := 1494) (by decide +kernel), List.mem_of_getElem? (i := 2057) (by decide +kernel), List.mem_of_getElem? (i := 2058) (by decide +kernel)⟩
def lw_privs_7 : List (MethodName × Nat) := [(⟨"TextAtlasModel", "field", "(I)V"⟩, 42), (⟨"TextAtlasModel", "codes", "(LTextAtlasModel$Line;)V"⟩, 42), (⟨"TextAtlasModel", "code", "()I"⟩, 42), (⟨"TextAtlasModel", "hex", "()I"⟩, 42), (⟨"TextAtlasModel", "peek", "()I"⟩, 42), (⟨"TextAtlasModel", "end", "()V"⟩, 42), (⟨"TextAtlasModel", "blanks", "()V"⟩, 42), (⟨"TextAtlasModel", "row", "(LTextAtlasModel$Line;II)V"⟩, 42), (⟨"TextAtlasModel", "keep", "(I)V"⟩, 42), (⟨"TextAtlasModel", "optional", "(I)I"⟩, 42), (⟨"TextAtlasModel", "cases", "(LTextAtlasModel$Line;)V"⟩, 42), (⟨"TextAtlasModel", "word", "()Ljava/lang/String;"⟩, 42), (⟨"TextAtlasModel", "among", "(Ljava/lang/String;I[Ljava/lang/String;)I"⟩, 42), (⟨"TextAtlasModel", "folding", "(LTextAtlasModel$Line;)V"⟩, 42), (⟨"TextAtlasModel", "property", "(LTextAtlasModel$Line;)V"⟩, 42), (⟨"TextAtlasModel", "begins", "(Ljava/lang/String;Ljava/lang/String;)Z"⟩, 42)]
theorem lw_r7 : ∀ q ∈ lw_privs_7, lw_okq q := List.forall_mem_cons.mpr ⟨lw_p96, List.forall_mem_cons.mpr ⟨lw_p97, List.forall_mem_cons.mpr ⟨lw_p98, List.forall_mem_cons.mpr ⟨lw_p99, List.forall_mem_cons.mpr ⟨lw_p100, List.forall_mem_cons.mpr ⟨lw_p101, List.forall_mem_cons.mpr ⟨lw_p102, List.forall_mem_cons.mpr ⟨lw_p103, List.forall_mem_cons.mpr ⟨lw_p104, List.forall_mem_cons.mpr ⟨lw_p105, List.forall_mem_cons.mpr ⟨lw_p106, List.forall_mem_cons.mpr ⟨lw_p107, List.forall_mem_cons.mpr ⟨lw_p108, List.forall_mem_cons.mpr ⟨lw_p109, List.forall_mem_cons.mpr ⟨lw_p110, List.forall_mem_cons.mpr ⟨lw_p111, fun _ h => absurd h List.not_mem_nil⟩⟩⟩⟩⟩⟩⟩⟩⟩⟩⟩⟩⟩⟩⟩⟩
theorem lw_p112 : lw_okq (⟨"TextAtlasModel", "collation", "(LTextAtlasModel$Line;)V"⟩, 42) := ⟨⟨by decide +kernel, by decide +kernel⟩, List.mem_of_getElem? (i := 1494) (by decide +kernel), List.mem_of_getElem? (i := 2062) (by decide +kernel), List.mem_of_getElem? (i := 2063) (by decide +kernel)⟩
theorem lw_p113 : lw_okq (⟨"TextAtlasModel", "sound", "()Z"⟩, 42) := ⟨⟨by decide +kernel, by decide +kernel⟩, List.mem_of_getElem? (i := 1494) (by decide +kernel), List.mem_of_getElem? (i := 2070) (by decide +kernel), List.mem_of_getElem? (i := 2071) (by decide +kernel)⟩
theorem lw_p114 : lw_okq (⟨"TextAtlasModel", "collect", "()V"⟩, 42) := ⟨⟨by decide +kernel, by decide +kernel⟩, List.mem_of_getElem? (i := 1494) (by decide +kernel), List.mem_of_getElem? (i := 2074) (by decide +kernel), List.mem_of_getElem? (i := 2075) (by decide +kernel)⟩
theorem lw_p115 : lw_okq (⟨"TextAtlasModel", "told", "(I)LTextAtlasModel$Line;"⟩, 42) := ⟨⟨by decide +kernel, by decide +kernel⟩, List.mem_of_getElem? (i := 1494) (by decide +kernel), List.mem_of_getElem? (i := 2078) (by decide +kernel), List.mem_of_getElem? (i := 2079) (by decide +kernel)⟩
theorem lw_p116 : lw_okq (⟨"TextAtlasModel", "hangul", "(I)Z"⟩, 42) := ⟨⟨by decide +kernel, by decide +kernel⟩, List.mem_of_getElem? (i := 1494) (by decide +kernel), List.mem_of_getElem? (i := 2082) (by decide +kernel), List.mem_of_getElem? (i := 2083) (by decide +kernel)⟩
theorem lw_p117 : lw_okq (⟨"TextAtlasModel", "ends", "()Z"⟩, 42) := ⟨⟨by decide +kernel, by decide +kernel⟩, List.mem_of_getElem? (i := 1494) (by decide +kernel), List.mem_of_getElem? (i := 2088) (by decide +kernel), List.mem_of_getElem? (i := 2089) (by decide +kernel)⟩
theorem lw_p118 : lw_okq (⟨"TextAtlasModel", "where", "(I)I"⟩, 42) := ⟨⟨by decide +kernel, by decide +kernel⟩, List.mem_of_getElem? (i := 1494) (by decide +kernel), List.mem_of_getElem? (i := 2092) (by decide +kernel), List.mem_of_getElem? (i := 2093) (by decide +kernel)⟩
theorem lw_p119 : lw_okq (⟨"TextAtlasModel", "full", "(IZ)I"⟩, 42) := ⟨⟨by decide +kernel, by decide +kernel⟩, List.mem_of_getElem? (i := 1494) (by decide +kernel), List.mem_of_getElem? (i := 2096) (by decide +kernel), List.mem_of_getElem? (i := 2097) (by decide +kernel)⟩
theorem lw_p120 : lw_okq (⟨"TextAtlasModel", "push", "(I)V"⟩, 42) := ⟨⟨by decide +kernel, by decide +kernel⟩, List.mem_of_getElem? (i := 1494) (by decide +kernel), List.mem_of_getElem? (i := 2100) (by decide +kernel), List.mem_of_getElem? (i := 2101) (by decide +kernel)⟩
theorem lw_p121 : lw_okq (⟨"TextAtlasModel", "excluded", "(I)Z"⟩, 42) := ⟨⟨by decide +kernel, by decide +kernel⟩, List.mem_of_getElem? (i := 1494) (by decide +kernel), List.mem_of_getElem? (i := 2104) (by decide +kernel), List.mem_of_getElem? (i := 2105) (by decide +kernel)⟩
theorem lw_p122 : lw_okq (⟨"TextAtlasModel", "has", "(II)Z"⟩, 42) := ⟨⟨by decide +kernel, by decide +kernel⟩, List.mem_of_getElem? (i := 1494) (by decide +kernel), List.mem_of_getElem? (i := 2108) (by decide +kernel), List.mem_of_getElem? (i := 2109) (by decide +kernel)⟩
theorem lw_p123 : lw_okq (⟨"TextAtlasModel", "rank", "(I)I"⟩, 42) := ⟨⟨by decide +kernel, by decide +kernel⟩, List.mem_of_getElem? (i := 1494) (by decide +kernel), List.mem_of_getElem? (i := 2112) (by decide +kernel), List.mem_of_getElem? (i := 2113) (by decide +kernel)⟩
theorem lw_p124 : lw_okq (⟨"TextAtlasModel", "hangulPair", "(II)Z"⟩, 42) := ⟨⟨by decide +kernel, by decide +kernel⟩, List.mem_of_getElem? (i := 1494) (by decide +kernel), List.mem_of_getElem? (i := 2116) (by decide +kernel), List.mem_of_getElem? (i := 2117) (by decide +kernel)⟩
theorem lw_p125 : lw_okq (⟨"TextAtlasModel", "composite", "(II)I"⟩, 42) := ⟨⟨by decide +kernel, by decide +kernel⟩, List.mem_of_getElem? (i := 1494) (by decide +kernel), List.mem_of_getElem? (i := 2120) (by decide +kernel), List.mem_of_getElem? (i := 2121) (by decide +kernel)⟩
theorem lw_p126 : lw_okq (⟨"TextAtlasModel", "out", "(I)Z"⟩, 42) := ⟨⟨by decide +kernel, by decide +kernel⟩, List.mem_of_getElem? (i := 1494) (by decide +kernel), List.mem_of_getElem? (i := 2133) (by decide +kernel), List.mem_of_getElem? (i := 2134) (by decide +kernel)⟩
theorem lw_p127 : lw_okq (⟨"TextAtlasModel", "normal", "([III)V"⟩, 42) := ⟨⟨by decide +kernel, by decide +kernel⟩, List.mem_of_getElem? (i := 1494) (by decide +kernel), List.mem_of_getElem? (i := 2137) (by decide +kernel), List.mem_of_getElem? (i := 2138) (by decide +kernel)⟩
def lw_privs_8 : List (MethodName × Nat) := [(⟨"TextAtlasModel", "collation", "(LTextAtlasModel$Line;)V"⟩, 42), (⟨"TextAtlasModel", "sound", "()Z"⟩, 42), (⟨"TextAtlasModel", "collect", "()V"⟩, 42), (⟨"TextAtlasModel", "told", "(I)LTextAtlasModel$Line;"⟩, 42), (⟨"TextAtlasModel", "hangul", "(I)Z"⟩, 42), (⟨"TextAtlasModel", "ends", "()Z"⟩, 42), (⟨"TextAtlasModel", "where", "(I)I"⟩, 42), (⟨"TextAtlasModel", "full", "(IZ)I"⟩, 42), (⟨"TextAtlasModel", "push", "(I)V"⟩, 42), (⟨"TextAtlasModel", "excluded", "(I)Z"⟩, 42), (⟨"TextAtlasModel", "has", "(II)Z"⟩, 42), (⟨"TextAtlasModel", "rank", "(I)I"⟩, 42), (⟨"TextAtlasModel", "hangulPair", "(II)Z"⟩, 42), (⟨"TextAtlasModel", "composite", "(II)I"⟩, 42), (⟨"TextAtlasModel", "out", "(I)Z"⟩, 42), (⟨"TextAtlasModel", "normal", "([III)V"⟩, 42)]
theorem lw_r8 : ∀ q ∈ lw_privs_8, lw_okq q := List.forall_mem_cons.mpr ⟨lw_p112, List.forall_mem_cons.mpr ⟨lw_p113, List.forall_mem_cons.mpr ⟨lw_p114, List.forall_mem_cons.mpr ⟨lw_p115, List.forall_mem_cons.mpr ⟨lw_p116, List.forall_mem_cons.mpr ⟨lw_p117, List.forall_mem_cons.mpr ⟨lw_p118, List.forall_mem_cons.mpr ⟨lw_p119, List.forall_mem_cons.mpr ⟨lw_p120, List.forall_mem_cons.mpr ⟨lw_p121, List.forall_mem_cons.mpr ⟨lw_p122, List.forall_mem_cons.mpr ⟨lw_p123, List.forall_mem_cons.mpr ⟨lw_p124, List.forall_mem_cons.mpr ⟨lw_p125, List.forall_mem_cons.mpr ⟨lw_p126, List.forall_mem_cons.mpr ⟨lw_p127, fun _ h => absurd h List.not_mem_nil⟩⟩⟩⟩⟩⟩⟩⟩⟩⟩⟩⟩⟩⟩⟩⟩
theorem lw_p128 : lw_okq (⟨"TextAtlasModel", "make", "(I)V"⟩, 42) := ⟨⟨by decide +kernel, by decide +kernel⟩, List.mem_of_getElem? (i := 1494) (by decide +kernel), List.mem_of_getElem? (i := 2141) (by decide +kernel), List.mem_of_getElem? (i := 2142) (by decide +kernel)⟩
theorem lw_p129 : lw_okq (⟨"TextAtlasModel", "order", "()V"⟩, 42) := ⟨⟨by decide +kernel, by decide +kernel⟩, List.mem_of_getElem? (i := 1494) (by decide +kernel), List.mem_of_getElem? (i := 2146) (by decide +kernel), List.mem_of_getElem? (i := 2147) (by decide +kernel)⟩
theorem lw_p130 : lw_okq (⟨"TextAtlasModel", "compose", "()V"⟩, 42) := ⟨⟨by decide +kernel, by decide +kernel⟩, List.mem_of_getElem? (i := 1494) (by decide +kernel), List.mem_of_getElem? (i := 2150) (by decide +kernel), List.mem_of_getElem? (i := 2151) (by decide +kernel)⟩
theorem lw_p131 : lw_okq (⟨"TextAtlasModel", "take", "(I)I"⟩, 42) := ⟨⟨by decide +kernel, by decide +kernel⟩, List.mem_of_getElem? (i := 1494) (by decide +kernel), List.mem_of_getElem? (i := 2154) (by decide +kernel), List.mem_of_getElem? (i := 2155) (by decide +kernel)⟩
theorem lw_p132 : lw_okq (⟨"TextAtlasModel", "titles", "([III)V"⟩, 42) := ⟨⟨by decide +kernel, by decide +kernel⟩, List.mem_of_getElem? (i := 1494) (by decide +kernel), List.mem_of_getElem? (i := 2170) (by decide +kernel), List.mem_of_getElem? (i := 2171) (by decide +kernel)⟩
theorem lw_p133 : lw_okq (⟨"TextAtlasModel", "edge", "([IIII)Z"⟩, 42) := ⟨⟨by decide +kernel, by decide +kernel⟩, List.mem_of_getElem? (i := 1494) (by decide +kernel), List.mem_of_getElem? (i := 2174) (by decide +kernel), List.mem_of_getElem? (i := 2175) (by decide +kernel)⟩
theorem lw_p134 : lw_okq (⟨"TextAtlasModel", "cluster", "([II)Z"⟩, 42) := ⟨⟨by decide +kernel, by decide +kernel⟩, List.mem_of_getElem? (i := 1494) (by decide +kernel), List.mem_of_getElem? (i := 2178) (by decide +kernel), List.mem_of_getElem? (i := 2179) (by decide +kernel)⟩
theorem lw_p135 : lw_okq (⟨"TextAtlasModel", "kindOf", "(II)I"⟩, 42) := ⟨⟨by decide +kernel, by decide +kernel⟩, List.mem_of_getElem? (i := 1494) (by decide +kernel), List.mem_of_getElem? (i := 2182) (by decide +kernel), List.mem_of_getElem? (i := 2183) (by decide +kernel)⟩
theorem lw_p136 : lw_okq (⟨"TextAtlasModel", "word", "([III)Z"⟩, 42) := ⟨⟨by decide +kernel, by decide +kernel⟩, List.mem_of_getElem? (i := 1494) (by decide +kernel), List.mem_of_getElem? (i := 2186) (by decide +kernel), List.mem_of_getElem? (i := 2187) (by decide +kernel)⟩
theorem lw_p137 : lw_okq (⟨"TextAtlasModel", "breaks", "(I)Z"⟩, 42) := ⟨⟨by decide +kernel, by decide +kernel⟩, List.mem_of_getElem? (i := 1494) (by decide +kernel), List.mem_of_getElem? (i := 2190) (by decide +kernel), List.mem_of_getElem? (i := 2191) (by decide +kernel)⟩
theorem lw_p138 : lw_okq (⟨"TextAtlasModel", "passed", "(I)Z"⟩, 42) := ⟨⟨by decide +kernel, by decide +kernel⟩, List.mem_of_getElem? (i := 1494) (by decide +kernel), List.mem_of_getElem? (i := 2194) (by decide +kernel), List.mem_of_getElem? (i := 2195) (by decide +kernel)⟩
theorem lw_p139 : lw_okq (⟨"TextAtlasModel", "before", "([II)I"⟩, 42) := ⟨⟨by decide +kernel, by decide +kernel⟩, List.mem_of_getElem? (i := 1494) (by decide +kernel), List.mem_of_getElem? (i := 2198) (by decide +kernel), List.mem_of_getElem? (i := 2199) (by decide +kernel)⟩
theorem lw_p140 : lw_okq (⟨"TextAtlasModel", "counts", "([II)I"⟩, 42) := ⟨⟨by decide +kernel, by decide +kernel⟩, List.mem_of_getElem? (i := 1494) (by decide +kernel), List.mem_of_getElem? (i := 2202) (by decide +kernel), List.mem_of_getElem? (i := 2203) (by decide +kernel)⟩
theorem lw_p141 : lw_okq (⟨"TextAtlasModel", "wordKind", "([III)I"⟩, 42) := ⟨⟨by decide +kernel, by decide +kernel⟩, List.mem_of_getElem? (i := 1494) (by decide +kernel), List.mem_of_getElem? (i := 2206) (by decide +kernel), List.mem_of_getElem? (i := 2207) (by decide +kernel)⟩
theorem lw_p142 : lw_okq (⟨"TextAtlasModel", "after", "([III)I"⟩, 42) := ⟨⟨by decide +kernel, by decide +kernel⟩, List.mem_of_getElem? (i := 1494) (by decide +kernel), List.mem_of_getElem? (i := 2210) (by decide +kernel), List.mem_of_getElem? (i := 2211) (by decide +kernel)⟩
theorem lw_p143 : lw_okq (⟨"TextAtlasModel", "letter", "(I)Z"⟩, 42) := ⟨⟨by decide +kernel, by decide +kernel⟩, List.mem_of_getElem? (i := 1494) (by decide +kernel), List.mem_of_getElem? (i := 2214) (by decide +kernel), List.mem_of_getElem? (i := 2215) (by decide +kernel)⟩
def lw_privs_9 : List (MethodName × Nat) := [(⟨"TextAtlasModel", "make", "(I)V"⟩, 42), (⟨"TextAtlasModel", "order", "()V"⟩, 42), (⟨"TextAtlasModel", "compose", "()V"⟩, 42), (⟨"TextAtlasModel", "take", "(I)I"⟩, 42), (⟨"TextAtlasModel", "titles", "([III)V"⟩, 42), (⟨"TextAtlasModel", "edge", "([IIII)Z"⟩, 42), (⟨"TextAtlasModel", "cluster", "([II)Z"⟩, 42), (⟨"TextAtlasModel", "kindOf", "(II)I"⟩, 42), (⟨"TextAtlasModel", "word", "([III)Z"⟩, 42), (⟨"TextAtlasModel", "breaks", "(I)Z"⟩, 42), (⟨"TextAtlasModel", "passed", "(I)Z"⟩, 42), (⟨"TextAtlasModel", "before", "([II)I"⟩, 42), (⟨"TextAtlasModel", "counts", "([II)I"⟩, 42), (⟨"TextAtlasModel", "wordKind", "([III)I"⟩, 42), (⟨"TextAtlasModel", "after", "([III)I"⟩, 42), (⟨"TextAtlasModel", "letter", "(I)Z"⟩, 42)]
theorem lw_r9 : ∀ q ∈ lw_privs_9, lw_okq q := List.forall_mem_cons.mpr ⟨lw_p128, List.forall_mem_cons.mpr ⟨lw_p129, List.forall_mem_cons.mpr ⟨lw_p130, List.forall_mem_cons.mpr ⟨lw_p131, List.forall_mem_cons.mpr ⟨lw_p132, List.forall_mem_cons.mpr ⟨lw_p133, List.forall_mem_cons.mpr ⟨lw_p134, List.forall_mem_cons.mpr ⟨lw_p135, List.forall_mem_cons.mpr ⟨lw_p136, List.forall_mem_cons.mpr ⟨lw_p137, List.forall_mem_cons.mpr ⟨lw_p138, List.forall_mem_cons.mpr ⟨lw_p139, List.forall_mem_cons.mpr ⟨lw_p140, List.forall_mem_cons.mpr ⟨lw_p141, List.forall_mem_cons.mpr ⟨lw_p142, List.forall_mem_cons.mpr ⟨lw_p143, fun _ h => absurd h List.not_mem_nil⟩⟩⟩⟩⟩⟩⟩⟩⟩⟩⟩⟩⟩⟩⟩⟩
theorem lw_p144 : lw_okq (⟨"TextAtlasModel", "quote", "(I)Z"⟩, 42) := ⟨⟨by decide +kernel, by decide +kernel⟩, List.mem_of_getElem? (i := 1494) (by decide +kernel), List.mem_of_getElem? (i := 2218) (by decide +kernel), List.mem_of_getElem? (i := 2219) (by decide +kernel)⟩
theorem lw_p145 : lw_okq (⟨"TextAtlasModel", "cases", "([IIIII)V"⟩, 42) := ⟨⟨by decide +kernel, by decide +kernel⟩, List.mem_of_getElem? (i := 1494) (by decide +kernel), List.mem_of_getElem? (i := 2222) (by decide +kernel), List.mem_of_getElem? (i := 2223) (by decide +kernel)⟩
theorem lw_p146 : lw_okq (⟨"TextAtlasModel", "holds", "(I[IIII)Z"⟩, 42) := ⟨⟨by decide +kernel, by decide +kernel⟩, List.mem_of_getElem? (i := 1494) (by decide +kernel), List.mem_of_getElem? (i := 2226) (by decide +kernel), List.mem_of_getElem? (i := 2227) (by decide +kernel)⟩
theorem lw_p147 : lw_okq (⟨"TextAtlasModel", "cased", "(I)Z"⟩, 42) := ⟨⟨by decide +kernel, by decide +kernel⟩, List.mem_of_getElem? (i := 1494) (by decide +kernel), List.mem_of_getElem? (i := 2230) (by decide +kernel), List.mem_of_getElem? (i := 2231) (by decide +kernel)⟩
theorem lw_p148 : lw_okq (⟨"TextAtlasModel", "category", "(I)I"⟩, 42) := ⟨⟨by decide +kernel, by decide +kernel⟩, List.mem_of_getElem? (i := 1494) (by decide +kernel), List.mem_of_getElem? (i := 2234) (by decide +kernel), List.mem_of_getElem? (i := 2235) (by decide +kernel)⟩
theorem lw_p149 : lw_okq (⟨"TextAtlasModel", "behind", "([IIII)Z"⟩, 42) := ⟨⟨by decide +kernel, by decide +kernel⟩, List.mem_of_getElem? (i := 1494) (by decide +kernel), List.mem_of_getElem? (i := 2238) (by decide +kernel), List.mem_of_getElem? (i := 2239) (by decide +kernel)⟩
theorem lw_p150 : lw_okq (⟨"TextAtlasModel", "fold", "(II)V"⟩, 42) := ⟨⟨by decide +kernel, by decide +kernel⟩, List.mem_of_getElem? (i := 1494) (by decide +kernel), List.mem_of_getElem? (i := 2242) (by decide +kernel), List.mem_of_getElem? (i := 2243) (by decide +kernel)⟩
theorem lw_p151 : lw_okq (⟨"TextAtlasModel", "folding", "(II)LTextAtlasModel$Line;"⟩, 42) := ⟨⟨by decide +kernel, by decide +kernel⟩, List.mem_of_getElem? (i := 1494) (by decide +kernel), List.mem_of_getElem? (i := 2246) (by decide +kernel), List.mem_of_getElem? (i := 2247) (by decide +kernel)⟩
theorem lw_p152 : lw_okq (⟨"TextAtlasModel", "matched", "(II)V"⟩, 42) := ⟨⟨by decide +kernel, by decide +kernel⟩, List.mem_of_getElem? (i := 1494) (by decide +kernel), List.mem_of_getElem? (i := 2254) (by decide +kernel), List.mem_of_getElem? (i := 2255) (by decide +kernel)⟩
theorem lw_p153 : lw_okq (⟨"TextAtlasModel", "keepMade", "()V"⟩, 42) := ⟨⟨by decide +kernel, by decide +kernel⟩, List.mem_of_getElem? (i := 1494) (by decide +kernel), List.mem_of_getElem? (i := 2258) (by decide +kernel), List.mem_of_getElem? (i := 2259) (by decide +kernel)⟩
theorem lw_p154 : lw_okq (⟨"TextAtlasModel", "foldKept", "()V"⟩, 42) := ⟨⟨by decide +kernel, by decide +kernel⟩, List.mem_of_getElem? (i := 1494) (by decide +kernel), List.mem_of_getElem? (i := 2262) (by decide +kernel), List.mem_of_getElem? (i := 2263) (by decide +kernel)⟩
theorem lw_p155 : lw_okq (⟨"TextAtlasModel", "keyOf", "(IIZ)V"⟩, 42) := ⟨⟨by decide +kernel, by decide +kernel⟩, List.mem_of_getElem? (i := 1494) (by decide +kernel), List.mem_of_getElem? (i := 2278) (by decide +kernel), List.mem_of_getElem? (i := 2279) (by decide +kernel)⟩
theorem lw_p156 : lw_okq (⟨"TextAtlasModel", "elements", "(I)V"⟩, 42) := ⟨⟨by decide +kernel, by decide +kernel⟩, List.mem_of_getElem? (i := 1494) (by decide +kernel), List.mem_of_getElem? (i := 2282) (by decide +kernel), List.mem_of_getElem? (i := 2283) (by decide +kernel)⟩
theorem lw_p157 : lw_okq (⟨"TextAtlasModel", "lineFor", "(I)LTextAtlasModel$Line;"⟩, 42) := ⟨⟨by decide +kernel, by decide +kernel⟩, List.mem_of_getElem? (i := 1494) (by decide +kernel), List.mem_of_getElem? (i := 2286) (by decide +kernel), List.mem_of_getElem? (i := 2287) (by decide +kernel)⟩
theorem lw_p158 : lw_okq (⟨"TextAtlasModel", "implicit", "(I)V"⟩, 42) := ⟨⟨by decide +kernel, by decide +kernel⟩, List.mem_of_getElem? (i := 1494) (by decide +kernel), List.mem_of_getElem? (i := 2290) (by decide +kernel), List.mem_of_getElem? (i := 2291) (by decide +kernel)⟩
theorem lw_p159 : lw_okq (⟨"TextAtlasModel", "element", "(IIII)V"⟩, 42) := ⟨⟨by decide +kernel, by decide +kernel⟩, List.mem_of_getElem? (i := 1494) (by decide +kernel), List.mem_of_getElem? (i := 2297) (by decide +kernel), List.mem_of_getElem? (i := 2298) (by decide +kernel)⟩
def lw_privs_10 : List (MethodName × Nat) := [(⟨"TextAtlasModel", "quote", "(I)Z"⟩, 42), (⟨"TextAtlasModel", "cases", "([IIIII)V"⟩, 42), (⟨"TextAtlasModel", "holds", "(I[IIII)Z"⟩, 42), (⟨"TextAtlasModel", "cased", "(I)Z"⟩, 42), (⟨"TextAtlasModel", "category", "(I)I"⟩, 42), (⟨"TextAtlasModel", "behind", "([IIII)Z"⟩, 42), (⟨"TextAtlasModel", "fold", "(II)V"⟩, 42), (⟨"TextAtlasModel", "folding", "(II)LTextAtlasModel$Line;"⟩, 42), (⟨"TextAtlasModel", "matched", "(II)V"⟩, 42), (⟨"TextAtlasModel", "keepMade", "()V"⟩, 42), (⟨"TextAtlasModel", "foldKept", "()V"⟩, 42), (⟨"TextAtlasModel", "keyOf", "(IIZ)V"⟩, 42), (⟨"TextAtlasModel", "elements", "(I)V"⟩, 42), (⟨"TextAtlasModel", "lineFor", "(I)LTextAtlasModel$Line;"⟩, 42), (⟨"TextAtlasModel", "implicit", "(I)V"⟩, 42), (⟨"TextAtlasModel", "element", "(IIII)V"⟩, 42)]
theorem lw_r10 : ∀ q ∈ lw_privs_10, lw_okq q := List.forall_mem_cons.mpr ⟨lw_p144, List.forall_mem_cons.mpr ⟨lw_p145, List.forall_mem_cons.mpr ⟨lw_p146, List.forall_mem_cons.mpr ⟨lw_p147, List.forall_mem_cons.mpr ⟨lw_p148, List.forall_mem_cons.mpr ⟨lw_p149, List.forall_mem_cons.mpr ⟨lw_p150, List.forall_mem_cons.mpr ⟨lw_p151, List.forall_mem_cons.mpr ⟨lw_p152, List.forall_mem_cons.mpr ⟨lw_p153, List.forall_mem_cons.mpr ⟨lw_p154, List.forall_mem_cons.mpr ⟨lw_p155, List.forall_mem_cons.mpr ⟨lw_p156, List.forall_mem_cons.mpr ⟨lw_p157, List.forall_mem_cons.mpr ⟨lw_p158, List.forall_mem_cons.mpr ⟨lw_p159, fun _ h => absurd h List.not_mem_nil⟩⟩⟩⟩⟩⟩⟩⟩⟩⟩⟩⟩⟩⟩⟩⟩
theorem lw_p160 : lw_okq (⟨"TextAtlasModel", "drop", "(II)V"⟩, 42) := ⟨⟨by decide +kernel, by decide +kernel⟩, List.mem_of_getElem? (i := 1494) (by decide +kernel), List.mem_of_getElem? (i := 2301) (by decide +kernel), List.mem_of_getElem? (i := 2302) (by decide +kernel)⟩
theorem lw_p161 : lw_okq (⟨"TextAtlasModel", "weight", "(I)V"⟩, 42) := ⟨⟨by decide +kernel, by decide +kernel⟩, List.mem_of_getElem? (i := 1494) (by decide +kernel), List.mem_of_getElem? (i := 2307) (by decide +kernel), List.mem_of_getElem? (i := 2308) (by decide +kernel)⟩
theorem lw_p162 : lw_okq (⟨"TextAtlasModel", "follow", "(II)I"⟩, 42) := ⟨⟨by decide +kernel, by decide +kernel⟩, List.mem_of_getElem? (i := 1494) (by decide +kernel), List.mem_of_getElem? (i := 2327) (by decide +kernel), List.mem_of_getElem? (i := 2328) (by decide +kernel)⟩
theorem lw_p163 : lw_okq (⟨"TextAtlasModel", "second", "(I)Z"⟩, 42) := ⟨⟨by decide +kernel, by decide +kernel⟩, List.mem_of_getElem? (i := 1494) (by decide +kernel), List.mem_of_getElem? (i := 2353) (by decide +kernel), List.mem_of_getElem? (i := 2354) (by decide +kernel)⟩
def lw_privs_11 : List (MethodName × Nat) := [(⟨"TextAtlasModel", "drop", "(II)V"⟩, 42), (⟨"TextAtlasModel", "weight", "(I)V"⟩, 42), (⟨"TextAtlasModel", "follow", "(II)I"⟩, 42), (⟨"TextAtlasModel", "second", "(I)Z"⟩, 42)]
theorem lw_r11 : ∀ q ∈ lw_privs_11, lw_okq q := List.forall_mem_cons.mpr ⟨lw_p160, List.forall_mem_cons.mpr ⟨lw_p161, List.forall_mem_cons.mpr ⟨lw_p162, List.forall_mem_cons.mpr ⟨lw_p163, fun _ h => absurd h List.not_mem_nil⟩⟩⟩⟩
def lw_privs : List (MethodName × Nat) := lw_privs_1 ++ (lw_privs_2 ++ (lw_privs_3 ++ (lw_privs_4 ++ (lw_privs_5 ++ (lw_privs_6 ++ (lw_privs_7 ++ (lw_privs_8 ++ (lw_privs_9 ++ (lw_privs_10 ++ (lw_privs_11))))))))))
def lw_tbl : List Cond := k2_sels lw_privs ++ tables_1
theorem lw_privs_ok : ∀ q ∈ lw_privs, lw_okq q := by
  show ∀ q ∈ lw_privs_1 ++ (lw_privs_2 ++ (lw_privs_3 ++ (lw_privs_4 ++ (lw_privs_5 ++ (lw_privs_6 ++ (lw_privs_7 ++ (lw_privs_8 ++ (lw_privs_9 ++ (lw_privs_10 ++ (lw_privs_11)))))))))), lw_okq q
  exact List.forall_mem_append.mpr ⟨lw_r1, List.forall_mem_append.mpr ⟨lw_r2, List.forall_mem_append.mpr ⟨lw_r3, List.forall_mem_append.mpr ⟨lw_r4, List.forall_mem_append.mpr ⟨lw_r5, List.forall_mem_append.mpr ⟨lw_r6, List.forall_mem_append.mpr ⟨lw_r7, List.forall_mem_append.mpr ⟨lw_r8, List.forall_mem_append.mpr ⟨lw_r9, List.forall_mem_append.mpr ⟨lw_r10, lw_r11⟩⟩⟩⟩⟩⟩⟩⟩⟩⟩
end
section
/-! Symbolic runs, part 1: the values. A number is known, or a variable of the script, or any function of the script. -/
abbrev px_X : Type := Nat → Int32
abbrev px_I : Type := Int ⊕ (Nat ⊕ (px_X → Int32))
abbrev px_L : Type := Int ⊕ (Nat ⊕ (px_X → Int64))
abbrev px_V : Type := px_I ⊕ (px_L ⊕ Option Nat)
abbrev px_G : Type := List (Int × Int)
/-- the script's ints (and two numbers beside them), the addresses of what was there before, the first address of what was made since -/
abbrev px_E : Type := px_X × (Nat → Nat) × Nat
def px_i (x : px_X) (a : px_I) : Int32 := match a with
  | .inl n => Int32.ofInt n
  | .inr (.inl i) => x i
  | .inr (.inr f) => f x
def px_l (x : px_X) (a : px_L) : Int64 := match a with
  | .inl n => Int64.ofInt n
  | .inr (.inl i) => (x i).toInt64
  | .inr (.inr f) => f x
def px_ad (E : px_E) (r : Nat) : Nat := if r < 64 then E.2.1 r else E.2.2 + (r - 64)
def px_v (E : px_E) (v : px_V) : Value := match v with
  | .inl a => .int (px_i E.1 a)
  | .inr (.inl a) => .long (px_l E.1 a)
  | .inr (.inr none) => .null
  | .inr (.inr (some r)) => .ref (px_ad E r)
/-- an operation of two ints: known where both are known -/
def px_b2 (op : Int32 → Int32 → Int32) (a b : px_I) : px_I := match a, b with
  | .inl m, .inl n => .inl (op (Int32.ofInt m) (Int32.ofInt n)).toInt
  | a, b => .inr (.inr (fun x => op (px_i x a) (px_i x b)))
def px_b1 (op : Int32 → Int32) (a : px_I) : px_I := match a with
  | .inl m => .inl (op (Int32.ofInt m)).toInt
  | a => .inr (.inr (fun x => op (px_i x a)))
def px_add (a b : px_I) : px_I := match a, b with
  | .inl m, .inl n => .inl (m + n)
  | a, b => .inr (.inr (fun x => px_i x a + px_i x b))
def px_sub (a b : px_I) : px_I := match a, b with
  | .inl m, .inl n => .inl (m - n)
  | a, b => .inr (.inr (fun x => px_i x a - px_i x b))
/-- the script's first int under the mask 31 is the variable 6 -/
def px_and (a b : px_I) : px_I := match a, b with
  | .inl m, .inl n => .inl (Int32.ofInt m &&& Int32.ofInt n).toInt
  | .inr (.inl 0), .inl 31 => .inr (.inl 6)
  | a, b => .inr (.inr (fun x => px_i x a &&& px_i x b))
theorem px_b2_ok (op : Int32 → Int32 → Int32) (x : px_X) (a b : px_I) : px_i x (px_b2 op a b) = op (px_i x a) (px_i x b) := by
  unfold px_b2
  split
  · simp [px_i]
  · rfl
theorem px_b1_ok (op : Int32 → Int32) (x : px_X) (a : px_I) : px_i x (px_b1 op a) = op (px_i x a) := by
  unfold px_b1
  split
  · simp [px_i]
  · rfl
theorem px_add_ok (x : px_X) (a b : px_I) : px_i x (px_add a b) = px_i x a + px_i x b := by
  unfold px_add
  split
  · simp [px_i]
  · rfl
theorem px_sub_ok (x : px_X) (a b : px_I) : px_i x (px_sub a b) = px_i x a - px_i x b := by
  unfold px_sub
  split
  · simp [px_i]
  · rfl
theorem px_and_ok (x : px_X) (h6 : x 6 = x 0 &&& 31) (a b : px_I) : px_i x (px_and a b) = px_i x a &&& px_i x b := by
  unfold px_and
  split
  · simp [px_i]
  · simp [px_i, h6]
  · rfl
/-- tests of numbers, cheap where Lean's kernel runs them -/
def px_ilt (a b : Int) : Bool := match a, b with
  | .ofNat m, .ofNat n => Nat.blt m n
  | .ofNat _, .negSucc _ => false
  | .negSucc _, .ofNat _ => true
  | .negSucc m, .negSucc n => Nat.blt n m
theorem px_ilt_eq (a b : Int) : px_ilt a b = decide (a < b) := by
  cases a with
  | ofNat m => cases b with
    | ofNat n => rw [Bool.eq_iff_iff]; simp only [px_ilt, Int.ofNat_eq_natCast, Nat.blt_eq, decide_eq_true_eq]; omega
    | negSucc n => exact (decide_eq_false (by rw [Int.ofNat_eq_natCast]; omega)).symm
  | negSucc m => cases b with
    | ofNat n => exact (decide_eq_true (by rw [Int.ofNat_eq_natCast]; omega)).symm
    | negSucc n => rw [Bool.eq_iff_iff]; simp only [px_ilt, Int.ofNat_eq_natCast, Nat.blt_eq, decide_eq_true_eq]; omega
def px_ile (a b : Int) : Bool := match px_ilt b a with
  | true => false
  | false => true
theorem px_ile_eq (a b : Int) : px_ile a b = decide (a ≤ b) := by
  unfold px_ile
  rw [px_ilt_eq]
  by_cases h : b < a
  · rw [decide_eq_true h, decide_eq_false (by omega)]
  · rw [decide_eq_false h, decide_eq_true (by omega)]
def px_ieq (a b : Int) : Bool := match a, b with
  | .ofNat m, .ofNat n => Nat.beq m n
  | .negSucc m, .negSucc n => Nat.beq m n
  | _, _ => false
theorem px_ieq_eq (a b : Int) : px_ieq a b = decide (a = b) := by
  cases a with
  | ofNat m => cases b with
    | ofNat n => rw [Bool.eq_iff_iff]; simp only [px_ieq, Int.ofNat_eq_natCast, Nat.beq_eq, decide_eq_true_eq]; omega
    | negSucc n => exact (decide_eq_false (by rw [Int.ofNat_eq_natCast]; omega)).symm
  | negSucc m => cases b with
    | ofNat n => exact (decide_eq_false (by rw [Int.ofNat_eq_natCast]; omega)).symm
    | negSucc n => rw [Bool.eq_iff_iff]; simp only [px_ieq, Int.ofNat_eq_natCast, Nat.beq_eq, decide_eq_true_eq]; omega
/-- the bounds of an int -/
def px_low : Int := -2147483648
def px_hig : Int := 2147483647
def px_inr (n : Int) : Bool := match n with
  | .ofNat m => Nat.ble m 2147483647
  | .negSucc m => Nat.ble m 2147483647
theorem px_inr_eq (n : Int) : px_inr n = (decide (px_low ≤ n) && decide (n ≤ px_hig)) := by
  cases n with
  | ofNat m =>
    have h : px_low ≤ Int.ofNat m := by rw [Int.ofNat_eq_natCast]; unfold px_low; omega
    show Nat.ble m 2147483647 = (decide (px_low ≤ Int.ofNat m) && decide (Int.ofNat m ≤ px_hig))
    rw [decide_eq_true h, Bool.true_and]
    by_cases h2 : Int.ofNat m ≤ px_hig
    · rw [decide_eq_true h2]
      rw [Int.ofNat_eq_natCast] at h2
      unfold px_hig at h2
      exact Nat.ble_eq.mpr (by omega)
    · rw [decide_eq_false h2]
      rw [Int.ofNat_eq_natCast] at h2
      unfold px_hig at h2
      exact Bool.eq_false_iff.mpr (fun q => h2 (by have := Nat.ble_eq.mp q; omega))
  | negSucc m =>
    have h : Int.negSucc m ≤ px_hig := by unfold px_hig; omega
    show Nat.ble m 2147483647 = (decide (px_low ≤ Int.negSucc m) && decide (Int.negSucc m ≤ px_hig))
    rw [decide_eq_true h, Bool.and_true]
    by_cases h2 : px_low ≤ Int.negSucc m
    · rw [decide_eq_true h2]
      unfold px_low at h2
      exact Nat.ble_eq.mpr (by omega)
    · rw [decide_eq_false h2]
      unfold px_low at h2
      exact Bool.eq_false_iff.mpr (fun q => h2 (by have := Nat.ble_eq.mp q; omega))
def px_rg (g : px_G) (a : px_I) : Int × Int := match a with
  | .inl n => bif px_inr n then (n, n) else (px_low, px_hig)
  | .inr (.inl i) => (g[i]?).getD (px_low, px_hig)
  | .inr (.inr _) => (px_low, px_hig)
def px_Gok (x : px_X) (g : px_G) : Prop := ∀ (i : Nat) (q : Int × Int), g[i]? = some q → q.1 ≤ (x i).toInt ∧ (x i).toInt ≤ q.2
theorem px_any (v : Int32) : px_low ≤ v.toInt ∧ v.toInt ≤ px_hig := by
  have h1 := Int32.le_toInt v
  have h2 := Int32.toInt_lt v
  unfold px_low px_hig
  omega
theorem px_ofInt {n : Int} (h1 : px_low ≤ n) (h2 : n ≤ px_hig) : (Int32.ofInt n).toInt = n := by
  unfold px_low px_hig at *
  rw [Int32.toInt_ofInt_of_le] <;> omega
theorem px_rg_ok {x : px_X} {g : px_G} (h : px_Gok x g) (a : px_I) : (px_rg g a).1 ≤ (px_i x a).toInt ∧ (px_i x a).toInt ≤ (px_rg g a).2 := by
  unfold px_rg
  split
  · rename_i n
    rw [px_inr_eq]
    by_cases hn : (decide (px_low ≤ n) && decide (n ≤ px_hig)) = true
    · rw [hn]
      simp only [Bool.and_eq_true, decide_eq_true_eq] at hn
      simp only [cond_true, px_i, px_ofInt hn.1 hn.2]
      exact ⟨Int.le_refl _, Int.le_refl _⟩
    · rw [Bool.eq_false_iff.mpr hn]
      exact px_any _
  · rename_i i
    cases hq : g[i]? with
    | none => simpa using px_any _
    | some q => simpa [px_i] using h i q hq
  · exact px_any _
/-- a variable gets tighter bounds -/
def px_tight (g : px_G) (a : px_I) (lo hi : Int) : px_G := match a with
  | .inr (.inl i) => match g[i]? with
    | some q => g.set i (max q.1 lo, min q.2 hi)
    | none => g
  | _ => g
theorem px_tight_ok {x : px_X} {g : px_G} (h : px_Gok x g) (a : px_I) {lo hi : Int} (h1 : lo ≤ (px_i x a).toInt) (h2 : (px_i x a).toInt ≤ hi) : px_Gok x (px_tight g a lo hi) := by
  unfold px_tight
  split
  · rename_i i
    split
    · rename_i q hq
      intro j r hr
      rw [List.getElem?_set] at hr
      split at hr
      · rename_i hj
        subst hj
        split at hr
        · cases hr
          have h3 := h i q hq
          simp only [px_i] at h1 h2
          exact ⟨by show max q.1 lo ≤ _; omega, by show _ ≤ min q.2 hi; omega⟩
        · cases hr
      · exact h j r hr
    · exact h
  · exact h
/-- a number where the bounds leave but one -/
def px_nrm (g : px_G) (a : px_I) : px_I := match a with
  | .inr (.inl i) => bif px_ieq (px_rg g a).1 (px_rg g a).2 then .inl (px_rg g a).1 else .inr (.inl i)
  | a => a
theorem px_one {x : px_X} {g : px_G} (h : px_Gok x g) (a : px_I) (e : (px_rg g a).1 = (px_rg g a).2) : px_i x a = Int32.ofInt (px_rg g a).1 := by
  have h1 := px_rg_ok h a
  have h2 : (px_i x a).toInt = (px_rg g a).1 := by omega
  rw [← h2, Int32.ofInt_toInt]
theorem px_nrm_ok {x : px_X} {g : px_G} (h : px_Gok x g) (a : px_I) : px_i x (px_nrm g a) = px_i x a := by
  unfold px_nrm
  split
  · rename_i i
    rw [px_ieq_eq]
    by_cases e : (px_rg g (.inr (.inl i))).1 = (px_rg g (.inr (.inl i))).2
    · rw [decide_eq_true e]
      exact (px_one h _ e).symm
    · rw [decide_eq_false e]
      rfl
  · rfl
def px_i2l (g : px_G) (a : px_I) : px_L := match px_nrm g a with
  | .inl n => bif px_inr n then .inl n else .inr (.inr (fun _ => (Int32.ofInt n).toInt64))
  | .inr (.inl i) => .inr (.inl i)
  | .inr (.inr f) => .inr (.inr (fun x => (f x).toInt64))
theorem px_i2l_ok {x : px_X} {g : px_G} (h : px_Gok x g) (a : px_I) : px_l x (px_i2l g a) = (px_i x a).toInt64 := by
  rw [← px_nrm_ok h a]
  unfold px_i2l
  split
  · rename_i n hn
    rw [hn, px_inr_eq]
    by_cases hq : (decide (px_low ≤ n) && decide (n ≤ px_hig)) = true
    · rw [hq]
      simp only [Bool.and_eq_true, decide_eq_true_eq] at hq
      show Int64.ofInt n = (Int32.ofInt n).toInt64
      apply Int64.toInt_inj.mp
      rw [Int32.toInt_toInt64, px_ofInt hq.1 hq.2, Int64.toInt_ofInt_of_le] <;> (unfold px_low px_hig at hq; omega)
    · rw [Bool.eq_false_iff.mpr hq]
      rfl
  · rename_i i hi
    rw [hi]
    rfl
  · rename_i f hf
    rw [hf]
    rfl
end
section
/-! Symbolic runs, part 2: instructions that touch the frame alone. -/
noncomputable def px_find (j : Nat) (l : List (Nat × px_V)) : Option px_V := List.rec none (fun q _ ih => bif Nat.beq q.1 j then some q.2 else ih) l
noncomputable def px_fil {α : Type} (f : α → Bool) (l : List α) : List α := List.rec [] (fun q _ ih => bif f q then q :: ih else ih) l
theorem px_fil_eq {α : Type} (f : α → Bool) (l : List α) : px_fil f l = l.filter f := by
  induction l with
  | nil => rfl
  | cons a r ih =>
    rw [List.filter_cons]
    show (bif f a then a :: px_fil f r else px_fil f r) = _
    rw [ih]
    cases f a <;> rfl
noncomputable def px_isI (v : px_V) : Bool := match v with | .inl _ => true | _ => false
noncomputable def px_lg (v : px_V) : Bool := match v with | .inr (.inl _) => true | _ => false
noncomputable def px_isR (v : px_V) : Bool := match v with | .inr (.inr _) => true | _ => false
noncomputable def px_lc (E : px_E) (L : List (Nat × px_V)) : List (Nat × Value) := L.map (fun q => (q.1, px_v E q.2))
noncomputable def px_sto (L : List (Nat × px_V)) (i : Nat) (v : px_V) : List (Nat × px_V) := (i, v) :: px_fil (fun q => bif Nat.beq q.1 i then false else bif Nat.beq (Nat.succ q.1) i then !(px_lg q.2) else true) L
noncomputable def px_sto2 (L : List (Nat × px_V)) (i : Nat) (v : px_V) : List (Nat × px_V) := (i, v) :: px_fil (fun q => bif Nat.beq q.1 i then false else bif Nat.beq q.1 (Nat.succ i) then false else bif Nat.beq (Nat.succ q.1) i then !(px_lg q.2) else true) L
theorem px_cat (E : px_E) (v : px_V) : ((px_v E v).category == 2) = px_lg v := by
  obtain a | a | a := v
  · rfl
  · rfl
  · cases a <;> rfl
theorem px_cat1 {E : px_E} {v : px_V} (h : px_lg v = false) : (px_v E v).category = 1 := by
  obtain a | a | a := v
  · rfl
  · cases h
  · cases a <;> rfl
theorem px_sto_ok (E : px_E) (L : List (Nat × px_V)) (i : Nat) (v : px_V) : (i, px_v E v) :: (px_lc E L).filter (fun q => !(q.1 == i) && !(q.1 + 1 == i && q.2.category == 2)) = px_lc E (px_sto L i v) := by
  simp only [px_lc, px_sto, List.map_cons, List.filter_map, px_fil_eq]
  congr 2
  apply List.filter_congr
  intro q _
  simp only [Function.comp, px_cat]
  rw [Bool.eq_iff_iff]
  by_cases h1 : q.1 = i
  · simp [h1]
  · have e1 : Nat.beq q.1 i = false := Bool.eq_false_iff.mpr (fun w => h1 (Nat.beq_eq.mp w))
    by_cases h2 : q.1 + 1 = i
    · have e2 : Nat.beq (Nat.succ q.1) i = true := Nat.beq_eq.mpr h2
      simp only [e1, e2, cond_false, cond_true]
      simp [h1, h2]
    · have e2 : Nat.beq (Nat.succ q.1) i = false := Bool.eq_false_iff.mpr (fun w => h2 (Nat.beq_eq.mp w))
      simp only [e1, e2, cond_false]
      simp [h1, h2]
theorem px_sto2_ok (E : px_E) (L : List (Nat × px_V)) (i : Nat) (v : px_V) : (i, px_v E v) :: (px_lc E L).filter (fun q => !(q.1 == i) && (!(q.1 == i + 1) && !(q.1 + 1 == i && q.2.category == 2))) = px_lc E (px_sto2 L i v) := by
  simp only [px_lc, px_sto2, List.map_cons, List.filter_map, px_fil_eq]
  congr 2
  apply List.filter_congr
  intro q _
  simp only [Function.comp, px_cat]
  rw [Bool.eq_iff_iff]
  by_cases h1 : q.1 = i
  · simp [h1]
  · have e1 : Nat.beq q.1 i = false := Bool.eq_false_iff.mpr (fun w => h1 (Nat.beq_eq.mp w))
    by_cases h3 : q.1 = i + 1
    · have e3 : Nat.beq q.1 (Nat.succ i) = true := Nat.beq_eq.mpr h3
      simp only [e1, e3, cond_false, cond_true]
      simp [h3]
    · have e3 : Nat.beq q.1 (Nat.succ i) = false := Bool.eq_false_iff.mpr (fun w => h3 (Nat.beq_eq.mp w))
      by_cases h2 : q.1 + 1 = i
      · have e2 : Nat.beq (Nat.succ q.1) i = true := Nat.beq_eq.mpr h2
        simp only [e1, e2, e3, cond_false, cond_true]
        simp [h1, h2, h3]
      · have e2 : Nat.beq (Nat.succ q.1) i = false := Bool.eq_false_iff.mpr (fun w => h2 (Nat.beq_eq.mp w))
        simp only [e1, e2, e3, cond_false]
        simp [h1, h2, h3]
theorem px_find_mem {j : Nat} {v : px_V} : ∀ {L : List (Nat × px_V)}, px_find j L = some v → (j, v) ∈ L
  | [], h => by cases h
  | q :: r, h => by
    have h' : (bif Nat.beq q.1 j then some q.2 else px_find j r) = some v := h
    cases hq : Nat.beq q.1 j with
    | true =>
      rw [hq] at h'
      have h1 : q.2 = v := Option.some.inj h'
      have h2 := Nat.eq_of_beq_eq_true hq
      rw [← h1, ← h2]
      exact List.mem_cons_self
    | false =>
      rw [hq] at h'
      exact List.mem_cons_of_mem _ (px_find_mem h')
theorem px_find_ok {E : px_E} {ls : Array Slot} {nL j : Nat} {v : px_V} {L : List (Nat × px_V)} (h : lv_has ls nL (px_lc E L)) (hf : px_find j L = some v) : ls[j]? = some (.val (px_v E v)) :=
  h.2.2 (j, px_v E v) (List.mem_map.mpr ⟨(j, v), px_find_mem hf, rfl⟩)
theorem px_find_pos {E : px_E} {j : Nat} {v : px_V} {L : List (Nat × px_V)} (hf : px_find j L = some v) : ∃ k : Nat, (px_lc E L)[k]? = some (j, px_v E v) :=
  List.getElem?_of_mem (List.mem_map.mpr ⟨(j, v), px_find_mem hf, rfl⟩)
noncomputable def px_ld (L : List (Nat × px_V)) (j : Nat) (kind : px_V → Bool) : Option px_V := match px_find j L with
  | some v => bif kind v then some v else none
  | none => none
theorem px_ld_inv {L : List (Nat × px_V)} {j : Nat} {kind : px_V → Bool} {v : px_V} (h : px_ld L j kind = some v) : px_find j L = some v ∧ kind v = true := by
  unfold px_ld at h
  split at h
  · rename_i w hw
    cases hk : kind w with
    | true => rw [hk] at h; simp only [cond_true, Option.some.injEq] at h; subst h; exact ⟨hw, hk⟩
    | false => rw [hk] at h; cases h
  · cases h
noncomputable def px_bin (op : px_I → px_I → px_I) (st : List px_V) : Option (List px_V) := match st with
  | .inl b :: .inl a :: r => some (.inl (op a b) :: r)
  | _ => none
theorem px_bin_inv {op : px_I → px_I → px_I} {st st' : List px_V} (h : px_bin op st = some st') : ∃ a b r, st = .inl b :: .inl a :: r ∧ st' = .inl (op a b) :: r := by
  unfold px_bin at h
  split at h
  · rename_i b a r
    exact ⟨a, b, r, rfl, (Option.some.inj h).symm⟩
  · cases h
noncomputable def px_una (op : px_I → px_I) (st : List px_V) : Option (List px_V) := match st with
  | .inl a :: r => some (.inl (op a) :: r)
  | _ => none
theorem px_una_inv {op : px_I → px_I} {st st' : List px_V} (h : px_una op st = some st') : ∃ a r, st = .inl a :: r ∧ st' = .inl (op a) :: r := by
  unfold px_una at h
  split at h
  · rename_i a r
    exact ⟨a, r, rfl, (Option.some.inj h).symm⟩
  · cases h
noncomputable def px_lcmp (a b : px_L) : px_I := match a, b with
  | .inl m, .inl n => bif decide (-9223372036854775808 ≤ m) && decide (m < 9223372036854775808) && decide (-9223372036854775808 ≤ n) && decide (n < 9223372036854775808) then .inl (bif decide (n < m) then 1 else bif decide (m = n) then 0 else -1) else .inr (.inr (fun x => lg_cmp (px_l x a) (px_l x b)))
  | .inr (.inl i), .inr (.inl j) => bif Nat.beq i j then .inl 0 else .inr (.inr (fun x => lg_cmp (px_l x a) (px_l x b)))
  | a, b => .inr (.inr (fun x => lg_cmp (px_l x a) (px_l x b)))
theorem px_lcmp_ok (x : px_X) (a b : px_L) : px_i x (px_lcmp a b) = lg_cmp (px_l x a) (px_l x b) := by
  unfold px_lcmp
  split
  · rename_i m n
    by_cases hq : (decide (-9223372036854775808 ≤ m) && decide (m < 9223372036854775808) && decide (-9223372036854775808 ≤ n) && decide (n < 9223372036854775808)) = true
    · rw [hq]
      simp only [Bool.and_eq_true, decide_eq_true_eq] at hq
      obtain ⟨⟨⟨h1, h2⟩, h3⟩, h4⟩ := hq
      have em : (Int64.ofInt m).toInt = m := Int64.toInt_ofInt_of_le (by omega) (by omega)
      have en : (Int64.ofInt n).toInt = n := Int64.toInt_ofInt_of_le (by omega) (by omega)
      simp only [cond_true, px_i, px_l, lg_cmp, gt_iff_lt, Int64.lt_iff_toInt_lt, ← Int64.toInt_inj, em, en]
      by_cases c1 : n < m
      · simp [c1]
      · by_cases c2 : m = n
        · simp [c2]
        · simp [c1, c2]
    · rw [Bool.eq_false_iff.mpr hq]
      rfl
  · rename_i i j
    cases hq : Nat.beq i j with
    | true =>
      have := Nat.eq_of_beq_eq_true hq
      subst this
      simp [px_i, px_l, lg_cmp]
    | false => rfl
  · rfl
/-- the length of an instruction -/
noncomputable def px_len (i : Instr) : Nat := match i with
  | .bipush _ | .iload _ | .lload _ | .aload _ | .istore _ | .lstore _ | .astore _ | .newarray _ | .ldc _ => 2
  | .sipush _ | .iinc _ _ | .goto _ | .ifCond _ _ | .if_icmp _ _ | .if_acmp _ _ | .ifnull _ | .ifnonnull _ | .getfield _ | .putfield _ | .getstatic _ | .putstatic _ | .new _ | .anewarray _ | .invokevirtual _ | .invokespecial _ | .invokestatic _ | .ldc_w _ | .ldc2_w _ | .checkcast _ | .instanceof _ => 3
  | .multianewarray _ _ => 4
  | _ => 1
noncomputable def px_pure (i : Instr) (nL : Nat) (g : px_G) (L : List (Nat × px_V)) (st : List px_V) : Option (List (Nat × px_V) × List px_V) := match i with
  | .iconst n => some (L, .inl (.inl n) :: st)
  | .bipush n => some (L, .inl (.inl (Int8.ofInt n).toInt32.toInt) :: st)
  | .sipush n => some (L, .inl (.inl (Int16.ofInt n).toInt32.toInt) :: st)
  | .lconst n => some (L, .inr (.inl (.inl (n.val : Nat))) :: st)
  | .aconst_null => some (L, .inr (.inr none) :: st)
  | .iload_n k => match px_find k L with
    | some (.inl a) => some (L, .inl (px_nrm g a) :: st)
    | _ => none
  | .iload k => match px_find k L with
    | some (.inl a) => some (L, .inl (px_nrm g a) :: st)
    | _ => none
  | .lload_n k => (px_ld L k px_lg).map (fun v => (L, v :: st))
  | .lload k => (px_ld L k px_lg).map (fun v => (L, v :: st))
  | .aload_n k => (px_ld L k px_isR).map (fun v => (L, v :: st))
  | .aload k => (px_ld L k px_isR).map (fun v => (L, v :: st))
  | .istore_n k => match st with
    | .inl a :: r => bif Nat.blt k nL then some (px_sto L k (.inl a), r) else none
    | _ => none
  | .istore k => match st with
    | .inl a :: r => bif Nat.blt k nL then some (px_sto L k (.inl a), r) else none
    | _ => none
  | .astore_n k => match st with
    | .inr (.inr a) :: r => bif Nat.blt k nL then some (px_sto L k (.inr (.inr a)), r) else none
    | _ => none
  | .astore k => match st with
    | .inr (.inr a) :: r => bif Nat.blt k nL then some (px_sto L k (.inr (.inr a)), r) else none
    | _ => none
  | .lstore_n k => match st with
    | .inr (.inl a) :: r => bif Nat.blt (k + 1) nL then some (px_sto2 L k (.inr (.inl a)), r) else none
    | _ => none
  | .lstore k => match st with
    | .inr (.inl a) :: r => bif Nat.blt (k + 1) nL then some (px_sto2 L k (.inr (.inl a)), r) else none
    | _ => none
  | .iinc k n => match px_find k L with
    | some (.inl a) => bif Nat.blt k nL then some (px_sto L k (.inl (px_add a (.inl n))), st) else none
    | _ => none
  | .iadd => (px_bin px_add st).map (fun s => (L, s))
  | .isub => (px_bin px_sub st).map (fun s => (L, s))
  | .imul => (px_bin (px_b2 (· * ·)) st).map (fun s => (L, s))
  | .irem => match st with
    | .inl (.inl n) :: .inl a :: r => bif decide (n = 0) || decide (n < px_low) || decide (px_hig < n) then none else some (L, .inl (px_b2 (fun x y => x - x / y * y) a (.inl n)) :: r)
    | _ => none
  | .iand => (px_bin px_and st).map (fun s => (L, s))
  | .ior => (px_bin (px_b2 (· ||| ·)) st).map (fun s => (L, s))
  | .ixor => (px_bin (px_b2 (· ^^^ ·)) st).map (fun s => (L, s))
  | .ishl => (px_bin (px_b2 (fun x y => x <<< (y &&& 31))) st).map (fun s => (L, s))
  | .ishr => (px_bin (px_b2 (fun x y => x >>> (y &&& 31))) st).map (fun s => (L, s))
  | .iushr => (px_bin (px_b2 (fun x y => (x.toUInt32 >>> (y.toUInt32 &&& Int32.toUInt32 31)).toInt32)) st).map (fun s => (L, s))
  | .i2b => (px_una (px_b1 (fun x => x.toInt8.toInt32)) st).map (fun s => (L, s))
  | .i2c => (px_una (px_b1 (fun x => (x.toUInt32 % 65536).toInt32)) st).map (fun s => (L, s))
  | .ineg => (px_una (px_b1 (fun x => -x)) st).map (fun s => (L, s))
  | .i2l => match st with
    | .inl a :: r => some (L, .inr (.inl (px_i2l g a)) :: r)
    | _ => none
  | .lcmp => match st with
    | .inr (.inl b) :: .inr (.inl a) :: r => some (L, .inl (px_lcmp a b) :: r)
    | _ => none
  | .dup => match st with
    | v :: r => bif px_lg v then none else some (L, v :: v :: r)
    | _ => none
  | .pop => match st with
    | v :: r => bif px_lg v then none else some (L, r)
    | _ => none
  | .dup2 => match st with
    | a :: b :: r => bif px_lg a || px_lg b then none else some (L, a :: b :: a :: b :: r)
    | _ => none
  | .dup_x1 => match st with
    | a :: b :: r => bif px_lg a || px_lg b then none else some (L, a :: b :: a :: r)
    | _ => none
  | _ => none
/-- the same, the instruction first: so the kernel finds the row of an instruction once -/
noncomputable def px_pureB (i : Instr) : Option (Nat → px_G → List (Nat × px_V) → List px_V → Option (List (Nat × px_V) × List px_V)) := match i with
  | .iconst n => some (fun nL g L st => some (L, .inl (.inl n) :: st))
  | .bipush n => some (fun nL g L st => some (L, .inl (.inl (Int8.ofInt n).toInt32.toInt) :: st))
  | .sipush n => some (fun nL g L st => some (L, .inl (.inl (Int16.ofInt n).toInt32.toInt) :: st))
  | .lconst n => some (fun nL g L st => some (L, .inr (.inl (.inl (n.val : Nat))) :: st))
  | .aconst_null => some (fun nL g L st => some (L, .inr (.inr none) :: st))
  | .iload_n k => some (fun nL g L st => match px_find k L with
    | some (.inl a) => some (L, .inl (px_nrm g a) :: st)
    | _ => none)
  | .iload k => some (fun nL g L st => match px_find k L with
    | some (.inl a) => some (L, .inl (px_nrm g a) :: st)
    | _ => none)
  | .lload_n k => some (fun nL g L st => (px_ld L k px_lg).map (fun v => (L, v :: st)))
  | .lload k => some (fun nL g L st => (px_ld L k px_lg).map (fun v => (L, v :: st)))
  | .aload_n k => some (fun nL g L st => (px_ld L k px_isR).map (fun v => (L, v :: st)))
  | .aload k => some (fun nL g L st => (px_ld L k px_isR).map (fun v => (L, v :: st)))
  | .istore_n k => some (fun nL g L st => match st with
    | .inl a :: r => bif Nat.blt k nL then some (px_sto L k (.inl a), r) else none
    | _ => none)
  | .istore k => some (fun nL g L st => match st with
    | .inl a :: r => bif Nat.blt k nL then some (px_sto L k (.inl a), r) else none
    | _ => none)
  | .astore_n k => some (fun nL g L st => match st with
    | .inr (.inr a) :: r => bif Nat.blt k nL then some (px_sto L k (.inr (.inr a)), r) else none
    | _ => none)
  | .astore k => some (fun nL g L st => match st with
    | .inr (.inr a) :: r => bif Nat.blt k nL then some (px_sto L k (.inr (.inr a)), r) else none
    | _ => none)
  | .lstore_n k => some (fun nL g L st => match st with
    | .inr (.inl a) :: r => bif Nat.blt (k + 1) nL then some (px_sto2 L k (.inr (.inl a)), r) else none
    | _ => none)
  | .lstore k => some (fun nL g L st => match st with
    | .inr (.inl a) :: r => bif Nat.blt (k + 1) nL then some (px_sto2 L k (.inr (.inl a)), r) else none
    | _ => none)
  | .iinc k n => some (fun nL g L st => match px_find k L with
    | some (.inl a) => bif Nat.blt k nL then some (px_sto L k (.inl (px_add a (.inl n))), st) else none
    | _ => none)
  | .iadd => some (fun nL g L st => (px_bin px_add st).map (fun s => (L, s)))
  | .isub => some (fun nL g L st => (px_bin px_sub st).map (fun s => (L, s)))
  | .imul => some (fun nL g L st => (px_bin (px_b2 (· * ·)) st).map (fun s => (L, s)))
  | .irem => some (fun nL g L st => match st with
    | .inl (.inl n) :: .inl a :: r => bif decide (n = 0) || decide (n < px_low) || decide (px_hig < n) then none else some (L, .inl (px_b2 (fun x y => x - x / y * y) a (.inl n)) :: r)
    | _ => none)
  | .iand => some (fun nL g L st => (px_bin px_and st).map (fun s => (L, s)))
  | .ior => some (fun nL g L st => (px_bin (px_b2 (· ||| ·)) st).map (fun s => (L, s)))
  | .ixor => some (fun nL g L st => (px_bin (px_b2 (· ^^^ ·)) st).map (fun s => (L, s)))
  | .ishl => some (fun nL g L st => (px_bin (px_b2 (fun x y => x <<< (y &&& 31))) st).map (fun s => (L, s)))
  | .ishr => some (fun nL g L st => (px_bin (px_b2 (fun x y => x >>> (y &&& 31))) st).map (fun s => (L, s)))
  | .iushr => some (fun nL g L st => (px_bin (px_b2 (fun x y => (x.toUInt32 >>> (y.toUInt32 &&& Int32.toUInt32 31)).toInt32)) st).map (fun s => (L, s)))
  | .i2b => some (fun nL g L st => (px_una (px_b1 (fun x => x.toInt8.toInt32)) st).map (fun s => (L, s)))
  | .i2c => some (fun nL g L st => (px_una (px_b1 (fun x => (x.toUInt32 % 65536).toInt32)) st).map (fun s => (L, s)))
  | .ineg => some (fun nL g L st => (px_una (px_b1 (fun x => -x)) st).map (fun s => (L, s)))
  | .i2l => some (fun nL g L st => match st with
    | .inl a :: r => some (L, .inr (.inl (px_i2l g a)) :: r)
    | _ => none)
  | .lcmp => some (fun nL g L st => match st with
    | .inr (.inl b) :: .inr (.inl a) :: r => some (L, .inl (px_lcmp a b) :: r)
    | _ => none)
  | .dup => some (fun nL g L st => match st with
    | v :: r => bif px_lg v then none else some (L, v :: v :: r)
    | _ => none)
  | .pop => some (fun nL g L st => match st with
    | v :: r => bif px_lg v then none else some (L, r)
    | _ => none)
  | .dup2 => some (fun nL g L st => match st with
    | a :: b :: r => bif px_lg a || px_lg b then none else some (L, a :: b :: a :: b :: r)
    | _ => none)
  | .dup_x1 => some (fun nL g L st => match st with
    | a :: b :: r => bif px_lg a || px_lg b then none else some (L, a :: b :: a :: r)
    | _ => none)
  | _ => none
theorem px_pureB_ok (i : Instr) {f : Nat → px_G → List (Nat × px_V) → List px_V → Option (List (Nat × px_V) × List px_V)} (h : px_pureB i = some f) (nL : Nat) (g : px_G) (L : List (Nat × px_V)) (st : List px_V) : f nL g L st = px_pure i nL g L st := by
  cases i <;> first | (cases h; rfl) | (exact absurd h (by simp [px_pureB]))
section PxPure
variable {p : Program} {l : Launch} {e : Env} {R : Room} {s : State} {m : MethodId} {args : Array Value} {below : List Frame} {meth : Method} {c : Code} {H : Heap} {locs : List Loc} {cells slots : Nat} {Q : State → Prop}
variable {cc : ByteArray} {pc nL : Nat} {ls : Array Slot} {E : px_E} {g : px_G} {L L' : List (Nat × px_V)} {st st' : List px_V}
set_option maxHeartbeats 4000000 in
theorem px_pure_ok (hx : p.tables.exec = Jvm.exec) (hb : c.code = cc) {i : Instr} (hd : decode cc pc = .ok (i, px_len i)) (h6 : E.1 6 = E.1 0 &&& 31) (hG : px_Gok E.1 g) (hl : lv_has ls nL (px_lc E L)) (hp : px_pure i nL g L st = some (L', st'))
    (k : ∀ ls' : Array Slot, lv_has ls' nL (px_lc E L') → W p l e R s m args below meth c H locs cells slots Q (F0 m (pc + px_len i) ls' (st'.map (px_v E)))) : W p l e R s m args below meth c H locs cells slots Q (F0 m pc ls (st.map (px_v E))) := by
  cases i
  case iconst n =>
    cases hp
    exact lv_iconst (v := px_i E.1 (.inl n)) hx hb hd rfl (k ls hl)
  case bipush n =>
    cases hp
    exact lv_bipush (v := px_i E.1 (.inl (Int8.ofInt n).toInt32.toInt)) hx hb hd (Int32.ofInt_toInt _).symm (k ls hl)
  case sipush n =>
    cases hp
    exact lv_sipush (v := px_i E.1 (.inl (Int16.ofInt n).toInt32.toInt)) hx hb hd (Int32.ofInt_toInt _).symm (k ls hl)
  case lconst n =>
    cases hp
    exact lv_lconst (v := px_l E.1 (.inl (n.val : Nat))) hx hb hd rfl (k ls hl)
  case aconst_null =>
    cases hp
    exact lv_null hx hb hd (k ls hl)
  case iload_n j =>
    simp only [px_pure] at hp
    split at hp
    · rename_i a hf
      cases hp
      have kk := k ls hl
      simp only [List.map_cons, px_v, px_nrm_ok hG] at kk
      exact lv_iload_n hx hb hd rfl (px_find_ok hl hf) kk
    · cases hp
  case iload j =>
    simp only [px_pure] at hp
    split at hp
    · rename_i a hf
      cases hp
      have kk := k ls hl
      simp only [List.map_cons, px_v, px_nrm_ok hG] at kk
      exact lv_iload hx hb hd (px_find_ok hl hf) kk
    · cases hp
  case lload_n j =>
    obtain ⟨v, hv, hq⟩ := Option.map_eq_some_iff.mp hp
    cases hq
    obtain ⟨hf, hk⟩ := px_ld_inv hv
    obtain a | a | a := v
    · cases hk
    · exact lv_lload_n hx hb hd rfl (px_find_ok hl hf) (k ls hl)
    · cases hk
  case lload j =>
    obtain ⟨v, hv, hq⟩ := Option.map_eq_some_iff.mp hp
    cases hq
    obtain ⟨hf, hk⟩ := px_ld_inv hv
    obtain a | a | a := v
    · cases hk
    · exact lv_lload hx hb hd (px_find_ok hl hf) (k ls hl)
    · cases hk
  case aload_n j =>
    obtain ⟨v, hv, hq⟩ := Option.map_eq_some_iff.mp hp
    cases hq
    obtain ⟨hf, hk⟩ := px_ld_inv hv
    obtain a | a | a := v
    · cases hk
    · cases hk
    · cases a with
      | none => exact lv_aload_nN hx hb hd rfl (px_find_ok hl hf) (k ls hl)
      | some r => exact lv_aload_n hx hb hd rfl (px_find_ok hl hf) (k ls hl)
  case aload j =>
    obtain ⟨v, hv, hq⟩ := Option.map_eq_some_iff.mp hp
    cases hq
    obtain ⟨hf, hk⟩ := px_ld_inv hv
    obtain a | a | a := v
    · cases hk
    · cases hk
    · cases a with
      | none => exact lv_aloadN hx hb hd (px_find_ok hl hf) (k ls hl)
      | some r => exact lv_aload hx hb hd (px_find_ok hl hf) (k ls hl)
  case istore_n j =>
    simp only [px_pure] at hp
    split at hp
    · rename_i a r
      cases hn : Nat.blt j nL with
      | false => rw [hn] at hp; cases hp
      | true =>
        rw [hn] at hp
        cases hp
        exact lv_istore_n hx hb hd rfl hl (Nat.blt_eq.mp hn) (px_sto_ok E L j (.inl a)) k
    · cases hp
  case istore j =>
    simp only [px_pure] at hp
    split at hp
    · rename_i a r
      cases hn : Nat.blt j nL with
      | false => rw [hn] at hp; cases hp
      | true =>
        rw [hn] at hp
        cases hp
        exact lv_istore hx hb hd hl (Nat.blt_eq.mp hn) (px_sto_ok E L j (.inl a)) k
    · cases hp
  case astore_n j =>
    simp only [px_pure] at hp
    split at hp
    · rename_i a r
      cases hn : Nat.blt j nL with
      | false => rw [hn] at hp; cases hp
      | true =>
        rw [hn] at hp
        cases hp
        cases a with
        | none => exact lv_astore_nN hx hb hd rfl hl (Nat.blt_eq.mp hn) (px_sto_ok E L j (.inr (.inr none))) k
        | some a => exact lv_astore_n hx hb hd rfl hl (Nat.blt_eq.mp hn) (px_sto_ok E L j (.inr (.inr (some a)))) k
    · cases hp
  case astore j =>
    simp only [px_pure] at hp
    split at hp
    · rename_i a r
      cases hn : Nat.blt j nL with
      | false => rw [hn] at hp; cases hp
      | true =>
        rw [hn] at hp
        cases hp
        cases a with
        | none => exact lv_astoreN hx hb hd hl (Nat.blt_eq.mp hn) (px_sto_ok E L j (.inr (.inr none))) k
        | some a => exact lv_astore hx hb hd hl (Nat.blt_eq.mp hn) (px_sto_ok E L j (.inr (.inr (some a)))) k
    · cases hp
  case lstore_n j =>
    simp only [px_pure] at hp
    split at hp
    · rename_i a r
      cases hn : Nat.blt (j + 1) nL with
      | false => rw [hn] at hp; cases hp
      | true =>
        rw [hn] at hp
        cases hp
        exact lv_lstore_n hx hb hd rfl hl (Nat.blt_eq.mp hn) (px_sto2_ok E L j (.inr (.inl a))) k
    · cases hp
  case lstore j =>
    simp only [px_pure] at hp
    split at hp
    · rename_i a r
      cases hn : Nat.blt (j + 1) nL with
      | false => rw [hn] at hp; cases hp
      | true =>
        rw [hn] at hp
        cases hp
        exact lv_lstore hx hb hd hl (Nat.blt_eq.mp hn) (px_sto2_ok E L j (.inr (.inl a))) k
    · cases hp
  case iinc j n =>
    simp only [px_pure] at hp
    split at hp
    · rename_i a hf
      cases hn : Nat.blt j nL with
      | false => rw [hn] at hp; cases hp
      | true =>
        rw [hn] at hp
        cases hp
        obtain ⟨kk, hkk⟩ := px_find_pos (E := E) hf
        exact lv_iinc (v := px_i E.1 (px_add a (.inl n))) hx hb hd hl hkk (px_add_ok E.1 a (.inl n)).symm (Nat.blt_eq.mp hn) (px_sto_ok E L j (.inl (px_add a (.inl n)))) k
    · cases hp
  case iadd =>
    obtain ⟨w, hw, hq⟩ := Option.map_eq_some_iff.mp hp
    cases hq
    obtain ⟨a, b, r, rfl, rfl⟩ := px_bin_inv hw
    have kk := k ls hl
    simp only [List.map_cons, px_v, px_add_ok] at kk
    exact lv_iadd hx hb hd kk
  case isub =>
    obtain ⟨w, hw, hq⟩ := Option.map_eq_some_iff.mp hp
    cases hq
    obtain ⟨a, b, r, rfl, rfl⟩ := px_bin_inv hw
    have kk := k ls hl
    simp only [List.map_cons, px_v, px_sub_ok] at kk
    exact lv_isub hx hb hd kk
  case imul =>
    obtain ⟨w, hw, hq⟩ := Option.map_eq_some_iff.mp hp
    cases hq
    obtain ⟨a, b, r, rfl, rfl⟩ := px_bin_inv hw
    have kk := k ls hl
    simp only [List.map_cons, px_v, px_b2_ok] at kk
    exact lv_imul hx hb hd kk
  case irem =>
    simp only [px_pure] at hp
    split at hp
    · rename_i n a r
      cases hn : decide (n = 0) || decide (n < px_low) || decide (px_hig < n) with
      | true => rw [hn] at hp; cases hp
      | false =>
        rw [hn] at hp
        cases hp
        simp only [Bool.or_eq_false_iff, decide_eq_false_iff_not] at hn
        have hz : ¬ px_i E.1 (.inl n) = 0 := fun q => by
          have h1 := congrArg Int32.toInt q
          rw [show (px_i E.1 (.inl n)) = Int32.ofInt n from rfl, px_ofInt (by omega) (by omega)] at h1
          exact hn.1.1 h1
        have kk := k ls hl
        simp only [List.map_cons, px_v, px_b2_ok] at kk
        exact lv_irem hx hb hd hz kk
    · cases hp
  case iand =>
    obtain ⟨w, hw, hq⟩ := Option.map_eq_some_iff.mp hp
    cases hq
    obtain ⟨a, b, r, rfl, rfl⟩ := px_bin_inv hw
    have kk := k ls hl
    simp only [List.map_cons, px_v, px_and_ok E.1 h6] at kk
    exact lv_iand hx hb hd kk
  case ior =>
    obtain ⟨w, hw, hq⟩ := Option.map_eq_some_iff.mp hp
    cases hq
    obtain ⟨a, b, r, rfl, rfl⟩ := px_bin_inv hw
    have kk := k ls hl
    simp only [List.map_cons, px_v, px_b2_ok] at kk
    exact lv_ior hx hb hd kk
  case ixor =>
    obtain ⟨w, hw, hq⟩ := Option.map_eq_some_iff.mp hp
    cases hq
    obtain ⟨a, b, r, rfl, rfl⟩ := px_bin_inv hw
    have kk := k ls hl
    simp only [List.map_cons, px_v, px_b2_ok] at kk
    exact lv_ixor hx hb hd kk
  case ishl =>
    obtain ⟨w, hw, hq⟩ := Option.map_eq_some_iff.mp hp
    cases hq
    obtain ⟨a, b, r, rfl, rfl⟩ := px_bin_inv hw
    have kk := k ls hl
    simp only [List.map_cons, px_v, px_b2_ok] at kk
    exact lv_ishl hx hb hd kk
  case ishr =>
    obtain ⟨w, hw, hq⟩ := Option.map_eq_some_iff.mp hp
    cases hq
    obtain ⟨a, b, r, rfl, rfl⟩ := px_bin_inv hw
    have kk := k ls hl
    simp only [List.map_cons, px_v, px_b2_ok] at kk
    exact lv_ishr hx hb hd kk
  case iushr =>
    obtain ⟨w, hw, hq⟩ := Option.map_eq_some_iff.mp hp
    cases hq
    obtain ⟨a, b, r, rfl, rfl⟩ := px_bin_inv hw
    have kk := k ls hl
    simp only [List.map_cons, px_v, px_b2_ok] at kk
    exact lv_iushr hx hb hd rfl kk
  case i2b =>
    obtain ⟨w, hw, hq⟩ := Option.map_eq_some_iff.mp hp
    cases hq
    obtain ⟨a, r, rfl, rfl⟩ := px_una_inv hw
    have kk := k ls hl
    simp only [List.map_cons, px_v, px_b1_ok] at kk
    exact lv_i2b hx hb hd rfl kk
  case i2c =>
    obtain ⟨w, hw, hq⟩ := Option.map_eq_some_iff.mp hp
    cases hq
    obtain ⟨a, r, rfl, rfl⟩ := px_una_inv hw
    have kk := k ls hl
    simp only [List.map_cons, px_v, px_b1_ok] at kk
    exact lv_i2c hx hb hd rfl kk
  case ineg =>
    obtain ⟨w, hw, hq⟩ := Option.map_eq_some_iff.mp hp
    cases hq
    obtain ⟨a, r, rfl, rfl⟩ := px_una_inv hw
    have kk := k ls hl
    simp only [List.map_cons, px_v, px_b1_ok] at kk
    exact lv_ineg hx hb hd kk
  case i2l =>
    simp only [px_pure] at hp
    split at hp
    · rename_i a r
      cases hp
      exact lv_i2l hx hb hd (px_i2l_ok hG a).symm (k ls hl)
    · cases hp
  case lcmp =>
    simp only [px_pure] at hp
    split at hp
    · rename_i b a r
      cases hp
      have kk := k ls hl
      simp only [List.map_cons, px_v, px_lcmp_ok] at kk
      exact W.lcmp hx hb hd kk
    · cases hp
  case dup =>
    simp only [px_pure] at hp
    split at hp
    · rename_i v r
      cases hn : px_lg v with
      | true => rw [hn] at hp; cases hp
      | false =>
        rw [hn] at hp
        cases hp
        exact lv_dup hx hb hd (px_cat1 hn) (k ls hl)
    · cases hp
  case pop =>
    simp only [px_pure] at hp
    split at hp
    · rename_i v r
      cases hn : px_lg v with
      | true => rw [hn] at hp; cases hp
      | false =>
        rw [hn] at hp
        cases hp
        exact lv_pop hx hb hd (px_cat1 hn) (k ls hl)
    · cases hp
  case dup2 =>
    simp only [px_pure] at hp
    split at hp
    · rename_i v w r
      cases hn : px_lg v || px_lg w with
      | true => rw [hn] at hp; cases hp
      | false =>
        rw [hn] at hp
        cases hp
        simp only [Bool.or_eq_false_iff] at hn
        exact lv_dup2_11 hx hb hd (px_cat1 hn.1) (px_cat1 hn.2) (k ls hl)
    · cases hp
  case dup_x1 =>
    simp only [px_pure] at hp
    split at hp
    · rename_i v w r
      cases hn : px_lg v || px_lg w with
      | true => rw [hn] at hp; cases hp
      | false =>
        rw [hn] at hp
        cases hp
        simp only [Bool.or_eq_false_iff] at hn
        exact lv_dup_x1 hx hb hd (px_cat1 hn.1) (px_cat1 hn.2) (k ls hl)
    · cases hp
  all_goals (exact absurd hp (by simp [px_pure]))
end PxPure
end
section
/-! Symbolic runs, part 3: branches and switches. Where the bounds leave a condition open both ways are gone. -/
noncomputable def px_to (pc : Nat) (off : Int) : Option Nat := bif px_ile 0 (Int.add (.ofNat pc) off) then some (Int.add (.ofNat pc) off).toNat else none
theorem px_to_ok {pc : Nat} {off : Int} {t : Nat} (h : px_to pc off = some t) : (pc : Int) + off = (t : Int) := by
  have h : (bif px_ile 0 ((pc : Int) + off) then some ((pc : Int) + off).toNat else none) = some t := h
  rw [px_ile_eq] at h
  by_cases hq : 0 ≤ (pc : Int) + off
  · rw [decide_eq_true hq] at h
    simp only [cond_true, Option.some.injEq] at h
    subst h
    exact (Int.toNat_of_nonneg hq).symm
  · rw [decide_eq_false hq] at h
    cases h
noncomputable def px_ltd (g : px_G) (a b : px_I) : List (Bool × px_G) :=
  bif px_ilt (px_rg g a).2 (px_rg g b).1 then [(true, g)]
  else bif px_ile (px_rg g b).2 (px_rg g a).1 then [(false, g)]
  else [(true, px_tight (px_tight g a px_low ((px_rg g b).2 - 1)) b ((px_rg g a).1 + 1) px_hig), (false, px_tight (px_tight g a (px_rg g b).1 px_hig) b px_low (px_rg g a).2)]
noncomputable def px_eqd (g : px_G) (a b : px_I) : List (Bool × px_G) :=
  bif px_ilt (px_rg g a).2 (px_rg g b).1 || px_ilt (px_rg g b).2 (px_rg g a).1 then [(false, g)]
  else bif px_ieq (px_rg g a).1 (px_rg g a).2 && px_ieq (px_rg g b).1 (px_rg g b).2 then [(true, g)]
  else [(true, px_tight (px_tight g a (px_rg g b).1 (px_rg g b).2) b (px_rg g a).1 (px_rg g a).2), (false, g)]
theorem px_ltd_ok {x : px_X} {g : px_G} (h : px_Gok x g) (a b : px_I) : ∃ q ∈ px_ltd g a b, (q.1 = true ↔ px_i x a < px_i x b) ∧ px_Gok x q.2 := by
  have ha := px_rg_ok h a
  have hb := px_rg_ok h b
  have aa := px_any (px_i x a)
  have ab := px_any (px_i x b)
  simp only [Int32.lt_iff_toInt_lt]
  unfold px_ltd
  rw [px_ilt_eq, px_ile_eq]
  by_cases h1 : (px_rg g a).2 < (px_rg g b).1
  · rw [decide_eq_true h1]
    exact ⟨_, List.mem_singleton.mpr rfl, by simp only [true_iff]; omega, h⟩
  · rw [decide_eq_false h1]
    by_cases h2 : (px_rg g b).2 ≤ (px_rg g a).1
    · rw [decide_eq_true h2]
      exact ⟨_, List.mem_singleton.mpr rfl, by simp only [Bool.false_eq_true, false_iff]; omega, h⟩
    · rw [decide_eq_false h2]
      by_cases h3 : (px_i x a).toInt < (px_i x b).toInt
      · exact ⟨_, List.mem_cons_self, by simp only [h3], px_tight_ok (px_tight_ok h a aa.1 (by omega)) b (by omega) ab.2⟩
      · exact ⟨_, List.mem_cons_of_mem _ (List.mem_singleton.mpr rfl), by simp only [h3, Bool.false_eq_true], px_tight_ok (px_tight_ok h a (by omega) aa.2) b ab.1 (by omega)⟩
theorem px_eqd_ok {x : px_X} {g : px_G} (h : px_Gok x g) (a b : px_I) : ∃ q ∈ px_eqd g a b, (q.1 = true ↔ px_i x a = px_i x b) ∧ px_Gok x q.2 := by
  have ha := px_rg_ok h a
  have hb := px_rg_ok h b
  simp only [← Int32.toInt_inj]
  unfold px_eqd
  rw [px_ilt_eq, px_ilt_eq, px_ieq_eq, px_ieq_eq]
  by_cases h1 : (px_rg g a).2 < (px_rg g b).1 ∨ (px_rg g b).2 < (px_rg g a).1
  · rw [show (decide ((px_rg g a).2 < (px_rg g b).1) || decide ((px_rg g b).2 < (px_rg g a).1)) = true by simpa using h1]
    exact ⟨_, List.mem_singleton.mpr rfl, by simp only [Bool.false_eq_true, false_iff]; omega, h⟩
  · rw [show (decide ((px_rg g a).2 < (px_rg g b).1) || decide ((px_rg g b).2 < (px_rg g a).1)) = false by simpa using h1]
    by_cases h2 : (px_rg g a).1 = (px_rg g a).2 ∧ (px_rg g b).1 = (px_rg g b).2
    · rw [show (decide ((px_rg g a).1 = (px_rg g a).2) && decide ((px_rg g b).1 = (px_rg g b).2)) = true by simpa using h2]
      exact ⟨_, List.mem_singleton.mpr rfl, by simp only [true_iff]; omega, h⟩
    · rw [show (decide ((px_rg g a).1 = (px_rg g a).2) && decide ((px_rg g b).1 = (px_rg g b).2)) = false by
        rw [Bool.eq_false_iff]; intro q; simp only [Bool.and_eq_true, decide_eq_true_eq] at q; exact h2 q]
      by_cases h3 : (px_i x a).toInt = (px_i x b).toInt
      · exact ⟨_, List.mem_cons_self, by simp only [h3], px_tight_ok (px_tight_ok h a (by omega) (by omega)) b (by omega) (by omega)⟩
      · exact ⟨_, List.mem_cons_of_mem _ (List.mem_singleton.mpr rfl), by simp only [h3, Bool.false_eq_true], h⟩
noncomputable def px_neg (l : List (Bool × px_G)) : List (Bool × px_G) := l.map (fun q => (!q.1, q.2))
noncomputable def px_cd (c : ClassFile.Cond) (g : px_G) (a b : px_I) : List (Bool × px_G) := match c with
  | .eq => px_eqd g a b
  | .ne => px_neg (px_eqd g a b)
  | .lt => px_ltd g a b
  | .ge => px_neg (px_ltd g a b)
  | .gt => px_ltd g b a
  | .le => px_neg (px_ltd g b a)
theorem px_neg_ok {x : px_X} {l : List (Bool × px_G)} {P : Prop} (h : ∃ q ∈ l, (q.1 = true ↔ P) ∧ px_Gok x q.2) : ∃ q ∈ px_neg l, (q.1 = true ↔ ¬ P) ∧ px_Gok x q.2 := by
  obtain ⟨q, h1, h2, h3⟩ := h
  refine ⟨(!q.1, q.2), List.mem_map.mpr ⟨q, h1, rfl⟩, ?_, h3⟩
  rw [← h2]
  cases q.1 <;> simp
/-- a variable with more than one number left: its bounds in two halves -/
noncomputable def px_half (g : px_G) (a : px_I) : List px_G := [px_tight g a px_low (((px_rg g a).1 + (px_rg g a).2) / 2), px_tight g a (((px_rg g a).1 + (px_rg g a).2) / 2 + 1) px_hig]
theorem px_half_ok {x : px_X} {g : px_G} (h : px_Gok x g) (a : px_I) : ∃ q ∈ px_half g a, px_Gok x q := by
  have aa := px_any (px_i x a)
  by_cases h3 : (px_i x a).toInt ≤ ((px_rg g a).1 + (px_rg g a).2) / 2
  · exact ⟨_, List.mem_cons_self, px_tight_ok h a aa.1 h3⟩
  · exact ⟨_, List.mem_cons_of_mem _ (List.mem_singleton.mpr rfl), px_tight_ok h a (by omega) aa.2⟩
/-- what an int is, where it must be known: the number, or the halves -/
noncomputable def px_know (g : px_G) (a : px_I) : Option (Int ⊕ List px_G) := match px_nrm g a with
  | .inl n => bif px_inr n then some (.inl n) else none
  | .inr (.inl i) => some (.inr (px_half g (.inr (.inl i))))
  | _ => none
theorem px_know_ok {x : px_X} {g : px_G} (h : px_Gok x g) {a : px_I} {y : Int ⊕ List px_G} (hy : px_know g a = some y) : match y with
    | .inl n => px_i x a = Int32.ofInt n ∧ (px_i x a).toInt = n
    | .inr l => ∃ q ∈ l, px_Gok x q := by
  unfold px_know at hy
  split at hy
  · rename_i n hn
    rw [px_inr_eq] at hy
    cases hq : decide (px_low ≤ n) && decide (n ≤ px_hig) with
    | false => rw [hq] at hy; cases hy
    | true =>
      rw [hq] at hy
      simp only [cond_true, Option.some.injEq] at hy
      subst hy
      simp only [Bool.and_eq_true, decide_eq_true_eq] at hq
      have := px_nrm_ok h a
      rw [hn] at this
      refine ⟨this.symm, ?_⟩
      rw [← this]
      exact px_ofInt hq.1 hq.2
  · rename_i i hi
    simp only [Option.some.injEq] at hy
    subst hy
    exact px_half_ok h _
  · cases hy
abbrev px_S : Type := List (Nat × List px_V × px_G)
noncomputable def px_sw (pc : Nat) (st r : List px_V) (g : px_G) (a : px_I) (f : Int → Option Int) : Option px_S := match px_know g a with
  | some (.inl n) => match f n with
    | some off => match px_to pc off with
      | some t => some [(t, r, g)]
      | none => none
    | none => none
  | some (.inr gs) => some (gs.map (fun q => (pc, st, q)))
  | none => none
noncomputable def px_tab (dflt lo hi : Int) (offs : Array Int) (n : Int) : Option Int := bif decide (n < lo) || decide (hi < n) then some dflt else offs[(n - lo).toNat]?
noncomputable def px_lookup (dflt : Int) (ps : Array (Int × Int)) (n : Int) : Option Int := bif (ps.toList.zip (ps.toList.drop 1)).all (fun (a, next) => a.1 < next.1) then some (Op.lookupswitch.offset ps.toList dflt n) else none
noncomputable def px_br (i : Instr) (pc : Nat) (st : List px_V) (g : px_G) : Option px_S := match i with
  | .ifCond c off => match st with
    | .inl a :: r => match px_to pc off with
      | some t => some ((px_cd c g a (.inl 0)).map (fun q => (bif q.1 then t else pc + 3, r, q.2)))
      | none => none
    | _ => none
  | .if_icmp c off => match st with
    | .inl b :: .inl a :: r => match px_to pc off with
      | some t => some ((px_cd c g a b).map (fun q => (bif q.1 then t else pc + 3, r, q.2)))
      | none => none
    | _ => none
  | .goto off => match px_to pc off with
    | some t => some [(t, st, g)]
    | none => none
  | .ifnull off => match st with
    | .inr (.inr none) :: r => match px_to pc off with
      | some t => some [(t, r, g)]
      | none => none
    | .inr (.inr (some _)) :: r => some [(pc + 3, r, g)]
    | _ => none
  | .ifnonnull off => match st with
    | .inr (.inr (some _)) :: r => match px_to pc off with
      | some t => some [(t, r, g)]
      | none => none
    | .inr (.inr none) :: r => some [(pc + 3, r, g)]
    | _ => none
  | .tableswitch dflt lo hi offs => match st with
    | .inl a :: r => px_sw pc st r g a (px_tab dflt lo hi offs)
    | _ => none
  | .lookupswitch dflt ps => match st with
    | .inl a :: r => px_sw pc st r g a (px_lookup dflt ps)
    | _ => none
  | _ => none
noncomputable def px_brB (i : Instr) : Option (Nat → List px_V → px_G → Option px_S) := match i with
  | .ifCond c off => some (fun pc st g => match st with
    | .inl a :: r => match px_to pc off with
      | some t => some ((px_cd c g a (.inl 0)).map (fun q => (bif q.1 then t else pc + 3, r, q.2)))
      | none => none
    | _ => none)
  | .if_icmp c off => some (fun pc st g => match st with
    | .inl b :: .inl a :: r => match px_to pc off with
      | some t => some ((px_cd c g a b).map (fun q => (bif q.1 then t else pc + 3, r, q.2)))
      | none => none
    | _ => none)
  | .goto off => some (fun pc st g => match px_to pc off with
    | some t => some [(t, st, g)]
    | none => none)
  | .ifnull off => some (fun pc st g => match st with
    | .inr (.inr none) :: r => match px_to pc off with
      | some t => some [(t, r, g)]
      | none => none
    | .inr (.inr (some _)) :: r => some [(pc + 3, r, g)]
    | _ => none)
  | .ifnonnull off => some (fun pc st g => match st with
    | .inr (.inr (some _)) :: r => match px_to pc off with
      | some t => some [(t, r, g)]
      | none => none
    | .inr (.inr none) :: r => some [(pc + 3, r, g)]
    | _ => none)
  | .tableswitch dflt lo hi offs => some (fun pc st g => match st with
    | .inl a :: r => px_sw pc st r g a (px_tab dflt lo hi offs)
    | _ => none)
  | .lookupswitch dflt ps => some (fun pc st g => match st with
    | .inl a :: r => px_sw pc st r g a (px_lookup dflt ps)
    | _ => none)
  | _ => none
theorem px_brB_ok (i : Instr) {f : Nat → List px_V → px_G → Option px_S} (h : px_brB i = some f) (pc : Nat) (st : List px_V) (g : px_G) : f pc st g = px_br i pc st g := by
  cases i <;> first | (cases h; rfl) | (exact absurd h (by simp [px_brB]))
section PxBr
variable {p : Program} {l : Launch} {e : Env} {R : Room} {s : State} {m : MethodId} {args : Array Value} {below : List Frame} {meth : Method} {c : Code} {H : Heap} {locs : List Loc} {cells slots : Nat} {Q : State → Prop}
variable {cc : ByteArray} {pc : Nat} {ls : Array Slot} {E : px_E} {g : px_G} {st : List px_V} {S : px_S}
theorem px_two {P : Prop} {t f : Nat} {r : List px_V} {l0 : List (Bool × px_G)} {Wt : Nat → Prop} (hl : ∃ q ∈ l0, (q.1 = true ↔ P) ∧ px_Gok E.1 q.2)
    (k : ∀ q ∈ l0.map (fun q => ((bif q.1 then t else f), r, q.2)), px_Gok E.1 q.2.2 → Wt q.1) : (P → Wt t) ∧ (¬ P → Wt f) := by
  obtain ⟨q, h1, h2, h3⟩ := hl
  have h4 := k _ (List.mem_map.mpr ⟨q, h1, rfl⟩) h3
  cases hq : q.1 with
  | true =>
    rw [hq] at h4
    exact ⟨fun _ => h4, fun n => absurd (h2.mp hq) n⟩
  | false =>
    rw [hq] at h4
    exact ⟨fun y => absurd (hq.symm.trans (h2.mpr y)) (by decide), fun _ => h4⟩
theorem px_two' {P : Prop} {t f : Nat} {r : List px_V} {l0 : List (Bool × px_G)} {Wt : Nat → List px_V → Prop} (hl : ∃ q ∈ l0, (q.1 = true ↔ P) ∧ px_Gok E.1 q.2)
    (k : ∀ q ∈ l0.map (fun q => ((bif q.1 then t else f), r, q.2)), px_Gok E.1 q.2.2 → Wt q.1 q.2.1) : (P → Wt t r) ∧ (¬ P → Wt f r) :=
  px_two (Wt := fun n => Wt n r) hl (fun q hq hg => by
    have h5 : q.2.1 = r := by obtain ⟨_, _, rfl⟩ := List.mem_map.mp hq; rfl
    rw [← h5]; exact k q hq hg)
theorem px_sw_inv {r : List px_V} {a : px_I} {f : Int → Option Int} (h : px_sw pc st r g a f = some S) (hG : px_Gok E.1 g) :
    (∃ (n off : Int) (t : Nat), px_i E.1 a = Int32.ofInt n ∧ (px_i E.1 a).toInt = n ∧ f n = some off ∧ (pc : Int) + off = (t : Int) ∧ S = [(t, r, g)]) ∨ ∃ q, (pc, st, q) ∈ S ∧ px_Gok E.1 q := by
  unfold px_sw at h
  split at h
  · rename_i n hn
    split at h
    · rename_i off ho
      split at h
      · rename_i t ht
        have hk := px_know_ok hG hn
        exact Or.inl ⟨n, off, t, hk.1, hk.2, ho, px_to_ok ht, (Option.some.inj h).symm⟩
      · cases h
    · cases h
  · rename_i gs hn
    obtain ⟨q, h1, h2⟩ := px_know_ok hG hn
    cases h
    exact Or.inr ⟨q, List.mem_map.mpr ⟨q, h1, rfl⟩, h2⟩
  · cases h
theorem px_not_lt {x y : Int32} : ¬ x < y ↔ y ≤ x := by
  rw [Int32.lt_iff_toInt_lt, Int32.le_iff_toInt_le]; omega
set_option maxHeartbeats 4000000 in
theorem px_br_ok (hx : p.tables.exec = Jvm.exec) (hb : c.code = cc) {i : Instr} {len : Nat} (hd : decode cc pc = .ok (i, len)) (hlen : px_len i = len ∨ (∃ a b c d, i = .tableswitch a b c d) ∨ ∃ a b, i = .lookupswitch a b) (hG : px_Gok E.1 g) (hp : px_br i pc st g = some S)
    (k : ∀ q ∈ S, px_Gok E.1 q.2.2 → W p l e R s m args below meth c H locs cells slots Q (F0 m q.1 ls (q.2.1.map (px_v E)))) : W p l e R s m args below meth c H locs cells slots Q (F0 m pc ls (st.map (px_v E))) := by
  cases i
  case ifCond cd off =>
    have hlen : (3 : Nat) = len := by rcases hlen with h | ⟨_, _, _, _, h⟩ | ⟨_, _, h⟩ <;> first | exact h | cases h
    subst hlen
    simp only [px_br] at hp
    split at hp
    · rename_i a r
      split at hp
      · rename_i t ht
        cases hp
        have ht := px_to_ok ht
        have e0 : px_i E.1 (.inl 0) = 0 := rfl
        cases cd
        · have h5 := px_two' (Wt := fun n y => W p l e R s m args below meth c H locs cells slots Q (F0 m n ls (y.map (px_v E)))) (px_eqd_ok hG a (.inl 0)) k
          rw [e0] at h5
          exact lv_if_eq hx hb hd ht h5.1 h5.2
        · have h5 := px_two' (Wt := fun n y => W p l e R s m args below meth c H locs cells slots Q (F0 m n ls (y.map (px_v E)))) (px_neg_ok (px_eqd_ok hG a (.inl 0))) k
          rw [e0] at h5
          exact lv_if_ne hx hb hd ht h5.1 (fun q => h5.2 (fun n => n q))
        · have h5 := px_two' (Wt := fun n y => W p l e R s m args below meth c H locs cells slots Q (F0 m n ls (y.map (px_v E)))) (px_ltd_ok hG a (.inl 0)) k
          rw [e0] at h5
          exact lv_if_lt hx hb hd ht h5.1 h5.2
        · have h5 := px_two' (Wt := fun n y => W p l e R s m args below meth c H locs cells slots Q (F0 m n ls (y.map (px_v E)))) (px_neg_ok (px_ltd_ok hG a (.inl 0))) k
          rw [e0, px_not_lt] at h5
          exact lv_if_ge hx hb hd ht h5.1 h5.2
        · have h5 := px_two' (Wt := fun n y => W p l e R s m args below meth c H locs cells slots Q (F0 m n ls (y.map (px_v E)))) (px_ltd_ok hG (.inl 0) a) k
          rw [e0] at h5
          exact lv_if_gt hx hb hd ht h5.1 h5.2
        · have h5 := px_two' (Wt := fun n y => W p l e R s m args below meth c H locs cells slots Q (F0 m n ls (y.map (px_v E)))) (px_neg_ok (px_ltd_ok hG (.inl 0) a)) k
          rw [e0, px_not_lt] at h5
          exact lv_if_le hx hb hd ht h5.1 h5.2
      · cases hp
    · cases hp
  case if_icmp cd off =>
    have hlen : (3 : Nat) = len := by rcases hlen with h | ⟨_, _, _, _, h⟩ | ⟨_, _, h⟩ <;> first | exact h | cases h
    subst hlen
    simp only [px_br] at hp
    split at hp
    · rename_i b a r
      split at hp
      · rename_i t ht
        cases hp
        have ht := px_to_ok ht
        cases cd
        · have h5 := px_two' (Wt := fun n y => W p l e R s m args below meth c H locs cells slots Q (F0 m n ls (y.map (px_v E)))) (px_eqd_ok hG a b) k
          exact lv_icmp_eq hx hb hd ht h5.1 h5.2
        · have h5 := px_two' (Wt := fun n y => W p l e R s m args below meth c H locs cells slots Q (F0 m n ls (y.map (px_v E)))) (px_neg_ok (px_eqd_ok hG a b)) k
          exact lv_icmp_ne hx hb hd ht h5.1 (fun q => h5.2 (fun n => n q))
        · have h5 := px_two' (Wt := fun n y => W p l e R s m args below meth c H locs cells slots Q (F0 m n ls (y.map (px_v E)))) (px_ltd_ok hG a b) k
          exact lv_icmp_lt hx hb hd ht h5.1 h5.2
        · have h5 := px_two' (Wt := fun n y => W p l e R s m args below meth c H locs cells slots Q (F0 m n ls (y.map (px_v E)))) (px_neg_ok (px_ltd_ok hG a b)) k
          rw [px_not_lt] at h5
          exact lv_icmp_ge hx hb hd ht h5.1 h5.2
        · have h5 := px_two' (Wt := fun n y => W p l e R s m args below meth c H locs cells slots Q (F0 m n ls (y.map (px_v E)))) (px_ltd_ok hG b a) k
          exact lv_icmp_gt hx hb hd ht h5.1 h5.2
        · have h5 := px_two' (Wt := fun n y => W p l e R s m args below meth c H locs cells slots Q (F0 m n ls (y.map (px_v E)))) (px_neg_ok (px_ltd_ok hG b a)) k
          rw [px_not_lt] at h5
          exact lv_icmp_le hx hb hd ht h5.1 h5.2
      · cases hp
    · cases hp
  case goto off =>
    have hlen : (3 : Nat) = len := by rcases hlen with h | ⟨_, _, _, _, h⟩ | ⟨_, _, h⟩ <;> first | exact h | cases h
    subst hlen
    simp only [px_br] at hp
    split at hp
    · rename_i t ht
      cases hp
      exact lv_goto hx hb hd (px_to_ok ht) (k _ (List.mem_singleton.mpr rfl) hG)
    · cases hp
  case ifnull off =>
    have hlen : (3 : Nat) = len := by rcases hlen with h | ⟨_, _, _, _, h⟩ | ⟨_, _, h⟩ <;> first | exact h | cases h
    subst hlen
    simp only [px_br] at hp
    split at hp
    · split at hp
      · rename_i t ht
        cases hp
        exact lv_ifnullN hx hb hd (px_to_ok ht) (k _ (List.mem_singleton.mpr rfl) hG)
      · cases hp
    · cases hp
      exact lv_ifnull hx hb hd (k _ (List.mem_singleton.mpr rfl) hG)
    · cases hp
  case ifnonnull off =>
    have hlen : (3 : Nat) = len := by rcases hlen with h | ⟨_, _, _, _, h⟩ | ⟨_, _, h⟩ <;> first | exact h | cases h
    subst hlen
    simp only [px_br] at hp
    split at hp
    · split at hp
      · rename_i t ht
        cases hp
        exact lv_ifnonnull hx hb hd (px_to_ok ht) (k _ (List.mem_singleton.mpr rfl) hG)
      · cases hp
    · cases hp
      exact lv_ifnonnullN hx hb hd (k _ (List.mem_singleton.mpr rfl) hG)
    · cases hp
  case tableswitch dflt lo hi offs =>
    simp only [px_br] at hp
    split at hp
    · rename_i a r
      rcases px_sw_inv (E := E) hp hG with ⟨n, off, t, h1, h2, h3, h4, rfl⟩ | ⟨q, h1, h2⟩
      · have hk := k _ (List.mem_singleton.mpr rfl) hG
        unfold px_tab at h3
        by_cases h7 : n < lo ∨ hi < n
        · rw [show (decide (n < lo) || decide (hi < n)) = true by simpa using h7] at h3
          simp only [cond_true, Option.some.injEq] at h3
          subst h3
          exact lv_tableOut hx hb hd (by rw [h2]; exact h7) h4 hk
        · rw [show (decide (n < lo) || decide (hi < n)) = false by rw [Bool.eq_false_iff]; intro q; simp only [Bool.or_eq_true, decide_eq_true_eq] at q; exact h7 q] at h3
          exact lv_tableIn hx hb hd (by rw [h2]; omega) (by rw [h2]; omega) (by rw [h2]; exact h3) h4 hk
      · exact k _ h1 h2
    · cases hp
  case lookupswitch dflt ps =>
    simp only [px_br] at hp
    split at hp
    · rename_i a r
      rcases px_sw_inv (E := E) hp hG with ⟨n, off, t, h1, h2, h3, h4, rfl⟩ | ⟨q, h1, h2⟩
      · have hk := k _ (List.mem_singleton.mpr rfl) hG
        unfold px_lookup at h3
        cases h7 : (ps.toList.zip (ps.toList.drop 1)).all (fun (a, next) => a.1 < next.1) with
        | false => rw [h7] at h3; cases h3
        | true =>
          rw [h7] at h3
          simp only [cond_true, Option.some.injEq] at h3
          exact lv_lookup hx hb hd h7 (by rw [h2]; exact h3) h4 hk
      · exact k _ h1 h2
    · cases hp
  all_goals (exact absurd hp (by simp [px_br]))
end PxBr
end
section
/-! Symbolic runs, part 4: cells. What was made since the law's start lies in a tree, at the places 64, 65 .. ; place r is the address b + (r - 64). -/
noncomputable def px_at {α : Type} (d : α) (j : Nat) (l : List (Nat × α)) : α := List.rec d (fun q _ ih => bif Nat.beq q.1 j then q.2 else ih) l
/-- a list's place, a list with a place changed, as the kernel runs them -/
noncomputable def px_nth {α : Type} (l : List α) : Nat → Option α := List.rec (fun _ => none) (fun a _ ih n => Nat.rec (some a) (fun m _ => ih m) n) l
noncomputable def px_lset {α : Type} (v : α) (l : List α) : Nat → List α := List.rec (fun _ => []) (fun a r ih n => Nat.rec (v :: r) (fun m _ => a :: ih m) n) l
theorem px_nth_eq {α : Type} (l : List α) (n : Nat) : px_nth l n = l[n]? := by
  induction l generalizing n with
  | nil => rfl
  | cons a r ih =>
    cases n with
    | zero => rfl
    | succ m => exact (ih m).trans (List.getElem?_cons_succ).symm
theorem px_lset_eq {α : Type} (v : α) (l : List α) (n : Nat) : px_lset v l n = l.set n v := by
  induction l generalizing n with
  | nil => rfl
  | cons a r ih =>
    cases n with
    | zero => rfl
    | succ m =>
      show a :: px_lset v r m = a :: r.set m v
      rw [ih m]
/-- a number, worked out before one goes on -/
noncomputable def px_force {α : Type} (n : Nat) (k : Nat → α) : α := Nat.rec (k 0) (fun m _ => k m) (Nat.add n 1)
theorem px_force_eq {α : Type} (n : Nat) (k : Nat → α) : px_force n k = k n := rfl
theorem px_at_cons {α : Type} (d : α) (j k : Nat) (v : α) (l : List (Nat × α)) : px_at d j ((k, v) :: l) = if j = k then v else px_at d j l := by
  show (bif Nat.beq k j then v else px_at d j l) = _
  by_cases h : k = j
  · rw [if_pos h.symm, show Nat.beq k j = true from Nat.beq_eq.mpr h]; rfl
  · rw [if_neg (fun q => h q.symm), show Nat.beq k j = false from Bool.eq_false_iff.mpr (fun q => h (Nat.beq_eq.mp q))]; rfl
/-- an array: the number of its type, length, what lies at first everywhere, what was laid since; an object: the number of its class, fields; an exception: its kind -/
abbrev px_C : Type := (Nat × Nat × px_V × List (Nat × px_V)) ⊕ ((Nat × List px_V) ⊕ Nat)
def px_T : Nat → Type
  | 0 => px_C
  | d + 1 => px_T d × px_T d
noncomputable def px_tg (d : Nat) : px_T d → Nat → px_C := Nat.rec (motive := fun d => px_T d → Nat → px_C) (fun t _ => t) (fun d ih t i => bif Nat.beq (Nat.mod i 2) 0 then ih (Prod.fst (α := px_T d) (β := px_T d) t) (Nat.div i 2) else ih (Prod.snd (α := px_T d) (β := px_T d) t) (Nat.div i 2)) d
noncomputable def px_ts (d : Nat) : px_T d → Nat → px_C → px_T d := Nat.rec (motive := fun d => px_T d → Nat → px_C → px_T d) (fun _ _ c => c) (fun d ih t i c => bif Nat.beq (Nat.mod i 2) 0 then Prod.mk (α := px_T d) (β := px_T d) (ih (Prod.fst (α := px_T d) (β := px_T d) t) (Nat.div i 2) c) (Prod.snd (α := px_T d) (β := px_T d) t) else Prod.mk (α := px_T d) (β := px_T d) (Prod.fst (α := px_T d) (β := px_T d) t) (ih (Prod.snd (α := px_T d) (β := px_T d) t) (Nat.div i 2) c)) d
noncomputable def px_t0 : (d : Nat) → px_T d
  | 0 => (.inr (.inr 0) : px_C)
  | d + 1 => Prod.mk (α := px_T d) (β := px_T d) (px_t0 d) (px_t0 d)
theorem px_beq_t {a b : Nat} (h : a = b) : Nat.beq a b = true := Nat.beq_eq.mpr h
theorem px_beq_f {a b : Nat} (h : ¬ a = b) : Nat.beq a b = false := Bool.eq_false_iff.mpr (fun q => h (Nat.beq_eq.mp q))
theorem px_tg_e {d : Nat} (t : px_T (d + 1)) {j : Nat} (h : j % 2 = 0) : px_tg (d + 1) t j = px_tg d (Prod.fst (α := px_T d) (β := px_T d) t) (j / 2) := by
  show (bif Nat.beq (j % 2) 0 then px_tg d (Prod.fst (α := px_T d) (β := px_T d) t) (j / 2) else px_tg d (Prod.snd (α := px_T d) (β := px_T d) t) (j / 2)) = _
  rw [px_beq_t h]; rfl
theorem px_tg_o {d : Nat} (t : px_T (d + 1)) {j : Nat} (h : ¬ j % 2 = 0) : px_tg (d + 1) t j = px_tg d (Prod.snd (α := px_T d) (β := px_T d) t) (j / 2) := by
  show (bif Nat.beq (j % 2) 0 then px_tg d (Prod.fst (α := px_T d) (β := px_T d) t) (j / 2) else px_tg d (Prod.snd (α := px_T d) (β := px_T d) t) (j / 2)) = _
  rw [px_beq_f h]; rfl
theorem px_ts_e {d : Nat} (t : px_T (d + 1)) {i : Nat} (c : px_C) (h : i % 2 = 0) : px_ts (d + 1) t i c = Prod.mk (α := px_T d) (β := px_T d) (px_ts d (Prod.fst (α := px_T d) (β := px_T d) t) (i / 2) c) (Prod.snd (α := px_T d) (β := px_T d) t) := by
  show (bif Nat.beq (i % 2) 0 then Prod.mk (α := px_T d) (β := px_T d) (px_ts d (Prod.fst (α := px_T d) (β := px_T d) t) (i / 2) c) (Prod.snd (α := px_T d) (β := px_T d) t) else Prod.mk (α := px_T d) (β := px_T d) (Prod.fst (α := px_T d) (β := px_T d) t) (px_ts d (Prod.snd (α := px_T d) (β := px_T d) t) (i / 2) c)) = _
  rw [px_beq_t h]; rfl
theorem px_ts_o {d : Nat} (t : px_T (d + 1)) {i : Nat} (c : px_C) (h : ¬ i % 2 = 0) : px_ts (d + 1) t i c = Prod.mk (α := px_T d) (β := px_T d) (Prod.fst (α := px_T d) (β := px_T d) t) (px_ts d (Prod.snd (α := px_T d) (β := px_T d) t) (i / 2) c) := by
  show (bif Nat.beq (i % 2) 0 then Prod.mk (α := px_T d) (β := px_T d) (px_ts d (Prod.fst (α := px_T d) (β := px_T d) t) (i / 2) c) (Prod.snd (α := px_T d) (β := px_T d) t) else Prod.mk (α := px_T d) (β := px_T d) (Prod.fst (α := px_T d) (β := px_T d) t) (px_ts d (Prod.snd (α := px_T d) (β := px_T d) t) (i / 2) c)) = _
  rw [px_beq_f h]; rfl
theorem px_tg_ts : ∀ (d : Nat) (t : px_T d) (i j : Nat) (c : px_C), i < 2 ^ d → j < 2 ^ d → px_tg d (px_ts d t i c) j = if i = j then c else px_tg d t j
  | 0, t, i, j, c, hi, hj => by
    have h1 : i = 0 := by simpa using hi
    have h2 : j = 0 := by simpa using hj
    rw [h1, h2, if_pos rfl]
    rfl
  | d + 1, t, i, j, c, hi, hj => by
    have hi' : i / 2 < 2 ^ d := by rw [Nat.pow_succ] at hi; omega
    have hj' : j / 2 < 2 ^ d := by rw [Nat.pow_succ] at hj; omega
    by_cases mi : i % 2 = 0
    · rw [px_ts_e t c mi]
      by_cases mj : j % 2 = 0
      · refine (px_tg_e _ mj).trans ((px_tg_ts d (Prod.fst (α := px_T d) (β := px_T d) t) (i / 2) (j / 2) c hi' hj').trans ?_)
        by_cases e : i = j
        · rw [if_pos e, if_pos (by rw [e])]
        · rw [if_neg e, if_neg (by omega)]
          exact (px_tg_e t mj).symm
      · refine (px_tg_o _ mj).trans ?_
        rw [if_neg (by omega)]
        exact (px_tg_o t mj).symm
    · rw [px_ts_o t c mi]
      by_cases mj : j % 2 = 0
      · refine (px_tg_e _ mj).trans ?_
        rw [if_neg (by omega)]
        exact (px_tg_e t mj).symm
      · refine (px_tg_o _ mj).trans ((px_tg_ts d (Prod.snd (α := px_T d) (β := px_T d) t) (i / 2) (j / 2) c hi' hj').trans ?_)
        by_cases e : i = j
        · rw [if_pos e, if_pos (by rw [e])]
        · rw [if_neg e, if_neg (by omega)]
          exact (px_tg_o t mj).symm
/-- the next place, how many slots were made, the tree -/
abbrev px_H : Type := Nat × Nat × px_T 10
noncomputable def px_h0 : px_H := (64, 0, px_t0 10)
/-- classes, array classes, exceptions by their numbers; the heap at the law's start -/
abbrev px_K : Type := va_G × (Nat → ClassId) × (Nat → ClassId) × Heap
noncomputable def px_cell (cl : List vw_C) (K : px_K) (E : px_E) (c : px_C) (a : Nat) (H : Heap) : Prop := match c with
  | .inl q => H[a]? = some (arrV (K.2.1 q.1) q.2.1 (fun j => px_v E (px_at q.2.2.1 j q.2.2.2)))
  | .inr (.inl q) => va_at K.1 cl (a, .inr (q.1, q.2.map (px_v E))) H
  | .inr (.inr k) => ∃ cell, H[a]? = some cell ∧ cell.cls = K.2.2.1 k ∧ cell.vm.isStatics = false
theorem px_cell.kept {cl : List vw_C} {K : px_K} {E : px_E} {c : px_C} {a : Nat} {H H1 : Heap} (h : px_cell cl K E c a H) (hq : H1[a]? = H[a]?) : px_cell cl K E c a H1 := by
  obtain q | q | k := c
  · exact hq.trans h
  · exact va_at.kept (q := (a, .inr (q.1, q.2.map (px_v E)))) h hq
  · obtain ⟨cell, h1, h2⟩ := h
    exact ⟨cell, hq.trans h1, h2⟩
theorem px_cell.lt {cl : List vw_C} {K : px_K} {E : px_E} {c : px_C} {a : Nat} {H : Heap} (h : px_cell cl K E c a H) : a < H.size := by
  obtain q | q | k := c
  · exact (Array.getElem?_eq_some_iff.mp h).1
  · exact va_at.lt (q := (a, .inr (q.1, q.2.map (px_v E)))) h
  · obtain ⟨cell, h1, h2⟩ := h
    exact (Array.getElem?_eq_some_iff.mp h1).1
noncomputable def px_HP (cl : List vw_C) (K : px_K) (E : px_E) (h : px_H) (H : Heap) : Prop :=
  64 ≤ h.1 ∧ h.1 ≤ 1024 ∧ H.size = E.2.2 + (h.1 - 64) ∧ (∀ r, 64 ≤ r → r < h.1 → px_cell cl K E (px_tg 10 h.2.2 r) (px_ad E r) H) ∧ ∀ q, q < E.2.2 → H[q]? = K.2.2.2[q]?
theorem px_ad_new (E : px_E) {r : Nat} (h : 64 ≤ r) : px_ad E r = E.2.2 + (r - 64) := by
  unfold px_ad
  rw [if_neg (by omega)]
theorem px_ad_inj (E : px_E) {r q : Nat} (h : 64 ≤ r) (h1 : 64 ≤ q) (e : px_ad E r = px_ad E q) : r = q := by
  rw [px_ad_new E h, px_ad_new E h1] at e
  omega
noncomputable def px_setc (h : px_H) (r : Nat) (c : px_C) : px_H := match h with
  | (n, s, t) => (n, s, px_ts 10 t r c)
noncomputable def px_push (h : px_H) (n : Nat) (c : px_C) : px_H := match h with
  | (m, s, t) => px_force (Nat.add m 1) (fun m1 => px_force (Nat.add s n) (fun s1 => (m1, s1, px_ts 10 t m c)))
theorem px_HP.set {cl : List vw_C} {K : px_K} {E : px_E} {h : px_H} {H H1 : Heap} (hP : px_HP cl K E h H) {r : Nat} (h1 : 64 ≤ r) (h2 : r < h.1) {c : px_C} (hc : px_cell cl K E c (px_ad E r) H1) (hz : H1.size = H.size) (ho : ∀ q, q ≠ px_ad E r → H1[q]? = H[q]?) : px_HP cl K E (px_setc h r c) H1 := by
  obtain ⟨a1, a2, a3, a4, a5⟩ := hP
  refine ⟨a1, a2, hz.trans a3, fun q hq hq2 => ?_, fun q hq => (ho q ?_).trans (a5 q hq)⟩
  · show px_cell cl K E (px_tg 10 (px_ts 10 h.2.2 r c) q) (px_ad E q) H1
    rw [px_tg_ts 10 _ _ _ _ (by show r < 1024; omega) (by have : q < h.1 := hq2; show q < 1024; omega)]
    by_cases e : r = q
    · rw [if_pos e, ← e]; exact hc
    · rw [if_neg e]
      exact (a4 q hq hq2).kept (ho _ (fun w => e (px_ad_inj E h1 hq w.symm)))
  · rw [px_ad_new E h1]; omega
theorem px_HP.push {cl : List vw_C} {K : px_K} {E : px_E} {h : px_H} {H H1 : Heap} (hP : px_HP cl K E h H) (hn : h.1 < 1024) (n : Nat) {c : px_C} (hc : px_cell cl K E c H.size H1) (hz : H1.size = H.size + 1) (ho : ∀ q, q < H.size → H1[q]? = H[q]?) : px_HP cl K E (px_push h n c) H1 ∧ H.size = px_ad E h.1 := by
  obtain ⟨a1, a2, a3, a4, a5⟩ := hP
  have e0 : H.size = px_ad E h.1 := by rw [a3, px_ad_new E a1]
  refine ⟨⟨by show 64 ≤ h.1 + 1; omega, by show h.1 + 1 ≤ 1024; omega, by show H1.size = _ + (h.1 + 1 - 64); omega, fun q hq hq2 => ?_, fun q hq => (ho q ?_).trans (a5 q hq)⟩, e0⟩
  · have hq2 : q < h.1 + 1 := hq2
    show px_cell cl K E (px_tg 10 (px_ts 10 h.2.2 h.1 c) q) (px_ad E q) H1
    rw [px_tg_ts 10 _ _ _ _ (by show h.1 < 1024; omega) (by show q < 1024; omega)]
    by_cases e : h.1 = q
    · rw [if_pos e, ← e, ← e0]; exact hc
    · rw [if_neg e]
      have h5 := a4 q hq (by omega)
      exact h5.kept (ho _ h5.lt)
  · omega
/-- a place that is there -/
noncomputable def px_here (h : px_H) (r : Nat) : Bool := Nat.ble 64 r && Nat.blt r h.1
theorem px_here_ok {h : px_H} {r : Nat} (q : px_here h r = true) : 64 ≤ r ∧ r < h.1 := by
  simp only [px_here, Bool.and_eq_true, Nat.ble_eq, Nat.blt_eq] at q
  exact q
noncomputable def px_obj (h : px_H) (r : Nat) : Option (Nat × List px_V) := bif px_here h r then match px_tg 10 h.2.2 r with
  | .inr (.inl q) => some q
  | _ => none else none
noncomputable def px_arr (h : px_H) (r : Nat) : Option (Nat × Nat × px_V × List (Nat × px_V)) := bif px_here h r then match px_tg 10 h.2.2 r with
  | .inl q => bif Nat.blt q.1 11 then some q else none
  | _ => none else none
noncomputable def px_exc (h : px_H) (r : Nat) : Option Nat := bif px_here h r then match px_tg 10 h.2.2 r with
  | .inr (.inr k) => bif Nat.blt k 5 then some k else none
  | _ => none else none
theorem px_obj_ok {cl : List vw_C} {K : px_K} {E : px_E} {h : px_H} {H : Heap} (hP : px_HP cl K E h H) {r : Nat} {q : Nat × List px_V} (ho : px_obj h r = some q) : 64 ≤ r ∧ r < h.1 ∧ va_at K.1 cl (px_ad E r, .inr (q.1, q.2.map (px_v E))) H := by
  unfold px_obj at ho
  cases hh : px_here h r with
  | false => rw [hh] at ho; cases ho
  | true =>
    rw [hh] at ho
    obtain ⟨h1, h2⟩ := px_here_ok hh
    have h3 := hP.2.2.2.1 r h1 h2
    simp only [cond_true] at ho
    split at ho
    · rename_i q' hq
      cases ho
      rw [hq] at h3
      exact ⟨h1, h2, h3⟩
    · cases ho
theorem px_arr_ok {cl : List vw_C} {K : px_K} {E : px_E} {h : px_H} {H : Heap} (hP : px_HP cl K E h H) {r : Nat} {q : Nat × Nat × px_V × List (Nat × px_V)} (ho : px_arr h r = some q) : 64 ≤ r ∧ r < h.1 ∧ q.1 < 11 ∧ H[px_ad E r]? = some (arrV (K.2.1 q.1) q.2.1 (fun j => px_v E (px_at q.2.2.1 j q.2.2.2))) := by
  unfold px_arr at ho
  cases hh : px_here h r with
  | false => rw [hh] at ho; cases ho
  | true =>
    rw [hh] at ho
    obtain ⟨h1, h2⟩ := px_here_ok hh
    have h3 := hP.2.2.2.1 r h1 h2
    simp only [cond_true] at ho
    split at ho
    · rename_i q' hq
      cases hz : Nat.blt q'.1 11 with
      | false => rw [hz] at ho; cases ho
      | true =>
        rw [hz] at ho
        cases ho
        rw [hq] at h3
        exact ⟨h1, h2, Nat.blt_eq.mp hz, h3⟩
    · cases ho
theorem px_exc_ok {cl : List vw_C} {K : px_K} {E : px_E} {h : px_H} {H : Heap} (hP : px_HP cl K E h H) {r : Nat} {k : Nat} (ho : px_exc h r = some k) : 64 ≤ r ∧ r < h.1 ∧ k < 5 ∧ ∃ cell, H[px_ad E r]? = some cell ∧ cell.cls = K.2.2.1 k ∧ cell.vm.isStatics = false := by
  unfold px_exc at ho
  cases hh : px_here h r with
  | false => rw [hh] at ho; cases ho
  | true =>
    rw [hh] at ho
    obtain ⟨h1, h2⟩ := px_here_ok hh
    have h3 := hP.2.2.2.1 r h1 h2
    simp only [cond_true] at ho
    split at ho
    · rename_i q' hq
      cases hz : Nat.blt q' 5 with
      | false => rw [hz] at ho; cases ho
      | true =>
        rw [hz] at ho
        cases ho
        rw [hq] at h3
        exact ⟨h1, h2, Nat.blt_eq.mp hz, h3⟩
    · cases ho
/-- the kind of a type: int, boolean, long, a reference -/
noncomputable def px_tcode (t : FieldType) : Nat := match t with
  | .int => 0
  | .boolean => 1
  | .long => 2
  | .object _ => 3
  | .array _ => 3
  | _ => 9
noncomputable def px_fitc (c : Nat) (v : px_V) : Bool := match c, v with
  | 0, .inl _ => true
  | 1, .inl (.inl n) => decide (n = 0) || decide (n = 1)
  | 2, .inr (.inl _) => true
  | 3, .inr (.inr _) => true
  | _, _ => false
noncomputable def px_dflt (c : Nat) : px_V := match c with
  | 0 => .inl (.inl 0)
  | 1 => .inl (.inl 0)
  | 2 => .inr (.inl (.inl 0))
  | _ => .inr (.inr none)
theorem px_fit_ok (E : px_E) {t : FieldType} {v : px_V} (h : px_fitc (px_tcode t) v = true) : narrow t (px_v E v) = px_v E v ∧ fits t (px_v E v) = true := by
  cases t
  case int =>
    obtain a | a | a := v
    · exact ⟨rfl, rfl⟩
    · cases h
    · cases h
  case boolean =>
    obtain (n | a) | a | a := v
    · simp only [px_tcode, px_fitc, Bool.or_eq_true, decide_eq_true_eq] at h
      rcases h with rfl | rfl
      · have e0 : Int32.ofInt 0 = 0 := by decide
        show narrow .boolean (.int (Int32.ofInt 0)) = .int (Int32.ofInt 0) ∧ fits .boolean (.int (Int32.ofInt 0)) = true
        rw [e0]
        exact ⟨narrow_b0, by decide⟩
      · have e0 : Int32.ofInt 1 = 1 := by decide
        show narrow .boolean (.int (Int32.ofInt 1)) = .int (Int32.ofInt 1) ∧ fits .boolean (.int (Int32.ofInt 1)) = true
        rw [e0]
        exact ⟨narrow_b1, by decide⟩
    · cases h
    · cases h
    · cases h
  case long =>
    obtain a | a | a := v
    · cases h
    · exact ⟨rfl, rfl⟩
    · cases h
  case object n =>
    obtain a | a | a := v
    · cases h
    · cases h
    · cases a <;> exact ⟨rfl, rfl⟩
  case array n =>
    obtain a | a | a := v
    · cases h
    · cases h
    · cases a <;> exact ⟨rfl, rfl⟩
  all_goals
    obtain a | a | a := v <;> cases h
theorem px_dflt_ok (E : px_E) {t : FieldType} (h : px_tcode t < 4) : px_v E (px_dflt (px_tcode t)) = defaultValue t := by
  cases t <;> first | rfl | (simp [px_tcode] at h)
end
section
/-! Symbolic runs, part 5: the run itself. A method: name; bytes, locals, result, handlers; its instructions by rows of sixteen bytes; what its pool's entries mean (index, kind, three numbers). -/
abbrev px_M : Type := MethodName × (ByteArray × Nat × Option FieldType × List (Nat × Nat × Nat × Nat)) × List (List (Nat × Instr × Nat)) × List (Nat × Nat × Nat × Nat × Nat)
/-- methods; the kinds of the fields, class by class; of array types the kind of the elements and the class that they are of -/
abbrev px_P : Type := List px_M × List (List Nat) × List (Nat × Nat)
noncomputable def px_cf (pc : Nat) (l : List (Nat × Instr × Nat)) : Option (Instr × Nat) := List.rec none (fun q _ ih => bif Nat.beq q.1 pc then some q.2 else ih) l
noncomputable def px_code (M : px_M) (pc : Nat) : Option (Instr × Nat) := match px_nth M.2.2.1 (Nat.div pc 16) with
  | some row => px_cf pc row
  | none => none
noncomputable def px_lf (idx : Nat) (l : List (Nat × Nat × Nat × Nat × Nat)) : Option (Nat × Nat × Nat × Nat) := List.rec none (fun q _ ih => bif Nat.beq q.1 idx then some q.2 else ih) l
noncomputable def px_lk (M : px_M) (idx : Nat) : Option (Nat × Nat × Nat × Nat) := px_lf idx M.2.2.2
/-- where one goes on: pc, stack, cells, bounds -/
abbrev px_N : Type := List (Nat × List px_V × px_H × px_G)
noncomputable def px_room (h : px_H) (k n : Nat) : Bool := Nat.ble (Nat.add h.1 k) 1024 && Nat.ble (Nat.add h.2.1 n) 7302232
noncomputable def px_atn (t : ArrayType) : Option Nat := match t with
  | .byte => some 0
  | .int => some 1
  | .long => some 2
  | .boolean => some 3
  | _ => none
/-- rows of a grid: each row is made and laid into its place -/
noncomputable def px_gr (r : Nat) : List Nat → List (Nat × px_V) → px_H → px_H
  | [], _, h => h
  | i :: t, ws, h => px_force h.1 (fun n => px_gr r t ((i, .inr (.inr (some n))) :: ws) (px_setc (px_push h 2000 (.inl (1, 2000, .inl (.inl 0), []))) r (.inl (10, 8, .inr (.inr none), (i, .inr (.inr (some n))) :: ws))))
noncomputable def px_stay (pc : Nat) (st : List px_V) (h : px_H) (gs : List px_G) : px_N := gs.map (fun q => (pc, st, h, q))
noncomputable def px_aload (pc : Nat) (st r : List px_V) (h : px_H) (g : px_G) (a : px_I) (q : Nat) (ok : Nat → Bool) : Option px_N := match px_know g a with
  | some (.inr gs) => some (px_stay pc st h gs)
  | some (.inl n) => match px_arr h q with
    | some c => bif px_ile 0 n && Nat.blt n.toNat c.2.1 && ok c.1 then some [(pc + 1, px_at c.2.2.1 n.toNat c.2.2.2 :: r, h, g)] else none
    | none => none
  | none => none
noncomputable def px_astore (pc : Nat) (st r : List px_V) (h : px_H) (g : px_G) (a : px_I) (q : Nat) (v : px_V) (ok : Nat → Bool) : Option px_N := match px_know g a with
  | some (.inr gs) => some (px_stay pc st h gs)
  | some (.inl n) => match px_arr h q with
    | some c => bif px_ile 0 n && Nat.blt n.toNat c.2.1 && ok c.1 then some [(pc + 1, r, px_setc h q (.inl (c.1, c.2.1, c.2.2.1, (n.toNat, v) :: c.2.2.2)), g)] else none
    | none => none
  | none => none
/-- what may lie in an array of references: an object of its class (a String where the class is 99) -/
noncomputable def px_elem (P : px_P) (h : px_H) (v t : Nat) : Bool := match px_nth P.2.2 t with
  | some k => bif Nat.ble 64 v then (match px_obj h v with
    | some o => Nat.beq k.2 o.1
    | none => false) else Nat.ble 1 v && Nat.ble v 42 && Nat.beq k.2 99
  | none => false
noncomputable def px_hget (M : px_M) (x pc : Nat) (st : List px_V) (h : px_H) (g : px_G) : Option px_N := match st with
  | .inr (.inr (some r)) :: rest => match px_lk M x with
    | some q => bif Nat.ble q.1 1 then (match px_obj h r with
      | some o => bif Nat.beq o.1 q.2.1 then (match px_nth o.2 q.2.2.1 with
        | some v => some [(pc + 3, v :: rest, h, g)]
        | none => none) else none
      | none => none) else none
    | none => none
  | _ => none
noncomputable def px_hput (P : px_P) (M : px_M) (x pc : Nat) (st : List px_V) (h : px_H) (g : px_G) : Option px_N := match st with
  | v :: .inr (.inr (some r)) :: rest => match px_lk M x with
    | some q => bif Nat.ble q.1 1 && Nat.beq q.2.2.2 1 then (match px_obj h r with
      | some o => (match px_nth P.2.1 q.2.1 with
        | some ks => bif Nat.beq o.1 q.2.1 && (px_nth o.2 q.2.2.1).isSome then (match px_nth ks q.2.2.1 with
          | some k => bif px_fitc k v then some [(pc + 3, rest, px_setc h r (.inr (.inl (o.1, px_lset v o.2 q.2.2.1))), g)] else none
          | none => none) else none
        | none => none)
      | none => none) else none
    | none => none
  | _ => none
noncomputable def px_hnew (P : px_P) (M : px_M) (x pc : Nat) (st : List px_V) (h : px_H) (g : px_G) : Option px_N := match px_lk M x with
  | some q => bif Nat.beq q.1 8 then (match px_nth P.2.1 q.2.1 with
    | some ks => bif px_room h 1 ks.length then px_force h.1 (fun r => some [(pc + 3, .inr (.inr (some r)) :: st, px_push h ks.length (.inr (.inl (q.2.1, ks.map px_dflt))), g)]) else none
    | none => none) else none
  | none => none
noncomputable def px_hna (P : px_P) (t : ArrayType) (pc : Nat) (st : List px_V) (h : px_H) (g : px_G) : Option px_N := match st with
  | .inl (.inl n) :: rest => match px_atn t with
    | some k => bif px_ile 0 n && px_room h 1 n.toNat && Nat.ble (n.toNat * 8) 536870912 then (match px_nth P.2.2 k with
      | some y => px_force h.1 (fun r => px_force n.toNat (fun m => some [(pc + 2, .inr (.inr (some r)) :: rest, px_push h m (.inl (k, m, px_dflt y.1, [])), g)]))
      | none => none) else none
    | none => none
  | _ => none
noncomputable def px_hnq (M : px_M) (x pc : Nat) (st : List px_V) (h : px_H) (g : px_G) : Option px_N := match st with
  | .inl (.inl n) :: rest => match px_lk M (x + 65536) with
    | some q => bif Nat.beq q.1 10 && (px_ile 0 n && px_room h 1 n.toNat && Nat.ble (n.toNat * 8) 536870912) then px_force h.1 (fun r => px_force n.toNat (fun m => some [(pc + 3, .inr (.inr (some r)) :: rest, px_push h m (.inl (q.2.1, m, .inr (.inr none), [])), g)])) else none
    | none => none
  | _ => none
noncomputable def px_hmul (M : px_M) (x y pc : Nat) (st : List px_V) (h : px_H) (g : px_G) : Option px_N := match st with
  | .inl (.inl k) :: .inl (.inl n) :: rest => match px_lk M x with
    | some q => bif Nat.beq q.1 14 && Nat.beq y 2 && (px_ieq n 8 && px_ieq k 2000 && px_room h 9 16008) then px_force h.1 (fun r => some [(pc + 4, .inr (.inr (some r)) :: rest, px_gr r [0, 1, 2, 3, 4, 5, 6, 7] [] (px_push h 8 (.inl (10, 8, .inr (.inr none), []))), g)]) else none
    | none => none
  | _ => none
noncomputable def px_hlen (pc : Nat) (st : List px_V) (h : px_H) (g : px_G) : Option px_N := match st with
  | .inr (.inr (some 0)) :: rest => (match px_know g (.inr (.inl 7)) with
    | some (.inr gs) => some (px_stay pc st h gs)
    | some (.inl n) => some [(pc + 1, .inl (.inl n) :: rest, h, g)]
    | none => none)
  | .inr (.inr (some (r + 1))) :: rest => (match px_arr h (r + 1) with
    | some c => some [(pc + 1, .inl (.inl (c.2.1 : Nat)) :: rest, h, g)]
    | none => none)
  | _ => none
noncomputable def px_hial (pc : Nat) (st : List px_V) (h : px_H) (g : px_G) : Option px_N := match st with
  | .inl a :: .inr (.inr (some 0)) :: rest => (match px_know g a with
    | some (.inl n) => (match px_know g (.inr (.inl 7)) with
      | some (.inl l) => bif px_ile 0 n && px_ilt n l && px_ilt n 6 then some [(pc + 1, .inl (.inr (.inl n.toNat)) :: rest, h, g)] else none
      | _ => none)
    | _ => none)
  | .inl a :: .inr (.inr (some (r + 1))) :: rest => px_aload pc st rest h g a (r + 1) (fun t => Nat.beq t 1)
  | _ => none
noncomputable def px_hal (ok : Nat → Bool) (pc : Nat) (st : List px_V) (h : px_H) (g : px_G) : Option px_N := match st with
  | .inl a :: .inr (.inr (some r)) :: rest => px_aload pc st rest h g a r ok
  | _ => none
noncomputable def px_hst (P : px_P) (k : Nat) (pc : Nat) (st : List px_V) (h : px_H) (g : px_G) : Option px_N := match st with
  | v :: .inl a :: .inr (.inr (some r)) :: rest => (match k, v with
    | 1, .inl w => px_astore pc st rest h g a r (.inl w) (fun t => Nat.beq t 1)
    | 0, .inl w => px_astore pc st rest h g a r (.inl (px_b1 (fun x => x.toInt8.toInt32) w)) (fun t => Nat.beq t 0)
    | 2, .inr (.inl w) => px_astore pc st rest h g a r (.inr (.inl w)) (fun t => Nat.beq t 2)
    | 3, .inr (.inr (some w)) => px_astore pc st rest h g a r (.inr (.inr (some w))) (px_elem P h w)
    | _, _ => none)
  | _ => none
noncomputable def px_hldc (M : px_M) (x pc : Nat) (st : List px_V) (h : px_H) (g : px_G) : Option px_N := match px_lk M x with
  | some q => bif Nat.beq q.1 11 then some [(pc + 2, .inl (.inl (q.2.1 : Nat)) :: st, h, g)] else bif Nat.beq q.1 12 then some [(pc + 2, .inr (.inr (some q.2.1)) :: st, h, g)] else none
  | none => none
noncomputable def px_hobj (M : px_M) (d x pc : Nat) (st : List px_V) (h : px_H) (g : px_G) : Option px_N := match st with
  | .inr (.inr (some _)) :: rest => match px_lk M x with
    | some q => bif Nat.beq q.1 6 && (Nat.blt 0 d && Nat.ble rest.length 20) then some [(pc + 3, rest, h, g)] else none
    | none => none
  | _ => none
noncomputable def px_hcpy (M : px_M) (d x pc : Nat) (st : List px_V) (h : px_H) (g : px_G) : Option px_N := match st with
  | .inl (.inl n) :: .inl (.inl dp) :: .inr (.inr (some r2)) :: .inl (.inl sp) :: .inr (.inr (some r1)) :: rest => match px_lk M x with
    | some q => bif Nat.beq q.1 13 && (Nat.blt 0 d && Nat.ble rest.length 20 && px_ieq n 0 && px_ieq dp 0 && px_ieq sp 0) then (match px_arr h r1 with
      | some c1 => (match px_arr h r2 with
        | some c2 => bif Nat.beq c1.1 1 && Nat.beq c2.1 1 then some [(pc + 3, rest, h, g)] else none
        | none => none)
      | none => none) else none
    | none => none
  | _ => none
noncomputable def px_hpB (i : Instr) : Option (px_P → px_M → Nat → Nat → List px_V → px_H → px_G → Option px_N) := match i with
  | .getfield x => some (fun _ M _ pc st h g => px_hget M x pc st h g)
  | .putfield x => some (fun P M _ pc st h g => px_hput P M x pc st h g)
  | .new x => some (fun P M _ pc st h g => px_hnew P M x pc st h g)
  | .newarray t => some (fun P _ _ pc st h g => px_hna P t pc st h g)
  | .anewarray x => some (fun _ M _ pc st h g => px_hnq M x pc st h g)
  | .multianewarray x y => some (fun _ M _ pc st h g => px_hmul M x y pc st h g)
  | .arraylength => some (fun _ _ _ pc st h g => px_hlen pc st h g)
  | .iaload => some (fun _ _ _ pc st h g => px_hial pc st h g)
  | .laload => some (fun _ _ _ pc st h g => px_hal (fun t => Nat.beq t 2) pc st h g)
  | .aaload => some (fun _ _ _ pc st h g => px_hal (fun t => Nat.ble 4 t) pc st h g)
  | .iastore => some (fun P _ _ pc st h g => px_hst P 1 pc st h g)
  | .bastore => some (fun P _ _ pc st h g => px_hst P 0 pc st h g)
  | .lastore => some (fun P _ _ pc st h g => px_hst P 2 pc st h g)
  | .aastore => some (fun P _ _ pc st h g => px_hst P 3 pc st h g)
  | .ldc x => some (fun _ M _ pc st h g => px_hldc M x pc st h g)
  | .invokespecial x => some (fun _ M d pc st h g => px_hobj M d x pc st h g)
  | .invokestatic x => some (fun _ M d pc st h g => px_hcpy M d x pc st h g)
  | _ => none
/-- how a method ends: bounds; what it returned, or the exception's place; cells -/
abbrev px_F : Type := px_G × (Option px_V ⊕ Nat) × px_H
noncomputable def px_cat2 (st : List px_V) : Nat := List.rec 0 (fun v _ ih => Nat.add (bif px_lg v then 2 else 1) ih) st
noncomputable def px_argl (j : Nat) (l : List px_V) : List (Nat × px_V) := List.rec (fun _ => []) (fun v _ ih j => px_force j (fun k => (k, v) :: ih (Nat.add k (bif px_lg v then 2 else 1)))) l j
/-- an argument list of n values off the stack -/
noncomputable def px_take : Nat → List px_V → Option (List px_V × List px_V)
  | 0, st => some ([], st)
  | _ + 1, [] => none
  | n + 1, v :: r => match px_take n r with
    | some q => some (v :: q.1, q.2)
    | none => none
/-- pairs of exceptions of which the first is none of the second -/
noncomputable def px_asn (k j : Nat) : Bool := (Nat.beq j 1 && (Nat.beq k 0 || Nat.beq k 2 || Nat.beq k 3)) || (Nat.beq j 2 && Nat.beq k 3)
/-- the row that catches: kinds by the pool's entries of the rows; none where it goes on outward -/
noncomputable def px_catch (M : px_M) (pc k : Nat) : List (Nat × Nat × Nat × Nat) → Option (Option Nat)
  | [] => some none
  | q :: r => bif Nat.ble q.1 pc && Nat.blt pc q.2.1 then (match px_lk M q.2.2.2 with
    | some w => bif Nat.beq w.1 9 then (bif Nat.beq w.2.1 k && Nat.ble k 3 then some (some q.2.2.1) else bif px_asn k w.2.1 then px_catch M pc k r else none) else none
    | none => none) else px_catch M pc k r
noncomputable def px_alln {α : Type} (f : α → Option (List px_F)) (l : List α) : Option (List px_F) := List.rec (some []) (fun q r ih => List.rec (f q) (fun _ _ _ => match f q with
  | some a => (match ih with
    | some b => some (a ++ b)
    | none => none)
  | none => none) r) l
/-- the call at an instruction: the callee's number, its arguments (the first one first), what stays -/
noncomputable def px_cS (x : Nat) (M : px_M) (st : List px_V) : Option (Nat × List px_V × List px_V) := match px_lk M x with
  | some q => bif Nat.beq q.1 2 then (match px_take q.2.2.1 st with
    | some w => some (q.2.1, w.1.reverse, w.2)
    | none => none) else none
  | none => none
noncomputable def px_cV (x : Nat) (M : px_M) (st : List px_V) (h : px_H) : Option (Nat × List px_V × List px_V) := match px_lk M x with
  | some q => bif Nat.beq q.1 3 then (match px_take q.2.2.1 st with
    | some w => (match w.2 with
      | .inr (.inr (some r)) :: rest => (match px_obj h r with
        | some o => bif Nat.beq o.1 q.2.2.2 then some (q.2.1, .inr (.inr (some r)) :: w.1.reverse, rest) else none
        | none => none)
      | _ => none)
    | none => none) else none
  | none => none
noncomputable def px_cI (x : Nat) (M : px_M) (st : List px_V) : Option (Nat × List px_V × List px_V) := match px_lk M x with
  | some q => bif Nat.beq q.1 4 || Nat.beq q.1 5 then (match px_take q.2.2.1 st with
    | some w => (match w.2 with
      | .inr (.inr (some r)) :: rest => some (q.2.1, .inr (.inr (some r)) :: w.1.reverse, rest)
      | _ => none)
    | none => none) else none
  | none => none
noncomputable def px_callB (i : Instr) : Option (px_M → List px_V → px_H → Option (Nat × List px_V × List px_V)) := match i with
  | .invokestatic x => some (fun M st _ => px_cS x M st)
  | .invokevirtual x => some (fun M st h => px_cV x M st h)
  | .invokespecial x => some (fun M st _ => px_cI x M st)
  | _ => none
/-- new, dup, the constructor without arguments, athrow: the exception's kind -/
noncomputable def px_throw (M : px_M) (pc : Nat) (i : Instr) : Option Nat := match i with
  | .new x => match px_lk M x, px_code M (pc + 3), px_code M (pc + 4), px_code M (pc + 7) with
    | some q, some (.dup, 1), some (.invokespecial y, 3), some (.athrow, 1) => (match px_lk M y with
      | some w => bif Nat.beq q.1 9 && Nat.beq w.1 7 && Nat.beq q.2.1 w.2.1 && M.2.1.2.2.2.isEmpty then some q.2.1 else none
      | none => none)
    | _, _, _, _ => none
  | _ => none
noncomputable def px_retB (i : Instr) : Option (Option FieldType → List px_V → Option (Option px_V)) := match i with
  | .return_ => some (fun t st => match st with
    | [] => (match t with
      | none => some none
      | some _ => none)
    | _ => none)
  | .ireturn => some (fun t st => match st with
    | [.inl a] => (match t with
      | some .int => some (some (.inl a))
      | some .boolean => (match a with
        | .inl n => bif px_ieq n 0 || px_ieq n 1 then some (some (.inl (.inl n))) else none
        | _ => none)
      | _ => none)
    | _ => none)
  | .lreturn => some (fun t st => match st with
    | [.inr (.inl a)] => (match t with
      | some .long => some (some (.inr (.inl a)))
      | _ => none)
    | _ => none)
  | _ => none
/-- a switch has no length of its own -/
noncomputable def px_isw (i : Instr) : Bool := match i with
  | .tableswitch _ _ _ _ => true
  | .lookupswitch _ _ => true
  | _ => false
abbrev px_R : Type := Option (List px_F)
abbrev px_Ih : Type := Nat → px_M → Nat → List (Nat × px_V) → List px_V → px_H → px_G → px_R
noncomputable def px_sP (ih : px_Ih) (d : Nat) (M : px_M) (pc len : Nat) (h : px_H) (g : px_G) (o : Option (List (Nat × px_V) × List px_V)) : px_R := match o with
  | some (L, st) => px_force (Nat.add pc len) (fun p => ih d M p L st h g)
  | none => none
noncomputable def px_sB (ih : px_Ih) (d : Nat) (M : px_M) (L : List (Nat × px_V)) (h : px_H) (o : Option px_S) : px_R := match o with
  | some S => px_alln (fun q => px_force q.1 (fun p => ih d M p L q.2.1 h q.2.2)) S
  | none => none
noncomputable def px_sN (ih : px_Ih) (d : Nat) (M : px_M) (L : List (Nat × px_V)) (S : px_N) : px_R := px_alln (fun q => px_force q.1 (fun p => ih d M p L q.2.1 q.2.2.1 q.2.2.2)) S
noncomputable def px_sK (ih : px_Ih) (d : Nat) (M : px_M) (pc : Nat) (L : List (Nat × px_V)) (rest : List px_V) (q : px_F) : px_R := match q.2.1 with
  | .inl none => px_force (Nat.add pc 3) (fun p => ih d M p L rest q.2.2 q.1)
  | .inl (some w) => px_force (Nat.add pc 3) (fun p => ih d M p L (w :: rest) q.2.2 q.1)
  | .inr r => match px_exc q.2.2 r with
    | some k => (match px_catch M pc k M.2.1.2.2.2 with
      | some (some t) => ih d M t L [.inr (.inr (some r))] q.2.2 q.1
      | some none => bif M.2.1.2.2.2.isEmpty then some [q] else none
      | none => none)
    | none => none
noncomputable def px_sC (P : px_P) (ih : px_Ih) (d : Nat) (M : px_M) (pc : Nat) (L : List (Nat × px_V)) (h : px_H) (g : px_G) (o : Option (Nat × List px_V × List px_V)) : px_R := match o with
  | some (y, as, rest) => (match px_nth P.1 y with
    | some M' => bif (Nat.blt 0 d && Nat.ble h.2.1 7302232) && Nat.ble (Nat.add (px_cat2 rest) (Nat.add M'.2.1.2.1 11)) 100 && Nat.ble (px_cat2 as) M'.2.1.2.1 then (match ih (Nat.pred d) M' 0 (px_argl 0 as) [] h g with
      | some ls => px_alln (px_sK ih d M pc L rest) ls
      | none => none) else none
    | none => none)
  | none => none
noncomputable def px_s4 (P : px_P) (ih : px_Ih) (d : Nat) (M : px_M) (pc : Nat) (L : List (Nat × px_V)) (st : List px_V) (h : px_H) (g : px_G) (i : Instr) : px_R := match px_callB i with
  | some f => px_sC P ih d M pc L h g (f M st h)
  | none => none
noncomputable def px_s3 (P : px_P) (ih : px_Ih) (d : Nat) (M : px_M) (pc : Nat) (L : List (Nat × px_V)) (st : List px_V) (h : px_H) (g : px_G) (i : Instr) : px_R := match px_throw M pc i with
  | some k => bif px_room h 1 6 && Nat.ble 6 d && Nat.ble (px_cat2 st) 20 then px_force h.1 (fun r => some [(g, .inr r, px_push h 6 (.inr (.inr k)))]) else none
  | none => match px_hpB i with
    | some f => (match f P M d pc st h g with
      | some S => px_sN ih d M L S
      | none => px_s4 P ih d M pc L st h g i)
    | none => px_s4 P ih d M pc L st h g i
noncomputable def px_s2 (P : px_P) (ih : px_Ih) (d : Nat) (M : px_M) (pc : Nat) (L : List (Nat × px_V)) (st : List px_V) (h : px_H) (g : px_G) (i : Instr) (len : Nat) : px_R := match px_brB i with
  | some f => bif Nat.beq len (px_len i) || px_isw i then px_sB ih d M L h (f pc st g) else none
  | none => bif Nat.beq len (px_len i) then (match px_retB i with
    | some f => (match f M.2.1.2.2.1 st with
      | some v => some [(g, .inl v, h)]
      | none => none)
    | none => px_s3 P ih d M pc L st h g i) else none
noncomputable def px_s1 (P : px_P) (ih : px_Ih) (d : Nat) (M : px_M) (pc : Nat) (L : List (Nat × px_V)) (st : List px_V) (h : px_H) (g : px_G) (o : Option (Instr × Nat)) : px_R := match o with
  | some (i, len) => (match px_pureB i with
    | some f => bif Nat.beq len (px_len i) then px_sP ih d M pc len h g (f M.2.1.2.1 g L st) else none
    | none => px_s2 P ih d M pc L st h g i len)
  | none => none
noncomputable def px_x (P : px_P) (n : Nat) : px_Ih := Nat.rec (fun _ _ _ _ _ _ _ => none) (fun _ ih d M pc L st h g => px_s1 P ih d M pc L st h g (px_code M pc)) n
end
section
/-! Written by wip/p1/gen.py out of the Statement: the classes, the array types, the Strings, and of each method that the first call can come to: bytes, the instructions that it can come to, what its pool says. -/
def pT_0 : u_T := fun k => match k with
  | 0 => ("TextAtlas", "tape", "[B", true)
  | 1 => ("TextAtlas", "tapeLength", "I", false)
  | 2 => ("TextAtlas", "result", "[B", true)
  | 3 => ("TextAtlas", "resultLength", "I", false)
  | 4 => ("TextAtlas", "slots", "[LTextAtlas$Text;", true)
  | 5 => ("TextAtlas", "made", "LTextAtlas$Text;", true)
  | 6 => ("TextAtlas", "spare", "LTextAtlas$Text;", true)
  | 7 => ("TextAtlas", "other", "LTextAtlas$Text;", true)
  | 8 => ("TextAtlas", "data", "LTextAtlas$Data;", true)
  | 9 => ("TextAtlas", "reader", "LTextAtlas$Reader;", true)
  | 10 => ("TextAtlas", "decompositions", "LTextAtlas$Decompositions;", true)
  | 11 => ("TextAtlas", "forms", "LTextAtlas$Forms;", true)
  | 12 => ("TextAtlas", "breaks", "LTextAtlas$Breaks;", true)
  | 13 => ("TextAtlas", "casing", "LTextAtlas$Casing;", true)
  | 14 => ("TextAtlas", "left", "LTextAtlas$Collation;", true)
  | _ => ("TextAtlas", "right", "LTextAtlas$Collation;", true)
def pT_1 : u_T := fun k => match k with
  | 0 => ("TextAtlas$Text", "points", "[I", true)
  | _ => ("TextAtlas$Text", "length", "I", false)
def pT_2 : u_T := fun k => match k with
  | 0 => ("TextAtlas$Data", "spans", "[LTextAtlas$Span;", true)
  | 1 => ("TextAtlas$Data", "spanCount", "I", false)
  | 2 => ("TextAtlas$Data", "rows", "[J", true)
  | 3 => ("TextAtlas$Data", "entries", "[LTextAtlas$Entry;", true)
  | 4 => ("TextAtlas$Data", "entryCount", "I", false)
  | 5 => ("TextAtlas$Data", "lines", "I", false)
  | 6 => ("TextAtlas$Data", "sealed", "Z", false)
  | _ => ("TextAtlas$Data", "untold", "LTextAtlas$Fact;", true)
def pT_3 : u_T := fun k => match k with
  | 0 => ("TextAtlas$Fact", "first", "I", false)
  | 1 => ("TextAtlas$Fact", "category", "I", false)
  | 2 => ("TextAtlas$Fact", "combiningClass", "I", false)
  | 3 => ("TextAtlas$Fact", "row", "[I", false)
  | 4 => ("TextAtlas$Fact", "compatible", "Z", false)
  | 5 => ("TextAtlas$Fact", "upper", "I", false)
  | 6 => ("TextAtlas$Fact", "lower", "I", false)
  | 7 => ("TextAtlas$Fact", "title", "I", false)
  | 8 => ("TextAtlas$Fact", "visit", "I", false)
  | 9 => ("TextAtlas$Fact", "canonicalAt", "I", false)
  | 10 => ("TextAtlas$Fact", "canonicalLength", "I", false)
  | 11 => ("TextAtlas$Fact", "compatibleAt", "I", false)
  | _ => ("TextAtlas$Fact", "compatibleLength", "I", false)
def pT_4 : u_T := fun k => match k with
  | 0 => ("TextAtlas$Span", "first", "I", false)
  | 1 => ("TextAtlas$Span", "fact", "LTextAtlas$Fact;", false)
  | 2 => ("TextAtlas$Span", "traits", "I", false)
  | 3 => ("TextAtlas$Span", "graphemeBreak", "I", false)
  | 4 => ("TextAtlas$Span", "wordBreak", "I", false)
  | 5 => ("TextAtlas$Span", "foldCommon", "[I", false)
  | 6 => ("TextAtlas$Span", "foldFull", "[I", false)
  | 7 => ("TextAtlas$Span", "foldTurkic", "[I", false)
  | _ => ("TextAtlas$Span", "special", "LTextAtlas$Special;", false)
def pT_5 : u_T := fun k => match k with
  | 0 => ("TextAtlas$Reader", "tape", "[B", true)
  | 1 => ("TextAtlas$Reader", "data", "LTextAtlas$Data;", true)
  | 2 => ("TextAtlas$Reader", "from", "[I", true)
  | 3 => ("TextAtlas$Reader", "to", "[I", true)
  | 4 => ("TextAtlas$Reader", "first", "I", false)
  | _ => ("TextAtlas$Reader", "last", "I", false)
def pT_6 : u_T := fun k => match k with
  | 0 => ("TextAtlas$Decompositions", "data", "LTextAtlas$Data;", true)
  | 1 => ("TextAtlas$Decompositions", "pool", "[I", true)
  | 2 => ("TextAtlas$Decompositions", "used", "I", false)
  | 3 => ("TextAtlas$Decompositions", "path", "[LTextAtlas$Fact;", true)
  | 4 => ("TextAtlas$Decompositions", "places", "[I", true)
  | 5 => ("TextAtlas$Decompositions", "depth", "I", false)
  | 6 => ("TextAtlas$Decompositions", "pairs", "[J", true)
  | 7 => ("TextAtlas$Decompositions", "composites", "[I", true)
  | _ => ("TextAtlas$Decompositions", "pairCount", "I", false)
def pT_7 : u_T := fun k => match k with
  | 0 => ("TextAtlas$Forms", "data", "LTextAtlas$Data;", true)
  | 1 => ("TextAtlas$Forms", "decompositions", "LTextAtlas$Decompositions;", true)
  | 2 => ("TextAtlas$Forms", "classes", "[I", true)
  | 3 => ("TextAtlas$Forms", "heldPoints", "[I", true)
  | _ => ("TextAtlas$Forms", "heldClasses", "[I", true)
def pT_8 : u_T := fun k => match k with
  | 0 => ("TextAtlas$Breaks", "data", "LTextAtlas$Data;", true)
  | 1 => ("TextAtlas$Breaks", "values", "[I", true)
  | 2 => ("TextAtlas$Breaks", "pictographic", "[Z", true)
  | 3 => ("TextAtlas$Breaks", "bases", "[I", true)
  | 4 => ("TextAtlas$Breaks", "oddRegional", "[Z", true)
  | 5 => ("TextAtlas$Breaks", "length", "I", false)
  | _ => ("TextAtlas$Breaks", "words", "Z", false)
def pT_9 : u_T := fun k => match k with
  | 0 => ("TextAtlas$Casing", "data", "LTextAtlas$Data;", true)
  | 1 => ("TextAtlas$Casing", "breaks", "LTextAtlas$Breaks;", true)
  | 2 => ("TextAtlas$Casing", "places", "[I", true)
  | 3 => ("TextAtlas$Casing", "classes", "[I", true)
  | 4 => ("TextAtlas$Casing", "traits", "[I", true)
  | 5 => ("TextAtlas$Casing", "cased", "[Z", true)
  | 6 => ("TextAtlas$Casing", "points", "[I", false)
  | 7 => ("TextAtlas$Casing", "length", "I", false)
  | 8 => ("TextAtlas$Casing", "locale", "I", false)
  | _ => ("TextAtlas$Casing", "titled", "Z", false)
def pT_10 : u_T := fun k => match k with
  | 0 => ("TextAtlas$Collation", "data", "LTextAtlas$Data;", true)
  | 1 => ("TextAtlas$Collation", "forms", "LTextAtlas$Forms;", true)
  | 2 => ("TextAtlas$Collation", "rest", "LTextAtlas$Text;", true)
  | 3 => ("TextAtlas$Collation", "classes", "[I", true)
  | 4 => ("TextAtlas$Collation", "items", "[J", true)
  | 5 => ("TextAtlas$Collation", "itemCount", "I", false)
  | 6 => ("TextAtlas$Collation", "shifted", "Z", false)
  | _ => ("TextAtlas$Collation", "behindVariable", "Z", false)
def pT_11 : u_T := fun k => match k with
  | 0 => ("TextAtlasModel", "failed", "I", false)
  | 1 => ("TextAtlasModel", "tape", "[B", true)
  | 2 => ("TextAtlasModel", "taped", "I", false)
  | 3 => ("TextAtlasModel", "result", "[B", true)
  | 4 => ("TextAtlasModel", "size", "I", false)
  | 5 => ("TextAtlasModel", "texts", "[[I", true)
  | 6 => ("TextAtlasModel", "sizes", "[I", true)
  | 7 => ("TextAtlasModel", "sealed", "Z", false)
  | 8 => ("TextAtlasModel", "taken", "I", false)
  | 9 => ("TextAtlasModel", "pool", "[I", false)
  | 10 => ("TextAtlasModel", "pooled", "I", false)
  | 11 => ("TextAtlasModel", "lines", "[LTextAtlasModel$Line;", false)
  | 12 => ("TextAtlasModel", "lineCount", "I", false)
  | 13 => ("TextAtlasModel", "conditionNames", "[Ljava/lang/String;", true)
  | 14 => ("TextAtlasModel", "propertyNames", "[Ljava/lang/String;", true)
  | 15 => ("TextAtlasModel", "clusterNames", "[Ljava/lang/String;", true)
  | 16 => ("TextAtlasModel", "wordNames", "[Ljava/lang/String;", true)
  | 17 => ("TextAtlasModel", "at", "I", false)
  | 18 => ("TextAtlasModel", "stop", "I", false)
  | 19 => ("TextAtlasModel", "fieldFrom", "[I", true)
  | 20 => ("TextAtlasModel", "fieldTo", "[I", true)
  | 21 => ("TextAtlasModel", "decomposed", "[I", false)
  | 22 => ("TextAtlasModel", "by", "[LTextAtlasModel$Line;", false)
  | 23 => ("TextAtlasModel", "decomposedCount", "I", false)
  | 24 => ("TextAtlasModel", "stack", "[I", false)
  | 25 => ("TextAtlasModel", "stacked", "I", false)
  | 26 => ("TextAtlasModel", "full", "[I", true)
  | 27 => ("TextAtlasModel", "pairs", "[I", false)
  | 28 => ("TextAtlasModel", "pairCount", "I", false)
  | 29 => ("TextAtlasModel", "made", "[I", false)
  | 30 => ("TextAtlasModel", "madeSize", "I", false)
  | 31 => ("TextAtlasModel", "kept", "[I", true)
  | 32 => ("TextAtlasModel", "rankOf", "[I", true)
  | 33 => ("TextAtlasModel", "keptSize", "I", false)
  | 34 => ("TextAtlasModel", "first", "[I", true)
  | 35 => ("TextAtlasModel", "elements", "[I", false)
  | 36 => ("TextAtlasModel", "elementCount", "I", false)
  | 37 => ("TextAtlasModel", "start", "[I", true)
  | 38 => ("TextAtlasModel", "fourths", "[I", false)
  | 39 => ("TextAtlasModel", "other", "[B", false)
  | 40 => ("TextAtlasModel", "key", "[B", false)
  | _ => ("TextAtlasModel", "keySize", "I", false)
def pT_12 : u_T := fun k => match k with
  | 0 => ("TextAtlasModel$Line", "kind", "I", false)
  | 1 => ("TextAtlasModel$Line", "from", "I", false)
  | 2 => ("TextAtlasModel$Line", "to", "I", false)
  | 3 => ("TextAtlasModel$Line", "category", "I", false)
  | 4 => ("TextAtlasModel$Line", "rank", "I", false)
  | 5 => ("TextAtlasModel$Line", "type", "I", false)
  | 6 => ("TextAtlasModel$Line", "value", "I", false)
  | 7 => ("TextAtlasModel$Line", "starts", "[I", true)
  | 8 => ("TextAtlasModel$Line", "counts", "[I", true)
  | 9 => ("TextAtlasModel$Line", "upper", "I", false)
  | 10 => ("TextAtlasModel$Line", "lower", "I", false)
  | 11 => ("TextAtlasModel$Line", "title", "I", false)
  | _ => ("TextAtlasModel$Line", "conditions", "I", false)
def px_cl : List vw_C := [("TextAtlas", pT_0, 16), ("TextAtlas$Text", pT_1, 2), ("TextAtlas$Data", pT_2, 8), ("TextAtlas$Fact", pT_3, 13), ("TextAtlas$Span", pT_4, 9), ("TextAtlas$Reader", pT_5, 6), ("TextAtlas$Decompositions", pT_6, 9), ("TextAtlas$Forms", pT_7, 5), ("TextAtlas$Breaks", pT_8, 7), ("TextAtlas$Casing", pT_9, 10), ("TextAtlas$Collation", pT_10, 8), ("TextAtlasModel", pT_11, 42), ("TextAtlasModel$Line", pT_12, 13)]
def px_tl : List (List Nat) := [[3, 0, 3, 0, 3, 3, 3, 3, 3, 3, 3, 3, 3, 3, 3, 3], [3, 0], [3, 0, 3, 3, 0, 0, 1, 3], [0, 0, 0, 3, 1, 0, 0, 0, 0, 0, 0, 0, 0], [0, 3, 0, 0, 0, 3, 3, 3, 3], [3, 3, 3, 3, 0, 0], [3, 3, 0, 3, 3, 0, 3, 3, 0], [3, 3, 3, 3, 3], [3, 3, 3, 3, 3, 0, 1], [3, 3, 3, 3, 3, 3, 3, 0, 0, 1], [3, 3, 3, 3, 3, 0, 1, 1], [0, 3, 0, 3, 0, 3, 3, 1, 0, 3, 0, 3, 0, 3, 3, 3, 3, 0, 0, 3, 3, 3, 3, 0, 3, 0, 3, 3, 0, 3, 0, 3, 3, 0, 3, 3, 0, 3, 3, 3, 3, 0], [0, 0, 0, 0, 0, 0, 0, 3, 3, 0, 0, 0, 0]]
def px_ty : List FieldType := [.byte, .int, .long, .boolean, .object "TextAtlas$Text", .object "TextAtlas$Span", .object "TextAtlas$Entry", .object "TextAtlas$Fact", .object "TextAtlasModel$Line", .object "java/lang/String", .array .int]
def px_td : List (Nat × Nat) := [(0, 97), (0, 97), (2, 97), (1, 97), (3, 1), (3, 4), (3, 96), (3, 3), (3, 12), (3, 99), (3, 98)]
def px_ex : List String := ["java/lang/IndexOutOfBoundsException", "java/lang/IllegalArgumentException", "java/lang/IllegalStateException", "java/lang/UnsupportedOperationException", "java/lang/ArithmeticException"]
def px_str : List (String × Nat × String) := [("TextAtlasModel", 37, "tr"), ("TextAtlasModel", 39, "az"), ("TextAtlasModel", 41, "lt"), ("TextAtlasModel", 43, "Final_Sigma"), ("TextAtlasModel", 45, "After_Soft_Dotted"), ("TextAtlasModel", 47, "More_Above"), ("TextAtlasModel", 49, "Before_Dot"), ("TextAtlasModel", 51, "Not_Before_Dot"), ("TextAtlasModel", 53, "After_I"), ("TextAtlasModel", 59, "Composition_Exclusion"), ("TextAtlasModel", 61, "Case_Ignorable"), ("TextAtlasModel", 63, "Cased"), ("TextAtlasModel", 65, "Soft_Dotted"), ("TextAtlasModel", 67, "Extended_Pictographic"), ("TextAtlasModel", 69, "Unified_Ideograph"), ("TextAtlasModel", 74, "Other"), ("TextAtlasModel", 76, "CR"), ("TextAtlasModel", 78, "LF"), ("TextAtlasModel", 80, "Control"), ("TextAtlasModel", 82, "Extend"), ("TextAtlasModel", 84, "ZWJ"), ("TextAtlasModel", 86, "Regional_Indicator"), ("TextAtlasModel", 88, "Prepend"), ("TextAtlasModel", 90, "SpacingMark"), ("TextAtlasModel", 92, "L"), ("TextAtlasModel", 94, "V"), ("TextAtlasModel", 96, "T"), ("TextAtlasModel", 98, "LV"), ("TextAtlasModel", 100, "LVT"), ("TextAtlasModel", 105, "Newline"), ("TextAtlasModel", 107, "Format"), ("TextAtlasModel", 109, "Katakana"), ("TextAtlasModel", 111, "Hebrew_Letter"), ("TextAtlasModel", 113, "ALetter"), ("TextAtlasModel", 115, "MidLetter"), ("TextAtlasModel", 117, "MidNum"), ("TextAtlasModel", 119, "MidNumLet"), ("TextAtlasModel", 121, "Single_Quote"), ("TextAtlasModel", 123, "Double_Quote"), ("TextAtlasModel", 125, "Numeric"), ("TextAtlasModel", 127, "ExtendNumLet"), ("TextAtlasModel", 129, "WSegSpace")]
def pr_0_0 : List (Nat × Instr × Nat) := [(0, .new 8, 3), (3, .dup, 1), (4, .invokespecial 96, 3), (7, .astore_n 1, 1), (8, .new 97, 3), (11, .dup, 1), (12, .invokespecial 99, 3), (15, .astore_n 2, 1)]
def pr_0_1 : List (Nat × Instr × Nat) := [(16, .iconst 1, 1), (17, .newarray .long, 2), (19, .astore_n 3, 1), (20, .iconst 0, 1), (21, .istore 4, 2), (23, .iload 4, 2), (25, .aload_n 0, 1), (26, .arraylength, 1), (27, .bipush 6, 2), (29, .isub, 1), (30, .if_icmp .gt 1797, 3)]
def pr_0_2 : List (Nat × Instr × Nat) := [(33, .aload_n 0, 1), (34, .iload 4, 2), (36, .iaload, 1), (37, .bipush 31, 2), (39, .iand, 1), (40, .tableswitch 1781 0 22 #[108, 212, 268, 324, 368, 381, 437, 505, 597, 665, 721, 801, 876, 968, 1060, 1147, 1234, 1342, 1438, 1546, 1614, 1670, 1725], 108)]
def pr_0_9 : List (Nat × Instr × Nat) := [(148, .aload_n 1, 1), (149, .aload_n 0, 1), (150, .iload 4, 2), (152, .iconst 1, 1), (153, .iadd, 1), (154, .iaload, 1), (155, .aload_n 0, 1), (156, .iload 4, 2), (158, .iconst 2, 1), (159, .iadd, 1)]
def pr_0_10 : List (Nat × Instr × Nat) := [(160, .iaload, 1), (161, .aload_n 0, 1), (162, .iload 4, 2), (164, .iconst 3, 1), (165, .iadd, 1), (166, .iaload, 1), (167, .aload_n 0, 1), (168, .iload 4, 2), (170, .iconst 4, 1), (171, .iadd, 1), (172, .iaload, 1), (173, .aload_n 0, 1), (174, .iload 4, 2)]
def pr_0_11 : List (Nat × Instr × Nat) := [(176, .iconst 5, 1), (177, .iadd, 1), (178, .iaload, 1), (179, .aload_n 3, 1), (180, .invokestatic 100, 3), (183, .istore 5, 2), (185, .aload_n 2, 1), (186, .aload_n 0, 1), (187, .iload 4, 2), (189, .iconst 1, 1), (190, .iadd, 1), (191, .iaload, 1)]
def pr_0_12 : List (Nat × Instr × Nat) := [(192, .aload_n 0, 1), (193, .iload 4, 2), (195, .iconst 2, 1), (196, .iadd, 1), (197, .iaload, 1), (198, .aload_n 0, 1), (199, .iload 4, 2), (201, .iconst 3, 1), (202, .iadd, 1), (203, .iaload, 1), (204, .aload_n 0, 1), (205, .iload 4, 2), (207, .iconst 4, 1)]
def pr_0_13 : List (Nat × Instr × Nat) := [(208, .iadd, 1), (209, .iaload, 1), (210, .aload_n 0, 1), (211, .iload 4, 2), (213, .iconst 5, 1), (214, .iadd, 1), (215, .iaload, 1), (216, .invokevirtual 105, 3), (219, .istore 6, 2), (221, .aload_n 2, 1), (222, .invokevirtual 106, 3)]
def pr_0_14 : List (Nat × Instr × Nat) := [(225, .iload 5, 2), (227, .if_icmp .eq 5, 3), (232, .iload 5, 2), (234, .ifCond .ne 15, 3), (237, .aload_n 3, 1), (238, .iconst 0, 1), (239, .laload, 1)]
def pr_0_15 : List (Nat × Instr × Nat) := [(240, .iload 6, 2), (242, .i2l, 1), (243, .lcmp, 1), (244, .ifCond .eq 5, 3), (249, .goto 1572, 3), (252, .aload_n 1, 1), (253, .aload_n 0, 1), (254, .iload 4, 2)]
def pr_0_16 : List (Nat × Instr × Nat) := [(256, .iconst 1, 1), (257, .iadd, 1), (258, .iaload, 1), (259, .aload_n 3, 1), (260, .invokestatic 109, 3), (263, .istore 5, 2), (265, .aload_n 2, 1), (266, .aload_n 0, 1), (267, .iload 4, 2), (269, .iconst 1, 1), (270, .iadd, 1), (271, .iaload, 1)]
def pr_0_17 : List (Nat × Instr × Nat) := [(272, .invokevirtual 112, 3), (275, .istore 6, 2), (277, .aload_n 2, 1), (278, .invokevirtual 106, 3), (281, .iload 5, 2), (283, .if_icmp .eq 5, 3)]
def pr_0_18 : List (Nat × Instr × Nat) := [(288, .iload 5, 2), (290, .ifCond .ne 15, 3), (293, .aload_n 3, 1), (294, .iconst 0, 1), (295, .laload, 1), (296, .iload 6, 2), (298, .i2l, 1), (299, .lcmp, 1), (300, .ifCond .eq 5, 3)]
def pr_0_19 : List (Nat × Instr × Nat) := [(305, .goto 1516, 3), (308, .aload_n 1, 1), (309, .aload_n 0, 1), (310, .iload 4, 2), (312, .iconst 1, 1), (313, .iadd, 1), (314, .iaload, 1), (315, .aload_n 3, 1), (316, .invokestatic 113, 3), (319, .istore 5, 2)]
def pr_0_20 : List (Nat × Instr × Nat) := [(321, .aload_n 2, 1), (322, .aload_n 0, 1), (323, .iload 4, 2), (325, .iconst 1, 1), (326, .iadd, 1), (327, .iaload, 1), (328, .invokevirtual 115, 3), (331, .istore 6, 2), (333, .aload_n 2, 1), (334, .invokevirtual 106, 3)]
def pr_0_21 : List (Nat × Instr × Nat) := [(337, .iload 5, 2), (339, .if_icmp .eq 5, 3), (344, .iload 5, 2), (346, .ifCond .ne 15, 3)]
def pr_0_22 : List (Nat × Instr × Nat) := [(361, .goto 1460, 3), (364, .aload_n 1, 1), (365, .aload_n 3, 1), (366, .invokestatic 116, 3)]
def pr_0_23 : List (Nat × Instr × Nat) := [(369, .istore 5, 2), (371, .aload_n 2, 1), (372, .invokevirtual 119, 3), (375, .istore 6, 2), (377, .aload_n 2, 1), (378, .invokevirtual 106, 3), (381, .iload 5, 2), (383, .if_icmp .eq 5, 3)]
def pr_0_24 : List (Nat × Instr × Nat) := [(388, .iload 5, 2), (390, .ifCond .ne 15, 3), (393, .aload_n 3, 1), (394, .iconst 0, 1), (395, .laload, 1), (396, .iload 6, 2), (398, .i2l, 1), (399, .lcmp, 1)]
def pr_0_25 : List (Nat × Instr × Nat) := [(400, .ifCond .eq 5, 3), (405, .goto 1416, 3), (408, .aload_n 1, 1), (409, .invokevirtual 120, 3), (412, .aload_n 2, 1), (413, .invokevirtual 123, 3)]
def pr_0_26 : List (Nat × Instr × Nat) := [(416, .if_icmp .eq 1405, 3), (421, .aload_n 1, 1), (422, .aload_n 0, 1), (423, .iload 4, 2), (425, .iconst 1, 1), (426, .iadd, 1), (427, .iaload, 1), (428, .aload_n 3, 1), (429, .invokestatic 124, 3)]
def pr_0_27 : List (Nat × Instr × Nat) := [(432, .istore 5, 2), (434, .aload_n 2, 1), (435, .aload_n 0, 1), (436, .iload 4, 2), (438, .iconst 1, 1), (439, .iadd, 1), (440, .iaload, 1), (441, .invokevirtual 126, 3), (444, .istore 6, 2), (446, .aload_n 2, 1), (447, .invokevirtual 106, 3)]
def pr_0_28 : List (Nat × Instr × Nat) := [(450, .iload 5, 2), (452, .if_icmp .eq 5, 3), (457, .iload 5, 2), (459, .ifCond .ne 15, 3), (462, .aload_n 3, 1), (463, .iconst 0, 1)]
def pr_0_29 : List (Nat × Instr × Nat) := [(464, .laload, 1), (465, .iload 6, 2), (467, .i2l, 1), (468, .lcmp, 1), (469, .ifCond .eq 5, 3), (474, .goto 1347, 3), (477, .aload_n 1, 1), (478, .aload_n 0, 1), (479, .iload 4, 2)]
def pr_0_30 : List (Nat × Instr × Nat) := [(481, .iconst 1, 1), (482, .iadd, 1), (483, .iaload, 1), (484, .aload_n 0, 1), (485, .iload 4, 2), (487, .iconst 2, 1), (488, .iadd, 1), (489, .iaload, 1), (490, .aload_n 3, 1), (491, .invokestatic 127, 3), (494, .istore 5, 2)]
def pr_0_31 : List (Nat × Instr × Nat) := [(496, .aload_n 2, 1), (497, .aload_n 0, 1), (498, .iload 4, 2), (500, .iconst 1, 1), (501, .iadd, 1), (502, .iaload, 1), (503, .aload_n 0, 1), (504, .iload 4, 2), (506, .iconst 2, 1), (507, .iadd, 1), (508, .iaload, 1), (509, .invokevirtual 130, 3)]
def pr_0_32 : List (Nat × Instr × Nat) := [(512, .istore 6, 2), (514, .aload_n 2, 1), (515, .invokevirtual 106, 3), (518, .iload 5, 2), (520, .if_icmp .eq 5, 3), (525, .iload 5, 2), (527, .ifCond .ne 15, 3)]
def pr_0_33 : List (Nat × Instr × Nat) := [(530, .aload_n 3, 1), (531, .iconst 0, 1), (532, .laload, 1), (533, .iload 6, 2), (535, .i2l, 1), (536, .lcmp, 1), (537, .ifCond .eq 5, 3), (542, .goto 1279, 3)]
def pr_0_34 : List (Nat × Instr × Nat) := [(545, .aload_n 1, 1), (546, .aload_n 0, 1), (547, .iload 4, 2), (549, .iconst 1, 1), (550, .iadd, 1), (551, .iaload, 1), (552, .aload_n 0, 1), (553, .iload 4, 2), (555, .iconst 2, 1), (556, .iadd, 1), (557, .iaload, 1), (558, .aload_n 0, 1), (559, .iload 4, 2)]
def pr_0_35 : List (Nat × Instr × Nat) := [(561, .iconst 3, 1), (562, .iadd, 1), (563, .iaload, 1), (564, .aload_n 0, 1), (565, .iload 4, 2), (567, .iconst 4, 1), (568, .iadd, 1), (569, .iaload, 1), (570, .aload_n 3, 1), (571, .invokestatic 131, 3), (574, .istore 5, 2)]
def pr_0_36 : List (Nat × Instr × Nat) := [(576, .aload_n 2, 1), (577, .aload_n 0, 1), (578, .iload 4, 2), (580, .iconst 1, 1), (581, .iadd, 1), (582, .iaload, 1), (583, .aload_n 0, 1), (584, .iload 4, 2), (586, .iconst 2, 1), (587, .iadd, 1), (588, .iaload, 1), (589, .aload_n 0, 1), (590, .iload 4, 2)]
def pr_0_37 : List (Nat × Instr × Nat) := [(592, .iconst 3, 1), (593, .iadd, 1), (594, .iaload, 1), (595, .aload_n 0, 1), (596, .iload 4, 2), (598, .iconst 4, 1), (599, .iadd, 1), (600, .iaload, 1), (601, .invokevirtual 134, 3), (604, .istore 6, 2), (606, .aload_n 2, 1), (607, .invokevirtual 106, 3)]
def pr_0_38 : List (Nat × Instr × Nat) := [(610, .iload 5, 2), (612, .if_icmp .eq 5, 3), (617, .iload 5, 2), (619, .ifCond .ne 15, 3), (622, .aload_n 3, 1), (623, .iconst 0, 1)]
def pr_0_39 : List (Nat × Instr × Nat) := [(624, .laload, 1), (625, .iload 6, 2), (627, .i2l, 1), (628, .lcmp, 1), (629, .ifCond .eq 5, 3), (634, .goto 1187, 3), (637, .aload_n 1, 1), (638, .aload_n 0, 1), (639, .iload 4, 2)]
def pr_0_40 : List (Nat × Instr × Nat) := [(641, .iconst 1, 1), (642, .iadd, 1), (643, .iaload, 1), (644, .aload_n 0, 1), (645, .iload 4, 2), (647, .iconst 2, 1), (648, .iadd, 1), (649, .iaload, 1), (650, .aload_n 3, 1), (651, .invokestatic 135, 3), (654, .istore 5, 2)]
def pr_0_41 : List (Nat × Instr × Nat) := [(656, .aload_n 2, 1), (657, .aload_n 0, 1), (658, .iload 4, 2), (660, .iconst 1, 1), (661, .iadd, 1), (662, .iaload, 1), (663, .aload_n 0, 1), (664, .iload 4, 2), (666, .iconst 2, 1), (667, .iadd, 1), (668, .iaload, 1), (669, .invokevirtual 137, 3)]
def pr_0_42 : List (Nat × Instr × Nat) := [(672, .istore 6, 2), (674, .aload_n 2, 1), (675, .invokevirtual 106, 3), (678, .iload 5, 2), (680, .if_icmp .eq 5, 3), (685, .iload 5, 2), (687, .ifCond .ne 15, 3)]
def pr_0_43 : List (Nat × Instr × Nat) := [(702, .goto 1119, 3)]
def pr_0_44 : List (Nat × Instr × Nat) := [(705, .aload_n 1, 1), (706, .aload_n 0, 1), (707, .iload 4, 2), (709, .iconst 1, 1), (710, .iadd, 1), (711, .iaload, 1), (712, .aload_n 3, 1), (713, .invokestatic 138, 3), (716, .istore 5, 2), (718, .aload_n 2, 1), (719, .aload_n 0, 1)]
def pr_0_45 : List (Nat × Instr × Nat) := [(720, .iload 4, 2), (722, .iconst 1, 1), (723, .iadd, 1), (724, .iaload, 1), (725, .invokevirtual 140, 3), (728, .istore 6, 2), (730, .aload_n 2, 1), (731, .invokevirtual 106, 3), (734, .iload 5, 2)]
def pr_0_46 : List (Nat × Instr × Nat) := [(736, .if_icmp .eq 5, 3), (741, .iload 5, 2), (743, .ifCond .ne 15, 3), (746, .aload_n 3, 1), (747, .iconst 0, 1), (748, .laload, 1), (749, .iload 6, 2), (751, .i2l, 1)]
def pr_0_47 : List (Nat × Instr × Nat) := [(752, .lcmp, 1), (753, .ifCond .eq 5, 3), (758, .goto 1063, 3), (761, .aload_n 1, 1), (762, .aload_n 0, 1), (763, .iload 4, 2), (765, .iconst 1, 1), (766, .iadd, 1), (767, .iaload, 1)]
def pr_0_48 : List (Nat × Instr × Nat) := [(768, .aload_n 0, 1), (769, .iload 4, 2), (771, .iconst 2, 1), (772, .iadd, 1), (773, .iaload, 1), (774, .aload_n 0, 1), (775, .iload 4, 2), (777, .iconst 3, 1), (778, .iadd, 1), (779, .iaload, 1), (780, .aload_n 3, 1), (781, .invokestatic 141, 3)]
def pr_0_49 : List (Nat × Instr × Nat) := [(784, .istore 5, 2), (786, .aload_n 2, 1), (787, .aload_n 0, 1), (788, .iload 4, 2), (790, .iconst 1, 1), (791, .iadd, 1), (792, .iaload, 1), (793, .aload_n 0, 1), (794, .iload 4, 2), (796, .iconst 2, 1), (797, .iadd, 1), (798, .iaload, 1), (799, .aload_n 0, 1)]
def pr_0_50 : List (Nat × Instr × Nat) := [(800, .iload 4, 2), (802, .iconst 3, 1), (803, .iadd, 1), (804, .iaload, 1), (805, .invokevirtual 144, 3), (808, .istore 6, 2), (810, .aload_n 2, 1), (811, .invokevirtual 106, 3), (814, .iload 5, 2)]
def pr_0_51 : List (Nat × Instr × Nat) := [(816, .if_icmp .eq 5, 3), (821, .iload 5, 2), (823, .ifCond .ne 15, 3)]
def pr_0_52 : List (Nat × Instr × Nat) := [(838, .goto 983, 3), (841, .aload_n 1, 1), (842, .aload_n 0, 1), (843, .iload 4, 2), (845, .iconst 1, 1), (846, .iadd, 1), (847, .iaload, 1)]
def pr_0_53 : List (Nat × Instr × Nat) := [(848, .aload_n 0, 1), (849, .iload 4, 2), (851, .iconst 2, 1), (852, .iadd, 1), (853, .iaload, 1), (854, .aload_n 3, 1), (855, .invokestatic 145, 3), (858, .istore 5, 2), (860, .aload_n 2, 1), (861, .aload_n 0, 1), (862, .iload 4, 2)]
def pr_0_54 : List (Nat × Instr × Nat) := [(864, .iconst 1, 1), (865, .iadd, 1), (866, .iaload, 1), (867, .aload_n 0, 1), (868, .iload 4, 2), (870, .iconst 2, 1), (871, .iadd, 1), (872, .iaload, 1), (873, .invokevirtual 147, 3), (876, .istore 6, 2), (878, .aload_n 2, 1), (879, .invokevirtual 106, 3)]
def pr_0_55 : List (Nat × Instr × Nat) := [(882, .iload 5, 2), (884, .if_icmp .eq 5, 3), (889, .iload 5, 2), (891, .ifCond .ne 22, 3)]
def pr_0_57 : List (Nat × Instr × Nat) := [(913, .goto 908, 3), (916, .aload_n 1, 1), (917, .aload_n 0, 1), (918, .iload 4, 2), (920, .iconst 1, 1), (921, .iadd, 1), (922, .iaload, 1), (923, .aload_n 0, 1), (924, .iload 4, 2), (926, .iconst 2, 1), (927, .iadd, 1)]
def pr_0_58 : List (Nat × Instr × Nat) := [(928, .iaload, 1), (929, .aload_n 0, 1), (930, .iload 4, 2), (932, .iconst 3, 1), (933, .iadd, 1), (934, .iaload, 1), (935, .aload_n 0, 1), (936, .iload 4, 2), (938, .iconst 4, 1), (939, .iadd, 1), (940, .iaload, 1), (941, .aload_n 3, 1), (942, .invokestatic 148, 3)]
def pr_0_59 : List (Nat × Instr × Nat) := [(945, .istore 5, 2), (947, .aload_n 2, 1), (948, .aload_n 0, 1), (949, .iload 4, 2), (951, .iconst 1, 1), (952, .iadd, 1), (953, .iaload, 1), (954, .aload_n 0, 1), (955, .iload 4, 2), (957, .iconst 2, 1), (958, .iadd, 1), (959, .iaload, 1)]
def pr_0_60 : List (Nat × Instr × Nat) := [(960, .aload_n 0, 1), (961, .iload 4, 2), (963, .iconst 3, 1), (964, .iadd, 1), (965, .iaload, 1), (966, .aload_n 0, 1), (967, .iload 4, 2), (969, .iconst 4, 1), (970, .iadd, 1), (971, .iaload, 1), (972, .invokevirtual 150, 3), (975, .istore 6, 2)]
def pr_0_61 : List (Nat × Instr × Nat) := [(977, .aload_n 2, 1), (978, .invokevirtual 106, 3), (981, .iload 5, 2), (983, .if_icmp .eq 5, 3), (988, .iload 5, 2), (990, .ifCond .ne 15, 3)]
def pr_0_62 : List (Nat × Instr × Nat) := [(1005, .goto 816, 3)]
def pr_0_63 : List (Nat × Instr × Nat) := [(1008, .aload_n 1, 1), (1009, .aload_n 0, 1), (1010, .iload 4, 2), (1012, .iconst 1, 1), (1013, .iadd, 1), (1014, .iaload, 1), (1015, .aload_n 0, 1), (1016, .iload 4, 2), (1018, .iconst 2, 1), (1019, .iadd, 1), (1020, .iaload, 1), (1021, .aload_n 0, 1), (1022, .iload 4, 2)]
def pr_0_64 : List (Nat × Instr × Nat) := [(1024, .iconst 3, 1), (1025, .iadd, 1), (1026, .iaload, 1), (1027, .aload_n 0, 1), (1028, .iload 4, 2), (1030, .iconst 4, 1), (1031, .iadd, 1), (1032, .iaload, 1), (1033, .aload_n 3, 1), (1034, .invokestatic 151, 3), (1037, .istore 5, 2), (1039, .aload_n 2, 1)]
def pr_0_65 : List (Nat × Instr × Nat) := [(1040, .aload_n 0, 1), (1041, .iload 4, 2), (1043, .iconst 1, 1), (1044, .iadd, 1), (1045, .iaload, 1), (1046, .aload_n 0, 1), (1047, .iload 4, 2), (1049, .iconst 2, 1), (1050, .iadd, 1), (1051, .iaload, 1), (1052, .aload_n 0, 1), (1053, .iload 4, 2), (1055, .iconst 3, 1)]
def pr_0_66 : List (Nat × Instr × Nat) := [(1056, .iadd, 1), (1057, .iaload, 1), (1058, .aload_n 0, 1), (1059, .iload 4, 2), (1061, .iconst 4, 1), (1062, .iadd, 1), (1063, .iaload, 1), (1064, .invokevirtual 153, 3), (1067, .istore 6, 2), (1069, .aload_n 2, 1), (1070, .invokevirtual 106, 3)]
def pr_0_67 : List (Nat × Instr × Nat) := [(1073, .iload 5, 2), (1075, .if_icmp .eq 5, 3), (1080, .iload 5, 2), (1082, .ifCond .ne 15, 3)]
def pr_0_68 : List (Nat × Instr × Nat) := [(1097, .goto 724, 3), (1100, .aload_n 1, 1), (1101, .aload_n 0, 1), (1102, .iload 4, 2)]
def pr_0_69 : List (Nat × Instr × Nat) := [(1104, .iconst 1, 1), (1105, .iadd, 1), (1106, .iaload, 1), (1107, .aload_n 0, 1), (1108, .iload 4, 2), (1110, .iconst 2, 1), (1111, .iadd, 1), (1112, .iaload, 1), (1113, .aload_n 0, 1), (1114, .iload 4, 2), (1116, .iconst 3, 1), (1117, .iadd, 1), (1118, .iaload, 1), (1119, .aload_n 3, 1)]
def pr_0_70 : List (Nat × Instr × Nat) := [(1120, .invokestatic 154, 3), (1123, .istore 5, 2), (1125, .aload_n 2, 1), (1126, .aload_n 0, 1), (1127, .iload 4, 2), (1129, .iconst 1, 1), (1130, .iadd, 1), (1131, .iaload, 1), (1132, .aload_n 0, 1), (1133, .iload 4, 2), (1135, .iconst 2, 1)]
def pr_0_71 : List (Nat × Instr × Nat) := [(1136, .iadd, 1), (1137, .iaload, 1), (1138, .aload_n 0, 1), (1139, .iload 4, 2), (1141, .iconst 3, 1), (1142, .iadd, 1), (1143, .iaload, 1), (1144, .invokevirtual 156, 3), (1147, .istore 6, 2), (1149, .aload_n 2, 1), (1150, .invokevirtual 106, 3)]
def pr_0_72 : List (Nat × Instr × Nat) := [(1153, .iload 5, 2), (1155, .if_icmp .eq 5, 3), (1160, .iload 5, 2), (1162, .ifCond .ne 22, 3)]
def pr_0_74 : List (Nat × Instr × Nat) := [(1184, .goto 637, 3), (1187, .aload_n 1, 1), (1188, .aload_n 0, 1), (1189, .iload 4, 2), (1191, .iconst 1, 1), (1192, .iadd, 1), (1193, .iaload, 1), (1194, .aload_n 0, 1), (1195, .iload 4, 2), (1197, .iconst 2, 1), (1198, .iadd, 1), (1199, .iaload, 1)]
def pr_0_75 : List (Nat × Instr × Nat) := [(1200, .aload_n 0, 1), (1201, .iload 4, 2), (1203, .iconst 3, 1), (1204, .iadd, 1), (1205, .iaload, 1), (1206, .aload_n 3, 1), (1207, .invokestatic 157, 3), (1210, .istore 5, 2), (1212, .aload_n 2, 1), (1213, .aload_n 0, 1), (1214, .iload 4, 2)]
def pr_0_76 : List (Nat × Instr × Nat) := [(1216, .iconst 1, 1), (1217, .iadd, 1), (1218, .iaload, 1), (1219, .aload_n 0, 1), (1220, .iload 4, 2), (1222, .iconst 2, 1), (1223, .iadd, 1), (1224, .iaload, 1), (1225, .aload_n 0, 1), (1226, .iload 4, 2), (1228, .iconst 3, 1), (1229, .iadd, 1), (1230, .iaload, 1), (1231, .invokevirtual 159, 3)]
def pr_0_77 : List (Nat × Instr × Nat) := [(1234, .istore 6, 2), (1236, .aload_n 2, 1), (1237, .invokevirtual 106, 3), (1240, .iload 5, 2), (1242, .if_icmp .eq 5, 3), (1247, .iload 5, 2)]
def pr_0_78 : List (Nat × Instr × Nat) := [(1249, .ifCond .ne 22, 3)]
def pr_0_79 : List (Nat × Instr × Nat) := [(1271, .goto 550, 3), (1274, .aload_n 1, 1), (1275, .aload_n 0, 1), (1276, .iload 4, 2), (1278, .iconst 1, 1), (1279, .iadd, 1)]
def pr_0_80 : List (Nat × Instr × Nat) := [(1280, .iaload, 1), (1281, .aload_n 0, 1), (1282, .iload 4, 2), (1284, .iconst 2, 1), (1285, .iadd, 1), (1286, .iaload, 1), (1287, .aload_n 0, 1), (1288, .iload 4, 2), (1290, .iconst 3, 1), (1291, .iadd, 1), (1292, .iaload, 1), (1293, .aload_n 0, 1), (1294, .iload 4, 2)]
def pr_0_81 : List (Nat × Instr × Nat) := [(1296, .iconst 4, 1), (1297, .iadd, 1), (1298, .iaload, 1), (1299, .ifCond .eq 7, 3), (1302, .iconst 1, 1), (1303, .goto 4, 3), (1306, .iconst 0, 1), (1307, .aload_n 3, 1), (1308, .invokestatic 160, 3), (1311, .istore 5, 2)]
def pr_0_82 : List (Nat × Instr × Nat) := [(1313, .aload_n 2, 1), (1314, .aload_n 0, 1), (1315, .iload 4, 2), (1317, .iconst 1, 1), (1318, .iadd, 1), (1319, .iaload, 1), (1320, .aload_n 0, 1), (1321, .iload 4, 2), (1323, .iconst 2, 1), (1324, .iadd, 1), (1325, .iaload, 1), (1326, .aload_n 0, 1), (1327, .iload 4, 2)]
def pr_0_83 : List (Nat × Instr × Nat) := [(1329, .iconst 3, 1), (1330, .iadd, 1), (1331, .iaload, 1), (1332, .aload_n 0, 1), (1333, .iload 4, 2), (1335, .iconst 4, 1), (1336, .iadd, 1), (1337, .iaload, 1), (1338, .ifCond .eq 7, 3), (1341, .iconst 1, 1), (1342, .goto 4, 3)]
def pr_0_84 : List (Nat × Instr × Nat) := [(1345, .iconst 0, 1), (1346, .invokevirtual 163, 3), (1349, .istore 6, 2), (1351, .aload_n 2, 1), (1352, .invokevirtual 106, 3), (1355, .iload 5, 2), (1357, .if_icmp .eq 5, 3)]
def pr_0_85 : List (Nat × Instr × Nat) := [(1362, .iload 5, 2), (1364, .ifCond .ne 15, 3)]
def pr_0_86 : List (Nat × Instr × Nat) := [(1379, .goto 442, 3), (1382, .aload_n 1, 1), (1383, .aload_n 0, 1), (1384, .iload 4, 2), (1386, .iconst 1, 1), (1387, .iadd, 1), (1388, .iaload, 1), (1389, .aload_n 0, 1), (1390, .iload 4, 2)]
def pr_0_87 : List (Nat × Instr × Nat) := [(1392, .iconst 2, 1), (1393, .iadd, 1), (1394, .iaload, 1), (1395, .aload_n 0, 1), (1396, .iload 4, 2), (1398, .iconst 3, 1), (1399, .iadd, 1), (1400, .iaload, 1), (1401, .ifCond .eq 7, 3), (1404, .iconst 1, 1), (1405, .goto 4, 3)]
def pr_0_88 : List (Nat × Instr × Nat) := [(1408, .iconst 0, 1), (1409, .aload_n 3, 1), (1410, .invokestatic 164, 3), (1413, .istore 5, 2), (1415, .aload_n 2, 1), (1416, .aload_n 0, 1), (1417, .iload 4, 2), (1419, .iconst 1, 1), (1420, .iadd, 1), (1421, .iaload, 1), (1422, .aload_n 0, 1), (1423, .iload 4, 2)]
def pr_0_89 : List (Nat × Instr × Nat) := [(1425, .iconst 2, 1), (1426, .iadd, 1), (1427, .iaload, 1), (1428, .aload_n 0, 1), (1429, .iload 4, 2), (1431, .iconst 3, 1), (1432, .iadd, 1), (1433, .iaload, 1), (1434, .ifCond .eq 7, 3), (1437, .iconst 1, 1), (1438, .goto 4, 3)]
def pr_0_90 : List (Nat × Instr × Nat) := [(1441, .iconst 0, 1), (1442, .invokevirtual 167, 3), (1445, .istore 6, 2), (1447, .aload_n 2, 1), (1448, .invokevirtual 106, 3), (1451, .iload 5, 2), (1453, .if_icmp .eq 5, 3)]
def pr_0_91 : List (Nat × Instr × Nat) := [(1458, .iload 5, 2), (1460, .ifCond .ne 15, 3)]
def pr_0_92 : List (Nat × Instr × Nat) := [(1475, .goto 346, 3), (1478, .aload_n 1, 1), (1479, .aload_n 0, 1), (1480, .iload 4, 2), (1482, .iconst 1, 1), (1483, .iadd, 1), (1484, .iaload, 1), (1485, .aload_n 0, 1), (1486, .iload 4, 2)]
def pr_0_93 : List (Nat × Instr × Nat) := [(1488, .iconst 2, 1), (1489, .iadd, 1), (1490, .iaload, 1), (1491, .aload_n 0, 1), (1492, .iload 4, 2), (1494, .iconst 3, 1), (1495, .iadd, 1), (1496, .iaload, 1), (1497, .aload_n 0, 1), (1498, .iload 4, 2), (1500, .iconst 4, 1), (1501, .iadd, 1), (1502, .iaload, 1), (1503, .ifCond .eq 7, 3)]
def pr_0_94 : List (Nat × Instr × Nat) := [(1506, .iconst 1, 1), (1507, .goto 4, 3), (1510, .iconst 0, 1), (1511, .aload_n 3, 1), (1512, .invokestatic 168, 3), (1515, .istore 5, 2), (1517, .aload_n 2, 1), (1518, .aload_n 0, 1), (1519, .iload 4, 2)]
def pr_0_95 : List (Nat × Instr × Nat) := [(1521, .iconst 1, 1), (1522, .iadd, 1), (1523, .iaload, 1), (1524, .aload_n 0, 1), (1525, .iload 4, 2), (1527, .iconst 2, 1), (1528, .iadd, 1), (1529, .iaload, 1), (1530, .aload_n 0, 1), (1531, .iload 4, 2), (1533, .iconst 3, 1), (1534, .iadd, 1), (1535, .iaload, 1)]
def pr_0_96 : List (Nat × Instr × Nat) := [(1536, .aload_n 0, 1), (1537, .iload 4, 2), (1539, .iconst 4, 1), (1540, .iadd, 1), (1541, .iaload, 1), (1542, .ifCond .eq 7, 3), (1545, .iconst 1, 1), (1546, .goto 4, 3), (1549, .iconst 0, 1), (1550, .invokevirtual 170, 3)]
def pr_0_97 : List (Nat × Instr × Nat) := [(1553, .istore 6, 2), (1555, .aload_n 2, 1), (1556, .invokevirtual 106, 3), (1559, .iload 5, 2), (1561, .if_icmp .eq 5, 3), (1566, .iload 5, 2)]
def pr_0_98 : List (Nat × Instr × Nat) := [(1568, .ifCond .ne 15, 3), (1583, .goto 238, 3)]
def pr_0_99 : List (Nat × Instr × Nat) := [(1586, .aload_n 1, 1), (1587, .aload_n 0, 1), (1588, .iload 4, 2), (1590, .iconst 1, 1), (1591, .iadd, 1), (1592, .iaload, 1), (1593, .aload_n 0, 1), (1594, .iload 4, 2), (1596, .iconst 2, 1), (1597, .iadd, 1), (1598, .iaload, 1), (1599, .aload_n 3, 1)]
def pr_0_100 : List (Nat × Instr × Nat) := [(1600, .invokestatic 171, 3), (1603, .istore 5, 2), (1605, .aload_n 2, 1), (1606, .aload_n 0, 1), (1607, .iload 4, 2), (1609, .iconst 1, 1), (1610, .iadd, 1), (1611, .iaload, 1), (1612, .aload_n 0, 1), (1613, .iload 4, 2), (1615, .iconst 2, 1)]
def pr_0_101 : List (Nat × Instr × Nat) := [(1616, .iadd, 1), (1617, .iaload, 1), (1618, .invokevirtual 173, 3), (1621, .istore 6, 2), (1623, .aload_n 2, 1), (1624, .invokevirtual 106, 3), (1627, .iload 5, 2), (1629, .if_icmp .eq 5, 3)]
def pr_0_102 : List (Nat × Instr × Nat) := [(1634, .iload 5, 2), (1636, .ifCond .ne 15, 3)]
def pr_0_103 : List (Nat × Instr × Nat) := [(1651, .goto 170, 3), (1654, .aload_n 1, 1), (1655, .aload_n 0, 1), (1656, .iload 4, 2), (1658, .iconst 1, 1), (1659, .iadd, 1), (1660, .iaload, 1), (1661, .aload_n 3, 1), (1662, .invokestatic 174, 3)]
def pr_0_104 : List (Nat × Instr × Nat) := [(1665, .istore 5, 2), (1667, .aload_n 2, 1), (1668, .aload_n 0, 1), (1669, .iload 4, 2), (1671, .iconst 1, 1), (1672, .iadd, 1), (1673, .iaload, 1), (1674, .invokevirtual 176, 3), (1677, .istore 6, 2), (1679, .aload_n 2, 1)]
def pr_0_105 : List (Nat × Instr × Nat) := [(1680, .invokevirtual 106, 3), (1683, .iload 5, 2), (1685, .if_icmp .eq 5, 3), (1690, .iload 5, 2), (1692, .ifCond .ne 15, 3), (1695, .aload_n 3, 1)]
def pr_0_106 : List (Nat × Instr × Nat) := [(1696, .iconst 0, 1), (1697, .laload, 1), (1698, .iload 6, 2), (1700, .i2l, 1), (1701, .lcmp, 1), (1702, .ifCond .eq 5, 3), (1707, .goto 114, 3), (1710, .aload_n 1, 1), (1711, .aload_n 0, 1)]
def pr_0_107 : List (Nat × Instr × Nat) := [(1712, .iload 4, 2), (1714, .iconst 1, 1), (1715, .iadd, 1), (1716, .iaload, 1), (1717, .aload_n 3, 1), (1718, .invokestatic 177, 3), (1721, .istore 5, 2), (1723, .aload_n 2, 1), (1724, .aload_n 0, 1), (1725, .iload 4, 2), (1727, .iconst 1, 1)]
def pr_0_108 : List (Nat × Instr × Nat) := [(1728, .iadd, 1), (1729, .iaload, 1), (1730, .invokevirtual 179, 3), (1733, .lstore 6, 2), (1735, .aload_n 2, 1), (1736, .invokevirtual 106, 3), (1739, .iload 5, 2), (1741, .if_icmp .eq 5, 3)]
def pr_0_109 : List (Nat × Instr × Nat) := [(1746, .iload 5, 2), (1748, .ifCond .ne 14, 3)]
def pr_0_110 : List (Nat × Instr × Nat) := [(1762, .goto 59, 3), (1765, .aload_n 1, 1), (1766, .aload_n 0, 1), (1767, .iload 4, 2), (1769, .iconst 1, 1), (1770, .iadd, 1), (1771, .iaload, 1), (1772, .aload_n 3, 1), (1773, .invokestatic 180, 3)]
def pr_0_111 : List (Nat × Instr × Nat) := [(1776, .istore 5, 2), (1778, .aload_n 2, 1), (1779, .aload_n 0, 1), (1780, .iload 4, 2), (1782, .iconst 1, 1), (1783, .iadd, 1), (1784, .iaload, 1), (1785, .invokevirtual 182, 3), (1788, .istore 6, 2), (1790, .aload_n 2, 1), (1791, .invokevirtual 106, 3)]
def pr_0_112 : List (Nat × Instr × Nat) := [(1794, .iload 5, 2), (1796, .if_icmp .eq 5, 3), (1801, .iload 5, 2), (1803, .ifCond .ne 15, 3), (1806, .aload_n 3, 1), (1807, .iconst 0, 1)]
def pr_0_113 : List (Nat × Instr × Nat) := [(1808, .laload, 1), (1809, .iload 6, 2), (1811, .i2l, 1), (1812, .lcmp, 1), (1813, .ifCond .eq 5, 3), (1818, .goto 3, 3), (1821, .iinc 4 6, 3)]
def pr_0_114 : List (Nat × Instr × Nat) := [(1824, .goto (-1801), 3), (1827, .iconst 1, 1), (1828, .ireturn, 1)]
def pb_0 : List (List (Nat × Instr × Nat)) := [pr_0_0, pr_0_1, pr_0_2, [], [], [], [], [], [], pr_0_9, pr_0_10, pr_0_11, pr_0_12, pr_0_13, pr_0_14, pr_0_15, pr_0_16, pr_0_17, pr_0_18, pr_0_19, pr_0_20, pr_0_21, pr_0_22, pr_0_23, pr_0_24, pr_0_25, pr_0_26, pr_0_27, pr_0_28, pr_0_29, pr_0_30, pr_0_31, pr_0_32, pr_0_33, pr_0_34, pr_0_35, pr_0_36, pr_0_37, pr_0_38, pr_0_39, pr_0_40, pr_0_41, pr_0_42, pr_0_43, pr_0_44, pr_0_45, pr_0_46, pr_0_47, pr_0_48, pr_0_49, pr_0_50, pr_0_51, pr_0_52, pr_0_53, pr_0_54, pr_0_55, [], pr_0_57, pr_0_58, pr_0_59, pr_0_60, pr_0_61, pr_0_62, pr_0_63, pr_0_64, pr_0_65, pr_0_66, pr_0_67, pr_0_68, pr_0_69, pr_0_70, pr_0_71, pr_0_72, [], pr_0_74, pr_0_75, pr_0_76, pr_0_77, pr_0_78, pr_0_79, pr_0_80, pr_0_81, pr_0_82, pr_0_83, pr_0_84, pr_0_85, pr_0_86, pr_0_87, pr_0_88, pr_0_89, pr_0_90, pr_0_91, pr_0_92, pr_0_93, pr_0_94, pr_0_95, pr_0_96, pr_0_97, pr_0_98, pr_0_99, pr_0_100, pr_0_101, pr_0_102, pr_0_103, pr_0_104, pr_0_105, pr_0_106, pr_0_107, pr_0_108, pr_0_109, pr_0_110, pr_0_111, pr_0_112, pr_0_113, pr_0_114]
def pm_0 : px_M := (⟨"TextAtlasLaw", "law", "([I)Z"⟩, (code, 8, some .boolean, []), pb_0, [(8, 8, 0, 0, 0), (96, 4, 1, 0, 0), (97, 8, 11, 0, 0), (99, 4, 81, 0, 0), (100, 2, 67, 7, 0), (105, 3, 94, 5, 11), (106, 3, 112, 0, 11), (109, 2, 66, 3, 0), (112, 3, 91, 1, 11), (113, 2, 71, 3, 0), (115, 3, 99, 1, 11), (116, 2, 77, 2, 0), (119, 3, 107, 0, 11), (120, 3, 30, 0, 0), (123, 3, 106, 0, 11), (124, 2, 79, 3, 0), (126, 3, 111, 1, 11), (127, 2, 60, 4, 0), (130, 3, 83, 2, 11), (131, 2, 75, 6, 0), (134, 3, 104, 4, 11), (135, 2, 76, 4, 0), (137, 3, 105, 2, 11), (138, 2, 78, 3, 0), (140, 3, 108, 1, 11), (141, 2, 74, 5, 0), (144, 3, 102, 3, 11), (145, 2, 68, 4, 0), (147, 3, 96, 2, 11), (148, 2, 69, 6, 0), (150, 3, 97, 4, 11), (151, 2, 62, 6, 0), (153, 3, 86, 4, 11), (154, 2, 72, 5, 0), (156, 3, 100, 3, 11), (157, 2, 65, 5, 0), (159, 3, 90, 3, 11), (160, 2, 73, 6, 0), (163, 3, 101, 4, 11), (164, 2, 70, 5, 0), (167, 3, 98, 3, 11), (168, 2, 63, 6, 0), (170, 3, 88, 4, 11), (171, 2, 59, 4, 0), (173, 3, 82, 2, 11), (174, 2, 61, 3, 0), (176, 3, 84, 1, 11), (177, 2, 80, 3, 0), (179, 3, 113, 1, 11), (180, 2, 64, 3, 0), (182, 3, 89, 1, 11)])
def pr_1_0 : List (Nat × Instr × Nat) := [(0, .aload_n 0, 1), (1, .invokespecial 3, 3), (4, .aload_n 0, 1), (5, .sipush 4096, 3), (8, .newarray .byte, 2), (10, .putfield 9, 3), (13, .aload_n 0, 1), (14, .ldc 13, 2)]
def pr_1_1 : List (Nat × Instr × Nat) := [(16, .newarray .byte, 2), (18, .putfield 14, 3), (21, .aload_n 0, 1), (22, .bipush 8, 2), (24, .anewarray 17, 3), (27, .putfield 19, 3), (30, .aload_n 0, 1), (31, .new 17, 3)]
def pr_1_2 : List (Nat × Instr × Nat) := [(34, .dup, 1), (35, .invokespecial 23, 3), (38, .putfield 24, 3), (41, .aload_n 0, 1), (42, .new 17, 3), (45, .dup, 1), (46, .invokespecial 23, 3)]
def pr_1_3 : List (Nat × Instr × Nat) := [(49, .putfield 28, 3), (52, .aload_n 0, 1), (53, .new 17, 3), (56, .dup, 1), (57, .invokespecial 23, 3), (60, .putfield 31, 3), (63, .aload_n 0, 1)]
def pr_1_4 : List (Nat × Instr × Nat) := [(64, .new 34, 3), (67, .dup, 1), (68, .invokespecial 36, 3), (71, .putfield 37, 3), (74, .aload_n 0, 1), (75, .new 41, 3), (78, .dup, 1), (79, .aload_n 0, 1)]
def pr_1_5 : List (Nat × Instr × Nat) := [(80, .getfield 9, 3), (83, .aload_n 0, 1), (84, .getfield 37, 3), (87, .invokespecial 43, 3), (90, .putfield 46, 3), (93, .aload_n 0, 1), (94, .new 50, 3)]
def pr_1_6 : List (Nat × Instr × Nat) := [(97, .dup, 1), (98, .aload_n 0, 1), (99, .getfield 37, 3), (102, .invokespecial 52, 3), (105, .putfield 55, 3), (108, .aload_n 0, 1), (109, .new 59, 3)]
def pr_1_7 : List (Nat × Instr × Nat) := [(112, .dup, 1), (113, .aload_n 0, 1), (114, .getfield 37, 3), (117, .aload_n 0, 1), (118, .getfield 55, 3), (121, .invokespecial 61, 3), (124, .putfield 64, 3), (127, .aload_n 0, 1)]
def pr_1_8 : List (Nat × Instr × Nat) := [(128, .new 68, 3), (131, .dup, 1), (132, .aload_n 0, 1), (133, .getfield 37, 3), (136, .invokespecial 70, 3), (139, .putfield 71, 3), (142, .aload_n 0, 1), (143, .new 75, 3)]
def pr_1_9 : List (Nat × Instr × Nat) := [(146, .dup, 1), (147, .aload_n 0, 1), (148, .getfield 37, 3), (151, .aload_n 0, 1), (152, .getfield 71, 3), (155, .invokespecial 77, 3), (158, .putfield 80, 3)]
def pr_1_10 : List (Nat × Instr × Nat) := [(161, .aload_n 0, 1), (162, .new 84, 3), (165, .dup, 1), (166, .aload_n 0, 1), (167, .getfield 37, 3), (170, .aload_n 0, 1), (171, .getfield 64, 3), (174, .invokespecial 86, 3)]
def pr_1_11 : List (Nat × Instr × Nat) := [(177, .putfield 89, 3), (180, .aload_n 0, 1), (181, .new 84, 3), (184, .dup, 1), (185, .aload_n 0, 1), (186, .getfield 37, 3), (189, .aload_n 0, 1), (190, .getfield 64, 3)]
def pr_1_12 : List (Nat × Instr × Nat) := [(193, .invokespecial 86, 3), (196, .putfield 93, 3), (199, .iconst 0, 1), (200, .istore_n 1, 1), (201, .iload_n 1, 1), (202, .bipush 8, 2), (204, .if_icmp .ge 22, 3), (207, .aload_n 0, 1)]
def pr_1_13 : List (Nat × Instr × Nat) := [(208, .getfield 19, 3), (211, .iload_n 1, 1), (212, .new 17, 3), (215, .dup, 1), (216, .invokespecial 23, 3), (219, .aastore, 1), (220, .iinc 1 1, 3), (223, .goto (-22), 3)]
def pr_1_14 : List (Nat × Instr × Nat) := [(226, .return_, 1)]
def pb_1 : List (List (Nat × Instr × Nat)) := [pr_1_0, pr_1_1, pr_1_2, pr_1_3, pr_1_4, pr_1_5, pr_1_6, pr_1_7, pr_1_8, pr_1_9, pr_1_10, pr_1_11, pr_1_12, pr_1_13, pr_1_14]
def pm_1 : px_M := (⟨"TextAtlas", "<init>", "()V"⟩, (prog_1_method_1_code, 2, none, []), pb_1, [(3, 6, 0, 0, 0), (9, 0, 0, 0, 1), (13, 11, 65536, 0, 0), (14, 0, 0, 2, 1), (17, 8, 1, 0, 0), (19, 0, 0, 4, 1), (23, 5, 56, 0, 0), (24, 0, 0, 5, 1), (28, 0, 0, 6, 1), (31, 0, 0, 7, 1), (34, 8, 2, 0, 0), (36, 4, 38, 0, 0), (37, 0, 0, 8, 1), (41, 8, 5, 0, 0), (43, 4, 46, 2, 0), (46, 0, 0, 9, 1), (50, 8, 6, 0, 0), (52, 4, 40, 1, 0), (55, 0, 0, 10, 1), (59, 8, 7, 0, 0), (61, 4, 45, 2, 0), (64, 0, 0, 11, 1), (68, 8, 8, 0, 0), (70, 4, 35, 1, 0), (71, 0, 0, 12, 1), (75, 8, 9, 0, 0), (77, 4, 36, 2, 0), (80, 0, 0, 13, 1), (84, 8, 10, 0, 0), (86, 4, 37, 2, 0), (89, 0, 0, 14, 1), (93, 0, 0, 15, 1), (65553, 10, 4, 0, 0)])
def pr_2_0 : List (Nat × Instr × Nat) := [(0, .iload_n 1, 1), (1, .iconst 0, 1), (2, .ldc 152, 2), (4, .invokestatic 107, 3), (7, .iload_n 2, 1), (8, .iconst 0, 1), (9, .bipush 7, 2), (11, .invokestatic 107, 3), (14, .aload_n 0, 1), (15, .invokevirtual 168, 3)]
def pb_2 : List (List (Nat × Instr × Nat)) := [pr_2_0]
def pm_2 : px_M := (⟨"TextAtlas", "about", "(II)I"⟩, (prog_1_method_21_code, 4, some .int, []), pb_2, [(107, 2, 26, 3, 0), (152, 11, 1114111, 0, 0), (168, 3, 28, 0, 0)])
def pr_3_0 : List (Nat × Instr × Nat) := [(0, .iload_n 1, 1), (1, .invokestatic 141, 3), (4, .iload_n 2, 1), (5, .iconst 0, 1), (6, .ldc 152, 2), (8, .invokestatic 107, 3), (11, .aload_n 0, 1), (12, .getfield 19, 3), (15, .iload_n 1, 1)]
def pr_3_1 : List (Nat × Instr × Nat) := [(16, .aaload, 1), (17, .iload_n 2, 1), (18, .invokevirtual 153, 3), (21, .invokestatic 157, 3), (24, .aload_n 0, 1), (25, .getfield 19, 3), (28, .iload_n 1, 1), (29, .aaload, 1), (30, .getfield 138, 3)]
def pr_3_2 : List (Nat × Instr × Nat) := [(33, .ireturn, 1)]
def pb_3 : List (List (Nat × Instr × Nat)) := [pr_3_0, pr_3_1, pr_3_2]
def pm_3 : px_M := (⟨"TextAtlas", "add", "(II)I"⟩, (prog_1_method_8_code, 3, some .int, []), pb_3, [(19, 0, 0, 4, 0), (107, 2, 26, 3, 0), (138, 0, 1, 1, 1), (141, 2, 29, 1, 0), (152, 11, 1114111, 0, 0), (153, 3, 57, 1, 1), (157, 2, 27, 1, 0)])
def pr_4_0 : List (Nat × Instr × Nat) := [(0, .iload_n 1, 1), (1, .invokestatic 141, 3), (4, .aload_n 0, 1), (5, .getfield 19, 3), (8, .iload_n 1, 1), (9, .aaload, 1), (10, .astore_n 2, 1), (11, .aload_n 2, 1), (12, .invokestatic 266, 3), (15, .ifCond .eq 11, 3)]
def pr_4_1 : List (Nat × Instr × Nat) := [(26, .aload_n 0, 1), (27, .iconst 0, 1), (28, .putfield 226, 3), (31, .iconst 0, 1)]
def pr_4_2 : List (Nat × Instr × Nat) := [(32, .istore_n 3, 1), (33, .iload_n 3, 1), (34, .aload_n 2, 1), (35, .getfield 138, 3), (38, .if_icmp .ge 19, 3)]
def pr_4_3 : List (Nat × Instr × Nat) := [(57, .aload_n 0, 1), (58, .getfield 226, 3), (61, .ireturn, 1)]
def pb_4 : List (List (Nat × Instr × Nat)) := [pr_4_0, pr_4_1, pr_4_2, pr_4_3]
def pm_4 : px_M := (⟨"TextAtlas", "bytes", "(I)I"⟩, (prog_1_method_22_code, 4, some .int, []), pb_4, [(19, 0, 0, 4, 0), (138, 0, 1, 1, 1), (141, 2, 29, 1, 0), (226, 0, 0, 3, 1), (266, 2, 12, 1, 0)])
def pr_5_0 : List (Nat × Instr × Nat) := [(0, .iload_n 1, 1), (1, .invokestatic 141, 3), (4, .iload_n 2, 1), (5, .invokestatic 141, 3), (8, .iload_n 3, 1), (9, .iconst 0, 1), (10, .iconst 3, 1), (11, .invokestatic 107, 3), (14, .iload 4, 2)]
def pr_5_1 : List (Nat × Instr × Nat) := [(16, .iconst 0, 1), (17, .iconst 3, 1), (18, .invokestatic 107, 3), (21, .aload_n 0, 1), (22, .invokevirtual 168, 3)]
def pb_5 : List (List (Nat × Instr × Nat)) := [pr_5_0, pr_5_1]
def pm_5 : px_M := (⟨"TextAtlas", "change", "(IIII)I"⟩, (prog_1_method_15_code, 6, some .int, []), pb_5, [(107, 2, 26, 3, 0), (141, 2, 29, 1, 0), (168, 3, 28, 0, 0)])
def pr_6_0 : List (Nat × Instr × Nat) := [(0, .iload_n 1, 1), (1, .invokestatic 141, 3), (4, .iload_n 2, 1), (5, .invokestatic 141, 3), (8, .iload_n 3, 1), (9, .iconst 1, 1), (10, .iconst 4, 1), (11, .invokestatic 107, 3), (14, .aload_n 0, 1), (15, .invokevirtual 168, 3)]
def pb_6 : List (List (Nat × Instr × Nat)) := [pr_6_0]
def pm_6 : px_M := (⟨"TextAtlas", "compare", "(IIIZ)I"⟩, (prog_1_method_20_code, 5, some .int, []), pb_6, [(107, 2, 26, 3, 0), (141, 2, 29, 1, 0), (168, 3, 28, 0, 0)])
def pr_7_0 : List (Nat × Instr × Nat) := [(0, .iload_n 1, 1), (1, .iconst 0, 1), (2, .iconst 3, 1), (3, .invokestatic 107, 3), (6, .iload_n 1, 1), (7, .tableswitch 43 0 2 #[25, 30, 35], 25)]
def pr_7_2 : List (Nat × Instr × Nat) := [(32, .aload_n 0, 1), (33, .getfield 96, 3), (36, .ireturn, 1), (37, .aload_n 0, 1), (38, .getfield 226, 3), (41, .ireturn, 1), (42, .aload_n 0, 1), (43, .getfield 37, 3), (46, .getfield 272, 3)]
def pr_7_3 : List (Nat × Instr × Nat) := [(49, .ireturn, 1), (50, .aload_n 0, 1), (51, .getfield 37, 3), (54, .getfield 128, 3), (57, .ifCond .eq 7, 3)]
def pr_7_4 : List (Nat × Instr × Nat) := [(64, .iconst 0, 1), (65, .ireturn, 1)]
def pb_7 : List (List (Nat × Instr × Nat)) := [pr_7_0, [], pr_7_2, pr_7_3, pr_7_4]
def pm_7 : px_M := (⟨"TextAtlas", "count", "(I)I"⟩, (prog_1_method_24_code, 2, some .int, []), pb_7, [(37, 0, 0, 8, 0), (96, 0, 0, 1, 1), (107, 2, 26, 3, 0), (128, 0, 2, 6, 1), (226, 0, 0, 3, 1), (272, 0, 2, 5, 1)])
def pr_8_0 : List (Nat × Instr × Nat) := [(0, .aload_n 0, 1), (1, .iload_n 1, 1), (2, .iload_n 2, 1), (3, .iload_n 3, 1), (4, .invokevirtual 195, 3), (7, .aload_n 0, 1), (8, .invokevirtual 168, 3)]
def pb_8 : List (List (Nat × Instr × Nat)) := [pr_8_0]
def pm_8 : px_M := (⟨"TextAtlas", "edge", "(III)Z"⟩, (prog_1_method_17_code, 4, some .boolean, []), pb_8, [(168, 3, 28, 0, 0), (195, 3, 25, 3, 0)])
def pr_9_0 : List (Nat × Instr × Nat) := [(0, .iload_n 1, 1), (1, .iconst 0, 1), (2, .aload_n 0, 1), (3, .getfield 96, 3), (6, .invokestatic 107, 3), (9, .aload_n 0, 1), (10, .iload_n 1, 1), (11, .putfield 96, 3), (14, .iload_n 1, 1), (15, .ireturn, 1)]
def pb_9 : List (List (Nat × Instr × Nat)) := [pr_9_0]
def pm_9 : px_M := (⟨"TextAtlas", "end", "(I)I"⟩, (prog_1_method_3_code, 2, some .int, []), pb_9, [(96, 0, 0, 1, 1), (107, 2, 26, 3, 0)])
def pr_10_0 : List (Nat × Instr × Nat) := [(0, .aload_n 0, 1), (1, .getfield 96, 3), (4, .bipush 20, 2), (6, .iadd, 1), (7, .sipush 4096, 3), (10, .if_icmp .le 11, 3)]
def pr_10_1 : List (Nat × Instr × Nat) := [(21, .aload_n 0, 1), (22, .iload_n 1, 1), (23, .invokevirtual 103, 3), (26, .aload_n 0, 1), (27, .iload_n 2, 1), (28, .invokevirtual 103, 3), (31, .aload_n 0, 1)]
def pr_10_2 : List (Nat × Instr × Nat) := [(32, .iload_n 3, 1), (33, .invokevirtual 103, 3), (36, .aload_n 0, 1), (37, .iload 4, 2), (39, .invokevirtual 103, 3), (42, .aload_n 0, 1), (43, .iload 5, 2), (45, .invokevirtual 103, 3)]
def pr_10_3 : List (Nat × Instr × Nat) := [(48, .aload_n 0, 1), (49, .getfield 96, 3), (52, .ireturn, 1)]
def pb_10 : List (List (Nat × Instr × Nat)) := [pr_10_0, pr_10_1, pr_10_2, pr_10_3]
def pm_10 : px_M := (⟨"TextAtlas", "feed", "(IIIII)I"⟩, (prog_1_method_2_code, 6, some .int, []), pb_10, [(96, 0, 0, 1, 1), (103, 3, 11, 1, 0)])
def pr_11_0 : List (Nat × Instr × Nat) := [(0, .bipush 24, 2), (2, .istore_n 2, 1), (3, .iload_n 2, 1), (4, .ifCond .lt 32, 3), (7, .aload_n 0, 1), (8, .getfield 9, 3), (11, .aload_n 0, 1), (12, .getfield 96, 3), (15, .iload_n 1, 1)]
def pr_11_1 : List (Nat × Instr × Nat) := [(16, .iload_n 2, 1), (17, .iushr, 1), (18, .i2b, 1), (19, .bastore, 1), (20, .aload_n 0, 1), (21, .dup, 1), (22, .getfield 96, 3), (25, .iconst 1, 1), (26, .iadd, 1), (27, .putfield 96, 3), (30, .iinc 2 (-8), 3)]
def pr_11_2 : List (Nat × Instr × Nat) := [(33, .goto (-30), 3), (36, .return_, 1)]
def pb_11 : List (List (Nat × Instr × Nat)) := [pr_11_0, pr_11_1, pr_11_2]
def pm_11 : px_M := (⟨"TextAtlas", "feedInt", "(I)V"⟩, (prog_1_method_31_code, 3, none, []), pb_11, [(9, 0, 0, 0, 0), (96, 0, 0, 1, 1)])
def pr_12_0 : List (Nat × Instr × Nat) := [(0, .iconst 0, 1), (1, .istore_n 1, 1), (2, .iload_n 1, 1), (3, .aload_n 0, 1), (4, .getfield 138, 3), (7, .if_icmp .ge 23, 3)]
def pr_12_1 : List (Nat × Instr × Nat) := [(30, .iconst 0, 1), (31, .ireturn, 1)]
def pb_12 : List (List (Nat × Instr × Nat)) := [pr_12_0, pr_12_1]
def pm_12 : px_M := (⟨"TextAtlas", "holdsSurrogate", "(LTextAtlas$Text;)Z"⟩, (prog_1_method_40_code, 2, some .boolean, []), pb_12, [(138, 0, 1, 1, 1)])
def pr_13_0 : List (Nat × Instr × Nat) := [(0, .iload_n 1, 1), (1, .invokestatic 141, 3), (4, .iload_n 2, 1), (5, .iconst 0, 1), (6, .iconst 3, 1), (7, .invokestatic 107, 3), (10, .aload_n 0, 1), (11, .invokevirtual 168, 3)]
def pb_13 : List (List (Nat × Instr × Nat)) := [pr_13_0]
def pm_13 : px_M := (⟨"TextAtlas", "is", "(II)Z"⟩, (prog_1_method_13_code, 3, some .boolean, []), pb_13, [(107, 2, 26, 3, 0), (141, 2, 29, 1, 0), (168, 3, 28, 0, 0)])
def pr_14_0 : List (Nat × Instr × Nat) := [(0, .iload_n 1, 1), (1, .invokestatic 141, 3), (4, .iload_n 2, 1), (5, .invokestatic 141, 3), (8, .iload_n 3, 1), (9, .invokestatic 141, 3), (12, .iload 4, 2), (14, .iconst 0, 1), (15, .iconst 3, 1)]
def pr_14_1 : List (Nat × Instr × Nat) := [(16, .invokestatic 107, 3), (19, .aload_n 0, 1), (20, .invokevirtual 168, 3)]
def pb_14 : List (List (Nat × Instr × Nat)) := [pr_14_0, pr_14_1]
def pm_14 : px_M := (⟨"TextAtlas", "join", "(IIII)I"⟩, (prog_1_method_14_code, 5, some .int, []), pb_14, [(107, 2, 26, 3, 0), (141, 2, 29, 1, 0), (168, 3, 28, 0, 0)])
def pr_15_0 : List (Nat × Instr × Nat) := [(0, .iload_n 1, 1), (1, .invokestatic 141, 3), (4, .iload_n 2, 1), (5, .iconst 1, 1), (6, .iconst 4, 1), (7, .invokestatic 107, 3), (10, .aload_n 0, 1), (11, .invokevirtual 168, 3)]
def pb_15 : List (List (Nat × Instr × Nat)) := [pr_15_0]
def pm_15 : px_M := (⟨"TextAtlas", "key", "(IIZ)I"⟩, (prog_1_method_19_code, 6, some .int, []), pb_15, [(107, 2, 26, 3, 0), (141, 2, 29, 1, 0), (168, 3, 28, 0, 0)])
def pr_16_0 : List (Nat × Instr × Nat) := [(0, .iload_n 1, 1), (1, .iconst 0, 1), (2, .iconst 4, 1), (3, .invokestatic 107, 3), (6, .aload_n 0, 1), (7, .invokevirtual 111, 3), (10, .aload_n 0, 1), (11, .getfield 96, 3), (14, .istore_n 2, 1), (15, .aload_n 0, 1)]
def pr_16_1 : List (Nat × Instr × Nat) := [(16, .iconst 0, 1), (17, .putfield 96, 3), (20, .aload_n 0, 1), (21, .getfield 46, 3), (24, .iload_n 1, 1), (25, .iload_n 2, 1), (26, .invokevirtual 114, 3), (29, .istore_n 3, 1), (30, .iload_n 3, 1), (31, .iconst (-1), 1)]
def pr_16_2 : List (Nat × Instr × Nat) := [(32, .if_icmp .ne 11, 3), (35, .new 118, 3), (38, .dup, 1), (39, .invokespecial 120, 3), (42, .athrow, 1)]
def pb_16 : List (List (Nat × Instr × Nat)) := [pr_16_0, pr_16_1, pr_16_2]
def pm_16 : px_M := (⟨"TextAtlas", "line", "(I)I"⟩, (prog_1_method_4_code, 4, some .int, []), pb_16, [(46, 0, 0, 9, 0), (96, 0, 0, 1, 1), (107, 2, 26, 3, 0), (111, 3, 24, 0, 0), (114, 3, 52, 2, 5), (118, 9, 3, 0, 0), (120, 7, 3, 0, 0)])
def pr_17_0 : List (Nat × Instr × Nat) := [(0, .iload_n 1, 1), (1, .invokestatic 141, 3), (4, .iload_n 2, 1), (5, .invokestatic 141, 3), (8, .iload_n 3, 1), (9, .iconst 0, 1), (10, .iconst 2, 1), (11, .invokestatic 107, 3), (14, .aload_n 0, 1), (15, .invokevirtual 168, 3)]
def pb_17 : List (List (Nat × Instr × Nat)) := [pr_17_0]
def pm_17 : px_M := (⟨"TextAtlas", "match", "(III)Z"⟩, (prog_1_method_16_code, 4, some .boolean, []), pb_17, [(107, 2, 26, 3, 0), (141, 2, 29, 1, 0), (168, 3, 28, 0, 0)])
def pr_18_0 : List (Nat × Instr × Nat) := [(0, .aload_n 0, 1), (1, .iload_n 1, 1), (2, .iload_n 2, 1), (3, .iload_n 3, 1), (4, .invokevirtual 195, 3), (7, .aload_n 0, 1), (8, .invokevirtual 168, 3)]
def pb_18 : List (List (Nat × Instr × Nat)) := [pr_18_0]
def pm_18 : px_M := (⟨"TextAtlas", "next", "(IIIZ)I"⟩, (prog_1_method_18_code, 5, some .int, []), pb_18, [(168, 3, 28, 0, 0), (195, 3, 25, 3, 0)])
def pr_19_0 : List (Nat × Instr × Nat) := [(0, .iload_n 1, 1), (1, .invokestatic 141, 3), (4, .iload_n 2, 1), (5, .invokestatic 141, 3), (8, .iload_n 3, 1), (9, .iconst 0, 1), (10, .iconst 3, 1), (11, .invokestatic 107, 3), (14, .aload_n 0, 1), (15, .invokevirtual 168, 3)]
def pb_19 : List (List (Nat × Instr × Nat)) := [pr_19_0]
def pm_19 : px_M := (⟨"TextAtlas", "normal", "(III)I"⟩, (prog_1_method_12_code, 4, some .int, []), pb_19, [(107, 2, 26, 3, 0), (141, 2, 29, 1, 0), (168, 3, 28, 0, 0)])
def pr_20_0 : List (Nat × Instr × Nat) := [(0, .iload_n 1, 1), (1, .invokestatic 141, 3), (4, .iload_n 2, 1), (5, .invokestatic 141, 3), (8, .iload 4, 2), (10, .iconst 0, 1), (11, .aload_n 0, 1), (12, .getfield 19, 3), (15, .iload_n 2, 1)]
def pr_20_1 : List (Nat × Instr × Nat) := [(16, .aaload, 1), (17, .getfield 138, 3), (20, .invokestatic 107, 3), (23, .iload_n 3, 1), (24, .iconst 0, 1), (25, .iload 4, 2), (27, .invokestatic 107, 3), (30, .aload_n 0, 1), (31, .getfield 19, 3)]
def pr_20_2 : List (Nat × Instr × Nat) := [(34, .iload_n 1, 1), (35, .aaload, 1), (36, .aload_n 0, 1), (37, .getfield 19, 3), (40, .iload_n 2, 1), (41, .aaload, 1), (42, .iload_n 3, 1), (43, .iload 4, 2), (45, .invokevirtual 161, 3)]
def pr_20_3 : List (Nat × Instr × Nat) := [(48, .aload_n 0, 1), (49, .getfield 19, 3), (52, .iload_n 1, 1), (53, .aaload, 1), (54, .getfield 138, 3), (57, .ireturn, 1)]
def pb_20 : List (List (Nat × Instr × Nat)) := [pr_20_0, pr_20_1, pr_20_2, pr_20_3]
def pm_20 : px_M := (⟨"TextAtlas", "part", "(IIII)I"⟩, (prog_1_method_9_code, 5, some .int, []), pb_20, [(19, 0, 0, 4, 0), (107, 2, 26, 3, 0), (138, 0, 1, 1, 1), (141, 2, 29, 1, 0), (161, 3, 58, 3, 1)])
def pr_21_0 : List (Nat × Instr × Nat) := [(0, .iload_n 1, 1), (1, .invokestatic 141, 3), (4, .iload_n 2, 1), (5, .ifCond .lt 20, 3), (8, .iload_n 2, 1), (9, .aload_n 0, 1), (10, .getfield 19, 3), (13, .iload_n 1, 1), (14, .aaload, 1), (15, .getfield 138, 3)]
def pr_21_1 : List (Nat × Instr × Nat) := [(18, .if_icmp .ge 7, 3), (25, .iconst 0, 1), (26, .invokestatic 157, 3)]
def pb_21 : List (List (Nat × Instr × Nat)) := [pr_21_0, pr_21_1]
def pm_21 : px_M := (⟨"TextAtlas", "point", "(II)I"⟩, (prog_1_method_10_code, 3, some .int, []), pb_21, [(19, 0, 0, 4, 0), (138, 0, 1, 1, 1), (141, 2, 29, 1, 0), (157, 2, 27, 1, 0)])
def pr_22_0 : List (Nat × Instr × Nat) := [(0, .iconst 0, 1), (1, .istore_n 2, 1), (2, .iconst 0, 1), (3, .istore_n 3, 1), (4, .iload_n 3, 1), (5, .iload_n 1, 1), (6, .if_icmp .ge 40, 3)]
def pr_22_2 : List (Nat × Instr × Nat) := [(46, .iload_n 2, 1), (47, .ireturn, 1)]
def pb_22 : List (List (Nat × Instr × Nat)) := [pr_22_0, [], pr_22_2]
def pm_22 : px_M := (⟨"TextAtlas", "pointsOnTape", "(I)I"⟩, (prog_1_method_35_code, 5, some .int, []), pb_22, [])
def pr_23_0 : List (Nat × Instr × Nat) := [(0, .iconst 0, 1), (1, .istore 4, 2), (3, .aload_n 1, 1), (4, .iconst 0, 1), (5, .putfield 138, 3), (8, .iconst 0, 1), (9, .istore 5, 2), (11, .iload 5, 2), (13, .iload_n 2, 1), (14, .if_icmp .ge 35, 3)]
def pr_23_3 : List (Nat × Instr × Nat) := [(49, .return_, 1)]
def pb_23 : List (List (Nat × Instr × Nat)) := [pr_23_0, [], [], pr_23_3]
def pm_23 : px_M := (⟨"TextAtlas", "readTape", "(LTextAtlas$Text;II)V"⟩, (prog_1_method_36_code, 7, none, []), pb_23, [(138, 0, 1, 1, 1)])
def pr_24_0 : List (Nat × Instr × Nat) := [(0, .aload_n 0, 1), (1, .getfield 37, 3), (4, .getfield 128, 3), (7, .ifCond .eq 11, 3)]
def pr_24_1 : List (Nat × Instr × Nat) := [(18, .return_, 1)]
def pb_24 : List (List (Nat × Instr × Nat)) := [pr_24_0, pr_24_1]
def pm_24 : px_M := (⟨"TextAtlas", "requireOpen", "()V"⟩, (prog_1_method_29_code, 1, none, []), pb_24, [(37, 0, 0, 8, 0), (128, 0, 2, 6, 1)])
def pr_25_0 : List (Nat × Instr × Nat) := [(0, .iload_n 1, 1), (1, .invokestatic 141, 3), (4, .iload_n 2, 1), (5, .iconst 0, 1), (6, .iconst 1, 1), (7, .invokestatic 107, 3), (10, .iload_n 3, 1), (11, .iconst 0, 1), (12, .aload_n 0, 1), (13, .getfield 19, 3)]
def pr_25_1 : List (Nat × Instr × Nat) := [(16, .iload_n 1, 1), (17, .aaload, 1), (18, .getfield 138, 3), (21, .invokestatic 107, 3), (24, .return_, 1)]
def pb_25 : List (List (Nat × Instr × Nat)) := [pr_25_0, pr_25_1]
def pm_25 : px_M := (⟨"TextAtlas", "requirePlace", "(III)V"⟩, (prog_1_method_27_code, 4, none, []), pb_25, [(19, 0, 0, 4, 0), (107, 2, 26, 3, 0), (138, 0, 1, 1, 1), (141, 2, 29, 1, 0)])
def pr_26_0 : List (Nat × Instr × Nat) := [(0, .iload_n 0, 1), (1, .iload_n 1, 1), (2, .if_icmp .lt 8, 3), (5, .iload_n 0, 1), (6, .iload_n 2, 1), (7, .if_icmp .le 11, 3), (10, .new 275, 3), (13, .dup, 1), (14, .invokespecial 277, 3)]
def pr_26_1 : List (Nat × Instr × Nat) := [(17, .athrow, 1), (18, .return_, 1)]
def pb_26 : List (List (Nat × Instr × Nat)) := [pr_26_0, pr_26_1]
def pm_26 : px_M := (⟨"TextAtlas", "requireRange", "(III)V"⟩, (prog_1_method_25_code, 3, none, []), pb_26, [(275, 9, 1, 0, 0), (277, 7, 1, 0, 0)])
def pr_27_0 : List (Nat × Instr × Nat) := [(0, .iload_n 0, 1), (1, .ifCond .ne 11, 3), (4, .new 100, 3), (7, .dup, 1), (8, .invokespecial 102, 3), (11, .athrow, 1), (12, .return_, 1)]
def pb_27 : List (List (Nat × Instr × Nat)) := [pr_27_0]
def pm_27 : px_M := (⟨"TextAtlas", "requireRoom", "(Z)V"⟩, (prog_1_method_30_code, 1, none, []), pb_27, [(100, 9, 0, 0, 0), (102, 7, 0, 0, 0)])
def pr_28_0 : List (Nat × Instr × Nat) := [(0, .aload_n 0, 1), (1, .getfield 37, 3), (4, .getfield 128, 3), (7, .ifCond .ne 11, 3), (10, .new 278, 3), (13, .dup, 1), (14, .invokespecial 280, 3)]
def pr_28_1 : List (Nat × Instr × Nat) := [(17, .athrow, 1)]
def pb_28 : List (List (Nat × Instr × Nat)) := [pr_28_0, pr_28_1]
def pm_28 : px_M := (⟨"TextAtlas", "requireSealed", "()V"⟩, (prog_1_method_28_code, 1, none, []), pb_28, [(37, 0, 0, 8, 0), (128, 0, 2, 6, 1), (278, 9, 2, 0, 0), (280, 7, 2, 0, 0)])
def pr_29_0 : List (Nat × Instr × Nat) := [(0, .iload_n 0, 1), (1, .iconst 0, 1), (2, .bipush 7, 2), (4, .invokestatic 107, 3), (7, .return_, 1)]
def pb_29 : List (List (Nat × Instr × Nat)) := [pr_29_0]
def pm_29 : px_M := (⟨"TextAtlas", "requireSlot", "(I)V"⟩, (prog_1_method_26_code, 1, none, []), pb_29, [(107, 2, 26, 3, 0)])
def pr_30_0 : List (Nat × Instr × Nat) := [(0, .aload_n 0, 1), (1, .getfield 37, 3), (4, .getfield 128, 3), (7, .ifCond .eq 7, 3), (14, .iconst 0, 1), (15, .istore_n 1, 1)]
def pr_30_1 : List (Nat × Instr × Nat) := [(16, .aload_n 0, 1), (17, .getfield 37, 3), (20, .invokevirtual 135, 3), (23, .iconst 0, 1), (24, .istore_n 2, 1), (25, .iload_n 2, 1), (26, .bipush 8, 2), (28, .if_icmp .ge 19, 3), (31, .aload_n 0, 1)]
def pr_30_2 : List (Nat × Instr × Nat) := [(32, .getfield 19, 3), (35, .iload_n 2, 1), (36, .aaload, 1), (37, .iconst 0, 1), (38, .putfield 138, 3), (41, .iinc 2 1, 3), (44, .goto (-19), 3), (47, .iload_n 1, 1)]
def pr_30_3 : List (Nat × Instr × Nat) := [(48, .ireturn, 1)]
def pb_30 : List (List (Nat × Instr × Nat)) := [pr_30_0, pr_30_1, pr_30_2, pr_30_3]
def pm_30 : px_M := (⟨"TextAtlas", "reset", "()I"⟩, (prog_1_method_6_code, 3, some .int, []), pb_30, [(19, 0, 0, 4, 0), (37, 0, 0, 8, 0), (128, 0, 2, 6, 1), (135, 3, 39, 0, 2), (138, 0, 1, 1, 1)])
def pr_31_0 : List (Nat × Instr × Nat) := [(0, .aload_n 0, 1), (1, .invokevirtual 111, 3), (4, .aload_n 0, 1), (5, .getfield 55, 3), (8, .invokevirtual 121, 3), (11, .ifCond .ne 11, 3)]
def pr_31_1 : List (Nat × Instr × Nat) := [(22, .aload_n 0, 1), (23, .getfield 37, 3), (26, .iconst 1, 1), (27, .putfield 128, 3), (30, .aload_n 0, 1), (31, .getfield 55, 3)]
def pr_31_2 : List (Nat × Instr × Nat) := [(34, .getfield 132, 3), (37, .ireturn, 1)]
def pb_31 : List (List (Nat × Instr × Nat)) := [pr_31_0, pr_31_1, pr_31_2]
def pm_31 : px_M := (⟨"TextAtlas", "seal", "()I"⟩, (prog_1_method_5_code, 1, some .int, []), pb_31, [(37, 0, 0, 8, 0), (55, 0, 0, 10, 0), (111, 3, 24, 0, 0), (121, 3, 43, 0, 6), (128, 0, 2, 6, 1), (132, 0, 6, 8, 1)])
def pr_32_0 : List (Nat × Instr × Nat) := [(0, .iload_n 1, 1), (1, .invokestatic 141, 3), (4, .aload_n 0, 1), (5, .getfield 19, 3), (8, .iload_n 1, 1), (9, .aaload, 1), (10, .getfield 138, 3), (13, .ireturn, 1)]
def pb_32 : List (List (Nat × Instr × Nat)) := [pr_32_0]
def pm_32 : px_M := (⟨"TextAtlas", "size", "(I)I"⟩, (prog_1_method_11_code, 2, some .int, []), pb_32, [(19, 0, 0, 4, 0), (138, 0, 1, 1, 1), (141, 2, 29, 1, 0)])
def pr_33_0 : List (Nat × Instr × Nat) := [(0, .iload_n 1, 1), (1, .invokestatic 141, 3), (4, .aload_n 0, 1), (5, .getfield 96, 3), (8, .istore_n 2, 1), (9, .aload_n 0, 1), (10, .iconst 0, 1), (11, .putfield 96, 3), (14, .aload_n 0, 1), (15, .iload_n 2, 1)]
def pr_33_1 : List (Nat × Instr × Nat) := [(16, .invokevirtual 144, 3), (19, .istore_n 3, 1), (20, .iload_n 3, 1), (21, .iconst (-1), 1), (22, .if_icmp .ne 11, 3)]
def pr_33_2 : List (Nat × Instr × Nat) := [(33, .iload_n 3, 1), (34, .sipush 2000, 3), (37, .if_icmp .le 11, 3)]
def pr_33_3 : List (Nat × Instr × Nat) := [(48, .aload_n 0, 1), (49, .aload_n 0, 1), (50, .getfield 19, 3), (53, .iload_n 1, 1), (54, .aaload, 1), (55, .iload_n 3, 1), (56, .iload_n 2, 1), (57, .invokevirtual 148, 3), (60, .iload_n 3, 1), (61, .ireturn, 1)]
def pb_33 : List (List (Nat × Instr × Nat)) := [pr_33_0, pr_33_1, pr_33_2, pr_33_3]
def pm_33 : px_M := (⟨"TextAtlas", "text", "(I)I"⟩, (prog_1_method_7_code, 4, some .int, []), pb_33, [(19, 0, 0, 4, 0), (96, 0, 0, 1, 1), (141, 2, 29, 1, 0), (144, 3, 22, 1, 0), (148, 3, 23, 3, 0)])
def pr_34_0 : List (Nat × Instr × Nat) := [(0, .iload_n 1, 1), (1, .ifCond .lt 15, 3), (4, .iload_n 1, 1), (5, .aload_n 0, 1), (6, .getfield 226, 3), (9, .if_icmp .ge 7, 3)]
def pr_34_1 : List (Nat × Instr × Nat) := [(16, .iconst 0, 1), (17, .invokestatic 157, 3)]
def pb_34 : List (List (Nat × Instr × Nat)) := [pr_34_0, pr_34_1]
def pm_34 : px_M := (⟨"TextAtlas", "word", "(I)J"⟩, (prog_1_method_23_code, 6, some .long, []), pb_34, [(157, 2, 27, 1, 0), (226, 0, 0, 3, 1)])
def pr_35_0 : List (Nat × Instr × Nat) := [(0, .aload_n 0, 1), (1, .invokespecial 3, 3), (4, .aload_n 0, 1), (5, .sipush 2000, 3), (8, .newarray .int, 2), (10, .putfield 9, 3), (13, .aload_n 0, 1), (14, .sipush 2000, 3)]
def pr_35_1 : List (Nat × Instr × Nat) := [(17, .newarray .boolean, 2), (19, .putfield 15, 3), (22, .aload_n 0, 1), (23, .sipush 2000, 3), (26, .newarray .int, 2), (28, .putfield 19, 3), (31, .aload_n 0, 1)]
def pr_35_2 : List (Nat × Instr × Nat) := [(32, .sipush 2000, 3), (35, .newarray .boolean, 2), (37, .putfield 22, 3), (40, .aload_n 0, 1), (41, .aload_n 1, 1), (42, .putfield 25, 3), (45, .return_, 1)]
def pb_35 : List (List (Nat × Instr × Nat)) := [pr_35_0, pr_35_1, pr_35_2]
def pm_35 : px_M := (⟨"TextAtlas$Breaks", "<init>", "(LTextAtlas$Data;)V"⟩, (prog_2_method_1_code, 2, none, []), pb_35, [(3, 6, 0, 0, 0), (9, 0, 8, 1, 1), (15, 0, 8, 2, 1), (19, 0, 8, 3, 1), (22, 0, 8, 4, 1), (25, 0, 8, 0, 1)])
def pr_36_0 : List (Nat × Instr × Nat) := [(0, .aload_n 0, 1), (1, .invokespecial 3, 3), (4, .aload_n 0, 1), (5, .sipush 2000, 3), (8, .newarray .int, 2), (10, .putfield 9, 3), (13, .aload_n 0, 1), (14, .sipush 2000, 3)]
def pr_36_1 : List (Nat × Instr × Nat) := [(17, .newarray .int, 2), (19, .putfield 15, 3), (22, .aload_n 0, 1), (23, .sipush 2000, 3), (26, .newarray .int, 2), (28, .putfield 18, 3), (31, .aload_n 0, 1)]
def pr_36_2 : List (Nat × Instr × Nat) := [(32, .sipush 2000, 3), (35, .newarray .boolean, 2), (37, .putfield 21, 3), (40, .aload_n 0, 1), (41, .iconst 0, 1), (42, .newarray .int, 2), (44, .putfield 25, 3), (47, .aload_n 0, 1)]
def pr_36_3 : List (Nat × Instr × Nat) := [(48, .aload_n 1, 1), (49, .putfield 28, 3), (52, .aload_n 0, 1), (53, .aload_n 2, 1), (54, .putfield 32, 3), (57, .return_, 1)]
def pb_36 : List (List (Nat × Instr × Nat)) := [pr_36_0, pr_36_1, pr_36_2, pr_36_3]
def pm_36 : px_M := (⟨"TextAtlas$Casing", "<init>", "(LTextAtlas$Data;LTextAtlas$Breaks;)V"⟩, (prog_3_method_1_code, 3, none, []), pb_36, [(3, 6, 0, 0, 0), (9, 0, 9, 2, 1), (15, 0, 9, 3, 1), (18, 0, 9, 4, 1), (21, 0, 9, 5, 1), (25, 0, 9, 6, 1), (28, 0, 9, 0, 1), (32, 0, 9, 1, 1)])
def pr_37_0 : List (Nat × Instr × Nat) := [(0, .aload_n 0, 1), (1, .invokespecial 3, 3), (4, .aload_n 0, 1), (5, .new 9, 3), (8, .dup, 1), (9, .invokespecial 11, 3), (12, .putfield 12, 3), (15, .aload_n 0, 1)]
def pr_37_1 : List (Nat × Instr × Nat) := [(16, .sipush 2000, 3), (19, .newarray .int, 2), (21, .putfield 18, 3), (24, .aload_n 0, 1), (25, .ldc 22, 2), (27, .newarray .long, 2), (29, .putfield 23, 3)]
def pr_37_2 : List (Nat × Instr × Nat) := [(32, .aload_n 0, 1), (33, .aload_n 1, 1), (34, .putfield 27, 3), (37, .aload_n 0, 1), (38, .aload_n 2, 1), (39, .putfield 31, 3), (42, .return_, 1)]
def pb_37 : List (List (Nat × Instr × Nat)) := [pr_37_0, pr_37_1, pr_37_2]
def pm_37 : px_M := (⟨"TextAtlas$Collation", "<init>", "(LTextAtlas$Data;LTextAtlas$Forms;)V"⟩, (prog_4_method_1_code, 3, none, []), pb_37, [(3, 6, 0, 0, 0), (9, 8, 1, 0, 0), (11, 5, 56, 0, 0), (12, 0, 10, 2, 1), (18, 0, 10, 3, 1), (22, 11, 36000, 0, 0), (23, 0, 10, 4, 1), (27, 0, 10, 0, 1), (31, 0, 10, 1, 1)])
def pr_38_0 : List (Nat × Instr × Nat) := [(0, .aload_n 0, 1), (1, .invokespecial 3, 3), (4, .aload_n 0, 1), (5, .sipush 513, 3), (8, .anewarray 9, 3), (11, .putfield 11, 3), (14, .aload_n 0, 1), (15, .sipush 256, 3)]
def pr_38_1 : List (Nat × Instr × Nat) := [(18, .newarray .long, 2), (20, .putfield 17, 3), (23, .aload_n 0, 1), (24, .sipush 256, 3), (27, .anewarray 21, 3), (30, .putfield 23, 3)]
def pr_38_2 : List (Nat × Instr × Nat) := [(33, .aload_n 0, 1), (34, .new 27, 3), (37, .dup, 1), (38, .invokespecial 29, 3), (41, .putfield 30, 3), (44, .iconst 0, 1), (45, .istore_n 1, 1), (46, .iload_n 1, 1), (47, .sipush 513, 3)]
def pr_38_3 : List (Nat × Instr × Nat) := [(50, .if_icmp .ge 35, 3), (53, .aload_n 0, 1), (54, .getfield 11, 3), (57, .iload_n 1, 1), (58, .new 9, 3), (61, .dup, 1), (62, .invokespecial 34, 3)]
def pr_38_4 : List (Nat × Instr × Nat) := [(65, .aastore, 1), (66, .aload_n 0, 1), (67, .getfield 11, 3), (70, .iload_n 1, 1), (71, .aaload, 1), (72, .aload_n 0, 1), (73, .getfield 30, 3), (76, .invokevirtual 35, 3), (79, .iinc 1 1, 3)]
def pr_38_5 : List (Nat × Instr × Nat) := [(82, .goto (-36), 3), (85, .aload_n 0, 1), (86, .iconst 1, 1), (87, .putfield 39, 3), (90, .return_, 1)]
def pb_38 : List (List (Nat × Instr × Nat)) := [pr_38_0, pr_38_1, pr_38_2, pr_38_3, pr_38_4, pr_38_5]
def pm_38 : px_M := (⟨"TextAtlas$Data", "<init>", "()V"⟩, (prog_5_method_1_code, 2, none, []), pb_38, [(3, 6, 0, 0, 0), (9, 8, 4, 0, 0), (11, 0, 2, 0, 1), (17, 0, 2, 2, 1), (23, 0, 2, 3, 1), (27, 8, 3, 0, 0), (29, 5, 44, 0, 0), (30, 0, 2, 7, 1), (34, 5, 54, 0, 0), (35, 3, 55, 1, 4), (39, 0, 2, 1, 1), (65545, 10, 5, 0, 0), (65557, 10, 6, 0, 0)])
def pr_39_0 : List (Nat × Instr × Nat) := [(0, .aload_n 0, 1), (1, .getfield 11, 3), (4, .iconst 0, 1), (5, .aaload, 1), (6, .aload_n 0, 1), (7, .getfield 30, 3), (10, .invokevirtual 35, 3), (13, .aload_n 0, 1), (14, .iconst 1, 1), (15, .putfield 39, 3)]
def pr_39_1 : List (Nat × Instr × Nat) := [(18, .aload_n 0, 1), (19, .iconst 0, 1), (20, .putfield 43, 3), (23, .aload_n 0, 1), (24, .iconst 0, 1), (25, .putfield 46, 3), (28, .aload_n 0, 1), (29, .iconst 0, 1), (30, .putfield 49, 3)]
def pr_39_2 : List (Nat × Instr × Nat) := [(33, .return_, 1)]
def pb_39 : List (List (Nat × Instr × Nat)) := [pr_39_0, pr_39_1, pr_39_2]
def pm_39 : px_M := (⟨"TextAtlas$Data", "clear", "()V"⟩, (prog_5_method_2_code, 1, none, []), pb_39, [(11, 0, 2, 0, 0), (30, 0, 2, 7, 0), (35, 3, 55, 1, 4), (39, 0, 2, 1, 1), (43, 0, 2, 4, 1), (46, 0, 2, 5, 1), (49, 0, 2, 6, 1)])
def pr_40_0 : List (Nat × Instr × Nat) := [(0, .aload_n 0, 1), (1, .invokespecial 3, 3), (4, .aload_n 0, 1), (5, .sipush 20480, 3), (8, .newarray .int, 2), (10, .putfield 9, 3), (13, .aload_n 0, 1), (14, .sipush 256, 3)]
def pr_40_1 : List (Nat × Instr × Nat) := [(17, .anewarray 15, 3), (20, .putfield 17, 3), (23, .aload_n 0, 1), (24, .sipush 256, 3), (27, .newarray .int, 2), (29, .putfield 21, 3)]
def pr_40_2 : List (Nat × Instr × Nat) := [(32, .aload_n 0, 1), (33, .sipush 256, 3), (36, .newarray .long, 2), (38, .putfield 24, 3), (41, .aload_n 0, 1), (42, .sipush 256, 3), (45, .newarray .int, 2), (47, .putfield 28, 3)]
def pr_40_3 : List (Nat × Instr × Nat) := [(50, .aload_n 0, 1), (51, .aload_n 1, 1), (52, .putfield 31, 3), (55, .return_, 1)]
def pb_40 : List (List (Nat × Instr × Nat)) := [pr_40_0, pr_40_1, pr_40_2, pr_40_3]
def pm_40 : px_M := (⟨"TextAtlas$Decompositions", "<init>", "(LTextAtlas$Data;)V"⟩, (prog_6_method_1_code, 2, none, []), pb_40, [(3, 6, 0, 0, 0), (9, 0, 6, 1, 1), (17, 0, 6, 3, 1), (21, 0, 6, 4, 1), (24, 0, 6, 6, 1), (28, 0, 6, 7, 1), (31, 0, 6, 0, 1), (65551, 10, 7, 0, 0)])
def pr_41_0 : List (Nat × Instr × Nat) := [(0, .iconst 0, 1), (1, .istore_n 1, 1), (2, .iload_n 1, 1), (3, .aload_n 0, 1), (4, .getfield 31, 3), (7, .getfield 46, 3), (10, .if_icmp .ge 79, 3), (13, .aload_n 0, 1), (14, .getfield 31, 3)]
def pr_41_1 : List (Nat × Instr × Nat) := [(17, .getfield 51, 3), (20, .iload_n 1, 1), (21, .aaload, 1), (22, .getfield 55, 3), (25, .astore_n 2, 1), (26, .aload_n 2, 1), (27, .iconst 0, 1), (28, .putfield 64, 3), (31, .aload_n 2, 1)]
def pr_41_2 : List (Nat × Instr × Nat) := [(32, .getfield 61, 3), (35, .ifnull 23, 3)]
def pr_41_3 : List (Nat × Instr × Nat) := [(58, .iconst 0, 1), (59, .istore_n 3, 1), (60, .iload_n 3, 1), (61, .ifCond .ne 20, 3)]
def pr_41_4 : List (Nat × Instr × Nat) := [(64, .aload_n 2, 1), (65, .getfield 61, 3), (68, .ifnull 15, 3)]
def pr_41_5 : List (Nat × Instr × Nat) := [(83, .iinc 1 1, 3), (86, .goto (-84), 3), (89, .iconst 1, 1), (90, .ireturn, 1)]
def pb_41 : List (List (Nat × Instr × Nat)) := [pr_41_0, pr_41_1, pr_41_2, pr_41_3, pr_41_4, pr_41_5]
def pm_41 : px_M := (⟨"TextAtlas$Decompositions", "checkShapes", "()Z"⟩, (prog_6_method_3_code, 4, some .boolean, []), pb_41, [(31, 0, 6, 0, 0), (46, 0, 2, 1, 1), (51, 0, 2, 0, 0), (55, 0, 4, 1, 1), (61, 0, 3, 3, 1), (64, 0, 3, 8, 1)])
def pr_42_0 : List (Nat × Instr × Nat) := [(0, .iconst 0, 1), (1, .istore_n 1, 1), (2, .iload_n 1, 1), (3, .aload_n 0, 1), (4, .getfield 31, 3), (7, .getfield 46, 3), (10, .if_icmp .ge 81, 3), (13, .aload_n 0, 1), (14, .getfield 31, 3)]
def pr_42_1 : List (Nat × Instr × Nat) := [(17, .getfield 51, 3), (20, .iload_n 1, 1), (21, .aaload, 1), (22, .getfield 55, 3), (25, .astore_n 2, 1), (26, .aload_n 2, 1), (27, .getfield 61, 3), (30, .ifnull 55, 3)]
def pr_42_5 : List (Nat × Instr × Nat) := [(85, .iinc 1 1, 3), (88, .goto (-86), 3), (91, .iconst 1, 1), (92, .ireturn, 1)]
def pb_42 : List (List (Nat × Instr × Nat)) := [pr_42_0, pr_42_1, [], [], [], pr_42_5]
def pm_42 : px_M := (⟨"TextAtlas$Decompositions", "gatherPairs", "()Z"⟩, (prog_6_method_17_code, 3, some .boolean, []), pb_42, [(31, 0, 6, 0, 0), (46, 0, 2, 1, 1), (51, 0, 2, 0, 0), (55, 0, 4, 1, 1), (61, 0, 3, 3, 1)])
def pr_43_0 : List (Nat × Instr × Nat) := [(0, .aload_n 0, 1), (1, .iconst 0, 1), (2, .putfield 35, 3), (5, .aload_n 0, 1), (6, .iconst 0, 1), (7, .putfield 39, 3), (10, .aload_n 0, 1), (11, .invokevirtual 42, 3), (14, .ifCond .ne 5, 3)]
def pr_43_1 : List (Nat × Instr × Nat) := [(19, .iconst 0, 1), (20, .istore_n 1, 1), (21, .iload_n 1, 1), (22, .aload_n 0, 1), (23, .getfield 31, 3), (26, .getfield 46, 3), (29, .if_icmp .ge 46, 3)]
def pr_43_2 : List (Nat × Instr × Nat) := [(32, .aload_n 0, 1), (33, .getfield 31, 3), (36, .getfield 51, 3), (39, .iload_n 1, 1), (40, .aaload, 1), (41, .getfield 55, 3), (44, .astore_n 2, 1), (45, .aload_n 2, 1), (46, .getfield 61, 3)]
def pr_43_3 : List (Nat × Instr × Nat) := [(49, .ifnull 20, 3)]
def pr_43_4 : List (Nat × Instr × Nat) := [(69, .iinc 1 1, 3), (72, .goto (-51), 3), (75, .aload_n 0, 1), (76, .invokevirtual 71, 3), (79, .ireturn, 1)]
def pb_43 : List (List (Nat × Instr × Nat)) := [pr_43_0, pr_43_1, pr_43_2, pr_43_3, pr_43_4]
def pm_43 : px_M := (⟨"TextAtlas$Decompositions", "prepare", "()Z"⟩, (prog_6_method_2_code, 3, some .boolean, []), pb_43, [(31, 0, 6, 0, 0), (35, 0, 6, 2, 1), (39, 0, 6, 8, 1), (42, 3, 41, 0, 6), (46, 0, 2, 1, 1), (51, 0, 2, 0, 0), (55, 0, 4, 1, 1), (61, 0, 3, 3, 1), (71, 3, 42, 0, 6)])
def pr_44_0 : List (Nat × Instr × Nat) := [(0, .aload_n 0, 1), (1, .invokespecial 3, 3), (4, .aload_n 0, 1), (5, .sipush 17262, 3), (8, .putfield 9, 3), (11, .aload_n 0, 1), (12, .iconst (-1), 1), (13, .putfield 15, 3)]
def pr_44_1 : List (Nat × Instr × Nat) := [(16, .aload_n 0, 1), (17, .iconst (-1), 1), (18, .putfield 18, 3), (21, .aload_n 0, 1), (22, .iconst (-1), 1), (23, .putfield 21, 3), (26, .return_, 1)]
def pb_44 : List (List (Nat × Instr × Nat)) := [pr_44_0, pr_44_1]
def pm_44 : px_M := (⟨"TextAtlas$Fact", "<init>", "()V"⟩, (prog_8_method_1_code, 1, none, []), pb_44, [(3, 6, 0, 0, 0), (9, 0, 3, 1, 1), (15, 0, 3, 5, 1), (18, 0, 3, 6, 1), (21, 0, 3, 7, 1)])
def pr_45_0 : List (Nat × Instr × Nat) := [(0, .aload_n 0, 1), (1, .invokespecial 3, 3), (4, .aload_n 0, 1), (5, .sipush 2000, 3), (8, .newarray .int, 2), (10, .putfield 9, 3), (13, .aload_n 0, 1), (14, .sipush 2000, 3)]
def pr_45_1 : List (Nat × Instr × Nat) := [(17, .newarray .int, 2), (19, .putfield 15, 3), (22, .aload_n 0, 1), (23, .sipush 2000, 3), (26, .newarray .int, 2), (28, .putfield 18, 3), (31, .aload_n 0, 1)]
def pr_45_2 : List (Nat × Instr × Nat) := [(32, .aload_n 1, 1), (33, .putfield 21, 3), (36, .aload_n 0, 1), (37, .aload_n 2, 1), (38, .putfield 25, 3), (41, .return_, 1)]
def pb_45 : List (List (Nat × Instr × Nat)) := [pr_45_0, pr_45_1, pr_45_2]
def pm_45 : px_M := (⟨"TextAtlas$Forms", "<init>", "(LTextAtlas$Data;LTextAtlas$Decompositions;)V"⟩, (prog_9_method_1_code, 3, none, []), pb_45, [(3, 6, 0, 0, 0), (9, 0, 7, 2, 1), (15, 0, 7, 3, 1), (18, 0, 7, 4, 1), (21, 0, 7, 0, 1), (25, 0, 7, 1, 1)])
def pr_46_0 : List (Nat × Instr × Nat) := [(0, .aload_n 0, 1), (1, .invokespecial 3, 3), (4, .aload_n 0, 1), (5, .bipush 7, 2), (7, .newarray .int, 2), (9, .putfield 11, 3), (12, .aload_n 0, 1), (13, .bipush 7, 2), (15, .newarray .int, 2)]
def pr_46_1 : List (Nat × Instr × Nat) := [(17, .putfield 15, 3), (20, .aload_n 0, 1), (21, .aload_n 1, 1), (22, .putfield 18, 3), (25, .aload_n 0, 1), (26, .aload_n 2, 1), (27, .putfield 22, 3), (30, .return_, 1)]
def pb_46 : List (List (Nat × Instr × Nat)) := [pr_46_0, pr_46_1]
def pm_46 : px_M := (⟨"TextAtlas$Reader", "<init>", "([BLTextAtlas$Data;)V"⟩, (prog_10_method_1_code, 3, none, []), pb_46, [(3, 6, 0, 0, 0), (11, 0, 5, 2, 1), (15, 0, 5, 3, 1), (18, 0, 5, 0, 1), (22, 0, 5, 1, 1)])
def pr_47_0 : List (Nat × Instr × Nat) := [(0, .iconst 0, 1), (1, .istore_n 2, 1), (2, .iload_n 2, 1), (3, .iload_n 1, 1), (4, .if_icmp .ge 22, 3)]
def pr_47_1 : List (Nat × Instr × Nat) := [(26, .iload_n 1, 1), (27, .ireturn, 1)]
def pb_47 : List (List (Nat × Instr × Nat)) := [pr_47_0, pr_47_1]
def pm_47 : px_M := (⟨"TextAtlas$Reader", "commentStart", "(I)I"⟩, (prog_10_method_6_code, 3, some .int, []), pb_47, [])
def pr_48_0 : List (Nat × Instr × Nat) := [(0, .iload_n 0, 1), (1, .tableswitch 34 0 2 #[27, 30, 32], 27)]
def pr_48_1 : List (Nat × Instr × Nat) := [(28, .bipush 7, 2), (30, .ireturn, 1), (31, .iconst 5, 1)]
def pr_48_2 : List (Nat × Instr × Nat) := [(32, .ireturn, 1), (33, .iconst 3, 1), (34, .ireturn, 1), (35, .iconst 2, 1), (36, .ireturn, 1)]
def pb_48 : List (List (Nat × Instr × Nat)) := [pr_48_0, pr_48_1, pr_48_2]
def pm_48 : px_M := (⟨"TextAtlas$Reader", "fieldsOf", "(I)I"⟩, (prog_10_method_3_code, 1, some .int, []), pb_48, [])
def pr_49_0 : List (Nat × Instr × Nat) := [(0, .iconst 0, 1), (1, .istore_n 2, 1), (2, .iload_n 2, 1), (3, .iload_n 1, 1), (4, .if_icmp .ge 44, 3)]
def pr_49_3 : List (Nat × Instr × Nat) := [(48, .iconst 1, 1), (49, .ireturn, 1)]
def pb_49 : List (List (Nat × Instr × Nat)) := [pr_49_0, [], [], pr_49_3]
def pm_49 : px_M := (⟨"TextAtlas$Reader", "isPlain", "(I)Z"⟩, (prog_10_method_5_code, 3, some .boolean, []), pb_49, [])
def pr_50_0 : List (Nat × Instr × Nat) := [(0, .iload_n 1, 1), (1, .istore_n 3, 1), (2, .iload_n 3, 1), (3, .iload_n 2, 1), (4, .if_icmp .ge 17, 3)]
def pr_50_1 : List (Nat × Instr × Nat) := [(21, .iload_n 3, 1), (22, .ireturn, 1)]
def pb_50 : List (List (Nat × Instr × Nat)) := [pr_50_0, pr_50_1]
def pm_50 : px_M := (⟨"TextAtlas$Reader", "skipBlanks", "(II)I"⟩, (prog_10_method_9_code, 4, some .int, []), pb_50, [])
def pr_51_0 : List (Nat × Instr × Nat) := [(0, .aload_n 0, 1), (1, .iload_n 1, 1), (2, .invokevirtual 56, 3), (5, .ifCond .ne 5, 3), (10, .aload_n 0, 1), (11, .iload_n 1, 1), (12, .invokevirtual 60, 3), (15, .istore_n 3, 1)]
def pr_51_1 : List (Nat × Instr × Nat) := [(16, .iconst 0, 1), (17, .istore 4, 2), (19, .iconst 0, 1), (20, .istore 5, 2), (22, .iconst 0, 1), (23, .istore 6, 2), (25, .iload 6, 2), (27, .iload_n 3, 1), (28, .if_icmp .gt 54, 3), (31, .iload 6, 2)]
def pr_51_2 : List (Nat × Instr × Nat) := [(33, .iload_n 3, 1), (34, .if_icmp .eq 15, 3)]
def pr_51_3 : List (Nat × Instr × Nat) := [(49, .iload 4, 2), (51, .iload_n 2, 1), (52, .if_icmp .lt 5, 3), (57, .aload_n 0, 1), (58, .iload 4, 2), (60, .iload 5, 2), (62, .iload 6, 2)]
def pr_51_4 : List (Nat × Instr × Nat) := [(64, .invokevirtual 63, 3), (67, .iinc 4 1, 3), (70, .iload 6, 2), (72, .iconst 1, 1), (73, .iadd, 1), (74, .istore 5, 2), (76, .iinc 6 1, 3), (79, .goto (-54), 3)]
def pr_51_5 : List (Nat × Instr × Nat) := [(82, .iload 4, 2), (84, .iload_n 2, 1), (85, .if_icmp .ne 7, 3), (92, .iconst 0, 1), (93, .ireturn, 1)]
def pb_51 : List (List (Nat × Instr × Nat)) := [pr_51_0, pr_51_1, pr_51_2, pr_51_3, pr_51_4, pr_51_5]
def pm_51 : px_M := (⟨"TextAtlas$Reader", "split", "(II)Z"⟩, (prog_10_method_4_code, 7, some .boolean, []), pb_51, [(56, 3, 49, 1, 5), (60, 3, 47, 1, 5), (63, 3, 53, 3, 5)])
def pr_52_0 : List (Nat × Instr × Nat) := [(0, .aload_n 0, 1), (1, .getfield 22, 3), (4, .getfield 26, 3), (7, .sipush 256, 3), (10, .if_icmp .ge 15, 3), (13, .aload_n 0, 1), (14, .iload_n 2, 1), (15, .iload_n 1, 1)]
def pr_52_1 : List (Nat × Instr × Nat) := [(16, .invokestatic 32, 3), (19, .invokevirtual 36, 3), (22, .ifCond .ne 5, 3), (25, .iconst (-1), 1), (26, .ireturn, 1)]
def pb_52 : List (List (Nat × Instr × Nat)) := [pr_52_0, pr_52_1]
def pm_52 : px_M := (⟨"TextAtlas$Reader", "take", "(II)I"⟩, (prog_10_method_2_code, 4, some .int, []), pb_52, [(22, 0, 5, 1, 0), (26, 0, 2, 5, 1), (32, 2, 48, 1, 0), (36, 3, 51, 2, 5)])
def pr_53_0 : List (Nat × Instr × Nat) := [(0, .aload_n 0, 1), (1, .iload_n 2, 1), (2, .iload_n 3, 1), (3, .invokevirtual 67, 3), (6, .istore 4, 2), (8, .iload_n 3, 1), (9, .istore 5, 2), (11, .iload 5, 2), (13, .iload 4, 2), (15, .if_icmp .le 20, 3)]
def pr_53_2 : List (Nat × Instr × Nat) := [(35, .aload_n 0, 1), (36, .getfield 11, 3), (39, .iload_n 1, 1), (40, .iload 4, 2), (42, .iastore, 1), (43, .aload_n 0, 1), (44, .getfield 15, 3), (47, .iload_n 1, 1)]
def pr_53_3 : List (Nat × Instr × Nat) := [(48, .iload 5, 2), (50, .iastore, 1), (51, .return_, 1)]
def pb_53 : List (List (Nat × Instr × Nat)) := [pr_53_0, [], pr_53_2, pr_53_3]
def pm_53 : px_M := (⟨"TextAtlas$Reader", "trim", "(III)V"⟩, (prog_10_method_7_code, 6, none, []), pb_53, [(11, 0, 5, 2, 0), (15, 0, 5, 3, 0), (67, 3, 50, 2, 5)])
def pr_54_0 : List (Nat × Instr × Nat) := [(0, .aload_n 0, 1), (1, .invokespecial 3, 3), (4, .return_, 1)]
def pb_54 : List (List (Nat × Instr × Nat)) := [pr_54_0]
def pm_54 : px_M := (⟨"TextAtlas$Span", "<init>", "()V"⟩, (prog_11_method_1_code, 1, none, []), pb_54, [(3, 6, 0, 0, 0)])
def pr_55_0 : List (Nat × Instr × Nat) := [(0, .aload_n 0, 1), (1, .iconst 0, 1), (2, .putfield 39, 3), (5, .aload_n 0, 1), (6, .aload_n 1, 1), (7, .putfield 9, 3), (10, .aload_n 0, 1), (11, .iconst 0, 1), (12, .putfield 15, 3), (15, .aload_n 0, 1)]
def pr_55_1 : List (Nat × Instr × Nat) := [(16, .iconst 0, 1), (17, .putfield 19, 3), (20, .aload_n 0, 1), (21, .iconst 0, 1), (22, .putfield 22, 3), (25, .aload_n 0, 1), (26, .aconst_null, 1), (27, .putfield 25, 3), (30, .aload_n 0, 1), (31, .aconst_null, 1)]
def pr_55_2 : List (Nat × Instr × Nat) := [(32, .putfield 29, 3), (35, .aload_n 0, 1), (36, .aconst_null, 1), (37, .putfield 32, 3), (40, .aload_n 0, 1), (41, .aconst_null, 1), (42, .putfield 35, 3), (45, .return_, 1)]
def pb_55 : List (List (Nat × Instr × Nat)) := [pr_55_0, pr_55_1, pr_55_2]
def pm_55 : px_M := (⟨"TextAtlas$Span", "becomeUntold", "(LTextAtlas$Fact;)V"⟩, (prog_11_method_3_code, 2, none, []), pb_55, [(9, 0, 4, 1, 1), (15, 0, 4, 2, 1), (19, 0, 4, 3, 1), (22, 0, 4, 4, 1), (25, 0, 4, 5, 1), (29, 0, 4, 6, 1), (32, 0, 4, 7, 1), (35, 0, 4, 8, 1), (39, 0, 4, 0, 1)])
def pr_56_0 : List (Nat × Instr × Nat) := [(0, .aload_n 0, 1), (1, .invokespecial 3, 3), (4, .aload_n 0, 1), (5, .sipush 2000, 3), (8, .newarray .int, 2), (10, .putfield 9, 3), (13, .return_, 1)]
def pb_56 : List (List (Nat × Instr × Nat)) := [pr_56_0]
def pm_56 : px_M := (⟨"TextAtlas$Text", "<init>", "()V"⟩, (prog_13_method_1_code, 1, none, []), pb_56, [(3, 6, 0, 0, 0), (9, 0, 1, 0, 1)])
def pr_57_0 : List (Nat × Instr × Nat) := [(0, .aload_n 0, 1), (1, .getfield 15, 3), (4, .sipush 2000, 3), (7, .if_icmp .lt 5, 3), (12, .aload_n 0, 1), (13, .getfield 9, 3)]
def pr_57_1 : List (Nat × Instr × Nat) := [(16, .aload_n 0, 1), (17, .getfield 15, 3), (20, .iload_n 1, 1), (21, .iastore, 1), (22, .aload_n 0, 1), (23, .dup, 1), (24, .getfield 15, 3), (27, .iconst 1, 1), (28, .iadd, 1), (29, .putfield 15, 3)]
def pr_57_2 : List (Nat × Instr × Nat) := [(32, .iconst 1, 1), (33, .ireturn, 1)]
def pb_57 : List (List (Nat × Instr × Nat)) := [pr_57_0, pr_57_1, pr_57_2]
def pm_57 : px_M := (⟨"TextAtlas$Text", "append", "(I)Z"⟩, (prog_13_method_2_code, 2, some .boolean, []), pb_57, [(9, 0, 1, 0, 0), (15, 0, 1, 1, 1)])
def pr_58_0 : List (Nat × Instr × Nat) := [(0, .aload_n 1, 1), (1, .getfield 9, 3), (4, .iload_n 2, 1), (5, .aload_n 0, 1), (6, .getfield 9, 3), (9, .iconst 0, 1), (10, .iload_n 3, 1), (11, .iload_n 2, 1), (12, .isub, 1), (13, .invokestatic 19, 3)]
def pr_58_1 : List (Nat × Instr × Nat) := [(16, .aload_n 0, 1), (17, .iload_n 3, 1), (18, .iload_n 2, 1), (19, .isub, 1), (20, .putfield 15, 3), (23, .return_, 1)]
def pb_58 : List (List (Nat × Instr × Nat)) := [pr_58_0, pr_58_1]
def pm_58 : px_M := (⟨"TextAtlas$Text", "takePart", "(LTextAtlas$Text;II)V"⟩, (prog_13_method_4_code, 4, none, []), pb_58, [(9, 0, 1, 0, 0), (15, 0, 1, 1, 1), (19, 13, 0, 0, 0)])
def pr_59_0 : List (Nat × Instr × Nat) := [(0, .aload_n 3, 1), (1, .iconst 0, 1), (2, .aload_n 0, 1), (3, .iload_n 1, 1), (4, .iload_n 2, 1), (5, .invokevirtual 83, 3), (13, .astore 4, 2), (15, .iconst 1, 1)]
def pr_59_1 : List (Nat × Instr × Nat) := [(16, .ireturn, 1), (17, .astore 4, 2), (19, .iconst 2, 1), (20, .ireturn, 1)]
def pb_59 : List (List (Nat × Instr × Nat)) := [pr_59_0, pr_59_1]
def pm_59 : px_M := (⟨"TextAtlasLaw", "about", "(LTextAtlas;II[J)I"⟩, (method_21_code, 5, some .int, [(0, 10, 13, 19), (0, 10, 17, 24)]), pb_59, [(19, 9, 1, 0, 0), (24, 9, 2, 0, 0), (83, 3, 2, 2, 0)])
def pr_60_0 : List (Nat × Instr × Nat) := [(0, .aload_n 3, 1), (1, .iconst 0, 1), (2, .aload_n 0, 1), (3, .iload_n 1, 1), (4, .iload_n 2, 1), (5, .invokevirtual 37, 3), (8, .i2l, 1), (9, .lastore, 1), (10, .goto 11, 3), (13, .astore 4, 2), (15, .iconst 1, 1)]
def pr_60_1 : List (Nat × Instr × Nat) := [(16, .ireturn, 1), (21, .iconst 0, 1), (22, .ireturn, 1)]
def pb_60 : List (List (Nat × Instr × Nat)) := [pr_60_0, pr_60_1]
def pm_60 : px_M := (⟨"TextAtlasLaw", "add", "(LTextAtlas;II[J)I"⟩, (method_8_code, 5, some .int, [(0, 10, 13, 19), (0, 10, 17, 13)]), pb_60, [(13, 9, 0, 0, 0), (19, 9, 1, 0, 0), (37, 3, 3, 2, 0)])
def pr_61_0 : List (Nat × Instr × Nat) := [(0, .aload_n 2, 1), (1, .iconst 0, 1), (2, .aload_n 0, 1), (3, .iload_n 1, 1), (4, .invokevirtual 86, 3), (7, .i2l, 1), (8, .lastore, 1), (9, .goto 9, 3), (12, .astore_n 3, 1), (13, .iconst 1, 1), (14, .ireturn, 1)]
def pr_61_1 : List (Nat × Instr × Nat) := [(18, .iconst 0, 1), (19, .ireturn, 1)]
def pb_61 : List (List (Nat × Instr × Nat)) := [pr_61_0, pr_61_1]
def pm_61 : px_M := (⟨"TextAtlasLaw", "bytes", "(LTextAtlas;I[J)I"⟩, (method_22_code, 4, some .int, [(0, 9, 12, 19), (0, 9, 15, 26)]), pb_61, [(19, 9, 1, 0, 0), (26, 9, 3, 0, 0), (86, 3, 4, 1, 0)])
def pr_62_0 : List (Nat × Instr × Nat) := [(0, .aload 5, 2), (2, .iconst 0, 1), (3, .aload_n 0, 1), (4, .iload_n 1, 1), (5, .iload_n 2, 1), (6, .iload_n 3, 1), (7, .iload 4, 2), (9, .invokevirtual 62, 3)]
def pr_62_1 : List (Nat × Instr × Nat) := [(17, .astore 6, 2), (19, .iconst 1, 1), (20, .ireturn, 1), (21, .astore 6, 2), (23, .iconst 2, 1), (24, .ireturn, 1)]
def pb_62 : List (List (Nat × Instr × Nat)) := [pr_62_0, pr_62_1]
def pm_62 : px_M := (⟨"TextAtlasLaw", "change", "(LTextAtlas;IIII[J)I"⟩, (method_15_code, 7, some .int, [(0, 14, 17, 19), (0, 14, 21, 24), (0, 14, 25, 13)]), pb_62, [(13, 9, 0, 0, 0), (19, 9, 1, 0, 0), (24, 9, 2, 0, 0), (62, 3, 5, 4, 0)])
def pr_63_0 : List (Nat × Instr × Nat) := [(0, .aload 5, 2), (2, .iconst 0, 1), (3, .aload_n 0, 1), (4, .iload_n 1, 1), (5, .iload_n 2, 1), (6, .iload_n 3, 1), (7, .iload 4, 2), (9, .invokevirtual 80, 3)]
def pr_63_1 : List (Nat × Instr × Nat) := [(17, .astore 6, 2), (19, .iconst 1, 1), (20, .ireturn, 1), (21, .astore 6, 2), (23, .iconst 2, 1), (24, .ireturn, 1)]
def pb_63 : List (List (Nat × Instr × Nat)) := [pr_63_0, pr_63_1]
def pm_63 : px_M := (⟨"TextAtlasLaw", "compare", "(LTextAtlas;IIIZ[J)I"⟩, (method_20_code, 7, some .int, [(0, 14, 17, 19), (0, 14, 21, 24), (0, 14, 25, 13)]), pb_63, [(13, 9, 0, 0, 0), (19, 9, 1, 0, 0), (24, 9, 2, 0, 0), (80, 3, 6, 4, 0)])
def pr_64_0 : List (Nat × Instr × Nat) := [(0, .aload_n 2, 1), (1, .iconst 0, 1), (2, .aload_n 0, 1), (3, .iload_n 1, 1), (4, .invokevirtual 93, 3), (7, .i2l, 1), (8, .lastore, 1), (9, .goto 6, 3), (12, .astore_n 3, 1), (13, .iconst 1, 1), (14, .ireturn, 1), (15, .iconst 0, 1)]
def pr_64_1 : List (Nat × Instr × Nat) := [(16, .ireturn, 1)]
def pb_64 : List (List (Nat × Instr × Nat)) := [pr_64_0, pr_64_1]
def pm_64 : px_M := (⟨"TextAtlasLaw", "count", "(LTextAtlas;I[J)I"⟩, (method_24_code, 4, some .int, [(0, 9, 12, 19)]), pb_64, [(19, 9, 1, 0, 0), (93, 3, 7, 1, 0)])
def pr_65_0 : List (Nat × Instr × Nat) := [(0, .aload 4, 2), (2, .iconst 0, 1), (3, .aload_n 0, 1), (4, .iload_n 1, 1), (5, .iload_n 2, 1), (6, .iload_n 3, 1), (7, .invokevirtual 69, 3)]
def pr_65_1 : List (Nat × Instr × Nat) := [(22, .astore 5, 2), (24, .iconst 1, 1), (25, .ireturn, 1), (26, .astore 5, 2), (28, .iconst 2, 1), (29, .ireturn, 1)]
def pb_65 : List (List (Nat × Instr × Nat)) := [pr_65_0, pr_65_1]
def pm_65 : px_M := (⟨"TextAtlasLaw", "edge", "(LTextAtlas;III[J)I"⟩, (method_17_code, 6, some .int, [(0, 19, 22, 19), (0, 19, 26, 24)]), pb_65, [(19, 9, 1, 0, 0), (24, 9, 2, 0, 0), (69, 3, 8, 3, 0)])
def pr_66_0 : List (Nat × Instr × Nat) := [(0, .aload_n 2, 1), (1, .iconst 0, 1), (2, .aload_n 0, 1), (3, .iload_n 1, 1), (4, .invokevirtual 15, 3), (7, .i2l, 1), (8, .lastore, 1), (9, .goto 6, 3), (12, .astore_n 3, 1), (13, .iconst 1, 1), (14, .ireturn, 1), (15, .iconst 0, 1)]
def pr_66_1 : List (Nat × Instr × Nat) := [(16, .ireturn, 1)]
def pb_66 : List (List (Nat × Instr × Nat)) := [pr_66_0, pr_66_1]
def pm_66 : px_M := (⟨"TextAtlasLaw", "end", "(LTextAtlas;I[J)I"⟩, (method_4_code, 4, some .int, [(0, 9, 12, 19)]), pb_66, [(15, 3, 9, 1, 0), (19, 9, 1, 0, 0)])
def pr_67_0 : List (Nat × Instr × Nat) := [(0, .aload 6, 2), (2, .iconst 0, 1), (3, .aload_n 0, 1), (4, .iload_n 1, 1), (5, .iload_n 2, 1), (6, .iload_n 3, 1), (7, .iload 4, 2), (9, .iload 5, 2), (11, .invokevirtual 7, 3), (14, .i2l, 1), (15, .lastore, 1)]
def pr_67_1 : List (Nat × Instr × Nat) := [(16, .goto 7, 3), (23, .iconst 0, 1), (24, .ireturn, 1)]
def pb_67 : List (List (Nat × Instr × Nat)) := [pr_67_0, pr_67_1]
def pm_67 : px_M := (⟨"TextAtlasLaw", "feed", "(LTextAtlas;IIIII[J)I"⟩, (method_3_code, 8, some .int, [(0, 16, 19, 13)]), pb_67, [(7, 3, 10, 5, 0), (13, 9, 0, 0, 0)])
def pr_68_0 : List (Nat × Instr × Nat) := [(0, .aload_n 3, 1), (1, .iconst 0, 1), (2, .aload_n 0, 1), (3, .iload_n 1, 1), (4, .iload_n 2, 1), (5, .invokevirtual 55, 3)]
def pr_68_1 : List (Nat × Instr × Nat) := [(20, .astore 4, 2), (22, .iconst 1, 1), (23, .ireturn, 1), (24, .astore 4, 2), (26, .iconst 2, 1), (27, .ireturn, 1)]
def pb_68 : List (List (Nat × Instr × Nat)) := [pr_68_0, pr_68_1]
def pm_68 : px_M := (⟨"TextAtlasLaw", "is", "(LTextAtlas;II[J)I"⟩, (method_13_code, 5, some .int, [(0, 17, 20, 19), (0, 17, 24, 24)]), pb_68, [(19, 9, 1, 0, 0), (24, 9, 2, 0, 0), (55, 3, 13, 2, 0)])
def pr_69_0 : List (Nat × Instr × Nat) := [(0, .aload 5, 2), (2, .iconst 0, 1), (3, .aload_n 0, 1), (4, .iload_n 1, 1), (5, .iload_n 2, 1), (6, .iload_n 3, 1), (7, .iload 4, 2), (9, .invokevirtual 59, 3)]
def pr_69_1 : List (Nat × Instr × Nat) := [(17, .astore 6, 2), (19, .iconst 1, 1), (20, .ireturn, 1), (21, .astore 6, 2), (23, .iconst 2, 1), (24, .ireturn, 1)]
def pb_69 : List (List (Nat × Instr × Nat)) := [pr_69_0, pr_69_1]
def pm_69 : px_M := (⟨"TextAtlasLaw", "join", "(LTextAtlas;IIII[J)I"⟩, (method_14_code, 7, some .int, [(0, 14, 17, 19), (0, 14, 21, 24), (0, 14, 25, 13)]), pb_69, [(13, 9, 0, 0, 0), (19, 9, 1, 0, 0), (24, 9, 2, 0, 0), (59, 3, 14, 4, 0)])
def pr_70_0 : List (Nat × Instr × Nat) := [(0, .aload 4, 2), (2, .iconst 0, 1), (3, .aload_n 0, 1), (4, .iload_n 1, 1), (5, .iload_n 2, 1), (6, .iload_n 3, 1), (7, .invokevirtual 76, 3), (15, .astore 5, 2)]
def pr_70_1 : List (Nat × Instr × Nat) := [(17, .iconst 1, 1), (18, .ireturn, 1), (19, .astore 5, 2), (21, .iconst 2, 1), (22, .ireturn, 1)]
def pb_70 : List (List (Nat × Instr × Nat)) := [pr_70_0, pr_70_1]
def pm_70 : px_M := (⟨"TextAtlasLaw", "key", "(LTextAtlas;IIZ[J)I"⟩, (method_19_code, 6, some .int, [(0, 12, 15, 19), (0, 12, 19, 24), (0, 12, 23, 13)]), pb_70, [(13, 9, 0, 0, 0), (19, 9, 1, 0, 0), (24, 9, 2, 0, 0), (76, 3, 15, 3, 0)])
def pr_71_0 : List (Nat × Instr × Nat) := [(0, .aload_n 2, 1), (1, .iconst 0, 1), (2, .aload_n 0, 1), (3, .iload_n 1, 1), (4, .invokevirtual 21, 3), (12, .astore_n 3, 1), (13, .iconst 1, 1), (14, .ireturn, 1)]
def pr_71_1 : List (Nat × Instr × Nat) := [(18, .astore_n 3, 1), (19, .iconst 3, 1), (20, .ireturn, 1)]
def pb_71 : List (List (Nat × Instr × Nat)) := [pr_71_0, pr_71_1]
def pm_71 : px_M := (⟨"TextAtlasLaw", "line", "(LTextAtlas;I[J)I"⟩, (method_5_code, 4, some .int, [(0, 9, 12, 19), (0, 9, 15, 24), (0, 9, 18, 26)]), pb_71, [(19, 9, 1, 0, 0), (21, 3, 16, 1, 0), (24, 9, 2, 0, 0), (26, 9, 3, 0, 0)])
def pr_72_0 : List (Nat × Instr × Nat) := [(0, .aload 4, 2), (2, .iconst 0, 1), (3, .aload_n 0, 1), (4, .iload_n 1, 1), (5, .iload_n 2, 1), (6, .iload_n 3, 1), (7, .invokevirtual 65, 3)]
def pr_72_1 : List (Nat × Instr × Nat) := [(22, .astore 5, 2), (24, .iconst 1, 1), (25, .ireturn, 1), (26, .astore 5, 2), (28, .iconst 2, 1), (29, .ireturn, 1)]
def pb_72 : List (List (Nat × Instr × Nat)) := [pr_72_0, pr_72_1]
def pm_72 : px_M := (⟨"TextAtlasLaw", "match", "(LTextAtlas;III[J)I"⟩, (method_16_code, 6, some .int, [(0, 19, 22, 19), (0, 19, 26, 24), (0, 19, 30, 13)]), pb_72, [(13, 9, 0, 0, 0), (19, 9, 1, 0, 0), (24, 9, 2, 0, 0), (65, 3, 17, 3, 0)])
def pr_73_0 : List (Nat × Instr × Nat) := [(0, .aload 5, 2), (2, .iconst 0, 1), (3, .aload_n 0, 1), (4, .iload_n 1, 1), (5, .iload_n 2, 1), (6, .iload_n 3, 1), (7, .iload 4, 2), (9, .invokevirtual 72, 3)]
def pr_73_1 : List (Nat × Instr × Nat) := [(17, .astore 6, 2), (19, .iconst 1, 1), (20, .ireturn, 1), (21, .astore 6, 2), (23, .iconst 2, 1), (24, .ireturn, 1)]
def pb_73 : List (List (Nat × Instr × Nat)) := [pr_73_0, pr_73_1]
def pm_73 : px_M := (⟨"TextAtlasLaw", "next", "(LTextAtlas;IIIZ[J)I"⟩, (method_18_code, 7, some .int, [(0, 14, 17, 19), (0, 14, 21, 24)]), pb_73, [(19, 9, 1, 0, 0), (24, 9, 2, 0, 0), (72, 3, 18, 4, 0)])
def pr_74_0 : List (Nat × Instr × Nat) := [(0, .aload 4, 2), (2, .iconst 0, 1), (3, .aload_n 0, 1), (4, .iload_n 1, 1), (5, .iload_n 2, 1), (6, .iload_n 3, 1), (7, .invokevirtual 51, 3), (15, .astore 5, 2)]
def pr_74_1 : List (Nat × Instr × Nat) := [(17, .iconst 1, 1), (18, .ireturn, 1), (19, .astore 5, 2), (21, .iconst 2, 1), (22, .ireturn, 1)]
def pb_74 : List (List (Nat × Instr × Nat)) := [pr_74_0, pr_74_1]
def pm_74 : px_M := (⟨"TextAtlasLaw", "normal", "(LTextAtlas;III[J)I"⟩, (method_12_code, 6, some .int, [(0, 12, 15, 19), (0, 12, 19, 24), (0, 12, 23, 13)]), pb_74, [(13, 9, 0, 0, 0), (19, 9, 1, 0, 0), (24, 9, 2, 0, 0), (51, 3, 19, 3, 0)])
def pr_75_0 : List (Nat × Instr × Nat) := [(0, .aload 5, 2), (2, .iconst 0, 1), (3, .aload_n 0, 1), (4, .iload_n 1, 1), (5, .iload_n 2, 1), (6, .iload_n 3, 1), (7, .iload 4, 2), (9, .invokevirtual 41, 3), (12, .i2l, 1), (13, .lastore, 1), (14, .goto 7, 3)]
def pr_75_1 : List (Nat × Instr × Nat) := [(17, .astore 6, 2), (19, .iconst 1, 1), (20, .ireturn, 1), (21, .iconst 0, 1), (22, .ireturn, 1)]
def pb_75 : List (List (Nat × Instr × Nat)) := [pr_75_0, pr_75_1]
def pm_75 : px_M := (⟨"TextAtlasLaw", "part", "(LTextAtlas;IIII[J)I"⟩, (method_9_code, 7, some .int, [(0, 14, 17, 19)]), pb_75, [(19, 9, 1, 0, 0), (41, 3, 20, 4, 0)])
def pr_76_0 : List (Nat × Instr × Nat) := [(0, .aload_n 3, 1), (1, .iconst 0, 1), (2, .aload_n 0, 1), (3, .iload_n 1, 1), (4, .iload_n 2, 1), (5, .invokevirtual 45, 3), (13, .astore 4, 2), (15, .iconst 1, 1)]
def pr_76_1 : List (Nat × Instr × Nat) := [(16, .ireturn, 1), (17, .astore 4, 2), (19, .iconst 2, 1), (20, .ireturn, 1)]
def pb_76 : List (List (Nat × Instr × Nat)) := [pr_76_0, pr_76_1]
def pm_76 : px_M := (⟨"TextAtlasLaw", "point", "(LTextAtlas;II[J)I"⟩, (method_10_code, 5, some .int, [(0, 10, 13, 19), (0, 10, 17, 13)]), pb_76, [(13, 9, 0, 0, 0), (19, 9, 1, 0, 0), (45, 3, 21, 2, 0)])
def pr_77_0 : List (Nat × Instr × Nat) := [(0, .aload_n 1, 1), (1, .iconst 0, 1), (2, .aload_n 0, 1), (3, .invokevirtual 28, 3), (6, .i2l, 1), (7, .lastore, 1), (8, .goto 9, 3)]
def pr_77_1 : List (Nat × Instr × Nat) := [(17, .iconst 0, 1), (18, .ireturn, 1)]
def pb_77 : List (List (Nat × Instr × Nat)) := [pr_77_0, pr_77_1]
def pm_77 : px_M := (⟨"TextAtlasLaw", "seal", "(LTextAtlas;[J)I"⟩, (method_6_code, 3, some .int, [(0, 8, 11, 24), (0, 8, 14, 32)]), pb_77, [(24, 9, 2, 0, 0), (28, 3, 31, 0, 0), (32, 9, 4, 0, 0)])
def pr_78_0 : List (Nat × Instr × Nat) := [(0, .aload_n 2, 1), (1, .iconst 0, 1), (2, .aload_n 0, 1), (3, .iload_n 1, 1), (4, .invokevirtual 48, 3), (7, .i2l, 1), (8, .lastore, 1), (9, .goto 6, 3), (12, .astore_n 3, 1), (13, .iconst 1, 1), (14, .ireturn, 1), (15, .iconst 0, 1)]
def pr_78_1 : List (Nat × Instr × Nat) := [(16, .ireturn, 1)]
def pb_78 : List (List (Nat × Instr × Nat)) := [pr_78_0, pr_78_1]
def pm_78 : px_M := (⟨"TextAtlasLaw", "size", "(LTextAtlas;I[J)I"⟩, (method_11_code, 4, some .int, [(0, 9, 12, 19)]), pb_78, [(19, 9, 1, 0, 0), (48, 3, 32, 1, 0)])
def pr_79_0 : List (Nat × Instr × Nat) := [(0, .aload_n 2, 1), (1, .iconst 0, 1), (2, .aload_n 0, 1), (3, .iload_n 1, 1), (4, .invokevirtual 34, 3), (7, .i2l, 1), (8, .lastore, 1), (9, .goto 12, 3), (12, .astore_n 3, 1), (13, .iconst 1, 1), (14, .ireturn, 1)]
def pr_79_1 : List (Nat × Instr × Nat) := [(21, .iconst 0, 1), (22, .ireturn, 1)]
def pb_79 : List (List (Nat × Instr × Nat)) := [pr_79_0, pr_79_1]
def pm_79 : px_M := (⟨"TextAtlasLaw", "text", "(LTextAtlas;I[J)I"⟩, (method_7_code, 4, some .int, [(0, 9, 12, 19), (0, 9, 15, 26), (0, 9, 18, 13)]), pb_79, [(13, 9, 0, 0, 0), (19, 9, 1, 0, 0), (26, 9, 3, 0, 0), (34, 3, 33, 1, 0)])
def pr_80_0 : List (Nat × Instr × Nat) := [(0, .aload_n 2, 1), (1, .iconst 0, 1), (2, .aload_n 0, 1), (3, .iload_n 1, 1), (4, .invokevirtual 89, 3), (11, .astore_n 3, 1), (12, .iconst 1, 1), (13, .ireturn, 1)]
def pb_80 : List (List (Nat × Instr × Nat)) := [pr_80_0]
def pm_80 : px_M := (⟨"TextAtlasLaw", "word", "(LTextAtlas;I[J)I"⟩, (method_23_code, 4, some .int, [(0, 8, 11, 13)]), pb_80, [(13, 9, 0, 0, 0), (89, 3, 34, 1, 0)])
def pr_81_0 : List (Nat × Instr × Nat) := [(0, .aload_n 0, 1), (1, .invokespecial 1, 3), (4, .aload_n 0, 1), (5, .sipush 4096, 3), (8, .newarray .byte, 2), (10, .putfield 7, 3), (13, .aload_n 0, 1), (14, .ldc 13, 2)]
def pr_81_1 : List (Nat × Instr × Nat) := [(16, .newarray .byte, 2), (18, .putfield 14, 3), (21, .aload_n 0, 1), (22, .bipush 8, 2), (24, .sipush 2000, 3), (27, .multianewarray 17 2, 4), (31, .putfield 19, 3)]
def pr_81_2 : List (Nat × Instr × Nat) := [(34, .aload_n 0, 1), (35, .bipush 8, 2), (37, .newarray .int, 2), (39, .putfield 22, 3), (42, .aload_n 0, 1), (43, .sipush 1024, 3), (46, .newarray .int, 2)]
def pr_81_3 : List (Nat × Instr × Nat) := [(48, .putfield 26, 3), (51, .aload_n 0, 1), (52, .bipush 64, 2), (54, .anewarray 29, 3), (57, .putfield 31, 3), (60, .aload_n 0, 1), (61, .bipush 9, 2), (63, .anewarray 35, 3)]
def pr_81_4 : List (Nat × Instr × Nat) := [(66, .dup, 1), (67, .iconst 0, 1), (68, .ldc 37, 2), (70, .aastore, 1), (71, .dup, 1), (72, .iconst 1, 1), (73, .ldc 39, 2), (75, .aastore, 1), (76, .dup, 1), (77, .iconst 2, 1), (78, .ldc 41, 2)]
def pr_81_5 : List (Nat × Instr × Nat) := [(80, .aastore, 1), (81, .dup, 1), (82, .iconst 3, 1), (83, .ldc 43, 2), (85, .aastore, 1), (86, .dup, 1), (87, .iconst 4, 1), (88, .ldc 45, 2), (90, .aastore, 1), (91, .dup, 1), (92, .iconst 5, 1), (93, .ldc 47, 2), (95, .aastore, 1)]
def pr_81_6 : List (Nat × Instr × Nat) := [(96, .dup, 1), (97, .bipush 6, 2), (99, .ldc 49, 2), (101, .aastore, 1), (102, .dup, 1), (103, .bipush 7, 2), (105, .ldc 51, 2), (107, .aastore, 1), (108, .dup, 1), (109, .bipush 8, 2), (111, .ldc 53, 2)]
def pr_81_7 : List (Nat × Instr × Nat) := [(113, .aastore, 1), (114, .putfield 55, 3), (117, .aload_n 0, 1), (118, .bipush 6, 2), (120, .anewarray 35, 3), (123, .dup, 1), (124, .iconst 0, 1), (125, .ldc 59, 2), (127, .aastore, 1)]
def pr_81_8 : List (Nat × Instr × Nat) := [(128, .dup, 1), (129, .iconst 1, 1), (130, .ldc 61, 2), (132, .aastore, 1), (133, .dup, 1), (134, .iconst 2, 1), (135, .ldc 63, 2), (137, .aastore, 1), (138, .dup, 1), (139, .iconst 3, 1), (140, .ldc 65, 2), (142, .aastore, 1), (143, .dup, 1)]
def pr_81_9 : List (Nat × Instr × Nat) := [(144, .iconst 4, 1), (145, .ldc 67, 2), (147, .aastore, 1), (148, .dup, 1), (149, .iconst 5, 1), (150, .ldc 69, 2), (152, .aastore, 1), (153, .putfield 71, 3), (156, .aload_n 0, 1), (157, .bipush 14, 2), (159, .anewarray 35, 3)]
def pr_81_10 : List (Nat × Instr × Nat) := [(162, .dup, 1), (163, .iconst 0, 1), (164, .ldc 74, 2), (166, .aastore, 1), (167, .dup, 1), (168, .iconst 1, 1), (169, .ldc 76, 2), (171, .aastore, 1), (172, .dup, 1), (173, .iconst 2, 1), (174, .ldc 78, 2)]
def pr_81_11 : List (Nat × Instr × Nat) := [(176, .aastore, 1), (177, .dup, 1), (178, .iconst 3, 1), (179, .ldc 80, 2), (181, .aastore, 1), (182, .dup, 1), (183, .iconst 4, 1), (184, .ldc 82, 2), (186, .aastore, 1), (187, .dup, 1), (188, .iconst 5, 1), (189, .ldc 84, 2), (191, .aastore, 1)]
def pr_81_12 : List (Nat × Instr × Nat) := [(192, .dup, 1), (193, .bipush 6, 2), (195, .ldc 86, 2), (197, .aastore, 1), (198, .dup, 1), (199, .bipush 7, 2), (201, .ldc 88, 2), (203, .aastore, 1), (204, .dup, 1), (205, .bipush 8, 2), (207, .ldc 90, 2)]
def pr_81_13 : List (Nat × Instr × Nat) := [(209, .aastore, 1), (210, .dup, 1), (211, .bipush 9, 2), (213, .ldc 92, 2), (215, .aastore, 1), (216, .dup, 1), (217, .bipush 10, 2), (219, .ldc 94, 2), (221, .aastore, 1), (222, .dup, 1), (223, .bipush 11, 2)]
def pr_81_14 : List (Nat × Instr × Nat) := [(225, .ldc 96, 2), (227, .aastore, 1), (228, .dup, 1), (229, .bipush 12, 2), (231, .ldc 98, 2), (233, .aastore, 1), (234, .dup, 1), (235, .bipush 13, 2), (237, .ldc 100, 2), (239, .aastore, 1)]
def pr_81_15 : List (Nat × Instr × Nat) := [(240, .putfield 102, 3), (243, .aload_n 0, 1), (244, .bipush 19, 2), (246, .anewarray 35, 3), (249, .dup, 1), (250, .iconst 0, 1), (251, .ldc 74, 2), (253, .aastore, 1), (254, .dup, 1), (255, .iconst 1, 1)]
def pr_81_16 : List (Nat × Instr × Nat) := [(256, .ldc 76, 2), (258, .aastore, 1), (259, .dup, 1), (260, .iconst 2, 1), (261, .ldc 78, 2), (263, .aastore, 1), (264, .dup, 1), (265, .iconst 3, 1), (266, .ldc 105, 2), (268, .aastore, 1), (269, .dup, 1), (270, .iconst 4, 1), (271, .ldc 82, 2)]
def pr_81_17 : List (Nat × Instr × Nat) := [(273, .aastore, 1), (274, .dup, 1), (275, .iconst 5, 1), (276, .ldc 84, 2), (278, .aastore, 1), (279, .dup, 1), (280, .bipush 6, 2), (282, .ldc 86, 2), (284, .aastore, 1), (285, .dup, 1), (286, .bipush 7, 2)]
def pr_81_18 : List (Nat × Instr × Nat) := [(288, .ldc 107, 2), (290, .aastore, 1), (291, .dup, 1), (292, .bipush 8, 2), (294, .ldc 109, 2), (296, .aastore, 1), (297, .dup, 1), (298, .bipush 9, 2), (300, .ldc 111, 2), (302, .aastore, 1), (303, .dup, 1)]
def pr_81_19 : List (Nat × Instr × Nat) := [(304, .bipush 10, 2), (306, .ldc 113, 2), (308, .aastore, 1), (309, .dup, 1), (310, .bipush 11, 2), (312, .ldc 115, 2), (314, .aastore, 1), (315, .dup, 1), (316, .bipush 12, 2), (318, .ldc 117, 2)]
def pr_81_20 : List (Nat × Instr × Nat) := [(320, .aastore, 1), (321, .dup, 1), (322, .bipush 13, 2), (324, .ldc 119, 2), (326, .aastore, 1), (327, .dup, 1), (328, .bipush 14, 2), (330, .ldc 121, 2), (332, .aastore, 1), (333, .dup, 1), (334, .bipush 15, 2)]
def pr_81_21 : List (Nat × Instr × Nat) := [(336, .ldc 123, 2), (338, .aastore, 1), (339, .dup, 1), (340, .bipush 16, 2), (342, .ldc 125, 2), (344, .aastore, 1), (345, .dup, 1), (346, .bipush 17, 2), (348, .ldc 127, 2), (350, .aastore, 1), (351, .dup, 1)]
def pr_81_22 : List (Nat × Instr × Nat) := [(352, .bipush 18, 2), (354, .ldc 129, 2), (356, .aastore, 1), (357, .putfield 131, 3), (360, .aload_n 0, 1), (361, .bipush 8, 2), (363, .newarray .int, 2), (365, .putfield 134, 3)]
def pr_81_23 : List (Nat × Instr × Nat) := [(368, .aload_n 0, 1), (369, .bipush 8, 2), (371, .newarray .int, 2), (373, .putfield 137, 3), (376, .aload_n 0, 1), (377, .bipush 64, 2), (379, .newarray .int, 2), (381, .putfield 140, 3)]
def pr_81_24 : List (Nat × Instr × Nat) := [(384, .aload_n 0, 1), (385, .bipush 64, 2), (387, .anewarray 29, 3), (390, .putfield 143, 3), (393, .aload_n 0, 1), (394, .bipush 64, 2), (396, .newarray .int, 2), (398, .putfield 146, 3)]
def pr_81_25 : List (Nat × Instr × Nat) := [(401, .aload_n 0, 1), (402, .bipush 64, 2), (404, .newarray .int, 2), (406, .putfield 149, 3), (409, .aload_n 0, 1), (410, .bipush 64, 2), (412, .newarray .int, 2), (414, .putfield 152, 3)]
def pr_81_26 : List (Nat × Instr × Nat) := [(417, .aload_n 0, 1), (418, .sipush 2000, 3), (421, .newarray .int, 2), (423, .putfield 155, 3), (426, .aload_n 0, 1), (427, .sipush 2000, 3), (430, .newarray .int, 2)]
def pr_81_27 : List (Nat × Instr × Nat) := [(432, .putfield 158, 3), (435, .aload_n 0, 1), (436, .sipush 2000, 3), (439, .newarray .int, 2), (441, .putfield 161, 3), (444, .aload_n 0, 1), (445, .sipush 2000, 3)]
def pr_81_28 : List (Nat × Instr × Nat) := [(448, .newarray .int, 2), (450, .putfield 164, 3), (453, .aload_n 0, 1), (454, .sipush 1024, 3), (457, .newarray .int, 2), (459, .putfield 167, 3), (462, .aload_n 0, 1), (463, .iconst 4, 1)]
def pr_81_29 : List (Nat × Instr × Nat) := [(464, .newarray .int, 2), (466, .putfield 170, 3), (469, .aload_n 0, 1), (470, .sipush 1024, 3), (473, .newarray .int, 2), (475, .putfield 173, 3), (478, .aload_n 0, 1), (479, .sipush 1024, 3)]
def pr_81_30 : List (Nat × Instr × Nat) := [(482, .newarray .byte, 2), (484, .putfield 176, 3), (487, .aload_n 0, 1), (488, .sipush 1024, 3), (491, .newarray .byte, 2), (493, .putfield 179, 3)]
def pr_81_31 : List (Nat × Instr × Nat) := [(496, .return_, 1)]
def pb_81 : List (List (Nat × Instr × Nat)) := [pr_81_0, pr_81_1, pr_81_2, pr_81_3, pr_81_4, pr_81_5, pr_81_6, pr_81_7, pr_81_8, pr_81_9, pr_81_10, pr_81_11, pr_81_12, pr_81_13, pr_81_14, pr_81_15, pr_81_16, pr_81_17, pr_81_18, pr_81_19, pr_81_20, pr_81_21, pr_81_22, pr_81_23, pr_81_24, pr_81_25, pr_81_26, pr_81_27, pr_81_28, pr_81_29, pr_81_30, pr_81_31]
def pm_81 : px_M := (⟨"TextAtlasModel", "<init>", "()V"⟩, (prog_15_method_1_code, 1, none, []), pb_81, [(1, 6, 0, 0, 0), (7, 0, 11, 1, 1), (13, 11, 65536, 0, 0), (14, 0, 11, 3, 1), (17, 14, 10, 0, 0), (19, 0, 11, 5, 1), (22, 0, 11, 6, 1), (26, 0, 11, 9, 1), (31, 0, 11, 11, 1), (37, 12, 1, 0, 0), (39, 12, 2, 0, 0), (41, 12, 3, 0, 0), (43, 12, 4, 0, 0), (45, 12, 5, 0, 0), (47, 12, 6, 0, 0), (49, 12, 7, 0, 0), (51, 12, 8, 0, 0), (53, 12, 9, 0, 0), (55, 0, 11, 13, 1), (59, 12, 10, 0, 0), (61, 12, 11, 0, 0), (63, 12, 12, 0, 0), (65, 12, 13, 0, 0), (67, 12, 14, 0, 0), (69, 12, 15, 0, 0), (71, 0, 11, 14, 1), (74, 12, 16, 0, 0), (76, 12, 17, 0, 0), (78, 12, 18, 0, 0), (80, 12, 19, 0, 0), (82, 12, 20, 0, 0), (84, 12, 21, 0, 0), (86, 12, 22, 0, 0), (88, 12, 23, 0, 0), (90, 12, 24, 0, 0), (92, 12, 25, 0, 0), (94, 12, 26, 0, 0), (96, 12, 27, 0, 0), (98, 12, 28, 0, 0), (100, 12, 29, 0, 0), (102, 0, 11, 15, 1), (105, 12, 30, 0, 0), (107, 12, 31, 0, 0), (109, 12, 32, 0, 0), (111, 12, 33, 0, 0), (113, 12, 34, 0, 0), (115, 12, 35, 0, 0), (117, 12, 36, 0, 0), (119, 12, 37, 0, 0), (121, 12, 38, 0, 0), (123, 12, 39, 0, 0), (125, 12, 40, 0, 0), (127, 12, 41, 0, 0), (129, 12, 42, 0, 0), (131, 0, 11, 16, 1), (134, 0, 11, 19, 1), (137, 0, 11, 20, 1), (140, 0, 11, 21, 1), (143, 0, 11, 22, 1), (146, 0, 11, 24, 1), (149, 0, 11, 26, 1), (152, 0, 11, 27, 1), (155, 0, 11, 29, 1), (158, 0, 11, 31, 1), (161, 0, 11, 32, 1), (164, 0, 11, 34, 1), (167, 0, 11, 35, 1), (170, 0, 11, 37, 1), (173, 0, 11, 38, 1), (176, 0, 11, 39, 1), (179, 0, 11, 40, 1), (65565, 10, 8, 0, 0), (65571, 10, 9, 0, 0)])
def pr_82_0 : List (Nat × Instr × Nat) := [(0, .aload_n 0, 1), (1, .iconst 0, 1), (2, .putfield 182, 3), (5, .iload_n 1, 1), (6, .ifCond .lt 19, 3), (9, .iload_n 1, 1), (10, .ldc 213, 2), (12, .if_icmp .gt 13, 3), (15, .iload_n 2, 1)]
def pr_82_1 : List (Nat × Instr × Nat) := [(16, .ifCond .lt 9, 3), (19, .iload_n 2, 1), (20, .bipush 7, 2), (22, .if_icmp .le 9, 3), (25, .aload_n 0, 1), (26, .iconst 1, 1), (27, .invokevirtual 311, 3), (30, .ireturn, 1), (31, .aload_n 0, 1)]
def pr_82_2 : List (Nat × Instr × Nat) := [(32, .getfield 314, 3), (35, .ifCond .ne 9, 3), (38, .aload_n 0, 1), (39, .iconst 2, 1), (40, .invokevirtual 311, 3), (43, .ireturn, 1)]
def pb_82 : List (List (Nat × Instr × Nat)) := [pr_82_0, pr_82_1, pr_82_2]
def pm_82 : px_M := (⟨"TextAtlasModel", "about", "(II)I"⟩, (prog_15_method_95_code, 5, some .int, []), pb_82, [(182, 0, 11, 0, 1), (213, 11, 1114111, 0, 0), (311, 3, 93, 1, 11), (314, 0, 11, 7, 1)])
def pr_83_0 : List (Nat × Instr × Nat) := [(0, .aload_n 0, 1), (1, .iconst 0, 1), (2, .putfield 182, 3), (5, .aload_n 0, 1), (6, .iload_n 1, 1), (7, .invokevirtual 418, 3), (10, .ifCond .ne 13, 3), (13, .iload_n 2, 1), (14, .ifCond .lt 9, 3)]
def pr_83_1 : List (Nat × Instr × Nat) := [(17, .iload_n 2, 1), (18, .ldc 213, 2), (20, .if_icmp .le 9, 3), (23, .aload_n 0, 1), (24, .iconst 1, 1), (25, .invokevirtual 311, 3), (28, .ireturn, 1), (29, .aload_n 0, 1), (30, .getfield 22, 3)]
def pr_83_2 : List (Nat × Instr × Nat) := [(33, .iload_n 1, 1), (34, .iaload, 1), (35, .sipush 2000, 3), (38, .if_icmp .ne 9, 3), (47, .aload_n 0, 1)]
def pr_83_3 : List (Nat × Instr × Nat) := [(48, .getfield 19, 3), (51, .iload_n 1, 1), (52, .aaload, 1), (53, .aload_n 0, 1), (54, .getfield 22, 3), (57, .iload_n 1, 1), (58, .iaload, 1), (59, .iload_n 2, 1), (60, .iastore, 1), (61, .aload_n 0, 1), (62, .getfield 22, 3)]
def pr_83_4 : List (Nat × Instr × Nat) := [(65, .iload_n 1, 1), (66, .dup2, 1), (67, .iaload, 1), (68, .iconst 1, 1), (69, .iadd, 1), (70, .iastore, 1), (71, .aload_n 0, 1), (72, .getfield 22, 3), (75, .iload_n 1, 1), (76, .iaload, 1), (77, .ireturn, 1)]
def pb_83 : List (List (Nat × Instr × Nat)) := [pr_83_0, pr_83_1, pr_83_2, pr_83_3, pr_83_4]
def pm_83 : px_M := (⟨"TextAtlasModel", "add", "(II)I"⟩, (prog_15_method_90_code, 3, some .int, []), pb_83, [(19, 0, 11, 5, 0), (22, 0, 11, 6, 0), (182, 0, 11, 0, 1), (213, 11, 1114111, 0, 0), (311, 3, 93, 1, 11), (418, 3, 103, 1, 11)])
def pr_84_0 : List (Nat × Instr × Nat) := [(0, .aload_n 0, 1), (1, .iconst 0, 1), (2, .putfield 182, 3), (5, .aload_n 0, 1), (6, .iload_n 1, 1), (7, .invokevirtual 418, 3), (10, .ifCond .eq 9, 3), (13, .aload_n 0, 1), (14, .iconst 1, 1), (15, .invokevirtual 311, 3)]
def pr_84_1 : List (Nat × Instr × Nat) := [(18, .ireturn, 1), (19, .iconst 0, 1), (20, .istore_n 2, 1), (21, .iload_n 2, 1), (22, .aload_n 0, 1), (23, .getfield 22, 3), (26, .iload_n 1, 1), (27, .iaload, 1), (28, .if_icmp .ge 43, 3)]
def pr_84_4 : List (Nat × Instr × Nat) := [(71, .aload_n 0, 1), (72, .iconst 0, 1), (73, .putfield 540, 3), (76, .iconst 0, 1), (77, .istore_n 2, 1), (78, .iload_n 2, 1), (79, .aload_n 0, 1)]
def pr_84_5 : List (Nat × Instr × Nat) := [(80, .getfield 22, 3), (83, .iload_n 1, 1), (84, .iaload, 1), (85, .if_icmp .ge 168, 3)]
def pr_84_15 : List (Nat × Instr × Nat) := [(253, .aload_n 0, 1), (254, .getfield 540, 3)]
def pr_84_16 : List (Nat × Instr × Nat) := [(257, .ireturn, 1)]
def pb_84 : List (List (Nat × Instr × Nat)) := [pr_84_0, pr_84_1, [], [], pr_84_4, pr_84_5, [], [], [], [], [], [], [], [], [], pr_84_15, pr_84_16]
def pm_84 : px_M := (⟨"TextAtlasModel", "bytes", "(I)I"⟩, (prog_15_method_96_code, 6, some .int, []), pb_84, [(22, 0, 11, 6, 0), (182, 0, 11, 0, 1), (311, 3, 93, 1, 11), (418, 3, 103, 1, 11), (540, 0, 11, 4, 1)])
def pr_85_0 : List (Nat × Instr × Nat) := [(0, .iload_n 1, 1), (1, .ifCond .ne 11, 3), (4, .new 189, 3), (7, .dup, 1), (8, .invokespecial 191, 3), (11, .athrow, 1)]
def pb_85 : List (List (Nat × Instr × Nat)) := [pr_85_0]
def pm_85 : px_M := (⟨"TextAtlasModel", "can", "(Z)V"⟩, (prog_15_method_5_code, 2, none, []), pb_85, [(189, 9, 1, 0, 0), (191, 7, 1, 0, 0)])
def pr_86_0 : List (Nat × Instr × Nat) := [(0, .aload_n 0, 1), (1, .iconst 0, 1), (2, .putfield 182, 3), (5, .aload_n 0, 1), (6, .iload_n 1, 1), (7, .invokevirtual 418, 3), (10, .ifCond .ne 31, 3), (13, .aload_n 0, 1), (14, .iload_n 2, 1), (15, .invokevirtual 418, 3)]
def pr_86_1 : List (Nat × Instr × Nat) := [(18, .ifCond .ne 23, 3), (21, .iload_n 3, 1), (22, .ifCond .lt 19, 3), (25, .iload_n 3, 1), (26, .iconst 3, 1), (27, .if_icmp .gt 14, 3), (30, .iload 4, 2)]
def pr_86_2 : List (Nat × Instr × Nat) := [(32, .ifCond .lt 9, 3), (35, .iload 4, 2), (37, .iconst 3, 1), (38, .if_icmp .le 9, 3), (41, .aload_n 0, 1), (42, .iconst 1, 1), (43, .invokevirtual 311, 3), (46, .ireturn, 1), (47, .aload_n 0, 1)]
def pr_86_3 : List (Nat × Instr × Nat) := [(48, .getfield 314, 3), (51, .ifCond .ne 9, 3), (54, .aload_n 0, 1), (55, .iconst 2, 1), (56, .invokevirtual 311, 3), (59, .ireturn, 1)]
def pb_86 : List (List (Nat × Instr × Nat)) := [pr_86_0, pr_86_1, pr_86_2, pr_86_3]
def pm_86 : px_M := (⟨"TextAtlasModel", "change", "(IIII)I"⟩, (prog_15_method_59_code, 7, some .int, [(73, 151, 154, 406)]), pb_86, [(182, 0, 11, 0, 1), (311, 3, 93, 1, 11), (314, 0, 11, 7, 1), (406, 9, 0, 0, 0), (418, 3, 103, 1, 11)])
def pr_87_0 : List (Nat × Instr × Nat) := [(0, .aload_n 0, 1), (1, .iconst 0, 1), (2, .putfield 356, 3), (5, .iconst 0, 1), (6, .istore_n 1, 1), (7, .iload_n 1, 1), (8, .aload_n 0, 1), (9, .getfield 344, 3), (12, .if_icmp .ge 214, 3)]
def pr_87_14 : List (Nat × Instr × Nat) := [(226, .return_, 1)]
def pb_87 : List (List (Nat × Instr × Nat)) := [pr_87_0, [], [], [], [], [], [], [], [], [], [], [], [], [], pr_87_14]
def pm_87 : px_M := (⟨"TextAtlasModel", "collect", "()V"⟩, (prog_15_method_32_code, 6, none, []), pb_87, [(344, 0, 11, 12, 1), (356, 0, 11, 23, 1)])
def pr_88_0 : List (Nat × Instr × Nat) := [(0, .aload_n 0, 1), (1, .iconst 0, 1), (2, .putfield 182, 3), (5, .aload_n 0, 1), (6, .iload_n 1, 1), (7, .invokevirtual 418, 3), (10, .ifCond .ne 21, 3), (13, .aload_n 0, 1), (14, .iload_n 2, 1), (15, .invokevirtual 418, 3)]
def pr_88_1 : List (Nat × Instr × Nat) := [(18, .ifCond .ne 13, 3), (21, .iload_n 3, 1), (22, .iconst 1, 1), (23, .if_icmp .lt 8, 3), (26, .iload_n 3, 1), (27, .iconst 4, 1), (28, .if_icmp .le 9, 3), (31, .aload_n 0, 1)]
def pr_88_2 : List (Nat × Instr × Nat) := [(32, .iconst 1, 1), (33, .invokevirtual 311, 3), (36, .ireturn, 1), (37, .aload_n 0, 1), (38, .getfield 314, 3), (41, .ifCond .ne 9, 3), (44, .aload_n 0, 1), (45, .iconst 2, 1), (46, .invokevirtual 311, 3)]
def pr_88_3 : List (Nat × Instr × Nat) := [(49, .ireturn, 1)]
def pb_88 : List (List (Nat × Instr × Nat)) := [pr_88_0, pr_88_1, pr_88_2, pr_88_3]
def pm_88 : px_M := (⟨"TextAtlasModel", "compare", "(IIIZ)I"⟩, (prog_15_method_85_code, 8, some .int, [(50, 154, 189, 406), (155, 188, 189, 406)]), pb_88, [(182, 0, 11, 0, 1), (311, 3, 93, 1, 11), (314, 0, 11, 7, 1), (406, 9, 0, 0, 0), (418, 3, 103, 1, 11)])
def pr_89_0 : List (Nat × Instr × Nat) := [(0, .aload_n 0, 1), (1, .iconst 0, 1), (2, .putfield 182, 3), (5, .iload_n 1, 1), (6, .ifCond .lt 8, 3), (9, .iload_n 1, 1), (10, .iconst 3, 1), (11, .if_icmp .le 9, 3), (14, .aload_n 0, 1), (15, .iconst 1, 1)]
def pr_89_1 : List (Nat × Instr × Nat) := [(16, .invokevirtual 311, 3), (19, .ireturn, 1), (20, .iload_n 1, 1), (21, .ifCond .ne 10, 3), (24, .aload_n 0, 1), (25, .getfield 322, 3), (28, .goto 39, 3), (31, .iload_n 1, 1)]
def pr_89_2 : List (Nat × Instr × Nat) := [(32, .iconst 1, 1), (33, .if_icmp .ne 10, 3), (36, .aload_n 0, 1), (37, .getfield 540, 3), (40, .goto 27, 3), (43, .iload_n 1, 1), (44, .iconst 2, 1), (45, .if_icmp .ne 10, 3)]
def pr_89_3 : List (Nat × Instr × Nat) := [(48, .aload_n 0, 1), (49, .getfield 347, 3), (52, .goto 15, 3), (55, .aload_n 0, 1), (56, .getfield 314, 3), (59, .ifCond .eq 7, 3)]
def pr_89_4 : List (Nat × Instr × Nat) := [(66, .iconst 0, 1), (67, .ireturn, 1)]
def pb_89 : List (List (Nat × Instr × Nat)) := [pr_89_0, pr_89_1, pr_89_2, pr_89_3, pr_89_4]
def pm_89 : px_M := (⟨"TextAtlasModel", "count", "(I)I"⟩, (prog_15_method_98_code, 2, some .int, []), pb_89, [(182, 0, 11, 0, 1), (311, 3, 93, 1, 11), (314, 0, 11, 7, 1), (322, 0, 11, 2, 1), (347, 0, 11, 8, 1), (540, 0, 11, 4, 1)])
def pr_90_0 : List (Nat × Instr × Nat) := [(0, .aload_n 0, 1), (1, .iconst 0, 1), (2, .putfield 182, 3), (5, .aload_n 0, 1), (6, .iload_n 1, 1), (7, .invokevirtual 418, 3), (10, .ifCond .ne 26, 3), (13, .iload_n 2, 1), (14, .ifCond .lt 22, 3)]
def pr_90_1 : List (Nat × Instr × Nat) := [(17, .iload_n 2, 1), (18, .iconst 1, 1), (19, .if_icmp .gt 17, 3), (22, .iload_n 3, 1), (23, .ifCond .lt 13, 3), (26, .iload_n 3, 1), (27, .aload_n 0, 1), (28, .getfield 22, 3), (31, .iload_n 1, 1)]
def pr_90_2 : List (Nat × Instr × Nat) := [(32, .iaload, 1), (33, .if_icmp .le 17, 3), (36, .aload_n 0, 1), (37, .iconst 1, 1), (38, .invokevirtual 311, 3), (41, .ifCond .le 7, 3)]
def pr_90_3 : List (Nat × Instr × Nat) := [(48, .iconst 0, 1), (49, .ireturn, 1), (50, .aload_n 0, 1), (51, .getfield 314, 3), (54, .ifCond .ne 17, 3), (57, .aload_n 0, 1), (58, .iconst 2, 1), (59, .invokevirtual 311, 3), (62, .ifCond .le 7, 3)]
def pr_90_4 : List (Nat × Instr × Nat) := [(69, .iconst 0, 1), (70, .ireturn, 1)]
def pb_90 : List (List (Nat × Instr × Nat)) := [pr_90_0, pr_90_1, pr_90_2, pr_90_3, pr_90_4]
def pm_90 : px_M := (⟨"TextAtlasModel", "edge", "(III)Z"⟩, (prog_15_method_75_code, 4, some .boolean, []), pb_90, [(22, 0, 11, 6, 0), (182, 0, 11, 0, 1), (311, 3, 93, 1, 11), (314, 0, 11, 7, 1), (418, 3, 103, 1, 11)])
def pr_91_0 : List (Nat × Instr × Nat) := [(0, .aload_n 0, 1), (1, .iconst 0, 1), (2, .putfield 182, 3), (5, .iload_n 1, 1), (6, .ifCond .lt 11, 3), (9, .iload_n 1, 1), (10, .aload_n 0, 1), (11, .getfield 322, 3), (14, .if_icmp .le 9, 3)]
def pr_91_1 : List (Nat × Instr × Nat) := [(17, .aload_n 0, 1), (18, .iconst 1, 1), (19, .invokevirtual 311, 3), (22, .ireturn, 1), (23, .aload_n 0, 1), (24, .iload_n 1, 1), (25, .putfield 322, 3), (28, .iload_n 1, 1), (29, .ireturn, 1)]
def pb_91 : List (List (Nat × Instr × Nat)) := [pr_91_0, pr_91_1]
def pm_91 : px_M := (⟨"TextAtlasModel", "end", "(I)I"⟩, (prog_15_method_87_code, 2, some .int, []), pb_91, [(182, 0, 11, 0, 1), (311, 3, 93, 1, 11), (322, 0, 11, 2, 1)])
def pr_92_0 : List (Nat × Instr × Nat) := [(0, .aload_n 0, 1), (1, .getfield 356, 3), (4, .newarray .boolean, 2), (6, .astore_n 1, 1), (7, .iconst 1, 1), (8, .istore_n 2, 1), (9, .aload_n 0, 1), (10, .getfield 356, 3), (13, .istore_n 3, 1), (14, .iload_n 2, 1), (15, .ifCond .eq 124, 3)]
def pr_92_1 : List (Nat × Instr × Nat) := [(18, .iconst 0, 1), (19, .istore_n 2, 1), (20, .iconst 0, 1), (21, .istore 4, 2), (23, .iload 4, 2), (25, .aload_n 0, 1), (26, .getfield 356, 3), (29, .if_icmp .ge 107, 3)]
def pr_92_8 : List (Nat × Instr × Nat) := [(136, .goto (-122), 3), (139, .iload_n 3, 1), (140, .ifCond .ne 7, 3), (143, .iconst 1, 1)]
def pr_92_9 : List (Nat × Instr × Nat) := [(144, .goto 4, 3), (148, .ireturn, 1)]
def pb_92 : List (List (Nat × Instr × Nat)) := [pr_92_0, pr_92_1, [], [], [], [], [], [], pr_92_8, pr_92_9]
def pm_92 : px_M := (⟨"TextAtlasModel", "ends", "()Z"⟩, (prog_15_method_38_code, 8, some .boolean, []), pb_92, [(356, 0, 11, 23, 1)])
def pr_93_0 : List (Nat × Instr × Nat) := [(0, .aload_n 0, 1), (1, .iload_n 1, 1), (2, .putfield 182, 3), (5, .iconst 0, 1), (6, .ireturn, 1)]
def pb_93 : List (List (Nat × Instr × Nat)) := [pr_93_0]
def pm_93 : px_M := (⟨"TextAtlasModel", "fail", "(I)I"⟩, (prog_15_method_3_code, 2, some .int, []), pb_93, [(182, 0, 11, 0, 1)])
def pr_94_0 : List (Nat × Instr × Nat) := [(0, .aload_n 0, 1), (1, .iconst 0, 1), (2, .putfield 182, 3), (5, .aload_n 0, 1), (6, .getfield 322, 3), (9, .bipush 20, 2), (11, .iadd, 1), (12, .sipush 4096, 3), (15, .if_icmp .le 9, 3)]
def pr_94_1 : List (Nat × Instr × Nat) := [(24, .iconst 0, 1), (25, .istore 6, 2), (27, .iload 6, 2), (29, .bipush 20, 2), (31, .if_icmp .ge 90, 3)]
def pr_94_2 : List (Nat × Instr × Nat) := [(34, .iload 6, 2), (36, .iconst 4, 1), (37, .if_icmp .ge 7, 3), (40, .iload_n 1, 1), (41, .goto 39, 3), (44, .iload 6, 2), (46, .bipush 8, 2)]
def pr_94_3 : List (Nat × Instr × Nat) := [(48, .if_icmp .ge 7, 3), (51, .iload_n 2, 1), (52, .goto 28, 3), (55, .iload 6, 2), (57, .bipush 12, 2), (59, .if_icmp .ge 7, 3), (62, .iload_n 3, 1), (63, .goto 17, 3)]
def pr_94_4 : List (Nat × Instr × Nat) := [(66, .iload 6, 2), (68, .bipush 16, 2), (70, .if_icmp .ge 8, 3), (73, .iload 4, 2), (75, .goto 5, 3), (78, .iload 5, 2)]
def pr_94_5 : List (Nat × Instr × Nat) := [(80, .istore 7, 2), (82, .aload_n 0, 1), (83, .getfield 7, 3), (86, .aload_n 0, 1), (87, .getfield 322, 3), (90, .iload 7, 2), (92, .bipush 24, 2), (94, .bipush 8, 2)]
def pr_94_6 : List (Nat × Instr × Nat) := [(96, .iload 6, 2), (98, .iconst 4, 1), (99, .irem, 1), (100, .imul, 1), (101, .isub, 1), (102, .ishr, 1), (103, .i2b, 1), (104, .bastore, 1), (105, .aload_n 0, 1), (106, .dup, 1), (107, .getfield 322, 3), (110, .iconst 1, 1), (111, .iadd, 1)]
def pr_94_7 : List (Nat × Instr × Nat) := [(112, .putfield 322, 3), (115, .iinc 6 1, 3), (118, .goto (-91), 3), (121, .aload_n 0, 1), (122, .getfield 322, 3), (125, .ireturn, 1)]
def pb_94 : List (List (Nat × Instr × Nat)) := [pr_94_0, pr_94_1, pr_94_2, pr_94_3, pr_94_4, pr_94_5, pr_94_6, pr_94_7]
def pm_94 : px_M := (⟨"TextAtlasModel", "feed", "(IIIII)I"⟩, (prog_15_method_86_code, 8, some .int, []), pb_94, [(7, 0, 11, 1, 0), (182, 0, 11, 0, 1), (322, 0, 11, 2, 1)])
def pr_95_0 : List (Nat × Instr × Nat) := [(0, .iload_n 2, 1), (1, .istore_n 3, 1), (2, .iload_n 2, 1), (3, .iconst 1, 1), (4, .isub, 1), (5, .istore 4, 2), (7, .iload 4, 2), (9, .ifCond .lt 69, 3)]
def pr_95_4 : List (Nat × Instr × Nat) := [(78, .iconst 0, 1), (79, .istore 4, 2)]
def pr_95_5 : List (Nat × Instr × Nat) := [(81, .aload_n 0, 1), (82, .getfield 134, 3), (85, .iconst 0, 1), (86, .iconst 0, 1), (87, .iastore, 1), (88, .iconst 0, 1), (89, .istore 5, 2), (91, .iload 5, 2), (93, .iload_n 3, 1), (94, .if_icmp .ge 64, 3)]
def pr_95_9 : List (Nat × Instr × Nat) := [(158, .aload_n 0, 1), (159, .iload 4, 2)]
def pr_95_10 : List (Nat × Instr × Nat) := [(161, .iconst 1, 1), (162, .iadd, 1), (163, .iload_n 1, 1), (164, .if_icmp .ne 7, 3), (171, .iconst 0, 1), (172, .invokevirtual 192, 3)]
def pb_95 : List (List (Nat × Instr × Nat)) := [pr_95_0, [], [], [], pr_95_4, pr_95_5, [], [], [], pr_95_9, pr_95_10]
def pm_95 : px_M := (⟨"TextAtlasModel", "fields", "(II)V"⟩, (prog_15_method_7_code, 6, none, []), pb_95, [(134, 0, 11, 19, 0), (192, 3, 85, 1, 11)])
def pr_96_0 : List (Nat × Instr × Nat) := [(0, .aload_n 0, 1), (1, .iconst 0, 1), (2, .putfield 182, 3), (5, .aload_n 0, 1), (6, .iload_n 1, 1), (7, .invokevirtual 418, 3), (10, .ifCond .ne 12, 3), (13, .iload_n 2, 1), (14, .ifCond .lt 8, 3)]
def pr_96_1 : List (Nat × Instr × Nat) := [(17, .iload_n 2, 1), (18, .iconst 3, 1), (19, .if_icmp .le 17, 3), (22, .aload_n 0, 1), (23, .iconst 1, 1), (24, .invokevirtual 311, 3), (27, .ifCond .le 7, 3)]
def pr_96_2 : List (Nat × Instr × Nat) := [(34, .iconst 0, 1), (35, .ireturn, 1), (36, .aload_n 0, 1), (37, .getfield 314, 3), (40, .ifCond .ne 17, 3), (43, .aload_n 0, 1), (44, .iconst 2, 1), (45, .invokevirtual 311, 3)]
def pr_96_3 : List (Nat × Instr × Nat) := [(48, .ifCond .le 7, 3), (55, .iconst 0, 1), (56, .ireturn, 1)]
def pb_96 : List (List (Nat × Instr × Nat)) := [pr_96_0, pr_96_1, pr_96_2, pr_96_3]
def pm_96 : px_M := (⟨"TextAtlasModel", "is", "(II)Z"⟩, (prog_15_method_50_code, 5, some .boolean, [(57, 74, 77, 406)]), pb_96, [(182, 0, 11, 0, 1), (311, 3, 93, 1, 11), (314, 0, 11, 7, 1), (406, 9, 0, 0, 0), (418, 3, 103, 1, 11)])
def pr_97_0 : List (Nat × Instr × Nat) := [(0, .aload_n 0, 1), (1, .iconst 0, 1), (2, .putfield 182, 3), (5, .aload_n 0, 1), (6, .iload_n 1, 1), (7, .invokevirtual 418, 3), (10, .ifCond .ne 30, 3), (13, .aload_n 0, 1), (14, .iload_n 2, 1), (15, .invokevirtual 418, 3)]
def pr_97_1 : List (Nat × Instr × Nat) := [(18, .ifCond .ne 22, 3), (21, .aload_n 0, 1), (22, .iload_n 3, 1), (23, .invokevirtual 418, 3), (26, .ifCond .ne 14, 3), (29, .iload 4, 2), (31, .ifCond .lt 9, 3)]
def pr_97_2 : List (Nat × Instr × Nat) := [(34, .iload 4, 2), (36, .iconst 3, 1), (37, .if_icmp .le 9, 3), (40, .aload_n 0, 1), (41, .iconst 1, 1), (42, .invokevirtual 311, 3), (45, .ireturn, 1), (46, .aload_n 0, 1), (47, .getfield 314, 3)]
def pr_97_3 : List (Nat × Instr × Nat) := [(50, .ifCond .ne 9, 3), (53, .aload_n 0, 1), (54, .iconst 2, 1), (55, .invokevirtual 311, 3), (58, .ireturn, 1)]
def pb_97 : List (List (Nat × Instr × Nat)) := [pr_97_0, pr_97_1, pr_97_2, pr_97_3]
def pm_97 : px_M := (⟨"TextAtlasModel", "join", "(IIII)I"⟩, (prog_15_method_51_code, 6, some .int, [(163, 186, 189, 406)]), pb_97, [(182, 0, 11, 0, 1), (311, 3, 93, 1, 11), (314, 0, 11, 7, 1), (406, 9, 0, 0, 0), (418, 3, 103, 1, 11)])
def pr_98_0 : List (Nat × Instr × Nat) := [(0, .aload_n 0, 1), (1, .iconst 0, 1), (2, .putfield 182, 3), (5, .aload_n 0, 1), (6, .iload_n 1, 1), (7, .invokevirtual 418, 3), (10, .ifCond .ne 13, 3), (13, .iload_n 2, 1), (14, .iconst 1, 1), (15, .if_icmp .lt 8, 3)]
def pr_98_1 : List (Nat × Instr × Nat) := [(18, .iload_n 2, 1), (19, .iconst 4, 1), (20, .if_icmp .le 9, 3), (23, .aload_n 0, 1), (24, .iconst 1, 1), (25, .invokevirtual 311, 3), (28, .ireturn, 1), (29, .aload_n 0, 1), (30, .getfield 314, 3)]
def pr_98_2 : List (Nat × Instr × Nat) := [(33, .ifCond .ne 9, 3), (36, .aload_n 0, 1), (37, .iconst 2, 1), (38, .invokevirtual 311, 3), (41, .ireturn, 1)]
def pb_98 : List (List (Nat × Instr × Nat)) := [pr_98_0, pr_98_1, pr_98_2]
def pm_98 : px_M := (⟨"TextAtlasModel", "key", "(IIZ)I"⟩, (prog_15_method_84_code, 5, some .int, [(42, 49, 52, 406)]), pb_98, [(182, 0, 11, 0, 1), (311, 3, 93, 1, 11), (314, 0, 11, 7, 1), (406, 9, 0, 0, 0), (418, 3, 103, 1, 11)])
def pr_99_0 : List (Nat × Instr × Nat) := [(0, .aload_n 0, 1), (1, .iconst 0, 1), (2, .putfield 182, 3), (5, .iload_n 1, 1), (6, .ifCond .lt 8, 3), (9, .iload_n 1, 1), (10, .iconst 4, 1), (11, .if_icmp .le 9, 3), (14, .aload_n 0, 1), (15, .iconst 1, 1)]
def pr_99_1 : List (Nat × Instr × Nat) := [(16, .invokevirtual 311, 3), (19, .ireturn, 1), (20, .aload_n 0, 1), (21, .getfield 314, 3), (24, .ifCond .eq 9, 3)]
def pr_99_2 : List (Nat × Instr × Nat) := [(33, .aload_n 0, 1), (34, .getfield 186, 3), (37, .istore_n 2, 1), (38, .new 29, 3), (41, .dup, 1), (42, .invokespecial 318, 3), (45, .astore_n 3, 1), (46, .aload_n 3, 1), (47, .iload_n 1, 1)]
def pr_99_3 : List (Nat × Instr × Nat) := [(48, .putfield 319, 3), (51, .aload_n 0, 1), (52, .getfield 322, 3), (55, .istore 4, 2), (57, .aload_n 0, 1), (58, .iconst 0, 1), (59, .putfield 322, 3), (62, .aload_n 0, 1), (63, .iload_n 1, 1)]
def pr_99_4 : List (Nat × Instr × Nat) := [(64, .ifCond .ne 8, 3), (67, .bipush 7, 2), (69, .goto 22, 3), (72, .iload_n 1, 1), (73, .iconst 1, 1), (74, .if_icmp .ne 7, 3), (77, .iconst 5, 1), (78, .goto 13, 3)]
def pr_99_5 : List (Nat × Instr × Nat) := [(81, .iload_n 1, 1), (82, .iconst 2, 1), (83, .if_icmp .ne 7, 3), (86, .iconst 3, 1), (87, .goto 4, 3), (90, .iconst 2, 1), (91, .iload 4, 2), (93, .invokevirtual 325, 3)]
def pr_99_9 : List (Nat × Instr × Nat) := [(155, .astore 5, 2), (157, .aload_n 0, 1), (158, .iload_n 2, 1), (159, .putfield 186, 3)]
def pr_99_10 : List (Nat × Instr × Nat) := [(162, .aload_n 0, 1), (163, .iconst 3, 1), (164, .invokevirtual 311, 3), (167, .ireturn, 1)]
def pb_99 : List (List (Nat × Instr × Nat)) := [pr_99_0, pr_99_1, pr_99_2, pr_99_3, pr_99_4, pr_99_5, [], [], [], pr_99_9, pr_99_10]
def pm_99 : px_M := (⟨"TextAtlasModel", "line", "(I)I"⟩, (prog_15_method_25_code, 7, some .int, [(62, 152, 155, 189)]), pb_99, [(29, 8, 12, 0, 0), (182, 0, 11, 0, 1), (186, 0, 11, 10, 1), (189, 9, 1, 0, 0), (311, 3, 93, 1, 11), (314, 0, 11, 7, 1), (318, 5, 114, 0, 0), (319, 1, 12, 0, 1), (322, 0, 11, 2, 1), (325, 3, 95, 2, 11)])
def pr_100_0 : List (Nat × Instr × Nat) := [(0, .aload_n 0, 1), (1, .iconst 0, 1), (2, .putfield 182, 3), (5, .aload_n 0, 1), (6, .iload_n 1, 1), (7, .invokevirtual 418, 3), (10, .ifCond .ne 20, 3), (13, .aload_n 0, 1), (14, .iload_n 2, 1), (15, .invokevirtual 418, 3)]
def pr_100_1 : List (Nat × Instr × Nat) := [(18, .ifCond .ne 12, 3), (21, .iload_n 3, 1), (22, .ifCond .lt 8, 3), (25, .iload_n 3, 1), (26, .iconst 2, 1), (27, .if_icmp .le 17, 3), (30, .aload_n 0, 1), (31, .iconst 1, 1)]
def pr_100_2 : List (Nat × Instr × Nat) := [(32, .invokevirtual 311, 3), (35, .ifCond .le 7, 3), (42, .iconst 0, 1), (43, .ireturn, 1), (44, .aload_n 0, 1), (45, .getfield 314, 3)]
def pr_100_3 : List (Nat × Instr × Nat) := [(48, .ifCond .ne 17, 3), (51, .aload_n 0, 1), (52, .iconst 2, 1), (53, .invokevirtual 311, 3), (56, .ifCond .le 7, 3), (63, .iconst 0, 1)]
def pr_100_4 : List (Nat × Instr × Nat) := [(64, .ireturn, 1)]
def pb_100 : List (List (Nat × Instr × Nat)) := [pr_100_0, pr_100_1, pr_100_2, pr_100_3, pr_100_4]
def pm_100 : px_M := (⟨"TextAtlasModel", "match", "(III)Z"⟩, (prog_15_method_63_code, 6, some .boolean, [(65, 123, 161, 406), (124, 152, 161, 406), (153, 160, 161, 406)]), pb_100, [(182, 0, 11, 0, 1), (311, 3, 93, 1, 11), (314, 0, 11, 7, 1), (406, 9, 0, 0, 0), (418, 3, 103, 1, 11)])
def pr_101_0 : List (Nat × Instr × Nat) := [(0, .aload_n 0, 1), (1, .iconst 0, 1), (2, .putfield 182, 3), (5, .aload_n 0, 1), (6, .iload_n 1, 1), (7, .invokevirtual 418, 3), (10, .ifCond .ne 26, 3), (13, .iload_n 2, 1), (14, .ifCond .lt 22, 3)]
def pr_101_1 : List (Nat × Instr × Nat) := [(17, .iload_n 2, 1), (18, .iconst 1, 1), (19, .if_icmp .gt 17, 3), (22, .iload_n 3, 1), (23, .ifCond .lt 13, 3), (26, .iload_n 3, 1), (27, .aload_n 0, 1), (28, .getfield 22, 3), (31, .iload_n 1, 1)]
def pr_101_2 : List (Nat × Instr × Nat) := [(32, .iaload, 1), (33, .if_icmp .le 9, 3), (36, .aload_n 0, 1), (37, .iconst 1, 1), (38, .invokevirtual 311, 3), (41, .ireturn, 1), (42, .aload_n 0, 1), (43, .getfield 314, 3), (46, .ifCond .ne 9, 3)]
def pr_101_3 : List (Nat × Instr × Nat) := [(49, .aload_n 0, 1), (50, .iconst 2, 1), (51, .invokevirtual 311, 3), (54, .ireturn, 1)]
def pb_101 : List (List (Nat × Instr × Nat)) := [pr_101_0, pr_101_1, pr_101_2, pr_101_3]
def pm_101 : px_M := (⟨"TextAtlasModel", "next", "(IIIZ)I"⟩, (prog_15_method_76_code, 7, some .int, []), pb_101, [(22, 0, 11, 6, 0), (182, 0, 11, 0, 1), (311, 3, 93, 1, 11), (314, 0, 11, 7, 1), (418, 3, 103, 1, 11)])
def pr_102_0 : List (Nat × Instr × Nat) := [(0, .aload_n 0, 1), (1, .iconst 0, 1), (2, .putfield 182, 3), (5, .aload_n 0, 1), (6, .iload_n 1, 1), (7, .invokevirtual 418, 3), (10, .ifCond .ne 20, 3), (13, .aload_n 0, 1), (14, .iload_n 2, 1), (15, .invokevirtual 418, 3)]
def pr_102_1 : List (Nat × Instr × Nat) := [(18, .ifCond .ne 12, 3), (21, .iload_n 3, 1), (22, .ifCond .lt 8, 3), (25, .iload_n 3, 1), (26, .iconst 3, 1), (27, .if_icmp .le 9, 3), (30, .aload_n 0, 1), (31, .iconst 1, 1)]
def pr_102_2 : List (Nat × Instr × Nat) := [(32, .invokevirtual 311, 3), (35, .ireturn, 1), (36, .aload_n 0, 1), (37, .getfield 314, 3), (40, .ifCond .ne 9, 3), (43, .aload_n 0, 1), (44, .iconst 2, 1), (45, .invokevirtual 311, 3)]
def pr_102_3 : List (Nat × Instr × Nat) := [(48, .ireturn, 1)]
def pb_102 : List (List (Nat × Instr × Nat)) := [pr_102_0, pr_102_1, pr_102_2, pr_102_3]
def pm_102 : px_M := (⟨"TextAtlasModel", "normal", "(III)I"⟩, (prog_15_method_49_code, 5, some .int, [(49, 66, 69, 406)]), pb_102, [(182, 0, 11, 0, 1), (311, 3, 93, 1, 11), (314, 0, 11, 7, 1), (406, 9, 0, 0, 0), (418, 3, 103, 1, 11)])
def pr_103_0 : List (Nat × Instr × Nat) := [(0, .iload_n 1, 1), (1, .ifCond .lt 9, 3), (4, .iload_n 1, 1), (5, .bipush 7, 2), (7, .if_icmp .le 7, 3), (10, .iconst 1, 1), (11, .goto 4, 3), (14, .iconst 0, 1), (15, .ireturn, 1)]
def pb_103 : List (List (Nat × Instr × Nat)) := [pr_103_0]
def pm_103 : px_M := (⟨"TextAtlasModel", "out", "(I)Z"⟩, (prog_15_method_48_code, 2, some .boolean, []), pb_103, [])
def pr_104_0 : List (Nat × Instr × Nat) := [(0, .aload_n 0, 1), (1, .iconst 0, 1), (2, .putfield 182, 3), (5, .aload_n 0, 1), (6, .iload_n 1, 1), (7, .invokevirtual 418, 3), (10, .ifCond .ne 32, 3), (13, .aload_n 0, 1), (14, .iload_n 2, 1), (15, .invokevirtual 418, 3)]
def pr_104_1 : List (Nat × Instr × Nat) := [(18, .ifCond .ne 24, 3), (21, .iload_n 3, 1), (22, .ifCond .lt 20, 3), (25, .iload 4, 2), (27, .iload_n 3, 1), (28, .if_icmp .lt 14, 3), (31, .iload 4, 2)]
def pr_104_2 : List (Nat × Instr × Nat) := [(33, .aload_n 0, 1), (34, .getfield 22, 3), (37, .iload_n 2, 1), (38, .iaload, 1), (39, .if_icmp .le 9, 3), (42, .aload_n 0, 1), (43, .iconst 1, 1), (44, .invokevirtual 311, 3), (47, .ireturn, 1)]
def pr_104_3 : List (Nat × Instr × Nat) := [(48, .iload_n 3, 1), (49, .istore 5, 2), (51, .iload 5, 2), (53, .iload 4, 2), (55, .if_icmp .ge 27, 3)]
def pr_104_5 : List (Nat × Instr × Nat) := [(82, .aload_n 0, 1), (83, .iload 4, 2), (85, .iload_n 3, 1), (86, .isub, 1), (87, .putfield 403, 3), (90, .aload_n 0, 1), (91, .iload_n 1, 1), (92, .invokevirtual 425, 3), (95, .ireturn, 1)]
def pb_104 : List (List (Nat × Instr × Nat)) := [pr_104_0, pr_104_1, pr_104_2, pr_104_3, [], pr_104_5]
def pm_104 : px_M := (⟨"TextAtlasModel", "part", "(IIII)I"⟩, (prog_15_method_91_code, 6, some .int, []), pb_104, [(22, 0, 11, 6, 0), (182, 0, 11, 0, 1), (311, 3, 93, 1, 11), (403, 0, 11, 30, 1), (418, 3, 103, 1, 11), (425, 3, 110, 1, 11)])
def pr_105_0 : List (Nat × Instr × Nat) := [(0, .aload_n 0, 1), (1, .iconst 0, 1), (2, .putfield 182, 3), (5, .aload_n 0, 1), (6, .iload_n 1, 1), (7, .invokevirtual 418, 3), (10, .ifCond .eq 9, 3), (13, .aload_n 0, 1), (14, .iconst 1, 1), (15, .invokevirtual 311, 3)]
def pr_105_1 : List (Nat × Instr × Nat) := [(18, .ireturn, 1), (19, .iload_n 2, 1), (20, .ifCond .lt 13, 3), (23, .iload_n 2, 1), (24, .aload_n 0, 1), (25, .getfield 22, 3), (28, .iload_n 1, 1), (29, .iaload, 1), (30, .if_icmp .lt 11, 3)]
def pr_105_2 : List (Nat × Instr × Nat) := [(33, .aload_n 0, 1), (34, .iconst 2, 1), (35, .invokevirtual 311, 3), (38, .goto 11, 3)]
def pr_105_3 : List (Nat × Instr × Nat) := [(49, .ireturn, 1)]
def pb_105 : List (List (Nat × Instr × Nat)) := [pr_105_0, pr_105_1, pr_105_2, pr_105_3]
def pm_105 : px_M := (⟨"TextAtlasModel", "point", "(II)I"⟩, (prog_15_method_92_code, 3, some .int, []), pb_105, [(22, 0, 11, 6, 0), (182, 0, 11, 0, 1), (311, 3, 93, 1, 11), (418, 3, 103, 1, 11)])
def pr_106_0 : List (Nat × Instr × Nat) := [(0, .aload_n 0, 1), (1, .iconst 0, 1), (2, .putfield 182, 3), (5, .aload_n 0, 1), (6, .getfield 314, 3), (9, .ifCond .eq 7, 3)]
def pr_106_1 : List (Nat × Instr × Nat) := [(16, .iconst 0, 1), (17, .istore_n 1, 1), (18, .aload_n 0, 1), (19, .iconst 0, 1), (20, .putfield 314, 3), (23, .aload_n 0, 1), (24, .iconst 0, 1), (25, .putfield 344, 3), (28, .aload_n 0, 1), (29, .iconst 0, 1), (30, .putfield 186, 3)]
def pr_106_2 : List (Nat × Instr × Nat) := [(33, .aload_n 0, 1), (34, .iconst 0, 1), (35, .putfield 347, 3), (38, .iconst 0, 1), (39, .istore_n 2, 1), (40, .iload_n 2, 1), (41, .bipush 8, 2), (43, .if_icmp .ge 16, 3), (46, .aload_n 0, 1), (47, .getfield 22, 3)]
def pr_106_3 : List (Nat × Instr × Nat) := [(50, .iload_n 2, 1), (51, .iconst 0, 1), (52, .iastore, 1), (53, .iinc 2 1, 3), (56, .goto (-16), 3), (59, .iload_n 1, 1), (60, .ireturn, 1)]
def pb_106 : List (List (Nat × Instr × Nat)) := [pr_106_0, pr_106_1, pr_106_2, pr_106_3]
def pm_106 : px_M := (⟨"TextAtlasModel", "reset", "()I"⟩, (prog_15_method_42_code, 3, some .int, []), pb_106, [(22, 0, 11, 6, 0), (182, 0, 11, 0, 1), (186, 0, 11, 10, 1), (314, 0, 11, 7, 1), (344, 0, 11, 12, 1), (347, 0, 11, 8, 1)])
def pr_107_0 : List (Nat × Instr × Nat) := [(0, .aload_n 0, 1), (1, .iconst 0, 1), (2, .putfield 182, 3), (5, .aload_n 0, 1), (6, .getfield 314, 3), (9, .ifCond .eq 9, 3)]
def pr_107_1 : List (Nat × Instr × Nat) := [(18, .aload_n 0, 1), (19, .invokevirtual 400, 3), (22, .ifCond .ne 9, 3), (31, .aload_n 0, 1)]
def pr_107_2 : List (Nat × Instr × Nat) := [(32, .iconst 1, 1), (33, .putfield 314, 3), (36, .aload_n 0, 1), (37, .getfield 384, 3), (40, .ireturn, 1)]
def pb_107 : List (List (Nat × Instr × Nat)) := [pr_107_0, pr_107_1, pr_107_2]
def pm_107 : px_M := (⟨"TextAtlasModel", "seal", "()I"⟩, (prog_15_method_41_code, 1, some .int, []), pb_107, [(182, 0, 11, 0, 1), (314, 0, 11, 7, 1), (384, 0, 11, 28, 1), (400, 3, 109, 0, 11)])
def pr_108_0 : List (Nat × Instr × Nat) := [(0, .aload_n 0, 1), (1, .iconst 0, 1), (2, .putfield 182, 3), (5, .aload_n 0, 1), (6, .iload_n 1, 1), (7, .invokevirtual 418, 3), (10, .ifCond .eq 11, 3), (13, .aload_n 0, 1), (14, .iconst 1, 1), (15, .invokevirtual 311, 3)]
def pr_108_1 : List (Nat × Instr × Nat) := [(18, .goto 9, 3), (21, .aload_n 0, 1), (22, .getfield 22, 3), (25, .iload_n 1, 1), (26, .iaload, 1), (27, .ireturn, 1)]
def pb_108 : List (List (Nat × Instr × Nat)) := [pr_108_0, pr_108_1]
def pm_108 : px_M := (⟨"TextAtlasModel", "size", "(I)I"⟩, (prog_15_method_93_code, 2, some .int, []), pb_108, [(22, 0, 11, 6, 0), (182, 0, 11, 0, 1), (311, 3, 93, 1, 11), (418, 3, 103, 1, 11)])
def pr_109_0 : List (Nat × Instr × Nat) := [(0, .aload_n 0, 1), (1, .invokevirtual 377, 3), (4, .iconst 0, 1), (5, .istore_n 1, 1), (6, .iload_n 1, 1), (7, .aload_n 0, 1), (8, .getfield 356, 3), (11, .if_icmp .ge 52, 3)]
def pr_109_3 : List (Nat × Instr × Nat) := [(63, .aload_n 0, 1)]
def pr_109_4 : List (Nat × Instr × Nat) := [(64, .invokevirtual 380, 3), (67, .ifCond .ne 5, 3), (72, .aload_n 0, 1), (73, .iconst 0, 1), (74, .putfield 384, 3), (77, .aload_n 0, 1), (78, .aload_n 0, 1), (79, .getfield 356, 3)]
def pr_109_5 : List (Nat × Instr × Nat) := [(82, .newarray .int, 2), (84, .putfield 152, 3), (87, .iconst 0, 1), (88, .istore_n 1, 1), (89, .iload_n 1, 1), (90, .aload_n 0, 1), (91, .getfield 356, 3), (94, .if_icmp .ge 163, 3)]
def pr_109_16 : List (Nat × Instr × Nat) := [(257, .iconst 1, 1), (258, .ireturn, 1)]
def pb_109 : List (List (Nat × Instr × Nat)) := [pr_109_0, [], [], pr_109_3, pr_109_4, pr_109_5, [], [], [], [], [], [], [], [], [], [], pr_109_16]
def pm_109 : px_M := (⟨"TextAtlasModel", "sound", "()Z"⟩, (prog_15_method_39_code, 4, some .boolean, []), pb_109, [(152, 0, 11, 27, 1), (356, 0, 11, 23, 1), (377, 3, 87, 0, 11), (380, 3, 92, 0, 11), (384, 0, 11, 28, 1)])
def pr_110_0 : List (Nat × Instr × Nat) := [(0, .iconst 0, 1), (1, .istore_n 2, 1), (2, .iload_n 2, 1), (3, .aload_n 0, 1), (4, .getfield 403, 3), (7, .if_icmp .ge 23, 3)]
def pr_110_1 : List (Nat × Instr × Nat) := [(30, .aload_n 0, 1), (31, .getfield 22, 3)]
def pr_110_2 : List (Nat × Instr × Nat) := [(34, .iload_n 1, 1), (35, .aload_n 0, 1), (36, .getfield 403, 3), (39, .iastore, 1), (40, .aload_n 0, 1), (41, .getfield 403, 3), (44, .ireturn, 1)]
def pb_110 : List (List (Nat × Instr × Nat)) := [pr_110_0, pr_110_1, pr_110_2]
def pm_110 : px_M := (⟨"TextAtlasModel", "take", "(I)I"⟩, (prog_15_method_47_code, 3, some .int, []), pb_110, [(22, 0, 11, 6, 0), (403, 0, 11, 30, 1)])
def pr_111_0 : List (Nat × Instr × Nat) := [(0, .aload_n 0, 1), (1, .iconst 0, 1), (2, .putfield 182, 3), (5, .aload_n 0, 1), (6, .iload_n 1, 1), (7, .invokevirtual 418, 3), (10, .ifCond .eq 9, 3), (13, .aload_n 0, 1), (14, .iconst 1, 1), (15, .invokevirtual 311, 3)]
def pr_111_1 : List (Nat × Instr × Nat) := [(18, .ireturn, 1), (19, .aload_n 0, 1), (20, .getfield 322, 3), (23, .istore_n 2, 1), (24, .aload_n 0, 1), (25, .iconst 0, 1), (26, .putfield 322, 3), (29, .iconst 0, 1), (30, .istore_n 3, 1), (31, .iconst 0, 1)]
def pr_111_2 : List (Nat × Instr × Nat) := [(32, .istore 4, 2), (34, .iconst 0, 1), (35, .istore 5, 2), (37, .iload 5, 2), (39, .iload_n 2, 1), (40, .if_icmp .ge 257, 3)]
def pr_111_18 : List (Nat × Instr × Nat) := [(297, .iload 4, 2), (299, .ifCond .eq 9, 3)]
def pr_111_19 : List (Nat × Instr × Nat) := [(308, .aload_n 0, 1), (309, .iload_n 3, 1), (310, .putfield 403, 3), (313, .aload_n 0, 1), (314, .iload_n 1, 1), (315, .invokevirtual 425, 3), (318, .ireturn, 1)]
def pb_111 : List (List (Nat × Instr × Nat)) := [pr_111_0, pr_111_1, pr_111_2, [], [], [], [], [], [], [], [], [], [], [], [], [], [], [], pr_111_18, pr_111_19]
def pm_111 : px_M := (⟨"TextAtlasModel", "text", "(I)I"⟩, (prog_15_method_89_code, 11, some .int, []), pb_111, [(182, 0, 11, 0, 1), (311, 3, 93, 1, 11), (322, 0, 11, 2, 1), (403, 0, 11, 30, 1), (418, 3, 103, 1, 11), (425, 3, 110, 1, 11)])
def pr_112_0 : List (Nat × Instr × Nat) := [(0, .aload_n 0, 1), (1, .getfield 182, 3), (4, .ireturn, 1)]
def pb_112 : List (List (Nat × Instr × Nat)) := [pr_112_0]
def pm_112 : px_M := (⟨"TextAtlasModel", "thrown", "()I"⟩, (prog_15_method_2_code, 1, some .int, []), pb_112, [(182, 0, 11, 0, 1)])
def pr_113_0 : List (Nat × Instr × Nat) := [(0, .aload_n 0, 1), (1, .iconst 0, 1), (2, .putfield 182, 3), (5, .iload_n 1, 1), (6, .ifCond .lt 11, 3), (9, .iload_n 1, 1), (10, .aload_n 0, 1), (11, .getfield 540, 3), (14, .if_icmp .lt 10, 3)]
def pr_113_1 : List (Nat × Instr × Nat) := [(17, .aload_n 0, 1), (18, .iconst 1, 1), (19, .invokevirtual 311, 3), (22, .i2l, 1), (23, .lreturn, 1)]
def pb_113 : List (List (Nat × Instr × Nat)) := [pr_113_0, pr_113_1]
def pm_113 : px_M := (⟨"TextAtlasModel", "word", "(I)J"⟩, (prog_15_method_97_code, 5, some .long, []), pb_113, [(182, 0, 11, 0, 1), (311, 3, 93, 1, 11), (540, 0, 11, 4, 1)])
def pr_114_0 : List (Nat × Instr × Nat) := [(0, .aload_n 0, 1), (1, .invokespecial 1, 3), (4, .aload_n 0, 1), (5, .iconst 3, 1), (6, .newarray .int, 2), (8, .putfield 7, 3), (11, .aload_n 0, 1), (12, .iconst 3, 1), (13, .newarray .int, 2), (15, .putfield 13, 3)]
def pr_114_1 : List (Nat × Instr × Nat) := [(18, .aload_n 0, 1), (19, .iconst (-1), 1), (20, .putfield 16, 3), (23, .aload_n 0, 1), (24, .iconst (-1), 1), (25, .putfield 20, 3), (28, .aload_n 0, 1), (29, .iconst (-1), 1), (30, .putfield 23, 3)]
def pr_114_2 : List (Nat × Instr × Nat) := [(33, .return_, 1)]
def pb_114 : List (List (Nat × Instr × Nat)) := [pr_114_0, pr_114_1, pr_114_2]
def pm_114 : px_M := (⟨"TextAtlasModel$Line", "<init>", "()V"⟩, (prog_16_method_1_code, 1, none, []), pb_114, [(1, 6, 0, 0, 0), (7, 0, 12, 7, 1), (13, 0, 12, 8, 1), (16, 0, 12, 9, 1), (20, 0, 12, 10, 1), (23, 0, 12, 11, 1)])
def px_ms : List px_M := [pm_0, pm_1, pm_2, pm_3, pm_4, pm_5, pm_6, pm_7, pm_8, pm_9, pm_10, pm_11, pm_12, pm_13, pm_14, pm_15, pm_16, pm_17, pm_18, pm_19, pm_20, pm_21, pm_22, pm_23, pm_24, pm_25, pm_26, pm_27, pm_28, pm_29, pm_30, pm_31, pm_32, pm_33, pm_34, pm_35, pm_36, pm_37, pm_38, pm_39, pm_40, pm_41, pm_42, pm_43, pm_44, pm_45, pm_46, pm_47, pm_48, pm_49, pm_50, pm_51, pm_52, pm_53, pm_54, pm_55, pm_56, pm_57, pm_58, pm_59, pm_60, pm_61, pm_62, pm_63, pm_64, pm_65, pm_66, pm_67, pm_68, pm_69, pm_70, pm_71, pm_72, pm_73, pm_74, pm_75, pm_76, pm_77, pm_78, pm_79, pm_80, pm_81, pm_82, pm_83, pm_84, pm_85, pm_86, pm_87, pm_88, pm_89, pm_90, pm_91, pm_92, pm_93, pm_94, pm_95, pm_96, pm_97, pm_98, pm_99, pm_100, pm_101, pm_102, pm_103, pm_104, pm_105, pm_106, pm_107, pm_108, pm_109, pm_110, pm_111, pm_112, pm_113, pm_114]
def px_pg : px_P := (px_ms, px_tl, px_td)
end
section
def px_end (o : Option px_V ⊕ Nat) : Bool := match o with
  | .inl (some (.inl (.inl n))) => decide (n = 1)
  | _ => false
noncomputable def px_good (o : Option (List px_F)) : Bool := match o with
  | some ls => ls.all (fun q => px_end q.2.1 && Nat.ble q.2.2.2.1 7302232)
  | none => false
def px_full : Int × Int := (-2147483648, 2147483647)
set_option maxRecDepth 1000000 in
set_option maxHeartbeats 0 in
theorem px_run : px_good (px_x px_pg 20000 12 pm_0 0 [(0, .inr (.inr (some 0)))] [] px_h0 [px_full, px_full, px_full, px_full, px_full, px_full, (0, 31), (0, 6)]) = true := by decide +kernel
end
section
/-! Soundness, part 1: the words of the tables that stay, and the world that a method finds. -/
def px_kw (w : Cond) : Bool := match w with
  | .arrayClass _ => true
  | .methodLinkNest _ _ _ _ => true
  | .fieldLinkNest _ _ _ _ _ _ => true
  | .arrayOver (.object _) => true
  | .declares _ => true
  | w => w.onTables && w.keeps
theorem px_kw_warm {w : Cond} (h : px_kw w = true) {s U : State} (hW : s.WarmedH U.vm) {args args' : Array Value} (hb : w.before args s = true) : w.before args' U = true := by
  by_cases h1 : (w.onTables && w.keeps) = true
  · exact word_at hW (Or.inl h1) hb
  · cases w
    case declares y => exact (Cond.onTables_vm (A := args') (A' := args) (U := U) (U' := s) U.vm (.declares y) rfl).trans ((Cond.declares_setVm (args := args) hW.alike y).trans hb)
    case arrayClass ty => exact word_at hW (Or.inr ⟨ty, rfl⟩) hb
    case methodLinkNest a i x o => exact va_Nw.use rfl (va_Nw.warmM hW (va_Nw.of rfl hb))
    case fieldLinkNest a i b n d o => exact va_Nw.use rfl (va_Nw.warmF hW (va_Nw.of rfl hb))
    case arrayOver ty =>
      cases ty
      case object C => exact va_AO.use (va_AO.moved hW.alike (va_AO.of hb))
      all_goals exact absurd h h1
    all_goals exact absurd h h1
def px_in (w : Cond) : Prop := w ∈ lw_tbl ∧ px_kw w = true
def px_tb (s : State) : Prop := ∀ w, px_in w → ∀ args : Array Value, w.before args s = true
theorem px_tb.warm {s U : State} (h : px_tb s) (hW : s.WarmedH U.vm) : px_tb U := fun w hw args => px_kw_warm hw.2 hW (h w hw #[])
/-- pairs of exceptions: is an object of the first one of the second -/
def px_asg : List (Nat × Nat × Bool) := [(0, 0, true), (1, 1, true), (2, 2, true), (3, 3, true), (0, 1, false), (2, 1, false), (3, 1, false), (3, 2, false)]
def px_tN : String := "java/lang/Throwable"
def px_A (E : px_E) : Nat → Prop := fun a => E.2.2 ≤ a
/-- the statics' cell of a class lies as its word says, outside A -/
def px_LS (C n d : String) (A : Nat → Prop) (U : State) (H : Heap) : Prop := ∃ (c : ClassId) (k : Class) (i : Nat) (f : Field) (a : Nat) (cell : Cell), U.vm.findClass C = some c ∧ U.fieldFound? C n d = some (c, k, i, f) ∧ f.isStatic = true ∧ k.statics = some a ∧ H[a]? = some cell ∧ cell.vm.isStatics = true ∧ cell.cls = c ∧ f.slot < cell.slots.size ∧ k.staticTypes[f.slot]? = some f.type ∧ ¬ A a
theorem px_LS.moved {C n d : String} {A : Nat → Prop} {u U : State} {H : Heap} (hvm : u.vm.Alike U.vm) (h : px_LS C n d A u H) : px_LS C n d A U H := by
  obtain ⟨c, k, i, f, a, cell, h0, h1, h2, h3, h4, h5, h6, h7, h8, h9⟩ := h
  obtain ⟨k', hi', he⟩ := State.fieldFound?_setVm hvm h1
  exact ⟨c, k', i, f, a, cell, by rw [hvm.findClass]; exact h0, hi', h2, by rw [he]; exact h3, h4, h5, h6, h7, by rw [he]; exact h8, h9⟩
theorem px_LS.kept {C n d : String} {A : Nat → Prop} {U : State} {H H1 : Heap} (h : px_LS C n d A U H) (hq : ∀ a : Nat, a < H.size → ¬ A a → H1[a]? = H[a]?) : px_LS C n d A U H1 := by
  obtain ⟨c, k, i, f, a, cell, h0, h1, h2, h3, h4, h5, h6, h7, h8, h9⟩ := h
  exact ⟨c, k, i, f, a, cell, h0, h1, h2, h3, by rw [hq a (Array.getElem?_eq_some_iff.mp h4).1 h9]; exact h4, h5, h6, h7, h8, h9⟩
theorem px_LS.at {C n d : String} {A : Nat → Prop} {U : State} {H : Heap} (h : px_LS C n d A U H) {args : Array Value} : (Cond.laysStatic C n d).before args { U with heap := H } = true := by
  obtain ⟨c, k, i, f, a, cell, h0, h1, h2, h3, h4, h5, h6, h7, h8, h9⟩ := h
  exact Cond.laysStatic_of (s := { U with heap := H }) h0 h1 h2 h3 h4 h5 h6 h7 h8
theorem px_LSof {args : Array Value} {s : State} {C n d : String} {A : Nat → Prop} (hl : (Cond.laysStatic C n d).before args s = true) (hA : ∀ a : Nat, a < s.heap.size → ¬ A a) : px_LS C n d A s s.heap := by
  obtain ⟨c, k, i, f, a, cell, hc, hi, hst, ha, hcell, hs, hcls, hlt, hty⟩ := Cond.laysStatic_spec hl
  exact ⟨c, k, i, f, a, cell, hc, hi, hst, ha, hcell, hs, hcls, hlt, hty, hA a (Array.getElem?_eq_some_iff.mp hcell).1⟩
def px_Zq (C n d : String) (A : Nat → Prop) (U : State) (H : Heap) : Prop := va_Zq C n d A U H ∧ px_LS C n d A U H
theorem px_Zq.moved {C n d : String} {A : Nat → Prop} {u U : State} {H : Heap} (hvm : u.vm.Alike U.vm) (h : px_Zq C n d A u H) : px_Zq C n d A U H := ⟨h.1.moved hvm, h.2.moved hvm⟩
theorem px_Zq.kept {C n d : String} {A : Nat → Prop} {U : State} {H H1 : Heap} (h : px_Zq C n d A U H) (hq : ∀ a : Nat, a < H.size → ¬ A a → H1[a]? = H[a]?) : px_Zq C n d A U H1 := ⟨h.1.kept hq, h.2.kept hq⟩
def px_Wd (K : px_K) (E : px_E) (s : State) : Prop :=
  px_tb s ∧ va_K K.1 px_cl [] s ∧ (∀ (t : Nat) (ty : FieldType), px_ty[t]? = some ty → ArrOfT s (K.2.1 t) ty ∧ va_RA s (K.2.1 t) ty) ∧
  (∀ (k : Nat) (n : String), px_ex[k]? = some n → s.vm.findClass n = some (K.2.2.1 k)) ∧
  (∀ q ∈ px_asg, s.vm.assignable (K.2.2.1 q.1) (K.2.2.1 q.2.1) = q.2.2) ∧
  (∀ (r : Nat) (q : String × Nat × String), px_str[r]? = some q → vk_R q.1 q.2.1 q.2.2 (E.2.1 (r + 1)) s ∧ va_O "java/lang/String" (E.2.1 (r + 1)) (px_A E) s K.2.2.2) ∧
  (∃ kA : Class, s.vm.classes[K.2.1 10]? = some kA ∧ kA.kind = .array (K.2.1 1) (.array .int)) ∧
  px_Zq px_tN "UNASSIGNED_STACK" "[Ljava/lang/StackTraceElement;" (px_A E) s K.2.2.2 ∧ px_Zq px_tN "SUPPRESSED_SENTINEL" "Ljava/util/List;" (px_A E) s K.2.2.2 ∧
  (∃ L : Nat, va_X (E.2.1 0) L E.1 s K.2.2.2 ∧ (E.1 7).toInt = (L : Int) ∧ L ≤ 6 ∧ E.2.1 0 < E.2.2) ∧ E.2.2 = K.2.2.2.size ∧ E.1 6 = E.1 0 &&& 31
theorem px_Wd.warm {K : px_K} {E : px_E} {s U : State} (h : px_Wd K E s) (hW : s.WarmedH U.vm) : px_Wd K E U := by
  obtain ⟨h1, h2, h3, h4, h5, h6, ⟨kA, h7, h8⟩, h9, h10, ⟨L, h11, h12⟩, h13, h14⟩ := h
  have al := hW.alike
  refine ⟨h1.warm hW, h2.moved al, fun t ty ht => ⟨arrOfT_moved al (h3 t ty ht).1, (h3 t ty ht).2.moved al⟩, fun k n hk => by rw [al.findClass]; exact h4 k n hk, fun q hq => by rw [al.assignable]; exact h5 q hq,
    fun r q hr => ⟨(h6 r q hr).1.warm hW, va_O.moved al (h6 r q hr).2⟩, ?_, h9.moved al, h10.moved al, ⟨L, h11.moved al, h12⟩, h13, h14⟩
  obtain ⟨k', hk', he⟩ := al.2.2 _ _ h7
  exact ⟨k', hk', by rw [he]; exact h8⟩
end
section
/-! Soundness, part 2: instructions on cells. -/
/-- a class of the table: its fields' words, its kinds of fields -/
def px_okC (ci : Nat) (C : String) (T : u_T) (N : Nat) : Prop :=
  (∀ w ∈ u_ws C T N, px_in w) ∧ px_in (.instantiable C N) ∧ px_in (.initialized C) ∧ (∀ a, a < N → ∀ b, b < N → a ≠ b → (T a).2.1 ≠ (T b).2.1) ∧ (∀ k, k < N → (T k).1 = C) ∧
  ∃ ks : List Nat, px_tl[ci]? = some ks ∧ ks.length = N ∧ ∀ k, k < N → ∃ ty : FieldType, parseFieldDescriptor (T k).2.2.1 = some ty ∧ ks[k]? = some (px_tcode ty) ∧ px_tcode ty < 4
def px_allC : Prop := ∀ (ci : Nat) (C : String) (T : u_T) (N : Nat), px_cl[ci]? = some (C, T, N) → px_okC ci C T N
/-- a method that may be called -/
def px_okY (M : px_M) : Prop := ((M.2.1.2.2.2 = [] ∧ px_in (.code M.1 M.2.1.1 M.2.1.2.1 M.2.1.2.2.1)) ∨ px_in (.codeWith M.1 M.2.1.1 M.2.1.2.1 M.2.1.2.2.1 M.2.1.2.2.2)) ∧ px_in (.initialized M.1.cls) ∧ plainFor M.1 = true ∧ (M.1.cls ≠ "java/lang/invoke/MethodHandle" ∧ M.1.cls ≠ "java/lang/invoke/VarHandle")
def px_okN (M : px_M) (n : Nat) : Prop := (parseMethodDescriptor M.1.desc).map (fun s => s.parameters.length) = some n
/-- what an entry of the pool means -/
def px_okL (M : px_M) (x : Nat) (q : Nat × Nat × Nat × Nat) : Prop := match q.1 with
  | 0 => ∃ (C : String) (T : u_T) (N : Nat), px_cl[q.2.1]? = some (C, T, N) ∧ q.2.2.1 < N ∧ px_in (.fieldLink M.1.cls x C (T q.2.2.1).2.1 (T q.2.2.1).2.2.1) ∧ (q.2.2.2 = 1 → (T q.2.2.1).2.2.2 = true → M.1.name = "<init>" ∧ C = M.1.cls)
  | 1 => ∃ (C : String) (T : u_T) (N : Nat) (host : String), px_cl[q.2.1]? = some (C, T, N) ∧ q.2.2.1 < N ∧ px_in (.fieldLinkNest M.1.cls x C (T q.2.2.1).2.1 (T q.2.2.1).2.2.1 host) ∧ (q.2.2.2 = 1 → (T q.2.2.1).2.2.2 = false)
  | 2 => ∃ M' : px_M, px_ms[q.2.1]? = some M' ∧ px_okY M' ∧ px_okN M' q.2.2.1 ∧ px_in (.methodLink M.1.cls x M'.1) ∧ px_in (.static M'.1)
  | 3 => ∃ (M' : px_M) (T : u_T) (N : Nat), px_ms[q.2.1]? = some M' ∧ px_okY M' ∧ px_okN M' q.2.2.1 ∧ px_cl[q.2.2.2]? = some (M'.1.cls, T, N) ∧ px_in (.methodLink M.1.cls x M'.1) ∧ px_in (.instanceMethod M'.1) ∧ px_in (.selects M'.1.cls M'.1 M'.1)
  | 4 => ∃ M' : px_M, px_ms[q.2.1]? = some M' ∧ px_okY M' ∧ px_okN M' q.2.2.1 ∧ M'.1.name = "<init>" ∧ M'.2.1.2.2.1 = none ∧ M'.2.1.2.2.2 = [] ∧ px_in (.code M'.1 M'.2.1.1 M'.2.1.2.1 none) ∧ px_in (.methodLink M.1.cls x M'.1) ∧ px_in (.instanceMethod M'.1)
  | 5 => ∃ (M' : px_M) (host : String), px_ms[q.2.1]? = some M' ∧ px_okY M' ∧ px_okN M' q.2.2.1 ∧ M'.1.name = "<init>" ∧ M'.2.1.2.2.1 = none ∧ M'.2.1.2.2.2 = [] ∧ px_in (.code M'.1 M'.2.1.1 M'.2.1.2.1 none) ∧ px_in (.methodLinkNest M.1.cls x M'.1 host) ∧ px_in (.instanceMethod M'.1)
  | 6 => px_in (.methodLink M.1.cls x Lib.objectInit) ∧ px_in (.instanceMethod Lib.objectInit) ∧ px_in (.code Lib.objectInit ⟨#[0xb1]⟩ 1 none)
  | 7 => ∃ n : String, px_ex[q.2.1]? = some n ∧ px_in (.methodLink M.1.cls x ⟨n, "<init>", "()V"⟩)
  | 8 => ∃ (C : String) (T : u_T) (N : Nat), px_cl[q.2.1]? = some (C, T, N) ∧ px_in (.classLink M.1.cls x C)
  | 9 => x ≠ 0 ∧ ∃ n : String, px_ex[q.2.1]? = some n ∧ px_in (.classLink M.1.cls x n)
  | 10 => 65536 ≤ x ∧ ∃ C : String, px_ty[q.2.1]? = some (.object C) ∧ px_in (.classLink M.1.cls (x - 65536) C) ∧ px_in (.arrayOver (.object C))
  | 11 => px_in (.constant M.1.cls x (Int32.ofInt (q.2.1 : Nat)))
  | 12 => 1 ≤ q.2.1 ∧ q.2.1 < 64 ∧ ∃ t : String, px_str[q.2.1 - 1]? = some (M.1.cls, x, t)
  | 13 => px_in (.methodLink M.1.cls x arraycopyName) ∧ px_in (.native arraycopyName) ∧ px_in (.static arraycopyName) ∧ px_in (.initialized "java/lang/System")
  | 14 => q.2.1 = 10 ∧ px_in (.classLink M.1.cls x "[[I")
  | _ => True
def px_okM (M : px_M) : Prop := (∀ (pc : Nat) (q : Instr × Nat), px_code M pc = some q → decode M.2.1.1 pc = .ok q) ∧ ∀ (x : Nat) (q : Nat × Nat × Nat × Nat), px_lk M x = some q → px_okL M x q
/-- what a method's walk stands on: the machine, its code, its class, the world, its room (d frames; C0 cells and S0 slots were made before it) -/
def px_Cx (p : Program) (e : Env) (R : Room) (s : State) (m : MethodId) (meth : Method) (c : Code) (K : px_K) (E : px_E) (M : px_M) (d C0 S0 : Nat) : Prop :=
  p.tables.exec = Jvm.exec ∧ e.platform.stackTraces = false ∧ c.code = M.2.1.1 ∧ c.maxLocals = M.2.1.2.1 ∧ meth.sig.returnType = M.2.1.2.2.1 ∧ meth.locks = false ∧ meth.name = M.1.name ∧ s.vm.findClass M.1.cls = some m.cls ∧
  c.exceptionTable.toList.map (fun h => (h.startPc, h.endPc, h.handlerPc, h.catchType)) = M.2.1.2.2.2 ∧ px_Wd K E s ∧ 1024 ≤ R.cells + C0 ∧ 7302232 ≤ R.slots + S0 ∧ d ≤ R.frames ∧ d * 100 ≤ R.locals ∧ E.2.2 ≤ s.heap.size
section PxCells
variable {p : Program} {l : Launch} {e : Env} {R : Room} {s : State} {m : MethodId} {args : Array Value} {below : List Frame} {meth : Method} {c : Code} {H : Heap} {locs : List Loc} {cells slots : Nat} {Q : State → Prop}
variable {K : px_K} {E : px_E} {M : px_M} {d C0 S0 pc : Nat} {ls : Array Slot} {h : px_H} {g : px_G} {st : List px_V} {S : px_N}
/-- one may go on from each of the points -/
abbrev px_Go (p : Program) (l : Launch) (e : Env) (R : Room) (s : State) (m : MethodId) (args : Array Value) (below : List Frame) (meth : Method) (c : Code) (Q : State → Prop) (K : px_K) (E : px_E) (C0 S0 : Nat) (ls : Array Slot) (S : px_N) : Prop :=
  ∀ q ∈ S, ∀ (H' : Heap) (locs' : List Loc) (cells' slots' : Nat), px_HP px_cl K E q.2.2.1 H' → px_Gok E.1 q.2.2.2 → (∀ y ∈ locs', E.2.2 ≤ y.base) → C0 + cells' = q.2.2.1.1 → S0 + slots' = q.2.2.1.2.1 →
    W p l e R s m args below meth c H' locs' cells' slots' Q (F0 m q.1 ls (q.2.1.map (px_v E)))
theorem px_va1 {D : va_G} {cl : List vw_C} {a : Nat} {x : va_E} {H : Heap} (h : va_at D cl (a, x) H) : va_P D cl [(a, x)] H := fun k q hk => by
  cases k with
  | zero => cases hk; exact h
  | succ k => cases hk
theorem px_get_ok (hC : px_allC) (X : px_Cx p e R s m meth c K E M d C0 S0) (hM : px_okM M) {x : Nat} (hd : decode M.2.1.1 pc = .ok (.getfield x, 3)) (hf : px_hget M x pc st h g = some S)
    (hP : px_HP px_cl K E h H) (hG : px_Gok E.1 g) (hL : ∀ y ∈ locs, E.2.2 ≤ y.base) (hc : C0 + cells = h.1) (hs : S0 + slots = h.2.1) (k : px_Go p l e R s m args below meth c Q K E C0 S0 ls S) :
    W p l e R s m args below meth c H locs cells slots Q (F0 m pc ls (st.map (px_v E))) := by
  obtain ⟨hx, -, hb, -, -, -, -, hown, -, hW, -⟩ := X
  unfold px_hget at hf
  split at hf
  · rename_i r rest
    cases hq : px_lk M x with
    | none => rw [hq] at hf; cases hf
    | some q =>
      rw [hq] at hf
      have hl := hM.2 x q hq
      obtain ⟨tag, ci, kf, c3⟩ := q
      cases ht : Nat.ble tag 1 with
      | false => simp only [ht, cond_false] at hf; cases hf
      | true =>
        simp only [ht, cond_true] at hf
        split at hf
        · rename_i o ho
          cases hci : Nat.beq o.1 ci with
          | false => rw [hci] at hf; cases hf
          | true =>
            rw [hci] at hf
            have hci := Nat.eq_of_beq_eq_true hci
            simp only [cond_true] at hf
            split at hf
            · rename_i v hv
              cases hf
              rw [px_nth_eq] at hv
              obtain ⟨h1, h2, h3⟩ := px_obj_ok hP ho
              have kk := k _ (List.mem_singleton.mpr rfl) H locs cells slots hP hG hL hc hs
              have hv' : (o.2.map (px_v E))[kf]? = some (px_v E v) := by rw [List.getElem?_map, hv]; rfl
              have htag : tag = 0 ∨ tag = 1 := by have := Nat.ble_eq.mp ht; omega
              rcases htag with rfl | rfl
              · obtain ⟨C, T, N, a1, a2, a3, -⟩ := hl
                have a1 : px_cl[ci]? = some (C, T, N) := a1
                have a2 : kf < N := a2
                obtain ⟨b1, -, -, -, b5, -⟩ := hC ci C T N a1
                exact va_get (D := K.1) (ci := o.1) (v := px_v E v) (C := C) (T := T) (N := N) (ref := C) (Ts := u_ws C T N) hx hb (fun w hw => hW.1 w (b1 w hw) args) (fun _ hw => hw) hown hW.2.1 (px_va1 h3) 0 rfl (by rw [hci]; exact a1) kf a2 (hW.1 _ a3 args) (fun y hy => by rw [b5 kf a2] at hy; exact hy) hv' hd kk
              · obtain ⟨C, T, N, host, a1, a2, a3, -⟩ := hl
                have a1 : px_cl[ci]? = some (C, T, N) := a1
                have a2 : kf < N := a2
                obtain ⟨b1, -, -, -, b5, -⟩ := hC ci C T N a1
                exact va_getN (D := K.1) (ci := o.1) (v := px_v E v) (C := C) (T := T) (N := N) (ref := C) (host := host) (Ts := u_ws C T N) hx hb (fun w hw => hW.1 w (b1 w hw) args) (fun _ hw => hw) hown hW.2.1 (px_va1 h3) 0 rfl (by rw [hci]; exact a1) kf a2 (hW.1 _ a3 args) (fun y hy => by rw [b5 kf a2] at hy; exact hy) hv' hd kk
            · cases hf
        · cases hf
  · cases hf
theorem px_put_ok (hC : px_allC) (X : px_Cx p e R s m meth c K E M d C0 S0) (hM : px_okM M) {x : Nat} (hd : decode M.2.1.1 pc = .ok (.putfield x, 3)) (hf : px_hput px_pg M x pc st h g = some S)
    (hP : px_HP px_cl K E h H) (hG : px_Gok E.1 g) (hL : ∀ y ∈ locs, E.2.2 ≤ y.base) (hc : C0 + cells = h.1) (hs : S0 + slots = h.2.1) (k : px_Go p l e R s m args below meth c Q K E C0 S0 ls S) :
    W p l e R s m args below meth c H locs cells slots Q (F0 m pc ls (st.map (px_v E))) := by
  obtain ⟨hx, -, hb, -, -, -, hnm, hown, -, hW, -⟩ := X
  unfold px_hput at hf
  split at hf
  · rename_i v r rest
    cases hq : px_lk M x with
    | none => rw [hq] at hf; cases hf
    | some q =>
      rw [hq] at hf
      have hl := hM.2 x q hq
      obtain ⟨tag, ci, kf, c3⟩ := q
      cases ht1 : (Nat.ble tag 1 && Nat.beq c3 1) with
      | false => simp only [ht1, cond_false] at hf; cases hf
      | true =>
        simp only [ht1, cond_true] at hf
        simp only [Bool.and_eq_true] at ht1
        obtain ⟨ht, hc3⟩ := ht1
        have hc3 := Nat.eq_of_beq_eq_true hc3
        split at hf
        · rename_i o ho
          split at hf
          · rename_i ks hks
            rw [px_nth_eq] at hks
            cases hci : (Nat.beq o.1 ci && (px_nth o.2 kf).isSome) with
            | false => rw [hci] at hf; cases hf
            | true =>
              rw [hci] at hf
              simp only [Bool.and_eq_true] at hci
              obtain ⟨hci, hsome⟩ := hci
              have hci := Nat.eq_of_beq_eq_true hci
              rw [px_nth_eq] at hsome
              have hlen : kf < (o.2.map (px_v E)).length := by
                rw [List.length_map]
                obtain ⟨z, hz⟩ := Option.isSome_iff_exists.mp hsome
                exact (List.getElem?_eq_some_iff.mp hz).1
              simp only [cond_true] at hf
              split at hf
              · rename_i kd hkd
                rw [px_nth_eq] at hkd
                cases hfit : px_fitc kd v with
                | false => rw [hfit] at hf; cases hf
                | true =>
                  rw [hfit] at hf
                  cases hf
                  obtain ⟨h1, h2, h3⟩ := px_obj_ok hP ho
                  have key : ∀ (C : String) (T : u_T) (N : Nat), px_cl[ci]? = some (C, T, N) → kf < N → ∃ ty : FieldType, parseFieldDescriptor (T kf).2.2.1 = some ty ∧ narrow ty (px_v E v) = px_v E v ∧ fits ty (px_v E v) = true := by
                    intro C T N a1 a2
                    obtain ⟨-, -, -, -, -, ks', e1, e2, e3⟩ := hC ci C T N a1
                    have e1 : px_tl[ci]? = some ks' := e1
                    have hks : px_tl[ci]? = some ks := hks
                    cases hks.symm.trans e1
                    obtain ⟨ty, f1, f2, -⟩ := e3 kf a2
                    cases hkd.symm.trans f2
                    exact ⟨ty, f1, px_fit_ok E hfit⟩
                  have fin : ∀ (C : String) (T : u_T) (N : Nat) (cell : Cell) (H' : Heap), px_cl[ci]? = some (C, T, N) → kf < N → cell.cls = K.1.1 o.1 → cell.vm = .none → (∀ z, z < N → cell.slots[K.1.2 o.1 z]? = some (vp_V (o.2.map (px_v E)) z)) → (∀ a b, a < N → b < N → a ≠ b → K.1.2 o.1 a ≠ K.1.2 o.1 b) →
                      H'[px_ad E r]? = some (cell.setSlot (K.1.2 o.1 kf) (px_v E v)) → H'.size = H.size → (∀ z, z ≠ px_ad E r → H'[z]? = H[z]?) → px_HP px_cl K E (px_setc h r (.inr (.inl (o.1, px_lset v o.2 kf)))) H' := by
                    intro C T N cell H' a1 a2 q2 q3 q4 hap e1 e2 e3
                    refine hP.set h1 h2 ?_ e2 e3
                    show va_at K.1 px_cl (px_ad E r, .inr (o.1, (px_lset v o.2 kf).map (px_v E))) H'
                    rw [px_lset_eq, List.map_set]
                    exact ⟨(C, T, N), by rw [hci]; exact a1, t_OB.to (V := updV (vp_V (o.2.map (px_v E))) kf (px_v E v)) ⟨_, e1, q2, q3, t_set q4 hap a2 (px_v E v)⟩ (fun j _ => vp_updV_set hlen (px_v E v) j)⟩
                  have kk : ∀ (H' : Heap) (i : Nat), px_HP px_cl K E (px_setc h r (.inr (.inl (o.1, px_lset v o.2 kf)))) H' → W p l e R s m args below meth c H' (locs ++ [⟨px_ad E r, i⟩]) cells slots Q (F0 m (pc + 3) ls (rest.map (px_v E))) := fun H' i hP' =>
                    k _ (List.mem_singleton.mpr rfl) H' _ cells slots hP' hG (fun y hy => by
                      rcases List.mem_append.mp hy with hy | hy
                      · exact hL y hy
                      · rw [List.mem_singleton.mp hy]; show E.2.2 ≤ px_ad E r; rw [px_ad_new E h1]; omega) hc hs
                  obtain ⟨r', g1, cell, q1, q2, q3, q4⟩ := h3
                  have htag : tag = 0 ∨ tag = 1 := by have := Nat.ble_eq.mp ht; omega
                  rcases htag with rfl | rfl
                  · obtain ⟨C, T, N, a1, a2, a3, a4⟩ := hl
                    have a1 : px_cl[ci]? = some (C, T, N) := a1
                    have a2 : kf < N := a2
                    have a3 : px_in (.fieldLink M.1.cls x C (T kf).2.1 (T kf).2.2.1) := a3
                    have a4 : (T kf).2.2.2 = true → M.1.name = "<init>" ∧ C = M.1.cls := a4 hc3
                    obtain ⟨ty, f1, f2, f3⟩ := key C T N a1 a2
                    obtain ⟨b1, -, -, b4, b5, ks', e1, e2, e3⟩ := hC ci C T N a1
                    have hr' : r' = (C, T, N) := Option.some.inj (g1.symm.trans (by rw [hci]; exact a1))
                    subst hr'
                    have hts : ∀ w ∈ u_ws C T N, w.before args s = true := fun w hw => hW.1 w (b1 w hw) args
                    have hc' : px_cl[o.1]? = some (C, T, N) := by rw [hci]; exact a1
                    have hap := va_apart (own := M.1.cls) (D := K.1) (tys := []) hts (fun _ hw => hw) (fun z => (parseFieldDescriptor (T z).2.2.1).getD .int) (fun z hz => by obtain ⟨ty, w1, -⟩ := e3 z hz; rw [w1]; rfl) b4 hW.2.1 hc'
                    obtain ⟨hS, hfc, kC, hkC, hkind⟩ := hW.2.1.1 o.1 _ hc'
                    obtain ⟨cf, kf', fi, f, hi, hsl⟩ := hS kf a2
                    have hst := (u_facts hfc hkC (u_lays hts (fun _ hw => hw) a2) hi).1
                    have hi' : s.fieldFound? C (T kf).2.1 (T kf).2.2.1 = some (cf, kf', fi, f) := by have := hi; rw [b5 kf a2] at this; exact this
                    have hlay := hts _ (u_in_lay a2)
                    unfold u_lay at hlay
                    by_cases hfin : (T kf).2.2.2 = true
                    · rw [if_pos hfin] at hlay
                      obtain ⟨n1, n2⟩ := a4 hfin
                      have hcf : m.cls = cf := by
                        obtain ⟨_, _, c', _, _, _, -, -, hf', -, -, -, hown2, -⟩ := Cond.laysFinal_spec hlay
                        have e1 : c' = cf := by have := hi.symm.trans hf'; simp at this; exact this.1.symm
                        rw [b5 kf a2, n2] at hown2
                        rw [← e1]; exact Option.some.inj (hown.symm.trans hown2)
                      have h6 := u_fits hfc hkC hkind (Or.inr hlay) hi f1 f2 f3
                      exact W.putFinK hx hb hown (hW.1 _ a3 args) hi' hst hcf (hnm.trans n1) (by rw [q2]; exact h6) q1 q3 (by rw [hsl]; exact k2_hasslot (q4 kf a2)) rfl rfl hd fun H' e1 e2 e3 => by
                        rw [hsl] at e1 ⊢
                        exact kk H' _ (fin C T N cell H' a1 a2 q2 q3 q4 hap e1 e2 e3)
                    · rw [if_neg hfin] at hlay
                      have h6 := u_store hfc hkC hkind hlay hi f1 f2 f3
                      exact W.putK hx hb (f := f) ⟨hown, hW.1 _ a3 args, ⟨_, _, _, hi'⟩, hst⟩ (by rw [q2]; exact h6) q1 q3 (by rw [hsl]; exact k2_hasslot (q4 kf a2)) rfl rfl hd fun H' e1 e2 e3 => by
                        rw [hsl] at e1 ⊢
                        exact kk H' _ (fin C T N cell H' a1 a2 q2 q3 q4 hap e1 e2 e3)
                  · obtain ⟨C, T, N, host, a1, a2, a3, a4⟩ := hl
                    have a1 : px_cl[ci]? = some (C, T, N) := a1
                    have a2 : kf < N := a2
                    have a3 : px_in (.fieldLinkNest M.1.cls x C (T kf).2.1 (T kf).2.2.1 host) := a3
                    have a4 : (T kf).2.2.2 = false := a4 hc3
                    obtain ⟨ty, f1, f2, f3⟩ := key C T N a1 a2
                    obtain ⟨b1, -, -, b4, b5, ks', e1, e2, e3⟩ := hC ci C T N a1
                    have hr' : r' = (C, T, N) := Option.some.inj (g1.symm.trans (by rw [hci]; exact a1))
                    subst hr'
                    have hts : ∀ w ∈ u_ws C T N, w.before args s = true := fun w hw => hW.1 w (b1 w hw) args
                    have hc' : px_cl[o.1]? = some (C, T, N) := by rw [hci]; exact a1
                    have hap := va_apart (own := M.1.cls) (D := K.1) (tys := []) hts (fun _ hw => hw) (fun z => (parseFieldDescriptor (T z).2.2.1).getD .int) (fun z hz => by obtain ⟨ty, w1, -⟩ := e3 z hz; rw [w1]; rfl) b4 hW.2.1 hc'
                    obtain ⟨hS, hfc, kC, hkC, hkind⟩ := hW.2.1.1 o.1 _ hc'
                    obtain ⟨cf, kf', fi, f, hi, hsl⟩ := hS kf a2
                    have hst := (u_facts hfc hkC (u_lays hts (fun _ hw => hw) a2) hi).1
                    have hi' : s.fieldFound? C (T kf).2.1 (T kf).2.2.1 = some (cf, kf', fi, f) := by have := hi; rw [b5 kf a2] at this; exact this
                    have hlay := hts _ (u_in_lay a2)
                    unfold u_lay at hlay
                    rw [if_neg (by rw [a4]; decide)] at hlay
                    have h6 := u_store hfc hkC hkind hlay hi f1 f2 f3
                    exact va_WputK hx hb (f := f) hown (hW.1 _ a3 args) hi' hst (by rw [q2]; exact h6) q1 q3 (by rw [hsl]; exact k2_hasslot (q4 kf a2)) rfl rfl hd fun H' e1 e2 e3 => by
                      rw [hsl] at e1 ⊢
                      exact kk H' _ (fin C T N cell H' a1 a2 q2 q3 q4 hap e1 e2 e3)
              · cases hf
          · cases hf
        · cases hf
  · cases hf
end PxCells
end
section
/-! Soundness, part 3: making cells, and arrays. -/
section PxMade
variable {p : Program} {l : Launch} {e : Env} {R : Room} {s : State} {m : MethodId} {args : Array Value} {below : List Frame} {meth : Method} {c : Code} {H : Heap} {locs : List Loc} {cells slots : Nat} {Q : State → Prop}
variable {K : px_K} {E : px_E} {M : px_M} {d C0 S0 pc : Nat} {ls : Array Slot} {h : px_H} {g : px_G} {st : List px_V} {S : px_N}
theorem px_room_ok {k n : Nat} (q : px_room h k n = true) : h.1 + k ≤ 1024 ∧ h.2.1 + n ≤ 7302232 := by
  simp only [px_room, Bool.and_eq_true, Nat.ble_eq] at q
  exact q
theorem px_push_1 (h : px_H) (n : Nat) (x : px_C) : (px_push h n x).1 = h.1 + 1 := rfl
theorem px_push_2 (h : px_H) (n : Nat) (x : px_C) : (px_push h n x).2.1 = h.2.1 + n := rfl
theorem px_new_ok (hC : px_allC) (X : px_Cx p e R s m meth c K E M d C0 S0) (hM : px_okM M) {x : Nat} (hd : decode M.2.1.1 pc = .ok (.new x, 3)) (hf : px_hnew px_pg M x pc st h g = some S)
    (hP : px_HP px_cl K E h H) (hG : px_Gok E.1 g) (hL : ∀ y ∈ locs, E.2.2 ≤ y.base) (hc : C0 + cells = h.1) (hs : S0 + slots = h.2.1) (k : px_Go p l e R s m args below meth c Q K E C0 S0 ls S) :
    W p l e R s m args below meth c H locs cells slots Q (F0 m pc ls (st.map (px_v E))) := by
  obtain ⟨hx, -, hb, -, -, -, hnm, hown, -, hW, hRc, hRs, -⟩ := X
  unfold px_hnew at hf
  cases hq : px_lk M x with
  | none => rw [hq] at hf; cases hf
  | some q =>
    rw [hq] at hf
    have hl := hM.2 x q hq
    obtain ⟨tag, ci, kf, c3⟩ := q
    cases ht : Nat.beq tag 8 with
    | false => simp only [ht, cond_false] at hf; cases hf
    | true =>
      have := Nat.eq_of_beq_eq_true ht
      subst this
      simp only [ht, cond_true] at hf
      split at hf
      · rename_i ks hks
        rw [px_nth_eq] at hks
        have hks : px_tl[ci]? = some ks := hks
        cases hr : px_room h 1 ks.length with
        | false => rw [hr] at hf; cases hf
        | true =>
          rw [hr] at hf
          have hf : some [(pc + 3, .inr (.inr (some h.1)) :: st, px_push h ks.length (.inr (.inl (ci, ks.map px_dflt))), g)] = some S := hf
          cases hf
          obtain ⟨r1, r2⟩ := px_room_ok hr
          obtain ⟨C, T, N, a1, a3⟩ := hl
          have a1 : px_cl[ci]? = some (C, T, N) := a1
          obtain ⟨b1, b2, b3, b4, b5, ks', e1, e2, e3⟩ := hC ci C T N a1
          cases hks.symm.trans e1
          have hts : ∀ w ∈ u_ws C T N, w.before args s = true := fun w hw => hW.1 w (b1 w hw) args
          have hKn := hW.2.1.1 ci _ a1
          refine W.newcK hx hb hown (hW.1 _ a3 args) (hW.1 _ b2 args) (hW.1 _ b3 args) rfl hd (by omega) (by omega) hKn.2.1 rfl fun H1 kC hkC f1 f2 f3 => ?_
          have hob := u_born (fun z => (parseFieldDescriptor (T z).2.2.1).getD .int) hts (fun _ hw => hw) hKn hkC f1 (fun z hz => by obtain ⟨ty, w1, -⟩ := e3 z hz; rw [w1]; rfl)
          have hat : px_cell px_cl K E (.inr (.inl (ci, ks.map px_dflt))) H.size H1 := by
            refine ⟨(C, T, N), a1, hob.to (fun z hz => ?_)⟩
            obtain ⟨ty, w1, w2, w3⟩ := e3 z hz
            show defaultValue ((parseFieldDescriptor (T z).2.2.1).getD .int) = vp_V ((ks.map px_dflt).map (px_v E)) z
            rw [w1]
            have : ((ks.map px_dflt).map (px_v E))[z]? = some (defaultValue ty) := by
              rw [List.getElem?_map, List.getElem?_map, w2]
              exact congrArg some (px_dflt_ok E w3)
            unfold vp_V
            rw [List.getD_eq_getElem?_getD, this]
            rfl
          obtain ⟨hP', hz⟩ := hP.push (by omega) ks.length hat f2 f3
          have kk := k _ (List.mem_singleton.mpr rfl) H1 locs (cells + 1) (slots + ks.length) hP' hG hL (by rw [px_push_1]; omega) (by rw [px_push_2]; omega)
          rw [hz]
          rw [e2] at kk
          exact kk
      · cases hf
theorem px_tyk {t : ArrayType} {n : Nat} (h : px_atn t = some n) : px_ty[n]? = some (newarray.typeOf t) ∧ componentBytes (newarray.typeOf t) ≤ 8 ∧ ∃ y, px_td[n]? = some y ∧ ∀ E : px_E, px_v E (px_dflt y.1) = defaultValue (newarray.typeOf t) := by
  cases t <;> first | (cases h; exact ⟨rfl, by decide, _, rfl, fun _ => rfl⟩) | cases h
theorem px_na_ok (X : px_Cx p e R s m meth c K E M d C0 S0) {t : ArrayType} (harr : px_in (.arrayClass (newarray.typeOf t))) (hd : decode M.2.1.1 pc = .ok (.newarray t, 2)) (hf : px_hna px_pg t pc st h g = some S)
    (hP : px_HP px_cl K E h H) (hG : px_Gok E.1 g) (hL : ∀ y ∈ locs, E.2.2 ≤ y.base) (hc : C0 + cells = h.1) (hs : S0 + slots = h.2.1) (k : px_Go p l e R s m args below meth c Q K E C0 S0 ls S) :
    W p l e R s m args below meth c H locs cells slots Q (F0 m pc ls (st.map (px_v E))) := by
  obtain ⟨hx, -, hb, -, -, -, hnm, hown, -, hW, hRc, hRs, -⟩ := X
  unfold px_hna at hf
  split at hf
  · rename_i n rest
    split at hf
    · rename_i tn htn
      obtain ⟨t1, t2, y0, t3, t4⟩ := px_tyk htn
      cases hr : (px_ile 0 n && px_room h 1 n.toNat && Nat.ble (n.toNat * 8) 536870912) with
      | false => rw [hr] at hf; cases hf
      | true =>
        rw [hr] at hf
        simp only [Bool.and_eq_true, px_ile_eq, decide_eq_true_eq, Nat.ble_eq] at hr
        obtain ⟨⟨n0, hr⟩, hby⟩ := hr
        obtain ⟨r1, r2⟩ := px_room_ok hr
        simp only [cond_true] at hf
        split at hf
        · rename_i y hy
          rw [px_nth_eq] at hy
          cases Option.some.inj (hy.symm.trans t3)
          have hf : some [(pc + 2, .inr (.inr (some h.1)) :: rest, px_push h n.toNat (.inl (tn, n.toNat, px_dflt y0.1, [])), g)] = some S := hf
          cases hf
          have nb : (Int32.ofInt n).toInt = n := by
            rw [Int32.toInt_ofInt_of_le] <;> omega
          have hn0 : ¬ Int32.ofInt n < 0 := by rw [Int32.lt_iff_toInt_lt, nb]; show ¬ n < 0; omega
          have hcl : (Int32.ofInt n).toNatClampNeg = n.toNat := by unfold Int32.toNatClampNeg; rw [nb]
          refine va_newaK hx hb (hW.1 _ harr args) rfl hd rfl hn0 hcl (by have := Nat.mul_le_mul_left n.toNat t2; omega) (by omega) (by omega) rfl fun H1 cA e1 z1 o1 hAr hNm => ?_
          have hcA : cA = K.2.1 tn := by
            have h9 := (hW.2.2.1 tn _ t1).2
            have : s.vm.findClass ("[" ++ (newarray.typeOf t).toString) = some (K.2.1 tn) := by
              cases t <;> exact h9
            exact Option.some.inj (hNm.symm.trans this)
          subst hcA
          have hat : px_cell px_cl K E (.inl (tn, n.toNat, px_dflt y0.1, [])) H.size H1 := by
            show H1[H.size]? = some (arrV (K.2.1 tn) n.toNat (fun j => px_v E (px_at (px_dflt y0.1) j [])))
            rw [e1]
            congr 2
            funext j
            exact (t4 E).symm
          obtain ⟨hP', hz⟩ := hP.push (by omega) n.toNat hat z1 o1
          have kk := k _ (List.mem_singleton.mpr rfl) H1 locs (cells + 1) (slots + n.toNat) hP' hG hL (by rw [px_push_1]; omega) (by rw [px_push_2]; omega)
          rw [hz]
          exact kk
        · cases hf
    · cases hf
  · cases hf
theorem px_nq_ok (X : px_Cx p e R s m meth c K E M d C0 S0) (hM : px_okM M) {x : Nat} (hd : decode M.2.1.1 pc = .ok (.anewarray x, 3)) (hf : px_hnq M x pc st h g = some S)
    (hP : px_HP px_cl K E h H) (hG : px_Gok E.1 g) (hL : ∀ y ∈ locs, E.2.2 ≤ y.base) (hc : C0 + cells = h.1) (hs : S0 + slots = h.2.1) (k : px_Go p l e R s m args below meth c Q K E C0 S0 ls S) :
    W p l e R s m args below meth c H locs cells slots Q (F0 m pc ls (st.map (px_v E))) := by
  obtain ⟨hx, -, hb, -, -, -, hnm, hown, -, hW, hRc, hRs, -⟩ := X
  unfold px_hnq at hf
  split at hf
  · rename_i n rest
    cases hq : px_lk M (x + 65536) with
    | none => rw [hq] at hf; cases hf
    | some q =>
      rw [hq] at hf
      have hl := hM.2 _ q hq
      obtain ⟨tag, tn, kf, c3⟩ := q
      cases hr : (Nat.beq tag 10 && (px_ile 0 n && px_room h 1 n.toNat && Nat.ble (n.toNat * 8) 536870912)) with
      | false => simp only [hr, cond_false] at hf; cases hf
      | true =>
        simp only [hr, cond_true] at hf
        simp only [Bool.and_eq_true, px_ile_eq, decide_eq_true_eq, Nat.ble_eq] at hr
        obtain ⟨ht, ⟨n0, hr⟩, hby⟩ := hr
        have := Nat.eq_of_beq_eq_true ht
        subst this
        obtain ⟨r1, r2⟩ := px_room_ok hr
        have hf : some [(pc + 3, .inr (.inr (some h.1)) :: rest, px_push h n.toNat (.inl (tn, n.toNat, .inr (.inr none), [])), g)] = some S := hf
        cases hf
        obtain ⟨-, C, a1, a2, a3⟩ := hl
        have a1 : px_ty[tn]? = some (.object C) := a1
        have a2 : px_in (.classLink M.1.cls x C) := by rw [Nat.add_sub_cancel] at a2; exact a2
        have nb : (Int32.ofInt n).toInt = n := by
          rw [Int32.toInt_ofInt_of_le] <;> omega
        have hn0 : ¬ Int32.ofInt n < 0 := by rw [Int32.lt_iff_toInt_lt, nb]; show ¬ n < 0; omega
        have hcl : (px_i E.1 (.inl n)).toNatClampNeg = n.toNat := by show (Int32.ofInt n).toNatClampNeg = _; unfold Int32.toNatClampNeg; rw [nb]
        refine W.anew hx hb hown (hW.1 _ a2 args) (hW.1 _ a3 args) rfl hd rfl hn0 (by rw [hcl]; omega) (by omega) (by rw [hcl]; omega) fun cA kA comp f1 f2 f3 f4 => ?_
        rw [hcl]
        generalize hH1 : H.push ({ cls := cA, slots := Array.replicate n.toNat .null, vm := .none } : Cell) = H1
        have z1 : H1.size = H.size + 1 := by rw [← hH1, Array.size_push]
        have e1 : H1[H.size]? = some (arrV cA n.toNat (fun _ => .null)) := by rw [← hH1, Array.getElem?_push_size, ← arrV_new]
        have o1 : ∀ q : Nat, q < H.size → H1[q]? = H[q]? := fun q hq => by rw [← hH1, Array.getElem?_push, if_neg (Nat.ne_of_lt hq)]
        have hcA : cA = K.2.1 tn := by
          obtain ⟨kA', comp', g1, g2, g3, g4⟩ := (hW.2.2.1 tn _ a1).2
          exact Option.some.inj (f1.symm.trans g4)
        subst hcA
        have hat : px_cell px_cl K E (.inl (tn, n.toNat, .inr (.inr none), [])) H.size H1 := e1
        obtain ⟨hP', hz⟩ := hP.push (by omega) n.toNat hat z1 o1
        have kk := k _ (List.mem_singleton.mpr rfl) H1 locs (cells + 1) (slots + n.toNat) hP' hG hL (by rw [px_push_1]; omega) (by rw [px_push_2]; omega)
        rw [hz]
        exact kk
  · cases hf
theorem px_ty_at {t : Nat} (h : t < 11) : ∃ ty : FieldType, px_ty[t]? = some ty := ⟨px_ty[t]'h, List.getElem?_eq_getElem h⟩
theorem px_stay_ok (gs : List px_G) (hg : ∃ q ∈ gs, px_Gok E.1 q) (hP : px_HP px_cl K E h H) (hL : ∀ y ∈ locs, E.2.2 ≤ y.base) (hc : C0 + cells = h.1) (hs : S0 + slots = h.2.1)
    (k : px_Go p l e R s m args below meth c Q K E C0 S0 ls (px_stay pc st h gs)) : W p l e R s m args below meth c H locs cells slots Q (F0 m pc ls (st.map (px_v E))) := by
  obtain ⟨q, h1, h2⟩ := hg
  exact k _ (List.mem_map.mpr ⟨q, h1, rfl⟩) H locs cells slots hP h2 hL hc hs
theorem px_low_ok {q : Nat} (hP : px_HP px_cl K E h H) (hq : q < E.2.2) : H[q]? = K.2.2.2[q]? := hP.2.2.2.2 q hq
theorem px_len_ok (X : px_Cx p e R s m meth c K E M d C0 S0) (hd : decode M.2.1.1 pc = .ok (.arraylength, 1)) (hf : px_hlen pc st h g = some S)
    (hP : px_HP px_cl K E h H) (hG : px_Gok E.1 g) (hL : ∀ y ∈ locs, E.2.2 ≤ y.base) (hc : C0 + cells = h.1) (hs : S0 + slots = h.2.1) (k : px_Go p l e R s m args below meth c Q K E C0 S0 ls S) :
    W p l e R s m args below meth c H locs cells slots Q (F0 m pc ls (st.map (px_v E))) := by
  obtain ⟨hx, -, hb, -, -, -, hnm, hown, -, hW, hRc, hRs, -⟩ := X
  unfold px_hlen at hf
  split at hf
  · rename_i rest
    split at hf
    · rename_i gs hk
      cases hf
      exact px_stay_ok gs (px_know_ok hG hk) hP hL hc hs k
    · rename_i n hk
      cases hf
      obtain ⟨e1, e2⟩ := px_know_ok hG hk
      obtain ⟨L, h1, h2, h3, h4⟩ := hW.2.2.2.2.2.2.2.2.2.1
      have kk := k _ (List.mem_singleton.mpr rfl) H locs cells slots hP hG hL hc hs
      obtain ⟨scr, g1, g2, g3, g4, g5⟩ := h1
      refine W.alen (n := Int32.ofInt n) hx hb (a := E.2.1 0) (by rw [px_low_ok hP h4]; exact g1) g2 ?_ rfl rfl hd kk
      rw [g4]
      apply Int32.toInt_inj.mp
      rw [← e1]
      show _ = (E.1 7).toInt
      rw [h2]
      exact nI_toInt (by omega)
    · cases hf
  · rename_i r rest
    split at hf
    · rename_i q hq
      cases hf
      obtain ⟨h1, h2, h2', h3⟩ := px_arr_ok hP hq
      obtain ⟨ty, ht⟩ := px_ty_at h2'
      have kk := k _ (List.mem_singleton.mpr rfl) H locs cells slots hP hG hL hc hs
      refine W.alen (n := Int32.ofInt (q.2.1 : Nat)) hx hb h3 ((hW.2.2.1 q.1 ty ht).1 _ _) ?_ rfl rfl hd kk
      rw [arrV_size]
      rfl
    · cases hf
  · cases hf
theorem px_ix {n : Int} {N : Nat} (h0 : 0 ≤ n) (h1 : n.toNat < N) (a : Int32) (ha : a.toInt = n) : ¬ (a < 0 ∨ N ≤ a.toNatClampNeg) ∧ a.toNatClampNeg = n.toNat := by
  have hcl : a.toNatClampNeg = n.toNat := by unfold Int32.toNatClampNeg; rw [ha]
  refine ⟨?_, hcl⟩
  rw [hcl, Int32.lt_iff_toInt_lt, ha]
  show ¬ (n < 0 ∨ _)
  omega
/-- reading an array: the machine's row is given -/
theorem px_aload_ok (X : px_Cx p e R s m meth c K E M d C0 S0) {a : px_I} {r : Nat} {rest : List px_V} {ok : Nat → Bool} (hst : st = .inl a :: .inr (.inr (some r)) :: rest) (hf : px_aload pc st rest h g a r ok = some S)
    (hP : px_HP px_cl K E h H) (hG : px_Gok E.1 g) (hL : ∀ y ∈ locs, E.2.2 ≤ y.base) (hc : C0 + cells = h.1) (hs : S0 + slots = h.2.1)
    (row : ∀ (q : Nat × Nat × px_V × List (Nat × px_V)) (j : Int32), px_arr h r = some q → ok q.1 = true → H[px_ad E r]? = some (arrV (K.2.1 q.1) q.2.1 (fun j => px_v E (px_at q.2.2.1 j q.2.2.2))) → ¬ (j < 0 ∨ q.2.1 ≤ j.toNatClampNeg) →
      W p l e R s m args below meth c H locs cells slots Q (F0 m (pc + 1) ls (px_v E (px_at q.2.2.1 j.toNatClampNeg q.2.2.2) :: rest.map (px_v E))) → W p l e R s m args below meth c H locs cells slots Q (F0 m pc ls (.int j :: .ref (px_ad E r) :: rest.map (px_v E))))
    (k : px_Go p l e R s m args below meth c Q K E C0 S0 ls S) : W p l e R s m args below meth c H locs cells slots Q (F0 m pc ls (st.map (px_v E))) := by
  subst hst
  unfold px_aload at hf
  split at hf
  · rename_i gs hk
    cases hf
    exact px_stay_ok gs (px_know_ok hG hk) hP hL hc hs k
  · rename_i n hk
    split at hf
    · rename_i q hq
      cases hn : (px_ile 0 n && Nat.blt n.toNat q.2.1 && ok q.1) with
      | false => rw [hn] at hf; cases hf
      | true =>
        rw [hn] at hf
        cases hf
        simp only [Bool.and_eq_true, px_ile_eq, decide_eq_true_eq, Nat.blt_eq] at hn
        obtain ⟨h1, h2, h2', h3⟩ := px_arr_ok hP hq
        obtain ⟨e1, e2⟩ := px_know_ok hG hk
        obtain ⟨i1, i2⟩ := px_ix hn.1.1 hn.1.2 _ e2
        have kk := k _ (List.mem_singleton.mpr rfl) H locs cells slots hP hG hL hc hs
        exact row q _ hq hn.2 h3 i1 (by rw [i2]; exact kk)
    · cases hf
  · cases hf
theorem px_astore_ok (X : px_Cx p e R s m meth c K E M d C0 S0) {a : px_I} {r : Nat} {rest : List px_V} {v w : px_V} {ok : Nat → Bool} (hst : st = w :: .inl a :: .inr (.inr (some r)) :: rest) (hf : px_astore pc st rest h g a r v ok = some S)
    (hP : px_HP px_cl K E h H) (hG : px_Gok E.1 g) (hL : ∀ y ∈ locs, E.2.2 ≤ y.base) (hc : C0 + cells = h.1) (hs : S0 + slots = h.2.1)
    (row : ∀ (q : Nat × Nat × px_V × List (Nat × px_V)) (j : Int32), px_arr h r = some q → ok q.1 = true → H[px_ad E r]? = some (arrV (K.2.1 q.1) q.2.1 (fun j => px_v E (px_at q.2.2.1 j q.2.2.2))) → ¬ (j < 0 ∨ q.2.1 ≤ j.toNatClampNeg) →
      (∀ H' : Heap, H'[px_ad E r]? = some ((arrV (K.2.1 q.1) q.2.1 (fun j => px_v E (px_at q.2.2.1 j q.2.2.2))).setSlot j.toNatClampNeg (px_v E v)) → H'.size = H.size → (∀ z, z ≠ px_ad E r → H'[z]? = H[z]?) → W p l e R s m args below meth c H' (locs ++ [⟨px_ad E r, j.toNatClampNeg⟩]) cells slots Q (F0 m (pc + 1) ls (rest.map (px_v E)))) →
      W p l e R s m args below meth c H locs cells slots Q (F0 m pc ls (px_v E w :: .int j :: .ref (px_ad E r) :: rest.map (px_v E))))
    (k : px_Go p l e R s m args below meth c Q K E C0 S0 ls S) : W p l e R s m args below meth c H locs cells slots Q (F0 m pc ls (st.map (px_v E))) := by
  subst hst
  unfold px_astore at hf
  split at hf
  · rename_i gs hk
    cases hf
    exact px_stay_ok gs (px_know_ok hG hk) hP hL hc hs k
  · rename_i n hk
    split at hf
    · rename_i q hq
      cases hn : (px_ile 0 n && Nat.blt n.toNat q.2.1 && ok q.1) with
      | false => rw [hn] at hf; cases hf
      | true =>
        rw [hn] at hf
        cases hf
        simp only [Bool.and_eq_true, px_ile_eq, decide_eq_true_eq, Nat.blt_eq] at hn
        obtain ⟨h1, h2, h2', h3⟩ := px_arr_ok hP hq
        obtain ⟨e1, e2⟩ := px_know_ok hG hk
        obtain ⟨i1, i2⟩ := px_ix hn.1.1 hn.1.2 _ e2
        refine row q _ hq hn.2 h3 i1 fun H' f1 f2 f3 => ?_
        rw [i2] at f1 ⊢
        have hP' : px_HP px_cl K E (px_setc h r (.inl (q.1, q.2.1, q.2.2.1, (n.toNat, v) :: q.2.2.2))) H' := by
          refine hP.set h1 h2 ?_ f2 f3
          show H'[px_ad E r]? = some (arrV (K.2.1 q.1) q.2.1 (fun j => px_v E (px_at q.2.2.1 j ((n.toNat, v) :: q.2.2.2))))
          rw [f1, arrV_store]
          congr 2
          funext j
          rw [px_at_cons]
          unfold updV
          split <;> rfl
        exact k _ (List.mem_singleton.mpr rfl) H' _ cells slots hP' hG (fun y hy => by
          rcases List.mem_append.mp hy with hy | hy
          · exact hL y hy
          · rw [List.mem_singleton.mp hy]; show E.2.2 ≤ px_ad E r; rw [px_ad_new E h1]; omega) hc hs
    · cases hf
  · cases hf
end PxMade
end
section
/-! Soundness, part 4: arrays read and written, constants, Object's constructor, a copy of nothing. -/
section PxArr
variable {p : Program} {l : Launch} {e : Env} {R : Room} {s : State} {m : MethodId} {args : Array Value} {below : List Frame} {meth : Method} {c : Code} {H : Heap} {locs : List Loc} {cells slots : Nat} {Q : State → Prop}
variable {K : px_K} {E : px_E} {M : px_M} {d C0 S0 pc : Nat} {ls : Array Slot} {h : px_H} {g : px_G} {st : List px_V} {S : px_N}
theorem px_ial_ok (X : px_Cx p e R s m meth c K E M d C0 S0) (hd : decode M.2.1.1 pc = .ok (.iaload, 1)) (hf : px_hial pc st h g = some S)
    (hP : px_HP px_cl K E h H) (hG : px_Gok E.1 g) (hL : ∀ y ∈ locs, E.2.2 ≤ y.base) (hc : C0 + cells = h.1) (hs : S0 + slots = h.2.1) (k : px_Go p l e R s m args below meth c Q K E C0 S0 ls S) :
    W p l e R s m args below meth c H locs cells slots Q (F0 m pc ls (st.map (px_v E))) := by
  have X' := X
  obtain ⟨hx, -, hb, -, -, -, hnm, hown, -, hW, hRc, hRs, -⟩ := X
  unfold px_hial at hf
  split at hf
  · rename_i a rest
    split at hf
    · rename_i n hk
      split at hf
      · rename_i l7 hk7
        cases hn : (px_ile 0 n && px_ilt n l7 && px_ilt n 6) with
        | false => rw [hn] at hf; cases hf
        | true =>
          rw [hn] at hf
          cases hf
          simp only [Bool.and_eq_true, px_ile_eq, px_ilt_eq, decide_eq_true_eq] at hn
          obtain ⟨e1, e2⟩ := px_know_ok hG hk
          obtain ⟨e3, e4⟩ := px_know_ok hG hk7
          obtain ⟨L, h1, h2, h3, h4⟩ := hW.2.2.2.2.2.2.2.2.2.1
          obtain ⟨scr, g1, g2, g3, g4, g5⟩ := h1
          have e4 : (E.1 7).toInt = l7 := e4
          obtain ⟨i1, i2⟩ := px_ix (N := L) hn.1.1 (by omega) _ e2
          have kk := k _ (List.mem_singleton.mpr rfl) H locs cells slots hP hG hL hc hs
          exact W.iald (v := .int (E.1 n.toNat)) hx hb (a := E.2.1 0) (by rw [px_low_ok hP h4]; exact g1) g2 g3 (by rw [g4]; exact i1) (by rw [i2]; exact g5 _ (by omega)) rfl rfl hd kk
      · cases hf
    · cases hf
  · rename_i a r rest
    refine px_aload_ok X' rfl hf hP hG hL hc hs (fun q j hq hok h3 i1 kk => ?_) k
    have hlt : j.toNatClampNeg < q.2.1 := Nat.not_le.mp fun w => i1 (Or.inr w)
    have ht : px_ty[q.1]? = some .int := by rw [Nat.eq_of_beq_eq_true hok]; rfl
    exact W.iald hx hb h3 ((hW.2.2.1 q.1 _ ht).1 _ _) (fun w => by cases w) (by rw [arrV_size]; exact i1) (arrV_read _ _ hlt) rfl rfl hd kk
  · cases hf
theorem px_lal_ok (X : px_Cx p e R s m meth c K E M d C0 S0) (hd : decode M.2.1.1 pc = .ok (.laload, 1)) (hf : px_hal (fun t => Nat.beq t 2) pc st h g = some S)
    (hP : px_HP px_cl K E h H) (hG : px_Gok E.1 g) (hL : ∀ y ∈ locs, E.2.2 ≤ y.base) (hc : C0 + cells = h.1) (hs : S0 + slots = h.2.1) (k : px_Go p l e R s m args below meth c Q K E C0 S0 ls S) :
    W p l e R s m args below meth c H locs cells slots Q (F0 m pc ls (st.map (px_v E))) := by
  have X' := X
  obtain ⟨hx, -, hb, -, -, -, hnm, hown, -, hW, hRc, hRs, -⟩ := X
  unfold px_hal at hf
  split at hf
  · rename_i a r rest
    refine px_aload_ok X' rfl hf hP hG hL hc hs (fun q j hq hok h3 i1 kk => ?_) k
    have hlt : j.toNatClampNeg < q.2.1 := Nat.not_le.mp fun w => i1 (Or.inr w)
    have ht : px_ty[q.1]? = some .long := by rw [Nat.eq_of_beq_eq_true hok]; rfl
    exact W.lald hx hb h3 ((hW.2.2.1 q.1 _ ht).1 _ _) (fun w => by cases w) (by rw [arrV_size]; exact i1) (arrV_read _ _ hlt) rfl rfl hd kk
  · cases hf
theorem px_ty_ref {t : Nat} (h : 4 ≤ t) (h1 : t < 11) : ∃ ty : FieldType, px_ty[t]? = some ty ∧ ty.isReference = true := by
  have : t = 4 ∨ t = 5 ∨ t = 6 ∨ t = 7 ∨ t = 8 ∨ t = 9 ∨ t = 10 := by omega
  rcases this with rfl | rfl | rfl | rfl | rfl | rfl | rfl <;> exact ⟨_, rfl, rfl⟩
theorem px_aal_ok (X : px_Cx p e R s m meth c K E M d C0 S0) (hd : decode M.2.1.1 pc = .ok (.aaload, 1)) (hf : px_hal (fun t => Nat.ble 4 t) pc st h g = some S)
    (hP : px_HP px_cl K E h H) (hG : px_Gok E.1 g) (hL : ∀ y ∈ locs, E.2.2 ≤ y.base) (hc : C0 + cells = h.1) (hs : S0 + slots = h.2.1) (k : px_Go p l e R s m args below meth c Q K E C0 S0 ls S) :
    W p l e R s m args below meth c H locs cells slots Q (F0 m pc ls (st.map (px_v E))) := by
  have X' := X
  obtain ⟨hx, -, hb, -, -, -, hnm, hown, -, hW, hRc, hRs, -⟩ := X
  unfold px_hal at hf
  split at hf
  · rename_i a r rest
    refine px_aload_ok X' rfl hf hP hG hL hc hs (fun q j hq hok h3 i1 kk => ?_) k
    have hlt : j.toNatClampNeg < q.2.1 := Nat.not_le.mp fun w => i1 (Or.inr w)
    obtain ⟨ty, ht, hr⟩ := px_ty_ref (Nat.ble_eq.mp hok) (px_arr_ok hP hq).2.2.1
    exact W.aald hx hb h3 ((hW.2.2.1 q.1 _ ht).1 _ _) hr (fun w => by cases w) (by rw [arrV_size]; exact i1) (arrV_read _ _ hlt) rfl rfl hd kk
  · cases hf
theorem px_td_ok {t : Nat} {k : Nat × Nat} (h : px_td[t]? = some k) : (k.2 < 13 → ∃ (C : String) (T : u_T) (N : Nat), px_cl[k.2]? = some (C, T, N) ∧ px_ty[t]? = some (.object C)) ∧ (k.2 = 99 → px_ty[t]? = some (.object "java/lang/String")) := by
  have hlt : t < 11 := (List.getElem?_eq_some_iff.mp h).1
  have : t = 0 ∨ t = 1 ∨ t = 2 ∨ t = 3 ∨ t = 4 ∨ t = 5 ∨ t = 6 ∨ t = 7 ∨ t = 8 ∨ t = 9 ∨ t = 10 := by omega
  rcases this with rfl | rfl | rfl | rfl | rfl | rfl | rfl | rfl | rfl | rfl | rfl <;>
    (cases h
     refine ⟨fun w => ?_, fun w => ?_⟩
     · first | exact ⟨_, _, _, rfl, rfl⟩ | exact absurd w (by decide)
     · first | rfl | exact absurd w (by decide))
theorem px_hst_ok (hC : px_allC) (X : px_Cx p e R s m meth c K E M d C0 S0) {i : Instr} {t : Nat} (hi : (i = .iastore ∧ t = 1) ∨ (i = .bastore ∧ t = 0) ∨ (i = .lastore ∧ t = 2) ∨ (i = .aastore ∧ t = 3)) (hd : decode M.2.1.1 pc = .ok (i, 1)) (hf : px_hst px_pg t pc st h g = some S)
    (hP : px_HP px_cl K E h H) (hG : px_Gok E.1 g) (hL : ∀ y ∈ locs, E.2.2 ≤ y.base) (hc : C0 + cells = h.1) (hs : S0 + slots = h.2.1) (k : px_Go p l e R s m args below meth c Q K E C0 S0 ls S) :
    W p l e R s m args below meth c H locs cells slots Q (F0 m pc ls (st.map (px_v E))) := by
  have X' := X
  obtain ⟨hx, -, hb, -, -, -, hnm, hown, -, hW, hRc, hRs, -⟩ := X
  unfold px_hst at hf
  split at hf
  · rename_i v a r rest
    split at hf
    · rename_i w
      have hi : i = .iastore := by rcases hi with h | h | h | h <;> first | exact h.1 | (exact absurd h.2 (by decide))
      subst hi
      refine px_astore_ok X' rfl hf hP hG hL hc hs (fun q j hq hok h3 i1 kk => ?_) k
      have ht : px_ty[q.1]? = some .int := by rw [Nat.eq_of_beq_eq_true hok]; rfl
      exact W.iast hx hb h3 ((hW.2.2.1 q.1 _ ht).1 _ _) (fun w => by cases w) (by rw [arrV_size]; exact i1) rfl rfl hd kk
    · rename_i w
      have hi : i = .bastore := by rcases hi with h | h | h | h <;> first | exact h.1 | (exact absurd h.2 (by decide))
      subst hi
      refine px_astore_ok X' rfl hf hP hG hL hc hs (fun q j hq hok h3 i1 kk => ?_) k
      have ht : px_ty[q.1]? = some .byte := by rw [Nat.eq_of_beq_eq_true hok]; rfl
      exact W.bast hx hb h3 ((hW.2.2.1 q.1 _ ht).1 _ _) (fun w => by cases w) (by rw [arrV_size]; exact i1) rfl rfl hd (fun H' f1 f2 f3 => kk H' (by rw [f1]; congr 2; show narrow .byte (.int (px_i E.1 w)) = .int (px_i E.1 (px_b1 _ w)); rw [px_b1_ok]; rfl) f2 f3)
    · rename_i w
      have hi : i = .lastore := by rcases hi with h | h | h | h <;> first | exact h.1 | (exact absurd h.2 (by decide))
      subst hi
      refine px_astore_ok X' rfl hf hP hG hL hc hs (fun q j hq hok h3 i1 kk => ?_) k
      have ht : px_ty[q.1]? = some .long := by rw [Nat.eq_of_beq_eq_true hok]; rfl
      exact W.last hx hb h3 ((hW.2.2.1 q.1 _ ht).1 _ _) (fun w => by cases w) (by rw [arrV_size]; exact i1) rfl rfl hd kk
    · rename_i w
      have hi : i = .aastore := by rcases hi with h | h | h | h <;> first | exact h.1 | (exact absurd h.2 (by decide))
      subst hi
      refine px_astore_ok X' rfl hf hP hG hL hc hs (fun q j hq hok h3 i1 kk => ?_) k
      have hlt : j.toNatClampNeg < q.2.1 := Nat.not_le.mp fun w => i1 (Or.inr w)
      have h0 : ¬ j < 0 := fun w => i1 (Or.inl w)
      have fin : ∀ (C : String) (cv : Cell) (cC : ClassId), px_ty[q.1]? = some (.object C) → s.vm.findClass C = some cC → H[px_ad E w]? = some cv → (∀ z, cv.vm ≠ .statics z) → cv.cls = cC → W p l e R s m args below meth c H locs cells slots Q (F0 m pc ls (.ref (px_ad E w) :: .int j :: .ref (px_ad E r) :: rest.map (px_v E))) := by
        intro C cv cC ht hfc hv hobj hcls
        obtain ⟨kA, comp, k1, k2, k3, -⟩ := (hW.2.2.1 q.1 _ ht).2
        have hcomp : comp = cC := Option.some.inj (k3.symm.trans hfc)
        subst hcomp
        obtain ⟨kc, hkc⟩ : ∃ kc, s.vm.classes[comp]? = some kc := Vm.classAt_of_findClass hfc
        refine W.aast hx hb h3 (fun z w => by cases w) (fun w => by cases w) k1 k2 rfl hkc ⟨h0, by rw [arrV_size]; exact hlt⟩ hv hobj (by rw [hcls]; exact hkc) (by rw [hcls]; exact va_asg _ _) rfl rfl hd kk
      unfold px_elem at hok
      split at hok
      · rename_i kd hkd
        rw [px_nth_eq] at hkd
        obtain ⟨t1, t2⟩ := px_td_ok hkd
        cases hb64 : Nat.ble 64 w with
        | true =>
          rw [hb64] at hok
          simp only [cond_true] at hok
          split at hok
          · rename_i o ho
            have hk2 := Nat.eq_of_beq_eq_true hok
            obtain ⟨o1, o2, r', g1, cell, q1, q2, q3, q4⟩ := px_obj_ok hP ho
            have hlt13 : kd.2 < 13 := by rw [hk2]; exact (List.getElem?_eq_some_iff.mp g1).1
            obtain ⟨C, T, N, b1, b2⟩ := t1 hlt13
            have hKn := hW.2.1.1 kd.2 _ b1
            exact fin C cell _ b2 hKn.2.1 q1 (fun z w => by rw [q3] at w; cases w) (by rw [q2, hk2])
          · cases hok
        | false =>
          rw [hb64] at hok
          simp only [cond_false, Bool.and_eq_true, Nat.ble_eq] at hok
          have h99 := Nat.eq_of_beq_eq_true hok.2
          have hw1 : w - 1 < 42 := by omega
          obtain ⟨-, cell, q1, q2, q3, q4⟩ := hW.2.2.2.2.2.1 (w - 1) _ (List.getElem?_eq_getElem (l := px_str) hw1)
          have e0 : px_ad E w = E.2.1 (w - 1 + 1) := by
            unfold px_ad
            rw [if_pos (by omega), Nat.sub_add_cancel (by omega)]
          have hlow : E.2.1 (w - 1 + 1) < E.2.2 := Nat.not_le.mp q4
          exact fin "java/lang/String" cell _ (t2 h99) q3 (by rw [e0, px_low_ok hP hlow]; exact q1) (fun z w => by rw [w] at q2; cases q2) rfl
      · cases hok
    · cases hf
  · cases hf
theorem px_ldc_ok (X : px_Cx p e R s m meth c K E M d C0 S0) (hM : px_okM M) {x : Nat} (hd : decode M.2.1.1 pc = .ok (.ldc x, 2)) (hf : px_hldc M x pc st h g = some S)
    (hP : px_HP px_cl K E h H) (hG : px_Gok E.1 g) (hL : ∀ y ∈ locs, E.2.2 ≤ y.base) (hc : C0 + cells = h.1) (hs : S0 + slots = h.2.1) (k : px_Go p l e R s m args below meth c Q K E C0 S0 ls S) :
    W p l e R s m args below meth c H locs cells slots Q (F0 m pc ls (st.map (px_v E))) := by
  obtain ⟨hx, -, hb, -, -, -, hnm, hown, -, hW, hRc, hRs, -⟩ := X
  unfold px_hldc at hf
  cases hq : px_lk M x with
  | none => rw [hq] at hf; cases hf
  | some q =>
    rw [hq] at hf
    have hl := hM.2 x q hq
    obtain ⟨tag, v, kf, c3⟩ := q
    cases ht : Nat.beq tag 11 with
    | true =>
      have := Nat.eq_of_beq_eq_true ht
      subst this
      simp only [ht, cond_true] at hf
      cases hf
      have kk := k _ (List.mem_singleton.mpr rfl) H locs cells slots hP hG hL hc hs
      exact lv_ldc hx hb hown (hW.1 _ hl args) hd kk
    | false =>
      cases ht2 : Nat.beq tag 12 with
      | false => simp only [ht, ht2, cond_false] at hf; cases hf
      | true =>
        have := Nat.eq_of_beq_eq_true ht2
        subst this
        simp only [ht, ht2, cond_true, cond_false] at hf
        cases hf
        obtain ⟨a1, a2, t, a3⟩ := hl
        have a1 : 1 ≤ v := a1
        have a2 : v < 64 := a2
        have a3 : px_str[v - 1]? = some (M.1.cls, x, t) := a3
        have kk := k _ (List.mem_singleton.mpr rfl) H locs cells slots hP hG hL hc hs
        have h9 := (hW.2.2.2.2.2.1 (v - 1) _ a3).1
        have e0 : px_ad E v = E.2.1 (v - 1 + 1) := by
          unfold px_ad
          rw [if_pos a2, Nat.sub_add_cancel a1]
        have kk : W p l e R s m args below meth c H locs cells slots Q (F0 m (pc + 2) ls (.ref (px_ad E v) :: st.map (px_v E))) := kk
        rw [e0] at kk
        exact va_ldcS hx hb hown h9 hd kk
theorem px_cat2_ok (E : px_E) (st : List px_V) : ((st.map (px_v E)).map fun v => v.category).sum = px_cat2 st := by
  induction st with
  | nil => rfl
  | cons v r ih =>
    have h1 := px_cat E v
    show (px_v E v).category + ((r.map (px_v E)).map fun v => v.category).sum = (bif px_lg v then 2 else 1) + px_cat2 r
    rw [ih]
    cases hv : px_lg v with
    | true => rw [hv] at h1; simp only [beq_iff_eq] at h1; rw [h1]; rfl
    | false => rw [px_cat1 hv]; rfl
theorem px_cat2_le (st : List px_V) : px_cat2 st ≤ 2 * st.length := by
  induction st with
  | nil => exact Nat.le_refl _
  | cons v r ih =>
    show (bif px_lg v then 2 else 1) + px_cat2 r ≤ 2 * (r.length + 1)
    cases px_lg v <;> simp only [cond_true, cond_false] <;> omega
theorem px_obj0_ok (X : px_Cx p e R s m meth c K E M d C0 S0) (hM : px_okM M) {x : Nat} (hsz : ls.size = M.2.1.2.1) (hd : decode M.2.1.1 pc = .ok (.invokespecial x, 3)) (hf : px_hobj M d x pc st h g = some S)
    (hP : px_HP px_cl K E h H) (hG : px_Gok E.1 g) (hL : ∀ y ∈ locs, E.2.2 ≤ y.base) (hc : C0 + cells = h.1) (hs : S0 + slots = h.2.1) (k : px_Go p l e R s m args below meth c Q K E C0 S0 ls S) :
    W p l e R s m args below meth c H locs cells slots Q (F0 m pc ls (st.map (px_v E))) := by
  obtain ⟨hx, -, hb, hml, -, -, hnm, hown, -, hW, hRc, hRs, hRf, hRl, -⟩ := X
  unfold px_hobj at hf
  split at hf
  · rename_i r rest
    cases hq : px_lk M x with
    | none => rw [hq] at hf; cases hf
    | some q =>
      rw [hq] at hf
      have hl := hM.2 x q hq
      obtain ⟨tag, v, kf, c3⟩ := q
      cases ht : (Nat.beq tag 6 && (Nat.blt 0 d && Nat.ble rest.length 20)) with
      | false => simp only [ht, cond_false] at hf; cases hf
      | true =>
        simp only [ht, cond_true] at hf
        cases hf
        simp only [Bool.and_eq_true, Nat.blt_eq, Nat.ble_eq] at ht
        have := Nat.eq_of_beq_eq_true ht.1
        subst this
        obtain ⟨a1, a2, a3⟩ := hl
        have kk := k _ (List.mem_singleton.mpr rfl) H locs cells slots hP hG hL hc hs
        refine W.objInit hx hb hown (hW.1 _ a1 args) (hW.1 _ a2 args) (hW.1 _ a3 args) rfl (hsz.trans hml.symm) rfl hd (by omega) ?_ kk
        show 2 * 0 + _ + 12 ≤ _
        rw [px_cat2_ok]
        have := px_cat2_le rest
        have : d * 100 ≥ 100 := Nat.mul_le_mul_right 100 ht.2.1
        omega
  · cases hf
theorem px_cpy_ok (X : px_Cx p e R s m meth c K E M d C0 S0) (hM : px_okM M) {x : Nat} (hsz : ls.size = M.2.1.2.1) (hd : decode M.2.1.1 pc = .ok (.invokestatic x, 3)) (hf : px_hcpy M d x pc st h g = some S)
    (hP : px_HP px_cl K E h H) (hG : px_Gok E.1 g) (hL : ∀ y ∈ locs, E.2.2 ≤ y.base) (hc : C0 + cells = h.1) (hs : S0 + slots = h.2.1) (k : px_Go p l e R s m args below meth c Q K E C0 S0 ls S) :
    W p l e R s m args below meth c H locs cells slots Q (F0 m pc ls (st.map (px_v E))) := by
  obtain ⟨hx, -, hb, hml, -, -, hnm, hown, -, hW, hRc, hRs, hRf, hRl, -⟩ := X
  unfold px_hcpy at hf
  split at hf
  · rename_i n dp r2 sp r1 rest
    cases hq : px_lk M x with
    | none => rw [hq] at hf; cases hf
    | some q =>
      rw [hq] at hf
      have hl := hM.2 x q hq
      obtain ⟨tag, v, kf, c3⟩ := q
      cases ht : (Nat.beq tag 13 && (Nat.blt 0 d && Nat.ble rest.length 20 && px_ieq n 0 && px_ieq dp 0 && px_ieq sp 0)) with
      | false => simp only [ht, cond_false] at hf; cases hf
      | true =>
        simp only [ht, cond_true] at hf
        simp only [Bool.and_eq_true, Nat.blt_eq, Nat.ble_eq, px_ieq_eq, decide_eq_true_eq] at ht
        obtain ⟨ht, ⟨⟨⟨hd0, hlen⟩, rfl⟩, rfl⟩, rfl⟩ := ht
        have := Nat.eq_of_beq_eq_true ht
        subst this
        obtain ⟨a1, a2, a3, a4⟩ := hl
        split at hf
        · rename_i c1 hc1
          split at hf
          · rename_i c2 hc2
            cases hz : (Nat.beq c1.1 1 && Nat.beq c2.1 1) with
            | false => rw [hz] at hf; cases hf
            | true =>
              rw [hz] at hf
              cases hf
              simp only [Bool.and_eq_true] at hz
              obtain ⟨u1, u2, -, u3⟩ := px_arr_ok hP hc1
              obtain ⟨w1, w2, -, w3⟩ := px_arr_ok hP hc2
              have t1 : px_ty[c1.1]? = some .int := by rw [Nat.eq_of_beq_eq_true hz.1]; rfl
              have t2 : px_ty[c2.1]? = some .int := by rw [Nat.eq_of_beq_eq_true hz.2]; rfl
              intro T hT X0
              obtain ⟨-, k0, hk0, cm0, hkk0⟩ := (hW.2.2.1 c1.1 _ t1).1 c1.2.1 (fun j => px_v E (px_at c1.2.2.1 j c1.2.2.2))
              obtain ⟨-, k1, hk1, cm1, hkk1⟩ := (hW.2.2.1 c2.1 _ t2).1 c2.2.1 (fun j => px_v E (px_at c2.2.2.1 j c2.2.2.2))
              have z0 : px_i E.1 (.inl 0) = 0 := rfl
              obtain ⟨vm', X', step⟩ := X0.arraycopy hx hown (hW.1 _ a1 args) (hW.1 _ a2 args) (hW.1 _ a3 args) (hW.1 _ a4 args) (src := px_ad E r1) (dst := px_ad E r2) (srcPos := 0) (destPos := 0) (n := 0) (by rw [hT]; exact u3) (by rw [hT]; exact w3)
                (fun _ h => by cases h) (fun _ h => by cases h) (fun h => by cases h) (fun h => by cases h) hk0 hk1 hkk0 hkk1 (by decide) (by decide) (by decide) (by decide)
                (by rw [arrV_size]; show ¬ ((0 : Int) + 0 > (c1.2.1 : Int)); omega) (by rw [arrV_size]; show ¬ ((0 : Int) + 0 > (c2.2.1 : Int)); omega)
                (fun vm₁ _ i hi => absurd hi (by show ¬ i < 0; omega))
                (g := F0 m pc ls ((.inl (.inl 0) :: .inl (.inl 0) :: .inr (.inr (some r2)) :: .inl (.inl 0) :: .inr (.inr (some r1)) :: rest : List px_V).map (px_v E))) rfl (hsz.trans hml.symm) (rest := rest.map (px_v E)) rfl (by rw [hb]; exact hd) (by omega)
                (by show 2 * 0 + _ + _ ≤ _
                    rw [px_cat2_ok]
                    have := px_cat2_le rest
                    have : d * 100 ≥ 100 := Nat.mul_le_mul_right 100 hd0
                    have : nativeFrameWords "java/lang/System" "arraycopy" 5 + 11 ≤ 50 := by decide
                    omega)
              have e1 : copied (arrV (K.2.1 c1.1) c1.2.1 (fun j => px_v E (px_at c1.2.2.1 j c1.2.2.2))) (arrV (K.2.1 c2.1) c2.2.1 (fun j => px_v E (px_at c2.2.2.1 j c2.2.2.2))) (0 : Int32) (0 : Int32) (0 : Int32) = arrV (K.2.1 c2.1) c2.2.1 (fun j => px_v E (px_at c2.2.2.1 j c2.2.2.2)) := by
                refine (va_copied (sp := 0) (dp := 0) (n := 0) (fun z : Value => z) (K.2.1 c1.1) (K.2.1 c2.1) (fun j => px_v E (px_at c1.2.2.1 j c1.2.2.2)) (fun j => px_v E (px_at c2.2.2.1 j c2.2.2.2)) (n0 := c1.2.1) (n1 := c2.2.1) (Nat.zero_le _)).trans ?_
                congr 1
              rw [e1] at X' step
              have hheap : ((T.setVm vm').setCell (px_ad E r2) (arrV (K.2.1 c2.1) c2.2.1 (fun j => px_v E (px_at c2.2.2.1 j c2.2.2.2)))).heap = H := by
                show T.heap.setIfInBounds _ _ = H
                rw [hT]
                apply Array.ext
                · simp
                · intro i h1 h2
                  rw [Array.getElem_setIfInBounds (by simpa using h2)]
                  split
                  · rename_i he
                    subst he
                    exact (Option.some.inj ((Array.getElem?_eq_getElem h2).symm.trans w3)).symm
                  · rfl
              obtain ⟨t, a1, b1⟩ := k _ (List.mem_singleton.mpr rfl) H _ cells slots hP hG (by
                intro y hy
                rcases List.mem_append.mp hy with hy | hy
                · exact hL y hy
                · obtain ⟨z, -, rfl⟩ := List.mem_map.mp hy
                  show E.2.2 ≤ px_ad E r2
                  rw [px_ad_new E w1]; omega) hc hs _ hheap X'
              exact ⟨t, step t a1, b1⟩
          · cases hf
        · cases hf
  · cases hf
end PxArr
end
section
/-! Soundness, part 5: how a method ends, how one goes into a callee and comes back. -/
def px_out (E : px_E) (r : Option px_V ⊕ Nat) (o : Outcome) : Prop := match r with
  | .inl v => o = .returned (v.map (px_v E))
  | .inr x => o = .threw (px_ad E x)
def px_Q (K : px_K) (E : px_E) (C0 S0 : Nat) (s : State) (below : List Frame) (lv : List px_F) : State → Prop := fun t => ∃ q ∈ lv, ∃ (o : Outcome) (L : List Loc) (k n : Nat),
  t.status = .running ∧ Ended t below o ∧ s.WarmedH t.vm ∧ s.sameButNew ({ t with vm := s.vm } : State) L k n ∧ (∀ y ∈ L, E.2.2 ≤ y.base) ∧ C0 + k = q.2.2.1 ∧ S0 + n = q.2.2.2.1 ∧ px_Gok E.1 q.1 ∧ px_HP px_cl K E q.2.2 t.heap ∧ px_out E q.2.1 o
theorem px_Q.mono {K : px_K} {E : px_E} {C0 S0 : Nat} {s : State} {below : List Frame} {lv lv' : List px_F} (h : ∀ q ∈ lv, q ∈ lv') {t : State} (hq : px_Q K E C0 S0 s below lv t) : px_Q K E C0 S0 s below lv' t := by
  obtain ⟨q, h1, h2⟩ := hq
  exact ⟨q, h q h1, h2⟩
theorem px_wk {tb : Tables} {e : Env} {f : Frame} {below : List Frame} {a b : State} (h : Steps tb e (f :: below) a b) : Steps tb e below a b := by
  obtain ⟨n, h1, h2⟩ := h
  exact ⟨n, h1, fun k hk => Within.weaken (mid := [f]) (h2 k hk)⟩
section PxEnds
variable {p : Program} {l : Launch} {e : Env} {R : Room} {s : State} {m : MethodId} {args : Array Value} {below : List Frame} {meth : Method} {c : Code} {H : Heap} {locs : List Loc} {cells slots : Nat} {Q Q' : State → Prop}
variable {K : px_K} {E : px_E} {M : px_M} {d C0 S0 pc : Nat} {ls : Array Slot} {h : px_H} {g : px_G} {st : List px_V}
theorem px_Wmono {g : JFrame} (hq : ∀ t, Q t → Q' t) (k : W p l e R s m args below meth c H locs cells slots Q g) : W p l e R s m args below meth c H locs cells slots Q' g := by
  intro T hT X
  obtain ⟨t, a, b⟩ := k T hT X
  exact ⟨t, a, hq t b⟩
theorem px_ofMQ {o : Outcome} {v : Option px_V} (ho : o = .returned (v.map (px_v E))) (hP : px_HP px_cl K E h H) (hG : px_Gok E.1 g) (hL : ∀ y ∈ locs, E.2.2 ≤ y.base) (hc : C0 + cells = h.1) (hs : S0 + slots = h.2.1) {free : Addr → Prop} (hfree : ∀ q, free q → E.2.2 ≤ q) {t : State}
    (hq : MQ below (fun _ _ o' t => t.heap = H ∧ o' = o) args s cells slots free t) : px_Q K E C0 S0 s below [(g, .inl v, h)] t := by
  obtain ⟨o', h1, h2, ⟨h3, h4⟩, L, ⟨-, h5, h6⟩, h7⟩ := hq
  subst h4
  exact ⟨_, List.mem_singleton.mpr rfl, o', L, cells, slots, h1, h2, h5, h6, fun y hy => hfree _ (h7 y hy), hc, hs, hG, by rw [h3]; exact hP, ho⟩
theorem px_ret_ok (X : px_Cx p e R s m meth c K E M d C0 S0) {i : Instr} (hd : decode M.2.1.1 pc = .ok (i, px_len i)) {f : Option FieldType → List px_V → Option (Option px_V)} (hi : px_retB i = some f) {v : Option px_V} (hf : f M.2.1.2.2.1 st = some v)
    (hP : px_HP px_cl K E h H) (hG : px_Gok E.1 g) (hL : ∀ y ∈ locs, E.2.2 ≤ y.base) (hc : C0 + cells = h.1) (hs : S0 + slots = h.2.1) :
    W p l e R s m args below meth c H locs cells slots (px_Q K E C0 S0 s below [(g, .inl v, h)]) (F0 m pc ls (st.map (px_v E))) := by
  obtain ⟨hx, -, hb, hml, hr, hlk, -⟩ := X
  cases i
  case return_ =>
    cases hi
    dsimp only at hf
    split at hf
    · split at hf
      · rename_i ht
        cases hf
        rw [ht] at hr
        exact px_Wmono (fun t ht => px_ofMQ (v := none) rfl hP hG hL hc hs (fun _ h => h) ht) (W.vret (Qc := fun _ _ o' t => t.heap = H ∧ o' = .returned none) (free := fun q => E.2.2 ≤ q) hx hb hr (fun t ht _ => ⟨ht, rfl⟩) hL hd hlk)
      · cases hf
    · cases hf
  case ireturn =>
    cases hi
    dsimp only at hf
    split at hf
    · rename_i a
      split at hf
      · rename_i ht
        cases hf
        rw [ht] at hr
        exact px_Wmono (fun t ht => px_ofMQ (v := some (.inl a)) rfl hP hG hL hc hs (fun _ h => h) ht) (W.iret (v := px_i E.1 a) (Qc := fun _ _ o' t => t.heap = H ∧ o' = .returned (some (.int (px_i E.1 a)))) (free := fun q => E.2.2 ≤ q) hx hb hr (fun t ht _ => ⟨ht, rfl⟩) hL hd hlk)
      · rename_i ht
        split at hf
        · rename_i n
          cases hn : (px_ieq n 0 || px_ieq n 1) with
          | false => rw [hn] at hf; cases hf
          | true =>
            rw [hn] at hf
            cases hf
            rw [ht] at hr
            have hb2 : narrow .boolean (.int (px_i E.1 (.inl n))) = .int (px_i E.1 (.inl n)) := (px_fit_ok (t := .boolean) (v := .inl (.inl n)) E (by show (decide (n = 0) || decide (n = 1)) = true; rw [← px_ieq_eq, ← px_ieq_eq]; exact hn)).1
            exact px_Wmono (fun t ht => px_ofMQ (v := some (.inl (.inl n))) rfl hP hG hL hc hs (fun _ h => h) ht) (W.zret (v := px_i E.1 (.inl n)) (ty := .boolean) (Qc := fun _ _ o' t => t.heap = H ∧ o' = .returned (some (.int (px_i E.1 (.inl n))))) (free := fun q => E.2.2 ≤ q) hx hb hr hb2 (fun t ht _ => ⟨ht, rfl⟩) hL hd hlk)
        · cases hf
      · cases hf
    · cases hf
  case lreturn =>
    cases hi
    dsimp only at hf
    split at hf
    · rename_i a
      split at hf
      · rename_i ht
        cases hf
        rw [ht] at hr
        exact px_Wmono (fun t ht => px_ofMQ (v := some (.inr (.inl a))) rfl hP hG hL hc hs (fun _ h => h) ht) (W.lret (v := px_l E.1 a) (Qc := fun _ _ o' t => t.heap = H ∧ o' = .returned (some (.long (px_l E.1 a)))) (free := fun q => E.2.2 ≤ q) hx hb hr (fun t ht _ => ⟨ht, rfl⟩) hL hd hlk)
      · cases hf
    · cases hf
  all_goals (exact absurd hi (by simp [px_retB]))
/-- into a callee: what its walk comes to, the caller's walk comes to -/
theorem px_enter {T : State} (X : Stand p l e R s m args below meth c T locs cells slots) {g : JFrame} (hg : g.method = m) (hsize : g.locals.size = c.maxLocals) {ig : Instr} (hdg : decode c.code g.pc = .ok (ig, 3))
    {mk : MethodId} {methk : Method} {ck : Code} (a : List Value) {R' : Room} (hmk : T.vm.method? mk = some methk) (hck : methk.code = some ck) (hlk : methk.locks = false) (hpk : T.plainMethod mk)
    (hframes : R'.frames + 1 ≤ R.frames) (hlocals : 2 * g.monitorRoom + (g.stack.map fun v => v.category).sum + (ck.maxLocals + 11) + R'.locals ≤ R.locals) (hcells : cells + R'.cells ≤ R.cells) (hslots : slots + R'.slots ≤ R.slots)
    (hW : W p l e R' (T.calling g mk a.toArray) mk a.toArray (.java g :: below) methk ck T.heap [] 0 0 Q (entryFrame mk a.toArray ck.maxLocals)) :
    ∃ t, Steps p.tables e below (doInvoke e (T.setTop g) [] mk a.toArray).1 t ∧ Q t := by
  obtain ⟨X2, hdo⟩ := X.into hg hsize hdg a.toArray hmk hck hlk hpk hframes hlocals hcells hslots
  obtain ⟨t, h1, h2⟩ := hW ((T.setTop g).pushFrame (.java (entryFrame mk a.toArray ck.maxLocals))) (by simp [State.pushFrame, State.setFrames, State.setTop, State.modifyTopJava]) X2
  exact ⟨t, by rw [hdo []]; exact px_wk h1, h2⟩
end PxEnds
end
section
/-! Soundness, part 6: the run is the machine's. -/
theorem px_alln_ok {α : Type} {f : α → Option (List px_F)} : ∀ {l : List α} {R : List px_F}, px_alln f l = some R → ∀ q ∈ l, ∃ R' : List px_F, f q = some R' ∧ ∀ z ∈ R', z ∈ R
  | [], R, h, q, hq => absurd hq List.not_mem_nil
  | [x], R, h, q, hq => by
    have h : f x = some R := h
    rw [List.mem_singleton.mp hq]
    exact ⟨R, h, fun _ hz => hz⟩
  | x :: y :: r, R, h, q, hq => by
    have h' : (match f x with
      | some a => (match px_alln f (y :: r) with
        | some b => some (a ++ b)
        | none => none)
      | none => none) = some R := h
    split at h'
    · rename_i a ha
      split at h'
      · rename_i b hb
        cases h'
        rcases List.mem_cons.mp hq with rfl | hq
        · exact ⟨a, ha, fun z hz => List.mem_append_left _ hz⟩
        · obtain ⟨R', h1, h2⟩ := px_alln_ok hb q hq
          exact ⟨R', h1, fun z hz => List.mem_append_right _ (h2 z hz)⟩
      · cases h'
    · cases h'
theorem px_argl_ok (E : px_E) : ∀ (as : List px_V) (j : Nat), lv_args j (as.map (px_v E)) = px_lc E (px_argl j as)
  | [], j => rfl
  | v :: r, j => by
    have h1 := px_cat E v
    show (j, px_v E v) :: lv_args (if (px_v E v).category = 2 then j + 2 else j + 1) (r.map (px_v E)) = (j, px_v E v) :: px_lc E (px_argl (j + (bif px_lg v then 2 else 1)) r)
    rw [← px_argl_ok E r]
    congr 2
    cases hv : px_lg v with
    | true => rw [hv] at h1; simp only [beq_iff_eq] at h1; rw [if_pos h1]; rfl
    | false => rw [px_cat1 hv]; rfl
theorem px_sl_len (E : px_E) (as : List px_V) : (lg_sl (as.map (px_v E))).length = px_cat2 as := by
  induction as with
  | nil => rfl
  | cons v r ih =>
    have h1 := px_cat E v
    show (lg_sl (px_v E v :: r.map (px_v E))).length = (bif px_lg v then 2 else 1) + px_cat2 r
    rw [← ih]
    unfold lg_sl
    rw [List.flatMap_cons, List.length_append]
    cases hv : px_lg v with
    | true => rw [hv] at h1; simp only [beq_iff_eq] at h1; rw [if_pos h1]; rfl
    | false => rw [px_cat1 hv]; rfl
theorem px_take_ok : ∀ {n : Nat} {st : List px_V} {w : List px_V × List px_V}, px_take n st = some w → st = w.1 ++ w.2 ∧ w.1.length = n
  | 0, st, w, h => by cases h; exact ⟨rfl, rfl⟩
  | n + 1, [], w, h => by cases h
  | n + 1, v :: r, w, h => by
    have h' : (match px_take n r with
      | some q => some (v :: q.1, q.2)
      | none => none) = some w := h
    split at h'
    · rename_i q hq
      cases h'
      obtain ⟨h1, h2⟩ := px_take_ok hq
      exact ⟨by rw [h1]; rfl, by show q.1.length + 1 = n + 1; rw [h2]⟩
    · cases h'
end
section
/-! Soundness, part 7: an exception that comes out of a callee, and the method's own handlers. -/
section PxCatch
theorem px_fh_yes {Q : Handler → Pre} {B : CtlPost} {e : Env} {d : Bool} {acts : List Action} {s : State} {f : JFrame} {a : Addr} {x : ExceptionTableEntry} {t : List ExceptionTableEntry} {c : ClassId} {cell : Cell} (hx : covers x f.pc = true) (h0 : x.catchType ≠ 0)
    (hl : s.vm.ClassLinks e.platform f.method.cls x.catchType c) (hcell : s.heap[a]? = some cell) (hobj : ∀ k, cell.vm ≠ .statics k)
    (hk : ∃ k, s.vm.classes[cell.cls]? = some k) (hc : ∃ k, s.vm.classes[c]? = some k) (hfit : s.vm.assignable cell.cls c = true) :
    wp (findHandler.go f a (x :: t)) Q B e d acts s ↔ Q (.found x.handlerPc) d acts (s.setVm (s.vm.noted f.method.cls x.catchType (.cls c))) := by
  simp only [covers] at hx
  obtain ⟨ha, ht⟩ := (resolveClass_links e.toSetting hl).op (op := VmOp.resolveClass f.method.cls x.catchType) rfl
  have hal : s.vm.Alike (s.vm.noted f.method.cls x.catchType (.cls c)) := (Vm.Alike.refl s.vm).noted _ _ _
  obtain ⟨k1, hk1⟩ := hk
  obtain ⟨k2, hk2⟩ := hc
  obtain ⟨k1', hk1', -⟩ := hal.2.2 _ _ hk1
  obtain ⟨k2', hk2', -⟩ := hal.2.2 _ _ hk2
  have hfit' : (s.vm.noted f.method.cls x.catchType (.cls c)).assignable cell.cls c = true := by rw [hal.assignable]; exact hfit
  simp [findHandler.go, hx, h0, ha, ht, hcell, hobj, hk1', hk2', hfit', VmOp.dirties, VmOp.acts]
theorem px_fh_no {Q : Handler → Pre} {B : CtlPost} {e : Env} {d : Bool} {acts : List Action} {s : State} {f : JFrame} {a : Addr} {x : ExceptionTableEntry} {t : List ExceptionTableEntry} {c : ClassId} {cell : Cell} (hx : covers x f.pc = true) (h0 : x.catchType ≠ 0)
    (hl : s.vm.ClassLinks e.platform f.method.cls x.catchType c) (hcell : s.heap[a]? = some cell) (hobj : ∀ k, cell.vm ≠ .statics k)
    (hk : ∃ k, s.vm.classes[cell.cls]? = some k) (hc : ∃ k, s.vm.classes[c]? = some k) (hno : s.vm.assignable cell.cls c = false) :
    wp (findHandler.go f a (x :: t)) Q B e d acts s ↔ wp (findHandler.go f a t) Q B e d acts (s.setVm (s.vm.noted f.method.cls x.catchType (.cls c))) := by
  simp only [covers] at hx
  obtain ⟨ha, ht⟩ := (resolveClass_links e.toSetting hl).op (op := VmOp.resolveClass f.method.cls x.catchType) rfl
  have hal : s.vm.Alike (s.vm.noted f.method.cls x.catchType (.cls c)) := (Vm.Alike.refl s.vm).noted _ _ _
  obtain ⟨k1, hk1⟩ := hk
  obtain ⟨k2, hk2⟩ := hc
  obtain ⟨k1', hk1', -⟩ := hal.2.2 _ _ hk1
  obtain ⟨k2', hk2', -⟩ := hal.2.2 _ _ hk2
  have hno' : (s.vm.noted f.method.cls x.catchType (.cls c)).assignable cell.cls c = false := by rw [hal.assignable]; exact hno
  simp [findHandler.go, hx, h0, ha, ht, hcell, hobj, hk1', hk2', hno', VmOp.dirties, VmOp.acts]
abbrev px_row (h : ExceptionTableEntry) : Nat × Nat × Nat × Nat := (h.startPc, h.endPc, h.handlerPc, h.catchType)
theorem px_covers {x : ExceptionTableEntry} {pc : Nat} : covers x pc = (Nat.ble (px_row x).1 pc && Nat.blt pc (px_row x).2.1) := by
  rw [Bool.eq_iff_iff]
  simp [covers, Nat.ble_eq, Nat.blt_eq]
theorem px_asn_ok {k j : Nat} (h : px_asn k j = true) : (k, j, false) ∈ px_asg := by
  simp only [px_asn, Bool.or_eq_true, Bool.and_eq_true] at h
  rcases h with ⟨h1, (h2 | h2) | h2⟩ | ⟨h1, h2⟩ <;> rw [Nat.eq_of_beq_eq_true h1, Nat.eq_of_beq_eq_true h2] <;> decide
theorem px_asy_ok {k : Nat} (h : k ≤ 3) : (k, k, true) ∈ px_asg := by
  have : k = 0 ∨ k = 1 ∨ k = 2 ∨ k = 3 := by omega
  rcases this with rfl | rfl | rfl | rfl <;> decide
/-- the search over the method's rows -/
theorem px_fh {e : Env} {s : State} {m : MethodId} {M : px_M} {K : px_K} {E : px_E} (hpl : e.platform.magicAccessors = ({} : Platform).magicAccessors) (hown : s.vm.findClass M.1.cls = some m.cls) (hW : px_Wd K E s) (hM : px_okM M) {f : JFrame} (hfm : f.method = m) {a : Addr} {cell : Cell} {k t : Nat}
    (hobj : ∀ z, cell.vm ≠ .statics z) (hcls : cell.cls = K.2.2.1 k) (hk0 : ∃ z, s.vm.classes[cell.cls]? = some z) :
    ∀ (es : List ExceptionTableEntry) (U : State), s.WarmedH U.vm → U.heap[a]? = some cell → px_catch M f.pc k (es.map px_row) = some (some t) →
      ∃ vm', s.WarmedH vm' ∧ ∀ (Q : Handler → Pre) (B : CtlPost) (d : Bool) (acts : List Action), wp (findHandler.go f a es) Q B e d acts U ↔ Q (.found t) d acts (U.setVm vm')
  | [], U, _, _, h => by cases h
  | x :: r, U, hU, hcell, h => by
    subst hfm
    have h' : (bif Nat.ble (px_row x).1 f.pc && Nat.blt f.pc (px_row x).2.1 then (match px_lk M x.catchType with
      | some w => bif Nat.beq w.1 9 then (bif Nat.beq w.2.1 k && Nat.ble k 3 then some (some x.handlerPc) else bif px_asn k w.2.1 then px_catch M f.pc k (r.map px_row) else none) else none
      | none => none) else px_catch M f.pc k (r.map px_row)) = some (some t) := h
    rw [← px_covers] at h'
    obtain ⟨k0, hk0⟩ := hk0
    obtain ⟨k0', hk0', -⟩ := hU.alike.2.2 _ _ hk0
    cases hc : covers x f.pc with
    | false =>
      rw [hc] at h'
      obtain ⟨vm', h1, h2⟩ := px_fh hpl hown hW hM rfl hobj hcls ⟨k0, hk0⟩ r U hU hcell h'
      exact ⟨vm', h1, fun Q B d acts => by rw [W.findHandler_go_skip hc]; exact h2 Q B d acts⟩
    | true =>
      rw [hc] at h'
      simp only [cond_true] at h'
      split at h'
      · rename_i w hw
        cases h9 : Nat.beq w.1 9 with
        | false => rw [h9] at h'; cases h'
        | true =>
          rw [h9] at h'
          simp only [cond_true] at h'
          have hl := hM.2 x.catchType w hw
          obtain ⟨tag, j, w3, w4⟩ := w
          have := Nat.eq_of_beq_eq_true h9
          subst this
          obtain ⟨h0, n, hn, hlink⟩ := hl
          have hn : px_ex[j]? = some n := hn
          obtain ⟨c', hc', hcl⟩ := Cond.classLink_spec hown (hW.1 _ hlink #[]) e.platform hpl
          have hcj : c' = K.2.2.1 j := Option.some.inj (hc'.symm.trans (hW.2.2.2.1 j n hn))
          obtain ⟨dk, _, _, kt, hd, _, _, _, _, hkt, _, hopen⟩ := hcl.here
          obtain ⟨kt', hkt', -⟩ := hU.alike.2.2 _ _ hkt
          have hnoted := hU.noted hd hopen (State.rightAt_cls hcl)
          cases hy : (Nat.beq j k && Nat.ble k 3) with
          | true =>
            simp only [hy, cond_true] at h'
            cases h'
            simp only [Bool.and_eq_true, Nat.ble_eq] at hy
            have hjk := Nat.eq_of_beq_eq_true hy.1
            have hfit : s.vm.assignable cell.cls c' = true := by rw [hcls, hcj, hjk]; exact hW.2.2.2.2.1 _ (px_asy_ok hy.2)
            exact ⟨_, hnoted, fun Q B d acts => px_fh_yes hc h0 (hU.classLinks hcl) hcell hobj ⟨k0', hk0'⟩ ⟨kt', hkt'⟩ (by rw [hU.alike.assignable]; exact hfit)⟩
          | false =>
            simp only [hy, cond_false] at h'
            cases hz : px_asn k j with
            | false => rw [hz] at h'; cases h'
            | true =>
              rw [hz] at h'
              have hno : s.vm.assignable cell.cls c' = false := by rw [hcls, hcj]; exact hW.2.2.2.2.1 _ (px_asn_ok hz)
              obtain ⟨vm', h1, h2⟩ := px_fh hpl hown hW hM rfl hobj hcls ⟨k0, hk0⟩ r (U.setVm (U.vm.noted f.method.cls x.catchType (.cls c'))) hnoted hcell h'
              exact ⟨vm', h1, fun Q B d acts => by
                rw [px_fh_no hc h0 (hU.classLinks hcl) hcell hobj ⟨k0', hk0'⟩ ⟨kt', hkt'⟩ (by rw [hU.alike.assignable]; exact hno)]
                exact h2 Q B d acts⟩
      · cases h'
variable {p : Program} {l : Launch} {e : Env} {R : Room} {s : State} {m : MethodId} {args : Array Value} {below : List Frame} {meth : Method} {c : Code} {T : State} {locs : List Loc} {cells slots : Nat}
/-- caught: the handler's pc, the exception alone on the stack -/
theorem px_caught (X : Stand p l e R s m args below meth c T locs cells slots) {M : px_M} {K : px_K} {E : px_E} (hown : s.vm.findClass M.1.cls = some m.cls) (hW : px_Wd K E s) (hM : px_okM M) (hrows : c.exceptionTable.toList.map px_row = M.2.1.2.2.2) {f : JFrame} (hfm : f.method = m) {a : Addr} {cell : Cell} {k t : Nat}
    (hcell : T.heap[a]? = some cell) (hobj : cell.vm.isStatics = false) (hcls : cell.cls = K.2.2.1 k) (hk0 : ∃ z, s.vm.classes[cell.cls]? = some z) (hcatch : px_catch M f.pc k M.2.1.2.2.2 = some (some t)) :
    ∃ vm', Stand p l e R s m args below meth c (T.setVm vm') locs cells slots ∧ ∀ target, Steps p.tables e below ((T.setVm vm').setTop { f with pc := t, stack := [.ref a] }) target → Steps p.tables e below ((T.setTop f).pushFrame (.throwing a)) target := by
  have hpl : e.platform.magicAccessors = ({} : Platform).magicAccessors := by rw [X.admits.platform]
  rw [← hrows] at hcatch
  subst hfm
  obtain ⟨vm', h1, h2⟩ := px_fh (e := e) hpl hown hW hM rfl (a := a) (cell := cell) (k := k) (t := t) (fun z w => by rw [w] at hobj; cases hobj) hcls hk0 c.exceptionTable.toList ((T.setTop f).pushFrame (.throwing a)) (by rw [Stand.throwing_vm]; exact X.warmed) (by rw [Stand.throwing_heap]; exact hcell) hcatch
  refine ⟨vm', X.noted h1, fun target hrest => ?_⟩
  have hfind : ∀ (Q : Handler → Pre) (B : CtlPost) (d : Bool) (acts : List Action), wp (findHandler f a) Q B e d acts ((T.setTop f).pushFrame (.throwing a)) ↔ Q (.found t) d acts (((T.setTop f).pushFrame (.throwing a)).setVm vm') := by
    intro Q B d acts
    rw [W.findHandler_eq (s := (T.setTop f).pushFrame (.throwing a)) (f := f) (meth := meth) (code := c) X.method' X.code]
    exact h2 Q B d acts
  have hstep : (stepThrowing e ((T.setTop f).pushFrame (.throwing a)) a (.java f :: T.frames.tail)).Is ((((T.setTop f).pushFrame (.throwing a)).setVm vm').setFrames (.java { f with pc := t, stack := [.ref a] } :: T.frames.tail)) [] := by
    simp only [stepThrowing, searchFrame, vmDo]
    generalize hr : Sem.go _ e false [] ((T.setTop f).pushFrame (.throwing a)) = res
    obtain ⟨as, rfl, ha⟩ := Sem.eq_ok_of hr (a := Handler.found t) (s' := ((T.setTop f).pushFrame (.throwing a)).setVm vm') (acts' := []) (by simp [hfind _ _ _ _])
    exact ⟨rfl, ha⟩
  obtain ⟨hgo, hw⟩ := X.here.throwing a (g := f)
  refine Steps.head hgo hw ?_
  rw [stepThread_throwing (frames_entered X.here.top _), hstep.1]
  obtain ⟨g₀, hg⟩ := Option.isSome_iff_exists.mp X.here.top
  obtain ⟨r, hr⟩ := State.topJava?_eq_some.mp hg
  have hr' : (T.setVm vm').frames = .java g₀ :: r := hr
  rw [State.setTop_of_frames _ hr'] at hrest
  have e1 : ∀ (u : State) (F G : List Frame), ((u.setFrames F).setVm vm').setFrames G = (u.setVm vm').setFrames G := fun u F G => by
    have h1 : (u.setFrames F).setVm vm' = (u.setVm vm').setFrames F := rfl
    rw [h1, State.setFrames_setFrames]
  rw [hr, List.tail_cons, State.pushFrame, e1, State.setTop_of_frames _ hr, e1]
  exact hrest
end PxCatch
end
section
/-! Soundness, part 8: an exception is made and thrown: new, dup, its constructor without arguments, athrow. -/
def px_chn : List String := ["java/lang/RuntimeException", "java/lang/Exception"]
/-- the words that the constructor of the exception called n stands on -/
def px_thA : List Cond := Bundle.throwableAtoms.filter (fun w => w.onTables)
theorem px_thA_or : ∀ x ∈ Bundle.throwableAtoms, x.onTables = true ∨ x = .laysStatic px_tN "UNASSIGNED_STACK" Bundle.steD ∨ x = .laysStatic px_tN "SUPPRESSED_SENTINEL" Bundle.listD := by decide +kernel
def px_thw (n : String) : List Cond := px_thA ++ Bundle.chain0Atoms n px_chn ++
  [.instantiable n 6, .selects n Bundle.tFill0 Bundle.tFill0, .selects n Bundle.tFill Bundle.tFill, .lays n px_tN "cause" "Ljava/lang/Throwable;", .lays n px_tN "stackTrace" Bundle.steD, .lays n px_tN "suppressedExceptions" Bundle.listD,
   .fieldLink px_tN 198 px_tN "backtrace" "Ljava/lang/Object;", .lays px_tN px_tN "backtrace" "Ljava/lang/Object;", .lays n px_tN "backtrace" "Ljava/lang/Object;"]
def px_allX : Prop := ∀ (k : Nat) (n : String), px_ex[k]? = some n → (∀ w ∈ px_thw n, px_in w) ∧ px_in (.initialized n) ∧ Bundle.fit n = true
theorem px_zref {C n d : String} {A : Nat → Prop} {s : State} {H : Heap} (h : va_Zq C n d A s H) : ∃ u : RefV, va_Z C n d u.v A s H := by
  rcases h with h | ⟨t, h⟩
  · exact ⟨⟨.null, rfl⟩, h⟩
  · exact ⟨⟨.ref t, rfl⟩, h⟩
section PxThrow
variable {p : Program} {l : Launch} {e : Env} {R : Room} {s : State} {m : MethodId} {args : Array Value} {below : List Frame} {meth : Method} {c : Code} {V : State} {locs : List Loc} {cells slots : Nat}
set_option maxHeartbeats 2000000 in
theorem px_ctor (X : Stand p l e R s m args below meth c V locs cells slots) (hexec : p.tables.exec = Jvm.exec) (htr : e.platform.stackTraces = false) {own cls : String} {ic : Nat}
    (hown : s.vm.findClass own = some m.cls) (hcls : Bundle.fit cls = true) (h : ∀ a ∈ px_thw cls, a.before args s = true) (hlk : (Cond.methodLink own ic (Bundle.init0 cls)).before args s = true)
    {A : Nat → Prop} (hZ1 : px_Zq px_tN "UNASSIGNED_STACK" Bundle.steD A s V.heap) (hZ2 : px_Zq px_tN "SUPPRESSED_SENTINEL" Bundle.listD A s V.heap)
    {a : Addr} {cX : ClassId} {kX : Class} (hfoundX : s.vm.findClass cls = some cX) (hkX : s.vm.classes[cX]? = some kX) (hcell : V.heap[a]? = some (freshCell cX kX)) (hA : A a)
    {g : JFrame} (hg : g.method = m) (hsize : g.locals.size = c.maxLocals) {rest : List Value} (hstack : g.stack = .ref a :: .ref a :: rest)
    (hd6 : decode c.code g.pc = .ok (.invokespecial ic, 3)) (hRframes : 5 < R.frames) (hRlocals : 2 * g.monitorRoom + ((Value.ref a :: rest).map fun v => v.category).sum + 80 ≤ R.locals) :
    ∃ (vm' : Vm) (ce : Cell) (is : List Nat), ce.cls = cX ∧ ce.vm = .none ∧ Stand p l e R s m args below meth c ((V.setVm vm').setCell a ce) (locs ++ is.map (fun i => ⟨a, i⟩)) cells slots ∧
      ∀ target, Steps p.tables e below (((V.setVm vm').setCell a ce).setTop { g with stack := .ref a :: rest, pc := g.pc + 3 }) target → Steps p.tables e below (V.setTop g) target := by
  have howns : e.platform.frameOwnsMonitors = true := by rw [X.admits.platform]
  have hfin : e.platform.finalization = false := by rw [X.admits.platform]
  have hpl : e.platform.magicAccessors = ({} : Platform).magicAccessors := by rw [X.admits.platform]
  have a' : ∀ x, x ∈ px_thw cls → x.holds args s none s [] = true := fun x hx => h x hx
  obtain ⟨T, Z, L', LZ, Y'⟩ := ThrowableC.of_atoms (args := args) (s := { s with heap := V.heap }) howns hfin hpl (fun x hx => by
    rcases px_thA_or x hx with h1 | rfl | rfl
    · exact (Cond.onTables_vm (A := args) (A' := args) (U := { s with heap := V.heap }) (U' := s) s.vm x h1).trans (h x (by simp [px_thw, px_thA, hx, h1]))
    · exact hZ1.2.at
    · exact hZ2.2.at)
  have L : T.Links e.platform s := { owns := L'.owns, noFinalization := L'.noFinalization, cls := L'.cls, name := L'.name, boot := L'.boot, notInterface := L'.notInterface, initialized := L'.initialized, statics := L'.statics, fillAt := L'.fillAt, fillCode := L'.fillCode, fillBytes := L'.fillBytes, fillLocals := L'.fillLocals, fillLocks := L'.fillLocks, fillStatic := L'.fillStatic, fillAbstract := L'.fillAbstract, fillReturns := L'.fillReturns, fillParams := L'.fillParams, fill0At := L'.fill0At, fill0Name := L'.fill0Name, fill0Desc := L'.fill0Desc, fill0Params := L'.fill0Params, fill0Static := L'.fill0Static, fill0Native := L'.fill0Native, fill0Code := L'.fill0Code, fill0Locks := L'.fill0Locks, fill0Abstract := L'.fill0Abstract, stackInstance := L'.stackInstance, stackNotFinal := L'.stackNotFinal, unassignedStatic := L'.unassignedStatic, objClass := L'.objClass, objClassName := L'.objClassName, objMethod := L'.objMethod, objName := L'.objName, objStatic := L'.objStatic, objAbstract := L'.objAbstract, objFound := L'.objFound, objParams := L'.objParams, objCode := L'.objCode, objBytes := L'.objBytes, objLocks := L'.objLocks, causeInstance := L'.causeInstance, causeNotFinal := L'.causeNotFinal, sentinelStatic := L'.sentinelStatic, suppInstance := L'.suppInstance, suppNotFinal := L'.suppNotFinal, msgInstance := L'.msgInstance, msgNotFinal := L'.msgNotFinal, stackApartSupp := L'.stackApartSupp, file := L'.file, mlink1 := L'.mlink1, mright1 := L'.mright1, pool1 := L'.pool1, mlink27 := L'.mlink27, mright27 := L'.mright27, pool27 := L'.pool27, mlink202 := L'.mlink202, mright202 := L'.mright202, pool202 := L'.pool202, link7 := L'.link7, right7 := L'.right7, at7 := L'.at7, link13 := L'.link13, right13 := L'.right13, at13 := L'.at13, link17 := L'.link17, right17 := L'.right17, at17 := L'.at17, link20 := L'.link20, right20 := L'.right20, at20 := L'.at20, link24 := L'.link24, right24 := L'.right24, at24 := L'.at24 }
  have y_cause : s.fieldFound? Bundle.tN "cause" "Ljava/lang/Throwable;" = some (T.cT, T.kT, T.i7, T.fCause) := Y'.cause
  have y_causeName : T.fCause.name = "cause" := Y'.causeName
  have y_causeType : T.fCause.type = .object Bundle.tN := Y'.causeType
  have y_fill : s.methodNamed? Bundle.tFill = some T.fill := Y'.fill
  have y_fill0 : s.methodNamed? Bundle.tFill0 = some T.fill0 := Y'.fill0
  have y_found : s.vm.findClass Bundle.tN = some T.cT := Y'.found
  have y_init0 : s.methodNamed? Bundle.tInit0 = some (Z.m T.toThrowableT) := Y'.init0
  have y_objLocals : T.codeObj.maxLocals = 1 := Y'.objLocals
  have y_sentinel : s.fieldFound? Bundle.tN "SUPPRESSED_SENTINEL" Bundle.listD = some (T.cT, T.kT, T.i20, T.fSentinel) := Y'.sentinel
  have y_stack : s.fieldFound? Bundle.tN "stackTrace" Bundle.steD = some (T.cT, T.kT, T.i17, T.fStack) := Y'.stack
  have y_stackName : T.fStack.name = "stackTrace" := Y'.stackName
  have y_stackType : T.fStack.type = .array (.object "java/lang/StackTraceElement") := Y'.stackType
  have y_supp : s.fieldFound? Bundle.tN "suppressedExceptions" Bundle.listD = some (T.cT, T.kT, T.i24, T.fSupp) := Y'.supp
  have y_suppName : T.fSupp.name = "suppressedExceptions" := Y'.suppName
  have y_suppType : T.fSupp.type = .object "java/util/List" := Y'.suppType
  have y_unassigned : s.fieldFound? Bundle.tN "UNASSIGNED_STACK" Bundle.steD = some (T.cT, T.kT, T.i13, T.fUnassigned) := Y'.unassigned
  obtain ⟨P1, Ps, hlen, L1, hL, hP1m, hlink1, hlink⟩ := Bundle.chain0 (args := args) hpl y_init0 px_chn cls hcls (by decide) (fun x hx => h x (by simp [px_thw, hx]))
  have hfound : s.vm.findClass cls = some P1.m.cls := findClass_of_methodNamed hP1m
  cases Option.some.inj (hfoundX.symm.trans hfound)
  obtain ⟨c1, kX', hc1, hk, hord, -, -, hn6⟩ := Cond.instantiable_spec (a' (.instantiable cls 6) (by simp [px_thw]))
  cases Option.some.inj (hc1.symm.trans hfound)
  cases Option.some.inj (hkX.symm.trans hk)
  have hsel0 : selectMethod e.platform s.vm P1.m.cls T.fill0 = .method T.fill0 := by
    obtain ⟨c2, r2, m2, q1, q2, q3, q4, -⟩ := Cond.selects_spec (a' (.selects cls Bundle.tFill0 Bundle.tFill0) (by simp [px_thw]))
    cases Option.some.inj (q1.symm.trans hfound)
    cases Option.some.inj (q2.symm.trans (State.methodFound?_of_named y_fill0 (by decide)))
    cases Option.some.inj (q3.symm.trans y_fill0)
    rw [Launch.admits_selectMethod X.admits]; exact q4
  have hselF : selectMethod e.platform s.vm P1.m.cls T.fill = .method T.fill := by
    obtain ⟨c2, r2, m2, q1, q2, q3, q4, -⟩ := Cond.selects_spec (a' (.selects cls Bundle.tFill Bundle.tFill) (by simp [px_thw]))
    cases Option.some.inj (q1.symm.trans hfound)
    cases Option.some.inj (q2.symm.trans (State.methodFound?_of_named y_fill (by decide)))
    cases Option.some.inj (q3.symm.trans y_fill)
    rw [Launch.admits_selectMethod X.admits]; exact q4
  obtain ⟨u0, cf1, kf1, fi1, f1, as1, cellS, z1, z2, z3, z4, z5, z6, z7, z8⟩ := px_zref hZ1.1
  obtain ⟨sen, cf2, kf2, fi2, f2, as2, cellS2, y1, y2, y3, y4, y5, y6, y7, y8⟩ := px_zref hZ2.1
  cases Option.some.inj (z1.symm.trans y_unassigned)
  cases Option.some.inj (y1.symm.trans y_sentinel)
  cases Option.some.inj (z4.symm.trans L.statics)
  cases Option.some.inj (y4.symm.trans L.statics)
  cases Option.some.inj (y5.symm.trans z5)
  obtain ⟨ci198, i198, fB, hk198, hg198, ha198, hsB, -, hnB, htB, hffB⟩ := Cond.ownField (t := .object "java/lang/Object") y_found L.cls (by decide +kernel) (a' (.fieldLink px_tN 198 px_tN "backtrace" "Ljava/lang/Object;") (by simp [px_thw])) (a' (.lays px_tN px_tN "backtrace" "Ljava/lang/Object;") (by simp [px_thw])) e.platform hpl
  have hknownS : cellS.vm ≠ .unknown := fun hu => by rw [hu] at z6; cases z6
  have hneS : T.aS ≠ a := fun w => z8 (by rw [w]; exact hA)
  obtain ⟨tyC, dC, hdC, hdnC⟩ := Cond.laysAt hfound hk y_cause (a' (.lays cls px_tN "cause" "Ljava/lang/Throwable;") (by simp [px_thw]))
  obtain ⟨tyS, dS, hdS, hdnS⟩ := Cond.laysAt hfound hk y_stack (a' (.lays cls px_tN "stackTrace" Bundle.steD) (by simp [px_thw]))
  obtain ⟨tyP, dP, hdP, hdnP⟩ := Cond.laysAt hfound hk y_supp (a' (.lays cls px_tN "suppressedExceptions" Bundle.listD) (by simp [px_thw]))
  obtain ⟨tyB, dB, hdB, hdnB⟩ := Cond.laysAt hfound hk hffB (a' (.lays cls px_tN "backtrace" "Ljava/lang/Object;") (by simp [px_thw]))
  have bC := Cond.laysApart hdB hdC hdnB hdnC (by rw [hnB, y_causeName]; decide)
  have bS := Cond.laysApart hdB hdS hdnB hdnS (by rw [hnB, y_stackName]; decide)
  have bP := Cond.laysApart hdB hdP hdnB hdnP (by rw [hnB, y_suppName]; decide)
  have hskip : SkipFacts T e.platform s (fun u => u) u0 ((preparedCellV T.toThrowableT (freshCell P1.m.cls kX) a u0 sen).withEntry V.cur) :=
    ⟨{ ci198 := ci198, i198 := i198, fBack := fB }, ⟨hk198, hg198, ha198, hsB⟩, by
      have := fresh_default (c := P1.m.cls) tyB
      rw [htB] at this
      simpa [preparedCellV, Cell.setSlot, Cell.withEntry, Array.getElem?_setIfInBounds, bC, bS, bP, bC.symm, bS.symm, bP.symm, defaultValue] using this, fun _ _ => rfl⟩
  obtain ⟨tm, methC, cdC, kC, vm₁, hnC, -, -, -, -, -, -, -, hW₁, st1⟩ := Steps.initCold (tb := p.tables) (e := e) (below := below) (s := s) (U := V) X.here hexec X.warmed hpl hown (t := Bundle.init0 cls) rfl rfl (Bundle.fit_spec hcls).2
    hlk (h (.instanceMethod (Bundle.init0 cls)) (by simp [px_thw, px_chn, Bundle.chain0Atoms, Bundle.passAtoms])) (bytes := Bundle.five) (maxL := 1) (h (.code (Bundle.init0 cls) Bundle.five 1 none) (by simp [px_thw, px_chn, Bundle.chain0Atoms, Bundle.passAtoms]))
    (f := g) hg (a := a) (rest := .ref a :: rest) hstack hd6
  cases Option.some.inj (hnC.symm.trans hP1m)
  have X₁ := X.noted hW₁
  have hps : Ps.length = 2 := hlen
  obtain ⟨vm₂, X₂, st2⟩ := X₁.ctorPlainOffV hexec (g := { g with stack := .ref a :: rest }) hg hsize T L Z LZ (P1 :: Ps)
    (fun P hP => by rcases List.mem_cons.mp hP with rfl | hP; exact L1; exact hL P hP) ⟨hlink1, hlink⟩ (u0 := u0) (sen := sen) (self := a) (cell := freshCell P1.m.cls kX) (cellS := cellS)
    hcell (fun _ => by simp) (by simp) rfl rfl hsel0 hselF z5 hneS hknownS z7 y7
    (Takes.of_laid hk hord tyC (by rw [y_causeType]; rfl)) (Takes.of_laid hk hord tyS (by rw [y_stackType]; exact fits_refV_array _ u0)) (Takes.of_laid hk hord tyP (by rw [y_suppType]; exact fits_refV_object _ sen)) y_objLocals hskip htr [] hd6
    (by simp only [List.length_cons, hps]; omega) (by simp only [List.length_cons, hps]; exact hRlocals)
  refine ⟨vm₂, _, [T.fCause.slot, T.fStack.slot, T.fSupp.slot, T.fStack.slot], ?_, ?_, X₂, fun target ht => st1 _ (fun acts => by rw [doInvoke_state]; exact st2 _ ht)⟩
  · rfl
  · rfl
theorem px_throw_inv {M : px_M} {pc k : Nat} {i : Instr} (h : px_throw M pc i = some k) : ∃ x y b c b' c' : Nat, i = .new x ∧ px_lk M x = some (9, k, b, c) ∧ px_code M (pc + 3) = some (.dup, 1) ∧ px_code M (pc + 4) = some (.invokespecial y, 3) ∧ px_code M (pc + 7) = some (.athrow, 1) ∧ px_lk M y = some (7, k, b', c') ∧ M.2.1.2.2.2 = [] := by
  unfold px_throw at h
  split at h
  · rename_i x
    split at h
    · rename_i q y h1 h2 h3 h4
      split at h
      · rename_i w h5
        cases hz : (Nat.beq q.1 9 && Nat.beq w.1 7 && Nat.beq q.2.1 w.2.1 && M.2.1.2.2.2.isEmpty) with
        | false => rw [hz] at h; cases h
        | true =>
          rw [hz] at h
          have hk : q.2.1 = k := Option.some.inj h
          simp only [Bool.and_eq_true] at hz
          obtain ⟨q1, q2, q3, q4⟩ := q
          obtain ⟨w1, w2, w3, w4⟩ := w
          have e1 : q1 = 9 := Nat.eq_of_beq_eq_true hz.1.1.1
          have e2 : w1 = 7 := Nat.eq_of_beq_eq_true hz.1.1.2
          have e3 : q2 = w2 := Nat.eq_of_beq_eq_true hz.1.2
          have hk : q2 = k := hk
          subst e1 e2 e3 hk
          exact ⟨x, y, q3, q4, w3, w4, rfl, h1, h2, h3, h4, h5, List.isEmpty_iff.mp hz.2⟩
      · cases h
    · cases h
  · cases h
theorem px_throw_ok (hXs : px_allX) {K : px_K} {E : px_E} {M : px_M} {d C0 S0 pc : Nat} {ls : Array Slot} {H : Heap} {h : px_H} {g : px_G} {st : List px_V} (X : px_Cx p e R s m meth c K E M d C0 S0) (hM : px_okM M) (hsz : ls.size = M.2.1.2.1) {k : Nat} {i : Instr} (hd : decode M.2.1.1 pc = .ok (i, px_len i)) (hi : px_throw M pc i = some k) (hroom : (px_room h 1 6 && Nat.ble 6 d && Nat.ble (px_cat2 st) 20) = true)
    (hP : px_HP px_cl K E h H) (hG : px_Gok E.1 g) (hL : ∀ y ∈ locs, E.2.2 ≤ y.base) (hc : C0 + cells = h.1) (hs : S0 + slots = h.2.1) :
    W p l e R s m args below meth c H locs cells slots (px_Q K E C0 S0 s below [(g, .inr h.1, px_push h 6 (.inr (.inr k)))]) (F0 m pc ls (st.map (px_v E))) := by
  obtain ⟨hx, htr, hb, hml, hr, hlk, hnm, hown, hrows, hW, hRc, hRs, hRf, hRl, hE⟩ := X
  obtain ⟨x, y, b1, b2, b3, b4, rfl, l1, d3, d4, d7, l2, hnoh⟩ := px_throw_inv hi
  have d3 := hM.1 _ _ d3
  have d4 := hM.1 _ _ d4
  have d7 := hM.1 _ _ d7
  obtain ⟨-, n, n1, n2⟩ := hM.2 x _ l1
  have n1 : px_ex[k]? = some n := n1
  obtain ⟨n', n1', n3⟩ := hM.2 y _ l2
  have n1' : px_ex[k]? = some n' := n1'
  cases n1.symm.trans n1'
  obtain ⟨w1, w2, w3⟩ := hXs k n n1
  simp only [Bool.and_eq_true, Nat.ble_eq] at hroom
  obtain ⟨⟨hroom, hd6⟩, hcat⟩ := hroom
  obtain ⟨r1, r2⟩ := px_room_ok hroom
  have hfc : s.vm.findClass n = some (K.2.2.1 k) := hW.2.2.2.1 k n n1
  refine W.newcK hx hb hown (hW.1 _ n2 args) (hW.1 _ (w1 (.instantiable n 6) (by simp [px_thw])) args) (hW.1 _ w2 args) rfl hd (by omega) (by omega) hfc rfl fun H1 kC hkC f1 f2 f3 => ?_
  refine lv_dup hx hb d3 rfl ?_
  intro T hT X0
  have hEH : E.2.2 ≤ H.size := by rw [hP.2.2.1]; omega
  have hkeep : ∀ z : Nat, z < K.2.2.2.size → ¬ px_A E z → T.heap[z]? = K.2.2.2[z]? := fun z hz hn => by
    have hlt : z < E.2.2 := Nat.not_le.mp hn
    rw [hT, f3 z (by omega)]
    exact hP.2.2.2.2 z hlt
  have hd100 : d * 100 ≥ 600 := Nat.mul_le_mul_right 100 hd6
  obtain ⟨vm', ce, is, c1, c2, X1, st1⟩ := px_ctor X0 hx htr hown w3 (fun w hw => hW.1 w (w1 w hw) args) (hW.1 _ n3 args) (hW.2.2.2.2.2.2.2.1.kept hkeep) (hW.2.2.2.2.2.2.2.2.1.kept hkeep) hfc hkC (a := H.size) (by rw [hT]; exact f1) hEH
    (g := F0 m (pc + 4) ls (.ref H.size :: .ref H.size :: st.map (px_v E))) rfl (hsz.trans hml.symm) rfl (by rw [hb]; exact d4) (by omega) (by
      show 2 * 0 + ((px_v E (.inr (.inr none))).category + ((st.map (px_v E)).map fun v => v.category).sum) + 80 ≤ _
      rw [px_cat2_ok]
      show 2 * 0 + (1 + _) + 80 ≤ _
      omega)
  have hnone : c.exceptionTable.toList = [] := by
    have h5 := hrows
    rw [hnoh] at h5
    exact List.map_eq_nil_iff.mp h5
  obtain ⟨hwalk, hrun, hended, hWU, hsame⟩ := X1.athrowLeaves hx (g := F0 m (pc + 7) ls (.ref H.size :: st.map (px_v E))) rfl rfl rfl (fun z hz => by rw [hnone] at hz; cases hz) (a := H.size) (rest := st.map (px_v E)) rfl (by rw [hb]; exact d7) hlk
  refine ⟨_, st1 _ hwalk, _, List.mem_singleton.mpr rfl, .threw H.size, _, cells + 1, slots + 6, hrun, hended, hWU, hsame, fun z hz => ?_, by rw [px_push_1]; omega, by rw [px_push_2]; omega, hG, ?_, ?_⟩
  · rcases List.mem_append.mp hz with hz | hz
    · exact hL z hz
    · obtain ⟨j, -, rfl⟩ := List.mem_map.mp hz
      exact hEH
  · have hlt : H.size < H1.size := by omega
    have hheap : (((T.setVm vm').setCell H.size ce).setFrames (.throwing H.size :: below)).heap = H1.setIfInBounds H.size ce := by rw [← hT]; rfl
    show px_HP px_cl K E (px_push h 6 (.inr (.inr k))) (((T.setVm vm').setCell H.size ce).setFrames (.throwing H.size :: below)).heap
    rw [hheap]
    refine (hP.push (H1 := H1.setIfInBounds H.size ce) (c := .inr (.inr k)) (by omega) 6 ⟨ce, by simp [Array.getElem?_setIfInBounds, hlt], c1, by rw [c2]; rfl⟩ (by rw [Array.size_setIfInBounds]; exact f2) (fun q hq => ?_)).1
    rw [Array.getElem?_setIfInBounds, if_neg (by omega)]
    exact f3 q hq
  · show Outcome.threw H.size = Outcome.threw (px_ad E h.1)
    rw [hP.2.2.1, px_ad_new E hP.1]
end PxThrow
end
section
/-! Soundness, part 9: a grid of ints is made: the outer array, then row by row a row and its place. -/
section PxGrid
variable {p : Program} {l : Launch} {e : Env} {R : Room} {s : State} {m : MethodId} {args : Array Value} {below : List Frame} {meth : Method} {c : Code} {H : Heap} {locs : List Loc} {cells slots : Nat} {Q : State → Prop}
variable {K : px_K} {E : px_E} {M : px_M} {d C0 S0 pc : Nat} {ls : Array Slot} {h : px_H} {g : px_G} {st : List px_V} {S : px_N}
/-- a row: an array of 2000 ints -/
theorem px_row_wp {e : Env} {U : State} {cI comp : ClassId} {kI : Class} (hk : U.vm.classes[cI]? = some kI) (hkind : kI.kind = .array comp .int) (hlimit : ¬ (2000 : Nat) > e.platform.arrayLengthLimit) (hheap : ¬ 2000 * componentBytes .int > e.platform.maxHeapBytes)
    (hcells : U.heap.size < e.platform.maxCells) (hslots : U.slotsUsed + 2000 ≤ e.platform.maxSlots) {Q : Addr → Pre} {B : CtlPost} {dd : Bool} {acts : List Action} (hq : ∀ acts', Q U.heap.size dd acts' (U.pushCell { cls := cI, slots := Array.replicate 2000 (.int 0) })) :
    wp (multianewarray.make cI [2000]) Q B e dd acts U := by
  have h0 : ¬ (2000 : Int32) < 0 := by decide
  have h1 : (2000 : Int32).toNatClampNeg = 2000 := by decide
  simp only [multianewarray.make, wp_bind', W.ite, h0, if_false, wp_pure', W.theClass, hk, Option.some.injEq, exists_eq_left', hkind, h1]
  exact W.newArray_of hk hkind hlimit hheap hcells hslots rfl hq
theorem px_gr_ok {cI : ClassId} (hcI : cI = K.2.1 1) (hW : px_Wd K E s) {f : Nat → PUnit → Sem (ForInStep PUnit)} {r : Nat} (hf : ∀ i u, f i u = (do let a ← multianewarray.make cI [2000]; Jvm.writeLoc (px_ad E r) i (.ref a); Pure.pure (ForInStep.yield PUnit.unit))) (fr : JFrame) :
    ∀ (is : List Nat) (ws : List (Nat × px_V)) (h : px_H) (T : State) (locs : List Loc) (cells slots : Nat), Stand p l e R s m args below meth c T locs cells slots → px_HP px_cl K E h T.heap → 64 ≤ r → r < h.1 → px_tg 10 h.2.2 r = .inl (10, 8, .inr (.inr none), ws) → (∀ i ∈ is, i < 8) →
      h.1 + is.length ≤ 1024 → cells + is.length ≤ R.cells → slots + 2000 * is.length ≤ R.slots →
      ∃ (T' : State) (locs' : List Loc), Stand p l e R s m args below meth c T' locs' (cells + is.length) (slots + 2000 * is.length) ∧ px_HP px_cl K E (px_gr r is ws h) T'.heap ∧ (∀ y ∈ locs', y ∈ locs ∨ y.base = px_ad E r) ∧
        ∀ (Q : PUnit → Pre) (B : CtlPost) (dd : Bool) (acts : List Action), (∀ d' acts', Q PUnit.unit d' acts' (T'.setTop fr)) → wp (forIn is PUnit.unit f) Q B e dd acts (T.setTop fr)
  | [], ws, h, T, locs, cells, slots, X, hP, _, _, _, _, _, _, _ => ⟨T, locs, X, hP, fun y hy => Or.inl hy, fun Q B dd acts hq => by simp only [List.forIn_nil, wp_pure']; exact hq dd acts⟩
  | i :: is, ws, h, T, locs, cells, slots, X, hP, r1, r2, hr, hi, hn, hRc, hRs => by
    have hlen : (i :: is).length = is.length + 1 := rfl
    rw [hlen] at hn hRc hRs
    have hb1 : cells + 1 ≤ R.cells := by omega
    have hb3 : cells + 1 + is.length ≤ R.cells := by omega
    have hb4 : slots + 2000 + 2000 * is.length ≤ R.slots := by omega
    have hb2 : slots + 2000 ≤ R.slots := Nat.le_trans (Nat.le_add_right (slots + 2000) (2000 * is.length)) hb4
    have hb5 : h.1 + 1 + is.length ≤ 1024 := by omega
    have hb6 : h.1 < 1024 := by omega
    have e1 : cells + (i :: is).length = cells + 1 + is.length := by rw [hlen]; omega
    have e2 : slots + 2000 * (i :: is).length = slots + 2000 + 2000 * is.length := by rw [hlen]; omega
    have hb7 : r < 1024 := by omega
    have hb8 : r < h.1 + 1 := by omega
    have ho := hP.2.2.2.1 r r1 r2
    rw [hr] at ho
    have ho : T.heap[px_ad E r]? = some (arrV (K.2.1 10) 8 (fun j => px_v E (px_at (.inr (.inr none)) j ws))) := ho
    obtain ⟨kA, hkA, hkindA⟩ := hW.2.2.2.2.2.2.1
    obtain ⟨-, kI, hkI, compI, hkindI⟩ := (hW.2.2.1 1 .int rfl).1 0 (fun _ => .null)
    have hkI : s.vm.classes[K.2.1 1]? = some kI := hkI
    have hal := X.warmed.alike
    obtain ⟨kA', hkA', heA⟩ := hal.2.2 _ _ hkA
    obtain ⟨kI', hkI', heI⟩ := hal.2.2 _ _ hkI
    have X1 := X.pushed { cls := cI, slots := Array.replicate 2000 (.int 0) }
    have hsz1 : (T.pushCell { cls := cI, slots := Array.replicate 2000 (.int 0) }).heap.size = T.heap.size + 1 := size_pushCell _ _
    have hold : ∀ q, q < T.heap.size → (T.pushCell { cls := cI, slots := Array.replicate 2000 (.int 0) }).heap[q]? = T.heap[q]? := fun q hq => by
      show (T.heap.push _)[q]? = _
      rw [Array.getElem?_push, if_neg (Nat.ne_of_lt hq)]
    have hnew : (T.pushCell { cls := cI, slots := Array.replicate 2000 (.int 0) }).heap[T.heap.size]? = some (arrV (K.2.1 1) 2000 (fun j => px_v E (px_at (.inl (.inl 0)) j []))) := by
      show (T.heap.push _)[T.heap.size]? = _
      rw [Array.getElem?_push_size, hcI]
      exact congrArg some (arrV_new (K.2.1 1) 2000 (.int 0))
    obtain ⟨hP1, hz⟩ := hP.push (c := .inl (1, 2000, .inl (.inl 0), [])) hb6 2000 hnew hsz1 hold
    have hlt : px_ad E r < T.heap.size := (Array.getElem?_eq_some_iff.mp ho).1
    have ho1 : (T.pushCell { cls := cI, slots := Array.replicate 2000 (.int 0) }).heap[px_ad E r]? = some (arrV (K.2.1 10) 8 (fun j => px_v E (px_at (.inr (.inr none)) j ws))) := (hold _ hlt).trans ho
    have hlt1 : px_ad E r < (T.pushCell { cls := cI, slots := Array.replicate 2000 (.int 0) }).heap.size := by rw [hsz1]; exact Nat.lt_succ_of_lt hlt
    have X2 := X1.stored ho1 i (.ref T.heap.size)
    have hP2 : px_HP px_cl K E (px_setc (px_push h 2000 (.inl (1, 2000, .inl (.inl 0), []))) r (.inl (10, 8, .inr (.inr none), (i, .inr (.inr (some h.1))) :: ws))) ((T.pushCell { cls := cI, slots := Array.replicate 2000 (.int 0) }).setCell (px_ad E r) ((arrV (K.2.1 10) 8 (fun j => px_v E (px_at (.inr (.inr none)) j ws))).setSlot i (.ref T.heap.size))).heap := by
      refine hP1.set r1 hb8 ?_ (size_setCell _ _ _) (fun q hq => heapAt_setCell_ne _ (Ne.symm hq))
      show _ = some (arrV (K.2.1 10) 8 (fun j => px_v E (px_at (.inr (.inr none)) j ((i, .inr (.inr (some h.1))) :: ws))))
      rw [heapAt_setCell_self _ hlt1, arrV_store]
      congr 2
      funext j
      rw [px_at_cons]
      unfold updV
      split
      · rw [hz]; rfl
      · rfl
    obtain ⟨T', locs', Y1, Y2, Y3, Y4⟩ := px_gr_ok hcI hW hf fr is ((i, .inr (.inr (some h.1))) :: ws) _ _ _ (cells + 1) (slots + 2000) (by simpa using X2) hP2 r1 hb8 (by
        show px_tg 10 (px_ts 10 _ r _) r = _
        rw [px_tg_ts 10 _ _ _ _ hb7 hb7, if_pos rfl]) (fun z hz => hi z (List.mem_cons_of_mem _ hz)) hb5 hb3 hb4
    refine ⟨T', locs', ?_, Y2, fun y hy => ?_, fun Q B dd acts hq => ?_⟩
    · rw [e1, e2]
      exact Y1
    · rcases Y3 y hy with hy | hy
      · rcases List.mem_append.mp hy with hy | hy
        · exact Or.inl hy
        · exact Or.inr (by rw [List.mem_singleton.mp hy])
      · exact Or.inr hy
    · obtain ⟨q1, q2⟩ := X.roomAbove (a := 1) (b := 2000) hb1 hb2
      simp only [List.forIn_cons, hf, wp_bind']
      refine px_row_wp (U := T.setTop fr) (by rw [hcI]; exact hkI') (by rw [heI]; exact hkindI) (by rw [Launch.admits_arrayLengthLimit X.admits]; decide) (by rw [Launch.admits_maxHeapBytes X.admits]; decide) q1 q2 (fun acts' => ?_)
      simp only [wp_bind', W.writeLoc, wp_pure']
      refine ⟨arrV (K.2.1 10) 8 (fun j => px_v E (px_at (.inr (.inr none)) j ws)), ho1, (fun w => by cases w), by rw [arrV_size]; exact hi i List.mem_cons_self, ?_, ?_⟩
      · show State.fitsSlot _ (K.2.1 10) .none i (.ref _) = true
        have : kA'.kind = .array (K.2.1 1) (.array .int) := by rw [heA]; exact hkindA
        simp [State.fitsSlot, State.slotType?, hkA', this, fits]
      · exact Y4 Q B _ _ hq
theorem px_mul_wp {e : Env} {U : State} {fr : JFrame} {x : Nat} {cA cI : ClassId} {kA : Class} {rest : List Value} (hs : U.topJava?.isSome) (hr : U.vm.classReady fr.method.cls x cA) (hk : U.vm.classes[cA]? = some kA) (hkind : kA.kind = .array cI (.array .int)) (hstack : fr.stack = .int 2000 :: .int 8 :: rest)
    (hlimit : ¬ (8 : Nat) > e.platform.arrayLengthLimit) (hheap : ¬ 8 * componentBytes (.array .int) > e.platform.maxHeapBytes) (hcells : U.heap.size < e.platform.maxCells) (hslots : U.slotsUsed + 8 ≤ e.platform.maxSlots) {Q : Unit → Pre} {B : CtlPost} {dd : Bool} {acts : List Action} {V : State} (hV : V.topJava?.isSome)
    (hloop : ∀ (f : Nat → PUnit → Sem (ForInStep PUnit)) (Q' : PUnit → Pre) (d' : Bool) (acts' : List Action), (∀ i u, f i u = (do let a ← multianewarray.make cI [2000]; Jvm.writeLoc U.heap.size i (.ref a); Pure.pure (ForInStep.yield PUnit.unit))) → (∀ d'' acts'', Q' PUnit.unit d'' acts'' (V.setTop { fr with stack := rest })) →
      wp (forIn [0, 1, 2, 3, 4, 5, 6, 7] PUnit.unit f) Q' B e d' acts' ((U.pushCell { cls := cA, slots := Array.replicate 8 .null }).setTop { fr with stack := rest }))
    (hq : ∀ d' acts', Q () d' acts' (V.setTop { fr with stack := .ref U.heap.size :: rest })) :
    wp (multianewarray.sem x 2) Q B e dd acts (U.setTop fr) := by
  have h0 : ¬ (8 : Int32) < 0 := by decide
  have h1 : (8 : Int32).toNatClampNeg = 8 := by decide
  have h2 : ((8 : Int32) == 0) = false := by decide
  simp only [multianewarray.sem, wp_bind', W.resolveClassAt_ready (State.method?_setTop fr hs) hr]
  simp [popN, hstack, State.topJava?_setTop' _ hs]
  unfold multianewarray.make
  simp only [wp_bind', W.ite, h0, if_false, wp_pure', W.theClass, State.vm_setTop, hk, Option.some.injEq, exists_eq_left', hkind, h1]
  refine W.newArray_of (s := U.setTop { fr with stack := rest }) hk hkind hlimit hheap hcells hslots rfl (fun acts' => ?_)
  rw [if_neg (by decide)]
  simp only [wp_bind']
  rw [Std.Legacy.Range.forIn_eq_forIn_range']
  refine hloop _ _ _ _ (fun _ _ => rfl) (fun d'' acts'' => ?_)
  simp [State.topJava?_setTop' _ hV]
  exact hq _ _
theorem px_gr_n (r : Nat) : ∀ (is : List Nat) (ws : List (Nat × px_V)) (h : px_H), (px_gr r is ws h).1 = h.1 + is.length ∧ (px_gr r is ws h).2.1 = h.2.1 + 2000 * is.length
  | [], ws, h => ⟨rfl, rfl⟩
  | i :: is, ws, h => by
    obtain ⟨h1, h2⟩ := px_gr_n r is ((i, .inr (.inr (some h.1))) :: ws) (px_setc (px_push h 2000 (.inl (1, 2000, .inl (.inl 0), []))) r (.inl (10, 8, .inr (.inr none), (i, .inr (.inr (some h.1))) :: ws)))
    have h1 : (px_gr r (i :: is) ws h).1 = h.1 + 1 + is.length := h1
    have h2 : (px_gr r (i :: is) ws h).2.1 = h.2.1 + 2000 + 2000 * is.length := h2
    have hlen : (i :: is).length = is.length + 1 := rfl
    rw [h1, h2, hlen]
    omega
theorem px_mul_cold {e : Env} {U : State} {fr : JFrame} {x cA : Nat} {vm' : Vm} (hs : U.topJava?.isSome) (hg : (Jvm.resolveClass fr.method.cls x).Gives e.toSetting U.vm (.ok cA) vm') (hr : vm'.classReady fr.method.cls x cA) {Q : Unit → Pre} {B : CtlPost} {dd : Bool} {acts : List Action}
    (hsz : vm'.classes.size ≤ U.vm.classes.size) : wp (multianewarray.sem x 2) Q B e dd acts (U.setTop fr) ↔ wp (multianewarray.sem x 2) Q B e dd acts ((U.setVm vm').setTop fr) := by
  simp only [multianewarray.sem, wp_bind']
  exact W.resolveClassAt_transfer (s := U.setTop fr) (State.method?_setTop fr hs) hg hr hsz
set_option maxRecDepth 100000 in
theorem px_mul_ok (X : px_Cx p e R s m meth c K E M d C0 S0) (hM : px_okM M) {x y : Nat} (hd : decode M.2.1.1 pc = .ok (.multianewarray x y, 4)) (hf : px_hmul M x y pc st h g = some S)
    (hP : px_HP px_cl K E h H) (hG : px_Gok E.1 g) (hL : ∀ y ∈ locs, E.2.2 ≤ y.base) (hc : C0 + cells = h.1) (hs : S0 + slots = h.2.1) (k : px_Go p l e R s m args below meth c Q K E C0 S0 ls S) :
    W p l e R s m args below meth c H locs cells slots Q (F0 m pc ls (st.map (px_v E))) := by
  obtain ⟨hx, -, hb, -, -, -, hnm, hown, -, hW, hRc, hRs, -⟩ := X
  unfold px_hmul at hf
  split at hf
  · rename_i kk n rest
    cases hq : px_lk M x with
    | none => rw [hq] at hf; cases hf
    | some q =>
      rw [hq] at hf
      have hl := hM.2 x q hq
      obtain ⟨tag, tn, kf, c3⟩ := q
      cases ht : (Nat.beq tag 14 && Nat.beq y 2 && (px_ieq n 8 && px_ieq kk 2000 && px_room h 9 16008)) with
      | false => simp only [ht, cond_false] at hf; cases hf
      | true =>
        simp only [ht, cond_true] at hf
        have hf : some [(pc + 4, .inr (.inr (some h.1)) :: rest, px_gr h.1 [0, 1, 2, 3, 4, 5, 6, 7] [] (px_push h 8 (.inl (10, 8, .inr (.inr none), []))), g)] = some S := hf
        cases hf
        simp only [Bool.and_eq_true, px_ieq_eq, decide_eq_true_eq] at ht
        obtain ⟨⟨t1, t2⟩, ⟨rfl, rfl⟩, hroom⟩ := ht
        have := Nat.eq_of_beq_eq_true t1
        subst this
        have := Nat.eq_of_beq_eq_true t2
        subst this
        obtain ⟨r1, r2⟩ := px_room_ok hroom
        obtain ⟨-, a1⟩ := hl
        have b1 : cells + 1 + 8 ≤ R.cells := by omega
        have b2 : slots + 8 + 16000 ≤ R.slots := by omega
        have b3 : h.1 < 1024 := by omega
        have b4 : h.1 + 1 + 8 ≤ 1024 := by omega
        have b5 : h.1 < h.1 + 1 := by omega
        have b6 : cells + 1 ≤ R.cells := by omega
        have b7 : slots + 8 ≤ R.slots := by omega
        have b8 : 64 ≤ h.1 := hP.1
        have b9 : C0 + (cells + 1 + 8) = h.1 + 1 + 8 := by omega
        have b10 : S0 + (slots + 8 + 16000) = h.2.1 + 8 + 16000 := by omega
        intro T hT X0
        have hpl : e.platform.magicAccessors = ({} : Platform).magicAccessors := by rw [X0.admits.platform]
        obtain ⟨c', hc', hcl⟩ := Cond.classLink_spec hown (hW.1 _ a1 args) e.platform hpl
        have hcA : c' = K.2.1 10 := Option.some.inj (hc'.symm.trans (hW.2.2.1 10 (.array .int) rfl).2)
        subst hcA
        obtain ⟨hg₁, hwarm₁, hready₁⟩ := State.classEntry (e := e) X0.warmed hcl
        have X₁ := X0.noted hwarm₁
        have hsz : (T.vm.noted m.cls x (.cls (K.2.1 10))).classes.size ≤ T.vm.classes.size := by no_record
        generalize T.vm.noted m.cls x (.cls (K.2.1 10)) = vm₁ at hg₁ hwarm₁ hready₁ X₁ hsz
        have X₂ := X₁.pushed { cls := K.2.1 10, slots := Array.replicate 8 .null }
        obtain ⟨kA, hkA, hkindA⟩ := hW.2.2.2.2.2.2.1
        obtain ⟨kA', hkA', heA⟩ := hwarm₁.alike.2.2 _ _ hkA
        have hnew : ((T.setVm vm₁).pushCell { cls := K.2.1 10, slots := Array.replicate 8 .null }).heap[H.size]? = some (arrV (K.2.1 10) 8 (fun j => px_v E (px_at (.inr (.inr none)) j []))) := by
          show (T.heap.push _)[H.size]? = _
          rw [hT, Array.getElem?_push_size]
          exact congrArg some (arrV_new (K.2.1 10) 8 .null)
        have hsz1 : ((T.setVm vm₁).pushCell { cls := K.2.1 10, slots := Array.replicate 8 .null }).heap.size = H.size + 1 := by rw [size_pushCell]; show T.heap.size + 1 = _; rw [hT]
        have hold : ∀ q, q < H.size → ((T.setVm vm₁).pushCell { cls := K.2.1 10, slots := Array.replicate 8 .null }).heap[q]? = H[q]? := fun q hq => by
          show (T.heap.push _)[q]? = _
          rw [hT, Array.getElem?_push, if_neg (Nat.ne_of_lt hq)]
        obtain ⟨hP1, hz⟩ := hP.push (c := .inl (10, 8, .inr (.inr none), [])) b3 8 hnew hsz1 hold
        obtain ⟨T', locs', Y1, Y2, Y3, Y4⟩ := px_gr_ok (cI := K.2.1 1) rfl hW (r := h.1) (f := fun i _ => (do let a ← multianewarray.make (K.2.1 1) [2000]; Jvm.writeLoc (px_ad E h.1) i (.ref a); Pure.pure (ForInStep.yield PUnit.unit))) (fun _ _ => rfl) (F0 m pc ls (rest.map (px_v E)))
          [0, 1, 2, 3, 4, 5, 6, 7] [] (px_push h 8 (.inl (10, 8, .inr (.inr none), []))) _ locs (cells + 1) (slots + 8) (by simpa using X₂) hP1 b8 b5 (by
            show px_tg 10 (px_ts 10 _ h.1 _) h.1 = _
            rw [px_tg_ts 10 _ _ _ _ b3 b3, if_pos rfl]) (by decide) b4 b1 b2
        obtain ⟨n1, n2⟩ := px_gr_n h.1 [0, 1, 2, 3, 4, 5, 6, 7] [] (px_push h 8 (.inl (10, 8, .inr (.inr none), [])))
        obtain ⟨t, s1, s2⟩ := k _ (List.mem_singleton.mpr rfl) T'.heap locs' (cells + 1 + 8) (slots + 8 + 16000) Y2 hG (fun z hz => by
          rcases Y3 z hz with hz | hz
          · exact hL z hz
          · rw [hz, px_ad_new E b8]; exact Nat.le_add_right _ _) (b9.trans n1.symm) (b10.trans n2.symm) T' rfl Y1
        refine ⟨t, ?_, s2⟩
        obtain ⟨q1, q2⟩ := X₁.roomAbove (a := 1) (b := 8) b6 b7
        have hTz : T.heap.size = px_ad E h.1 := by rw [hT]; exact hz
        jvm_step X0.here [hx, hb, hd]
        refine (px_mul_cold (fr := F0 m pc ls ((.inl (.inl 2000) :: .inl (.inl 8) :: rest : List px_V).map (px_v E))) X0.here.top hg₁ hready₁ hsz).mpr ?_
        refine px_mul_wp (U := T.setVm vm₁) (fr := F0 m pc ls ((.inl (.inl 2000) :: .inl (.inl 8) :: rest : List px_V).map (px_v E))) (V := T') (cI := K.2.1 1) (rest := rest.map (px_v E)) X0.here.top hready₁ hkA' (by rw [heA]; exact hkindA) rfl (by rw [Launch.admits_arrayLengthLimit X0.admits]; decide) (by rw [Launch.admits_maxHeapBytes X0.admits]; decide) q1 q2 Y1.here.top (fun f Q' d' acts' hf' hq' => ?_) (fun d' acts' => ?_)
        · have hff : f = fun i _ => (do let a ← multianewarray.make (K.2.1 1) [2000]; Jvm.writeLoc (px_ad E h.1) i (.ref a); Pure.pure (ForInStep.yield PUnit.unit)) := by
            funext i u
            rw [hf' i u]
            show (do let a ← multianewarray.make (K.2.1 1) [2000]; Jvm.writeLoc T.heap.size i (.ref a); Pure.pure (ForInStep.yield PUnit.unit)) = _
            rw [hTz]
          rw [hff]
          exact Y4 Q' _ d' acts' hq'
        · intro acts
          rw [afterInstr_ok]
          show Steps _ _ _ (T'.setTop { F0 m pc ls (rest.map (px_v E)) with pc := pc + 4, stack := .ref T.heap.size :: rest.map (px_v E) }) t
          rw [hTz]
          exact s1
  · cases hf
end PxGrid
end
section
/-! Soundness, part 10: calls. -/
/-- what the run says with n steps left, the machine does -/
def px_IH (n : Nat) : Prop := ∀ (d : Nat) (M : px_M) (pc : Nat) (L : List (Nat × px_V)) (st : List px_V) (h : px_H) (g : px_G) (lv : List px_F), px_x px_pg n d M pc L st h g = some lv → px_okM M →
  ∀ (p : Program) (l : Launch) (e : Env) (R : Room) (s : State) (m : MethodId) (args : Array Value) (below : List Frame) (meth : Method) (c : Code) (H : Heap) (locs : List Loc) (cells slots : Nat) (ls : Array Slot) (K : px_K) (E : px_E) (C0 S0 : Nat),
    px_Cx p e R s m meth c K E M d C0 S0 → lv_has ls M.2.1.2.1 (px_lc E L) → px_HP px_cl K E h H → px_Gok E.1 g → (∀ y ∈ locs, E.2.2 ≤ y.base) → C0 + cells = h.1 → S0 + slots = h.2.1 →
    W p l e R s m args below meth c H locs cells slots (px_Q K E C0 S0 s below lv) (F0 m pc ls (st.map (px_v E)))
def px_allM : Prop := ∀ (y : Nat) (M : px_M), px_ms[y]? = some M → px_okM M
section PxCalls
variable {p : Program} {l : Launch} {e : Env} {R : Room} {s : State} {m : MethodId} {args : Array Value} {below : List Frame} {meth : Method} {c : Code} {H : Heap} {locs : List Loc} {cells slots : Nat}
variable {K : px_K} {E : px_E} {M : px_M} {d C0 S0 pc : Nat} {ls : Array Slot} {h : px_H} {g : px_G} {st : List px_V}
/-- back from a callee: its end t, and on -/
theorem px_after {n : Nat} (hn : px_IH n) (X : px_Cx p e R s m meth c K E M d C0 S0) (hM : px_okM M) {L : List (Nat × px_V)} (hl : lv_has ls M.2.1.2.1 (px_lc E L)) {rest : List px_V} {ig : Instr} (hdg : decode M.2.1.1 pc = .ok (ig, 3))
    {T : State} (X1 : Stand p l e R s m args below meth c T locs cells slots) (hT : T.heap = H) (hL : ∀ y ∈ locs, E.2.2 ≤ y.base) (hc : C0 + cells = h.1) (hs : S0 + slots = h.2.1) {mk : MethodId} {a : Array Value} {q : px_F} {lv : List px_F} (hq : px_sK (px_x px_pg n) d M pc L rest q = some lv) {t : State} {o : Outcome} {L' : List Loc} {k nn : Nat}
    (hrun : t.status = .running) (hend : Ended t (.java (F0 m pc ls (rest.map (px_v E))) :: below) o) (hWm : (T.calling (F0 m pc ls (rest.map (px_v E))) mk a).WarmedH t.vm)
    (hsame : (T.calling (F0 m pc ls (rest.map (px_v E))) mk a).sameButNew ({ t with vm := (T.calling (F0 m pc ls (rest.map (px_v E))) mk a).vm } : State) L' k nn) (hL' : ∀ y ∈ L', E.2.2 ≤ y.base) (hk : h.1 + k = q.2.2.1) (hnn : h.2.1 + nn = q.2.2.2.1) (hG : px_Gok E.1 q.1) (hP : px_HP px_cl K E q.2.2 t.heap) (ho : px_out E q.2.1 o) :
    ∃ t', Steps p.tables e below t t' ∧ px_Q K E C0 S0 s below lv t' := by
  have Xc := X
  obtain ⟨hx, htr, hb, hml, hr, hlk, hnm, hown, hrows, hW, hRc, hRs, hRf, hRl, hE⟩ := X
  have hLL : ∀ y ∈ locs ++ L', E.2.2 ≤ y.base := fun y hy => (List.mem_append.mp hy).elim (hL y) (hL' y)
  obtain ⟨q1, q2, q3⟩ := q
  have hdg' : decode c.code pc = .ok (ig, 3) := by rw [hb]; exact hdg
  cases q2 with
  | inl v =>
    have ho : o = .returned (v.map (px_v E)) := ho
    subst ho
    obtain ⟨T', X2, -, -, ht⟩ := X1.outOf (g := F0 m pc ls (rest.map (px_v E))) rfl hdg' hend hWm hsame
    have hT' : T'.heap = t.heap := by rw [ht]; simp [State.setTop, State.modifyTopJava, State.setFrames]
    have key : ∀ w : List px_V, (v.map (px_v E)).toList ++ rest.map (px_v E) = w.map (px_v E) → px_x px_pg n d M (pc + 3) L w q3 q1 = some lv → ∃ t', Steps p.tables e below t t' ∧ px_Q K E C0 S0 s below lv t' := by
      intro w hw hx'
      obtain ⟨t', a1, b1⟩ := hn d M (pc + 3) L w q3 q1 lv hx' hM p l e R s m args below meth c t.heap (locs ++ L') (cells + k) (slots + nn) ls K E C0 S0 Xc hl hP hG hLL (by show C0 + (cells + k) = q3.1; have : h.1 + k = q3.1 := hk; omega) (by show S0 + (slots + nn) = q3.2.1; have : h.2.1 + nn = q3.2.1 := hnn; omega) T' hT' X2
      refine ⟨t', ?_, b1⟩
      rw [ht]
      rw [← hw] at a1
      exact a1
    cases v with
    | none => exact key rest rfl hq
    | some w => exact key (w :: rest) rfl hq
  | inr r =>
    have ho : o = .threw (px_ad E r) := ho
    subst ho
    obtain ⟨T', X2, -, -, ht⟩ := X1.outOfThrown (g := F0 m pc ls (rest.map (px_v E))) rfl hend hWm hsame
    have hT' : T'.heap = t.heap := by rw [ht, Stand.throwing_heap]
    have hq' : (match px_exc q3 r with
      | some k => (match px_catch M pc k M.2.1.2.2.2 with
        | some (some t) => px_x px_pg n d M t L [.inr (.inr (some r))] q3 q1
        | some none => bif M.2.1.2.2.2.isEmpty then some [(q1, .inr r, q3)] else none
        | none => none)
      | none => none) = some lv := hq
    split at hq'
    · rename_i kx hkx
      have hkx' := hkx
      obtain ⟨r1, r2, r3, cell, g1, g2, g3⟩ := px_exc_ok hP hkx
      split at hq'
      · rename_i tp htp
        obtain ⟨vm', X3, st3⟩ := px_caught X2 hown hW hM hrows (f := F0 m pc ls (rest.map (px_v E))) rfl (a := px_ad E r) (cell := cell) (k := kx) (t := tp) (by rw [hT']; exact g1) g3 g2 (by
          rw [g2]
          exact Vm.classAt_of_findClass (hW.2.2.2.1 kx _ (List.getElem?_eq_getElem (l := px_ex) r3))) htp
        obtain ⟨t', a1, b1⟩ := hn d M tp L [.inr (.inr (some r))] q3 q1 lv hq' hM p l e R s m args below meth c t.heap (locs ++ L') (cells + k) (slots + nn) ls K E C0 S0 Xc hl hP hG hLL (by show C0 + (cells + k) = q3.1; have : h.1 + k = q3.1 := hk; omega) (by show S0 + (slots + nn) = q3.2.1; have : h.2.1 + nn = q3.2.1 := hnn; omega) (T'.setVm vm') hT' X3
        exact ⟨t', by rw [ht]; exact st3 _ a1, b1⟩
      · cases hz : M.2.1.2.2.2.isEmpty with
        | false => rw [hz] at hq'; cases hq'
        | true =>
          rw [hz] at hq'
          cases hq'
          have hnone : c.exceptionTable.toList = [] := by
            have h5 := hrows
            rw [List.isEmpty_iff.mp hz] at h5
            exact List.map_eq_nil_iff.mp h5
          obtain ⟨hwalk, hrun', hended, hWU, hsame'⟩ := X2.leaveThrown (px_ad E r) (g := F0 m pc ls (rest.map (px_v E))) rfl rfl rfl (fun z hz => by rw [hnone] at hz; cases hz) hlk
          refine ⟨_, by rw [ht]; exact hwalk, _, List.mem_singleton.mpr rfl, _, _, cells + k, slots + nn, hrun', hended, hWU, hsame', hLL, by show C0 + (cells + k) = q3.1; have : h.1 + k = q3.1 := hk; omega, by show S0 + (slots + nn) = q3.2.1; have : h.2.1 + nn = q3.2.1 := hnn; omega, hG, ?_, rfl⟩
          show px_HP px_cl K E q3 T'.heap
          rw [hT']; exact hP
      · cases hq'
    · cases hq'
/-- what a callee's walk begins with -/
theorem px_begin {n : Nat} (hn : px_IH n) (hAll : px_allM) (X : px_Cx p e R s m meth c K E M (d + 1) C0 S0) {y : Nat} {M' : px_M} (hy : px_ms[y]? = some M') (hY : px_okY M') {rest as : List px_V} {ig : Instr} (hdg : decode M.2.1.1 pc = .ok (ig, 3)) (hsz : ls.size = M.2.1.2.1)
    {T : State} (X1 : Stand p l e R s m args below meth c T locs cells slots) (hT : T.heap = H) (hc : C0 + cells = h.1) (hs : S0 + slots = h.2.1) (hP : px_HP px_cl K E h H) (hG : px_Gok E.1 g) {mk : MethodId} (hmk : T.methodNamed? M'.1 = some mk)
    (hroom : px_cat2 rest + (M'.2.1.2.1 + 11) ≤ 100) (hargs : px_cat2 as ≤ M'.2.1.2.1) {lv : List px_F} (hx' : px_x px_pg n d M' 0 (px_argl 0 as) [] h g = some lv) (hsl : h.2.1 ≤ 7302232) :
    ∃ t, Steps p.tables e below (doInvoke e (T.setTop (F0 m pc ls (rest.map (px_v E)))) [] mk (as.map (px_v E)).toArray).1 t ∧ px_Q K E h.1 h.2.1 (T.calling (F0 m pc ls (rest.map (px_v E))) mk (as.map (px_v E)).toArray) (.java (F0 m pc ls (rest.map (px_v E))) :: below) lv t := by
  obtain ⟨hx, htr, hb, hml, hr, hlk, hnm, hown, hrows, hW, hRc, hRs, hRf, hRl, hE⟩ := X
  obtain ⟨hcode, hini, hplain, -⟩ := hY
  have hWT : px_Wd K E T := hW.warm X1.warmed
  have key : ∃ (methk : Method) (ck : Code), T.vm.method? mk = some methk ∧ methk.code = some ck ∧ ck.code = M'.2.1.1 ∧ ck.maxLocals = M'.2.1.2.1 ∧ ck.exceptionTable.toList.map px_row = M'.2.1.2.2.2 ∧ methk.sig.returnType = M'.2.1.2.2.1 ∧ methk.locks = false := by
    rcases hcode with ⟨h0, hcode⟩ | hcode
    · obtain ⟨methk, ck, a1, a2, a3, a4, a5, a6, a7, -⟩ := Cond.code_spec hmk (hWT.1 _ hcode #[])
      refine ⟨methk, ck, a1, a2, a3, a4, ?_, a5, a6⟩
      rw [h0, List.map_eq_nil_iff]
      exact Array.toList_eq_nil_iff.mpr (Array.isEmpty_iff.mp a7)
    · obtain ⟨mk', methk, ck, a0, a1, a2, a3, a4, a5, a6, a7, -⟩ := Cond.codeWith_spec (hWT.1 _ hcode #[])
      cases hmk.symm.trans a0
      exact ⟨methk, ck, a1, a2, a3, a4, a5, a6, a7⟩
  obtain ⟨methk, ck, a1, a2, a3, a4, a5, a6, a7⟩ := key
  have hEH : H.size = E.2.2 + (h.1 - 64) := hP.2.2.1
  have h1024 : h.1 ≤ 1024 := hP.2.1
  have hl0 : lv_has (lg_sl (as.map (px_v E)) ++ List.replicate (M'.2.1.2.1 - (lg_sl (as.map (px_v E))).length) Slot.unset).toArray M'.2.1.2.1 (px_lc E (px_argl 0 as)) := by
    rw [← px_argl_ok]
    exact lv_entry (as.map (px_v E)) (by rw [px_sl_len]; exact hargs)
  refine px_enter X1 (g := F0 m pc ls (rest.map (px_v E))) rfl (hsz.trans hml.symm) (ig := ig) (by rw [hb]; exact hdg) (as.map (px_v E)) (R' := { frames := d, cells := 1024 - h.1, slots := 7302232 - h.2.1, locals := d * 100 }) a1 a2 a7 (State.plainMethod.of_named hplain hmk a1) (by show d + 1 ≤ _; omega) ?_ (by show cells + (1024 - h.1) ≤ _; omega) (by show slots + (7302232 - h.2.1) ≤ _; omega) ?_
  · show 2 * 0 + ((rest.map (px_v E)).map fun v => v.category).sum + (ck.maxLocals + 11) + d * 100 ≤ R.locals
    rw [px_cat2_ok, a4]
    have : (d + 1) * 100 = d * 100 + 100 := Nat.succ_mul d 100
    omega
  · rw [a4, lg_entry_eq, hT]
    have hvm : (T.calling (F0 m pc ls (rest.map (px_v E))) mk (as.map (px_v E)).toArray).vm = T.vm := by simp [State.calling, State.pushFrame, State.setFrames, State.setTop, State.modifyTopJava]
    have hhp : (T.calling (F0 m pc ls (rest.map (px_v E))) mk (as.map (px_v E)).toArray).heap = T.heap := by simp [State.calling, State.pushFrame, State.setFrames, State.setTop, State.modifyTopJava]
    exact hn d M' 0 (px_argl 0 as) [] h g lv hx' (hAll y M' hy) p l e _ _ mk _ _ methk ck H [] 0 0 _ K E h.1 h.2.1
      ⟨hx, htr, a3, a4, a6, a7, (name_of_methodNamed hmk a1).1, by rw [hvm]; exact findClass_of_methodNamed hmk, a5, hW.warm (by rw [hvm]; exact X1.warmed), by show 1024 ≤ (1024 - h.1) + h.1; omega, by show 7302232 ≤ (7302232 - h.2.1) + h.2.1; omega, Nat.le_refl _, Nat.le_refl _, by rw [hhp, hT, hEH]; omega⟩
      hl0 hP hG (fun y hy => by cases hy) rfl rfl
end PxCalls
end
section
/-! Soundness, part 11: the three calls, and the theorem: what the run says, the machine does. -/
section PxSound
variable {p : Program} {l : Launch} {e : Env} {R : Room} {s : State} {m : MethodId} {args : Array Value} {below : List Frame} {meth : Method} {c : Code} {H : Heap} {locs : List Loc} {cells slots : Nat}
variable {K : px_K} {E : px_E} {M : px_M} {d C0 S0 pc : Nat} {ls : Array Slot} {h : px_H} {g : px_G} {st : List px_V}
theorem px_named {M' : px_M} (hY : px_okY M') {s : State} (ht : px_tb s) : ∃ (mk : MethodId) (methM : Method), s.methodNamed? M'.1 = some mk ∧ s.vm.method? mk = some methM ∧ parseMethodDescriptor M'.1.desc = some methM.sig := by
  rcases hY.1 with ⟨h0, hcode⟩ | hcode
  · obtain ⟨mk, hn⟩ := Cond.code_named (ht _ hcode #[])
    obtain ⟨methM, cM, h1, -, -, -, -, -, -, h2⟩ := Cond.code_spec hn (ht _ hcode #[])
    exact ⟨mk, methM, hn, h1, h2⟩
  · obtain ⟨mk, methM, cM, hn, h1, -, -, -, -, -, -, h2⟩ := Cond.codeWith_spec (ht _ hcode #[])
    exact ⟨mk, methM, hn, h1, h2⟩
theorem px_nargs {M' : px_M} {n : Nat} (hN : px_okN M' n) {sig : MethodDescriptor} (h : parseMethodDescriptor M'.1.desc = some sig) : n = sig.parameters.length := by
  unfold px_okN at hN
  rw [h] at hN
  exact (Option.some.inj hN).symm
/-- from the call's own step on -/
theorem px_goes {n : Nat} (hn : px_IH n) (hAll : px_allM) (X : px_Cx p e R s m meth c K E M d C0 S0) (hM : px_okM M) {L : List (Nat × px_V)} (hl : lv_has ls M.2.1.2.1 (px_lc E L)) {ig : Instr} (hdg : decode M.2.1.1 pc = .ok (ig, 3)) {y : Nat} {M' : px_M} (hy : px_ms[y]? = some M') (hY : px_okY M') {as rest : List px_V} {lv : List px_F}
    (hf : px_sC px_pg (px_x px_pg n) d M pc L h g (some (y, as, rest)) = some lv) (hP : px_HP px_cl K E h H) (hG : px_Gok E.1 g) (hL : ∀ y ∈ locs, E.2.2 ≤ y.base) (hc : C0 + cells = h.1) (hs : S0 + slots = h.2.1)
    {T : State} (X1 : Stand p l e R s m args below meth c T locs cells slots) (hT : T.heap = H) {mk : MethodId} (hmk : s.methodNamed? M'.1 = some mk) :
    ∃ t, Steps p.tables e below (doInvoke e (T.setTop (F0 m pc ls (rest.map (px_v E)))) [] mk (as.map (px_v E)).toArray).1 t ∧ px_Q K E C0 S0 s below lv t := by
  have hf' : (match px_nth px_ms y with
    | some M' => bif (Nat.blt 0 d && Nat.ble h.2.1 7302232) && Nat.ble (Nat.add (px_cat2 rest) (Nat.add M'.2.1.2.1 11)) 100 && Nat.ble (px_cat2 as) M'.2.1.2.1 then (match px_x px_pg n (Nat.pred d) M' 0 (px_argl 0 as) [] h g with
      | some ls => px_alln (px_sK (px_x px_pg n) d M pc L rest) ls
      | none => none) else none
    | none => none) = some lv := hf
  rw [px_nth_eq, hy] at hf'
  cases hz : ((Nat.blt 0 d && Nat.ble h.2.1 7302232) && Nat.ble (Nat.add (px_cat2 rest) (Nat.add M'.2.1.2.1 11)) 100 && Nat.ble (px_cat2 as) M'.2.1.2.1) with
  | false => simp only [hz, cond_false] at hf'; cases hf'
  | true =>
    simp only [hz, cond_true] at hf'
    simp only [Bool.and_eq_true, Nat.blt_eq, Nat.ble_eq] at hz
    obtain ⟨⟨⟨hd0, hsl⟩, hroom⟩, hargs⟩ := hz
    split at hf'
    · rename_i lv' hlv'
      obtain ⟨d', rfl⟩ : ∃ d', d = d' + 1 := ⟨d - 1, by omega⟩
      obtain ⟨t, h1, q, hq, o, L', k, nn, b1, b2, b3, b4, b5, b6, b7, b8, b9, b10⟩ := px_begin hn hAll X hy hY (rest := rest) (as := as) hdg hl.1 X1 hT hc hs hP hG (X1.named hmk) hroom hargs hlv' hsl
      obtain ⟨lq, hlq, hsub⟩ := px_alln_ok hf' q hq
      obtain ⟨t', h2, h3⟩ := px_after hn X hM hl hdg X1 hT hL hc hs hlq b1 b2 b3 b4 b5 b6 b7 b8 b9 b10
      exact ⟨t', h1.trans h2, h3.mono hsub⟩
    · cases hf'
theorem px_call_ok {n : Nat} (hn : px_IH n) (hAll : px_allM) (X : px_Cx p e R s m meth c K E M d C0 S0) (hM : px_okM M) {L : List (Nat × px_V)} (hl : lv_has ls M.2.1.2.1 (px_lc E L)) {i : Instr} (hd : decode M.2.1.1 pc = .ok (i, 3)) {f : px_M → List px_V → px_H → Option (Nat × List px_V × List px_V)} (hi : px_callB i = some f) {lv : List px_F}
    (hf : px_sC px_pg (px_x px_pg n) d M pc L h g (f M st h) = some lv) (hP : px_HP px_cl K E h H) (hG : px_Gok E.1 g) (hL : ∀ y ∈ locs, E.2.2 ≤ y.base) (hc : C0 + cells = h.1) (hs : S0 + slots = h.2.1) :
    W p l e R s m args below meth c H locs cells slots (px_Q K E C0 S0 s below lv) (F0 m pc ls (st.map (px_v E))) := by
  have Xc := X
  obtain ⟨hx, htr, hb, hml, hr, hlk, hnm, hown, hrows, hW, hRc, hRs, hRf, hRl, hE⟩ := X
  cases i
  case invokestatic x =>
    cases hi
    dsimp only at hf
    cases hcs : px_cS x M st with
    | none => rw [hcs] at hf; cases hf
    | some v =>
      rw [hcs] at hf
      unfold px_cS at hcs
      cases hq : px_lk M x with
      | none => rw [hq] at hcs; cases hcs
      | some q =>
        rw [hq] at hcs
        have hl2 := hM.2 x q hq
        obtain ⟨tag, y, na, c3⟩ := q
        cases ht : Nat.beq tag 2 with
        | false => simp only [ht, cond_false] at hcs; cases hcs
        | true =>
          have := Nat.eq_of_beq_eq_true ht
          subst this
          simp only [ht, cond_true] at hcs
          split at hcs
          · rename_i w hw
            cases hcs
            obtain ⟨e1, e2⟩ := px_take_ok hw
            obtain ⟨M', hy, hY, hN, w1, w2⟩ := hl2
            have hy : px_ms[y]? = some M' := hy
            have hN : px_okN M' na := hN
            obtain ⟨mk, methM, n1, n2, n3⟩ := px_named hY hW.1
            intro T hT X0
            have hstatic : methM.isStatic = true := Cond.static_spec n1 n2 (hW.1 _ w2 #[])
            obtain ⟨kP, hkP, -⟩ := className_of_methodNamed n1
            have hinitP : kP.init = .initialized := Cond.initialized_spec (findClass_of_methodNamed n1) hkP (hW.1 _ hY.2.1 #[])
            obtain ⟨vm₁, X₁, hstep₁⟩ := X0.invokestatic hx hown (hW.1 _ w1 args) n1 n2 hstatic hkP hinitP hY.2.2.2 (g := F0 m pc ls (st.map (px_v E))) rfl (argsL := w.1.reverse.map (px_v E)) (rest := w.2.map (px_v E)) (by rw [List.length_map, List.length_reverse, e2]; exact px_nargs hN n3) (by show st.map (px_v E) = _; rw [e1, List.map_append, List.map_reverse, List.reverse_reverse]) (by rw [hb]; exact hd)
            obtain ⟨t, h1, h2⟩ := px_goes hn hAll Xc hM hl hd hy hY hf hP hG hL hc hs X₁ hT n1
            exact ⟨t, hstep₁ _ fun acts => by rw [doInvoke_state]; exact h1, h2⟩
          · cases hcs
  case invokevirtual x =>
    cases hi
    dsimp only at hf
    cases hcs : px_cV x M st h with
    | none => rw [hcs] at hf; cases hf
    | some v =>
      rw [hcs] at hf
      unfold px_cV at hcs
      cases hq : px_lk M x with
      | none => rw [hq] at hcs; cases hcs
      | some q =>
        rw [hq] at hcs
        have hl2 := hM.2 x q hq
        obtain ⟨tag, y, na, ci⟩ := q
        cases ht : Nat.beq tag 3 with
        | false => simp only [ht, cond_false] at hcs; cases hcs
        | true =>
          have := Nat.eq_of_beq_eq_true ht
          subst this
          simp only [ht, cond_true] at hcs
          split at hcs
          · rename_i w hw
            split at hcs
            · rename_i r rest hw2
              split at hcs
              · rename_i o ho
                cases hz : Nat.beq o.1 ci with
                | false => rw [hz] at hcs; cases hcs
                | true =>
                  rw [hz] at hcs
                  have hoc := Nat.eq_of_beq_eq_true hz
                  cases hcs
                  obtain ⟨e1, e2⟩ := px_take_ok hw
                  rw [hw2] at e1
                  obtain ⟨M', T0, N0, hy, hY, hN, a0, w1, w2, w3⟩ := hl2
                  have hy : px_ms[y]? = some M' := hy
                  have hN : px_okN M' na := hN
                  have a0 : px_cl[ci]? = some (M'.1.cls, T0, N0) := a0
                  obtain ⟨o1, o2, r', g1, cell, q1, q2, q3, q4⟩ := px_obj_ok hP ho
                  intro T hT X0
                  obtain ⟨mk, methM, hnamed, hmethM, hstM, habM⟩ := Cond.instanceMethod_spec (args := #[]) (first := s) (o := none) (idx := []) (hW.1 _ w2 #[])
                  obtain ⟨mk', methM', n1, n2, n3⟩ := px_named hY hW.1
                  cases hnamed.symm.trans n1
                  cases hmethM.symm.trans n2
                  obtain ⟨c2, r2, m2, p1, p2, p3, p4, kP, hkP, hkPi⟩ := Cond.selects_spec (args := #[]) (first := s) (o := none) (idx := []) (hW.1 _ w3 #[])
                  have hfc := (hW.2.1.1 ci _ a0).2.1
                  have hcls : cell.cls = c2 := by rw [q2, hoc]; exact Option.some.inj (hfc.symm.trans p1)
                  cases (State.methodFound?_of_named hnamed hY.2.2.2).symm.trans p2
                  cases hnamed.symm.trans p3
                  have hselP : selectMethod e.platform s.vm cell.cls mk = .method mk := by rw [Launch.admits_selectMethod X0.admits, hcls]; exact p4
                  obtain ⟨vm₁, X₁, hstep₁⟩ := X0.invokevirtual hx hown (hW.1 _ w1 args) hnamed hmethM hstM hkP hkPi hY.2.2.2 (a := px_ad E r) (cell := cell) (by rw [hT]; exact q1)
                    (fun z hz => by rw [q3] at hz; cases hz) hselP hmethM habM hkP hkPi (g := F0 m pc ls (st.map (px_v E))) rfl (argsL := w.1.reverse.map (px_v E)) (rest := rest.map (px_v E)) (by rw [List.length_map, List.length_reverse, e2]; exact px_nargs hN n3) (by show st.map (px_v E) = _; rw [e1, List.map_append, List.map_reverse, List.reverse_reverse]; rfl) (by rw [hb]; exact hd)
                  obtain ⟨t, h1, h2⟩ := px_goes hn hAll Xc hM hl hd hy hY hf hP hG hL hc hs X₁ hT hnamed
                  exact ⟨t, hstep₁ _ fun acts => by rw [doInvoke_state]; exact h1, h2⟩
              · cases hcs
            · cases hcs
          · cases hcs
  case invokespecial x =>
    cases hi
    dsimp only at hf
    cases hcs : px_cI x M st with
    | none => rw [hcs] at hf; cases hf
    | some v =>
      rw [hcs] at hf
      unfold px_cI at hcs
      cases hq : px_lk M x with
      | none => rw [hq] at hcs; cases hcs
      | some q =>
        rw [hq] at hcs
        have hl2 := hM.2 x q hq
        obtain ⟨tag, y, na, c3⟩ := q
        cases ht : (Nat.beq tag 4 || Nat.beq tag 5) with
        | false => simp only [ht, cond_false] at hcs; cases hcs
        | true =>
          simp only [ht, cond_true] at hcs
          split at hcs
          · rename_i w hw
            split at hcs
            · rename_i r rest hw2
              cases hcs
              obtain ⟨e1, e2⟩ := px_take_ok hw
              rw [hw2] at e1
              have hstk : (F0 m pc ls (st.map (px_v E))).stack = (w.1.reverse.map (px_v E)).reverse ++ .ref (px_ad E r) :: rest.map (px_v E) := by show st.map (px_v E) = _; rw [e1, List.map_append, List.map_reverse, List.reverse_reverse]; rfl
              simp only [Bool.or_eq_true] at ht
              rcases ht with ht | ht
              · have := Nat.eq_of_beq_eq_true ht
                subst this
                obtain ⟨M', hy, hY, hN, k1, k2, k3, k4, w1, w2⟩ := hl2
                have hy : px_ms[y]? = some M' := hy
                have hN : px_okN M' na := hN
                intro T hT X0
                have hpl : e.platform.magicAccessors = ({} : Platform).magicAccessors := by rw [X0.admits.platform]
                obtain ⟨mk, methM, cM, kP, vm₁, hnamed, hmethM, hcodeM, -, hlocalsM, -, hkP, -, hW₁, hstep₁⟩ := Steps.initColdArgs (e := e) X0.here hx X0.warmed hpl hown k1 hY.2.2.2 (hW.1 _ w1 args) (hW.1 _ w2 args) (hW.1 _ k4 args) (f := F0 m pc ls (st.map (px_v E))) rfl (argsL := w.1.reverse.map (px_v E)) (fun sig hsig => by rw [List.length_map, List.length_reverse, e2]; exact px_nargs hN hsig) hstk (by rw [hb]; exact hd)
                have X₁ := X0.noted hW₁
                obtain ⟨t, h1, h2⟩ := px_goes hn hAll Xc hM hl hd hy hY hf hP hG hL hc hs X₁ hT hnamed
                exact ⟨t, hstep₁ _ fun acts => by rw [doInvoke_state]; exact h1, h2⟩
              · have := Nat.eq_of_beq_eq_true ht
                subst this
                obtain ⟨M', host, hy, hY, hN, k1, k2, k3, k4, w1, w2⟩ := hl2
                have hy : px_ms[y]? = some M' := hy
                have hN : px_okN M' na := hN
                intro T hT X0
                have hpl : e.platform.magicAccessors = ({} : Platform).magicAccessors := by rw [X0.admits.platform]
                obtain ⟨mk, methM, cM, kP, vm₁, hnamed, hmethM, hcodeM, -, hlocalsM, -, hkP, -, hW₁, hstep₁⟩ := Steps.initColdArgsNest (e := e) X0.here hx X0.warmed hpl hown k1 hY.2.2.2 (hW.1 _ w1 args) (hW.1 _ w2 args) (hW.1 _ k4 args) (f := F0 m pc ls (st.map (px_v E))) rfl (argsL := w.1.reverse.map (px_v E)) (fun sig hsig => by rw [List.length_map, List.length_reverse, e2]; exact px_nargs hN hsig) hstk (by rw [hb]; exact hd)
                have X₁ := X0.noted hW₁
                obtain ⟨t, h1, h2⟩ := px_goes hn hAll Xc hM hl hd hy hY hf hP hG hL hc hs X₁ hT hnamed
                exact ⟨t, hstep₁ _ fun acts => by rw [doInvoke_state]; exact h1, h2⟩
            · cases hcs
          · cases hcs
  all_goals (exact absurd hi (by simp [px_callB]))
end PxSound
end
section
/-! Soundness, the theorem. -/
def px_allA : Prop := ∀ t : ArrayType, ∀ n : Nat, px_atn t = some n → px_in (.arrayClass (newarray.typeOf t))
section PxThm
variable {p : Program} {l : Launch} {e : Env} {R : Room} {s : State} {m : MethodId} {args : Array Value} {below : List Frame} {meth : Method} {c : Code} {H : Heap} {locs : List Loc} {cells slots : Nat} {Q : State → Prop}
variable {K : px_K} {E : px_E} {M : px_M} {d C0 S0 pc : Nat} {ls : Array Slot} {h : px_H} {g : px_G} {st : List px_V} {S : px_N}
theorem px_hp_ok (hC : px_allC) (hA : px_allA) (X : px_Cx p e R s m meth c K E M d C0 S0) (hM : px_okM M) (hsz : ls.size = M.2.1.2.1) {i : Instr} (hd : decode M.2.1.1 pc = .ok (i, px_len i)) {f : px_P → px_M → Nat → Nat → List px_V → px_H → px_G → Option px_N} (hi : px_hpB i = some f) (hf : f px_pg M d pc st h g = some S)
    (hP : px_HP px_cl K E h H) (hG : px_Gok E.1 g) (hL : ∀ y ∈ locs, E.2.2 ≤ y.base) (hc : C0 + cells = h.1) (hs : S0 + slots = h.2.1) (k : px_Go p l e R s m args below meth c Q K E C0 S0 ls S) :
    W p l e R s m args below meth c H locs cells slots Q (F0 m pc ls (st.map (px_v E))) := by
  cases i
  case getfield x => cases hi; exact px_get_ok hC X hM hd hf hP hG hL hc hs k
  case putfield x => cases hi; exact px_put_ok hC X hM hd hf hP hG hL hc hs k
  case new x => cases hi; exact px_new_ok hC X hM hd hf hP hG hL hc hs k
  case newarray t =>
    cases hi
    refine px_na_ok X ?_ hd hf hP hG hL hc hs k
    cases ht : px_atn t with
    | some n => exact hA t n ht
    | none =>
      exfalso
      have hf : px_hna px_pg t pc st h g = some S := hf
      unfold px_hna at hf
      split at hf
      · rw [ht] at hf; cases hf
      · cases hf
  case anewarray x => cases hi; exact px_nq_ok X hM hd hf hP hG hL hc hs k
  case multianewarray x y => cases hi; exact px_mul_ok X hM hd hf hP hG hL hc hs k
  case arraylength => cases hi; exact px_len_ok X hd hf hP hG hL hc hs k
  case iaload => cases hi; exact px_ial_ok X hd hf hP hG hL hc hs k
  case laload => cases hi; exact px_lal_ok X hd hf hP hG hL hc hs k
  case aaload => cases hi; exact px_aal_ok X hd hf hP hG hL hc hs k
  case iastore => cases hi; exact px_hst_ok hC X (Or.inl ⟨rfl, rfl⟩) hd hf hP hG hL hc hs k
  case bastore => cases hi; exact px_hst_ok hC X (Or.inr (Or.inl ⟨rfl, rfl⟩)) hd hf hP hG hL hc hs k
  case lastore => cases hi; exact px_hst_ok hC X (Or.inr (Or.inr (Or.inl ⟨rfl, rfl⟩))) hd hf hP hG hL hc hs k
  case aastore => cases hi; exact px_hst_ok hC X (Or.inr (Or.inr (Or.inr ⟨rfl, rfl⟩))) hd hf hP hG hL hc hs k
  case ldc x => cases hi; exact px_ldc_ok X hM hd hf hP hG hL hc hs k
  case invokespecial x => cases hi; exact px_obj0_ok X hM hsz hd hf hP hG hL hc hs k
  case invokestatic x => cases hi; exact px_cpy_ok X hM hsz hd hf hP hG hL hc hs k
  all_goals (exact absurd hi (by simp [px_hpB]))
theorem px_call_len {i : Instr} {f : px_M → List px_V → px_H → Option (Nat × List px_V × List px_V)} (h : px_callB i = some f) : px_len i = 3 := by
  cases i <;> first | rfl | (exact absurd h (by simp [px_callB]))
theorem px_isw_ok {i : Instr} (h : px_isw i = true) : (∃ a b c d, i = .tableswitch a b c d) ∨ ∃ a b, i = .lookupswitch a b := by
  cases i <;> first | (exact Or.inl ⟨_, _, _, _, rfl⟩) | (exact Or.inr ⟨_, _, rfl⟩) | (exact absurd h (by simp [px_isw]))
theorem px_sound (hC : px_allC) (hA : px_allA) (hX : px_allX) (hAll : px_allM) : ∀ n, px_IH n
  | 0 => fun d M pc L st h g lv hx => by cases hx
  | n + 1 => by
    intro d M pc L st h g lv hx hM p l e R s m args below meth c H locs cells slots ls K E C0 S0 X hl hP hG hL hc hs
    have hn := px_sound hC hA hX hAll n
    have hx1 : px_s1 px_pg (px_x px_pg n) d M pc L st h g (px_code M pc) = some lv := hx
    unfold px_s1 at hx1
    split at hx1
    · rename_i i len hcode
      have hd : decode M.2.1.1 pc = .ok (i, len) := hM.1 pc _ hcode
      have hb : c.code = M.2.1.1 := X.2.2.1
      have h6 : E.1 6 = E.1 0 &&& 31 := X.2.2.2.2.2.2.2.2.2.1.2.2.2.2.2.2.2.2.2.2.2
      split at hx1
      · rename_i f hf
        cases hlen : Nat.beq len (px_len i) with
        | false => rw [hlen] at hx1; cases hx1
        | true =>
          rw [hlen] at hx1
          have hlen := Nat.eq_of_beq_eq_true hlen
          subst hlen
          have hx2 : px_sP (px_x px_pg n) d M pc (px_len i) h g (f M.2.1.2.1 g L st) = some lv := hx1
          rw [px_pureB_ok i hf] at hx2
          unfold px_sP at hx2
          split at hx2
          · rename_i L' st' hp
            exact px_pure_ok X.1 hb hd h6 hG hl hp (fun ls' hl' => hn d M (pc + px_len i) L' st' h g lv hx2 hM p l e R s m args below meth c H locs cells slots ls' K E C0 S0 X hl' hP hG hL hc hs)
          · cases hx2
      · have hx2 : px_s2 px_pg (px_x px_pg n) d M pc L st h g i len = some lv := hx1
        unfold px_s2 at hx2
        split at hx2
        · rename_i f hf
          cases hlen : (Nat.beq len (px_len i) || px_isw i) with
          | false => rw [hlen] at hx2; cases hx2
          | true =>
            rw [hlen] at hx2
            have hx3 : px_sB (px_x px_pg n) d M L h (f pc st g) = some lv := hx2
            rw [px_brB_ok i hf] at hx3
            unfold px_sB at hx3
            split at hx3
            · rename_i S' hS
              refine px_br_ok X.1 hb hd ?_ hG hS (fun q hq hg => ?_)
              · simp only [Bool.or_eq_true] at hlen
                rcases hlen with hlen | hlen
                · exact Or.inl (Nat.eq_of_beq_eq_true hlen).symm
                · exact Or.inr (px_isw_ok hlen)
              · obtain ⟨lq, h1, h2⟩ := px_alln_ok hx3 q hq
                exact px_Wmono (fun t ht => ht.mono h2) (hn d M q.1 L q.2.1 h q.2.2 lq h1 hM p l e R s m args below meth c H locs cells slots ls K E C0 S0 X hl hP hg hL hc hs)
            · cases hx3
        · cases hlen : Nat.beq len (px_len i) with
          | false => rw [hlen] at hx2; cases hx2
          | true =>
            rw [hlen] at hx2
            have hlen := Nat.eq_of_beq_eq_true hlen
            subst hlen
            simp only [cond_true] at hx2
            split at hx2
            · rename_i f hf
              split at hx2
              · rename_i v hv
                cases hx2
                exact px_ret_ok X hd hf hv hP hG hL hc hs
              · cases hx2
            · have hx3 : px_s3 px_pg (px_x px_pg n) d M pc L st h g i = some lv := hx2
              have hcall : px_s4 px_pg (px_x px_pg n) d M pc L st h g i = some lv → W p l e R s m args below meth c H locs cells slots (px_Q K E C0 S0 s below lv) (F0 m pc ls (st.map (px_v E))) := by
                intro h4
                unfold px_s4 at h4
                split at h4
                · rename_i f hf
                  rw [px_call_len hf] at hd
                  exact px_call_ok hn hAll X hM hl hd hf h4 hP hG hL hc hs
                · cases h4
              unfold px_s3 at hx3
              split at hx3
              · rename_i kx hk
                cases hroom : (px_room h 1 6 && Nat.ble 6 d && Nat.ble (px_cat2 st) 20) with
                | false => rw [hroom] at hx3; cases hx3
                | true =>
                  rw [hroom] at hx3
                  have hx4 : some [(g, .inr h.1, px_push h 6 (.inr (.inr kx)))] = some lv := hx3
                  cases hx4
                  exact px_throw_ok hX X hM hl.1 hd hk hroom hP hG hL hc hs
              · split at hx3
                · rename_i f hf
                  split at hx3
                  · rename_i S' hS
                    refine px_hp_ok hC hA X hM hl.1 hd hf hS hP hG hL hc hs (fun q hq H' locs' cells' slots' hP' hG' hL' hc' hs' => ?_)
                    obtain ⟨lq, h1, h2⟩ := px_alln_ok hx3 q hq
                    exact px_Wmono (fun t ht => ht.mono h2) (hn d M q.1 L q.2.1 q.2.2.1 q.2.2.2 lq h1 hM p l e R s m args below meth c H' locs' cells' slots' ls K E C0 S0 X hl hP' hG' hL' hc' hs')
                  · exact hcall hx3
                · exact hcall hx3
    · cases hx1
end PxThm
end
section
/-! The program's data are what the Statement says: tests that a program decides, and what they give. -/
noncomputable def px_w (n : Nat) (w : Cond) : Bool := decide (px_nth lw_tbl n = some w) && px_kw w
theorem px_w_ok {n : Nat} {w : Cond} (h : px_w n w = true) : px_in w := by
  simp only [px_w, Bool.and_eq_true, decide_eq_true_eq, px_nth_eq] at h
  exact ⟨List.mem_of_getElem? h.1, h.2⟩
noncomputable def px_ps (ps : List Nat) (k : Nat) : Nat := (px_nth ps k).getD 0
/-- a class: its fields' places, the places of 'instantiable' and 'initialized' -/
noncomputable def px_chkC (ci : Nat) (C : String) (T : u_T) (N : Nat) (ps : List Nat) (a b : Nat) : Bool :=
  (List.range N).all (fun k => px_w (px_ps ps k) (u_lay C T k)) && px_w a (.instantiable C N) && px_w b (.initialized C) &&
  (List.range N).all (fun k => (List.range N).all (fun j => decide (k = j) || decide ((T k).2.1 ≠ (T j).2.1))) && (List.range N).all (fun k => decide ((T k).1 = C)) &&
  (match px_tl[ci]? with
    | some ks => decide (ks.length = N) && (List.range N).all (fun k => match parseFieldDescriptor (T k).2.2.1 with
      | some ty => decide (ks[k]? = some (px_tcode ty)) && decide (px_tcode ty < 4)
      | none => false)
    | none => false)
theorem px_all_range {N : Nat} {f : Nat → Bool} (h : (List.range N).all f = true) : ∀ k, k < N → f k = true := fun k hk => List.all_eq_true.mp h k (List.mem_range.mpr hk)
theorem px_chkC_ok {ci : Nat} {C : String} {T : u_T} {N : Nat} {ps : List Nat} {a b : Nat} (h : px_chkC ci C T N ps a b = true) : px_okC ci C T N := by
  simp only [px_chkC, Bool.and_eq_true] at h
  obtain ⟨⟨⟨⟨⟨h1, h2⟩, h3⟩, h4⟩, h5⟩, h6⟩ := h
  refine ⟨fun w hw => ?_, px_w_ok h2, px_w_ok h3, fun x hx y hy hne => ?_, fun k hk => of_decide_eq_true (px_all_range h5 k hk), ?_⟩
  · obtain ⟨k, hk, rfl⟩ := List.mem_map.mp hw
    exact px_w_ok (px_all_range h1 k (List.mem_range.mp hk))
  · have h7 := px_all_range (px_all_range h4 x hx) y hy
    simp only [Bool.or_eq_true, decide_eq_true_eq] at h7
    rcases h7 with h7 | h7
    · exact absurd h7 hne
    · exact h7
  · split at h6
    · rename_i ks hks
      simp only [Bool.and_eq_true, decide_eq_true_eq] at h6
      refine ⟨ks, hks, h6.1, fun k hk => ?_⟩
      have h8 := px_all_range h6.2 k hk
      split at h8
      · rename_i ty hty
        simp only [Bool.and_eq_true, decide_eq_true_eq] at h8
        exact ⟨ty, hty, h8.1, h8.2⟩
      · cases h8
    · cases h6
/-- a method that may be called: the places of its code and of its class's 'initialized' -/
noncomputable def px_chkY (M : px_M) (a b : Nat) : Bool :=
  (match M.2.1.2.2.2 with
    | [] => px_w a (.code M.1 M.2.1.1 M.2.1.2.1 M.2.1.2.2.1)
    | hs => px_w a (.codeWith M.1 M.2.1.1 M.2.1.2.1 M.2.1.2.2.1 hs)) && px_w b (.initialized M.1.cls) && plainFor M.1 && decide (M.1.cls ≠ "java/lang/invoke/MethodHandle") && decide (M.1.cls ≠ "java/lang/invoke/VarHandle")
theorem px_chkY_ok {M : px_M} {a b : Nat} (h : px_chkY M a b = true) : px_okY M := by
  simp only [px_chkY, Bool.and_eq_true, decide_eq_true_eq] at h
  obtain ⟨⟨⟨⟨h1, h2⟩, h3⟩, h4⟩, h5⟩ := h
  refine ⟨?_, px_w_ok h2, h3, h4, h5⟩
  split at h1
  · rename_i h0
    exact Or.inl ⟨h0, px_w_ok h1⟩
  · exact Or.inr (px_w_ok h1)
def px_allY : Prop := ∀ (y : Nat) (M : px_M), y ≠ 0 → px_ms[y]? = some M → px_okY M
noncomputable def px_chkN (M : px_M) (n : Nat) : Bool := decide ((parseMethodDescriptor M.1.desc).map (fun s => s.parameters.length) = some n)
theorem px_chkN_ok {M : px_M} {n : Nat} (h : px_chkN M n = true) : px_okN M n := by
  simp only [px_chkN, decide_eq_true_eq] at h
  exact h
noncomputable def px_chkL (M : px_M) (x : Nat) (q : Nat × Nat × Nat × Nat) (ps : List Nat) : Bool := match q.1 with
  | 0 => (match px_cl[q.2.1]? with
    | some (C, T, N) => Nat.blt q.2.2.1 N && px_w (px_ps ps 0) (.fieldLink M.1.cls x C (T q.2.2.1).2.1 (T q.2.2.1).2.2.1) && (!(Nat.beq q.2.2.2 1) || !(T q.2.2.1).2.2.2 || (decide (M.1.name = "<init>") && decide (C = M.1.cls)))
    | none => false)
  | 1 => (match px_cl[q.2.1]? with
    | some (C, T, N) => Nat.blt q.2.2.1 N && (px_w (px_ps ps 0) (.fieldLinkNest M.1.cls x C (T q.2.2.1).2.1 (T q.2.2.1).2.2.1 "TextAtlas") || px_w (px_ps ps 0) (.fieldLinkNest M.1.cls x C (T q.2.2.1).2.1 (T q.2.2.1).2.2.1 "TextAtlasModel")) && (!(Nat.beq q.2.2.2 1) || !(T q.2.2.1).2.2.2)
    | none => false)
  | 2 => (match px_ms[q.2.1]? with
    | some M' => !(Nat.beq q.2.1 0) && px_chkN M' q.2.2.1 && px_w (px_ps ps 0) (.methodLink M.1.cls x M'.1) && px_w (px_ps ps 1) (.static M'.1)
    | none => false)
  | 3 => (match px_ms[q.2.1]? with
    | some M' => (match px_cl[q.2.2.2]? with
      | some (C, _, _) => !(Nat.beq q.2.1 0) && px_chkN M' q.2.2.1 && decide (C = M'.1.cls) && px_w (px_ps ps 0) (.methodLink M.1.cls x M'.1) && px_w (px_ps ps 1) (.instanceMethod M'.1) && px_w (px_ps ps 2) (.selects M'.1.cls M'.1 M'.1)
      | none => false)
    | none => false)
  | 4 => (match px_ms[q.2.1]? with
    | some M' => !(Nat.beq q.2.1 0) && px_chkN M' q.2.2.1 && decide (M'.1.name = "<init>") && decide (M'.2.1.2.2.1 = none) && M'.2.1.2.2.2.isEmpty && px_w (px_ps ps 0) (.methodLink M.1.cls x M'.1) && px_w (px_ps ps 1) (.instanceMethod M'.1) && px_w (px_ps ps 2) (.code M'.1 M'.2.1.1 M'.2.1.2.1 none)
    | none => false)
  | 5 => (match px_ms[q.2.1]? with
    | some M' => !(Nat.beq q.2.1 0) && px_chkN M' q.2.2.1 && decide (M'.1.name = "<init>") && decide (M'.2.1.2.2.1 = none) && M'.2.1.2.2.2.isEmpty && (px_w (px_ps ps 0) (.methodLinkNest M.1.cls x M'.1 "TextAtlas") || px_w (px_ps ps 0) (.methodLinkNest M.1.cls x M'.1 "TextAtlasModel")) && px_w (px_ps ps 1) (.instanceMethod M'.1) && px_w (px_ps ps 2) (.code M'.1 M'.2.1.1 M'.2.1.2.1 none)
    | none => false)
  | 6 => px_w (px_ps ps 0) (.methodLink M.1.cls x Lib.objectInit) && px_w (px_ps ps 1) (.instanceMethod Lib.objectInit) && px_w (px_ps ps 2) (.code Lib.objectInit ⟨#[0xb1]⟩ 1 none)
  | 7 => (match px_ex[q.2.1]? with
    | some n => px_w (px_ps ps 0) (.methodLink M.1.cls x ⟨n, "<init>", "()V"⟩)
    | none => false)
  | 8 => (match px_cl[q.2.1]? with
    | some (C, _, _) => px_w (px_ps ps 0) (.classLink M.1.cls x C)
    | none => false)
  | 9 => (match px_ex[q.2.1]? with
    | some n => !(Nat.beq x 0) && px_w (px_ps ps 0) (.classLink M.1.cls x n)
    | none => false)
  | 10 => (match px_ty[q.2.1]? with
    | some (.object C) => Nat.ble 65536 x && px_w (px_ps ps 0) (.classLink M.1.cls (x - 65536) C) && px_w (px_ps ps 1) (.arrayOver (.object C))
    | _ => false)
  | 11 => px_w (px_ps ps 0) (.constant M.1.cls x (Int32.ofInt (q.2.1 : Nat)))
  | 12 => (match px_str[q.2.1 - 1]? with
    | some (o, y, _) => Nat.ble 1 q.2.1 && Nat.blt q.2.1 64 && decide (o = M.1.cls) && decide (y = x)
    | none => false)
  | 13 => px_w (px_ps ps 0) (.methodLink M.1.cls x arraycopyName) && px_w (px_ps ps 1) (.native arraycopyName) && px_w (px_ps ps 2) (.static arraycopyName) && px_w (px_ps ps 3) (.initialized "java/lang/System")
  | 14 => Nat.beq q.2.1 10 && px_w (px_ps ps 0) (.classLink M.1.cls x "[[I")
  | _ => false
theorem px_chkL_ok (hY : px_allY) {M : px_M} {x : Nat} {q : Nat × Nat × Nat × Nat} {ps : List Nat} (h : px_chkL M x q ps = true) : px_okL M x q := by
  obtain ⟨tag, a, b, c⟩ := q
  unfold px_chkL at h
  split at h
  · rename_i ht
    cases ht
    split at h
    · rename_i C T N hc
      simp only [Bool.and_eq_true, Nat.blt_eq, Bool.or_eq_true, Bool.not_eq_true', decide_eq_true_eq] at h
      refine ⟨C, T, N, hc, h.1.1, px_w_ok h.1.2, fun h1 h2 => ?_⟩
      rcases h.2 with (h3 | h3) | h3
      · have h1 : c = 1 := h1
        rw [h1] at h3; cases h3
      · have h2 : (T b).2.2.2 = true := h2
        rw [h2] at h3; cases h3
      · exact h3
    · cases h
  · rename_i ht
    cases ht
    split at h
    · rename_i C T N hc
      simp only [Bool.and_eq_true, Nat.blt_eq, Bool.or_eq_true, Bool.not_eq_true'] at h
      have h9 : (c = 1 → (T b).2.2.2 = false) := fun h1 => by
        rcases h.2 with h3 | h3
        · rw [h1] at h3; cases h3
        · exact h3
      rcases h.1.2 with h2 | h2
      · exact ⟨C, T, N, _, hc, h.1.1, px_w_ok h2, h9⟩
      · exact ⟨C, T, N, _, hc, h.1.1, px_w_ok h2, h9⟩
    · cases h
  · rename_i ht
    cases ht
    split at h
    · rename_i M' hm
      simp only [Bool.and_eq_true, Bool.not_eq_true'] at h
      exact ⟨M', hm, hY a M' (fun w => by have := h.1.1.1; rw [w] at this; cases this) hm, px_chkN_ok h.1.1.2, px_w_ok h.1.2, px_w_ok h.2⟩
    · cases h
  · rename_i ht
    cases ht
    split at h
    · rename_i M' hm
      split at h
      · rename_i C T N hc
        simp only [Bool.and_eq_true, Bool.not_eq_true', decide_eq_true_eq] at h
        obtain ⟨⟨⟨⟨⟨h1, h2⟩, h3⟩, h4⟩, h5⟩, h6⟩ := h
        subst h3
        exact ⟨M', T, N, hm, hY a M' (fun w => by rw [w] at h1; cases h1) hm, px_chkN_ok h2, hc, px_w_ok h4, px_w_ok h5, px_w_ok h6⟩
      · cases h
    · cases h
  · rename_i ht
    cases ht
    split at h
    · rename_i M' hm
      simp only [Bool.and_eq_true, Bool.not_eq_true', decide_eq_true_eq] at h
      obtain ⟨⟨⟨⟨⟨⟨⟨h1, h2⟩, h3⟩, h4⟩, h5⟩, h6⟩, h7⟩, h8⟩ := h
      exact ⟨M', hm, hY a M' (fun w => by rw [w] at h1; cases h1) hm, px_chkN_ok h2, h3, h4, List.isEmpty_iff.mp h5, px_w_ok h8, px_w_ok h6, px_w_ok h7⟩
    · cases h
  · rename_i ht
    cases ht
    split at h
    · rename_i M' hm
      simp only [Bool.and_eq_true, Bool.not_eq_true', decide_eq_true_eq, Bool.or_eq_true] at h
      obtain ⟨⟨⟨⟨⟨⟨⟨h1, h2⟩, h3⟩, h4⟩, h5⟩, h6⟩, h7⟩, h8⟩ := h
      rcases h6 with h6 | h6
      · exact ⟨M', _, hm, hY a M' (fun w => by rw [w] at h1; cases h1) hm, px_chkN_ok h2, h3, h4, List.isEmpty_iff.mp h5, px_w_ok h8, px_w_ok h6, px_w_ok h7⟩
      · exact ⟨M', _, hm, hY a M' (fun w => by rw [w] at h1; cases h1) hm, px_chkN_ok h2, h3, h4, List.isEmpty_iff.mp h5, px_w_ok h8, px_w_ok h6, px_w_ok h7⟩
    · cases h
  · rename_i ht
    cases ht
    simp only [Bool.and_eq_true] at h
    exact ⟨px_w_ok h.1.1, px_w_ok h.1.2, px_w_ok h.2⟩
  · rename_i ht
    cases ht
    split at h
    · rename_i n hn
      exact ⟨n, hn, px_w_ok h⟩
    · cases h
  · rename_i ht
    cases ht
    split at h
    · rename_i C T N hc
      exact ⟨C, T, N, hc, px_w_ok h⟩
    · cases h
  · rename_i ht
    cases ht
    split at h
    · rename_i n hn
      simp only [Bool.and_eq_true, Bool.not_eq_true'] at h
      exact ⟨(fun w => by have := h.1; rw [w] at this; cases this), n, hn, px_w_ok h.2⟩
    · cases h
  · rename_i ht
    cases ht
    split at h
    · rename_i C hc
      simp only [Bool.and_eq_true, Nat.ble_eq] at h
      exact ⟨h.1.1, C, hc, px_w_ok h.1.2, px_w_ok h.2⟩
    · cases h
  · rename_i ht
    cases ht
    exact px_w_ok h
  · rename_i ht
    cases ht
    split at h
    · rename_i o y t hs
      simp only [Bool.and_eq_true, Nat.ble_eq, Nat.blt_eq, decide_eq_true_eq] at h
      obtain ⟨⟨⟨h1, h2⟩, h3⟩, h4⟩ := h
      subst h3 h4
      exact ⟨h1, h2, t, hs⟩
    · cases h
  · rename_i ht
    cases ht
    simp only [Bool.and_eq_true] at h
    exact ⟨px_w_ok h.1.1.1, px_w_ok h.1.1.2, px_w_ok h.1.2, px_w_ok h.2⟩
  · rename_i ht
    cases ht
    simp only [Bool.and_eq_true] at h
    exact ⟨Nat.eq_of_beq_eq_true h.1, px_w_ok h.2⟩
  · cases h
noncomputable def px_chkD (M : px_M) : Bool := M.2.2.1.all (fun row => row.all (fun e => decide (decode M.2.1.1 e.1 = .ok e.2)))
noncomputable def px_chkR (b : ByteArray) (row : List (Nat × Instr × Nat)) : Bool := row.all (fun e => decide (decode b e.1 = .ok e.2))
theorem px_chkD_of {M : px_M} (h : ∀ row ∈ M.2.2.1, px_chkR M.2.1.1 row = true) : px_chkD M = true := List.all_eq_true.mpr h
noncomputable def px_chkK (M : px_M) (pss : List (List Nat)) : Bool := decide (M.2.2.2.length = pss.length) && (M.2.2.2.zip pss).all (fun q => px_chkL M q.1.1 q.1.2 q.2)
theorem px_cf_mem {pc : Nat} {q : Instr × Nat} : ∀ {l : List (Nat × Instr × Nat)}, px_cf pc l = some q → (pc, q) ∈ l
  | [], h => by cases h
  | x :: r, h => by
    have h' : (bif Nat.beq x.1 pc then some x.2 else px_cf pc r) = some q := h
    cases hq : Nat.beq x.1 pc with
    | true =>
      rw [hq] at h'
      have h1 : x.2 = q := Option.some.inj h'
      have h2 := Nat.eq_of_beq_eq_true hq
      rw [← h1, ← h2]
      exact List.mem_cons_self
    | false =>
      rw [hq] at h'
      exact List.mem_cons_of_mem _ (px_cf_mem h')
theorem px_lf_mem {x : Nat} {q : Nat × Nat × Nat × Nat} : ∀ {l : List (Nat × Nat × Nat × Nat × Nat)}, px_lf x l = some q → (x, q) ∈ l
  | [], h => by cases h
  | y :: r, h => by
    have h' : (bif Nat.beq y.1 x then some y.2 else px_lf x r) = some q := h
    cases hq : Nat.beq y.1 x with
    | true =>
      rw [hq] at h'
      have h1 : y.2 = q := Option.some.inj h'
      have h2 := Nat.eq_of_beq_eq_true hq
      rw [← h1, ← h2]
      exact List.mem_cons_self
    | false =>
      rw [hq] at h'
      exact List.mem_cons_of_mem _ (px_lf_mem h')
theorem px_chkM_ok (hY : px_allY) {M : px_M} {pss : List (List Nat)} (h1 : px_chkD M = true) (h2 : px_chkK M pss = true) : px_okM M := by
  refine ⟨fun pc q hq => ?_, fun x q hq => ?_⟩
  · unfold px_code at hq
    split at hq
    · rename_i row hrow
      rw [px_nth_eq] at hrow
      have h3 := List.all_eq_true.mp h1 row (List.mem_of_getElem? hrow)
      exact of_decide_eq_true (List.all_eq_true.mp h3 (pc, q) (px_cf_mem hq))
    · cases hq
  · have hm : (x, q) ∈ M.2.2.2 := px_lf_mem hq
    simp only [px_chkK, Bool.and_eq_true, decide_eq_true_eq] at h2
    obtain ⟨i, hi⟩ := List.getElem?_of_mem hm
    have hlt : i < pss.length := by rw [← h2.1]; exact (List.getElem?_eq_some_iff.mp hi).1
    have h3 : ((x, q), pss[i]) ∈ M.2.2.2.zip pss := by
      refine List.mem_of_getElem? (i := i) ?_
      rw [List.getElem?_zip_eq_some]
      exact ⟨hi, List.getElem?_eq_getElem hlt⟩
    exact px_chkL_ok hY (List.all_eq_true.mp h2.2 _ h3)
end
section
/-! Written by wip/p1/gen2.py: the data of part 07 are what the Statement says (places in lw_tbl). -/
set_option maxRecDepth 100000 in
theorem pC_0 : px_okC 0 "TextAtlas" pT_0 16 := px_chkC_ok (ps := [596, 598, 600, 602, 604, 606, 608, 610, 612, 614, 616, 618, 620, 622, 624, 626]) (a := 200) (b := 165) (by decide +kernel)
set_option maxRecDepth 100000 in
theorem pC_1 : px_okC 1 "TextAtlas$Text" pT_1 2 := px_chkC_ok (ps := [227, 229]) (a := 210) (b := 166) (by decide +kernel)
set_option maxRecDepth 100000 in
theorem pC_2 : px_okC 2 "TextAtlas$Data" pT_2 8 := px_chkC_ok (ps := [379, 381, 383, 385, 387, 389, 391, 393]) (a := 235) (b := 167) (by decide +kernel)
set_option maxRecDepth 100000 in
theorem pC_3 : px_okC 3 "TextAtlas$Fact" pT_3 13 := px_chkC_ok (ps := [279, 281, 283, 285, 287, 289, 291, 293, 295, 297, 299, 301, 303]) (a := 245) (b := 168) (by decide +kernel)
set_option maxRecDepth 100000 in
theorem pC_4 : px_okC 4 "TextAtlas$Span" pT_4 9 := px_chkC_ok (ps := [340, 342, 344, 346, 348, 350, 352, 354, 356]) (a := 307) (b := 169) (by decide +kernel)
set_option maxRecDepth 100000 in
theorem pC_5 : px_okC 5 "TextAtlas$Reader" pT_5 6 := px_chkC_ok (ps := [408, 410, 412, 414, 416, 418]) (a := 397) (b := 170) (by decide +kernel)
set_option maxRecDepth 100000 in
theorem pC_6 : px_okC 6 "TextAtlas$Decompositions" pT_6 9 := px_chkC_ok (ps := [439, 441, 443, 445, 447, 449, 451, 453, 455]) (a := 422) (b := 171) (by decide +kernel)
set_option maxRecDepth 100000 in
theorem pC_7 : px_okC 7 "TextAtlas$Forms" pT_7 5 := px_chkC_ok (ps := [469, 471, 473, 475, 477]) (a := 459) (b := 172) (by decide +kernel)
set_option maxRecDepth 100000 in
theorem pC_8 : px_okC 8 "TextAtlas$Breaks" pT_8 7 := px_chkC_ok (ps := [493, 495, 497, 499, 501, 503, 505]) (a := 481) (b := 173) (by decide +kernel)
set_option maxRecDepth 100000 in
theorem pC_9 : px_okC 9 "TextAtlas$Casing" pT_9 10 := px_chkC_ok (ps := [525, 527, 529, 531, 533, 535, 537, 539, 541, 543]) (a := 510) (b := 174) (by decide +kernel)
set_option maxRecDepth 100000 in
theorem pC_10 : px_okC 10 "TextAtlas$Collation" pT_10 8 := px_chkC_ok (ps := [563, 565, 567, 569, 571, 573, 575, 577]) (a := 547) (b := 175) (by decide +kernel)
set_option maxRecDepth 100000 in
theorem pC_11 : px_okC 11 "TextAtlasModel" pT_11 42 := px_chkC_ok (ps := [1754, 1756, 1758, 1760, 1762, 1764, 1766, 1768, 1770, 1772, 1774, 1776, 1778, 1780, 1782, 1784, 1786, 1788, 1790, 1792, 1794, 1796, 1798, 1800, 1802, 1804, 1806, 1808, 1810, 1812, 1814, 1816, 1818, 1820, 1822, 1824, 1826, 1828, 1830, 1832, 1834, 1836]) (a := 1658) (b := 176) (by decide +kernel)
set_option maxRecDepth 100000 in
theorem pC_12 : px_okC 12 "TextAtlasModel$Line" pT_12 13 := px_chkC_ok (ps := [1875, 1877, 1879, 1881, 1883, 1885, 1887, 1889, 1891, 1893, 1895, 1897, 1899]) (a := 1852) (b := 190) (by decide +kernel)
theorem px_allC_ok : px_allC := by
  intro ci C T N h
  have hlt : ci < 13 := (List.getElem?_eq_some_iff.mp h).1
  have hs : ci = 0 ∨ ci = 1 ∨ ci = 2 ∨ ci = 3 ∨ ci = 4 ∨ ci = 5 ∨ ci = 6 ∨ ci = 7 ∨ ci = 8 ∨ ci = 9 ∨ ci = 10 ∨ ci = 11 ∨ ci = 12 := by omega
  rcases hs with rfl | rfl | rfl | rfl | rfl | rfl | rfl | rfl | rfl | rfl | rfl | rfl | rfl
  · cases h; exact pC_0
  · cases h; exact pC_1
  · cases h; exact pC_2
  · cases h; exact pC_3
  · cases h; exact pC_4
  · cases h; exact pC_5
  · cases h; exact pC_6
  · cases h; exact pC_7
  · cases h; exact pC_8
  · cases h; exact pC_9
  · cases h; exact pC_10
  · cases h; exact pC_11
  · cases h; exact pC_12
set_option maxRecDepth 100000 in
theorem pY_1 : px_okY pm_1 := px_chkY_ok (a := 203) (b := 165) (by decide +kernel)
set_option maxRecDepth 100000 in
theorem pY_2 : px_okY pm_2 := px_chkY_ok (a := 1618) (b := 165) (by decide +kernel)
set_option maxRecDepth 100000 in
theorem pY_3 : px_okY pm_3 := px_chkY_ok (a := 1212) (b := 165) (by decide +kernel)
set_option maxRecDepth 100000 in
theorem pY_4 : px_okY pm_4 := px_chkY_ok (a := 1635) (b := 165) (by decide +kernel)
set_option maxRecDepth 100000 in
theorem pY_5 : px_okY pm_5 := px_chkY_ok (a := 1347) (b := 165) (by decide +kernel)
set_option maxRecDepth 100000 in
theorem pY_6 : px_okY pm_6 := px_chkY_ok (a := 1599) (b := 165) (by decide +kernel)
set_option maxRecDepth 100000 in
theorem pY_7 : px_okY pm_7 := px_chkY_ok (a := 1656) (b := 165) (by decide +kernel)
set_option maxRecDepth 100000 in
theorem pY_8 : px_okY pm_8 := px_chkY_ok (a := 1491) (b := 165) (by decide +kernel)
set_option maxRecDepth 100000 in
theorem pY_9 : px_okY pm_9 := px_chkY_ok (a := 722) (b := 165) (by decide +kernel)
set_option maxRecDepth 100000 in
theorem pY_10 : px_okY pm_10 := px_chkY_ok (a := 644) (b := 165) (by decide +kernel)
set_option maxRecDepth 100000 in
theorem pY_11 : px_okY pm_11 := px_chkY_ok (a := 714) (b := 165) (by decide +kernel)
set_option maxRecDepth 100000 in
theorem pY_12 : px_okY pm_12 := px_chkY_ok (a := 1638) (b := 165) (by decide +kernel)
set_option maxRecDepth 100000 in
theorem pY_13 : px_okY pm_13 := px_chkY_ok (a := 1325) (b := 165) (by decide +kernel)
set_option maxRecDepth 100000 in
theorem pY_14 : px_okY pm_14 := px_chkY_ok (a := 1336) (b := 165) (by decide +kernel)
set_option maxRecDepth 100000 in
theorem pY_15 : px_okY pm_15 := px_chkY_ok (a := 1520) (b := 165) (by decide +kernel)
set_option maxRecDepth 100000 in
theorem pY_16 : px_okY pm_16 := px_chkY_ok (a := 749) (b := 165) (by decide +kernel)
set_option maxRecDepth 100000 in
theorem pY_17 : px_okY pm_17 := px_chkY_ok (a := 1480) (b := 165) (by decide +kernel)
set_option maxRecDepth 100000 in
theorem pY_18 : px_okY pm_18 := px_chkY_ok (a := 1504) (b := 165) (by decide +kernel)
set_option maxRecDepth 100000 in
theorem pY_19 : px_okY pm_19 := px_chkY_ok (a := 1250) (b := 165) (by decide +kernel)
set_option maxRecDepth 100000 in
theorem pY_20 : px_okY pm_20 := px_chkY_ok (a := 1222) (b := 165) (by decide +kernel)
set_option maxRecDepth 100000 in
theorem pY_21 : px_okY pm_21 := px_chkY_ok (a := 1236) (b := 165) (by decide +kernel)
set_option maxRecDepth 100000 in
theorem pY_22 : px_okY pm_22 := px_chkY_ok (a := 1184) (b := 165) (by decide +kernel)
set_option maxRecDepth 100000 in
theorem pY_23 : px_okY pm_23 := px_chkY_ok (a := 1201) (b := 165) (by decide +kernel)
set_option maxRecDepth 100000 in
theorem pY_24 : px_okY pm_24 := px_chkY_ok (a := 753) (b := 165) (by decide +kernel)
set_option maxRecDepth 100000 in
theorem pY_25 : px_okY pm_25 := px_chkY_ok (a := 1495) (b := 165) (by decide +kernel)
set_option maxRecDepth 100000 in
theorem pY_26 : px_okY pm_26 := px_chkY_ok (a := 725) (b := 165) (by decide +kernel)
set_option maxRecDepth 100000 in
theorem pY_27 : px_okY pm_27 := px_chkY_ok (a := 1215) (b := 165) (by decide +kernel)
set_option maxRecDepth 100000 in
theorem pY_28 : px_okY pm_28 := px_chkY_ok (a := 1254) (b := 165) (by decide +kernel)
set_option maxRecDepth 100000 in
theorem pY_29 : px_okY pm_29 := px_chkY_ok (a := 1180) (b := 165) (by decide +kernel)
set_option maxRecDepth 100000 in
theorem pY_30 : px_okY pm_30 := px_chkY_ok (a := 632) (b := 165) (by decide +kernel)
set_option maxRecDepth 100000 in
theorem pY_31 : px_okY pm_31 := px_chkY_ok (a := 1073) (b := 165) (by decide +kernel)
set_option maxRecDepth 100000 in
theorem pY_32 : px_okY pm_32 := px_chkY_ok (a := 1243) (b := 165) (by decide +kernel)
set_option maxRecDepth 100000 in
theorem pY_33 : px_okY pm_33 := px_chkY_ok (a := 1177) (b := 165) (by decide +kernel)
set_option maxRecDepth 100000 in
theorem pY_34 : px_okY pm_34 := px_chkY_ok (a := 1649) (b := 165) (by decide +kernel)
set_option maxRecDepth 100000 in
theorem pY_35 : px_okY pm_35 := px_chkY_ok (a := 484) (b := 173) (by decide +kernel)
set_option maxRecDepth 100000 in
theorem pY_36 : px_okY pm_36 := px_chkY_ok (a := 513) (b := 174) (by decide +kernel)
set_option maxRecDepth 100000 in
theorem pY_37 : px_okY pm_37 := px_chkY_ok (a := 550) (b := 175) (by decide +kernel)
set_option maxRecDepth 100000 in
theorem pY_38 : px_okY pm_38 := px_chkY_ok (a := 238) (b := 167) (by decide +kernel)
set_option maxRecDepth 100000 in
theorem pY_39 : px_okY pm_39 := px_chkY_ok (a := 636) (b := 167) (by decide +kernel)
set_option maxRecDepth 100000 in
theorem pY_40 : px_okY pm_40 := px_chkY_ok (a := 425) (b := 171) (by decide +kernel)
set_option maxRecDepth 100000 in
theorem pY_41 : px_okY pm_41 := px_chkY_ok (a := 1081) (b := 171) (by decide +kernel)
set_option maxRecDepth 100000 in
theorem pY_42 : px_okY pm_42 := px_chkY_ok (a := 1129) (b := 171) (by decide +kernel)
set_option maxRecDepth 100000 in
theorem pY_43 : px_okY pm_43 := px_chkY_ok (a := 1077) (b := 171) (by decide +kernel)
set_option maxRecDepth 100000 in
theorem pY_44 : px_okY pm_44 := px_chkY_ok (a := 248) (b := 168) (by decide +kernel)
set_option maxRecDepth 100000 in
theorem pY_45 : px_okY pm_45 := px_chkY_ok (a := 462) (b := 172) (by decide +kernel)
set_option maxRecDepth 100000 in
theorem pY_46 : px_okY pm_46 := px_chkY_ok (a := 400) (b := 170) (by decide +kernel)
set_option maxRecDepth 100000 in
theorem pY_47 : px_okY pm_47 := px_chkY_ok (a := 787) (b := 170) (by decide +kernel)
set_option maxRecDepth 100000 in
theorem pY_48 : px_okY pm_48 := px_chkY_ok (a := 775) (b := 170) (by decide +kernel)
set_option maxRecDepth 100000 in
theorem pY_49 : px_okY pm_49 := px_chkY_ok (a := 783) (b := 170) (by decide +kernel)
set_option maxRecDepth 100000 in
theorem pY_50 : px_okY pm_50 := px_chkY_ok (a := 795) (b := 170) (by decide +kernel)
set_option maxRecDepth 100000 in
theorem pY_51 : px_okY pm_51 := px_chkY_ok (a := 779) (b := 170) (by decide +kernel)
set_option maxRecDepth 100000 in
theorem pY_52 : px_okY pm_52 := px_chkY_ok (a := 772) (b := 170) (by decide +kernel)
set_option maxRecDepth 100000 in
theorem pY_53 : px_okY pm_53 := px_chkY_ok (a := 791) (b := 170) (by decide +kernel)
set_option maxRecDepth 100000 in
theorem pY_54 : px_okY pm_54 := px_chkY_ok (a := 310) (b := 169) (by decide +kernel)
set_option maxRecDepth 100000 in
theorem pY_55 : px_okY pm_55 := px_chkY_ok (a := 362) (b := 169) (by decide +kernel)
set_option maxRecDepth 100000 in
theorem pY_56 : px_okY pm_56 := px_chkY_ok (a := 213) (b := 166) (by decide +kernel)
set_option maxRecDepth 100000 in
theorem pY_57 : px_okY pm_57 := px_chkY_ok (a := 1205) (b := 166) (by decide +kernel)
set_option maxRecDepth 100000 in
theorem pY_58 : px_okY pm_58 := px_chkY_ok (a := 1226) (b := 166) (by decide +kernel)
set_option maxRecDepth 100000 in
theorem pY_59 : px_okY pm_59 := px_chkY_ok (a := 1614) (b := 164) (by decide +kernel)
set_option maxRecDepth 100000 in
theorem pY_60 : px_okY pm_60 := px_chkY_ok (a := 1208) (b := 164) (by decide +kernel)
set_option maxRecDepth 100000 in
theorem pY_61 : px_okY pm_61 := px_chkY_ok (a := 1631) (b := 164) (by decide +kernel)
set_option maxRecDepth 100000 in
theorem pY_62 : px_okY pm_62 := px_chkY_ok (a := 1343) (b := 164) (by decide +kernel)
set_option maxRecDepth 100000 in
theorem pY_63 : px_okY pm_63 := px_chkY_ok (a := 1595) (b := 164) (by decide +kernel)
set_option maxRecDepth 100000 in
theorem pY_64 : px_okY pm_64 := px_chkY_ok (a := 1652) (b := 164) (by decide +kernel)
set_option maxRecDepth 100000 in
theorem pY_65 : px_okY pm_65 := px_chkY_ok (a := 1487) (b := 164) (by decide +kernel)
set_option maxRecDepth 100000 in
theorem pY_66 : px_okY pm_66 := px_chkY_ok (a := 717) (b := 164) (by decide +kernel)
set_option maxRecDepth 100000 in
theorem pY_67 : px_okY pm_67 := px_chkY_ok (a := 639) (b := 164) (by decide +kernel)
set_option maxRecDepth 100000 in
theorem pY_68 : px_okY pm_68 := px_chkY_ok (a := 1321) (b := 164) (by decide +kernel)
set_option maxRecDepth 100000 in
theorem pY_69 : px_okY pm_69 := px_chkY_ok (a := 1332) (b := 164) (by decide +kernel)
set_option maxRecDepth 100000 in
theorem pY_70 : px_okY pm_70 := px_chkY_ok (a := 1516) (b := 164) (by decide +kernel)
set_option maxRecDepth 100000 in
theorem pY_71 : px_okY pm_71 := px_chkY_ok (a := 743) (b := 164) (by decide +kernel)
set_option maxRecDepth 100000 in
theorem pY_72 : px_okY pm_72 := px_chkY_ok (a := 1476) (b := 164) (by decide +kernel)
set_option maxRecDepth 100000 in
theorem pY_73 : px_okY pm_73 := px_chkY_ok (a := 1500) (b := 164) (by decide +kernel)
set_option maxRecDepth 100000 in
theorem pY_74 : px_okY pm_74 := px_chkY_ok (a := 1246) (b := 164) (by decide +kernel)
set_option maxRecDepth 100000 in
theorem pY_75 : px_okY pm_75 := px_chkY_ok (a := 1218) (b := 164) (by decide +kernel)
set_option maxRecDepth 100000 in
theorem pY_76 : px_okY pm_76 := px_chkY_ok (a := 1232) (b := 164) (by decide +kernel)
set_option maxRecDepth 100000 in
theorem pY_77 : px_okY pm_77 := px_chkY_ok (a := 1068) (b := 164) (by decide +kernel)
set_option maxRecDepth 100000 in
theorem pY_78 : px_okY pm_78 := px_chkY_ok (a := 1239) (b := 164) (by decide +kernel)
set_option maxRecDepth 100000 in
theorem pY_79 : px_okY pm_79 := px_chkY_ok (a := 1173) (b := 164) (by decide +kernel)
set_option maxRecDepth 100000 in
theorem pY_80 : px_okY pm_80 := px_chkY_ok (a := 1645) (b := 164) (by decide +kernel)
set_option maxRecDepth 100000 in
theorem pY_81 : px_okY pm_81 := px_chkY_ok (a := 1661) (b := 176) (by decide +kernel)
set_option maxRecDepth 100000 in
theorem pY_82 : px_okY pm_82 := px_chkY_ok (a := 2515) (b := 176) (by decide +kernel)
set_option maxRecDepth 100000 in
theorem pY_83 : px_okY pm_83 := px_chkY_ok (a := 2499) (b := 176) (by decide +kernel)
set_option maxRecDepth 100000 in
theorem pY_84 : px_okY pm_84 := px_chkY_ok (a := 2523) (b := 176) (by decide +kernel)
set_option maxRecDepth 100000 in
theorem pY_85 : px_okY pm_85 := px_chkY_ok (a := 1909) (b := 176) (by decide +kernel)
set_option maxRecDepth 100000 in
theorem pY_86 : px_okY pm_86 := px_chkY_ok (a := 2332) (b := 176) (by decide +kernel)
set_option maxRecDepth 100000 in
theorem pY_87 : px_okY pm_87 := px_chkY_ok (a := 2240) (b := 176) (by decide +kernel)
set_option maxRecDepth 100000 in
theorem pY_88 : px_okY pm_88 := px_chkY_ok (a := 2477) (b := 176) (by decide +kernel)
set_option maxRecDepth 100000 in
theorem pY_89 : px_okY pm_89 := px_chkY_ok (a := 2532) (b := 176) (by decide +kernel)
set_option maxRecDepth 100000 in
theorem pY_90 : px_okY pm_90 := px_chkY_ok (a := 2432) (b := 176) (by decide +kernel)
set_option maxRecDepth 100000 in
theorem pY_91 : px_okY pm_91 := px_chkY_ok (a := 2485) (b := 176) (by decide +kernel)
set_option maxRecDepth 100000 in
theorem pY_92 : px_okY pm_92 := px_chkY_ok (a := 2254) (b := 176) (by decide +kernel)
set_option maxRecDepth 100000 in
theorem pY_93 : px_okY pm_93 := px_chkY_ok (a := 1851) (b := 176) (by decide +kernel)
set_option maxRecDepth 100000 in
theorem pY_94 : px_okY pm_94 := px_chkY_ok (a := 2481) (b := 176) (by decide +kernel)
set_option maxRecDepth 100000 in
theorem pY_95 : px_okY pm_95 := px_chkY_ok (a := 1905) (b := 176) (by decide +kernel)
set_option maxRecDepth 100000 in
theorem pY_96 : px_okY pm_96 := px_chkY_ok (a := 2324) (b := 176) (by decide +kernel)
set_option maxRecDepth 100000 in
theorem pY_97 : px_okY pm_97 := px_chkY_ok (a := 2328) (b := 176) (by decide +kernel)
set_option maxRecDepth 100000 in
theorem pY_98 : px_okY pm_98 := px_chkY_ok (a := 2440) (b := 176) (by decide +kernel)
set_option maxRecDepth 100000 in
theorem pY_99 : px_okY pm_99 := px_chkY_ok (a := 1846) (b := 176) (by decide +kernel)
set_option maxRecDepth 100000 in
theorem pY_100 : px_okY pm_100 := px_chkY_ok (a := 2416) (b := 176) (by decide +kernel)
set_option maxRecDepth 100000 in
theorem pY_101 : px_okY pm_101 := px_chkY_ok (a := 2436) (b := 176) (by decide +kernel)
set_option maxRecDepth 100000 in
theorem pY_102 : px_okY pm_102 := px_chkY_ok (a := 2294) (b := 176) (by decide +kernel)
set_option maxRecDepth 100000 in
theorem pY_103 : px_okY pm_103 := px_chkY_ok (a := 2299) (b := 176) (by decide +kernel)
set_option maxRecDepth 100000 in
theorem pY_104 : px_okY pm_104 := px_chkY_ok (a := 2503) (b := 176) (by decide +kernel)
set_option maxRecDepth 100000 in
theorem pY_105 : px_okY pm_105 := px_chkY_ok (a := 2507) (b := 176) (by decide +kernel)
set_option maxRecDepth 100000 in
theorem pY_106 : px_okY pm_106 := px_chkY_ok (a := 2290) (b := 176) (by decide +kernel)
set_option maxRecDepth 100000 in
theorem pY_107 : px_okY pm_107 := px_chkY_ok (a := 2232) (b := 176) (by decide +kernel)
set_option maxRecDepth 100000 in
theorem pY_108 : px_okY pm_108 := px_chkY_ok (a := 2511) (b := 176) (by decide +kernel)
set_option maxRecDepth 100000 in
theorem pY_109 : px_okY pm_109 := px_chkY_ok (a := 2236) (b := 176) (by decide +kernel)
set_option maxRecDepth 100000 in
theorem pY_110 : px_okY pm_110 := px_chkY_ok (a := 2320) (b := 176) (by decide +kernel)
set_option maxRecDepth 100000 in
theorem pY_111 : px_okY pm_111 := px_chkY_ok (a := 2489) (b := 176) (by decide +kernel)
set_option maxRecDepth 100000 in
theorem pY_112 : px_okY pm_112 := px_chkY_ok (a := 1842) (b := 176) (by decide +kernel)
set_option maxRecDepth 100000 in
theorem pY_113 : px_okY pm_113 := px_chkY_ok (a := 2527) (b := 176) (by decide +kernel)
set_option maxRecDepth 100000 in
theorem pY_114 : px_okY pm_114 := px_chkY_ok (a := 1855) (b := 190) (by decide +kernel)
theorem px_ms_1 : ∀ (k : Nat) (M : px_M), (px_ms.drop 1)[k]? = some M → px_okY M := by
  intro k M h
  have hm : M ∈ px_ms.drop 1 := List.mem_of_getElem? h
  have hall : ∀ M ∈ px_ms.drop 1, px_okY M := by
    show ∀ M ∈ [pm_1, pm_2, pm_3, pm_4, pm_5, pm_6, pm_7, pm_8, pm_9, pm_10, pm_11, pm_12, pm_13, pm_14, pm_15, pm_16, pm_17, pm_18, pm_19, pm_20, pm_21, pm_22, pm_23, pm_24, pm_25, pm_26, pm_27, pm_28, pm_29, pm_30, pm_31, pm_32, pm_33, pm_34, pm_35, pm_36, pm_37, pm_38, pm_39, pm_40, pm_41, pm_42, pm_43, pm_44, pm_45, pm_46, pm_47, pm_48, pm_49, pm_50, pm_51, pm_52, pm_53, pm_54, pm_55, pm_56, pm_57, pm_58, pm_59, pm_60, pm_61, pm_62, pm_63, pm_64, pm_65, pm_66, pm_67, pm_68, pm_69, pm_70, pm_71, pm_72, pm_73, pm_74, pm_75, pm_76, pm_77, pm_78, pm_79, pm_80, pm_81, pm_82, pm_83, pm_84, pm_85, pm_86, pm_87, pm_88, pm_89, pm_90, pm_91, pm_92, pm_93, pm_94, pm_95, pm_96, pm_97, pm_98, pm_99, pm_100, pm_101, pm_102, pm_103, pm_104, pm_105, pm_106, pm_107, pm_108, pm_109, pm_110, pm_111, pm_112, pm_113, pm_114], px_okY M
    exact List.forall_mem_cons.mpr ⟨pY_1, List.forall_mem_cons.mpr ⟨pY_2, List.forall_mem_cons.mpr ⟨pY_3, List.forall_mem_cons.mpr ⟨pY_4, List.forall_mem_cons.mpr ⟨pY_5, List.forall_mem_cons.mpr ⟨pY_6, List.forall_mem_cons.mpr ⟨pY_7, List.forall_mem_cons.mpr ⟨pY_8, List.forall_mem_cons.mpr ⟨pY_9, List.forall_mem_cons.mpr ⟨pY_10, List.forall_mem_cons.mpr ⟨pY_11, List.forall_mem_cons.mpr ⟨pY_12, List.forall_mem_cons.mpr ⟨pY_13, List.forall_mem_cons.mpr ⟨pY_14, List.forall_mem_cons.mpr ⟨pY_15, List.forall_mem_cons.mpr ⟨pY_16, List.forall_mem_cons.mpr ⟨pY_17, List.forall_mem_cons.mpr ⟨pY_18, List.forall_mem_cons.mpr ⟨pY_19, List.forall_mem_cons.mpr ⟨pY_20, List.forall_mem_cons.mpr ⟨pY_21, List.forall_mem_cons.mpr ⟨pY_22, List.forall_mem_cons.mpr ⟨pY_23, List.forall_mem_cons.mpr ⟨pY_24, List.forall_mem_cons.mpr ⟨pY_25, List.forall_mem_cons.mpr ⟨pY_26, List.forall_mem_cons.mpr ⟨pY_27, List.forall_mem_cons.mpr ⟨pY_28, List.forall_mem_cons.mpr ⟨pY_29, List.forall_mem_cons.mpr ⟨pY_30, List.forall_mem_cons.mpr ⟨pY_31, List.forall_mem_cons.mpr ⟨pY_32, List.forall_mem_cons.mpr ⟨pY_33, List.forall_mem_cons.mpr ⟨pY_34, List.forall_mem_cons.mpr ⟨pY_35, List.forall_mem_cons.mpr ⟨pY_36, List.forall_mem_cons.mpr ⟨pY_37, List.forall_mem_cons.mpr ⟨pY_38, List.forall_mem_cons.mpr ⟨pY_39, List.forall_mem_cons.mpr ⟨pY_40, List.forall_mem_cons.mpr ⟨pY_41, List.forall_mem_cons.mpr ⟨pY_42, List.forall_mem_cons.mpr ⟨pY_43, List.forall_mem_cons.mpr ⟨pY_44, List.forall_mem_cons.mpr ⟨pY_45, List.forall_mem_cons.mpr ⟨pY_46, List.forall_mem_cons.mpr ⟨pY_47, List.forall_mem_cons.mpr ⟨pY_48, List.forall_mem_cons.mpr ⟨pY_49, List.forall_mem_cons.mpr ⟨pY_50, List.forall_mem_cons.mpr ⟨pY_51, List.forall_mem_cons.mpr ⟨pY_52, List.forall_mem_cons.mpr ⟨pY_53, List.forall_mem_cons.mpr ⟨pY_54, List.forall_mem_cons.mpr ⟨pY_55, List.forall_mem_cons.mpr ⟨pY_56, List.forall_mem_cons.mpr ⟨pY_57, List.forall_mem_cons.mpr ⟨pY_58, List.forall_mem_cons.mpr ⟨pY_59, List.forall_mem_cons.mpr ⟨pY_60, List.forall_mem_cons.mpr ⟨pY_61, List.forall_mem_cons.mpr ⟨pY_62, List.forall_mem_cons.mpr ⟨pY_63, List.forall_mem_cons.mpr ⟨pY_64, List.forall_mem_cons.mpr ⟨pY_65, List.forall_mem_cons.mpr ⟨pY_66, List.forall_mem_cons.mpr ⟨pY_67, List.forall_mem_cons.mpr ⟨pY_68, List.forall_mem_cons.mpr ⟨pY_69, List.forall_mem_cons.mpr ⟨pY_70, List.forall_mem_cons.mpr ⟨pY_71, List.forall_mem_cons.mpr ⟨pY_72, List.forall_mem_cons.mpr ⟨pY_73, List.forall_mem_cons.mpr ⟨pY_74, List.forall_mem_cons.mpr ⟨pY_75, List.forall_mem_cons.mpr ⟨pY_76, List.forall_mem_cons.mpr ⟨pY_77, List.forall_mem_cons.mpr ⟨pY_78, List.forall_mem_cons.mpr ⟨pY_79, List.forall_mem_cons.mpr ⟨pY_80, List.forall_mem_cons.mpr ⟨pY_81, List.forall_mem_cons.mpr ⟨pY_82, List.forall_mem_cons.mpr ⟨pY_83, List.forall_mem_cons.mpr ⟨pY_84, List.forall_mem_cons.mpr ⟨pY_85, List.forall_mem_cons.mpr ⟨pY_86, List.forall_mem_cons.mpr ⟨pY_87, List.forall_mem_cons.mpr ⟨pY_88, List.forall_mem_cons.mpr ⟨pY_89, List.forall_mem_cons.mpr ⟨pY_90, List.forall_mem_cons.mpr ⟨pY_91, List.forall_mem_cons.mpr ⟨pY_92, List.forall_mem_cons.mpr ⟨pY_93, List.forall_mem_cons.mpr ⟨pY_94, List.forall_mem_cons.mpr ⟨pY_95, List.forall_mem_cons.mpr ⟨pY_96, List.forall_mem_cons.mpr ⟨pY_97, List.forall_mem_cons.mpr ⟨pY_98, List.forall_mem_cons.mpr ⟨pY_99, List.forall_mem_cons.mpr ⟨pY_100, List.forall_mem_cons.mpr ⟨pY_101, List.forall_mem_cons.mpr ⟨pY_102, List.forall_mem_cons.mpr ⟨pY_103, List.forall_mem_cons.mpr ⟨pY_104, List.forall_mem_cons.mpr ⟨pY_105, List.forall_mem_cons.mpr ⟨pY_106, List.forall_mem_cons.mpr ⟨pY_107, List.forall_mem_cons.mpr ⟨pY_108, List.forall_mem_cons.mpr ⟨pY_109, List.forall_mem_cons.mpr ⟨pY_110, List.forall_mem_cons.mpr ⟨pY_111, List.forall_mem_cons.mpr ⟨pY_112, List.forall_mem_cons.mpr ⟨pY_113, List.forall_mem_cons.mpr ⟨pY_114, fun _ h => absurd h List.not_mem_nil⟩⟩⟩⟩⟩⟩⟩⟩⟩⟩⟩⟩⟩⟩⟩⟩⟩⟩⟩⟩⟩⟩⟩⟩⟩⟩⟩⟩⟩⟩⟩⟩⟩⟩⟩⟩⟩⟩⟩⟩⟩⟩⟩⟩⟩⟩⟩⟩⟩⟩⟩⟩⟩⟩⟩⟩⟩⟩⟩⟩⟩⟩⟩⟩⟩⟩⟩⟩⟩⟩⟩⟩⟩⟩⟩⟩⟩⟩⟩⟩⟩⟩⟩⟩⟩⟩⟩⟩⟩⟩⟩⟩⟩⟩⟩⟩⟩⟩⟩⟩⟩⟩⟩⟩⟩⟩⟩⟩⟩⟩⟩⟩⟩⟩
  exact hall M hm
theorem px_allY_ok : px_allY := by
  intro y M h0 h
  obtain ⟨k, rfl⟩ : ∃ k, y = k + 1 := ⟨y - 1, by omega⟩
  exact px_ms_1 k M (by rw [List.getElem?_drop, Nat.add_comm]; exact h)
end
section
/-! Written by wip/p1/gen2.py. -/
set_option maxRecDepth 100000 in
theorem pR_0_0 : px_chkR code pr_0_0 = true := by decide +kernel
set_option maxRecDepth 100000 in
theorem pR_0_1 : px_chkR code pr_0_1 = true := by decide +kernel
set_option maxRecDepth 100000 in
theorem pR_0_2 : px_chkR code pr_0_2 = true := by decide +kernel
set_option maxRecDepth 100000 in
theorem pR_0_9 : px_chkR code pr_0_9 = true := by decide +kernel
set_option maxRecDepth 100000 in
theorem pR_0_10 : px_chkR code pr_0_10 = true := by decide +kernel
set_option maxRecDepth 100000 in
theorem pR_0_11 : px_chkR code pr_0_11 = true := by decide +kernel
set_option maxRecDepth 100000 in
theorem pR_0_12 : px_chkR code pr_0_12 = true := by decide +kernel
set_option maxRecDepth 100000 in
theorem pR_0_13 : px_chkR code pr_0_13 = true := by decide +kernel
set_option maxRecDepth 100000 in
theorem pR_0_14 : px_chkR code pr_0_14 = true := by decide +kernel
set_option maxRecDepth 100000 in
theorem pR_0_15 : px_chkR code pr_0_15 = true := by decide +kernel
set_option maxRecDepth 100000 in
theorem pR_0_16 : px_chkR code pr_0_16 = true := by decide +kernel
set_option maxRecDepth 100000 in
theorem pR_0_17 : px_chkR code pr_0_17 = true := by decide +kernel
set_option maxRecDepth 100000 in
theorem pR_0_18 : px_chkR code pr_0_18 = true := by decide +kernel
set_option maxRecDepth 100000 in
theorem pR_0_19 : px_chkR code pr_0_19 = true := by decide +kernel
set_option maxRecDepth 100000 in
theorem pR_0_20 : px_chkR code pr_0_20 = true := by decide +kernel
set_option maxRecDepth 100000 in
theorem pR_0_21 : px_chkR code pr_0_21 = true := by decide +kernel
set_option maxRecDepth 100000 in
theorem pR_0_22 : px_chkR code pr_0_22 = true := by decide +kernel
set_option maxRecDepth 100000 in
theorem pR_0_23 : px_chkR code pr_0_23 = true := by decide +kernel
set_option maxRecDepth 100000 in
theorem pR_0_24 : px_chkR code pr_0_24 = true := by decide +kernel
set_option maxRecDepth 100000 in
theorem pR_0_25 : px_chkR code pr_0_25 = true := by decide +kernel
set_option maxRecDepth 100000 in
theorem pR_0_26 : px_chkR code pr_0_26 = true := by decide +kernel
set_option maxRecDepth 100000 in
theorem pR_0_27 : px_chkR code pr_0_27 = true := by decide +kernel
set_option maxRecDepth 100000 in
theorem pR_0_28 : px_chkR code pr_0_28 = true := by decide +kernel
set_option maxRecDepth 100000 in
theorem pR_0_29 : px_chkR code pr_0_29 = true := by decide +kernel
set_option maxRecDepth 100000 in
theorem pR_0_30 : px_chkR code pr_0_30 = true := by decide +kernel
set_option maxRecDepth 100000 in
theorem pR_0_31 : px_chkR code pr_0_31 = true := by decide +kernel
set_option maxRecDepth 100000 in
theorem pR_0_32 : px_chkR code pr_0_32 = true := by decide +kernel
set_option maxRecDepth 100000 in
theorem pR_0_33 : px_chkR code pr_0_33 = true := by decide +kernel
set_option maxRecDepth 100000 in
theorem pR_0_34 : px_chkR code pr_0_34 = true := by decide +kernel
set_option maxRecDepth 100000 in
theorem pR_0_35 : px_chkR code pr_0_35 = true := by decide +kernel
set_option maxRecDepth 100000 in
theorem pR_0_36 : px_chkR code pr_0_36 = true := by decide +kernel
set_option maxRecDepth 100000 in
theorem pR_0_37 : px_chkR code pr_0_37 = true := by decide +kernel
set_option maxRecDepth 100000 in
theorem pR_0_38 : px_chkR code pr_0_38 = true := by decide +kernel
set_option maxRecDepth 100000 in
theorem pR_0_39 : px_chkR code pr_0_39 = true := by decide +kernel
set_option maxRecDepth 100000 in
theorem pR_0_40 : px_chkR code pr_0_40 = true := by decide +kernel
set_option maxRecDepth 100000 in
theorem pR_0_41 : px_chkR code pr_0_41 = true := by decide +kernel
set_option maxRecDepth 100000 in
theorem pR_0_42 : px_chkR code pr_0_42 = true := by decide +kernel
set_option maxRecDepth 100000 in
theorem pR_0_43 : px_chkR code pr_0_43 = true := by decide +kernel
set_option maxRecDepth 100000 in
theorem pR_0_44 : px_chkR code pr_0_44 = true := by decide +kernel
set_option maxRecDepth 100000 in
theorem pR_0_45 : px_chkR code pr_0_45 = true := by decide +kernel
set_option maxRecDepth 100000 in
theorem pR_0_46 : px_chkR code pr_0_46 = true := by decide +kernel
set_option maxRecDepth 100000 in
theorem pR_0_47 : px_chkR code pr_0_47 = true := by decide +kernel
set_option maxRecDepth 100000 in
theorem pR_0_48 : px_chkR code pr_0_48 = true := by decide +kernel
set_option maxRecDepth 100000 in
theorem pR_0_49 : px_chkR code pr_0_49 = true := by decide +kernel
set_option maxRecDepth 100000 in
theorem pR_0_50 : px_chkR code pr_0_50 = true := by decide +kernel
set_option maxRecDepth 100000 in
theorem pR_0_51 : px_chkR code pr_0_51 = true := by decide +kernel
set_option maxRecDepth 100000 in
theorem pR_0_52 : px_chkR code pr_0_52 = true := by decide +kernel
set_option maxRecDepth 100000 in
theorem pR_0_53 : px_chkR code pr_0_53 = true := by decide +kernel
set_option maxRecDepth 100000 in
theorem pR_0_54 : px_chkR code pr_0_54 = true := by decide +kernel
set_option maxRecDepth 100000 in
theorem pR_0_55 : px_chkR code pr_0_55 = true := by decide +kernel
set_option maxRecDepth 100000 in
theorem pR_0_57 : px_chkR code pr_0_57 = true := by decide +kernel
set_option maxRecDepth 100000 in
theorem pR_0_58 : px_chkR code pr_0_58 = true := by decide +kernel
set_option maxRecDepth 100000 in
theorem pR_0_59 : px_chkR code pr_0_59 = true := by decide +kernel
set_option maxRecDepth 100000 in
theorem pR_0_60 : px_chkR code pr_0_60 = true := by decide +kernel
set_option maxRecDepth 100000 in
theorem pR_0_61 : px_chkR code pr_0_61 = true := by decide +kernel
set_option maxRecDepth 100000 in
theorem pR_0_62 : px_chkR code pr_0_62 = true := by decide +kernel
set_option maxRecDepth 100000 in
theorem pR_0_63 : px_chkR code pr_0_63 = true := by decide +kernel
set_option maxRecDepth 100000 in
theorem pR_0_64 : px_chkR code pr_0_64 = true := by decide +kernel
set_option maxRecDepth 100000 in
theorem pR_0_65 : px_chkR code pr_0_65 = true := by decide +kernel
set_option maxRecDepth 100000 in
theorem pR_0_66 : px_chkR code pr_0_66 = true := by decide +kernel
set_option maxRecDepth 100000 in
theorem pR_0_67 : px_chkR code pr_0_67 = true := by decide +kernel
set_option maxRecDepth 100000 in
theorem pR_0_68 : px_chkR code pr_0_68 = true := by decide +kernel
set_option maxRecDepth 100000 in
theorem pR_0_69 : px_chkR code pr_0_69 = true := by decide +kernel
set_option maxRecDepth 100000 in
theorem pR_0_70 : px_chkR code pr_0_70 = true := by decide +kernel
set_option maxRecDepth 100000 in
theorem pR_0_71 : px_chkR code pr_0_71 = true := by decide +kernel
set_option maxRecDepth 100000 in
theorem pR_0_72 : px_chkR code pr_0_72 = true := by decide +kernel
set_option maxRecDepth 100000 in
theorem pR_0_74 : px_chkR code pr_0_74 = true := by decide +kernel
set_option maxRecDepth 100000 in
theorem pR_0_75 : px_chkR code pr_0_75 = true := by decide +kernel
set_option maxRecDepth 100000 in
theorem pR_0_76 : px_chkR code pr_0_76 = true := by decide +kernel
set_option maxRecDepth 100000 in
theorem pR_0_77 : px_chkR code pr_0_77 = true := by decide +kernel
set_option maxRecDepth 100000 in
theorem pR_0_78 : px_chkR code pr_0_78 = true := by decide +kernel
set_option maxRecDepth 100000 in
theorem pR_0_79 : px_chkR code pr_0_79 = true := by decide +kernel
set_option maxRecDepth 100000 in
theorem pR_0_80 : px_chkR code pr_0_80 = true := by decide +kernel
set_option maxRecDepth 100000 in
theorem pR_0_81 : px_chkR code pr_0_81 = true := by decide +kernel
set_option maxRecDepth 100000 in
theorem pR_0_82 : px_chkR code pr_0_82 = true := by decide +kernel
set_option maxRecDepth 100000 in
theorem pR_0_83 : px_chkR code pr_0_83 = true := by decide +kernel
set_option maxRecDepth 100000 in
theorem pR_0_84 : px_chkR code pr_0_84 = true := by decide +kernel
set_option maxRecDepth 100000 in
theorem pR_0_85 : px_chkR code pr_0_85 = true := by decide +kernel
set_option maxRecDepth 100000 in
theorem pR_0_86 : px_chkR code pr_0_86 = true := by decide +kernel
set_option maxRecDepth 100000 in
theorem pR_0_87 : px_chkR code pr_0_87 = true := by decide +kernel
set_option maxRecDepth 100000 in
theorem pR_0_88 : px_chkR code pr_0_88 = true := by decide +kernel
set_option maxRecDepth 100000 in
theorem pR_0_89 : px_chkR code pr_0_89 = true := by decide +kernel
set_option maxRecDepth 100000 in
theorem pR_0_90 : px_chkR code pr_0_90 = true := by decide +kernel
set_option maxRecDepth 100000 in
theorem pR_0_91 : px_chkR code pr_0_91 = true := by decide +kernel
set_option maxRecDepth 100000 in
theorem pR_0_92 : px_chkR code pr_0_92 = true := by decide +kernel
set_option maxRecDepth 100000 in
theorem pR_0_93 : px_chkR code pr_0_93 = true := by decide +kernel
set_option maxRecDepth 100000 in
theorem pR_0_94 : px_chkR code pr_0_94 = true := by decide +kernel
set_option maxRecDepth 100000 in
theorem pR_0_95 : px_chkR code pr_0_95 = true := by decide +kernel
set_option maxRecDepth 100000 in
theorem pR_0_96 : px_chkR code pr_0_96 = true := by decide +kernel
set_option maxRecDepth 100000 in
theorem pR_0_97 : px_chkR code pr_0_97 = true := by decide +kernel
set_option maxRecDepth 100000 in
theorem pR_0_98 : px_chkR code pr_0_98 = true := by decide +kernel
set_option maxRecDepth 100000 in
theorem pR_0_99 : px_chkR code pr_0_99 = true := by decide +kernel
set_option maxRecDepth 100000 in
theorem pR_0_100 : px_chkR code pr_0_100 = true := by decide +kernel
set_option maxRecDepth 100000 in
theorem pR_0_101 : px_chkR code pr_0_101 = true := by decide +kernel
set_option maxRecDepth 100000 in
theorem pR_0_102 : px_chkR code pr_0_102 = true := by decide +kernel
set_option maxRecDepth 100000 in
theorem pR_0_103 : px_chkR code pr_0_103 = true := by decide +kernel
set_option maxRecDepth 100000 in
theorem pR_0_104 : px_chkR code pr_0_104 = true := by decide +kernel
set_option maxRecDepth 100000 in
theorem pR_0_105 : px_chkR code pr_0_105 = true := by decide +kernel
set_option maxRecDepth 100000 in
theorem pR_0_106 : px_chkR code pr_0_106 = true := by decide +kernel
set_option maxRecDepth 100000 in
theorem pR_0_107 : px_chkR code pr_0_107 = true := by decide +kernel
set_option maxRecDepth 100000 in
theorem pR_0_108 : px_chkR code pr_0_108 = true := by decide +kernel
set_option maxRecDepth 100000 in
theorem pR_0_109 : px_chkR code pr_0_109 = true := by decide +kernel
set_option maxRecDepth 100000 in
theorem pR_0_110 : px_chkR code pr_0_110 = true := by decide +kernel
set_option maxRecDepth 100000 in
theorem pR_0_111 : px_chkR code pr_0_111 = true := by decide +kernel
set_option maxRecDepth 100000 in
theorem pR_0_112 : px_chkR code pr_0_112 = true := by decide +kernel
set_option maxRecDepth 100000 in
theorem pR_0_113 : px_chkR code pr_0_113 = true := by decide +kernel
set_option maxRecDepth 100000 in
theorem pR_0_114 : px_chkR code pr_0_114 = true := by decide +kernel
theorem pD_0 : px_chkD pm_0 = true := px_chkD_of (show ∀ row ∈ [pr_0_0, pr_0_1, pr_0_2, [], [], [], [], [], [], pr_0_9, pr_0_10, pr_0_11, pr_0_12, pr_0_13, pr_0_14, pr_0_15, pr_0_16, pr_0_17, pr_0_18, pr_0_19, pr_0_20, pr_0_21, pr_0_22, pr_0_23, pr_0_24, pr_0_25, pr_0_26, pr_0_27, pr_0_28, pr_0_29, pr_0_30, pr_0_31, pr_0_32, pr_0_33, pr_0_34, pr_0_35, pr_0_36, pr_0_37, pr_0_38, pr_0_39, pr_0_40, pr_0_41, pr_0_42, pr_0_43, pr_0_44, pr_0_45, pr_0_46, pr_0_47, pr_0_48, pr_0_49, pr_0_50, pr_0_51, pr_0_52, pr_0_53, pr_0_54, pr_0_55, [], pr_0_57, pr_0_58, pr_0_59, pr_0_60, pr_0_61, pr_0_62, pr_0_63, pr_0_64, pr_0_65, pr_0_66, pr_0_67, pr_0_68, pr_0_69, pr_0_70, pr_0_71, pr_0_72, [], pr_0_74, pr_0_75, pr_0_76, pr_0_77, pr_0_78, pr_0_79, pr_0_80, pr_0_81, pr_0_82, pr_0_83, pr_0_84, pr_0_85, pr_0_86, pr_0_87, pr_0_88, pr_0_89, pr_0_90, pr_0_91, pr_0_92, pr_0_93, pr_0_94, pr_0_95, pr_0_96, pr_0_97, pr_0_98, pr_0_99, pr_0_100, pr_0_101, pr_0_102, pr_0_103, pr_0_104, pr_0_105, pr_0_106, pr_0_107, pr_0_108, pr_0_109, pr_0_110, pr_0_111, pr_0_112, pr_0_113, pr_0_114], px_chkR code row = true from List.forall_mem_cons.mpr ⟨pR_0_0, List.forall_mem_cons.mpr ⟨pR_0_1, List.forall_mem_cons.mpr ⟨pR_0_2, List.forall_mem_cons.mpr ⟨rfl, List.forall_mem_cons.mpr ⟨rfl, List.forall_mem_cons.mpr ⟨rfl, List.forall_mem_cons.mpr ⟨rfl, List.forall_mem_cons.mpr ⟨rfl, List.forall_mem_cons.mpr ⟨rfl, List.forall_mem_cons.mpr ⟨pR_0_9, List.forall_mem_cons.mpr ⟨pR_0_10, List.forall_mem_cons.mpr ⟨pR_0_11, List.forall_mem_cons.mpr ⟨pR_0_12, List.forall_mem_cons.mpr ⟨pR_0_13, List.forall_mem_cons.mpr ⟨pR_0_14, List.forall_mem_cons.mpr ⟨pR_0_15, List.forall_mem_cons.mpr ⟨pR_0_16, List.forall_mem_cons.mpr ⟨pR_0_17, List.forall_mem_cons.mpr ⟨pR_0_18, List.forall_mem_cons.mpr ⟨pR_0_19, List.forall_mem_cons.mpr ⟨pR_0_20, List.forall_mem_cons.mpr ⟨pR_0_21, List.forall_mem_cons.mpr ⟨pR_0_22, List.forall_mem_cons.mpr ⟨pR_0_23, List.forall_mem_cons.mpr ⟨pR_0_24, List.forall_mem_cons.mpr ⟨pR_0_25, List.forall_mem_cons.mpr ⟨pR_0_26, List.forall_mem_cons.mpr ⟨pR_0_27, List.forall_mem_cons.mpr ⟨pR_0_28, List.forall_mem_cons.mpr ⟨pR_0_29, List.forall_mem_cons.mpr ⟨pR_0_30, List.forall_mem_cons.mpr ⟨pR_0_31, List.forall_mem_cons.mpr ⟨pR_0_32, List.forall_mem_cons.mpr ⟨pR_0_33, List.forall_mem_cons.mpr ⟨pR_0_34, List.forall_mem_cons.mpr ⟨pR_0_35, List.forall_mem_cons.mpr ⟨pR_0_36, List.forall_mem_cons.mpr ⟨pR_0_37, List.forall_mem_cons.mpr ⟨pR_0_38, List.forall_mem_cons.mpr ⟨pR_0_39, List.forall_mem_cons.mpr ⟨pR_0_40, List.forall_mem_cons.mpr ⟨pR_0_41, List.forall_mem_cons.mpr ⟨pR_0_42, List.forall_mem_cons.mpr ⟨pR_0_43, List.forall_mem_cons.mpr ⟨pR_0_44, List.forall_mem_cons.mpr ⟨pR_0_45, List.forall_mem_cons.mpr ⟨pR_0_46, List.forall_mem_cons.mpr ⟨pR_0_47, List.forall_mem_cons.mpr ⟨pR_0_48, List.forall_mem_cons.mpr ⟨pR_0_49, List.forall_mem_cons.mpr ⟨pR_0_50, List.forall_mem_cons.mpr ⟨pR_0_51, List.forall_mem_cons.mpr ⟨pR_0_52, List.forall_mem_cons.mpr ⟨pR_0_53, List.forall_mem_cons.mpr ⟨pR_0_54, List.forall_mem_cons.mpr ⟨pR_0_55, List.forall_mem_cons.mpr ⟨rfl, List.forall_mem_cons.mpr ⟨pR_0_57, List.forall_mem_cons.mpr ⟨pR_0_58, List.forall_mem_cons.mpr ⟨pR_0_59, List.forall_mem_cons.mpr ⟨pR_0_60, List.forall_mem_cons.mpr ⟨pR_0_61, List.forall_mem_cons.mpr ⟨pR_0_62, List.forall_mem_cons.mpr ⟨pR_0_63, List.forall_mem_cons.mpr ⟨pR_0_64, List.forall_mem_cons.mpr ⟨pR_0_65, List.forall_mem_cons.mpr ⟨pR_0_66, List.forall_mem_cons.mpr ⟨pR_0_67, List.forall_mem_cons.mpr ⟨pR_0_68, List.forall_mem_cons.mpr ⟨pR_0_69, List.forall_mem_cons.mpr ⟨pR_0_70, List.forall_mem_cons.mpr ⟨pR_0_71, List.forall_mem_cons.mpr ⟨pR_0_72, List.forall_mem_cons.mpr ⟨rfl, List.forall_mem_cons.mpr ⟨pR_0_74, List.forall_mem_cons.mpr ⟨pR_0_75, List.forall_mem_cons.mpr ⟨pR_0_76, List.forall_mem_cons.mpr ⟨pR_0_77, List.forall_mem_cons.mpr ⟨pR_0_78, List.forall_mem_cons.mpr ⟨pR_0_79, List.forall_mem_cons.mpr ⟨pR_0_80, List.forall_mem_cons.mpr ⟨pR_0_81, List.forall_mem_cons.mpr ⟨pR_0_82, List.forall_mem_cons.mpr ⟨pR_0_83, List.forall_mem_cons.mpr ⟨pR_0_84, List.forall_mem_cons.mpr ⟨pR_0_85, List.forall_mem_cons.mpr ⟨pR_0_86, List.forall_mem_cons.mpr ⟨pR_0_87, List.forall_mem_cons.mpr ⟨pR_0_88, List.forall_mem_cons.mpr ⟨pR_0_89, List.forall_mem_cons.mpr ⟨pR_0_90, List.forall_mem_cons.mpr ⟨pR_0_91, List.forall_mem_cons.mpr ⟨pR_0_92, List.forall_mem_cons.mpr ⟨pR_0_93, List.forall_mem_cons.mpr ⟨pR_0_94, List.forall_mem_cons.mpr ⟨pR_0_95, List.forall_mem_cons.mpr ⟨pR_0_96, List.forall_mem_cons.mpr ⟨pR_0_97, List.forall_mem_cons.mpr ⟨pR_0_98, List.forall_mem_cons.mpr ⟨pR_0_99, List.forall_mem_cons.mpr ⟨pR_0_100, List.forall_mem_cons.mpr ⟨pR_0_101, List.forall_mem_cons.mpr ⟨pR_0_102, List.forall_mem_cons.mpr ⟨pR_0_103, List.forall_mem_cons.mpr ⟨pR_0_104, List.forall_mem_cons.mpr ⟨pR_0_105, List.forall_mem_cons.mpr ⟨pR_0_106, List.forall_mem_cons.mpr ⟨pR_0_107, List.forall_mem_cons.mpr ⟨pR_0_108, List.forall_mem_cons.mpr ⟨pR_0_109, List.forall_mem_cons.mpr ⟨pR_0_110, List.forall_mem_cons.mpr ⟨pR_0_111, List.forall_mem_cons.mpr ⟨pR_0_112, List.forall_mem_cons.mpr ⟨pR_0_113, List.forall_mem_cons.mpr ⟨pR_0_114, fun _ h => absurd h List.not_mem_nil⟩⟩⟩⟩⟩⟩⟩⟩⟩⟩⟩⟩⟩⟩⟩⟩⟩⟩⟩⟩⟩⟩⟩⟩⟩⟩⟩⟩⟩⟩⟩⟩⟩⟩⟩⟩⟩⟩⟩⟩⟩⟩⟩⟩⟩⟩⟩⟩⟩⟩⟩⟩⟩⟩⟩⟩⟩⟩⟩⟩⟩⟩⟩⟩⟩⟩⟩⟩⟩⟩⟩⟩⟩⟩⟩⟩⟩⟩⟩⟩⟩⟩⟩⟩⟩⟩⟩⟩⟩⟩⟩⟩⟩⟩⟩⟩⟩⟩⟩⟩⟩⟩⟩⟩⟩⟩⟩⟩⟩⟩⟩⟩⟩⟩⟩)
set_option maxRecDepth 100000 in
theorem pK_0 : px_chkK pm_0 [[199], [201, 202, 203], [1657], [1659, 1660, 1661], [637, 638], [2478, 2479, 2480], [1839, 1840, 1841], [715, 716], [2482, 2483, 2484], [741, 742], [1843, 1844, 1845], [1066, 1067], [2229, 2230, 2231], [629, 630, 631], [2287, 2288, 2289], [1171, 1172], [2486, 2487, 2488], [1206, 1207], [2496, 2497, 2498], [1216, 1217], [2500, 2501, 2502], [1230, 1231], [2504, 2505, 2506], [1237, 1238], [2508, 2509, 2510], [1244, 1245], [2291, 2292, 2293], [1319, 1320], [2321, 2322, 2323], [1330, 1331], [2325, 2326, 2327], [1341, 1342], [2329, 2330, 2331], [1474, 1475], [2413, 2414, 2415], [1485, 1486], [2429, 2430, 2431], [1498, 1499], [2433, 2434, 2435], [1514, 1515], [2437, 2438, 2439], [1593, 1594], [2474, 2475, 2476], [1612, 1613], [2512, 2513, 2514], [1629, 1630], [2520, 2521, 2522], [1643, 1644], [2524, 2525, 2526], [1650, 1651], [2529, 2530, 2531]] = true := by decide +kernel
theorem pO_0 : px_okM pm_0 := px_chkM_ok px_allY_ok pD_0 pK_0
end
section
/-! Written by wip/p1/gen2.py. -/
set_option maxRecDepth 100000 in
theorem pR_1_0 : px_chkR prog_1_method_1_code pr_1_0 = true := by decide +kernel
set_option maxRecDepth 100000 in
theorem pR_1_1 : px_chkR prog_1_method_1_code pr_1_1 = true := by decide +kernel
set_option maxRecDepth 100000 in
theorem pR_1_2 : px_chkR prog_1_method_1_code pr_1_2 = true := by decide +kernel
set_option maxRecDepth 100000 in
theorem pR_1_3 : px_chkR prog_1_method_1_code pr_1_3 = true := by decide +kernel
set_option maxRecDepth 100000 in
theorem pR_1_4 : px_chkR prog_1_method_1_code pr_1_4 = true := by decide +kernel
set_option maxRecDepth 100000 in
theorem pR_1_5 : px_chkR prog_1_method_1_code pr_1_5 = true := by decide +kernel
set_option maxRecDepth 100000 in
theorem pR_1_6 : px_chkR prog_1_method_1_code pr_1_6 = true := by decide +kernel
set_option maxRecDepth 100000 in
theorem pR_1_7 : px_chkR prog_1_method_1_code pr_1_7 = true := by decide +kernel
set_option maxRecDepth 100000 in
theorem pR_1_8 : px_chkR prog_1_method_1_code pr_1_8 = true := by decide +kernel
set_option maxRecDepth 100000 in
theorem pR_1_9 : px_chkR prog_1_method_1_code pr_1_9 = true := by decide +kernel
set_option maxRecDepth 100000 in
theorem pR_1_10 : px_chkR prog_1_method_1_code pr_1_10 = true := by decide +kernel
set_option maxRecDepth 100000 in
theorem pR_1_11 : px_chkR prog_1_method_1_code pr_1_11 = true := by decide +kernel
set_option maxRecDepth 100000 in
theorem pR_1_12 : px_chkR prog_1_method_1_code pr_1_12 = true := by decide +kernel
set_option maxRecDepth 100000 in
theorem pR_1_13 : px_chkR prog_1_method_1_code pr_1_13 = true := by decide +kernel
set_option maxRecDepth 100000 in
theorem pR_1_14 : px_chkR prog_1_method_1_code pr_1_14 = true := by decide +kernel
theorem pD_1 : px_chkD pm_1 = true := px_chkD_of (show ∀ row ∈ [pr_1_0, pr_1_1, pr_1_2, pr_1_3, pr_1_4, pr_1_5, pr_1_6, pr_1_7, pr_1_8, pr_1_9, pr_1_10, pr_1_11, pr_1_12, pr_1_13, pr_1_14], px_chkR prog_1_method_1_code row = true from List.forall_mem_cons.mpr ⟨pR_1_0, List.forall_mem_cons.mpr ⟨pR_1_1, List.forall_mem_cons.mpr ⟨pR_1_2, List.forall_mem_cons.mpr ⟨pR_1_3, List.forall_mem_cons.mpr ⟨pR_1_4, List.forall_mem_cons.mpr ⟨pR_1_5, List.forall_mem_cons.mpr ⟨pR_1_6, List.forall_mem_cons.mpr ⟨pR_1_7, List.forall_mem_cons.mpr ⟨pR_1_8, List.forall_mem_cons.mpr ⟨pR_1_9, List.forall_mem_cons.mpr ⟨pR_1_10, List.forall_mem_cons.mpr ⟨pR_1_11, List.forall_mem_cons.mpr ⟨pR_1_12, List.forall_mem_cons.mpr ⟨pR_1_13, List.forall_mem_cons.mpr ⟨pR_1_14, fun _ h => absurd h List.not_mem_nil⟩⟩⟩⟩⟩⟩⟩⟩⟩⟩⟩⟩⟩⟩⟩)
set_option maxRecDepth 100000 in
theorem pK_1 : px_chkK pm_1 [[204, 205, 206], [580], [207], [582], [208], [584], [211, 212, 213], [585], [586], [587], [234], [236, 237, 238], [588], [396], [398, 399, 400], [589], [421], [423, 424, 425], [590], [458], [460, 461, 462], [591], [480], [482, 483, 484], [592], [509], [511, 512, 513], [593], [546], [548, 549, 550], [594], [595], [208, 209]] = true := by decide +kernel
theorem pO_1 : px_okM pm_1 := px_chkM_ok px_allY_ok pD_1 pK_1
set_option maxRecDepth 100000 in
theorem pR_2_0 : px_chkR prog_1_method_21_code pr_2_0 = true := by decide +kernel
theorem pD_2 : px_chkD pm_2 = true := px_chkD_of (show ∀ row ∈ [pr_2_0], px_chkR prog_1_method_21_code row = true from List.forall_mem_cons.mpr ⟨pR_2_0, fun _ h => absurd h List.not_mem_nil⟩)
set_option maxRecDepth 100000 in
theorem pK_2 : px_chkK pm_2 [[723, 724], [1189], [1251, 1253, 50]] = true := by decide +kernel
theorem pO_2 : px_okM pm_2 := px_chkM_ok px_allY_ok pD_2 pK_2
set_option maxRecDepth 100000 in
theorem pR_3_0 : px_chkR prog_1_method_8_code pr_3_0 = true := by decide +kernel
set_option maxRecDepth 100000 in
theorem pR_3_1 : px_chkR prog_1_method_8_code pr_3_1 = true := by decide +kernel
set_option maxRecDepth 100000 in
theorem pR_3_2 : px_chkR prog_1_method_8_code pr_3_2 = true := by decide +kernel
theorem pD_3 : px_chkD pm_3 = true := px_chkD_of (show ∀ row ∈ [pr_3_0, pr_3_1, pr_3_2], px_chkR prog_1_method_8_code row = true from List.forall_mem_cons.mpr ⟨pR_3_0, List.forall_mem_cons.mpr ⟨pR_3_1, List.forall_mem_cons.mpr ⟨pR_3_2, fun _ h => absurd h List.not_mem_nil⟩⟩⟩)
set_option maxRecDepth 100000 in
theorem pK_3 : px_chkK pm_3 [[584], [723, 724], [226], [1178, 1179], [1189], [1202, 1203, 1204], [1213, 1214]] = true := by decide +kernel
theorem pO_3 : px_okM pm_3 := px_chkM_ok px_allY_ok pD_3 pK_3
set_option maxRecDepth 100000 in
theorem pR_4_0 : px_chkR prog_1_method_22_code pr_4_0 = true := by decide +kernel
set_option maxRecDepth 100000 in
theorem pR_4_1 : px_chkR prog_1_method_22_code pr_4_1 = true := by decide +kernel
set_option maxRecDepth 100000 in
theorem pR_4_2 : px_chkR prog_1_method_22_code pr_4_2 = true := by decide +kernel
set_option maxRecDepth 100000 in
theorem pR_4_3 : px_chkR prog_1_method_22_code pr_4_3 = true := by decide +kernel
theorem pD_4 : px_chkD pm_4 = true := px_chkD_of (show ∀ row ∈ [pr_4_0, pr_4_1, pr_4_2, pr_4_3], px_chkR prog_1_method_22_code row = true from List.forall_mem_cons.mpr ⟨pR_4_0, List.forall_mem_cons.mpr ⟨pR_4_1, List.forall_mem_cons.mpr ⟨pR_4_2, List.forall_mem_cons.mpr ⟨pR_4_3, fun _ h => absurd h List.not_mem_nil⟩⟩⟩⟩)
set_option maxRecDepth 100000 in
theorem pK_4 : px_chkK pm_4 [[584], [226], [1178, 1179], [583], [1636, 1637]] = true := by decide +kernel
theorem pO_4 : px_okM pm_4 := px_chkM_ok px_allY_ok pD_4 pK_4
set_option maxRecDepth 100000 in
theorem pR_5_0 : px_chkR prog_1_method_15_code pr_5_0 = true := by decide +kernel
set_option maxRecDepth 100000 in
theorem pR_5_1 : px_chkR prog_1_method_15_code pr_5_1 = true := by decide +kernel
theorem pD_5 : px_chkD pm_5 = true := px_chkD_of (show ∀ row ∈ [pr_5_0, pr_5_1], px_chkR prog_1_method_15_code row = true from List.forall_mem_cons.mpr ⟨pR_5_0, List.forall_mem_cons.mpr ⟨pR_5_1, fun _ h => absurd h List.not_mem_nil⟩⟩)
set_option maxRecDepth 100000 in
theorem pK_5 : px_chkK pm_5 [[723, 724], [1178, 1179], [1251, 1253, 50]] = true := by decide +kernel
theorem pO_5 : px_okM pm_5 := px_chkM_ok px_allY_ok pD_5 pK_5
set_option maxRecDepth 100000 in
theorem pR_6_0 : px_chkR prog_1_method_20_code pr_6_0 = true := by decide +kernel
theorem pD_6 : px_chkD pm_6 = true := px_chkD_of (show ∀ row ∈ [pr_6_0], px_chkR prog_1_method_20_code row = true from List.forall_mem_cons.mpr ⟨pR_6_0, fun _ h => absurd h List.not_mem_nil⟩)
set_option maxRecDepth 100000 in
theorem pK_6 : px_chkK pm_6 [[723, 724], [1178, 1179], [1251, 1253, 50]] = true := by decide +kernel
theorem pO_6 : px_okM pm_6 := px_chkM_ok px_allY_ok pD_6 pK_6
set_option maxRecDepth 100000 in
theorem pR_7_0 : px_chkR prog_1_method_24_code pr_7_0 = true := by decide +kernel
set_option maxRecDepth 100000 in
theorem pR_7_2 : px_chkR prog_1_method_24_code pr_7_2 = true := by decide +kernel
set_option maxRecDepth 100000 in
theorem pR_7_3 : px_chkR prog_1_method_24_code pr_7_3 = true := by decide +kernel
set_option maxRecDepth 100000 in
theorem pR_7_4 : px_chkR prog_1_method_24_code pr_7_4 = true := by decide +kernel
theorem pD_7 : px_chkD pm_7 = true := px_chkD_of (show ∀ row ∈ [pr_7_0, [], pr_7_2, pr_7_3, pr_7_4], px_chkR prog_1_method_24_code row = true from List.forall_mem_cons.mpr ⟨pR_7_0, List.forall_mem_cons.mpr ⟨rfl, List.forall_mem_cons.mpr ⟨pR_7_2, List.forall_mem_cons.mpr ⟨pR_7_3, List.forall_mem_cons.mpr ⟨pR_7_4, fun _ h => absurd h List.not_mem_nil⟩⟩⟩⟩⟩)
set_option maxRecDepth 100000 in
theorem pK_7 : px_chkK pm_7 [[588], [581], [723, 724], [377], [583], [375]] = true := by decide +kernel
theorem pO_7 : px_okM pm_7 := px_chkM_ok px_allY_ok pD_7 pK_7
set_option maxRecDepth 100000 in
theorem pR_8_0 : px_chkR prog_1_method_17_code pr_8_0 = true := by decide +kernel
theorem pD_8 : px_chkD pm_8 = true := px_chkD_of (show ∀ row ∈ [pr_8_0], px_chkR prog_1_method_17_code row = true from List.forall_mem_cons.mpr ⟨pR_8_0, fun _ h => absurd h List.not_mem_nil⟩)
set_option maxRecDepth 100000 in
theorem pK_8 : px_chkK pm_8 [[1251, 1253, 50], [1492, 1494, 79]] = true := by decide +kernel
theorem pO_8 : px_okM pm_8 := px_chkM_ok px_allY_ok pD_8 pK_8
set_option maxRecDepth 100000 in
theorem pR_9_0 : px_chkR prog_1_method_3_code pr_9_0 = true := by decide +kernel
theorem pD_9 : px_chkD pm_9 = true := px_chkD_of (show ∀ row ∈ [pr_9_0], px_chkR prog_1_method_3_code row = true from List.forall_mem_cons.mpr ⟨pR_9_0, fun _ h => absurd h List.not_mem_nil⟩)
set_option maxRecDepth 100000 in
theorem pK_9 : px_chkK pm_9 [[581], [723, 724]] = true := by decide +kernel
theorem pO_9 : px_okM pm_9 := px_chkM_ok px_allY_ok pD_9 pK_9
set_option maxRecDepth 100000 in
theorem pR_10_0 : px_chkR prog_1_method_2_code pr_10_0 = true := by decide +kernel
set_option maxRecDepth 100000 in
theorem pR_10_1 : px_chkR prog_1_method_2_code pr_10_1 = true := by decide +kernel
set_option maxRecDepth 100000 in
theorem pR_10_2 : px_chkR prog_1_method_2_code pr_10_2 = true := by decide +kernel
set_option maxRecDepth 100000 in
theorem pR_10_3 : px_chkR prog_1_method_2_code pr_10_3 = true := by decide +kernel
theorem pD_10 : px_chkD pm_10 = true := px_chkD_of (show ∀ row ∈ [pr_10_0, pr_10_1, pr_10_2, pr_10_3], px_chkR prog_1_method_2_code row = true from List.forall_mem_cons.mpr ⟨pR_10_0, List.forall_mem_cons.mpr ⟨pR_10_1, List.forall_mem_cons.mpr ⟨pR_10_2, List.forall_mem_cons.mpr ⟨pR_10_3, fun _ h => absurd h List.not_mem_nil⟩⟩⟩⟩)
set_option maxRecDepth 100000 in
theorem pK_10 : px_chkK pm_10 [[581], [711, 713, 1]] = true := by decide +kernel
theorem pO_10 : px_okM pm_10 := px_chkM_ok px_allY_ok pD_10 pK_10
set_option maxRecDepth 100000 in
theorem pR_11_0 : px_chkR prog_1_method_31_code pr_11_0 = true := by decide +kernel
set_option maxRecDepth 100000 in
theorem pR_11_1 : px_chkR prog_1_method_31_code pr_11_1 = true := by decide +kernel
set_option maxRecDepth 100000 in
theorem pR_11_2 : px_chkR prog_1_method_31_code pr_11_2 = true := by decide +kernel
theorem pD_11 : px_chkD pm_11 = true := px_chkD_of (show ∀ row ∈ [pr_11_0, pr_11_1, pr_11_2], px_chkR prog_1_method_31_code row = true from List.forall_mem_cons.mpr ⟨pR_11_0, List.forall_mem_cons.mpr ⟨pR_11_1, List.forall_mem_cons.mpr ⟨pR_11_2, fun _ h => absurd h List.not_mem_nil⟩⟩⟩)
set_option maxRecDepth 100000 in
theorem pK_11 : px_chkK pm_11 [[580], [581]] = true := by decide +kernel
theorem pO_11 : px_okM pm_11 := px_chkM_ok px_allY_ok pD_11 pK_11
set_option maxRecDepth 100000 in
theorem pR_12_0 : px_chkR prog_1_method_40_code pr_12_0 = true := by decide +kernel
set_option maxRecDepth 100000 in
theorem pR_12_1 : px_chkR prog_1_method_40_code pr_12_1 = true := by decide +kernel
theorem pD_12 : px_chkD pm_12 = true := px_chkD_of (show ∀ row ∈ [pr_12_0, pr_12_1], px_chkR prog_1_method_40_code row = true from List.forall_mem_cons.mpr ⟨pR_12_0, List.forall_mem_cons.mpr ⟨pR_12_1, fun _ h => absurd h List.not_mem_nil⟩⟩)
set_option maxRecDepth 100000 in
theorem pK_12 : px_chkK pm_12 [[226]] = true := by decide +kernel
theorem pO_12 : px_okM pm_12 := px_chkM_ok px_allY_ok pD_12 pK_12
set_option maxRecDepth 100000 in
theorem pR_13_0 : px_chkR prog_1_method_13_code pr_13_0 = true := by decide +kernel
theorem pD_13 : px_chkD pm_13 = true := px_chkD_of (show ∀ row ∈ [pr_13_0], px_chkR prog_1_method_13_code row = true from List.forall_mem_cons.mpr ⟨pR_13_0, fun _ h => absurd h List.not_mem_nil⟩)
set_option maxRecDepth 100000 in
theorem pK_13 : px_chkK pm_13 [[723, 724], [1178, 1179], [1251, 1253, 50]] = true := by decide +kernel
theorem pO_13 : px_okM pm_13 := px_chkM_ok px_allY_ok pD_13 pK_13
set_option maxRecDepth 100000 in
theorem pR_14_0 : px_chkR prog_1_method_14_code pr_14_0 = true := by decide +kernel
set_option maxRecDepth 100000 in
theorem pR_14_1 : px_chkR prog_1_method_14_code pr_14_1 = true := by decide +kernel
theorem pD_14 : px_chkD pm_14 = true := px_chkD_of (show ∀ row ∈ [pr_14_0, pr_14_1], px_chkR prog_1_method_14_code row = true from List.forall_mem_cons.mpr ⟨pR_14_0, List.forall_mem_cons.mpr ⟨pR_14_1, fun _ h => absurd h List.not_mem_nil⟩⟩)
set_option maxRecDepth 100000 in
theorem pK_14 : px_chkK pm_14 [[723, 724], [1178, 1179], [1251, 1253, 50]] = true := by decide +kernel
theorem pO_14 : px_okM pm_14 := px_chkM_ok px_allY_ok pD_14 pK_14
set_option maxRecDepth 100000 in
theorem pR_15_0 : px_chkR prog_1_method_19_code pr_15_0 = true := by decide +kernel
theorem pD_15 : px_chkD pm_15 = true := px_chkD_of (show ∀ row ∈ [pr_15_0], px_chkR prog_1_method_19_code row = true from List.forall_mem_cons.mpr ⟨pR_15_0, fun _ h => absurd h List.not_mem_nil⟩)
set_option maxRecDepth 100000 in
theorem pK_15 : px_chkK pm_15 [[723, 724], [1178, 1179], [1251, 1253, 50]] = true := by decide +kernel
theorem pO_15 : px_okM pm_15 := px_chkM_ok px_allY_ok pD_15 pK_15
set_option maxRecDepth 100000 in
theorem pR_16_0 : px_chkR prog_1_method_4_code pr_16_0 = true := by decide +kernel
set_option maxRecDepth 100000 in
theorem pR_16_1 : px_chkR prog_1_method_4_code pr_16_1 = true := by decide +kernel
set_option maxRecDepth 100000 in
theorem pR_16_2 : px_chkR prog_1_method_4_code pr_16_2 = true := by decide +kernel
theorem pD_16 : px_chkD pm_16 = true := px_chkD_of (show ∀ row ∈ [pr_16_0, pr_16_1, pr_16_2], px_chkR prog_1_method_4_code row = true from List.forall_mem_cons.mpr ⟨pR_16_0, List.forall_mem_cons.mpr ⟨pR_16_1, List.forall_mem_cons.mpr ⟨pR_16_2, fun _ h => absurd h List.not_mem_nil⟩⟩⟩)
set_option maxRecDepth 100000 in
theorem pK_16 : px_chkK pm_16 [[589], [581], [723, 724], [750, 752, 2], [769, 770, 771], [1051], [1060]] = true := by decide +kernel
theorem pO_16 : px_okM pm_16 := px_chkM_ok px_allY_ok pD_16 pK_16
set_option maxRecDepth 100000 in
theorem pR_17_0 : px_chkR prog_1_method_16_code pr_17_0 = true := by decide +kernel
theorem pD_17 : px_chkD pm_17 = true := px_chkD_of (show ∀ row ∈ [pr_17_0], px_chkR prog_1_method_16_code row = true from List.forall_mem_cons.mpr ⟨pR_17_0, fun _ h => absurd h List.not_mem_nil⟩)
set_option maxRecDepth 100000 in
theorem pK_17 : px_chkK pm_17 [[723, 724], [1178, 1179], [1251, 1253, 50]] = true := by decide +kernel
theorem pO_17 : px_okM pm_17 := px_chkM_ok px_allY_ok pD_17 pK_17
set_option maxRecDepth 100000 in
theorem pR_18_0 : px_chkR prog_1_method_18_code pr_18_0 = true := by decide +kernel
theorem pD_18 : px_chkD pm_18 = true := px_chkD_of (show ∀ row ∈ [pr_18_0], px_chkR prog_1_method_18_code row = true from List.forall_mem_cons.mpr ⟨pR_18_0, fun _ h => absurd h List.not_mem_nil⟩)
set_option maxRecDepth 100000 in
theorem pK_18 : px_chkK pm_18 [[1251, 1253, 50], [1492, 1494, 79]] = true := by decide +kernel
theorem pO_18 : px_okM pm_18 := px_chkM_ok px_allY_ok pD_18 pK_18
set_option maxRecDepth 100000 in
theorem pR_19_0 : px_chkR prog_1_method_12_code pr_19_0 = true := by decide +kernel
theorem pD_19 : px_chkD pm_19 = true := px_chkD_of (show ∀ row ∈ [pr_19_0], px_chkR prog_1_method_12_code row = true from List.forall_mem_cons.mpr ⟨pR_19_0, fun _ h => absurd h List.not_mem_nil⟩)
set_option maxRecDepth 100000 in
theorem pK_19 : px_chkK pm_19 [[723, 724], [1178, 1179], [1251, 1253, 50]] = true := by decide +kernel
theorem pO_19 : px_okM pm_19 := px_chkM_ok px_allY_ok pD_19 pK_19
set_option maxRecDepth 100000 in
theorem pR_20_0 : px_chkR prog_1_method_9_code pr_20_0 = true := by decide +kernel
set_option maxRecDepth 100000 in
theorem pR_20_1 : px_chkR prog_1_method_9_code pr_20_1 = true := by decide +kernel
set_option maxRecDepth 100000 in
theorem pR_20_2 : px_chkR prog_1_method_9_code pr_20_2 = true := by decide +kernel
set_option maxRecDepth 100000 in
theorem pR_20_3 : px_chkR prog_1_method_9_code pr_20_3 = true := by decide +kernel
theorem pD_20 : px_chkD pm_20 = true := px_chkD_of (show ∀ row ∈ [pr_20_0, pr_20_1, pr_20_2, pr_20_3], px_chkR prog_1_method_9_code row = true from List.forall_mem_cons.mpr ⟨pR_20_0, List.forall_mem_cons.mpr ⟨pR_20_1, List.forall_mem_cons.mpr ⟨pR_20_2, List.forall_mem_cons.mpr ⟨pR_20_3, fun _ h => absurd h List.not_mem_nil⟩⟩⟩⟩)
set_option maxRecDepth 100000 in
theorem pK_20 : px_chkK pm_20 [[584], [723, 724], [226], [1178, 1179], [1223, 1224, 1225]] = true := by decide +kernel
theorem pO_20 : px_okM pm_20 := px_chkM_ok px_allY_ok pD_20 pK_20
set_option maxRecDepth 100000 in
theorem pR_21_0 : px_chkR prog_1_method_10_code pr_21_0 = true := by decide +kernel
set_option maxRecDepth 100000 in
theorem pR_21_1 : px_chkR prog_1_method_10_code pr_21_1 = true := by decide +kernel
theorem pD_21 : px_chkD pm_21 = true := px_chkD_of (show ∀ row ∈ [pr_21_0, pr_21_1], px_chkR prog_1_method_10_code row = true from List.forall_mem_cons.mpr ⟨pR_21_0, List.forall_mem_cons.mpr ⟨pR_21_1, fun _ h => absurd h List.not_mem_nil⟩⟩)
set_option maxRecDepth 100000 in
theorem pK_21 : px_chkK pm_21 [[584], [226], [1178, 1179], [1213, 1214]] = true := by decide +kernel
theorem pO_21 : px_okM pm_21 := px_chkM_ok px_allY_ok pD_21 pK_21
set_option maxRecDepth 100000 in
theorem pR_22_0 : px_chkR prog_1_method_35_code pr_22_0 = true := by decide +kernel
set_option maxRecDepth 100000 in
theorem pR_22_2 : px_chkR prog_1_method_35_code pr_22_2 = true := by decide +kernel
theorem pD_22 : px_chkD pm_22 = true := px_chkD_of (show ∀ row ∈ [pr_22_0, [], pr_22_2], px_chkR prog_1_method_35_code row = true from List.forall_mem_cons.mpr ⟨pR_22_0, List.forall_mem_cons.mpr ⟨rfl, List.forall_mem_cons.mpr ⟨pR_22_2, fun _ h => absurd h List.not_mem_nil⟩⟩⟩)
set_option maxRecDepth 100000 in
theorem pK_22 : px_chkK pm_22 [] = true := by decide +kernel
theorem pO_22 : px_okM pm_22 := px_chkM_ok px_allY_ok pD_22 pK_22
set_option maxRecDepth 100000 in
theorem pR_23_0 : px_chkR prog_1_method_36_code pr_23_0 = true := by decide +kernel
set_option maxRecDepth 100000 in
theorem pR_23_3 : px_chkR prog_1_method_36_code pr_23_3 = true := by decide +kernel
theorem pD_23 : px_chkD pm_23 = true := px_chkD_of (show ∀ row ∈ [pr_23_0, [], [], pr_23_3], px_chkR prog_1_method_36_code row = true from List.forall_mem_cons.mpr ⟨pR_23_0, List.forall_mem_cons.mpr ⟨rfl, List.forall_mem_cons.mpr ⟨rfl, List.forall_mem_cons.mpr ⟨pR_23_3, fun _ h => absurd h List.not_mem_nil⟩⟩⟩⟩)
set_option maxRecDepth 100000 in
theorem pK_23 : px_chkK pm_23 [[226]] = true := by decide +kernel
theorem pO_23 : px_okM pm_23 := px_chkM_ok px_allY_ok pD_23 pK_23
set_option maxRecDepth 100000 in
theorem pR_24_0 : px_chkR prog_1_method_29_code pr_24_0 = true := by decide +kernel
set_option maxRecDepth 100000 in
theorem pR_24_1 : px_chkR prog_1_method_29_code pr_24_1 = true := by decide +kernel
theorem pD_24 : px_chkD pm_24 = true := px_chkD_of (show ∀ row ∈ [pr_24_0, pr_24_1], px_chkR prog_1_method_29_code row = true from List.forall_mem_cons.mpr ⟨pR_24_0, List.forall_mem_cons.mpr ⟨pR_24_1, fun _ h => absurd h List.not_mem_nil⟩⟩)
set_option maxRecDepth 100000 in
theorem pK_24 : px_chkK pm_24 [[588], [377]] = true := by decide +kernel
theorem pO_24 : px_okM pm_24 := px_chkM_ok px_allY_ok pD_24 pK_24
set_option maxRecDepth 100000 in
theorem pR_25_0 : px_chkR prog_1_method_27_code pr_25_0 = true := by decide +kernel
set_option maxRecDepth 100000 in
theorem pR_25_1 : px_chkR prog_1_method_27_code pr_25_1 = true := by decide +kernel
theorem pD_25 : px_chkD pm_25 = true := px_chkD_of (show ∀ row ∈ [pr_25_0, pr_25_1], px_chkR prog_1_method_27_code row = true from List.forall_mem_cons.mpr ⟨pR_25_0, List.forall_mem_cons.mpr ⟨pR_25_1, fun _ h => absurd h List.not_mem_nil⟩⟩)
set_option maxRecDepth 100000 in
theorem pK_25 : px_chkK pm_25 [[584], [723, 724], [226], [1178, 1179]] = true := by decide +kernel
theorem pO_25 : px_okM pm_25 := px_chkM_ok px_allY_ok pD_25 pK_25
set_option maxRecDepth 100000 in
theorem pR_26_0 : px_chkR prog_1_method_25_code pr_26_0 = true := by decide +kernel
set_option maxRecDepth 100000 in
theorem pR_26_1 : px_chkR prog_1_method_25_code pr_26_1 = true := by decide +kernel
theorem pD_26 : px_chkD pm_26 = true := px_chkD_of (show ∀ row ∈ [pr_26_0, pr_26_1], px_chkR prog_1_method_25_code row = true from List.forall_mem_cons.mpr ⟨pR_26_0, List.forall_mem_cons.mpr ⟨pR_26_1, fun _ h => absurd h List.not_mem_nil⟩⟩)
set_option maxRecDepth 100000 in
theorem pK_26 : px_chkK pm_26 [[726], [735]] = true := by decide +kernel
theorem pO_26 : px_okM pm_26 := px_chkM_ok px_allY_ok pD_26 pK_26
set_option maxRecDepth 100000 in
theorem pR_27_0 : px_chkR prog_1_method_30_code pr_27_0 = true := by decide +kernel
theorem pD_27 : px_chkD pm_27 = true := px_chkD_of (show ∀ row ∈ [pr_27_0], px_chkR prog_1_method_30_code row = true from List.forall_mem_cons.mpr ⟨pR_27_0, fun _ h => absurd h List.not_mem_nil⟩)
set_option maxRecDepth 100000 in
theorem pK_27 : px_chkK pm_27 [[645], [688]] = true := by decide +kernel
theorem pO_27 : px_okM pm_27 := px_chkM_ok px_allY_ok pD_27 pK_27
set_option maxRecDepth 100000 in
theorem pR_28_0 : px_chkR prog_1_method_28_code pr_28_0 = true := by decide +kernel
set_option maxRecDepth 100000 in
theorem pR_28_1 : px_chkR prog_1_method_28_code pr_28_1 = true := by decide +kernel
theorem pD_28 : px_chkD pm_28 = true := px_chkD_of (show ∀ row ∈ [pr_28_0, pr_28_1], px_chkR prog_1_method_28_code row = true from List.forall_mem_cons.mpr ⟨pR_28_0, List.forall_mem_cons.mpr ⟨pR_28_1, fun _ h => absurd h List.not_mem_nil⟩⟩)
set_option maxRecDepth 100000 in
theorem pK_28 : px_chkK pm_28 [[588], [377], [754], [763]] = true := by decide +kernel
theorem pO_28 : px_okM pm_28 := px_chkM_ok px_allY_ok pD_28 pK_28
set_option maxRecDepth 100000 in
theorem pR_29_0 : px_chkR prog_1_method_26_code pr_29_0 = true := by decide +kernel
theorem pD_29 : px_chkD pm_29 = true := px_chkD_of (show ∀ row ∈ [pr_29_0], px_chkR prog_1_method_26_code row = true from List.forall_mem_cons.mpr ⟨pR_29_0, fun _ h => absurd h List.not_mem_nil⟩)
set_option maxRecDepth 100000 in
theorem pK_29 : px_chkK pm_29 [[723, 724]] = true := by decide +kernel
theorem pO_29 : px_okM pm_29 := px_chkM_ok px_allY_ok pD_29 pK_29
set_option maxRecDepth 100000 in
theorem pR_30_0 : px_chkR prog_1_method_6_code pr_30_0 = true := by decide +kernel
set_option maxRecDepth 100000 in
theorem pR_30_1 : px_chkR prog_1_method_6_code pr_30_1 = true := by decide +kernel
set_option maxRecDepth 100000 in
theorem pR_30_2 : px_chkR prog_1_method_6_code pr_30_2 = true := by decide +kernel
set_option maxRecDepth 100000 in
theorem pR_30_3 : px_chkR prog_1_method_6_code pr_30_3 = true := by decide +kernel
theorem pD_30 : px_chkD pm_30 = true := px_chkD_of (show ∀ row ∈ [pr_30_0, pr_30_1, pr_30_2, pr_30_3], px_chkR prog_1_method_6_code row = true from List.forall_mem_cons.mpr ⟨pR_30_0, List.forall_mem_cons.mpr ⟨pR_30_1, List.forall_mem_cons.mpr ⟨pR_30_2, List.forall_mem_cons.mpr ⟨pR_30_3, fun _ h => absurd h List.not_mem_nil⟩⟩⟩⟩)
set_option maxRecDepth 100000 in
theorem pK_30 : px_chkK pm_30 [[584], [588], [377], [633, 634, 635], [226]] = true := by decide +kernel
theorem pO_30 : px_okM pm_30 := px_chkM_ok px_allY_ok pD_30 pK_30
set_option maxRecDepth 100000 in
theorem pR_31_0 : px_chkR prog_1_method_5_code pr_31_0 = true := by decide +kernel
set_option maxRecDepth 100000 in
theorem pR_31_1 : px_chkR prog_1_method_5_code pr_31_1 = true := by decide +kernel
set_option maxRecDepth 100000 in
theorem pR_31_2 : px_chkR prog_1_method_5_code pr_31_2 = true := by decide +kernel
theorem pD_31 : px_chkD pm_31 = true := px_chkD_of (show ∀ row ∈ [pr_31_0, pr_31_1, pr_31_2], px_chkR prog_1_method_5_code row = true from List.forall_mem_cons.mpr ⟨pR_31_0, List.forall_mem_cons.mpr ⟨pR_31_1, List.forall_mem_cons.mpr ⟨pR_31_2, fun _ h => absurd h List.not_mem_nil⟩⟩⟩)
set_option maxRecDepth 100000 in
theorem pK_31 : px_chkK pm_31 [[588], [590], [750, 752, 2], [1074, 1075, 1076], [377], [438]] = true := by decide +kernel
theorem pO_31 : px_okM pm_31 := px_chkM_ok px_allY_ok pD_31 pK_31
set_option maxRecDepth 100000 in
theorem pR_32_0 : px_chkR prog_1_method_11_code pr_32_0 = true := by decide +kernel
theorem pD_32 : px_chkD pm_32 = true := px_chkD_of (show ∀ row ∈ [pr_32_0], px_chkR prog_1_method_11_code row = true from List.forall_mem_cons.mpr ⟨pR_32_0, fun _ h => absurd h List.not_mem_nil⟩)
set_option maxRecDepth 100000 in
theorem pK_32 : px_chkK pm_32 [[584], [226], [1178, 1179]] = true := by decide +kernel
theorem pO_32 : px_okM pm_32 := px_chkM_ok px_allY_ok pD_32 pK_32
set_option maxRecDepth 100000 in
theorem pR_33_0 : px_chkR prog_1_method_7_code pr_33_0 = true := by decide +kernel
set_option maxRecDepth 100000 in
theorem pR_33_1 : px_chkR prog_1_method_7_code pr_33_1 = true := by decide +kernel
set_option maxRecDepth 100000 in
theorem pR_33_2 : px_chkR prog_1_method_7_code pr_33_2 = true := by decide +kernel
set_option maxRecDepth 100000 in
theorem pR_33_3 : px_chkR prog_1_method_7_code pr_33_3 = true := by decide +kernel
theorem pD_33 : px_chkD pm_33 = true := px_chkD_of (show ∀ row ∈ [pr_33_0, pr_33_1, pr_33_2, pr_33_3], px_chkR prog_1_method_7_code row = true from List.forall_mem_cons.mpr ⟨pR_33_0, List.forall_mem_cons.mpr ⟨pR_33_1, List.forall_mem_cons.mpr ⟨pR_33_2, List.forall_mem_cons.mpr ⟨pR_33_3, fun _ h => absurd h List.not_mem_nil⟩⟩⟩⟩)
set_option maxRecDepth 100000 in
theorem pK_33 : px_chkK pm_33 [[584], [581], [1178, 1179], [1181, 1183, 47], [1198, 1200, 49]] = true := by decide +kernel
theorem pO_33 : px_okM pm_33 := px_chkM_ok px_allY_ok pD_33 pK_33
set_option maxRecDepth 100000 in
theorem pR_34_0 : px_chkR prog_1_method_23_code pr_34_0 = true := by decide +kernel
set_option maxRecDepth 100000 in
theorem pR_34_1 : px_chkR prog_1_method_23_code pr_34_1 = true := by decide +kernel
theorem pD_34 : px_chkD pm_34 = true := px_chkD_of (show ∀ row ∈ [pr_34_0, pr_34_1], px_chkR prog_1_method_23_code row = true from List.forall_mem_cons.mpr ⟨pR_34_0, List.forall_mem_cons.mpr ⟨pR_34_1, fun _ h => absurd h List.not_mem_nil⟩⟩)
set_option maxRecDepth 100000 in
theorem pK_34 : px_chkK pm_34 [[1213, 1214], [583]] = true := by decide +kernel
theorem pO_34 : px_okM pm_34 := px_chkM_ok px_allY_ok pD_34 pK_34
set_option maxRecDepth 100000 in
theorem pR_35_0 : px_chkR prog_2_method_1_code pr_35_0 = true := by decide +kernel
set_option maxRecDepth 100000 in
theorem pR_35_1 : px_chkR prog_2_method_1_code pr_35_1 = true := by decide +kernel
set_option maxRecDepth 100000 in
theorem pR_35_2 : px_chkR prog_2_method_1_code pr_35_2 = true := by decide +kernel
theorem pD_35 : px_chkD pm_35 = true := px_chkD_of (show ∀ row ∈ [pr_35_0, pr_35_1, pr_35_2], px_chkR prog_2_method_1_code row = true from List.forall_mem_cons.mpr ⟨pR_35_0, List.forall_mem_cons.mpr ⟨pR_35_1, List.forall_mem_cons.mpr ⟨pR_35_2, fun _ h => absurd h List.not_mem_nil⟩⟩⟩)
set_option maxRecDepth 100000 in
theorem pK_35 : px_chkK pm_35 [[485, 205, 206], [487], [488], [489], [490], [486]] = true := by decide +kernel
theorem pO_35 : px_okM pm_35 := px_chkM_ok px_allY_ok pD_35 pK_35
set_option maxRecDepth 100000 in
theorem pR_36_0 : px_chkR prog_3_method_1_code pr_36_0 = true := by decide +kernel
set_option maxRecDepth 100000 in
theorem pR_36_1 : px_chkR prog_3_method_1_code pr_36_1 = true := by decide +kernel
set_option maxRecDepth 100000 in
theorem pR_36_2 : px_chkR prog_3_method_1_code pr_36_2 = true := by decide +kernel
set_option maxRecDepth 100000 in
theorem pR_36_3 : px_chkR prog_3_method_1_code pr_36_3 = true := by decide +kernel
theorem pD_36 : px_chkD pm_36 = true := px_chkD_of (show ∀ row ∈ [pr_36_0, pr_36_1, pr_36_2, pr_36_3], px_chkR prog_3_method_1_code row = true from List.forall_mem_cons.mpr ⟨pR_36_0, List.forall_mem_cons.mpr ⟨pR_36_1, List.forall_mem_cons.mpr ⟨pR_36_2, List.forall_mem_cons.mpr ⟨pR_36_3, fun _ h => absurd h List.not_mem_nil⟩⟩⟩⟩)
set_option maxRecDepth 100000 in
theorem pK_36 : px_chkK pm_36 [[514, 205, 206], [517], [518], [519], [520], [521], [515], [516]] = true := by decide +kernel
theorem pO_36 : px_okM pm_36 := px_chkM_ok px_allY_ok pD_36 pK_36
set_option maxRecDepth 100000 in
theorem pR_37_0 : px_chkR prog_4_method_1_code pr_37_0 = true := by decide +kernel
set_option maxRecDepth 100000 in
theorem pR_37_1 : px_chkR prog_4_method_1_code pr_37_1 = true := by decide +kernel
set_option maxRecDepth 100000 in
theorem pR_37_2 : px_chkR prog_4_method_1_code pr_37_2 = true := by decide +kernel
theorem pD_37 : px_chkD pm_37 = true := px_chkD_of (show ∀ row ∈ [pr_37_0, pr_37_1, pr_37_2], px_chkR prog_4_method_1_code row = true from List.forall_mem_cons.mpr ⟨pR_37_0, List.forall_mem_cons.mpr ⟨pR_37_1, List.forall_mem_cons.mpr ⟨pR_37_2, fun _ h => absurd h List.not_mem_nil⟩⟩⟩)
set_option maxRecDepth 100000 in
theorem pK_37 : px_chkK pm_37 [[551, 205, 206], [552], [553, 212, 213], [557], [558], [554], [559], [555], [556]] = true := by decide +kernel
theorem pO_37 : px_okM pm_37 := px_chkM_ok px_allY_ok pD_37 pK_37
set_option maxRecDepth 100000 in
theorem pR_38_0 : px_chkR prog_5_method_1_code pr_38_0 = true := by decide +kernel
set_option maxRecDepth 100000 in
theorem pR_38_1 : px_chkR prog_5_method_1_code pr_38_1 = true := by decide +kernel
set_option maxRecDepth 100000 in
theorem pR_38_2 : px_chkR prog_5_method_1_code pr_38_2 = true := by decide +kernel
set_option maxRecDepth 100000 in
theorem pR_38_3 : px_chkR prog_5_method_1_code pr_38_3 = true := by decide +kernel
set_option maxRecDepth 100000 in
theorem pR_38_4 : px_chkR prog_5_method_1_code pr_38_4 = true := by decide +kernel
set_option maxRecDepth 100000 in
theorem pR_38_5 : px_chkR prog_5_method_1_code pr_38_5 = true := by decide +kernel
theorem pD_38 : px_chkD pm_38 = true := px_chkD_of (show ∀ row ∈ [pr_38_0, pr_38_1, pr_38_2, pr_38_3, pr_38_4, pr_38_5], px_chkR prog_5_method_1_code row = true from List.forall_mem_cons.mpr ⟨pR_38_0, List.forall_mem_cons.mpr ⟨pR_38_1, List.forall_mem_cons.mpr ⟨pR_38_2, List.forall_mem_cons.mpr ⟨pR_38_3, List.forall_mem_cons.mpr ⟨pR_38_4, List.forall_mem_cons.mpr ⟨pR_38_5, fun _ h => absurd h List.not_mem_nil⟩⟩⟩⟩⟩⟩)
set_option maxRecDepth 100000 in
theorem pK_38 : px_chkK pm_38 [[239, 205, 206], [240], [363], [368], [370], [244], [246, 247, 248], [378], [308, 309, 310], [359, 360, 361], [366], [240, 241], [242, 243]] = true := by decide +kernel
theorem pO_38 : px_okM pm_38 := px_chkM_ok px_allY_ok pD_38 pK_38
set_option maxRecDepth 100000 in
theorem pR_39_0 : px_chkR prog_5_method_2_code pr_39_0 = true := by decide +kernel
set_option maxRecDepth 100000 in
theorem pR_39_1 : px_chkR prog_5_method_2_code pr_39_1 = true := by decide +kernel
set_option maxRecDepth 100000 in
theorem pR_39_2 : px_chkR prog_5_method_2_code pr_39_2 = true := by decide +kernel
theorem pD_39 : px_chkD pm_39 = true := px_chkD_of (show ∀ row ∈ [pr_39_0, pr_39_1, pr_39_2], px_chkR prog_5_method_2_code row = true from List.forall_mem_cons.mpr ⟨pR_39_0, List.forall_mem_cons.mpr ⟨pR_39_1, List.forall_mem_cons.mpr ⟨pR_39_2, fun _ h => absurd h List.not_mem_nil⟩⟩⟩)
set_option maxRecDepth 100000 in
theorem pK_39 : px_chkK pm_39 [[363], [378], [359, 360, 361], [366], [372], [374], [376]] = true := by decide +kernel
theorem pO_39 : px_okM pm_39 := px_chkM_ok px_allY_ok pD_39 pK_39
end
section
/-! Written by wip/p1/gen2.py. -/
set_option maxRecDepth 100000 in
theorem pR_40_0 : px_chkR prog_6_method_1_code pr_40_0 = true := by decide +kernel
set_option maxRecDepth 100000 in
theorem pR_40_1 : px_chkR prog_6_method_1_code pr_40_1 = true := by decide +kernel
set_option maxRecDepth 100000 in
theorem pR_40_2 : px_chkR prog_6_method_1_code pr_40_2 = true := by decide +kernel
set_option maxRecDepth 100000 in
theorem pR_40_3 : px_chkR prog_6_method_1_code pr_40_3 = true := by decide +kernel
theorem pD_40 : px_chkD pm_40 = true := px_chkD_of (show ∀ row ∈ [pr_40_0, pr_40_1, pr_40_2, pr_40_3], px_chkR prog_6_method_1_code row = true from List.forall_mem_cons.mpr ⟨pR_40_0, List.forall_mem_cons.mpr ⟨pR_40_1, List.forall_mem_cons.mpr ⟨pR_40_2, List.forall_mem_cons.mpr ⟨pR_40_3, fun _ h => absurd h List.not_mem_nil⟩⟩⟩⟩)
set_option maxRecDepth 100000 in
theorem pK_40 : px_chkK pm_40 [[426, 205, 206], [430], [432], [433], [435], [436], [429], [427, 428]] = true := by decide +kernel
theorem pO_40 : px_okM pm_40 := px_chkM_ok px_allY_ok pD_40 pK_40
set_option maxRecDepth 100000 in
theorem pR_41_0 : px_chkR prog_6_method_3_code pr_41_0 = true := by decide +kernel
set_option maxRecDepth 100000 in
theorem pR_41_1 : px_chkR prog_6_method_3_code pr_41_1 = true := by decide +kernel
set_option maxRecDepth 100000 in
theorem pR_41_2 : px_chkR prog_6_method_3_code pr_41_2 = true := by decide +kernel
set_option maxRecDepth 100000 in
theorem pR_41_3 : px_chkR prog_6_method_3_code pr_41_3 = true := by decide +kernel
set_option maxRecDepth 100000 in
theorem pR_41_4 : px_chkR prog_6_method_3_code pr_41_4 = true := by decide +kernel
set_option maxRecDepth 100000 in
theorem pR_41_5 : px_chkR prog_6_method_3_code pr_41_5 = true := by decide +kernel
theorem pD_41 : px_chkD pm_41 = true := px_chkD_of (show ∀ row ∈ [pr_41_0, pr_41_1, pr_41_2, pr_41_3, pr_41_4, pr_41_5], px_chkR prog_6_method_3_code row = true from List.forall_mem_cons.mpr ⟨pR_41_0, List.forall_mem_cons.mpr ⟨pR_41_1, List.forall_mem_cons.mpr ⟨pR_41_2, List.forall_mem_cons.mpr ⟨pR_41_3, List.forall_mem_cons.mpr ⟨pR_41_4, List.forall_mem_cons.mpr ⟨pR_41_5, fun _ h => absurd h List.not_mem_nil⟩⟩⟩⟩⟩⟩)
set_option maxRecDepth 100000 in
theorem pK_41 : px_chkK pm_41 [[429], [367], [364], [315], [261], [274]] = true := by decide +kernel
theorem pO_41 : px_okM pm_41 := px_chkM_ok px_allY_ok pD_41 pK_41
set_option maxRecDepth 100000 in
theorem pR_42_0 : px_chkR prog_6_method_17_code pr_42_0 = true := by decide +kernel
set_option maxRecDepth 100000 in
theorem pR_42_1 : px_chkR prog_6_method_17_code pr_42_1 = true := by decide +kernel
set_option maxRecDepth 100000 in
theorem pR_42_5 : px_chkR prog_6_method_17_code pr_42_5 = true := by decide +kernel
theorem pD_42 : px_chkD pm_42 = true := px_chkD_of (show ∀ row ∈ [pr_42_0, pr_42_1, [], [], [], pr_42_5], px_chkR prog_6_method_17_code row = true from List.forall_mem_cons.mpr ⟨pR_42_0, List.forall_mem_cons.mpr ⟨pR_42_1, List.forall_mem_cons.mpr ⟨rfl, List.forall_mem_cons.mpr ⟨rfl, List.forall_mem_cons.mpr ⟨rfl, List.forall_mem_cons.mpr ⟨pR_42_5, fun _ h => absurd h List.not_mem_nil⟩⟩⟩⟩⟩⟩)
set_option maxRecDepth 100000 in
theorem pK_42 : px_chkK pm_42 [[429], [367], [364], [315], [261]] = true := by decide +kernel
theorem pO_42 : px_okM pm_42 := px_chkM_ok px_allY_ok pD_42 pK_42
set_option maxRecDepth 100000 in
theorem pR_43_0 : px_chkR prog_6_method_2_code pr_43_0 = true := by decide +kernel
set_option maxRecDepth 100000 in
theorem pR_43_1 : px_chkR prog_6_method_2_code pr_43_1 = true := by decide +kernel
set_option maxRecDepth 100000 in
theorem pR_43_2 : px_chkR prog_6_method_2_code pr_43_2 = true := by decide +kernel
set_option maxRecDepth 100000 in
theorem pR_43_3 : px_chkR prog_6_method_2_code pr_43_3 = true := by decide +kernel
set_option maxRecDepth 100000 in
theorem pR_43_4 : px_chkR prog_6_method_2_code pr_43_4 = true := by decide +kernel
theorem pD_43 : px_chkD pm_43 = true := px_chkD_of (show ∀ row ∈ [pr_43_0, pr_43_1, pr_43_2, pr_43_3, pr_43_4], px_chkR prog_6_method_2_code row = true from List.forall_mem_cons.mpr ⟨pR_43_0, List.forall_mem_cons.mpr ⟨pR_43_1, List.forall_mem_cons.mpr ⟨pR_43_2, List.forall_mem_cons.mpr ⟨pR_43_3, List.forall_mem_cons.mpr ⟨pR_43_4, fun _ h => absurd h List.not_mem_nil⟩⟩⟩⟩⟩)
set_option maxRecDepth 100000 in
theorem pK_43 : px_chkK pm_43 [[429], [431], [437], [1078, 1080, 36], [367], [364], [315], [261], [1126, 1128, 44]] = true := by decide +kernel
theorem pO_43 : px_okM pm_43 := px_chkM_ok px_allY_ok pD_43 pK_43
set_option maxRecDepth 100000 in
theorem pR_44_0 : px_chkR prog_8_method_1_code pr_44_0 = true := by decide +kernel
set_option maxRecDepth 100000 in
theorem pR_44_1 : px_chkR prog_8_method_1_code pr_44_1 = true := by decide +kernel
theorem pD_44 : px_chkD pm_44 = true := px_chkD_of (show ∀ row ∈ [pr_44_0, pr_44_1], px_chkR prog_8_method_1_code row = true from List.forall_mem_cons.mpr ⟨pR_44_0, List.forall_mem_cons.mpr ⟨pR_44_1, fun _ h => absurd h List.not_mem_nil⟩⟩)
set_option maxRecDepth 100000 in
theorem pK_44 : px_chkK pm_44 [[249, 205, 206], [252], [265], [268], [271]] = true := by decide +kernel
theorem pO_44 : px_okM pm_44 := px_chkM_ok px_allY_ok pD_44 pK_44
set_option maxRecDepth 100000 in
theorem pR_45_0 : px_chkR prog_9_method_1_code pr_45_0 = true := by decide +kernel
set_option maxRecDepth 100000 in
theorem pR_45_1 : px_chkR prog_9_method_1_code pr_45_1 = true := by decide +kernel
set_option maxRecDepth 100000 in
theorem pR_45_2 : px_chkR prog_9_method_1_code pr_45_2 = true := by decide +kernel
theorem pD_45 : px_chkD pm_45 = true := px_chkD_of (show ∀ row ∈ [pr_45_0, pr_45_1, pr_45_2], px_chkR prog_9_method_1_code row = true from List.forall_mem_cons.mpr ⟨pR_45_0, List.forall_mem_cons.mpr ⟨pR_45_1, List.forall_mem_cons.mpr ⟨pR_45_2, fun _ h => absurd h List.not_mem_nil⟩⟩⟩)
set_option maxRecDepth 100000 in
theorem pK_45 : px_chkK pm_45 [[463, 205, 206], [466], [467], [468], [464], [465]] = true := by decide +kernel
theorem pO_45 : px_okM pm_45 := px_chkM_ok px_allY_ok pD_45 pK_45
set_option maxRecDepth 100000 in
theorem pR_46_0 : px_chkR prog_10_method_1_code pr_46_0 = true := by decide +kernel
set_option maxRecDepth 100000 in
theorem pR_46_1 : px_chkR prog_10_method_1_code pr_46_1 = true := by decide +kernel
theorem pD_46 : px_chkD pm_46 = true := px_chkD_of (show ∀ row ∈ [pr_46_0, pr_46_1], px_chkR prog_10_method_1_code row = true from List.forall_mem_cons.mpr ⟨pR_46_0, List.forall_mem_cons.mpr ⟨pR_46_1, fun _ h => absurd h List.not_mem_nil⟩⟩)
set_option maxRecDepth 100000 in
theorem pK_46 : px_chkK pm_46 [[401, 205, 206], [404], [405], [402], [403]] = true := by decide +kernel
theorem pO_46 : px_okM pm_46 := px_chkM_ok px_allY_ok pD_46 pK_46
set_option maxRecDepth 100000 in
theorem pR_47_0 : px_chkR prog_10_method_6_code pr_47_0 = true := by decide +kernel
set_option maxRecDepth 100000 in
theorem pR_47_1 : px_chkR prog_10_method_6_code pr_47_1 = true := by decide +kernel
theorem pD_47 : px_chkD pm_47 = true := px_chkD_of (show ∀ row ∈ [pr_47_0, pr_47_1], px_chkR prog_10_method_6_code row = true from List.forall_mem_cons.mpr ⟨pR_47_0, List.forall_mem_cons.mpr ⟨pR_47_1, fun _ h => absurd h List.not_mem_nil⟩⟩)
set_option maxRecDepth 100000 in
theorem pK_47 : px_chkK pm_47 [] = true := by decide +kernel
theorem pO_47 : px_okM pm_47 := px_chkM_ok px_allY_ok pD_47 pK_47
set_option maxRecDepth 100000 in
theorem pR_48_0 : px_chkR prog_10_method_3_code pr_48_0 = true := by decide +kernel
set_option maxRecDepth 100000 in
theorem pR_48_1 : px_chkR prog_10_method_3_code pr_48_1 = true := by decide +kernel
set_option maxRecDepth 100000 in
theorem pR_48_2 : px_chkR prog_10_method_3_code pr_48_2 = true := by decide +kernel
theorem pD_48 : px_chkD pm_48 = true := px_chkD_of (show ∀ row ∈ [pr_48_0, pr_48_1, pr_48_2], px_chkR prog_10_method_3_code row = true from List.forall_mem_cons.mpr ⟨pR_48_0, List.forall_mem_cons.mpr ⟨pR_48_1, List.forall_mem_cons.mpr ⟨pR_48_2, fun _ h => absurd h List.not_mem_nil⟩⟩⟩)
set_option maxRecDepth 100000 in
theorem pK_48 : px_chkK pm_48 [] = true := by decide +kernel
theorem pO_48 : px_okM pm_48 := px_chkM_ok px_allY_ok pD_48 pK_48
set_option maxRecDepth 100000 in
theorem pR_49_0 : px_chkR prog_10_method_5_code pr_49_0 = true := by decide +kernel
set_option maxRecDepth 100000 in
theorem pR_49_3 : px_chkR prog_10_method_5_code pr_49_3 = true := by decide +kernel
theorem pD_49 : px_chkD pm_49 = true := px_chkD_of (show ∀ row ∈ [pr_49_0, [], [], pr_49_3], px_chkR prog_10_method_5_code row = true from List.forall_mem_cons.mpr ⟨pR_49_0, List.forall_mem_cons.mpr ⟨rfl, List.forall_mem_cons.mpr ⟨rfl, List.forall_mem_cons.mpr ⟨pR_49_3, fun _ h => absurd h List.not_mem_nil⟩⟩⟩⟩)
set_option maxRecDepth 100000 in
theorem pK_49 : px_chkK pm_49 [] = true := by decide +kernel
theorem pO_49 : px_okM pm_49 := px_chkM_ok px_allY_ok pD_49 pK_49
set_option maxRecDepth 100000 in
theorem pR_50_0 : px_chkR prog_10_method_9_code pr_50_0 = true := by decide +kernel
set_option maxRecDepth 100000 in
theorem pR_50_1 : px_chkR prog_10_method_9_code pr_50_1 = true := by decide +kernel
theorem pD_50 : px_chkD pm_50 = true := px_chkD_of (show ∀ row ∈ [pr_50_0, pr_50_1], px_chkR prog_10_method_9_code row = true from List.forall_mem_cons.mpr ⟨pR_50_0, List.forall_mem_cons.mpr ⟨pR_50_1, fun _ h => absurd h List.not_mem_nil⟩⟩)
set_option maxRecDepth 100000 in
theorem pK_50 : px_chkK pm_50 [] = true := by decide +kernel
theorem pO_50 : px_okM pm_50 := px_chkM_ok px_allY_ok pD_50 pK_50
set_option maxRecDepth 100000 in
theorem pR_51_0 : px_chkR prog_10_method_4_code pr_51_0 = true := by decide +kernel
set_option maxRecDepth 100000 in
theorem pR_51_1 : px_chkR prog_10_method_4_code pr_51_1 = true := by decide +kernel
set_option maxRecDepth 100000 in
theorem pR_51_2 : px_chkR prog_10_method_4_code pr_51_2 = true := by decide +kernel
set_option maxRecDepth 100000 in
theorem pR_51_3 : px_chkR prog_10_method_4_code pr_51_3 = true := by decide +kernel
set_option maxRecDepth 100000 in
theorem pR_51_4 : px_chkR prog_10_method_4_code pr_51_4 = true := by decide +kernel
set_option maxRecDepth 100000 in
theorem pR_51_5 : px_chkR prog_10_method_4_code pr_51_5 = true := by decide +kernel
theorem pD_51 : px_chkD pm_51 = true := px_chkD_of (show ∀ row ∈ [pr_51_0, pr_51_1, pr_51_2, pr_51_3, pr_51_4, pr_51_5], px_chkR prog_10_method_4_code row = true from List.forall_mem_cons.mpr ⟨pR_51_0, List.forall_mem_cons.mpr ⟨pR_51_1, List.forall_mem_cons.mpr ⟨pR_51_2, List.forall_mem_cons.mpr ⟨pR_51_3, List.forall_mem_cons.mpr ⟨pR_51_4, List.forall_mem_cons.mpr ⟨pR_51_5, fun _ h => absurd h List.not_mem_nil⟩⟩⟩⟩⟩⟩)
set_option maxRecDepth 100000 in
theorem pK_51 : px_chkK pm_51 [[780, 782, 4], [784, 786, 5], [788, 790, 6]] = true := by decide +kernel
theorem pO_51 : px_okM pm_51 := px_chkM_ok px_allY_ok pD_51 pK_51
set_option maxRecDepth 100000 in
theorem pR_52_0 : px_chkR prog_10_method_2_code pr_52_0 = true := by decide +kernel
set_option maxRecDepth 100000 in
theorem pR_52_1 : px_chkR prog_10_method_2_code pr_52_1 = true := by decide +kernel
theorem pD_52 : px_chkD pm_52 = true := px_chkD_of (show ∀ row ∈ [pr_52_0, pr_52_1], px_chkR prog_10_method_2_code row = true from List.forall_mem_cons.mpr ⟨pR_52_0, List.forall_mem_cons.mpr ⟨pR_52_1, fun _ h => absurd h List.not_mem_nil⟩⟩)
set_option maxRecDepth 100000 in
theorem pK_52 : px_chkK pm_52 [[403], [373], [773, 774], [776, 778, 3]] = true := by decide +kernel
theorem pO_52 : px_okM pm_52 := px_chkM_ok px_allY_ok pD_52 pK_52
set_option maxRecDepth 100000 in
theorem pR_53_0 : px_chkR prog_10_method_7_code pr_53_0 = true := by decide +kernel
set_option maxRecDepth 100000 in
theorem pR_53_2 : px_chkR prog_10_method_7_code pr_53_2 = true := by decide +kernel
set_option maxRecDepth 100000 in
theorem pR_53_3 : px_chkR prog_10_method_7_code pr_53_3 = true := by decide +kernel
theorem pD_53 : px_chkD pm_53 = true := px_chkD_of (show ∀ row ∈ [pr_53_0, [], pr_53_2, pr_53_3], px_chkR prog_10_method_7_code row = true from List.forall_mem_cons.mpr ⟨pR_53_0, List.forall_mem_cons.mpr ⟨rfl, List.forall_mem_cons.mpr ⟨pR_53_2, List.forall_mem_cons.mpr ⟨pR_53_3, fun _ h => absurd h List.not_mem_nil⟩⟩⟩⟩)
set_option maxRecDepth 100000 in
theorem pK_53 : px_chkK pm_53 [[404], [405], [792, 794, 7]] = true := by decide +kernel
theorem pO_53 : px_okM pm_53 := px_chkM_ok px_allY_ok pD_53 pK_53
set_option maxRecDepth 100000 in
theorem pR_54_0 : px_chkR prog_11_method_1_code pr_54_0 = true := by decide +kernel
theorem pD_54 : px_chkD pm_54 = true := px_chkD_of (show ∀ row ∈ [pr_54_0], px_chkR prog_11_method_1_code row = true from List.forall_mem_cons.mpr ⟨pR_54_0, fun _ h => absurd h List.not_mem_nil⟩)
set_option maxRecDepth 100000 in
theorem pK_54 : px_chkK pm_54 [[311, 205, 206]] = true := by decide +kernel
theorem pO_54 : px_okM pm_54 := px_chkM_ok px_allY_ok pD_54 pK_54
set_option maxRecDepth 100000 in
theorem pR_55_0 : px_chkR prog_11_method_3_code pr_55_0 = true := by decide +kernel
set_option maxRecDepth 100000 in
theorem pR_55_1 : px_chkR prog_11_method_3_code pr_55_1 = true := by decide +kernel
set_option maxRecDepth 100000 in
theorem pR_55_2 : px_chkR prog_11_method_3_code pr_55_2 = true := by decide +kernel
theorem pD_55 : px_chkD pm_55 = true := px_chkD_of (show ∀ row ∈ [pr_55_0, pr_55_1, pr_55_2], px_chkR prog_11_method_3_code row = true from List.forall_mem_cons.mpr ⟨pR_55_0, List.forall_mem_cons.mpr ⟨pR_55_1, List.forall_mem_cons.mpr ⟨pR_55_2, fun _ h => absurd h List.not_mem_nil⟩⟩⟩)
set_option maxRecDepth 100000 in
theorem pK_55 : px_chkK pm_55 [[314], [319], [322], [325], [328], [331], [334], [337], [312]] = true := by decide +kernel
theorem pO_55 : px_okM pm_55 := px_chkM_ok px_allY_ok pD_55 pK_55
set_option maxRecDepth 100000 in
theorem pR_56_0 : px_chkR prog_13_method_1_code pr_56_0 = true := by decide +kernel
theorem pD_56 : px_chkD pm_56 = true := px_chkD_of (show ∀ row ∈ [pr_56_0], px_chkR prog_13_method_1_code row = true from List.forall_mem_cons.mpr ⟨pR_56_0, fun _ h => absurd h List.not_mem_nil⟩)
set_option maxRecDepth 100000 in
theorem pK_56 : px_chkK pm_56 [[214, 205, 206], [215]] = true := by decide +kernel
theorem pO_56 : px_okM pm_56 := px_chkM_ok px_allY_ok pD_56 pK_56
set_option maxRecDepth 100000 in
theorem pR_57_0 : px_chkR prog_13_method_2_code pr_57_0 = true := by decide +kernel
set_option maxRecDepth 100000 in
theorem pR_57_1 : px_chkR prog_13_method_2_code pr_57_1 = true := by decide +kernel
set_option maxRecDepth 100000 in
theorem pR_57_2 : px_chkR prog_13_method_2_code pr_57_2 = true := by decide +kernel
theorem pD_57 : px_chkD pm_57 = true := px_chkD_of (show ∀ row ∈ [pr_57_0, pr_57_1, pr_57_2], px_chkR prog_13_method_2_code row = true from List.forall_mem_cons.mpr ⟨pR_57_0, List.forall_mem_cons.mpr ⟨pR_57_1, List.forall_mem_cons.mpr ⟨pR_57_2, fun _ h => absurd h List.not_mem_nil⟩⟩⟩)
set_option maxRecDepth 100000 in
theorem pK_57 : px_chkK pm_57 [[215], [221]] = true := by decide +kernel
theorem pO_57 : px_okM pm_57 := px_chkM_ok px_allY_ok pD_57 pK_57
set_option maxRecDepth 100000 in
theorem pR_58_0 : px_chkR prog_13_method_4_code pr_58_0 = true := by decide +kernel
set_option maxRecDepth 100000 in
theorem pR_58_1 : px_chkR prog_13_method_4_code pr_58_1 = true := by decide +kernel
theorem pD_58 : px_chkD pm_58 = true := px_chkD_of (show ∀ row ∈ [pr_58_0, pr_58_1], px_chkR prog_13_method_4_code row = true from List.forall_mem_cons.mpr ⟨pR_58_0, List.forall_mem_cons.mpr ⟨pR_58_1, fun _ h => absurd h List.not_mem_nil⟩⟩)
set_option maxRecDepth 100000 in
theorem pK_58 : px_chkK pm_58 [[215], [221], [1227, 1229, 1228, 196]] = true := by decide +kernel
theorem pO_58 : px_okM pm_58 := px_chkM_ok px_allY_ok pD_58 pK_58
set_option maxRecDepth 100000 in
theorem pR_59_0 : px_chkR method_21_code pr_59_0 = true := by decide +kernel
set_option maxRecDepth 100000 in
theorem pR_59_1 : px_chkR method_21_code pr_59_1 = true := by decide +kernel
theorem pD_59 : px_chkD pm_59 = true := px_chkD_of (show ∀ row ∈ [pr_59_0, pr_59_1], px_chkR method_21_code row = true from List.forall_mem_cons.mpr ⟨pR_59_0, List.forall_mem_cons.mpr ⟨pR_59_1, fun _ h => absurd h List.not_mem_nil⟩⟩)
set_option maxRecDepth 100000 in
theorem pK_59 : px_chkK pm_59 [[718], [744], [1615, 1616, 1617]] = true := by decide +kernel
theorem pO_59 : px_okM pm_59 := px_chkM_ok px_allY_ok pD_59 pK_59
set_option maxRecDepth 100000 in
theorem pR_60_0 : px_chkR method_8_code pr_60_0 = true := by decide +kernel
set_option maxRecDepth 100000 in
theorem pR_60_1 : px_chkR method_8_code pr_60_1 = true := by decide +kernel
theorem pD_60 : px_chkD pm_60 = true := px_chkD_of (show ∀ row ∈ [pr_60_0, pr_60_1], px_chkR method_8_code row = true from List.forall_mem_cons.mpr ⟨pR_60_0, List.forall_mem_cons.mpr ⟨pR_60_1, fun _ h => absurd h List.not_mem_nil⟩⟩)
set_option maxRecDepth 100000 in
theorem pK_60 : px_chkK pm_60 [[640], [718], [1209, 1210, 1211]] = true := by decide +kernel
theorem pO_60 : px_okM pm_60 := px_chkM_ok px_allY_ok pD_60 pK_60
set_option maxRecDepth 100000 in
theorem pR_61_0 : px_chkR method_22_code pr_61_0 = true := by decide +kernel
set_option maxRecDepth 100000 in
theorem pR_61_1 : px_chkR method_22_code pr_61_1 = true := by decide +kernel
theorem pD_61 : px_chkD pm_61 = true := px_chkD_of (show ∀ row ∈ [pr_61_0, pr_61_1], px_chkR method_22_code row = true from List.forall_mem_cons.mpr ⟨pR_61_0, List.forall_mem_cons.mpr ⟨pR_61_1, fun _ h => absurd h List.not_mem_nil⟩⟩)
set_option maxRecDepth 100000 in
theorem pK_61 : px_chkK pm_61 [[718], [745], [1632, 1633, 1634]] = true := by decide +kernel
theorem pO_61 : px_okM pm_61 := px_chkM_ok px_allY_ok pD_61 pK_61
set_option maxRecDepth 100000 in
theorem pR_62_0 : px_chkR method_15_code pr_62_0 = true := by decide +kernel
set_option maxRecDepth 100000 in
theorem pR_62_1 : px_chkR method_15_code pr_62_1 = true := by decide +kernel
theorem pD_62 : px_chkD pm_62 = true := px_chkD_of (show ∀ row ∈ [pr_62_0, pr_62_1], px_chkR method_15_code row = true from List.forall_mem_cons.mpr ⟨pR_62_0, List.forall_mem_cons.mpr ⟨pR_62_1, fun _ h => absurd h List.not_mem_nil⟩⟩)
set_option maxRecDepth 100000 in
theorem pK_62 : px_chkK pm_62 [[640], [718], [744], [1344, 1345, 1346]] = true := by decide +kernel
theorem pO_62 : px_okM pm_62 := px_chkM_ok px_allY_ok pD_62 pK_62
set_option maxRecDepth 100000 in
theorem pR_63_0 : px_chkR method_20_code pr_63_0 = true := by decide +kernel
set_option maxRecDepth 100000 in
theorem pR_63_1 : px_chkR method_20_code pr_63_1 = true := by decide +kernel
theorem pD_63 : px_chkD pm_63 = true := px_chkD_of (show ∀ row ∈ [pr_63_0, pr_63_1], px_chkR method_20_code row = true from List.forall_mem_cons.mpr ⟨pR_63_0, List.forall_mem_cons.mpr ⟨pR_63_1, fun _ h => absurd h List.not_mem_nil⟩⟩)
set_option maxRecDepth 100000 in
theorem pK_63 : px_chkK pm_63 [[640], [718], [744], [1596, 1597, 1598]] = true := by decide +kernel
theorem pO_63 : px_okM pm_63 := px_chkM_ok px_allY_ok pD_63 pK_63
set_option maxRecDepth 100000 in
theorem pR_64_0 : px_chkR method_24_code pr_64_0 = true := by decide +kernel
set_option maxRecDepth 100000 in
theorem pR_64_1 : px_chkR method_24_code pr_64_1 = true := by decide +kernel
theorem pD_64 : px_chkD pm_64 = true := px_chkD_of (show ∀ row ∈ [pr_64_0, pr_64_1], px_chkR method_24_code row = true from List.forall_mem_cons.mpr ⟨pR_64_0, List.forall_mem_cons.mpr ⟨pR_64_1, fun _ h => absurd h List.not_mem_nil⟩⟩)
set_option maxRecDepth 100000 in
theorem pK_64 : px_chkK pm_64 [[718], [1653, 1654, 1655]] = true := by decide +kernel
theorem pO_64 : px_okM pm_64 := px_chkM_ok px_allY_ok pD_64 pK_64
set_option maxRecDepth 100000 in
theorem pR_65_0 : px_chkR method_17_code pr_65_0 = true := by decide +kernel
set_option maxRecDepth 100000 in
theorem pR_65_1 : px_chkR method_17_code pr_65_1 = true := by decide +kernel
theorem pD_65 : px_chkD pm_65 = true := px_chkD_of (show ∀ row ∈ [pr_65_0, pr_65_1], px_chkR method_17_code row = true from List.forall_mem_cons.mpr ⟨pR_65_0, List.forall_mem_cons.mpr ⟨pR_65_1, fun _ h => absurd h List.not_mem_nil⟩⟩)
set_option maxRecDepth 100000 in
theorem pK_65 : px_chkK pm_65 [[718], [744], [1488, 1489, 1490]] = true := by decide +kernel
theorem pO_65 : px_okM pm_65 := px_chkM_ok px_allY_ok pD_65 pK_65
set_option maxRecDepth 100000 in
theorem pR_66_0 : px_chkR method_4_code pr_66_0 = true := by decide +kernel
set_option maxRecDepth 100000 in
theorem pR_66_1 : px_chkR method_4_code pr_66_1 = true := by decide +kernel
theorem pD_66 : px_chkD pm_66 = true := px_chkD_of (show ∀ row ∈ [pr_66_0, pr_66_1], px_chkR method_4_code row = true from List.forall_mem_cons.mpr ⟨pR_66_0, List.forall_mem_cons.mpr ⟨pR_66_1, fun _ h => absurd h List.not_mem_nil⟩⟩)
set_option maxRecDepth 100000 in
theorem pK_66 : px_chkK pm_66 [[719, 720, 721], [718]] = true := by decide +kernel
theorem pO_66 : px_okM pm_66 := px_chkM_ok px_allY_ok pD_66 pK_66
set_option maxRecDepth 100000 in
theorem pR_67_0 : px_chkR method_3_code pr_67_0 = true := by decide +kernel
set_option maxRecDepth 100000 in
theorem pR_67_1 : px_chkR method_3_code pr_67_1 = true := by decide +kernel
theorem pD_67 : px_chkD pm_67 = true := px_chkD_of (show ∀ row ∈ [pr_67_0, pr_67_1], px_chkR method_3_code row = true from List.forall_mem_cons.mpr ⟨pR_67_0, List.forall_mem_cons.mpr ⟨pR_67_1, fun _ h => absurd h List.not_mem_nil⟩⟩)
set_option maxRecDepth 100000 in
theorem pK_67 : px_chkK pm_67 [[641, 642, 643], [640]] = true := by decide +kernel
theorem pO_67 : px_okM pm_67 := px_chkM_ok px_allY_ok pD_67 pK_67
set_option maxRecDepth 100000 in
theorem pR_68_0 : px_chkR method_13_code pr_68_0 = true := by decide +kernel
set_option maxRecDepth 100000 in
theorem pR_68_1 : px_chkR method_13_code pr_68_1 = true := by decide +kernel
theorem pD_68 : px_chkD pm_68 = true := px_chkD_of (show ∀ row ∈ [pr_68_0, pr_68_1], px_chkR method_13_code row = true from List.forall_mem_cons.mpr ⟨pR_68_0, List.forall_mem_cons.mpr ⟨pR_68_1, fun _ h => absurd h List.not_mem_nil⟩⟩)
set_option maxRecDepth 100000 in
theorem pK_68 : px_chkK pm_68 [[718], [744], [1322, 1323, 1324]] = true := by decide +kernel
theorem pO_68 : px_okM pm_68 := px_chkM_ok px_allY_ok pD_68 pK_68
set_option maxRecDepth 100000 in
theorem pR_69_0 : px_chkR method_14_code pr_69_0 = true := by decide +kernel
set_option maxRecDepth 100000 in
theorem pR_69_1 : px_chkR method_14_code pr_69_1 = true := by decide +kernel
theorem pD_69 : px_chkD pm_69 = true := px_chkD_of (show ∀ row ∈ [pr_69_0, pr_69_1], px_chkR method_14_code row = true from List.forall_mem_cons.mpr ⟨pR_69_0, List.forall_mem_cons.mpr ⟨pR_69_1, fun _ h => absurd h List.not_mem_nil⟩⟩)
set_option maxRecDepth 100000 in
theorem pK_69 : px_chkK pm_69 [[640], [718], [744], [1333, 1334, 1335]] = true := by decide +kernel
theorem pO_69 : px_okM pm_69 := px_chkM_ok px_allY_ok pD_69 pK_69
set_option maxRecDepth 100000 in
theorem pR_70_0 : px_chkR method_19_code pr_70_0 = true := by decide +kernel
set_option maxRecDepth 100000 in
theorem pR_70_1 : px_chkR method_19_code pr_70_1 = true := by decide +kernel
theorem pD_70 : px_chkD pm_70 = true := px_chkD_of (show ∀ row ∈ [pr_70_0, pr_70_1], px_chkR method_19_code row = true from List.forall_mem_cons.mpr ⟨pR_70_0, List.forall_mem_cons.mpr ⟨pR_70_1, fun _ h => absurd h List.not_mem_nil⟩⟩)
set_option maxRecDepth 100000 in
theorem pK_70 : px_chkK pm_70 [[640], [718], [744], [1517, 1518, 1519]] = true := by decide +kernel
theorem pO_70 : px_okM pm_70 := px_chkM_ok px_allY_ok pD_70 pK_70
set_option maxRecDepth 100000 in
theorem pR_71_0 : px_chkR method_5_code pr_71_0 = true := by decide +kernel
set_option maxRecDepth 100000 in
theorem pR_71_1 : px_chkR method_5_code pr_71_1 = true := by decide +kernel
theorem pD_71 : px_chkD pm_71 = true := px_chkD_of (show ∀ row ∈ [pr_71_0, pr_71_1], px_chkR method_5_code row = true from List.forall_mem_cons.mpr ⟨pR_71_0, List.forall_mem_cons.mpr ⟨pR_71_1, fun _ h => absurd h List.not_mem_nil⟩⟩)
set_option maxRecDepth 100000 in
theorem pK_71 : px_chkK pm_71 [[718], [746, 747, 748], [744], [745]] = true := by decide +kernel
theorem pO_71 : px_okM pm_71 := px_chkM_ok px_allY_ok pD_71 pK_71
set_option maxRecDepth 100000 in
theorem pR_72_0 : px_chkR method_16_code pr_72_0 = true := by decide +kernel
set_option maxRecDepth 100000 in
theorem pR_72_1 : px_chkR method_16_code pr_72_1 = true := by decide +kernel
theorem pD_72 : px_chkD pm_72 = true := px_chkD_of (show ∀ row ∈ [pr_72_0, pr_72_1], px_chkR method_16_code row = true from List.forall_mem_cons.mpr ⟨pR_72_0, List.forall_mem_cons.mpr ⟨pR_72_1, fun _ h => absurd h List.not_mem_nil⟩⟩)
set_option maxRecDepth 100000 in
theorem pK_72 : px_chkK pm_72 [[640], [718], [744], [1477, 1478, 1479]] = true := by decide +kernel
theorem pO_72 : px_okM pm_72 := px_chkM_ok px_allY_ok pD_72 pK_72
set_option maxRecDepth 100000 in
theorem pR_73_0 : px_chkR method_18_code pr_73_0 = true := by decide +kernel
set_option maxRecDepth 100000 in
theorem pR_73_1 : px_chkR method_18_code pr_73_1 = true := by decide +kernel
theorem pD_73 : px_chkD pm_73 = true := px_chkD_of (show ∀ row ∈ [pr_73_0, pr_73_1], px_chkR method_18_code row = true from List.forall_mem_cons.mpr ⟨pR_73_0, List.forall_mem_cons.mpr ⟨pR_73_1, fun _ h => absurd h List.not_mem_nil⟩⟩)
set_option maxRecDepth 100000 in
theorem pK_73 : px_chkK pm_73 [[718], [744], [1501, 1502, 1503]] = true := by decide +kernel
theorem pO_73 : px_okM pm_73 := px_chkM_ok px_allY_ok pD_73 pK_73
set_option maxRecDepth 100000 in
theorem pR_74_0 : px_chkR method_12_code pr_74_0 = true := by decide +kernel
set_option maxRecDepth 100000 in
theorem pR_74_1 : px_chkR method_12_code pr_74_1 = true := by decide +kernel
theorem pD_74 : px_chkD pm_74 = true := px_chkD_of (show ∀ row ∈ [pr_74_0, pr_74_1], px_chkR method_12_code row = true from List.forall_mem_cons.mpr ⟨pR_74_0, List.forall_mem_cons.mpr ⟨pR_74_1, fun _ h => absurd h List.not_mem_nil⟩⟩)
set_option maxRecDepth 100000 in
theorem pK_74 : px_chkK pm_74 [[640], [718], [744], [1247, 1248, 1249]] = true := by decide +kernel
theorem pO_74 : px_okM pm_74 := px_chkM_ok px_allY_ok pD_74 pK_74
set_option maxRecDepth 100000 in
theorem pR_75_0 : px_chkR method_9_code pr_75_0 = true := by decide +kernel
set_option maxRecDepth 100000 in
theorem pR_75_1 : px_chkR method_9_code pr_75_1 = true := by decide +kernel
theorem pD_75 : px_chkD pm_75 = true := px_chkD_of (show ∀ row ∈ [pr_75_0, pr_75_1], px_chkR method_9_code row = true from List.forall_mem_cons.mpr ⟨pR_75_0, List.forall_mem_cons.mpr ⟨pR_75_1, fun _ h => absurd h List.not_mem_nil⟩⟩)
set_option maxRecDepth 100000 in
theorem pK_75 : px_chkK pm_75 [[718], [1219, 1220, 1221]] = true := by decide +kernel
theorem pO_75 : px_okM pm_75 := px_chkM_ok px_allY_ok pD_75 pK_75
set_option maxRecDepth 100000 in
theorem pR_76_0 : px_chkR method_10_code pr_76_0 = true := by decide +kernel
set_option maxRecDepth 100000 in
theorem pR_76_1 : px_chkR method_10_code pr_76_1 = true := by decide +kernel
theorem pD_76 : px_chkD pm_76 = true := px_chkD_of (show ∀ row ∈ [pr_76_0, pr_76_1], px_chkR method_10_code row = true from List.forall_mem_cons.mpr ⟨pR_76_0, List.forall_mem_cons.mpr ⟨pR_76_1, fun _ h => absurd h List.not_mem_nil⟩⟩)
set_option maxRecDepth 100000 in
theorem pK_76 : px_chkK pm_76 [[640], [718], [1233, 1234, 1235]] = true := by decide +kernel
theorem pO_76 : px_okM pm_76 := px_chkM_ok px_allY_ok pD_76 pK_76
set_option maxRecDepth 100000 in
theorem pR_77_0 : px_chkR method_6_code pr_77_0 = true := by decide +kernel
set_option maxRecDepth 100000 in
theorem pR_77_1 : px_chkR method_6_code pr_77_1 = true := by decide +kernel
theorem pD_77 : px_chkD pm_77 = true := px_chkD_of (show ∀ row ∈ [pr_77_0, pr_77_1], px_chkR method_6_code row = true from List.forall_mem_cons.mpr ⟨pR_77_0, List.forall_mem_cons.mpr ⟨pR_77_1, fun _ h => absurd h List.not_mem_nil⟩⟩)
set_option maxRecDepth 100000 in
theorem pK_77 : px_chkK pm_77 [[744], [1070, 1071, 1072], [1069]] = true := by decide +kernel
theorem pO_77 : px_okM pm_77 := px_chkM_ok px_allY_ok pD_77 pK_77
set_option maxRecDepth 100000 in
theorem pR_78_0 : px_chkR method_11_code pr_78_0 = true := by decide +kernel
set_option maxRecDepth 100000 in
theorem pR_78_1 : px_chkR method_11_code pr_78_1 = true := by decide +kernel
theorem pD_78 : px_chkD pm_78 = true := px_chkD_of (show ∀ row ∈ [pr_78_0, pr_78_1], px_chkR method_11_code row = true from List.forall_mem_cons.mpr ⟨pR_78_0, List.forall_mem_cons.mpr ⟨pR_78_1, fun _ h => absurd h List.not_mem_nil⟩⟩)
set_option maxRecDepth 100000 in
theorem pK_78 : px_chkK pm_78 [[718], [1240, 1241, 1242]] = true := by decide +kernel
theorem pO_78 : px_okM pm_78 := px_chkM_ok px_allY_ok pD_78 pK_78
set_option maxRecDepth 100000 in
theorem pR_79_0 : px_chkR method_7_code pr_79_0 = true := by decide +kernel
set_option maxRecDepth 100000 in
theorem pR_79_1 : px_chkR method_7_code pr_79_1 = true := by decide +kernel
theorem pD_79 : px_chkD pm_79 = true := px_chkD_of (show ∀ row ∈ [pr_79_0, pr_79_1], px_chkR method_7_code row = true from List.forall_mem_cons.mpr ⟨pR_79_0, List.forall_mem_cons.mpr ⟨pR_79_1, fun _ h => absurd h List.not_mem_nil⟩⟩)
set_option maxRecDepth 100000 in
theorem pK_79 : px_chkK pm_79 [[640], [718], [745], [1174, 1175, 1176]] = true := by decide +kernel
theorem pO_79 : px_okM pm_79 := px_chkM_ok px_allY_ok pD_79 pK_79
set_option maxRecDepth 100000 in
theorem pR_80_0 : px_chkR method_23_code pr_80_0 = true := by decide +kernel
theorem pD_80 : px_chkD pm_80 = true := px_chkD_of (show ∀ row ∈ [pr_80_0], px_chkR method_23_code row = true from List.forall_mem_cons.mpr ⟨pR_80_0, fun _ h => absurd h List.not_mem_nil⟩)
set_option maxRecDepth 100000 in
theorem pK_80 : px_chkK pm_80 [[640], [1646, 1647, 1648]] = true := by decide +kernel
theorem pO_80 : px_okM pm_80 := px_chkM_ok px_allY_ok pD_80 pK_80
end
section
/-! Written by wip/p1/gen2.py. -/
set_option maxRecDepth 100000 in
theorem pR_81_0 : px_chkR prog_15_method_1_code pr_81_0 = true := by decide +kernel
set_option maxRecDepth 100000 in
theorem pR_81_1 : px_chkR prog_15_method_1_code pr_81_1 = true := by decide +kernel
set_option maxRecDepth 100000 in
theorem pR_81_2 : px_chkR prog_15_method_1_code pr_81_2 = true := by decide +kernel
set_option maxRecDepth 100000 in
theorem pR_81_3 : px_chkR prog_15_method_1_code pr_81_3 = true := by decide +kernel
set_option maxRecDepth 100000 in
theorem pR_81_4 : px_chkR prog_15_method_1_code pr_81_4 = true := by decide +kernel
set_option maxRecDepth 100000 in
theorem pR_81_5 : px_chkR prog_15_method_1_code pr_81_5 = true := by decide +kernel
set_option maxRecDepth 100000 in
theorem pR_81_6 : px_chkR prog_15_method_1_code pr_81_6 = true := by decide +kernel
set_option maxRecDepth 100000 in
theorem pR_81_7 : px_chkR prog_15_method_1_code pr_81_7 = true := by decide +kernel
set_option maxRecDepth 100000 in
theorem pR_81_8 : px_chkR prog_15_method_1_code pr_81_8 = true := by decide +kernel
set_option maxRecDepth 100000 in
theorem pR_81_9 : px_chkR prog_15_method_1_code pr_81_9 = true := by decide +kernel
set_option maxRecDepth 100000 in
theorem pR_81_10 : px_chkR prog_15_method_1_code pr_81_10 = true := by decide +kernel
set_option maxRecDepth 100000 in
theorem pR_81_11 : px_chkR prog_15_method_1_code pr_81_11 = true := by decide +kernel
set_option maxRecDepth 100000 in
theorem pR_81_12 : px_chkR prog_15_method_1_code pr_81_12 = true := by decide +kernel
set_option maxRecDepth 100000 in
theorem pR_81_13 : px_chkR prog_15_method_1_code pr_81_13 = true := by decide +kernel
set_option maxRecDepth 100000 in
theorem pR_81_14 : px_chkR prog_15_method_1_code pr_81_14 = true := by decide +kernel
set_option maxRecDepth 100000 in
theorem pR_81_15 : px_chkR prog_15_method_1_code pr_81_15 = true := by decide +kernel
set_option maxRecDepth 100000 in
theorem pR_81_16 : px_chkR prog_15_method_1_code pr_81_16 = true := by decide +kernel
set_option maxRecDepth 100000 in
theorem pR_81_17 : px_chkR prog_15_method_1_code pr_81_17 = true := by decide +kernel
set_option maxRecDepth 100000 in
theorem pR_81_18 : px_chkR prog_15_method_1_code pr_81_18 = true := by decide +kernel
set_option maxRecDepth 100000 in
theorem pR_81_19 : px_chkR prog_15_method_1_code pr_81_19 = true := by decide +kernel
set_option maxRecDepth 100000 in
theorem pR_81_20 : px_chkR prog_15_method_1_code pr_81_20 = true := by decide +kernel
set_option maxRecDepth 100000 in
theorem pR_81_21 : px_chkR prog_15_method_1_code pr_81_21 = true := by decide +kernel
set_option maxRecDepth 100000 in
theorem pR_81_22 : px_chkR prog_15_method_1_code pr_81_22 = true := by decide +kernel
set_option maxRecDepth 100000 in
theorem pR_81_23 : px_chkR prog_15_method_1_code pr_81_23 = true := by decide +kernel
set_option maxRecDepth 100000 in
theorem pR_81_24 : px_chkR prog_15_method_1_code pr_81_24 = true := by decide +kernel
set_option maxRecDepth 100000 in
theorem pR_81_25 : px_chkR prog_15_method_1_code pr_81_25 = true := by decide +kernel
set_option maxRecDepth 100000 in
theorem pR_81_26 : px_chkR prog_15_method_1_code pr_81_26 = true := by decide +kernel
set_option maxRecDepth 100000 in
theorem pR_81_27 : px_chkR prog_15_method_1_code pr_81_27 = true := by decide +kernel
set_option maxRecDepth 100000 in
theorem pR_81_28 : px_chkR prog_15_method_1_code pr_81_28 = true := by decide +kernel
set_option maxRecDepth 100000 in
theorem pR_81_29 : px_chkR prog_15_method_1_code pr_81_29 = true := by decide +kernel
set_option maxRecDepth 100000 in
theorem pR_81_30 : px_chkR prog_15_method_1_code pr_81_30 = true := by decide +kernel
set_option maxRecDepth 100000 in
theorem pR_81_31 : px_chkR prog_15_method_1_code pr_81_31 = true := by decide +kernel
theorem pD_81 : px_chkD pm_81 = true := px_chkD_of (show ∀ row ∈ [pr_81_0, pr_81_1, pr_81_2, pr_81_3, pr_81_4, pr_81_5, pr_81_6, pr_81_7, pr_81_8, pr_81_9, pr_81_10, pr_81_11, pr_81_12, pr_81_13, pr_81_14, pr_81_15, pr_81_16, pr_81_17, pr_81_18, pr_81_19, pr_81_20, pr_81_21, pr_81_22, pr_81_23, pr_81_24, pr_81_25, pr_81_26, pr_81_27, pr_81_28, pr_81_29, pr_81_30, pr_81_31], px_chkR prog_15_method_1_code row = true from List.forall_mem_cons.mpr ⟨pR_81_0, List.forall_mem_cons.mpr ⟨pR_81_1, List.forall_mem_cons.mpr ⟨pR_81_2, List.forall_mem_cons.mpr ⟨pR_81_3, List.forall_mem_cons.mpr ⟨pR_81_4, List.forall_mem_cons.mpr ⟨pR_81_5, List.forall_mem_cons.mpr ⟨pR_81_6, List.forall_mem_cons.mpr ⟨pR_81_7, List.forall_mem_cons.mpr ⟨pR_81_8, List.forall_mem_cons.mpr ⟨pR_81_9, List.forall_mem_cons.mpr ⟨pR_81_10, List.forall_mem_cons.mpr ⟨pR_81_11, List.forall_mem_cons.mpr ⟨pR_81_12, List.forall_mem_cons.mpr ⟨pR_81_13, List.forall_mem_cons.mpr ⟨pR_81_14, List.forall_mem_cons.mpr ⟨pR_81_15, List.forall_mem_cons.mpr ⟨pR_81_16, List.forall_mem_cons.mpr ⟨pR_81_17, List.forall_mem_cons.mpr ⟨pR_81_18, List.forall_mem_cons.mpr ⟨pR_81_19, List.forall_mem_cons.mpr ⟨pR_81_20, List.forall_mem_cons.mpr ⟨pR_81_21, List.forall_mem_cons.mpr ⟨pR_81_22, List.forall_mem_cons.mpr ⟨pR_81_23, List.forall_mem_cons.mpr ⟨pR_81_24, List.forall_mem_cons.mpr ⟨pR_81_25, List.forall_mem_cons.mpr ⟨pR_81_26, List.forall_mem_cons.mpr ⟨pR_81_27, List.forall_mem_cons.mpr ⟨pR_81_28, List.forall_mem_cons.mpr ⟨pR_81_29, List.forall_mem_cons.mpr ⟨pR_81_30, List.forall_mem_cons.mpr ⟨pR_81_31, fun _ h => absurd h List.not_mem_nil⟩⟩⟩⟩⟩⟩⟩⟩⟩⟩⟩⟩⟩⟩⟩⟩⟩⟩⟩⟩⟩⟩⟩⟩⟩⟩⟩⟩⟩⟩⟩⟩)
set_option maxRecDepth 100000 in
theorem pK_81 : px_chkK pm_81 [[1662, 205, 206], [1713], [1663], [1715], [1664], [1717], [1718], [1721], [1723], [], [], [], [], [], [], [], [], [], [1725], [], [], [], [], [], [], [1726], [], [], [], [], [], [], [], [], [], [], [], [], [], [], [1727], [], [], [], [], [], [], [], [], [], [], [], [], [], [1728], [1731], [1732], [1733], [1734], [1736], [1738], [1739], [1741], [1743], [1744], [1746], [1747], [1749], [1750], [1751], [1752], [1666, 1667], [1668, 1669]] = true := by decide +kernel
theorem pO_81 : px_okM pm_81 := px_chkM_ok px_allY_ok pD_81 pK_81
set_option maxRecDepth 100000 in
theorem pR_82_0 : px_chkR prog_15_method_95_code pr_82_0 = true := by decide +kernel
set_option maxRecDepth 100000 in
theorem pR_82_1 : px_chkR prog_15_method_95_code pr_82_1 = true := by decide +kernel
set_option maxRecDepth 100000 in
theorem pR_82_2 : px_chkR prog_15_method_95_code pr_82_2 = true := by decide +kernel
theorem pD_82 : px_chkD pm_82 = true := px_chkD_of (show ∀ row ∈ [pr_82_0, pr_82_1, pr_82_2], px_chkR prog_15_method_95_code row = true from List.forall_mem_cons.mpr ⟨pR_82_0, List.forall_mem_cons.mpr ⟨pR_82_1, List.forall_mem_cons.mpr ⟨pR_82_2, fun _ h => absurd h List.not_mem_nil⟩⟩⟩)
set_option maxRecDepth 100000 in
theorem pK_82 : px_chkK pm_82 [[1712], [1939], [1848, 1850, 91], [1719]] = true := by decide +kernel
theorem pO_82 : px_okM pm_82 := px_chkM_ok px_allY_ok pD_82 pK_82
set_option maxRecDepth 100000 in
theorem pR_83_0 : px_chkR prog_15_method_90_code pr_83_0 = true := by decide +kernel
set_option maxRecDepth 100000 in
theorem pR_83_1 : px_chkR prog_15_method_90_code pr_83_1 = true := by decide +kernel
set_option maxRecDepth 100000 in
theorem pR_83_2 : px_chkR prog_15_method_90_code pr_83_2 = true := by decide +kernel
set_option maxRecDepth 100000 in
theorem pR_83_3 : px_chkR prog_15_method_90_code pr_83_3 = true := by decide +kernel
set_option maxRecDepth 100000 in
theorem pR_83_4 : px_chkR prog_15_method_90_code pr_83_4 = true := by decide +kernel
theorem pD_83 : px_chkD pm_83 = true := px_chkD_of (show ∀ row ∈ [pr_83_0, pr_83_1, pr_83_2, pr_83_3, pr_83_4], px_chkR prog_15_method_90_code row = true from List.forall_mem_cons.mpr ⟨pR_83_0, List.forall_mem_cons.mpr ⟨pR_83_1, List.forall_mem_cons.mpr ⟨pR_83_2, List.forall_mem_cons.mpr ⟨pR_83_3, List.forall_mem_cons.mpr ⟨pR_83_4, fun _ h => absurd h List.not_mem_nil⟩⟩⟩⟩⟩)
set_option maxRecDepth 100000 in
theorem pK_83 : px_chkK pm_83 [[1717], [1718], [1712], [1939], [1848, 1850, 91], [2296, 2298, 126]] = true := by decide +kernel
theorem pO_83 : px_okM pm_83 := px_chkM_ok px_allY_ok pD_83 pK_83
set_option maxRecDepth 100000 in
theorem pR_84_0 : px_chkR prog_15_method_96_code pr_84_0 = true := by decide +kernel
set_option maxRecDepth 100000 in
theorem pR_84_1 : px_chkR prog_15_method_96_code pr_84_1 = true := by decide +kernel
set_option maxRecDepth 100000 in
theorem pR_84_4 : px_chkR prog_15_method_96_code pr_84_4 = true := by decide +kernel
set_option maxRecDepth 100000 in
theorem pR_84_5 : px_chkR prog_15_method_96_code pr_84_5 = true := by decide +kernel
set_option maxRecDepth 100000 in
theorem pR_84_15 : px_chkR prog_15_method_96_code pr_84_15 = true := by decide +kernel
set_option maxRecDepth 100000 in
theorem pR_84_16 : px_chkR prog_15_method_96_code pr_84_16 = true := by decide +kernel
theorem pD_84 : px_chkD pm_84 = true := px_chkD_of (show ∀ row ∈ [pr_84_0, pr_84_1, [], [], pr_84_4, pr_84_5, [], [], [], [], [], [], [], [], [], pr_84_15, pr_84_16], px_chkR prog_15_method_96_code row = true from List.forall_mem_cons.mpr ⟨pR_84_0, List.forall_mem_cons.mpr ⟨pR_84_1, List.forall_mem_cons.mpr ⟨rfl, List.forall_mem_cons.mpr ⟨rfl, List.forall_mem_cons.mpr ⟨pR_84_4, List.forall_mem_cons.mpr ⟨pR_84_5, List.forall_mem_cons.mpr ⟨rfl, List.forall_mem_cons.mpr ⟨rfl, List.forall_mem_cons.mpr ⟨rfl, List.forall_mem_cons.mpr ⟨rfl, List.forall_mem_cons.mpr ⟨rfl, List.forall_mem_cons.mpr ⟨rfl, List.forall_mem_cons.mpr ⟨rfl, List.forall_mem_cons.mpr ⟨rfl, List.forall_mem_cons.mpr ⟨rfl, List.forall_mem_cons.mpr ⟨pR_84_15, List.forall_mem_cons.mpr ⟨pR_84_16, fun _ h => absurd h List.not_mem_nil⟩⟩⟩⟩⟩⟩⟩⟩⟩⟩⟩⟩⟩⟩⟩⟩⟩)
set_option maxRecDepth 100000 in
theorem pK_84 : px_chkK pm_84 [[1718], [1712], [1848, 1850, 91], [2296, 2298, 126], [1716]] = true := by decide +kernel
theorem pO_84 : px_okM pm_84 := px_chkM_ok px_allY_ok pD_84 pK_84
set_option maxRecDepth 100000 in
theorem pR_85_0 : px_chkR prog_15_method_5_code pr_85_0 = true := by decide +kernel
theorem pD_85 : px_chkD pm_85 = true := px_chkD_of (show ∀ row ∈ [pr_85_0], px_chkR prog_15_method_5_code row = true from List.forall_mem_cons.mpr ⟨pR_85_0, fun _ h => absurd h List.not_mem_nil⟩)
set_option maxRecDepth 100000 in
theorem pK_85 : px_chkK pm_85 [[1847], [1910]] = true := by decide +kernel
theorem pO_85 : px_okM pm_85 := px_chkM_ok px_allY_ok pD_85 pK_85
set_option maxRecDepth 100000 in
theorem pR_86_0 : px_chkR prog_15_method_59_code pr_86_0 = true := by decide +kernel
set_option maxRecDepth 100000 in
theorem pR_86_1 : px_chkR prog_15_method_59_code pr_86_1 = true := by decide +kernel
set_option maxRecDepth 100000 in
theorem pR_86_2 : px_chkR prog_15_method_59_code pr_86_2 = true := by decide +kernel
set_option maxRecDepth 100000 in
theorem pR_86_3 : px_chkR prog_15_method_59_code pr_86_3 = true := by decide +kernel
theorem pD_86 : px_chkD pm_86 = true := px_chkD_of (show ∀ row ∈ [pr_86_0, pr_86_1, pr_86_2, pr_86_3], px_chkR prog_15_method_59_code row = true from List.forall_mem_cons.mpr ⟨pR_86_0, List.forall_mem_cons.mpr ⟨pR_86_1, List.forall_mem_cons.mpr ⟨pR_86_2, List.forall_mem_cons.mpr ⟨pR_86_3, fun _ h => absurd h List.not_mem_nil⟩⟩⟩⟩)
set_option maxRecDepth 100000 in
theorem pK_86 : px_chkK pm_86 [[1712], [1848, 1850, 91], [1719], [2295], [2296, 2298, 126]] = true := by decide +kernel
theorem pO_86 : px_okM pm_86 := px_chkM_ok px_allY_ok pD_86 pK_86
set_option maxRecDepth 100000 in
theorem pR_87_0 : px_chkR prog_15_method_32_code pr_87_0 = true := by decide +kernel
set_option maxRecDepth 100000 in
theorem pR_87_14 : px_chkR prog_15_method_32_code pr_87_14 = true := by decide +kernel
theorem pD_87 : px_chkD pm_87 = true := px_chkD_of (show ∀ row ∈ [pr_87_0, [], [], [], [], [], [], [], [], [], [], [], [], [], pr_87_14], px_chkR prog_15_method_32_code row = true from List.forall_mem_cons.mpr ⟨pR_87_0, List.forall_mem_cons.mpr ⟨rfl, List.forall_mem_cons.mpr ⟨rfl, List.forall_mem_cons.mpr ⟨rfl, List.forall_mem_cons.mpr ⟨rfl, List.forall_mem_cons.mpr ⟨rfl, List.forall_mem_cons.mpr ⟨rfl, List.forall_mem_cons.mpr ⟨rfl, List.forall_mem_cons.mpr ⟨rfl, List.forall_mem_cons.mpr ⟨rfl, List.forall_mem_cons.mpr ⟨rfl, List.forall_mem_cons.mpr ⟨rfl, List.forall_mem_cons.mpr ⟨rfl, List.forall_mem_cons.mpr ⟨rfl, List.forall_mem_cons.mpr ⟨pR_87_14, fun _ h => absurd h List.not_mem_nil⟩⟩⟩⟩⟩⟩⟩⟩⟩⟩⟩⟩⟩⟩⟩)
set_option maxRecDepth 100000 in
theorem pK_87 : px_chkK pm_87 [[1724], [1735]] = true := by decide +kernel
theorem pO_87 : px_okM pm_87 := px_chkM_ok px_allY_ok pD_87 pK_87
set_option maxRecDepth 100000 in
theorem pR_88_0 : px_chkR prog_15_method_85_code pr_88_0 = true := by decide +kernel
set_option maxRecDepth 100000 in
theorem pR_88_1 : px_chkR prog_15_method_85_code pr_88_1 = true := by decide +kernel
set_option maxRecDepth 100000 in
theorem pR_88_2 : px_chkR prog_15_method_85_code pr_88_2 = true := by decide +kernel
set_option maxRecDepth 100000 in
theorem pR_88_3 : px_chkR prog_15_method_85_code pr_88_3 = true := by decide +kernel
theorem pD_88 : px_chkD pm_88 = true := px_chkD_of (show ∀ row ∈ [pr_88_0, pr_88_1, pr_88_2, pr_88_3], px_chkR prog_15_method_85_code row = true from List.forall_mem_cons.mpr ⟨pR_88_0, List.forall_mem_cons.mpr ⟨pR_88_1, List.forall_mem_cons.mpr ⟨pR_88_2, List.forall_mem_cons.mpr ⟨pR_88_3, fun _ h => absurd h List.not_mem_nil⟩⟩⟩⟩)
set_option maxRecDepth 100000 in
theorem pK_88 : px_chkK pm_88 [[1712], [1848, 1850, 91], [1719], [2295], [2296, 2298, 126]] = true := by decide +kernel
theorem pO_88 : px_okM pm_88 := px_chkM_ok px_allY_ok pD_88 pK_88
set_option maxRecDepth 100000 in
theorem pR_89_0 : px_chkR prog_15_method_98_code pr_89_0 = true := by decide +kernel
set_option maxRecDepth 100000 in
theorem pR_89_1 : px_chkR prog_15_method_98_code pr_89_1 = true := by decide +kernel
set_option maxRecDepth 100000 in
theorem pR_89_2 : px_chkR prog_15_method_98_code pr_89_2 = true := by decide +kernel
set_option maxRecDepth 100000 in
theorem pR_89_3 : px_chkR prog_15_method_98_code pr_89_3 = true := by decide +kernel
set_option maxRecDepth 100000 in
theorem pR_89_4 : px_chkR prog_15_method_98_code pr_89_4 = true := by decide +kernel
theorem pD_89 : px_chkD pm_89 = true := px_chkD_of (show ∀ row ∈ [pr_89_0, pr_89_1, pr_89_2, pr_89_3, pr_89_4], px_chkR prog_15_method_98_code row = true from List.forall_mem_cons.mpr ⟨pR_89_0, List.forall_mem_cons.mpr ⟨pR_89_1, List.forall_mem_cons.mpr ⟨pR_89_2, List.forall_mem_cons.mpr ⟨pR_89_3, List.forall_mem_cons.mpr ⟨pR_89_4, fun _ h => absurd h List.not_mem_nil⟩⟩⟩⟩⟩)
set_option maxRecDepth 100000 in
theorem pK_89 : px_chkK pm_89 [[1712], [1848, 1850, 91], [1719], [1714], [1720], [1716]] = true := by decide +kernel
theorem pO_89 : px_okM pm_89 := px_chkM_ok px_allY_ok pD_89 pK_89
set_option maxRecDepth 100000 in
theorem pR_90_0 : px_chkR prog_15_method_75_code pr_90_0 = true := by decide +kernel
set_option maxRecDepth 100000 in
theorem pR_90_1 : px_chkR prog_15_method_75_code pr_90_1 = true := by decide +kernel
set_option maxRecDepth 100000 in
theorem pR_90_2 : px_chkR prog_15_method_75_code pr_90_2 = true := by decide +kernel
set_option maxRecDepth 100000 in
theorem pR_90_3 : px_chkR prog_15_method_75_code pr_90_3 = true := by decide +kernel
set_option maxRecDepth 100000 in
theorem pR_90_4 : px_chkR prog_15_method_75_code pr_90_4 = true := by decide +kernel
theorem pD_90 : px_chkD pm_90 = true := px_chkD_of (show ∀ row ∈ [pr_90_0, pr_90_1, pr_90_2, pr_90_3, pr_90_4], px_chkR prog_15_method_75_code row = true from List.forall_mem_cons.mpr ⟨pR_90_0, List.forall_mem_cons.mpr ⟨pR_90_1, List.forall_mem_cons.mpr ⟨pR_90_2, List.forall_mem_cons.mpr ⟨pR_90_3, List.forall_mem_cons.mpr ⟨pR_90_4, fun _ h => absurd h List.not_mem_nil⟩⟩⟩⟩⟩)
set_option maxRecDepth 100000 in
theorem pK_90 : px_chkK pm_90 [[1718], [1712], [1848, 1850, 91], [1719], [2296, 2298, 126]] = true := by decide +kernel
theorem pO_90 : px_okM pm_90 := px_chkM_ok px_allY_ok pD_90 pK_90
set_option maxRecDepth 100000 in
theorem pR_91_0 : px_chkR prog_15_method_87_code pr_91_0 = true := by decide +kernel
set_option maxRecDepth 100000 in
theorem pR_91_1 : px_chkR prog_15_method_87_code pr_91_1 = true := by decide +kernel
theorem pD_91 : px_chkD pm_91 = true := px_chkD_of (show ∀ row ∈ [pr_91_0, pr_91_1], px_chkR prog_15_method_87_code row = true from List.forall_mem_cons.mpr ⟨pR_91_0, List.forall_mem_cons.mpr ⟨pR_91_1, fun _ h => absurd h List.not_mem_nil⟩⟩)
set_option maxRecDepth 100000 in
theorem pK_91 : px_chkK pm_91 [[1712], [1848, 1850, 91], [1714]] = true := by decide +kernel
theorem pO_91 : px_okM pm_91 := px_chkM_ok px_allY_ok pD_91 pK_91
set_option maxRecDepth 100000 in
theorem pR_92_0 : px_chkR prog_15_method_38_code pr_92_0 = true := by decide +kernel
set_option maxRecDepth 100000 in
theorem pR_92_1 : px_chkR prog_15_method_38_code pr_92_1 = true := by decide +kernel
set_option maxRecDepth 100000 in
theorem pR_92_8 : px_chkR prog_15_method_38_code pr_92_8 = true := by decide +kernel
set_option maxRecDepth 100000 in
theorem pR_92_9 : px_chkR prog_15_method_38_code pr_92_9 = true := by decide +kernel
theorem pD_92 : px_chkD pm_92 = true := px_chkD_of (show ∀ row ∈ [pr_92_0, pr_92_1, [], [], [], [], [], [], pr_92_8, pr_92_9], px_chkR prog_15_method_38_code row = true from List.forall_mem_cons.mpr ⟨pR_92_0, List.forall_mem_cons.mpr ⟨pR_92_1, List.forall_mem_cons.mpr ⟨rfl, List.forall_mem_cons.mpr ⟨rfl, List.forall_mem_cons.mpr ⟨rfl, List.forall_mem_cons.mpr ⟨rfl, List.forall_mem_cons.mpr ⟨rfl, List.forall_mem_cons.mpr ⟨rfl, List.forall_mem_cons.mpr ⟨pR_92_8, List.forall_mem_cons.mpr ⟨pR_92_9, fun _ h => absurd h List.not_mem_nil⟩⟩⟩⟩⟩⟩⟩⟩⟩⟩)
set_option maxRecDepth 100000 in
theorem pK_92 : px_chkK pm_92 [[1735]] = true := by decide +kernel
theorem pO_92 : px_okM pm_92 := px_chkM_ok px_allY_ok pD_92 pK_92
set_option maxRecDepth 100000 in
theorem pR_93_0 : px_chkR prog_15_method_3_code pr_93_0 = true := by decide +kernel
theorem pD_93 : px_chkD pm_93 = true := px_chkD_of (show ∀ row ∈ [pr_93_0], px_chkR prog_15_method_3_code row = true from List.forall_mem_cons.mpr ⟨pR_93_0, fun _ h => absurd h List.not_mem_nil⟩)
set_option maxRecDepth 100000 in
theorem pK_93 : px_chkK pm_93 [[1712]] = true := by decide +kernel
theorem pO_93 : px_okM pm_93 := px_chkM_ok px_allY_ok pD_93 pK_93
set_option maxRecDepth 100000 in
theorem pR_94_0 : px_chkR prog_15_method_86_code pr_94_0 = true := by decide +kernel
set_option maxRecDepth 100000 in
theorem pR_94_1 : px_chkR prog_15_method_86_code pr_94_1 = true := by decide +kernel
set_option maxRecDepth 100000 in
theorem pR_94_2 : px_chkR prog_15_method_86_code pr_94_2 = true := by decide +kernel
set_option maxRecDepth 100000 in
theorem pR_94_3 : px_chkR prog_15_method_86_code pr_94_3 = true := by decide +kernel
set_option maxRecDepth 100000 in
theorem pR_94_4 : px_chkR prog_15_method_86_code pr_94_4 = true := by decide +kernel
set_option maxRecDepth 100000 in
theorem pR_94_5 : px_chkR prog_15_method_86_code pr_94_5 = true := by decide +kernel
set_option maxRecDepth 100000 in
theorem pR_94_6 : px_chkR prog_15_method_86_code pr_94_6 = true := by decide +kernel
set_option maxRecDepth 100000 in
theorem pR_94_7 : px_chkR prog_15_method_86_code pr_94_7 = true := by decide +kernel
theorem pD_94 : px_chkD pm_94 = true := px_chkD_of (show ∀ row ∈ [pr_94_0, pr_94_1, pr_94_2, pr_94_3, pr_94_4, pr_94_5, pr_94_6, pr_94_7], px_chkR prog_15_method_86_code row = true from List.forall_mem_cons.mpr ⟨pR_94_0, List.forall_mem_cons.mpr ⟨pR_94_1, List.forall_mem_cons.mpr ⟨pR_94_2, List.forall_mem_cons.mpr ⟨pR_94_3, List.forall_mem_cons.mpr ⟨pR_94_4, List.forall_mem_cons.mpr ⟨pR_94_5, List.forall_mem_cons.mpr ⟨pR_94_6, List.forall_mem_cons.mpr ⟨pR_94_7, fun _ h => absurd h List.not_mem_nil⟩⟩⟩⟩⟩⟩⟩⟩)
set_option maxRecDepth 100000 in
theorem pK_94 : px_chkK pm_94 [[1713], [1712], [1714]] = true := by decide +kernel
theorem pO_94 : px_okM pm_94 := px_chkM_ok px_allY_ok pD_94 pK_94
set_option maxRecDepth 100000 in
theorem pR_95_0 : px_chkR prog_15_method_7_code pr_95_0 = true := by decide +kernel
set_option maxRecDepth 100000 in
theorem pR_95_4 : px_chkR prog_15_method_7_code pr_95_4 = true := by decide +kernel
set_option maxRecDepth 100000 in
theorem pR_95_5 : px_chkR prog_15_method_7_code pr_95_5 = true := by decide +kernel
set_option maxRecDepth 100000 in
theorem pR_95_9 : px_chkR prog_15_method_7_code pr_95_9 = true := by decide +kernel
set_option maxRecDepth 100000 in
theorem pR_95_10 : px_chkR prog_15_method_7_code pr_95_10 = true := by decide +kernel
theorem pD_95 : px_chkD pm_95 = true := px_chkD_of (show ∀ row ∈ [pr_95_0, [], [], [], pr_95_4, pr_95_5, [], [], [], pr_95_9, pr_95_10], px_chkR prog_15_method_7_code row = true from List.forall_mem_cons.mpr ⟨pR_95_0, List.forall_mem_cons.mpr ⟨rfl, List.forall_mem_cons.mpr ⟨rfl, List.forall_mem_cons.mpr ⟨rfl, List.forall_mem_cons.mpr ⟨pR_95_4, List.forall_mem_cons.mpr ⟨pR_95_5, List.forall_mem_cons.mpr ⟨rfl, List.forall_mem_cons.mpr ⟨rfl, List.forall_mem_cons.mpr ⟨rfl, List.forall_mem_cons.mpr ⟨pR_95_9, List.forall_mem_cons.mpr ⟨pR_95_10, fun _ h => absurd h List.not_mem_nil⟩⟩⟩⟩⟩⟩⟩⟩⟩⟩⟩)
set_option maxRecDepth 100000 in
theorem pK_95 : px_chkK pm_95 [[1731], [1906, 1908, 93]] = true := by decide +kernel
theorem pO_95 : px_okM pm_95 := px_chkM_ok px_allY_ok pD_95 pK_95
set_option maxRecDepth 100000 in
theorem pR_96_0 : px_chkR prog_15_method_50_code pr_96_0 = true := by decide +kernel
set_option maxRecDepth 100000 in
theorem pR_96_1 : px_chkR prog_15_method_50_code pr_96_1 = true := by decide +kernel
set_option maxRecDepth 100000 in
theorem pR_96_2 : px_chkR prog_15_method_50_code pr_96_2 = true := by decide +kernel
set_option maxRecDepth 100000 in
theorem pR_96_3 : px_chkR prog_15_method_50_code pr_96_3 = true := by decide +kernel
theorem pD_96 : px_chkD pm_96 = true := px_chkD_of (show ∀ row ∈ [pr_96_0, pr_96_1, pr_96_2, pr_96_3], px_chkR prog_15_method_50_code row = true from List.forall_mem_cons.mpr ⟨pR_96_0, List.forall_mem_cons.mpr ⟨pR_96_1, List.forall_mem_cons.mpr ⟨pR_96_2, List.forall_mem_cons.mpr ⟨pR_96_3, fun _ h => absurd h List.not_mem_nil⟩⟩⟩⟩)
set_option maxRecDepth 100000 in
theorem pK_96 : px_chkK pm_96 [[1712], [1848, 1850, 91], [1719], [2295], [2296, 2298, 126]] = true := by decide +kernel
theorem pO_96 : px_okM pm_96 := px_chkM_ok px_allY_ok pD_96 pK_96
set_option maxRecDepth 100000 in
theorem pR_97_0 : px_chkR prog_15_method_51_code pr_97_0 = true := by decide +kernel
set_option maxRecDepth 100000 in
theorem pR_97_1 : px_chkR prog_15_method_51_code pr_97_1 = true := by decide +kernel
set_option maxRecDepth 100000 in
theorem pR_97_2 : px_chkR prog_15_method_51_code pr_97_2 = true := by decide +kernel
set_option maxRecDepth 100000 in
theorem pR_97_3 : px_chkR prog_15_method_51_code pr_97_3 = true := by decide +kernel
theorem pD_97 : px_chkD pm_97 = true := px_chkD_of (show ∀ row ∈ [pr_97_0, pr_97_1, pr_97_2, pr_97_3], px_chkR prog_15_method_51_code row = true from List.forall_mem_cons.mpr ⟨pR_97_0, List.forall_mem_cons.mpr ⟨pR_97_1, List.forall_mem_cons.mpr ⟨pR_97_2, List.forall_mem_cons.mpr ⟨pR_97_3, fun _ h => absurd h List.not_mem_nil⟩⟩⟩⟩)
set_option maxRecDepth 100000 in
theorem pK_97 : px_chkK pm_97 [[1712], [1848, 1850, 91], [1719], [2295], [2296, 2298, 126]] = true := by decide +kernel
theorem pO_97 : px_okM pm_97 := px_chkM_ok px_allY_ok pD_97 pK_97
set_option maxRecDepth 100000 in
theorem pR_98_0 : px_chkR prog_15_method_84_code pr_98_0 = true := by decide +kernel
set_option maxRecDepth 100000 in
theorem pR_98_1 : px_chkR prog_15_method_84_code pr_98_1 = true := by decide +kernel
set_option maxRecDepth 100000 in
theorem pR_98_2 : px_chkR prog_15_method_84_code pr_98_2 = true := by decide +kernel
theorem pD_98 : px_chkD pm_98 = true := px_chkD_of (show ∀ row ∈ [pr_98_0, pr_98_1, pr_98_2], px_chkR prog_15_method_84_code row = true from List.forall_mem_cons.mpr ⟨pR_98_0, List.forall_mem_cons.mpr ⟨pR_98_1, List.forall_mem_cons.mpr ⟨pR_98_2, fun _ h => absurd h List.not_mem_nil⟩⟩⟩)
set_option maxRecDepth 100000 in
theorem pK_98 : px_chkK pm_98 [[1712], [1848, 1850, 91], [1719], [2295], [2296, 2298, 126]] = true := by decide +kernel
theorem pO_98 : px_okM pm_98 := px_chkM_ok px_allY_ok pD_98 pK_98
set_option maxRecDepth 100000 in
theorem pR_99_0 : px_chkR prog_15_method_25_code pr_99_0 = true := by decide +kernel
set_option maxRecDepth 100000 in
theorem pR_99_1 : px_chkR prog_15_method_25_code pr_99_1 = true := by decide +kernel
set_option maxRecDepth 100000 in
theorem pR_99_2 : px_chkR prog_15_method_25_code pr_99_2 = true := by decide +kernel
set_option maxRecDepth 100000 in
theorem pR_99_3 : px_chkR prog_15_method_25_code pr_99_3 = true := by decide +kernel
set_option maxRecDepth 100000 in
theorem pR_99_4 : px_chkR prog_15_method_25_code pr_99_4 = true := by decide +kernel
set_option maxRecDepth 100000 in
theorem pR_99_5 : px_chkR prog_15_method_25_code pr_99_5 = true := by decide +kernel
set_option maxRecDepth 100000 in
theorem pR_99_9 : px_chkR prog_15_method_25_code pr_99_9 = true := by decide +kernel
set_option maxRecDepth 100000 in
theorem pR_99_10 : px_chkR prog_15_method_25_code pr_99_10 = true := by decide +kernel
theorem pD_99 : px_chkD pm_99 = true := px_chkD_of (show ∀ row ∈ [pr_99_0, pr_99_1, pr_99_2, pr_99_3, pr_99_4, pr_99_5, [], [], [], pr_99_9, pr_99_10], px_chkR prog_15_method_25_code row = true from List.forall_mem_cons.mpr ⟨pR_99_0, List.forall_mem_cons.mpr ⟨pR_99_1, List.forall_mem_cons.mpr ⟨pR_99_2, List.forall_mem_cons.mpr ⟨pR_99_3, List.forall_mem_cons.mpr ⟨pR_99_4, List.forall_mem_cons.mpr ⟨pR_99_5, List.forall_mem_cons.mpr ⟨rfl, List.forall_mem_cons.mpr ⟨rfl, List.forall_mem_cons.mpr ⟨rfl, List.forall_mem_cons.mpr ⟨pR_99_9, List.forall_mem_cons.mpr ⟨pR_99_10, fun _ h => absurd h List.not_mem_nil⟩⟩⟩⟩⟩⟩⟩⟩⟩⟩⟩)
set_option maxRecDepth 100000 in
theorem pK_99 : px_chkK pm_99 [[1666], [1712], [1722], [1847], [1848, 1850, 91], [1719], [1853, 1854, 1855], [1857], [1714], [1902, 1904, 92]] = true := by decide +kernel
theorem pO_99 : px_okM pm_99 := px_chkM_ok px_allY_ok pD_99 pK_99
set_option maxRecDepth 100000 in
theorem pR_100_0 : px_chkR prog_15_method_63_code pr_100_0 = true := by decide +kernel
set_option maxRecDepth 100000 in
theorem pR_100_1 : px_chkR prog_15_method_63_code pr_100_1 = true := by decide +kernel
set_option maxRecDepth 100000 in
theorem pR_100_2 : px_chkR prog_15_method_63_code pr_100_2 = true := by decide +kernel
set_option maxRecDepth 100000 in
theorem pR_100_3 : px_chkR prog_15_method_63_code pr_100_3 = true := by decide +kernel
set_option maxRecDepth 100000 in
theorem pR_100_4 : px_chkR prog_15_method_63_code pr_100_4 = true := by decide +kernel
theorem pD_100 : px_chkD pm_100 = true := px_chkD_of (show ∀ row ∈ [pr_100_0, pr_100_1, pr_100_2, pr_100_3, pr_100_4], px_chkR prog_15_method_63_code row = true from List.forall_mem_cons.mpr ⟨pR_100_0, List.forall_mem_cons.mpr ⟨pR_100_1, List.forall_mem_cons.mpr ⟨pR_100_2, List.forall_mem_cons.mpr ⟨pR_100_3, List.forall_mem_cons.mpr ⟨pR_100_4, fun _ h => absurd h List.not_mem_nil⟩⟩⟩⟩⟩)
set_option maxRecDepth 100000 in
theorem pK_100 : px_chkK pm_100 [[1712], [1848, 1850, 91], [1719], [2295], [2296, 2298, 126]] = true := by decide +kernel
theorem pO_100 : px_okM pm_100 := px_chkM_ok px_allY_ok pD_100 pK_100
set_option maxRecDepth 100000 in
theorem pR_101_0 : px_chkR prog_15_method_76_code pr_101_0 = true := by decide +kernel
set_option maxRecDepth 100000 in
theorem pR_101_1 : px_chkR prog_15_method_76_code pr_101_1 = true := by decide +kernel
set_option maxRecDepth 100000 in
theorem pR_101_2 : px_chkR prog_15_method_76_code pr_101_2 = true := by decide +kernel
set_option maxRecDepth 100000 in
theorem pR_101_3 : px_chkR prog_15_method_76_code pr_101_3 = true := by decide +kernel
theorem pD_101 : px_chkD pm_101 = true := px_chkD_of (show ∀ row ∈ [pr_101_0, pr_101_1, pr_101_2, pr_101_3], px_chkR prog_15_method_76_code row = true from List.forall_mem_cons.mpr ⟨pR_101_0, List.forall_mem_cons.mpr ⟨pR_101_1, List.forall_mem_cons.mpr ⟨pR_101_2, List.forall_mem_cons.mpr ⟨pR_101_3, fun _ h => absurd h List.not_mem_nil⟩⟩⟩⟩)
set_option maxRecDepth 100000 in
theorem pK_101 : px_chkK pm_101 [[1718], [1712], [1848, 1850, 91], [1719], [2296, 2298, 126]] = true := by decide +kernel
theorem pO_101 : px_okM pm_101 := px_chkM_ok px_allY_ok pD_101 pK_101
set_option maxRecDepth 100000 in
theorem pR_102_0 : px_chkR prog_15_method_49_code pr_102_0 = true := by decide +kernel
set_option maxRecDepth 100000 in
theorem pR_102_1 : px_chkR prog_15_method_49_code pr_102_1 = true := by decide +kernel
set_option maxRecDepth 100000 in
theorem pR_102_2 : px_chkR prog_15_method_49_code pr_102_2 = true := by decide +kernel
set_option maxRecDepth 100000 in
theorem pR_102_3 : px_chkR prog_15_method_49_code pr_102_3 = true := by decide +kernel
theorem pD_102 : px_chkD pm_102 = true := px_chkD_of (show ∀ row ∈ [pr_102_0, pr_102_1, pr_102_2, pr_102_3], px_chkR prog_15_method_49_code row = true from List.forall_mem_cons.mpr ⟨pR_102_0, List.forall_mem_cons.mpr ⟨pR_102_1, List.forall_mem_cons.mpr ⟨pR_102_2, List.forall_mem_cons.mpr ⟨pR_102_3, fun _ h => absurd h List.not_mem_nil⟩⟩⟩⟩)
set_option maxRecDepth 100000 in
theorem pK_102 : px_chkK pm_102 [[1712], [1848, 1850, 91], [1719], [2295], [2296, 2298, 126]] = true := by decide +kernel
theorem pO_102 : px_okM pm_102 := px_chkM_ok px_allY_ok pD_102 pK_102
set_option maxRecDepth 100000 in
theorem pR_103_0 : px_chkR prog_15_method_48_code pr_103_0 = true := by decide +kernel
theorem pD_103 : px_chkD pm_103 = true := px_chkD_of (show ∀ row ∈ [pr_103_0], px_chkR prog_15_method_48_code row = true from List.forall_mem_cons.mpr ⟨pR_103_0, fun _ h => absurd h List.not_mem_nil⟩)
set_option maxRecDepth 100000 in
theorem pK_103 : px_chkK pm_103 [] = true := by decide +kernel
theorem pO_103 : px_okM pm_103 := px_chkM_ok px_allY_ok pD_103 pK_103
set_option maxRecDepth 100000 in
theorem pR_104_0 : px_chkR prog_15_method_91_code pr_104_0 = true := by decide +kernel
set_option maxRecDepth 100000 in
theorem pR_104_1 : px_chkR prog_15_method_91_code pr_104_1 = true := by decide +kernel
set_option maxRecDepth 100000 in
theorem pR_104_2 : px_chkR prog_15_method_91_code pr_104_2 = true := by decide +kernel
set_option maxRecDepth 100000 in
theorem pR_104_3 : px_chkR prog_15_method_91_code pr_104_3 = true := by decide +kernel
set_option maxRecDepth 100000 in
theorem pR_104_5 : px_chkR prog_15_method_91_code pr_104_5 = true := by decide +kernel
theorem pD_104 : px_chkD pm_104 = true := px_chkD_of (show ∀ row ∈ [pr_104_0, pr_104_1, pr_104_2, pr_104_3, [], pr_104_5], px_chkR prog_15_method_91_code row = true from List.forall_mem_cons.mpr ⟨pR_104_0, List.forall_mem_cons.mpr ⟨pR_104_1, List.forall_mem_cons.mpr ⟨pR_104_2, List.forall_mem_cons.mpr ⟨pR_104_3, List.forall_mem_cons.mpr ⟨rfl, List.forall_mem_cons.mpr ⟨pR_104_5, fun _ h => absurd h List.not_mem_nil⟩⟩⟩⟩⟩⟩)
set_option maxRecDepth 100000 in
theorem pK_104 : px_chkK pm_104 [[1718], [1712], [1848, 1850, 91], [1742], [2296, 2298, 126], [2317, 2319, 131]] = true := by decide +kernel
theorem pO_104 : px_okM pm_104 := px_chkM_ok px_allY_ok pD_104 pK_104
set_option maxRecDepth 100000 in
theorem pR_105_0 : px_chkR prog_15_method_92_code pr_105_0 = true := by decide +kernel
set_option maxRecDepth 100000 in
theorem pR_105_1 : px_chkR prog_15_method_92_code pr_105_1 = true := by decide +kernel
set_option maxRecDepth 100000 in
theorem pR_105_2 : px_chkR prog_15_method_92_code pr_105_2 = true := by decide +kernel
set_option maxRecDepth 100000 in
theorem pR_105_3 : px_chkR prog_15_method_92_code pr_105_3 = true := by decide +kernel
theorem pD_105 : px_chkD pm_105 = true := px_chkD_of (show ∀ row ∈ [pr_105_0, pr_105_1, pr_105_2, pr_105_3], px_chkR prog_15_method_92_code row = true from List.forall_mem_cons.mpr ⟨pR_105_0, List.forall_mem_cons.mpr ⟨pR_105_1, List.forall_mem_cons.mpr ⟨pR_105_2, List.forall_mem_cons.mpr ⟨pR_105_3, fun _ h => absurd h List.not_mem_nil⟩⟩⟩⟩)
set_option maxRecDepth 100000 in
theorem pK_105 : px_chkK pm_105 [[1718], [1712], [1848, 1850, 91], [2296, 2298, 126]] = true := by decide +kernel
theorem pO_105 : px_okM pm_105 := px_chkM_ok px_allY_ok pD_105 pK_105
set_option maxRecDepth 100000 in
theorem pR_106_0 : px_chkR prog_15_method_42_code pr_106_0 = true := by decide +kernel
set_option maxRecDepth 100000 in
theorem pR_106_1 : px_chkR prog_15_method_42_code pr_106_1 = true := by decide +kernel
set_option maxRecDepth 100000 in
theorem pR_106_2 : px_chkR prog_15_method_42_code pr_106_2 = true := by decide +kernel
set_option maxRecDepth 100000 in
theorem pR_106_3 : px_chkR prog_15_method_42_code pr_106_3 = true := by decide +kernel
theorem pD_106 : px_chkD pm_106 = true := px_chkD_of (show ∀ row ∈ [pr_106_0, pr_106_1, pr_106_2, pr_106_3], px_chkR prog_15_method_42_code row = true from List.forall_mem_cons.mpr ⟨pR_106_0, List.forall_mem_cons.mpr ⟨pR_106_1, List.forall_mem_cons.mpr ⟨pR_106_2, List.forall_mem_cons.mpr ⟨pR_106_3, fun _ h => absurd h List.not_mem_nil⟩⟩⟩⟩)
set_option maxRecDepth 100000 in
theorem pK_106 : px_chkK pm_106 [[1718], [1712], [1722], [1719], [1724], [1720]] = true := by decide +kernel
theorem pO_106 : px_okM pm_106 := px_chkM_ok px_allY_ok pD_106 pK_106
set_option maxRecDepth 100000 in
theorem pR_107_0 : px_chkR prog_15_method_41_code pr_107_0 = true := by decide +kernel
set_option maxRecDepth 100000 in
theorem pR_107_1 : px_chkR prog_15_method_41_code pr_107_1 = true := by decide +kernel
set_option maxRecDepth 100000 in
theorem pR_107_2 : px_chkR prog_15_method_41_code pr_107_2 = true := by decide +kernel
theorem pD_107 : px_chkD pm_107 = true := px_chkD_of (show ∀ row ∈ [pr_107_0, pr_107_1, pr_107_2], px_chkR prog_15_method_41_code row = true from List.forall_mem_cons.mpr ⟨pR_107_0, List.forall_mem_cons.mpr ⟨pR_107_1, List.forall_mem_cons.mpr ⟨pR_107_2, fun _ h => absurd h List.not_mem_nil⟩⟩⟩)
set_option maxRecDepth 100000 in
theorem pK_107 : px_chkK pm_107 [[1712], [1719], [1740], [2233, 2235, 113]] = true := by decide +kernel
theorem pO_107 : px_okM pm_107 := px_chkM_ok px_allY_ok pD_107 pK_107
set_option maxRecDepth 100000 in
theorem pR_108_0 : px_chkR prog_15_method_93_code pr_108_0 = true := by decide +kernel
set_option maxRecDepth 100000 in
theorem pR_108_1 : px_chkR prog_15_method_93_code pr_108_1 = true := by decide +kernel
theorem pD_108 : px_chkD pm_108 = true := px_chkD_of (show ∀ row ∈ [pr_108_0, pr_108_1], px_chkR prog_15_method_93_code row = true from List.forall_mem_cons.mpr ⟨pR_108_0, List.forall_mem_cons.mpr ⟨pR_108_1, fun _ h => absurd h List.not_mem_nil⟩⟩)
set_option maxRecDepth 100000 in
theorem pK_108 : px_chkK pm_108 [[1718], [1712], [1848, 1850, 91], [2296, 2298, 126]] = true := by decide +kernel
theorem pO_108 : px_okM pm_108 := px_chkM_ok px_allY_ok pD_108 pK_108
set_option maxRecDepth 100000 in
theorem pR_109_0 : px_chkR prog_15_method_39_code pr_109_0 = true := by decide +kernel
set_option maxRecDepth 100000 in
theorem pR_109_3 : px_chkR prog_15_method_39_code pr_109_3 = true := by decide +kernel
set_option maxRecDepth 100000 in
theorem pR_109_4 : px_chkR prog_15_method_39_code pr_109_4 = true := by decide +kernel
set_option maxRecDepth 100000 in
theorem pR_109_5 : px_chkR prog_15_method_39_code pr_109_5 = true := by decide +kernel
set_option maxRecDepth 100000 in
theorem pR_109_16 : px_chkR prog_15_method_39_code pr_109_16 = true := by decide +kernel
theorem pD_109 : px_chkD pm_109 = true := px_chkD_of (show ∀ row ∈ [pr_109_0, [], [], pr_109_3, pr_109_4, pr_109_5, [], [], [], [], [], [], [], [], [], [], pr_109_16], px_chkR prog_15_method_39_code row = true from List.forall_mem_cons.mpr ⟨pR_109_0, List.forall_mem_cons.mpr ⟨rfl, List.forall_mem_cons.mpr ⟨rfl, List.forall_mem_cons.mpr ⟨pR_109_3, List.forall_mem_cons.mpr ⟨pR_109_4, List.forall_mem_cons.mpr ⟨pR_109_5, List.forall_mem_cons.mpr ⟨rfl, List.forall_mem_cons.mpr ⟨rfl, List.forall_mem_cons.mpr ⟨rfl, List.forall_mem_cons.mpr ⟨rfl, List.forall_mem_cons.mpr ⟨rfl, List.forall_mem_cons.mpr ⟨rfl, List.forall_mem_cons.mpr ⟨rfl, List.forall_mem_cons.mpr ⟨rfl, List.forall_mem_cons.mpr ⟨rfl, List.forall_mem_cons.mpr ⟨rfl, List.forall_mem_cons.mpr ⟨pR_109_16, fun _ h => absurd h List.not_mem_nil⟩⟩⟩⟩⟩⟩⟩⟩⟩⟩⟩⟩⟩⟩⟩⟩⟩)
set_option maxRecDepth 100000 in
theorem pK_109 : px_chkK pm_109 [[1739], [1735], [2237, 2239, 114], [2251, 2253, 117], [1740]] = true := by decide +kernel
theorem pO_109 : px_okM pm_109 := px_chkM_ok px_allY_ok pD_109 pK_109
set_option maxRecDepth 100000 in
theorem pR_110_0 : px_chkR prog_15_method_47_code pr_110_0 = true := by decide +kernel
set_option maxRecDepth 100000 in
theorem pR_110_1 : px_chkR prog_15_method_47_code pr_110_1 = true := by decide +kernel
set_option maxRecDepth 100000 in
theorem pR_110_2 : px_chkR prog_15_method_47_code pr_110_2 = true := by decide +kernel
theorem pD_110 : px_chkD pm_110 = true := px_chkD_of (show ∀ row ∈ [pr_110_0, pr_110_1, pr_110_2], px_chkR prog_15_method_47_code row = true from List.forall_mem_cons.mpr ⟨pR_110_0, List.forall_mem_cons.mpr ⟨pR_110_1, List.forall_mem_cons.mpr ⟨pR_110_2, fun _ h => absurd h List.not_mem_nil⟩⟩⟩)
set_option maxRecDepth 100000 in
theorem pK_110 : px_chkK pm_110 [[1718], [1742]] = true := by decide +kernel
theorem pO_110 : px_okM pm_110 := px_chkM_ok px_allY_ok pD_110 pK_110
set_option maxRecDepth 100000 in
theorem pR_111_0 : px_chkR prog_15_method_89_code pr_111_0 = true := by decide +kernel
set_option maxRecDepth 100000 in
theorem pR_111_1 : px_chkR prog_15_method_89_code pr_111_1 = true := by decide +kernel
set_option maxRecDepth 100000 in
theorem pR_111_2 : px_chkR prog_15_method_89_code pr_111_2 = true := by decide +kernel
set_option maxRecDepth 100000 in
theorem pR_111_18 : px_chkR prog_15_method_89_code pr_111_18 = true := by decide +kernel
set_option maxRecDepth 100000 in
theorem pR_111_19 : px_chkR prog_15_method_89_code pr_111_19 = true := by decide +kernel
theorem pD_111 : px_chkD pm_111 = true := px_chkD_of (show ∀ row ∈ [pr_111_0, pr_111_1, pr_111_2, [], [], [], [], [], [], [], [], [], [], [], [], [], [], [], pr_111_18, pr_111_19], px_chkR prog_15_method_89_code row = true from List.forall_mem_cons.mpr ⟨pR_111_0, List.forall_mem_cons.mpr ⟨pR_111_1, List.forall_mem_cons.mpr ⟨pR_111_2, List.forall_mem_cons.mpr ⟨rfl, List.forall_mem_cons.mpr ⟨rfl, List.forall_mem_cons.mpr ⟨rfl, List.forall_mem_cons.mpr ⟨rfl, List.forall_mem_cons.mpr ⟨rfl, List.forall_mem_cons.mpr ⟨rfl, List.forall_mem_cons.mpr ⟨rfl, List.forall_mem_cons.mpr ⟨rfl, List.forall_mem_cons.mpr ⟨rfl, List.forall_mem_cons.mpr ⟨rfl, List.forall_mem_cons.mpr ⟨rfl, List.forall_mem_cons.mpr ⟨rfl, List.forall_mem_cons.mpr ⟨rfl, List.forall_mem_cons.mpr ⟨rfl, List.forall_mem_cons.mpr ⟨rfl, List.forall_mem_cons.mpr ⟨pR_111_18, List.forall_mem_cons.mpr ⟨pR_111_19, fun _ h => absurd h List.not_mem_nil⟩⟩⟩⟩⟩⟩⟩⟩⟩⟩⟩⟩⟩⟩⟩⟩⟩⟩⟩⟩)
set_option maxRecDepth 100000 in
theorem pK_111 : px_chkK pm_111 [[1712], [1848, 1850, 91], [1714], [1742], [2296, 2298, 126], [2317, 2319, 131]] = true := by decide +kernel
theorem pO_111 : px_okM pm_111 := px_chkM_ok px_allY_ok pD_111 pK_111
set_option maxRecDepth 100000 in
theorem pR_112_0 : px_chkR prog_15_method_2_code pr_112_0 = true := by decide +kernel
theorem pD_112 : px_chkD pm_112 = true := px_chkD_of (show ∀ row ∈ [pr_112_0], px_chkR prog_15_method_2_code row = true from List.forall_mem_cons.mpr ⟨pR_112_0, fun _ h => absurd h List.not_mem_nil⟩)
set_option maxRecDepth 100000 in
theorem pK_112 : px_chkK pm_112 [[1712]] = true := by decide +kernel
theorem pO_112 : px_okM pm_112 := px_chkM_ok px_allY_ok pD_112 pK_112
set_option maxRecDepth 100000 in
theorem pR_113_0 : px_chkR prog_15_method_97_code pr_113_0 = true := by decide +kernel
set_option maxRecDepth 100000 in
theorem pR_113_1 : px_chkR prog_15_method_97_code pr_113_1 = true := by decide +kernel
theorem pD_113 : px_chkD pm_113 = true := px_chkD_of (show ∀ row ∈ [pr_113_0, pr_113_1], px_chkR prog_15_method_97_code row = true from List.forall_mem_cons.mpr ⟨pR_113_0, List.forall_mem_cons.mpr ⟨pR_113_1, fun _ h => absurd h List.not_mem_nil⟩⟩)
set_option maxRecDepth 100000 in
theorem pK_113 : px_chkK pm_113 [[1712], [1848, 1850, 91], [1716]] = true := by decide +kernel
theorem pO_113 : px_okM pm_113 := px_chkM_ok px_allY_ok pD_113 pK_113
set_option maxRecDepth 100000 in
theorem pR_114_0 : px_chkR prog_16_method_1_code pr_114_0 = true := by decide +kernel
set_option maxRecDepth 100000 in
theorem pR_114_1 : px_chkR prog_16_method_1_code pr_114_1 = true := by decide +kernel
set_option maxRecDepth 100000 in
theorem pR_114_2 : px_chkR prog_16_method_1_code pr_114_2 = true := by decide +kernel
theorem pD_114 : px_chkD pm_114 = true := px_chkD_of (show ∀ row ∈ [pr_114_0, pr_114_1, pr_114_2], px_chkR prog_16_method_1_code row = true from List.forall_mem_cons.mpr ⟨pR_114_0, List.forall_mem_cons.mpr ⟨pR_114_1, List.forall_mem_cons.mpr ⟨pR_114_2, fun _ h => absurd h List.not_mem_nil⟩⟩⟩)
set_option maxRecDepth 100000 in
theorem pK_114 : px_chkK pm_114 [[1856, 205, 206], [1864], [1866], [1868], [1870], [1872]] = true := by decide +kernel
theorem pO_114 : px_okM pm_114 := px_chkM_ok px_allY_ok pD_114 pK_114
end
section
/-! Written by wip/p1/gen2.py: all methods, exceptions, array classes. -/
theorem px_allM_ok : px_allM := by
  intro y M h
  have hm : M ∈ px_ms := List.mem_of_getElem? h
  have hall : ∀ M ∈ px_ms, px_okM M := by
    show ∀ M ∈ [pm_0, pm_1, pm_2, pm_3, pm_4, pm_5, pm_6, pm_7, pm_8, pm_9, pm_10, pm_11, pm_12, pm_13, pm_14, pm_15, pm_16, pm_17, pm_18, pm_19, pm_20, pm_21, pm_22, pm_23, pm_24, pm_25, pm_26, pm_27, pm_28, pm_29, pm_30, pm_31, pm_32, pm_33, pm_34, pm_35, pm_36, pm_37, pm_38, pm_39, pm_40, pm_41, pm_42, pm_43, pm_44, pm_45, pm_46, pm_47, pm_48, pm_49, pm_50, pm_51, pm_52, pm_53, pm_54, pm_55, pm_56, pm_57, pm_58, pm_59, pm_60, pm_61, pm_62, pm_63, pm_64, pm_65, pm_66, pm_67, pm_68, pm_69, pm_70, pm_71, pm_72, pm_73, pm_74, pm_75, pm_76, pm_77, pm_78, pm_79, pm_80, pm_81, pm_82, pm_83, pm_84, pm_85, pm_86, pm_87, pm_88, pm_89, pm_90, pm_91, pm_92, pm_93, pm_94, pm_95, pm_96, pm_97, pm_98, pm_99, pm_100, pm_101, pm_102, pm_103, pm_104, pm_105, pm_106, pm_107, pm_108, pm_109, pm_110, pm_111, pm_112, pm_113, pm_114], px_okM M
    exact List.forall_mem_cons.mpr ⟨pO_0, List.forall_mem_cons.mpr ⟨pO_1, List.forall_mem_cons.mpr ⟨pO_2, List.forall_mem_cons.mpr ⟨pO_3, List.forall_mem_cons.mpr ⟨pO_4, List.forall_mem_cons.mpr ⟨pO_5, List.forall_mem_cons.mpr ⟨pO_6, List.forall_mem_cons.mpr ⟨pO_7, List.forall_mem_cons.mpr ⟨pO_8, List.forall_mem_cons.mpr ⟨pO_9, List.forall_mem_cons.mpr ⟨pO_10, List.forall_mem_cons.mpr ⟨pO_11, List.forall_mem_cons.mpr ⟨pO_12, List.forall_mem_cons.mpr ⟨pO_13, List.forall_mem_cons.mpr ⟨pO_14, List.forall_mem_cons.mpr ⟨pO_15, List.forall_mem_cons.mpr ⟨pO_16, List.forall_mem_cons.mpr ⟨pO_17, List.forall_mem_cons.mpr ⟨pO_18, List.forall_mem_cons.mpr ⟨pO_19, List.forall_mem_cons.mpr ⟨pO_20, List.forall_mem_cons.mpr ⟨pO_21, List.forall_mem_cons.mpr ⟨pO_22, List.forall_mem_cons.mpr ⟨pO_23, List.forall_mem_cons.mpr ⟨pO_24, List.forall_mem_cons.mpr ⟨pO_25, List.forall_mem_cons.mpr ⟨pO_26, List.forall_mem_cons.mpr ⟨pO_27, List.forall_mem_cons.mpr ⟨pO_28, List.forall_mem_cons.mpr ⟨pO_29, List.forall_mem_cons.mpr ⟨pO_30, List.forall_mem_cons.mpr ⟨pO_31, List.forall_mem_cons.mpr ⟨pO_32, List.forall_mem_cons.mpr ⟨pO_33, List.forall_mem_cons.mpr ⟨pO_34, List.forall_mem_cons.mpr ⟨pO_35, List.forall_mem_cons.mpr ⟨pO_36, List.forall_mem_cons.mpr ⟨pO_37, List.forall_mem_cons.mpr ⟨pO_38, List.forall_mem_cons.mpr ⟨pO_39, List.forall_mem_cons.mpr ⟨pO_40, List.forall_mem_cons.mpr ⟨pO_41, List.forall_mem_cons.mpr ⟨pO_42, List.forall_mem_cons.mpr ⟨pO_43, List.forall_mem_cons.mpr ⟨pO_44, List.forall_mem_cons.mpr ⟨pO_45, List.forall_mem_cons.mpr ⟨pO_46, List.forall_mem_cons.mpr ⟨pO_47, List.forall_mem_cons.mpr ⟨pO_48, List.forall_mem_cons.mpr ⟨pO_49, List.forall_mem_cons.mpr ⟨pO_50, List.forall_mem_cons.mpr ⟨pO_51, List.forall_mem_cons.mpr ⟨pO_52, List.forall_mem_cons.mpr ⟨pO_53, List.forall_mem_cons.mpr ⟨pO_54, List.forall_mem_cons.mpr ⟨pO_55, List.forall_mem_cons.mpr ⟨pO_56, List.forall_mem_cons.mpr ⟨pO_57, List.forall_mem_cons.mpr ⟨pO_58, List.forall_mem_cons.mpr ⟨pO_59, List.forall_mem_cons.mpr ⟨pO_60, List.forall_mem_cons.mpr ⟨pO_61, List.forall_mem_cons.mpr ⟨pO_62, List.forall_mem_cons.mpr ⟨pO_63, List.forall_mem_cons.mpr ⟨pO_64, List.forall_mem_cons.mpr ⟨pO_65, List.forall_mem_cons.mpr ⟨pO_66, List.forall_mem_cons.mpr ⟨pO_67, List.forall_mem_cons.mpr ⟨pO_68, List.forall_mem_cons.mpr ⟨pO_69, List.forall_mem_cons.mpr ⟨pO_70, List.forall_mem_cons.mpr ⟨pO_71, List.forall_mem_cons.mpr ⟨pO_72, List.forall_mem_cons.mpr ⟨pO_73, List.forall_mem_cons.mpr ⟨pO_74, List.forall_mem_cons.mpr ⟨pO_75, List.forall_mem_cons.mpr ⟨pO_76, List.forall_mem_cons.mpr ⟨pO_77, List.forall_mem_cons.mpr ⟨pO_78, List.forall_mem_cons.mpr ⟨pO_79, List.forall_mem_cons.mpr ⟨pO_80, List.forall_mem_cons.mpr ⟨pO_81, List.forall_mem_cons.mpr ⟨pO_82, List.forall_mem_cons.mpr ⟨pO_83, List.forall_mem_cons.mpr ⟨pO_84, List.forall_mem_cons.mpr ⟨pO_85, List.forall_mem_cons.mpr ⟨pO_86, List.forall_mem_cons.mpr ⟨pO_87, List.forall_mem_cons.mpr ⟨pO_88, List.forall_mem_cons.mpr ⟨pO_89, List.forall_mem_cons.mpr ⟨pO_90, List.forall_mem_cons.mpr ⟨pO_91, List.forall_mem_cons.mpr ⟨pO_92, List.forall_mem_cons.mpr ⟨pO_93, List.forall_mem_cons.mpr ⟨pO_94, List.forall_mem_cons.mpr ⟨pO_95, List.forall_mem_cons.mpr ⟨pO_96, List.forall_mem_cons.mpr ⟨pO_97, List.forall_mem_cons.mpr ⟨pO_98, List.forall_mem_cons.mpr ⟨pO_99, List.forall_mem_cons.mpr ⟨pO_100, List.forall_mem_cons.mpr ⟨pO_101, List.forall_mem_cons.mpr ⟨pO_102, List.forall_mem_cons.mpr ⟨pO_103, List.forall_mem_cons.mpr ⟨pO_104, List.forall_mem_cons.mpr ⟨pO_105, List.forall_mem_cons.mpr ⟨pO_106, List.forall_mem_cons.mpr ⟨pO_107, List.forall_mem_cons.mpr ⟨pO_108, List.forall_mem_cons.mpr ⟨pO_109, List.forall_mem_cons.mpr ⟨pO_110, List.forall_mem_cons.mpr ⟨pO_111, List.forall_mem_cons.mpr ⟨pO_112, List.forall_mem_cons.mpr ⟨pO_113, List.forall_mem_cons.mpr ⟨pO_114, fun _ h => absurd h List.not_mem_nil⟩⟩⟩⟩⟩⟩⟩⟩⟩⟩⟩⟩⟩⟩⟩⟩⟩⟩⟩⟩⟩⟩⟩⟩⟩⟩⟩⟩⟩⟩⟩⟩⟩⟩⟩⟩⟩⟩⟩⟩⟩⟩⟩⟩⟩⟩⟩⟩⟩⟩⟩⟩⟩⟩⟩⟩⟩⟩⟩⟩⟩⟩⟩⟩⟩⟩⟩⟩⟩⟩⟩⟩⟩⟩⟩⟩⟩⟩⟩⟩⟩⟩⟩⟩⟩⟩⟩⟩⟩⟩⟩⟩⟩⟩⟩⟩⟩⟩⟩⟩⟩⟩⟩⟩⟩⟩⟩⟩⟩⟩⟩⟩⟩⟩⟩
  exact hall M hm
set_option maxRecDepth 100000 in
theorem pA_byte : px_in (.arrayClass .byte) := px_w_ok (n := 232) (by decide +kernel)
set_option maxRecDepth 100000 in
theorem pA_int : px_in (.arrayClass .int) := px_w_ok (n := 233) (by decide +kernel)
set_option maxRecDepth 100000 in
theorem pA_long : px_in (.arrayClass .long) := px_w_ok (n := 306) (by decide +kernel)
set_option maxRecDepth 100000 in
theorem pA_boolean : px_in (.arrayClass .boolean) := px_w_ok (n := 508) (by decide +kernel)
theorem px_allA_ok : px_allA := by
  intro t n h
  cases t <;> first | exact pA_byte | exact pA_int | exact pA_long | exact pA_boolean | cases h
end
section
/-! The law's start: the world as the Statement gives it. (The rows with numbers are written by wip/p1/gen4.py.) -/
noncomputable def px_fl : List Cond := flatC (Jvm.Cond.and given_1 narrow_1)
noncomputable def px_f (n : Nat) (w : Cond) : Bool := decide (px_nth px_fl n = some w)
theorem px_f_ok {n : Nat} {w : Cond} (h : px_f n w = true) {args : Array Value} {s : State} (hg : (Jvm.Cond.and given_1 narrow_1).before args s = true) : w.before args s = true := by
  simp only [px_f, decide_eq_true_eq, px_nth_eq] at h
  exact flat_of_before _ hg w (List.mem_of_getElem? h)
theorem px_t_ok {n : Nat} {w : Cond} (h : decide (px_nth lw_tbl n = some w) = true) : w ∈ lw_tbl := by
  simp only [decide_eq_true_eq, px_nth_eq] at h
  exact List.mem_of_getElem? h
set_option maxRecDepth 100000 in
theorem pf_U : px_f 4 (.isRef (.static px_tN "UNASSIGNED_STACK" "[Ljava/lang/StackTraceElement;")) = true := by decide +kernel
set_option maxRecDepth 100000 in
theorem pf_S : px_f 5 (.isRef (.static px_tN "SUPPRESSED_SENTINEL" "Ljava/util/List;")) = true := by decide +kernel
set_option maxRecDepth 100000 in
theorem pf_n01 : px_f 250 (.not (.castable "java/lang/IndexOutOfBoundsException" "java/lang/IllegalArgumentException")) = true := by decide +kernel
set_option maxRecDepth 100000 in
theorem pf_n21 : px_f 251 (.not (.castable "java/lang/IllegalStateException" "java/lang/IllegalArgumentException")) = true := by decide +kernel
set_option maxRecDepth 100000 in
theorem pf_n31 : px_f 254 (.not (.castable "java/lang/UnsupportedOperationException" "java/lang/IllegalArgumentException")) = true := by decide +kernel
set_option maxRecDepth 100000 in
theorem pf_n32 : px_f 275 (.not (.castable "java/lang/UnsupportedOperationException" "java/lang/IllegalStateException")) = true := by decide +kernel
set_option maxRecDepth 100000 in
theorem pf_y0 : (Cond.castable "java/lang/IndexOutOfBoundsException" "java/lang/IndexOutOfBoundsException") ∈ lw_tbl := px_t_ok (n := 647) (by decide +kernel)
set_option maxRecDepth 100000 in
theorem pf_y1 : (Cond.castable "java/lang/IllegalArgumentException" "java/lang/IllegalArgumentException") ∈ lw_tbl := px_t_ok (n := 728) (by decide +kernel)
set_option maxRecDepth 100000 in
theorem pf_y2 : (Cond.castable "java/lang/IllegalStateException" "java/lang/IllegalStateException") ∈ lw_tbl := px_t_ok (n := 756) (by decide +kernel)
set_option maxRecDepth 100000 in
theorem pf_y3 : (Cond.castable "java/lang/UnsupportedOperationException" "java/lang/UnsupportedOperationException") ∈ lw_tbl := px_t_ok (n := 1053) (by decide +kernel)
def px_spl : List (Nat × Nat) := [(783, 1670), (789, 1671), (795, 1672), (801, 1673), (816, 1674), (837, 1675), (851, 1676), (865, 1677), (883, 1678), (894, 1679), (919, 1680), (937, 1681), (946, 1682), (961, 1683), (986, 1684), (1007, 1685), (1016, 1686), (1022, 1687), (1028, 1688), (1039, 1689), (1049, 1690), (1056, 1691), (1078, 1692), (1089, 1693), (1104, 1694), (1109, 1695), (1114, 1696), (1119, 1697), (1125, 1698), (1132, 1699), (1143, 1700), (1153, 1701), (1165, 1702), (1182, 1703), (1193, 1704), (1206, 1705), (1216, 1706), (1229, 1707), (1245, 1708), (1261, 1709), (1272, 1710), (1288, 1711)]
set_option maxRecDepth 100000 in
theorem pf_str : ((px_str.zip px_spl).all (fun q => px_f q.2.1 (.exactly (.string q.1.1 q.1.2.1) "java/lang/String") && decide (px_nth lw_tbl q.2.2 = some (.stringRef q.1.1 q.1.2.1 q.1.2.2)))) = true := by decide +kernel
set_option maxRecDepth 100000 in
theorem pf_o4 : (Cond.arrayOver (.object "TextAtlas$Text")) ∈ lw_tbl := px_t_ok (n := 209) (by decide +kernel)
set_option maxRecDepth 100000 in
theorem pf_o5 : (Cond.arrayOver (.object "TextAtlas$Span")) ∈ lw_tbl := px_t_ok (n := 241) (by decide +kernel)
set_option maxRecDepth 100000 in
theorem pf_o6 : (Cond.arrayOver (.object "TextAtlas$Entry")) ∈ lw_tbl := px_t_ok (n := 243) (by decide +kernel)
set_option maxRecDepth 100000 in
theorem pf_o7 : (Cond.arrayOver (.object "TextAtlas$Fact")) ∈ lw_tbl := px_t_ok (n := 428) (by decide +kernel)
set_option maxRecDepth 100000 in
theorem pf_o8 : (Cond.arrayOver (.object "TextAtlasModel$Line")) ∈ lw_tbl := px_t_ok (n := 1667) (by decide +kernel)
set_option maxRecDepth 100000 in
theorem pf_o9 : (Cond.arrayOver (.object "java/lang/String")) ∈ lw_tbl := px_t_ok (n := 1669) (by decide +kernel)
set_option maxRecDepth 100000 in
theorem pf_o10 : (Cond.arrayOver (.array .int)) ∈ lw_tbl := px_t_ok (n := 1665) (by decide +kernel)
set_option maxRecDepth 100000 in
theorem pf_sU : (Cond.laysStatic px_tN "UNASSIGNED_STACK" "[Ljava/lang/StackTraceElement;") ∈ lw_tbl := px_t_ok (n := 672) (by decide +kernel)
set_option maxRecDepth 100000 in
theorem pf_sS : (Cond.laysStatic px_tN "SUPPRESSED_SENTINEL" "Ljava/util/List;") ∈ lw_tbl := px_t_ok (n := 674) (by decide +kernel)
set_option maxRecDepth 100000 in
theorem pf_iT : (Cond.initialized px_tN) ∈ lw_tbl := px_t_ok (n := 177) (by decide +kernel)
set_option maxRecDepth 100000 in
theorem pX_0 : ((px_thw "java/lang/IndexOutOfBoundsException").zip [177, 667, 676, 682, 685, 687, 668, 669, 205, 206, 670, 675, 683, 700, 657, 701, 659, 702, 661, 671, 673, 663, 689, 690, 691, 692, 648, 692, 693, 694, 695, 650, 695, 696, 697, 668, 652, 646, 654, 655, 656, 658, 660, 698, 665, 664]).all (fun q => px_w q.2 q.1) = true ∧ (px_thw "java/lang/IndexOutOfBoundsException").length = 46 := by decide +kernel
set_option maxRecDepth 100000 in
theorem pXi_0 : px_in (.initialized "java/lang/IndexOutOfBoundsException") := px_w_ok (n := 180) (by decide +kernel)
set_option maxRecDepth 100000 in
theorem pX_1 : ((px_thw "java/lang/IllegalArgumentException").zip [177, 667, 676, 682, 685, 687, 668, 669, 205, 206, 670, 675, 683, 700, 657, 701, 659, 702, 661, 671, 673, 663, 736, 737, 738, 692, 648, 692, 693, 694, 695, 650, 695, 696, 697, 668, 652, 727, 729, 679, 730, 731, 732, 698, 665, 734]).all (fun q => px_w q.2 q.1) = true ∧ (px_thw "java/lang/IllegalArgumentException").length = 46 := by decide +kernel
set_option maxRecDepth 100000 in
theorem pXi_1 : px_in (.initialized "java/lang/IllegalArgumentException") := px_w_ok (n := 181) (by decide +kernel)
set_option maxRecDepth 100000 in
theorem pX_2 : ((px_thw "java/lang/IllegalStateException").zip [177, 667, 676, 682, 685, 687, 668, 669, 205, 206, 670, 675, 683, 700, 657, 701, 659, 702, 661, 671, 673, 663, 764, 765, 766, 692, 648, 692, 693, 694, 695, 650, 695, 696, 697, 668, 652, 755, 757, 680, 758, 759, 760, 698, 665, 762]).all (fun q => px_w q.2 q.1) = true ∧ (px_thw "java/lang/IllegalStateException").length = 46 := by decide +kernel
set_option maxRecDepth 100000 in
theorem pXi_2 : px_in (.initialized "java/lang/IllegalStateException") := px_w_ok (n := 182) (by decide +kernel)
set_option maxRecDepth 100000 in
theorem pX_3 : ((px_thw "java/lang/UnsupportedOperationException").zip [177, 667, 676, 682, 685, 687, 668, 669, 205, 206, 670, 675, 683, 700, 657, 701, 659, 702, 661, 671, 673, 663, 1061, 1062, 1063, 692, 648, 692, 693, 694, 695, 650, 695, 696, 697, 668, 652, 1052, 1054, 681, 1055, 1056, 1057, 698, 665, 1059]).all (fun q => px_w q.2 q.1) = true ∧ (px_thw "java/lang/UnsupportedOperationException").length = 46 := by decide +kernel
set_option maxRecDepth 100000 in
theorem pXi_3 : px_in (.initialized "java/lang/UnsupportedOperationException") := px_w_ok (n := 189) (by decide +kernel)
set_option maxRecDepth 100000 in
theorem pX_4 : ((px_thw "java/lang/ArithmeticException").zip [177, 667, 676, 682, 685, 687, 668, 669, 205, 206, 670, 675, 683, 700, 657, 701, 659, 702, 661, 671, 673, 663, 1166, 1167, 1168, 692, 648, 692, 693, 694, 695, 650, 695, 696, 697, 668, 652, 1157, 1159, 678, 1160, 1161, 1162, 698, 665, 1164]).all (fun q => px_w q.2 q.1) = true ∧ (px_thw "java/lang/ArithmeticException").length = 46 := by decide +kernel
set_option maxRecDepth 100000 in
theorem pXi_4 : px_in (.initialized "java/lang/ArithmeticException") := px_w_ok (n := 198) (by decide +kernel)
theorem px_zip_ok {ws : List Cond} {ps : List Nat} (h : (ws.zip ps).all (fun q => px_w q.2 q.1) = true) (hl : ws.length = ps.length) : ∀ w ∈ ws, px_in w := by
  intro w hw
  obtain ⟨i, hi⟩ := List.getElem?_of_mem hw
  have hlt : i < ps.length := by rw [← hl]; exact (List.getElem?_eq_some_iff.mp hi).1
  have h3 : (w, ps[i]) ∈ ws.zip ps := by
    refine List.mem_of_getElem? (i := i) ?_
    rw [List.getElem?_zip_eq_some]
    exact ⟨hi, List.getElem?_eq_getElem hlt⟩
  exact px_w_ok (List.all_eq_true.mp h _ h3)
theorem px_allX_ok : px_allX := by
  intro k n h
  have hlt : k < 5 := (List.getElem?_eq_some_iff.mp h).1
  have hs : k = 0 ∨ k = 1 ∨ k = 2 ∨ k = 3 ∨ k = 4 := by omega
  rcases hs with rfl | rfl | rfl | rfl | rfl
  · cases h; exact ⟨px_zip_ok pX_0.1 pX_0.2, pXi_0, by decide +kernel⟩
  · cases h; exact ⟨px_zip_ok pX_1.1 pX_1.2, pXi_1, by decide +kernel⟩
  · cases h; exact ⟨px_zip_ok pX_2.1 pX_2.2, pXi_2, by decide +kernel⟩
  · cases h; exact ⟨px_zip_ok pX_3.1 pX_3.2, pXi_3, by decide +kernel⟩
  · cases h; exact ⟨px_zip_ok pX_4.1 pX_4.2, pXi_4, by decide +kernel⟩
end
section
/-! The world at the law's start, and the claim. -/
section PxStart
variable {s : State} {b : Nat}
theorem px_tb0 (hts : ∀ w ∈ lw_tbl, w.before #[Value.ref b] s = true) : px_tb s := fun w hw args => px_kw_warm hw.2 (State.WarmedH.refl s) (hts w hw.1)
theorem px_D0 (ht : px_tb s) : ∃ D : va_G, va_K D px_cl [] s := by
  have h0 : ∀ ci : Nat, ∃ q : ClassId × (Nat → Nat), ∀ (C : String) (T : u_T) (N : Nat), px_cl[ci]? = some (C, T, N) → u_Kn s C T N q.1 q.2 := by
    intro ci
    cases h : px_cl[ci]? with
    | none => exact ⟨(0, fun _ => 0), fun C T N hq => by cases hq⟩
    | some r =>
      obtain ⟨C, T, N⟩ := r
      obtain ⟨b1, b2, -⟩ := px_allC_ok ci C T N h
      obtain ⟨cC, iS, hK⟩ := u_known (ws := u_ws C T N) (args := #[]) (fun w hw => ht w (b1 w hw) #[]) (fun _ hw => hw) (ht _ b2 #[])
      exact ⟨(cC, iS), fun C' T' N' hq => by cases hq; exact hK⟩
  obtain ⟨f, hf⟩ := Classical.axiomOfChoice h0
  exact ⟨(fun c => (f c).1, fun c => (f c).2), fun c q hq => hf c q.1 q.2.1 q.2.2 hq, fun k q hk => by cases hk⟩
theorem px_T0 (hts : ∀ w ∈ lw_tbl, w.before #[Value.ref b] s = true) (ht : px_tb s) : ∃ tc : Nat → ClassId, (∀ (t : Nat) (ty : FieldType), px_ty[t]? = some ty → ArrOfT s (tc t) ty ∧ va_RA s (tc t) ty) ∧ ∃ kA : Class, s.vm.classes[tc 10]? = some kA ∧ kA.kind = .array (tc 1) (.array .int) := by
  have hprim : ∀ ty : FieldType, px_in (.arrayClass ty) → (∀ C, ty ≠ .object C) → ∃ cA : ClassId, s.vm.findClass ("[" ++ ty.toString) = some cA ∧ ArrOfT s cA ty ∧ va_RA s cA ty := by
    intro ty h hno
    obtain ⟨cA, kA, comp, h1, h2, h3⟩ := Cond.arrayClass_spec (ht _ h #[])
    refine ⟨cA, h1, fun n z => ⟨fun k h => (by cases h), kA, h2, comp, h3⟩, ?_⟩
    cases ty <;> first | exact h1 | exact absurd rfl (hno _)
  have hobj : ∀ C : String, (Cond.arrayOver (.object C)) ∈ lw_tbl → ∃ cA : ClassId, ArrOfT s cA (.object C) ∧ va_RA s cA (.object C) := by
    intro C h
    obtain ⟨comp, c, k, h1, h2, h3, h4, h5⟩ := Cond.arrayOver_spec (hts _ h)
    exact ⟨c, fun n z => ⟨fun k h => (by cases h), k, h3, comp, h4⟩, k, comp, h3, h4, h1, h5⟩
  obtain ⟨c0, -, h0⟩ := hprim .byte pA_byte (fun C h => by cases h)
  obtain ⟨c1, n1, h1⟩ := hprim .int pA_int (fun C h => by cases h)
  obtain ⟨c2, -, h2⟩ := hprim .long pA_long (fun C h => by cases h)
  obtain ⟨c3, -, h3⟩ := hprim .boolean pA_boolean (fun C h => by cases h)
  obtain ⟨c4, h4⟩ := hobj _ pf_o4
  obtain ⟨c5, h5⟩ := hobj _ pf_o5
  obtain ⟨c6, h6⟩ := hobj _ pf_o6
  obtain ⟨c7, h7⟩ := hobj _ pf_o7
  obtain ⟨c8, h8⟩ := hobj _ pf_o8
  obtain ⟨c9, h9⟩ := hobj _ pf_o9
  obtain ⟨comp, c10, k10, g1, g2, g3, g4, g5⟩ := arrayOverA_spec (hts _ pf_o10)
  have hcomp : comp = c1 := Option.some.inj (g1.symm.trans n1)
  subst hcomp
  refine ⟨fun t => [c0, comp, c2, c3, c4, c5, c6, c7, c8, c9, c10].getD t 0, fun t ty hty => ?_, k10, g3, g4⟩
  have hlt : t < 11 := (List.getElem?_eq_some_iff.mp hty).1
  have hs : t = 0 ∨ t = 1 ∨ t = 2 ∨ t = 3 ∨ t = 4 ∨ t = 5 ∨ t = 6 ∨ t = 7 ∨ t = 8 ∨ t = 9 ∨ t = 10 := by omega
  rcases hs with rfl | rfl | rfl | rfl | rfl | rfl | rfl | rfl | rfl | rfl | rfl
  · cases hty; exact h0
  · cases hty; exact h1
  · cases hty; exact h2
  · cases hty; exact h3
  · cases hty; exact h4
  · cases hty; exact h5
  · cases hty; exact h6
  · cases hty; exact h7
  · cases hty; exact h8
  · cases hty; exact h9
  · cases hty; exact ⟨fun n z => ⟨fun k h => (by cases h), k10, g3, comp, g4⟩, g5⟩
theorem px_X0 (ht : px_tb s) : ∃ xc : Nat → ClassId, ∀ (k : Nat) (n : String), px_ex[k]? = some n → s.vm.findClass n = some (xc k) := by
  have h0 : ∀ k : Nat, ∃ c : ClassId, ∀ n : String, px_ex[k]? = some n → s.vm.findClass n = some c := by
    intro k
    cases h : px_ex[k]? with
    | none => exact ⟨0, fun n hn => by cases hn⟩
    | some n =>
      obtain ⟨w1, -⟩ := px_allX_ok k n h
      obtain ⟨c, kc, hc, -⟩ := Cond.instantiable_spec (args := #[]) (first := s) (o := none) (idx := []) (ht _ (w1 (.instantiable n 6) (by simp [px_thw])) #[])
      exact ⟨c, fun n' hn => by cases hn; exact hc⟩
  obtain ⟨f, hf⟩ := Classical.axiomOfChoice h0
  exact ⟨f, hf⟩
theorem px_yes {A B : String} {a c : ClassId} (h : (Cond.castable A B).before #[Value.ref b] s = true) (ha : s.vm.findClass A = some a) (hc : s.vm.findClass B = some c) : s.vm.assignable a c = true := by
  obtain ⟨c3, c4, h3, h4, h5⟩ := Cond.castable_spec h
  cases h3.symm.trans ha
  cases h4.symm.trans hc
  exact h5
theorem px_no {A B : String} {a c : ClassId} (h : (Cond.not (.castable A B)).before #[Value.ref b] s = true) (ha : s.vm.findClass A = some a) (hc : s.vm.findClass B = some c) : s.vm.assignable a c = false := by
  have hv := Cond.holds_not_iff.mp h
  simp only [Cond.value, ha, hc] at hv
  exact Option.some.inj hv
theorem px_S0 (hts : ∀ w ∈ lw_tbl, w.before #[Value.ref b] s = true) (hg : (Jvm.Cond.and given_1 narrow_1).before #[Value.ref b] s = true) : ∃ ex : Nat → Nat, ∀ (r : Nat) (q : String × Nat × String), px_str[r]? = some q → vk_R q.1 q.2.1 q.2.2 (ex r) s ∧ va_O "java/lang/String" (ex r) (fun a => s.heap.size ≤ a) s s.heap := by
  have h0 : ∀ r : Nat, ∃ a : Nat, ∀ q : String × Nat × String, px_str[r]? = some q → vk_R q.1 q.2.1 q.2.2 a s ∧ va_O "java/lang/String" a (fun a => s.heap.size ≤ a) s s.heap := by
    intro r
    cases h : px_str[r]? with
    | none => exact ⟨0, fun q hq => by cases hq⟩
    | some q =>
      have hlt : r < px_spl.length := (List.getElem?_eq_some_iff.mp h).1
      have h3 : (q, px_spl[r]) ∈ px_str.zip px_spl := by
        refine List.mem_of_getElem? (i := r) ?_
        rw [List.getElem?_zip_eq_some]
        exact ⟨h, List.getElem?_eq_getElem hlt⟩
      have h4 := List.all_eq_true.mp pf_str _ h3
      simp only [Bool.and_eq_true] at h4
      have e1 := px_f_ok h4.1 hg
      have e2 := hts _ (px_t_ok h4.2)
      obtain ⟨a, c, cell, k, q1, q2, q3, q4, q5, q6, -⟩ := Cond.exactly_spec (args := #[Value.ref b]) (first := s) (o := none) (s := s) (idx := []) e1
      refine ⟨a, fun q' hq' => ?_⟩
      cases hq'
      exact ⟨vk_R.of e2 q1, cell, q3, q5, by rw [q6]; exact q2, Nat.not_le.mpr (Array.getElem?_eq_some_iff.mp q3).1⟩
  obtain ⟨f, hf⟩ := Classical.axiomOfChoice h0
  exact ⟨f, hf⟩
end PxStart
def R_law : String := "TextAtlasLaw"
def lw_P (b : Addr) (xs : List Int32) (args : Array Value) (s : State) : Prop := args = #[.ref b] ∧ s.IntsAt b xs ∧ xs.length ≤ 6 ∧ (Jvm.Cond.and given_1 narrow_1).before args s = true
def lw_Q (_ : Array Value) (s : State) (o : Outcome) (t : State) : Prop := o = .returned (some (.int 1)) ∧ Framed s o t [] 600002 7302232
def lw_Z (below : List Frame) (a : Array Value) (s : State) : State → Prop := fun t => ∃ o, t.status = .running ∧ Ended t below o ∧ lw_Q a s o t
def lw_At (p : Program) (s : State) (m : MethodId) (meth : Method) (c : Code) (b L : Nat) (xs : Nat → Int32) : Prop :=
  p.tables.exec = Jvm.exec ∧ c.code = code ∧ meth.sig.returnType = ret ∧ c.maxLocals = 8 ∧ s.vm.findClass R_law = some m.cls ∧ (∀ w ∈ lw_tbl, w.before #[Value.ref b] s = true) ∧ va_X b L xs s s.heap ∧ b < s.heap.size ∧ meth.locks = false ∧ (Jvm.Cond.and given_1 narrow_1).before #[Value.ref b] s = true ∧ meth.name = "law" ∧ c.exceptionTable.isEmpty = true
theorem px_traces {l : Launch} {e : Env} (hfl : l.flags = flags0) (h : l.admits e) : e.platform.stackTraces = false := by
  rw [h.platform]
  show l.stackTraces = false
  unfold Launch.stackTraces
  rw [hfl]
  decide +kernel
set_option maxHeartbeats 4000000 in
theorem whole_start {p : Program} {e : Env} {s : State} {m : MethodId} {below : List Frame} {meth : Method} {c : Code} (l : Launch) (hfl : l.flags = flags0) {b L : Nat} {xs : Nat → Int32} (hL : L ≤ 6) (C0 : lw_At p s m meth c b L xs) : W p l e room_1 s m #[Value.ref b] below meth c s.heap [] 0 0 (lw_Z below #[Value.ref b] s) (entryFrame m ([Value.ref b] : List Value).toArray 8) := by
  obtain ⟨hx, hb, hr, hml, hown, hts, hX, hbl, hlk, hgv, hnm, hnoh⟩ := C0
  intro T hT X
  have htr := px_traces hfl X.admits
  have ht := px_tb0 hts
  obtain ⟨D, hD⟩ := px_D0 ht
  obtain ⟨tc, hTc, hgrid⟩ := px_T0 hts ht
  obtain ⟨xc, hxc⟩ := px_X0 ht
  obtain ⟨ex, hex⟩ := px_S0 hts hgv
  have hsA : ∀ a : Nat, a < s.heap.size → ¬ (fun a => s.heap.size ≤ a) a := fun a h w => absurd w (Nat.not_le.mpr h)
  generalize hE : (((fun j => if j = 6 then xs 0 &&& 31 else if j = 7 then Int32.ofNat L else xs j), (fun r => match r with | 0 => b | r + 1 => ex r), s.heap.size) : px_E) = E
  have e6 : E.1 6 = xs 0 &&& 31 := by rw [← hE]; rfl
  have e7 : E.1 7 = Int32.ofNat L := by rw [← hE]; rfl
  have ej : ∀ j, j < 6 → E.1 j = xs j := fun j hj => by rw [← hE]; show (if j = 6 then _ else if j = 7 then _ else xs j) = xs j; rw [if_neg (by omega), if_neg (by omega)]
  have eb : E.2.2 = s.heap.size := by rw [← hE]
  have ex0 : E.2.1 0 = b := by rw [← hE]
  have exr : ∀ r, E.2.1 (r + 1) = ex r := fun r => by rw [← hE]
  have hA : px_A E = fun a => s.heap.size ≤ a := by unfold px_A; rw [eb]
  have t7 : (E.1 7).toInt = (L : Int) := by rw [e7]; exact nI_toInt (by omega)
  have hWd : px_Wd (D, tc, xc, s.heap) E s := by
    refine ⟨ht, hD, hTc, hxc, ?_, fun r q hq => ?_, hgrid, ?_, ?_, ⟨L, ?_, t7, hL, by rw [ex0, eb]; exact hbl⟩, eb, by rw [e6, ej 0 (by omega)]⟩
    · intro q hq
      have c0 : s.vm.findClass "java/lang/IndexOutOfBoundsException" = some (xc 0) := hxc 0 _ rfl
      have c1 : s.vm.findClass "java/lang/IllegalArgumentException" = some (xc 1) := hxc 1 _ rfl
      have c2 : s.vm.findClass "java/lang/IllegalStateException" = some (xc 2) := hxc 2 _ rfl
      have c3 : s.vm.findClass "java/lang/UnsupportedOperationException" = some (xc 3) := hxc 3 _ rfl
      simp only [px_asg, List.mem_cons, List.not_mem_nil, or_false] at hq
      rcases hq with rfl | rfl | rfl | rfl | rfl | rfl | rfl | rfl
      · exact px_yes (hts _ pf_y0) c0 c0
      · exact px_yes (hts _ pf_y1) c1 c1
      · exact px_yes (hts _ pf_y2) c2 c2
      · exact px_yes (hts _ pf_y3) c3 c3
      · exact px_no (px_f_ok pf_n01 hgv) c0 c1
      · exact px_no (px_f_ok pf_n21 hgv) c2 c1
      · exact px_no (px_f_ok pf_n31 hgv) c3 c1
      · exact px_no (px_f_ok pf_n32 hgv) c3 c2
    · rw [exr, hA]
      exact hex r q hq
    · rw [hA]
      exact ⟨va_Zqof (hts _ pf_sU) (hts _ pf_iT) (px_f_ok pf_U hgv) hsA, px_LSof (hts _ pf_sU) hsA⟩
    · rw [hA]
      exact ⟨va_Zqof (hts _ pf_sS) (hts _ pf_iT) (px_f_ok pf_S hgv) hsA, px_LSof (hts _ pf_sS) hsA⟩
    · rw [ex0]
      obtain ⟨scr, g1, g2, g3, g4, g5⟩ := hX
      exact ⟨scr, g1, g2, g3, g4, fun j hj => by rw [ej j (by omega)]; exact g5 j hj⟩
  have hG : px_Gok E.1 [px_full, px_full, px_full, px_full, px_full, px_full, (0, 31), (0, 6)] := by
    intro i q hq
    have hlt : i < 8 := (List.getElem?_eq_some_iff.mp hq).1
    have hs : i = 0 ∨ i = 1 ∨ i = 2 ∨ i = 3 ∨ i = 4 ∨ i = 5 ∨ i = 6 ∨ i = 7 := by omega
    rcases hs with rfl | rfl | rfl | rfl | rfl | rfl | rfl | rfl
    · cases hq; exact px_any _
    · cases hq; exact px_any _
    · cases hq; exact px_any _
    · cases hq; exact px_any _
    · cases hq; exact px_any _
    · cases hq; exact px_any _
    · cases hq
      obtain ⟨j, j1, j2⟩ := pk_andE (xs 0) (m := 31) 5 (by decide)
      rw [e6, j2, nI_toInt (by omega)]
      exact ⟨by show (0 : Int) ≤ _; omega, by show (_ : Int) ≤ 31; omega⟩
    · cases hq
      rw [t7]
      exact ⟨by show (0 : Int) ≤ _; omega, by show (_ : Int) ≤ 6; omega⟩
  have hrun := px_run
  cases hlv : px_x px_pg 20000 12 pm_0 0 [(0, .inr (.inr (some 0)))] [] px_h0 [px_full, px_full, px_full, px_full, px_full, px_full, (0, 31), (0, 6)] with
  | none => rw [hlv] at hrun; cases hrun
  | some lv =>
    rw [hlv] at hrun
    have hall : ∀ q ∈ lv, px_end q.2.1 = true ∧ q.2.2.2.1 ≤ 7302232 := fun q hq => by
      have h1 := List.all_eq_true.mp hrun q hq
      simp only [Bool.and_eq_true, Nat.ble_eq] at h1
      exact h1
    have hP : px_HP px_cl (D, tc, xc, s.heap) E px_h0 s.heap := ⟨Nat.le_refl _, by decide, by rw [eb]; rfl, fun r h1 h2 => absurd h2 (Nat.not_lt.mpr h1), fun _ _ => rfl⟩
    have hl := lv_entry ([.ref b]) (n := 8) (Nat.le_of_ble_eq_true rfl)
    have hl' : lv_has ((lg_sl [Value.ref b] ++ List.replicate (8 - (lg_sl [Value.ref b]).length) Slot.unset).toArray) 8 (px_lc E [(0, .inr (.inr (some 0)))]) := by
      have : px_lc E [(0, .inr (.inr (some 0)))] = lv_args 0 [Value.ref b] := by
        show [(0, Value.ref (E.2.1 0))] = [(0, Value.ref b)]
        rw [ex0]
      rw [this]
      exact hl
    have key := px_sound px_allC_ok px_allA_ok px_allX_ok px_allM_ok 20000 12 pm_0 0 [(0, .inr (.inr (some 0)))] [] px_h0 _ lv hlv (px_allM_ok 0 pm_0 rfl) p l e room_1 s m #[Value.ref b] below meth c s.heap [] 0 0 _ (D, tc, xc, s.heap) E 64 0
      ⟨hx, htr, hb, hml, hr, hlk, hnm, hown, by rw [Array.toList_eq_nil_iff.mpr (Array.isEmpty_iff.mp hnoh)]; rfl, hWd, by decide, by decide, by decide, by decide, by rw [eb]; exact Nat.le_refl _⟩ hl' hP hG (fun y hy => by cases hy) rfl rfl
    rw [lg_entry_eq]
    obtain ⟨t, h1, q, hq, o, L', k, n, b1, b2, b3, b4, b5, b6, b7, b8, b9, b10⟩ := key T hT X
    obtain ⟨hend, hsl⟩ := hall q hq
    have ho : o = .returned (some (.int 1)) := by
      obtain ⟨q1, q2, q3⟩ := q
      unfold px_end at hend
      split at hend
      · rename_i z hz
        have hz' : q2 = .inl (some (.inl (.inl z))) := hz
        have h9 := of_decide_eq_true hend
        subst h9
        subst hz'
        exact b10
      · cases hend
    refine ⟨t, h1, o, b1, b2, ho, ⟨some (.int 1), ho⟩, b3, b4.weaken (fun y hy hlt => ?_) ?_ ?_⟩
    · exfalso
      have h9 := b5 y hy
      rw [eb] at h9
      exact absurd h9 (Nat.not_le.mpr hlt)
    · have := b9.2.1
      omega
    · omega
set_option maxHeartbeats 4000000 in
theorem lw_walk (l : Launch) (hfl : l.flags = flags0) (b : Addr) (xs : List Int32) : MetFree l x (headSpec (Jvm.Cond.code x code maxLocals ret :: tables_1) room_1) (lw_P b xs) (fun _ _ _ _ _ => True) lw_Q := by
  refine MetFree.of_bodyS (code := code) (maxLocals := maxLocals) (ret := ret) (by decide) ?_ ?_
  · intro args s m h hn
    obtain ⟨meth, c, h1, h2, h3, h4, h5, h6, -, -⟩ := Cond.code_spec hn (atoms_spec (ws := Jvm.Cond.code x code maxLocals ret :: tables_1) h _ List.mem_cons_self)
    exact ⟨meth, c, h1, h2, h3, h4, h5, h6⟩
  · intro p e s m args below meth c s₁ B hml0 hP _
    obtain ⟨rfl, hx, hbd, hgv⟩ := hP
    obtain ⟨scr, harrAt, hlist, hof, hsmall⟩ := hx
    obtain ⟨hcb, hkn, -, -⟩ := State.arrayAt?_spec harrAt
    have hown : s.vm.findClass R_law = some m.cls := findClass_of_methodNamed B.named
    have hts0 : ∀ c ∈ (Jvm.Cond.code x code maxLocals ret :: tables_1), c.before #[Value.ref b] s = true := atoms_spec (ws := Jvm.Cond.code x code maxLocals ret :: tables_1) B.pre
    have hts : ∀ w ∈ lw_tbl, w.before #[Value.ref b] s = true := k2_hts_sels lw_privs (fun w hw => hts0 w (List.mem_cons_of_mem _ hw)) lw_privs_ok
    have hml : c.maxLocals = 8 := B.maxLocals_eq (hts0 _ List.mem_cons_self)
    have X₀ : Stand p l e room_1 s m #[Value.ref b] below meth c s₁ [] 0 0 := Stand.of_body B
    have hh0 : s₁.heap = s.heap := by rw [B.state]; rfl
    have hsz : scr.slots.size = xs.length := by rw [← Array.length_toList, hlist, List.length_map]
    have hval : ∀ j : Nat, j < xs.length → scr.slots[j]? = some (.int (xs.getD j 0)) := fun j hj => by
      rw [← Array.getElem?_toList, hlist]
      simp [hj]
    have hbl : b < s.heap.size := (Array.getElem?_eq_some_iff.mp hcb).1
    have hX : va_X b xs.length (fun j => xs.getD j 0) s s.heap := ⟨scr, hcb, hof, hkn, hsz, hval⟩
    have K : W p l e room_1 s m #[Value.ref b] below meth c s₁.heap [] 0 0 (lw_Z below #[Value.ref b] s) (entryFrame m ([Value.ref b] : List Value).toArray 8) := by
      rw [hh0]
      exact whole_start l hfl hbd ⟨B.exec, B.bytes, B.returns, hml, hown, hts, hX, hbl, B.notSynchronized, hgv, (name_of_methodNamed B.named B.method).1, B.noHandlers (hts0 _ List.mem_cons_self)⟩
    obtain ⟨t, a1, o, b1, b2, b3⟩ := K s₁ rfl X₀
    exact ⟨t, o, a1, b1, b2, b3⟩
theorem lw_pre_spec {args : Array Value} {s : State} (h : (Jvm.Cond.and given_1 narrow_1).before args s = true) (hr : rest_1_c.before args s = true) : ∃ (b : Addr) (xs : List Int32), lw_P b xs args s := by
  have hs := flat_of_before _ h
  have hq := flat_of_before _ hr
  have hc : (Cond.count 1).before args s = true := hs _ (by decide +kernel)
  have harr : (Cond.arrayOf (.arg 0) .int).before args s = true := hs _ (by decide +kernel)
  have hle : (Cond.le (.length (.arg 0)) (.int 6)).before args s = true := hs _ (by decide +kernel)
  have hlen : (Cond.isInt (.length (.arg 0))).before args s = true := hq _ (by decide +kernel)
  have hall : (Cond.all (.arg 0) (.isInt (.elem (.arg 0) (.index 0)))).before args s = true := hq _ (by decide +kernel)
  obtain ⟨b, xs, hb, hx⟩ := State.ints_of_pre rfl harr hlen hall
  have hsm : xs.length < 2 ^ 31 := hx.choose_spec.2.2.2
  have hev : (Term.length (.arg 0)).eval args s none [] s = some (.int xs.length.toInt32) := hx.length_eval hb
  have hv := Cond.le_ints hev (show (Term.int 6).eval args s none [] s = some (.int 6) from rfl)
  have hd : xs.length.toInt32 ≤ 6 := by
    simpa [Cond.before, Cond.holds, hv] using hle
  have hN : xs.length ≤ 6 := (Int32.ofNat_le_ofNat hsm (by decide)).mp (show Int32.ofNat xs.length ≤ Int32.ofNat 6 from hd)
  exact ⟨b, xs, Cond.one_arg hc (show args[0]? = some (.ref b) from hb), hx, hN, h⟩
theorem lw_comes (l : Launch) (hfl : l.flags = flags0) : Comes l x (Jvm.Cond.code x code maxLocals ret :: tables_1) room_1 (fun tb e args s => Calls_1 tb e args s ∧ rest_1 tb e args s ∧ Pre_1 tb e args s)
    (fun _ _ args s o t => lw_Q args s o t) := by
  intro p e ha hc hk s m args below hf hfit hheap happ hpre
  obtain ⟨b, xs, hP⟩ := lw_pre_spec hpre.2.2 hpre.2.1
  obtain ⟨k, o, h1, h2, h3, hQ⟩ := lw_walk l hfl b xs p e ha hc hk s m args below hf ((Spec.applies_iff_loose hf).mp happ).1 hP trivial
  exact ⟨k, o, h1, h2, h3, hQ⟩
theorem lw_frame {s t : State} {o : Outcome} {args : Array Value} (h : Framed s o t [] 600002 7302232) :
    Framed s o t (fieldLocs frame_1_writes args s ++ arrayLocs frame_1_arrays args s ++ staticLocs frame_1_statics s) 600002 7302232 := h
theorem lw_limb (L : Cond) (hL : ∀ (args : Array Value) (s t : State), L.after args s (.returned (some (.int 1))) t = true) :
    ArmFor flags0 classFile x code maxLocals ret World_1 tables_1 room_1 Calls_1 rest_1 Pre_1
      (fun tb e a s o t => postC L tb e a s o t ∧ Framed s o t (fieldLocs frame_1_writes a s ++ arrayLocs frame_1_arrays a s ++ staticLocs frame_1_statics s) 600002 7302232) := by
  intro l hfl _ _ p e ha hc hk s m args below hf hfit hheap happ hpre
  obtain ⟨k, o, h1, h2, h3, rfl, hF⟩ := lw_comes l hfl p e ha hc hk s m args below hf hfit hheap happ hpre
  exact ⟨k, _, h1, h2, h3, hL args s _, lw_frame hF⟩
theorem i_vc : Claimed_1_1 ∧ Claimed_1_2 := ⟨lw_limb limb_1_1 (fun args s t => by simp [limb_1_1, Cond.after, Cond.holds, Cond.value]), lw_limb limb_1_2 (fun args s t => Cond.after_iff.mpr (by
  first | (rw [show limb_1_2 = Cond.eq .result (.int 1) from rfl, Cond.eq_ints (x := 1) (y := 1) rfl rfl]; simp; done) | (simp [limb_1_2, Cond.value, Term.eval]; done)))⟩
end
