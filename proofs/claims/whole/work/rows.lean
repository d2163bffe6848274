section
/-- a private method of a class that the tables say can be made, by its rows of tables_1 -/
def lw_okq (q : MethodName × Nat) : Prop := (q.1.cls ≠ "java/lang/invoke/MethodHandle" ∧ q.1.cls ≠ "java/lang/invoke/VarHandle") ∧ Cond.instantiable q.1.cls q.2 ∈ tables_1 ∧ Cond.privateMethod q.1 ∈ tables_1 ∧ Cond.instanceMethod q.1 ∈ tables_1
theorem lw_p0 : lw_okq (⟨"GlossRows$Reader", "openWord", "()V"⟩, 5) := ⟨⟨by decide +kernel, by decide +kernel⟩, List.mem_of_getElem? (i := 46) (by decide +kernel), List.mem_of_getElem? (i := 271) (by decide +kernel), List.mem_of_getElem? (i := 272) (by decide +kernel)⟩
theorem lw_p1 : lw_okq (⟨"GlossRows$Reader", "takes", "(I)Z"⟩, 5) := ⟨⟨by decide +kernel, by decide +kernel⟩, List.mem_of_getElem? (i := 46) (by decide +kernel), List.mem_of_getElem? (i := 283) (by decide +kernel), List.mem_of_getElem? (i := 284) (by decide +kernel)⟩
theorem lw_p2 : lw_okq (⟨"GlossRows$Reader", "takesBlank", "()Z"⟩, 5) := ⟨⟨by decide +kernel, by decide +kernel⟩, List.mem_of_getElem? (i := 46) (by decide +kernel), List.mem_of_getElem? (i := 287) (by decide +kernel), List.mem_of_getElem? (i := 288) (by decide +kernel)⟩
theorem lw_p3 : lw_okq (⟨"GlossRows$Reader", "isWordWhole", "()Z"⟩, 5) := ⟨⟨by decide +kernel, by decide +kernel⟩, List.mem_of_getElem? (i := 46) (by decide +kernel), List.mem_of_getElem? (i := 291) (by decide +kernel), List.mem_of_getElem? (i := 292) (by decide +kernel)⟩
theorem lw_p4 : lw_okq (⟨"GlossRows$Reader", "hasPartLetters", "()Z"⟩, 5) := ⟨⟨by decide +kernel, by decide +kernel⟩, List.mem_of_getElem? (i := 46) (by decide +kernel), List.mem_of_getElem? (i := 295) (by decide +kernel), List.mem_of_getElem? (i := 296) (by decide +kernel)⟩
theorem lw_p5 : lw_okq (⟨"GlossRows$Reader", "takesColon", "()Z"⟩, 5) := ⟨⟨by decide +kernel, by decide +kernel⟩, List.mem_of_getElem? (i := 46) (by decide +kernel), List.mem_of_getElem? (i := 303) (by decide +kernel), List.mem_of_getElem? (i := 304) (by decide +kernel)⟩
theorem lw_p6 : lw_okq (⟨"GlossRows$Reader", "takesMarkOfGlosses", "(I)Z"⟩, 5) := ⟨⟨by decide +kernel, by decide +kernel⟩, List.mem_of_getElem? (i := 46) (by decide +kernel), List.mem_of_getElem? (i := 310) (by decide +kernel), List.mem_of_getElem? (i := 311) (by decide +kernel)⟩
theorem lw_p7 : lw_okq (⟨"GlossRows$Reader", "takesMarkOfParts", "(I)Z"⟩, 5) := ⟨⟨by decide +kernel, by decide +kernel⟩, List.mem_of_getElem? (i := 46) (by decide +kernel), List.mem_of_getElem? (i := 314) (by decide +kernel), List.mem_of_getElem? (i := 315) (by decide +kernel)⟩
theorem lw_p8 : lw_okq (⟨"GlossRows$Reader", "takesGlossLetter", "(I)Z"⟩, 5) := ⟨⟨by decide +kernel, by decide +kernel⟩, List.mem_of_getElem? (i := 46) (by decide +kernel), List.mem_of_getElem? (i := 318) (by decide +kernel), List.mem_of_getElem? (i := 319) (by decide +kernel)⟩
theorem lw_p9 : lw_okq (⟨"GlossRows$Reader", "takesLetter", "(I)Z"⟩, 5) := ⟨⟨by decide +kernel, by decide +kernel⟩, List.mem_of_getElem? (i := 46) (by decide +kernel), List.mem_of_getElem? (i := 335) (by decide +kernel), List.mem_of_getElem? (i := 336) (by decide +kernel)⟩
theorem lw_p10 : lw_okq (⟨"GlossRows$Page", "countUses", "(J)I"⟩, 6) := ⟨⟨by decide +kernel, by decide +kernel⟩, List.mem_of_getElem? (i := 117) (by decide +kernel), List.mem_of_getElem? (i := 376) (by decide +kernel), List.mem_of_getElem? (i := 377) (by decide +kernel)⟩
theorem lw_p11 : lw_okq (⟨"GlossRows", "arranged", "(LGlossRows$Page;)LGlossRows$Layout;"⟩, 8) := ⟨⟨by decide +kernel, by decide +kernel⟩, List.mem_of_getElem? (i := 19) (by decide +kernel), List.mem_of_getElem? (i := 384) (by decide +kernel), List.mem_of_getElem? (i := 385) (by decide +kernel)⟩
theorem lw_p12 : lw_okq (⟨"GlossRows$Word", "shownGloss", "(I)J"⟩, 7) := ⟨⟨by decide +kernel, by decide +kernel⟩, List.mem_of_getElem? (i := 53) (by decide +kernel), List.mem_of_getElem? (i := 397) (by decide +kernel), List.mem_of_getElem? (i := 398) (by decide +kernel)⟩
theorem lw_p13 : lw_okq (⟨"java/lang/Throwable", "fillInStackTrace", "(I)Ljava/lang/Throwable;"⟩, 6) := ⟨⟨by decide +kernel, by decide +kernel⟩, List.mem_of_getElem? (i := 464) (by decide +kernel), List.mem_of_getElem? (i := 462) (by decide +kernel), List.mem_of_getElem? (i := 463) (by decide +kernel)⟩
theorem lw_p14 : lw_okq (⟨"GlossRows", "requireWord", "(I)V"⟩, 8) := ⟨⟨by decide +kernel, by decide +kernel⟩, List.mem_of_getElem? (i := 19) (by decide +kernel), List.mem_of_getElem? (i := 571) (by decide +kernel), List.mem_of_getElem? (i := 572) (by decide +kernel)⟩
theorem lw_p15 : lw_okq (⟨"GlossRows", "requirePart", "(II)V"⟩, 8) := ⟨⟨by decide +kernel, by decide +kernel⟩, List.mem_of_getElem? (i := 19) (by decide +kernel), List.mem_of_getElem? (i := 605) (by decide +kernel), List.mem_of_getElem? (i := 606) (by decide +kernel)⟩
def lw_privs_1 : List (MethodName × Nat) := [(⟨"GlossRows$Reader", "openWord", "()V"⟩, 5), (⟨"GlossRows$Reader", "takes", "(I)Z"⟩, 5), (⟨"GlossRows$Reader", "takesBlank", "()Z"⟩, 5), (⟨"GlossRows$Reader", "isWordWhole", "()Z"⟩, 5), (⟨"GlossRows$Reader", "hasPartLetters", "()Z"⟩, 5), (⟨"GlossRows$Reader", "takesColon", "()Z"⟩, 5), (⟨"GlossRows$Reader", "takesMarkOfGlosses", "(I)Z"⟩, 5), (⟨"GlossRows$Reader", "takesMarkOfParts", "(I)Z"⟩, 5), (⟨"GlossRows$Reader", "takesGlossLetter", "(I)Z"⟩, 5), (⟨"GlossRows$Reader", "takesLetter", "(I)Z"⟩, 5), (⟨"GlossRows$Page", "countUses", "(J)I"⟩, 6), (⟨"GlossRows", "arranged", "(LGlossRows$Page;)LGlossRows$Layout;"⟩, 8), (⟨"GlossRows$Word", "shownGloss", "(I)J"⟩, 7), (⟨"java/lang/Throwable", "fillInStackTrace", "(I)Ljava/lang/Throwable;"⟩, 6), (⟨"GlossRows", "requireWord", "(I)V"⟩, 8), (⟨"GlossRows", "requirePart", "(II)V"⟩, 8)]
theorem lw_r1 : ∀ q ∈ lw_privs_1, lw_okq q := List.forall_mem_cons.mpr ⟨lw_p0, List.forall_mem_cons.mpr ⟨lw_p1, List.forall_mem_cons.mpr ⟨lw_p2, List.forall_mem_cons.mpr ⟨lw_p3, List.forall_mem_cons.mpr ⟨lw_p4, List.forall_mem_cons.mpr ⟨lw_p5, List.forall_mem_cons.mpr ⟨lw_p6, List.forall_mem_cons.mpr ⟨lw_p7, List.forall_mem_cons.mpr ⟨lw_p8, List.forall_mem_cons.mpr ⟨lw_p9, List.forall_mem_cons.mpr ⟨lw_p10, List.forall_mem_cons.mpr ⟨lw_p11, List.forall_mem_cons.mpr ⟨lw_p12, List.forall_mem_cons.mpr ⟨lw_p13, List.forall_mem_cons.mpr ⟨lw_p14, List.forall_mem_cons.mpr ⟨lw_p15, fun _ h => absurd h List.not_mem_nil⟩⟩⟩⟩⟩⟩⟩⟩⟩⟩⟩⟩⟩⟩⟩⟩
theorem lw_p16 : lw_okq (⟨"GlossRows", "requireNotNegative", "(I)V"⟩, 8) := ⟨⟨by decide +kernel, by decide +kernel⟩, List.mem_of_getElem? (i := 19) (by decide +kernel), List.mem_of_getElem? (i := 625) (by decide +kernel), List.mem_of_getElem? (i := 626) (by decide +kernel)⟩
theorem lw_p17 : lw_okq (⟨"GlossRows", "requireEntry", "(I)V"⟩, 8) := ⟨⟨by decide +kernel, by decide +kernel⟩, List.mem_of_getElem? (i := 19) (by decide +kernel), List.mem_of_getElem? (i := 640) (by decide +kernel), List.mem_of_getElem? (i := 641) (by decide +kernel)⟩
theorem lw_p18 : lw_okq (⟨"GlossRows", "requireRow", "(I)V"⟩, 8) := ⟨⟨by decide +kernel, by decide +kernel⟩, List.mem_of_getElem? (i := 19) (by decide +kernel), List.mem_of_getElem? (i := 652) (by decide +kernel), List.mem_of_getElem? (i := 653) (by decide +kernel)⟩
theorem lw_p19 : lw_okq (⟨"GlossRows$Layout", "lastWordOfRow", "(LGlossRows$Page;I)I"⟩, 7) := ⟨⟨by decide +kernel, by decide +kernel⟩, List.mem_of_getElem? (i := 180) (by decide +kernel), List.mem_of_getElem? (i := 661) (by decide +kernel), List.mem_of_getElem? (i := 662) (by decide +kernel)⟩
theorem lw_p20 : lw_okq (⟨"GlossRows$Layout", "beginInFree", "(LGlossRows$Page;I)I"⟩, 7) := ⟨⟨by decide +kernel, by decide +kernel⟩, List.mem_of_getElem? (i := 180) (by decide +kernel), List.mem_of_getElem? (i := 673) (by decide +kernel), List.mem_of_getElem? (i := 674) (by decide +kernel)⟩
theorem lw_p21 : lw_okq (⟨"GlossRows$Lexicon", "makePlaceFor", "(J)I"⟩, 3) := ⟨⟨by decide +kernel, by decide +kernel⟩, List.mem_of_getElem? (i := 124) (by decide +kernel), List.mem_of_getElem? (i := 818) (by decide +kernel), List.mem_of_getElem? (i := 819) (by decide +kernel)⟩
theorem lw_p22 : lw_okq (⟨"GlossRows", "succeeds", "(I)Z"⟩, 8) := ⟨⟨by decide +kernel, by decide +kernel⟩, List.mem_of_getElem? (i := 19) (by decide +kernel), List.mem_of_getElem? (i := 886) (by decide +kernel), List.mem_of_getElem? (i := 887) (by decide +kernel)⟩
theorem lw_p23 : lw_okq (⟨"GlossRows", "learnsOnTrial", "(II)Z"⟩, 8) := ⟨⟨by decide +kernel, by decide +kernel⟩, List.mem_of_getElem? (i := 19) (by decide +kernel), List.mem_of_getElem? (i := 890) (by decide +kernel), List.mem_of_getElem? (i := 891) (by decide +kernel)⟩
theorem lw_p24 : lw_okq (⟨"GlossRows", "setsOnTrial", "(II)Z"⟩, 8) := ⟨⟨by decide +kernel, by decide +kernel⟩, List.mem_of_getElem? (i := 19) (by decide +kernel), List.mem_of_getElem? (i := 894) (by decide +kernel), List.mem_of_getElem? (i := 895) (by decide +kernel)⟩
theorem lw_p25 : lw_okq (⟨"GlossRows", "changesWordOfTrial", "(II)Z"⟩, 8) := ⟨⟨by decide +kernel, by decide +kernel⟩, List.mem_of_getElem? (i := 19) (by decide +kernel), List.mem_of_getElem? (i := 898) (by decide +kernel), List.mem_of_getElem? (i := 899) (by decide +kernel)⟩
theorem lw_p26 : lw_okq (⟨"GlossRows", "fillsTrial", "()Z"⟩, 8) := ⟨⟨by decide +kernel, by decide +kernel⟩, List.mem_of_getElem? (i := 19) (by decide +kernel), List.mem_of_getElem? (i := 902) (by decide +kernel), List.mem_of_getElem? (i := 903) (by decide +kernel)⟩
theorem lw_p27 : lw_okq (⟨"GlossRows", "playRound", "(I)V"⟩, 8) := ⟨⟨by decide +kernel, by decide +kernel⟩, List.mem_of_getElem? (i := 19) (by decide +kernel), List.mem_of_getElem? (i := 916) (by decide +kernel), List.mem_of_getElem? (i := 917) (by decide +kernel)⟩
theorem lw_p28 : lw_okq (⟨"GlossRows", "requireSlot", "(I)V"⟩, 8) := ⟨⟨by decide +kernel, by decide +kernel⟩, List.mem_of_getElem? (i := 19) (by decide +kernel), List.mem_of_getElem? (i := 932) (by decide +kernel), List.mem_of_getElem? (i := 933) (by decide +kernel)⟩
theorem lw_p29 : lw_okq (⟨"GlossRowsModel", "refused", "(I)Z"⟩, 22) := ⟨⟨by decide +kernel, by decide +kernel⟩, List.mem_of_getElem? (i := 945) (by decide +kernel), List.mem_of_getElem? (i := 1035) (by decide +kernel), List.mem_of_getElem? (i := 1036) (by decide +kernel)⟩
theorem lw_p30 : lw_okq (⟨"GlossRowsModel", "readText", "()I"⟩, 22) := ⟨⟨by decide +kernel, by decide +kernel⟩, List.mem_of_getElem? (i := 945) (by decide +kernel), List.mem_of_getElem? (i := 1047) (by decide +kernel), List.mem_of_getElem? (i := 1048) (by decide +kernel)⟩
theorem lw_p31 : lw_okq (⟨"GlossRowsModel", "begin", "()V"⟩, 22) := ⟨⟨by decide +kernel, by decide +kernel⟩, List.mem_of_getElem? (i := 945) (by decide +kernel), List.mem_of_getElem? (i := 1051) (by decide +kernel), List.mem_of_getElem? (i := 1052) (by decide +kernel)⟩
def lw_privs_2 : List (MethodName × Nat) := [(⟨"GlossRows", "requireNotNegative", "(I)V"⟩, 8), (⟨"GlossRows", "requireEntry", "(I)V"⟩, 8), (⟨"GlossRows", "requireRow", "(I)V"⟩, 8), (⟨"GlossRows$Layout", "lastWordOfRow", "(LGlossRows$Page;I)I"⟩, 7), (⟨"GlossRows$Layout", "beginInFree", "(LGlossRows$Page;I)I"⟩, 7), (⟨"GlossRows$Lexicon", "makePlaceFor", "(J)I"⟩, 3), (⟨"GlossRows", "succeeds", "(I)Z"⟩, 8), (⟨"GlossRows", "learnsOnTrial", "(II)Z"⟩, 8), (⟨"GlossRows", "setsOnTrial", "(II)Z"⟩, 8), (⟨"GlossRows", "changesWordOfTrial", "(II)Z"⟩, 8), (⟨"GlossRows", "fillsTrial", "()Z"⟩, 8), (⟨"GlossRows", "playRound", "(I)V"⟩, 8), (⟨"GlossRows", "requireSlot", "(I)V"⟩, 8), (⟨"GlossRowsModel", "refused", "(I)Z"⟩, 22), (⟨"GlossRowsModel", "readText", "()I"⟩, 22), (⟨"GlossRowsModel", "begin", "()V"⟩, 22)]
theorem lw_r2 : ∀ q ∈ lw_privs_2, lw_okq q := List.forall_mem_cons.mpr ⟨lw_p16, List.forall_mem_cons.mpr ⟨lw_p17, List.forall_mem_cons.mpr ⟨lw_p18, List.forall_mem_cons.mpr ⟨lw_p19, List.forall_mem_cons.mpr ⟨lw_p20, List.forall_mem_cons.mpr ⟨lw_p21, List.forall_mem_cons.mpr ⟨lw_p22, List.forall_mem_cons.mpr ⟨lw_p23, List.forall_mem_cons.mpr ⟨lw_p24, List.forall_mem_cons.mpr ⟨lw_p25, List.forall_mem_cons.mpr ⟨lw_p26, List.forall_mem_cons.mpr ⟨lw_p27, List.forall_mem_cons.mpr ⟨lw_p28, List.forall_mem_cons.mpr ⟨lw_p29, List.forall_mem_cons.mpr ⟨lw_p30, List.forall_mem_cons.mpr ⟨lw_p31, fun _ h => absurd h List.not_mem_nil⟩⟩⟩⟩⟩⟩⟩⟩⟩⟩⟩⟩⟩⟩⟩⟩
theorem lw_p32 : lw_okq (⟨"GlossRowsModel", "insertOn", "([JI)V"⟩, 22) := ⟨⟨by decide +kernel, by decide +kernel⟩, List.mem_of_getElem? (i := 945) (by decide +kernel), List.mem_of_getElem? (i := 1074) (by decide +kernel), List.mem_of_getElem? (i := 1075) (by decide +kernel)⟩
theorem lw_p33 : lw_okq (⟨"GlossRowsModel", "layNow", "()V"⟩, 22) := ⟨⟨by decide +kernel, by decide +kernel⟩, List.mem_of_getElem? (i := 945) (by decide +kernel), List.mem_of_getElem? (i := 1089) (by decide +kernel), List.mem_of_getElem? (i := 1090) (by decide +kernel)⟩
theorem lw_p34 : lw_okq (⟨"GlossRowsModel", "layOut", "([JII)V"⟩, 22) := ⟨⟨by decide +kernel, by decide +kernel⟩, List.mem_of_getElem? (i := 945) (by decide +kernel), List.mem_of_getElem? (i := 1093) (by decide +kernel), List.mem_of_getElem? (i := 1094) (by decide +kernel)⟩
theorem lw_p35 : lw_okq (⟨"GlossRowsModel", "addRow", "(III)V"⟩, 22) := ⟨⟨by decide +kernel, by decide +kernel⟩, List.mem_of_getElem? (i := 945) (by decide +kernel), List.mem_of_getElem? (i := 1119) (by decide +kernel), List.mem_of_getElem? (i := 1120) (by decide +kernel)⟩
theorem lw_p36 : lw_okq (⟨"GlossRowsModel", "isWord", "(I)Z"⟩, 22) := ⟨⟨by decide +kernel, by decide +kernel⟩, List.mem_of_getElem? (i := 945) (by decide +kernel), List.mem_of_getElem? (i := 1139) (by decide +kernel), List.mem_of_getElem? (i := 1140) (by decide +kernel)⟩
theorem lw_p37 : lw_okq (⟨"GlossRowsModel", "isPart", "(II)Z"⟩, 22) := ⟨⟨by decide +kernel, by decide +kernel⟩, List.mem_of_getElem? (i := 945) (by decide +kernel), List.mem_of_getElem? (i := 1151) (by decide +kernel), List.mem_of_getElem? (i := 1152) (by decide +kernel)⟩
theorem lw_p38 : lw_okq (⟨"GlossRowsModel", "isEntry", "(I)Z"⟩, 22) := ⟨⟨by decide +kernel, by decide +kernel⟩, List.mem_of_getElem? (i := 945) (by decide +kernel), List.mem_of_getElem? (i := 1173) (by decide +kernel), List.mem_of_getElem? (i := 1174) (by decide +kernel)⟩
theorem lw_p39 : lw_okq (⟨"GlossRowsModel", "isRow", "(I)Z"⟩, 22) := ⟨⟨by decide +kernel, by decide +kernel⟩, List.mem_of_getElem? (i := 945) (by decide +kernel), List.mem_of_getElem? (i := 1181) (by decide +kernel), List.mem_of_getElem? (i := 1182) (by decide +kernel)⟩
theorem lw_p40 : lw_okq (⟨"GlossRowsModel", "lengthOfRow", "(I)I"⟩, 22) := ⟨⟨by decide +kernel, by decide +kernel⟩, List.mem_of_getElem? (i := 945) (by decide +kernel), List.mem_of_getElem? (i := 1185) (by decide +kernel), List.mem_of_getElem? (i := 1186) (by decide +kernel)⟩
theorem lw_p41 : lw_okq (⟨"GlossRowsModel", "sentenceOfRow", "(I)I"⟩, 22) := ⟨⟨by decide +kernel, by decide +kernel⟩, List.mem_of_getElem? (i := 945) (by decide +kernel), List.mem_of_getElem? (i := 1189) (by decide +kernel), List.mem_of_getElem? (i := 1190) (by decide +kernel)⟩
theorem lw_p42 : lw_okq (⟨"GlossRowsModel", "note", "()V"⟩, 22) := ⟨⟨by decide +kernel, by decide +kernel⟩, List.mem_of_getElem? (i := 945) (by decide +kernel), List.mem_of_getElem? (i := 1209) (by decide +kernel), List.mem_of_getElem? (i := 1210) (by decide +kernel)⟩
theorem lw_p43 : lw_okq (⟨"GlossRowsModel", "sentencesOf", "([J)I"⟩, 22) := ⟨⟨by decide +kernel, by decide +kernel⟩, List.mem_of_getElem? (i := 945) (by decide +kernel), List.mem_of_getElem? (i := 1224) (by decide +kernel), List.mem_of_getElem? (i := 1225) (by decide +kernel)⟩
theorem lw_p44 : lw_okq (⟨"GlossRowsModel", "isFree", "()Z"⟩, 22) := ⟨⟨by decide +kernel, by decide +kernel⟩, List.mem_of_getElem? (i := 945) (by decide +kernel), List.mem_of_getElem? (i := 1239) (by decide +kernel), List.mem_of_getElem? (i := 1240) (by decide +kernel)⟩
theorem lw_p45 : lw_okq (⟨"GlossRowsModel", "isGloss", "()Z"⟩, 22) := ⟨⟨by decide +kernel, by decide +kernel⟩, List.mem_of_getElem? (i := 945) (by decide +kernel), List.mem_of_getElem? (i := 1249) (by decide +kernel), List.mem_of_getElem? (i := 1250) (by decide +kernel)⟩
theorem lw_p46 : lw_okq (⟨"GlossRowsModel", "uses", "(J)I"⟩, 22) := ⟨⟨by decide +kernel, by decide +kernel⟩, List.mem_of_getElem? (i := 945) (by decide +kernel), List.mem_of_getElem? (i := 1296) (by decide +kernel), List.mem_of_getElem? (i := 1297) (by decide +kernel)⟩
theorem lw_p47 : lw_okq (⟨"GlossRowsModel", "tryOut", "()V"⟩, 22) := ⟨⟨by decide +kernel, by decide +kernel⟩, List.mem_of_getElem? (i := 945) (by decide +kernel), List.mem_of_getElem? (i := 1321) (by decide +kernel), List.mem_of_getElem? (i := 1322) (by decide +kernel)⟩
def lw_privs_3 : List (MethodName × Nat) := [(⟨"GlossRowsModel", "insertOn", "([JI)V"⟩, 22), (⟨"GlossRowsModel", "layNow", "()V"⟩, 22), (⟨"GlossRowsModel", "layOut", "([JII)V"⟩, 22), (⟨"GlossRowsModel", "addRow", "(III)V"⟩, 22), (⟨"GlossRowsModel", "isWord", "(I)Z"⟩, 22), (⟨"GlossRowsModel", "isPart", "(II)Z"⟩, 22), (⟨"GlossRowsModel", "isEntry", "(I)Z"⟩, 22), (⟨"GlossRowsModel", "isRow", "(I)Z"⟩, 22), (⟨"GlossRowsModel", "lengthOfRow", "(I)I"⟩, 22), (⟨"GlossRowsModel", "sentenceOfRow", "(I)I"⟩, 22), (⟨"GlossRowsModel", "note", "()V"⟩, 22), (⟨"GlossRowsModel", "sentencesOf", "([J)I"⟩, 22), (⟨"GlossRowsModel", "isFree", "()Z"⟩, 22), (⟨"GlossRowsModel", "isGloss", "()Z"⟩, 22), (⟨"GlossRowsModel", "uses", "(J)I"⟩, 22), (⟨"GlossRowsModel", "tryOut", "()V"⟩, 22)]
theorem lw_r3 : ∀ q ∈ lw_privs_3, lw_okq q := List.forall_mem_cons.mpr ⟨lw_p32, List.forall_mem_cons.mpr ⟨lw_p33, List.forall_mem_cons.mpr ⟨lw_p34, List.forall_mem_cons.mpr ⟨lw_p35, List.forall_mem_cons.mpr ⟨lw_p36, List.forall_mem_cons.mpr ⟨lw_p37, List.forall_mem_cons.mpr ⟨lw_p38, List.forall_mem_cons.mpr ⟨lw_p39, List.forall_mem_cons.mpr ⟨lw_p40, List.forall_mem_cons.mpr ⟨lw_p41, List.forall_mem_cons.mpr ⟨lw_p42, List.forall_mem_cons.mpr ⟨lw_p43, List.forall_mem_cons.mpr ⟨lw_p44, List.forall_mem_cons.mpr ⟨lw_p45, List.forall_mem_cons.mpr ⟨lw_p46, List.forall_mem_cons.mpr ⟨lw_p47, fun _ h => absurd h List.not_mem_nil⟩⟩⟩⟩⟩⟩⟩⟩⟩⟩⟩⟩⟩⟩⟩⟩
theorem lw_p48 : lw_okq (⟨"GlossRowsModel", "command", "(I)Z"⟩, 22) := ⟨⟨by decide +kernel, by decide +kernel⟩, List.mem_of_getElem? (i := 945) (by decide +kernel), List.mem_of_getElem? (i := 1326) (by decide +kernel), List.mem_of_getElem? (i := 1327) (by decide +kernel)⟩
theorem lw_p49 : lw_okq (⟨"GlossRowsModel", "rowsOf", "([J)I"⟩, 22) := ⟨⟨by decide +kernel, by decide +kernel⟩, List.mem_of_getElem? (i := 945) (by decide +kernel), List.mem_of_getElem? (i := 1330) (by decide +kernel), List.mem_of_getElem? (i := 1331) (by decide +kernel)⟩
def lw_privs_4 : List (MethodName × Nat) := [(⟨"GlossRowsModel", "command", "(I)Z"⟩, 22), (⟨"GlossRowsModel", "rowsOf", "([J)I"⟩, 22)]
theorem lw_r4 : ∀ q ∈ lw_privs_4, lw_okq q := List.forall_mem_cons.mpr ⟨lw_p48, List.forall_mem_cons.mpr ⟨lw_p49, fun _ h => absurd h List.not_mem_nil⟩⟩
def lw_privs : List (MethodName × Nat) := lw_privs_1 ++ (lw_privs_2 ++ (lw_privs_3 ++ (lw_privs_4)))
def lw_tbl : List Cond := k2_sels lw_privs ++ tables_1
theorem lw_privs_ok : ∀ q ∈ lw_privs, lw_okq q := by
  show ∀ q ∈ lw_privs_1 ++ (lw_privs_2 ++ (lw_privs_3 ++ (lw_privs_4))), lw_okq q
  exact List.forall_mem_append.mpr ⟨lw_r1, List.forall_mem_append.mpr ⟨lw_r2, List.forall_mem_append.mpr ⟨lw_r3, lw_r4⟩⟩⟩

/-! ===== BEGIN words of one list among another's, by their places ===== -/
theorem goodIn_r {big : List Cond} (ws : List Cond) (ps : List Nat) (hp : ws = ps.filterMap (fun i => big[i]?)) (h : ws.all goodWord = true) : GoodIn big ws := by
  intro w hw
  have h1 := List.all_eq_true.mp h w hw
  rw [hp] at hw
  obtain ⟨i, -, hi⟩ := List.mem_filterMap.mp hw
  have hm : w ∈ big := by first | exact List.mem_of_getElem? hi | exact List.getElem?_mem hi
  exact ⟨hm, good_of_word h1⟩
theorem goodIn_app {big a b : List Cond} (ha : GoodIn big a) (hb : GoodIn big b) : GoodIn big (a ++ b) := fun w h => (List.mem_append.mp h).elim (ha w) (hb w)
theorem goodIn_ca {big a b : List Cond} {c : Cond} (ha : GoodIn big (c :: a)) (hb : GoodIn big b) : GoodIn big (c :: (a ++ b)) := fun w h => (List.mem_cons.mp h).elim (fun e => ha w (List.mem_cons.mpr (Or.inl e))) (fun h => (List.mem_append.mp h).elim (fun h => ha w (List.mem_cons.mpr (Or.inr h))) (hb w))
theorem goodIn_sub {big ws : List Cond} (hm : ∀ w ∈ ws, w ∈ big) (h : ws.all goodWord = true) : GoodIn big ws := fun w hw => ⟨hm w hw, good_of_word (List.all_eq_true.mp h w hw)⟩
/-! ===== END ===== -/

/-! ===== BEGIN exceptions that leave a method, and their catching by the caller (launches without stack traces) ===== -/
section VXA
/-! The laws vx_back, vx_callV, vx_callS, vx_callSW, vx_throw0, vx_throwS follow proofs of the library, with one case more: JvmDerived/Free/Laws.lean (Back.of_free), Shelf42/LK1.lean (callV, callS), Shelf/KitTraced.lean (throwNew0V, throwNewS). -/
/-- where a method has thrown q: the class by its name, the cell, what was written, the world -/
def vx_T (XC : String → State → State → Prop) (st : State) (q : Addr) (t : State) (mc ms : Nat) (free : Addr → Prop) : Prop :=
  ∃ (E : String) (ce : Cell) (L : List Loc), XC E st t ∧ t.heap[q]? = some ce ∧ ce.vm = .none ∧ st.vm.findClass E = some ce.cls ∧ st.WarmedH t.vm ∧ st.sameButNew ({ t with vm := st.vm } : State) L mc ms ∧ ∀ z ∈ L, free z.base
def vx_Q (Qc : Array Value → State → Outcome → State → Prop) (XC : String → State → State → Prop) (mc ms : Nat) (free : Addr → Prop) : Array Value → State → Outcome → State → Prop := fun a st o t =>
  (Qc a st o t ∧ ∃ L, FrameEnd st o t L mc ms ∧ ∀ q ∈ L, free q.base) ∨ ∃ q, o = .threw q ∧ vx_T XC st q t mc ms free
/-- a callee that returns or throws -/
def vx_Met (l : Launch) (y : MethodName) (ws : List Cond) (rm : Room) (Pc : Array Value → State → Prop) (Qc : Array Value → State → Outcome → State → Prop) (XC : String → State → State → Prop) (mc ms : Nat) (free : Addr → Prop) : Prop :=
  MetFree l y (headSpec ws rm) Pc (fun _ _ _ _ _ => True) (vx_Q Qc XC mc ms free)
def vx_Post (XC : String → State → State → Prop) (mc ms : Nat) (free : Addr → Prop) : Pt → Array Value → Addr → Pt → Prop := fun A a q B =>
  ∃ (g : JFrame) (mk : MethodId) (t : State) (L : List Loc) (E : String) (ce : Cell), B.U.heap = t.heap ∧ B.U.vm = t.vm ∧ XC E (A.U.calling g mk a) t ∧ t.heap[q]? = some ce ∧ ce.vm = .none ∧ A.U.vm.findClass E = some ce.cls ∧ B.locs = A.locs ++ L ∧ (∀ z ∈ L, free z.base) ∧ B.cells = A.cells + mc ∧ B.slots = A.slots + ms
def vx_Back (l : Launch) (R : Room) (p : Program) (e : Env) (below : List Frame) (s : State) (sargs : Array Value) (y : MethodName) (len W9 : Nat)
    (Pre : Pt → Array Value → Prop) (Post : Pt → Array Value → Option Value → Pt → Prop) (PostX : Pt → Array Value → Addr → Pt → Prop) : Prop :=
  ∀ (m : MethodId) (meth : Method) (c : Code) (A : Pt) (g : JFrame) (ig : Instr) (mk : MethodId) (a : Array Value),
    Stand p l e R s m sargs below meth c A.U A.locs A.cells A.slots → g.method = m → g.locals.size = c.maxLocals → decode c.code g.pc = .ok (ig, len) →
    2 * g.monitorRoom + (g.stack.map fun v => v.category).sum ≤ W9 → A.U.methodNamed? y = some mk → Pre A a →
    (∃ (v : Option Value) (B : Pt), Stand p l e R s m sargs below meth c B.U B.locs B.cells B.slots ∧ Post A a v B ∧
      Steps p.tables e below (doInvoke e (A.U.setTop g) [] mk a).1 (B.U.setTop { g with pc := g.pc + len, stack := v.toList ++ g.stack })) ∨
    (∃ (q : Addr) (B : Pt), Stand p l e R s m sargs below meth c B.U B.locs B.cells B.slots ∧ PostX A a q B ∧
      Steps p.tables e below (doInvoke e (A.U.setTop g) [] mk a).1 ((B.U.setTop g).pushFrame (.throwing q)))
section Payer
variable {l : Launch} {R : Room} {p : Program} {e : Env} {below : List Frame} {s : State} {sargs : Array Value} {y : MethodName} {len W9 : Nat}
theorem vx_back {ws : List Cond} {rm : Room} {Pc : Array Value → State → Prop} {Qc : Array Value → State → Outcome → State → Prop} {XC : String → State → State → Prop} {mc ms : Nat} {free : Addr → Prop} {bytes : ByteArray} {maxL : Nat} {ret : Option FieldType}
    (hM : vx_Met l y ws rm Pc Qc XC mc ms free) (hblind : FrameBlind Pc) (hrc : rm.cells = mc) (hrs : rm.slots = ms)
    (hframes : rm.frames + 1 ≤ R.frames) (hlocals : W9 + (maxL + 11) + rm.locals ≤ R.locals)
    (hws : ∀ w ∈ ws, ∀ a' U, s.WarmedH U.vm → w.before a' U = true) (hcode : Cond.code y bytes maxL ret ∈ ws) (hinit : ∀ a' U, s.WarmedH U.vm → (Cond.initialized y.cls).before a' U = true) :
    vx_Back l R p e below s sargs y len W9 (PreOf R mc ms Pc) (PostOf Qc mc ms free) (vx_Post XC mc ms free) := by
  intro m meth c A g ig mk a X hg hsize hdg hW hn hp
  have h1 : (headSpec ws rm).pre.before a A.U = true := atoms_intro fun w hw => hws w hw _ _ X.warmed
  have h2 : (Cond.code y bytes maxL ret).before a A.U = true := hws _ hcode _ _ X.warmed
  have h3 : (Cond.initialized y.cls).before a A.U = true := hinit _ _ X.warmed
  have h4 : A.cells + (headSpec ws rm).room.cells ≤ R.cells := by rw [show (headSpec ws rm).room.cells = mc from hrc]; exact hp.1
  have h5 : A.slots + (headSpec ws rm).room.slots ≤ R.slots := by rw [show (headSpec ws rm).room.slots = ms from hrs]; exact hp.2.1
  have hPc : Pc a (A.U.calling g mk a) := hblind _ _ _ _ hp.2.2
  obtain ⟨U, Ls, c0, s0⟩ := A
  dsimp only [Pt.U, Pt.locs, Pt.cells, Pt.slots] at h1 h2 h3 h4 h5 X hn hPc ⊢
  obtain ⟨methY, cY, hmY, hcY, -, hlY, -, -, -, -⟩ := Cond.code_spec hn h2
  obtain ⟨kY, hkY, -⟩ := className_of_methodNamed hn
  have hinitY : kY.init = .initialized := Cond.initialized_spec (findClass_of_methodNamed hn) hkY h3
  have h : At U g.method c below := by rw [hg]; exact X.here
  have hlocals9 : W9 + (maxL + 11) + (headSpec ws rm).room.locals ≤ R.locals := hlocals
  have happ : (headSpec ws rm).appliesLoose y e.platform (U.calling g mk a) = true :=
    Spec.appliesLoose_calling (g := g) h hdg hn hkY hinitY
      (X.room_calling (g := g) (R' := (headSpec ws rm).room) hsize hmY hcY hframes (by rw [hlY]; omega) h4 h5) h1
  obtain ⟨mid, hmid⟩ := h.above
  have hfr : (U.setTop g).frames = (.java g :: mid) ++ below := by rw [State.frames_setTop' g h.top, hmid]; rfl
  obtain ⟨o, s₂, hsteps, -, hend, hq⟩ := Steps.callFree hM p X.admits X.cas X.clock (acts := []) hfr happ hPc trivial
  have hq' : vx_Q Qc XC mc ms free a (U.calling g mk a) o s₂ := hq
  rw [State.frames_setTop' g h.top] at hend
  obtain ⟨g₀, hg0⟩ := Option.isSome_iff_exists.mp h.top
  obtain ⟨r, hr⟩ := State.topJava?_eq_some.mp hg0
  have hr' : (({ U with heap := s₂.heap, slotsUsed := s₂.slotsUsed } : State).setVm s₂.vm).frames = .java g₀ :: r := hr
  rcases hq' with ⟨hqc, L, hfe, hL⟩ | ⟨q, rfl, E, ce, L, hx, hce, hcv, hcl, hW₂, hsm, hL⟩
  · obtain ⟨⟨v, rfl⟩, hW₂, e2, q2, q3, q4, q5, q6⟩ := id hfe
    have e3 : s₂ = ({ (U.calling g mk a).setFrames s₂.frames with heap := s₂.heap, slotsUsed := s₂.slotsUsed } : State).setVm s₂.vm := by
      have : s₂ = ({ s₂ with vm := (U.calling g mk a).vm } : State).setVm s₂.vm := rfl
      rw [e2] at this
      exact this
    obtain ⟨c₂, i₂, len₂, hc₂, hd₂, hf₂⟩ := hend
    have hW' : U.WarmedH s₂.vm := hW₂
    have hcc : c₂ = c := by
      have h1 : s₂.code? g.method = U.code? g.method := by
        rw [State.code?_eq, State.code?_eq, hW'.alike.method?]
      exact Option.some.inj (hc₂.symm.trans (h1.trans h.code))
    subst hcc
    have hlen : len₂ = len := by rw [hdg] at hd₂; cases hd₂; rfl
    subst hlen
    have hs₂ : s₂ = (({ U with heap := s₂.heap, slotsUsed := s₂.slotsUsed } : State).setVm s₂.vm).setTop { g with pc := g.pc + len₂, stack := v.toList ++ g.stack } := by
      refine e3.trans ?_
      rw [hf₂, State.calling_eq h.top, State.setFrames_setFrames, State.setTop_of_frames _ hr', hr]
      rfl
    have hsame : U.sameButNew ({ U with heap := s₂.heap, slotsUsed := s₂.slotsUsed } : State) L mc ms := by
      refine ⟨?_, q2, q3, q4, q5, q6⟩
      obtain ⟨t, ht, -⟩ := State.frames_cons hr
      show ({ U with heap := s₂.heap, slotsUsed := s₂.slotsUsed } : State) = { U.setFrames U.frames with heap := s₂.heap, slotsUsed := s₂.slotsUsed }
      rw [State.setFrames_self ht]
    subst hg
    refine Or.inl ⟨v, ⟨(({ U with heap := s₂.heap, slotsUsed := s₂.slotsUsed } : State).setVm s₂.vm), Ls ++ L, c0 + mc, s0 + ms⟩,
      ⟨X.admits, X.cas, X.clock, X.frames, X.room, X.hears, X.method, X.code, (X.here.setHeapUsed s₂.heap s₂.slotsUsed).setVm hW'.alike, X.tail, State.WarmedH.trans X.warmed hW', X.limits, X.bytes, X.same.trans (hsame.setVm s.vm)⟩,
      ⟨g, mk, s₂, L, rfl, rfl, hqc, rfl, hL, rfl, rfl⟩, ?_⟩
    show Steps p.tables e below _ ((({ U with heap := s₂.heap, slotsUsed := s₂.slotsUsed } : State).setVm s₂.vm).setTop { g with pc := g.pc + len₂, stack := v.toList ++ g.stack })
    rw [← hs₂]
    exact hsteps
  · obtain ⟨e2, q2, q3, q4, q5, q6⟩ := id hsm
    have e3 : s₂ = ({ (U.calling g mk a).setFrames s₂.frames with heap := s₂.heap, slotsUsed := s₂.slotsUsed } : State).setVm s₂.vm := by
      have : s₂ = ({ s₂ with vm := (U.calling g mk a).vm } : State).setVm s₂.vm := rfl
      rw [e2] at this
      exact this
    have hf₂ : s₂.frames = .throwing q :: .java g :: U.frames.tail := hend
    have hW' : U.WarmedH s₂.vm := hW₂
    have hs₂ : s₂ = ((({ U with heap := s₂.heap, slotsUsed := s₂.slotsUsed } : State).setVm s₂.vm).setTop g).pushFrame (.throwing q) := by
      refine e3.trans ?_
      rw [hf₂, State.calling_eq h.top, State.setFrames_setFrames, State.pushFrame, State.frames_setTop _ hr', State.setTop_of_frames _ hr', State.setFrames_setFrames, hr]
      rfl
    have hsame : U.sameButNew ({ U with heap := s₂.heap, slotsUsed := s₂.slotsUsed } : State) L mc ms := by
      refine ⟨?_, q2, q3, q4, q5, q6⟩
      obtain ⟨t, ht, -⟩ := State.frames_cons hr
      show ({ U with heap := s₂.heap, slotsUsed := s₂.slotsUsed } : State) = { U.setFrames U.frames with heap := s₂.heap, slotsUsed := s₂.slotsUsed }
      rw [State.setFrames_self ht]
    subst hg
    refine Or.inr ⟨q, ⟨(({ U with heap := s₂.heap, slotsUsed := s₂.slotsUsed } : State).setVm s₂.vm), Ls ++ L, c0 + mc, s0 + ms⟩,
      ⟨X.admits, X.cas, X.clock, X.frames, X.room, X.hears, X.method, X.code, (X.here.setHeapUsed s₂.heap s₂.slotsUsed).setVm hW'.alike, X.tail, State.WarmedH.trans X.warmed hW', X.limits, X.bytes, X.same.trans (hsame.setVm s.vm)⟩,
      ⟨g, mk, s₂, L, E, ce, rfl, rfl, hx, hce, hcv, hcl, rfl, hL, rfl, rfl⟩, ?_⟩
    show Steps p.tables e below _ (((({ U with heap := s₂.heap, slotsUsed := s₂.slotsUsed } : State).setVm s₂.vm).setTop g).pushFrame (.throwing q))
    rw [← hs₂]
    exact hsteps
end Payer
section Calls
variable {p : Program} {l : Launch} {e : Env} {R : Room} {s : State} {m : MethodId} {args : Array Value} {below : List Frame} {meth : Method} {c : Code} {T : State} {locs : List Loc} {cells slots : Nat}
theorem vx_callV (X : Stand p l e R s m args below meth c T locs cells slots) (hexec : p.tables.exec = Jvm.exec) {own C : String} {index : Nat} {y : MethodName} {bytes : ByteArray} {maxL : Nat} {ret : Option FieldType}
    (hown : s.vm.findClass own = some m.cls) (hlink : (Cond.methodLink own index y).before args s = true) (hinst : (Cond.instanceMethod y).before args s = true) (hsel : (Cond.selects C y y).before args s = true)
    (hcode : (Cond.code y bytes maxL ret).before args s = true) (hy : y.cls ≠ "java/lang/invoke/MethodHandle" ∧ y.cls ≠ "java/lang/invoke/VarHandle")
    {W9 : Nat} {Pre : Pt → Array Value → Prop} {Post : Pt → Array Value → Option Value → Pt → Prop} {PostX : Pt → Array Value → Addr → Pt → Prop} (hK : vx_Back l R p e below s args y 3 W9 Pre Post PostX)
    {b : Addr} {cellB : Cell} (hcell : T.heap[b]? = some cellB) (hobj : cellB.vm.isStatics = false) (hcls : s.vm.findClass C = some cellB.cls)
    {g : JFrame} (hg : g.method = m) (hsize : g.locals.size = c.maxLocals) {argsL rest : List Value} (hlen : ∀ sig, parseMethodDescriptor y.desc = some sig → argsL.length = sig.parameters.length)
    (hstack : g.stack = argsL.reverse ++ .ref b :: rest) (hW : 2 * g.monitorRoom + (rest.map fun v => v.category).sum ≤ W9) (hdg : decode c.code g.pc = .ok (.invokevirtual index, 3))
    (hpre : ∀ vm₁, s.WarmedH vm₁ → Pre ⟨T.setVm vm₁, locs, cells, slots⟩ (Value.ref b :: argsL).toArray) :
    (∃ (v : Option Value) (vm₁ : Vm) (B : Pt), s.WarmedH vm₁ ∧ Stand p l e R s m args below meth c B.U B.locs B.cells B.slots ∧ Post ⟨T.setVm vm₁, locs, cells, slots⟩ (Value.ref b :: argsL).toArray v B ∧
      ∀ target, Steps p.tables e below (B.U.setTop { g with pc := g.pc + 3, stack := v.toList ++ rest }) target → Steps p.tables e below (T.setTop g) target) ∨
    (∃ (q : Addr) (vm₁ : Vm) (B : Pt), s.WarmedH vm₁ ∧ Stand p l e R s m args below meth c B.U B.locs B.cells B.slots ∧ PostX ⟨T.setVm vm₁, locs, cells, slots⟩ (Value.ref b :: argsL).toArray q B ∧
      Steps p.tables e below (T.setTop g) ((B.U.setTop { g with stack := rest }).pushFrame (.throwing q))) := by
  obtain ⟨mk, methM, hnamed, hmethM, hstM, habM⟩ := Cond.instanceMethod_spec hinst
  obtain ⟨methM', cM, hmethM', -, -, -, -, -, -, hsigM⟩ := Cond.code_spec hnamed hcode
  cases hmethM.symm.trans hmethM'
  obtain ⟨c2, r2, m2, q1, q2, q3, q4, kP, hkP, hkPi⟩ := Cond.selects_spec hsel
  cases hcls.symm.trans q1
  cases (State.methodFound?_of_named hnamed hy).symm.trans q2
  cases hnamed.symm.trans q3
  have hselP : selectMethod e.platform s.vm cellB.cls mk = .method mk := by rw [Launch.admits_selectMethod X.admits]; exact q4
  obtain ⟨vm₁, X₁, hstep₁⟩ := X.invokevirtual hexec hown hlink hnamed hmethM hstM hkP hkPi hy (a := b) (cell := cellB) hcell
    (fun z h => by rw [h] at hobj; cases hobj) hselP hmethM habM hkP hkPi (g := g) hg (argsL := argsL) (rest := rest) (hlen _ hsigM) hstack hdg
  rcases hK m meth c ⟨T.setVm vm₁, locs, cells, slots⟩ { g with stack := rest } (.invokevirtual index) mk (Value.ref b :: argsL).toArray X₁ hg hsize hdg hW (X₁.named hnamed) (hpre vm₁ X₁.warmed) with ⟨v, B, X', hpost, hsteps⟩ | ⟨q, B, X', hpost, hsteps⟩
  · exact Or.inl ⟨v, vm₁, B, X₁.warmed, X', hpost, fun target h => hstep₁ _ fun acts => by rw [doInvoke_state]; exact hsteps.trans h⟩
  · exact Or.inr ⟨q, vm₁, B, X₁.warmed, X', hpost, hstep₁ _ fun acts => by rw [doInvoke_state]; exact hsteps⟩
theorem vx_callS (X : Stand p l e R s m args below meth c T locs cells slots) (hexec : p.tables.exec = Jvm.exec) {own : String} {index : Nat} {y : MethodName} {bytes : ByteArray} {maxL : Nat} {ret : Option FieldType}
    (hown : s.vm.findClass own = some m.cls) (hlink : (Cond.methodLink own index y).before args s = true) (hstat : (Cond.static y).before args s = true) (hinit : (Cond.initialized y.cls).before args s = true)
    (hcode : (Cond.code y bytes maxL ret).before args s = true) (hy : y.cls ≠ "java/lang/invoke/MethodHandle" ∧ y.cls ≠ "java/lang/invoke/VarHandle")
    {W9 : Nat} {Pre : Pt → Array Value → Prop} {Post : Pt → Array Value → Option Value → Pt → Prop} {PostX : Pt → Array Value → Addr → Pt → Prop} (hK : vx_Back l R p e below s args y 3 W9 Pre Post PostX)
    {g : JFrame} (hg : g.method = m) (hsize : g.locals.size = c.maxLocals) {argsL rest : List Value} (hlen : ∀ sig, parseMethodDescriptor y.desc = some sig → argsL.length = sig.parameters.length)
    (hstack : g.stack = argsL.reverse ++ rest) (hW : 2 * g.monitorRoom + (rest.map fun v => v.category).sum ≤ W9) (hdg : decode c.code g.pc = .ok (.invokestatic index, 3))
    (hpre : ∀ vm₁, s.WarmedH vm₁ → Pre ⟨T.setVm vm₁, locs, cells, slots⟩ argsL.toArray) :
    (∃ (v : Option Value) (vm₁ : Vm) (B : Pt), s.WarmedH vm₁ ∧ Stand p l e R s m args below meth c B.U B.locs B.cells B.slots ∧ Post ⟨T.setVm vm₁, locs, cells, slots⟩ argsL.toArray v B ∧
      ∀ target, Steps p.tables e below (B.U.setTop { g with pc := g.pc + 3, stack := v.toList ++ rest }) target → Steps p.tables e below (T.setTop g) target) ∨
    (∃ (q : Addr) (vm₁ : Vm) (B : Pt), s.WarmedH vm₁ ∧ Stand p l e R s m args below meth c B.U B.locs B.cells B.slots ∧ PostX ⟨T.setVm vm₁, locs, cells, slots⟩ argsL.toArray q B ∧
      Steps p.tables e below (T.setTop g) ((B.U.setTop { g with stack := rest }).pushFrame (.throwing q))) := by
  obtain ⟨mk, hnamed⟩ := Cond.code_named hcode
  obtain ⟨methM, cM, hmethM, -, -, -, -, -, -, hsigM⟩ := Cond.code_spec hnamed hcode
  have hstatic : methM.isStatic = true := Cond.static_spec hnamed hmethM hstat
  obtain ⟨kP, hkP, -⟩ := className_of_methodNamed hnamed
  have hinitP : kP.init = .initialized := Cond.initialized_spec (findClass_of_methodNamed hnamed) hkP hinit
  obtain ⟨vm₁, X₁, hstep₁⟩ := X.invokestatic hexec hown hlink hnamed hmethM hstatic hkP hinitP hy (g := g) hg (argsL := argsL) (rest := rest) (hlen _ hsigM) hstack hdg
  rcases hK m meth c ⟨T.setVm vm₁, locs, cells, slots⟩ { g with stack := rest } (.invokestatic index) mk argsL.toArray X₁ hg hsize hdg hW (X₁.named hnamed) (hpre vm₁ X₁.warmed) with ⟨v, B, X', hpost, hsteps⟩ | ⟨q, B, X', hpost, hsteps⟩
  · exact Or.inl ⟨v, vm₁, B, X₁.warmed, X', hpost, fun target h => hstep₁ _ fun acts => by rw [doInvoke_state]; exact hsteps.trans h⟩
  · exact Or.inr ⟨q, vm₁, B, X₁.warmed, X', hpost, hstep₁ _ fun acts => by rw [doInvoke_state]; exact hsteps⟩
end Calls
theorem vx_cls {s : State} {T : State} {vm₁ : Vm} {E : String} {k : ClassId} (hW : s.WarmedH vm₁) (h : (T.setVm vm₁).vm.findClass E = some k) : s.vm.findClass E = some k := by
  have h1 : vm₁.findClass E = some k := h
  rw [hW.alike.findClass] at h1
  exact h1
/-- the method's frame g, with q thrown over it -/
def vx_W (p : Program) (l : Launch) (e : Env) (R : Room) (s : State) (m : MethodId) (args : Array Value) (below : List Frame) (meth : Method) (c : Code) (H : Heap) (locs : List Loc) (cells slots : Nat) (Q : State → Prop) (g : JFrame) (q : Addr) : Prop :=
  ∀ T : State, T.heap = H → Stand p l e R s m args below meth c T locs cells slots → ∃ t, Steps p.tables e below ((T.setTop g).pushFrame (.throwing q)) t ∧ Q t
def vx_Run (p : Program) (l : Launch) (e : Env) (R : Room) (s : State) (m : MethodId) (args : Array Value) (below : List Frame) (meth : Method) (c : Code) (H : Heap) (locs : List Loc) (cells slots mc ms : Nat) (g : JFrame) (rest : List Value) (Qa : State → Outcome → State → Prop) (XC : String → State → State → Prop) (free : Addr → Prop) : Prop :=
  ∀ T : State, T.heap = H → Stand p l e R s m args below meth c T locs cells slots →
    (∃ (v : Option Value) (st₀ t T' : State) (L : List Loc), st₀.heap = H ∧ Stand p l e R s m args below meth c T' (locs ++ L) (cells + mc) (slots + ms) ∧ (∀ q ∈ L, free q.base) ∧ T'.heap = t.heap ∧ T'.vm = t.vm ∧ Qa st₀ (.returned v) t ∧
      Goes p e below T g T' { g with pc := g.pc + 3, stack := v.toList ++ rest }) ∨
    (∃ (q : Addr) (st₀ t T' : State) (L : List Loc) (E : String) (ce : Cell), st₀.heap = H ∧ Stand p l e R s m args below meth c T' (locs ++ L) (cells + mc) (slots + ms) ∧ (∀ z ∈ L, free z.base) ∧ T'.heap = t.heap ∧ T'.vm = t.vm ∧ XC E st₀ t ∧ t.heap[q]? = some ce ∧ ce.vm = .none ∧ s.vm.findClass E = some ce.cls ∧
      Steps p.tables e below (T.setTop g) ((T'.setTop { g with stack := rest }).pushFrame (.throwing q)))
def vx_X {S : Type} (px : S → Prop) (B : String → S → State → Prop) (A : Nat → Prop) : String → State → State → Prop := fun E st t => ∃ u : S, px u ∧ B E u t ∧ va_F A st t
section Runs
variable {p : Program} {l : Launch} {e : Env} {R : Room} {s : State} {m : MethodId} {args : Array Value} {below : List Frame} {meth : Method} {c : Code} {H : Heap} {locs : List Loc} {cells slots : Nat}
variable {y : MethodName} {bytes cc : ByteArray} {maxL nL mc ms n index : Nat} {ret : Option FieldType} {ws : List Cond} {rm : Room} {Pc : Array Value → State → Prop} {Qc : Array Value → State → Outcome → State → Prop} {XC : String → State → State → Prop} {free : Addr → Prop} {Ts : List Cond} {own C : String} {b : Addr} {As rest : List Value} {g : JFrame}
theorem vx_callBack (cb : CallB R s args own index y bytes maxL ret ws rm mc ms n) (hM : vx_Met l y ws rm Pc Qc XC mc ms free) (hbl : FrameBlind Pc) : vx_Back l R p e below s args y 3 8 (PreOf R mc ms Pc) (PostOf Qc mc ms free) (vx_Post XC mc ms free) := by
  obtain ⟨hrc, hrs, hfr, hlo, hws, hcw, -, hini, -⟩ := cb
  exact vx_back (bytes := bytes) (maxL := maxL) (ret := ret) hM hbl hrc hrs hfr hlo hws hcw (fun a' U hW => word_at hW (Or.inl (by first | rfl | simp [Cond.onTables, Cond.keeps, Cond.steady])) hini)
theorem vx_runV (S : CallFix p m c cc nL s args Ts own) (hM : vx_Met l y ws rm Pc Qc XC mc ms free) (cw : CallW R s args own C index y bytes maxL ret ws rm mc ms n) (hp : PreV s H C b Pc As)
    (hg : g.method = m) (hn : As.length = n) (hsize : g.locals.size = nL) (hstack : g.stack = As.reverse ++ .ref b :: rest) (hW : 2 * g.monitorRoom + (rest.map fun v => v.category).sum ≤ 8) (hdg : decode cc g.pc = .ok (.invokevirtual index, 3)) (hf : cells + mc ≤ R.cells ∧ slots + ms ≤ R.slots) :
    vx_Run p l e R s m args below meth c H locs cells slots mc ms g rest (Qc (Value.ref b :: As).toArray) XC free := by
  have hK : vx_Back l R p e below s args y 3 8 (PreOf R mc ms Pc) (PostOf Qc mc ms free) (vx_Post XC mc ms free) := vx_callBack cw.1 hM hp.1
  obtain ⟨⟨-, -, -, -, -, -, hcode, -, hy, hlen, hl⟩, hin, hse⟩ := cw
  obtain ⟨hx, hb, hml, ho, -⟩ := S
  obtain ⟨-, ⟨cellB, hcB, hoB, hclB⟩, hPc⟩ := hp
  intro T hT X
  rcases vx_callV X hx (C := C) (bytes := bytes) (maxL := maxL) (ret := ret) ho hl hin hse hcode hy hK (by rw [hT]; exact hcB) hoB hclB hg (hsize.trans hml.symm) (argsL := As) (rest := rest) (fun sig h => hn.trans (hlen sig h)) hstack hW (by rw [hb]; exact hdg)
    (fun vm₁ hW₁ => ⟨hf.1, hf.2, hPc (T.setVm vm₁) hT hW₁⟩) with ⟨v, vm₁, ⟨U', l2, c2, s2⟩, hW₁, X', ⟨g', mk, t, L, e1, e2, hq, h1, hL, h2, h3⟩, st⟩ | ⟨q, vm₁, ⟨U', l2, c2, s2⟩, hW₁, X', ⟨g', mk, t, L, E, ce, e1, e2, hq, hce, hcv, hcl, h1, hL, h2, h3⟩, st⟩
  · dsimp only [Pt.U, Pt.locs, Pt.cells, Pt.slots] at X' e1 e2 h1 h2 h3 st
    subst h1; subst h2; subst h3
    exact Or.inl ⟨v, (T.setVm vm₁).calling g' mk (Value.ref b :: As).toArray, t, U', L, hT, X', hL, e1, e2, hq, st⟩
  · dsimp only [Pt.U, Pt.locs, Pt.cells, Pt.slots] at X' e1 e2 h1 h2 h3 st hcl
    subst h1; subst h2; subst h3
    exact Or.inr ⟨q, (T.setVm vm₁).calling g' mk (Value.ref b :: As).toArray, t, U', L, E, ce, hT, X', hL, e1, e2, hq, hce, hcv, vx_cls hW₁ hcl, st⟩
theorem vx_runS (S : CallFix p m c cc nL s args Ts own) (hM : vx_Met l y ws rm Pc Qc XC mc ms free) (cw : CallB R s args own index y bytes maxL ret ws rm mc ms n ∧ (Cond.static y).before args s = true) (hp : PreS s H Pc As)
    (hg : g.method = m) (hn : As.length = n) (hsize : g.locals.size = nL) (hstack : g.stack = As.reverse ++ rest) (hW : 2 * g.monitorRoom + (rest.map fun v => v.category).sum ≤ 8) (hdg : decode cc g.pc = .ok (.invokestatic index, 3)) (hf : cells + mc ≤ R.cells ∧ slots + ms ≤ R.slots) :
    vx_Run p l e R s m args below meth c H locs cells slots mc ms g rest (Qc As.toArray) XC free := by
  have hK : vx_Back l R p e below s args y 3 8 (PreOf R mc ms Pc) (PostOf Qc mc ms free) (vx_Post XC mc ms free) := vx_callBack cw.1 hM hp.1
  obtain ⟨⟨-, -, -, -, -, -, hcode, hini, hy, hlen, hl⟩, hstt⟩ := cw
  obtain ⟨hx, hb, hml, ho, -⟩ := S
  intro T hT X
  rcases vx_callS X hx (bytes := bytes) (maxL := maxL) (ret := ret) ho hl hstt hini hcode hy hK hg (hsize.trans hml.symm) (argsL := As) (rest := rest) (fun sig h => hn.trans (hlen sig h)) hstack hW (by rw [hb]; exact hdg)
    (fun vm₁ hW₁ => ⟨hf.1, hf.2, hp.2 (T.setVm vm₁) hT hW₁⟩) with ⟨v, vm₁, ⟨U', l2, c2, s2⟩, hW₁, X', ⟨g', mk, t, L, e1, e2, hq, h1, hL, h2, h3⟩, st⟩ | ⟨q, vm₁, ⟨U', l2, c2, s2⟩, hW₁, X', ⟨g', mk, t, L, E, ce, e1, e2, hq, hce, hcv, hcl, h1, hL, h2, h3⟩, st⟩
  · dsimp only [Pt.U, Pt.locs, Pt.cells, Pt.slots] at X' e1 e2 h1 h2 h3 st
    subst h1; subst h2; subst h3
    exact Or.inl ⟨v, (T.setVm vm₁).calling g' mk As.toArray, t, U', L, hT, X', hL, e1, e2, hq, st⟩
  · dsimp only [Pt.U, Pt.locs, Pt.cells, Pt.slots] at X' e1 e2 h1 h2 h3 st hcl
    subst h1; subst h2; subst h3
    exact Or.inr ⟨q, (T.setVm vm₁).calling g' mk As.toArray, t, U', L, E, ce, hT, X', hL, e1, e2, hq, hce, hcv, vx_cls hW₁ hcl, st⟩
end Runs
section Rows
variable {p : Program} {l : Launch} {e : Env} {R : Room} {s : State} {m : MethodId} {args : Array Value} {below : List Frame} {meth : Method} {c : Code} {H : Heap} {locs : List Loc} {cells slots : Nat} {Q : State → Prop}
variable {mc ms : Nat} {free : Addr → Prop} {A0 A1 : Nat → Prop} {H0 : Heap} {a : Array Value} {pc : Nat} {ls : Array Slot} {st0 rest : List Value}
theorem vx_keep {st₀ t T' : State} {L : List Loc} (h0 : st₀.heap = H) (e1 : T'.heap = t.heap) (hS : va_S A0 H0 H locs) (hA : ∀ q, q < H.size → A1 q → A0 q) (hf : ∀ q, free q → A0 q) (hL : ∀ q ∈ L, free q.base) (hF : va_F A1 st₀ t) :
    H.size ≤ T'.heap.size ∧ (∀ q : Nat, q < H.size → ¬ A1 q → T'.heap[q]? = H[q]?) ∧ va_S A0 H0 T'.heap (locs ++ L) := by
  obtain ⟨hz, hk⟩ := hF
  rw [h0] at hz hk
  exact ⟨by rw [e1]; exact hz, fun q h1 h2 => by rw [e1]; exact hk q h1 h2,
    ⟨Nat.le_trans hS.1 (by rw [e1]; exact hz), fun q h1 h2 => by rw [e1, hk q (Nat.lt_of_lt_of_le h1 hS.1) (fun z => h2 (hA q (Nat.lt_of_lt_of_le h1 hS.1) z))]; exact hS.2.1 q h1 h2, fun q hq => by
      rcases List.mem_append.mp hq with h | h
      · exact hS.2.2 q h
      · exact hf _ (hL q h)⟩⟩
theorem vx_calli {S SX : Type} {post : Int32 → S → Prop} {px : SX → Prop} {B : S → State → Prop} {BX : String → SX → State → Prop} {AX : Nat → Prop} (hr : vx_Run p l e R s m args below meth c H locs cells slots mc ms (F0 m pc ls st0) rest (va_Qi post B A1 a) (vx_X px BX AX) free) (hS : va_S A0 H0 H locs) (hA : ∀ q, q < H.size → A1 q → A0 q) (hf : ∀ q, free q → A0 q) (hAX : ∀ q, q < H.size → AX q → A0 q)
    (kx : ∀ (E : String) (ce : Cell) (q9 : Addr) (u : SX) (t : State) (H1 : Heap) (locs1 : List Loc), t.heap = H1 → s.vm.Alike t.vm → px u → BX E u t → H.size ≤ H1.size → (∀ q : Nat, q < H.size → ¬ AX q → H1[q]? = H[q]?) → va_S A0 H0 H1 locs1 → H1[q9]? = some ce → ce.vm = .none → s.vm.findClass E = some ce.cls → vx_W p l e R s m args below meth c H1 locs1 (cells + mc) (slots + ms) Q (F0 m pc ls rest) q9)
    (kk : ∀ (r : Int32) (u : S) (t : State) (H1 : Heap) (locs1 : List Loc), t.heap = H1 → s.vm.Alike t.vm → post r u → B u t → H.size ≤ H1.size → (∀ q : Nat, q < H.size → ¬ A1 q → H1[q]? = H[q]?) → va_S A0 H0 H1 locs1 → W p l e R s m args below meth c H1 locs1 (cells + mc) (slots + ms) Q (F0 m (pc + 3) ls (.int r :: rest))) : W p l e R s m args below meth c H locs cells slots Q (F0 m pc ls st0) := by
  intro T hT X
  rcases hr T hT X with ⟨v, st₀, t, T', L, h0, X', hL, e1, e2, ⟨⟨r, u, hv, hp, hb⟩, hF⟩, st⟩ | ⟨q, st₀, t, T', L, E, ce, h0, X', hL, e1, e2, ⟨u, hp, hb, hF⟩, hce, hcv, hcl, st⟩
  · cases hv
    obtain ⟨k1, k2, k3⟩ := vx_keep h0 e1 hS hA hf hL hF
    obtain ⟨t2, a1, b1⟩ := kk r u t T'.heap (locs ++ L) e1.symm (by rw [← e2]; exact X'.warmed.alike) hp hb k1 k2 k3 T' rfl X'
    exact ⟨t2, st t2 a1, b1⟩
  · obtain ⟨k1, k2, k3⟩ := vx_keep h0 e1 hS hAX hf hL hF
    obtain ⟨t2, a1, b1⟩ := kx E ce q u t T'.heap (locs ++ L) e1.symm (by rw [← e2]; exact X'.warmed.alike) hp hb k1 k2 k3 (by rw [e1]; exact hce) hcv hcl T' rfl X'
    exact ⟨t2, st.trans a1, b1⟩
theorem vx_calll {S SX : Type} {post : Int64 → S → Prop} {px : SX → Prop} {B : S → State → Prop} {BX : String → SX → State → Prop} {AX : Nat → Prop} (hr : vx_Run p l e R s m args below meth c H locs cells slots mc ms (F0 m pc ls st0) rest (va_Ql post B A1 a) (vx_X px BX AX) free) (hS : va_S A0 H0 H locs) (hA : ∀ q, q < H.size → A1 q → A0 q) (hf : ∀ q, free q → A0 q) (hAX : ∀ q, q < H.size → AX q → A0 q)
    (kx : ∀ (E : String) (ce : Cell) (q9 : Addr) (u : SX) (t : State) (H1 : Heap) (locs1 : List Loc), t.heap = H1 → s.vm.Alike t.vm → px u → BX E u t → H.size ≤ H1.size → (∀ q : Nat, q < H.size → ¬ AX q → H1[q]? = H[q]?) → va_S A0 H0 H1 locs1 → H1[q9]? = some ce → ce.vm = .none → s.vm.findClass E = some ce.cls → vx_W p l e R s m args below meth c H1 locs1 (cells + mc) (slots + ms) Q (F0 m pc ls rest) q9)
    (kk : ∀ (r : Int64) (u : S) (t : State) (H1 : Heap) (locs1 : List Loc), t.heap = H1 → s.vm.Alike t.vm → post r u → B u t → H.size ≤ H1.size → (∀ q : Nat, q < H.size → ¬ A1 q → H1[q]? = H[q]?) → va_S A0 H0 H1 locs1 → W p l e R s m args below meth c H1 locs1 (cells + mc) (slots + ms) Q (F0 m (pc + 3) ls (.long r :: rest))) : W p l e R s m args below meth c H locs cells slots Q (F0 m pc ls st0) := by
  intro T hT X
  rcases hr T hT X with ⟨v, st₀, t, T', L, h0, X', hL, e1, e2, ⟨⟨r, u, hv, hp, hb⟩, hF⟩, st⟩ | ⟨q, st₀, t, T', L, E, ce, h0, X', hL, e1, e2, ⟨u, hp, hb, hF⟩, hce, hcv, hcl, st⟩
  · cases hv
    obtain ⟨k1, k2, k3⟩ := vx_keep h0 e1 hS hA hf hL hF
    obtain ⟨t2, a1, b1⟩ := kk r u t T'.heap (locs ++ L) e1.symm (by rw [← e2]; exact X'.warmed.alike) hp hb k1 k2 k3 T' rfl X'
    exact ⟨t2, st t2 a1, b1⟩
  · obtain ⟨k1, k2, k3⟩ := vx_keep h0 e1 hS hAX hf hL hF
    obtain ⟨t2, a1, b1⟩ := kx E ce q u t T'.heap (locs ++ L) e1.symm (by rw [← e2]; exact X'.warmed.alike) hp hb k1 k2 k3 (by rw [e1]; exact hce) hcv hcl T' rfl X'
    exact ⟨t2, st.trans a1, b1⟩
theorem vx_callf {S SX : Type} {post : UInt32 → S → Prop} {px : SX → Prop} {B : S → State → Prop} {BX : String → SX → State → Prop} {AX : Nat → Prop} (hr : vx_Run p l e R s m args below meth c H locs cells slots mc ms (F0 m pc ls st0) rest (va_Qf post B A1 a) (vx_X px BX AX) free) (hS : va_S A0 H0 H locs) (hA : ∀ q, q < H.size → A1 q → A0 q) (hf : ∀ q, free q → A0 q) (hAX : ∀ q, q < H.size → AX q → A0 q)
    (kx : ∀ (E : String) (ce : Cell) (q9 : Addr) (u : SX) (t : State) (H1 : Heap) (locs1 : List Loc), t.heap = H1 → s.vm.Alike t.vm → px u → BX E u t → H.size ≤ H1.size → (∀ q : Nat, q < H.size → ¬ AX q → H1[q]? = H[q]?) → va_S A0 H0 H1 locs1 → H1[q9]? = some ce → ce.vm = .none → s.vm.findClass E = some ce.cls → vx_W p l e R s m args below meth c H1 locs1 (cells + mc) (slots + ms) Q (F0 m pc ls rest) q9)
    (kk : ∀ (r : UInt32) (u : S) (t : State) (H1 : Heap) (locs1 : List Loc), t.heap = H1 → s.vm.Alike t.vm → post r u → B u t → H.size ≤ H1.size → (∀ q : Nat, q < H.size → ¬ A1 q → H1[q]? = H[q]?) → va_S A0 H0 H1 locs1 → W p l e R s m args below meth c H1 locs1 (cells + mc) (slots + ms) Q (F0 m (pc + 3) ls (.float r :: rest))) : W p l e R s m args below meth c H locs cells slots Q (F0 m pc ls st0) := by
  intro T hT X
  rcases hr T hT X with ⟨v, st₀, t, T', L, h0, X', hL, e1, e2, ⟨⟨r, u, hv, hp, hb⟩, hF⟩, st⟩ | ⟨q, st₀, t, T', L, E, ce, h0, X', hL, e1, e2, ⟨u, hp, hb, hF⟩, hce, hcv, hcl, st⟩
  · cases hv
    obtain ⟨k1, k2, k3⟩ := vx_keep h0 e1 hS hA hf hL hF
    obtain ⟨t2, a1, b1⟩ := kk r u t T'.heap (locs ++ L) e1.symm (by rw [← e2]; exact X'.warmed.alike) hp hb k1 k2 k3 T' rfl X'
    exact ⟨t2, st t2 a1, b1⟩
  · obtain ⟨k1, k2, k3⟩ := vx_keep h0 e1 hS hAX hf hL hF
    obtain ⟨t2, a1, b1⟩ := kx E ce q u t T'.heap (locs ++ L) e1.symm (by rw [← e2]; exact X'.warmed.alike) hp hb k1 k2 k3 (by rw [e1]; exact hce) hcv hcl T' rfl X'
    exact ⟨t2, st.trans a1, b1⟩
theorem vx_calld {S SX : Type} {post : UInt64 → S → Prop} {px : SX → Prop} {B : S → State → Prop} {BX : String → SX → State → Prop} {AX : Nat → Prop} (hr : vx_Run p l e R s m args below meth c H locs cells slots mc ms (F0 m pc ls st0) rest (va_Qd post B A1 a) (vx_X px BX AX) free) (hS : va_S A0 H0 H locs) (hA : ∀ q, q < H.size → A1 q → A0 q) (hf : ∀ q, free q → A0 q) (hAX : ∀ q, q < H.size → AX q → A0 q)
    (kx : ∀ (E : String) (ce : Cell) (q9 : Addr) (u : SX) (t : State) (H1 : Heap) (locs1 : List Loc), t.heap = H1 → s.vm.Alike t.vm → px u → BX E u t → H.size ≤ H1.size → (∀ q : Nat, q < H.size → ¬ AX q → H1[q]? = H[q]?) → va_S A0 H0 H1 locs1 → H1[q9]? = some ce → ce.vm = .none → s.vm.findClass E = some ce.cls → vx_W p l e R s m args below meth c H1 locs1 (cells + mc) (slots + ms) Q (F0 m pc ls rest) q9)
    (kk : ∀ (r : UInt64) (u : S) (t : State) (H1 : Heap) (locs1 : List Loc), t.heap = H1 → s.vm.Alike t.vm → post r u → B u t → H.size ≤ H1.size → (∀ q : Nat, q < H.size → ¬ A1 q → H1[q]? = H[q]?) → va_S A0 H0 H1 locs1 → W p l e R s m args below meth c H1 locs1 (cells + mc) (slots + ms) Q (F0 m (pc + 3) ls (.double r :: rest))) : W p l e R s m args below meth c H locs cells slots Q (F0 m pc ls st0) := by
  intro T hT X
  rcases hr T hT X with ⟨v, st₀, t, T', L, h0, X', hL, e1, e2, ⟨⟨r, u, hv, hp, hb⟩, hF⟩, st⟩ | ⟨q, st₀, t, T', L, E, ce, h0, X', hL, e1, e2, ⟨u, hp, hb, hF⟩, hce, hcv, hcl, st⟩
  · cases hv
    obtain ⟨k1, k2, k3⟩ := vx_keep h0 e1 hS hA hf hL hF
    obtain ⟨t2, a1, b1⟩ := kk r u t T'.heap (locs ++ L) e1.symm (by rw [← e2]; exact X'.warmed.alike) hp hb k1 k2 k3 T' rfl X'
    exact ⟨t2, st t2 a1, b1⟩
  · obtain ⟨k1, k2, k3⟩ := vx_keep h0 e1 hS hAX hf hL hF
    obtain ⟨t2, a1, b1⟩ := kx E ce q u t T'.heap (locs ++ L) e1.symm (by rw [← e2]; exact X'.warmed.alike) hp hb k1 k2 k3 (by rw [e1]; exact hce) hcv hcl T' rfl X'
    exact ⟨t2, st.trans a1, b1⟩
theorem vx_callv {S SX : Type} {post : S → Prop} {px : SX → Prop} {B : S → State → Prop} {BX : String → SX → State → Prop} {AX : Nat → Prop} (hr : vx_Run p l e R s m args below meth c H locs cells slots mc ms (F0 m pc ls st0) rest (va_Qv post B A1 a) (vx_X px BX AX) free) (hS : va_S A0 H0 H locs) (hA : ∀ q, q < H.size → A1 q → A0 q) (hf : ∀ q, free q → A0 q) (hAX : ∀ q, q < H.size → AX q → A0 q)
    (kx : ∀ (E : String) (ce : Cell) (q9 : Addr) (u : SX) (t : State) (H1 : Heap) (locs1 : List Loc), t.heap = H1 → s.vm.Alike t.vm → px u → BX E u t → H.size ≤ H1.size → (∀ q : Nat, q < H.size → ¬ AX q → H1[q]? = H[q]?) → va_S A0 H0 H1 locs1 → H1[q9]? = some ce → ce.vm = .none → s.vm.findClass E = some ce.cls → vx_W p l e R s m args below meth c H1 locs1 (cells + mc) (slots + ms) Q (F0 m pc ls rest) q9)
    (kk : ∀ (u : S) (t : State) (H1 : Heap) (locs1 : List Loc), t.heap = H1 → s.vm.Alike t.vm → post u → B u t → H.size ≤ H1.size → (∀ q : Nat, q < H.size → ¬ A1 q → H1[q]? = H[q]?) → va_S A0 H0 H1 locs1 → W p l e R s m args below meth c H1 locs1 (cells + mc) (slots + ms) Q (F0 m (pc + 3) ls (rest))) : W p l e R s m args below meth c H locs cells slots Q (F0 m pc ls st0) := by
  intro T hT X
  rcases hr T hT X with ⟨v, st₀, t, T', L, h0, X', hL, e1, e2, ⟨⟨u, hv, hp, hb⟩, hF⟩, st⟩ | ⟨q, st₀, t, T', L, E, ce, h0, X', hL, e1, e2, ⟨u, hp, hb, hF⟩, hce, hcv, hcl, st⟩
  · cases hv
    obtain ⟨k1, k2, k3⟩ := vx_keep h0 e1 hS hA hf hL hF
    obtain ⟨t2, a1, b1⟩ := kk u t T'.heap (locs ++ L) e1.symm (by rw [← e2]; exact X'.warmed.alike) hp hb k1 k2 k3 T' rfl X'
    exact ⟨t2, st t2 a1, b1⟩
  · obtain ⟨k1, k2, k3⟩ := vx_keep h0 e1 hS hAX hf hL hF
    obtain ⟨t2, a1, b1⟩ := kx E ce q u t T'.heap (locs ++ L) e1.symm (by rw [← e2]; exact X'.warmed.alike) hp hb k1 k2 k3 (by rw [e1]; exact hce) hcv hcl T' rfl X'
    exact ⟨t2, st.trans a1, b1⟩
/-- caught by the row x of this method's table; the rows ahead don't take it -/
theorem vx_catch {own name : String} {E : String} {ce : Cell} {q : Addr} (hown : s.vm.findClass own = some m.cls) (pre : List ExceptionTableEntry) (x : ExceptionTableEntry) (suf : List ExceptionTableEntry) (hsplit : c.exceptionTable.toList = pre ++ x :: suf)
    (hpass : ∀ z ∈ pre, covers z pc = false ∨ (z.catchType ≠ 0 ∧ ∃ nm : String, (Cond.classLink own z.catchType nm).before args s = true ∧ va_Nc E nm s)) (hx : covers x pc = true) (h0 : x.catchType ≠ 0)
    (hlink : (Cond.classLink own x.catchType name).before args s = true) (hcast : (Cond.castable E name).before args s = true) (hcell : H[q]? = some ce) (hv : ce.vm = .none) (hcl : s.vm.findClass E = some ce.cls)
    (kk : W p l e R s m args below meth c H locs cells slots Q (F0 m x.handlerPc ls [.ref q])) : vx_W p l e R s m args below meth c H locs cells slots Q (F0 m pc ls rest) q := by
  intro T hT X
  have hpl : e.platform.magicAccessors = ({} : Platform).magicAccessors := by rw [X.admits.platform]
  obtain ⟨c3, c4, hc3, hc4, hasg⟩ := Cond.castable_spec hcast
  cases Option.some.inj (hc3.symm.trans hcl)
  obtain ⟨c5, hc5, hcl5⟩ := Cond.classLink_spec hown hlink e.platform hpl
  cases Option.some.inj (hc4.symm.trans hc5)
  obtain ⟨vm', X', st⟩ := X.thenCaughtThrough q (g := F0 m pc ls rest) rfl (Steps.refl _) (by rw [hT]; exact hcell) (by rw [hv]; rfl) (by obtain ⟨k9, h9, -⟩ := Vm.findClass_spec hcl; exact ⟨k9, h9⟩) pre x suf hsplit
    (fun z hz => by
      rcases hpass z hz with h | ⟨hz0, nm, hl1, hn1⟩
      · exact Or.inl h
      · obtain ⟨c6, hc6, hcl6⟩ := Cond.classLink_spec hown hl1 e.platform hpl
        obtain ⟨a8, b8, h1, h2, h3⟩ := hn1
        cases Option.some.inj (h1.symm.trans hcl)
        cases Option.some.inj (h2.symm.trans hc6)
        exact Or.inr ⟨hz0, _, hcl6, h3⟩) hx (Or.inr ⟨h0, c4, hcl5, hasg⟩)
  obtain ⟨t, a1, b1⟩ := kk (T.setVm vm') hT X'
  exact ⟨t, st.trans a1, b1⟩
end Rows
section Ends
variable {p : Program} {l : Launch} {e : Env} {R : Room} {s : State} {m : MethodId} {args : Array Value} {below : List Frame} {meth : Method} {c : Code} {H : Heap} {locs : List Loc} {cells slots : Nat} {Q : State → Prop}
variable {mc ms : Nat} {free : Addr → Prop} {A0 A1 : Nat → Prop} {H0 : Heap} {a : Array Value} {ls : Array Slot} {st0 rest : List Value}
variable {Qc : Array Value → State → Outcome → State → Prop} {XC : String → State → State → Prop}
/-- what a body that may throw owes at its end -/
def vx_MQ (below : List Frame) (Qc : Array Value → State → Outcome → State → Prop) (XC : String → State → State → Prop) (a : Array Value) (s : State) (mc ms : Nat) (free : Addr → Prop) : State → Prop := fun t =>
  ∃ o, t.status = .running ∧ Ended t below o ∧ vx_Q Qc XC mc ms free a s o t
theorem vx_ret {g : JFrame} {mc ms : Nat} (k : W p l e R s m args below meth c H locs cells slots (MQ below Qc args s mc ms free) g) : W p l e R s m args below meth c H locs cells slots (vx_MQ below Qc XC args s mc ms free) g := by
  intro T hT X
  obtain ⟨t, a1, o, b1, b2, b3, b4⟩ := k T hT X
  exact ⟨t, a1, o, b1, b2, Or.inl ⟨b3, b4⟩⟩
/-- not caught here: it goes on to the caller -/
theorem vx_widen {g : JFrame} {q : Addr} {k n : Nat} (h1 : cells ≤ k) (h2 : slots ≤ n) (kk : vx_W p l e R s m args below meth c H locs k n Q g q) : vx_W p l e R s m args below meth c H locs cells slots Q g q := fun T hT X => kk T hT (stand_widen X h1 h2)
theorem vx_out {pc : Nat} {E : String} {ce : Cell} {q : Addr} {mc ms : Nat} (hout : ∀ x ∈ c.exceptionTable.toList, covers x pc = false) (hlocks : meth.locks = false) (hcell : H[q]? = some ce) (hv : ce.vm = .none) (hcl : s.vm.findClass E = some ce.cls)
    (hx : ∀ t : State, t.heap = H → s.vm.Alike t.vm → XC E s t) (hf : ∀ z ∈ locs, free z.base) (hc : cells ≤ mc) (hs : slots ≤ ms) :
    vx_W p l e R s m args below meth c H locs cells slots (vx_MQ below Qc XC args s mc ms free) (F0 m pc ls rest) q := by
  intro T hT X
  obtain ⟨st1, hrun, hend, hW, hsm⟩ := X.leaveThrown q (g := F0 m pc ls rest) rfl rfl rfl hout hlocks
  have hcell9 : (T.setFrames (.throwing q :: below)).heap[q]? = some ce := by
    show T.heap[q]? = some ce
    rw [hT]; exact hcell
  exact ⟨_, st1, .threw q, hrun, hend, Or.inr ⟨q, rfl, E, ce, locs, hx _ hT hW.alike, hcell9, hv, hcl, hW, hsm.mono hc hs, hf⟩⟩
theorem vx_frame {U : State} {k n : Nat} (h : s.sameButNew ({ U with vm := s.vm } : State) locs k n) : s.heap.size ≤ U.heap.size ∧ ∀ q : Nat, q < s.heap.size → (∀ z ∈ locs, z.base ≠ q) → U.heap[q]? = s.heap[q]? := by
  obtain ⟨-, h2, -, -, -, h6⟩ := h
  refine ⟨h2, fun q hq hz => ?_⟩
  obtain ⟨c9, e1, e2, e3, e4⟩ := h6 q _ (Array.getElem?_eq_getElem hq)
  have hs : c9.slots = (s.heap[q]).slots := Array.ext_getElem? fun i => e4 i fun hm => hz _ hm rfl
  have h9 : c9 = s.heap[q] := by
    rw [hs] at e2
    exact e2
  have e5 : U.heap[q]? = some c9 := e1
  rw [e5, h9, Array.getElem?_eq_getElem hq]
/-- the words of a throw but the four that speak of the heap -/
def vx_no (w : Cond) : Bool := decide (w ≠ .isRef (.static Bundle.tN "UNASSIGNED_STACK" Bundle.steD)) && decide (w ≠ .isRef (.static Bundle.tN "SUPPRESSED_SENTINEL" Bundle.listD)) && decide (w ≠ .laysStatic Bundle.tN "UNASSIGNED_STACK" Bundle.steD) && decide (w ≠ .laysStatic Bundle.tN "SUPPRESSED_SENTINEL" Bundle.listD)
def vx_at0 (own : String) (ic : Nat) (X : String) (names : List String) : List Cond := (Bundle.ownAtoms0 own ic X names).filter vx_no
def vx_atS (own : String) (ic : Nat) (X : String) (names : List String) : List Cond := (Bundle.ownAtoms own ic X names).filter vx_no
/-- a word that the tables alone decide, or a good one -/
def vx_ot (w : Cond) : Bool := w.onTables || goodWord w
theorem vx_ot_at {args a' : Array Value} {s U : State} {w : Cond} (hW : s.WarmedH U.vm) (hvm : s.vm = U.vm) (hg : vx_ot w = true) (h : w.before args s = true) : w.before a' U = true := by
  simp only [vx_ot, Bool.or_eq_true] at hg
  rcases hg with hg | hg
  · exact va_tabs hg hvm h
  · exact word_at hW (good_of_word hg) h
/-- a list's words: the good ones out of the method's own list, the others by premises of their own -/
theorem vx_hat {args : Array Value} {s : State} {L B : List Cond} (h1 : ∀ w ∈ L.filter goodWord, w.before args s = true) (h2 : ∀ w ∈ L.filter (fun w => !goodWord w), w ∈ B) (h3 : ∀ w ∈ B, w.before args s = true) : ∀ w ∈ L, w.before args s = true := by
  intro w hw
  by_cases g : goodWord w = true
  · exact h1 w (List.mem_filter.mpr ⟨hw, g⟩)
  · refine h3 w (h2 w (List.mem_filter.mpr ⟨hw, ?_⟩))
    show (!goodWord w) = true
    cases hgw : goodWord w
    · rfl
    · exact absurd hgw g
theorem vx_c {args : Array Value} {s : State} {w : Cond} {B : List Cond} (h : w.before args s = true) (t : ∀ w ∈ B, w.before args s = true) : ∀ w' ∈ w :: B, w'.before args s = true := fun w' h' => (List.mem_cons.mp h').elim (fun e => by rw [e]; exact h) (t w')
theorem vx_n {args : Array Value} {s : State} : ∀ w ∈ ([] : List Cond), w.before args s = true := fun _ h => nomatch h
theorem vx_own {args : Array Value} {s : State} {L : List Cond} (h1 : ∀ w ∈ L.filter vx_no, w.before args s = true)
    (hU : (Cond.isRef (.static Bundle.tN "UNASSIGNED_STACK" Bundle.steD)).before args s = true) (hN : (Cond.isRef (.static Bundle.tN "SUPPRESSED_SENTINEL" Bundle.listD)).before args s = true)
    (lU : (Cond.laysStatic Bundle.tN "UNASSIGNED_STACK" Bundle.steD).before args s = true) (lN : (Cond.laysStatic Bundle.tN "SUPPRESSED_SENTINEL" Bundle.listD).before args s = true) : ∀ w ∈ L, w.before args s = true := by
  intro w hw
  by_cases e1 : w = .isRef (.static Bundle.tN "UNASSIGNED_STACK" Bundle.steD)
  · rw [e1]; exact hU
  · by_cases e2 : w = .isRef (.static Bundle.tN "SUPPRESSED_SENTINEL" Bundle.listD)
    · rw [e2]; exact hN
    · by_cases e3 : w = .laysStatic Bundle.tN "UNASSIGNED_STACK" Bundle.steD
      · rw [e3]; exact lU
      · by_cases e4 : w = .laysStatic Bundle.tN "SUPPRESSED_SENTINEL" Bundle.listD
        · rw [e4]; exact lN
        · exact h1 w (List.mem_filter.mpr ⟨hw, by unfold vx_no; rw [decide_eq_true e1, decide_eq_true e2, decide_eq_true e3, decide_eq_true e4]; rfl⟩)
/-- where a static field lies, its class's statics cell in H -/
def vx_L (C n d : String) (A : Nat → Prop) (U : State) (H : Heap) : Prop := ∃ (c : ClassId) (k : Class) (i : Nat) (f : Field) (a : Nat) (cell : Cell), U.vm.findClass C = some c ∧ U.fieldFound? C n d = some (c, k, i, f) ∧ f.isStatic = true ∧ k.statics = some a ∧ H[a]? = some cell ∧ cell.vm.isStatics = true ∧ cell.cls = c ∧ f.slot < cell.slots.size ∧ k.staticTypes[f.slot]? = some f.type ∧ ¬ A a
theorem vx_L.moved {C n d : String} {A : Nat → Prop} {u U : State} {H : Heap} (hvm : u.vm.Alike U.vm) (h : vx_L C n d A u H) : vx_L C n d A U H := by
  obtain ⟨c, k, i, f, a, cell, h1, h2, h3, h4, h5, h6, h7, h8, h9, h10⟩ := h
  obtain ⟨k', hi', he⟩ := State.fieldFound?_setVm hvm h2
  exact ⟨c, k', i, f, a, cell, by rw [hvm.findClass]; exact h1, hi', h3, by rw [he]; exact h4, h5, h6, h7, h8, by rw [he]; exact h9, h10⟩
theorem vx_L.kept {C n d : String} {A : Nat → Prop} {U : State} {H H1 : Heap} (h : vx_L C n d A U H) (hq : ∀ a : Nat, a < H.size → ¬ A a → H1[a]? = H[a]?) : vx_L C n d A U H1 := by
  obtain ⟨c, k, i, f, a, cell, h1, h2, h3, h4, h5, h6, h7, h8, h9, h10⟩ := h
  exact ⟨c, k, i, f, a, cell, h1, h2, h3, h4, by rw [hq a (Array.getElem?_eq_some_iff.mp h5).1 h10]; exact h5, h6, h7, h8, h9, h10⟩
theorem vx_L.narrow {C n d : String} {A B : Nat → Prop} {U : State} {H : Heap} (h : vx_L C n d A U H) (hAB : ∀ q, B q → A q) : vx_L C n d B U H := by
  obtain ⟨c, k, i, f, a, cell, h1, h2, h3, h4, h5, h6, h7, h8, h9, h10⟩ := h
  exact ⟨c, k, i, f, a, cell, h1, h2, h3, h4, h5, h6, h7, h8, h9, fun z => h10 (hAB _ z)⟩
theorem vx_L.word {C n d : String} {A : Nat → Prop} {s : State} {args : Array Value} (h : vx_L C n d A s s.heap) : (Cond.laysStatic C n d).before args s = true := by
  obtain ⟨c, k, i, f, a, cell, h1, h2, h3, h4, h5, h6, h7, h8, h9, -⟩ := h
  show (Cond.laysStatic C n d).holds args s none s [] = true
  exact Cond.laysStatic_of h1 h2 h3 h4 h5 h6 h7 h8 h9
/-- .. and what it holds: null or some reference -/
def vx_Zq (C n d : String) (A : Nat → Prop) (U : State) (H : Heap) : Prop := va_Zq C n d A U H ∧ vx_L C n d A U H
theorem vx_Zq.moved {C n d : String} {A : Nat → Prop} {u U : State} {H : Heap} (hvm : u.vm.Alike U.vm) (h : vx_Zq C n d A u H) : vx_Zq C n d A U H := ⟨va_Zq.moved hvm h.1, vx_L.moved hvm h.2⟩
theorem vx_Zq.kept {C n d : String} {A : Nat → Prop} {U : State} {H H1 : Heap} (h : vx_Zq C n d A U H) (hq : ∀ a : Nat, a < H.size → ¬ A a → H1[a]? = H[a]?) : vx_Zq C n d A U H1 := ⟨va_Zq.kept h.1 hq, vx_L.kept h.2 hq⟩
theorem vx_Zq.narrow {C n d : String} {A B : Nat → Prop} {U : State} {H : Heap} (h : vx_Zq C n d A U H) (hAB : ∀ q, B q → A q) : vx_Zq C n d B U H := ⟨va_Zq.narrow h.1 hAB, vx_L.narrow h.2 hAB⟩
theorem vx_Zqof {args : Array Value} {s : State} {C n d : String} {A : Nat → Prop} (hl : (Cond.laysStatic C n d).before args s = true) (hini : (Cond.initialized C).before args s = true) (h : (Cond.isRef (.static C n d)).before args s = true) (hA : ∀ a : Nat, a < s.heap.size → ¬ A a) : vx_Zq C n d A s s.heap := by
  refine ⟨va_Zqof hl hini h hA, ?_⟩
  obtain ⟨c, k, i, f, a, cell, h1, h2, h3, h4, h5, h6, h7, h8, h9⟩ := Cond.laysStatic_spec hl
  exact ⟨c, k, i, f, a, cell, h1, h2, h3, h4, h5, h6, h7, h8, h9, hA a (Array.getElem?_eq_some_iff.mp h5).1⟩
theorem vx_isRef {C n d : String} {v : Value} {A : Nat → Prop} {s : State} {args : Array Value} (h : va_Z C n d v A s s.heap) (hv : v.isRef = true) : (Cond.isRef (.static C n d)).before args s = true := by
  obtain ⟨cf, kf, fi, f, a, cell, h1, h2, h3, h4, h5, h6, h7, -⟩ := h
  have he : (Term.static C n d).eval args s none [] s = some v := by
    simp [Term.eval, State.fieldNamed?, h1, h2, h4, h5, h6, h7]
  simp only [Cond.before, Cond.holds, Cond.value, he]
  cases v <;> simp_all [Value.isRef]
theorem vx_isRefq {C n d : String} {A : Nat → Prop} {s : State} {args : Array Value} (h : va_Zq C n d A s s.heap) : (Cond.isRef (.static C n d)).before args s = true := by
  rcases h with h | ⟨t, h⟩
  · exact vx_isRef h rfl
  · exact vx_isRef h rfl
/-- the same frame, seen from here: as if the method were called anew in this heap -/
theorem vx_rebase {T : State} (X : Stand p l e R s m args below meth c T locs cells slots) {R' : Room} (hf : R'.frames ≤ R.frames) (hl : R'.locals ≤ R.locals) (hc : cells + R'.cells ≤ R.cells) (hs : slots + R'.slots ≤ R.slots) :
    Stand p l e R' ((T.setVm s.vm).setFrames (.invoking m args :: below)) m args below meth c T [] 0 0 := by
  have htop : (T.setVm s.vm).topJava?.isSome := X.here.top
  have hF : ((T.setVm s.vm).setFrames (.invoking m args :: below)).frames = .invoking m args :: below := State.frames_setFrames _ (State.cur_lt_of_top htop)
  obtain ⟨g₀, hg0⟩ := Option.isSome_iff_exists.mp htop
  obtain ⟨r, hr⟩ := State.topJava?_eq_some.mp hg0
  have hl9 : e.platform.stackLimits (T.setVm s.vm).me = e.platform.stackLimits s.me := X.limits
  have hb9 : (T.setVm s.vm).me.stackBytes = s.me.stackBytes := X.bytes
  refine ⟨X.admits, X.cas, X.clock, hF, ?_, X.hears, X.method, X.code, X.here, X.tail, X.warmed, ?_, ?_, ?_⟩
  · have h := X.room
    have hU : ((T.setVm s.vm).setFrames (.invoking m args :: below)).localsInUse = s.localsInUse := by
      rw [State.localsInUse_invoking hF (meth := meth) (c := c) X.method X.code, State.localsInUse_invoking X.frames X.method X.code]
    simp only [State.hasRoom, Bool.and_eq_true, decide_eq_true_eq] at h ⊢
    obtain ⟨⟨⟨⟨h1, h2, h3, h4, h5, h6⟩, h7⟩, h8⟩, h9⟩ := h
    rw [X.frames, List.length_cons] at h2 h3
    have q1 := X.heapSize
    have q2 := X.used
    simp only [hF, hU, List.length_cons, State.stackLimits_setFrames, State.stackBytes_setFrames, hl9, hb9]
    refine ⟨⟨⟨⟨by omega, by omega, by omega, by omega, by omega, h6⟩, ?_⟩, ?_⟩, X.book⟩
    · show T.heap.size + R'.cells ≤ e.platform.maxCells
      omega
    · show T.slotsUsed + R'.slots ≤ e.platform.maxSlots
      omega
  · rw [State.stackLimits_setFrames]; rfl
  · rw [State.stackBytes_setFrames]; rfl
  · refine ⟨?_, Nat.le_refl _, Nat.le_refl _, ?_, ?_, fun a c9 h9 => ⟨c9, h9, rfl, rfl, fun _ _ => rfl⟩⟩
    · obtain ⟨t, ht, -⟩ := State.frames_cons hr
      show T.setVm s.vm = { ((T.setVm s.vm).setFrames (.invoking m args :: below)).setFrames (T.setVm s.vm).frames with heap := T.heap, slotsUsed := T.slotsUsed }
      rw [State.setFrames_setFrames, State.setFrames_self ht]
      rfl
    · show T.slotsUsed = T.slotsUsed + ((T.heap.toList.drop T.heap.size).map (·.slots.size)).sum
      rw [List.drop_eq_nil_of_le (Nat.le_of_eq Array.length_toList)]
      rfl
    · show ((T.heap.toList.drop T.heap.size).map (·.slots.size)).sum ≤ 0
      rw [List.drop_eq_nil_of_le (Nat.le_of_eq Array.length_toList)]
      exact Nat.le_refl _
/-- 'throw new E()': new; dup; invokespecial; athrow -/
theorem vx_throw0 {cc : ByteArray} {pc : Nat} (hexec : p.tables.exec = Jvm.exec) (hb : c.code = cc) (hl : l.stackTraces = false) {own cls : String} {names : List String} {ik ic mc ms : Nat} {A : Nat → Prop}
    (hown : s.vm.findClass own = some m.cls) (hcls : Bundle.fit cls = true) (hnames : ∀ n ∈ names, Bundle.fit n = true)
    (hk : (Cond.classLink own ik cls).before args s = true) (hini : (Cond.initialized cls).before args s = true) (hat : ∀ w ∈ vx_at0 own ic cls names, w.before args s = true)
    (hgood : ∀ w ∈ Cond.classLink own ik cls :: Cond.initialized cls :: vx_at0 own ic cls names, vx_ot w = true)
    (hU : vx_Zq Bundle.tN "UNASSIGNED_STACK" Bundle.steD A s s.heap) (hN : vx_Zq Bundle.tN "SUPPRESSED_SENTINEL" Bundle.listD A s s.heap) (hS : va_S A s.heap H locs) (hsize : ls.size = c.maxLocals)
    (d0 : decode cc pc = .ok (.new ik, 3)) (d3 : decode cc (pc + 3) = .ok (.dup, 1)) (d4 : decode cc (pc + 4) = .ok (.invokespecial ic, 3)) (d7 : decode cc (pc + 7) = .ok (.athrow, 1))
    (hout : ∀ x ∈ c.exceptionTable.toList, covers x (pc + 7) = false)
    (hRframes : names.length + 3 < R.frames) (hRlocals : (rest.map fun v => v.category).sum + (13 * (names.length + 1) + 42) ≤ R.locals) (hRcells : cells + 1 ≤ R.cells) (hRslots : slots + 6 ≤ R.slots) (hlocks : meth.locks = false)
    (hx : ∀ t : State, s.vm.Alike t.vm → H.size ≤ t.heap.size → (∀ q : Nat, q < H.size → t.heap[q]? = H[q]?) → XC cls s t)
    (hf : ∀ z ∈ locs, free z.base) (hc : cells + 1 ≤ mc) (hs : slots + 6 ≤ ms) :
    W p l e R s m args below meth c H locs cells slots (vx_MQ below Qc XC args s mc ms free) (F0 m pc ls rest) := by
  intro T hT X
  have htr : e.platform.stackTraces = false := (show e.platform.stackTraces = l.stackTraces by rw [X.admits.platform]).trans hl
  have Y := vx_rebase X (R' := { frames := R.frames, locals := R.locals, cells := 1, slots := 6 }) (Nat.le_refl _) (Nat.le_refl _) hRcells hRslots
  obtain ⟨s', hA⟩ : ∃ z, z = (T.setVm s.vm).setFrames (.invoking m args :: below) := ⟨_, rfl⟩
  rw [← hA] at Y
  have hvm : s'.vm = s.vm := by rw [hA]; rfl
  have hhp : s'.heap = H := by rw [hA]; exact hT
  have hW0 : s.WarmedH s'.vm := by rw [hvm]; exact State.WarmedH.refl s
  have hat' : ∀ w ∈ vx_at0 own ic cls names, w.before args s' = true := fun w hw => vx_ot_at hW0 hvm.symm (hgood w (List.mem_cons_of_mem _ (List.mem_cons_of_mem _ hw))) (hat w hw)
  have hk' : (Cond.classLink own ik cls).before args s' = true := vx_ot_at hW0 hvm.symm (hgood _ List.mem_cons_self) hk
  have hini' : (Cond.initialized cls).before args s' = true := vx_ot_at hW0 hvm.symm (hgood _ (List.mem_cons_of_mem _ List.mem_cons_self)) hini
  have hU' : vx_Zq Bundle.tN "UNASSIGNED_STACK" Bundle.steD A s' s'.heap := by rw [hhp]; exact vx_Zq.moved hW0.alike (hU.kept hS.2.1)
  have hN' : vx_Zq Bundle.tN "SUPPRESSED_SENTINEL" Bundle.listD A s' s'.heap := by rw [hhp]; exact vx_Zq.moved hW0.alike (hN.kept hS.2.1)
  have h : ∀ w ∈ Bundle.ownAtoms0 own ic cls names, w.before args s' = true := vx_own hat' (vx_isRefq hU'.1) (vx_isRefq hN'.1) hU'.2.word hN'.2.word
  have hown' : s'.vm.findClass own = some m.cls := by rw [hvm]; exact hown
  have hins : (Cond.instantiable cls 6).before args s' = true := h _ (by simp [Bundle.ownAtoms0])
  obtain ⟨vm₁, cX, kX, hfX, hkX, -, -, X₁, st1⟩ := Y.newCold hexec (own := own) (C := cls) (index := ik) (n := 6) hown' hk' hins hini'
    (g := F0 m pc ls rest) rfl (by rw [hb]; exact d0) (Nat.le_refl _) (Nat.le_refl _)
  generalize hT1 : (T.setVm vm₁).pushCell { cls := cX, slots := kX.instanceTypes.map defaultValue, vm := .none } = T1 at X₁ st1
  have hcat : (Value.ref T.heap.size).category = 1 := rfl
  have hcellA : T1.heap[T.heap.size]? = some (freshCell cX kX) := by rw [← hT1]; exact State.heap_pushCell_size _ _
  have d3' : decode c.code (pc + 3) = .ok (.dup, 1) := by rw [hb]; exact d3
  obtain ⟨U, hsteps, hrun, hend, hW, hsame, ce, hce, hO⟩ := X₁.ctorThrow0 hexec htr (own := own) (cls := cls) (names := names) (ic := ic) hown' hcls hnames h (fun x hx => nomatch hx) hfX hkX hcellA (by rw [hhp, hT]; exact Nat.le_refl _)
    (g := { method := m, pc := pc + 4, locals := ls, stack := .ref T.heap.size :: .ref T.heap.size :: rest, locked := none }) rfl hsize rfl rfl (rest := rest) rfl
    (by rw [hb]; exact d4) (by rw [hb]; exact d7) hout hRframes (by simp only [List.map_cons, List.sum_cons, hcat]; omega) hlocks
  obtain ⟨f1, f2⟩ := vx_frame hsame
  rw [hhp] at f1 f2
  have hWs : s.WarmedH U.vm := State.WarmedH.trans hW0 hW
  have hcl : s.vm.findClass cls = some ce.cls := by
    have h9 := hO.cls
    rw [hvm] at h9
    exact h9
  have hall : s.sameButNew ({ U with vm := s.vm } : State) locs mc ms := by
    subst hA
    obtain ⟨e1, e2⟩ := hsame
    rw [State.setFrames_setFrames] at e1
    have h2 : (T.setVm s.vm).sameButNew ({ U with vm := s.vm } : State) [] (0 + 1) (0 + 6) := ⟨e1, e2⟩
    have h3 := X.same.trans h2
    rw [List.append_nil] at h3
    exact h3.mono hc hs
  refine ⟨U, ?_, .threw T.heap.size, hrun, hend, Or.inr ⟨T.heap.size, rfl, cls, ce, locs, hx U hWs.alike f1 (fun q hq => f2 q hq (fun z hz => nomatch hz)), hce, hO.vm, hcl, hWs, hall, hf⟩⟩
  refine st1 _ ?_
  show Steps p.tables e below (T1.setTop { method := m, pc := pc + 3, locals := ls, stack := .ref T.heap.size :: rest, locked := none }) _
  jvm_step X₁.here [X₁.here.top, hexec, d3', Value.category]
  exact hsteps
/-- 'throw new E("text")': new; dup; ldc; invokespecial; athrow -/
theorem vx_throwS {cc : ByteArray} {pc : Nat} (hexec : p.tables.exec = Jvm.exec) (hb : c.code = cc) (hl : l.stackTraces = false) {own cls text : String} {names : List String} {ik is ic mc ms sa : Nat} {A : Nat → Prop}
    (hown : s.vm.findClass own = some m.cls) (hcls : Bundle.fit cls = true) (hnames : ∀ n ∈ names, Bundle.fit n = true)
    (hk : (Cond.classLink own ik cls).before args s = true) (hini : (Cond.initialized cls).before args s = true) (hstr : vk_R own is text sa s) (hat : ∀ w ∈ vx_atS own ic cls names, w.before args s = true)
    (hgood : ∀ w ∈ Cond.classLink own ik cls :: Cond.initialized cls :: vx_atS own ic cls names, vx_ot w = true)
    (hU : vx_Zq Bundle.tN "UNASSIGNED_STACK" Bundle.steD A s s.heap) (hN : vx_Zq Bundle.tN "SUPPRESSED_SENTINEL" Bundle.listD A s s.heap) (hS : va_S A s.heap H locs) (hsize : ls.size = c.maxLocals)
    (d0 : decode cc pc = .ok (.new ik, 3)) (d3 : decode cc (pc + 3) = .ok (.dup, 1)) (d4 : decode cc (pc + 4) = .ok (.ldc is, 2)) (d6 : decode cc (pc + 6) = .ok (.invokespecial ic, 3)) (d9 : decode cc (pc + 9) = .ok (.athrow, 1))
    (hout : ∀ x ∈ c.exceptionTable.toList, covers x (pc + 9) = false)
    (hRframes : names.length + 3 < R.frames) (hRlocals : (rest.map fun v => v.category).sum + (13 * (names.length + 1) + 43) ≤ R.locals) (hRcells : cells + 1 ≤ R.cells) (hRslots : slots + 6 ≤ R.slots) (hlocks : meth.locks = false)
    (hx : ∀ t : State, s.vm.Alike t.vm → H.size ≤ t.heap.size → (∀ q : Nat, q < H.size → t.heap[q]? = H[q]?) → XC cls s t)
    (hf : ∀ z ∈ locs, free z.base) (hc : cells + 1 ≤ mc) (hs : slots + 6 ≤ ms) :
    W p l e R s m args below meth c H locs cells slots (vx_MQ below Qc XC args s mc ms free) (F0 m pc ls rest) := by
  intro T hT X
  have htr : e.platform.stackTraces = false := (show e.platform.stackTraces = l.stackTraces by rw [X.admits.platform]).trans hl
  have Y := vx_rebase X (R' := { frames := R.frames, locals := R.locals, cells := 1, slots := 6 }) (Nat.le_refl _) (Nat.le_refl _) hRcells hRslots
  obtain ⟨s', hA⟩ : ∃ z, z = (T.setVm s.vm).setFrames (.invoking m args :: below) := ⟨_, rfl⟩
  rw [← hA] at Y
  have hvm : s'.vm = s.vm := by rw [hA]; rfl
  have hhp : s'.heap = H := by rw [hA]; exact hT
  have hW0 : s.WarmedH s'.vm := by rw [hvm]; exact State.WarmedH.refl s
  have hat' : ∀ w ∈ vx_atS own ic cls names, w.before args s' = true := fun w hw => vx_ot_at hW0 hvm.symm (hgood w (List.mem_cons_of_mem _ (List.mem_cons_of_mem _ hw))) (hat w hw)
  have hk' : (Cond.classLink own ik cls).before args s' = true := vx_ot_at hW0 hvm.symm (hgood _ List.mem_cons_self) hk
  have hini' : (Cond.initialized cls).before args s' = true := vx_ot_at hW0 hvm.symm (hgood _ (List.mem_cons_of_mem _ List.mem_cons_self)) hini
  have hU' : vx_Zq Bundle.tN "UNASSIGNED_STACK" Bundle.steD A s' s'.heap := by rw [hhp]; exact vx_Zq.moved hW0.alike (hU.kept hS.2.1)
  have hN' : vx_Zq Bundle.tN "SUPPRESSED_SENTINEL" Bundle.listD A s' s'.heap := by rw [hhp]; exact vx_Zq.moved hW0.alike (hN.kept hS.2.1)
  have h : ∀ w ∈ Bundle.ownAtoms own ic cls names, w.before args s' = true := vx_own hat' (vx_isRefq hU'.1) (vx_isRefq hN'.1) hU'.2.word hN'.2.word
  have hown' : s'.vm.findClass own = some m.cls := by rw [hvm]; exact hown
  have hins : (Cond.instantiable cls 6).before args s' = true := h _ (by simp [Bundle.ownAtoms])
  obtain ⟨vm₁, cX, kX, hfX, hkX, -, -, X₁, st1⟩ := Y.newCold hexec (own := own) (C := cls) (index := ik) (n := 6) hown' hk' hins hini'
    (g := F0 m pc ls rest) rfl (by rw [hb]; exact d0) (Nat.le_refl _) (Nat.le_refl _)
  generalize hT1 : (T.setVm vm₁).pushCell { cls := cX, slots := kX.instanceTypes.map defaultValue, vm := .none } = T1 at X₁ st1
  have hcat : (Value.ref T.heap.size).category = 1 := rfl
  have hcellA : T1.heap[T.heap.size]? = some (freshCell cX kX) := by rw [← hT1]; exact State.heap_pushCell_size _ _
  have d3' : decode c.code (pc + 3) = .ok (.dup, 1) := by rw [hb]; exact d3
  have d4' : decode c.code (pc + 4) = .ok (.ldc is, 2) := by rw [hb]; exact d4
  have hstr' : vk_R own is text sa s' := vk_R.warm hW0 hstr
  obtain ⟨U, hsteps, hrun, hend, hW, hsame, ce, hce, hO⟩ := X₁.ctorThrowS hexec htr (own := own) (cls := cls) (names := names) (ic := ic) hown' hcls hnames h (fun x hx => nomatch hx) hfX hkX hcellA (by rw [hhp, hT]; exact Nat.le_refl _) (msg := .ref sa) rfl
    (g := { method := m, pc := pc + 6, locals := ls, stack := .ref sa :: .ref T.heap.size :: .ref T.heap.size :: rest, locked := none }) rfl hsize rfl rfl (rest := rest) rfl
    (by rw [hb]; exact d6) (by rw [hb]; exact d9) hout hRframes (by simp only [List.map_cons, List.sum_cons, hcat]; omega) hlocks
  obtain ⟨f1, f2⟩ := vx_frame hsame
  rw [hhp] at f1 f2
  have hWs : s.WarmedH U.vm := State.WarmedH.trans hW0 hW
  have hcl : s.vm.findClass cls = some ce.cls := by
    have h9 := hO.cls
    rw [hvm] at h9
    exact h9
  have hall : s.sameButNew ({ U with vm := s.vm } : State) locs mc ms := by
    subst hA
    obtain ⟨e1, e2⟩ := hsame
    rw [State.setFrames_setFrames] at e1
    have h2 : (T.setVm s.vm).sameButNew ({ U with vm := s.vm } : State) [] (0 + 1) (0 + 6) := ⟨e1, e2⟩
    have h3 := X.same.trans h2
    rw [List.append_nil] at h3
    exact h3.mono hc hs
  refine ⟨U, ?_, .threw T.heap.size, hrun, hend, Or.inr ⟨T.heap.size, rfl, cls, ce, locs, hx U hWs.alike f1 (fun q hq => f2 q hq (fun z hz => nomatch hz)), hce, hO.vm, hcl, hWs, hall, hf⟩⟩
  refine st1 _ ?_
  show Steps p.tables e below (T1.setTop { method := m, pc := pc + 3, locals := ls, stack := .ref T.heap.size :: rest, locked := none }) _
  jvm_step X₁.here [X₁.here.top, hexec, d3', Value.category]
  exact X₁.ldcString hexec (own := own) (text := text) (index := is) (a := sa) hown' hstr'.1 hstr'.2
    (g := { method := m, pc := pc + 4, locals := ls, stack := .ref T.heap.size :: .ref T.heap.size :: rest, locked := none }) rfl d4' _ hsteps
/-- 'throw new E("text")', the text by a wide index -/
theorem vx_throwSW {cc : ByteArray} {pc : Nat} (hexec : p.tables.exec = Jvm.exec) (hb : c.code = cc) (hl : l.stackTraces = false) {own cls text : String} {names : List String} {ik is ic mc ms sa : Nat} {A : Nat → Prop}
    (hown : s.vm.findClass own = some m.cls) (hcls : Bundle.fit cls = true) (hnames : ∀ n ∈ names, Bundle.fit n = true)
    (hk : (Cond.classLink own ik cls).before args s = true) (hini : (Cond.initialized cls).before args s = true) (hstr : vk_R own is text sa s) (hat : ∀ w ∈ vx_atS own ic cls names, w.before args s = true)
    (hgood : ∀ w ∈ Cond.classLink own ik cls :: Cond.initialized cls :: vx_atS own ic cls names, vx_ot w = true)
    (hU : vx_Zq Bundle.tN "UNASSIGNED_STACK" Bundle.steD A s s.heap) (hN : vx_Zq Bundle.tN "SUPPRESSED_SENTINEL" Bundle.listD A s s.heap) (hS : va_S A s.heap H locs) (hsize : ls.size = c.maxLocals)
    (d0 : decode cc pc = .ok (.new ik, 3)) (d3 : decode cc (pc + 3) = .ok (.dup, 1)) (d4 : decode cc (pc + 4) = .ok (.ldc_w is, 3)) (d7 : decode cc (pc + 7) = .ok (.invokespecial ic, 3)) (d10 : decode cc (pc + 10) = .ok (.athrow, 1))
    (hout : ∀ x ∈ c.exceptionTable.toList, covers x (pc + 10) = false)
    (hRframes : names.length + 3 < R.frames) (hRlocals : (rest.map fun v => v.category).sum + (13 * (names.length + 1) + 43) ≤ R.locals) (hRcells : cells + 1 ≤ R.cells) (hRslots : slots + 6 ≤ R.slots) (hlocks : meth.locks = false)
    (hx : ∀ t : State, s.vm.Alike t.vm → H.size ≤ t.heap.size → (∀ q : Nat, q < H.size → t.heap[q]? = H[q]?) → XC cls s t)
    (hf : ∀ z ∈ locs, free z.base) (hc : cells + 1 ≤ mc) (hs : slots + 6 ≤ ms) :
    W p l e R s m args below meth c H locs cells slots (vx_MQ below Qc XC args s mc ms free) (F0 m pc ls rest) := by
  intro T hT X
  have htr : e.platform.stackTraces = false := (show e.platform.stackTraces = l.stackTraces by rw [X.admits.platform]).trans hl
  have Y := vx_rebase X (R' := { frames := R.frames, locals := R.locals, cells := 1, slots := 6 }) (Nat.le_refl _) (Nat.le_refl _) hRcells hRslots
  obtain ⟨s', hA⟩ : ∃ z, z = (T.setVm s.vm).setFrames (.invoking m args :: below) := ⟨_, rfl⟩
  rw [← hA] at Y
  have hvm : s'.vm = s.vm := by rw [hA]; rfl
  have hhp : s'.heap = H := by rw [hA]; exact hT
  have hW0 : s.WarmedH s'.vm := by rw [hvm]; exact State.WarmedH.refl s
  have hat' : ∀ w ∈ vx_atS own ic cls names, w.before args s' = true := fun w hw => vx_ot_at hW0 hvm.symm (hgood w (List.mem_cons_of_mem _ (List.mem_cons_of_mem _ hw))) (hat w hw)
  have hk' : (Cond.classLink own ik cls).before args s' = true := vx_ot_at hW0 hvm.symm (hgood _ List.mem_cons_self) hk
  have hini' : (Cond.initialized cls).before args s' = true := vx_ot_at hW0 hvm.symm (hgood _ (List.mem_cons_of_mem _ List.mem_cons_self)) hini
  have hU' : vx_Zq Bundle.tN "UNASSIGNED_STACK" Bundle.steD A s' s'.heap := by rw [hhp]; exact vx_Zq.moved hW0.alike (hU.kept hS.2.1)
  have hN' : vx_Zq Bundle.tN "SUPPRESSED_SENTINEL" Bundle.listD A s' s'.heap := by rw [hhp]; exact vx_Zq.moved hW0.alike (hN.kept hS.2.1)
  have h : ∀ w ∈ Bundle.ownAtoms own ic cls names, w.before args s' = true := vx_own hat' (vx_isRefq hU'.1) (vx_isRefq hN'.1) hU'.2.word hN'.2.word
  have hown' : s'.vm.findClass own = some m.cls := by rw [hvm]; exact hown
  have hins : (Cond.instantiable cls 6).before args s' = true := h _ (by simp [Bundle.ownAtoms])
  obtain ⟨vm₁, cX, kX, hfX, hkX, -, -, X₁, st1⟩ := Y.newCold hexec (own := own) (C := cls) (index := ik) (n := 6) hown' hk' hins hini'
    (g := F0 m pc ls rest) rfl (by rw [hb]; exact d0) (Nat.le_refl _) (Nat.le_refl _)
  generalize hT1 : (T.setVm vm₁).pushCell { cls := cX, slots := kX.instanceTypes.map defaultValue, vm := .none } = T1 at X₁ st1
  have hcat : (Value.ref T.heap.size).category = 1 := rfl
  have hcellA : T1.heap[T.heap.size]? = some (freshCell cX kX) := by rw [← hT1]; exact State.heap_pushCell_size _ _
  have d3' : decode c.code (pc + 3) = .ok (.dup, 1) := by rw [hb]; exact d3
  have d4' : decode c.code (pc + 4) = .ok (.ldc_w is, 3) := by rw [hb]; exact d4
  have hstr' : vk_R own is text sa s' := vk_R.warm hW0 hstr
  obtain ⟨U, hsteps, hrun, hend, hW, hsame, ce, hce, hO⟩ := X₁.ctorThrowS hexec htr (own := own) (cls := cls) (names := names) (ic := ic) hown' hcls hnames h (fun x hx => nomatch hx) hfX hkX hcellA (by rw [hhp, hT]; exact Nat.le_refl _) (msg := .ref sa) rfl
    (g := { method := m, pc := pc + 7, locals := ls, stack := .ref sa :: .ref T.heap.size :: .ref T.heap.size :: rest, locked := none }) rfl hsize rfl rfl (rest := rest) rfl
    (by rw [hb]; exact d7) (by rw [hb]; exact d10) hout hRframes (by simp only [List.map_cons, List.sum_cons, hcat]; omega) hlocks
  obtain ⟨f1, f2⟩ := vx_frame hsame
  rw [hhp] at f1 f2
  have hWs : s.WarmedH U.vm := State.WarmedH.trans hW0 hW
  have hcl : s.vm.findClass cls = some ce.cls := by
    have h9 := hO.cls
    rw [hvm] at h9
    exact h9
  have hall : s.sameButNew ({ U with vm := s.vm } : State) locs mc ms := by
    subst hA
    obtain ⟨e1, e2⟩ := hsame
    rw [State.setFrames_setFrames] at e1
    have h2 : (T.setVm s.vm).sameButNew ({ U with vm := s.vm } : State) [] (0 + 1) (0 + 6) := ⟨e1, e2⟩
    have h3 := X.same.trans h2
    rw [List.append_nil] at h3
    exact h3.mono hc hs
  refine ⟨U, ?_, .threw T.heap.size, hrun, hend, Or.inr ⟨T.heap.size, rfl, cls, ce, locs, hx U hWs.alike f1 (fun q hq => f2 q hq (fun z hz => nomatch hz)), hce, hO.vm, hcl, hWs, hall, hf⟩⟩
  refine st1 _ ?_
  show Steps p.tables e below (T1.setTop { method := m, pc := pc + 3, locals := ls, stack := .ref T.heap.size :: rest, locked := none }) _
  jvm_step X₁.here [X₁.here.top, hexec, d3', Value.category]
  exact X₁.ldcStringW hexec (own := own) (text := text) (index := is) (a := sa) hown' hstr'.1 hstr'.2
    (g := { method := m, pc := pc + 4, locals := ls, stack := .ref T.heap.size :: .ref T.heap.size :: rest, locked := none }) rfl d4' _ hsteps
end Ends
section Bodies
variable {l : Launch}
theorem vx_ofW {y : MethodName} {ws ws' : List Cond} {rm : Room} {Pc : Array Value → State → Prop} {Qc : Array Value → State → Outcome → State → Prop} {XC : String → State → State → Prop} {mc ms : Nat} {free : Addr → Prop} {cc : ByteArray} {maxL : Nat} {ret : Option FieldType}
    (hy : plainName y.cls = true) (hw : ws = Cond.code y cc maxL ret :: ws')
    (body : ∀ p e s m args below meth c s₁, BodyLoose p l y (headSpec ws rm) cc maxL ret e s m args below meth c s₁ → c.maxLocals = maxL → (∀ x ∈ c.exceptionTable.toList, False) → Pc args s →
      W p l e (headSpec ws rm).room s m args below meth c s.heap [] 0 0 (vx_MQ below Qc XC args s mc ms free) (entryFrame m args maxL)) : vx_Met l y ws rm Pc Qc XC mc ms free := by
  refine MetFree.of_bodyS (code := cc) (maxLocals := maxL) (ret := ret) hy ?_ ?_
  · intro args s m h hn
    obtain ⟨meth, c, h1, h2, h3, h4, h5, h6, -, -⟩ := Cond.code_spec hn (atoms_spec (ws := ws) h _ (by rw [hw]; exact List.mem_cons_self))
    exact ⟨meth, c, h1, h2, h3, h4, h5, h6⟩
  · intro p e s m args below meth c s₁ B hml hP _
    have hh0 : s₁.heap = s.heap := by rw [B.state]; rfl
    have ht : ∀ x ∈ c.exceptionTable.toList, False := by
      obtain ⟨meth9, c9, h1, h2, -, -, -, -, h7, -⟩ := Cond.code_spec B.named (atoms_spec (ws := ws) B.pre _ (by rw [hw]; exact List.mem_cons_self))
      cases Option.some.inj (h1.symm.trans B.method)
      cases Option.some.inj (h2.symm.trans (Stand.of_body B).code)
      intro x hx
      rw [Array.isEmpty_iff.mp h7] at hx
      cases hx
    obtain ⟨t, a1, o, b1, b2, b3⟩ := body p e s m args below meth c s₁ B hml ht hP s₁ hh0 (Stand.of_body B)
    exact ⟨t, o, a1, b1, b2, b3⟩
/-- the table of a body with handlers -/
theorem vx_table {p : Program} {x y : MethodName} {S : Spec} {cc bytes : ByteArray} {maxL maxL' : Nat} {ret ret' : Option FieldType} {e : Env} {s s₁ : State} {m : MethodId} {args : Array Value} {below : List Frame} {meth : Method} {c : Code} {hh : List (Nat × Nat × Nat × Nat)}
    (B : BodyLoose p l y S cc maxL ret e s m args below meth c s₁) (h : (Cond.codeWith y bytes maxL' ret' hh).before args s = true) : c.exceptionTable.toList = tableOf hh := by
  obtain ⟨m9, meth9, c9, hn9, h1, h2, -, -, h6, -⟩ := Cond.codeWith_spec h
  cases Option.some.inj (hn9.symm.trans B.named)
  cases Option.some.inj (h1.symm.trans B.method)
  cases Option.some.inj (h2.symm.trans (Stand.of_body B).code)
  rw [← h6, table_eq]
end Bodies
end VXA
/-! ===== END ===== -/
/-! ===== BEGIN a static call of a method with an exception table ===== -/
section VXS
variable {p : Program} {l : Launch} {e : Env} {R : Room} {s : State} {m : MethodId} {args : Array Value} {below : List Frame} {meth : Method} {c : Code} {T : State} {H : Heap} {locs : List Loc} {cells slots : Nat}
abbrev vx_CSW (R : Room) (s : State) (args : Array Value) (own : String) (index : Nat) (y : MethodName) (bytes : ByteArray) (maxL : Nat) (ret : Option FieldType) (hh : List (Nat × Nat × Nat × Nat)) (ws : List Cond) (rm : Room) (mc ms n : Nat) : Prop :=
  (rm.cells = mc ∧ rm.slots = ms ∧ rm.frames + 1 ≤ R.frames ∧ 8 + (maxL + 11) + rm.locals ≤ R.locals ∧ (∀ w ∈ ws, ∀ (a' : Array Value) (U : State), s.WarmedH U.vm → w.before a' U = true) ∧ Cond.codeWith y bytes maxL ret hh ∈ ws) ∧
  (Cond.codeWith y bytes maxL ret hh).before args s = true ∧ (Cond.initialized y.cls).before args s = true ∧ (y.cls ≠ "java/lang/invoke/MethodHandle" ∧ y.cls ≠ "java/lang/invoke/VarHandle") ∧
  (∀ sig, parseMethodDescriptor y.desc = some sig → n = sig.parameters.length) ∧ (Cond.methodLink own index y).before args s = true ∧ (Cond.static y).before args s = true
theorem vx_cwSW {own : String} {index maxL mc ms : Nat} {y : MethodName} {bytes : ByteArray} {ret : Option FieldType} {hh : List (Nat × Nat × Nat × Nat)} {Ts ws ws' : List Cond} {rm : Room} (n : Nat) (ht : ∀ w ∈ Ts, w.before args s = true) (hT : GoodIn Ts (va_wsS own index y ws)) (hw : ws = Cond.codeWith y bytes maxL ret hh :: ws') (hrc : rm.cells = mc) (hrs : rm.slots = ms)
    (hd : y.cls ≠ "java/lang/invoke/MethodHandle" ∧ y.cls ≠ "java/lang/invoke/VarHandle" ∧ (parseMethodDescriptor y.desc).map (fun d => d.parameters.length) = some n) (hR : rm.frames + 1 ≤ R.frames ∧ 8 + (maxL + 11) + rm.locals ≤ R.locals) :
    vx_CSW R s args own index y bytes maxL ret hh ws rm mc ms n := by
  have ok : ∀ w ∈ va_wsS own index y ws, w.before args s = true := fun w h => ht w (hT w h).1
  have hG : GoodIn Ts ws := fun w h => hT w (by unfold va_wsS; exact List.mem_append_right _ h)
  have hc : Cond.codeWith y bytes maxL ret hh ∈ ws := by rw [hw]; exact List.mem_cons_self
  refine ⟨⟨hrc, hrs, hR.1, hR.2, pay_in ht hG, hc⟩, ht _ (hG _ hc).1, ok _ (by simp [va_wsS]), ⟨hd.1, hd.2.1⟩, fun sig h => ?_, ok _ (by simp [va_wsS]), ok _ (by simp [va_wsS])⟩
  have h2 := hd.2.2
  rw [h] at h2
  exact (Option.some.inj h2).symm
theorem vx_callSW (X : Stand p l e R s m args below meth c T locs cells slots) (hexec : p.tables.exec = Jvm.exec) {own : String} {index : Nat} {y : MethodName} {bytes : ByteArray} {maxL : Nat} {ret : Option FieldType} {hh : List (Nat × Nat × Nat × Nat)}
    (hown : s.vm.findClass own = some m.cls) (hlink : (Cond.methodLink own index y).before args s = true) (hstat : (Cond.static y).before args s = true) (hinit : (Cond.initialized y.cls).before args s = true)
    (hcode : (Cond.codeWith y bytes maxL ret hh).before args s = true) (hy : y.cls ≠ "java/lang/invoke/MethodHandle" ∧ y.cls ≠ "java/lang/invoke/VarHandle")
    {W9 : Nat} {Pre : Pt → Array Value → Prop} {Post : Pt → Array Value → Option Value → Pt → Prop} (hK : Back l R p e below s args y 3 W9 Pre Post)
    {g : JFrame} (hg : g.method = m) (hsize : g.locals.size = c.maxLocals) {argsL rest : List Value} (hlen : ∀ sig, parseMethodDescriptor y.desc = some sig → argsL.length = sig.parameters.length)
    (hstack : g.stack = argsL.reverse ++ rest) (hW : 2 * g.monitorRoom + (rest.map fun v => v.category).sum ≤ W9) (hdg : decode c.code g.pc = .ok (.invokestatic index, 3))
    (hpre : ∀ vm₁, s.WarmedH vm₁ → Pre ⟨T.setVm vm₁, locs, cells, slots⟩ argsL.toArray) :
    ∃ (v : Option Value) (vm₁ : Vm) (B : Pt), s.WarmedH vm₁ ∧ Stand p l e R s m args below meth c B.U B.locs B.cells B.slots ∧ Post ⟨T.setVm vm₁, locs, cells, slots⟩ argsL.toArray v B ∧
      ∀ target, Steps p.tables e below (B.U.setTop { g with pc := g.pc + 3, stack := v.toList ++ rest }) target → Steps p.tables e below (T.setTop g) target := by
  obtain ⟨mk, methM, cM, hnamed, hmethM, -, -, -, -, -, -, hsigM⟩ := Cond.codeWith_spec hcode
  have hstatic : methM.isStatic = true := Cond.static_spec hnamed hmethM hstat
  obtain ⟨kP, hkP, -⟩ := className_of_methodNamed hnamed
  have hinitP : kP.init = .initialized := Cond.initialized_spec (findClass_of_methodNamed hnamed) hkP hinit
  obtain ⟨vm₁, X₁, hstep₁⟩ := X.invokestatic hexec hown hlink hnamed hmethM hstatic hkP hinitP hy (g := g) hg (argsL := argsL) (rest := rest) (hlen _ hsigM) hstack hdg
  obtain ⟨v, B, X', hpost, hsteps⟩ := hK m meth c ⟨T.setVm vm₁, locs, cells, slots⟩ { g with stack := rest } (.invokestatic index) mk argsL.toArray X₁ hg hsize hdg hW (X₁.named hnamed) (hpre vm₁ X₁.warmed)
  exact ⟨v, vm₁, B, X₁.warmed, X', hpost, fun target h => hstep₁ _ fun acts => by rw [doInvoke_state]; exact hsteps.trans h⟩
theorem vx_runSW {y : MethodName} {bytes cc : ByteArray} {maxL nL mc ms n index : Nat} {ret : Option FieldType} {hh : List (Nat × Nat × Nat × Nat)} {ws : List Cond} {rm : Room} {Pc : Array Value → State → Prop} {Qc : Array Value → State → Outcome → State → Prop} {free : Addr → Prop} {Ts : List Cond} {own : String} {As rest : List Value} {g : JFrame}
    (S : CallFix p m c cc nL s args Ts own) (hM : Met l y ws rm Pc Qc mc ms free) (cw : vx_CSW R s args own index y bytes maxL ret hh ws rm mc ms n) (hp : PreS s H Pc As)
    (hg : g.method = m) (hn : As.length = n) (hsize : g.locals.size = nL) (hstack : g.stack = As.reverse ++ rest) (hW : 2 * g.monitorRoom + (rest.map fun v => v.category).sum ≤ 8) (hdg : decode cc g.pc = .ok (.invokestatic index, 3)) (hf : cells + mc ≤ R.cells ∧ slots + ms ≤ R.slots) :
    va_Run p l e R s m args below meth c H locs cells slots mc ms g rest (Qc As.toArray) (free) := by
  obtain ⟨⟨hrc, hrs, hfr, hlo, hws, hcw⟩, hcode, hini, hy, hlen, hl, hstt⟩ := cw
  have hK : Back l R p e below s args y 3 8 (PreOf R mc ms Pc) (PostOf Qc mc ms free) := va_backW (hh := hh) (bytes := bytes) (maxL := maxL) (ret := ret) hM hp.1 hrc hrs hfr hlo hws hcw (fun a' U hW => word_at hW (Or.inl (by first | rfl | simp [Cond.onTables, Cond.keeps, Cond.steady])) hini)
  obtain ⟨hx, hb, hml, ho, -⟩ := S
  intro T hT X
  obtain ⟨v, vm₁, ⟨U', l2, c2, s2⟩, hW₁, X', ⟨g', mk, t, L, e1, e2, hq, h1, hL, h2, h3⟩, st⟩ := vx_callSW X hx (hh := hh) (bytes := bytes) (maxL := maxL) (ret := ret) ho hl hstt hini hcode hy hK hg (hsize.trans hml.symm) (argsL := As) (rest := rest) (fun sig h => hn.trans (hlen sig h)) hstack hW (by rw [hb]; exact hdg)
    (fun vm₁ hW₁ => ⟨hf.1, hf.2, hp.2 (T.setVm vm₁) hT hW₁⟩)
  dsimp only [Pt.U, Pt.locs, Pt.cells, Pt.slots] at X' e1 e2 h1 h2 h3 st
  subst h1; subst h2; subst h3
  exact ⟨v, (T.setVm vm₁).calling g' mk As.toArray, t, U', L, hT, X', hL, e1, e2, hq, st⟩
/-- not caught here, past rows that name other classes: it goes on to the caller -/
theorem vx_outP {p : Program} {l : Launch} {e : Env} {R : Room} {s : State} {m : MethodId} {args : Array Value} {below : List Frame} {meth : Method} {c : Code} {H : Heap} {locs : List Loc} {cells slots : Nat} {free : Addr → Prop} {ls : Array Slot} {rest : List Value} {Qc : Array Value → State → Outcome → State → Prop} {XC : String → State → State → Prop}
    {pc : Nat} {own E : String} {ce : Cell} {q : Addr} {mc ms : Nat} (hown : s.vm.findClass own = some m.cls) (hlocks : meth.locks = false)
    (hpass : ∀ z ∈ c.exceptionTable.toList, covers z pc = false ∨ (z.catchType ≠ 0 ∧ ∃ nm : String, (Cond.classLink own z.catchType nm).before args s = true ∧ va_Nc E nm s)) (hcell : H[q]? = some ce) (hv : ce.vm = .none) (hcl : s.vm.findClass E = some ce.cls)
    (hx : ∀ t : State, t.heap = H → s.vm.Alike t.vm → XC E s t) (hf : ∀ z ∈ locs, free z.base) (hc : cells ≤ mc) (hs : slots ≤ ms) :
    vx_W p l e R s m args below meth c H locs cells slots (vx_MQ below Qc XC args s mc ms free) (F0 m pc ls rest) q := by
  intro T hT X
  have hpl : e.platform.magicAccessors = ({} : Platform).magicAccessors := by rw [X.admits.platform]
  obtain ⟨vm', hW', X', st⟩ := X.outThrough hlocks q (g := F0 m pc ls rest) rfl rfl rfl (cell := ce) (by rw [hT]; exact hcell) (by rw [hv]; rfl)
    (by obtain ⟨k9, h9, -⟩ := Vm.findClass_spec hcl; exact ⟨k9, h9⟩) (fun z hz => by
      rcases hpass z hz with h | ⟨hz0, nm, hl1, hn1⟩
      · exact Or.inl h
      · obtain ⟨c6, hc6, hcl6⟩ := Cond.classLink_spec hown hl1 e.platform hpl
        obtain ⟨a8, b8, h1, h2, h3⟩ := hn1
        cases Option.some.inj (h1.symm.trans hcl)
        cases Option.some.inj (h2.symm.trans hc6)
        exact Or.inr ⟨hz0, _, hcl6, h3⟩)
  obtain ⟨g₀, hfr⟩ := X'.frames_eq
  have hcell9 : ((T.setVm vm').setFrames (.throwing q :: below)).heap[q]? = some ce := by
    show T.heap[q]? = some ce
    rw [hT]; exact hcell
  have hend : Ended ((T.setVm vm').setFrames (.throwing q :: below)) below (.threw q) := State.frames_setFrames _ (State.cur_lt_of_frames hfr)
  refine ⟨(T.setVm vm').setFrames (.throwing q :: below), ?_, .threw q, X'.here.running, hend, Or.inr ⟨q, rfl, E, ce, locs, hx _ hT (X'.ends _).1.alike, hcell9, hv, hcl, (X'.ends _).1, (X'.ends _).2.mono hc hs, hf⟩⟩
  rw [X.pushThrowing_eq]
  exact st
/-- a thing of a world lies in the heap -/
theorem vx_lt {D : va_G} {cl : List vw_C} {ws : va_W} {H1 : Heap} (h : va_P D cl ws H1) {k : Nat} {q : Nat × va_E} (hk : ws[k]? = some q) : q.1 < H1.size := (h k q hk).lt
end VXS
/-! ===== END ===== -/
/-! ===== BEGIN methods with a table of their own: called by a name, returning or throwing ===== -/
section VXH
/-! vx_backW, vx_callVX, vx_callSX, vx_callVW, vx_runVW, vx_runVX, vx_runSX, vx_ofWH follow the same proofs as their sisters above (Free/Laws.lean, Shelf42/LK1.lean); vx_outP calls Shelf42/NT130.lean (outThrough). -/
section
variable {l : Launch} {R : Room} {p : Program} {e : Env} {below : List Frame} {s : State} {sargs : Array Value} {y : MethodName} {len W9 : Nat}
theorem vx_backW {ws : List Cond} {rm : Room} {Pc : Array Value → State → Prop} {Qc : Array Value → State → Outcome → State → Prop} {XC : String → State → State → Prop} {mc ms : Nat} {free : Addr → Prop} {bytes : ByteArray} {maxL : Nat} {ret : Option FieldType} {hh : List (Nat × Nat × Nat × Nat)}
    (hM : vx_Met l y ws rm Pc Qc XC mc ms free) (hblind : FrameBlind Pc) (hrc : rm.cells = mc) (hrs : rm.slots = ms)
    (hframes : rm.frames + 1 ≤ R.frames) (hlocals : W9 + (maxL + 11) + rm.locals ≤ R.locals)
    (hws : ∀ w ∈ ws, ∀ a' U, s.WarmedH U.vm → w.before a' U = true) (hcode : Cond.codeWith y bytes maxL ret hh ∈ ws) (hinit : ∀ a' U, s.WarmedH U.vm → (Cond.initialized y.cls).before a' U = true) :
    vx_Back l R p e below s sargs y len W9 (PreOf R mc ms Pc) (PostOf Qc mc ms free) (vx_Post XC mc ms free) := by
  intro m meth c A g ig mk a X hg hsize hdg hW hn hp
  have h1 : (headSpec ws rm).pre.before a A.U = true := atoms_intro fun w hw => hws w hw _ _ X.warmed
  have h2 : (Cond.codeWith y bytes maxL ret hh).before a A.U = true := hws _ hcode _ _ X.warmed
  have h3 : (Cond.initialized y.cls).before a A.U = true := hinit _ _ X.warmed
  have h4 : A.cells + (headSpec ws rm).room.cells ≤ R.cells := by rw [show (headSpec ws rm).room.cells = mc from hrc]; exact hp.1
  have h5 : A.slots + (headSpec ws rm).room.slots ≤ R.slots := by rw [show (headSpec ws rm).room.slots = ms from hrs]; exact hp.2.1
  have hPc : Pc a (A.U.calling g mk a) := hblind _ _ _ _ hp.2.2
  obtain ⟨U, Ls, c0, s0⟩ := A
  dsimp only [Pt.U, Pt.locs, Pt.cells, Pt.slots] at h1 h2 h3 h4 h5 X hn hPc ⊢
  obtain ⟨m9, methY, cY, hn9, hmY, hcY, -, hlY, -⟩ := Cond.codeWith_spec h2
  cases Option.some.inj (hn9.symm.trans hn)
  obtain ⟨kY, hkY, -⟩ := className_of_methodNamed hn
  have hinitY : kY.init = .initialized := Cond.initialized_spec (findClass_of_methodNamed hn) hkY h3
  have h : At U g.method c below := by rw [hg]; exact X.here
  have hlocals9 : W9 + (maxL + 11) + (headSpec ws rm).room.locals ≤ R.locals := hlocals
  have happ : (headSpec ws rm).appliesLoose y e.platform (U.calling g mk a) = true :=
    Spec.appliesLoose_calling (g := g) h hdg hn hkY hinitY
      (X.room_calling (g := g) (R' := (headSpec ws rm).room) hsize hmY hcY hframes (by rw [hlY]; omega) h4 h5) h1
  obtain ⟨mid, hmid⟩ := h.above
  have hfr : (U.setTop g).frames = (.java g :: mid) ++ below := by rw [State.frames_setTop' g h.top, hmid]; rfl
  obtain ⟨o, s₂, hsteps, -, hend, hq⟩ := Steps.callFree hM p X.admits X.cas X.clock (acts := []) hfr happ hPc trivial
  have hq' : vx_Q Qc XC mc ms free a (U.calling g mk a) o s₂ := hq
  rw [State.frames_setTop' g h.top] at hend
  obtain ⟨g₀, hg0⟩ := Option.isSome_iff_exists.mp h.top
  obtain ⟨r, hr⟩ := State.topJava?_eq_some.mp hg0
  have hr' : (({ U with heap := s₂.heap, slotsUsed := s₂.slotsUsed } : State).setVm s₂.vm).frames = .java g₀ :: r := hr
  rcases hq' with ⟨hqc, L, hfe, hL⟩ | ⟨q, rfl, E, ce, L, hx, hce, hcv, hcl, hW₂, hsm, hL⟩
  · obtain ⟨⟨v, rfl⟩, hW₂, e2, q2, q3, q4, q5, q6⟩ := id hfe
    have e3 : s₂ = ({ (U.calling g mk a).setFrames s₂.frames with heap := s₂.heap, slotsUsed := s₂.slotsUsed } : State).setVm s₂.vm := by
      have : s₂ = ({ s₂ with vm := (U.calling g mk a).vm } : State).setVm s₂.vm := rfl
      rw [e2] at this
      exact this
    obtain ⟨c₂, i₂, len₂, hc₂, hd₂, hf₂⟩ := hend
    have hW' : U.WarmedH s₂.vm := hW₂
    have hcc : c₂ = c := by
      have h1 : s₂.code? g.method = U.code? g.method := by
        rw [State.code?_eq, State.code?_eq, hW'.alike.method?]
      exact Option.some.inj (hc₂.symm.trans (h1.trans h.code))
    subst hcc
    have hlen : len₂ = len := by rw [hdg] at hd₂; cases hd₂; rfl
    subst hlen
    have hs₂ : s₂ = (({ U with heap := s₂.heap, slotsUsed := s₂.slotsUsed } : State).setVm s₂.vm).setTop { g with pc := g.pc + len₂, stack := v.toList ++ g.stack } := by
      refine e3.trans ?_
      rw [hf₂, State.calling_eq h.top, State.setFrames_setFrames, State.setTop_of_frames _ hr', hr]
      rfl
    have hsame : U.sameButNew ({ U with heap := s₂.heap, slotsUsed := s₂.slotsUsed } : State) L mc ms := by
      refine ⟨?_, q2, q3, q4, q5, q6⟩
      obtain ⟨t, ht, -⟩ := State.frames_cons hr
      show ({ U with heap := s₂.heap, slotsUsed := s₂.slotsUsed } : State) = { U.setFrames U.frames with heap := s₂.heap, slotsUsed := s₂.slotsUsed }
      rw [State.setFrames_self ht]
    subst hg
    refine Or.inl ⟨v, ⟨(({ U with heap := s₂.heap, slotsUsed := s₂.slotsUsed } : State).setVm s₂.vm), Ls ++ L, c0 + mc, s0 + ms⟩,
      ⟨X.admits, X.cas, X.clock, X.frames, X.room, X.hears, X.method, X.code, (X.here.setHeapUsed s₂.heap s₂.slotsUsed).setVm hW'.alike, X.tail, State.WarmedH.trans X.warmed hW', X.limits, X.bytes, X.same.trans (hsame.setVm s.vm)⟩,
      ⟨g, mk, s₂, L, rfl, rfl, hqc, rfl, hL, rfl, rfl⟩, ?_⟩
    show Steps p.tables e below _ ((({ U with heap := s₂.heap, slotsUsed := s₂.slotsUsed } : State).setVm s₂.vm).setTop { g with pc := g.pc + len₂, stack := v.toList ++ g.stack })
    rw [← hs₂]
    exact hsteps
  · obtain ⟨e2, q2, q3, q4, q5, q6⟩ := id hsm
    have e3 : s₂ = ({ (U.calling g mk a).setFrames s₂.frames with heap := s₂.heap, slotsUsed := s₂.slotsUsed } : State).setVm s₂.vm := by
      have : s₂ = ({ s₂ with vm := (U.calling g mk a).vm } : State).setVm s₂.vm := rfl
      rw [e2] at this
      exact this
    have hf₂ : s₂.frames = .throwing q :: .java g :: U.frames.tail := hend
    have hW' : U.WarmedH s₂.vm := hW₂
    have hs₂ : s₂ = ((({ U with heap := s₂.heap, slotsUsed := s₂.slotsUsed } : State).setVm s₂.vm).setTop g).pushFrame (.throwing q) := by
      refine e3.trans ?_
      rw [hf₂, State.calling_eq h.top, State.setFrames_setFrames, State.pushFrame, State.frames_setTop _ hr', State.setTop_of_frames _ hr', State.setFrames_setFrames, hr]
      rfl
    have hsame : U.sameButNew ({ U with heap := s₂.heap, slotsUsed := s₂.slotsUsed } : State) L mc ms := by
      refine ⟨?_, q2, q3, q4, q5, q6⟩
      obtain ⟨t, ht, -⟩ := State.frames_cons hr
      show ({ U with heap := s₂.heap, slotsUsed := s₂.slotsUsed } : State) = { U.setFrames U.frames with heap := s₂.heap, slotsUsed := s₂.slotsUsed }
      rw [State.setFrames_self ht]
    subst hg
    refine Or.inr ⟨q, ⟨(({ U with heap := s₂.heap, slotsUsed := s₂.slotsUsed } : State).setVm s₂.vm), Ls ++ L, c0 + mc, s0 + ms⟩,
      ⟨X.admits, X.cas, X.clock, X.frames, X.room, X.hears, X.method, X.code, (X.here.setHeapUsed s₂.heap s₂.slotsUsed).setVm hW'.alike, X.tail, State.WarmedH.trans X.warmed hW', X.limits, X.bytes, X.same.trans (hsame.setVm s.vm)⟩,
      ⟨g, mk, s₂, L, E, ce, rfl, rfl, hx, hce, hcv, hcl, rfl, hL, rfl, rfl⟩, ?_⟩
    show Steps p.tables e below _ (((({ U with heap := s₂.heap, slotsUsed := s₂.slotsUsed } : State).setVm s₂.vm).setTop g).pushFrame (.throwing q))
    rw [← hs₂]
    exact hsteps
end
variable {p : Program} {l : Launch} {e : Env} {R : Room} {s : State} {m : MethodId} {args : Array Value} {below : List Frame} {meth : Method} {c : Code} {T : State} {H : Heap} {locs : List Loc} {cells slots : Nat}
theorem vx_callVX (X : Stand p l e R s m args below meth c T locs cells slots) (hexec : p.tables.exec = Jvm.exec) {own C : String} {index : Nat} {y : MethodName} {bytes : ByteArray} {maxL : Nat} {ret : Option FieldType} {hh : List (Nat × Nat × Nat × Nat)}
    (hown : s.vm.findClass own = some m.cls) (hlink : (Cond.methodLink own index y).before args s = true) (hinst : (Cond.instanceMethod y).before args s = true) (hsel : (Cond.selects C y y).before args s = true)
    (hcode : (Cond.codeWith y bytes maxL ret hh).before args s = true) (hy : y.cls ≠ "java/lang/invoke/MethodHandle" ∧ y.cls ≠ "java/lang/invoke/VarHandle")
    {W9 : Nat} {Pre : Pt → Array Value → Prop} {Post : Pt → Array Value → Option Value → Pt → Prop} {PostX : Pt → Array Value → Addr → Pt → Prop} (hK : vx_Back l R p e below s args y 3 W9 Pre Post PostX)
    {b : Addr} {cellB : Cell} (hcell : T.heap[b]? = some cellB) (hobj : cellB.vm.isStatics = false) (hcls : s.vm.findClass C = some cellB.cls)
    {g : JFrame} (hg : g.method = m) (hsize : g.locals.size = c.maxLocals) {argsL rest : List Value} (hlen : ∀ sig, parseMethodDescriptor y.desc = some sig → argsL.length = sig.parameters.length)
    (hstack : g.stack = argsL.reverse ++ .ref b :: rest) (hW : 2 * g.monitorRoom + (rest.map fun v => v.category).sum ≤ W9) (hdg : decode c.code g.pc = .ok (.invokevirtual index, 3))
    (hpre : ∀ vm₁, s.WarmedH vm₁ → Pre ⟨T.setVm vm₁, locs, cells, slots⟩ (Value.ref b :: argsL).toArray) :
    (∃ (v : Option Value) (vm₁ : Vm) (B : Pt), s.WarmedH vm₁ ∧ Stand p l e R s m args below meth c B.U B.locs B.cells B.slots ∧ Post ⟨T.setVm vm₁, locs, cells, slots⟩ (Value.ref b :: argsL).toArray v B ∧
      ∀ target, Steps p.tables e below (B.U.setTop { g with pc := g.pc + 3, stack := v.toList ++ rest }) target → Steps p.tables e below (T.setTop g) target) ∨
    (∃ (q : Addr) (vm₁ : Vm) (B : Pt), s.WarmedH vm₁ ∧ Stand p l e R s m args below meth c B.U B.locs B.cells B.slots ∧ PostX ⟨T.setVm vm₁, locs, cells, slots⟩ (Value.ref b :: argsL).toArray q B ∧
      Steps p.tables e below (T.setTop g) ((B.U.setTop { g with stack := rest }).pushFrame (.throwing q))) := by
  obtain ⟨mk, methM, hnamed, hmethM, hstM, habM⟩ := Cond.instanceMethod_spec hinst
  obtain ⟨m8, methM', cM, hn8, hmethM', -, -, -, -, -, -, hsigM⟩ := Cond.codeWith_spec hcode
  cases Option.some.inj (hn8.symm.trans hnamed)
  cases hmethM.symm.trans hmethM'
  obtain ⟨c2, r2, m2, q1, q2, q3, q4, kP, hkP, hkPi⟩ := Cond.selects_spec hsel
  cases hcls.symm.trans q1
  cases (State.methodFound?_of_named hnamed hy).symm.trans q2
  cases hnamed.symm.trans q3
  have hselP : selectMethod e.platform s.vm cellB.cls mk = .method mk := by rw [Launch.admits_selectMethod X.admits]; exact q4
  obtain ⟨vm₁, X₁, hstep₁⟩ := X.invokevirtual hexec hown hlink hnamed hmethM hstM hkP hkPi hy (a := b) (cell := cellB) hcell
    (fun z h => by rw [h] at hobj; cases hobj) hselP hmethM habM hkP hkPi (g := g) hg (argsL := argsL) (rest := rest) (hlen _ hsigM) hstack hdg
  rcases hK m meth c ⟨T.setVm vm₁, locs, cells, slots⟩ { g with stack := rest } (.invokevirtual index) mk (Value.ref b :: argsL).toArray X₁ hg hsize hdg hW (X₁.named hnamed) (hpre vm₁ X₁.warmed) with ⟨v, B, X', hpost, hsteps⟩ | ⟨q, B, X', hpost, hsteps⟩
  · exact Or.inl ⟨v, vm₁, B, X₁.warmed, X', hpost, fun target h => hstep₁ _ fun acts => by rw [doInvoke_state]; exact hsteps.trans h⟩
  · exact Or.inr ⟨q, vm₁, B, X₁.warmed, X', hpost, hstep₁ _ fun acts => by rw [doInvoke_state]; exact hsteps⟩
theorem vx_callSX (X : Stand p l e R s m args below meth c T locs cells slots) (hexec : p.tables.exec = Jvm.exec) {own : String} {index : Nat} {y : MethodName} {bytes : ByteArray} {maxL : Nat} {ret : Option FieldType} {hh : List (Nat × Nat × Nat × Nat)}
    (hown : s.vm.findClass own = some m.cls) (hlink : (Cond.methodLink own index y).before args s = true) (hstat : (Cond.static y).before args s = true) (hinit : (Cond.initialized y.cls).before args s = true)
    (hcode : (Cond.codeWith y bytes maxL ret hh).before args s = true) (hy : y.cls ≠ "java/lang/invoke/MethodHandle" ∧ y.cls ≠ "java/lang/invoke/VarHandle")
    {W9 : Nat} {Pre : Pt → Array Value → Prop} {Post : Pt → Array Value → Option Value → Pt → Prop} {PostX : Pt → Array Value → Addr → Pt → Prop} (hK : vx_Back l R p e below s args y 3 W9 Pre Post PostX)
    {g : JFrame} (hg : g.method = m) (hsize : g.locals.size = c.maxLocals) {argsL rest : List Value} (hlen : ∀ sig, parseMethodDescriptor y.desc = some sig → argsL.length = sig.parameters.length)
    (hstack : g.stack = argsL.reverse ++ rest) (hW : 2 * g.monitorRoom + (rest.map fun v => v.category).sum ≤ W9) (hdg : decode c.code g.pc = .ok (.invokestatic index, 3))
    (hpre : ∀ vm₁, s.WarmedH vm₁ → Pre ⟨T.setVm vm₁, locs, cells, slots⟩ argsL.toArray) :
    (∃ (v : Option Value) (vm₁ : Vm) (B : Pt), s.WarmedH vm₁ ∧ Stand p l e R s m args below meth c B.U B.locs B.cells B.slots ∧ Post ⟨T.setVm vm₁, locs, cells, slots⟩ argsL.toArray v B ∧
      ∀ target, Steps p.tables e below (B.U.setTop { g with pc := g.pc + 3, stack := v.toList ++ rest }) target → Steps p.tables e below (T.setTop g) target) ∨
    (∃ (q : Addr) (vm₁ : Vm) (B : Pt), s.WarmedH vm₁ ∧ Stand p l e R s m args below meth c B.U B.locs B.cells B.slots ∧ PostX ⟨T.setVm vm₁, locs, cells, slots⟩ argsL.toArray q B ∧
      Steps p.tables e below (T.setTop g) ((B.U.setTop { g with stack := rest }).pushFrame (.throwing q))) := by
  obtain ⟨mk, methM, cM, hnamed, hmethM, -, -, -, -, -, -, hsigM⟩ := Cond.codeWith_spec hcode
  have hstatic : methM.isStatic = true := Cond.static_spec hnamed hmethM hstat
  obtain ⟨kP, hkP, -⟩ := className_of_methodNamed hnamed
  have hinitP : kP.init = .initialized := Cond.initialized_spec (findClass_of_methodNamed hnamed) hkP hinit
  obtain ⟨vm₁, X₁, hstep₁⟩ := X.invokestatic hexec hown hlink hnamed hmethM hstatic hkP hinitP hy (g := g) hg (argsL := argsL) (rest := rest) (hlen _ hsigM) hstack hdg
  rcases hK m meth c ⟨T.setVm vm₁, locs, cells, slots⟩ { g with stack := rest } (.invokestatic index) mk argsL.toArray X₁ hg hsize hdg hW (X₁.named hnamed) (hpre vm₁ X₁.warmed) with ⟨v, B, X', hpost, hsteps⟩ | ⟨q, B, X', hpost, hsteps⟩
  · exact Or.inl ⟨v, vm₁, B, X₁.warmed, X', hpost, fun target h => hstep₁ _ fun acts => by rw [doInvoke_state]; exact hsteps.trans h⟩
  · exact Or.inr ⟨q, vm₁, B, X₁.warmed, X', hpost, hstep₁ _ fun acts => by rw [doInvoke_state]; exact hsteps⟩
theorem vx_callVW (X : Stand p l e R s m args below meth c T locs cells slots) (hexec : p.tables.exec = Jvm.exec) {own C : String} {index : Nat} {y : MethodName} {bytes : ByteArray} {maxL : Nat} {ret : Option FieldType} {hh : List (Nat × Nat × Nat × Nat)}
    (hown : s.vm.findClass own = some m.cls) (hlink : (Cond.methodLink own index y).before args s = true) (hinst : (Cond.instanceMethod y).before args s = true) (hsel : (Cond.selects C y y).before args s = true)
    (hcode : (Cond.codeWith y bytes maxL ret hh).before args s = true) (hy : y.cls ≠ "java/lang/invoke/MethodHandle" ∧ y.cls ≠ "java/lang/invoke/VarHandle")
    {W9 : Nat} {Pre : Pt → Array Value → Prop} {Post : Pt → Array Value → Option Value → Pt → Prop} (hK : Back l R p e below s args y 3 W9 Pre Post)
    {b : Addr} {cellB : Cell} (hcell : T.heap[b]? = some cellB) (hobj : cellB.vm.isStatics = false) (hcls : s.vm.findClass C = some cellB.cls)
    {g : JFrame} (hg : g.method = m) (hsize : g.locals.size = c.maxLocals) {argsL rest : List Value} (hlen : ∀ sig, parseMethodDescriptor y.desc = some sig → argsL.length = sig.parameters.length)
    (hstack : g.stack = argsL.reverse ++ .ref b :: rest) (hW : 2 * g.monitorRoom + (rest.map fun v => v.category).sum ≤ W9) (hdg : decode c.code g.pc = .ok (.invokevirtual index, 3))
    (hpre : ∀ vm₁, s.WarmedH vm₁ → Pre ⟨T.setVm vm₁, locs, cells, slots⟩ (Value.ref b :: argsL).toArray) :
    ∃ (v : Option Value) (vm₁ : Vm) (B : Pt), s.WarmedH vm₁ ∧ Stand p l e R s m args below meth c B.U B.locs B.cells B.slots ∧ Post ⟨T.setVm vm₁, locs, cells, slots⟩ (Value.ref b :: argsL).toArray v B ∧
      ∀ target, Steps p.tables e below (B.U.setTop { g with pc := g.pc + 3, stack := v.toList ++ rest }) target → Steps p.tables e below (T.setTop g) target := by
  obtain ⟨mk, methM, hnamed, hmethM, hstM, habM⟩ := Cond.instanceMethod_spec hinst
  obtain ⟨m8, methM', cM, hn8, hmethM', -, -, -, -, -, -, hsigM⟩ := Cond.codeWith_spec hcode
  cases Option.some.inj (hn8.symm.trans hnamed)
  cases hmethM.symm.trans hmethM'
  obtain ⟨c2, r2, m2, q1, q2, q3, q4, kP, hkP, hkPi⟩ := Cond.selects_spec hsel
  cases hcls.symm.trans q1
  cases (State.methodFound?_of_named hnamed hy).symm.trans q2
  cases hnamed.symm.trans q3
  have hselP : selectMethod e.platform s.vm cellB.cls mk = .method mk := by rw [Launch.admits_selectMethod X.admits]; exact q4
  obtain ⟨vm₁, X₁, hstep₁⟩ := X.invokevirtual hexec hown hlink hnamed hmethM hstM hkP hkPi hy (a := b) (cell := cellB) hcell
    (fun z h => by rw [h] at hobj; cases hobj) hselP hmethM habM hkP hkPi (g := g) hg (argsL := argsL) (rest := rest) (hlen _ hsigM) hstack hdg
  obtain ⟨v, B, X', hpost, hsteps⟩ := hK m meth c ⟨T.setVm vm₁, locs, cells, slots⟩ { g with stack := rest } (.invokevirtual index) mk (Value.ref b :: argsL).toArray X₁ hg hsize hdg hW (X₁.named hnamed) (hpre vm₁ X₁.warmed)
  exact ⟨v, vm₁, B, X₁.warmed, X', hpost, fun target h => hstep₁ _ fun acts => by rw [doInvoke_state]; exact hsteps.trans h⟩
abbrev vx_CVW (R : Room) (s : State) (args : Array Value) (own C : String) (index : Nat) (y : MethodName) (bytes : ByteArray) (maxL : Nat) (ret : Option FieldType) (hh : List (Nat × Nat × Nat × Nat)) (ws : List Cond) (rm : Room) (mc ms n : Nat) : Prop :=
  (rm.cells = mc ∧ rm.slots = ms ∧ rm.frames + 1 ≤ R.frames ∧ 8 + (maxL + 11) + rm.locals ≤ R.locals ∧ (∀ w ∈ ws, ∀ (a' : Array Value) (U : State), s.WarmedH U.vm → w.before a' U = true) ∧ Cond.codeWith y bytes maxL ret hh ∈ ws) ∧
  (Cond.codeWith y bytes maxL ret hh).before args s = true ∧ (Cond.initialized y.cls).before args s = true ∧ (y.cls ≠ "java/lang/invoke/MethodHandle" ∧ y.cls ≠ "java/lang/invoke/VarHandle") ∧
  (∀ sig, parseMethodDescriptor y.desc = some sig → n = sig.parameters.length) ∧ (Cond.methodLink own index y).before args s = true ∧ (Cond.instanceMethod y).before args s = true ∧ (Cond.selects C y y).before args s = true
theorem vx_cwVW {own C : String} {index maxL mc ms : Nat} {y : MethodName} {bytes : ByteArray} {ret : Option FieldType} {hh : List (Nat × Nat × Nat × Nat)} {Ts ws ws' : List Cond} {rm : Room} (n : Nat) (ht : ∀ w ∈ Ts, w.before args s = true) (hT : GoodIn Ts (wsV own index C y ws)) (hw : ws = Cond.codeWith y bytes maxL ret hh :: ws') (hrc : rm.cells = mc) (hrs : rm.slots = ms)
    (hd : y.cls = C ∧ y.cls ≠ "java/lang/invoke/MethodHandle" ∧ y.cls ≠ "java/lang/invoke/VarHandle" ∧ (parseMethodDescriptor y.desc).map (fun d => d.parameters.length) = some n) (hR : rm.frames + 1 ≤ R.frames ∧ 8 + (maxL + 11) + rm.locals ≤ R.locals) :
    vx_CVW R s args own C index y bytes maxL ret hh ws rm mc ms n := by
  obtain ⟨hC, hd⟩ := hd
  subst hC
  have ok : ∀ w ∈ wsV own index y.cls y ws, w.before args s = true := fun w h => ht w (hT w h).1
  have hG : GoodIn Ts ws := fun w h => hT w (by unfold wsV; exact List.mem_append_right _ h)
  have hc : Cond.codeWith y bytes maxL ret hh ∈ ws := by rw [hw]; exact List.mem_cons_self
  refine ⟨⟨hrc, hrs, hR.1, hR.2, pay_in ht hG, hc⟩, ht _ (hG _ hc).1, ok _ (by simp [wsV]), ⟨hd.1, hd.2.1⟩, fun sig h => ?_, ok _ (by simp [wsV]), ok _ (by simp [wsV]), ok _ (by simp [wsV])⟩
  have h2 := hd.2.2
  rw [h] at h2
  exact (Option.some.inj h2).symm
theorem vx_runVW {y : MethodName} {bytes cc : ByteArray} {maxL nL mc ms n index : Nat} {ret : Option FieldType} {hh : List (Nat × Nat × Nat × Nat)} {ws : List Cond} {rm : Room} {Pc : Array Value → State → Prop} {Qc : Array Value → State → Outcome → State → Prop} {free : Addr → Prop} {Ts : List Cond} {own C : String} {b : Addr} {As rest : List Value} {g : JFrame}
    (S : CallFix p m c cc nL s args Ts own) (hM : Met l y ws rm Pc Qc mc ms free) (cw : vx_CVW R s args own C index y bytes maxL ret hh ws rm mc ms n) (hp : PreV s H C b Pc As)
    (hg : g.method = m) (hn : As.length = n) (hsize : g.locals.size = nL) (hstack : g.stack = As.reverse ++ .ref b :: rest) (hW : 2 * g.monitorRoom + (rest.map fun v => v.category).sum ≤ 8) (hdg : decode cc g.pc = .ok (.invokevirtual index, 3)) (hf : cells + mc ≤ R.cells ∧ slots + ms ≤ R.slots) :
    va_Run p l e R s m args below meth c H locs cells slots mc ms g rest (Qc (Value.ref b :: As).toArray) free := by
  obtain ⟨⟨hrc, hrs, hfr, hlo, hws, hcw⟩, hcode, hini, hy, hlen, hl, hin, hse⟩ := cw
  have hK : Back l R p e below s args y 3 8 (PreOf R mc ms Pc) (PostOf Qc mc ms free) := va_backW (hh := hh) (bytes := bytes) (maxL := maxL) (ret := ret) hM hp.1 hrc hrs hfr hlo hws hcw (fun a' U hW => word_at hW (Or.inl (by first | rfl | simp [Cond.onTables, Cond.keeps, Cond.steady])) hini)
  obtain ⟨hx, hb, hml, ho, -⟩ := S
  obtain ⟨-, ⟨cellB, hcB, hoB, hclB⟩, hPc⟩ := hp
  intro T hT X
  obtain ⟨v, vm₁, ⟨U', l2, c2, s2⟩, hW₁, X', ⟨g', mk, t, L, e1, e2, hq, h1, hL, h2, h3⟩, st⟩ := vx_callVW X hx (C := C) (hh := hh) (bytes := bytes) (maxL := maxL) (ret := ret) ho hl hin hse hcode hy hK (by rw [hT]; exact hcB) hoB hclB hg (hsize.trans hml.symm) (argsL := As) (rest := rest) (fun sig h => hn.trans (hlen sig h)) hstack hW (by rw [hb]; exact hdg)
    (fun vm₁ hW₁ => ⟨hf.1, hf.2, hPc (T.setVm vm₁) hT hW₁⟩)
  dsimp only [Pt.U, Pt.locs, Pt.cells, Pt.slots] at X' e1 e2 h1 h2 h3 st
  subst h1; subst h2; subst h3
  exact ⟨v, (T.setVm vm₁).calling g' mk (Value.ref b :: As).toArray, t, U', L, hT, X', hL, e1, e2, hq, st⟩
section
variable {y : MethodName} {bytes cc : ByteArray} {maxL nL mc ms n index : Nat} {ret : Option FieldType} {ws : List Cond} {rm : Room} {Pc : Array Value → State → Prop} {Qc : Array Value → State → Outcome → State → Prop} {XC : String → State → State → Prop} {free : Addr → Prop} {Ts : List Cond} {own C : String} {b : Addr} {As rest : List Value} {g : JFrame}
theorem vx_runVX {hh : List (Nat × Nat × Nat × Nat)} (S : CallFix p m c cc nL s args Ts own) (hM : vx_Met l y ws rm Pc Qc XC mc ms free) (cw : vx_CVW R s args own C index y bytes maxL ret hh ws rm mc ms n) (hp : PreV s H C b Pc As)
    (hg : g.method = m) (hn : As.length = n) (hsize : g.locals.size = nL) (hstack : g.stack = As.reverse ++ .ref b :: rest) (hW : 2 * g.monitorRoom + (rest.map fun v => v.category).sum ≤ 8) (hdg : decode cc g.pc = .ok (.invokevirtual index, 3)) (hf : cells + mc ≤ R.cells ∧ slots + ms ≤ R.slots) :
    vx_Run p l e R s m args below meth c H locs cells slots mc ms g rest (Qc (Value.ref b :: As).toArray) XC free := by
  obtain ⟨⟨hrc, hrs, hfr, hlo, hws, hcw⟩, hcode, hini, hy, hlen, hl, hin, hse⟩ := cw
  have hK : vx_Back l R p e below s args y 3 8 (PreOf R mc ms Pc) (PostOf Qc mc ms free) (vx_Post XC mc ms free) := vx_backW (hh := hh) (bytes := bytes) (maxL := maxL) (ret := ret) hM hp.1 hrc hrs hfr hlo hws hcw (fun a' U hW => word_at hW (Or.inl (by first | rfl | simp [Cond.onTables, Cond.keeps, Cond.steady])) hini)
  obtain ⟨hx, hb, hml, ho, -⟩ := S
  obtain ⟨-, ⟨cellB, hcB, hoB, hclB⟩, hPc⟩ := hp
  intro T hT X
  rcases vx_callVX X hx (C := C) (hh := hh) (bytes := bytes) (maxL := maxL) (ret := ret) ho hl hin hse hcode hy hK (by rw [hT]; exact hcB) hoB hclB hg (hsize.trans hml.symm) (argsL := As) (rest := rest) (fun sig h => hn.trans (hlen sig h)) hstack hW (by rw [hb]; exact hdg)
    (fun vm₁ hW₁ => ⟨hf.1, hf.2, hPc (T.setVm vm₁) hT hW₁⟩) with ⟨v, vm₁, ⟨U', l2, c2, s2⟩, hW₁, X', ⟨g', mk, t, L, e1, e2, hq, h1, hL, h2, h3⟩, st⟩ | ⟨q, vm₁, ⟨U', l2, c2, s2⟩, hW₁, X', ⟨g', mk, t, L, E, ce, e1, e2, hq, hce, hcv, hcl, h1, hL, h2, h3⟩, st⟩
  · dsimp only [Pt.U, Pt.locs, Pt.cells, Pt.slots] at X' e1 e2 h1 h2 h3 st
    subst h1; subst h2; subst h3
    exact Or.inl ⟨v, (T.setVm vm₁).calling g' mk (Value.ref b :: As).toArray, t, U', L, hT, X', hL, e1, e2, hq, st⟩
  · dsimp only [Pt.U, Pt.locs, Pt.cells, Pt.slots] at X' e1 e2 h1 h2 h3 st hcl
    subst h1; subst h2; subst h3
    exact Or.inr ⟨q, (T.setVm vm₁).calling g' mk (Value.ref b :: As).toArray, t, U', L, E, ce, hT, X', hL, e1, e2, hq, hce, hcv, vx_cls hW₁ hcl, st⟩
theorem vx_runSX {hh : List (Nat × Nat × Nat × Nat)} (S : CallFix p m c cc nL s args Ts own) (hM : vx_Met l y ws rm Pc Qc XC mc ms free) (cw : vx_CSW R s args own index y bytes maxL ret hh ws rm mc ms n) (hp : PreS s H Pc As)
    (hg : g.method = m) (hn : As.length = n) (hsize : g.locals.size = nL) (hstack : g.stack = As.reverse ++ rest) (hW : 2 * g.monitorRoom + (rest.map fun v => v.category).sum ≤ 8) (hdg : decode cc g.pc = .ok (.invokestatic index, 3)) (hf : cells + mc ≤ R.cells ∧ slots + ms ≤ R.slots) :
    vx_Run p l e R s m args below meth c H locs cells slots mc ms g rest (Qc As.toArray) XC free := by
  obtain ⟨⟨hrc, hrs, hfr, hlo, hws, hcw⟩, hcode, hini, hy, hlen, hl, hstt⟩ := cw
  have hK : vx_Back l R p e below s args y 3 8 (PreOf R mc ms Pc) (PostOf Qc mc ms free) (vx_Post XC mc ms free) := vx_backW (hh := hh) (bytes := bytes) (maxL := maxL) (ret := ret) hM hp.1 hrc hrs hfr hlo hws hcw (fun a' U hW => word_at hW (Or.inl (by first | rfl | simp [Cond.onTables, Cond.keeps, Cond.steady])) hini)
  obtain ⟨hx, hb, hml, ho, -⟩ := S
  intro T hT X
  rcases vx_callSX X hx (hh := hh) (bytes := bytes) (maxL := maxL) (ret := ret) ho hl hstt hini hcode hy hK hg (hsize.trans hml.symm) (argsL := As) (rest := rest) (fun sig h => hn.trans (hlen sig h)) hstack hW (by rw [hb]; exact hdg)
    (fun vm₁ hW₁ => ⟨hf.1, hf.2, hp.2 (T.setVm vm₁) hT hW₁⟩) with ⟨v, vm₁, ⟨U', l2, c2, s2⟩, hW₁, X', ⟨g', mk, t, L, e1, e2, hq, h1, hL, h2, h3⟩, st⟩ | ⟨q, vm₁, ⟨U', l2, c2, s2⟩, hW₁, X', ⟨g', mk, t, L, E, ce, e1, e2, hq, hce, hcv, hcl, h1, hL, h2, h3⟩, st⟩
  · dsimp only [Pt.U, Pt.locs, Pt.cells, Pt.slots] at X' e1 e2 h1 h2 h3 st
    subst h1; subst h2; subst h3
    exact Or.inl ⟨v, (T.setVm vm₁).calling g' mk As.toArray, t, U', L, hT, X', hL, e1, e2, hq, st⟩
  · dsimp only [Pt.U, Pt.locs, Pt.cells, Pt.slots] at X' e1 e2 h1 h2 h3 st hcl
    subst h1; subst h2; subst h3
    exact Or.inr ⟨q, (T.setVm vm₁).calling g' mk As.toArray, t, U', L, E, ce, hT, X', hL, e1, e2, hq, hce, hcv, vx_cls hW₁ hcl, st⟩
end
end VXH
theorem vx_ofWH {l : Launch} {y : MethodName} {ws ws' : List Cond} {rm : Room} {Pc : Array Value → State → Prop} {Qc : Array Value → State → Outcome → State → Prop} {XC : String → State → State → Prop} {mc ms : Nat} {free : Addr → Prop} {cc : ByteArray} {maxL : Nat} {ret : Option FieldType} {hh : List (Nat × Nat × Nat × Nat)}
    (hy : plainName y.cls = true) (hw : ws = Cond.codeWith y cc maxL ret hh :: ws')
    (body : ∀ p e s m args below meth c s₁, BodyLoose p l y (headSpec ws rm) cc maxL ret e s m args below meth c s₁ → c.maxLocals = maxL → Pc args s →
      W p l e (headSpec ws rm).room s m args below meth c s.heap [] 0 0 (vx_MQ below Qc XC args s mc ms free) (entryFrame m args maxL)) : vx_Met l y ws rm Pc Qc XC mc ms free := by
  refine MetFree.of_bodyS (code := cc) (maxLocals := maxL) (ret := ret) hy ?_ ?_
  · intro args s m h hn
    obtain ⟨m9, meth, c, hn9, h1, h2, h3, h4, -, h5, h6, -⟩ := Cond.codeWith_spec (atoms_spec (ws := ws) h _ (by rw [hw]; exact List.mem_cons_self))
    cases hn.symm.trans hn9
    exact ⟨meth, c, h1, h2, h3, h4, h5, h6⟩
  · intro p e s m args below meth c s₁ B hml hP _
    have hh0 : s₁.heap = s.heap := by rw [B.state]; rfl
    obtain ⟨t, a1, o, b1, b2, b3⟩ := body p e s m args below meth c s₁ B hml hP s₁ hh0 (Stand.of_body B)
    exact ⟨t, o, a1, b1, b2, b3⟩
/-! ===== END ===== -/

/-! ===== BEGIN printed: names, fields, word lists, decode rows ===== -/

/-! names, out of the printed names -/

def RX0 : String := "GlossRows$History"
def TX0 : u_T := fun k => match k with
  | 0 => ("GlossRows$History", "pages", "[LGlossRows$Page;", true)
  | 1 => ("GlossRows$History", "count", "I", false)
  | _ => ("GlossRows$History", "oldest", "I", false)
def tyX0 : Nat → FieldType := fun k => match k with
  | 0 => .array (.object "GlossRows$Page")
  | 1 => .int
  | _ => .int
abbrev wsX00 : List Cond := u_ws RX0 TX0 3
theorem nmX0 : ∀ a, a < 3 → ∀ b, b < 3 → a ≠ b → (TX0 a).2.1 ≠ (TX0 b).2.1 := by decide +kernel
theorem tyX0_ok : ∀ k, k < 3 → parseFieldDescriptor (TX0 k).2.2.1 = some (tyX0 k) := by decide +kernel
abbrev cX0_init : ByteArray := prog_2_method_1_code
def yX0_init : MethodName := ⟨RX0, "<init>", "()V"⟩
abbrev cX0_clear : ByteArray := prog_2_method_2_code
def yX0_clear : MethodName := ⟨RX0, "clear", "()V"⟩
abbrev cX0_remember : ByteArray := prog_2_method_3_code
def yX0_remember : MethodName := ⟨RX0, "remember", "(LGlossRows$Page;)V"⟩
abbrev cX0_takeBack : ByteArray := prog_2_method_4_code
def yX0_takeBack : MethodName := ⟨RX0, "takeBack", "(LGlossRows$Page;)V"⟩
def RX1 : String := "GlossRows$Layout"
def TX1 : u_T := fun k => match k with
  | 0 => ("GlossRows$Layout", "lines", "[I", true)
  | 1 => ("GlossRows$Layout", "columns", "[I", true)
  | 2 => ("GlossRows$Layout", "sentences", "[I", true)
  | 3 => ("GlossRows$Layout", "lineCount", "I", false)
  | 4 => ("GlossRows$Layout", "rowCount", "I", false)
  | 5 => ("GlossRows$Layout", "widths", "[I", true)
  | _ => ("GlossRows$Layout", "firstRows", "[I", true)
def tyX1 : Nat → FieldType := fun k => match k with
  | 0 => .array .int
  | 1 => .array .int
  | 2 => .array .int
  | 3 => .int
  | 4 => .int
  | 5 => .array .int
  | _ => .array .int
abbrev wsX10 : List Cond := u_ws RX1 TX1 7
theorem nmX1 : ∀ a, a < 7 → ∀ b, b < 7 → a ≠ b → (TX1 a).2.1 ≠ (TX1 b).2.1 := by decide +kernel
theorem tyX1_ok : ∀ k, k < 7 → parseFieldDescriptor (TX1 k).2.2.1 = some (tyX1 k) := by decide +kernel
abbrev cX1_init : ByteArray := prog_3_method_1_code
def yX1_init : MethodName := ⟨RX1, "<init>", "()V"⟩
abbrev cX1_measure : ByteArray := prog_3_method_2_code
def yX1_measure : MethodName := ⟨RX1, "measure", "(LGlossRows$Page;I)V"⟩
abbrev cX1_wrap : ByteArray := prog_3_method_3_code
def yX1_wrap : MethodName := ⟨RX1, "wrap", "(LGlossRows$Page;I)V"⟩
abbrev cX1_rowsOfFree : ByteArray := prog_3_method_4_code
def yX1_rowsOfFree : MethodName := ⟨RX1, "rowsOfFree", "(II)I"⟩
abbrev cX1_countWider : ByteArray := prog_3_method_5_code
def yX1_countWider : MethodName := ⟨RX1, "countWider", "(LGlossRows$Page;I)I"⟩
abbrev cX1_countEmpty : ByteArray := prog_3_method_6_code
def yX1_countEmpty : MethodName := ⟨RX1, "countEmpty", "(LGlossRows$Page;I)I"⟩
abbrev cX1_kindOfRow : ByteArray := prog_3_method_7_code
def yX1_kindOfRow : MethodName := ⟨RX1, "kindOfRow", "(LGlossRows$Page;I)I"⟩
abbrev cX1_lengthOfRow : ByteArray := prog_3_method_8_code
def yX1_lengthOfRow : MethodName := ⟨RX1, "lengthOfRow", "(LGlossRows$Page;I)I"⟩
abbrev cX1_sentenceOfRow : ByteArray := prog_3_method_9_code
def yX1_sentenceOfRow : MethodName := ⟨RX1, "sentenceOfRow", "(LGlossRows$Page;I)I"⟩
abbrev cX1_codeInRow : ByteArray := prog_3_method_10_code
def yX1_codeInRow : MethodName := ⟨RX1, "codeInRow", "(LGlossRows$Page;II)I"⟩
abbrev cX1_beginInFree : ByteArray := prog_3_method_11_code
def yX1_beginInFree : MethodName := ⟨RX1, "beginInFree", "(LGlossRows$Page;I)I"⟩
abbrev cX1_lastWordOfRow : ByteArray := prog_3_method_12_code
def yX1_lastWordOfRow : MethodName := ⟨RX1, "lastWordOfRow", "(LGlossRows$Page;I)I"⟩
def RX2 : String := "GlossRows$Letters"
def TX2 : u_T := fun k => match k with
  | _ => ("", "", "", false)
def tyX2 : Nat → FieldType := fun k => match k with
  | _ => .int
abbrev wsX20 : List Cond := u_ws RX2 TX2 0
theorem nmX2 : ∀ a, a < 0 → ∀ b, b < 0 → a ≠ b → (TX2 a).2.1 ≠ (TX2 b).2.1 := by decide +kernel
theorem tyX2_ok : ∀ k, k < 0 → parseFieldDescriptor (TX2 k).2.2.1 = some (tyX2 k) := by decide +kernel
abbrev cX2_length : ByteArray := prog_4_method_2_code
def yX2_length : MethodName := ⟨RX2, "length", "(J)I"⟩
abbrev cX2_code : ByteArray := prog_4_method_3_code
def yX2_code : MethodName := ⟨RX2, "code", "(JI)I"⟩
abbrev cX2_with : ByteArray := prog_4_method_4_code
def yX2_with : MethodName := ⟨RX2, "with", "(JI)J"⟩
abbrev cX2_placeOf : ByteArray := prog_4_method_5_code
def yX2_placeOf : MethodName := ⟨RX2, "placeOf", "(I)I"⟩
abbrev cX2_isLetter : ByteArray := prog_4_method_6_code
def yX2_isLetter : MethodName := ⟨RX2, "isLetter", "(I)Z"⟩
abbrev cX2_isGlossLetter : ByteArray := prog_4_method_7_code
def yX2_isGlossLetter : MethodName := ⟨RX2, "isGlossLetter", "(I)Z"⟩
abbrev cX2_isMark : ByteArray := prog_4_method_8_code
def yX2_isMark : MethodName := ⟨RX2, "isMark", "(I)Z"⟩
def RX3 : String := "GlossRows$Lexicon"
def TX3 : u_T := fun k => match k with
  | 0 => ("GlossRows$Lexicon", "parts", "[J", true)
  | 1 => ("GlossRows$Lexicon", "glosses", "[J", true)
  | _ => ("GlossRows$Lexicon", "size", "I", false)
def tyX3 : Nat → FieldType := fun k => match k with
  | 0 => .array .long
  | 1 => .array .long
  | _ => .int
abbrev wsX30 : List Cond := u_ws RX3 TX3 3
theorem nmX3 : ∀ a, a < 3 → ∀ b, b < 3 → a ≠ b → (TX3 a).2.1 ≠ (TX3 b).2.1 := by decide +kernel
theorem tyX3_ok : ∀ k, k < 3 → parseFieldDescriptor (TX3 k).2.2.1 = some (tyX3 k) := by decide +kernel
abbrev cX3_init : ByteArray := prog_5_method_1_code
def yX3_init : MethodName := ⟨RX3, "<init>", "()V"⟩
abbrev cX3_copyFrom : ByteArray := prog_5_method_2_code
def yX3_copyFrom : MethodName := ⟨RX3, "copyFrom", "(LGlossRows$Lexicon;)V"⟩
abbrev cX3_find : ByteArray := prog_5_method_3_code
def yX3_find : MethodName := ⟨RX3, "find", "(J)I"⟩
abbrev cX3_canTake : ByteArray := prog_5_method_4_code
def yX3_canTake : MethodName := ⟨RX3, "canTake", "(J)Z"⟩
abbrev cX3_take : ByteArray := prog_5_method_5_code
def yX3_take : MethodName := ⟨RX3, "take", "(JJ)V"⟩
abbrev cX3_makePlaceFor : ByteArray := prog_5_method_6_code
def yX3_makePlaceFor : MethodName := ⟨RX3, "makePlaceFor", "(J)I"⟩
abbrev cX3_drop : ByteArray := prog_5_method_7_code
def yX3_drop : MethodName := ⟨RX3, "drop", "(I)V"⟩
def RX4 : String := "GlossRows$Page"
def TX4 : u_T := fun k => match k with
  | 0 => ("GlossRows$Page", "words", "[LGlossRows$Word;", true)
  | 1 => ("GlossRows$Page", "lexicon", "LGlossRows$Lexicon;", true)
  | 2 => ("GlossRows$Page", "count", "I", false)
  | 3 => ("GlossRows$Page", "width", "I", false)
  | 4 => ("GlossRows$Page", "space", "I", false)
  | _ => ("GlossRows$Page", "way", "I", false)
def tyX4 : Nat → FieldType := fun k => match k with
  | 0 => .array (.object "GlossRows$Word")
  | 1 => .object "GlossRows$Lexicon"
  | 2 => .int
  | 3 => .int
  | 4 => .int
  | _ => .int
abbrev wsX40 : List Cond := u_ws RX4 TX4 6
theorem nmX4 : ∀ a, a < 6 → ∀ b, b < 6 → a ≠ b → (TX4 a).2.1 ≠ (TX4 b).2.1 := by decide +kernel
theorem tyX4_ok : ∀ k, k < 6 → parseFieldDescriptor (TX4 k).2.2.1 = some (tyX4 k) := by decide +kernel
abbrev cX4_init : ByteArray := prog_6_method_1_code
def yX4_init : MethodName := ⟨RX4, "<init>", "()V"⟩
abbrev cX4_reset : ByteArray := prog_6_method_2_code
def yX4_reset : MethodName := ⟨RX4, "reset", "()V"⟩
abbrev cX4_copyFrom : ByteArray := prog_6_method_3_code
def yX4_copyFrom : MethodName := ⟨RX4, "copyFrom", "(LGlossRows$Page;)V"⟩
abbrev cX4_hasWord : ByteArray := prog_6_method_4_code
def yX4_hasWord : MethodName := ⟨RX4, "hasWord", "(I)Z"⟩
abbrev cX4_hasPart : ByteArray := prog_6_method_5_code
def yX4_hasPart : MethodName := ⟨RX4, "hasPart", "(II)Z"⟩
abbrev cX4_addWords : ByteArray := prog_6_method_6_code
def yX4_addWords : MethodName := ⟨RX4, "addWords", "(LGlossRows$Reader;I)V"⟩
abbrev cX4_dropWord : ByteArray := prog_6_method_7_code
def yX4_dropWord : MethodName := ⟨RX4, "dropWord", "(I)V"⟩
abbrev cX4_allows : ByteArray := prog_6_method_8_code
def yX4_allows : MethodName := ⟨RX4, "allows", "(II)Z"⟩
abbrev cX4_change : ByteArray := prog_6_method_9_code
def yX4_change : MethodName := ⟨RX4, "change", "(II)I"⟩
abbrev cX4_canLearn : ByteArray := prog_6_method_10_code
def yX4_canLearn : MethodName := ⟨RX4, "canLearn", "(II)Z"⟩
abbrev cX4_learnPart : ByteArray := prog_6_method_11_code
def yX4_learnPart : MethodName := ⟨RX4, "learnPart", "(II)V"⟩
abbrev cX4_fill : ByteArray := prog_6_method_12_code
def yX4_fill : MethodName := ⟨RX4, "fill", "()I"⟩
abbrev cX4_countParts : ByteArray := prog_6_method_13_code
def yX4_countParts : MethodName := ⟨RX4, "countParts", "()I"⟩
abbrev cX4_countGaps : ByteArray := prog_6_method_14_code
def yX4_countGaps : MethodName := ⟨RX4, "countGaps", "()I"⟩
abbrev cX4_countSentences : ByteArray := prog_6_method_15_code
def yX4_countSentences : MethodName := ⟨RX4, "countSentences", "()I"⟩
abbrev cX4_countDiffering : ByteArray := prog_6_method_16_code
def yX4_countDiffering : MethodName := ⟨RX4, "countDiffering", "()I"⟩
abbrev cX4_placeOfGap : ByteArray := prog_6_method_17_code
def yX4_placeOfGap : MethodName := ⟨RX4, "placeOfGap", "(I)I"⟩
abbrev cX4_placeOfMostUsed : ByteArray := prog_6_method_18_code
def yX4_placeOfMostUsed : MethodName := ⟨RX4, "placeOfMostUsed", "()I"⟩
abbrev cX4_countUses : ByteArray := prog_6_method_19_code
def yX4_countUses : MethodName := ⟨RX4, "countUses", "(J)I"⟩
def RX5 : String := "GlossRows$Reader"
def TX5 : u_T := fun k => match k with
  | 0 => ("GlossRows$Reader", "words", "[LGlossRows$Word;", true)
  | 1 => ("GlossRows$Reader", "count", "I", false)
  | 2 => ("GlossRows$Reader", "current", "LGlossRows$Word;", false)
  | 3 => ("GlossRows$Reader", "inGlosses", "Z", false)
  | _ => ("GlossRows$Reader", "place", "I", false)
def tyX5 : Nat → FieldType := fun k => match k with
  | 0 => .array (.object "GlossRows$Word")
  | 1 => .int
  | 2 => .object "GlossRows$Word"
  | 3 => .boolean
  | _ => .int
abbrev wsX50 : List Cond := u_ws RX5 TX5 5
theorem nmX5 : ∀ a, a < 5 → ∀ b, b < 5 → a ≠ b → (TX5 a).2.1 ≠ (TX5 b).2.1 := by decide +kernel
theorem tyX5_ok : ∀ k, k < 5 → parseFieldDescriptor (TX5 k).2.2.1 = some (tyX5 k) := by decide +kernel
abbrev cX5_init : ByteArray := prog_7_method_1_code
def yX5_init : MethodName := ⟨RX5, "<init>", "()V"⟩
abbrev cX5_read : ByteArray := prog_7_method_2_code
def yX5_read : MethodName := ⟨RX5, "read", "(LGlossRows$Text;)I"⟩
abbrev cX5_openWord : ByteArray := prog_7_method_3_code
def yX5_openWord : MethodName := ⟨RX5, "openWord", "()V"⟩
abbrev cX5_takes : ByteArray := prog_7_method_4_code
def yX5_takes : MethodName := ⟨RX5, "takes", "(I)Z"⟩
abbrev cX5_takesBlank : ByteArray := prog_7_method_5_code
def yX5_takesBlank : MethodName := ⟨RX5, "takesBlank", "()Z"⟩
abbrev cX5_takesColon : ByteArray := prog_7_method_6_code
def yX5_takesColon : MethodName := ⟨RX5, "takesColon", "()Z"⟩
abbrev cX5_takesMarkOfParts : ByteArray := prog_7_method_7_code
def yX5_takesMarkOfParts : MethodName := ⟨RX5, "takesMarkOfParts", "(I)Z"⟩
abbrev cX5_takesMarkOfGlosses : ByteArray := prog_7_method_8_code
def yX5_takesMarkOfGlosses : MethodName := ⟨RX5, "takesMarkOfGlosses", "(I)Z"⟩
abbrev cX5_takesLetter : ByteArray := prog_7_method_9_code
def yX5_takesLetter : MethodName := ⟨RX5, "takesLetter", "(I)Z"⟩
abbrev cX5_takesGlossLetter : ByteArray := prog_7_method_10_code
def yX5_takesGlossLetter : MethodName := ⟨RX5, "takesGlossLetter", "(I)Z"⟩
abbrev cX5_isWordWhole : ByteArray := prog_7_method_11_code
def yX5_isWordWhole : MethodName := ⟨RX5, "isWordWhole", "()Z"⟩
abbrev cX5_hasPartLetters : ByteArray := prog_7_method_12_code
def yX5_hasPartLetters : MethodName := ⟨RX5, "hasPartLetters", "()Z"⟩
def RX6 : String := "GlossRows$Text"
def TX6 : u_T := fun k => match k with
  | 0 => ("GlossRows$Text", "codes", "[I", true)
  | _ => ("GlossRows$Text", "length", "I", false)
def tyX6 : Nat → FieldType := fun k => match k with
  | 0 => .array .int
  | _ => .int
abbrev wsX60 : List Cond := u_ws RX6 TX6 2
theorem nmX6 : ∀ a, a < 2 → ∀ b, b < 2 → a ≠ b → (TX6 a).2.1 ≠ (TX6 b).2.1 := by decide +kernel
theorem tyX6_ok : ∀ k, k < 2 → parseFieldDescriptor (TX6 k).2.2.1 = some (tyX6 k) := by decide +kernel
abbrev cX6_init : ByteArray := prog_8_method_1_code
def yX6_init : MethodName := ⟨RX6, "<init>", "()V"⟩
abbrev cX6_add : ByteArray := prog_8_method_2_code
def yX6_add : MethodName := ⟨RX6, "add", "(I)V"⟩
abbrev cX6_isFreeLine : ByteArray := prog_8_method_3_code
def yX6_isFreeLine : MethodName := ⟨RX6, "isFreeLine", "()Z"⟩
abbrev cX6_isGloss : ByteArray := prog_8_method_4_code
def yX6_isGloss : MethodName := ⟨RX6, "isGloss", "()Z"⟩
abbrev cX6_letters : ByteArray := prog_8_method_5_code
def yX6_letters : MethodName := ⟨RX6, "letters", "()J"⟩
def RX7 : String := "GlossRows$Word"
def TX7 : u_T := fun k => match k with
  | 0 => ("GlossRows$Word", "parts", "[J", true)
  | 1 => ("GlossRows$Word", "glosses", "[J", true)
  | 2 => ("GlossRows$Word", "marks", "[I", true)
  | 3 => ("GlossRows$Word", "free", "[I", true)
  | 4 => ("GlossRows$Word", "size", "I", false)
  | 5 => ("GlossRows$Word", "freeLength", "I", false)
  | _ => ("GlossRows$Word", "ended", "Z", false)
def tyX7 : Nat → FieldType := fun k => match k with
  | 0 => .array .long
  | 1 => .array .long
  | 2 => .array .int
  | 3 => .array .int
  | 4 => .int
  | 5 => .int
  | _ => .boolean
abbrev wsX70 : List Cond := u_ws RX7 TX7 7
theorem nmX7 : ∀ a, a < 7 → ∀ b, b < 7 → a ≠ b → (TX7 a).2.1 ≠ (TX7 b).2.1 := by decide +kernel
theorem tyX7_ok : ∀ k, k < 7 → parseFieldDescriptor (TX7 k).2.2.1 = some (tyX7 k) := by decide +kernel
abbrev cX7_init : ByteArray := prog_9_method_1_code
def yX7_init : MethodName := ⟨RX7, "<init>", "()V"⟩
abbrev cX7_reset : ByteArray := prog_9_method_2_code
def yX7_reset : MethodName := ⟨RX7, "reset", "()V"⟩
abbrev cX7_copyFrom : ByteArray := prog_9_method_3_code
def yX7_copyFrom : MethodName := ⟨RX7, "copyFrom", "(LGlossRows$Word;)V"⟩
abbrev cX7_openPart : ByteArray := prog_9_method_4_code
def yX7_openPart : MethodName := ⟨RX7, "openPart", "(I)V"⟩
abbrev cX7_dropEnd : ByteArray := prog_9_method_5_code
def yX7_dropEnd : MethodName := ⟨RX7, "dropEnd", "()V"⟩
abbrev cX7_turnEnd : ByteArray := prog_9_method_6_code
def yX7_turnEnd : MethodName := ⟨RX7, "turnEnd", "()V"⟩
abbrev cX7_takeFree : ByteArray := prog_9_method_7_code
def yX7_takeFree : MethodName := ⟨RX7, "takeFree", "(LGlossRows$Text;)V"⟩
abbrev cX7_countGaps : ByteArray := prog_9_method_8_code
def yX7_countGaps : MethodName := ⟨RX7, "countGaps", "()I"⟩
abbrev cX7_width : ByteArray := prog_9_method_9_code
def yX7_width : MethodName := ⟨RX7, "width", "(I)I"⟩
abbrev cX7_codeShown : ByteArray := prog_9_method_10_code
def yX7_codeShown : MethodName := ⟨RX7, "codeShown", "(III)I"⟩
abbrev cX7_codeOfFree : ByteArray := prog_9_method_11_code
def yX7_codeOfFree : MethodName := ⟨RX7, "codeOfFree", "(I)I"⟩
abbrev cX7_shownGloss : ByteArray := prog_9_method_12_code
def yX7_shownGloss : MethodName := ⟨RX7, "shownGloss", "(I)J"⟩
def RX8 : String := "GlossRows"
def TX8 : u_T := fun k => match k with
  | 0 => ("GlossRows", "text", "LGlossRows$Text;", true)
  | 1 => ("GlossRows", "reader", "LGlossRows$Reader;", true)
  | 2 => ("GlossRows", "page", "LGlossRows$Page;", true)
  | 3 => ("GlossRows", "trial", "LGlossRows$Page;", true)
  | 4 => ("GlossRows", "layout", "LGlossRows$Layout;", true)
  | 5 => ("GlossRows", "history", "LGlossRows$History;", true)
  | 6 => ("GlossRows", "slots", "[LGlossRows$Page;", true)
  | _ => ("GlossRows", "saved", "[Z", true)
def tyX8 : Nat → FieldType := fun k => match k with
  | 0 => .object "GlossRows$Text"
  | 1 => .object "GlossRows$Reader"
  | 2 => .object "GlossRows$Page"
  | 3 => .object "GlossRows$Page"
  | 4 => .object "GlossRows$Layout"
  | 5 => .object "GlossRows$History"
  | 6 => .array (.object "GlossRows$Page")
  | _ => .array .boolean
abbrev wsX80 : List Cond := u_ws RX8 TX8 8
theorem nmX8 : ∀ a, a < 8 → ∀ b, b < 8 → a ≠ b → (TX8 a).2.1 ≠ (TX8 b).2.1 := by decide +kernel
theorem tyX8_ok : ∀ k, k < 8 → parseFieldDescriptor (TX8 k).2.2.1 = some (tyX8 k) := by decide +kernel
abbrev cX8_init : ByteArray := prog_1_method_1_code
def yX8_init : MethodName := ⟨RX8, "<init>", "()V"⟩
abbrev cX8_append : ByteArray := prog_1_method_2_code
def yX8_append : MethodName := ⟨RX8, "append", "(I)I"⟩
abbrev cX8_clearText : ByteArray := prog_1_method_3_code
def yX8_clearText : MethodName := ⟨RX8, "clearText", "()I"⟩
abbrev cX8_errorPosition : ByteArray := prog_1_method_4_code
def yX8_errorPosition : MethodName := ⟨RX8, "errorPosition", "()I"⟩
abbrev cX8_load : ByteArray := prog_1_method_5_code
def yX8_load : MethodName := ⟨RX8, "load", "()I"⟩
abbrev cX8_about : ByteArray := prog_1_method_6_code
def yX8_about : MethodName := ⟨RX8, "about", "(I)I"⟩
abbrev cX8_word : ByteArray := prog_1_method_7_code
def yX8_word : MethodName := ⟨RX8, "word", "(II)I"⟩
abbrev cX8_part : ByteArray := prog_1_method_8_code
def yX8_part : MethodName := ⟨RX8, "part", "(III)I"⟩
abbrev cX8_letter : ByteArray := prog_1_method_9_code
def yX8_letter : MethodName := ⟨RX8, "letter", "(IIZI)I"⟩
abbrev cX8_entry : ByteArray := prog_1_method_10_code
def yX8_entry : MethodName := ⟨RX8, "entry", "(IZI)I"⟩
abbrev cX8_row : ByteArray := prog_1_method_11_code
def yX8_row : MethodName := ⟨RX8, "row", "(II)I"⟩
abbrev cX8_at : ByteArray := prog_1_method_12_code
def yX8_at : MethodName := ⟨RX8, "at", "(II)I"⟩
abbrev cX8_insert : ByteArray := prog_1_method_13_code
def yX8_insert : MethodName := ⟨RX8, "insert", "(I)I"⟩
abbrev cX8_remove : ByteArray := prog_1_method_14_code
def yX8_remove : MethodName := ⟨RX8, "remove", "(I)I"⟩
abbrev cX8_end : ByteArray := prog_1_method_15_code
def yX8_end : MethodName := ⟨RX8, "end", "(I)I"⟩
abbrev cX8_join : ByteArray := prog_1_method_16_code
def yX8_join : MethodName := ⟨RX8, "join", "(I)I"⟩
abbrev cX8_setFree : ByteArray := prog_1_method_17_code
def yX8_setFree : MethodName := ⟨RX8, "setFree", "(I)I"⟩
abbrev cX8_setGloss : ByteArray := prog_1_method_18_code
def yX8_setGloss : MethodName := ⟨RX8, "setGloss", "(II)I"⟩
abbrev cX8_set : ByteArray := prog_1_method_19_code
def yX8_set : MethodName := ⟨RX8, "set", "(II)I"⟩
abbrev cX8_learn : ByteArray := prog_1_method_20_code
def yX8_learn : MethodName := ⟨RX8, "learn", "(II)I"⟩
abbrev cX8_forget : ByteArray := prog_1_method_21_code
def yX8_forget : MethodName := ⟨RX8, "forget", "(I)I"⟩
abbrev cX8_fillGaps : ByteArray := prog_1_method_22_code
def yX8_fillGaps : MethodName := ⟨RX8, "fillGaps", "()I"⟩
abbrev cX8_undo : ByteArray := prog_1_method_23_code
def yX8_undo : MethodName := ⟨RX8, "undo", "()I"⟩
abbrev cX8_gap : ByteArray := prog_1_method_24_code
def yX8_gap : MethodName := ⟨RX8, "gap", "(I)I"⟩
abbrev cX8_mostUsed : ByteArray := prog_1_method_25_code
def yX8_mostUsed : MethodName := ⟨RX8, "mostUsed", "()I"⟩
abbrev cX8_widthFor : ByteArray := prog_1_method_26_code
def yX8_widthFor : MethodName := ⟨RX8, "widthFor", "(I)I"⟩
abbrev cX8_empty : ByteArray := prog_1_method_27_code
def yX8_empty : MethodName := ⟨RX8, "empty", "()I"⟩
abbrev cX8_rowsWith : ByteArray := prog_1_method_28_code
def yX8_rowsWith : MethodName := ⟨RX8, "rowsWith", "(II)I"⟩
abbrev cX8_runScript : ByteArray := prog_1_method_29_code
def yX8_runScript : MethodName := ⟨RX8, "runScript", "(IJ)I"⟩
abbrev cX8_simulate : ByteArray := prog_1_method_30_code
def yX8_simulate : MethodName := ⟨RX8, "simulate", "(JI)I"⟩
abbrev cX8_save : ByteArray := prog_1_method_31_code
def yX8_save : MethodName := ⟨RX8, "save", "(I)I"⟩
abbrev cX8_restore : ByteArray := prog_1_method_32_code
def yX8_restore : MethodName := ⟨RX8, "restore", "(I)I"⟩
abbrev cX8_requireWord : ByteArray := prog_1_method_33_code
def yX8_requireWord : MethodName := ⟨RX8, "requireWord", "(I)V"⟩
abbrev cX8_requirePart : ByteArray := prog_1_method_34_code
def yX8_requirePart : MethodName := ⟨RX8, "requirePart", "(II)V"⟩
abbrev cX8_requireEntry : ByteArray := prog_1_method_35_code
def yX8_requireEntry : MethodName := ⟨RX8, "requireEntry", "(I)V"⟩
abbrev cX8_requireRow : ByteArray := prog_1_method_36_code
def yX8_requireRow : MethodName := ⟨RX8, "requireRow", "(I)V"⟩
abbrev cX8_requireSlot : ByteArray := prog_1_method_37_code
def yX8_requireSlot : MethodName := ⟨RX8, "requireSlot", "(I)V"⟩
abbrev cX8_requireNotNegative : ByteArray := prog_1_method_38_code
def yX8_requireNotNegative : MethodName := ⟨RX8, "requireNotNegative", "(I)V"⟩
abbrev cX8_arranged : ByteArray := prog_1_method_39_code
def yX8_arranged : MethodName := ⟨RX8, "arranged", "(LGlossRows$Page;)LGlossRows$Layout;"⟩
abbrev cX8_withoutLowest : ByteArray := prog_1_method_40_code
def yX8_withoutLowest : MethodName := ⟨RX8, "withoutLowest", "(JI)J"⟩
abbrev cX8_succeeds : ByteArray := prog_1_method_41_code
def yX8_succeeds : MethodName := ⟨RX8, "succeeds", "(I)Z"⟩
abbrev cX8_setsOnTrial : ByteArray := prog_1_method_42_code
def yX8_setsOnTrial : MethodName := ⟨RX8, "setsOnTrial", "(II)Z"⟩
abbrev cX8_changesWordOfTrial : ByteArray := prog_1_method_43_code
def yX8_changesWordOfTrial : MethodName := ⟨RX8, "changesWordOfTrial", "(II)Z"⟩
abbrev cX8_learnsOnTrial : ByteArray := prog_1_method_44_code
def yX8_learnsOnTrial : MethodName := ⟨RX8, "learnsOnTrial", "(II)Z"⟩
abbrev cX8_fillsTrial : ByteArray := prog_1_method_45_code
def yX8_fillsTrial : MethodName := ⟨RX8, "fillsTrial", "()Z"⟩
abbrev cX8_playRound : ByteArray := prog_1_method_46_code
def yX8_playRound : MethodName := ⟨RX8, "playRound", "(I)V"⟩
def RX9 : String := "GlossRowsModel"
def TX9 : u_T := fun k => match k with
  | 0 => ("GlossRowsModel", "refusal", "I", false)
  | 1 => ("GlossRowsModel", "script", "[I", true)
  | 2 => ("GlossRowsModel", "scriptSize", "I", false)
  | 3 => ("GlossRowsModel", "readMany", "I", false)
  | 4 => ("GlossRowsModel", "read", "[J", true)
  | 5 => ("GlossRowsModel", "now", "[J", true)
  | 6 => ("GlossRowsModel", "trial", "[J", true)
  | 7 => ("GlossRowsModel", "diary", "[J", true)
  | 8 => ("GlossRowsModel", "acts", "I", false)
  | 9 => ("GlossRowsModel", "kept", "[J", true)
  | 10 => ("GlossRowsModel", "isKept", "[Z", true)
  | 11 => ("GlossRowsModel", "lines", "I", false)
  | 12 => ("GlossRowsModel", "rows", "I", false)
  | 13 => ("GlossRowsModel", "sentences", "I", false)
  | 14 => ("GlossRowsModel", "lineOf", "[I", true)
  | 15 => ("GlossRowsModel", "columnOf", "[I", true)
  | 16 => ("GlossRowsModel", "widthOf", "[I", true)
  | 17 => ("GlossRowsModel", "sentenceOf", "[I", true)
  | 18 => ("GlossRowsModel", "lengthOf", "[I", true)
  | 19 => ("GlossRowsModel", "rowKind", "[I", true)
  | 20 => ("GlossRowsModel", "rowOf", "[I", true)
  | _ => ("GlossRowsModel", "rowFrom", "[I", true)
def tyX9 : Nat → FieldType := fun k => match k with
  | 0 => .int
  | 1 => .array .int
  | 2 => .int
  | 3 => .int
  | 4 => .array .long
  | 5 => .array .long
  | 6 => .array .long
  | 7 => .array .long
  | 8 => .int
  | 9 => .array .long
  | 10 => .array .boolean
  | 11 => .int
  | 12 => .int
  | 13 => .int
  | 14 => .array .int
  | 15 => .array .int
  | 16 => .array .int
  | 17 => .array .int
  | 18 => .array .int
  | 19 => .array .int
  | 20 => .array .int
  | _ => .array .int
abbrev wsX90 : List Cond := u_ws RX9 TX9 22
theorem nmX9 : ∀ a, a < 22 → ∀ b, b < 22 → a ≠ b → (TX9 a).2.1 ≠ (TX9 b).2.1 := by decide +kernel
theorem tyX9_ok : ∀ k, k < 22 → parseFieldDescriptor (TX9 k).2.2.1 = some (tyX9 k) := by decide +kernel
abbrev cX9_init : ByteArray := prog_11_method_1_code
def yX9_init : MethodName := ⟨RX9, "<init>", "()V"⟩
abbrev cX9_clean : ByteArray := prog_11_method_2_code
def yX9_clean : MethodName := ⟨RX9, "clean", "([J)V"⟩
abbrev cX9_thrown : ByteArray := prog_11_method_3_code
def yX9_thrown : MethodName := ⟨RX9, "thrown", "()I"⟩
abbrev cX9_refused : ByteArray := prog_11_method_4_code
def yX9_refused : MethodName := ⟨RX9, "refused", "(I)Z"⟩
abbrev cX9_in : ByteArray := prog_11_method_5_code
def yX9_in : MethodName := ⟨RX9, "in", "(JJJ)Z"⟩
abbrev cX9_copy : ByteArray := prog_11_method_6_code
def yX9_copy : MethodName := ⟨RX9, "copy", "([JI[JII)V"⟩
abbrev cX9_tenTo : ByteArray := prog_11_method_7_code
def yX9_tenTo : MethodName := ⟨RX9, "tenTo", "(I)J"⟩
abbrev cX9_note : ByteArray := prog_11_method_8_code
def yX9_note : MethodName := ⟨RX9, "note", "()V"⟩
abbrev cX9_lettersOf : ByteArray := prog_11_method_9_code
def yX9_lettersOf : MethodName := ⟨RX9, "lettersOf", "(J)I"⟩
abbrev cX9_letterOf : ByteArray := prog_11_method_10_code
def yX9_letterOf : MethodName := ⟨RX9, "letterOf", "(JI)I"⟩
abbrev cX9_withLetter : ByteArray := prog_11_method_11_code
def yX9_withLetter : MethodName := ⟨RX9, "withLetter", "(JII)J"⟩
abbrev cX9_cell : ByteArray := prog_11_method_12_code
def yX9_cell : MethodName := ⟨RX9, "cell", "(II)I"⟩
abbrev cX9_mark : ByteArray := prog_11_method_13_code
def yX9_mark : MethodName := ⟨RX9, "mark", "(II)I"⟩
abbrev cX9_partAt : ByteArray := prog_11_method_14_code
def yX9_partAt : MethodName := ⟨RX9, "partAt", "(II)I"⟩
abbrev cX9_glossAt : ByteArray := prog_11_method_15_code
def yX9_glossAt : MethodName := ⟨RX9, "glossAt", "(II)I"⟩
abbrev cX9_parts : ByteArray := prog_11_method_16_code
def yX9_parts : MethodName := ⟨RX9, "parts", "([JI)I"⟩
abbrev cX9_many : ByteArray := prog_11_method_17_code
def yX9_many : MethodName := ⟨RX9, "many", "([J)I"⟩
abbrev cX9_isWordOf : ByteArray := prog_11_method_18_code
def yX9_isWordOf : MethodName := ⟨RX9, "isWordOf", "([JI)Z"⟩
abbrev cX9_isWord : ByteArray := prog_11_method_19_code
def yX9_isWord : MethodName := ⟨RX9, "isWord", "(I)Z"⟩
abbrev cX9_isPartOf : ByteArray := prog_11_method_20_code
def yX9_isPartOf : MethodName := ⟨RX9, "isPartOf", "([JII)Z"⟩
abbrev cX9_shownLength : ByteArray := prog_11_method_21_code
def yX9_shownLength : MethodName := ⟨RX9, "shownLength", "([JII)I"⟩
abbrev cX9_wide : ByteArray := prog_11_method_22_code
def yX9_wide : MethodName := ⟨RX9, "wide", "([JII)I"⟩
abbrev cX9_addRow : ByteArray := prog_11_method_23_code
def yX9_addRow : MethodName := ⟨RX9, "addRow", "(III)V"⟩
abbrev cX9_layOut : ByteArray := prog_11_method_24_code
def yX9_layOut : MethodName := ⟨RX9, "layOut", "([JII)V"⟩
abbrev cX9_rowsOf : ByteArray := prog_11_method_25_code
def yX9_rowsOf : MethodName := ⟨RX9, "rowsOf", "([J)I"⟩
abbrev cX9_sentencesOf : ByteArray := prog_11_method_26_code
def yX9_sentencesOf : MethodName := ⟨RX9, "sentencesOf", "([J)I"⟩
abbrev cX9_freeChar : ByteArray := prog_11_method_27_code
def yX9_freeChar : MethodName := ⟨RX9, "freeChar", "([JII)I"⟩
abbrev cX9_shown : ByteArray := prog_11_method_28_code
def yX9_shown : MethodName := ⟨RX9, "shown", "([JIZII)I"⟩
abbrev cX9_entryOf : ByteArray := prog_11_method_29_code
def yX9_entryOf : MethodName := ⟨RX9, "entryOf", "([JJ)I"⟩
abbrev cX9_learnOn : ByteArray := prog_11_method_30_code
def yX9_learnOn : MethodName := ⟨RX9, "learnOn", "([JII)V"⟩
abbrev cX9_canLearn : ByteArray := prog_11_method_31_code
def yX9_canLearn : MethodName := ⟨RX9, "canLearn", "([JII)Z"⟩
abbrev cX9_fillOn : ByteArray := prog_11_method_32_code
def yX9_fillOn : MethodName := ⟨RX9, "fillOn", "([J)I"⟩
abbrev cX9_gapsOf : ByteArray := prog_11_method_33_code
def yX9_gapsOf : MethodName := ⟨RX9, "gapsOf", "([JI)I"⟩
abbrev cX9_gaps : ByteArray := prog_11_method_34_code
def yX9_gaps : MethodName := ⟨RX9, "gaps", "([J)I"⟩
abbrev cX9_removeOn : ByteArray := prog_11_method_35_code
def yX9_removeOn : MethodName := ⟨RX9, "removeOn", "([JI)V"⟩
abbrev cX9_joinOn : ByteArray := prog_11_method_36_code
def yX9_joinOn : MethodName := ⟨RX9, "joinOn", "([JI)V"⟩
abbrev cX9_insertOn : ByteArray := prog_11_method_37_code
def yX9_insertOn : MethodName := ⟨RX9, "insertOn", "([JI)V"⟩
abbrev cX9_append : ByteArray := prog_11_method_38_code
def yX9_append : MethodName := ⟨RX9, "append", "(I)I"⟩
abbrev cX9_clearText : ByteArray := prog_11_method_39_code
def yX9_clearText : MethodName := ⟨RX9, "clearText", "()I"⟩
abbrev cX9_isLetter : ByteArray := prog_11_method_40_code
def yX9_isLetter : MethodName := ⟨RX9, "isLetter", "(I)Z"⟩
abbrev cX9_isGlossLetter : ByteArray := prog_11_method_41_code
def yX9_isGlossLetter : MethodName := ⟨RX9, "isGlossLetter", "(I)Z"⟩
abbrev cX9_isMark : ByteArray := prog_11_method_42_code
def yX9_isMark : MethodName := ⟨RX9, "isMark", "(I)Z"⟩
abbrev cX9_begin : ByteArray := prog_11_method_43_code
def yX9_begin : MethodName := ⟨RX9, "begin", "()V"⟩
abbrev cX9_readText : ByteArray := prog_11_method_44_code
def yX9_readText : MethodName := ⟨RX9, "readText", "()I"⟩
abbrev cX9_errorPosition : ByteArray := prog_11_method_45_code
def yX9_errorPosition : MethodName := ⟨RX9, "errorPosition", "()I"⟩
abbrev cX9_load : ByteArray := prog_11_method_46_code
def yX9_load : MethodName := ⟨RX9, "load", "()I"⟩
abbrev cX9_unlike : ByteArray := prog_11_method_47_code
def yX9_unlike : MethodName := ⟨RX9, "unlike", "([J)I"⟩
abbrev cX9_about : ByteArray := prog_11_method_48_code
def yX9_about : MethodName := ⟨RX9, "about", "(I)I"⟩
abbrev cX9_layNow : ByteArray := prog_11_method_49_code
def yX9_layNow : MethodName := ⟨RX9, "layNow", "()V"⟩
abbrev cX9_word : ByteArray := prog_11_method_50_code
def yX9_word : MethodName := ⟨RX9, "word", "(II)I"⟩
abbrev cX9_isPart : ByteArray := prog_11_method_51_code
def yX9_isPart : MethodName := ⟨RX9, "isPart", "(II)Z"⟩
abbrev cX9_part : ByteArray := prog_11_method_52_code
def yX9_part : MethodName := ⟨RX9, "part", "(III)I"⟩
abbrev cX9_letter : ByteArray := prog_11_method_53_code
def yX9_letter : MethodName := ⟨RX9, "letter", "(IIZI)I"⟩
abbrev cX9_isEntry : ByteArray := prog_11_method_54_code
def yX9_isEntry : MethodName := ⟨RX9, "isEntry", "(I)Z"⟩
abbrev cX9_entry : ByteArray := prog_11_method_55_code
def yX9_entry : MethodName := ⟨RX9, "entry", "(IZI)I"⟩
abbrev cX9_lengthOfRow : ByteArray := prog_11_method_56_code
def yX9_lengthOfRow : MethodName := ⟨RX9, "lengthOfRow", "(I)I"⟩
abbrev cX9_sentenceOfRow : ByteArray := prog_11_method_57_code
def yX9_sentenceOfRow : MethodName := ⟨RX9, "sentenceOfRow", "(I)I"⟩
abbrev cX9_isRow : ByteArray := prog_11_method_58_code
def yX9_isRow : MethodName := ⟨RX9, "isRow", "(I)Z"⟩
abbrev cX9_row : ByteArray := prog_11_method_59_code
def yX9_row : MethodName := ⟨RX9, "row", "(II)I"⟩
abbrev cX9_at : ByteArray := prog_11_method_60_code
def yX9_at : MethodName := ⟨RX9, "at", "(II)I"⟩
abbrev cX9_insert : ByteArray := prog_11_method_61_code
def yX9_insert : MethodName := ⟨RX9, "insert", "(I)I"⟩
abbrev cX9_remove : ByteArray := prog_11_method_62_code
def yX9_remove : MethodName := ⟨RX9, "remove", "(I)I"⟩
abbrev cX9_end : ByteArray := prog_11_method_63_code
def yX9_end : MethodName := ⟨RX9, "end", "(I)I"⟩
abbrev cX9_join : ByteArray := prog_11_method_64_code
def yX9_join : MethodName := ⟨RX9, "join", "(I)I"⟩
abbrev cX9_isFree : ByteArray := prog_11_method_65_code
def yX9_isFree : MethodName := ⟨RX9, "isFree", "()Z"⟩
abbrev cX9_setFree : ByteArray := prog_11_method_66_code
def yX9_setFree : MethodName := ⟨RX9, "setFree", "(I)I"⟩
abbrev cX9_isGloss : ByteArray := prog_11_method_67_code
def yX9_isGloss : MethodName := ⟨RX9, "isGloss", "()Z"⟩
abbrev cX9_setGloss : ByteArray := prog_11_method_68_code
def yX9_setGloss : MethodName := ⟨RX9, "setGloss", "(II)I"⟩
abbrev cX9_isSetting : ByteArray := prog_11_method_69_code
def yX9_isSetting : MethodName := ⟨RX9, "isSetting", "(II)Z"⟩
abbrev cX9_set : ByteArray := prog_11_method_70_code
def yX9_set : MethodName := ⟨RX9, "set", "(II)I"⟩
abbrev cX9_learn : ByteArray := prog_11_method_71_code
def yX9_learn : MethodName := ⟨RX9, "learn", "(II)I"⟩
abbrev cX9_forget : ByteArray := prog_11_method_72_code
def yX9_forget : MethodName := ⟨RX9, "forget", "(I)I"⟩
abbrev cX9_fillGaps : ByteArray := prog_11_method_73_code
def yX9_fillGaps : MethodName := ⟨RX9, "fillGaps", "()I"⟩
abbrev cX9_undo : ByteArray := prog_11_method_74_code
def yX9_undo : MethodName := ⟨RX9, "undo", "()I"⟩
abbrev cX9_gap : ByteArray := prog_11_method_75_code
def yX9_gap : MethodName := ⟨RX9, "gap", "(I)I"⟩
abbrev cX9_uses : ByteArray := prog_11_method_76_code
def yX9_uses : MethodName := ⟨RX9, "uses", "(J)I"⟩
abbrev cX9_mostUsed : ByteArray := prog_11_method_77_code
def yX9_mostUsed : MethodName := ⟨RX9, "mostUsed", "()I"⟩
abbrev cX9_widthFor : ByteArray := prog_11_method_78_code
def yX9_widthFor : MethodName := ⟨RX9, "widthFor", "(I)I"⟩
abbrev cX9_empty : ByteArray := prog_11_method_79_code
def yX9_empty : MethodName := ⟨RX9, "empty", "()I"⟩
abbrev cX9_rowsWith : ByteArray := prog_11_method_80_code
def yX9_rowsWith : MethodName := ⟨RX9, "rowsWith", "(II)I"⟩
abbrev cX9_tryOut : ByteArray := prog_11_method_81_code
def yX9_tryOut : MethodName := ⟨RX9, "tryOut", "()V"⟩
abbrev cX9_command : ByteArray := prog_11_method_82_code
def yX9_command : MethodName := ⟨RX9, "command", "(I)Z"⟩
abbrev cX9_runScript : ByteArray := prog_11_method_83_code
def yX9_runScript : MethodName := ⟨RX9, "runScript", "(IJ)I"⟩
abbrev cX9_simulate : ByteArray := prog_11_method_84_code
def yX9_simulate : MethodName := ⟨RX9, "simulate", "(JI)I"⟩
abbrev cX9_save : ByteArray := prog_11_method_85_code
def yX9_save : MethodName := ⟨RX9, "save", "(I)I"⟩
abbrev cX9_restore : ByteArray := prog_11_method_86_code
def yX9_restore : MethodName := ⟨RX9, "restore", "(I)I"⟩
def RJ9 : String := "java/lang/Math"
def TJ9 : u_T := fun k => match k with
  | _ => ("", "", "", false)
def tyJ9 : Nat → FieldType := fun k => match k with
  | _ => .int
abbrev wsJ90 : List Cond := u_ws RJ9 TJ9 0
theorem nmJ9 : ∀ a, a < 0 → ∀ b, b < 0 → a ≠ b → (TJ9 a).2.1 ≠ (TJ9 b).2.1 := by decide +kernel
theorem tyJ9_ok : ∀ k, k < 0 → parseFieldDescriptor (TJ9 k).2.2.1 = some (tyJ9 k) := by decide +kernel
abbrev cJ9_max_7cf53 : ByteArray := prog_16_method_65_code
def yJ9_max_7cf53 : MethodName := ⟨RJ9, "max", "(II)I"⟩
abbrev cJ9_min_7cf53 : ByteArray := prog_16_method_69_code
def yJ9_min_7cf53 : MethodName := ⟨RJ9, "min", "(II)I"⟩
def RJ0 : String := "java/lang/String"
def TJ0 : u_T := fun k => match k with
  | _ => ("", "", "", false)
def tyJ0 : Nat → FieldType := fun k => match k with
  | _ => .int
abbrev wsJ00 : List Cond := u_ws RJ0 TJ0 0
theorem nmJ0 : ∀ a, a < 0 → ∀ b, b < 0 → a ≠ b → (TJ0 a).2.1 ≠ (TJ0 b).2.1 := by decide +kernel
theorem tyJ0_ok : ∀ k, k < 0 → parseFieldDescriptor (TJ0 k).2.2.1 = some (tyJ0 k) := by decide +kernel
def RL : String := "GlossRowsLaw"
abbrev cL_append : ByteArray := method_3_code
def yL_append : MethodName := ⟨RL, "append", "(LGlossRows;I[J)I"⟩
abbrev cL_load : ByteArray := method_4_code
def yL_load : MethodName := ⟨RL, "load", "(LGlossRows;[J)I"⟩
abbrev cL_about : ByteArray := method_5_code
def yL_about : MethodName := ⟨RL, "about", "(LGlossRows;I[J)I"⟩
abbrev cL_word : ByteArray := method_6_code
def yL_word : MethodName := ⟨RL, "word", "(LGlossRows;II[J)I"⟩
abbrev cL_part : ByteArray := method_7_code
def yL_part : MethodName := ⟨RL, "part", "(LGlossRows;III[J)I"⟩
abbrev cL_letter : ByteArray := method_8_code
def yL_letter : MethodName := ⟨RL, "letter", "(LGlossRows;IIZI[J)I"⟩
abbrev cL_entry : ByteArray := method_9_code
def yL_entry : MethodName := ⟨RL, "entry", "(LGlossRows;IZI[J)I"⟩
abbrev cL_row : ByteArray := method_10_code
def yL_row : MethodName := ⟨RL, "row", "(LGlossRows;II[J)I"⟩
abbrev cL_at : ByteArray := method_11_code
def yL_at : MethodName := ⟨RL, "at", "(LGlossRows;II[J)I"⟩
abbrev cL_insert : ByteArray := method_12_code
def yL_insert : MethodName := ⟨RL, "insert", "(LGlossRows;I[J)I"⟩
abbrev cL_remove : ByteArray := method_13_code
def yL_remove : MethodName := ⟨RL, "remove", "(LGlossRows;I[J)I"⟩
abbrev cL_end : ByteArray := method_14_code
def yL_end : MethodName := ⟨RL, "end", "(LGlossRows;I[J)I"⟩
abbrev cL_join : ByteArray := method_15_code
def yL_join : MethodName := ⟨RL, "join", "(LGlossRows;I[J)I"⟩
abbrev cL_setFree : ByteArray := method_16_code
def yL_setFree : MethodName := ⟨RL, "setFree", "(LGlossRows;I[J)I"⟩
abbrev cL_setGloss : ByteArray := method_17_code
def yL_setGloss : MethodName := ⟨RL, "setGloss", "(LGlossRows;II[J)I"⟩
abbrev cL_set : ByteArray := method_18_code
def yL_set : MethodName := ⟨RL, "set", "(LGlossRows;II[J)I"⟩
abbrev cL_learn : ByteArray := method_19_code
def yL_learn : MethodName := ⟨RL, "learn", "(LGlossRows;II[J)I"⟩
abbrev cL_forget : ByteArray := method_20_code
def yL_forget : MethodName := ⟨RL, "forget", "(LGlossRows;I[J)I"⟩
abbrev cL_undo : ByteArray := method_21_code
def yL_undo : MethodName := ⟨RL, "undo", "(LGlossRows;[J)I"⟩
abbrev cL_gap : ByteArray := method_22_code
def yL_gap : MethodName := ⟨RL, "gap", "(LGlossRows;I[J)I"⟩
abbrev cL_widthFor : ByteArray := method_23_code
def yL_widthFor : MethodName := ⟨RL, "widthFor", "(LGlossRows;I[J)I"⟩
abbrev cL_rowsWith : ByteArray := method_24_code
def yL_rowsWith : MethodName := ⟨RL, "rowsWith", "(LGlossRows;II[J)I"⟩
abbrev cL_runScript : ByteArray := method_25_code
def yL_runScript : MethodName := ⟨RL, "runScript", "(LGlossRows;IJ[J)I"⟩
abbrev cL_simulate : ByteArray := method_26_code
def yL_simulate : MethodName := ⟨RL, "simulate", "(LGlossRows;JI[J)I"⟩
abbrev cL_save : ByteArray := method_27_code
def yL_save : MethodName := ⟨RL, "save", "(LGlossRows;I[J)I"⟩
abbrev cL_restore : ByteArray := method_28_code
def yL_restore : MethodName := ⟨RL, "restore", "(LGlossRows;I[J)I"⟩
abbrev cL_law : ByteArray := code
def yL_law : MethodName := ⟨RL, "law", "([I)Z"⟩
abbrev vwCl : List vw_C := [(RX0, TX0, 3), (RX1, TX1, 7), (RX3, TX3, 3), (RX4, TX4, 6), (RX5, TX5, 5), (RX6, TX6, 2), (RX7, TX7, 7), (RX8, TX8, 8), (RX9, TX9, 22)]

/-! ===== the words: all good words of the tables in one list ===== -/
def kq_W : List Cond := lw_tbl.filter goodWord
theorem kq_of {w : Cond} (i : Nat) (h : tables_1[i]? = some w) (hg : goodWord w = true) : w ∈ kq_W := List.mem_filter.mpr ⟨List.mem_append_right _ (List.mem_of_getElem? h), hg⟩
theorem kq_sel {w : Cond} (i : Nat) (h : (k2_sels lw_privs)[i]? = some w) (hg : goodWord w = true) : w ∈ kq_W := List.mem_filter.mpr ⟨List.mem_append_left _ (List.mem_of_getElem? h), hg⟩
theorem kq_in {w : Cond} (h : w ∈ kq_W) : w ∈ lw_tbl := (List.mem_filter.mp h).1
theorem kq_good {w : Cond} (h : w ∈ kq_W) : (w.onTables && w.keeps) = true ∨ ∃ ty, w = .arrayClass ty := good_of_word (List.mem_filter.mp h).2
theorem kq_GoodIn : GoodIn lw_tbl kq_W := fun _ h => ⟨kq_in h, kq_good h⟩
end
section
theorem kq_0 : Jvm.Cond.initialized "GlossRowsLaw" ∈ kq_W := kq_of 0 (by decide +kernel) rfl
theorem kq_1 : Jvm.Cond.initialized "GlossRows" ∈ kq_W := kq_of 1 (by decide +kernel) rfl
theorem kq_2 : Jvm.Cond.initialized "GlossRows$Text" ∈ kq_W := kq_of 2 (by decide +kernel) rfl
theorem kq_3 : Jvm.Cond.initialized "GlossRows$Reader" ∈ kq_W := kq_of 3 (by decide +kernel) rfl
theorem kq_4 : Jvm.Cond.initialized "GlossRows$Word" ∈ kq_W := kq_of 4 (by decide +kernel) rfl
theorem kq_5 : Jvm.Cond.initialized "GlossRows$Page" ∈ kq_W := kq_of 5 (by decide +kernel) rfl
theorem kq_6 : Jvm.Cond.initialized "GlossRows$Lexicon" ∈ kq_W := kq_of 6 (by decide +kernel) rfl
theorem kq_7 : Jvm.Cond.initialized "GlossRows$Layout" ∈ kq_W := kq_of 7 (by decide +kernel) rfl
theorem kq_8 : Jvm.Cond.initialized "GlossRows$History" ∈ kq_W := kq_of 8 (by decide +kernel) rfl
theorem kq_9 : Jvm.Cond.initialized "GlossRowsModel" ∈ kq_W := kq_of 9 (by decide +kernel) rfl
theorem kq_10 : Jvm.Cond.initialized "java/lang/Throwable" ∈ kq_W := kq_of 10 (by decide +kernel) rfl
theorem kq_11 : Jvm.Cond.initialized "java/lang/Exception" ∈ kq_W := kq_of 11 (by decide +kernel) rfl
theorem kq_12 : Jvm.Cond.initialized "java/lang/RuntimeException" ∈ kq_W := kq_of 12 (by decide +kernel) rfl
theorem kq_13 : Jvm.Cond.initialized "java/lang/IllegalArgumentException" ∈ kq_W := kq_of 13 (by decide +kernel) rfl
theorem kq_14 : Jvm.Cond.initialized "java/lang/IllegalStateException" ∈ kq_W := kq_of 14 (by decide +kernel) rfl
theorem kq_15 : Jvm.Cond.initialized "GlossRows$Letters" ∈ kq_W := kq_of 15 (by decide +kernel) rfl
theorem kq_16 : Jvm.Cond.initialized "java/lang/Math" ∈ kq_W := kq_of 16 (by decide +kernel) rfl
theorem kq_17 : Jvm.Cond.initialized "java/lang/IndexOutOfBoundsException" ∈ kq_W := kq_of 17 (by decide +kernel) rfl
theorem kq_18 : Jvm.Cond.classLink "GlossRowsLaw" (8 : Nat) "GlossRows" ∈ kq_W := kq_of 18 (by decide +kernel) rfl
theorem kq_19 : Jvm.Cond.instantiable "GlossRows" (8 : Nat) ∈ kq_W := kq_of 19 (by decide +kernel) rfl
theorem kq_20 : Jvm.Cond.methodLink "GlossRowsLaw" (101 : Nat) ({ cls := "GlossRows", name := "<init>", desc := "()V" } : Jvm.MethodName) ∈ kq_W := kq_of 20 (by decide +kernel) rfl
theorem kq_21 : Jvm.Cond.instanceMethod ({ cls := "GlossRows", name := "<init>", desc := "()V" } : Jvm.MethodName) ∈ kq_W := kq_of 21 (by decide +kernel) rfl
theorem kq_22 : Jvm.Cond.code ({ cls := "GlossRows", name := "<init>", desc := "()V" } : Jvm.MethodName) prog_1_method_1_code (2 : Nat) (Option.none : Option Jvm.ClassFile.FieldType) ∈ kq_W := kq_of 22 (by decide +kernel) rfl
theorem kq_23 : Jvm.Cond.methodLink "GlossRows" (1 : Nat) ({ cls := "java/lang/Object", name := "<init>", desc := "()V" } : Jvm.MethodName) ∈ kq_W := kq_of 23 (by decide +kernel) rfl
theorem kq_24 : Jvm.Cond.instanceMethod ({ cls := "java/lang/Object", name := "<init>", desc := "()V" } : Jvm.MethodName) ∈ kq_W := kq_of 24 (by decide +kernel) rfl
theorem kq_25 : Jvm.Cond.code ({ cls := "java/lang/Object", name := "<init>", desc := "()V" } : Jvm.MethodName) object_method_1_code (1 : Nat) (Option.none : Option Jvm.ClassFile.FieldType) ∈ kq_W := kq_of 25 (by decide +kernel) rfl
theorem kq_26 : Jvm.Cond.classLink "GlossRows" (7 : Nat) "GlossRows$Text" ∈ kq_W := kq_of 26 (by decide +kernel) rfl
theorem kq_27 : Jvm.Cond.instantiable "GlossRows$Text" (2 : Nat) ∈ kq_W := kq_of 27 (by decide +kernel) rfl
theorem kq_29 : Jvm.Cond.instanceMethod ({ cls := "GlossRows$Text", name := "<init>", desc := "()V" } : Jvm.MethodName) ∈ kq_W := kq_of 29 (by decide +kernel) rfl
theorem kq_30 : Jvm.Cond.code ({ cls := "GlossRows$Text", name := "<init>", desc := "()V" } : Jvm.MethodName) prog_8_method_1_code (1 : Nat) (Option.none : Option Jvm.ClassFile.FieldType) ∈ kq_W := kq_of 30 (by decide +kernel) rfl
theorem kq_31 : Jvm.Cond.methodLink "GlossRows$Text" (3 : Nat) ({ cls := "java/lang/Object", name := "<init>", desc := "()V" } : Jvm.MethodName) ∈ kq_W := kq_of 31 (by decide +kernel) rfl
theorem kq_32 : Jvm.Cond.fieldLink "GlossRows$Text" (9 : Nat) "GlossRows$Text" "codes" "[I" ∈ kq_W := kq_of 32 (by decide +kernel) rfl
theorem kq_33 : Jvm.Cond.fieldLink "GlossRows$Reader" (34 : Nat) "GlossRows$Text" "codes" "[I" ∈ kq_W := kq_of 33 (by decide +kernel) rfl
theorem kq_34 : Jvm.Cond.fieldLink "GlossRows$Word" (50 : Nat) "GlossRows$Text" "codes" "[I" ∈ kq_W := kq_of 34 (by decide +kernel) rfl
theorem kq_35 : Jvm.Cond.fieldLink "GlossRows$Text" (15 : Nat) "GlossRows$Text" "length" "I" ∈ kq_W := kq_of 35 (by decide +kernel) rfl
theorem kq_36 : Jvm.Cond.fieldLink "GlossRows$Reader" (29 : Nat) "GlossRows$Text" "length" "I" ∈ kq_W := kq_of 36 (by decide +kernel) rfl
theorem kq_37 : Jvm.Cond.fieldLink "GlossRows" (62 : Nat) "GlossRows$Text" "length" "I" ∈ kq_W := kq_of 37 (by decide +kernel) rfl
theorem kq_38 : Jvm.Cond.fieldLink "GlossRows$Word" (39 : Nat) "GlossRows$Text" "length" "I" ∈ kq_W := kq_of 38 (by decide +kernel) rfl
theorem kq_39 : Jvm.Cond.laysFinal "GlossRows$Text" "GlossRows$Text" "codes" "[I" ∈ kq_W := kq_of 39 (by decide +kernel) rfl
theorem kq_41 : Jvm.Cond.lays "GlossRows$Text" "GlossRows$Text" "length" "I" ∈ kq_W := kq_of 41 (by decide +kernel) rfl
theorem kq_45 : Jvm.Cond.classLink "GlossRows" (16 : Nat) "GlossRows$Reader" ∈ kq_W := kq_of 45 (by decide +kernel) rfl
theorem kq_46 : Jvm.Cond.instantiable "GlossRows$Reader" (5 : Nat) ∈ kq_W := kq_of 46 (by decide +kernel) rfl
theorem kq_47 : Jvm.Cond.methodLink "GlossRows" (18 : Nat) ({ cls := "GlossRows$Reader", name := "<init>", desc := "()V" } : Jvm.MethodName) ∈ kq_W := kq_of 47 (by decide +kernel) rfl
theorem kq_48 : Jvm.Cond.instanceMethod ({ cls := "GlossRows$Reader", name := "<init>", desc := "()V" } : Jvm.MethodName) ∈ kq_W := kq_of 48 (by decide +kernel) rfl
theorem kq_49 : Jvm.Cond.code ({ cls := "GlossRows$Reader", name := "<init>", desc := "()V" } : Jvm.MethodName) prog_7_method_1_code (2 : Nat) (Option.none : Option Jvm.ClassFile.FieldType) ∈ kq_W := kq_of 49 (by decide +kernel) rfl
theorem kq_50 : Jvm.Cond.methodLink "GlossRows$Reader" (3 : Nat) ({ cls := "java/lang/Object", name := "<init>", desc := "()V" } : Jvm.MethodName) ∈ kq_W := kq_of 50 (by decide +kernel) rfl
theorem kq_51 : Jvm.Cond.classLink "GlossRows$Reader" (9 : Nat) "GlossRows$Word" ∈ kq_W := kq_of 51 (by decide +kernel) rfl
theorem kq_53 : Jvm.Cond.instantiable "GlossRows$Word" (7 : Nat) ∈ kq_W := kq_of 53 (by decide +kernel) rfl
theorem kq_55 : Jvm.Cond.instanceMethod ({ cls := "GlossRows$Word", name := "<init>", desc := "()V" } : Jvm.MethodName) ∈ kq_W := kq_of 55 (by decide +kernel) rfl
theorem kq_56 : Jvm.Cond.code ({ cls := "GlossRows$Word", name := "<init>", desc := "()V" } : Jvm.MethodName) prog_9_method_1_code (1 : Nat) (Option.none : Option Jvm.ClassFile.FieldType) ∈ kq_W := kq_of 56 (by decide +kernel) rfl
theorem kq_57 : Jvm.Cond.methodLink "GlossRows$Word" (3 : Nat) ({ cls := "java/lang/Object", name := "<init>", desc := "()V" } : Jvm.MethodName) ∈ kq_W := kq_of 57 (by decide +kernel) rfl
theorem kq_58 : Jvm.Cond.fieldLink "GlossRows$Word" (9 : Nat) "GlossRows$Word" "parts" "[J" ∈ kq_W := kq_of 58 (by decide +kernel) rfl
theorem kq_59 : Jvm.Cond.fieldLink "GlossRows" (178 : Nat) "GlossRows$Word" "parts" "[J" ∈ kq_W := kq_of 59 (by decide +kernel) rfl
theorem kq_60 : Jvm.Cond.fieldLink "GlossRows$Reader" (95 : Nat) "GlossRows$Word" "parts" "[J" ∈ kq_W := kq_of 60 (by decide +kernel) rfl
theorem kq_61 : Jvm.Cond.fieldLink "GlossRows$Page" (68 : Nat) "GlossRows$Word" "parts" "[J" ∈ kq_W := kq_of 61 (by decide +kernel) rfl
theorem kq_62 : Jvm.Cond.fieldLink "GlossRows$Word" (15 : Nat) "GlossRows$Word" "glosses" "[J" ∈ kq_W := kq_of 62 (by decide +kernel) rfl
theorem kq_63 : Jvm.Cond.fieldLink "GlossRows" (187 : Nat) "GlossRows$Word" "glosses" "[J" ∈ kq_W := kq_of 63 (by decide +kernel) rfl
theorem kq_64 : Jvm.Cond.fieldLink "GlossRows$Reader" (109 : Nat) "GlossRows$Word" "glosses" "[J" ∈ kq_W := kq_of 64 (by decide +kernel) rfl
theorem kq_65 : Jvm.Cond.fieldLink "GlossRows$Page" (64 : Nat) "GlossRows$Word" "glosses" "[J" ∈ kq_W := kq_of 65 (by decide +kernel) rfl
theorem kq_66 : Jvm.Cond.fieldLink "GlossRows$Word" (18 : Nat) "GlossRows$Word" "marks" "[I" ∈ kq_W := kq_of 66 (by decide +kernel) rfl
theorem kq_67 : Jvm.Cond.fieldLink "GlossRows$Reader" (89 : Nat) "GlossRows$Word" "marks" "[I" ∈ kq_W := kq_of 67 (by decide +kernel) rfl
theorem kq_68 : Jvm.Cond.fieldLink "GlossRows" (190 : Nat) "GlossRows$Word" "marks" "[I" ∈ kq_W := kq_of 68 (by decide +kernel) rfl
theorem kq_69 : Jvm.Cond.fieldLink "GlossRows$Word" (22 : Nat) "GlossRows$Word" "free" "[I" ∈ kq_W := kq_of 69 (by decide +kernel) rfl
theorem kq_70 : Jvm.Cond.fieldLink "GlossRows$Word" (25 : Nat) "GlossRows$Word" "size" "I" ∈ kq_W := kq_of 70 (by decide +kernel) rfl
theorem kq_71 : Jvm.Cond.fieldLink "GlossRows$Page" (55 : Nat) "GlossRows$Word" "size" "I" ∈ kq_W := kq_of 71 (by decide +kernel) rfl
theorem kq_72 : Jvm.Cond.fieldLink "GlossRows$Reader" (86 : Nat) "GlossRows$Word" "size" "I" ∈ kq_W := kq_of 72 (by decide +kernel) rfl
theorem kq_73 : Jvm.Cond.fieldLink "GlossRows" (148 : Nat) "GlossRows$Word" "size" "I" ∈ kq_W := kq_of 73 (by decide +kernel) rfl
theorem kq_74 : Jvm.Cond.fieldLink "GlossRows$Word" (29 : Nat) "GlossRows$Word" "freeLength" "I" ∈ kq_W := kq_of 74 (by decide +kernel) rfl
theorem kq_75 : Jvm.Cond.fieldLink "GlossRows$Layout" (56 : Nat) "GlossRows$Word" "freeLength" "I" ∈ kq_W := kq_of 75 (by decide +kernel) rfl
theorem kq_76 : Jvm.Cond.fieldLink "GlossRows" (169 : Nat) "GlossRows$Word" "freeLength" "I" ∈ kq_W := kq_of 76 (by decide +kernel) rfl
theorem kq_77 : Jvm.Cond.fieldLink "GlossRows$Word" (32 : Nat) "GlossRows$Word" "ended" "Z" ∈ kq_W := kq_of 77 (by decide +kernel) rfl
theorem kq_78 : Jvm.Cond.fieldLink "GlossRows$Layout" (52 : Nat) "GlossRows$Word" "ended" "Z" ∈ kq_W := kq_of 78 (by decide +kernel) rfl
theorem kq_79 : Jvm.Cond.fieldLink "GlossRows" (164 : Nat) "GlossRows$Word" "ended" "Z" ∈ kq_W := kq_of 79 (by decide +kernel) rfl
theorem kq_80 : Jvm.Cond.fieldLink "GlossRows$Page" (91 : Nat) "GlossRows$Word" "ended" "Z" ∈ kq_W := kq_of 80 (by decide +kernel) rfl
theorem kq_81 : Jvm.Cond.laysFinal "GlossRows$Word" "GlossRows$Word" "parts" "[J" ∈ kq_W := kq_of 81 (by decide +kernel) rfl
theorem kq_83 : Jvm.Cond.laysFinal "GlossRows$Word" "GlossRows$Word" "glosses" "[J" ∈ kq_W := kq_of 83 (by decide +kernel) rfl
theorem kq_85 : Jvm.Cond.laysFinal "GlossRows$Word" "GlossRows$Word" "marks" "[I" ∈ kq_W := kq_of 85 (by decide +kernel) rfl
theorem kq_87 : Jvm.Cond.laysFinal "GlossRows$Word" "GlossRows$Word" "free" "[I" ∈ kq_W := kq_of 87 (by decide +kernel) rfl
theorem kq_89 : Jvm.Cond.lays "GlossRows$Word" "GlossRows$Word" "size" "I" ∈ kq_W := kq_of 89 (by decide +kernel) rfl
theorem kq_91 : Jvm.Cond.lays "GlossRows$Word" "GlossRows$Word" "freeLength" "I" ∈ kq_W := kq_of 91 (by decide +kernel) rfl
theorem kq_93 : Jvm.Cond.lays "GlossRows$Word" "GlossRows$Word" "ended" "Z" ∈ kq_W := kq_of 93 (by decide +kernel) rfl
theorem kq_97 : Jvm.Cond.fieldLink "GlossRows$Reader" (11 : Nat) "GlossRows$Reader" "words" "[LGlossRows$Word;" ∈ kq_W := kq_of 97 (by decide +kernel) rfl
theorem kq_98 : Jvm.Cond.fieldLink "GlossRows$Page" (59 : Nat) "GlossRows$Reader" "words" "[LGlossRows$Word;" ∈ kq_W := kq_of 98 (by decide +kernel) rfl
theorem kq_99 : Jvm.Cond.fieldLink "GlossRows$Reader" (22 : Nat) "GlossRows$Reader" "count" "I" ∈ kq_W := kq_of 99 (by decide +kernel) rfl
theorem kq_100 : Jvm.Cond.fieldLink "GlossRows$Page" (56 : Nat) "GlossRows$Reader" "count" "I" ∈ kq_W := kq_of 100 (by decide +kernel) rfl
theorem kq_101 : Jvm.Cond.fieldLink "GlossRows" (233 : Nat) "GlossRows$Reader" "count" "I" ∈ kq_W := kq_of 101 (by decide +kernel) rfl
theorem kq_102 : Jvm.Cond.fieldLink "GlossRows$Reader" (18 : Nat) "GlossRows$Reader" "current" "LGlossRows$Word;" ∈ kq_W := kq_of 102 (by decide +kernel) rfl
theorem kq_103 : Jvm.Cond.fieldLink "GlossRows$Reader" (53 : Nat) "GlossRows$Reader" "inGlosses" "Z" ∈ kq_W := kq_of 103 (by decide +kernel) rfl
theorem kq_104 : Jvm.Cond.fieldLink "GlossRows$Reader" (57 : Nat) "GlossRows$Reader" "place" "I" ∈ kq_W := kq_of 104 (by decide +kernel) rfl
theorem kq_105 : Jvm.Cond.laysFinal "GlossRows$Reader" "GlossRows$Reader" "words" "[LGlossRows$Word;" ∈ kq_W := kq_of 105 (by decide +kernel) rfl
theorem kq_107 : Jvm.Cond.lays "GlossRows$Reader" "GlossRows$Reader" "count" "I" ∈ kq_W := kq_of 107 (by decide +kernel) rfl
theorem kq_109 : Jvm.Cond.lays "GlossRows$Reader" "GlossRows$Reader" "current" "LGlossRows$Word;" ∈ kq_W := kq_of 109 (by decide +kernel) rfl
theorem kq_111 : Jvm.Cond.lays "GlossRows$Reader" "GlossRows$Reader" "inGlosses" "Z" ∈ kq_W := kq_of 111 (by decide +kernel) rfl
theorem kq_113 : Jvm.Cond.lays "GlossRows$Reader" "GlossRows$Reader" "place" "I" ∈ kq_W := kq_of 113 (by decide +kernel) rfl
theorem kq_116 : Jvm.Cond.classLink "GlossRows" (23 : Nat) "GlossRows$Page" ∈ kq_W := kq_of 116 (by decide +kernel) rfl
theorem kq_117 : Jvm.Cond.instantiable "GlossRows$Page" (6 : Nat) ∈ kq_W := kq_of 117 (by decide +kernel) rfl
theorem kq_118 : Jvm.Cond.methodLink "GlossRows" (25 : Nat) ({ cls := "GlossRows$Page", name := "<init>", desc := "()V" } : Jvm.MethodName) ∈ kq_W := kq_of 118 (by decide +kernel) rfl
theorem kq_119 : Jvm.Cond.instanceMethod ({ cls := "GlossRows$Page", name := "<init>", desc := "()V" } : Jvm.MethodName) ∈ kq_W := kq_of 119 (by decide +kernel) rfl
theorem kq_120 : Jvm.Cond.code ({ cls := "GlossRows$Page", name := "<init>", desc := "()V" } : Jvm.MethodName) prog_6_method_1_code (2 : Nat) (Option.none : Option Jvm.ClassFile.FieldType) ∈ kq_W := kq_of 120 (by decide +kernel) rfl
theorem kq_121 : Jvm.Cond.methodLink "GlossRows$Page" (3 : Nat) ({ cls := "java/lang/Object", name := "<init>", desc := "()V" } : Jvm.MethodName) ∈ kq_W := kq_of 121 (by decide +kernel) rfl
theorem kq_122 : Jvm.Cond.classLink "GlossRows$Page" (9 : Nat) "GlossRows$Word" ∈ kq_W := kq_of 122 (by decide +kernel) rfl
theorem kq_123 : Jvm.Cond.classLink "GlossRows$Page" (17 : Nat) "GlossRows$Lexicon" ∈ kq_W := kq_of 123 (by decide +kernel) rfl
theorem kq_124 : Jvm.Cond.instantiable "GlossRows$Lexicon" (3 : Nat) ∈ kq_W := kq_of 124 (by decide +kernel) rfl
theorem kq_126 : Jvm.Cond.instanceMethod ({ cls := "GlossRows$Lexicon", name := "<init>", desc := "()V" } : Jvm.MethodName) ∈ kq_W := kq_of 126 (by decide +kernel) rfl
theorem kq_127 : Jvm.Cond.code ({ cls := "GlossRows$Lexicon", name := "<init>", desc := "()V" } : Jvm.MethodName) prog_5_method_1_code (1 : Nat) (Option.none : Option Jvm.ClassFile.FieldType) ∈ kq_W := kq_of 127 (by decide +kernel) rfl
theorem kq_128 : Jvm.Cond.methodLink "GlossRows$Lexicon" (3 : Nat) ({ cls := "java/lang/Object", name := "<init>", desc := "()V" } : Jvm.MethodName) ∈ kq_W := kq_of 128 (by decide +kernel) rfl
theorem kq_129 : Jvm.Cond.fieldLink "GlossRows$Lexicon" (9 : Nat) "GlossRows$Lexicon" "parts" "[J" ∈ kq_W := kq_of 129 (by decide +kernel) rfl
theorem kq_130 : Jvm.Cond.fieldLink "GlossRows" (209 : Nat) "GlossRows$Lexicon" "parts" "[J" ∈ kq_W := kq_of 130 (by decide +kernel) rfl
theorem kq_131 : Jvm.Cond.fieldLink "GlossRows$Lexicon" (15 : Nat) "GlossRows$Lexicon" "glosses" "[J" ∈ kq_W := kq_of 131 (by decide +kernel) rfl
theorem kq_132 : Jvm.Cond.fieldLink "GlossRows" (208 : Nat) "GlossRows$Lexicon" "glosses" "[J" ∈ kq_W := kq_of 132 (by decide +kernel) rfl
theorem kq_133 : Jvm.Cond.fieldLink "GlossRows$Page" (86 : Nat) "GlossRows$Lexicon" "glosses" "[J" ∈ kq_W := kq_of 133 (by decide +kernel) rfl
theorem kq_134 : Jvm.Cond.fieldLink "GlossRows$Lexicon" (18 : Nat) "GlossRows$Lexicon" "size" "I" ∈ kq_W := kq_of 134 (by decide +kernel) rfl
theorem kq_135 : Jvm.Cond.fieldLink "GlossRows$Page" (32 : Nat) "GlossRows$Lexicon" "size" "I" ∈ kq_W := kq_of 135 (by decide +kernel) rfl
theorem kq_136 : Jvm.Cond.fieldLink "GlossRows" (125 : Nat) "GlossRows$Lexicon" "size" "I" ∈ kq_W := kq_of 136 (by decide +kernel) rfl
theorem kq_137 : Jvm.Cond.laysFinal "GlossRows$Lexicon" "GlossRows$Lexicon" "parts" "[J" ∈ kq_W := kq_of 137 (by decide +kernel) rfl
theorem kq_139 : Jvm.Cond.laysFinal "GlossRows$Lexicon" "GlossRows$Lexicon" "glosses" "[J" ∈ kq_W := kq_of 139 (by decide +kernel) rfl
theorem kq_141 : Jvm.Cond.lays "GlossRows$Lexicon" "GlossRows$Lexicon" "size" "I" ∈ kq_W := kq_of 141 (by decide +kernel) rfl
theorem kq_145 : Jvm.Cond.methodLink "GlossRows$Page" (25 : Nat) ({ cls := "GlossRows$Page", name := "reset", desc := "()V" } : Jvm.MethodName) ∈ kq_W := kq_of 145 (by decide +kernel) rfl
theorem kq_146 : Jvm.Cond.instanceMethod ({ cls := "GlossRows$Page", name := "reset", desc := "()V" } : Jvm.MethodName) ∈ kq_W := kq_of 146 (by decide +kernel) rfl
theorem kq_147 : Jvm.Cond.selects "GlossRows$Page" ({ cls := "GlossRows$Page", name := "reset", desc := "()V" } : Jvm.MethodName) ({ cls := "GlossRows$Page", name := "reset", desc := "()V" } : Jvm.MethodName) ∈ kq_W := kq_of 147 (by decide +kernel) rfl
theorem kq_148 : Jvm.Cond.code ({ cls := "GlossRows$Page", name := "reset", desc := "()V" } : Jvm.MethodName) prog_6_method_2_code (1 : Nat) (Option.none : Option Jvm.ClassFile.FieldType) ∈ kq_W := kq_of 148 (by decide +kernel) rfl
theorem kq_149 : Jvm.Cond.fieldLink "GlossRows$Page" (11 : Nat) "GlossRows$Page" "words" "[LGlossRows$Word;" ∈ kq_W := kq_of 149 (by decide +kernel) rfl
theorem kq_150 : Jvm.Cond.fieldLink "GlossRows$Layout" (33 : Nat) "GlossRows$Page" "words" "[LGlossRows$Word;" ∈ kq_W := kq_of 150 (by decide +kernel) rfl
theorem kq_151 : Jvm.Cond.fieldLink "GlossRows" (144 : Nat) "GlossRows$Page" "words" "[LGlossRows$Word;" ∈ kq_W := kq_of 151 (by decide +kernel) rfl
theorem kq_152 : Jvm.Cond.fieldLink "GlossRows$Page" (20 : Nat) "GlossRows$Page" "lexicon" "LGlossRows$Lexicon;" ∈ kq_W := kq_of 152 (by decide +kernel) rfl
theorem kq_153 : Jvm.Cond.fieldLink "GlossRows" (121 : Nat) "GlossRows$Page" "lexicon" "LGlossRows$Lexicon;" ∈ kq_W := kq_of 153 (by decide +kernel) rfl
theorem kq_154 : Jvm.Cond.fieldLink "GlossRows$Page" (28 : Nat) "GlossRows$Page" "count" "I" ∈ kq_W := kq_of 154 (by decide +kernel) rfl
theorem kq_155 : Jvm.Cond.fieldLink "GlossRows$Layout" (27 : Nat) "GlossRows$Page" "count" "I" ∈ kq_W := kq_of 155 (by decide +kernel) rfl
theorem kq_156 : Jvm.Cond.fieldLink "GlossRows" (91 : Nat) "GlossRows$Page" "count" "I" ∈ kq_W := kq_of 156 (by decide +kernel) rfl
theorem kq_157 : Jvm.Cond.fieldLink "GlossRows$Page" (35 : Nat) "GlossRows$Page" "width" "I" ∈ kq_W := kq_of 157 (by decide +kernel) rfl
theorem kq_158 : Jvm.Cond.fieldLink "GlossRows" (114 : Nat) "GlossRows$Page" "width" "I" ∈ kq_W := kq_of 158 (by decide +kernel) rfl
theorem kq_159 : Jvm.Cond.fieldLink "GlossRows$Layout" (78 : Nat) "GlossRows$Page" "width" "I" ∈ kq_W := kq_of 159 (by decide +kernel) rfl
theorem kq_160 : Jvm.Cond.fieldLink "GlossRows$Page" (38 : Nat) "GlossRows$Page" "space" "I" ∈ kq_W := kq_of 160 (by decide +kernel) rfl
theorem kq_161 : Jvm.Cond.fieldLink "GlossRows$Layout" (49 : Nat) "GlossRows$Page" "space" "I" ∈ kq_W := kq_of 161 (by decide +kernel) rfl
theorem kq_162 : Jvm.Cond.fieldLink "GlossRows" (133 : Nat) "GlossRows$Page" "space" "I" ∈ kq_W := kq_of 162 (by decide +kernel) rfl
theorem kq_163 : Jvm.Cond.fieldLink "GlossRows$Page" (41 : Nat) "GlossRows$Page" "way" "I" ∈ kq_W := kq_of 163 (by decide +kernel) rfl
theorem kq_164 : Jvm.Cond.fieldLink "GlossRows" (136 : Nat) "GlossRows$Page" "way" "I" ∈ kq_W := kq_of 164 (by decide +kernel) rfl
theorem kq_165 : Jvm.Cond.fieldLink "GlossRows$Layout" (89 : Nat) "GlossRows$Page" "way" "I" ∈ kq_W := kq_of 165 (by decide +kernel) rfl
theorem kq_166 : Jvm.Cond.laysFinal "GlossRows$Page" "GlossRows$Page" "words" "[LGlossRows$Word;" ∈ kq_W := kq_of 166 (by decide +kernel) rfl
theorem kq_168 : Jvm.Cond.laysFinal "GlossRows$Page" "GlossRows$Page" "lexicon" "LGlossRows$Lexicon;" ∈ kq_W := kq_of 168 (by decide +kernel) rfl
theorem kq_170 : Jvm.Cond.lays "GlossRows$Page" "GlossRows$Page" "count" "I" ∈ kq_W := kq_of 170 (by decide +kernel) rfl
theorem kq_172 : Jvm.Cond.lays "GlossRows$Page" "GlossRows$Page" "width" "I" ∈ kq_W := kq_of 172 (by decide +kernel) rfl
theorem kq_174 : Jvm.Cond.lays "GlossRows$Page" "GlossRows$Page" "space" "I" ∈ kq_W := kq_of 174 (by decide +kernel) rfl
theorem kq_176 : Jvm.Cond.lays "GlossRows$Page" "GlossRows$Page" "way" "I" ∈ kq_W := kq_of 176 (by decide +kernel) rfl
theorem kq_179 : Jvm.Cond.classLink "GlossRows" (33 : Nat) "GlossRows$Layout" ∈ kq_W := kq_of 179 (by decide +kernel) rfl
theorem kq_180 : Jvm.Cond.instantiable "GlossRows$Layout" (7 : Nat) ∈ kq_W := kq_of 180 (by decide +kernel) rfl
theorem kq_182 : Jvm.Cond.instanceMethod ({ cls := "GlossRows$Layout", name := "<init>", desc := "()V" } : Jvm.MethodName) ∈ kq_W := kq_of 182 (by decide +kernel) rfl
theorem kq_183 : Jvm.Cond.code ({ cls := "GlossRows$Layout", name := "<init>", desc := "()V" } : Jvm.MethodName) prog_3_method_1_code (1 : Nat) (Option.none : Option Jvm.ClassFile.FieldType) ∈ kq_W := kq_of 183 (by decide +kernel) rfl
theorem kq_184 : Jvm.Cond.methodLink "GlossRows$Layout" (3 : Nat) ({ cls := "java/lang/Object", name := "<init>", desc := "()V" } : Jvm.MethodName) ∈ kq_W := kq_of 184 (by decide +kernel) rfl
theorem kq_185 : Jvm.Cond.fieldLink "GlossRows$Layout" (9 : Nat) "GlossRows$Layout" "lines" "[I" ∈ kq_W := kq_of 185 (by decide +kernel) rfl
theorem kq_186 : Jvm.Cond.fieldLink "GlossRows" (154 : Nat) "GlossRows$Layout" "lines" "[I" ∈ kq_W := kq_of 186 (by decide +kernel) rfl
theorem kq_187 : Jvm.Cond.fieldLink "GlossRows$Layout" (15 : Nat) "GlossRows$Layout" "columns" "[I" ∈ kq_W := kq_of 187 (by decide +kernel) rfl
theorem kq_188 : Jvm.Cond.fieldLink "GlossRows" (158 : Nat) "GlossRows$Layout" "columns" "[I" ∈ kq_W := kq_of 188 (by decide +kernel) rfl
theorem kq_189 : Jvm.Cond.fieldLink "GlossRows$Layout" (18 : Nat) "GlossRows$Layout" "sentences" "[I" ∈ kq_W := kq_of 189 (by decide +kernel) rfl
theorem kq_190 : Jvm.Cond.fieldLink "GlossRows" (161 : Nat) "GlossRows$Layout" "sentences" "[I" ∈ kq_W := kq_of 190 (by decide +kernel) rfl
theorem kq_191 : Jvm.Cond.fieldLink "GlossRows$Layout" (43 : Nat) "GlossRows$Layout" "lineCount" "I" ∈ kq_W := kq_of 191 (by decide +kernel) rfl
theorem kq_192 : Jvm.Cond.fieldLink "GlossRows" (108 : Nat) "GlossRows$Layout" "lineCount" "I" ∈ kq_W := kq_of 192 (by decide +kernel) rfl
theorem kq_193 : Jvm.Cond.fieldLink "GlossRows$Layout" (46 : Nat) "GlossRows$Layout" "rowCount" "I" ∈ kq_W := kq_of 193 (by decide +kernel) rfl
theorem kq_194 : Jvm.Cond.fieldLink "GlossRows" (111 : Nat) "GlossRows$Layout" "rowCount" "I" ∈ kq_W := kq_of 194 (by decide +kernel) rfl
theorem kq_195 : Jvm.Cond.fieldLink "GlossRows$Layout" (21 : Nat) "GlossRows$Layout" "widths" "[I" ∈ kq_W := kq_of 195 (by decide +kernel) rfl
theorem kq_196 : Jvm.Cond.fieldLink "GlossRows$Layout" (24 : Nat) "GlossRows$Layout" "firstRows" "[I" ∈ kq_W := kq_of 196 (by decide +kernel) rfl
theorem kq_197 : Jvm.Cond.laysFinal "GlossRows$Layout" "GlossRows$Layout" "lines" "[I" ∈ kq_W := kq_of 197 (by decide +kernel) rfl
theorem kq_199 : Jvm.Cond.laysFinal "GlossRows$Layout" "GlossRows$Layout" "columns" "[I" ∈ kq_W := kq_of 199 (by decide +kernel) rfl
theorem kq_201 : Jvm.Cond.laysFinal "GlossRows$Layout" "GlossRows$Layout" "sentences" "[I" ∈ kq_W := kq_of 201 (by decide +kernel) rfl
theorem kq_203 : Jvm.Cond.lays "GlossRows$Layout" "GlossRows$Layout" "lineCount" "I" ∈ kq_W := kq_of 203 (by decide +kernel) rfl
theorem kq_205 : Jvm.Cond.lays "GlossRows$Layout" "GlossRows$Layout" "rowCount" "I" ∈ kq_W := kq_of 205 (by decide +kernel) rfl
theorem kq_207 : Jvm.Cond.laysFinal "GlossRows$Layout" "GlossRows$Layout" "widths" "[I" ∈ kq_W := kq_of 207 (by decide +kernel) rfl
theorem kq_209 : Jvm.Cond.laysFinal "GlossRows$Layout" "GlossRows$Layout" "firstRows" "[I" ∈ kq_W := kq_of 209 (by decide +kernel) rfl
theorem kq_212 : Jvm.Cond.classLink "GlossRows" (40 : Nat) "GlossRows$History" ∈ kq_W := kq_of 212 (by decide +kernel) rfl
theorem kq_213 : Jvm.Cond.instantiable "GlossRows$History" (3 : Nat) ∈ kq_W := kq_of 213 (by decide +kernel) rfl
theorem kq_214 : Jvm.Cond.methodLink "GlossRows" (42 : Nat) ({ cls := "GlossRows$History", name := "<init>", desc := "()V" } : Jvm.MethodName) ∈ kq_W := kq_of 214 (by decide +kernel) rfl
theorem kq_215 : Jvm.Cond.instanceMethod ({ cls := "GlossRows$History", name := "<init>", desc := "()V" } : Jvm.MethodName) ∈ kq_W := kq_of 215 (by decide +kernel) rfl
theorem kq_216 : Jvm.Cond.code ({ cls := "GlossRows$History", name := "<init>", desc := "()V" } : Jvm.MethodName) prog_2_method_1_code (2 : Nat) (Option.none : Option Jvm.ClassFile.FieldType) ∈ kq_W := kq_of 216 (by decide +kernel) rfl
theorem kq_217 : Jvm.Cond.methodLink "GlossRows$History" (3 : Nat) ({ cls := "java/lang/Object", name := "<init>", desc := "()V" } : Jvm.MethodName) ∈ kq_W := kq_of 217 (by decide +kernel) rfl
theorem kq_218 : Jvm.Cond.classLink "GlossRows$History" (9 : Nat) "GlossRows$Page" ∈ kq_W := kq_of 218 (by decide +kernel) rfl
theorem kq_220 : Jvm.Cond.methodLink "GlossRows$History" (17 : Nat) ({ cls := "GlossRows$Page", name := "<init>", desc := "()V" } : Jvm.MethodName) ∈ kq_W := kq_of 220 (by decide +kernel) rfl
theorem kq_221 : Jvm.Cond.fieldLink "GlossRows$History" (11 : Nat) "GlossRows$History" "pages" "[LGlossRows$Page;" ∈ kq_W := kq_of 221 (by decide +kernel) rfl
theorem kq_222 : Jvm.Cond.fieldLink "GlossRows$History" (18 : Nat) "GlossRows$History" "count" "I" ∈ kq_W := kq_of 222 (by decide +kernel) rfl
theorem kq_223 : Jvm.Cond.fieldLink "GlossRows" (289 : Nat) "GlossRows$History" "count" "I" ∈ kq_W := kq_of 223 (by decide +kernel) rfl
theorem kq_224 : Jvm.Cond.fieldLink "GlossRows$History" (22 : Nat) "GlossRows$History" "oldest" "I" ∈ kq_W := kq_of 224 (by decide +kernel) rfl
theorem kq_225 : Jvm.Cond.laysFinal "GlossRows$History" "GlossRows$History" "pages" "[LGlossRows$Page;" ∈ kq_W := kq_of 225 (by decide +kernel) rfl
theorem kq_227 : Jvm.Cond.lays "GlossRows$History" "GlossRows$History" "count" "I" ∈ kq_W := kq_of 227 (by decide +kernel) rfl
theorem kq_229 : Jvm.Cond.lays "GlossRows$History" "GlossRows$History" "oldest" "I" ∈ kq_W := kq_of 229 (by decide +kernel) rfl
theorem kq_232 : Jvm.Cond.fieldLink "GlossRows" (10 : Nat) "GlossRows" "text" "LGlossRows$Text;" ∈ kq_W := kq_of 232 (by decide +kernel) rfl
theorem kq_233 : Jvm.Cond.fieldLink "GlossRows" (19 : Nat) "GlossRows" "reader" "LGlossRows$Reader;" ∈ kq_W := kq_of 233 (by decide +kernel) rfl
theorem kq_234 : Jvm.Cond.fieldLink "GlossRows" (26 : Nat) "GlossRows" "page" "LGlossRows$Page;" ∈ kq_W := kq_of 234 (by decide +kernel) rfl
theorem kq_235 : Jvm.Cond.fieldLink "GlossRows" (30 : Nat) "GlossRows" "trial" "LGlossRows$Page;" ∈ kq_W := kq_of 235 (by decide +kernel) rfl
theorem kq_236 : Jvm.Cond.fieldLink "GlossRows" (36 : Nat) "GlossRows" "layout" "LGlossRows$Layout;" ∈ kq_W := kq_of 236 (by decide +kernel) rfl
theorem kq_237 : Jvm.Cond.fieldLink "GlossRows" (43 : Nat) "GlossRows" "history" "LGlossRows$History;" ∈ kq_W := kq_of 237 (by decide +kernel) rfl
theorem kq_238 : Jvm.Cond.fieldLink "GlossRows" (47 : Nat) "GlossRows" "slots" "[LGlossRows$Page;" ∈ kq_W := kq_of 238 (by decide +kernel) rfl
theorem kq_239 : Jvm.Cond.fieldLink "GlossRows" (51 : Nat) "GlossRows" "saved" "[Z" ∈ kq_W := kq_of 239 (by decide +kernel) rfl
theorem kq_240 : Jvm.Cond.laysFinal "GlossRows" "GlossRows" "text" "LGlossRows$Text;" ∈ kq_W := kq_of 240 (by decide +kernel) rfl
theorem kq_242 : Jvm.Cond.laysFinal "GlossRows" "GlossRows" "reader" "LGlossRows$Reader;" ∈ kq_W := kq_of 242 (by decide +kernel) rfl
theorem kq_244 : Jvm.Cond.laysFinal "GlossRows" "GlossRows" "page" "LGlossRows$Page;" ∈ kq_W := kq_of 244 (by decide +kernel) rfl
theorem kq_246 : Jvm.Cond.laysFinal "GlossRows" "GlossRows" "trial" "LGlossRows$Page;" ∈ kq_W := kq_of 246 (by decide +kernel) rfl
theorem kq_248 : Jvm.Cond.laysFinal "GlossRows" "GlossRows" "layout" "LGlossRows$Layout;" ∈ kq_W := kq_of 248 (by decide +kernel) rfl
theorem kq_250 : Jvm.Cond.laysFinal "GlossRows" "GlossRows" "history" "LGlossRows$History;" ∈ kq_W := kq_of 250 (by decide +kernel) rfl
theorem kq_252 : Jvm.Cond.laysFinal "GlossRows" "GlossRows" "slots" "[LGlossRows$Page;" ∈ kq_W := kq_of 252 (by decide +kernel) rfl
theorem kq_254 : Jvm.Cond.laysFinal "GlossRows" "GlossRows" "saved" "[Z" ∈ kq_W := kq_of 254 (by decide +kernel) rfl
theorem kq_258 : Jvm.Cond.methodLink "GlossRowsLaw" (114 : Nat) ({ cls := "GlossRows", name := "clearText", desc := "()I" } : Jvm.MethodName) ∈ kq_W := kq_of 258 (by decide +kernel) rfl
theorem kq_259 : Jvm.Cond.instanceMethod ({ cls := "GlossRows", name := "clearText", desc := "()I" } : Jvm.MethodName) ∈ kq_W := kq_of 259 (by decide +kernel) rfl
theorem kq_260 : Jvm.Cond.selects "GlossRows" ({ cls := "GlossRows", name := "clearText", desc := "()I" } : Jvm.MethodName) ({ cls := "GlossRows", name := "clearText", desc := "()I" } : Jvm.MethodName) ∈ kq_W := kq_of 260 (by decide +kernel) rfl
theorem kq_261 : Jvm.Cond.code ({ cls := "GlossRows", name := "clearText", desc := "()I" } : Jvm.MethodName) prog_1_method_3_code (2 : Nat) (Option.some Jvm.ClassFile.FieldType.int) ∈ kq_W := kq_of 261 (by decide +kernel) rfl
theorem kq_262 : Jvm.Cond.methodLink "GlossRowsLaw" (118 : Nat) ({ cls := "GlossRows", name := "errorPosition", desc := "()I" } : Jvm.MethodName) ∈ kq_W := kq_of 262 (by decide +kernel) rfl
theorem kq_263 : Jvm.Cond.instanceMethod ({ cls := "GlossRows", name := "errorPosition", desc := "()I" } : Jvm.MethodName) ∈ kq_W := kq_of 263 (by decide +kernel) rfl
theorem kq_264 : Jvm.Cond.selects "GlossRows" ({ cls := "GlossRows", name := "errorPosition", desc := "()I" } : Jvm.MethodName) ({ cls := "GlossRows", name := "errorPosition", desc := "()I" } : Jvm.MethodName) ∈ kq_W := kq_of 264 (by decide +kernel) rfl
theorem kq_265 : Jvm.Cond.code ({ cls := "GlossRows", name := "errorPosition", desc := "()I" } : Jvm.MethodName) prog_1_method_4_code (1 : Nat) (Option.some Jvm.ClassFile.FieldType.int) ∈ kq_W := kq_of 265 (by decide +kernel) rfl
theorem kq_266 : Jvm.Cond.methodLink "GlossRows" (75 : Nat) ({ cls := "GlossRows$Reader", name := "read", desc := "(LGlossRows$Text;)I" } : Jvm.MethodName) ∈ kq_W := kq_of 266 (by decide +kernel) rfl
theorem kq_267 : Jvm.Cond.instanceMethod ({ cls := "GlossRows$Reader", name := "read", desc := "(LGlossRows$Text;)I" } : Jvm.MethodName) ∈ kq_W := kq_of 267 (by decide +kernel) rfl
theorem kq_268 : Jvm.Cond.selects "GlossRows$Reader" ({ cls := "GlossRows$Reader", name := "read", desc := "(LGlossRows$Text;)I" } : Jvm.MethodName) ({ cls := "GlossRows$Reader", name := "read", desc := "(LGlossRows$Text;)I" } : Jvm.MethodName) ∈ kq_W := kq_of 268 (by decide +kernel) rfl
theorem kq_269 : Jvm.Cond.code ({ cls := "GlossRows$Reader", name := "read", desc := "(LGlossRows$Text;)I" } : Jvm.MethodName) prog_7_method_2_code (3 : Nat) (Option.some Jvm.ClassFile.FieldType.int) ∈ kq_W := kq_of 269 (by decide +kernel) rfl
theorem kq_270 : Jvm.Cond.methodLink "GlossRows$Reader" (26 : Nat) ({ cls := "GlossRows$Reader", name := "openWord", desc := "()V" } : Jvm.MethodName) ∈ kq_W := kq_of 270 (by decide +kernel) rfl
theorem kq_272 : Jvm.Cond.instanceMethod ({ cls := "GlossRows$Reader", name := "openWord", desc := "()V" } : Jvm.MethodName) ∈ kq_W := kq_of 272 (by decide +kernel) rfl
theorem kq_273 : Jvm.Cond.code ({ cls := "GlossRows$Reader", name := "openWord", desc := "()V" } : Jvm.MethodName) prog_7_method_3_code (1 : Nat) (Option.none : Option Jvm.ClassFile.FieldType) ∈ kq_W := kq_of 273 (by decide +kernel) rfl
theorem kq_274 : Jvm.Cond.methodLink "GlossRows$Reader" (46 : Nat) ({ cls := "GlossRows$Word", name := "reset", desc := "()V" } : Jvm.MethodName) ∈ kq_W := kq_of 274 (by decide +kernel) rfl
theorem kq_275 : Jvm.Cond.instanceMethod ({ cls := "GlossRows$Word", name := "reset", desc := "()V" } : Jvm.MethodName) ∈ kq_W := kq_of 275 (by decide +kernel) rfl
theorem kq_276 : Jvm.Cond.selects "GlossRows$Word" ({ cls := "GlossRows$Word", name := "reset", desc := "()V" } : Jvm.MethodName) ({ cls := "GlossRows$Word", name := "reset", desc := "()V" } : Jvm.MethodName) ∈ kq_W := kq_of 276 (by decide +kernel) rfl
theorem kq_277 : Jvm.Cond.code ({ cls := "GlossRows$Word", name := "reset", desc := "()V" } : Jvm.MethodName) prog_9_method_2_code (1 : Nat) (Option.none : Option Jvm.ClassFile.FieldType) ∈ kq_W := kq_of 277 (by decide +kernel) rfl
theorem kq_278 : Jvm.Cond.methodLink "GlossRows$Reader" (49 : Nat) ({ cls := "GlossRows$Word", name := "openPart", desc := "(I)V" } : Jvm.MethodName) ∈ kq_W := kq_of 278 (by decide +kernel) rfl
theorem kq_279 : Jvm.Cond.instanceMethod ({ cls := "GlossRows$Word", name := "openPart", desc := "(I)V" } : Jvm.MethodName) ∈ kq_W := kq_of 279 (by decide +kernel) rfl
theorem kq_280 : Jvm.Cond.selects "GlossRows$Word" ({ cls := "GlossRows$Word", name := "openPart", desc := "(I)V" } : Jvm.MethodName) ({ cls := "GlossRows$Word", name := "openPart", desc := "(I)V" } : Jvm.MethodName) ∈ kq_W := kq_of 280 (by decide +kernel) rfl
theorem kq_281 : Jvm.Cond.code ({ cls := "GlossRows$Word", name := "openPart", desc := "(I)V" } : Jvm.MethodName) prog_9_method_4_code (2 : Nat) (Option.none : Option Jvm.ClassFile.FieldType) ∈ kq_W := kq_of 281 (by decide +kernel) rfl
theorem kq_282 : Jvm.Cond.methodLink "GlossRows$Reader" (38 : Nat) ({ cls := "GlossRows$Reader", name := "takes", desc := "(I)Z" } : Jvm.MethodName) ∈ kq_W := kq_of 282 (by decide +kernel) rfl
theorem kq_284 : Jvm.Cond.instanceMethod ({ cls := "GlossRows$Reader", name := "takes", desc := "(I)Z" } : Jvm.MethodName) ∈ kq_W := kq_of 284 (by decide +kernel) rfl
theorem kq_285 : Jvm.Cond.code ({ cls := "GlossRows$Reader", name := "takes", desc := "(I)Z" } : Jvm.MethodName) prog_7_method_4_code (2 : Nat) (Option.some Jvm.ClassFile.FieldType.boolean) ∈ kq_W := kq_of 285 (by decide +kernel) rfl
theorem kq_286 : Jvm.Cond.methodLink "GlossRows$Reader" (60 : Nat) ({ cls := "GlossRows$Reader", name := "takesBlank", desc := "()Z" } : Jvm.MethodName) ∈ kq_W := kq_of 286 (by decide +kernel) rfl
theorem kq_288 : Jvm.Cond.instanceMethod ({ cls := "GlossRows$Reader", name := "takesBlank", desc := "()Z" } : Jvm.MethodName) ∈ kq_W := kq_of 288 (by decide +kernel) rfl
theorem kq_289 : Jvm.Cond.code ({ cls := "GlossRows$Reader", name := "takesBlank", desc := "()Z" } : Jvm.MethodName) prog_7_method_5_code (1 : Nat) (Option.some Jvm.ClassFile.FieldType.boolean) ∈ kq_W := kq_of 289 (by decide +kernel) rfl
theorem kq_290 : Jvm.Cond.methodLink "GlossRows$Reader" (42 : Nat) ({ cls := "GlossRows$Reader", name := "isWordWhole", desc := "()Z" } : Jvm.MethodName) ∈ kq_W := kq_of 290 (by decide +kernel) rfl
theorem kq_292 : Jvm.Cond.instanceMethod ({ cls := "GlossRows$Reader", name := "isWordWhole", desc := "()Z" } : Jvm.MethodName) ∈ kq_W := kq_of 292 (by decide +kernel) rfl
theorem kq_293 : Jvm.Cond.code ({ cls := "GlossRows$Reader", name := "isWordWhole", desc := "()Z" } : Jvm.MethodName) prog_7_method_11_code (1 : Nat) (Option.some Jvm.ClassFile.FieldType.boolean) ∈ kq_W := kq_of 293 (by decide +kernel) rfl
theorem kq_294 : Jvm.Cond.methodLink "GlossRows$Reader" (83 : Nat) ({ cls := "GlossRows$Reader", name := "hasPartLetters", desc := "()Z" } : Jvm.MethodName) ∈ kq_W := kq_of 294 (by decide +kernel) rfl
theorem kq_296 : Jvm.Cond.instanceMethod ({ cls := "GlossRows$Reader", name := "hasPartLetters", desc := "()Z" } : Jvm.MethodName) ∈ kq_W := kq_of 296 (by decide +kernel) rfl
theorem kq_297 : Jvm.Cond.code ({ cls := "GlossRows$Reader", name := "hasPartLetters", desc := "()Z" } : Jvm.MethodName) prog_7_method_12_code (1 : Nat) (Option.some Jvm.ClassFile.FieldType.boolean) ∈ kq_W := kq_of 297 (by decide +kernel) rfl
theorem kq_298 : Jvm.Cond.methodLink "GlossRows$Reader" (99 : Nat) ({ cls := "GlossRows$Letters", name := "length", desc := "(J)I" } : Jvm.MethodName) ∈ kq_W := kq_of 298 (by decide +kernel) rfl
theorem kq_299 : Jvm.Cond.static ({ cls := "GlossRows$Letters", name := "length", desc := "(J)I" } : Jvm.MethodName) ∈ kq_W := kq_of 299 (by decide +kernel) rfl
theorem kq_300 : Jvm.Cond.code ({ cls := "GlossRows$Letters", name := "length", desc := "(J)I" } : Jvm.MethodName) prog_4_method_2_code (2 : Nat) (Option.some Jvm.ClassFile.FieldType.int) ∈ kq_W := kq_of 300 (by decide +kernel) rfl
theorem kq_301 : Jvm.Cond.constantLong "GlossRows$Letters" (9 : Nat) (15 : Int64) ∈ kq_W := kq_of 301 (by decide +kernel) rfl
theorem kq_302 : Jvm.Cond.methodLink "GlossRows$Reader" (63 : Nat) ({ cls := "GlossRows$Reader", name := "takesColon", desc := "()Z" } : Jvm.MethodName) ∈ kq_W := kq_of 302 (by decide +kernel) rfl
theorem kq_304 : Jvm.Cond.instanceMethod ({ cls := "GlossRows$Reader", name := "takesColon", desc := "()Z" } : Jvm.MethodName) ∈ kq_W := kq_of 304 (by decide +kernel) rfl
theorem kq_305 : Jvm.Cond.code ({ cls := "GlossRows$Reader", name := "takesColon", desc := "()Z" } : Jvm.MethodName) prog_7_method_6_code (1 : Nat) (Option.some Jvm.ClassFile.FieldType.boolean) ∈ kq_W := kq_of 305 (by decide +kernel) rfl
theorem kq_306 : Jvm.Cond.methodLink "GlossRows$Reader" (66 : Nat) ({ cls := "GlossRows$Letters", name := "isMark", desc := "(I)Z" } : Jvm.MethodName) ∈ kq_W := kq_of 306 (by decide +kernel) rfl
theorem kq_307 : Jvm.Cond.static ({ cls := "GlossRows$Letters", name := "isMark", desc := "(I)Z" } : Jvm.MethodName) ∈ kq_W := kq_of 307 (by decide +kernel) rfl
theorem kq_308 : Jvm.Cond.code ({ cls := "GlossRows$Letters", name := "isMark", desc := "(I)Z" } : Jvm.MethodName) prog_4_method_8_code (1 : Nat) (Option.some Jvm.ClassFile.FieldType.boolean) ∈ kq_W := kq_of 308 (by decide +kernel) rfl
theorem kq_309 : Jvm.Cond.methodLink "GlossRows$Reader" (71 : Nat) ({ cls := "GlossRows$Reader", name := "takesMarkOfGlosses", desc := "(I)Z" } : Jvm.MethodName) ∈ kq_W := kq_of 309 (by decide +kernel) rfl
theorem kq_311 : Jvm.Cond.instanceMethod ({ cls := "GlossRows$Reader", name := "takesMarkOfGlosses", desc := "(I)Z" } : Jvm.MethodName) ∈ kq_W := kq_of 311 (by decide +kernel) rfl
theorem kq_312 : Jvm.Cond.code ({ cls := "GlossRows$Reader", name := "takesMarkOfGlosses", desc := "(I)Z" } : Jvm.MethodName) prog_7_method_8_code (2 : Nat) (Option.some Jvm.ClassFile.FieldType.boolean) ∈ kq_W := kq_of 312 (by decide +kernel) rfl
theorem kq_313 : Jvm.Cond.methodLink "GlossRows$Reader" (74 : Nat) ({ cls := "GlossRows$Reader", name := "takesMarkOfParts", desc := "(I)Z" } : Jvm.MethodName) ∈ kq_W := kq_of 313 (by decide +kernel) rfl
theorem kq_315 : Jvm.Cond.instanceMethod ({ cls := "GlossRows$Reader", name := "takesMarkOfParts", desc := "(I)Z" } : Jvm.MethodName) ∈ kq_W := kq_of 315 (by decide +kernel) rfl
theorem kq_316 : Jvm.Cond.code ({ cls := "GlossRows$Reader", name := "takesMarkOfParts", desc := "(I)Z" } : Jvm.MethodName) prog_7_method_7_code (2 : Nat) (Option.some Jvm.ClassFile.FieldType.boolean) ∈ kq_W := kq_of 316 (by decide +kernel) rfl
theorem kq_317 : Jvm.Cond.methodLink "GlossRows$Reader" (77 : Nat) ({ cls := "GlossRows$Reader", name := "takesGlossLetter", desc := "(I)Z" } : Jvm.MethodName) ∈ kq_W := kq_of 317 (by decide +kernel) rfl
theorem kq_319 : Jvm.Cond.instanceMethod ({ cls := "GlossRows$Reader", name := "takesGlossLetter", desc := "(I)Z" } : Jvm.MethodName) ∈ kq_W := kq_of 319 (by decide +kernel) rfl
theorem kq_320 : Jvm.Cond.code ({ cls := "GlossRows$Reader", name := "takesGlossLetter", desc := "(I)Z" } : Jvm.MethodName) prog_7_method_10_code (2 : Nat) (Option.some Jvm.ClassFile.FieldType.boolean) ∈ kq_W := kq_of 320 (by decide +kernel) rfl
theorem kq_321 : Jvm.Cond.methodLink "GlossRows$Reader" (106 : Nat) ({ cls := "GlossRows$Letters", name := "isGlossLetter", desc := "(I)Z" } : Jvm.MethodName) ∈ kq_W := kq_of 321 (by decide +kernel) rfl
theorem kq_322 : Jvm.Cond.static ({ cls := "GlossRows$Letters", name := "isGlossLetter", desc := "(I)Z" } : Jvm.MethodName) ∈ kq_W := kq_of 322 (by decide +kernel) rfl
theorem kq_323 : Jvm.Cond.code ({ cls := "GlossRows$Letters", name := "isGlossLetter", desc := "(I)Z" } : Jvm.MethodName) prog_4_method_7_code (1 : Nat) (Option.some Jvm.ClassFile.FieldType.boolean) ∈ kq_W := kq_of 323 (by decide +kernel) rfl
theorem kq_324 : Jvm.Cond.methodLink "GlossRows$Letters" (21 : Nat) ({ cls := "GlossRows$Letters", name := "isLetter", desc := "(I)Z" } : Jvm.MethodName) ∈ kq_W := kq_of 324 (by decide +kernel) rfl
theorem kq_325 : Jvm.Cond.static ({ cls := "GlossRows$Letters", name := "isLetter", desc := "(I)Z" } : Jvm.MethodName) ∈ kq_W := kq_of 325 (by decide +kernel) rfl
theorem kq_326 : Jvm.Cond.code ({ cls := "GlossRows$Letters", name := "isLetter", desc := "(I)Z" } : Jvm.MethodName) prog_4_method_6_code (1 : Nat) (Option.some Jvm.ClassFile.FieldType.boolean) ∈ kq_W := kq_of 326 (by decide +kernel) rfl
theorem kq_327 : Jvm.Cond.methodLink "GlossRows$Reader" (102 : Nat) ({ cls := "GlossRows$Letters", name := "with", desc := "(JI)J" } : Jvm.MethodName) ∈ kq_W := kq_of 327 (by decide +kernel) rfl
theorem kq_328 : Jvm.Cond.static ({ cls := "GlossRows$Letters", name := "with", desc := "(JI)J" } : Jvm.MethodName) ∈ kq_W := kq_of 328 (by decide +kernel) rfl
theorem kq_329 : Jvm.Cond.code ({ cls := "GlossRows$Letters", name := "with", desc := "(JI)J" } : Jvm.MethodName) prog_4_method_4_code (4 : Nat) (Option.some Jvm.ClassFile.FieldType.long) ∈ kq_W := kq_of 329 (by decide +kernel) rfl
theorem kq_330 : Jvm.Cond.methodLink "GlossRows$Letters" (11 : Nat) ({ cls := "GlossRows$Letters", name := "length", desc := "(J)I" } : Jvm.MethodName) ∈ kq_W := kq_of 330 (by decide +kernel) rfl
theorem kq_331 : Jvm.Cond.methodLink "GlossRows$Letters" (17 : Nat) ({ cls := "GlossRows$Letters", name := "placeOf", desc := "(I)I" } : Jvm.MethodName) ∈ kq_W := kq_of 331 (by decide +kernel) rfl
theorem kq_332 : Jvm.Cond.static ({ cls := "GlossRows$Letters", name := "placeOf", desc := "(I)I" } : Jvm.MethodName) ∈ kq_W := kq_of 332 (by decide +kernel) rfl
theorem kq_333 : Jvm.Cond.code ({ cls := "GlossRows$Letters", name := "placeOf", desc := "(I)I" } : Jvm.MethodName) prog_4_method_5_code (1 : Nat) (Option.some Jvm.ClassFile.FieldType.int) ∈ kq_W := kq_of 333 (by decide +kernel) rfl
theorem kq_334 : Jvm.Cond.methodLink "GlossRows$Reader" (80 : Nat) ({ cls := "GlossRows$Reader", name := "takesLetter", desc := "(I)Z" } : Jvm.MethodName) ∈ kq_W := kq_of 334 (by decide +kernel) rfl
theorem kq_336 : Jvm.Cond.instanceMethod ({ cls := "GlossRows$Reader", name := "takesLetter", desc := "(I)Z" } : Jvm.MethodName) ∈ kq_W := kq_of 336 (by decide +kernel) rfl
theorem kq_337 : Jvm.Cond.code ({ cls := "GlossRows$Reader", name := "takesLetter", desc := "(I)Z" } : Jvm.MethodName) prog_7_method_9_code (2 : Nat) (Option.some Jvm.ClassFile.FieldType.boolean) ∈ kq_W := kq_of 337 (by decide +kernel) rfl
theorem kq_338 : Jvm.Cond.methodLink "GlossRows$Reader" (92 : Nat) ({ cls := "GlossRows$Letters", name := "isLetter", desc := "(I)Z" } : Jvm.MethodName) ∈ kq_W := kq_of 338 (by decide +kernel) rfl
theorem kq_339 : Jvm.Cond.methodLink "GlossRowsLaw" (178 : Nat) ({ cls := "GlossRows", name := "fillGaps", desc := "()I" } : Jvm.MethodName) ∈ kq_W := kq_of 339 (by decide +kernel) rfl
theorem kq_340 : Jvm.Cond.instanceMethod ({ cls := "GlossRows", name := "fillGaps", desc := "()I" } : Jvm.MethodName) ∈ kq_W := kq_of 340 (by decide +kernel) rfl
theorem kq_341 : Jvm.Cond.selects "GlossRows" ({ cls := "GlossRows", name := "fillGaps", desc := "()I" } : Jvm.MethodName) ({ cls := "GlossRows", name := "fillGaps", desc := "()I" } : Jvm.MethodName) ∈ kq_W := kq_of 341 (by decide +kernel) rfl
theorem kq_342 : Jvm.Cond.code ({ cls := "GlossRows", name := "fillGaps", desc := "()I" } : Jvm.MethodName) prog_1_method_22_code (1 : Nat) (Option.some Jvm.ClassFile.FieldType.int) ∈ kq_W := kq_of 342 (by decide +kernel) rfl
theorem kq_343 : Jvm.Cond.methodLink "GlossRows" (236 : Nat) ({ cls := "GlossRows$History", name := "remember", desc := "(LGlossRows$Page;)V" } : Jvm.MethodName) ∈ kq_W := kq_of 343 (by decide +kernel) rfl
theorem kq_344 : Jvm.Cond.instanceMethod ({ cls := "GlossRows$History", name := "remember", desc := "(LGlossRows$Page;)V" } : Jvm.MethodName) ∈ kq_W := kq_of 344 (by decide +kernel) rfl
theorem kq_345 : Jvm.Cond.selects "GlossRows$History" ({ cls := "GlossRows$History", name := "remember", desc := "(LGlossRows$Page;)V" } : Jvm.MethodName) ({ cls := "GlossRows$History", name := "remember", desc := "(LGlossRows$Page;)V" } : Jvm.MethodName) ∈ kq_W := kq_of 345 (by decide +kernel) rfl
theorem kq_346 : Jvm.Cond.code ({ cls := "GlossRows$History", name := "remember", desc := "(LGlossRows$Page;)V" } : Jvm.MethodName) prog_2_method_3_code (2 : Nat) (Option.none : Option Jvm.ClassFile.FieldType) ∈ kq_W := kq_of 346 (by decide +kernel) rfl
theorem kq_347 : Jvm.Cond.methodLink "GlossRows$History" (25 : Nat) ({ cls := "GlossRows$Page", name := "copyFrom", desc := "(LGlossRows$Page;)V" } : Jvm.MethodName) ∈ kq_W := kq_of 347 (by decide +kernel) rfl
theorem kq_348 : Jvm.Cond.instanceMethod ({ cls := "GlossRows$Page", name := "copyFrom", desc := "(LGlossRows$Page;)V" } : Jvm.MethodName) ∈ kq_W := kq_of 348 (by decide +kernel) rfl
theorem kq_349 : Jvm.Cond.selects "GlossRows$Page" ({ cls := "GlossRows$Page", name := "copyFrom", desc := "(LGlossRows$Page;)V" } : Jvm.MethodName) ({ cls := "GlossRows$Page", name := "copyFrom", desc := "(LGlossRows$Page;)V" } : Jvm.MethodName) ∈ kq_W := kq_of 349 (by decide +kernel) rfl
theorem kq_350 : Jvm.Cond.code ({ cls := "GlossRows$Page", name := "copyFrom", desc := "(LGlossRows$Page;)V" } : Jvm.MethodName) prog_6_method_3_code (3 : Nat) (Option.none : Option Jvm.ClassFile.FieldType) ∈ kq_W := kq_of 350 (by decide +kernel) rfl
theorem kq_351 : Jvm.Cond.methodLink "GlossRows$Page" (44 : Nat) ({ cls := "GlossRows$Word", name := "copyFrom", desc := "(LGlossRows$Word;)V" } : Jvm.MethodName) ∈ kq_W := kq_of 351 (by decide +kernel) rfl
theorem kq_352 : Jvm.Cond.instanceMethod ({ cls := "GlossRows$Word", name := "copyFrom", desc := "(LGlossRows$Word;)V" } : Jvm.MethodName) ∈ kq_W := kq_of 352 (by decide +kernel) rfl
theorem kq_353 : Jvm.Cond.selects "GlossRows$Word" ({ cls := "GlossRows$Word", name := "copyFrom", desc := "(LGlossRows$Word;)V" } : Jvm.MethodName) ({ cls := "GlossRows$Word", name := "copyFrom", desc := "(LGlossRows$Word;)V" } : Jvm.MethodName) ∈ kq_W := kq_of 353 (by decide +kernel) rfl
theorem kq_354 : Jvm.Cond.code ({ cls := "GlossRows$Word", name := "copyFrom", desc := "(LGlossRows$Word;)V" } : Jvm.MethodName) prog_9_method_3_code (3 : Nat) (Option.none : Option Jvm.ClassFile.FieldType) ∈ kq_W := kq_of 354 (by decide +kernel) rfl
theorem kq_355 : Jvm.Cond.methodLink "GlossRows$Page" (48 : Nat) ({ cls := "GlossRows$Lexicon", name := "copyFrom", desc := "(LGlossRows$Lexicon;)V" } : Jvm.MethodName) ∈ kq_W := kq_of 355 (by decide +kernel) rfl
theorem kq_356 : Jvm.Cond.instanceMethod ({ cls := "GlossRows$Lexicon", name := "copyFrom", desc := "(LGlossRows$Lexicon;)V" } : Jvm.MethodName) ∈ kq_W := kq_of 356 (by decide +kernel) rfl
theorem kq_357 : Jvm.Cond.selects "GlossRows$Lexicon" ({ cls := "GlossRows$Lexicon", name := "copyFrom", desc := "(LGlossRows$Lexicon;)V" } : Jvm.MethodName) ({ cls := "GlossRows$Lexicon", name := "copyFrom", desc := "(LGlossRows$Lexicon;)V" } : Jvm.MethodName) ∈ kq_W := kq_of 357 (by decide +kernel) rfl
theorem kq_358 : Jvm.Cond.code ({ cls := "GlossRows$Lexicon", name := "copyFrom", desc := "(LGlossRows$Lexicon;)V" } : Jvm.MethodName) prog_5_method_2_code (3 : Nat) (Option.none : Option Jvm.ClassFile.FieldType) ∈ kq_W := kq_of 358 (by decide +kernel) rfl
theorem kq_359 : Jvm.Cond.methodLink "GlossRows" (286 : Nat) ({ cls := "GlossRows$Page", name := "fill", desc := "()I" } : Jvm.MethodName) ∈ kq_W := kq_of 359 (by decide +kernel) rfl
theorem kq_360 : Jvm.Cond.instanceMethod ({ cls := "GlossRows$Page", name := "fill", desc := "()I" } : Jvm.MethodName) ∈ kq_W := kq_of 360 (by decide +kernel) rfl
theorem kq_361 : Jvm.Cond.selects "GlossRows$Page" ({ cls := "GlossRows$Page", name := "fill", desc := "()I" } : Jvm.MethodName) ({ cls := "GlossRows$Page", name := "fill", desc := "()I" } : Jvm.MethodName) ∈ kq_W := kq_of 361 (by decide +kernel) rfl
theorem kq_362 : Jvm.Cond.code ({ cls := "GlossRows$Page", name := "fill", desc := "()I" } : Jvm.MethodName) prog_6_method_12_code (5 : Nat) (Option.some Jvm.ClassFile.FieldType.int) ∈ kq_W := kq_of 362 (by decide +kernel) rfl
theorem kq_363 : Jvm.Cond.methodLink "GlossRows$Page" (82 : Nat) ({ cls := "GlossRows$Lexicon", name := "find", desc := "(J)I" } : Jvm.MethodName) ∈ kq_W := kq_of 363 (by decide +kernel) rfl
theorem kq_364 : Jvm.Cond.instanceMethod ({ cls := "GlossRows$Lexicon", name := "find", desc := "(J)I" } : Jvm.MethodName) ∈ kq_W := kq_of 364 (by decide +kernel) rfl
theorem kq_365 : Jvm.Cond.selects "GlossRows$Lexicon" ({ cls := "GlossRows$Lexicon", name := "find", desc := "(J)I" } : Jvm.MethodName) ({ cls := "GlossRows$Lexicon", name := "find", desc := "(J)I" } : Jvm.MethodName) ∈ kq_W := kq_of 365 (by decide +kernel) rfl
theorem kq_366 : Jvm.Cond.code ({ cls := "GlossRows$Lexicon", name := "find", desc := "(J)I" } : Jvm.MethodName) prog_5_method_3_code (4 : Nat) (Option.some Jvm.ClassFile.FieldType.int) ∈ kq_W := kq_of 366 (by decide +kernel) rfl
theorem kq_367 : Jvm.Cond.methodLink "GlossRowsLaw" (188 : Nat) ({ cls := "GlossRows", name := "mostUsed", desc := "()I" } : Jvm.MethodName) ∈ kq_W := kq_of 367 (by decide +kernel) rfl
theorem kq_368 : Jvm.Cond.instanceMethod ({ cls := "GlossRows", name := "mostUsed", desc := "()I" } : Jvm.MethodName) ∈ kq_W := kq_of 368 (by decide +kernel) rfl
theorem kq_369 : Jvm.Cond.selects "GlossRows" ({ cls := "GlossRows", name := "mostUsed", desc := "()I" } : Jvm.MethodName) ({ cls := "GlossRows", name := "mostUsed", desc := "()I" } : Jvm.MethodName) ∈ kq_W := kq_of 369 (by decide +kernel) rfl
theorem kq_370 : Jvm.Cond.code ({ cls := "GlossRows", name := "mostUsed", desc := "()I" } : Jvm.MethodName) prog_1_method_25_code (1 : Nat) (Option.some Jvm.ClassFile.FieldType.int) ∈ kq_W := kq_of 370 (by decide +kernel) rfl
theorem kq_371 : Jvm.Cond.methodLink "GlossRows" (298 : Nat) ({ cls := "GlossRows$Page", name := "placeOfMostUsed", desc := "()I" } : Jvm.MethodName) ∈ kq_W := kq_of 371 (by decide +kernel) rfl
theorem kq_372 : Jvm.Cond.instanceMethod ({ cls := "GlossRows$Page", name := "placeOfMostUsed", desc := "()I" } : Jvm.MethodName) ∈ kq_W := kq_of 372 (by decide +kernel) rfl
theorem kq_373 : Jvm.Cond.selects "GlossRows$Page" ({ cls := "GlossRows$Page", name := "placeOfMostUsed", desc := "()I" } : Jvm.MethodName) ({ cls := "GlossRows$Page", name := "placeOfMostUsed", desc := "()I" } : Jvm.MethodName) ∈ kq_W := kq_of 373 (by decide +kernel) rfl
theorem kq_374 : Jvm.Cond.code ({ cls := "GlossRows$Page", name := "placeOfMostUsed", desc := "()I" } : Jvm.MethodName) prog_6_method_18_code (10 : Nat) (Option.some Jvm.ClassFile.FieldType.int) ∈ kq_W := kq_of 374 (by decide +kernel) rfl
theorem kq_375 : Jvm.Cond.methodLink "GlossRows$Page" (95 : Nat) ({ cls := "GlossRows$Page", name := "countUses", desc := "(J)I" } : Jvm.MethodName) ∈ kq_W := kq_of 375 (by decide +kernel) rfl
theorem kq_377 : Jvm.Cond.instanceMethod ({ cls := "GlossRows$Page", name := "countUses", desc := "(J)I" } : Jvm.MethodName) ∈ kq_W := kq_of 377 (by decide +kernel) rfl
theorem kq_378 : Jvm.Cond.code ({ cls := "GlossRows$Page", name := "countUses", desc := "(J)I" } : Jvm.MethodName) prog_6_method_19_code (6 : Nat) (Option.some Jvm.ClassFile.FieldType.int) ∈ kq_W := kq_of 378 (by decide +kernel) rfl
theorem kq_379 : Jvm.Cond.methodLink "GlossRowsLaw" (195 : Nat) ({ cls := "GlossRows", name := "empty", desc := "()I" } : Jvm.MethodName) ∈ kq_W := kq_of 379 (by decide +kernel) rfl
theorem kq_380 : Jvm.Cond.instanceMethod ({ cls := "GlossRows", name := "empty", desc := "()I" } : Jvm.MethodName) ∈ kq_W := kq_of 380 (by decide +kernel) rfl
theorem kq_381 : Jvm.Cond.selects "GlossRows" ({ cls := "GlossRows", name := "empty", desc := "()I" } : Jvm.MethodName) ({ cls := "GlossRows", name := "empty", desc := "()I" } : Jvm.MethodName) ∈ kq_W := kq_of 381 (by decide +kernel) rfl
theorem kq_382 : Jvm.Cond.code ({ cls := "GlossRows", name := "empty", desc := "()I" } : Jvm.MethodName) prog_1_method_27_code (1 : Nat) (Option.some Jvm.ClassFile.FieldType.int) ∈ kq_W := kq_of 382 (by decide +kernel) rfl
theorem kq_383 : Jvm.Cond.methodLink "GlossRows" (104 : Nat) ({ cls := "GlossRows", name := "arranged", desc := "(LGlossRows$Page;)LGlossRows$Layout;" } : Jvm.MethodName) ∈ kq_W := kq_of 383 (by decide +kernel) rfl
theorem kq_385 : Jvm.Cond.instanceMethod ({ cls := "GlossRows", name := "arranged", desc := "(LGlossRows$Page;)LGlossRows$Layout;" } : Jvm.MethodName) ∈ kq_W := kq_of 385 (by decide +kernel) rfl
theorem kq_386 : Jvm.Cond.code ({ cls := "GlossRows", name := "arranged", desc := "(LGlossRows$Page;)LGlossRows$Layout;" } : Jvm.MethodName) prog_1_method_39_code (2 : Nat) (Option.some (Jvm.ClassFile.FieldType.object "GlossRows$Layout")) ∈ kq_W := kq_of 386 (by decide +kernel) rfl
theorem kq_387 : Jvm.Cond.methodLink "GlossRows" (303 : Nat) ({ cls := "GlossRows$Layout", name := "measure", desc := "(LGlossRows$Page;I)V" } : Jvm.MethodName) ∈ kq_W := kq_of 387 (by decide +kernel) rfl
theorem kq_388 : Jvm.Cond.instanceMethod ({ cls := "GlossRows$Layout", name := "measure", desc := "(LGlossRows$Page;I)V" } : Jvm.MethodName) ∈ kq_W := kq_of 388 (by decide +kernel) rfl
theorem kq_389 : Jvm.Cond.selects "GlossRows$Layout" ({ cls := "GlossRows$Layout", name := "measure", desc := "(LGlossRows$Page;I)V" } : Jvm.MethodName) ({ cls := "GlossRows$Layout", name := "measure", desc := "(LGlossRows$Page;I)V" } : Jvm.MethodName) ∈ kq_W := kq_of 389 (by decide +kernel) rfl
theorem kq_390 : Jvm.Cond.code ({ cls := "GlossRows$Layout", name := "measure", desc := "(LGlossRows$Page;I)V" } : Jvm.MethodName) prog_3_method_2_code (4 : Nat) (Option.none : Option Jvm.ClassFile.FieldType) ∈ kq_W := kq_of 390 (by decide +kernel) rfl
theorem kq_391 : Jvm.Cond.methodLink "GlossRows$Layout" (37 : Nat) ({ cls := "GlossRows$Word", name := "width", desc := "(I)I" } : Jvm.MethodName) ∈ kq_W := kq_of 391 (by decide +kernel) rfl
theorem kq_392 : Jvm.Cond.instanceMethod ({ cls := "GlossRows$Word", name := "width", desc := "(I)I" } : Jvm.MethodName) ∈ kq_W := kq_of 392 (by decide +kernel) rfl
theorem kq_393 : Jvm.Cond.selects "GlossRows$Word" ({ cls := "GlossRows$Word", name := "width", desc := "(I)I" } : Jvm.MethodName) ({ cls := "GlossRows$Word", name := "width", desc := "(I)I" } : Jvm.MethodName) ∈ kq_W := kq_of 393 (by decide +kernel) rfl
theorem kq_394 : Jvm.Cond.code ({ cls := "GlossRows$Word", name := "width", desc := "(I)I" } : Jvm.MethodName) prog_9_method_9_code (8 : Nat) (Option.some Jvm.ClassFile.FieldType.int) ∈ kq_W := kq_of 394 (by decide +kernel) rfl
theorem kq_395 : Jvm.Cond.methodLink "GlossRows$Word" (53 : Nat) ({ cls := "GlossRows$Letters", name := "length", desc := "(J)I" } : Jvm.MethodName) ∈ kq_W := kq_of 395 (by decide +kernel) rfl
theorem kq_396 : Jvm.Cond.methodLink "GlossRows$Word" (58 : Nat) ({ cls := "GlossRows$Word", name := "shownGloss", desc := "(I)J" } : Jvm.MethodName) ∈ kq_W := kq_of 396 (by decide +kernel) rfl
theorem kq_398 : Jvm.Cond.instanceMethod ({ cls := "GlossRows$Word", name := "shownGloss", desc := "(I)J" } : Jvm.MethodName) ∈ kq_W := kq_of 398 (by decide +kernel) rfl
theorem kq_399 : Jvm.Cond.code ({ cls := "GlossRows$Word", name := "shownGloss", desc := "(I)J" } : Jvm.MethodName) prog_9_method_12_code (2 : Nat) (Option.some Jvm.ClassFile.FieldType.long) ∈ kq_W := kq_of 399 (by decide +kernel) rfl
theorem kq_400 : Jvm.Cond.methodLink "GlossRows$Word" (69 : Nat) ({ cls := "GlossRows$Letters", name := "with", desc := "(JI)J" } : Jvm.MethodName) ∈ kq_W := kq_of 400 (by decide +kernel) rfl
theorem kq_401 : Jvm.Cond.methodLink "GlossRows$Word" (62 : Nat) ({ cls := "java/lang/Math", name := "max", desc := "(II)I" } : Jvm.MethodName) ∈ kq_W := kq_of 401 (by decide +kernel) rfl
theorem kq_402 : Jvm.Cond.static ({ cls := "java/lang/Math", name := "max", desc := "(II)I" } : Jvm.MethodName) ∈ kq_W := kq_of 402 (by decide +kernel) rfl
theorem kq_403 : Jvm.Cond.code ({ cls := "java/lang/Math", name := "max", desc := "(II)I" } : Jvm.MethodName) prog_16_method_65_code (2 : Nat) (Option.some Jvm.ClassFile.FieldType.int) ∈ kq_W := kq_of 403 (by decide +kernel) rfl
theorem kq_404 : Jvm.Cond.methodLink "GlossRows" (307 : Nat) ({ cls := "GlossRows$Layout", name := "wrap", desc := "(LGlossRows$Page;I)V" } : Jvm.MethodName) ∈ kq_W := kq_of 404 (by decide +kernel) rfl
theorem kq_405 : Jvm.Cond.instanceMethod ({ cls := "GlossRows$Layout", name := "wrap", desc := "(LGlossRows$Page;I)V" } : Jvm.MethodName) ∈ kq_W := kq_of 405 (by decide +kernel) rfl
theorem kq_406 : Jvm.Cond.selects "GlossRows$Layout" ({ cls := "GlossRows$Layout", name := "wrap", desc := "(LGlossRows$Page;I)V" } : Jvm.MethodName) ({ cls := "GlossRows$Layout", name := "wrap", desc := "(LGlossRows$Page;I)V" } : Jvm.MethodName) ∈ kq_W := kq_of 406 (by decide +kernel) rfl
theorem kq_407 : Jvm.Cond.code ({ cls := "GlossRows$Layout", name := "wrap", desc := "(LGlossRows$Page;I)V" } : Jvm.MethodName) prog_3_method_3_code (8 : Nat) (Option.none : Option Jvm.ClassFile.FieldType) ∈ kq_W := kq_of 407 (by decide +kernel) rfl
theorem kq_408 : Jvm.Cond.methodLink "GlossRows$Layout" (59 : Nat) ({ cls := "GlossRows$Layout", name := "rowsOfFree", desc := "(II)I" } : Jvm.MethodName) ∈ kq_W := kq_of 408 (by decide +kernel) rfl
theorem kq_409 : Jvm.Cond.static ({ cls := "GlossRows$Layout", name := "rowsOfFree", desc := "(II)I" } : Jvm.MethodName) ∈ kq_W := kq_of 409 (by decide +kernel) rfl
theorem kq_410 : Jvm.Cond.code ({ cls := "GlossRows$Layout", name := "rowsOfFree", desc := "(II)I" } : Jvm.MethodName) prog_3_method_4_code (2 : Nat) (Option.some Jvm.ClassFile.FieldType.int) ∈ kq_W := kq_of 410 (by decide +kernel) rfl
theorem kq_411 : Jvm.Cond.methodLink "GlossRows" (310 : Nat) ({ cls := "GlossRows$Layout", name := "countEmpty", desc := "(LGlossRows$Page;I)I" } : Jvm.MethodName) ∈ kq_W := kq_of 411 (by decide +kernel) rfl
theorem kq_412 : Jvm.Cond.instanceMethod ({ cls := "GlossRows$Layout", name := "countEmpty", desc := "(LGlossRows$Page;I)I" } : Jvm.MethodName) ∈ kq_W := kq_of 412 (by decide +kernel) rfl
theorem kq_413 : Jvm.Cond.selects "GlossRows$Layout" ({ cls := "GlossRows$Layout", name := "countEmpty", desc := "(LGlossRows$Page;I)I" } : Jvm.MethodName) ({ cls := "GlossRows$Layout", name := "countEmpty", desc := "(LGlossRows$Page;I)I" } : Jvm.MethodName) ∈ kq_W := kq_of 413 (by decide +kernel) rfl
theorem kq_414 : Jvm.Cond.code ({ cls := "GlossRows$Layout", name := "countEmpty", desc := "(LGlossRows$Page;I)I" } : Jvm.MethodName) prog_3_method_6_code (6 : Nat) (Option.some Jvm.ClassFile.FieldType.int) ∈ kq_W := kq_of 414 (by decide +kernel) rfl
theorem kq_415 : Jvm.Cond.methodLink "GlossRows$Layout" (63 : Nat) ({ cls := "java/lang/Math", name := "max", desc := "(II)I" } : Jvm.MethodName) ∈ kq_W := kq_of 415 (by decide +kernel) rfl
theorem kq_416 : Jvm.Cond.methodLink "GlossRowsLaw" (105 : Nat) ({ cls := "GlossRowsLaw", name := "append", desc := "(LGlossRows;I[J)I" } : Jvm.MethodName) ∈ kq_W := kq_of 416 (by decide +kernel) rfl
theorem kq_417 : Jvm.Cond.static ({ cls := "GlossRowsLaw", name := "append", desc := "(LGlossRows;I[J)I" } : Jvm.MethodName) ∈ kq_W := kq_of 417 (by decide +kernel) rfl
theorem kq_419 : Jvm.Cond.classLink "GlossRowsLaw" (13 : Nat) "java/lang/IllegalArgumentException" ∈ kq_W := kq_of 419 (by decide +kernel) rfl
theorem kq_420 : Jvm.Cond.classLink "GlossRowsLaw" (15 : Nat) "java/lang/IllegalStateException" ∈ kq_W := kq_of 420 (by decide +kernel) rfl
theorem kq_421 : Jvm.Cond.methodLink "GlossRowsLaw" (7 : Nat) ({ cls := "GlossRows", name := "append", desc := "(I)I" } : Jvm.MethodName) ∈ kq_W := kq_of 421 (by decide +kernel) rfl
theorem kq_422 : Jvm.Cond.instanceMethod ({ cls := "GlossRows", name := "append", desc := "(I)I" } : Jvm.MethodName) ∈ kq_W := kq_of 422 (by decide +kernel) rfl
theorem kq_423 : Jvm.Cond.selects "GlossRows" ({ cls := "GlossRows", name := "append", desc := "(I)I" } : Jvm.MethodName) ({ cls := "GlossRows", name := "append", desc := "(I)I" } : Jvm.MethodName) ∈ kq_W := kq_of 423 (by decide +kernel) rfl
theorem kq_424 : Jvm.Cond.code ({ cls := "GlossRows", name := "append", desc := "(I)I" } : Jvm.MethodName) prog_1_method_2_code (2 : Nat) (Option.some Jvm.ClassFile.FieldType.int) ∈ kq_W := kq_of 424 (by decide +kernel) rfl
theorem kq_425 : Jvm.Cond.classLink "GlossRows" (55 : Nat) "java/lang/IllegalArgumentException" ∈ kq_W := kq_of 425 (by decide +kernel) rfl
theorem kq_426 : Jvm.Cond.instantiable "java/lang/IllegalArgumentException" (6 : Nat) ∈ kq_W := kq_of 426 (by decide +kernel) rfl
theorem kq_434 : Jvm.Cond.selects "java/lang/IllegalArgumentException" ({ cls := "java/lang/Throwable", name := "fillInStackTrace", desc := "(I)Ljava/lang/Throwable;" } : Jvm.MethodName) ({ cls := "java/lang/Throwable", name := "fillInStackTrace", desc := "(I)Ljava/lang/Throwable;" } : Jvm.MethodName) ∈ kq_W := kq_of 434 (by decide +kernel) rfl
theorem kq_435 : Jvm.Cond.selects "java/lang/IllegalArgumentException" ({ cls := "java/lang/Throwable", name := "fillInStackTrace", desc := "()Ljava/lang/Throwable;" } : Jvm.MethodName) ({ cls := "java/lang/Throwable", name := "fillInStackTrace", desc := "()Ljava/lang/Throwable;" } : Jvm.MethodName) ∈ kq_W := kq_of 435 (by decide +kernel) rfl
theorem kq_436 : Jvm.Cond.lays "java/lang/IllegalArgumentException" "java/lang/Throwable" "cause" "Ljava/lang/Throwable;" ∈ kq_W := kq_of 436 (by decide +kernel) rfl
theorem kq_437 : Jvm.Cond.lays "java/lang/Throwable" "java/lang/Throwable" "cause" "Ljava/lang/Throwable;" ∈ kq_W := kq_of 437 (by decide +kernel) rfl
theorem kq_438 : Jvm.Cond.lays "java/lang/IllegalArgumentException" "java/lang/Throwable" "stackTrace" "[Ljava/lang/StackTraceElement;" ∈ kq_W := kq_of 438 (by decide +kernel) rfl
theorem kq_439 : Jvm.Cond.lays "java/lang/Throwable" "java/lang/Throwable" "stackTrace" "[Ljava/lang/StackTraceElement;" ∈ kq_W := kq_of 439 (by decide +kernel) rfl
theorem kq_440 : Jvm.Cond.lays "java/lang/IllegalArgumentException" "java/lang/Throwable" "suppressedExceptions" "Ljava/util/List;" ∈ kq_W := kq_of 440 (by decide +kernel) rfl
theorem kq_441 : Jvm.Cond.lays "java/lang/Throwable" "java/lang/Throwable" "suppressedExceptions" "Ljava/util/List;" ∈ kq_W := kq_of 441 (by decide +kernel) rfl
theorem kq_442 : Jvm.Cond.lays "java/lang/IllegalArgumentException" "java/lang/Throwable" "detailMessage" "Ljava/lang/String;" ∈ kq_W := kq_of 442 (by decide +kernel) rfl
theorem kq_443 : Jvm.Cond.lays "java/lang/Throwable" "java/lang/Throwable" "detailMessage" "Ljava/lang/String;" ∈ kq_W := kq_of 443 (by decide +kernel) rfl
theorem kq_444 : Jvm.Cond.lays "java/lang/IllegalArgumentException" "java/lang/Throwable" "backtrace" "Ljava/lang/Object;" ∈ kq_W := kq_of 444 (by decide +kernel) rfl
theorem kq_445 : Jvm.Cond.lays "java/lang/Throwable" "java/lang/Throwable" "backtrace" "Ljava/lang/Object;" ∈ kq_W := kq_of 445 (by decide +kernel) rfl
theorem kq_446 : Jvm.Cond.fieldLink "java/lang/Throwable" (198 : Nat) "java/lang/Throwable" "backtrace" "Ljava/lang/Object;" ∈ kq_W := kq_of 446 (by decide +kernel) rfl
theorem kq_448 : Jvm.Cond.instanceMethod ({ cls := "java/lang/Throwable", name := "<init>", desc := "()V" } : Jvm.MethodName) ∈ kq_W := kq_of 448 (by decide +kernel) rfl
theorem kq_449 : Jvm.Cond.code ({ cls := "java/lang/Throwable", name := "<init>", desc := "()V" } : Jvm.MethodName) prog_19_method_1_code (1 : Nat) (Option.none : Option Jvm.ClassFile.FieldType) ∈ kq_W := kq_of 449 (by decide +kernel) rfl
theorem kq_450 : Jvm.Cond.methodLink "java/lang/Throwable" (1 : Nat) ({ cls := "java/lang/Object", name := "<init>", desc := "()V" } : Jvm.MethodName) ∈ kq_W := kq_of 450 (by decide +kernel) rfl
theorem kq_451 : Jvm.Cond.fieldLink "java/lang/Throwable" (13 : Nat) "java/lang/Throwable" "UNASSIGNED_STACK" "[Ljava/lang/StackTraceElement;" ∈ kq_W := kq_of 451 (by decide +kernel) rfl
theorem kq_453 : Jvm.Cond.fieldLink "java/lang/Throwable" (20 : Nat) "java/lang/Throwable" "SUPPRESSED_SENTINEL" "Ljava/util/List;" ∈ kq_W := kq_of 453 (by decide +kernel) rfl
theorem kq_455 : Jvm.Cond.methodLink "java/lang/Throwable" (27 : Nat) ({ cls := "java/lang/Throwable", name := "fillInStackTrace", desc := "()Ljava/lang/Throwable;" } : Jvm.MethodName) ∈ kq_W := kq_of 455 (by decide +kernel) rfl
theorem kq_456 : Jvm.Cond.instanceMethod ({ cls := "java/lang/Throwable", name := "fillInStackTrace", desc := "()Ljava/lang/Throwable;" } : Jvm.MethodName) ∈ kq_W := kq_of 456 (by decide +kernel) rfl
theorem kq_458 : Jvm.Cond.selects "java/lang/IllegalStateException" ({ cls := "java/lang/Throwable", name := "fillInStackTrace", desc := "()Ljava/lang/Throwable;" } : Jvm.MethodName) ({ cls := "java/lang/Throwable", name := "fillInStackTrace", desc := "()Ljava/lang/Throwable;" } : Jvm.MethodName) ∈ kq_W := kq_of 458 (by decide +kernel) rfl
theorem kq_459 : Jvm.Cond.selects "java/lang/IndexOutOfBoundsException" ({ cls := "java/lang/Throwable", name := "fillInStackTrace", desc := "()Ljava/lang/Throwable;" } : Jvm.MethodName) ({ cls := "java/lang/Throwable", name := "fillInStackTrace", desc := "()Ljava/lang/Throwable;" } : Jvm.MethodName) ∈ kq_W := kq_of 459 (by decide +kernel) rfl
theorem kq_461 : Jvm.Cond.methodLink "java/lang/Throwable" (202 : Nat) ({ cls := "java/lang/Throwable", name := "fillInStackTrace", desc := "(I)Ljava/lang/Throwable;" } : Jvm.MethodName) ∈ kq_W := kq_of 461 (by decide +kernel) rfl
theorem kq_463 : Jvm.Cond.instanceMethod ({ cls := "java/lang/Throwable", name := "fillInStackTrace", desc := "(I)Ljava/lang/Throwable;" } : Jvm.MethodName) ∈ kq_W := kq_of 463 (by decide +kernel) rfl
theorem kq_464 : Jvm.Cond.instantiable "java/lang/Throwable" (6 : Nat) ∈ kq_W := kq_of 464 (by decide +kernel) rfl
theorem kq_467 : Jvm.Cond.methodLink "GlossRows" (59 : Nat) ({ cls := "java/lang/IllegalArgumentException", name := "<init>", desc := "(Ljava/lang/String;)V" } : Jvm.MethodName) ∈ kq_W := kq_of 467 (by decide +kernel) rfl
theorem kq_468 : Jvm.Cond.instanceMethod ({ cls := "java/lang/IllegalArgumentException", name := "<init>", desc := "(Ljava/lang/String;)V" } : Jvm.MethodName) ∈ kq_W := kq_of 468 (by decide +kernel) rfl
theorem kq_469 : Jvm.Cond.code ({ cls := "java/lang/IllegalArgumentException", name := "<init>", desc := "(Ljava/lang/String;)V" } : Jvm.MethodName) prog_13_method_2_code (2 : Nat) (Option.none : Option Jvm.ClassFile.FieldType) ∈ kq_W := kq_of 469 (by decide +kernel) rfl
theorem kq_470 : Jvm.Cond.methodLink "java/lang/IllegalArgumentException" (7 : Nat) ({ cls := "java/lang/RuntimeException", name := "<init>", desc := "(Ljava/lang/String;)V" } : Jvm.MethodName) ∈ kq_W := kq_of 470 (by decide +kernel) rfl
theorem kq_471 : Jvm.Cond.instanceMethod ({ cls := "java/lang/RuntimeException", name := "<init>", desc := "(Ljava/lang/String;)V" } : Jvm.MethodName) ∈ kq_W := kq_of 471 (by decide +kernel) rfl
theorem kq_472 : Jvm.Cond.code ({ cls := "java/lang/RuntimeException", name := "<init>", desc := "(Ljava/lang/String;)V" } : Jvm.MethodName) prog_17_method_2_code (2 : Nat) (Option.none : Option Jvm.ClassFile.FieldType) ∈ kq_W := kq_of 472 (by decide +kernel) rfl
theorem kq_473 : Jvm.Cond.methodLink "java/lang/RuntimeException" (7 : Nat) ({ cls := "java/lang/Exception", name := "<init>", desc := "(Ljava/lang/String;)V" } : Jvm.MethodName) ∈ kq_W := kq_of 473 (by decide +kernel) rfl
theorem kq_474 : Jvm.Cond.instanceMethod ({ cls := "java/lang/Exception", name := "<init>", desc := "(Ljava/lang/String;)V" } : Jvm.MethodName) ∈ kq_W := kq_of 474 (by decide +kernel) rfl
theorem kq_475 : Jvm.Cond.code ({ cls := "java/lang/Exception", name := "<init>", desc := "(Ljava/lang/String;)V" } : Jvm.MethodName) prog_12_method_2_code (2 : Nat) (Option.none : Option Jvm.ClassFile.FieldType) ∈ kq_W := kq_of 475 (by decide +kernel) rfl
theorem kq_476 : Jvm.Cond.methodLink "java/lang/Exception" (7 : Nat) ({ cls := "java/lang/Throwable", name := "<init>", desc := "(Ljava/lang/String;)V" } : Jvm.MethodName) ∈ kq_W := kq_of 476 (by decide +kernel) rfl
theorem kq_477 : Jvm.Cond.instanceMethod ({ cls := "java/lang/Throwable", name := "<init>", desc := "(Ljava/lang/String;)V" } : Jvm.MethodName) ∈ kq_W := kq_of 477 (by decide +kernel) rfl
theorem kq_478 : Jvm.Cond.code ({ cls := "java/lang/Throwable", name := "<init>", desc := "(Ljava/lang/String;)V" } : Jvm.MethodName) prog_19_method_2_code (2 : Nat) (Option.none : Option Jvm.ClassFile.FieldType) ∈ kq_W := kq_of 478 (by decide +kernel) rfl
theorem kq_479 : Jvm.Cond.fieldLink "java/lang/Throwable" (198 : Nat) "java/lang/Throwable" "backtrace" "Ljava/lang/Object;" ∈ kq_W := kq_of 479 (by decide +kernel) rfl
theorem kq_480 : Jvm.Cond.fieldLink "java/lang/Throwable" (31 : Nat) "java/lang/Throwable" "detailMessage" "Ljava/lang/String;" ∈ kq_W := kq_of 480 (by decide +kernel) rfl
theorem kq_481 : Jvm.Cond.fieldLink "java/lang/Throwable" (7 : Nat) "java/lang/Throwable" "cause" "Ljava/lang/Throwable;" ∈ kq_W := kq_of 481 (by decide +kernel) rfl
theorem kq_482 : Jvm.Cond.fieldLink "java/lang/Throwable" (17 : Nat) "java/lang/Throwable" "stackTrace" "[Ljava/lang/StackTraceElement;" ∈ kq_W := kq_of 482 (by decide +kernel) rfl
theorem kq_483 : Jvm.Cond.fieldLink "java/lang/Throwable" (24 : Nat) "java/lang/Throwable" "suppressedExceptions" "Ljava/util/List;" ∈ kq_W := kq_of 483 (by decide +kernel) rfl
theorem kq_488 : Jvm.Cond.lays "java/lang/IllegalArgumentException" "java/lang/Throwable" "depth" "I" ∈ kq_W := kq_of 488 (by decide +kernel) rfl
theorem kq_493 : Jvm.Cond.classLink "GlossRows" (66 : Nat) "java/lang/IllegalStateException" ∈ kq_W := kq_of 493 (by decide +kernel) rfl
theorem kq_494 : Jvm.Cond.instantiable "java/lang/IllegalStateException" (6 : Nat) ∈ kq_W := kq_of 494 (by decide +kernel) rfl
theorem kq_496 : Jvm.Cond.selects "java/lang/IllegalStateException" ({ cls := "java/lang/Throwable", name := "fillInStackTrace", desc := "(I)Ljava/lang/Throwable;" } : Jvm.MethodName) ({ cls := "java/lang/Throwable", name := "fillInStackTrace", desc := "(I)Ljava/lang/Throwable;" } : Jvm.MethodName) ∈ kq_W := kq_of 496 (by decide +kernel) rfl
theorem kq_497 : Jvm.Cond.lays "java/lang/IllegalStateException" "java/lang/Throwable" "cause" "Ljava/lang/Throwable;" ∈ kq_W := kq_of 497 (by decide +kernel) rfl
theorem kq_498 : Jvm.Cond.lays "java/lang/IllegalStateException" "java/lang/Throwable" "stackTrace" "[Ljava/lang/StackTraceElement;" ∈ kq_W := kq_of 498 (by decide +kernel) rfl
theorem kq_499 : Jvm.Cond.lays "java/lang/IllegalStateException" "java/lang/Throwable" "suppressedExceptions" "Ljava/util/List;" ∈ kq_W := kq_of 499 (by decide +kernel) rfl
theorem kq_500 : Jvm.Cond.lays "java/lang/IllegalStateException" "java/lang/Throwable" "detailMessage" "Ljava/lang/String;" ∈ kq_W := kq_of 500 (by decide +kernel) rfl
theorem kq_501 : Jvm.Cond.lays "java/lang/IllegalStateException" "java/lang/Throwable" "backtrace" "Ljava/lang/Object;" ∈ kq_W := kq_of 501 (by decide +kernel) rfl
theorem kq_503 : Jvm.Cond.methodLink "GlossRows" (70 : Nat) ({ cls := "java/lang/IllegalStateException", name := "<init>", desc := "(Ljava/lang/String;)V" } : Jvm.MethodName) ∈ kq_W := kq_of 503 (by decide +kernel) rfl
theorem kq_504 : Jvm.Cond.instanceMethod ({ cls := "java/lang/IllegalStateException", name := "<init>", desc := "(Ljava/lang/String;)V" } : Jvm.MethodName) ∈ kq_W := kq_of 504 (by decide +kernel) rfl
theorem kq_505 : Jvm.Cond.code ({ cls := "java/lang/IllegalStateException", name := "<init>", desc := "(Ljava/lang/String;)V" } : Jvm.MethodName) prog_14_method_2_code (2 : Nat) (Option.none : Option Jvm.ClassFile.FieldType) ∈ kq_W := kq_of 505 (by decide +kernel) rfl
theorem kq_506 : Jvm.Cond.methodLink "java/lang/IllegalStateException" (7 : Nat) ({ cls := "java/lang/RuntimeException", name := "<init>", desc := "(Ljava/lang/String;)V" } : Jvm.MethodName) ∈ kq_W := kq_of 506 (by decide +kernel) rfl
theorem kq_507 : Jvm.Cond.lays "java/lang/IllegalStateException" "java/lang/Throwable" "depth" "I" ∈ kq_W := kq_of 507 (by decide +kernel) rfl
theorem kq_509 : Jvm.Cond.methodLink "GlossRows" (71 : Nat) ({ cls := "GlossRows$Text", name := "add", desc := "(I)V" } : Jvm.MethodName) ∈ kq_W := kq_of 509 (by decide +kernel) rfl
theorem kq_510 : Jvm.Cond.instanceMethod ({ cls := "GlossRows$Text", name := "add", desc := "(I)V" } : Jvm.MethodName) ∈ kq_W := kq_of 510 (by decide +kernel) rfl
theorem kq_511 : Jvm.Cond.selects "GlossRows$Text" ({ cls := "GlossRows$Text", name := "add", desc := "(I)V" } : Jvm.MethodName) ({ cls := "GlossRows$Text", name := "add", desc := "(I)V" } : Jvm.MethodName) ∈ kq_W := kq_of 511 (by decide +kernel) rfl
theorem kq_512 : Jvm.Cond.code ({ cls := "GlossRows$Text", name := "add", desc := "(I)V" } : Jvm.MethodName) prog_8_method_2_code (2 : Nat) (Option.none : Option Jvm.ClassFile.FieldType) ∈ kq_W := kq_of 512 (by decide +kernel) rfl
theorem kq_513 : Jvm.Cond.methodLink "GlossRowsLaw" (122 : Nat) ({ cls := "GlossRowsLaw", name := "load", desc := "(LGlossRows;[J)I" } : Jvm.MethodName) ∈ kq_W := kq_of 513 (by decide +kernel) rfl
theorem kq_514 : Jvm.Cond.static ({ cls := "GlossRowsLaw", name := "load", desc := "(LGlossRows;[J)I" } : Jvm.MethodName) ∈ kq_W := kq_of 514 (by decide +kernel) rfl
theorem kq_516 : Jvm.Cond.methodLink "GlossRowsLaw" (17 : Nat) ({ cls := "GlossRows", name := "load", desc := "()I" } : Jvm.MethodName) ∈ kq_W := kq_of 516 (by decide +kernel) rfl
theorem kq_517 : Jvm.Cond.instanceMethod ({ cls := "GlossRows", name := "load", desc := "()I" } : Jvm.MethodName) ∈ kq_W := kq_of 517 (by decide +kernel) rfl
theorem kq_518 : Jvm.Cond.selects "GlossRows" ({ cls := "GlossRows", name := "load", desc := "()I" } : Jvm.MethodName) ({ cls := "GlossRows", name := "load", desc := "()I" } : Jvm.MethodName) ∈ kq_W := kq_of 518 (by decide +kernel) rfl
theorem kq_519 : Jvm.Cond.code ({ cls := "GlossRows", name := "load", desc := "()I" } : Jvm.MethodName) prog_1_method_5_code (2 : Nat) (Option.some Jvm.ClassFile.FieldType.int) ∈ kq_W := kq_of 519 (by decide +kernel) rfl
theorem kq_521 : Jvm.Cond.methodLink "GlossRows" (81 : Nat) ({ cls := "GlossRows$Page", name := "reset", desc := "()V" } : Jvm.MethodName) ∈ kq_W := kq_of 521 (by decide +kernel) rfl
theorem kq_522 : Jvm.Cond.methodLink "GlossRows" (84 : Nat) ({ cls := "GlossRows$Page", name := "addWords", desc := "(LGlossRows$Reader;I)V" } : Jvm.MethodName) ∈ kq_W := kq_of 522 (by decide +kernel) rfl
theorem kq_523 : Jvm.Cond.instanceMethod ({ cls := "GlossRows$Page", name := "addWords", desc := "(LGlossRows$Reader;I)V" } : Jvm.MethodName) ∈ kq_W := kq_of 523 (by decide +kernel) rfl
theorem kq_524 : Jvm.Cond.selects "GlossRows$Page" ({ cls := "GlossRows$Page", name := "addWords", desc := "(LGlossRows$Reader;I)V" } : Jvm.MethodName) ({ cls := "GlossRows$Page", name := "addWords", desc := "(LGlossRows$Reader;I)V" } : Jvm.MethodName) ∈ kq_W := kq_of 524 (by decide +kernel) rfl
theorem kq_525 : Jvm.Cond.code ({ cls := "GlossRows$Page", name := "addWords", desc := "(LGlossRows$Reader;I)V" } : Jvm.MethodName) prog_6_method_6_code (5 : Nat) (Option.none : Option Jvm.ClassFile.FieldType) ∈ kq_W := kq_of 525 (by decide +kernel) rfl
theorem kq_526 : Jvm.Cond.methodLink "GlossRows" (88 : Nat) ({ cls := "GlossRows$History", name := "clear", desc := "()V" } : Jvm.MethodName) ∈ kq_W := kq_of 526 (by decide +kernel) rfl
theorem kq_527 : Jvm.Cond.instanceMethod ({ cls := "GlossRows$History", name := "clear", desc := "()V" } : Jvm.MethodName) ∈ kq_W := kq_of 527 (by decide +kernel) rfl
theorem kq_528 : Jvm.Cond.selects "GlossRows$History" ({ cls := "GlossRows$History", name := "clear", desc := "()V" } : Jvm.MethodName) ({ cls := "GlossRows$History", name := "clear", desc := "()V" } : Jvm.MethodName) ∈ kq_W := kq_of 528 (by decide +kernel) rfl
theorem kq_529 : Jvm.Cond.code ({ cls := "GlossRows$History", name := "clear", desc := "()V" } : Jvm.MethodName) prog_2_method_2_code (1 : Nat) (Option.none : Option Jvm.ClassFile.FieldType) ∈ kq_W := kq_of 529 (by decide +kernel) rfl
theorem kq_530 : Jvm.Cond.methodLink "GlossRowsLaw" (126 : Nat) ({ cls := "GlossRowsLaw", name := "about", desc := "(LGlossRows;I[J)I" } : Jvm.MethodName) ∈ kq_W := kq_of 530 (by decide +kernel) rfl
theorem kq_531 : Jvm.Cond.static ({ cls := "GlossRowsLaw", name := "about", desc := "(LGlossRows;I[J)I" } : Jvm.MethodName) ∈ kq_W := kq_of 531 (by decide +kernel) rfl
theorem kq_533 : Jvm.Cond.methodLink "GlossRowsLaw" (21 : Nat) ({ cls := "GlossRows", name := "about", desc := "(I)I" } : Jvm.MethodName) ∈ kq_W := kq_of 533 (by decide +kernel) rfl
theorem kq_534 : Jvm.Cond.instanceMethod ({ cls := "GlossRows", name := "about", desc := "(I)I" } : Jvm.MethodName) ∈ kq_W := kq_of 534 (by decide +kernel) rfl
theorem kq_535 : Jvm.Cond.selects "GlossRows" ({ cls := "GlossRows", name := "about", desc := "(I)I" } : Jvm.MethodName) ({ cls := "GlossRows", name := "about", desc := "(I)I" } : Jvm.MethodName) ∈ kq_W := kq_of 535 (by decide +kernel) rfl
theorem kq_536 : Jvm.Cond.code ({ cls := "GlossRows", name := "about", desc := "(I)I" } : Jvm.MethodName) prog_1_method_6_code (2 : Nat) (Option.some Jvm.ClassFile.FieldType.int) ∈ kq_W := kq_of 536 (by decide +kernel) rfl
theorem kq_537 : Jvm.Cond.methodLink "GlossRows" (94 : Nat) ({ cls := "GlossRows$Page", name := "countParts", desc := "()I" } : Jvm.MethodName) ∈ kq_W := kq_of 537 (by decide +kernel) rfl
theorem kq_538 : Jvm.Cond.instanceMethod ({ cls := "GlossRows$Page", name := "countParts", desc := "()I" } : Jvm.MethodName) ∈ kq_W := kq_of 538 (by decide +kernel) rfl
theorem kq_539 : Jvm.Cond.selects "GlossRows$Page" ({ cls := "GlossRows$Page", name := "countParts", desc := "()I" } : Jvm.MethodName) ({ cls := "GlossRows$Page", name := "countParts", desc := "()I" } : Jvm.MethodName) ∈ kq_W := kq_of 539 (by decide +kernel) rfl
theorem kq_540 : Jvm.Cond.code ({ cls := "GlossRows$Page", name := "countParts", desc := "()I" } : Jvm.MethodName) prog_6_method_13_code (3 : Nat) (Option.some Jvm.ClassFile.FieldType.int) ∈ kq_W := kq_of 540 (by decide +kernel) rfl
theorem kq_541 : Jvm.Cond.methodLink "GlossRows" (98 : Nat) ({ cls := "GlossRows$Page", name := "countGaps", desc := "()I" } : Jvm.MethodName) ∈ kq_W := kq_of 541 (by decide +kernel) rfl
theorem kq_542 : Jvm.Cond.instanceMethod ({ cls := "GlossRows$Page", name := "countGaps", desc := "()I" } : Jvm.MethodName) ∈ kq_W := kq_of 542 (by decide +kernel) rfl
theorem kq_543 : Jvm.Cond.selects "GlossRows$Page" ({ cls := "GlossRows$Page", name := "countGaps", desc := "()I" } : Jvm.MethodName) ({ cls := "GlossRows$Page", name := "countGaps", desc := "()I" } : Jvm.MethodName) ∈ kq_W := kq_of 543 (by decide +kernel) rfl
theorem kq_544 : Jvm.Cond.code ({ cls := "GlossRows$Page", name := "countGaps", desc := "()I" } : Jvm.MethodName) prog_6_method_14_code (3 : Nat) (Option.some Jvm.ClassFile.FieldType.int) ∈ kq_W := kq_of 544 (by decide +kernel) rfl
theorem kq_545 : Jvm.Cond.methodLink "GlossRows$Page" (87 : Nat) ({ cls := "GlossRows$Word", name := "countGaps", desc := "()I" } : Jvm.MethodName) ∈ kq_W := kq_of 545 (by decide +kernel) rfl
theorem kq_546 : Jvm.Cond.instanceMethod ({ cls := "GlossRows$Word", name := "countGaps", desc := "()I" } : Jvm.MethodName) ∈ kq_W := kq_of 546 (by decide +kernel) rfl
theorem kq_547 : Jvm.Cond.selects "GlossRows$Word" ({ cls := "GlossRows$Word", name := "countGaps", desc := "()I" } : Jvm.MethodName) ({ cls := "GlossRows$Word", name := "countGaps", desc := "()I" } : Jvm.MethodName) ∈ kq_W := kq_of 547 (by decide +kernel) rfl
theorem kq_548 : Jvm.Cond.code ({ cls := "GlossRows$Word", name := "countGaps", desc := "()I" } : Jvm.MethodName) prog_9_method_8_code (3 : Nat) (Option.some Jvm.ClassFile.FieldType.int) ∈ kq_W := kq_of 548 (by decide +kernel) rfl
theorem kq_549 : Jvm.Cond.methodLink "GlossRows" (101 : Nat) ({ cls := "GlossRows$Page", name := "countSentences", desc := "()I" } : Jvm.MethodName) ∈ kq_W := kq_of 549 (by decide +kernel) rfl
theorem kq_550 : Jvm.Cond.instanceMethod ({ cls := "GlossRows$Page", name := "countSentences", desc := "()I" } : Jvm.MethodName) ∈ kq_W := kq_of 550 (by decide +kernel) rfl
theorem kq_551 : Jvm.Cond.selects "GlossRows$Page" ({ cls := "GlossRows$Page", name := "countSentences", desc := "()I" } : Jvm.MethodName) ({ cls := "GlossRows$Page", name := "countSentences", desc := "()I" } : Jvm.MethodName) ∈ kq_W := kq_of 551 (by decide +kernel) rfl
theorem kq_552 : Jvm.Cond.code ({ cls := "GlossRows$Page", name := "countSentences", desc := "()I" } : Jvm.MethodName) prog_6_method_15_code (3 : Nat) (Option.some Jvm.ClassFile.FieldType.int) ∈ kq_W := kq_of 552 (by decide +kernel) rfl
theorem kq_553 : Jvm.Cond.methodLink "GlossRows" (117 : Nat) ({ cls := "GlossRows$Layout", name := "countWider", desc := "(LGlossRows$Page;I)I" } : Jvm.MethodName) ∈ kq_W := kq_of 553 (by decide +kernel) rfl
theorem kq_554 : Jvm.Cond.instanceMethod ({ cls := "GlossRows$Layout", name := "countWider", desc := "(LGlossRows$Page;I)I" } : Jvm.MethodName) ∈ kq_W := kq_of 554 (by decide +kernel) rfl
theorem kq_555 : Jvm.Cond.selects "GlossRows$Layout" ({ cls := "GlossRows$Layout", name := "countWider", desc := "(LGlossRows$Page;I)I" } : Jvm.MethodName) ({ cls := "GlossRows$Layout", name := "countWider", desc := "(LGlossRows$Page;I)I" } : Jvm.MethodName) ∈ kq_W := kq_of 555 (by decide +kernel) rfl
theorem kq_556 : Jvm.Cond.code ({ cls := "GlossRows$Layout", name := "countWider", desc := "(LGlossRows$Page;I)I" } : Jvm.MethodName) prog_3_method_5_code (5 : Nat) (Option.some Jvm.ClassFile.FieldType.int) ∈ kq_W := kq_of 556 (by decide +kernel) rfl
theorem kq_557 : Jvm.Cond.methodLink "GlossRows" (130 : Nat) ({ cls := "GlossRows$Page", name := "countDiffering", desc := "()I" } : Jvm.MethodName) ∈ kq_W := kq_of 557 (by decide +kernel) rfl
theorem kq_558 : Jvm.Cond.instanceMethod ({ cls := "GlossRows$Page", name := "countDiffering", desc := "()I" } : Jvm.MethodName) ∈ kq_W := kq_of 558 (by decide +kernel) rfl
theorem kq_559 : Jvm.Cond.selects "GlossRows$Page" ({ cls := "GlossRows$Page", name := "countDiffering", desc := "()I" } : Jvm.MethodName) ({ cls := "GlossRows$Page", name := "countDiffering", desc := "()I" } : Jvm.MethodName) ∈ kq_W := kq_of 559 (by decide +kernel) rfl
theorem kq_560 : Jvm.Cond.code ({ cls := "GlossRows$Page", name := "countDiffering", desc := "()I" } : Jvm.MethodName) prog_6_method_16_code (7 : Nat) (Option.some Jvm.ClassFile.FieldType.int) ∈ kq_W := kq_of 560 (by decide +kernel) rfl
theorem kq_562 : Jvm.Cond.methodLink "GlossRowsLaw" (129 : Nat) ({ cls := "GlossRowsLaw", name := "word", desc := "(LGlossRows;II[J)I" } : Jvm.MethodName) ∈ kq_W := kq_of 562 (by decide +kernel) rfl
theorem kq_563 : Jvm.Cond.static ({ cls := "GlossRowsLaw", name := "word", desc := "(LGlossRows;II[J)I" } : Jvm.MethodName) ∈ kq_W := kq_of 563 (by decide +kernel) rfl
theorem kq_565 : Jvm.Cond.classLink "GlossRowsLaw" (28 : Nat) "java/lang/IndexOutOfBoundsException" ∈ kq_W := kq_of 565 (by decide +kernel) rfl
theorem kq_566 : Jvm.Cond.methodLink "GlossRowsLaw" (24 : Nat) ({ cls := "GlossRows", name := "word", desc := "(II)I" } : Jvm.MethodName) ∈ kq_W := kq_of 566 (by decide +kernel) rfl
theorem kq_567 : Jvm.Cond.instanceMethod ({ cls := "GlossRows", name := "word", desc := "(II)I" } : Jvm.MethodName) ∈ kq_W := kq_of 567 (by decide +kernel) rfl
theorem kq_568 : Jvm.Cond.selects "GlossRows" ({ cls := "GlossRows", name := "word", desc := "(II)I" } : Jvm.MethodName) ({ cls := "GlossRows", name := "word", desc := "(II)I" } : Jvm.MethodName) ∈ kq_W := kq_of 568 (by decide +kernel) rfl
theorem kq_569 : Jvm.Cond.code ({ cls := "GlossRows", name := "word", desc := "(II)I" } : Jvm.MethodName) prog_1_method_7_code (3 : Nat) (Option.some Jvm.ClassFile.FieldType.int) ∈ kq_W := kq_of 569 (by decide +kernel) rfl
theorem kq_570 : Jvm.Cond.methodLink "GlossRows" (141 : Nat) ({ cls := "GlossRows", name := "requireWord", desc := "(I)V" } : Jvm.MethodName) ∈ kq_W := kq_of 570 (by decide +kernel) rfl
theorem kq_572 : Jvm.Cond.instanceMethod ({ cls := "GlossRows", name := "requireWord", desc := "(I)V" } : Jvm.MethodName) ∈ kq_W := kq_of 572 (by decide +kernel) rfl
theorem kq_573 : Jvm.Cond.code ({ cls := "GlossRows", name := "requireWord", desc := "(I)V" } : Jvm.MethodName) prog_1_method_33_code (2 : Nat) (Option.none : Option Jvm.ClassFile.FieldType) ∈ kq_W := kq_of 573 (by decide +kernel) rfl
theorem kq_574 : Jvm.Cond.methodLink "GlossRows" (346 : Nat) ({ cls := "GlossRows$Page", name := "hasWord", desc := "(I)Z" } : Jvm.MethodName) ∈ kq_W := kq_of 574 (by decide +kernel) rfl
theorem kq_575 : Jvm.Cond.instanceMethod ({ cls := "GlossRows$Page", name := "hasWord", desc := "(I)Z" } : Jvm.MethodName) ∈ kq_W := kq_of 575 (by decide +kernel) rfl
theorem kq_576 : Jvm.Cond.selects "GlossRows$Page" ({ cls := "GlossRows$Page", name := "hasWord", desc := "(I)Z" } : Jvm.MethodName) ({ cls := "GlossRows$Page", name := "hasWord", desc := "(I)Z" } : Jvm.MethodName) ∈ kq_W := kq_of 576 (by decide +kernel) rfl
theorem kq_577 : Jvm.Cond.code ({ cls := "GlossRows$Page", name := "hasWord", desc := "(I)Z" } : Jvm.MethodName) prog_6_method_4_code (2 : Nat) (Option.some Jvm.ClassFile.FieldType.boolean) ∈ kq_W := kq_of 577 (by decide +kernel) rfl
theorem kq_578 : Jvm.Cond.classLink "GlossRows" (228 : Nat) "java/lang/IndexOutOfBoundsException" ∈ kq_W := kq_of 578 (by decide +kernel) rfl
theorem kq_579 : Jvm.Cond.instantiable "java/lang/IndexOutOfBoundsException" (6 : Nat) ∈ kq_W := kq_of 579 (by decide +kernel) rfl
theorem kq_581 : Jvm.Cond.selects "java/lang/IndexOutOfBoundsException" ({ cls := "java/lang/Throwable", name := "fillInStackTrace", desc := "(I)Ljava/lang/Throwable;" } : Jvm.MethodName) ({ cls := "java/lang/Throwable", name := "fillInStackTrace", desc := "(I)Ljava/lang/Throwable;" } : Jvm.MethodName) ∈ kq_W := kq_of 581 (by decide +kernel) rfl
theorem kq_582 : Jvm.Cond.lays "java/lang/IndexOutOfBoundsException" "java/lang/Throwable" "cause" "Ljava/lang/Throwable;" ∈ kq_W := kq_of 582 (by decide +kernel) rfl
theorem kq_583 : Jvm.Cond.lays "java/lang/IndexOutOfBoundsException" "java/lang/Throwable" "stackTrace" "[Ljava/lang/StackTraceElement;" ∈ kq_W := kq_of 583 (by decide +kernel) rfl
theorem kq_584 : Jvm.Cond.lays "java/lang/IndexOutOfBoundsException" "java/lang/Throwable" "suppressedExceptions" "Ljava/util/List;" ∈ kq_W := kq_of 584 (by decide +kernel) rfl
theorem kq_585 : Jvm.Cond.lays "java/lang/IndexOutOfBoundsException" "java/lang/Throwable" "detailMessage" "Ljava/lang/String;" ∈ kq_W := kq_of 585 (by decide +kernel) rfl
theorem kq_586 : Jvm.Cond.lays "java/lang/IndexOutOfBoundsException" "java/lang/Throwable" "backtrace" "Ljava/lang/Object;" ∈ kq_W := kq_of 586 (by decide +kernel) rfl
theorem kq_588 : Jvm.Cond.methodLink "GlossRows" (232 : Nat) ({ cls := "java/lang/IndexOutOfBoundsException", name := "<init>", desc := "(Ljava/lang/String;)V" } : Jvm.MethodName) ∈ kq_W := kq_of 588 (by decide +kernel) rfl
theorem kq_589 : Jvm.Cond.instanceMethod ({ cls := "java/lang/IndexOutOfBoundsException", name := "<init>", desc := "(Ljava/lang/String;)V" } : Jvm.MethodName) ∈ kq_W := kq_of 589 (by decide +kernel) rfl
theorem kq_590 : Jvm.Cond.code ({ cls := "java/lang/IndexOutOfBoundsException", name := "<init>", desc := "(Ljava/lang/String;)V" } : Jvm.MethodName) prog_15_method_2_code (2 : Nat) (Option.none : Option Jvm.ClassFile.FieldType) ∈ kq_W := kq_of 590 (by decide +kernel) rfl
theorem kq_591 : Jvm.Cond.methodLink "java/lang/IndexOutOfBoundsException" (7 : Nat) ({ cls := "java/lang/RuntimeException", name := "<init>", desc := "(Ljava/lang/String;)V" } : Jvm.MethodName) ∈ kq_W := kq_of 591 (by decide +kernel) rfl
theorem kq_592 : Jvm.Cond.lays "java/lang/IndexOutOfBoundsException" "java/lang/Throwable" "depth" "I" ∈ kq_W := kq_of 592 (by decide +kernel) rfl
theorem kq_594 : Jvm.Cond.methodLink "GlossRows" (151 : Nat) ({ cls := "GlossRows$Word", name := "width", desc := "(I)I" } : Jvm.MethodName) ∈ kq_W := kq_of 594 (by decide +kernel) rfl
theorem kq_595 : Jvm.Cond.methodLink "GlossRows" (168 : Nat) ({ cls := "GlossRows$Word", name := "countGaps", desc := "()I" } : Jvm.MethodName) ∈ kq_W := kq_of 595 (by decide +kernel) rfl
theorem kq_597 : Jvm.Cond.methodLink "GlossRowsLaw" (133 : Nat) ({ cls := "GlossRowsLaw", name := "part", desc := "(LGlossRows;III[J)I" } : Jvm.MethodName) ∈ kq_W := kq_of 597 (by decide +kernel) rfl
theorem kq_598 : Jvm.Cond.static ({ cls := "GlossRowsLaw", name := "part", desc := "(LGlossRows;III[J)I" } : Jvm.MethodName) ∈ kq_W := kq_of 598 (by decide +kernel) rfl
theorem kq_600 : Jvm.Cond.methodLink "GlossRowsLaw" (30 : Nat) ({ cls := "GlossRows", name := "part", desc := "(III)I" } : Jvm.MethodName) ∈ kq_W := kq_of 600 (by decide +kernel) rfl
theorem kq_601 : Jvm.Cond.instanceMethod ({ cls := "GlossRows", name := "part", desc := "(III)I" } : Jvm.MethodName) ∈ kq_W := kq_of 601 (by decide +kernel) rfl
theorem kq_602 : Jvm.Cond.selects "GlossRows" ({ cls := "GlossRows", name := "part", desc := "(III)I" } : Jvm.MethodName) ({ cls := "GlossRows", name := "part", desc := "(III)I" } : Jvm.MethodName) ∈ kq_W := kq_of 602 (by decide +kernel) rfl
theorem kq_603 : Jvm.Cond.code ({ cls := "GlossRows", name := "part", desc := "(III)I" } : Jvm.MethodName) prog_1_method_8_code (4 : Nat) (Option.some Jvm.ClassFile.FieldType.int) ∈ kq_W := kq_of 603 (by decide +kernel) rfl
theorem kq_604 : Jvm.Cond.methodLink "GlossRows" (174 : Nat) ({ cls := "GlossRows", name := "requirePart", desc := "(II)V" } : Jvm.MethodName) ∈ kq_W := kq_of 604 (by decide +kernel) rfl
theorem kq_606 : Jvm.Cond.instanceMethod ({ cls := "GlossRows", name := "requirePart", desc := "(II)V" } : Jvm.MethodName) ∈ kq_W := kq_of 606 (by decide +kernel) rfl
theorem kq_607 : Jvm.Cond.code ({ cls := "GlossRows", name := "requirePart", desc := "(II)V" } : Jvm.MethodName) prog_1_method_34_code (3 : Nat) (Option.none : Option Jvm.ClassFile.FieldType) ∈ kq_W := kq_of 607 (by decide +kernel) rfl
theorem kq_608 : Jvm.Cond.methodLink "GlossRows" (351 : Nat) ({ cls := "GlossRows$Page", name := "hasPart", desc := "(II)Z" } : Jvm.MethodName) ∈ kq_W := kq_of 608 (by decide +kernel) rfl
theorem kq_609 : Jvm.Cond.instanceMethod ({ cls := "GlossRows$Page", name := "hasPart", desc := "(II)Z" } : Jvm.MethodName) ∈ kq_W := kq_of 609 (by decide +kernel) rfl
theorem kq_610 : Jvm.Cond.selects "GlossRows$Page" ({ cls := "GlossRows$Page", name := "hasPart", desc := "(II)Z" } : Jvm.MethodName) ({ cls := "GlossRows$Page", name := "hasPart", desc := "(II)Z" } : Jvm.MethodName) ∈ kq_W := kq_of 610 (by decide +kernel) rfl
theorem kq_611 : Jvm.Cond.code ({ cls := "GlossRows$Page", name := "hasPart", desc := "(II)Z" } : Jvm.MethodName) prog_6_method_5_code (3 : Nat) (Option.some Jvm.ClassFile.FieldType.boolean) ∈ kq_W := kq_of 611 (by decide +kernel) rfl
theorem kq_612 : Jvm.Cond.methodLink "GlossRows$Page" (51 : Nat) ({ cls := "GlossRows$Page", name := "hasWord", desc := "(I)Z" } : Jvm.MethodName) ∈ kq_W := kq_of 612 (by decide +kernel) rfl
theorem kq_614 : Jvm.Cond.methodLink "GlossRows" (182 : Nat) ({ cls := "GlossRows$Letters", name := "length", desc := "(J)I" } : Jvm.MethodName) ∈ kq_W := kq_of 614 (by decide +kernel) rfl
theorem kq_615 : Jvm.Cond.methodLink "GlossRows" (193 : Nat) ({ cls := "GlossRows$Lexicon", name := "find", desc := "(J)I" } : Jvm.MethodName) ∈ kq_W := kq_of 615 (by decide +kernel) rfl
theorem kq_617 : Jvm.Cond.methodLink "GlossRowsLaw" (137 : Nat) ({ cls := "GlossRowsLaw", name := "letter", desc := "(LGlossRows;IIZI[J)I" } : Jvm.MethodName) ∈ kq_W := kq_of 617 (by decide +kernel) rfl
theorem kq_618 : Jvm.Cond.static ({ cls := "GlossRowsLaw", name := "letter", desc := "(LGlossRows;IIZI[J)I" } : Jvm.MethodName) ∈ kq_W := kq_of 618 (by decide +kernel) rfl
theorem kq_620 : Jvm.Cond.methodLink "GlossRowsLaw" (34 : Nat) ({ cls := "GlossRows", name := "letter", desc := "(IIZI)I" } : Jvm.MethodName) ∈ kq_W := kq_of 620 (by decide +kernel) rfl
theorem kq_621 : Jvm.Cond.instanceMethod ({ cls := "GlossRows", name := "letter", desc := "(IIZI)I" } : Jvm.MethodName) ∈ kq_W := kq_of 621 (by decide +kernel) rfl
theorem kq_622 : Jvm.Cond.selects "GlossRows" ({ cls := "GlossRows", name := "letter", desc := "(IIZI)I" } : Jvm.MethodName) ({ cls := "GlossRows", name := "letter", desc := "(IIZI)I" } : Jvm.MethodName) ∈ kq_W := kq_of 622 (by decide +kernel) rfl
theorem kq_623 : Jvm.Cond.code ({ cls := "GlossRows", name := "letter", desc := "(IIZI)I" } : Jvm.MethodName) prog_1_method_9_code (5 : Nat) (Option.some Jvm.ClassFile.FieldType.int) ∈ kq_W := kq_of 623 (by decide +kernel) rfl
theorem kq_624 : Jvm.Cond.methodLink "GlossRows" (198 : Nat) ({ cls := "GlossRows", name := "requireNotNegative", desc := "(I)V" } : Jvm.MethodName) ∈ kq_W := kq_of 624 (by decide +kernel) rfl
theorem kq_626 : Jvm.Cond.instanceMethod ({ cls := "GlossRows", name := "requireNotNegative", desc := "(I)V" } : Jvm.MethodName) ∈ kq_W := kq_of 626 (by decide +kernel) rfl
theorem kq_627 : Jvm.Cond.code ({ cls := "GlossRows", name := "requireNotNegative", desc := "(I)V" } : Jvm.MethodName) prog_1_method_38_code (2 : Nat) (Option.none : Option Jvm.ClassFile.FieldType) ∈ kq_W := kq_of 627 (by decide +kernel) rfl
theorem kq_629 : Jvm.Cond.methodLink "GlossRows" (201 : Nat) ({ cls := "GlossRows$Letters", name := "code", desc := "(JI)I" } : Jvm.MethodName) ∈ kq_W := kq_of 629 (by decide +kernel) rfl
theorem kq_630 : Jvm.Cond.static ({ cls := "GlossRows$Letters", name := "code", desc := "(JI)I" } : Jvm.MethodName) ∈ kq_W := kq_of 630 (by decide +kernel) rfl
theorem kq_631 : Jvm.Cond.code ({ cls := "GlossRows$Letters", name := "code", desc := "(JI)I" } : Jvm.MethodName) prog_4_method_3_code (3 : Nat) (Option.some Jvm.ClassFile.FieldType.int) ∈ kq_W := kq_of 631 (by decide +kernel) rfl
theorem kq_632 : Jvm.Cond.methodLink "GlossRowsLaw" (141 : Nat) ({ cls := "GlossRowsLaw", name := "entry", desc := "(LGlossRows;IZI[J)I" } : Jvm.MethodName) ∈ kq_W := kq_of 632 (by decide +kernel) rfl
theorem kq_633 : Jvm.Cond.static ({ cls := "GlossRowsLaw", name := "entry", desc := "(LGlossRows;IZI[J)I" } : Jvm.MethodName) ∈ kq_W := kq_of 633 (by decide +kernel) rfl
theorem kq_635 : Jvm.Cond.methodLink "GlossRowsLaw" (38 : Nat) ({ cls := "GlossRows", name := "entry", desc := "(IZI)I" } : Jvm.MethodName) ∈ kq_W := kq_of 635 (by decide +kernel) rfl
theorem kq_636 : Jvm.Cond.instanceMethod ({ cls := "GlossRows", name := "entry", desc := "(IZI)I" } : Jvm.MethodName) ∈ kq_W := kq_of 636 (by decide +kernel) rfl
theorem kq_637 : Jvm.Cond.selects "GlossRows" ({ cls := "GlossRows", name := "entry", desc := "(IZI)I" } : Jvm.MethodName) ({ cls := "GlossRows", name := "entry", desc := "(IZI)I" } : Jvm.MethodName) ∈ kq_W := kq_of 637 (by decide +kernel) rfl
theorem kq_638 : Jvm.Cond.code ({ cls := "GlossRows", name := "entry", desc := "(IZI)I" } : Jvm.MethodName) prog_1_method_10_code (4 : Nat) (Option.some Jvm.ClassFile.FieldType.int) ∈ kq_W := kq_of 638 (by decide +kernel) rfl
theorem kq_639 : Jvm.Cond.methodLink "GlossRows" (205 : Nat) ({ cls := "GlossRows", name := "requireEntry", desc := "(I)V" } : Jvm.MethodName) ∈ kq_W := kq_of 639 (by decide +kernel) rfl
theorem kq_641 : Jvm.Cond.instanceMethod ({ cls := "GlossRows", name := "requireEntry", desc := "(I)V" } : Jvm.MethodName) ∈ kq_W := kq_of 641 (by decide +kernel) rfl
theorem kq_642 : Jvm.Cond.code ({ cls := "GlossRows", name := "requireEntry", desc := "(I)V" } : Jvm.MethodName) prog_1_method_35_code (2 : Nat) (Option.none : Option Jvm.ClassFile.FieldType) ∈ kq_W := kq_of 642 (by decide +kernel) rfl
theorem kq_644 : Jvm.Cond.methodLink "GlossRowsLaw" (145 : Nat) ({ cls := "GlossRowsLaw", name := "row", desc := "(LGlossRows;II[J)I" } : Jvm.MethodName) ∈ kq_W := kq_of 644 (by decide +kernel) rfl
theorem kq_645 : Jvm.Cond.static ({ cls := "GlossRowsLaw", name := "row", desc := "(LGlossRows;II[J)I" } : Jvm.MethodName) ∈ kq_W := kq_of 645 (by decide +kernel) rfl
theorem kq_647 : Jvm.Cond.methodLink "GlossRowsLaw" (42 : Nat) ({ cls := "GlossRows", name := "row", desc := "(II)I" } : Jvm.MethodName) ∈ kq_W := kq_of 647 (by decide +kernel) rfl
theorem kq_648 : Jvm.Cond.instanceMethod ({ cls := "GlossRows", name := "row", desc := "(II)I" } : Jvm.MethodName) ∈ kq_W := kq_of 648 (by decide +kernel) rfl
theorem kq_649 : Jvm.Cond.selects "GlossRows" ({ cls := "GlossRows", name := "row", desc := "(II)I" } : Jvm.MethodName) ({ cls := "GlossRows", name := "row", desc := "(II)I" } : Jvm.MethodName) ∈ kq_W := kq_of 649 (by decide +kernel) rfl
theorem kq_650 : Jvm.Cond.code ({ cls := "GlossRows", name := "row", desc := "(II)I" } : Jvm.MethodName) prog_1_method_11_code (3 : Nat) (Option.some Jvm.ClassFile.FieldType.int) ∈ kq_W := kq_of 650 (by decide +kernel) rfl
theorem kq_651 : Jvm.Cond.methodLink "GlossRows" (210 : Nat) ({ cls := "GlossRows", name := "requireRow", desc := "(I)V" } : Jvm.MethodName) ∈ kq_W := kq_of 651 (by decide +kernel) rfl
theorem kq_653 : Jvm.Cond.instanceMethod ({ cls := "GlossRows", name := "requireRow", desc := "(I)V" } : Jvm.MethodName) ∈ kq_W := kq_of 653 (by decide +kernel) rfl
theorem kq_654 : Jvm.Cond.code ({ cls := "GlossRows", name := "requireRow", desc := "(I)V" } : Jvm.MethodName) prog_1_method_36_code (2 : Nat) (Option.none : Option Jvm.ClassFile.FieldType) ∈ kq_W := kq_of 654 (by decide +kernel) rfl
theorem kq_656 : Jvm.Cond.methodLink "GlossRows" (213 : Nat) ({ cls := "GlossRows$Layout", name := "kindOfRow", desc := "(LGlossRows$Page;I)I" } : Jvm.MethodName) ∈ kq_W := kq_of 656 (by decide +kernel) rfl
theorem kq_657 : Jvm.Cond.instanceMethod ({ cls := "GlossRows$Layout", name := "kindOfRow", desc := "(LGlossRows$Page;I)I" } : Jvm.MethodName) ∈ kq_W := kq_of 657 (by decide +kernel) rfl
theorem kq_658 : Jvm.Cond.selects "GlossRows$Layout" ({ cls := "GlossRows$Layout", name := "kindOfRow", desc := "(LGlossRows$Page;I)I" } : Jvm.MethodName) ({ cls := "GlossRows$Layout", name := "kindOfRow", desc := "(LGlossRows$Page;I)I" } : Jvm.MethodName) ∈ kq_W := kq_of 658 (by decide +kernel) rfl
theorem kq_659 : Jvm.Cond.code ({ cls := "GlossRows$Layout", name := "kindOfRow", desc := "(LGlossRows$Page;I)I" } : Jvm.MethodName) prog_3_method_7_code (3 : Nat) (Option.some Jvm.ClassFile.FieldType.int) ∈ kq_W := kq_of 659 (by decide +kernel) rfl
theorem kq_660 : Jvm.Cond.methodLink "GlossRows$Layout" (68 : Nat) ({ cls := "GlossRows$Layout", name := "lastWordOfRow", desc := "(LGlossRows$Page;I)I" } : Jvm.MethodName) ∈ kq_W := kq_of 660 (by decide +kernel) rfl
theorem kq_662 : Jvm.Cond.instanceMethod ({ cls := "GlossRows$Layout", name := "lastWordOfRow", desc := "(LGlossRows$Page;I)I" } : Jvm.MethodName) ∈ kq_W := kq_of 662 (by decide +kernel) rfl
theorem kq_663 : Jvm.Cond.code ({ cls := "GlossRows$Layout", name := "lastWordOfRow", desc := "(LGlossRows$Page;I)I" } : Jvm.MethodName) prog_3_method_12_code (5 : Nat) (Option.some Jvm.ClassFile.FieldType.int) ∈ kq_W := kq_of 663 (by decide +kernel) rfl
theorem kq_664 : Jvm.Cond.methodLink "GlossRows$Layout" (72 : Nat) ({ cls := "java/lang/Math", name := "min", desc := "(II)I" } : Jvm.MethodName) ∈ kq_W := kq_of 664 (by decide +kernel) rfl
theorem kq_665 : Jvm.Cond.static ({ cls := "java/lang/Math", name := "min", desc := "(II)I" } : Jvm.MethodName) ∈ kq_W := kq_of 665 (by decide +kernel) rfl
theorem kq_666 : Jvm.Cond.code ({ cls := "java/lang/Math", name := "min", desc := "(II)I" } : Jvm.MethodName) prog_16_method_69_code (2 : Nat) (Option.some Jvm.ClassFile.FieldType.int) ∈ kq_W := kq_of 666 (by decide +kernel) rfl
theorem kq_667 : Jvm.Cond.methodLink "GlossRows" (216 : Nat) ({ cls := "GlossRows$Layout", name := "lengthOfRow", desc := "(LGlossRows$Page;I)I" } : Jvm.MethodName) ∈ kq_W := kq_of 667 (by decide +kernel) rfl
theorem kq_668 : Jvm.Cond.instanceMethod ({ cls := "GlossRows$Layout", name := "lengthOfRow", desc := "(LGlossRows$Page;I)I" } : Jvm.MethodName) ∈ kq_W := kq_of 668 (by decide +kernel) rfl
theorem kq_669 : Jvm.Cond.selects "GlossRows$Layout" ({ cls := "GlossRows$Layout", name := "lengthOfRow", desc := "(LGlossRows$Page;I)I" } : Jvm.MethodName) ({ cls := "GlossRows$Layout", name := "lengthOfRow", desc := "(LGlossRows$Page;I)I" } : Jvm.MethodName) ∈ kq_W := kq_of 669 (by decide +kernel) rfl
theorem kq_670 : Jvm.Cond.code ({ cls := "GlossRows$Layout", name := "lengthOfRow", desc := "(LGlossRows$Page;I)I" } : Jvm.MethodName) prog_3_method_8_code (4 : Nat) (Option.some Jvm.ClassFile.FieldType.int) ∈ kq_W := kq_of 670 (by decide +kernel) rfl
theorem kq_671 : Jvm.Cond.methodLink "GlossRows$Layout" (75 : Nat) ({ cls := "GlossRows$Layout", name := "kindOfRow", desc := "(LGlossRows$Page;I)I" } : Jvm.MethodName) ∈ kq_W := kq_of 671 (by decide +kernel) rfl
theorem kq_672 : Jvm.Cond.methodLink "GlossRows$Layout" (80 : Nat) ({ cls := "GlossRows$Layout", name := "beginInFree", desc := "(LGlossRows$Page;I)I" } : Jvm.MethodName) ∈ kq_W := kq_of 672 (by decide +kernel) rfl
theorem kq_674 : Jvm.Cond.instanceMethod ({ cls := "GlossRows$Layout", name := "beginInFree", desc := "(LGlossRows$Page;I)I" } : Jvm.MethodName) ∈ kq_W := kq_of 674 (by decide +kernel) rfl
theorem kq_675 : Jvm.Cond.code ({ cls := "GlossRows$Layout", name := "beginInFree", desc := "(LGlossRows$Page;I)I" } : Jvm.MethodName) prog_3_method_11_code (3 : Nat) (Option.some Jvm.ClassFile.FieldType.int) ∈ kq_W := kq_of 675 (by decide +kernel) rfl
theorem kq_676 : Jvm.Cond.methodLink "GlossRows" (219 : Nat) ({ cls := "GlossRows$Layout", name := "sentenceOfRow", desc := "(LGlossRows$Page;I)I" } : Jvm.MethodName) ∈ kq_W := kq_of 676 (by decide +kernel) rfl
theorem kq_677 : Jvm.Cond.instanceMethod ({ cls := "GlossRows$Layout", name := "sentenceOfRow", desc := "(LGlossRows$Page;I)I" } : Jvm.MethodName) ∈ kq_W := kq_of 677 (by decide +kernel) rfl
theorem kq_678 : Jvm.Cond.selects "GlossRows$Layout" ({ cls := "GlossRows$Layout", name := "sentenceOfRow", desc := "(LGlossRows$Page;I)I" } : Jvm.MethodName) ({ cls := "GlossRows$Layout", name := "sentenceOfRow", desc := "(LGlossRows$Page;I)I" } : Jvm.MethodName) ∈ kq_W := kq_of 678 (by decide +kernel) rfl
theorem kq_679 : Jvm.Cond.code ({ cls := "GlossRows$Layout", name := "sentenceOfRow", desc := "(LGlossRows$Page;I)I" } : Jvm.MethodName) prog_3_method_9_code (3 : Nat) (Option.some Jvm.ClassFile.FieldType.int) ∈ kq_W := kq_of 679 (by decide +kernel) rfl
theorem kq_681 : Jvm.Cond.methodLink "GlossRowsLaw" (148 : Nat) ({ cls := "GlossRowsLaw", name := "at", desc := "(LGlossRows;II[J)I" } : Jvm.MethodName) ∈ kq_W := kq_of 681 (by decide +kernel) rfl
theorem kq_682 : Jvm.Cond.static ({ cls := "GlossRowsLaw", name := "at", desc := "(LGlossRows;II[J)I" } : Jvm.MethodName) ∈ kq_W := kq_of 682 (by decide +kernel) rfl
theorem kq_684 : Jvm.Cond.methodLink "GlossRowsLaw" (45 : Nat) ({ cls := "GlossRows", name := "at", desc := "(II)I" } : Jvm.MethodName) ∈ kq_W := kq_of 684 (by decide +kernel) rfl
theorem kq_685 : Jvm.Cond.instanceMethod ({ cls := "GlossRows", name := "at", desc := "(II)I" } : Jvm.MethodName) ∈ kq_W := kq_of 685 (by decide +kernel) rfl
theorem kq_686 : Jvm.Cond.selects "GlossRows" ({ cls := "GlossRows", name := "at", desc := "(II)I" } : Jvm.MethodName) ({ cls := "GlossRows", name := "at", desc := "(II)I" } : Jvm.MethodName) ∈ kq_W := kq_of 686 (by decide +kernel) rfl
theorem kq_687 : Jvm.Cond.code ({ cls := "GlossRows", name := "at", desc := "(II)I" } : Jvm.MethodName) prog_1_method_12_code (3 : Nat) (Option.some Jvm.ClassFile.FieldType.int) ∈ kq_W := kq_of 687 (by decide +kernel) rfl
theorem kq_688 : Jvm.Cond.methodLink "GlossRows" (224 : Nat) ({ cls := "GlossRows$Layout", name := "codeInRow", desc := "(LGlossRows$Page;II)I" } : Jvm.MethodName) ∈ kq_W := kq_of 688 (by decide +kernel) rfl
theorem kq_689 : Jvm.Cond.instanceMethod ({ cls := "GlossRows$Layout", name := "codeInRow", desc := "(LGlossRows$Page;II)I" } : Jvm.MethodName) ∈ kq_W := kq_of 689 (by decide +kernel) rfl
theorem kq_690 : Jvm.Cond.selects "GlossRows$Layout" ({ cls := "GlossRows$Layout", name := "codeInRow", desc := "(LGlossRows$Page;II)I" } : Jvm.MethodName) ({ cls := "GlossRows$Layout", name := "codeInRow", desc := "(LGlossRows$Page;II)I" } : Jvm.MethodName) ∈ kq_W := kq_of 690 (by decide +kernel) rfl
theorem kq_691 : Jvm.Cond.code ({ cls := "GlossRows$Layout", name := "codeInRow", desc := "(LGlossRows$Page;II)I" } : Jvm.MethodName) prog_3_method_10_code (7 : Nat) (Option.some Jvm.ClassFile.FieldType.int) ∈ kq_W := kq_of 691 (by decide +kernel) rfl
theorem kq_692 : Jvm.Cond.methodLink "GlossRows$Layout" (83 : Nat) ({ cls := "GlossRows$Layout", name := "lengthOfRow", desc := "(LGlossRows$Page;I)I" } : Jvm.MethodName) ∈ kq_W := kq_of 692 (by decide +kernel) rfl
theorem kq_693 : Jvm.Cond.methodLink "GlossRows$Layout" (86 : Nat) ({ cls := "GlossRows$Word", name := "codeOfFree", desc := "(I)I" } : Jvm.MethodName) ∈ kq_W := kq_of 693 (by decide +kernel) rfl
theorem kq_694 : Jvm.Cond.instanceMethod ({ cls := "GlossRows$Word", name := "codeOfFree", desc := "(I)I" } : Jvm.MethodName) ∈ kq_W := kq_of 694 (by decide +kernel) rfl
theorem kq_695 : Jvm.Cond.selects "GlossRows$Word" ({ cls := "GlossRows$Word", name := "codeOfFree", desc := "(I)I" } : Jvm.MethodName) ({ cls := "GlossRows$Word", name := "codeOfFree", desc := "(I)I" } : Jvm.MethodName) ∈ kq_W := kq_of 695 (by decide +kernel) rfl
theorem kq_696 : Jvm.Cond.code ({ cls := "GlossRows$Word", name := "codeOfFree", desc := "(I)I" } : Jvm.MethodName) prog_9_method_11_code (2 : Nat) (Option.some Jvm.ClassFile.FieldType.int) ∈ kq_W := kq_of 696 (by decide +kernel) rfl
theorem kq_697 : Jvm.Cond.methodLink "GlossRows$Layout" (92 : Nat) ({ cls := "GlossRows$Word", name := "codeShown", desc := "(III)I" } : Jvm.MethodName) ∈ kq_W := kq_of 697 (by decide +kernel) rfl
theorem kq_698 : Jvm.Cond.instanceMethod ({ cls := "GlossRows$Word", name := "codeShown", desc := "(III)I" } : Jvm.MethodName) ∈ kq_W := kq_of 698 (by decide +kernel) rfl
theorem kq_699 : Jvm.Cond.selects "GlossRows$Word" ({ cls := "GlossRows$Word", name := "codeShown", desc := "(III)I" } : Jvm.MethodName) ({ cls := "GlossRows$Word", name := "codeShown", desc := "(III)I" } : Jvm.MethodName) ∈ kq_W := kq_of 699 (by decide +kernel) rfl
theorem kq_700 : Jvm.Cond.code ({ cls := "GlossRows$Word", name := "codeShown", desc := "(III)I" } : Jvm.MethodName) prog_9_method_10_code (9 : Nat) (Option.some Jvm.ClassFile.FieldType.int) ∈ kq_W := kq_of 700 (by decide +kernel) rfl
theorem kq_701 : Jvm.Cond.methodLink "GlossRows$Word" (65 : Nat) ({ cls := "GlossRows$Letters", name := "code", desc := "(JI)I" } : Jvm.MethodName) ∈ kq_W := kq_of 701 (by decide +kernel) rfl
theorem kq_702 : Jvm.Cond.methodLink "GlossRowsLaw" (151 : Nat) ({ cls := "GlossRowsLaw", name := "insert", desc := "(LGlossRows;I[J)I" } : Jvm.MethodName) ∈ kq_W := kq_of 702 (by decide +kernel) rfl
theorem kq_703 : Jvm.Cond.static ({ cls := "GlossRowsLaw", name := "insert", desc := "(LGlossRows;I[J)I" } : Jvm.MethodName) ∈ kq_W := kq_of 703 (by decide +kernel) rfl
theorem kq_705 : Jvm.Cond.methodLink "GlossRowsLaw" (48 : Nat) ({ cls := "GlossRows", name := "insert", desc := "(I)I" } : Jvm.MethodName) ∈ kq_W := kq_of 705 (by decide +kernel) rfl
theorem kq_706 : Jvm.Cond.instanceMethod ({ cls := "GlossRows", name := "insert", desc := "(I)I" } : Jvm.MethodName) ∈ kq_W := kq_of 706 (by decide +kernel) rfl
theorem kq_707 : Jvm.Cond.selects "GlossRows" ({ cls := "GlossRows", name := "insert", desc := "(I)I" } : Jvm.MethodName) ({ cls := "GlossRows", name := "insert", desc := "(I)I" } : Jvm.MethodName) ∈ kq_W := kq_of 707 (by decide +kernel) rfl
theorem kq_708 : Jvm.Cond.code ({ cls := "GlossRows", name := "insert", desc := "(I)I" } : Jvm.MethodName) prog_1_method_13_code (2 : Nat) (Option.some Jvm.ClassFile.FieldType.int) ∈ kq_W := kq_of 708 (by decide +kernel) rfl
theorem kq_711 : Jvm.Cond.methodLink "GlossRowsLaw" (154 : Nat) ({ cls := "GlossRowsLaw", name := "remove", desc := "(LGlossRows;I[J)I" } : Jvm.MethodName) ∈ kq_W := kq_of 711 (by decide +kernel) rfl
theorem kq_712 : Jvm.Cond.static ({ cls := "GlossRowsLaw", name := "remove", desc := "(LGlossRows;I[J)I" } : Jvm.MethodName) ∈ kq_W := kq_of 712 (by decide +kernel) rfl
theorem kq_714 : Jvm.Cond.methodLink "GlossRowsLaw" (51 : Nat) ({ cls := "GlossRows", name := "remove", desc := "(I)I" } : Jvm.MethodName) ∈ kq_W := kq_of 714 (by decide +kernel) rfl
theorem kq_715 : Jvm.Cond.instanceMethod ({ cls := "GlossRows", name := "remove", desc := "(I)I" } : Jvm.MethodName) ∈ kq_W := kq_of 715 (by decide +kernel) rfl
theorem kq_716 : Jvm.Cond.selects "GlossRows" ({ cls := "GlossRows", name := "remove", desc := "(I)I" } : Jvm.MethodName) ({ cls := "GlossRows", name := "remove", desc := "(I)I" } : Jvm.MethodName) ∈ kq_W := kq_of 716 (by decide +kernel) rfl
theorem kq_717 : Jvm.Cond.code ({ cls := "GlossRows", name := "remove", desc := "(I)I" } : Jvm.MethodName) prog_1_method_14_code (2 : Nat) (Option.some Jvm.ClassFile.FieldType.int) ∈ kq_W := kq_of 717 (by decide +kernel) rfl
theorem kq_718 : Jvm.Cond.methodLink "GlossRows" (240 : Nat) ({ cls := "GlossRows$Page", name := "dropWord", desc := "(I)V" } : Jvm.MethodName) ∈ kq_W := kq_of 718 (by decide +kernel) rfl
theorem kq_719 : Jvm.Cond.instanceMethod ({ cls := "GlossRows$Page", name := "dropWord", desc := "(I)V" } : Jvm.MethodName) ∈ kq_W := kq_of 719 (by decide +kernel) rfl
theorem kq_720 : Jvm.Cond.selects "GlossRows$Page" ({ cls := "GlossRows$Page", name := "dropWord", desc := "(I)V" } : Jvm.MethodName) ({ cls := "GlossRows$Page", name := "dropWord", desc := "(I)V" } : Jvm.MethodName) ∈ kq_W := kq_of 720 (by decide +kernel) rfl
theorem kq_721 : Jvm.Cond.code ({ cls := "GlossRows$Page", name := "dropWord", desc := "(I)V" } : Jvm.MethodName) prog_6_method_7_code (3 : Nat) (Option.none : Option Jvm.ClassFile.FieldType) ∈ kq_W := kq_of 721 (by decide +kernel) rfl
theorem kq_722 : Jvm.Cond.methodLink "GlossRowsLaw" (157 : Nat) ({ cls := "GlossRowsLaw", name := "end", desc := "(LGlossRows;I[J)I" } : Jvm.MethodName) ∈ kq_W := kq_of 722 (by decide +kernel) rfl
theorem kq_723 : Jvm.Cond.static ({ cls := "GlossRowsLaw", name := "end", desc := "(LGlossRows;I[J)I" } : Jvm.MethodName) ∈ kq_W := kq_of 723 (by decide +kernel) rfl
theorem kq_725 : Jvm.Cond.methodLink "GlossRowsLaw" (54 : Nat) ({ cls := "GlossRows", name := "end", desc := "(I)I" } : Jvm.MethodName) ∈ kq_W := kq_of 725 (by decide +kernel) rfl
theorem kq_726 : Jvm.Cond.instanceMethod ({ cls := "GlossRows", name := "end", desc := "(I)I" } : Jvm.MethodName) ∈ kq_W := kq_of 726 (by decide +kernel) rfl
theorem kq_727 : Jvm.Cond.selects "GlossRows" ({ cls := "GlossRows", name := "end", desc := "(I)I" } : Jvm.MethodName) ({ cls := "GlossRows", name := "end", desc := "(I)I" } : Jvm.MethodName) ∈ kq_W := kq_of 727 (by decide +kernel) rfl
theorem kq_728 : Jvm.Cond.code ({ cls := "GlossRows", name := "end", desc := "(I)I" } : Jvm.MethodName) prog_1_method_15_code (2 : Nat) (Option.some Jvm.ClassFile.FieldType.int) ∈ kq_W := kq_of 728 (by decide +kernel) rfl
theorem kq_729 : Jvm.Cond.methodLink "GlossRowsLaw" (160 : Nat) ({ cls := "GlossRowsLaw", name := "join", desc := "(LGlossRows;I[J)I" } : Jvm.MethodName) ∈ kq_W := kq_of 729 (by decide +kernel) rfl
theorem kq_730 : Jvm.Cond.static ({ cls := "GlossRowsLaw", name := "join", desc := "(LGlossRows;I[J)I" } : Jvm.MethodName) ∈ kq_W := kq_of 730 (by decide +kernel) rfl
theorem kq_732 : Jvm.Cond.methodLink "GlossRowsLaw" (57 : Nat) ({ cls := "GlossRows", name := "join", desc := "(I)I" } : Jvm.MethodName) ∈ kq_W := kq_of 732 (by decide +kernel) rfl
theorem kq_733 : Jvm.Cond.instanceMethod ({ cls := "GlossRows", name := "join", desc := "(I)I" } : Jvm.MethodName) ∈ kq_W := kq_of 733 (by decide +kernel) rfl
theorem kq_734 : Jvm.Cond.selects "GlossRows" ({ cls := "GlossRows", name := "join", desc := "(I)I" } : Jvm.MethodName) ({ cls := "GlossRows", name := "join", desc := "(I)I" } : Jvm.MethodName) ∈ kq_W := kq_of 734 (by decide +kernel) rfl
theorem kq_735 : Jvm.Cond.code ({ cls := "GlossRows", name := "join", desc := "(I)I" } : Jvm.MethodName) prog_1_method_16_code (2 : Nat) (Option.some Jvm.ClassFile.FieldType.int) ∈ kq_W := kq_of 735 (by decide +kernel) rfl
theorem kq_736 : Jvm.Cond.methodLink "GlossRows" (243 : Nat) ({ cls := "GlossRows$Word", name := "dropEnd", desc := "()V" } : Jvm.MethodName) ∈ kq_W := kq_of 736 (by decide +kernel) rfl
theorem kq_737 : Jvm.Cond.instanceMethod ({ cls := "GlossRows$Word", name := "dropEnd", desc := "()V" } : Jvm.MethodName) ∈ kq_W := kq_of 737 (by decide +kernel) rfl
theorem kq_738 : Jvm.Cond.selects "GlossRows$Word" ({ cls := "GlossRows$Word", name := "dropEnd", desc := "()V" } : Jvm.MethodName) ({ cls := "GlossRows$Word", name := "dropEnd", desc := "()V" } : Jvm.MethodName) ∈ kq_W := kq_of 738 (by decide +kernel) rfl
theorem kq_739 : Jvm.Cond.code ({ cls := "GlossRows$Word", name := "dropEnd", desc := "()V" } : Jvm.MethodName) prog_9_method_5_code (1 : Nat) (Option.none : Option Jvm.ClassFile.FieldType) ∈ kq_W := kq_of 739 (by decide +kernel) rfl
theorem kq_740 : Jvm.Cond.methodLink "GlossRowsLaw" (163 : Nat) ({ cls := "GlossRowsLaw", name := "setFree", desc := "(LGlossRows;I[J)I" } : Jvm.MethodName) ∈ kq_W := kq_of 740 (by decide +kernel) rfl
theorem kq_741 : Jvm.Cond.static ({ cls := "GlossRowsLaw", name := "setFree", desc := "(LGlossRows;I[J)I" } : Jvm.MethodName) ∈ kq_W := kq_of 741 (by decide +kernel) rfl
theorem kq_743 : Jvm.Cond.methodLink "GlossRowsLaw" (60 : Nat) ({ cls := "GlossRows", name := "setFree", desc := "(I)I" } : Jvm.MethodName) ∈ kq_W := kq_of 743 (by decide +kernel) rfl
theorem kq_744 : Jvm.Cond.instanceMethod ({ cls := "GlossRows", name := "setFree", desc := "(I)I" } : Jvm.MethodName) ∈ kq_W := kq_of 744 (by decide +kernel) rfl
theorem kq_745 : Jvm.Cond.selects "GlossRows" ({ cls := "GlossRows", name := "setFree", desc := "(I)I" } : Jvm.MethodName) ({ cls := "GlossRows", name := "setFree", desc := "(I)I" } : Jvm.MethodName) ∈ kq_W := kq_of 745 (by decide +kernel) rfl
theorem kq_746 : Jvm.Cond.code ({ cls := "GlossRows", name := "setFree", desc := "(I)I" } : Jvm.MethodName) prog_1_method_17_code (2 : Nat) (Option.some Jvm.ClassFile.FieldType.int) ∈ kq_W := kq_of 746 (by decide +kernel) rfl
theorem kq_747 : Jvm.Cond.methodLink "GlossRows" (246 : Nat) ({ cls := "GlossRows$Text", name := "isFreeLine", desc := "()Z" } : Jvm.MethodName) ∈ kq_W := kq_of 747 (by decide +kernel) rfl
theorem kq_748 : Jvm.Cond.instanceMethod ({ cls := "GlossRows$Text", name := "isFreeLine", desc := "()Z" } : Jvm.MethodName) ∈ kq_W := kq_of 748 (by decide +kernel) rfl
theorem kq_749 : Jvm.Cond.selects "GlossRows$Text" ({ cls := "GlossRows$Text", name := "isFreeLine", desc := "()Z" } : Jvm.MethodName) ({ cls := "GlossRows$Text", name := "isFreeLine", desc := "()Z" } : Jvm.MethodName) ∈ kq_W := kq_of 749 (by decide +kernel) rfl
theorem kq_750 : Jvm.Cond.code ({ cls := "GlossRows$Text", name := "isFreeLine", desc := "()Z" } : Jvm.MethodName) prog_8_method_3_code (2 : Nat) (Option.some Jvm.ClassFile.FieldType.boolean) ∈ kq_W := kq_of 750 (by decide +kernel) rfl
theorem kq_752 : Jvm.Cond.methodLink "GlossRows" (252 : Nat) ({ cls := "GlossRows$Word", name := "takeFree", desc := "(LGlossRows$Text;)V" } : Jvm.MethodName) ∈ kq_W := kq_of 752 (by decide +kernel) rfl
theorem kq_753 : Jvm.Cond.instanceMethod ({ cls := "GlossRows$Word", name := "takeFree", desc := "(LGlossRows$Text;)V" } : Jvm.MethodName) ∈ kq_W := kq_of 753 (by decide +kernel) rfl
theorem kq_754 : Jvm.Cond.selects "GlossRows$Word" ({ cls := "GlossRows$Word", name := "takeFree", desc := "(LGlossRows$Text;)V" } : Jvm.MethodName) ({ cls := "GlossRows$Word", name := "takeFree", desc := "(LGlossRows$Text;)V" } : Jvm.MethodName) ∈ kq_W := kq_of 754 (by decide +kernel) rfl
theorem kq_755 : Jvm.Cond.code ({ cls := "GlossRows$Word", name := "takeFree", desc := "(LGlossRows$Text;)V" } : Jvm.MethodName) prog_9_method_7_code (3 : Nat) (Option.none : Option Jvm.ClassFile.FieldType) ∈ kq_W := kq_of 755 (by decide +kernel) rfl
theorem kq_756 : Jvm.Cond.methodLink "GlossRows$Word" (44 : Nat) ({ cls := "java/lang/Math", name := "min", desc := "(II)I" } : Jvm.MethodName) ∈ kq_W := kq_of 756 (by decide +kernel) rfl
theorem kq_757 : Jvm.Cond.methodLink "GlossRowsLaw" (166 : Nat) ({ cls := "GlossRowsLaw", name := "setGloss", desc := "(LGlossRows;II[J)I" } : Jvm.MethodName) ∈ kq_W := kq_of 757 (by decide +kernel) rfl
theorem kq_758 : Jvm.Cond.static ({ cls := "GlossRowsLaw", name := "setGloss", desc := "(LGlossRows;II[J)I" } : Jvm.MethodName) ∈ kq_W := kq_of 758 (by decide +kernel) rfl
theorem kq_760 : Jvm.Cond.methodLink "GlossRowsLaw" (63 : Nat) ({ cls := "GlossRows", name := "setGloss", desc := "(II)I" } : Jvm.MethodName) ∈ kq_W := kq_of 760 (by decide +kernel) rfl
theorem kq_761 : Jvm.Cond.instanceMethod ({ cls := "GlossRows", name := "setGloss", desc := "(II)I" } : Jvm.MethodName) ∈ kq_W := kq_of 761 (by decide +kernel) rfl
theorem kq_762 : Jvm.Cond.selects "GlossRows" ({ cls := "GlossRows", name := "setGloss", desc := "(II)I" } : Jvm.MethodName) ({ cls := "GlossRows", name := "setGloss", desc := "(II)I" } : Jvm.MethodName) ∈ kq_W := kq_of 762 (by decide +kernel) rfl
theorem kq_763 : Jvm.Cond.code ({ cls := "GlossRows", name := "setGloss", desc := "(II)I" } : Jvm.MethodName) prog_1_method_18_code (3 : Nat) (Option.some Jvm.ClassFile.FieldType.int) ∈ kq_W := kq_of 763 (by decide +kernel) rfl
theorem kq_764 : Jvm.Cond.methodLink "GlossRows" (256 : Nat) ({ cls := "GlossRows$Text", name := "isGloss", desc := "()Z" } : Jvm.MethodName) ∈ kq_W := kq_of 764 (by decide +kernel) rfl
theorem kq_765 : Jvm.Cond.instanceMethod ({ cls := "GlossRows$Text", name := "isGloss", desc := "()Z" } : Jvm.MethodName) ∈ kq_W := kq_of 765 (by decide +kernel) rfl
theorem kq_766 : Jvm.Cond.selects "GlossRows$Text" ({ cls := "GlossRows$Text", name := "isGloss", desc := "()Z" } : Jvm.MethodName) ({ cls := "GlossRows$Text", name := "isGloss", desc := "()Z" } : Jvm.MethodName) ∈ kq_W := kq_of 766 (by decide +kernel) rfl
theorem kq_767 : Jvm.Cond.code ({ cls := "GlossRows$Text", name := "isGloss", desc := "()Z" } : Jvm.MethodName) prog_8_method_4_code (2 : Nat) (Option.some Jvm.ClassFile.FieldType.boolean) ∈ kq_W := kq_of 767 (by decide +kernel) rfl
theorem kq_768 : Jvm.Cond.methodLink "GlossRows$Text" (19 : Nat) ({ cls := "GlossRows$Letters", name := "isGlossLetter", desc := "(I)Z" } : Jvm.MethodName) ∈ kq_W := kq_of 768 (by decide +kernel) rfl
theorem kq_770 : Jvm.Cond.methodLink "GlossRows" (261 : Nat) ({ cls := "GlossRows$Text", name := "letters", desc := "()J" } : Jvm.MethodName) ∈ kq_W := kq_of 770 (by decide +kernel) rfl
theorem kq_771 : Jvm.Cond.instanceMethod ({ cls := "GlossRows$Text", name := "letters", desc := "()J" } : Jvm.MethodName) ∈ kq_W := kq_of 771 (by decide +kernel) rfl
theorem kq_772 : Jvm.Cond.selects "GlossRows$Text" ({ cls := "GlossRows$Text", name := "letters", desc := "()J" } : Jvm.MethodName) ({ cls := "GlossRows$Text", name := "letters", desc := "()J" } : Jvm.MethodName) ∈ kq_W := kq_of 772 (by decide +kernel) rfl
theorem kq_773 : Jvm.Cond.code ({ cls := "GlossRows$Text", name := "letters", desc := "()J" } : Jvm.MethodName) prog_8_method_5_code (4 : Nat) (Option.some Jvm.ClassFile.FieldType.long) ∈ kq_W := kq_of 773 (by decide +kernel) rfl
theorem kq_774 : Jvm.Cond.methodLink "GlossRows$Text" (25 : Nat) ({ cls := "GlossRows$Letters", name := "with", desc := "(JI)J" } : Jvm.MethodName) ∈ kq_W := kq_of 774 (by decide +kernel) rfl
theorem kq_775 : Jvm.Cond.methodLink "GlossRowsLaw" (169 : Nat) ({ cls := "GlossRowsLaw", name := "set", desc := "(LGlossRows;II[J)I" } : Jvm.MethodName) ∈ kq_W := kq_of 775 (by decide +kernel) rfl
theorem kq_776 : Jvm.Cond.static ({ cls := "GlossRowsLaw", name := "set", desc := "(LGlossRows;II[J)I" } : Jvm.MethodName) ∈ kq_W := kq_of 776 (by decide +kernel) rfl
theorem kq_778 : Jvm.Cond.methodLink "GlossRowsLaw" (66 : Nat) ({ cls := "GlossRows", name := "set", desc := "(II)I" } : Jvm.MethodName) ∈ kq_W := kq_of 778 (by decide +kernel) rfl
theorem kq_779 : Jvm.Cond.instanceMethod ({ cls := "GlossRows", name := "set", desc := "(II)I" } : Jvm.MethodName) ∈ kq_W := kq_of 779 (by decide +kernel) rfl
theorem kq_780 : Jvm.Cond.selects "GlossRows" ({ cls := "GlossRows", name := "set", desc := "(II)I" } : Jvm.MethodName) ({ cls := "GlossRows", name := "set", desc := "(II)I" } : Jvm.MethodName) ∈ kq_W := kq_of 780 (by decide +kernel) rfl
theorem kq_781 : Jvm.Cond.code ({ cls := "GlossRows", name := "set", desc := "(II)I" } : Jvm.MethodName) prog_1_method_19_code (3 : Nat) (Option.some Jvm.ClassFile.FieldType.int) ∈ kq_W := kq_of 781 (by decide +kernel) rfl
theorem kq_782 : Jvm.Cond.methodLink "GlossRows" (265 : Nat) ({ cls := "GlossRows$Page", name := "allows", desc := "(II)Z" } : Jvm.MethodName) ∈ kq_W := kq_of 782 (by decide +kernel) rfl
theorem kq_783 : Jvm.Cond.static ({ cls := "GlossRows$Page", name := "allows", desc := "(II)Z" } : Jvm.MethodName) ∈ kq_W := kq_of 783 (by decide +kernel) rfl
theorem kq_784 : Jvm.Cond.code ({ cls := "GlossRows$Page", name := "allows", desc := "(II)Z" } : Jvm.MethodName) prog_6_method_8_code (2 : Nat) (Option.some Jvm.ClassFile.FieldType.boolean) ∈ kq_W := kq_of 784 (by decide +kernel) rfl
theorem kq_786 : Jvm.Cond.methodLink "GlossRows" (271 : Nat) ({ cls := "GlossRows$Page", name := "change", desc := "(II)I" } : Jvm.MethodName) ∈ kq_W := kq_of 786 (by decide +kernel) rfl
theorem kq_787 : Jvm.Cond.instanceMethod ({ cls := "GlossRows$Page", name := "change", desc := "(II)I" } : Jvm.MethodName) ∈ kq_W := kq_of 787 (by decide +kernel) rfl
theorem kq_788 : Jvm.Cond.selects "GlossRows$Page" ({ cls := "GlossRows$Page", name := "change", desc := "(II)I" } : Jvm.MethodName) ({ cls := "GlossRows$Page", name := "change", desc := "(II)I" } : Jvm.MethodName) ∈ kq_W := kq_of 788 (by decide +kernel) rfl
theorem kq_789 : Jvm.Cond.code ({ cls := "GlossRows$Page", name := "change", desc := "(II)I" } : Jvm.MethodName) prog_6_method_9_code (4 : Nat) (Option.some Jvm.ClassFile.FieldType.int) ∈ kq_W := kq_of 789 (by decide +kernel) rfl
theorem kq_790 : Jvm.Cond.methodLink "GlossRowsLaw" (172 : Nat) ({ cls := "GlossRowsLaw", name := "learn", desc := "(LGlossRows;II[J)I" } : Jvm.MethodName) ∈ kq_W := kq_of 790 (by decide +kernel) rfl
theorem kq_791 : Jvm.Cond.static ({ cls := "GlossRowsLaw", name := "learn", desc := "(LGlossRows;II[J)I" } : Jvm.MethodName) ∈ kq_W := kq_of 791 (by decide +kernel) rfl
theorem kq_793 : Jvm.Cond.methodLink "GlossRowsLaw" (69 : Nat) ({ cls := "GlossRows", name := "learn", desc := "(II)I" } : Jvm.MethodName) ∈ kq_W := kq_of 793 (by decide +kernel) rfl
theorem kq_794 : Jvm.Cond.instanceMethod ({ cls := "GlossRows", name := "learn", desc := "(II)I" } : Jvm.MethodName) ∈ kq_W := kq_of 794 (by decide +kernel) rfl
theorem kq_795 : Jvm.Cond.selects "GlossRows" ({ cls := "GlossRows", name := "learn", desc := "(II)I" } : Jvm.MethodName) ({ cls := "GlossRows", name := "learn", desc := "(II)I" } : Jvm.MethodName) ∈ kq_W := kq_of 795 (by decide +kernel) rfl
theorem kq_796 : Jvm.Cond.code ({ cls := "GlossRows", name := "learn", desc := "(II)I" } : Jvm.MethodName) prog_1_method_20_code (3 : Nat) (Option.some Jvm.ClassFile.FieldType.int) ∈ kq_W := kq_of 796 (by decide +kernel) rfl
theorem kq_797 : Jvm.Cond.methodLink "GlossRows" (275 : Nat) ({ cls := "GlossRows$Page", name := "canLearn", desc := "(II)Z" } : Jvm.MethodName) ∈ kq_W := kq_of 797 (by decide +kernel) rfl
theorem kq_798 : Jvm.Cond.instanceMethod ({ cls := "GlossRows$Page", name := "canLearn", desc := "(II)Z" } : Jvm.MethodName) ∈ kq_W := kq_of 798 (by decide +kernel) rfl
theorem kq_799 : Jvm.Cond.selects "GlossRows$Page" ({ cls := "GlossRows$Page", name := "canLearn", desc := "(II)Z" } : Jvm.MethodName) ({ cls := "GlossRows$Page", name := "canLearn", desc := "(II)Z" } : Jvm.MethodName) ∈ kq_W := kq_of 799 (by decide +kernel) rfl
theorem kq_800 : Jvm.Cond.code ({ cls := "GlossRows$Page", name := "canLearn", desc := "(II)Z" } : Jvm.MethodName) prog_6_method_10_code (3 : Nat) (Option.some Jvm.ClassFile.FieldType.boolean) ∈ kq_W := kq_of 800 (by decide +kernel) rfl
theorem kq_801 : Jvm.Cond.methodLink "GlossRows$Page" (60 : Nat) ({ cls := "GlossRows$Page", name := "hasPart", desc := "(II)Z" } : Jvm.MethodName) ∈ kq_W := kq_of 801 (by decide +kernel) rfl
theorem kq_802 : Jvm.Cond.methodLink "GlossRows$Page" (71 : Nat) ({ cls := "GlossRows$Lexicon", name := "canTake", desc := "(J)Z" } : Jvm.MethodName) ∈ kq_W := kq_of 802 (by decide +kernel) rfl
theorem kq_803 : Jvm.Cond.instanceMethod ({ cls := "GlossRows$Lexicon", name := "canTake", desc := "(J)Z" } : Jvm.MethodName) ∈ kq_W := kq_of 803 (by decide +kernel) rfl
theorem kq_804 : Jvm.Cond.selects "GlossRows$Lexicon" ({ cls := "GlossRows$Lexicon", name := "canTake", desc := "(J)Z" } : Jvm.MethodName) ({ cls := "GlossRows$Lexicon", name := "canTake", desc := "(J)Z" } : Jvm.MethodName) ∈ kq_W := kq_of 804 (by decide +kernel) rfl
theorem kq_805 : Jvm.Cond.code ({ cls := "GlossRows$Lexicon", name := "canTake", desc := "(J)Z" } : Jvm.MethodName) prog_5_method_4_code (3 : Nat) (Option.some Jvm.ClassFile.FieldType.boolean) ∈ kq_W := kq_of 805 (by decide +kernel) rfl
theorem kq_806 : Jvm.Cond.methodLink "GlossRows$Lexicon" (22 : Nat) ({ cls := "GlossRows$Lexicon", name := "find", desc := "(J)I" } : Jvm.MethodName) ∈ kq_W := kq_of 806 (by decide +kernel) rfl
theorem kq_808 : Jvm.Cond.methodLink "GlossRows" (280 : Nat) ({ cls := "GlossRows$Page", name := "learnPart", desc := "(II)V" } : Jvm.MethodName) ∈ kq_W := kq_of 808 (by decide +kernel) rfl
theorem kq_809 : Jvm.Cond.instanceMethod ({ cls := "GlossRows$Page", name := "learnPart", desc := "(II)V" } : Jvm.MethodName) ∈ kq_W := kq_of 809 (by decide +kernel) rfl
theorem kq_810 : Jvm.Cond.selects "GlossRows$Page" ({ cls := "GlossRows$Page", name := "learnPart", desc := "(II)V" } : Jvm.MethodName) ({ cls := "GlossRows$Page", name := "learnPart", desc := "(II)V" } : Jvm.MethodName) ∈ kq_W := kq_of 810 (by decide +kernel) rfl
theorem kq_811 : Jvm.Cond.code ({ cls := "GlossRows$Page", name := "learnPart", desc := "(II)V" } : Jvm.MethodName) prog_6_method_11_code (3 : Nat) (Option.none : Option Jvm.ClassFile.FieldType) ∈ kq_W := kq_of 811 (by decide +kernel) rfl
theorem kq_812 : Jvm.Cond.methodLink "GlossRows$Page" (75 : Nat) ({ cls := "GlossRows$Page", name := "canLearn", desc := "(II)Z" } : Jvm.MethodName) ∈ kq_W := kq_of 812 (by decide +kernel) rfl
theorem kq_813 : Jvm.Cond.methodLink "GlossRows$Page" (78 : Nat) ({ cls := "GlossRows$Lexicon", name := "take", desc := "(JJ)V" } : Jvm.MethodName) ∈ kq_W := kq_of 813 (by decide +kernel) rfl
theorem kq_814 : Jvm.Cond.instanceMethod ({ cls := "GlossRows$Lexicon", name := "take", desc := "(JJ)V" } : Jvm.MethodName) ∈ kq_W := kq_of 814 (by decide +kernel) rfl
theorem kq_815 : Jvm.Cond.selects "GlossRows$Lexicon" ({ cls := "GlossRows$Lexicon", name := "take", desc := "(JJ)V" } : Jvm.MethodName) ({ cls := "GlossRows$Lexicon", name := "take", desc := "(JJ)V" } : Jvm.MethodName) ∈ kq_W := kq_of 815 (by decide +kernel) rfl
theorem kq_816 : Jvm.Cond.code ({ cls := "GlossRows$Lexicon", name := "take", desc := "(JJ)V" } : Jvm.MethodName) prog_5_method_5_code (6 : Nat) (Option.none : Option Jvm.ClassFile.FieldType) ∈ kq_W := kq_of 816 (by decide +kernel) rfl
theorem kq_817 : Jvm.Cond.methodLink "GlossRows$Lexicon" (26 : Nat) ({ cls := "GlossRows$Lexicon", name := "makePlaceFor", desc := "(J)I" } : Jvm.MethodName) ∈ kq_W := kq_of 817 (by decide +kernel) rfl
theorem kq_819 : Jvm.Cond.instanceMethod ({ cls := "GlossRows$Lexicon", name := "makePlaceFor", desc := "(J)I" } : Jvm.MethodName) ∈ kq_W := kq_of 819 (by decide +kernel) rfl
theorem kq_820 : Jvm.Cond.code ({ cls := "GlossRows$Lexicon", name := "makePlaceFor", desc := "(J)I" } : Jvm.MethodName) prog_5_method_6_code (4 : Nat) (Option.some Jvm.ClassFile.FieldType.int) ∈ kq_W := kq_of 820 (by decide +kernel) rfl
theorem kq_821 : Jvm.Cond.methodLink "GlossRowsLaw" (175 : Nat) ({ cls := "GlossRowsLaw", name := "forget", desc := "(LGlossRows;I[J)I" } : Jvm.MethodName) ∈ kq_W := kq_of 821 (by decide +kernel) rfl
theorem kq_822 : Jvm.Cond.static ({ cls := "GlossRowsLaw", name := "forget", desc := "(LGlossRows;I[J)I" } : Jvm.MethodName) ∈ kq_W := kq_of 822 (by decide +kernel) rfl
theorem kq_824 : Jvm.Cond.methodLink "GlossRowsLaw" (72 : Nat) ({ cls := "GlossRows", name := "forget", desc := "(I)I" } : Jvm.MethodName) ∈ kq_W := kq_of 824 (by decide +kernel) rfl
theorem kq_825 : Jvm.Cond.instanceMethod ({ cls := "GlossRows", name := "forget", desc := "(I)I" } : Jvm.MethodName) ∈ kq_W := kq_of 825 (by decide +kernel) rfl
theorem kq_826 : Jvm.Cond.selects "GlossRows" ({ cls := "GlossRows", name := "forget", desc := "(I)I" } : Jvm.MethodName) ({ cls := "GlossRows", name := "forget", desc := "(I)I" } : Jvm.MethodName) ∈ kq_W := kq_of 826 (by decide +kernel) rfl
theorem kq_827 : Jvm.Cond.code ({ cls := "GlossRows", name := "forget", desc := "(I)I" } : Jvm.MethodName) prog_1_method_21_code (2 : Nat) (Option.some Jvm.ClassFile.FieldType.int) ∈ kq_W := kq_of 827 (by decide +kernel) rfl
theorem kq_828 : Jvm.Cond.methodLink "GlossRows" (283 : Nat) ({ cls := "GlossRows$Lexicon", name := "drop", desc := "(I)V" } : Jvm.MethodName) ∈ kq_W := kq_of 828 (by decide +kernel) rfl
theorem kq_829 : Jvm.Cond.instanceMethod ({ cls := "GlossRows$Lexicon", name := "drop", desc := "(I)V" } : Jvm.MethodName) ∈ kq_W := kq_of 829 (by decide +kernel) rfl
theorem kq_830 : Jvm.Cond.selects "GlossRows$Lexicon" ({ cls := "GlossRows$Lexicon", name := "drop", desc := "(I)V" } : Jvm.MethodName) ({ cls := "GlossRows$Lexicon", name := "drop", desc := "(I)V" } : Jvm.MethodName) ∈ kq_W := kq_of 830 (by decide +kernel) rfl
theorem kq_831 : Jvm.Cond.code ({ cls := "GlossRows$Lexicon", name := "drop", desc := "(I)V" } : Jvm.MethodName) prog_5_method_7_code (3 : Nat) (Option.none : Option Jvm.ClassFile.FieldType) ∈ kq_W := kq_of 831 (by decide +kernel) rfl
theorem kq_832 : Jvm.Cond.methodLink "GlossRowsLaw" (182 : Nat) ({ cls := "GlossRowsLaw", name := "undo", desc := "(LGlossRows;[J)I" } : Jvm.MethodName) ∈ kq_W := kq_of 832 (by decide +kernel) rfl
theorem kq_833 : Jvm.Cond.static ({ cls := "GlossRowsLaw", name := "undo", desc := "(LGlossRows;[J)I" } : Jvm.MethodName) ∈ kq_W := kq_of 833 (by decide +kernel) rfl
theorem kq_835 : Jvm.Cond.methodLink "GlossRowsLaw" (75 : Nat) ({ cls := "GlossRows", name := "undo", desc := "()I" } : Jvm.MethodName) ∈ kq_W := kq_of 835 (by decide +kernel) rfl
theorem kq_836 : Jvm.Cond.instanceMethod ({ cls := "GlossRows", name := "undo", desc := "()I" } : Jvm.MethodName) ∈ kq_W := kq_of 836 (by decide +kernel) rfl
theorem kq_837 : Jvm.Cond.selects "GlossRows" ({ cls := "GlossRows", name := "undo", desc := "()I" } : Jvm.MethodName) ({ cls := "GlossRows", name := "undo", desc := "()I" } : Jvm.MethodName) ∈ kq_W := kq_of 837 (by decide +kernel) rfl
theorem kq_838 : Jvm.Cond.code ({ cls := "GlossRows", name := "undo", desc := "()I" } : Jvm.MethodName) prog_1_method_23_code (1 : Nat) (Option.some Jvm.ClassFile.FieldType.int) ∈ kq_W := kq_of 838 (by decide +kernel) rfl
theorem kq_840 : Jvm.Cond.methodLink "GlossRows" (292 : Nat) ({ cls := "GlossRows$History", name := "takeBack", desc := "(LGlossRows$Page;)V" } : Jvm.MethodName) ∈ kq_W := kq_of 840 (by decide +kernel) rfl
theorem kq_841 : Jvm.Cond.instanceMethod ({ cls := "GlossRows$History", name := "takeBack", desc := "(LGlossRows$Page;)V" } : Jvm.MethodName) ∈ kq_W := kq_of 841 (by decide +kernel) rfl
theorem kq_842 : Jvm.Cond.selects "GlossRows$History" ({ cls := "GlossRows$History", name := "takeBack", desc := "(LGlossRows$Page;)V" } : Jvm.MethodName) ({ cls := "GlossRows$History", name := "takeBack", desc := "(LGlossRows$Page;)V" } : Jvm.MethodName) ∈ kq_W := kq_of 842 (by decide +kernel) rfl
theorem kq_843 : Jvm.Cond.code ({ cls := "GlossRows$History", name := "takeBack", desc := "(LGlossRows$Page;)V" } : Jvm.MethodName) prog_2_method_4_code (2 : Nat) (Option.none : Option Jvm.ClassFile.FieldType) ∈ kq_W := kq_of 843 (by decide +kernel) rfl
theorem kq_844 : Jvm.Cond.methodLink "GlossRowsLaw" (185 : Nat) ({ cls := "GlossRowsLaw", name := "gap", desc := "(LGlossRows;I[J)I" } : Jvm.MethodName) ∈ kq_W := kq_of 844 (by decide +kernel) rfl
theorem kq_845 : Jvm.Cond.static ({ cls := "GlossRowsLaw", name := "gap", desc := "(LGlossRows;I[J)I" } : Jvm.MethodName) ∈ kq_W := kq_of 845 (by decide +kernel) rfl
theorem kq_847 : Jvm.Cond.methodLink "GlossRowsLaw" (78 : Nat) ({ cls := "GlossRows", name := "gap", desc := "(I)I" } : Jvm.MethodName) ∈ kq_W := kq_of 847 (by decide +kernel) rfl
theorem kq_848 : Jvm.Cond.instanceMethod ({ cls := "GlossRows", name := "gap", desc := "(I)I" } : Jvm.MethodName) ∈ kq_W := kq_of 848 (by decide +kernel) rfl
theorem kq_849 : Jvm.Cond.selects "GlossRows" ({ cls := "GlossRows", name := "gap", desc := "(I)I" } : Jvm.MethodName) ({ cls := "GlossRows", name := "gap", desc := "(I)I" } : Jvm.MethodName) ∈ kq_W := kq_of 849 (by decide +kernel) rfl
theorem kq_850 : Jvm.Cond.code ({ cls := "GlossRows", name := "gap", desc := "(I)I" } : Jvm.MethodName) prog_1_method_24_code (2 : Nat) (Option.some Jvm.ClassFile.FieldType.int) ∈ kq_W := kq_of 850 (by decide +kernel) rfl
theorem kq_851 : Jvm.Cond.methodLink "GlossRows" (295 : Nat) ({ cls := "GlossRows$Page", name := "placeOfGap", desc := "(I)I" } : Jvm.MethodName) ∈ kq_W := kq_of 851 (by decide +kernel) rfl
theorem kq_852 : Jvm.Cond.instanceMethod ({ cls := "GlossRows$Page", name := "placeOfGap", desc := "(I)I" } : Jvm.MethodName) ∈ kq_W := kq_of 852 (by decide +kernel) rfl
theorem kq_853 : Jvm.Cond.selects "GlossRows$Page" ({ cls := "GlossRows$Page", name := "placeOfGap", desc := "(I)I" } : Jvm.MethodName) ({ cls := "GlossRows$Page", name := "placeOfGap", desc := "(I)I" } : Jvm.MethodName) ∈ kq_W := kq_of 853 (by decide +kernel) rfl
theorem kq_854 : Jvm.Cond.code ({ cls := "GlossRows$Page", name := "placeOfGap", desc := "(I)I" } : Jvm.MethodName) prog_6_method_17_code (5 : Nat) (Option.some Jvm.ClassFile.FieldType.int) ∈ kq_W := kq_of 854 (by decide +kernel) rfl
theorem kq_855 : Jvm.Cond.methodLink "GlossRowsLaw" (192 : Nat) ({ cls := "GlossRowsLaw", name := "widthFor", desc := "(LGlossRows;I[J)I" } : Jvm.MethodName) ∈ kq_W := kq_of 855 (by decide +kernel) rfl
theorem kq_856 : Jvm.Cond.static ({ cls := "GlossRowsLaw", name := "widthFor", desc := "(LGlossRows;I[J)I" } : Jvm.MethodName) ∈ kq_W := kq_of 856 (by decide +kernel) rfl
theorem kq_858 : Jvm.Cond.methodLink "GlossRowsLaw" (81 : Nat) ({ cls := "GlossRows", name := "widthFor", desc := "(I)I" } : Jvm.MethodName) ∈ kq_W := kq_of 858 (by decide +kernel) rfl
theorem kq_859 : Jvm.Cond.instanceMethod ({ cls := "GlossRows", name := "widthFor", desc := "(I)I" } : Jvm.MethodName) ∈ kq_W := kq_of 859 (by decide +kernel) rfl
theorem kq_860 : Jvm.Cond.selects "GlossRows" ({ cls := "GlossRows", name := "widthFor", desc := "(I)I" } : Jvm.MethodName) ({ cls := "GlossRows", name := "widthFor", desc := "(I)I" } : Jvm.MethodName) ∈ kq_W := kq_of 860 (by decide +kernel) rfl
theorem kq_861 : Jvm.Cond.code ({ cls := "GlossRows", name := "widthFor", desc := "(I)I" } : Jvm.MethodName) prog_1_method_26_code (3 : Nat) (Option.some Jvm.ClassFile.FieldType.int) ∈ kq_W := kq_of 861 (by decide +kernel) rfl
theorem kq_863 : Jvm.Cond.methodLink "GlossRowsLaw" (199 : Nat) ({ cls := "GlossRowsLaw", name := "rowsWith", desc := "(LGlossRows;II[J)I" } : Jvm.MethodName) ∈ kq_W := kq_of 863 (by decide +kernel) rfl
theorem kq_864 : Jvm.Cond.static ({ cls := "GlossRowsLaw", name := "rowsWith", desc := "(LGlossRows;II[J)I" } : Jvm.MethodName) ∈ kq_W := kq_of 864 (by decide +kernel) rfl
theorem kq_866 : Jvm.Cond.methodLink "GlossRowsLaw" (84 : Nat) ({ cls := "GlossRows", name := "rowsWith", desc := "(II)I" } : Jvm.MethodName) ∈ kq_W := kq_of 866 (by decide +kernel) rfl
theorem kq_867 : Jvm.Cond.instanceMethod ({ cls := "GlossRows", name := "rowsWith", desc := "(II)I" } : Jvm.MethodName) ∈ kq_W := kq_of 867 (by decide +kernel) rfl
theorem kq_868 : Jvm.Cond.selects "GlossRows" ({ cls := "GlossRows", name := "rowsWith", desc := "(II)I" } : Jvm.MethodName) ({ cls := "GlossRows", name := "rowsWith", desc := "(II)I" } : Jvm.MethodName) ∈ kq_W := kq_of 868 (by decide +kernel) rfl
theorem kq_869 : Jvm.Cond.code ({ cls := "GlossRows", name := "rowsWith", desc := "(II)I" } : Jvm.MethodName) prog_1_method_28_code (3 : Nat) (Option.some Jvm.ClassFile.FieldType.int) ∈ kq_W := kq_of 869 (by decide +kernel) rfl
theorem kq_871 : Jvm.Cond.methodLink "GlossRowsLaw" (204 : Nat) ({ cls := "GlossRowsLaw", name := "runScript", desc := "(LGlossRows;IJ[J)I" } : Jvm.MethodName) ∈ kq_W := kq_of 871 (by decide +kernel) rfl
theorem kq_872 : Jvm.Cond.static ({ cls := "GlossRowsLaw", name := "runScript", desc := "(LGlossRows;IJ[J)I" } : Jvm.MethodName) ∈ kq_W := kq_of 872 (by decide +kernel) rfl
theorem kq_874 : Jvm.Cond.methodLink "GlossRowsLaw" (87 : Nat) ({ cls := "GlossRows", name := "runScript", desc := "(IJ)I" } : Jvm.MethodName) ∈ kq_W := kq_of 874 (by decide +kernel) rfl
theorem kq_875 : Jvm.Cond.instanceMethod ({ cls := "GlossRows", name := "runScript", desc := "(IJ)I" } : Jvm.MethodName) ∈ kq_W := kq_of 875 (by decide +kernel) rfl
theorem kq_876 : Jvm.Cond.selects "GlossRows" ({ cls := "GlossRows", name := "runScript", desc := "(IJ)I" } : Jvm.MethodName) ({ cls := "GlossRows", name := "runScript", desc := "(IJ)I" } : Jvm.MethodName) ∈ kq_W := kq_of 876 (by decide +kernel) rfl
theorem kq_877 : Jvm.Cond.code ({ cls := "GlossRows", name := "runScript", desc := "(IJ)I" } : Jvm.MethodName) prog_1_method_29_code (5 : Nat) (Option.some Jvm.ClassFile.FieldType.int) ∈ kq_W := kq_of 877 (by decide +kernel) rfl
theorem kq_879 : Jvm.Cond.methodLink "GlossRows" (317 : Nat) ({ cls := "GlossRows", name := "withoutLowest", desc := "(JI)J" } : Jvm.MethodName) ∈ kq_W := kq_of 879 (by decide +kernel) rfl
theorem kq_880 : Jvm.Cond.static ({ cls := "GlossRows", name := "withoutLowest", desc := "(JI)J" } : Jvm.MethodName) ∈ kq_W := kq_of 880 (by decide +kernel) rfl
theorem kq_881 : Jvm.Cond.code ({ cls := "GlossRows", name := "withoutLowest", desc := "(JI)J" } : Jvm.MethodName) prog_1_method_40_code (6 : Nat) (Option.some Jvm.ClassFile.FieldType.long) ∈ kq_W := kq_of 881 (by decide +kernel) rfl
theorem kq_882 : Jvm.Cond.constantLong "GlossRows" (326 : Nat) (10000 : Int64) ∈ kq_W := kq_of 882 (by decide +kernel) rfl
theorem kq_884 : Jvm.Cond.methodLink "GlossRows" (323 : Nat) ({ cls := "GlossRows$Page", name := "copyFrom", desc := "(LGlossRows$Page;)V" } : Jvm.MethodName) ∈ kq_W := kq_of 884 (by decide +kernel) rfl
theorem kq_885 : Jvm.Cond.methodLink "GlossRows" (328 : Nat) ({ cls := "GlossRows", name := "succeeds", desc := "(I)Z" } : Jvm.MethodName) ∈ kq_W := kq_of 885 (by decide +kernel) rfl
theorem kq_887 : Jvm.Cond.instanceMethod ({ cls := "GlossRows", name := "succeeds", desc := "(I)Z" } : Jvm.MethodName) ∈ kq_W := kq_of 887 (by decide +kernel) rfl
theorem kq_888 : Jvm.Cond.code ({ cls := "GlossRows", name := "succeeds", desc := "(I)Z" } : Jvm.MethodName) prog_1_method_41_code (5 : Nat) (Option.some Jvm.ClassFile.FieldType.boolean) ∈ kq_W := kq_of 888 (by decide +kernel) rfl
theorem kq_889 : Jvm.Cond.methodLink "GlossRows" (364 : Nat) ({ cls := "GlossRows", name := "learnsOnTrial", desc := "(II)Z" } : Jvm.MethodName) ∈ kq_W := kq_of 889 (by decide +kernel) rfl
theorem kq_891 : Jvm.Cond.instanceMethod ({ cls := "GlossRows", name := "learnsOnTrial", desc := "(II)Z" } : Jvm.MethodName) ∈ kq_W := kq_of 891 (by decide +kernel) rfl
theorem kq_892 : Jvm.Cond.code ({ cls := "GlossRows", name := "learnsOnTrial", desc := "(II)Z" } : Jvm.MethodName) prog_1_method_44_code (3 : Nat) (Option.some Jvm.ClassFile.FieldType.boolean) ∈ kq_W := kq_of 892 (by decide +kernel) rfl
theorem kq_893 : Jvm.Cond.methodLink "GlossRows" (367 : Nat) ({ cls := "GlossRows", name := "setsOnTrial", desc := "(II)Z" } : Jvm.MethodName) ∈ kq_W := kq_of 893 (by decide +kernel) rfl
theorem kq_895 : Jvm.Cond.instanceMethod ({ cls := "GlossRows", name := "setsOnTrial", desc := "(II)Z" } : Jvm.MethodName) ∈ kq_W := kq_of 895 (by decide +kernel) rfl
theorem kq_896 : Jvm.Cond.code ({ cls := "GlossRows", name := "setsOnTrial", desc := "(II)Z" } : Jvm.MethodName) prog_1_method_42_code (3 : Nat) (Option.some Jvm.ClassFile.FieldType.boolean) ∈ kq_W := kq_of 896 (by decide +kernel) rfl
theorem kq_897 : Jvm.Cond.methodLink "GlossRows" (370 : Nat) ({ cls := "GlossRows", name := "changesWordOfTrial", desc := "(II)Z" } : Jvm.MethodName) ∈ kq_W := kq_of 897 (by decide +kernel) rfl
theorem kq_899 : Jvm.Cond.instanceMethod ({ cls := "GlossRows", name := "changesWordOfTrial", desc := "(II)Z" } : Jvm.MethodName) ∈ kq_W := kq_of 899 (by decide +kernel) rfl
theorem kq_900 : Jvm.Cond.code ({ cls := "GlossRows", name := "changesWordOfTrial", desc := "(II)Z" } : Jvm.MethodName) prog_1_method_43_code (3 : Nat) (Option.some Jvm.ClassFile.FieldType.boolean) ∈ kq_W := kq_of 900 (by decide +kernel) rfl
theorem kq_901 : Jvm.Cond.methodLink "GlossRows" (373 : Nat) ({ cls := "GlossRows", name := "fillsTrial", desc := "()Z" } : Jvm.MethodName) ∈ kq_W := kq_of 901 (by decide +kernel) rfl
theorem kq_903 : Jvm.Cond.instanceMethod ({ cls := "GlossRows", name := "fillsTrial", desc := "()Z" } : Jvm.MethodName) ∈ kq_W := kq_of 903 (by decide +kernel) rfl
theorem kq_904 : Jvm.Cond.code ({ cls := "GlossRows", name := "fillsTrial", desc := "()Z" } : Jvm.MethodName) prog_1_method_45_code (1 : Nat) (Option.some Jvm.ClassFile.FieldType.boolean) ∈ kq_W := kq_of 904 (by decide +kernel) rfl
theorem kq_905 : Jvm.Cond.methodLink "GlossRowsLaw" (208 : Nat) ({ cls := "GlossRowsLaw", name := "simulate", desc := "(LGlossRows;JI[J)I" } : Jvm.MethodName) ∈ kq_W := kq_of 905 (by decide +kernel) rfl
theorem kq_906 : Jvm.Cond.static ({ cls := "GlossRowsLaw", name := "simulate", desc := "(LGlossRows;JI[J)I" } : Jvm.MethodName) ∈ kq_W := kq_of 906 (by decide +kernel) rfl
theorem kq_908 : Jvm.Cond.methodLink "GlossRowsLaw" (91 : Nat) ({ cls := "GlossRows", name := "simulate", desc := "(JI)I" } : Jvm.MethodName) ∈ kq_W := kq_of 908 (by decide +kernel) rfl
theorem kq_909 : Jvm.Cond.instanceMethod ({ cls := "GlossRows", name := "simulate", desc := "(JI)I" } : Jvm.MethodName) ∈ kq_W := kq_of 909 (by decide +kernel) rfl
theorem kq_910 : Jvm.Cond.selects "GlossRows" ({ cls := "GlossRows", name := "simulate", desc := "(JI)I" } : Jvm.MethodName) ({ cls := "GlossRows", name := "simulate", desc := "(JI)I" } : Jvm.MethodName) ∈ kq_W := kq_of 910 (by decide +kernel) rfl
theorem kq_911 : Jvm.Cond.code ({ cls := "GlossRows", name := "simulate", desc := "(JI)I" } : Jvm.MethodName) prog_1_method_30_code (8 : Nat) (Option.some Jvm.ClassFile.FieldType.int) ∈ kq_W := kq_of 911 (by decide +kernel) rfl
theorem kq_913 : Jvm.Cond.constantLong "GlossRows" (334 : Nat) (6364136223846793005 : Int64) ∈ kq_W := kq_of 913 (by decide +kernel) rfl
theorem kq_914 : Jvm.Cond.constantLong "GlossRows" (336 : Nat) (1442695040888963407 : Int64) ∈ kq_W := kq_of 914 (by decide +kernel) rfl
theorem kq_915 : Jvm.Cond.methodLink "GlossRows" (338 : Nat) ({ cls := "GlossRows", name := "playRound", desc := "(I)V" } : Jvm.MethodName) ∈ kq_W := kq_of 915 (by decide +kernel) rfl
theorem kq_917 : Jvm.Cond.instanceMethod ({ cls := "GlossRows", name := "playRound", desc := "(I)V" } : Jvm.MethodName) ∈ kq_W := kq_of 917 (by decide +kernel) rfl
theorem kq_918 : Jvm.Cond.code ({ cls := "GlossRows", name := "playRound", desc := "(I)V" } : Jvm.MethodName) prog_1_method_46_code (3 : Nat) (Option.none : Option Jvm.ClassFile.FieldType) ∈ kq_W := kq_of 918 (by decide +kernel) rfl
theorem kq_919 : Jvm.Cond.methodLink "GlossRows" (376 : Nat) ({ cls := "GlossRows$Word", name := "turnEnd", desc := "()V" } : Jvm.MethodName) ∈ kq_W := kq_of 919 (by decide +kernel) rfl
theorem kq_920 : Jvm.Cond.instanceMethod ({ cls := "GlossRows$Word", name := "turnEnd", desc := "()V" } : Jvm.MethodName) ∈ kq_W := kq_of 920 (by decide +kernel) rfl
theorem kq_921 : Jvm.Cond.selects "GlossRows$Word" ({ cls := "GlossRows$Word", name := "turnEnd", desc := "()V" } : Jvm.MethodName) ({ cls := "GlossRows$Word", name := "turnEnd", desc := "()V" } : Jvm.MethodName) ∈ kq_W := kq_of 921 (by decide +kernel) rfl
theorem kq_922 : Jvm.Cond.code ({ cls := "GlossRows$Word", name := "turnEnd", desc := "()V" } : Jvm.MethodName) prog_9_method_6_code (1 : Nat) (Option.none : Option Jvm.ClassFile.FieldType) ∈ kq_W := kq_of 922 (by decide +kernel) rfl
theorem kq_923 : Jvm.Cond.methodLink "GlossRows$Word" (36 : Nat) ({ cls := "GlossRows$Word", name := "dropEnd", desc := "()V" } : Jvm.MethodName) ∈ kq_W := kq_of 923 (by decide +kernel) rfl
theorem kq_924 : Jvm.Cond.methodLink "GlossRowsLaw" (212 : Nat) ({ cls := "GlossRowsLaw", name := "save", desc := "(LGlossRows;I[J)I" } : Jvm.MethodName) ∈ kq_W := kq_of 924 (by decide +kernel) rfl
theorem kq_925 : Jvm.Cond.static ({ cls := "GlossRowsLaw", name := "save", desc := "(LGlossRows;I[J)I" } : Jvm.MethodName) ∈ kq_W := kq_of 925 (by decide +kernel) rfl
theorem kq_927 : Jvm.Cond.methodLink "GlossRowsLaw" (95 : Nat) ({ cls := "GlossRows", name := "save", desc := "(I)I" } : Jvm.MethodName) ∈ kq_W := kq_of 927 (by decide +kernel) rfl
theorem kq_928 : Jvm.Cond.instanceMethod ({ cls := "GlossRows", name := "save", desc := "(I)I" } : Jvm.MethodName) ∈ kq_W := kq_of 928 (by decide +kernel) rfl
theorem kq_929 : Jvm.Cond.selects "GlossRows" ({ cls := "GlossRows", name := "save", desc := "(I)I" } : Jvm.MethodName) ({ cls := "GlossRows", name := "save", desc := "(I)I" } : Jvm.MethodName) ∈ kq_W := kq_of 929 (by decide +kernel) rfl
theorem kq_930 : Jvm.Cond.code ({ cls := "GlossRows", name := "save", desc := "(I)I" } : Jvm.MethodName) prog_1_method_31_code (2 : Nat) (Option.some Jvm.ClassFile.FieldType.int) ∈ kq_W := kq_of 930 (by decide +kernel) rfl
theorem kq_931 : Jvm.Cond.methodLink "GlossRows" (341 : Nat) ({ cls := "GlossRows", name := "requireSlot", desc := "(I)V" } : Jvm.MethodName) ∈ kq_W := kq_of 931 (by decide +kernel) rfl
theorem kq_933 : Jvm.Cond.instanceMethod ({ cls := "GlossRows", name := "requireSlot", desc := "(I)V" } : Jvm.MethodName) ∈ kq_W := kq_of 933 (by decide +kernel) rfl
theorem kq_934 : Jvm.Cond.code ({ cls := "GlossRows", name := "requireSlot", desc := "(I)V" } : Jvm.MethodName) prog_1_method_37_code (2 : Nat) (Option.none : Option Jvm.ClassFile.FieldType) ∈ kq_W := kq_of 934 (by decide +kernel) rfl
theorem kq_936 : Jvm.Cond.methodLink "GlossRowsLaw" (215 : Nat) ({ cls := "GlossRowsLaw", name := "restore", desc := "(LGlossRows;I[J)I" } : Jvm.MethodName) ∈ kq_W := kq_of 936 (by decide +kernel) rfl
theorem kq_937 : Jvm.Cond.static ({ cls := "GlossRowsLaw", name := "restore", desc := "(LGlossRows;I[J)I" } : Jvm.MethodName) ∈ kq_W := kq_of 937 (by decide +kernel) rfl
theorem kq_939 : Jvm.Cond.methodLink "GlossRowsLaw" (98 : Nat) ({ cls := "GlossRows", name := "restore", desc := "(I)I" } : Jvm.MethodName) ∈ kq_W := kq_of 939 (by decide +kernel) rfl
theorem kq_940 : Jvm.Cond.instanceMethod ({ cls := "GlossRows", name := "restore", desc := "(I)I" } : Jvm.MethodName) ∈ kq_W := kq_of 940 (by decide +kernel) rfl
theorem kq_941 : Jvm.Cond.selects "GlossRows" ({ cls := "GlossRows", name := "restore", desc := "(I)I" } : Jvm.MethodName) ({ cls := "GlossRows", name := "restore", desc := "(I)I" } : Jvm.MethodName) ∈ kq_W := kq_of 941 (by decide +kernel) rfl
theorem kq_942 : Jvm.Cond.code ({ cls := "GlossRows", name := "restore", desc := "(I)I" } : Jvm.MethodName) prog_1_method_32_code (2 : Nat) (Option.some Jvm.ClassFile.FieldType.int) ∈ kq_W := kq_of 942 (by decide +kernel) rfl
theorem kq_944 : Jvm.Cond.classLink "GlossRowsLaw" (102 : Nat) "GlossRowsModel" ∈ kq_W := kq_of 944 (by decide +kernel) rfl
theorem kq_945 : Jvm.Cond.instantiable "GlossRowsModel" (22 : Nat) ∈ kq_W := kq_of 945 (by decide +kernel) rfl
theorem kq_946 : Jvm.Cond.methodLink "GlossRowsLaw" (104 : Nat) ({ cls := "GlossRowsModel", name := "<init>", desc := "()V" } : Jvm.MethodName) ∈ kq_W := kq_of 946 (by decide +kernel) rfl
theorem kq_947 : Jvm.Cond.instanceMethod ({ cls := "GlossRowsModel", name := "<init>", desc := "()V" } : Jvm.MethodName) ∈ kq_W := kq_of 947 (by decide +kernel) rfl
theorem kq_948 : Jvm.Cond.code ({ cls := "GlossRowsModel", name := "<init>", desc := "()V" } : Jvm.MethodName) prog_11_method_1_code (1 : Nat) (Option.none : Option Jvm.ClassFile.FieldType) ∈ kq_W := kq_of 948 (by decide +kernel) rfl
theorem kq_949 : Jvm.Cond.methodLink "GlossRowsModel" (1 : Nat) ({ cls := "java/lang/Object", name := "<init>", desc := "()V" } : Jvm.MethodName) ∈ kq_W := kq_of 949 (by decide +kernel) rfl
theorem kq_950 : Jvm.Cond.methodLink "GlossRowsModel" (57 : Nat) ({ cls := "GlossRowsModel", name := "clean", desc := "([J)V" } : Jvm.MethodName) ∈ kq_W := kq_of 950 (by decide +kernel) rfl
theorem kq_951 : Jvm.Cond.static ({ cls := "GlossRowsModel", name := "clean", desc := "([J)V" } : Jvm.MethodName) ∈ kq_W := kq_of 951 (by decide +kernel) rfl
theorem kq_952 : Jvm.Cond.code ({ cls := "GlossRowsModel", name := "clean", desc := "([J)V" } : Jvm.MethodName) prog_11_method_2_code (2 : Nat) (Option.none : Option Jvm.ClassFile.FieldType) ∈ kq_W := kq_of 952 (by decide +kernel) rfl
theorem kq_953 : Jvm.Cond.constantLong "GlossRowsModel" (61 : Nat) (30 : Int64) ∈ kq_W := kq_of 953 (by decide +kernel) rfl
theorem kq_954 : Jvm.Cond.constantLong "GlossRowsModel" (63 : Nat) (2 : Int64) ∈ kq_W := kq_of 954 (by decide +kernel) rfl
theorem kq_955 : Jvm.Cond.fieldLink "GlossRowsModel" (65 : Nat) "GlossRowsModel" "refusal" "I" ∈ kq_W := kq_of 955 (by decide +kernel) rfl
theorem kq_956 : Jvm.Cond.fieldLink "GlossRowsModel" (7 : Nat) "GlossRowsModel" "script" "[I" ∈ kq_W := kq_of 956 (by decide +kernel) rfl
theorem kq_957 : Jvm.Cond.fieldLink "GlossRowsModel" (159 : Nat) "GlossRowsModel" "scriptSize" "I" ∈ kq_W := kq_of 957 (by decide +kernel) rfl
theorem kq_958 : Jvm.Cond.fieldLink "GlossRowsModel" (154 : Nat) "GlossRowsModel" "readMany" "I" ∈ kq_W := kq_of 958 (by decide +kernel) rfl
theorem kq_959 : Jvm.Cond.fieldLink "GlossRowsModel" (13 : Nat) "GlossRowsModel" "read" "[J" ∈ kq_W := kq_of 959 (by decide +kernel) rfl
theorem kq_960 : Jvm.Cond.fieldLink "GlossRowsModel" (17 : Nat) "GlossRowsModel" "now" "[J" ∈ kq_W := kq_of 960 (by decide +kernel) rfl
theorem kq_961 : Jvm.Cond.fieldLink "GlossRowsModel" (20 : Nat) "GlossRowsModel" "trial" "[J" ∈ kq_W := kq_of 961 (by decide +kernel) rfl
theorem kq_962 : Jvm.Cond.fieldLink "GlossRowsModel" (23 : Nat) "GlossRowsModel" "diary" "[J" ∈ kq_W := kq_of 962 (by decide +kernel) rfl
theorem kq_963 : Jvm.Cond.fieldLink "GlossRowsModel" (71 : Nat) "GlossRowsModel" "acts" "I" ∈ kq_W := kq_of 963 (by decide +kernel) rfl
theorem kq_964 : Jvm.Cond.fieldLink "GlossRowsModel" (26 : Nat) "GlossRowsModel" "kept" "[J" ∈ kq_W := kq_of 964 (by decide +kernel) rfl
theorem kq_965 : Jvm.Cond.fieldLink "GlossRowsModel" (29 : Nat) "GlossRowsModel" "isKept" "[Z" ∈ kq_W := kq_of 965 (by decide +kernel) rfl
theorem kq_966 : Jvm.Cond.fieldLink "GlossRowsModel" (119 : Nat) "GlossRowsModel" "lines" "I" ∈ kq_W := kq_of 966 (by decide +kernel) rfl
theorem kq_967 : Jvm.Cond.fieldLink "GlossRowsModel" (116 : Nat) "GlossRowsModel" "rows" "I" ∈ kq_W := kq_of 967 (by decide +kernel) rfl
theorem kq_968 : Jvm.Cond.fieldLink "GlossRowsModel" (122 : Nat) "GlossRowsModel" "sentences" "I" ∈ kq_W := kq_of 968 (by decide +kernel) rfl
theorem kq_969 : Jvm.Cond.fieldLink "GlossRowsModel" (33 : Nat) "GlossRowsModel" "lineOf" "[I" ∈ kq_W := kq_of 969 (by decide +kernel) rfl
theorem kq_970 : Jvm.Cond.fieldLink "GlossRowsModel" (36 : Nat) "GlossRowsModel" "columnOf" "[I" ∈ kq_W := kq_of 970 (by decide +kernel) rfl
theorem kq_971 : Jvm.Cond.fieldLink "GlossRowsModel" (39 : Nat) "GlossRowsModel" "widthOf" "[I" ∈ kq_W := kq_of 971 (by decide +kernel) rfl
theorem kq_972 : Jvm.Cond.fieldLink "GlossRowsModel" (42 : Nat) "GlossRowsModel" "sentenceOf" "[I" ∈ kq_W := kq_of 972 (by decide +kernel) rfl
theorem kq_973 : Jvm.Cond.fieldLink "GlossRowsModel" (45 : Nat) "GlossRowsModel" "lengthOf" "[I" ∈ kq_W := kq_of 973 (by decide +kernel) rfl
theorem kq_974 : Jvm.Cond.fieldLink "GlossRowsModel" (48 : Nat) "GlossRowsModel" "rowKind" "[I" ∈ kq_W := kq_of 974 (by decide +kernel) rfl
theorem kq_975 : Jvm.Cond.fieldLink "GlossRowsModel" (51 : Nat) "GlossRowsModel" "rowOf" "[I" ∈ kq_W := kq_of 975 (by decide +kernel) rfl
theorem kq_976 : Jvm.Cond.fieldLink "GlossRowsModel" (54 : Nat) "GlossRowsModel" "rowFrom" "[I" ∈ kq_W := kq_of 976 (by decide +kernel) rfl
theorem kq_977 : Jvm.Cond.lays "GlossRowsModel" "GlossRowsModel" "refusal" "I" ∈ kq_W := kq_of 977 (by decide +kernel) rfl
theorem kq_979 : Jvm.Cond.laysFinal "GlossRowsModel" "GlossRowsModel" "script" "[I" ∈ kq_W := kq_of 979 (by decide +kernel) rfl
theorem kq_981 : Jvm.Cond.lays "GlossRowsModel" "GlossRowsModel" "scriptSize" "I" ∈ kq_W := kq_of 981 (by decide +kernel) rfl
theorem kq_983 : Jvm.Cond.lays "GlossRowsModel" "GlossRowsModel" "readMany" "I" ∈ kq_W := kq_of 983 (by decide +kernel) rfl
theorem kq_985 : Jvm.Cond.laysFinal "GlossRowsModel" "GlossRowsModel" "read" "[J" ∈ kq_W := kq_of 985 (by decide +kernel) rfl
theorem kq_987 : Jvm.Cond.laysFinal "GlossRowsModel" "GlossRowsModel" "now" "[J" ∈ kq_W := kq_of 987 (by decide +kernel) rfl
theorem kq_989 : Jvm.Cond.laysFinal "GlossRowsModel" "GlossRowsModel" "trial" "[J" ∈ kq_W := kq_of 989 (by decide +kernel) rfl
theorem kq_991 : Jvm.Cond.laysFinal "GlossRowsModel" "GlossRowsModel" "diary" "[J" ∈ kq_W := kq_of 991 (by decide +kernel) rfl
theorem kq_993 : Jvm.Cond.lays "GlossRowsModel" "GlossRowsModel" "acts" "I" ∈ kq_W := kq_of 993 (by decide +kernel) rfl
theorem kq_995 : Jvm.Cond.laysFinal "GlossRowsModel" "GlossRowsModel" "kept" "[J" ∈ kq_W := kq_of 995 (by decide +kernel) rfl
theorem kq_997 : Jvm.Cond.laysFinal "GlossRowsModel" "GlossRowsModel" "isKept" "[Z" ∈ kq_W := kq_of 997 (by decide +kernel) rfl
theorem kq_999 : Jvm.Cond.lays "GlossRowsModel" "GlossRowsModel" "lines" "I" ∈ kq_W := kq_of 999 (by decide +kernel) rfl
theorem kq_1001 : Jvm.Cond.lays "GlossRowsModel" "GlossRowsModel" "rows" "I" ∈ kq_W := kq_of 1001 (by decide +kernel) rfl
theorem kq_1003 : Jvm.Cond.lays "GlossRowsModel" "GlossRowsModel" "sentences" "I" ∈ kq_W := kq_of 1003 (by decide +kernel) rfl
theorem kq_1005 : Jvm.Cond.laysFinal "GlossRowsModel" "GlossRowsModel" "lineOf" "[I" ∈ kq_W := kq_of 1005 (by decide +kernel) rfl
theorem kq_1007 : Jvm.Cond.laysFinal "GlossRowsModel" "GlossRowsModel" "columnOf" "[I" ∈ kq_W := kq_of 1007 (by decide +kernel) rfl
theorem kq_1009 : Jvm.Cond.laysFinal "GlossRowsModel" "GlossRowsModel" "widthOf" "[I" ∈ kq_W := kq_of 1009 (by decide +kernel) rfl
theorem kq_1011 : Jvm.Cond.laysFinal "GlossRowsModel" "GlossRowsModel" "sentenceOf" "[I" ∈ kq_W := kq_of 1011 (by decide +kernel) rfl
theorem kq_1013 : Jvm.Cond.laysFinal "GlossRowsModel" "GlossRowsModel" "lengthOf" "[I" ∈ kq_W := kq_of 1013 (by decide +kernel) rfl
theorem kq_1015 : Jvm.Cond.laysFinal "GlossRowsModel" "GlossRowsModel" "rowKind" "[I" ∈ kq_W := kq_of 1015 (by decide +kernel) rfl
theorem kq_1017 : Jvm.Cond.laysFinal "GlossRowsModel" "GlossRowsModel" "rowOf" "[I" ∈ kq_W := kq_of 1017 (by decide +kernel) rfl
theorem kq_1019 : Jvm.Cond.laysFinal "GlossRowsModel" "GlossRowsModel" "rowFrom" "[I" ∈ kq_W := kq_of 1019 (by decide +kernel) rfl
theorem kq_1022 : Jvm.Cond.methodLink "GlossRowsLaw" (111 : Nat) ({ cls := "GlossRowsModel", name := "thrown", desc := "()I" } : Jvm.MethodName) ∈ kq_W := kq_of 1022 (by decide +kernel) rfl
theorem kq_1023 : Jvm.Cond.instanceMethod ({ cls := "GlossRowsModel", name := "thrown", desc := "()I" } : Jvm.MethodName) ∈ kq_W := kq_of 1023 (by decide +kernel) rfl
theorem kq_1024 : Jvm.Cond.selects "GlossRowsModel" ({ cls := "GlossRowsModel", name := "thrown", desc := "()I" } : Jvm.MethodName) ({ cls := "GlossRowsModel", name := "thrown", desc := "()I" } : Jvm.MethodName) ∈ kq_W := kq_of 1024 (by decide +kernel) rfl
theorem kq_1025 : Jvm.Cond.code ({ cls := "GlossRowsModel", name := "thrown", desc := "()I" } : Jvm.MethodName) prog_11_method_3_code (1 : Nat) (Option.some Jvm.ClassFile.FieldType.int) ∈ kq_W := kq_of 1025 (by decide +kernel) rfl
theorem kq_1026 : Jvm.Cond.methodLink "GlossRowsLaw" (110 : Nat) ({ cls := "GlossRowsModel", name := "append", desc := "(I)I" } : Jvm.MethodName) ∈ kq_W := kq_of 1026 (by decide +kernel) rfl
theorem kq_1027 : Jvm.Cond.instanceMethod ({ cls := "GlossRowsModel", name := "append", desc := "(I)I" } : Jvm.MethodName) ∈ kq_W := kq_of 1027 (by decide +kernel) rfl
theorem kq_1028 : Jvm.Cond.selects "GlossRowsModel" ({ cls := "GlossRowsModel", name := "append", desc := "(I)I" } : Jvm.MethodName) ({ cls := "GlossRowsModel", name := "append", desc := "(I)I" } : Jvm.MethodName) ∈ kq_W := kq_of 1028 (by decide +kernel) rfl
theorem kq_1029 : Jvm.Cond.code ({ cls := "GlossRowsModel", name := "append", desc := "(I)I" } : Jvm.MethodName) prog_11_method_38_code (2 : Nat) (Option.some Jvm.ClassFile.FieldType.int) ∈ kq_W := kq_of 1029 (by decide +kernel) rfl
theorem kq_1030 : Jvm.Cond.constantLong "GlossRowsModel" (157 : Nat) (255 : Int64) ∈ kq_W := kq_of 1030 (by decide +kernel) rfl
theorem kq_1031 : Jvm.Cond.methodLink "GlossRowsModel" (90 : Nat) ({ cls := "GlossRowsModel", name := "in", desc := "(JJJ)Z" } : Jvm.MethodName) ∈ kq_W := kq_of 1031 (by decide +kernel) rfl
theorem kq_1032 : Jvm.Cond.static ({ cls := "GlossRowsModel", name := "in", desc := "(JJJ)Z" } : Jvm.MethodName) ∈ kq_W := kq_of 1032 (by decide +kernel) rfl
theorem kq_1033 : Jvm.Cond.code ({ cls := "GlossRowsModel", name := "in", desc := "(JJJ)Z" } : Jvm.MethodName) prog_11_method_5_code (6 : Nat) (Option.some Jvm.ClassFile.FieldType.boolean) ∈ kq_W := kq_of 1033 (by decide +kernel) rfl
theorem kq_1034 : Jvm.Cond.methodLink "GlossRowsModel" (162 : Nat) ({ cls := "GlossRowsModel", name := "refused", desc := "(I)Z" } : Jvm.MethodName) ∈ kq_W := kq_of 1034 (by decide +kernel) rfl
theorem kq_1036 : Jvm.Cond.instanceMethod ({ cls := "GlossRowsModel", name := "refused", desc := "(I)Z" } : Jvm.MethodName) ∈ kq_W := kq_of 1036 (by decide +kernel) rfl
theorem kq_1037 : Jvm.Cond.code ({ cls := "GlossRowsModel", name := "refused", desc := "(I)Z" } : Jvm.MethodName) prog_11_method_4_code (2 : Nat) (Option.some Jvm.ClassFile.FieldType.boolean) ∈ kq_W := kq_of 1037 (by decide +kernel) rfl
theorem kq_1038 : Jvm.Cond.methodLink "GlossRowsLaw" (117 : Nat) ({ cls := "GlossRowsModel", name := "clearText", desc := "()I" } : Jvm.MethodName) ∈ kq_W := kq_of 1038 (by decide +kernel) rfl
theorem kq_1039 : Jvm.Cond.instanceMethod ({ cls := "GlossRowsModel", name := "clearText", desc := "()I" } : Jvm.MethodName) ∈ kq_W := kq_of 1039 (by decide +kernel) rfl
theorem kq_1040 : Jvm.Cond.selects "GlossRowsModel" ({ cls := "GlossRowsModel", name := "clearText", desc := "()I" } : Jvm.MethodName) ({ cls := "GlossRowsModel", name := "clearText", desc := "()I" } : Jvm.MethodName) ∈ kq_W := kq_of 1040 (by decide +kernel) rfl
theorem kq_1041 : Jvm.Cond.code ({ cls := "GlossRowsModel", name := "clearText", desc := "()I" } : Jvm.MethodName) prog_11_method_39_code (2 : Nat) (Option.some Jvm.ClassFile.FieldType.int) ∈ kq_W := kq_of 1041 (by decide +kernel) rfl
theorem kq_1042 : Jvm.Cond.methodLink "GlossRowsLaw" (121 : Nat) ({ cls := "GlossRowsModel", name := "errorPosition", desc := "()I" } : Jvm.MethodName) ∈ kq_W := kq_of 1042 (by decide +kernel) rfl
theorem kq_1043 : Jvm.Cond.instanceMethod ({ cls := "GlossRowsModel", name := "errorPosition", desc := "()I" } : Jvm.MethodName) ∈ kq_W := kq_of 1043 (by decide +kernel) rfl
theorem kq_1044 : Jvm.Cond.selects "GlossRowsModel" ({ cls := "GlossRowsModel", name := "errorPosition", desc := "()I" } : Jvm.MethodName) ({ cls := "GlossRowsModel", name := "errorPosition", desc := "()I" } : Jvm.MethodName) ∈ kq_W := kq_of 1044 (by decide +kernel) rfl
theorem kq_1045 : Jvm.Cond.code ({ cls := "GlossRowsModel", name := "errorPosition", desc := "()I" } : Jvm.MethodName) prog_11_method_45_code (1 : Nat) (Option.some Jvm.ClassFile.FieldType.int) ∈ kq_W := kq_of 1045 (by decide +kernel) rfl
theorem kq_1046 : Jvm.Cond.methodLink "GlossRowsModel" (186 : Nat) ({ cls := "GlossRowsModel", name := "readText", desc := "()I" } : Jvm.MethodName) ∈ kq_W := kq_of 1046 (by decide +kernel) rfl
theorem kq_1048 : Jvm.Cond.instanceMethod ({ cls := "GlossRowsModel", name := "readText", desc := "()I" } : Jvm.MethodName) ∈ kq_W := kq_of 1048 (by decide +kernel) rfl
theorem kq_1049 : Jvm.Cond.code ({ cls := "GlossRowsModel", name := "readText", desc := "()I" } : Jvm.MethodName) prog_11_method_44_code (10 : Nat) (Option.some Jvm.ClassFile.FieldType.int) ∈ kq_W := kq_of 1049 (by decide +kernel) rfl
theorem kq_1050 : Jvm.Cond.methodLink "GlossRowsModel" (173 : Nat) ({ cls := "GlossRowsModel", name := "begin", desc := "()V" } : Jvm.MethodName) ∈ kq_W := kq_of 1050 (by decide +kernel) rfl
theorem kq_1052 : Jvm.Cond.instanceMethod ({ cls := "GlossRowsModel", name := "begin", desc := "()V" } : Jvm.MethodName) ∈ kq_W := kq_of 1052 (by decide +kernel) rfl
theorem kq_1053 : Jvm.Cond.code ({ cls := "GlossRowsModel", name := "begin", desc := "()V" } : Jvm.MethodName) prog_11_method_43_code (2 : Nat) (Option.none : Option Jvm.ClassFile.FieldType) ∈ kq_W := kq_of 1053 (by decide +kernel) rfl
theorem kq_1054 : Jvm.Cond.methodLink "GlossRowsModel" (176 : Nat) ({ cls := "GlossRowsModel", name := "isGlossLetter", desc := "(I)Z" } : Jvm.MethodName) ∈ kq_W := kq_of 1054 (by decide +kernel) rfl
theorem kq_1055 : Jvm.Cond.static ({ cls := "GlossRowsModel", name := "isGlossLetter", desc := "(I)Z" } : Jvm.MethodName) ∈ kq_W := kq_of 1055 (by decide +kernel) rfl
theorem kq_1056 : Jvm.Cond.code ({ cls := "GlossRowsModel", name := "isGlossLetter", desc := "(I)Z" } : Jvm.MethodName) prog_11_method_41_code (1 : Nat) (Option.some Jvm.ClassFile.FieldType.boolean) ∈ kq_W := kq_of 1056 (by decide +kernel) rfl
theorem kq_1057 : Jvm.Cond.methodLink "GlossRowsModel" (170 : Nat) ({ cls := "GlossRowsModel", name := "isLetter", desc := "(I)Z" } : Jvm.MethodName) ∈ kq_W := kq_of 1057 (by decide +kernel) rfl
theorem kq_1058 : Jvm.Cond.static ({ cls := "GlossRowsModel", name := "isLetter", desc := "(I)Z" } : Jvm.MethodName) ∈ kq_W := kq_of 1058 (by decide +kernel) rfl
theorem kq_1059 : Jvm.Cond.code ({ cls := "GlossRowsModel", name := "isLetter", desc := "(I)Z" } : Jvm.MethodName) prog_11_method_40_code (1 : Nat) (Option.some Jvm.ClassFile.FieldType.boolean) ∈ kq_W := kq_of 1059 (by decide +kernel) rfl
theorem kq_1060 : Jvm.Cond.constantLong "GlossRowsModel" (166 : Nat) (97 : Int64) ∈ kq_W := kq_of 1060 (by decide +kernel) rfl
theorem kq_1061 : Jvm.Cond.constantLong "GlossRowsModel" (168 : Nat) (122 : Int64) ∈ kq_W := kq_of 1061 (by decide +kernel) rfl
theorem kq_1062 : Jvm.Cond.methodLink "GlossRowsModel" (179 : Nat) ({ cls := "GlossRowsModel", name := "withLetter", desc := "(JII)J" } : Jvm.MethodName) ∈ kq_W := kq_of 1062 (by decide +kernel) rfl
theorem kq_1063 : Jvm.Cond.static ({ cls := "GlossRowsModel", name := "withLetter", desc := "(JII)J" } : Jvm.MethodName) ∈ kq_W := kq_of 1063 (by decide +kernel) rfl
theorem kq_1064 : Jvm.Cond.code ({ cls := "GlossRowsModel", name := "withLetter", desc := "(JII)J" } : Jvm.MethodName) prog_11_method_11_code (6 : Nat) (Option.some Jvm.ClassFile.FieldType.long) ∈ kq_W := kq_of 1064 (by decide +kernel) rfl
theorem kq_1065 : Jvm.Cond.constantLong "GlossRowsModel" (80 : Nat) (27 : Int64) ∈ kq_W := kq_of 1065 (by decide +kernel) rfl
theorem kq_1066 : Jvm.Cond.methodLink "GlossRowsModel" (183 : Nat) ({ cls := "GlossRowsModel", name := "isMark", desc := "(I)Z" } : Jvm.MethodName) ∈ kq_W := kq_of 1066 (by decide +kernel) rfl
theorem kq_1067 : Jvm.Cond.static ({ cls := "GlossRowsModel", name := "isMark", desc := "(I)Z" } : Jvm.MethodName) ∈ kq_W := kq_of 1067 (by decide +kernel) rfl
theorem kq_1068 : Jvm.Cond.code ({ cls := "GlossRowsModel", name := "isMark", desc := "(I)Z" } : Jvm.MethodName) prog_11_method_42_code (1 : Nat) (Option.some Jvm.ClassFile.FieldType.boolean) ∈ kq_W := kq_of 1068 (by decide +kernel) rfl
theorem kq_1069 : Jvm.Cond.methodLink "GlossRowsLaw" (125 : Nat) ({ cls := "GlossRowsModel", name := "load", desc := "()I" } : Jvm.MethodName) ∈ kq_W := kq_of 1069 (by decide +kernel) rfl
theorem kq_1070 : Jvm.Cond.instanceMethod ({ cls := "GlossRowsModel", name := "load", desc := "()I" } : Jvm.MethodName) ∈ kq_W := kq_of 1070 (by decide +kernel) rfl
theorem kq_1071 : Jvm.Cond.selects "GlossRowsModel" ({ cls := "GlossRowsModel", name := "load", desc := "()I" } : Jvm.MethodName) ({ cls := "GlossRowsModel", name := "load", desc := "()I" } : Jvm.MethodName) ∈ kq_W := kq_of 1071 (by decide +kernel) rfl
theorem kq_1072 : Jvm.Cond.code ({ cls := "GlossRowsModel", name := "load", desc := "()I" } : Jvm.MethodName) prog_11_method_46_code (1 : Nat) (Option.some Jvm.ClassFile.FieldType.int) ∈ kq_W := kq_of 1072 (by decide +kernel) rfl
theorem kq_1073 : Jvm.Cond.methodLink "GlossRowsModel" (190 : Nat) ({ cls := "GlossRowsModel", name := "insertOn", desc := "([JI)V" } : Jvm.MethodName) ∈ kq_W := kq_of 1073 (by decide +kernel) rfl
theorem kq_1075 : Jvm.Cond.instanceMethod ({ cls := "GlossRowsModel", name := "insertOn", desc := "([JI)V" } : Jvm.MethodName) ∈ kq_W := kq_of 1075 (by decide +kernel) rfl
theorem kq_1076 : Jvm.Cond.code ({ cls := "GlossRowsModel", name := "insertOn", desc := "([JI)V" } : Jvm.MethodName) prog_11_method_37_code (4 : Nat) (Option.none : Option Jvm.ClassFile.FieldType) ∈ kq_W := kq_of 1076 (by decide +kernel) rfl
theorem kq_1077 : Jvm.Cond.methodLink "GlossRowsModel" (86 : Nat) ({ cls := "GlossRowsModel", name := "many", desc := "([J)I" } : Jvm.MethodName) ∈ kq_W := kq_of 1077 (by decide +kernel) rfl
theorem kq_1078 : Jvm.Cond.static ({ cls := "GlossRowsModel", name := "many", desc := "([J)I" } : Jvm.MethodName) ∈ kq_W := kq_of 1078 (by decide +kernel) rfl
theorem kq_1079 : Jvm.Cond.code ({ cls := "GlossRowsModel", name := "many", desc := "([J)I" } : Jvm.MethodName) prog_11_method_17_code (1 : Nat) (Option.some Jvm.ClassFile.FieldType.int) ∈ kq_W := kq_of 1079 (by decide +kernel) rfl
theorem kq_1080 : Jvm.Cond.methodLink "GlossRowsModel" (74 : Nat) ({ cls := "GlossRowsModel", name := "copy", desc := "([JI[JII)V" } : Jvm.MethodName) ∈ kq_W := kq_of 1080 (by decide +kernel) rfl
theorem kq_1081 : Jvm.Cond.static ({ cls := "GlossRowsModel", name := "copy", desc := "([JI[JII)V" } : Jvm.MethodName) ∈ kq_W := kq_of 1081 (by decide +kernel) rfl
theorem kq_1082 : Jvm.Cond.code ({ cls := "GlossRowsModel", name := "copy", desc := "([JI[JII)V" } : Jvm.MethodName) prog_11_method_6_code (6 : Nat) (Option.none : Option Jvm.ClassFile.FieldType) ∈ kq_W := kq_of 1082 (by decide +kernel) rfl
theorem kq_1083 : Jvm.Cond.methodLink "GlossRowsLaw" (128 : Nat) ({ cls := "GlossRowsModel", name := "about", desc := "(I)I" } : Jvm.MethodName) ∈ kq_W := kq_of 1083 (by decide +kernel) rfl
theorem kq_1084 : Jvm.Cond.instanceMethod ({ cls := "GlossRowsModel", name := "about", desc := "(I)I" } : Jvm.MethodName) ∈ kq_W := kq_of 1084 (by decide +kernel) rfl
theorem kq_1085 : Jvm.Cond.selects "GlossRowsModel" ({ cls := "GlossRowsModel", name := "about", desc := "(I)I" } : Jvm.MethodName) ({ cls := "GlossRowsModel", name := "about", desc := "(I)I" } : Jvm.MethodName) ∈ kq_W := kq_of 1085 (by decide +kernel) rfl
theorem kq_1086 : Jvm.Cond.code ({ cls := "GlossRowsModel", name := "about", desc := "(I)I" } : Jvm.MethodName) prog_11_method_48_code (4 : Nat) (Option.some Jvm.ClassFile.FieldType.int) ∈ kq_W := kq_of 1086 (by decide +kernel) rfl
theorem kq_1087 : Jvm.Cond.constantLong "GlossRowsModel" (194 : Nat) (11 : Int64) ∈ kq_W := kq_of 1087 (by decide +kernel) rfl
theorem kq_1088 : Jvm.Cond.methodLink "GlossRowsModel" (196 : Nat) ({ cls := "GlossRowsModel", name := "layNow", desc := "()V" } : Jvm.MethodName) ∈ kq_W := kq_of 1088 (by decide +kernel) rfl
theorem kq_1090 : Jvm.Cond.instanceMethod ({ cls := "GlossRowsModel", name := "layNow", desc := "()V" } : Jvm.MethodName) ∈ kq_W := kq_of 1090 (by decide +kernel) rfl
theorem kq_1091 : Jvm.Cond.code ({ cls := "GlossRowsModel", name := "layNow", desc := "()V" } : Jvm.MethodName) prog_11_method_49_code (1 : Nat) (Option.none : Option Jvm.ClassFile.FieldType) ∈ kq_W := kq_of 1091 (by decide +kernel) rfl
theorem kq_1092 : Jvm.Cond.methodLink "GlossRowsModel" (132 : Nat) ({ cls := "GlossRowsModel", name := "layOut", desc := "([JII)V" } : Jvm.MethodName) ∈ kq_W := kq_of 1092 (by decide +kernel) rfl
theorem kq_1094 : Jvm.Cond.instanceMethod ({ cls := "GlossRowsModel", name := "layOut", desc := "([JII)V" } : Jvm.MethodName) ∈ kq_W := kq_of 1094 (by decide +kernel) rfl
theorem kq_1095 : Jvm.Cond.code ({ cls := "GlossRowsModel", name := "layOut", desc := "([JII)V" } : Jvm.MethodName) prog_11_method_24_code (13 : Nat) (Option.none : Option Jvm.ClassFile.FieldType) ∈ kq_W := kq_of 1095 (by decide +kernel) rfl
theorem kq_1096 : Jvm.Cond.methodLink "GlossRowsModel" (125 : Nat) ({ cls := "GlossRowsModel", name := "wide", desc := "([JII)I" } : Jvm.MethodName) ∈ kq_W := kq_of 1096 (by decide +kernel) rfl
theorem kq_1097 : Jvm.Cond.static ({ cls := "GlossRowsModel", name := "wide", desc := "([JII)I" } : Jvm.MethodName) ∈ kq_W := kq_of 1097 (by decide +kernel) rfl
theorem kq_1098 : Jvm.Cond.code ({ cls := "GlossRowsModel", name := "wide", desc := "([JII)I" } : Jvm.MethodName) prog_11_method_22_code (10 : Nat) (Option.some Jvm.ClassFile.FieldType.int) ∈ kq_W := kq_of 1098 (by decide +kernel) rfl
theorem kq_1099 : Jvm.Cond.methodLink "GlossRowsModel" (98 : Nat) ({ cls := "GlossRowsModel", name := "parts", desc := "([JI)I" } : Jvm.MethodName) ∈ kq_W := kq_of 1099 (by decide +kernel) rfl
theorem kq_1100 : Jvm.Cond.static ({ cls := "GlossRowsModel", name := "parts", desc := "([JI)I" } : Jvm.MethodName) ∈ kq_W := kq_of 1100 (by decide +kernel) rfl
theorem kq_1101 : Jvm.Cond.code ({ cls := "GlossRowsModel", name := "parts", desc := "([JI)I" } : Jvm.MethodName) prog_11_method_16_code (2 : Nat) (Option.some Jvm.ClassFile.FieldType.int) ∈ kq_W := kq_of 1101 (by decide +kernel) rfl
theorem kq_1102 : Jvm.Cond.methodLink "GlossRowsModel" (82 : Nat) ({ cls := "GlossRowsModel", name := "cell", desc := "(II)I" } : Jvm.MethodName) ∈ kq_W := kq_of 1102 (by decide +kernel) rfl
theorem kq_1103 : Jvm.Cond.static ({ cls := "GlossRowsModel", name := "cell", desc := "(II)I" } : Jvm.MethodName) ∈ kq_W := kq_of 1103 (by decide +kernel) rfl
theorem kq_1104 : Jvm.Cond.code ({ cls := "GlossRowsModel", name := "cell", desc := "(II)I" } : Jvm.MethodName) prog_11_method_12_code (2 : Nat) (Option.some Jvm.ClassFile.FieldType.int) ∈ kq_W := kq_of 1104 (by decide +kernel) rfl
theorem kq_1105 : Jvm.Cond.methodLink "GlossRowsModel" (109 : Nat) ({ cls := "GlossRowsModel", name := "partAt", desc := "(II)I" } : Jvm.MethodName) ∈ kq_W := kq_of 1105 (by decide +kernel) rfl
theorem kq_1106 : Jvm.Cond.static ({ cls := "GlossRowsModel", name := "partAt", desc := "(II)I" } : Jvm.MethodName) ∈ kq_W := kq_of 1106 (by decide +kernel) rfl
theorem kq_1107 : Jvm.Cond.code ({ cls := "GlossRowsModel", name := "partAt", desc := "(II)I" } : Jvm.MethodName) prog_11_method_14_code (2 : Nat) (Option.some Jvm.ClassFile.FieldType.int) ∈ kq_W := kq_of 1107 (by decide +kernel) rfl
theorem kq_1108 : Jvm.Cond.methodLink "GlossRowsModel" (105 : Nat) ({ cls := "GlossRowsModel", name := "lettersOf", desc := "(J)I" } : Jvm.MethodName) ∈ kq_W := kq_of 1108 (by decide +kernel) rfl
theorem kq_1109 : Jvm.Cond.static ({ cls := "GlossRowsModel", name := "lettersOf", desc := "(J)I" } : Jvm.MethodName) ∈ kq_W := kq_of 1109 (by decide +kernel) rfl
theorem kq_1110 : Jvm.Cond.code ({ cls := "GlossRowsModel", name := "lettersOf", desc := "(J)I" } : Jvm.MethodName) prog_11_method_9_code (3 : Nat) (Option.some Jvm.ClassFile.FieldType.int) ∈ kq_W := kq_of 1110 (by decide +kernel) rfl
theorem kq_1111 : Jvm.Cond.constantLong "GlossRowsModel" (78 : Nat) (31 : Int64) ∈ kq_W := kq_of 1111 (by decide +kernel) rfl
theorem kq_1112 : Jvm.Cond.methodLink "GlossRowsModel" (112 : Nat) ({ cls := "GlossRowsModel", name := "shownLength", desc := "([JII)I" } : Jvm.MethodName) ∈ kq_W := kq_of 1112 (by decide +kernel) rfl
theorem kq_1113 : Jvm.Cond.static ({ cls := "GlossRowsModel", name := "shownLength", desc := "([JII)I" } : Jvm.MethodName) ∈ kq_W := kq_of 1113 (by decide +kernel) rfl
theorem kq_1114 : Jvm.Cond.code ({ cls := "GlossRowsModel", name := "shownLength", desc := "([JII)I" } : Jvm.MethodName) prog_11_method_21_code (5 : Nat) (Option.some Jvm.ClassFile.FieldType.int) ∈ kq_W := kq_of 1114 (by decide +kernel) rfl
theorem kq_1115 : Jvm.Cond.methodLink "GlossRowsModel" (102 : Nat) ({ cls := "GlossRowsModel", name := "glossAt", desc := "(II)I" } : Jvm.MethodName) ∈ kq_W := kq_of 1115 (by decide +kernel) rfl
theorem kq_1116 : Jvm.Cond.static ({ cls := "GlossRowsModel", name := "glossAt", desc := "(II)I" } : Jvm.MethodName) ∈ kq_W := kq_of 1116 (by decide +kernel) rfl
theorem kq_1117 : Jvm.Cond.code ({ cls := "GlossRowsModel", name := "glossAt", desc := "(II)I" } : Jvm.MethodName) prog_11_method_15_code (2 : Nat) (Option.some Jvm.ClassFile.FieldType.int) ∈ kq_W := kq_of 1117 (by decide +kernel) rfl
theorem kq_1118 : Jvm.Cond.methodLink "GlossRowsModel" (128 : Nat) ({ cls := "GlossRowsModel", name := "addRow", desc := "(III)V" } : Jvm.MethodName) ∈ kq_W := kq_of 1118 (by decide +kernel) rfl
theorem kq_1120 : Jvm.Cond.instanceMethod ({ cls := "GlossRowsModel", name := "addRow", desc := "(III)V" } : Jvm.MethodName) ∈ kq_W := kq_of 1120 (by decide +kernel) rfl
theorem kq_1121 : Jvm.Cond.code ({ cls := "GlossRowsModel", name := "addRow", desc := "(III)V" } : Jvm.MethodName) prog_11_method_23_code (4 : Nat) (Option.none : Option Jvm.ClassFile.FieldType) ∈ kq_W := kq_of 1121 (by decide +kernel) rfl
theorem kq_1122 : Jvm.Cond.methodLink "GlossRowsModel" (199 : Nat) ({ cls := "GlossRowsModel", name := "gaps", desc := "([J)I" } : Jvm.MethodName) ∈ kq_W := kq_of 1122 (by decide +kernel) rfl
theorem kq_1123 : Jvm.Cond.static ({ cls := "GlossRowsModel", name := "gaps", desc := "([J)I" } : Jvm.MethodName) ∈ kq_W := kq_of 1123 (by decide +kernel) rfl
theorem kq_1124 : Jvm.Cond.code ({ cls := "GlossRowsModel", name := "gaps", desc := "([J)I" } : Jvm.MethodName) prog_11_method_34_code (3 : Nat) (Option.some Jvm.ClassFile.FieldType.int) ∈ kq_W := kq_of 1124 (by decide +kernel) rfl
theorem kq_1125 : Jvm.Cond.methodLink "GlossRowsModel" (151 : Nat) ({ cls := "GlossRowsModel", name := "gapsOf", desc := "([JI)I" } : Jvm.MethodName) ∈ kq_W := kq_of 1125 (by decide +kernel) rfl
theorem kq_1126 : Jvm.Cond.static ({ cls := "GlossRowsModel", name := "gapsOf", desc := "([JI)I" } : Jvm.MethodName) ∈ kq_W := kq_of 1126 (by decide +kernel) rfl
theorem kq_1127 : Jvm.Cond.code ({ cls := "GlossRowsModel", name := "gapsOf", desc := "([JI)I" } : Jvm.MethodName) prog_11_method_33_code (4 : Nat) (Option.some Jvm.ClassFile.FieldType.int) ∈ kq_W := kq_of 1127 (by decide +kernel) rfl
theorem kq_1128 : Jvm.Cond.methodLink "GlossRowsModel" (202 : Nat) ({ cls := "GlossRowsModel", name := "unlike", desc := "([J)I" } : Jvm.MethodName) ∈ kq_W := kq_of 1128 (by decide +kernel) rfl
theorem kq_1129 : Jvm.Cond.static ({ cls := "GlossRowsModel", name := "unlike", desc := "([J)I" } : Jvm.MethodName) ∈ kq_W := kq_of 1129 (by decide +kernel) rfl
theorem kq_1130 : Jvm.Cond.code ({ cls := "GlossRowsModel", name := "unlike", desc := "([J)I" } : Jvm.MethodName) prog_11_method_47_code (7 : Nat) (Option.some Jvm.ClassFile.FieldType.int) ∈ kq_W := kq_of 1130 (by decide +kernel) rfl
theorem kq_1131 : Jvm.Cond.methodLink "GlossRowsModel" (145 : Nat) ({ cls := "GlossRowsModel", name := "entryOf", desc := "([JJ)I" } : Jvm.MethodName) ∈ kq_W := kq_of 1131 (by decide +kernel) rfl
theorem kq_1132 : Jvm.Cond.static ({ cls := "GlossRowsModel", name := "entryOf", desc := "([JJ)I" } : Jvm.MethodName) ∈ kq_W := kq_of 1132 (by decide +kernel) rfl
theorem kq_1133 : Jvm.Cond.code ({ cls := "GlossRowsModel", name := "entryOf", desc := "([JJ)I" } : Jvm.MethodName) prog_11_method_29_code (4 : Nat) (Option.some Jvm.ClassFile.FieldType.int) ∈ kq_W := kq_of 1133 (by decide +kernel) rfl
theorem kq_1134 : Jvm.Cond.methodLink "GlossRowsLaw" (132 : Nat) ({ cls := "GlossRowsModel", name := "word", desc := "(II)I" } : Jvm.MethodName) ∈ kq_W := kq_of 1134 (by decide +kernel) rfl
theorem kq_1135 : Jvm.Cond.instanceMethod ({ cls := "GlossRowsModel", name := "word", desc := "(II)I" } : Jvm.MethodName) ∈ kq_W := kq_of 1135 (by decide +kernel) rfl
theorem kq_1136 : Jvm.Cond.selects "GlossRowsModel" ({ cls := "GlossRowsModel", name := "word", desc := "(II)I" } : Jvm.MethodName) ({ cls := "GlossRowsModel", name := "word", desc := "(II)I" } : Jvm.MethodName) ∈ kq_W := kq_of 1136 (by decide +kernel) rfl
theorem kq_1137 : Jvm.Cond.code ({ cls := "GlossRowsModel", name := "word", desc := "(II)I" } : Jvm.MethodName) prog_11_method_50_code (3 : Nat) (Option.some Jvm.ClassFile.FieldType.int) ∈ kq_W := kq_of 1137 (by decide +kernel) rfl
theorem kq_1138 : Jvm.Cond.methodLink "GlossRowsModel" (205 : Nat) ({ cls := "GlossRowsModel", name := "isWord", desc := "(I)Z" } : Jvm.MethodName) ∈ kq_W := kq_of 1138 (by decide +kernel) rfl
theorem kq_1140 : Jvm.Cond.instanceMethod ({ cls := "GlossRowsModel", name := "isWord", desc := "(I)Z" } : Jvm.MethodName) ∈ kq_W := kq_of 1140 (by decide +kernel) rfl
theorem kq_1141 : Jvm.Cond.code ({ cls := "GlossRowsModel", name := "isWord", desc := "(I)Z" } : Jvm.MethodName) prog_11_method_19_code (2 : Nat) (Option.some Jvm.ClassFile.FieldType.boolean) ∈ kq_W := kq_of 1141 (by decide +kernel) rfl
theorem kq_1142 : Jvm.Cond.methodLink "GlossRowsModel" (94 : Nat) ({ cls := "GlossRowsModel", name := "isWordOf", desc := "([JI)Z" } : Jvm.MethodName) ∈ kq_W := kq_of 1142 (by decide +kernel) rfl
theorem kq_1143 : Jvm.Cond.static ({ cls := "GlossRowsModel", name := "isWordOf", desc := "([JI)Z" } : Jvm.MethodName) ∈ kq_W := kq_of 1143 (by decide +kernel) rfl
theorem kq_1144 : Jvm.Cond.code ({ cls := "GlossRowsModel", name := "isWordOf", desc := "([JI)Z" } : Jvm.MethodName) prog_11_method_18_code (2 : Nat) (Option.some Jvm.ClassFile.FieldType.boolean) ∈ kq_W := kq_of 1144 (by decide +kernel) rfl
theorem kq_1145 : Jvm.Cond.constantLong "GlossRowsModel" (208 : Nat) (7 : Int64) ∈ kq_W := kq_of 1145 (by decide +kernel) rfl
theorem kq_1146 : Jvm.Cond.methodLink "GlossRowsLaw" (136 : Nat) ({ cls := "GlossRowsModel", name := "part", desc := "(III)I" } : Jvm.MethodName) ∈ kq_W := kq_of 1146 (by decide +kernel) rfl
theorem kq_1147 : Jvm.Cond.instanceMethod ({ cls := "GlossRowsModel", name := "part", desc := "(III)I" } : Jvm.MethodName) ∈ kq_W := kq_of 1147 (by decide +kernel) rfl
theorem kq_1148 : Jvm.Cond.selects "GlossRowsModel" ({ cls := "GlossRowsModel", name := "part", desc := "(III)I" } : Jvm.MethodName) ({ cls := "GlossRowsModel", name := "part", desc := "(III)I" } : Jvm.MethodName) ∈ kq_W := kq_of 1148 (by decide +kernel) rfl
theorem kq_1149 : Jvm.Cond.code ({ cls := "GlossRowsModel", name := "part", desc := "(III)I" } : Jvm.MethodName) prog_11_method_52_code (4 : Nat) (Option.some Jvm.ClassFile.FieldType.int) ∈ kq_W := kq_of 1149 (by decide +kernel) rfl
theorem kq_1150 : Jvm.Cond.methodLink "GlossRowsModel" (214 : Nat) ({ cls := "GlossRowsModel", name := "isPart", desc := "(II)Z" } : Jvm.MethodName) ∈ kq_W := kq_of 1150 (by decide +kernel) rfl
theorem kq_1152 : Jvm.Cond.instanceMethod ({ cls := "GlossRowsModel", name := "isPart", desc := "(II)Z" } : Jvm.MethodName) ∈ kq_W := kq_of 1152 (by decide +kernel) rfl
theorem kq_1153 : Jvm.Cond.code ({ cls := "GlossRowsModel", name := "isPart", desc := "(II)Z" } : Jvm.MethodName) prog_11_method_51_code (3 : Nat) (Option.some Jvm.ClassFile.FieldType.boolean) ∈ kq_W := kq_of 1153 (by decide +kernel) rfl
theorem kq_1154 : Jvm.Cond.methodLink "GlossRowsModel" (210 : Nat) ({ cls := "GlossRowsModel", name := "isPartOf", desc := "([JII)Z" } : Jvm.MethodName) ∈ kq_W := kq_of 1154 (by decide +kernel) rfl
theorem kq_1155 : Jvm.Cond.static ({ cls := "GlossRowsModel", name := "isPartOf", desc := "([JII)Z" } : Jvm.MethodName) ∈ kq_W := kq_of 1155 (by decide +kernel) rfl
theorem kq_1156 : Jvm.Cond.code ({ cls := "GlossRowsModel", name := "isPartOf", desc := "([JII)Z" } : Jvm.MethodName) prog_11_method_20_code (3 : Nat) (Option.some Jvm.ClassFile.FieldType.boolean) ∈ kq_W := kq_of 1156 (by decide +kernel) rfl
theorem kq_1157 : Jvm.Cond.constantLong "GlossRowsModel" (218 : Nat) (3 : Int64) ∈ kq_W := kq_of 1157 (by decide +kernel) rfl
theorem kq_1158 : Jvm.Cond.methodLink "GlossRowsModel" (138 : Nat) ({ cls := "GlossRowsModel", name := "mark", desc := "(II)I" } : Jvm.MethodName) ∈ kq_W := kq_of 1158 (by decide +kernel) rfl
theorem kq_1159 : Jvm.Cond.static ({ cls := "GlossRowsModel", name := "mark", desc := "(II)I" } : Jvm.MethodName) ∈ kq_W := kq_of 1159 (by decide +kernel) rfl
theorem kq_1160 : Jvm.Cond.code ({ cls := "GlossRowsModel", name := "mark", desc := "(II)I" } : Jvm.MethodName) prog_11_method_13_code (2 : Nat) (Option.some Jvm.ClassFile.FieldType.int) ∈ kq_W := kq_of 1160 (by decide +kernel) rfl
theorem kq_1161 : Jvm.Cond.methodLink "GlossRowsLaw" (140 : Nat) ({ cls := "GlossRowsModel", name := "letter", desc := "(IIZI)I" } : Jvm.MethodName) ∈ kq_W := kq_of 1161 (by decide +kernel) rfl
theorem kq_1162 : Jvm.Cond.instanceMethod ({ cls := "GlossRowsModel", name := "letter", desc := "(IIZI)I" } : Jvm.MethodName) ∈ kq_W := kq_of 1162 (by decide +kernel) rfl
theorem kq_1163 : Jvm.Cond.selects "GlossRowsModel" ({ cls := "GlossRowsModel", name := "letter", desc := "(IIZI)I" } : Jvm.MethodName) ({ cls := "GlossRowsModel", name := "letter", desc := "(IIZI)I" } : Jvm.MethodName) ∈ kq_W := kq_of 1163 (by decide +kernel) rfl
theorem kq_1164 : Jvm.Cond.code ({ cls := "GlossRowsModel", name := "letter", desc := "(IIZI)I" } : Jvm.MethodName) prog_11_method_53_code (5 : Nat) (Option.some Jvm.ClassFile.FieldType.int) ∈ kq_W := kq_of 1164 (by decide +kernel) rfl
theorem kq_1165 : Jvm.Cond.methodLink "GlossRowsModel" (141 : Nat) ({ cls := "GlossRowsModel", name := "letterOf", desc := "(JI)I" } : Jvm.MethodName) ∈ kq_W := kq_of 1165 (by decide +kernel) rfl
theorem kq_1166 : Jvm.Cond.static ({ cls := "GlossRowsModel", name := "letterOf", desc := "(JI)I" } : Jvm.MethodName) ∈ kq_W := kq_of 1166 (by decide +kernel) rfl
theorem kq_1167 : Jvm.Cond.code ({ cls := "GlossRowsModel", name := "letterOf", desc := "(JI)I" } : Jvm.MethodName) prog_11_method_10_code (4 : Nat) (Option.some Jvm.ClassFile.FieldType.int) ∈ kq_W := kq_of 1167 (by decide +kernel) rfl
theorem kq_1168 : Jvm.Cond.methodLink "GlossRowsLaw" (144 : Nat) ({ cls := "GlossRowsModel", name := "entry", desc := "(IZI)I" } : Jvm.MethodName) ∈ kq_W := kq_of 1168 (by decide +kernel) rfl
theorem kq_1169 : Jvm.Cond.instanceMethod ({ cls := "GlossRowsModel", name := "entry", desc := "(IZI)I" } : Jvm.MethodName) ∈ kq_W := kq_of 1169 (by decide +kernel) rfl
theorem kq_1170 : Jvm.Cond.selects "GlossRowsModel" ({ cls := "GlossRowsModel", name := "entry", desc := "(IZI)I" } : Jvm.MethodName) ({ cls := "GlossRowsModel", name := "entry", desc := "(IZI)I" } : Jvm.MethodName) ∈ kq_W := kq_of 1170 (by decide +kernel) rfl
theorem kq_1171 : Jvm.Cond.code ({ cls := "GlossRowsModel", name := "entry", desc := "(IZI)I" } : Jvm.MethodName) prog_11_method_55_code (4 : Nat) (Option.some Jvm.ClassFile.FieldType.int) ∈ kq_W := kq_of 1171 (by decide +kernel) rfl
theorem kq_1172 : Jvm.Cond.methodLink "GlossRowsModel" (220 : Nat) ({ cls := "GlossRowsModel", name := "isEntry", desc := "(I)Z" } : Jvm.MethodName) ∈ kq_W := kq_of 1172 (by decide +kernel) rfl
theorem kq_1174 : Jvm.Cond.instanceMethod ({ cls := "GlossRowsModel", name := "isEntry", desc := "(I)Z" } : Jvm.MethodName) ∈ kq_W := kq_of 1174 (by decide +kernel) rfl
theorem kq_1175 : Jvm.Cond.code ({ cls := "GlossRowsModel", name := "isEntry", desc := "(I)Z" } : Jvm.MethodName) prog_11_method_54_code (2 : Nat) (Option.some Jvm.ClassFile.FieldType.boolean) ∈ kq_W := kq_of 1175 (by decide +kernel) rfl
theorem kq_1176 : Jvm.Cond.methodLink "GlossRowsLaw" (147 : Nat) ({ cls := "GlossRowsModel", name := "row", desc := "(II)I" } : Jvm.MethodName) ∈ kq_W := kq_of 1176 (by decide +kernel) rfl
theorem kq_1177 : Jvm.Cond.instanceMethod ({ cls := "GlossRowsModel", name := "row", desc := "(II)I" } : Jvm.MethodName) ∈ kq_W := kq_of 1177 (by decide +kernel) rfl
theorem kq_1178 : Jvm.Cond.selects "GlossRowsModel" ({ cls := "GlossRowsModel", name := "row", desc := "(II)I" } : Jvm.MethodName) ({ cls := "GlossRowsModel", name := "row", desc := "(II)I" } : Jvm.MethodName) ∈ kq_W := kq_of 1178 (by decide +kernel) rfl
theorem kq_1179 : Jvm.Cond.code ({ cls := "GlossRowsModel", name := "row", desc := "(II)I" } : Jvm.MethodName) prog_11_method_59_code (3 : Nat) (Option.some Jvm.ClassFile.FieldType.int) ∈ kq_W := kq_of 1179 (by decide +kernel) rfl
theorem kq_1180 : Jvm.Cond.methodLink "GlossRowsModel" (223 : Nat) ({ cls := "GlossRowsModel", name := "isRow", desc := "(I)Z" } : Jvm.MethodName) ∈ kq_W := kq_of 1180 (by decide +kernel) rfl
theorem kq_1182 : Jvm.Cond.instanceMethod ({ cls := "GlossRowsModel", name := "isRow", desc := "(I)Z" } : Jvm.MethodName) ∈ kq_W := kq_of 1182 (by decide +kernel) rfl
theorem kq_1183 : Jvm.Cond.code ({ cls := "GlossRowsModel", name := "isRow", desc := "(I)Z" } : Jvm.MethodName) prog_11_method_58_code (2 : Nat) (Option.some Jvm.ClassFile.FieldType.boolean) ∈ kq_W := kq_of 1183 (by decide +kernel) rfl
theorem kq_1184 : Jvm.Cond.methodLink "GlossRowsModel" (226 : Nat) ({ cls := "GlossRowsModel", name := "lengthOfRow", desc := "(I)I" } : Jvm.MethodName) ∈ kq_W := kq_of 1184 (by decide +kernel) rfl
theorem kq_1186 : Jvm.Cond.instanceMethod ({ cls := "GlossRowsModel", name := "lengthOfRow", desc := "(I)I" } : Jvm.MethodName) ∈ kq_W := kq_of 1186 (by decide +kernel) rfl
theorem kq_1187 : Jvm.Cond.code ({ cls := "GlossRowsModel", name := "lengthOfRow", desc := "(I)I" } : Jvm.MethodName) prog_11_method_56_code (3 : Nat) (Option.some Jvm.ClassFile.FieldType.int) ∈ kq_W := kq_of 1187 (by decide +kernel) rfl
theorem kq_1188 : Jvm.Cond.methodLink "GlossRowsModel" (230 : Nat) ({ cls := "GlossRowsModel", name := "sentenceOfRow", desc := "(I)I" } : Jvm.MethodName) ∈ kq_W := kq_of 1188 (by decide +kernel) rfl
theorem kq_1190 : Jvm.Cond.instanceMethod ({ cls := "GlossRowsModel", name := "sentenceOfRow", desc := "(I)I" } : Jvm.MethodName) ∈ kq_W := kq_of 1190 (by decide +kernel) rfl
theorem kq_1191 : Jvm.Cond.code ({ cls := "GlossRowsModel", name := "sentenceOfRow", desc := "(I)I" } : Jvm.MethodName) prog_11_method_57_code (3 : Nat) (Option.some Jvm.ClassFile.FieldType.int) ∈ kq_W := kq_of 1191 (by decide +kernel) rfl
theorem kq_1192 : Jvm.Cond.methodLink "GlossRowsLaw" (150 : Nat) ({ cls := "GlossRowsModel", name := "at", desc := "(II)I" } : Jvm.MethodName) ∈ kq_W := kq_of 1192 (by decide +kernel) rfl
theorem kq_1193 : Jvm.Cond.instanceMethod ({ cls := "GlossRowsModel", name := "at", desc := "(II)I" } : Jvm.MethodName) ∈ kq_W := kq_of 1193 (by decide +kernel) rfl
theorem kq_1194 : Jvm.Cond.selects "GlossRowsModel" ({ cls := "GlossRowsModel", name := "at", desc := "(II)I" } : Jvm.MethodName) ({ cls := "GlossRowsModel", name := "at", desc := "(II)I" } : Jvm.MethodName) ∈ kq_W := kq_of 1194 (by decide +kernel) rfl
theorem kq_1195 : Jvm.Cond.code ({ cls := "GlossRowsModel", name := "at", desc := "(II)I" } : Jvm.MethodName) prog_11_method_60_code (6 : Nat) (Option.some Jvm.ClassFile.FieldType.int) ∈ kq_W := kq_of 1195 (by decide +kernel) rfl
theorem kq_1196 : Jvm.Cond.methodLink "GlossRowsModel" (233 : Nat) ({ cls := "GlossRowsModel", name := "freeChar", desc := "([JII)I" } : Jvm.MethodName) ∈ kq_W := kq_of 1196 (by decide +kernel) rfl
theorem kq_1197 : Jvm.Cond.static ({ cls := "GlossRowsModel", name := "freeChar", desc := "([JII)I" } : Jvm.MethodName) ∈ kq_W := kq_of 1197 (by decide +kernel) rfl
theorem kq_1198 : Jvm.Cond.code ({ cls := "GlossRowsModel", name := "freeChar", desc := "([JII)I" } : Jvm.MethodName) prog_11_method_27_code (3 : Nat) (Option.some Jvm.ClassFile.FieldType.int) ∈ kq_W := kq_of 1198 (by decide +kernel) rfl
theorem kq_1199 : Jvm.Cond.constantLong "GlossRowsModel" (136 : Nat) (127 : Int64) ∈ kq_W := kq_of 1199 (by decide +kernel) rfl
theorem kq_1200 : Jvm.Cond.methodLink "GlossRowsModel" (236 : Nat) ({ cls := "GlossRowsModel", name := "shown", desc := "([JIZII)I" } : Jvm.MethodName) ∈ kq_W := kq_of 1200 (by decide +kernel) rfl
theorem kq_1201 : Jvm.Cond.static ({ cls := "GlossRowsModel", name := "shown", desc := "([JIZII)I" } : Jvm.MethodName) ∈ kq_W := kq_of 1201 (by decide +kernel) rfl
theorem kq_1202 : Jvm.Cond.code ({ cls := "GlossRowsModel", name := "shown", desc := "([JIZII)I" } : Jvm.MethodName) prog_11_method_28_code (13 : Nat) (Option.some Jvm.ClassFile.FieldType.int) ∈ kq_W := kq_of 1202 (by decide +kernel) rfl
theorem kq_1203 : Jvm.Cond.methodLink "GlossRowsLaw" (153 : Nat) ({ cls := "GlossRowsModel", name := "insert", desc := "(I)I" } : Jvm.MethodName) ∈ kq_W := kq_of 1203 (by decide +kernel) rfl
theorem kq_1204 : Jvm.Cond.instanceMethod ({ cls := "GlossRowsModel", name := "insert", desc := "(I)I" } : Jvm.MethodName) ∈ kq_W := kq_of 1204 (by decide +kernel) rfl
theorem kq_1205 : Jvm.Cond.selects "GlossRowsModel" ({ cls := "GlossRowsModel", name := "insert", desc := "(I)I" } : Jvm.MethodName) ({ cls := "GlossRowsModel", name := "insert", desc := "(I)I" } : Jvm.MethodName) ∈ kq_W := kq_of 1205 (by decide +kernel) rfl
theorem kq_1206 : Jvm.Cond.code ({ cls := "GlossRowsModel", name := "insert", desc := "(I)I" } : Jvm.MethodName) prog_11_method_61_code (2 : Nat) (Option.some Jvm.ClassFile.FieldType.int) ∈ kq_W := kq_of 1206 (by decide +kernel) rfl
theorem kq_1207 : Jvm.Cond.constantLong "GlossRowsModel" (240 : Nat) (12 : Int64) ∈ kq_W := kq_of 1207 (by decide +kernel) rfl
theorem kq_1208 : Jvm.Cond.methodLink "GlossRowsModel" (242 : Nat) ({ cls := "GlossRowsModel", name := "note", desc := "()V" } : Jvm.MethodName) ∈ kq_W := kq_of 1208 (by decide +kernel) rfl
theorem kq_1210 : Jvm.Cond.instanceMethod ({ cls := "GlossRowsModel", name := "note", desc := "()V" } : Jvm.MethodName) ∈ kq_W := kq_of 1210 (by decide +kernel) rfl
theorem kq_1211 : Jvm.Cond.code ({ cls := "GlossRowsModel", name := "note", desc := "()V" } : Jvm.MethodName) prog_11_method_8_code (1 : Nat) (Option.none : Option Jvm.ClassFile.FieldType) ∈ kq_W := kq_of 1211 (by decide +kernel) rfl
theorem kq_1212 : Jvm.Cond.methodLink "GlossRowsLaw" (156 : Nat) ({ cls := "GlossRowsModel", name := "remove", desc := "(I)I" } : Jvm.MethodName) ∈ kq_W := kq_of 1212 (by decide +kernel) rfl
theorem kq_1213 : Jvm.Cond.instanceMethod ({ cls := "GlossRowsModel", name := "remove", desc := "(I)I" } : Jvm.MethodName) ∈ kq_W := kq_of 1213 (by decide +kernel) rfl
theorem kq_1214 : Jvm.Cond.selects "GlossRowsModel" ({ cls := "GlossRowsModel", name := "remove", desc := "(I)I" } : Jvm.MethodName) ({ cls := "GlossRowsModel", name := "remove", desc := "(I)I" } : Jvm.MethodName) ∈ kq_W := kq_of 1214 (by decide +kernel) rfl
theorem kq_1215 : Jvm.Cond.code ({ cls := "GlossRowsModel", name := "remove", desc := "(I)I" } : Jvm.MethodName) prog_11_method_62_code (2 : Nat) (Option.some Jvm.ClassFile.FieldType.int) ∈ kq_W := kq_of 1215 (by decide +kernel) rfl
theorem kq_1216 : Jvm.Cond.methodLink "GlossRowsModel" (245 : Nat) ({ cls := "GlossRowsModel", name := "removeOn", desc := "([JI)V" } : Jvm.MethodName) ∈ kq_W := kq_of 1216 (by decide +kernel) rfl
theorem kq_1217 : Jvm.Cond.static ({ cls := "GlossRowsModel", name := "removeOn", desc := "([JI)V" } : Jvm.MethodName) ∈ kq_W := kq_of 1217 (by decide +kernel) rfl
theorem kq_1218 : Jvm.Cond.code ({ cls := "GlossRowsModel", name := "removeOn", desc := "([JI)V" } : Jvm.MethodName) prog_11_method_35_code (2 : Nat) (Option.none : Option Jvm.ClassFile.FieldType) ∈ kq_W := kq_of 1218 (by decide +kernel) rfl
theorem kq_1219 : Jvm.Cond.methodLink "GlossRowsLaw" (159 : Nat) ({ cls := "GlossRowsModel", name := "end", desc := "(I)I" } : Jvm.MethodName) ∈ kq_W := kq_of 1219 (by decide +kernel) rfl
theorem kq_1220 : Jvm.Cond.instanceMethod ({ cls := "GlossRowsModel", name := "end", desc := "(I)I" } : Jvm.MethodName) ∈ kq_W := kq_of 1220 (by decide +kernel) rfl
theorem kq_1221 : Jvm.Cond.selects "GlossRowsModel" ({ cls := "GlossRowsModel", name := "end", desc := "(I)I" } : Jvm.MethodName) ({ cls := "GlossRowsModel", name := "end", desc := "(I)I" } : Jvm.MethodName) ∈ kq_W := kq_of 1221 (by decide +kernel) rfl
theorem kq_1222 : Jvm.Cond.code ({ cls := "GlossRowsModel", name := "end", desc := "(I)I" } : Jvm.MethodName) prog_11_method_63_code (2 : Nat) (Option.some Jvm.ClassFile.FieldType.int) ∈ kq_W := kq_of 1222 (by decide +kernel) rfl
theorem kq_1223 : Jvm.Cond.methodLink "GlossRowsModel" (248 : Nat) ({ cls := "GlossRowsModel", name := "sentencesOf", desc := "([J)I" } : Jvm.MethodName) ∈ kq_W := kq_of 1223 (by decide +kernel) rfl
theorem kq_1225 : Jvm.Cond.instanceMethod ({ cls := "GlossRowsModel", name := "sentencesOf", desc := "([J)I" } : Jvm.MethodName) ∈ kq_W := kq_of 1225 (by decide +kernel) rfl
theorem kq_1226 : Jvm.Cond.code ({ cls := "GlossRowsModel", name := "sentencesOf", desc := "([J)I" } : Jvm.MethodName) prog_11_method_26_code (2 : Nat) (Option.some Jvm.ClassFile.FieldType.int) ∈ kq_W := kq_of 1226 (by decide +kernel) rfl
theorem kq_1227 : Jvm.Cond.methodLink "GlossRowsLaw" (162 : Nat) ({ cls := "GlossRowsModel", name := "join", desc := "(I)I" } : Jvm.MethodName) ∈ kq_W := kq_of 1227 (by decide +kernel) rfl
theorem kq_1228 : Jvm.Cond.instanceMethod ({ cls := "GlossRowsModel", name := "join", desc := "(I)I" } : Jvm.MethodName) ∈ kq_W := kq_of 1228 (by decide +kernel) rfl
theorem kq_1229 : Jvm.Cond.selects "GlossRowsModel" ({ cls := "GlossRowsModel", name := "join", desc := "(I)I" } : Jvm.MethodName) ({ cls := "GlossRowsModel", name := "join", desc := "(I)I" } : Jvm.MethodName) ∈ kq_W := kq_of 1229 (by decide +kernel) rfl
theorem kq_1230 : Jvm.Cond.code ({ cls := "GlossRowsModel", name := "join", desc := "(I)I" } : Jvm.MethodName) prog_11_method_64_code (2 : Nat) (Option.some Jvm.ClassFile.FieldType.int) ∈ kq_W := kq_of 1230 (by decide +kernel) rfl
theorem kq_1231 : Jvm.Cond.methodLink "GlossRowsModel" (251 : Nat) ({ cls := "GlossRowsModel", name := "joinOn", desc := "([JI)V" } : Jvm.MethodName) ∈ kq_W := kq_of 1231 (by decide +kernel) rfl
theorem kq_1232 : Jvm.Cond.static ({ cls := "GlossRowsModel", name := "joinOn", desc := "([JI)V" } : Jvm.MethodName) ∈ kq_W := kq_of 1232 (by decide +kernel) rfl
theorem kq_1233 : Jvm.Cond.code ({ cls := "GlossRowsModel", name := "joinOn", desc := "([JI)V" } : Jvm.MethodName) prog_11_method_36_code (3 : Nat) (Option.none : Option Jvm.ClassFile.FieldType) ∈ kq_W := kq_of 1233 (by decide +kernel) rfl
theorem kq_1234 : Jvm.Cond.methodLink "GlossRowsLaw" (165 : Nat) ({ cls := "GlossRowsModel", name := "setFree", desc := "(I)I" } : Jvm.MethodName) ∈ kq_W := kq_of 1234 (by decide +kernel) rfl
theorem kq_1235 : Jvm.Cond.instanceMethod ({ cls := "GlossRowsModel", name := "setFree", desc := "(I)I" } : Jvm.MethodName) ∈ kq_W := kq_of 1235 (by decide +kernel) rfl
theorem kq_1236 : Jvm.Cond.selects "GlossRowsModel" ({ cls := "GlossRowsModel", name := "setFree", desc := "(I)I" } : Jvm.MethodName) ({ cls := "GlossRowsModel", name := "setFree", desc := "(I)I" } : Jvm.MethodName) ∈ kq_W := kq_of 1236 (by decide +kernel) rfl
theorem kq_1237 : Jvm.Cond.code ({ cls := "GlossRowsModel", name := "setFree", desc := "(I)I" } : Jvm.MethodName) prog_11_method_66_code (3 : Nat) (Option.some Jvm.ClassFile.FieldType.int) ∈ kq_W := kq_of 1237 (by decide +kernel) rfl
theorem kq_1238 : Jvm.Cond.methodLink "GlossRowsModel" (258 : Nat) ({ cls := "GlossRowsModel", name := "isFree", desc := "()Z" } : Jvm.MethodName) ∈ kq_W := kq_of 1238 (by decide +kernel) rfl
theorem kq_1240 : Jvm.Cond.instanceMethod ({ cls := "GlossRowsModel", name := "isFree", desc := "()Z" } : Jvm.MethodName) ∈ kq_W := kq_of 1240 (by decide +kernel) rfl
theorem kq_1241 : Jvm.Cond.code ({ cls := "GlossRowsModel", name := "isFree", desc := "()Z" } : Jvm.MethodName) prog_11_method_65_code (3 : Nat) (Option.some Jvm.ClassFile.FieldType.boolean) ∈ kq_W := kq_of 1241 (by decide +kernel) rfl
theorem kq_1242 : Jvm.Cond.constantLong "GlossRowsModel" (254 : Nat) (32 : Int64) ∈ kq_W := kq_of 1242 (by decide +kernel) rfl
theorem kq_1243 : Jvm.Cond.constantLong "GlossRowsModel" (256 : Nat) (126 : Int64) ∈ kq_W := kq_of 1243 (by decide +kernel) rfl
theorem kq_1244 : Jvm.Cond.methodLink "GlossRowsLaw" (168 : Nat) ({ cls := "GlossRowsModel", name := "setGloss", desc := "(II)I" } : Jvm.MethodName) ∈ kq_W := kq_of 1244 (by decide +kernel) rfl
theorem kq_1245 : Jvm.Cond.instanceMethod ({ cls := "GlossRowsModel", name := "setGloss", desc := "(II)I" } : Jvm.MethodName) ∈ kq_W := kq_of 1245 (by decide +kernel) rfl
theorem kq_1246 : Jvm.Cond.selects "GlossRowsModel" ({ cls := "GlossRowsModel", name := "setGloss", desc := "(II)I" } : Jvm.MethodName) ({ cls := "GlossRowsModel", name := "setGloss", desc := "(II)I" } : Jvm.MethodName) ∈ kq_W := kq_of 1246 (by decide +kernel) rfl
theorem kq_1247 : Jvm.Cond.code ({ cls := "GlossRowsModel", name := "setGloss", desc := "(II)I" } : Jvm.MethodName) prog_11_method_68_code (6 : Nat) (Option.some Jvm.ClassFile.FieldType.int) ∈ kq_W := kq_of 1247 (by decide +kernel) rfl
theorem kq_1248 : Jvm.Cond.methodLink "GlossRowsModel" (262 : Nat) ({ cls := "GlossRowsModel", name := "isGloss", desc := "()Z" } : Jvm.MethodName) ∈ kq_W := kq_of 1248 (by decide +kernel) rfl
theorem kq_1250 : Jvm.Cond.instanceMethod ({ cls := "GlossRowsModel", name := "isGloss", desc := "()Z" } : Jvm.MethodName) ∈ kq_W := kq_of 1250 (by decide +kernel) rfl
theorem kq_1251 : Jvm.Cond.code ({ cls := "GlossRowsModel", name := "isGloss", desc := "()Z" } : Jvm.MethodName) prog_11_method_67_code (3 : Nat) (Option.some Jvm.ClassFile.FieldType.boolean) ∈ kq_W := kq_of 1251 (by decide +kernel) rfl
theorem kq_1252 : Jvm.Cond.methodLink "GlossRowsLaw" (171 : Nat) ({ cls := "GlossRowsModel", name := "set", desc := "(II)I" } : Jvm.MethodName) ∈ kq_W := kq_of 1252 (by decide +kernel) rfl
theorem kq_1253 : Jvm.Cond.instanceMethod ({ cls := "GlossRowsModel", name := "set", desc := "(II)I" } : Jvm.MethodName) ∈ kq_W := kq_of 1253 (by decide +kernel) rfl
theorem kq_1254 : Jvm.Cond.selects "GlossRowsModel" ({ cls := "GlossRowsModel", name := "set", desc := "(II)I" } : Jvm.MethodName) ({ cls := "GlossRowsModel", name := "set", desc := "(II)I" } : Jvm.MethodName) ∈ kq_W := kq_of 1254 (by decide +kernel) rfl
theorem kq_1255 : Jvm.Cond.code ({ cls := "GlossRowsModel", name := "set", desc := "(II)I" } : Jvm.MethodName) prog_11_method_70_code (4 : Nat) (Option.some Jvm.ClassFile.FieldType.int) ∈ kq_W := kq_of 1255 (by decide +kernel) rfl
theorem kq_1256 : Jvm.Cond.methodLink "GlossRowsModel" (267 : Nat) ({ cls := "GlossRowsModel", name := "isSetting", desc := "(II)Z" } : Jvm.MethodName) ∈ kq_W := kq_of 1256 (by decide +kernel) rfl
theorem kq_1257 : Jvm.Cond.static ({ cls := "GlossRowsModel", name := "isSetting", desc := "(II)Z" } : Jvm.MethodName) ∈ kq_W := kq_of 1257 (by decide +kernel) rfl
theorem kq_1258 : Jvm.Cond.code ({ cls := "GlossRowsModel", name := "isSetting", desc := "(II)Z" } : Jvm.MethodName) prog_11_method_69_code (2 : Nat) (Option.some Jvm.ClassFile.FieldType.boolean) ∈ kq_W := kq_of 1258 (by decide +kernel) rfl
theorem kq_1259 : Jvm.Cond.constantLong "GlossRowsModel" (69 : Nat) (10 : Int64) ∈ kq_W := kq_of 1259 (by decide +kernel) rfl
theorem kq_1260 : Jvm.Cond.constantLong "GlossRowsModel" (265 : Nat) (60 : Int64) ∈ kq_W := kq_of 1260 (by decide +kernel) rfl
theorem kq_1261 : Jvm.Cond.methodLink "GlossRowsLaw" (174 : Nat) ({ cls := "GlossRowsModel", name := "learn", desc := "(II)I" } : Jvm.MethodName) ∈ kq_W := kq_of 1261 (by decide +kernel) rfl
theorem kq_1262 : Jvm.Cond.instanceMethod ({ cls := "GlossRowsModel", name := "learn", desc := "(II)I" } : Jvm.MethodName) ∈ kq_W := kq_of 1262 (by decide +kernel) rfl
theorem kq_1263 : Jvm.Cond.selects "GlossRowsModel" ({ cls := "GlossRowsModel", name := "learn", desc := "(II)I" } : Jvm.MethodName) ({ cls := "GlossRowsModel", name := "learn", desc := "(II)I" } : Jvm.MethodName) ∈ kq_W := kq_of 1263 (by decide +kernel) rfl
theorem kq_1264 : Jvm.Cond.code ({ cls := "GlossRowsModel", name := "learn", desc := "(II)I" } : Jvm.MethodName) prog_11_method_71_code (3 : Nat) (Option.some Jvm.ClassFile.FieldType.int) ∈ kq_W := kq_of 1264 (by decide +kernel) rfl
theorem kq_1265 : Jvm.Cond.methodLink "GlossRowsModel" (270 : Nat) ({ cls := "GlossRowsModel", name := "canLearn", desc := "([JII)Z" } : Jvm.MethodName) ∈ kq_W := kq_of 1265 (by decide +kernel) rfl
theorem kq_1266 : Jvm.Cond.static ({ cls := "GlossRowsModel", name := "canLearn", desc := "([JII)Z" } : Jvm.MethodName) ∈ kq_W := kq_of 1266 (by decide +kernel) rfl
theorem kq_1267 : Jvm.Cond.code ({ cls := "GlossRowsModel", name := "canLearn", desc := "([JII)Z" } : Jvm.MethodName) prog_11_method_31_code (3 : Nat) (Option.some Jvm.ClassFile.FieldType.boolean) ∈ kq_W := kq_of 1267 (by decide +kernel) rfl
theorem kq_1268 : Jvm.Cond.constantLong "GlossRowsModel" (149 : Nat) (16 : Int64) ∈ kq_W := kq_of 1268 (by decide +kernel) rfl
theorem kq_1269 : Jvm.Cond.methodLink "GlossRowsModel" (273 : Nat) ({ cls := "GlossRowsModel", name := "learnOn", desc := "([JII)V" } : Jvm.MethodName) ∈ kq_W := kq_of 1269 (by decide +kernel) rfl
theorem kq_1270 : Jvm.Cond.static ({ cls := "GlossRowsModel", name := "learnOn", desc := "([JII)V" } : Jvm.MethodName) ∈ kq_W := kq_of 1270 (by decide +kernel) rfl
theorem kq_1271 : Jvm.Cond.code ({ cls := "GlossRowsModel", name := "learnOn", desc := "([JII)V" } : Jvm.MethodName) prog_11_method_30_code (6 : Nat) (Option.none : Option Jvm.ClassFile.FieldType) ∈ kq_W := kq_of 1271 (by decide +kernel) rfl
theorem kq_1272 : Jvm.Cond.methodLink "GlossRowsLaw" (177 : Nat) ({ cls := "GlossRowsModel", name := "forget", desc := "(I)I" } : Jvm.MethodName) ∈ kq_W := kq_of 1272 (by decide +kernel) rfl
theorem kq_1273 : Jvm.Cond.instanceMethod ({ cls := "GlossRowsModel", name := "forget", desc := "(I)I" } : Jvm.MethodName) ∈ kq_W := kq_of 1273 (by decide +kernel) rfl
theorem kq_1274 : Jvm.Cond.selects "GlossRowsModel" ({ cls := "GlossRowsModel", name := "forget", desc := "(I)I" } : Jvm.MethodName) ({ cls := "GlossRowsModel", name := "forget", desc := "(I)I" } : Jvm.MethodName) ∈ kq_W := kq_of 1274 (by decide +kernel) rfl
theorem kq_1275 : Jvm.Cond.code ({ cls := "GlossRowsModel", name := "forget", desc := "(I)I" } : Jvm.MethodName) prog_11_method_72_code (2 : Nat) (Option.some Jvm.ClassFile.FieldType.int) ∈ kq_W := kq_of 1275 (by decide +kernel) rfl
theorem kq_1276 : Jvm.Cond.methodLink "GlossRowsLaw" (181 : Nat) ({ cls := "GlossRowsModel", name := "fillGaps", desc := "()I" } : Jvm.MethodName) ∈ kq_W := kq_of 1276 (by decide +kernel) rfl
theorem kq_1277 : Jvm.Cond.instanceMethod ({ cls := "GlossRowsModel", name := "fillGaps", desc := "()I" } : Jvm.MethodName) ∈ kq_W := kq_of 1277 (by decide +kernel) rfl
theorem kq_1278 : Jvm.Cond.selects "GlossRowsModel" ({ cls := "GlossRowsModel", name := "fillGaps", desc := "()I" } : Jvm.MethodName) ({ cls := "GlossRowsModel", name := "fillGaps", desc := "()I" } : Jvm.MethodName) ∈ kq_W := kq_of 1278 (by decide +kernel) rfl
theorem kq_1279 : Jvm.Cond.code ({ cls := "GlossRowsModel", name := "fillGaps", desc := "()I" } : Jvm.MethodName) prog_11_method_73_code (1 : Nat) (Option.some Jvm.ClassFile.FieldType.int) ∈ kq_W := kq_of 1279 (by decide +kernel) rfl
theorem kq_1280 : Jvm.Cond.methodLink "GlossRowsModel" (276 : Nat) ({ cls := "GlossRowsModel", name := "fillOn", desc := "([J)I" } : Jvm.MethodName) ∈ kq_W := kq_of 1280 (by decide +kernel) rfl
theorem kq_1281 : Jvm.Cond.static ({ cls := "GlossRowsModel", name := "fillOn", desc := "([J)I" } : Jvm.MethodName) ∈ kq_W := kq_of 1281 (by decide +kernel) rfl
theorem kq_1282 : Jvm.Cond.code ({ cls := "GlossRowsModel", name := "fillOn", desc := "([J)I" } : Jvm.MethodName) prog_11_method_32_code (5 : Nat) (Option.some Jvm.ClassFile.FieldType.int) ∈ kq_W := kq_of 1282 (by decide +kernel) rfl
theorem kq_1283 : Jvm.Cond.methodLink "GlossRowsLaw" (184 : Nat) ({ cls := "GlossRowsModel", name := "undo", desc := "()I" } : Jvm.MethodName) ∈ kq_W := kq_of 1283 (by decide +kernel) rfl
theorem kq_1284 : Jvm.Cond.instanceMethod ({ cls := "GlossRowsModel", name := "undo", desc := "()I" } : Jvm.MethodName) ∈ kq_W := kq_of 1284 (by decide +kernel) rfl
theorem kq_1285 : Jvm.Cond.selects "GlossRowsModel" ({ cls := "GlossRowsModel", name := "undo", desc := "()I" } : Jvm.MethodName) ({ cls := "GlossRowsModel", name := "undo", desc := "()I" } : Jvm.MethodName) ∈ kq_W := kq_of 1285 (by decide +kernel) rfl
theorem kq_1286 : Jvm.Cond.code ({ cls := "GlossRowsModel", name := "undo", desc := "()I" } : Jvm.MethodName) prog_11_method_74_code (1 : Nat) (Option.some Jvm.ClassFile.FieldType.int) ∈ kq_W := kq_of 1286 (by decide +kernel) rfl
theorem kq_1287 : Jvm.Cond.methodLink "GlossRowsLaw" (187 : Nat) ({ cls := "GlossRowsModel", name := "gap", desc := "(I)I" } : Jvm.MethodName) ∈ kq_W := kq_of 1287 (by decide +kernel) rfl
theorem kq_1288 : Jvm.Cond.instanceMethod ({ cls := "GlossRowsModel", name := "gap", desc := "(I)I" } : Jvm.MethodName) ∈ kq_W := kq_of 1288 (by decide +kernel) rfl
theorem kq_1289 : Jvm.Cond.selects "GlossRowsModel" ({ cls := "GlossRowsModel", name := "gap", desc := "(I)I" } : Jvm.MethodName) ({ cls := "GlossRowsModel", name := "gap", desc := "(I)I" } : Jvm.MethodName) ∈ kq_W := kq_of 1289 (by decide +kernel) rfl
theorem kq_1290 : Jvm.Cond.code ({ cls := "GlossRowsModel", name := "gap", desc := "(I)I" } : Jvm.MethodName) prog_11_method_75_code (5 : Nat) (Option.some Jvm.ClassFile.FieldType.int) ∈ kq_W := kq_of 1290 (by decide +kernel) rfl
theorem kq_1291 : Jvm.Cond.methodLink "GlossRowsLaw" (191 : Nat) ({ cls := "GlossRowsModel", name := "mostUsed", desc := "()I" } : Jvm.MethodName) ∈ kq_W := kq_of 1291 (by decide +kernel) rfl
theorem kq_1292 : Jvm.Cond.instanceMethod ({ cls := "GlossRowsModel", name := "mostUsed", desc := "()I" } : Jvm.MethodName) ∈ kq_W := kq_of 1292 (by decide +kernel) rfl
theorem kq_1293 : Jvm.Cond.selects "GlossRowsModel" ({ cls := "GlossRowsModel", name := "mostUsed", desc := "()I" } : Jvm.MethodName) ({ cls := "GlossRowsModel", name := "mostUsed", desc := "()I" } : Jvm.MethodName) ∈ kq_W := kq_of 1293 (by decide +kernel) rfl
theorem kq_1294 : Jvm.Cond.code ({ cls := "GlossRowsModel", name := "mostUsed", desc := "()I" } : Jvm.MethodName) prog_11_method_77_code (10 : Nat) (Option.some Jvm.ClassFile.FieldType.int) ∈ kq_W := kq_of 1294 (by decide +kernel) rfl
theorem kq_1295 : Jvm.Cond.methodLink "GlossRowsModel" (279 : Nat) ({ cls := "GlossRowsModel", name := "uses", desc := "(J)I" } : Jvm.MethodName) ∈ kq_W := kq_of 1295 (by decide +kernel) rfl
theorem kq_1297 : Jvm.Cond.instanceMethod ({ cls := "GlossRowsModel", name := "uses", desc := "(J)I" } : Jvm.MethodName) ∈ kq_W := kq_of 1297 (by decide +kernel) rfl
theorem kq_1298 : Jvm.Cond.code ({ cls := "GlossRowsModel", name := "uses", desc := "(J)I" } : Jvm.MethodName) prog_11_method_76_code (6 : Nat) (Option.some Jvm.ClassFile.FieldType.int) ∈ kq_W := kq_of 1298 (by decide +kernel) rfl
theorem kq_1299 : Jvm.Cond.methodLink "GlossRowsLaw" (194 : Nat) ({ cls := "GlossRowsModel", name := "widthFor", desc := "(I)I" } : Jvm.MethodName) ∈ kq_W := kq_of 1299 (by decide +kernel) rfl
theorem kq_1300 : Jvm.Cond.instanceMethod ({ cls := "GlossRowsModel", name := "widthFor", desc := "(I)I" } : Jvm.MethodName) ∈ kq_W := kq_of 1300 (by decide +kernel) rfl
theorem kq_1301 : Jvm.Cond.selects "GlossRowsModel" ({ cls := "GlossRowsModel", name := "widthFor", desc := "(I)I" } : Jvm.MethodName) ({ cls := "GlossRowsModel", name := "widthFor", desc := "(I)I" } : Jvm.MethodName) ∈ kq_W := kq_of 1301 (by decide +kernel) rfl
theorem kq_1302 : Jvm.Cond.code ({ cls := "GlossRowsModel", name := "widthFor", desc := "(I)I" } : Jvm.MethodName) prog_11_method_78_code (3 : Nat) (Option.some Jvm.ClassFile.FieldType.int) ∈ kq_W := kq_of 1302 (by decide +kernel) rfl
theorem kq_1303 : Jvm.Cond.constantLong "GlossRowsModel" (282 : Nat) (99 : Int64) ∈ kq_W := kq_of 1303 (by decide +kernel) rfl
theorem kq_1304 : Jvm.Cond.methodLink "GlossRowsLaw" (198 : Nat) ({ cls := "GlossRowsModel", name := "empty", desc := "()I" } : Jvm.MethodName) ∈ kq_W := kq_of 1304 (by decide +kernel) rfl
theorem kq_1305 : Jvm.Cond.instanceMethod ({ cls := "GlossRowsModel", name := "empty", desc := "()I" } : Jvm.MethodName) ∈ kq_W := kq_of 1305 (by decide +kernel) rfl
theorem kq_1306 : Jvm.Cond.selects "GlossRowsModel" ({ cls := "GlossRowsModel", name := "empty", desc := "()I" } : Jvm.MethodName) ({ cls := "GlossRowsModel", name := "empty", desc := "()I" } : Jvm.MethodName) ∈ kq_W := kq_of 1306 (by decide +kernel) rfl
theorem kq_1307 : Jvm.Cond.code ({ cls := "GlossRowsModel", name := "empty", desc := "()I" } : Jvm.MethodName) prog_11_method_79_code (3 : Nat) (Option.some Jvm.ClassFile.FieldType.int) ∈ kq_W := kq_of 1307 (by decide +kernel) rfl
theorem kq_1308 : Jvm.Cond.methodLink "GlossRowsLaw" (201 : Nat) ({ cls := "GlossRowsModel", name := "rowsWith", desc := "(II)I" } : Jvm.MethodName) ∈ kq_W := kq_of 1308 (by decide +kernel) rfl
theorem kq_1309 : Jvm.Cond.instanceMethod ({ cls := "GlossRowsModel", name := "rowsWith", desc := "(II)I" } : Jvm.MethodName) ∈ kq_W := kq_of 1309 (by decide +kernel) rfl
theorem kq_1310 : Jvm.Cond.selects "GlossRowsModel" ({ cls := "GlossRowsModel", name := "rowsWith", desc := "(II)I" } : Jvm.MethodName) ({ cls := "GlossRowsModel", name := "rowsWith", desc := "(II)I" } : Jvm.MethodName) ∈ kq_W := kq_of 1310 (by decide +kernel) rfl
theorem kq_1311 : Jvm.Cond.code ({ cls := "GlossRowsModel", name := "rowsWith", desc := "(II)I" } : Jvm.MethodName) prog_11_method_80_code (3 : Nat) (Option.some Jvm.ClassFile.FieldType.int) ∈ kq_W := kq_of 1311 (by decide +kernel) rfl
theorem kq_1312 : Jvm.Cond.methodLink "GlossRowsLaw" (207 : Nat) ({ cls := "GlossRowsModel", name := "runScript", desc := "(IJ)I" } : Jvm.MethodName) ∈ kq_W := kq_of 1312 (by decide +kernel) rfl
theorem kq_1313 : Jvm.Cond.instanceMethod ({ cls := "GlossRowsModel", name := "runScript", desc := "(IJ)I" } : Jvm.MethodName) ∈ kq_W := kq_of 1313 (by decide +kernel) rfl
theorem kq_1314 : Jvm.Cond.selects "GlossRowsModel" ({ cls := "GlossRowsModel", name := "runScript", desc := "(IJ)I" } : Jvm.MethodName) ({ cls := "GlossRowsModel", name := "runScript", desc := "(IJ)I" } : Jvm.MethodName) ∈ kq_W := kq_of 1314 (by decide +kernel) rfl
theorem kq_1315 : Jvm.Cond.code ({ cls := "GlossRowsModel", name := "runScript", desc := "(IJ)I" } : Jvm.MethodName) prog_11_method_83_code (5 : Nat) (Option.some Jvm.ClassFile.FieldType.int) ∈ kq_W := kq_of 1315 (by decide +kernel) rfl
theorem kq_1316 : Jvm.Cond.constantLong "GlossRowsModel" (287 : Nat) (4 : Int64) ∈ kq_W := kq_of 1316 (by decide +kernel) rfl
theorem kq_1317 : Jvm.Cond.methodLink "GlossRowsModel" (289 : Nat) ({ cls := "GlossRowsModel", name := "tenTo", desc := "(I)J" } : Jvm.MethodName) ∈ kq_W := kq_of 1317 (by decide +kernel) rfl
theorem kq_1318 : Jvm.Cond.static ({ cls := "GlossRowsModel", name := "tenTo", desc := "(I)J" } : Jvm.MethodName) ∈ kq_W := kq_of 1318 (by decide +kernel) rfl
theorem kq_1319 : Jvm.Cond.code ({ cls := "GlossRowsModel", name := "tenTo", desc := "(I)J" } : Jvm.MethodName) prog_11_method_7_code (4 : Nat) (Option.some Jvm.ClassFile.FieldType.long) ∈ kq_W := kq_of 1319 (by decide +kernel) rfl
theorem kq_1320 : Jvm.Cond.methodLink "GlossRowsModel" (293 : Nat) ({ cls := "GlossRowsModel", name := "tryOut", desc := "()V" } : Jvm.MethodName) ∈ kq_W := kq_of 1320 (by decide +kernel) rfl
theorem kq_1322 : Jvm.Cond.instanceMethod ({ cls := "GlossRowsModel", name := "tryOut", desc := "()V" } : Jvm.MethodName) ∈ kq_W := kq_of 1322 (by decide +kernel) rfl
theorem kq_1323 : Jvm.Cond.code ({ cls := "GlossRowsModel", name := "tryOut", desc := "()V" } : Jvm.MethodName) prog_11_method_81_code (1 : Nat) (Option.none : Option Jvm.ClassFile.FieldType) ∈ kq_W := kq_of 1323 (by decide +kernel) rfl
theorem kq_1324 : Jvm.Cond.constantLong "GlossRowsModel" (296 : Nat) (10000 : Int64) ∈ kq_W := kq_of 1324 (by decide +kernel) rfl
theorem kq_1325 : Jvm.Cond.methodLink "GlossRowsModel" (298 : Nat) ({ cls := "GlossRowsModel", name := "command", desc := "(I)Z" } : Jvm.MethodName) ∈ kq_W := kq_of 1325 (by decide +kernel) rfl
theorem kq_1327 : Jvm.Cond.instanceMethod ({ cls := "GlossRowsModel", name := "command", desc := "(I)Z" } : Jvm.MethodName) ∈ kq_W := kq_of 1327 (by decide +kernel) rfl
theorem kq_1328 : Jvm.Cond.code ({ cls := "GlossRowsModel", name := "command", desc := "(I)Z" } : Jvm.MethodName) prog_11_method_82_code (6 : Nat) (Option.some Jvm.ClassFile.FieldType.boolean) ∈ kq_W := kq_of 1328 (by decide +kernel) rfl
theorem kq_1329 : Jvm.Cond.methodLink "GlossRowsModel" (284 : Nat) ({ cls := "GlossRowsModel", name := "rowsOf", desc := "([J)I" } : Jvm.MethodName) ∈ kq_W := kq_of 1329 (by decide +kernel) rfl
theorem kq_1331 : Jvm.Cond.instanceMethod ({ cls := "GlossRowsModel", name := "rowsOf", desc := "([J)I" } : Jvm.MethodName) ∈ kq_W := kq_of 1331 (by decide +kernel) rfl
theorem kq_1332 : Jvm.Cond.code ({ cls := "GlossRowsModel", name := "rowsOf", desc := "([J)I" } : Jvm.MethodName) prog_11_method_25_code (2 : Nat) (Option.some Jvm.ClassFile.FieldType.int) ∈ kq_W := kq_of 1332 (by decide +kernel) rfl
theorem kq_1333 : Jvm.Cond.methodLink "GlossRowsLaw" (211 : Nat) ({ cls := "GlossRowsModel", name := "simulate", desc := "(JI)I" } : Jvm.MethodName) ∈ kq_W := kq_of 1333 (by decide +kernel) rfl
theorem kq_1334 : Jvm.Cond.instanceMethod ({ cls := "GlossRowsModel", name := "simulate", desc := "(JI)I" } : Jvm.MethodName) ∈ kq_W := kq_of 1334 (by decide +kernel) rfl
theorem kq_1335 : Jvm.Cond.selects "GlossRowsModel" ({ cls := "GlossRowsModel", name := "simulate", desc := "(JI)I" } : Jvm.MethodName) ({ cls := "GlossRowsModel", name := "simulate", desc := "(JI)I" } : Jvm.MethodName) ∈ kq_W := kq_of 1335 (by decide +kernel) rfl
theorem kq_1336 : Jvm.Cond.code ({ cls := "GlossRowsModel", name := "simulate", desc := "(JI)I" } : Jvm.MethodName) prog_11_method_84_code (11 : Nat) (Option.some Jvm.ClassFile.FieldType.int) ∈ kq_W := kq_of 1336 (by decide +kernel) rfl
theorem kq_1337 : Jvm.Cond.constantLong "GlossRowsModel" (301 : Nat) (6364136223846793005 : Int64) ∈ kq_W := kq_of 1337 (by decide +kernel) rfl
theorem kq_1338 : Jvm.Cond.constantLong "GlossRowsModel" (303 : Nat) (1442695040888963407 : Int64) ∈ kq_W := kq_of 1338 (by decide +kernel) rfl
theorem kq_1339 : Jvm.Cond.methodLink "GlossRowsLaw" (214 : Nat) ({ cls := "GlossRowsModel", name := "save", desc := "(I)I" } : Jvm.MethodName) ∈ kq_W := kq_of 1339 (by decide +kernel) rfl
theorem kq_1340 : Jvm.Cond.instanceMethod ({ cls := "GlossRowsModel", name := "save", desc := "(I)I" } : Jvm.MethodName) ∈ kq_W := kq_of 1340 (by decide +kernel) rfl
theorem kq_1341 : Jvm.Cond.selects "GlossRowsModel" ({ cls := "GlossRowsModel", name := "save", desc := "(I)I" } : Jvm.MethodName) ({ cls := "GlossRowsModel", name := "save", desc := "(I)I" } : Jvm.MethodName) ∈ kq_W := kq_of 1341 (by decide +kernel) rfl
theorem kq_1342 : Jvm.Cond.code ({ cls := "GlossRowsModel", name := "save", desc := "(I)I" } : Jvm.MethodName) prog_11_method_85_code (2 : Nat) (Option.some Jvm.ClassFile.FieldType.int) ∈ kq_W := kq_of 1342 (by decide +kernel) rfl
theorem kq_1343 : Jvm.Cond.methodLink "GlossRowsLaw" (217 : Nat) ({ cls := "GlossRowsModel", name := "restore", desc := "(I)I" } : Jvm.MethodName) ∈ kq_W := kq_of 1343 (by decide +kernel) rfl
theorem kq_1344 : Jvm.Cond.instanceMethod ({ cls := "GlossRowsModel", name := "restore", desc := "(I)I" } : Jvm.MethodName) ∈ kq_W := kq_of 1344 (by decide +kernel) rfl
theorem kq_1345 : Jvm.Cond.selects "GlossRowsModel" ({ cls := "GlossRowsModel", name := "restore", desc := "(I)I" } : Jvm.MethodName) ({ cls := "GlossRowsModel", name := "restore", desc := "(I)I" } : Jvm.MethodName) ∈ kq_W := kq_of 1345 (by decide +kernel) rfl
theorem kq_1346 : Jvm.Cond.code ({ cls := "GlossRowsModel", name := "restore", desc := "(I)I" } : Jvm.MethodName) prog_11_method_86_code (2 : Nat) (Option.some Jvm.ClassFile.FieldType.int) ∈ kq_W := kq_of 1346 (by decide +kernel) rfl
theorem kq_1347 : Jvm.Cond.constantLong "GlossRowsLaw" (202 : Nat) (4294967295 : Int64) ∈ kq_W := kq_of 1347 (by decide +kernel) rfl
theorem kq_s0 : Cond.selects "GlossRows$Reader" ({ cls := "GlossRows$Reader", name := "openWord", desc := "()V" } : Jvm.MethodName) ({ cls := "GlossRows$Reader", name := "openWord", desc := "()V" } : Jvm.MethodName) ∈ kq_W := kq_sel 0 (by decide +kernel) rfl
theorem kq_s1 : Cond.selects "GlossRows$Reader" ({ cls := "GlossRows$Reader", name := "takes", desc := "(I)Z" } : Jvm.MethodName) ({ cls := "GlossRows$Reader", name := "takes", desc := "(I)Z" } : Jvm.MethodName) ∈ kq_W := kq_sel 1 (by decide +kernel) rfl
theorem kq_s2 : Cond.selects "GlossRows$Reader" ({ cls := "GlossRows$Reader", name := "takesBlank", desc := "()Z" } : Jvm.MethodName) ({ cls := "GlossRows$Reader", name := "takesBlank", desc := "()Z" } : Jvm.MethodName) ∈ kq_W := kq_sel 2 (by decide +kernel) rfl
theorem kq_s3 : Cond.selects "GlossRows$Reader" ({ cls := "GlossRows$Reader", name := "isWordWhole", desc := "()Z" } : Jvm.MethodName) ({ cls := "GlossRows$Reader", name := "isWordWhole", desc := "()Z" } : Jvm.MethodName) ∈ kq_W := kq_sel 3 (by decide +kernel) rfl
theorem kq_s4 : Cond.selects "GlossRows$Reader" ({ cls := "GlossRows$Reader", name := "hasPartLetters", desc := "()Z" } : Jvm.MethodName) ({ cls := "GlossRows$Reader", name := "hasPartLetters", desc := "()Z" } : Jvm.MethodName) ∈ kq_W := kq_sel 4 (by decide +kernel) rfl
theorem kq_s5 : Cond.selects "GlossRows$Reader" ({ cls := "GlossRows$Reader", name := "takesColon", desc := "()Z" } : Jvm.MethodName) ({ cls := "GlossRows$Reader", name := "takesColon", desc := "()Z" } : Jvm.MethodName) ∈ kq_W := kq_sel 5 (by decide +kernel) rfl
theorem kq_s6 : Cond.selects "GlossRows$Reader" ({ cls := "GlossRows$Reader", name := "takesMarkOfGlosses", desc := "(I)Z" } : Jvm.MethodName) ({ cls := "GlossRows$Reader", name := "takesMarkOfGlosses", desc := "(I)Z" } : Jvm.MethodName) ∈ kq_W := kq_sel 6 (by decide +kernel) rfl
theorem kq_s7 : Cond.selects "GlossRows$Reader" ({ cls := "GlossRows$Reader", name := "takesMarkOfParts", desc := "(I)Z" } : Jvm.MethodName) ({ cls := "GlossRows$Reader", name := "takesMarkOfParts", desc := "(I)Z" } : Jvm.MethodName) ∈ kq_W := kq_sel 7 (by decide +kernel) rfl
theorem kq_s8 : Cond.selects "GlossRows$Reader" ({ cls := "GlossRows$Reader", name := "takesGlossLetter", desc := "(I)Z" } : Jvm.MethodName) ({ cls := "GlossRows$Reader", name := "takesGlossLetter", desc := "(I)Z" } : Jvm.MethodName) ∈ kq_W := kq_sel 8 (by decide +kernel) rfl
theorem kq_s9 : Cond.selects "GlossRows$Reader" ({ cls := "GlossRows$Reader", name := "takesLetter", desc := "(I)Z" } : Jvm.MethodName) ({ cls := "GlossRows$Reader", name := "takesLetter", desc := "(I)Z" } : Jvm.MethodName) ∈ kq_W := kq_sel 9 (by decide +kernel) rfl
theorem kq_s10 : Cond.selects "GlossRows$Page" ({ cls := "GlossRows$Page", name := "countUses", desc := "(J)I" } : Jvm.MethodName) ({ cls := "GlossRows$Page", name := "countUses", desc := "(J)I" } : Jvm.MethodName) ∈ kq_W := kq_sel 10 (by decide +kernel) rfl
theorem kq_s11 : Cond.selects "GlossRows" ({ cls := "GlossRows", name := "arranged", desc := "(LGlossRows$Page;)LGlossRows$Layout;" } : Jvm.MethodName) ({ cls := "GlossRows", name := "arranged", desc := "(LGlossRows$Page;)LGlossRows$Layout;" } : Jvm.MethodName) ∈ kq_W := kq_sel 11 (by decide +kernel) rfl
theorem kq_s12 : Cond.selects "GlossRows$Word" ({ cls := "GlossRows$Word", name := "shownGloss", desc := "(I)J" } : Jvm.MethodName) ({ cls := "GlossRows$Word", name := "shownGloss", desc := "(I)J" } : Jvm.MethodName) ∈ kq_W := kq_sel 12 (by decide +kernel) rfl
theorem kq_s13 : Cond.selects "java/lang/Throwable" ({ cls := "java/lang/Throwable", name := "fillInStackTrace", desc := "(I)Ljava/lang/Throwable;" } : Jvm.MethodName) ({ cls := "java/lang/Throwable", name := "fillInStackTrace", desc := "(I)Ljava/lang/Throwable;" } : Jvm.MethodName) ∈ kq_W := kq_sel 13 (by decide +kernel) rfl
theorem kq_s14 : Cond.selects "GlossRows" ({ cls := "GlossRows", name := "requireWord", desc := "(I)V" } : Jvm.MethodName) ({ cls := "GlossRows", name := "requireWord", desc := "(I)V" } : Jvm.MethodName) ∈ kq_W := kq_sel 14 (by decide +kernel) rfl
theorem kq_s15 : Cond.selects "GlossRows" ({ cls := "GlossRows", name := "requirePart", desc := "(II)V" } : Jvm.MethodName) ({ cls := "GlossRows", name := "requirePart", desc := "(II)V" } : Jvm.MethodName) ∈ kq_W := kq_sel 15 (by decide +kernel) rfl
theorem kq_s16 : Cond.selects "GlossRows" ({ cls := "GlossRows", name := "requireNotNegative", desc := "(I)V" } : Jvm.MethodName) ({ cls := "GlossRows", name := "requireNotNegative", desc := "(I)V" } : Jvm.MethodName) ∈ kq_W := kq_sel 16 (by decide +kernel) rfl
theorem kq_s17 : Cond.selects "GlossRows" ({ cls := "GlossRows", name := "requireEntry", desc := "(I)V" } : Jvm.MethodName) ({ cls := "GlossRows", name := "requireEntry", desc := "(I)V" } : Jvm.MethodName) ∈ kq_W := kq_sel 17 (by decide +kernel) rfl
theorem kq_s18 : Cond.selects "GlossRows" ({ cls := "GlossRows", name := "requireRow", desc := "(I)V" } : Jvm.MethodName) ({ cls := "GlossRows", name := "requireRow", desc := "(I)V" } : Jvm.MethodName) ∈ kq_W := kq_sel 18 (by decide +kernel) rfl
theorem kq_s19 : Cond.selects "GlossRows$Layout" ({ cls := "GlossRows$Layout", name := "lastWordOfRow", desc := "(LGlossRows$Page;I)I" } : Jvm.MethodName) ({ cls := "GlossRows$Layout", name := "lastWordOfRow", desc := "(LGlossRows$Page;I)I" } : Jvm.MethodName) ∈ kq_W := kq_sel 19 (by decide +kernel) rfl
theorem kq_s20 : Cond.selects "GlossRows$Layout" ({ cls := "GlossRows$Layout", name := "beginInFree", desc := "(LGlossRows$Page;I)I" } : Jvm.MethodName) ({ cls := "GlossRows$Layout", name := "beginInFree", desc := "(LGlossRows$Page;I)I" } : Jvm.MethodName) ∈ kq_W := kq_sel 20 (by decide +kernel) rfl
theorem kq_s21 : Cond.selects "GlossRows$Lexicon" ({ cls := "GlossRows$Lexicon", name := "makePlaceFor", desc := "(J)I" } : Jvm.MethodName) ({ cls := "GlossRows$Lexicon", name := "makePlaceFor", desc := "(J)I" } : Jvm.MethodName) ∈ kq_W := kq_sel 21 (by decide +kernel) rfl
theorem kq_s22 : Cond.selects "GlossRows" ({ cls := "GlossRows", name := "succeeds", desc := "(I)Z" } : Jvm.MethodName) ({ cls := "GlossRows", name := "succeeds", desc := "(I)Z" } : Jvm.MethodName) ∈ kq_W := kq_sel 22 (by decide +kernel) rfl
theorem kq_s23 : Cond.selects "GlossRows" ({ cls := "GlossRows", name := "learnsOnTrial", desc := "(II)Z" } : Jvm.MethodName) ({ cls := "GlossRows", name := "learnsOnTrial", desc := "(II)Z" } : Jvm.MethodName) ∈ kq_W := kq_sel 23 (by decide +kernel) rfl
theorem kq_s24 : Cond.selects "GlossRows" ({ cls := "GlossRows", name := "setsOnTrial", desc := "(II)Z" } : Jvm.MethodName) ({ cls := "GlossRows", name := "setsOnTrial", desc := "(II)Z" } : Jvm.MethodName) ∈ kq_W := kq_sel 24 (by decide +kernel) rfl
theorem kq_s25 : Cond.selects "GlossRows" ({ cls := "GlossRows", name := "changesWordOfTrial", desc := "(II)Z" } : Jvm.MethodName) ({ cls := "GlossRows", name := "changesWordOfTrial", desc := "(II)Z" } : Jvm.MethodName) ∈ kq_W := kq_sel 25 (by decide +kernel) rfl
theorem kq_s26 : Cond.selects "GlossRows" ({ cls := "GlossRows", name := "fillsTrial", desc := "()Z" } : Jvm.MethodName) ({ cls := "GlossRows", name := "fillsTrial", desc := "()Z" } : Jvm.MethodName) ∈ kq_W := kq_sel 26 (by decide +kernel) rfl
theorem kq_s27 : Cond.selects "GlossRows" ({ cls := "GlossRows", name := "playRound", desc := "(I)V" } : Jvm.MethodName) ({ cls := "GlossRows", name := "playRound", desc := "(I)V" } : Jvm.MethodName) ∈ kq_W := kq_sel 27 (by decide +kernel) rfl
theorem kq_s28 : Cond.selects "GlossRows" ({ cls := "GlossRows", name := "requireSlot", desc := "(I)V" } : Jvm.MethodName) ({ cls := "GlossRows", name := "requireSlot", desc := "(I)V" } : Jvm.MethodName) ∈ kq_W := kq_sel 28 (by decide +kernel) rfl
theorem kq_s29 : Cond.selects "GlossRowsModel" ({ cls := "GlossRowsModel", name := "refused", desc := "(I)Z" } : Jvm.MethodName) ({ cls := "GlossRowsModel", name := "refused", desc := "(I)Z" } : Jvm.MethodName) ∈ kq_W := kq_sel 29 (by decide +kernel) rfl
theorem kq_s30 : Cond.selects "GlossRowsModel" ({ cls := "GlossRowsModel", name := "readText", desc := "()I" } : Jvm.MethodName) ({ cls := "GlossRowsModel", name := "readText", desc := "()I" } : Jvm.MethodName) ∈ kq_W := kq_sel 30 (by decide +kernel) rfl
theorem kq_s31 : Cond.selects "GlossRowsModel" ({ cls := "GlossRowsModel", name := "begin", desc := "()V" } : Jvm.MethodName) ({ cls := "GlossRowsModel", name := "begin", desc := "()V" } : Jvm.MethodName) ∈ kq_W := kq_sel 31 (by decide +kernel) rfl
theorem kq_s32 : Cond.selects "GlossRowsModel" ({ cls := "GlossRowsModel", name := "insertOn", desc := "([JI)V" } : Jvm.MethodName) ({ cls := "GlossRowsModel", name := "insertOn", desc := "([JI)V" } : Jvm.MethodName) ∈ kq_W := kq_sel 32 (by decide +kernel) rfl
theorem kq_s33 : Cond.selects "GlossRowsModel" ({ cls := "GlossRowsModel", name := "layNow", desc := "()V" } : Jvm.MethodName) ({ cls := "GlossRowsModel", name := "layNow", desc := "()V" } : Jvm.MethodName) ∈ kq_W := kq_sel 33 (by decide +kernel) rfl
theorem kq_s34 : Cond.selects "GlossRowsModel" ({ cls := "GlossRowsModel", name := "layOut", desc := "([JII)V" } : Jvm.MethodName) ({ cls := "GlossRowsModel", name := "layOut", desc := "([JII)V" } : Jvm.MethodName) ∈ kq_W := kq_sel 34 (by decide +kernel) rfl
theorem kq_s35 : Cond.selects "GlossRowsModel" ({ cls := "GlossRowsModel", name := "addRow", desc := "(III)V" } : Jvm.MethodName) ({ cls := "GlossRowsModel", name := "addRow", desc := "(III)V" } : Jvm.MethodName) ∈ kq_W := kq_sel 35 (by decide +kernel) rfl
theorem kq_s36 : Cond.selects "GlossRowsModel" ({ cls := "GlossRowsModel", name := "isWord", desc := "(I)Z" } : Jvm.MethodName) ({ cls := "GlossRowsModel", name := "isWord", desc := "(I)Z" } : Jvm.MethodName) ∈ kq_W := kq_sel 36 (by decide +kernel) rfl
theorem kq_s37 : Cond.selects "GlossRowsModel" ({ cls := "GlossRowsModel", name := "isPart", desc := "(II)Z" } : Jvm.MethodName) ({ cls := "GlossRowsModel", name := "isPart", desc := "(II)Z" } : Jvm.MethodName) ∈ kq_W := kq_sel 37 (by decide +kernel) rfl
theorem kq_s38 : Cond.selects "GlossRowsModel" ({ cls := "GlossRowsModel", name := "isEntry", desc := "(I)Z" } : Jvm.MethodName) ({ cls := "GlossRowsModel", name := "isEntry", desc := "(I)Z" } : Jvm.MethodName) ∈ kq_W := kq_sel 38 (by decide +kernel) rfl
theorem kq_s39 : Cond.selects "GlossRowsModel" ({ cls := "GlossRowsModel", name := "isRow", desc := "(I)Z" } : Jvm.MethodName) ({ cls := "GlossRowsModel", name := "isRow", desc := "(I)Z" } : Jvm.MethodName) ∈ kq_W := kq_sel 39 (by decide +kernel) rfl
theorem kq_s40 : Cond.selects "GlossRowsModel" ({ cls := "GlossRowsModel", name := "lengthOfRow", desc := "(I)I" } : Jvm.MethodName) ({ cls := "GlossRowsModel", name := "lengthOfRow", desc := "(I)I" } : Jvm.MethodName) ∈ kq_W := kq_sel 40 (by decide +kernel) rfl
theorem kq_s41 : Cond.selects "GlossRowsModel" ({ cls := "GlossRowsModel", name := "sentenceOfRow", desc := "(I)I" } : Jvm.MethodName) ({ cls := "GlossRowsModel", name := "sentenceOfRow", desc := "(I)I" } : Jvm.MethodName) ∈ kq_W := kq_sel 41 (by decide +kernel) rfl
theorem kq_s42 : Cond.selects "GlossRowsModel" ({ cls := "GlossRowsModel", name := "note", desc := "()V" } : Jvm.MethodName) ({ cls := "GlossRowsModel", name := "note", desc := "()V" } : Jvm.MethodName) ∈ kq_W := kq_sel 42 (by decide +kernel) rfl
theorem kq_s43 : Cond.selects "GlossRowsModel" ({ cls := "GlossRowsModel", name := "sentencesOf", desc := "([J)I" } : Jvm.MethodName) ({ cls := "GlossRowsModel", name := "sentencesOf", desc := "([J)I" } : Jvm.MethodName) ∈ kq_W := kq_sel 43 (by decide +kernel) rfl
theorem kq_s44 : Cond.selects "GlossRowsModel" ({ cls := "GlossRowsModel", name := "isFree", desc := "()Z" } : Jvm.MethodName) ({ cls := "GlossRowsModel", name := "isFree", desc := "()Z" } : Jvm.MethodName) ∈ kq_W := kq_sel 44 (by decide +kernel) rfl
theorem kq_s45 : Cond.selects "GlossRowsModel" ({ cls := "GlossRowsModel", name := "isGloss", desc := "()Z" } : Jvm.MethodName) ({ cls := "GlossRowsModel", name := "isGloss", desc := "()Z" } : Jvm.MethodName) ∈ kq_W := kq_sel 45 (by decide +kernel) rfl
theorem kq_s46 : Cond.selects "GlossRowsModel" ({ cls := "GlossRowsModel", name := "uses", desc := "(J)I" } : Jvm.MethodName) ({ cls := "GlossRowsModel", name := "uses", desc := "(J)I" } : Jvm.MethodName) ∈ kq_W := kq_sel 46 (by decide +kernel) rfl
theorem kq_s47 : Cond.selects "GlossRowsModel" ({ cls := "GlossRowsModel", name := "tryOut", desc := "()V" } : Jvm.MethodName) ({ cls := "GlossRowsModel", name := "tryOut", desc := "()V" } : Jvm.MethodName) ∈ kq_W := kq_sel 47 (by decide +kernel) rfl
theorem kq_s48 : Cond.selects "GlossRowsModel" ({ cls := "GlossRowsModel", name := "command", desc := "(I)Z" } : Jvm.MethodName) ({ cls := "GlossRowsModel", name := "command", desc := "(I)Z" } : Jvm.MethodName) ∈ kq_W := kq_sel 48 (by decide +kernel) rfl
theorem kq_s49 : Cond.selects "GlossRowsModel" ({ cls := "GlossRowsModel", name := "rowsOf", desc := "([J)I" } : Jvm.MethodName) ({ cls := "GlossRowsModel", name := "rowsOf", desc := "([J)I" } : Jvm.MethodName) ∈ kq_W := kq_sel 49 (by decide +kernel) rfl
theorem kq_inX0 : ∀ w ∈ u_ws RX0 TX0 3, w ∈ kq_W := by
  intro w hw
  obtain ⟨k, hk, rfl⟩ := List.mem_map.mp hw
  have hk := List.mem_range.mp hk
  rcases Nat.lt_or_ge k 1 with h0 | h0
  · obtain rfl : k = 0 := by omega
    exact kq_225
  rcases Nat.lt_or_ge k 2 with h1 | h1
  · obtain rfl : k = 1 := by omega
    exact kq_227
  rcases Nat.lt_or_ge k 3 with h2 | h2
  · obtain rfl : k = 2 := by omega
    exact kq_229
  omega
theorem kq_inX1 : ∀ w ∈ u_ws RX1 TX1 7, w ∈ kq_W := by
  intro w hw
  obtain ⟨k, hk, rfl⟩ := List.mem_map.mp hw
  have hk := List.mem_range.mp hk
  rcases Nat.lt_or_ge k 1 with h0 | h0
  · obtain rfl : k = 0 := by omega
    exact kq_197
  rcases Nat.lt_or_ge k 2 with h1 | h1
  · obtain rfl : k = 1 := by omega
    exact kq_199
  rcases Nat.lt_or_ge k 3 with h2 | h2
  · obtain rfl : k = 2 := by omega
    exact kq_201
  rcases Nat.lt_or_ge k 4 with h3 | h3
  · obtain rfl : k = 3 := by omega
    exact kq_203
  rcases Nat.lt_or_ge k 5 with h4 | h4
  · obtain rfl : k = 4 := by omega
    exact kq_205
  rcases Nat.lt_or_ge k 6 with h5 | h5
  · obtain rfl : k = 5 := by omega
    exact kq_207
  rcases Nat.lt_or_ge k 7 with h6 | h6
  · obtain rfl : k = 6 := by omega
    exact kq_209
  omega
theorem kq_inX3 : ∀ w ∈ u_ws RX3 TX3 3, w ∈ kq_W := by
  intro w hw
  obtain ⟨k, hk, rfl⟩ := List.mem_map.mp hw
  have hk := List.mem_range.mp hk
  rcases Nat.lt_or_ge k 1 with h0 | h0
  · obtain rfl : k = 0 := by omega
    exact kq_137
  rcases Nat.lt_or_ge k 2 with h1 | h1
  · obtain rfl : k = 1 := by omega
    exact kq_139
  rcases Nat.lt_or_ge k 3 with h2 | h2
  · obtain rfl : k = 2 := by omega
    exact kq_141
  omega
theorem kq_inX4 : ∀ w ∈ u_ws RX4 TX4 6, w ∈ kq_W := by
  intro w hw
  obtain ⟨k, hk, rfl⟩ := List.mem_map.mp hw
  have hk := List.mem_range.mp hk
  rcases Nat.lt_or_ge k 1 with h0 | h0
  · obtain rfl : k = 0 := by omega
    exact kq_166
  rcases Nat.lt_or_ge k 2 with h1 | h1
  · obtain rfl : k = 1 := by omega
    exact kq_168
  rcases Nat.lt_or_ge k 3 with h2 | h2
  · obtain rfl : k = 2 := by omega
    exact kq_170
  rcases Nat.lt_or_ge k 4 with h3 | h3
  · obtain rfl : k = 3 := by omega
    exact kq_172
  rcases Nat.lt_or_ge k 5 with h4 | h4
  · obtain rfl : k = 4 := by omega
    exact kq_174
  rcases Nat.lt_or_ge k 6 with h5 | h5
  · obtain rfl : k = 5 := by omega
    exact kq_176
  omega
theorem kq_inX5 : ∀ w ∈ u_ws RX5 TX5 5, w ∈ kq_W := by
  intro w hw
  obtain ⟨k, hk, rfl⟩ := List.mem_map.mp hw
  have hk := List.mem_range.mp hk
  rcases Nat.lt_or_ge k 1 with h0 | h0
  · obtain rfl : k = 0 := by omega
    exact kq_105
  rcases Nat.lt_or_ge k 2 with h1 | h1
  · obtain rfl : k = 1 := by omega
    exact kq_107
  rcases Nat.lt_or_ge k 3 with h2 | h2
  · obtain rfl : k = 2 := by omega
    exact kq_109
  rcases Nat.lt_or_ge k 4 with h3 | h3
  · obtain rfl : k = 3 := by omega
    exact kq_111
  rcases Nat.lt_or_ge k 5 with h4 | h4
  · obtain rfl : k = 4 := by omega
    exact kq_113
  omega
theorem kq_inX6 : ∀ w ∈ u_ws RX6 TX6 2, w ∈ kq_W := by
  intro w hw
  obtain ⟨k, hk, rfl⟩ := List.mem_map.mp hw
  have hk := List.mem_range.mp hk
  rcases Nat.lt_or_ge k 1 with h0 | h0
  · obtain rfl : k = 0 := by omega
    exact kq_39
  rcases Nat.lt_or_ge k 2 with h1 | h1
  · obtain rfl : k = 1 := by omega
    exact kq_41
  omega
theorem kq_inX7 : ∀ w ∈ u_ws RX7 TX7 7, w ∈ kq_W := by
  intro w hw
  obtain ⟨k, hk, rfl⟩ := List.mem_map.mp hw
  have hk := List.mem_range.mp hk
  rcases Nat.lt_or_ge k 1 with h0 | h0
  · obtain rfl : k = 0 := by omega
    exact kq_81
  rcases Nat.lt_or_ge k 2 with h1 | h1
  · obtain rfl : k = 1 := by omega
    exact kq_83
  rcases Nat.lt_or_ge k 3 with h2 | h2
  · obtain rfl : k = 2 := by omega
    exact kq_85
  rcases Nat.lt_or_ge k 4 with h3 | h3
  · obtain rfl : k = 3 := by omega
    exact kq_87
  rcases Nat.lt_or_ge k 5 with h4 | h4
  · obtain rfl : k = 4 := by omega
    exact kq_89
  rcases Nat.lt_or_ge k 6 with h5 | h5
  · obtain rfl : k = 5 := by omega
    exact kq_91
  rcases Nat.lt_or_ge k 7 with h6 | h6
  · obtain rfl : k = 6 := by omega
    exact kq_93
  omega
theorem kq_inX8 : ∀ w ∈ u_ws RX8 TX8 8, w ∈ kq_W := by
  intro w hw
  obtain ⟨k, hk, rfl⟩ := List.mem_map.mp hw
  have hk := List.mem_range.mp hk
  rcases Nat.lt_or_ge k 1 with h0 | h0
  · obtain rfl : k = 0 := by omega
    exact kq_240
  rcases Nat.lt_or_ge k 2 with h1 | h1
  · obtain rfl : k = 1 := by omega
    exact kq_242
  rcases Nat.lt_or_ge k 3 with h2 | h2
  · obtain rfl : k = 2 := by omega
    exact kq_244
  rcases Nat.lt_or_ge k 4 with h3 | h3
  · obtain rfl : k = 3 := by omega
    exact kq_246
  rcases Nat.lt_or_ge k 5 with h4 | h4
  · obtain rfl : k = 4 := by omega
    exact kq_248
  rcases Nat.lt_or_ge k 6 with h5 | h5
  · obtain rfl : k = 5 := by omega
    exact kq_250
  rcases Nat.lt_or_ge k 7 with h6 | h6
  · obtain rfl : k = 6 := by omega
    exact kq_252
  rcases Nat.lt_or_ge k 8 with h7 | h7
  · obtain rfl : k = 7 := by omega
    exact kq_254
  omega
theorem kq_inX9 : ∀ w ∈ u_ws RX9 TX9 22, w ∈ kq_W := by
  intro w hw
  obtain ⟨k, hk, rfl⟩ := List.mem_map.mp hw
  have hk := List.mem_range.mp hk
  rcases Nat.lt_or_ge k 1 with h0 | h0
  · obtain rfl : k = 0 := by omega
    exact kq_977
  rcases Nat.lt_or_ge k 2 with h1 | h1
  · obtain rfl : k = 1 := by omega
    exact kq_979
  rcases Nat.lt_or_ge k 3 with h2 | h2
  · obtain rfl : k = 2 := by omega
    exact kq_981
  rcases Nat.lt_or_ge k 4 with h3 | h3
  · obtain rfl : k = 3 := by omega
    exact kq_983
  rcases Nat.lt_or_ge k 5 with h4 | h4
  · obtain rfl : k = 4 := by omega
    exact kq_985
  rcases Nat.lt_or_ge k 6 with h5 | h5
  · obtain rfl : k = 5 := by omega
    exact kq_987
  rcases Nat.lt_or_ge k 7 with h6 | h6
  · obtain rfl : k = 6 := by omega
    exact kq_989
  rcases Nat.lt_or_ge k 8 with h7 | h7
  · obtain rfl : k = 7 := by omega
    exact kq_991
  rcases Nat.lt_or_ge k 9 with h8 | h8
  · obtain rfl : k = 8 := by omega
    exact kq_993
  rcases Nat.lt_or_ge k 10 with h9 | h9
  · obtain rfl : k = 9 := by omega
    exact kq_995
  rcases Nat.lt_or_ge k 11 with h10 | h10
  · obtain rfl : k = 10 := by omega
    exact kq_997
  rcases Nat.lt_or_ge k 12 with h11 | h11
  · obtain rfl : k = 11 := by omega
    exact kq_999
  rcases Nat.lt_or_ge k 13 with h12 | h12
  · obtain rfl : k = 12 := by omega
    exact kq_1001
  rcases Nat.lt_or_ge k 14 with h13 | h13
  · obtain rfl : k = 13 := by omega
    exact kq_1003
  rcases Nat.lt_or_ge k 15 with h14 | h14
  · obtain rfl : k = 14 := by omega
    exact kq_1005
  rcases Nat.lt_or_ge k 16 with h15 | h15
  · obtain rfl : k = 15 := by omega
    exact kq_1007
  rcases Nat.lt_or_ge k 17 with h16 | h16
  · obtain rfl : k = 16 := by omega
    exact kq_1009
  rcases Nat.lt_or_ge k 18 with h17 | h17
  · obtain rfl : k = 17 := by omega
    exact kq_1011
  rcases Nat.lt_or_ge k 19 with h18 | h18
  · obtain rfl : k = 18 := by omega
    exact kq_1013
  rcases Nat.lt_or_ge k 20 with h19 | h19
  · obtain rfl : k = 19 := by omega
    exact kq_1015
  rcases Nat.lt_or_ge k 21 with h20 | h20
  · obtain rfl : k = 20 := by omega
    exact kq_1017
  rcases Nat.lt_or_ge k 22 with h21 | h21
  · obtain rfl : k = 21 := by omega
    exact kq_1019
  omega
end
section
/-! ===== keys, the store, the world ===== -/
abbrev ka_K : Type := Nat × Nat × Nat
abbrev ka_S : Type := (ka_K → Nat → Int32) × (ka_K → Nat → Int64)
/-- the classes' numbers and fields, the arrays' classes, the addresses, the first address -/
abbrev ka_G : Type := (va_G × (Nat → ClassId)) × ((ka_K → Nat) × Nat)
abbrev ka_D (G : ka_G) : va_G := G.1.1
abbrev ka_r (G : ka_G) : Nat → ClassId := G.1.2
abbrev ka_a (G : ka_G) : ka_K → Nat := G.2.1
abbrev ka_A (G : ka_G) : Nat → Prop := fun q => G.2.2 ≤ q
abbrev ka_tys (G : ka_G) : List (ClassId × FieldType) := [(ka_r G 0, .int), (ka_r G 1, .long), (ka_r G 2, .boolean), (ka_r G 3, .object "GlossRows$Word"), (ka_r G 4, .object "GlossRows$Page")]
def ka_v (k : ka_K) : Prop := (k.1 ≤ 4 ∧ k.2.1 < 18 ∧ k.2.2 = 0) ∨ (5 ≤ k.1 ∧ k.1 ≤ 9 ∧ k.2.1 < 19 ∧ k.2.2 < 12) ∨ (10 ≤ k.1 ∧ k.1 ≤ 41 ∧ k.2.1 = 0 ∧ k.2.2 = 0)
theorem kv_p {a o : Nat} (ha : a ≤ 4) (ho : o < 18) : ka_v (a, o, 0) := Or.inl ⟨ha, ho, rfl⟩
theorem kv_w {a o i : Nat} (h1 : 5 ≤ a) (h2 : a ≤ 9) (ho : o < 19) (hi : i < 12) : ka_v (a, o, i) := Or.inr (Or.inl ⟨h1, h2, ho, hi⟩)
theorem kv_s {a : Nat} (h1 : 10 ≤ a) (h2 : a ≤ 41) : ka_v (a, 0, 0) := Or.inr (Or.inr ⟨h1, h2, rfl, rfl⟩)
def ka_c (G : ka_G) (σ : ka_S) (k : ka_K) : va_E := match k.1 with
  | 0 => .inr (3, [.ref (ka_a G (1, k.2.1, 0)), .ref (ka_a G (2, k.2.1, 0)), .int (σ.1 k 2), .int (σ.1 k 3), .int (σ.1 k 4), .int (σ.1 k 5)])
  | 1 => .inl (ka_r G 3, 12, .inr (.inr (.inr (.inr (fun j => some (ka_a G (5, k.2.1, j)))))))
  | 2 => .inr (2, [.ref (ka_a G (3, k.2.1, 0)), .ref (ka_a G (4, k.2.1, 0)), .int (σ.1 k 2)])
  | 3 => .inl (ka_r G 1, 16, .inr (.inl (σ.2 k)))
  | 4 => .inl (ka_r G 1, 16, .inr (.inl (σ.2 k)))
  | 5 => .inr (6, [.ref (ka_a G (6, k.2.1, k.2.2)), .ref (ka_a G (7, k.2.1, k.2.2)), .ref (ka_a G (8, k.2.1, k.2.2)), .ref (ka_a G (9, k.2.1, k.2.2)), .int (σ.1 k 4), .int (σ.1 k 5), .int (σ.1 k 6)])
  | 6 => .inl (ka_r G 1, 4, .inr (.inl (σ.2 k)))
  | 7 => .inl (ka_r G 1, 4, .inr (.inl (σ.2 k)))
  | 8 => .inl (ka_r G 0, 4, .inl (σ.1 k))
  | 9 => .inl (ka_r G 0, 24, .inl (σ.1 k))
  | 10 => .inr (5, [.ref (ka_a G (11, 0, 0)), .int (σ.1 k 1)])
  | 11 => .inl (ka_r G 0, 60, .inl (σ.1 k))
  | 12 => .inr (1, [.ref (ka_a G (13, 0, 0)), .ref (ka_a G (14, 0, 0)), .ref (ka_a G (15, 0, 0)), .int (σ.1 k 3), .int (σ.1 k 4), .ref (ka_a G (16, 0, 0)), .ref (ka_a G (17, 0, 0))])
  | 13 => .inl (ka_r G 0, 12, .inl (σ.1 k))
  | 14 => .inl (ka_r G 0, 12, .inl (σ.1 k))
  | 15 => .inl (ka_r G 0, 12, .inl (σ.1 k))
  | 16 => .inl (ka_r G 0, 12, .inl (σ.1 k))
  | 17 => .inl (ka_r G 0, 12, .inl (σ.1 k))
  | 18 => .inr (4, [.ref (ka_a G (19, 0, 0)), .int (σ.1 k 1), .ref (ka_a G (5, 18, (σ.1 k 2).toNatClampNeg)), .int (σ.1 k 3), .int (σ.1 k 4)])
  | 19 => .inl (ka_r G 3, 12, .inr (.inr (.inr (.inr (fun j => some (ka_a G (5, 18, j)))))))
  | 20 => .inr (0, [.ref (ka_a G (21, 0, 0)), .int (σ.1 k 1), .int (σ.1 k 2)])
  | 21 => .inl (ka_r G 4, 14, .inr (.inr (.inr (.inr (fun j => some (ka_a G (0, j + 4, 0)))))))
  | 22 => .inr (7, [.ref (ka_a G (10, 0, 0)), .ref (ka_a G (18, 0, 0)), .ref (ka_a G (0, 0, 0)), .ref (ka_a G (0, 1, 0)), .ref (ka_a G (12, 0, 0)), .ref (ka_a G (20, 0, 0)), .ref (ka_a G (23, 0, 0)), .ref (ka_a G (24, 0, 0))])
  | 23 => .inl (ka_r G 4, 2, .inr (.inr (.inr (.inr (fun j => some (ka_a G (0, j + 2, 0)))))))
  | 24 => .inl (ka_r G 2, 2, .inl (σ.1 k))
  | 25 => .inr (8, [.int (σ.1 k 0), .ref (ka_a G (26, 0, 0)), .int (σ.1 k 2), .int (σ.1 k 3), .ref (ka_a G (36, 0, 0)), .ref (ka_a G (37, 0, 0)), .ref (ka_a G (38, 0, 0)), .ref (ka_a G (39, 0, 0)), .int (σ.1 k 8), .ref (ka_a G (40, 0, 0)), .ref (ka_a G (35, 0, 0)), .int (σ.1 k 11), .int (σ.1 k 12), .int (σ.1 k 13), .ref (ka_a G (27, 0, 0)), .ref (ka_a G (28, 0, 0)), .ref (ka_a G (29, 0, 0)), .ref (ka_a G (30, 0, 0)), .ref (ka_a G (31, 0, 0)), .ref (ka_a G (32, 0, 0)), .ref (ka_a G (33, 0, 0)), .ref (ka_a G (34, 0, 0))])
  | 26 => .inl (ka_r G 0, 60, .inl (σ.1 k))
  | 27 => .inl (ka_r G 0, 12, .inl (σ.1 k))
  | 28 => .inl (ka_r G 0, 12, .inl (σ.1 k))
  | 29 => .inl (ka_r G 0, 12, .inl (σ.1 k))
  | 30 => .inl (ka_r G 0, 12, .inl (σ.1 k))
  | 31 => .inl (ka_r G 0, 12, .inl (σ.1 k))
  | 32 => .inl (ka_r G 0, 72, .inl (σ.1 k))
  | 33 => .inl (ka_r G 0, 72, .inl (σ.1 k))
  | 34 => .inl (ka_r G 0, 72, .inl (σ.1 k))
  | 35 => .inl (ka_r G 2, 2, .inl (σ.1 k))
  | 36 => .inl (ka_r G 1, 216, .inr (.inl (σ.2 k)))
  | 37 => .inl (ka_r G 1, 253, .inr (.inl (σ.2 k)))
  | 38 => .inl (ka_r G 1, 253, .inr (.inl (σ.2 k)))
  | 39 => .inl (ka_r G 1, 3542, .inr (.inl (σ.2 k)))
  | 40 => .inl (ka_r G 1, 506, .inr (.inl (σ.2 k)))
  | _ => .inl (ka_r G 1, 1, .inr (.inl (σ.2 k)))
def ka_wI (σ : ka_S) (k : ka_K) (j : Nat) (x : Int32) : ka_S := (fun k' => if k' = k then upd (σ.1 k) j x else σ.1 k', σ.2)
def ka_wL (σ : ka_S) (k : ka_K) (j : Nat) (x : Int64) : ka_S := (σ.1, fun k' => if k' = k then vp_updL (σ.2 k) j x else σ.2 k')
theorem ka_wI_ne {σ : ka_S} {k k' : ka_K} {j : Nat} {x : Int32} (h : k' ≠ k) : (ka_wI σ k j x).1 k' = σ.1 k' := if_neg h
theorem ka_wI_eq {σ : ka_S} {k : ka_K} {j : Nat} {x : Int32} : (ka_wI σ k j x).1 k = upd (σ.1 k) j x := if_pos rfl
theorem ka_wI_2 {σ : ka_S} {k : ka_K} {j : Nat} {x : Int32} : (ka_wI σ k j x).2 = σ.2 := rfl
theorem ka_wL_ne {σ : ka_S} {k k' : ka_K} {j : Nat} {x : Int64} (h : k' ≠ k) : (ka_wL σ k j x).2 k' = σ.2 k' := if_neg h
theorem ka_wL_eq {σ : ka_S} {k : ka_K} {j : Nat} {x : Int64} : (ka_wL σ k j x).2 k = vp_updL (σ.2 k) j x := if_pos rfl
theorem ka_wL_1 {σ : ka_S} {k : ka_K} {j : Nat} {x : Int64} : (ka_wL σ k j x).1 = σ.1 := rfl
theorem ka_c_I {G : ka_G} {σ : ka_S} {k k' : ka_K} {j : Nat} {x : Int32} (h : k' ≠ k) : ka_c G (ka_wI σ k j x) k' = ka_c G σ k' := by
  unfold ka_c
  rw [ka_wI_ne h, ka_wI_2]
theorem ka_c_L {G : ka_G} {σ : ka_S} {k k' : ka_K} {j : Nat} {x : Int64} (h : k' ≠ k) : ka_c G (ka_wL σ k j x) k' = ka_c G σ k' := by
  unfold ka_c
  rw [ka_wL_ne h, ka_wL_1]
def ka_P (G : ka_G) (σ : ka_S) (H : Heap) : Prop := ∀ k : ka_K, ka_v k → va_at (ka_D G) vwCl (ka_a G k, ka_c G σ k) H
def ka_I (G : ka_G) : Prop := (∀ k k' : ka_K, ka_v k → ka_v k' → ka_a G k = ka_a G k' → k = k') ∧ ∀ k : ka_K, ka_v k → G.2.2 ≤ ka_a G k
abbrev ka_Kn (G : ka_G) (s : State) : Prop := va_K (ka_D G) vwCl (ka_tys G) s
def ka_B (G : ka_G) (σ : ka_S) (t : State) : Prop := ka_P G σ t.heap ∧ ka_Kn G t
theorem va_P1 {D : va_G} {cl : List vw_C} {q : Nat × va_E} {H : Heap} (h : va_at D cl q H) : va_P D cl [q] H := by
  intro k q' hq
  match k, hq with
  | 0, hq => cases hq; exact h
  | k + 1, hq => simp at hq
theorem ka_P.one {G : ka_G} {σ : ka_S} {H : Heap} (h : ka_P G σ H) {k : ka_K} (hv : ka_v k) : va_P (ka_D G) vwCl [(ka_a G k, ka_c G σ k)] H := va_P1 (h k hv)
/-- a cell is written: the world behind it -/
theorem ka_P.upd {G : ka_G} {σ σ1 : ka_S} {H H1 : Heap} (hI : ka_I G) (h : ka_P G σ H) {k : ka_K} (hv : ka_v k) (h2 : ∀ k', k' ≠ k → ka_c G σ1 k' = ka_c G σ k') (e : va_at (ka_D G) vwCl (ka_a G k, ka_c G σ1 k) H1) (oq : ∀ q : Nat, q ≠ ka_a G k → H1[q]? = H[q]?) : ka_P G σ1 H1 := by
  intro k' hv'
  by_cases hk : k' = k
  · subst hk; exact e
  · rw [h2 k' hk]
    exact (h k' hv').kept (oq _ (fun he => hk (hI.1 _ _ hv' hv he)))
theorem ka_P.base {G : ka_G} {σ : ka_S} {H : Heap} (hI : ka_I G) (h : ka_P G σ H) : G.2.2 ≤ H.size := Nat.le_trans (hI.2 (22, 0, 0) (kv_s (by decide) (by decide))) (Nat.le_of_lt (h (22, 0, 0) (kv_s (by decide) (by decide))).lt)
/-- what a body stands on -/
def ka_C (p : Program) (s : State) (m : MethodId) (args : Array Value) (meth : Method) (c : Code) (cc : ByteArray) (nL : Nat) (own : String) (ret : Option FieldType) : Prop :=
  p.tables.exec = Jvm.exec ∧ c.code = cc ∧ meth.sig.returnType = ret ∧ c.maxLocals = nL ∧ s.vm.findClass own = some m.cls ∧ (∀ w ∈ kq_W, w.before args s = true) ∧ meth.locks = false
abbrev kw_ (y : MethodName) (cc : ByteArray) (nL : Nat) (ret : Option FieldType) : List Cond := .code y cc nL ret :: kq_W
abbrev kc_i (l : Launch) (y : MethodName) (ws : List Cond) (rm : Room) (G : ka_G) (av : List Value) (σ : ka_S) (Q : Int32 → ka_S → Prop) : Prop := Met l y ws rm (va_Pc av (ka_B G σ)) (va_Qi Q (ka_B G) (ka_A G)) 0 0 (ka_A G)
abbrev kc_l (l : Launch) (y : MethodName) (ws : List Cond) (rm : Room) (G : ka_G) (av : List Value) (σ : ka_S) (Q : Int64 → ka_S → Prop) : Prop := Met l y ws rm (va_Pc av (ka_B G σ)) (va_Ql Q (ka_B G) (ka_A G)) 0 0 (ka_A G)
abbrev kc_v (l : Launch) (y : MethodName) (ws : List Cond) (rm : Room) (G : ka_G) (av : List Value) (σ : ka_S) (Q : ka_S → Prop) : Prop := Met l y ws rm (va_Pc av (ka_B G σ)) (va_Qv Q (ka_B G) (ka_A G)) 0 0 (ka_A G)
abbrev kc_r (l : Launch) (y : MethodName) (ws : List Cond) (rm : Room) (G : ka_G) (av : List Value) (σ : ka_S) (kr : ka_K) (Q : ka_S → Prop) : Prop := Met l y ws rm (va_Pc av (ka_B G σ)) (va_Qr Q (fun u a t => a = ka_a G kr ∧ ka_B G u t) (ka_A G)) 0 0 (ka_A G)
theorem ka_blind {av : List Value} {G : ka_G} {σ : ka_S} : FrameBlind (va_Pc av (ka_B G σ)) := fun a U g mk q => ⟨q.1, q.2.1, va_K.moved (u := U) (U := U.calling g mk a) (Vm.Alike.refl U.vm) q.2.2⟩
/-- from a body to the contract: the plumbing, once -/
theorem ka_of {l : Launch} {y : MethodName} {cc : ByteArray} {nL : Nat} {ret : Option FieldType} {rm : Room} {G : ka_G} {av : List Value} {σ : ka_S} {Qc : Array Value → State → Outcome → State → Prop} (own : String) (ho : y.cls = own) (hy : plainName y.cls = true) (hn : (lg_sl av).length ≤ nL)
    (body : ∀ (p : Program) (e : Env) (s : State) (m : MethodId) (below : List Frame) (meth : Method) (c : Code), ka_C p s m av.toArray meth c cc nL own ret → ka_Kn G s → ka_P G σ s.heap → va_S (ka_A G) s.heap s.heap [] → ∀ ls : Array Slot, lv_has ls nL (lv_args 0 av) → W p l e rm s m av.toArray below meth c s.heap [] 0 0 (MQ below Qc av.toArray s 0 0 (ka_A G)) (F0 m 0 ls [])) :
    Met l y (kw_ y cc nL ret) rm (va_Pc av (ka_B G σ)) Qc 0 0 (ka_A G) := by
  subst ho
  refine Met.ofW (cc := cc) (maxL := nL) (ret := ret) hy rfl ?_
  intro p e s m args below meth c s₁ B hml hv
  obtain ⟨rfl, hP, hK⟩ := hv
  have hts := atoms_spec (ws := kw_ y cc nL ret) B.pre
  have hl := lv_entry av (n := nL) hn
  rw [lg_entry_eq]
  exact body p e s m below meth c ⟨B.exec, B.bytes, B.returns, hml, findClass_of_methodNamed B.named, fun w hw => hts w (List.mem_cons_of_mem _ hw), B.notSynchronized⟩ hK hP va_S.rf _ hl
/-- what the tables say of a method that is called on an object; of a static one -/
def kd_V (y : MethodName) (bytes : ByteArray) (mL : Nat) (rt : Option FieldType) (n : Nat) : Prop := Cond.instanceMethod y ∈ kq_W ∧ Cond.selects y.cls y y ∈ kq_W ∧ Cond.initialized y.cls ∈ kq_W ∧ Cond.code y bytes mL rt ∈ kq_W ∧ (y.cls ≠ "java/lang/invoke/MethodHandle" ∧ y.cls ≠ "java/lang/invoke/VarHandle" ∧ (parseMethodDescriptor y.desc).map (fun d => d.parameters.length) = some n)
def kd_S (y : MethodName) (bytes : ByteArray) (mL : Nat) (rt : Option FieldType) (n : Nat) : Prop := Cond.static y ∈ kq_W ∧ Cond.initialized y.cls ∈ kq_W ∧ Cond.code y bytes mL rt ∈ kq_W ∧ (y.cls ≠ "java/lang/invoke/MethodHandle" ∧ y.cls ≠ "java/lang/invoke/VarHandle" ∧ (parseMethodDescriptor y.desc).map (fun d => d.parameters.length) = some n)
theorem vp_lt {i : Int32} {n : Nat} (h : vp_in i n) : i.toNatClampNeg < n := Nat.not_le.mp fun q => h (Or.inr q)
theorem kz_n {x : Int32} (h : x = 0 ∨ x = 1) : narrow .boolean (.int x) = .int x := by rcases h with rfl | rfl <;> rfl
theorem kz_f {x : Int32} (h : x = 0 ∨ x = 1) : fits .boolean (.int x) = true := by rcases h with rfl | rfl <;> rfl
theorem k_19 {o : Nat} (h : o < 18) : o < 19 := Nat.lt_succ_of_lt h
/-- the length of a row of longs -/
def ka_n (k : ka_K) : Nat := match k.1 with
  | 36 => 216
  | 37 => 253
  | 38 => 253
  | 39 => 3542
  | _ => 506
/-- a row of longs -/
def ka_L (a : ka_K) : Prop := ka_v a ∧ ∀ (G : ka_G) (σ : ka_S), ka_c G σ a = .inl (ka_r G 1, ka_n a, .inr (.inl (σ.2 a)))
theorem kl_36 : ka_L (36, 0, 0) := ⟨kv_s (by decide) (by decide), fun _ _ => rfl⟩
theorem kl_37 : ka_L (37, 0, 0) := ⟨kv_s (by decide) (by decide), fun _ _ => rfl⟩
theorem kl_38 : ka_L (38, 0, 0) := ⟨kv_s (by decide) (by decide), fun _ _ => rfl⟩
theorem kl_39 : ka_L (39, 0, 0) := ⟨kv_s (by decide) (by decide), fun _ _ => rfl⟩
theorem kl_40 : ka_L (40, 0, 0) := ⟨kv_s (by decide) (by decide), fun _ _ => rfl⟩
section KR
variable {p : Program} {l : Launch} {e : Env} {R : Room} {s : State} {m : MethodId} {args : Array Value} {below : List Frame} {meth : Method} {c : Code} {H : Heap} {locs : List Loc} {cells slots : Nat} {Q : State → Prop}
variable {cc : ByteArray} {pc : Nat} {ls : Array Slot} {rest : List Value} {G : ka_G} {σ : ka_S} {k : ka_K} {H0 : Heap} {own : String} {nL : Nat} {ret : Option FieldType}
theorem kr_get {ci j idx : Nat} {C O nm ds : String} {T : u_T} {N : Nat} {fs : List Value} {v : Value} (C0 : ka_C p s m args meth c cc nL own ret) (hK : ka_Kn G s) (hP : ka_P G σ H) (hv : ka_v k) (he : ka_c G σ k = .inr (ci, fs)) (hc : vwCl[ci]? = some (C, T, N)) (hin : ∀ w ∈ u_ws C T N, w ∈ kq_W) (hj : j < N) (hT : (O, nm, ds) = ((T j).1, (T j).2.1, (T j).2.2.1))
    (hlink : Cond.fieldLink own idx O nm ds ∈ kq_W) (hfv : fs[j]? = some v) (hdg : decode cc pc = .ok (.getfield idx, 3))
    (kk : W p l e R s m args below meth c H locs cells slots Q (F0 m (pc + 3) ls (v :: rest))) : W p l e R s m args below meth c H locs cells slots Q (F0 m pc ls (.ref (ka_a G k) :: rest)) := by
  obtain ⟨hx, hb, -, -, hown, hts, -⟩ := C0
  have e1 : O = (T j).1 := congrArg (fun q => q.1) hT
  have e2 : nm = (T j).2.1 := congrArg (fun q => q.2.1) hT
  have e3 : ds = (T j).2.2.1 := congrArg (fun q => q.2.2) hT
  subst e1; subst e2; subst e3
  exact va_get hx hb hts hin hown hK (hP.one hv) 0 (by rw [he]; rfl) hc j hj (hts _ hlink) (fun _ h => h) hfv hdg kk
theorem kr_put {ci j idx : Nat} {C O nm ds : String} {T : u_T} {N : Nat} {fs : List Value} {v : Value} {ty : FieldType} {σ1 : ka_S} (C0 : ka_C p s m args meth c cc nL own ret) (hK : ka_Kn G s) (hI : ka_I G) (hP : ka_P G σ H) (hS : va_S (ka_A G) H0 H locs) (hv : ka_v k) (he : ka_c G σ k = .inr (ci, fs)) (hc : vwCl[ci]? = some (C, T, N)) (hin : ∀ w ∈ u_ws C T N, w ∈ kq_W)
    (ty0 : Nat → FieldType) (hty : ∀ k, k < N → parseFieldDescriptor (T k).2.2.1 = some (ty0 k)) (hnm : ∀ a, a < N → ∀ b, b < N → a ≠ b → (T a).2.1 ≠ (T b).2.1) (hj : j < N) (hT : (O, nm, ds) = ((T j).1, (T j).2.1, (T j).2.2.1))
    (hlink : Cond.fieldLink own idx O nm ds ∈ kq_W) (hfin : (T j).2.2.2 = false) (hd : parseFieldDescriptor (T j).2.2.1 = some ty) (hn : narrow ty v = v) (hfit : fits ty v = true) (hl : j < fs.length) (h1 : ka_c G σ1 k = .inr (ci, fs.set j v)) (h2 : ∀ k', k' ≠ k → ka_c G σ1 k' = ka_c G σ k') (hdg : decode cc pc = .ok (.putfield idx, 3))
    (kk : ∀ (H1 : Heap) (locs1 : List Loc), ka_P G σ1 H1 → va_S (ka_A G) H0 H1 locs1 → W p l e R s m args below meth c H1 locs1 cells slots Q (F0 m (pc + 3) ls rest)) : W p l e R s m args below meth c H locs cells slots Q (F0 m pc ls (v :: .ref (ka_a G k) :: rest)) := by
  obtain ⟨hexec, hb, -, -, hown, hts, -⟩ := C0
  have e1 : O = (T j).1 := congrArg (fun q => q.1) hT
  have e2 : nm = (T j).2.1 := congrArg (fun q => q.2.1) hT
  have e3 : ds = (T j).2.2.1 := congrArg (fun q => q.2.2) hT
  subst e1; subst e2; subst e3
  have hap := va_apart (own := own) hts hin ty0 hty hnm hK hc
  have hat := hP k hv
  rw [he] at hat
  obtain ⟨r, q0, cell, q1, q2, q3, q4⟩ := hat
  have hr : r = (C, T, N) := Option.some.inj (q0.symm.trans hc)
  subst hr
  obtain ⟨hS1, hfc, kC, hkC, hkind⟩ := hK.1 ci _ hc
  obtain ⟨cf, kf, fi, f, hi, hsl⟩ := hS1 j hj
  have hlay := hts _ (hin _ (u_in_lay hj))
  unfold u_lay at hlay
  rw [if_neg (by rw [hfin]; decide)] at hlay
  have hst := (u_facts hfc hkC (u_lays hts hin hj) hi).1
  have h6 := u_store hfc hkC hkind hlay hi hd hn hfit
  refine W.putK hexec hb (f := f) ⟨hown, hts _ hlink, ⟨_, _, _, hi⟩, hst⟩ (by rw [q2]; exact h6) q1 q3 (by rw [hsl]; exact k2_hasslot (q4 j hj)) rfl rfl hdg fun H' e1 e2 e3 => ?_
  rw [hsl] at e1 ⊢
  refine kk H' _ (hP.upd hI hv h2 ?_ e3) (hS.put e2 e3 (hI.2 k hv))
  rw [h1]
  exact ⟨_, hc, t_OB.to (V := updV (vp_V fs) j v) ⟨_, e1, q2, q3, t_set q4 hap hj v⟩ (fun i _ => vp_updV_set hl v i)⟩
theorem kr_iald {n : Nat} {i : Int32} (C0 : ka_C p s m args meth c cc nL own ret) (hK : ka_Kn G s) (hP : ka_P G σ H) (hv : ka_v k) (he : ka_c G σ k = .inl (ka_r G 0, n, .inl (σ.1 k))) (hin : vp_in i n) (hdg : decode cc pc = .ok (.iaload, 1))
    (kk : W p l e R s m args below meth c H locs cells slots Q (F0 m (pc + 1) ls (.int (σ.1 k i.toNatClampNeg) :: rest))) : W p l e R s m args below meth c H locs cells slots Q (F0 m pc ls (.int i :: .ref (ka_a G k) :: rest)) :=
  va_iald C0.1 C0.2.1 hK (hP.one hv) 0 0 (by rw [he]; rfl) rfl hin hdg kk
theorem kr_zald {n : Nat} {i : Int32} (C0 : ka_C p s m args meth c cc nL own ret) (hK : ka_Kn G s) (hP : ka_P G σ H) (hv : ka_v k) (he : ka_c G σ k = .inl (ka_r G 2, n, .inl (σ.1 k))) (hin : vp_in i n) (hdg : decode cc pc = .ok (.baload, 1))
    (kk : W p l e R s m args below meth c H locs cells slots Q (F0 m (pc + 1) ls (.int (σ.1 k i.toNatClampNeg) :: rest))) : W p l e R s m args below meth c H locs cells slots Q (F0 m pc ls (.int i :: .ref (ka_a G k) :: rest)) :=
  va_zald C0.1 C0.2.1 hK (hP.one hv) 0 2 (by rw [he]; rfl) rfl hin hdg kk
theorem kr_lald {n : Nat} {i : Int32} (C0 : ka_C p s m args meth c cc nL own ret) (hK : ka_Kn G s) (hP : ka_P G σ H) (hv : ka_v k) (he : ka_c G σ k = .inl (ka_r G 1, n, .inr (.inl (σ.2 k)))) (hin : vp_in i n) (hdg : decode cc pc = .ok (.laload, 1))
    (kk : W p l e R s m args below meth c H locs cells slots Q (F0 m (pc + 1) ls (.long (σ.2 k i.toNatClampNeg) :: rest))) : W p l e R s m args below meth c H locs cells slots Q (F0 m pc ls (.int i :: .ref (ka_a G k) :: rest)) :=
  va_lald C0.1 C0.2.1 hK (hP.one hv) 0 1 (by rw [he]; rfl) rfl hin hdg kk
theorem kr_aald {n t : Nat} {CC : String} {i : Int32} {f : Nat → Option Nat} {q : Nat} (C0 : ka_C p s m args meth c cc nL own ret) (hK : ka_Kn G s) (hP : ka_P G σ H) (hv : ka_v k) (he : ka_c G σ k = .inl (ka_r G t, n, .inr (.inr (.inr (.inr f))))) (ht : (ka_tys G)[t]? = some (ka_r G t, .object CC)) (hin : vp_in i n) (hq : f i.toNatClampNeg = some q) (hdg : decode cc pc = .ok (.aaload, 1))
    (kk : W p l e R s m args below meth c H locs cells slots Q (F0 m (pc + 1) ls (.ref q :: rest))) : W p l e R s m args below meth c H locs cells slots Q (F0 m pc ls (.int i :: .ref (ka_a G k) :: rest)) := by
  refine va_aldq C0.1 C0.2.1 hK (hP.one hv) 0 t (C := CC) (by rw [he]; rfl) ht hin hdg ?_
  rw [hq]
  exact kk
theorem kr_iast {n : Nat} {i x : Int32} (C0 : ka_C p s m args meth c cc nL own ret) (hK : ka_Kn G s) (hI : ka_I G) (hP : ka_P G σ H) (hS : va_S (ka_A G) H0 H locs) (hv : ka_v k) (he : ∀ σ' : ka_S, ka_c G σ' k = .inl (ka_r G 0, n, .inl (σ'.1 k))) (hin : vp_in i n) (hdg : decode cc pc = .ok (.iastore, 1))
    (kk : ∀ (H1 : Heap) (locs1 : List Loc), ka_P G (ka_wI σ k i.toNatClampNeg x) H1 → va_S (ka_A G) H0 H1 locs1 → W p l e R s m args below meth c H1 locs1 cells slots Q (F0 m (pc + 1) ls rest)) : W p l e R s m args below meth c H locs cells slots Q (F0 m pc ls (.int x :: .int i :: .ref (ka_a G k) :: rest)) := by
  have hat := hP k hv
  rw [he] at hat
  refine W.iast C0.1 C0.2.1 hat ((hK.2 0 _ rfl).1 n (fun j => .int (σ.1 k j))) (fun q => by cases q) (by show ¬ (i < 0 ∨ (arrV _ _ _).slots.size ≤ _); rw [arrV_size]; exact hin) rfl rfl hdg fun H1 e z oq => ?_
  refine kk H1 _ (hP.upd hI hv (fun k' h => ka_c_I h) ?_ oq) (hS.put z oq (hI.2 k hv))
  rw [he, ka_wI_eq]
  show H1[_]? = some (vp_cell _ _)
  rw [e]
  rw [vp_cell_i, vp_cell_i, arrV_store]
  congr 2
  funext q
  by_cases hq : q = i.toNatClampNeg
  · subst hq
    simp [updV, upd]
  · simp [updV, upd, hq]
theorem kr_zast {n : Nat} {i x : Int32} (C0 : ka_C p s m args meth c cc nL own ret) (hK : ka_Kn G s) (hI : ka_I G) (hP : ka_P G σ H) (hS : va_S (ka_A G) H0 H locs) (hv : ka_v k) (he : ∀ σ' : ka_S, ka_c G σ' k = .inl (ka_r G 2, n, .inl (σ'.1 k))) (hin : vp_in i n) (hx : narrow .boolean (.int x) = .int x) (hdg : decode cc pc = .ok (.bastore, 1))
    (kk : ∀ (H1 : Heap) (locs1 : List Loc), ka_P G (ka_wI σ k i.toNatClampNeg x) H1 → va_S (ka_A G) H0 H1 locs1 → W p l e R s m args below meth c H1 locs1 cells slots Q (F0 m (pc + 1) ls rest)) : W p l e R s m args below meth c H locs cells slots Q (F0 m pc ls (.int x :: .int i :: .ref (ka_a G k) :: rest)) := by
  have hat := hP k hv
  rw [he] at hat
  refine W.zast C0.1 C0.2.1 hat ((hK.2 2 _ rfl).1 n (fun j => .int (σ.1 k j))) (fun q => by cases q) (by show ¬ (i < 0 ∨ (arrV _ _ _).slots.size ≤ _); rw [arrV_size]; exact hin) rfl rfl hdg fun H1 e z oq => ?_
  refine kk H1 _ (hP.upd hI hv (fun k' h => ka_c_I h) ?_ oq) (hS.put z oq (hI.2 k hv))
  rw [he, ka_wI_eq]
  show H1[_]? = some (vp_cell _ _)
  rw [e, hx]
  rw [vp_cell_i, vp_cell_i, arrV_store]
  congr 2
  funext q
  by_cases hq : q = i.toNatClampNeg
  · subst hq
    simp [updV, upd]
  · simp [updV, upd, hq]
theorem kr_last {n : Nat} {i : Int32} {x : Int64} (C0 : ka_C p s m args meth c cc nL own ret) (hK : ka_Kn G s) (hI : ka_I G) (hP : ka_P G σ H) (hS : va_S (ka_A G) H0 H locs) (hv : ka_v k) (he : ∀ σ' : ka_S, ka_c G σ' k = .inl (ka_r G 1, n, .inr (.inl (σ'.2 k)))) (hin : vp_in i n) (hdg : decode cc pc = .ok (.lastore, 1))
    (kk : ∀ (H1 : Heap) (locs1 : List Loc), ka_P G (ka_wL σ k i.toNatClampNeg x) H1 → va_S (ka_A G) H0 H1 locs1 → W p l e R s m args below meth c H1 locs1 cells slots Q (F0 m (pc + 1) ls rest)) : W p l e R s m args below meth c H locs cells slots Q (F0 m pc ls (.long x :: .int i :: .ref (ka_a G k) :: rest)) := by
  have hat := hP k hv
  rw [he] at hat
  refine W.last C0.1 C0.2.1 hat ((hK.2 1 _ rfl).1 n (fun j => .long (σ.2 k j))) (fun q => by cases q) (by show ¬ (i < 0 ∨ (arrV _ _ _).slots.size ≤ _); rw [arrV_size]; exact hin) rfl rfl hdg fun H1 e z oq => ?_
  refine kk H1 _ (hP.upd hI hv (fun k' h => ka_c_L h) ?_ oq) (hS.put z oq (hI.2 k hv))
  rw [he, ka_wL_eq]
  show H1[_]? = some (vp_cell _ _)
  rw [e]
  rw [vp_cell_l, vp_cell_l, arrV_store]
  congr 2
  funext q
  by_cases hq : q = i.toNatClampNeg
  · subst hq
    simp [updV, vp_updL]
  · simp [updV, vp_updL, hq]
theorem kr_clt {x y : Int64} {off : Int} {tgt : Nat} (C0 : ka_C p s m args meth c cc nL own ret) (d1 : decode cc pc = .ok (.lcmp, 1)) (d2 : decode cc (pc + 1) = .ok (.ifCond .lt off, 3)) (ht : ((pc + 1 : Nat) : Int) + off = (tgt : Int))
    (kt : x < y → W p l e R s m args below meth c H locs cells slots Q (F0 m tgt ls rest)) (kf : ¬ x < y → W p l e R s m args below meth c H locs cells slots Q (F0 m (pc + 4) ls rest)) : W p l e R s m args below meth c H locs cells slots Q (F0 m pc ls (.long y :: .long x :: rest)) :=
  W.lcmp C0.1 C0.2.1 d1 (lv_if_lt C0.1 C0.2.1 d2 ht (fun h => kt ((lg_cmp_lt x y).mp h)) (fun h => kf (fun q => h ((lg_cmp_lt x y).mpr q))))
theorem kr_cge {x y : Int64} {off : Int} {tgt : Nat} (C0 : ka_C p s m args meth c cc nL own ret) (d1 : decode cc pc = .ok (.lcmp, 1)) (d2 : decode cc (pc + 1) = .ok (.ifCond .ge off, 3)) (ht : ((pc + 1 : Nat) : Int) + off = (tgt : Int))
    (kt : y ≤ x → W p l e R s m args below meth c H locs cells slots Q (F0 m tgt ls rest)) (kf : ¬ y ≤ x → W p l e R s m args below meth c H locs cells slots Q (F0 m (pc + 4) ls rest)) : W p l e R s m args below meth c H locs cells slots Q (F0 m pc ls (.long y :: .long x :: rest)) :=
  W.lcmp C0.1 C0.2.1 d1 (lv_if_ge C0.1 C0.2.1 d2 ht (fun h => kt ((lg_cmp_ge x y).mp h)) (fun h => kf (fun q => h ((lg_cmp_ge x y).mpr q))))
theorem kr_cgt {x y : Int64} {off : Int} {tgt : Nat} (C0 : ka_C p s m args meth c cc nL own ret) (d1 : decode cc pc = .ok (.lcmp, 1)) (d2 : decode cc (pc + 1) = .ok (.ifCond .gt off, 3)) (ht : ((pc + 1 : Nat) : Int) + off = (tgt : Int))
    (kt : y < x → W p l e R s m args below meth c H locs cells slots Q (F0 m tgt ls rest)) (kf : ¬ y < x → W p l e R s m args below meth c H locs cells slots Q (F0 m (pc + 4) ls rest)) : W p l e R s m args below meth c H locs cells slots Q (F0 m pc ls (.long y :: .long x :: rest)) :=
  W.lcmp C0.1 C0.2.1 d1 (lv_if_gt C0.1 C0.2.1 d2 ht (fun h => kt ((lg_cmp_gt x y).mp h)) (fun h => kf (fun q => h ((lg_cmp_gt x y).mpr q))))
theorem kr_cle {x y : Int64} {off : Int} {tgt : Nat} (C0 : ka_C p s m args meth c cc nL own ret) (d1 : decode cc pc = .ok (.lcmp, 1)) (d2 : decode cc (pc + 1) = .ok (.ifCond .le off, 3)) (ht : ((pc + 1 : Nat) : Int) + off = (tgt : Int))
    (kt : x ≤ y → W p l e R s m args below meth c H locs cells slots Q (F0 m tgt ls rest)) (kf : ¬ x ≤ y → W p l e R s m args below meth c H locs cells slots Q (F0 m (pc + 4) ls rest)) : W p l e R s m args below meth c H locs cells slots Q (F0 m pc ls (.long y :: .long x :: rest)) :=
  W.lcmp C0.1 C0.2.1 d1 (lv_if_le C0.1 C0.2.1 d2 ht (fun h => kt ((lg_cmp_le x y).mp h)) (fun h => kf (fun q => h ((lg_cmp_le x y).mpr q))))
theorem kr_ceq {x y : Int64} {off : Int} {tgt : Nat} (C0 : ka_C p s m args meth c cc nL own ret) (d1 : decode cc pc = .ok (.lcmp, 1)) (d2 : decode cc (pc + 1) = .ok (.ifCond .eq off, 3)) (ht : ((pc + 1 : Nat) : Int) + off = (tgt : Int))
    (kt : x = y → W p l e R s m args below meth c H locs cells slots Q (F0 m tgt ls rest)) (kf : ¬ x = y → W p l e R s m args below meth c H locs cells slots Q (F0 m (pc + 4) ls rest)) : W p l e R s m args below meth c H locs cells slots Q (F0 m pc ls (.long y :: .long x :: rest)) :=
  W.lcmp C0.1 C0.2.1 d1 (lv_if_eq C0.1 C0.2.1 d2 ht (fun h => kt ((lg_cmp_eq x y).mp h)) (fun h => kf (fun q => h ((lg_cmp_eq x y).mpr q))))
theorem kr_cne {x y : Int64} {off : Int} {tgt : Nat} (C0 : ka_C p s m args meth c cc nL own ret) (d1 : decode cc pc = .ok (.lcmp, 1)) (d2 : decode cc (pc + 1) = .ok (.ifCond .ne off, 3)) (ht : ((pc + 1 : Nat) : Int) + off = (tgt : Int))
    (kt : ¬ x = y → W p l e R s m args below meth c H locs cells slots Q (F0 m tgt ls rest)) (kf : x = y → W p l e R s m args below meth c H locs cells slots Q (F0 m (pc + 4) ls rest)) : W p l e R s m args below meth c H locs cells slots Q (F0 m pc ls (.long y :: .long x :: rest)) :=
  W.lcmp C0.1 C0.2.1 d1 (lv_if_ne C0.1 C0.2.1 d2 ht (fun h => kt (fun q => h ((lg_cmp_eq x y).mpr q))) (fun h => kf ((lg_cmp_eq x y).mp h)))
variable {y : MethodName} {bytes : ByteArray} {mL idx n : Nat} {rt : Option FieldType} {rm : Room} {As : List Value} {CC : String}
theorem kr_cbV (C0 : ka_C p s m args meth c cc nL own ret) (hlink : Cond.methodLink own idx y ∈ kq_W) (kd : kd_V y bytes mL rt n) (hrm : rm.cells = 0 ∧ rm.slots = 0 ∧ rm.frames + 1 ≤ R.frames ∧ 8 + (mL + 11) + rm.locals ≤ R.locals) : CallW R s args own y.cls idx y bytes mL rt (kw_ y bytes mL rt) rm 0 0 n := by
  obtain ⟨-, -, -, -, -, hts, -⟩ := C0
  obtain ⟨hinst, hsel, hini, hcode, hd⟩ := kd
  refine ⟨callB_of (Ts := kq_W) n hts ?_ rfl hrm.1 hrm.2.1 (hts _ hini) (hts _ hlink) hd hrm.2.2, hts _ hinst, hts _ hsel⟩
  intro w hw
  rcases List.mem_cons.mp hw with h | h
  · subst h; exact ⟨hcode, kq_good hcode⟩
  · exact ⟨h, kq_good h⟩
theorem kr_cbS (C0 : ka_C p s m args meth c cc nL own ret) (hlink : Cond.methodLink own idx y ∈ kq_W) (kd : kd_S y bytes mL rt n) (hrm : rm.cells = 0 ∧ rm.slots = 0 ∧ rm.frames + 1 ≤ R.frames ∧ 8 + (mL + 11) + rm.locals ≤ R.locals) : CallB R s args own idx y bytes mL rt (kw_ y bytes mL rt) rm 0 0 n ∧ (Cond.static y).before args s = true := by
  obtain ⟨-, -, -, -, -, hts, -⟩ := C0
  obtain ⟨hstat, hini, hcode, hd⟩ := kd
  refine ⟨callB_of (Ts := kq_W) n hts ?_ rfl hrm.1 hrm.2.1 (hts _ hini) (hts _ hlink) hd hrm.2.2, hts _ hstat⟩
  intro w hw
  rcases List.mem_cons.mp hw with h | h
  · subst h; exact ⟨hcode, kq_good hcode⟩
  · exact ⟨h, kq_good h⟩
theorem ka_C.fix (C0 : ka_C p s m args meth c cc nL own ret) : CallFix p m c cc nL s args kq_W own := ⟨C0.1, C0.2.1, C0.2.2.2.1, C0.2.2.2.2.1, C0.2.2.2.2.2.1⟩
theorem kr_pV {ci : Nat} {q : vw_C} {fs : List Value} (hK : ka_Kn G s) (hP : ka_P G σ H) (hv : ka_v k) (he : ka_c G σ k = .inr (ci, fs)) (hc : vwCl[ci]? = some q) (hC : q.1 = CC) : PreV s H CC (ka_a G k) (va_Pc (.ref (ka_a G k) :: As) (ka_B G σ)) As := by
  subst hC
  exact ⟨ka_blind, va_recv hK (hP.one hv) (q0 := 0) hc (by rw [he]; rfl), fun U hU hW => ⟨rfl, by rw [hU]; exact hP, va_K.moved hW.alike hK⟩⟩
theorem kr_pS (hK : ka_Kn G s) (hP : ka_P G σ H) : PreS s H (va_Pc As (ka_B G σ)) As := ⟨ka_blind, fun U hU hW => ⟨rfl, by rw [hU]; exact hP, va_K.moved hW.alike hK⟩⟩
theorem kr_Vi {Qp : Int32 → ka_S → Prop} {lv : List (Nat × Value)} (C0 : ka_C p s m args meth c cc nL own ret) (hK : ka_Kn G s) (hP : ka_P G σ H) (hS : va_S (ka_A G) H0 H locs) (hl : lv_has ls nL lv) (hM : kc_i l y (kw_ y bytes mL rt) rm G (.ref (ka_a G k) :: As) σ Qp) (kd : kd_V y bytes mL rt n) (hlink : Cond.methodLink own idx y ∈ kq_W) (hv : ka_v k) {ci : Nat} {q : vw_C} {fs : List Value} (he : ka_c G σ k = .inr (ci, fs)) (hc : vwCl[ci]? = some q) (hC : q.1 = y.cls) (hrm : rm.cells = 0 ∧ rm.slots = 0 ∧ rm.frames + 1 ≤ R.frames ∧ 8 + (mL + 11) + rm.locals ≤ R.locals) (hn : As.length = n) (hW : (rest.map fun v => v.category).sum ≤ 8) (hdg : decode cc pc = .ok (.invokevirtual idx, 3)) (hf : cells ≤ R.cells ∧ slots ≤ R.slots)
    (kk : ∀ (r : Int32) (σ1 : ka_S) (H1 : Heap) (locs1 : List Loc), Qp r σ1 → ka_P G σ1 H1 → va_S (ka_A G) H0 H1 locs1 → W p l e R s m args below meth c H1 locs1 cells slots Q (F0 m (pc + 3) ls (.int r :: rest))) : W p l e R s m args below meth c H locs cells slots Q (F0 m pc ls (As.reverse ++ .ref (ka_a G k) :: rest)) :=
  va_calli (va_runV C0.fix hM (kr_cbV C0 hlink kd hrm) (kr_pV hK hP hv he hc hC) rfl hn hl.1 rfl (lv_room hW) hdg hf) hS (fun q _ h => h) (fun q h => h) (fun r u t H1 locs1 ht hvm hw hB hz hk1 hS1 => kk r u H1 locs1 hw (by rw [← ht]; exact hB.1) hS1)
theorem kr_Vl {Qp : Int64 → ka_S → Prop} {lv : List (Nat × Value)} (C0 : ka_C p s m args meth c cc nL own ret) (hK : ka_Kn G s) (hP : ka_P G σ H) (hS : va_S (ka_A G) H0 H locs) (hl : lv_has ls nL lv) (hM : kc_l l y (kw_ y bytes mL rt) rm G (.ref (ka_a G k) :: As) σ Qp) (kd : kd_V y bytes mL rt n) (hlink : Cond.methodLink own idx y ∈ kq_W) (hv : ka_v k) {ci : Nat} {q : vw_C} {fs : List Value} (he : ka_c G σ k = .inr (ci, fs)) (hc : vwCl[ci]? = some q) (hC : q.1 = y.cls) (hrm : rm.cells = 0 ∧ rm.slots = 0 ∧ rm.frames + 1 ≤ R.frames ∧ 8 + (mL + 11) + rm.locals ≤ R.locals) (hn : As.length = n) (hW : (rest.map fun v => v.category).sum ≤ 8) (hdg : decode cc pc = .ok (.invokevirtual idx, 3)) (hf : cells ≤ R.cells ∧ slots ≤ R.slots)
    (kk : ∀ (r : Int64) (σ1 : ka_S) (H1 : Heap) (locs1 : List Loc), Qp r σ1 → ka_P G σ1 H1 → va_S (ka_A G) H0 H1 locs1 → W p l e R s m args below meth c H1 locs1 cells slots Q (F0 m (pc + 3) ls (.long r :: rest))) : W p l e R s m args below meth c H locs cells slots Q (F0 m pc ls (As.reverse ++ .ref (ka_a G k) :: rest)) :=
  va_calll (va_runV C0.fix hM (kr_cbV C0 hlink kd hrm) (kr_pV hK hP hv he hc hC) rfl hn hl.1 rfl (lv_room hW) hdg hf) hS (fun q _ h => h) (fun q h => h) (fun r u t H1 locs1 ht hvm hw hB hz hk1 hS1 => kk r u H1 locs1 hw (by rw [← ht]; exact hB.1) hS1)
theorem kr_Vv {Qp : ka_S → Prop} {lv : List (Nat × Value)} (C0 : ka_C p s m args meth c cc nL own ret) (hK : ka_Kn G s) (hP : ka_P G σ H) (hS : va_S (ka_A G) H0 H locs) (hl : lv_has ls nL lv) (hM : kc_v l y (kw_ y bytes mL rt) rm G (.ref (ka_a G k) :: As) σ Qp) (kd : kd_V y bytes mL rt n) (hlink : Cond.methodLink own idx y ∈ kq_W) (hv : ka_v k) {ci : Nat} {q : vw_C} {fs : List Value} (he : ka_c G σ k = .inr (ci, fs)) (hc : vwCl[ci]? = some q) (hC : q.1 = y.cls) (hrm : rm.cells = 0 ∧ rm.slots = 0 ∧ rm.frames + 1 ≤ R.frames ∧ 8 + (mL + 11) + rm.locals ≤ R.locals) (hn : As.length = n) (hW : (rest.map fun v => v.category).sum ≤ 8) (hdg : decode cc pc = .ok (.invokevirtual idx, 3)) (hf : cells ≤ R.cells ∧ slots ≤ R.slots)
    (kk : ∀ (σ1 : ka_S) (H1 : Heap) (locs1 : List Loc), Qp σ1 → ka_P G σ1 H1 → va_S (ka_A G) H0 H1 locs1 → W p l e R s m args below meth c H1 locs1 cells slots Q (F0 m (pc + 3) ls (rest))) : W p l e R s m args below meth c H locs cells slots Q (F0 m pc ls (As.reverse ++ .ref (ka_a G k) :: rest)) :=
  va_callv (va_runV C0.fix hM (kr_cbV C0 hlink kd hrm) (kr_pV hK hP hv he hc hC) rfl hn hl.1 rfl (lv_room hW) hdg hf) hS (fun q _ h => h) (fun q h => h) (fun u t H1 locs1 ht hvm hw hB hz hk1 hS1 => kk u H1 locs1 hw (by rw [← ht]; exact hB.1) hS1)
theorem kr_Vr {Qp : ka_S → Prop} {kr : ka_K} {lv : List (Nat × Value)} (C0 : ka_C p s m args meth c cc nL own ret) (hK : ka_Kn G s) (hP : ka_P G σ H) (hS : va_S (ka_A G) H0 H locs) (hl : lv_has ls nL lv) (hM : kc_r l y (kw_ y bytes mL rt) rm G (.ref (ka_a G k) :: As) σ kr Qp) (kd : kd_V y bytes mL rt n) (hlink : Cond.methodLink own idx y ∈ kq_W) (hv : ka_v k) {ci : Nat} {q : vw_C} {fs : List Value} (he : ka_c G σ k = .inr (ci, fs)) (hc : vwCl[ci]? = some q) (hC : q.1 = y.cls) (hrm : rm.cells = 0 ∧ rm.slots = 0 ∧ rm.frames + 1 ≤ R.frames ∧ 8 + (mL + 11) + rm.locals ≤ R.locals) (hn : As.length = n) (hW : (rest.map fun v => v.category).sum ≤ 8) (hdg : decode cc pc = .ok (.invokevirtual idx, 3)) (hf : cells ≤ R.cells ∧ slots ≤ R.slots)
    (kk : ∀ (σ1 : ka_S) (H1 : Heap) (locs1 : List Loc), Qp σ1 → ka_P G σ1 H1 → va_S (ka_A G) H0 H1 locs1 → W p l e R s m args below meth c H1 locs1 cells slots Q (F0 m (pc + 3) ls (.ref (ka_a G kr) :: rest))) : W p l e R s m args below meth c H locs cells slots Q (F0 m pc ls (As.reverse ++ .ref (ka_a G k) :: rest)) :=
  va_callr (va_runV C0.fix hM (kr_cbV C0 hlink kd hrm) (kr_pV hK hP hv he hc hC) rfl hn hl.1 rfl (lv_room hW) hdg hf) hS (fun q _ h => h) (fun q h => h) (fun u ra t H1 locs1 ht hvm hw hB hz hk1 hS1 => by obtain ⟨rfl, hB⟩ := hB; exact kk u H1 locs1 hw (by rw [← ht]; exact hB.1) hS1)
theorem kr_Si {Qp : Int32 → ka_S → Prop} {lv : List (Nat × Value)} (C0 : ka_C p s m args meth c cc nL own ret) (hK : ka_Kn G s) (hP : ka_P G σ H) (hS : va_S (ka_A G) H0 H locs) (hl : lv_has ls nL lv) (hM : kc_i l y (kw_ y bytes mL rt) rm G As σ Qp) (kd : kd_S y bytes mL rt n) (hlink : Cond.methodLink own idx y ∈ kq_W) (hrm : rm.cells = 0 ∧ rm.slots = 0 ∧ rm.frames + 1 ≤ R.frames ∧ 8 + (mL + 11) + rm.locals ≤ R.locals) (hn : As.length = n) (hW : (rest.map fun v => v.category).sum ≤ 8) (hdg : decode cc pc = .ok (.invokestatic idx, 3)) (hf : cells ≤ R.cells ∧ slots ≤ R.slots)
    (kk : ∀ (r : Int32) (σ1 : ka_S) (H1 : Heap) (locs1 : List Loc), Qp r σ1 → ka_P G σ1 H1 → va_S (ka_A G) H0 H1 locs1 → W p l e R s m args below meth c H1 locs1 cells slots Q (F0 m (pc + 3) ls (.int r :: rest))) : W p l e R s m args below meth c H locs cells slots Q (F0 m pc ls (As.reverse ++ rest)) :=
  va_calli (va_runS C0.fix hM (kr_cbS C0 hlink kd hrm) (kr_pS hK hP) rfl hn hl.1 rfl (lv_room hW) hdg hf) hS (fun q _ h => h) (fun q h => h) (fun r u t H1 locs1 ht hvm hw hB hz hk1 hS1 => kk r u H1 locs1 hw (by rw [← ht]; exact hB.1) hS1)
theorem kr_Sl {Qp : Int64 → ka_S → Prop} {lv : List (Nat × Value)} (C0 : ka_C p s m args meth c cc nL own ret) (hK : ka_Kn G s) (hP : ka_P G σ H) (hS : va_S (ka_A G) H0 H locs) (hl : lv_has ls nL lv) (hM : kc_l l y (kw_ y bytes mL rt) rm G As σ Qp) (kd : kd_S y bytes mL rt n) (hlink : Cond.methodLink own idx y ∈ kq_W) (hrm : rm.cells = 0 ∧ rm.slots = 0 ∧ rm.frames + 1 ≤ R.frames ∧ 8 + (mL + 11) + rm.locals ≤ R.locals) (hn : As.length = n) (hW : (rest.map fun v => v.category).sum ≤ 8) (hdg : decode cc pc = .ok (.invokestatic idx, 3)) (hf : cells ≤ R.cells ∧ slots ≤ R.slots)
    (kk : ∀ (r : Int64) (σ1 : ka_S) (H1 : Heap) (locs1 : List Loc), Qp r σ1 → ka_P G σ1 H1 → va_S (ka_A G) H0 H1 locs1 → W p l e R s m args below meth c H1 locs1 cells slots Q (F0 m (pc + 3) ls (.long r :: rest))) : W p l e R s m args below meth c H locs cells slots Q (F0 m pc ls (As.reverse ++ rest)) :=
  va_calll (va_runS C0.fix hM (kr_cbS C0 hlink kd hrm) (kr_pS hK hP) rfl hn hl.1 rfl (lv_room hW) hdg hf) hS (fun q _ h => h) (fun q h => h) (fun r u t H1 locs1 ht hvm hw hB hz hk1 hS1 => kk r u H1 locs1 hw (by rw [← ht]; exact hB.1) hS1)
theorem kr_Sv {Qp : ka_S → Prop} {lv : List (Nat × Value)} (C0 : ka_C p s m args meth c cc nL own ret) (hK : ka_Kn G s) (hP : ka_P G σ H) (hS : va_S (ka_A G) H0 H locs) (hl : lv_has ls nL lv) (hM : kc_v l y (kw_ y bytes mL rt) rm G As σ Qp) (kd : kd_S y bytes mL rt n) (hlink : Cond.methodLink own idx y ∈ kq_W) (hrm : rm.cells = 0 ∧ rm.slots = 0 ∧ rm.frames + 1 ≤ R.frames ∧ 8 + (mL + 11) + rm.locals ≤ R.locals) (hn : As.length = n) (hW : (rest.map fun v => v.category).sum ≤ 8) (hdg : decode cc pc = .ok (.invokestatic idx, 3)) (hf : cells ≤ R.cells ∧ slots ≤ R.slots)
    (kk : ∀ (σ1 : ka_S) (H1 : Heap) (locs1 : List Loc), Qp σ1 → ka_P G σ1 H1 → va_S (ka_A G) H0 H1 locs1 → W p l e R s m args below meth c H1 locs1 cells slots Q (F0 m (pc + 3) ls (rest))) : W p l e R s m args below meth c H locs cells slots Q (F0 m pc ls (As.reverse ++ rest)) :=
  va_callv (va_runS C0.fix hM (kr_cbS C0 hlink kd hrm) (kr_pS hK hP) rfl hn hl.1 rfl (lv_room hW) hdg hf) hS (fun q _ h => h) (fun q h => h) (fun u t H1 locs1 ht hvm hw hB hz hk1 hS1 => kk u H1 locs1 hw (by rw [← ht]; exact hB.1) hS1)
theorem kr_Sr {Qp : ka_S → Prop} {kr : ka_K} {lv : List (Nat × Value)} (C0 : ka_C p s m args meth c cc nL own ret) (hK : ka_Kn G s) (hP : ka_P G σ H) (hS : va_S (ka_A G) H0 H locs) (hl : lv_has ls nL lv) (hM : kc_r l y (kw_ y bytes mL rt) rm G As σ kr Qp) (kd : kd_S y bytes mL rt n) (hlink : Cond.methodLink own idx y ∈ kq_W) (hrm : rm.cells = 0 ∧ rm.slots = 0 ∧ rm.frames + 1 ≤ R.frames ∧ 8 + (mL + 11) + rm.locals ≤ R.locals) (hn : As.length = n) (hW : (rest.map fun v => v.category).sum ≤ 8) (hdg : decode cc pc = .ok (.invokestatic idx, 3)) (hf : cells ≤ R.cells ∧ slots ≤ R.slots)
    (kk : ∀ (σ1 : ka_S) (H1 : Heap) (locs1 : List Loc), Qp σ1 → ka_P G σ1 H1 → va_S (ka_A G) H0 H1 locs1 → W p l e R s m args below meth c H1 locs1 cells slots Q (F0 m (pc + 3) ls (.ref (ka_a G kr) :: rest))) : W p l e R s m args below meth c H locs cells slots Q (F0 m pc ls (As.reverse ++ rest)) :=
  va_callr (va_runS C0.fix hM (kr_cbS C0 hlink kd hrm) (kr_pS hK hP) rfl hn hl.1 rfl (lv_room hW) hdg hf) hS (fun q _ h => h) (fun q h => h) (fun u ra t H1 locs1 ht hvm hw hB hz hk1 hS1 => by obtain ⟨rfl, hB⟩ := hB; exact kk u H1 locs1 hw (by rw [← ht]; exact hB.1) hS1)
theorem kr_max {x y : Int32} {lv : List (Nat × Value)} (C0 : ka_C p s m args meth c cc nL own ret) (hl : lv_has ls nL lv) (hlink : Cond.methodLink own idx Lib.Math.max.name ∈ kq_W) (hlocals : 1 ≤ R.frames ∧ (rest.map fun v => v.category).sum + 13 ≤ R.locals) (hf : cells ≤ R.cells ∧ slots ≤ R.slots) (hdg : decode cc pc = .ok (.invokestatic idx, 3))
    (kk : W p l e R s m args below meth c H locs cells slots Q (F0 m (pc + 3) ls (.int (if x < y then y else x) :: rest))) : W p l e R s m args below meth c H locs cells slots Q (F0 m pc ls (.int y :: .int x :: rest)) := by
  obtain ⟨hx, hb, -, hml, hown, hts, -⟩ := C0
  exact va_mmax hx hb (hml.trans hl.1.symm) hown (hts _ hlink) (hts _ kq_402) (hts _ kq_16) (hts _ kq_403) hlocals.1 hlocals.2 hf.1 hf.2 hdg kk
theorem kr_min {x y : Int32} {lv : List (Nat × Value)} (C0 : ka_C p s m args meth c cc nL own ret) (hl : lv_has ls nL lv) (hlink : Cond.methodLink own idx Lib.Math.min.name ∈ kq_W) (hlocals : 1 ≤ R.frames ∧ (rest.map fun v => v.category).sum + 13 ≤ R.locals) (hf : cells ≤ R.cells ∧ slots ≤ R.slots) (hdg : decode cc pc = .ok (.invokestatic idx, 3))
    (kk : W p l e R s m args below meth c H locs cells slots Q (F0 m (pc + 3) ls (.int (if y < x then y else x) :: rest))) : W p l e R s m args below meth c H locs cells slots Q (F0 m pc ls (.int y :: .int x :: rest)) := by
  obtain ⟨hx, hb, -, hml, hown, hts, -⟩ := C0
  exact va_mmin hx hb (hml.trans hl.1.symm) hown (hts _ hlink) (hts _ kq_665) (hts _ kq_16) (hts _ kq_666) hlocals.1 hlocals.2 hf.1 hf.2 hdg kk

theorem kr_iret {v : Int32} {Qp : Int32 → ka_S → Prop} (C0 : ka_C p s m args meth c cc nL own (some .int)) (hK : ka_Kn G s) (hP : ka_P G σ H) (hS : va_S (ka_A G) s.heap H locs) (hq : Qp v σ) (hdg : decode cc pc = .ok (.ireturn, 1)) : W p l e R s m args below meth c H locs cells slots (MQ below (va_Qi Qp (ka_B G) (ka_A G)) args s cells slots (ka_A G)) (F0 m pc ls [.int v]) :=
  W.iret (v := v) C0.1 C0.2.1 C0.2.2.1 (fun t ht hW => ⟨⟨v, σ, rfl, hq, by rw [ht]; exact hP, va_K.moved hW.alike hK⟩, hS.F ht⟩) hS.2.2 hdg C0.2.2.2.2.2.2
theorem kr_zret {v : Int32} {Qp : Int32 → ka_S → Prop} (C0 : ka_C p s m args meth c cc nL own (some .boolean)) (hK : ka_Kn G s) (hP : ka_P G σ H) (hS : va_S (ka_A G) s.heap H locs) (hz : narrow .boolean (.int v) = .int v) (hq : Qp v σ) (hdg : decode cc pc = .ok (.ireturn, 1)) : W p l e R s m args below meth c H locs cells slots (MQ below (va_Qi Qp (ka_B G) (ka_A G)) args s cells slots (ka_A G)) (F0 m pc ls [.int v]) :=
  W.zret (v := v) C0.1 C0.2.1 C0.2.2.1 hz (fun t ht hW => ⟨⟨v, σ, rfl, hq, by rw [ht]; exact hP, va_K.moved hW.alike hK⟩, hS.F ht⟩) hS.2.2 hdg C0.2.2.2.2.2.2
theorem kr_lret {v : Int64} {Qp : Int64 → ka_S → Prop} (C0 : ka_C p s m args meth c cc nL own (some .long)) (hK : ka_Kn G s) (hP : ka_P G σ H) (hS : va_S (ka_A G) s.heap H locs) (hq : Qp v σ) (hdg : decode cc pc = .ok (.lreturn, 1)) : W p l e R s m args below meth c H locs cells slots (MQ below (va_Ql Qp (ka_B G) (ka_A G)) args s cells slots (ka_A G)) (F0 m pc ls [.long v]) :=
  W.lret (v := v) C0.1 C0.2.1 C0.2.2.1 (fun t ht hW => ⟨⟨v, σ, rfl, hq, by rw [ht]; exact hP, va_K.moved hW.alike hK⟩, hS.F ht⟩) hS.2.2 hdg C0.2.2.2.2.2.2
theorem kr_vret {Qp : ka_S → Prop} (C0 : ka_C p s m args meth c cc nL own none) (hK : ka_Kn G s) (hP : ka_P G σ H) (hS : va_S (ka_A G) s.heap H locs) (hq : Qp σ) (hdg : decode cc pc = .ok (.return_, 1)) : W p l e R s m args below meth c H locs cells slots (MQ below (va_Qv Qp (ka_B G) (ka_A G)) args s cells slots (ka_A G)) (F0 m pc ls []) :=
  W.vret C0.1 C0.2.1 C0.2.2.1 (fun t ht hW => ⟨⟨σ, rfl, hq, by rw [ht]; exact hP, va_K.moved hW.alike hK⟩, hS.F ht⟩) hS.2.2 hdg C0.2.2.2.2.2.2
theorem kr_aret {nm : String} {Qp : ka_S → Prop} (C0 : ka_C p s m args meth c cc nL own (some (.object nm))) (hK : ka_Kn G s) (hP : ka_P G σ H) (hS : va_S (ka_A G) s.heap H locs) (hq : Qp σ) (hdg : decode cc pc = .ok (.areturn, 1)) : W p l e R s m args below meth c H locs cells slots (MQ below (va_Qr Qp (fun u a t => a = ka_a G k ∧ ka_B G u t) (ka_A G)) args s cells slots (ka_A G)) (F0 m pc ls [.ref (ka_a G k)]) :=
  W.aret (v := .ref (ka_a G k)) C0.1 C0.2.1 C0.2.2.1 (Or.inl ⟨_, rfl⟩) (Or.inr ⟨_, rfl⟩) (fun t ht hW => ⟨⟨σ, ka_a G k, rfl, hq, rfl, by rw [ht]; exact hP, va_K.moved hW.alike hK⟩, hS.F ht⟩) hS.2.2 hdg C0.2.2.2.2.2.2
end KR
end
section
section KF
variable {p : Program} {l : Launch} {e : Env} {R : Room} {s : State} {m : MethodId} {args : Array Value} {below : List Frame} {meth : Method} {c : Code} {H : Heap} {locs : List Loc} {cells slots : Nat} {Q : State → Prop}
variable {cc : ByteArray} {pc : Nat} {ls : Array Slot} {rest : List Value} {G : ka_G} {σ : ka_S} {H0 : Heap} {own : String} {nL : Nat} {ret : Option FieldType} {idx : Nat}
theorem kg_X4_words {o : Nat} (C0 : ka_C p s m args meth c cc nL own ret) (hK : ka_Kn G s) (hP : ka_P G σ H) (hv : ka_v (0, o, 0)) (hlink : Cond.fieldLink own idx "GlossRows$Page" "words" "[LGlossRows$Word;" ∈ kq_W) (hdg : decode cc pc = .ok (.getfield idx, 3)) (kk : W p l e R s m args below meth c H locs cells slots Q (F0 m (pc + 3) ls (.ref (ka_a G (1, o, 0)) :: rest))) : W p l e R s m args below meth c H locs cells slots Q (F0 m pc ls (.ref (ka_a G (0, o, 0)) :: rest)) :=
  kr_get (ci := 3) (j := 0) (C := RX4) (T := TX4) (N := 6) C0 hK hP hv rfl rfl kq_inX4 (by decide) rfl hlink rfl hdg kk
theorem kg_X4_lexicon {o : Nat} (C0 : ka_C p s m args meth c cc nL own ret) (hK : ka_Kn G s) (hP : ka_P G σ H) (hv : ka_v (0, o, 0)) (hlink : Cond.fieldLink own idx "GlossRows$Page" "lexicon" "LGlossRows$Lexicon;" ∈ kq_W) (hdg : decode cc pc = .ok (.getfield idx, 3)) (kk : W p l e R s m args below meth c H locs cells slots Q (F0 m (pc + 3) ls (.ref (ka_a G (2, o, 0)) :: rest))) : W p l e R s m args below meth c H locs cells slots Q (F0 m pc ls (.ref (ka_a G (0, o, 0)) :: rest)) :=
  kr_get (ci := 3) (j := 1) (C := RX4) (T := TX4) (N := 6) C0 hK hP hv rfl rfl kq_inX4 (by decide) rfl hlink rfl hdg kk
theorem kg_X4_count {o : Nat} (C0 : ka_C p s m args meth c cc nL own ret) (hK : ka_Kn G s) (hP : ka_P G σ H) (hv : ka_v (0, o, 0)) (hlink : Cond.fieldLink own idx "GlossRows$Page" "count" "I" ∈ kq_W) (hdg : decode cc pc = .ok (.getfield idx, 3)) (kk : W p l e R s m args below meth c H locs cells slots Q (F0 m (pc + 3) ls (.int (σ.1 (0, o, 0) 2) :: rest))) : W p l e R s m args below meth c H locs cells slots Q (F0 m pc ls (.ref (ka_a G (0, o, 0)) :: rest)) :=
  kr_get (ci := 3) (j := 2) (C := RX4) (T := TX4) (N := 6) C0 hK hP hv rfl rfl kq_inX4 (by decide) rfl hlink rfl hdg kk
theorem kp_X4_count {o : Nat} {x : Int32} (C0 : ka_C p s m args meth c cc nL own ret) (hK : ka_Kn G s) (hI : ka_I G) (hP : ka_P G σ H) (hS : va_S (ka_A G) H0 H locs) (hv : ka_v (0, o, 0)) (hlink : Cond.fieldLink own idx "GlossRows$Page" "count" "I" ∈ kq_W) (hdg : decode cc pc = .ok (.putfield idx, 3)) (kk : ∀ (H1 : Heap) (locs1 : List Loc), ka_P G (ka_wI σ (0, o, 0) 2 x) H1 → va_S (ka_A G) H0 H1 locs1 → W p l e R s m args below meth c H1 locs1 cells slots Q (F0 m (pc + 3) ls rest)) : W p l e R s m args below meth c H locs cells slots Q (F0 m pc ls (.int x :: .ref (ka_a G (0, o, 0)) :: rest)) :=
  kr_put (ci := 3) (j := 2) (C := RX4) (T := TX4) (N := 6) (ty := tyX4 2) (σ1 := ka_wI σ (0, o, 0) 2 x) C0 hK hI hP hS hv rfl rfl kq_inX4 tyX4 tyX4_ok nmX4 (by decide) rfl hlink rfl (tyX4_ok 2 (by decide)) rfl rfl (Nat.le_of_ble_eq_true rfl) (by simp [ka_c, ka_wI, upd]) (fun k' h => ka_c_I h) hdg kk
theorem kg_X4_width {o : Nat} (C0 : ka_C p s m args meth c cc nL own ret) (hK : ka_Kn G s) (hP : ka_P G σ H) (hv : ka_v (0, o, 0)) (hlink : Cond.fieldLink own idx "GlossRows$Page" "width" "I" ∈ kq_W) (hdg : decode cc pc = .ok (.getfield idx, 3)) (kk : W p l e R s m args below meth c H locs cells slots Q (F0 m (pc + 3) ls (.int (σ.1 (0, o, 0) 3) :: rest))) : W p l e R s m args below meth c H locs cells slots Q (F0 m pc ls (.ref (ka_a G (0, o, 0)) :: rest)) :=
  kr_get (ci := 3) (j := 3) (C := RX4) (T := TX4) (N := 6) C0 hK hP hv rfl rfl kq_inX4 (by decide) rfl hlink rfl hdg kk
theorem kp_X4_width {o : Nat} {x : Int32} (C0 : ka_C p s m args meth c cc nL own ret) (hK : ka_Kn G s) (hI : ka_I G) (hP : ka_P G σ H) (hS : va_S (ka_A G) H0 H locs) (hv : ka_v (0, o, 0)) (hlink : Cond.fieldLink own idx "GlossRows$Page" "width" "I" ∈ kq_W) (hdg : decode cc pc = .ok (.putfield idx, 3)) (kk : ∀ (H1 : Heap) (locs1 : List Loc), ka_P G (ka_wI σ (0, o, 0) 3 x) H1 → va_S (ka_A G) H0 H1 locs1 → W p l e R s m args below meth c H1 locs1 cells slots Q (F0 m (pc + 3) ls rest)) : W p l e R s m args below meth c H locs cells slots Q (F0 m pc ls (.int x :: .ref (ka_a G (0, o, 0)) :: rest)) :=
  kr_put (ci := 3) (j := 3) (C := RX4) (T := TX4) (N := 6) (ty := tyX4 3) (σ1 := ka_wI σ (0, o, 0) 3 x) C0 hK hI hP hS hv rfl rfl kq_inX4 tyX4 tyX4_ok nmX4 (by decide) rfl hlink rfl (tyX4_ok 3 (by decide)) rfl rfl (Nat.le_of_ble_eq_true rfl) (by simp [ka_c, ka_wI, upd]) (fun k' h => ka_c_I h) hdg kk
theorem kg_X4_space {o : Nat} (C0 : ka_C p s m args meth c cc nL own ret) (hK : ka_Kn G s) (hP : ka_P G σ H) (hv : ka_v (0, o, 0)) (hlink : Cond.fieldLink own idx "GlossRows$Page" "space" "I" ∈ kq_W) (hdg : decode cc pc = .ok (.getfield idx, 3)) (kk : W p l e R s m args below meth c H locs cells slots Q (F0 m (pc + 3) ls (.int (σ.1 (0, o, 0) 4) :: rest))) : W p l e R s m args below meth c H locs cells slots Q (F0 m pc ls (.ref (ka_a G (0, o, 0)) :: rest)) :=
  kr_get (ci := 3) (j := 4) (C := RX4) (T := TX4) (N := 6) C0 hK hP hv rfl rfl kq_inX4 (by decide) rfl hlink rfl hdg kk
theorem kp_X4_space {o : Nat} {x : Int32} (C0 : ka_C p s m args meth c cc nL own ret) (hK : ka_Kn G s) (hI : ka_I G) (hP : ka_P G σ H) (hS : va_S (ka_A G) H0 H locs) (hv : ka_v (0, o, 0)) (hlink : Cond.fieldLink own idx "GlossRows$Page" "space" "I" ∈ kq_W) (hdg : decode cc pc = .ok (.putfield idx, 3)) (kk : ∀ (H1 : Heap) (locs1 : List Loc), ka_P G (ka_wI σ (0, o, 0) 4 x) H1 → va_S (ka_A G) H0 H1 locs1 → W p l e R s m args below meth c H1 locs1 cells slots Q (F0 m (pc + 3) ls rest)) : W p l e R s m args below meth c H locs cells slots Q (F0 m pc ls (.int x :: .ref (ka_a G (0, o, 0)) :: rest)) :=
  kr_put (ci := 3) (j := 4) (C := RX4) (T := TX4) (N := 6) (ty := tyX4 4) (σ1 := ka_wI σ (0, o, 0) 4 x) C0 hK hI hP hS hv rfl rfl kq_inX4 tyX4 tyX4_ok nmX4 (by decide) rfl hlink rfl (tyX4_ok 4 (by decide)) rfl rfl (Nat.le_of_ble_eq_true rfl) (by simp [ka_c, ka_wI, upd]) (fun k' h => ka_c_I h) hdg kk
theorem kg_X4_way {o : Nat} (C0 : ka_C p s m args meth c cc nL own ret) (hK : ka_Kn G s) (hP : ka_P G σ H) (hv : ka_v (0, o, 0)) (hlink : Cond.fieldLink own idx "GlossRows$Page" "way" "I" ∈ kq_W) (hdg : decode cc pc = .ok (.getfield idx, 3)) (kk : W p l e R s m args below meth c H locs cells slots Q (F0 m (pc + 3) ls (.int (σ.1 (0, o, 0) 5) :: rest))) : W p l e R s m args below meth c H locs cells slots Q (F0 m pc ls (.ref (ka_a G (0, o, 0)) :: rest)) :=
  kr_get (ci := 3) (j := 5) (C := RX4) (T := TX4) (N := 6) C0 hK hP hv rfl rfl kq_inX4 (by decide) rfl hlink rfl hdg kk
theorem kp_X4_way {o : Nat} {x : Int32} (C0 : ka_C p s m args meth c cc nL own ret) (hK : ka_Kn G s) (hI : ka_I G) (hP : ka_P G σ H) (hS : va_S (ka_A G) H0 H locs) (hv : ka_v (0, o, 0)) (hlink : Cond.fieldLink own idx "GlossRows$Page" "way" "I" ∈ kq_W) (hdg : decode cc pc = .ok (.putfield idx, 3)) (kk : ∀ (H1 : Heap) (locs1 : List Loc), ka_P G (ka_wI σ (0, o, 0) 5 x) H1 → va_S (ka_A G) H0 H1 locs1 → W p l e R s m args below meth c H1 locs1 cells slots Q (F0 m (pc + 3) ls rest)) : W p l e R s m args below meth c H locs cells slots Q (F0 m pc ls (.int x :: .ref (ka_a G (0, o, 0)) :: rest)) :=
  kr_put (ci := 3) (j := 5) (C := RX4) (T := TX4) (N := 6) (ty := tyX4 5) (σ1 := ka_wI σ (0, o, 0) 5 x) C0 hK hI hP hS hv rfl rfl kq_inX4 tyX4 tyX4_ok nmX4 (by decide) rfl hlink rfl (tyX4_ok 5 (by decide)) rfl rfl (Nat.le_of_ble_eq_true rfl) (by simp [ka_c, ka_wI, upd]) (fun k' h => ka_c_I h) hdg kk
theorem kg_X3_parts {o : Nat} (C0 : ka_C p s m args meth c cc nL own ret) (hK : ka_Kn G s) (hP : ka_P G σ H) (hv : ka_v (2, o, 0)) (hlink : Cond.fieldLink own idx "GlossRows$Lexicon" "parts" "[J" ∈ kq_W) (hdg : decode cc pc = .ok (.getfield idx, 3)) (kk : W p l e R s m args below meth c H locs cells slots Q (F0 m (pc + 3) ls (.ref (ka_a G (3, o, 0)) :: rest))) : W p l e R s m args below meth c H locs cells slots Q (F0 m pc ls (.ref (ka_a G (2, o, 0)) :: rest)) :=
  kr_get (ci := 2) (j := 0) (C := RX3) (T := TX3) (N := 3) C0 hK hP hv rfl rfl kq_inX3 (by decide) rfl hlink rfl hdg kk
theorem kg_X3_glosses {o : Nat} (C0 : ka_C p s m args meth c cc nL own ret) (hK : ka_Kn G s) (hP : ka_P G σ H) (hv : ka_v (2, o, 0)) (hlink : Cond.fieldLink own idx "GlossRows$Lexicon" "glosses" "[J" ∈ kq_W) (hdg : decode cc pc = .ok (.getfield idx, 3)) (kk : W p l e R s m args below meth c H locs cells slots Q (F0 m (pc + 3) ls (.ref (ka_a G (4, o, 0)) :: rest))) : W p l e R s m args below meth c H locs cells slots Q (F0 m pc ls (.ref (ka_a G (2, o, 0)) :: rest)) :=
  kr_get (ci := 2) (j := 1) (C := RX3) (T := TX3) (N := 3) C0 hK hP hv rfl rfl kq_inX3 (by decide) rfl hlink rfl hdg kk
theorem kg_X3_size {o : Nat} (C0 : ka_C p s m args meth c cc nL own ret) (hK : ka_Kn G s) (hP : ka_P G σ H) (hv : ka_v (2, o, 0)) (hlink : Cond.fieldLink own idx "GlossRows$Lexicon" "size" "I" ∈ kq_W) (hdg : decode cc pc = .ok (.getfield idx, 3)) (kk : W p l e R s m args below meth c H locs cells slots Q (F0 m (pc + 3) ls (.int (σ.1 (2, o, 0) 2) :: rest))) : W p l e R s m args below meth c H locs cells slots Q (F0 m pc ls (.ref (ka_a G (2, o, 0)) :: rest)) :=
  kr_get (ci := 2) (j := 2) (C := RX3) (T := TX3) (N := 3) C0 hK hP hv rfl rfl kq_inX3 (by decide) rfl hlink rfl hdg kk
theorem kp_X3_size {o : Nat} {x : Int32} (C0 : ka_C p s m args meth c cc nL own ret) (hK : ka_Kn G s) (hI : ka_I G) (hP : ka_P G σ H) (hS : va_S (ka_A G) H0 H locs) (hv : ka_v (2, o, 0)) (hlink : Cond.fieldLink own idx "GlossRows$Lexicon" "size" "I" ∈ kq_W) (hdg : decode cc pc = .ok (.putfield idx, 3)) (kk : ∀ (H1 : Heap) (locs1 : List Loc), ka_P G (ka_wI σ (2, o, 0) 2 x) H1 → va_S (ka_A G) H0 H1 locs1 → W p l e R s m args below meth c H1 locs1 cells slots Q (F0 m (pc + 3) ls rest)) : W p l e R s m args below meth c H locs cells slots Q (F0 m pc ls (.int x :: .ref (ka_a G (2, o, 0)) :: rest)) :=
  kr_put (ci := 2) (j := 2) (C := RX3) (T := TX3) (N := 3) (ty := tyX3 2) (σ1 := ka_wI σ (2, o, 0) 2 x) C0 hK hI hP hS hv rfl rfl kq_inX3 tyX3 tyX3_ok nmX3 (by decide) rfl hlink rfl (tyX3_ok 2 (by decide)) rfl rfl (Nat.le_of_ble_eq_true rfl) (by simp [ka_c, ka_wI, upd]) (fun k' h => ka_c_I h) hdg kk
theorem kg_X7_parts {o i : Nat} (C0 : ka_C p s m args meth c cc nL own ret) (hK : ka_Kn G s) (hP : ka_P G σ H) (hv : ka_v (5, o, i)) (hlink : Cond.fieldLink own idx "GlossRows$Word" "parts" "[J" ∈ kq_W) (hdg : decode cc pc = .ok (.getfield idx, 3)) (kk : W p l e R s m args below meth c H locs cells slots Q (F0 m (pc + 3) ls (.ref (ka_a G (6, o, i)) :: rest))) : W p l e R s m args below meth c H locs cells slots Q (F0 m pc ls (.ref (ka_a G (5, o, i)) :: rest)) :=
  kr_get (ci := 6) (j := 0) (C := RX7) (T := TX7) (N := 7) C0 hK hP hv rfl rfl kq_inX7 (by decide) rfl hlink rfl hdg kk
theorem kg_X7_glosses {o i : Nat} (C0 : ka_C p s m args meth c cc nL own ret) (hK : ka_Kn G s) (hP : ka_P G σ H) (hv : ka_v (5, o, i)) (hlink : Cond.fieldLink own idx "GlossRows$Word" "glosses" "[J" ∈ kq_W) (hdg : decode cc pc = .ok (.getfield idx, 3)) (kk : W p l e R s m args below meth c H locs cells slots Q (F0 m (pc + 3) ls (.ref (ka_a G (7, o, i)) :: rest))) : W p l e R s m args below meth c H locs cells slots Q (F0 m pc ls (.ref (ka_a G (5, o, i)) :: rest)) :=
  kr_get (ci := 6) (j := 1) (C := RX7) (T := TX7) (N := 7) C0 hK hP hv rfl rfl kq_inX7 (by decide) rfl hlink rfl hdg kk
theorem kg_X7_marks {o i : Nat} (C0 : ka_C p s m args meth c cc nL own ret) (hK : ka_Kn G s) (hP : ka_P G σ H) (hv : ka_v (5, o, i)) (hlink : Cond.fieldLink own idx "GlossRows$Word" "marks" "[I" ∈ kq_W) (hdg : decode cc pc = .ok (.getfield idx, 3)) (kk : W p l e R s m args below meth c H locs cells slots Q (F0 m (pc + 3) ls (.ref (ka_a G (8, o, i)) :: rest))) : W p l e R s m args below meth c H locs cells slots Q (F0 m pc ls (.ref (ka_a G (5, o, i)) :: rest)) :=
  kr_get (ci := 6) (j := 2) (C := RX7) (T := TX7) (N := 7) C0 hK hP hv rfl rfl kq_inX7 (by decide) rfl hlink rfl hdg kk
theorem kg_X7_free {o i : Nat} (C0 : ka_C p s m args meth c cc nL own ret) (hK : ka_Kn G s) (hP : ka_P G σ H) (hv : ka_v (5, o, i)) (hlink : Cond.fieldLink own idx "GlossRows$Word" "free" "[I" ∈ kq_W) (hdg : decode cc pc = .ok (.getfield idx, 3)) (kk : W p l e R s m args below meth c H locs cells slots Q (F0 m (pc + 3) ls (.ref (ka_a G (9, o, i)) :: rest))) : W p l e R s m args below meth c H locs cells slots Q (F0 m pc ls (.ref (ka_a G (5, o, i)) :: rest)) :=
  kr_get (ci := 6) (j := 3) (C := RX7) (T := TX7) (N := 7) C0 hK hP hv rfl rfl kq_inX7 (by decide) rfl hlink rfl hdg kk
theorem kg_X7_size {o i : Nat} (C0 : ka_C p s m args meth c cc nL own ret) (hK : ka_Kn G s) (hP : ka_P G σ H) (hv : ka_v (5, o, i)) (hlink : Cond.fieldLink own idx "GlossRows$Word" "size" "I" ∈ kq_W) (hdg : decode cc pc = .ok (.getfield idx, 3)) (kk : W p l e R s m args below meth c H locs cells slots Q (F0 m (pc + 3) ls (.int (σ.1 (5, o, i) 4) :: rest))) : W p l e R s m args below meth c H locs cells slots Q (F0 m pc ls (.ref (ka_a G (5, o, i)) :: rest)) :=
  kr_get (ci := 6) (j := 4) (C := RX7) (T := TX7) (N := 7) C0 hK hP hv rfl rfl kq_inX7 (by decide) rfl hlink rfl hdg kk
theorem kp_X7_size {o i : Nat} {x : Int32} (C0 : ka_C p s m args meth c cc nL own ret) (hK : ka_Kn G s) (hI : ka_I G) (hP : ka_P G σ H) (hS : va_S (ka_A G) H0 H locs) (hv : ka_v (5, o, i)) (hlink : Cond.fieldLink own idx "GlossRows$Word" "size" "I" ∈ kq_W) (hdg : decode cc pc = .ok (.putfield idx, 3)) (kk : ∀ (H1 : Heap) (locs1 : List Loc), ka_P G (ka_wI σ (5, o, i) 4 x) H1 → va_S (ka_A G) H0 H1 locs1 → W p l e R s m args below meth c H1 locs1 cells slots Q (F0 m (pc + 3) ls rest)) : W p l e R s m args below meth c H locs cells slots Q (F0 m pc ls (.int x :: .ref (ka_a G (5, o, i)) :: rest)) :=
  kr_put (ci := 6) (j := 4) (C := RX7) (T := TX7) (N := 7) (ty := tyX7 4) (σ1 := ka_wI σ (5, o, i) 4 x) C0 hK hI hP hS hv rfl rfl kq_inX7 tyX7 tyX7_ok nmX7 (by decide) rfl hlink rfl (tyX7_ok 4 (by decide)) rfl rfl (Nat.le_of_ble_eq_true rfl) (by simp [ka_c, ka_wI, upd]) (fun k' h => ka_c_I h) hdg kk
theorem kg_X7_freeLength {o i : Nat} (C0 : ka_C p s m args meth c cc nL own ret) (hK : ka_Kn G s) (hP : ka_P G σ H) (hv : ka_v (5, o, i)) (hlink : Cond.fieldLink own idx "GlossRows$Word" "freeLength" "I" ∈ kq_W) (hdg : decode cc pc = .ok (.getfield idx, 3)) (kk : W p l e R s m args below meth c H locs cells slots Q (F0 m (pc + 3) ls (.int (σ.1 (5, o, i) 5) :: rest))) : W p l e R s m args below meth c H locs cells slots Q (F0 m pc ls (.ref (ka_a G (5, o, i)) :: rest)) :=
  kr_get (ci := 6) (j := 5) (C := RX7) (T := TX7) (N := 7) C0 hK hP hv rfl rfl kq_inX7 (by decide) rfl hlink rfl hdg kk
theorem kp_X7_freeLength {o i : Nat} {x : Int32} (C0 : ka_C p s m args meth c cc nL own ret) (hK : ka_Kn G s) (hI : ka_I G) (hP : ka_P G σ H) (hS : va_S (ka_A G) H0 H locs) (hv : ka_v (5, o, i)) (hlink : Cond.fieldLink own idx "GlossRows$Word" "freeLength" "I" ∈ kq_W) (hdg : decode cc pc = .ok (.putfield idx, 3)) (kk : ∀ (H1 : Heap) (locs1 : List Loc), ka_P G (ka_wI σ (5, o, i) 5 x) H1 → va_S (ka_A G) H0 H1 locs1 → W p l e R s m args below meth c H1 locs1 cells slots Q (F0 m (pc + 3) ls rest)) : W p l e R s m args below meth c H locs cells slots Q (F0 m pc ls (.int x :: .ref (ka_a G (5, o, i)) :: rest)) :=
  kr_put (ci := 6) (j := 5) (C := RX7) (T := TX7) (N := 7) (ty := tyX7 5) (σ1 := ka_wI σ (5, o, i) 5 x) C0 hK hI hP hS hv rfl rfl kq_inX7 tyX7 tyX7_ok nmX7 (by decide) rfl hlink rfl (tyX7_ok 5 (by decide)) rfl rfl (Nat.le_of_ble_eq_true rfl) (by simp [ka_c, ka_wI, upd]) (fun k' h => ka_c_I h) hdg kk
theorem kg_X7_ended {o i : Nat} (C0 : ka_C p s m args meth c cc nL own ret) (hK : ka_Kn G s) (hP : ka_P G σ H) (hv : ka_v (5, o, i)) (hlink : Cond.fieldLink own idx "GlossRows$Word" "ended" "Z" ∈ kq_W) (hdg : decode cc pc = .ok (.getfield idx, 3)) (kk : W p l e R s m args below meth c H locs cells slots Q (F0 m (pc + 3) ls (.int (σ.1 (5, o, i) 6) :: rest))) : W p l e R s m args below meth c H locs cells slots Q (F0 m pc ls (.ref (ka_a G (5, o, i)) :: rest)) :=
  kr_get (ci := 6) (j := 6) (C := RX7) (T := TX7) (N := 7) C0 hK hP hv rfl rfl kq_inX7 (by decide) rfl hlink rfl hdg kk
theorem kp_X7_ended {o i : Nat} {x : Int32} (C0 : ka_C p s m args meth c cc nL own ret) (hK : ka_Kn G s) (hI : ka_I G) (hP : ka_P G σ H) (hS : va_S (ka_A G) H0 H locs) (hv : ka_v (5, o, i)) (hz : x = 0 ∨ x = 1) (hlink : Cond.fieldLink own idx "GlossRows$Word" "ended" "Z" ∈ kq_W) (hdg : decode cc pc = .ok (.putfield idx, 3)) (kk : ∀ (H1 : Heap) (locs1 : List Loc), ka_P G (ka_wI σ (5, o, i) 6 x) H1 → va_S (ka_A G) H0 H1 locs1 → W p l e R s m args below meth c H1 locs1 cells slots Q (F0 m (pc + 3) ls rest)) : W p l e R s m args below meth c H locs cells slots Q (F0 m pc ls (.int x :: .ref (ka_a G (5, o, i)) :: rest)) :=
  kr_put (ci := 6) (j := 6) (C := RX7) (T := TX7) (N := 7) (ty := tyX7 6) (σ1 := ka_wI σ (5, o, i) 6 x) C0 hK hI hP hS hv rfl rfl kq_inX7 tyX7 tyX7_ok nmX7 (by decide) rfl hlink rfl (tyX7_ok 6 (by decide)) (kz_n hz) (kz_f hz) (Nat.le_of_ble_eq_true rfl) (by simp [ka_c, ka_wI, upd]) (fun k' h => ka_c_I h) hdg kk
theorem kg_X6_codes (C0 : ka_C p s m args meth c cc nL own ret) (hK : ka_Kn G s) (hP : ka_P G σ H) (hv : ka_v (10, 0, 0)) (hlink : Cond.fieldLink own idx "GlossRows$Text" "codes" "[I" ∈ kq_W) (hdg : decode cc pc = .ok (.getfield idx, 3)) (kk : W p l e R s m args below meth c H locs cells slots Q (F0 m (pc + 3) ls (.ref (ka_a G (11, 0, 0)) :: rest))) : W p l e R s m args below meth c H locs cells slots Q (F0 m pc ls (.ref (ka_a G (10, 0, 0)) :: rest)) :=
  kr_get (ci := 5) (j := 0) (C := RX6) (T := TX6) (N := 2) C0 hK hP hv rfl rfl kq_inX6 (by decide) rfl hlink rfl hdg kk
theorem kg_X6_length (C0 : ka_C p s m args meth c cc nL own ret) (hK : ka_Kn G s) (hP : ka_P G σ H) (hv : ka_v (10, 0, 0)) (hlink : Cond.fieldLink own idx "GlossRows$Text" "length" "I" ∈ kq_W) (hdg : decode cc pc = .ok (.getfield idx, 3)) (kk : W p l e R s m args below meth c H locs cells slots Q (F0 m (pc + 3) ls (.int (σ.1 (10, 0, 0) 1) :: rest))) : W p l e R s m args below meth c H locs cells slots Q (F0 m pc ls (.ref (ka_a G (10, 0, 0)) :: rest)) :=
  kr_get (ci := 5) (j := 1) (C := RX6) (T := TX6) (N := 2) C0 hK hP hv rfl rfl kq_inX6 (by decide) rfl hlink rfl hdg kk
theorem kp_X6_length {x : Int32} (C0 : ka_C p s m args meth c cc nL own ret) (hK : ka_Kn G s) (hI : ka_I G) (hP : ka_P G σ H) (hS : va_S (ka_A G) H0 H locs) (hv : ka_v (10, 0, 0)) (hlink : Cond.fieldLink own idx "GlossRows$Text" "length" "I" ∈ kq_W) (hdg : decode cc pc = .ok (.putfield idx, 3)) (kk : ∀ (H1 : Heap) (locs1 : List Loc), ka_P G (ka_wI σ (10, 0, 0) 1 x) H1 → va_S (ka_A G) H0 H1 locs1 → W p l e R s m args below meth c H1 locs1 cells slots Q (F0 m (pc + 3) ls rest)) : W p l e R s m args below meth c H locs cells slots Q (F0 m pc ls (.int x :: .ref (ka_a G (10, 0, 0)) :: rest)) :=
  kr_put (ci := 5) (j := 1) (C := RX6) (T := TX6) (N := 2) (ty := tyX6 1) (σ1 := ka_wI σ (10, 0, 0) 1 x) C0 hK hI hP hS hv rfl rfl kq_inX6 tyX6 tyX6_ok nmX6 (by decide) rfl hlink rfl (tyX6_ok 1 (by decide)) rfl rfl (Nat.le_of_ble_eq_true rfl) (by simp [ka_c, ka_wI, upd]) (fun k' h => ka_c_I h) hdg kk
theorem kg_X1_lines (C0 : ka_C p s m args meth c cc nL own ret) (hK : ka_Kn G s) (hP : ka_P G σ H) (hv : ka_v (12, 0, 0)) (hlink : Cond.fieldLink own idx "GlossRows$Layout" "lines" "[I" ∈ kq_W) (hdg : decode cc pc = .ok (.getfield idx, 3)) (kk : W p l e R s m args below meth c H locs cells slots Q (F0 m (pc + 3) ls (.ref (ka_a G (13, 0, 0)) :: rest))) : W p l e R s m args below meth c H locs cells slots Q (F0 m pc ls (.ref (ka_a G (12, 0, 0)) :: rest)) :=
  kr_get (ci := 1) (j := 0) (C := RX1) (T := TX1) (N := 7) C0 hK hP hv rfl rfl kq_inX1 (by decide) rfl hlink rfl hdg kk
theorem kg_X1_columns (C0 : ka_C p s m args meth c cc nL own ret) (hK : ka_Kn G s) (hP : ka_P G σ H) (hv : ka_v (12, 0, 0)) (hlink : Cond.fieldLink own idx "GlossRows$Layout" "columns" "[I" ∈ kq_W) (hdg : decode cc pc = .ok (.getfield idx, 3)) (kk : W p l e R s m args below meth c H locs cells slots Q (F0 m (pc + 3) ls (.ref (ka_a G (14, 0, 0)) :: rest))) : W p l e R s m args below meth c H locs cells slots Q (F0 m pc ls (.ref (ka_a G (12, 0, 0)) :: rest)) :=
  kr_get (ci := 1) (j := 1) (C := RX1) (T := TX1) (N := 7) C0 hK hP hv rfl rfl kq_inX1 (by decide) rfl hlink rfl hdg kk
theorem kg_X1_sentences (C0 : ka_C p s m args meth c cc nL own ret) (hK : ka_Kn G s) (hP : ka_P G σ H) (hv : ka_v (12, 0, 0)) (hlink : Cond.fieldLink own idx "GlossRows$Layout" "sentences" "[I" ∈ kq_W) (hdg : decode cc pc = .ok (.getfield idx, 3)) (kk : W p l e R s m args below meth c H locs cells slots Q (F0 m (pc + 3) ls (.ref (ka_a G (15, 0, 0)) :: rest))) : W p l e R s m args below meth c H locs cells slots Q (F0 m pc ls (.ref (ka_a G (12, 0, 0)) :: rest)) :=
  kr_get (ci := 1) (j := 2) (C := RX1) (T := TX1) (N := 7) C0 hK hP hv rfl rfl kq_inX1 (by decide) rfl hlink rfl hdg kk
theorem kg_X1_lineCount (C0 : ka_C p s m args meth c cc nL own ret) (hK : ka_Kn G s) (hP : ka_P G σ H) (hv : ka_v (12, 0, 0)) (hlink : Cond.fieldLink own idx "GlossRows$Layout" "lineCount" "I" ∈ kq_W) (hdg : decode cc pc = .ok (.getfield idx, 3)) (kk : W p l e R s m args below meth c H locs cells slots Q (F0 m (pc + 3) ls (.int (σ.1 (12, 0, 0) 3) :: rest))) : W p l e R s m args below meth c H locs cells slots Q (F0 m pc ls (.ref (ka_a G (12, 0, 0)) :: rest)) :=
  kr_get (ci := 1) (j := 3) (C := RX1) (T := TX1) (N := 7) C0 hK hP hv rfl rfl kq_inX1 (by decide) rfl hlink rfl hdg kk
theorem kp_X1_lineCount {x : Int32} (C0 : ka_C p s m args meth c cc nL own ret) (hK : ka_Kn G s) (hI : ka_I G) (hP : ka_P G σ H) (hS : va_S (ka_A G) H0 H locs) (hv : ka_v (12, 0, 0)) (hlink : Cond.fieldLink own idx "GlossRows$Layout" "lineCount" "I" ∈ kq_W) (hdg : decode cc pc = .ok (.putfield idx, 3)) (kk : ∀ (H1 : Heap) (locs1 : List Loc), ka_P G (ka_wI σ (12, 0, 0) 3 x) H1 → va_S (ka_A G) H0 H1 locs1 → W p l e R s m args below meth c H1 locs1 cells slots Q (F0 m (pc + 3) ls rest)) : W p l e R s m args below meth c H locs cells slots Q (F0 m pc ls (.int x :: .ref (ka_a G (12, 0, 0)) :: rest)) :=
  kr_put (ci := 1) (j := 3) (C := RX1) (T := TX1) (N := 7) (ty := tyX1 3) (σ1 := ka_wI σ (12, 0, 0) 3 x) C0 hK hI hP hS hv rfl rfl kq_inX1 tyX1 tyX1_ok nmX1 (by decide) rfl hlink rfl (tyX1_ok 3 (by decide)) rfl rfl (Nat.le_of_ble_eq_true rfl) (by simp [ka_c, ka_wI, upd]) (fun k' h => ka_c_I h) hdg kk
theorem kg_X1_rowCount (C0 : ka_C p s m args meth c cc nL own ret) (hK : ka_Kn G s) (hP : ka_P G σ H) (hv : ka_v (12, 0, 0)) (hlink : Cond.fieldLink own idx "GlossRows$Layout" "rowCount" "I" ∈ kq_W) (hdg : decode cc pc = .ok (.getfield idx, 3)) (kk : W p l e R s m args below meth c H locs cells slots Q (F0 m (pc + 3) ls (.int (σ.1 (12, 0, 0) 4) :: rest))) : W p l e R s m args below meth c H locs cells slots Q (F0 m pc ls (.ref (ka_a G (12, 0, 0)) :: rest)) :=
  kr_get (ci := 1) (j := 4) (C := RX1) (T := TX1) (N := 7) C0 hK hP hv rfl rfl kq_inX1 (by decide) rfl hlink rfl hdg kk
theorem kp_X1_rowCount {x : Int32} (C0 : ka_C p s m args meth c cc nL own ret) (hK : ka_Kn G s) (hI : ka_I G) (hP : ka_P G σ H) (hS : va_S (ka_A G) H0 H locs) (hv : ka_v (12, 0, 0)) (hlink : Cond.fieldLink own idx "GlossRows$Layout" "rowCount" "I" ∈ kq_W) (hdg : decode cc pc = .ok (.putfield idx, 3)) (kk : ∀ (H1 : Heap) (locs1 : List Loc), ka_P G (ka_wI σ (12, 0, 0) 4 x) H1 → va_S (ka_A G) H0 H1 locs1 → W p l e R s m args below meth c H1 locs1 cells slots Q (F0 m (pc + 3) ls rest)) : W p l e R s m args below meth c H locs cells slots Q (F0 m pc ls (.int x :: .ref (ka_a G (12, 0, 0)) :: rest)) :=
  kr_put (ci := 1) (j := 4) (C := RX1) (T := TX1) (N := 7) (ty := tyX1 4) (σ1 := ka_wI σ (12, 0, 0) 4 x) C0 hK hI hP hS hv rfl rfl kq_inX1 tyX1 tyX1_ok nmX1 (by decide) rfl hlink rfl (tyX1_ok 4 (by decide)) rfl rfl (Nat.le_of_ble_eq_true rfl) (by simp [ka_c, ka_wI, upd]) (fun k' h => ka_c_I h) hdg kk
theorem kg_X1_widths (C0 : ka_C p s m args meth c cc nL own ret) (hK : ka_Kn G s) (hP : ka_P G σ H) (hv : ka_v (12, 0, 0)) (hlink : Cond.fieldLink own idx "GlossRows$Layout" "widths" "[I" ∈ kq_W) (hdg : decode cc pc = .ok (.getfield idx, 3)) (kk : W p l e R s m args below meth c H locs cells slots Q (F0 m (pc + 3) ls (.ref (ka_a G (16, 0, 0)) :: rest))) : W p l e R s m args below meth c H locs cells slots Q (F0 m pc ls (.ref (ka_a G (12, 0, 0)) :: rest)) :=
  kr_get (ci := 1) (j := 5) (C := RX1) (T := TX1) (N := 7) C0 hK hP hv rfl rfl kq_inX1 (by decide) rfl hlink rfl hdg kk
theorem kg_X1_firstRows (C0 : ka_C p s m args meth c cc nL own ret) (hK : ka_Kn G s) (hP : ka_P G σ H) (hv : ka_v (12, 0, 0)) (hlink : Cond.fieldLink own idx "GlossRows$Layout" "firstRows" "[I" ∈ kq_W) (hdg : decode cc pc = .ok (.getfield idx, 3)) (kk : W p l e R s m args below meth c H locs cells slots Q (F0 m (pc + 3) ls (.ref (ka_a G (17, 0, 0)) :: rest))) : W p l e R s m args below meth c H locs cells slots Q (F0 m pc ls (.ref (ka_a G (12, 0, 0)) :: rest)) :=
  kr_get (ci := 1) (j := 6) (C := RX1) (T := TX1) (N := 7) C0 hK hP hv rfl rfl kq_inX1 (by decide) rfl hlink rfl hdg kk
theorem kg_X5_words (C0 : ka_C p s m args meth c cc nL own ret) (hK : ka_Kn G s) (hP : ka_P G σ H) (hv : ka_v (18, 0, 0)) (hlink : Cond.fieldLink own idx "GlossRows$Reader" "words" "[LGlossRows$Word;" ∈ kq_W) (hdg : decode cc pc = .ok (.getfield idx, 3)) (kk : W p l e R s m args below meth c H locs cells slots Q (F0 m (pc + 3) ls (.ref (ka_a G (19, 0, 0)) :: rest))) : W p l e R s m args below meth c H locs cells slots Q (F0 m pc ls (.ref (ka_a G (18, 0, 0)) :: rest)) :=
  kr_get (ci := 4) (j := 0) (C := RX5) (T := TX5) (N := 5) C0 hK hP hv rfl rfl kq_inX5 (by decide) rfl hlink rfl hdg kk
theorem kg_X5_count (C0 : ka_C p s m args meth c cc nL own ret) (hK : ka_Kn G s) (hP : ka_P G σ H) (hv : ka_v (18, 0, 0)) (hlink : Cond.fieldLink own idx "GlossRows$Reader" "count" "I" ∈ kq_W) (hdg : decode cc pc = .ok (.getfield idx, 3)) (kk : W p l e R s m args below meth c H locs cells slots Q (F0 m (pc + 3) ls (.int (σ.1 (18, 0, 0) 1) :: rest))) : W p l e R s m args below meth c H locs cells slots Q (F0 m pc ls (.ref (ka_a G (18, 0, 0)) :: rest)) :=
  kr_get (ci := 4) (j := 1) (C := RX5) (T := TX5) (N := 5) C0 hK hP hv rfl rfl kq_inX5 (by decide) rfl hlink rfl hdg kk
theorem kp_X5_count {x : Int32} (C0 : ka_C p s m args meth c cc nL own ret) (hK : ka_Kn G s) (hI : ka_I G) (hP : ka_P G σ H) (hS : va_S (ka_A G) H0 H locs) (hv : ka_v (18, 0, 0)) (hlink : Cond.fieldLink own idx "GlossRows$Reader" "count" "I" ∈ kq_W) (hdg : decode cc pc = .ok (.putfield idx, 3)) (kk : ∀ (H1 : Heap) (locs1 : List Loc), ka_P G (ka_wI σ (18, 0, 0) 1 x) H1 → va_S (ka_A G) H0 H1 locs1 → W p l e R s m args below meth c H1 locs1 cells slots Q (F0 m (pc + 3) ls rest)) : W p l e R s m args below meth c H locs cells slots Q (F0 m pc ls (.int x :: .ref (ka_a G (18, 0, 0)) :: rest)) :=
  kr_put (ci := 4) (j := 1) (C := RX5) (T := TX5) (N := 5) (ty := tyX5 1) (σ1 := ka_wI σ (18, 0, 0) 1 x) C0 hK hI hP hS hv rfl rfl kq_inX5 tyX5 tyX5_ok nmX5 (by decide) rfl hlink rfl (tyX5_ok 1 (by decide)) rfl rfl (Nat.le_of_ble_eq_true rfl) (by simp [ka_c, ka_wI, upd]) (fun k' h => ka_c_I h) hdg kk
theorem kg_X5_current (C0 : ka_C p s m args meth c cc nL own ret) (hK : ka_Kn G s) (hP : ka_P G σ H) (hv : ka_v (18, 0, 0)) (hlink : Cond.fieldLink own idx "GlossRows$Reader" "current" "LGlossRows$Word;" ∈ kq_W) (hdg : decode cc pc = .ok (.getfield idx, 3)) (kk : W p l e R s m args below meth c H locs cells slots Q (F0 m (pc + 3) ls (.ref (ka_a G (5, 18, (σ.1 (18, 0, 0) 2).toNatClampNeg)) :: rest))) : W p l e R s m args below meth c H locs cells slots Q (F0 m pc ls (.ref (ka_a G (18, 0, 0)) :: rest)) :=
  kr_get (ci := 4) (j := 2) (C := RX5) (T := TX5) (N := 5) C0 hK hP hv rfl rfl kq_inX5 (by decide) rfl hlink rfl hdg kk
theorem kp_X5_current {x : Int32} (C0 : ka_C p s m args meth c cc nL own ret) (hK : ka_Kn G s) (hI : ka_I G) (hP : ka_P G σ H) (hS : va_S (ka_A G) H0 H locs) (hv : ka_v (18, 0, 0)) (hlink : Cond.fieldLink own idx "GlossRows$Reader" "current" "LGlossRows$Word;" ∈ kq_W) (hdg : decode cc pc = .ok (.putfield idx, 3)) (kk : ∀ (H1 : Heap) (locs1 : List Loc), ka_P G (ka_wI σ (18, 0, 0) 2 x) H1 → va_S (ka_A G) H0 H1 locs1 → W p l e R s m args below meth c H1 locs1 cells slots Q (F0 m (pc + 3) ls rest)) : W p l e R s m args below meth c H locs cells slots Q (F0 m pc ls (.ref (ka_a G (5, 18, x.toNatClampNeg)) :: .ref (ka_a G (18, 0, 0)) :: rest)) :=
  kr_put (ci := 4) (j := 2) (C := RX5) (T := TX5) (N := 5) (ty := tyX5 2) (σ1 := ka_wI σ (18, 0, 0) 2 x) C0 hK hI hP hS hv rfl rfl kq_inX5 tyX5 tyX5_ok nmX5 (by decide) rfl hlink rfl (tyX5_ok 2 (by decide)) rfl rfl (Nat.le_of_ble_eq_true rfl) (by simp [ka_c, ka_wI, upd]) (fun k' h => ka_c_I h) hdg kk
theorem kg_X5_inGlosses (C0 : ka_C p s m args meth c cc nL own ret) (hK : ka_Kn G s) (hP : ka_P G σ H) (hv : ka_v (18, 0, 0)) (hlink : Cond.fieldLink own idx "GlossRows$Reader" "inGlosses" "Z" ∈ kq_W) (hdg : decode cc pc = .ok (.getfield idx, 3)) (kk : W p l e R s m args below meth c H locs cells slots Q (F0 m (pc + 3) ls (.int (σ.1 (18, 0, 0) 3) :: rest))) : W p l e R s m args below meth c H locs cells slots Q (F0 m pc ls (.ref (ka_a G (18, 0, 0)) :: rest)) :=
  kr_get (ci := 4) (j := 3) (C := RX5) (T := TX5) (N := 5) C0 hK hP hv rfl rfl kq_inX5 (by decide) rfl hlink rfl hdg kk
theorem kp_X5_inGlosses {x : Int32} (C0 : ka_C p s m args meth c cc nL own ret) (hK : ka_Kn G s) (hI : ka_I G) (hP : ka_P G σ H) (hS : va_S (ka_A G) H0 H locs) (hv : ka_v (18, 0, 0)) (hz : x = 0 ∨ x = 1) (hlink : Cond.fieldLink own idx "GlossRows$Reader" "inGlosses" "Z" ∈ kq_W) (hdg : decode cc pc = .ok (.putfield idx, 3)) (kk : ∀ (H1 : Heap) (locs1 : List Loc), ka_P G (ka_wI σ (18, 0, 0) 3 x) H1 → va_S (ka_A G) H0 H1 locs1 → W p l e R s m args below meth c H1 locs1 cells slots Q (F0 m (pc + 3) ls rest)) : W p l e R s m args below meth c H locs cells slots Q (F0 m pc ls (.int x :: .ref (ka_a G (18, 0, 0)) :: rest)) :=
  kr_put (ci := 4) (j := 3) (C := RX5) (T := TX5) (N := 5) (ty := tyX5 3) (σ1 := ka_wI σ (18, 0, 0) 3 x) C0 hK hI hP hS hv rfl rfl kq_inX5 tyX5 tyX5_ok nmX5 (by decide) rfl hlink rfl (tyX5_ok 3 (by decide)) (kz_n hz) (kz_f hz) (Nat.le_of_ble_eq_true rfl) (by simp [ka_c, ka_wI, upd]) (fun k' h => ka_c_I h) hdg kk
theorem kg_X5_place (C0 : ka_C p s m args meth c cc nL own ret) (hK : ka_Kn G s) (hP : ka_P G σ H) (hv : ka_v (18, 0, 0)) (hlink : Cond.fieldLink own idx "GlossRows$Reader" "place" "I" ∈ kq_W) (hdg : decode cc pc = .ok (.getfield idx, 3)) (kk : W p l e R s m args below meth c H locs cells slots Q (F0 m (pc + 3) ls (.int (σ.1 (18, 0, 0) 4) :: rest))) : W p l e R s m args below meth c H locs cells slots Q (F0 m pc ls (.ref (ka_a G (18, 0, 0)) :: rest)) :=
  kr_get (ci := 4) (j := 4) (C := RX5) (T := TX5) (N := 5) C0 hK hP hv rfl rfl kq_inX5 (by decide) rfl hlink rfl hdg kk
theorem kp_X5_place {x : Int32} (C0 : ka_C p s m args meth c cc nL own ret) (hK : ka_Kn G s) (hI : ka_I G) (hP : ka_P G σ H) (hS : va_S (ka_A G) H0 H locs) (hv : ka_v (18, 0, 0)) (hlink : Cond.fieldLink own idx "GlossRows$Reader" "place" "I" ∈ kq_W) (hdg : decode cc pc = .ok (.putfield idx, 3)) (kk : ∀ (H1 : Heap) (locs1 : List Loc), ka_P G (ka_wI σ (18, 0, 0) 4 x) H1 → va_S (ka_A G) H0 H1 locs1 → W p l e R s m args below meth c H1 locs1 cells slots Q (F0 m (pc + 3) ls rest)) : W p l e R s m args below meth c H locs cells slots Q (F0 m pc ls (.int x :: .ref (ka_a G (18, 0, 0)) :: rest)) :=
  kr_put (ci := 4) (j := 4) (C := RX5) (T := TX5) (N := 5) (ty := tyX5 4) (σ1 := ka_wI σ (18, 0, 0) 4 x) C0 hK hI hP hS hv rfl rfl kq_inX5 tyX5 tyX5_ok nmX5 (by decide) rfl hlink rfl (tyX5_ok 4 (by decide)) rfl rfl (Nat.le_of_ble_eq_true rfl) (by simp [ka_c, ka_wI, upd]) (fun k' h => ka_c_I h) hdg kk
theorem kg_X0_pages (C0 : ka_C p s m args meth c cc nL own ret) (hK : ka_Kn G s) (hP : ka_P G σ H) (hv : ka_v (20, 0, 0)) (hlink : Cond.fieldLink own idx "GlossRows$History" "pages" "[LGlossRows$Page;" ∈ kq_W) (hdg : decode cc pc = .ok (.getfield idx, 3)) (kk : W p l e R s m args below meth c H locs cells slots Q (F0 m (pc + 3) ls (.ref (ka_a G (21, 0, 0)) :: rest))) : W p l e R s m args below meth c H locs cells slots Q (F0 m pc ls (.ref (ka_a G (20, 0, 0)) :: rest)) :=
  kr_get (ci := 0) (j := 0) (C := RX0) (T := TX0) (N := 3) C0 hK hP hv rfl rfl kq_inX0 (by decide) rfl hlink rfl hdg kk
theorem kg_X0_count (C0 : ka_C p s m args meth c cc nL own ret) (hK : ka_Kn G s) (hP : ka_P G σ H) (hv : ka_v (20, 0, 0)) (hlink : Cond.fieldLink own idx "GlossRows$History" "count" "I" ∈ kq_W) (hdg : decode cc pc = .ok (.getfield idx, 3)) (kk : W p l e R s m args below meth c H locs cells slots Q (F0 m (pc + 3) ls (.int (σ.1 (20, 0, 0) 1) :: rest))) : W p l e R s m args below meth c H locs cells slots Q (F0 m pc ls (.ref (ka_a G (20, 0, 0)) :: rest)) :=
  kr_get (ci := 0) (j := 1) (C := RX0) (T := TX0) (N := 3) C0 hK hP hv rfl rfl kq_inX0 (by decide) rfl hlink rfl hdg kk
theorem kp_X0_count {x : Int32} (C0 : ka_C p s m args meth c cc nL own ret) (hK : ka_Kn G s) (hI : ka_I G) (hP : ka_P G σ H) (hS : va_S (ka_A G) H0 H locs) (hv : ka_v (20, 0, 0)) (hlink : Cond.fieldLink own idx "GlossRows$History" "count" "I" ∈ kq_W) (hdg : decode cc pc = .ok (.putfield idx, 3)) (kk : ∀ (H1 : Heap) (locs1 : List Loc), ka_P G (ka_wI σ (20, 0, 0) 1 x) H1 → va_S (ka_A G) H0 H1 locs1 → W p l e R s m args below meth c H1 locs1 cells slots Q (F0 m (pc + 3) ls rest)) : W p l e R s m args below meth c H locs cells slots Q (F0 m pc ls (.int x :: .ref (ka_a G (20, 0, 0)) :: rest)) :=
  kr_put (ci := 0) (j := 1) (C := RX0) (T := TX0) (N := 3) (ty := tyX0 1) (σ1 := ka_wI σ (20, 0, 0) 1 x) C0 hK hI hP hS hv rfl rfl kq_inX0 tyX0 tyX0_ok nmX0 (by decide) rfl hlink rfl (tyX0_ok 1 (by decide)) rfl rfl (Nat.le_of_ble_eq_true rfl) (by simp [ka_c, ka_wI, upd]) (fun k' h => ka_c_I h) hdg kk
theorem kg_X0_oldest (C0 : ka_C p s m args meth c cc nL own ret) (hK : ka_Kn G s) (hP : ka_P G σ H) (hv : ka_v (20, 0, 0)) (hlink : Cond.fieldLink own idx "GlossRows$History" "oldest" "I" ∈ kq_W) (hdg : decode cc pc = .ok (.getfield idx, 3)) (kk : W p l e R s m args below meth c H locs cells slots Q (F0 m (pc + 3) ls (.int (σ.1 (20, 0, 0) 2) :: rest))) : W p l e R s m args below meth c H locs cells slots Q (F0 m pc ls (.ref (ka_a G (20, 0, 0)) :: rest)) :=
  kr_get (ci := 0) (j := 2) (C := RX0) (T := TX0) (N := 3) C0 hK hP hv rfl rfl kq_inX0 (by decide) rfl hlink rfl hdg kk
theorem kp_X0_oldest {x : Int32} (C0 : ka_C p s m args meth c cc nL own ret) (hK : ka_Kn G s) (hI : ka_I G) (hP : ka_P G σ H) (hS : va_S (ka_A G) H0 H locs) (hv : ka_v (20, 0, 0)) (hlink : Cond.fieldLink own idx "GlossRows$History" "oldest" "I" ∈ kq_W) (hdg : decode cc pc = .ok (.putfield idx, 3)) (kk : ∀ (H1 : Heap) (locs1 : List Loc), ka_P G (ka_wI σ (20, 0, 0) 2 x) H1 → va_S (ka_A G) H0 H1 locs1 → W p l e R s m args below meth c H1 locs1 cells slots Q (F0 m (pc + 3) ls rest)) : W p l e R s m args below meth c H locs cells slots Q (F0 m pc ls (.int x :: .ref (ka_a G (20, 0, 0)) :: rest)) :=
  kr_put (ci := 0) (j := 2) (C := RX0) (T := TX0) (N := 3) (ty := tyX0 2) (σ1 := ka_wI σ (20, 0, 0) 2 x) C0 hK hI hP hS hv rfl rfl kq_inX0 tyX0 tyX0_ok nmX0 (by decide) rfl hlink rfl (tyX0_ok 2 (by decide)) rfl rfl (Nat.le_of_ble_eq_true rfl) (by simp [ka_c, ka_wI, upd]) (fun k' h => ka_c_I h) hdg kk
theorem kg_X8_text (C0 : ka_C p s m args meth c cc nL own ret) (hK : ka_Kn G s) (hP : ka_P G σ H) (hv : ka_v (22, 0, 0)) (hlink : Cond.fieldLink own idx "GlossRows" "text" "LGlossRows$Text;" ∈ kq_W) (hdg : decode cc pc = .ok (.getfield idx, 3)) (kk : W p l e R s m args below meth c H locs cells slots Q (F0 m (pc + 3) ls (.ref (ka_a G (10, 0, 0)) :: rest))) : W p l e R s m args below meth c H locs cells slots Q (F0 m pc ls (.ref (ka_a G (22, 0, 0)) :: rest)) :=
  kr_get (ci := 7) (j := 0) (C := RX8) (T := TX8) (N := 8) C0 hK hP hv rfl rfl kq_inX8 (by decide) rfl hlink rfl hdg kk
theorem kg_X8_reader (C0 : ka_C p s m args meth c cc nL own ret) (hK : ka_Kn G s) (hP : ka_P G σ H) (hv : ka_v (22, 0, 0)) (hlink : Cond.fieldLink own idx "GlossRows" "reader" "LGlossRows$Reader;" ∈ kq_W) (hdg : decode cc pc = .ok (.getfield idx, 3)) (kk : W p l e R s m args below meth c H locs cells slots Q (F0 m (pc + 3) ls (.ref (ka_a G (18, 0, 0)) :: rest))) : W p l e R s m args below meth c H locs cells slots Q (F0 m pc ls (.ref (ka_a G (22, 0, 0)) :: rest)) :=
  kr_get (ci := 7) (j := 1) (C := RX8) (T := TX8) (N := 8) C0 hK hP hv rfl rfl kq_inX8 (by decide) rfl hlink rfl hdg kk
theorem kg_X8_page (C0 : ka_C p s m args meth c cc nL own ret) (hK : ka_Kn G s) (hP : ka_P G σ H) (hv : ka_v (22, 0, 0)) (hlink : Cond.fieldLink own idx "GlossRows" "page" "LGlossRows$Page;" ∈ kq_W) (hdg : decode cc pc = .ok (.getfield idx, 3)) (kk : W p l e R s m args below meth c H locs cells slots Q (F0 m (pc + 3) ls (.ref (ka_a G (0, 0, 0)) :: rest))) : W p l e R s m args below meth c H locs cells slots Q (F0 m pc ls (.ref (ka_a G (22, 0, 0)) :: rest)) :=
  kr_get (ci := 7) (j := 2) (C := RX8) (T := TX8) (N := 8) C0 hK hP hv rfl rfl kq_inX8 (by decide) rfl hlink rfl hdg kk
theorem kg_X8_trial (C0 : ka_C p s m args meth c cc nL own ret) (hK : ka_Kn G s) (hP : ka_P G σ H) (hv : ka_v (22, 0, 0)) (hlink : Cond.fieldLink own idx "GlossRows" "trial" "LGlossRows$Page;" ∈ kq_W) (hdg : decode cc pc = .ok (.getfield idx, 3)) (kk : W p l e R s m args below meth c H locs cells slots Q (F0 m (pc + 3) ls (.ref (ka_a G (0, 1, 0)) :: rest))) : W p l e R s m args below meth c H locs cells slots Q (F0 m pc ls (.ref (ka_a G (22, 0, 0)) :: rest)) :=
  kr_get (ci := 7) (j := 3) (C := RX8) (T := TX8) (N := 8) C0 hK hP hv rfl rfl kq_inX8 (by decide) rfl hlink rfl hdg kk
theorem kg_X8_layout (C0 : ka_C p s m args meth c cc nL own ret) (hK : ka_Kn G s) (hP : ka_P G σ H) (hv : ka_v (22, 0, 0)) (hlink : Cond.fieldLink own idx "GlossRows" "layout" "LGlossRows$Layout;" ∈ kq_W) (hdg : decode cc pc = .ok (.getfield idx, 3)) (kk : W p l e R s m args below meth c H locs cells slots Q (F0 m (pc + 3) ls (.ref (ka_a G (12, 0, 0)) :: rest))) : W p l e R s m args below meth c H locs cells slots Q (F0 m pc ls (.ref (ka_a G (22, 0, 0)) :: rest)) :=
  kr_get (ci := 7) (j := 4) (C := RX8) (T := TX8) (N := 8) C0 hK hP hv rfl rfl kq_inX8 (by decide) rfl hlink rfl hdg kk
theorem kg_X8_history (C0 : ka_C p s m args meth c cc nL own ret) (hK : ka_Kn G s) (hP : ka_P G σ H) (hv : ka_v (22, 0, 0)) (hlink : Cond.fieldLink own idx "GlossRows" "history" "LGlossRows$History;" ∈ kq_W) (hdg : decode cc pc = .ok (.getfield idx, 3)) (kk : W p l e R s m args below meth c H locs cells slots Q (F0 m (pc + 3) ls (.ref (ka_a G (20, 0, 0)) :: rest))) : W p l e R s m args below meth c H locs cells slots Q (F0 m pc ls (.ref (ka_a G (22, 0, 0)) :: rest)) :=
  kr_get (ci := 7) (j := 5) (C := RX8) (T := TX8) (N := 8) C0 hK hP hv rfl rfl kq_inX8 (by decide) rfl hlink rfl hdg kk
theorem kg_X8_slots (C0 : ka_C p s m args meth c cc nL own ret) (hK : ka_Kn G s) (hP : ka_P G σ H) (hv : ka_v (22, 0, 0)) (hlink : Cond.fieldLink own idx "GlossRows" "slots" "[LGlossRows$Page;" ∈ kq_W) (hdg : decode cc pc = .ok (.getfield idx, 3)) (kk : W p l e R s m args below meth c H locs cells slots Q (F0 m (pc + 3) ls (.ref (ka_a G (23, 0, 0)) :: rest))) : W p l e R s m args below meth c H locs cells slots Q (F0 m pc ls (.ref (ka_a G (22, 0, 0)) :: rest)) :=
  kr_get (ci := 7) (j := 6) (C := RX8) (T := TX8) (N := 8) C0 hK hP hv rfl rfl kq_inX8 (by decide) rfl hlink rfl hdg kk
theorem kg_X8_saved (C0 : ka_C p s m args meth c cc nL own ret) (hK : ka_Kn G s) (hP : ka_P G σ H) (hv : ka_v (22, 0, 0)) (hlink : Cond.fieldLink own idx "GlossRows" "saved" "[Z" ∈ kq_W) (hdg : decode cc pc = .ok (.getfield idx, 3)) (kk : W p l e R s m args below meth c H locs cells slots Q (F0 m (pc + 3) ls (.ref (ka_a G (24, 0, 0)) :: rest))) : W p l e R s m args below meth c H locs cells slots Q (F0 m pc ls (.ref (ka_a G (22, 0, 0)) :: rest)) :=
  kr_get (ci := 7) (j := 7) (C := RX8) (T := TX8) (N := 8) C0 hK hP hv rfl rfl kq_inX8 (by decide) rfl hlink rfl hdg kk
theorem kg_X9_refusal (C0 : ka_C p s m args meth c cc nL own ret) (hK : ka_Kn G s) (hP : ka_P G σ H) (hv : ka_v (25, 0, 0)) (hlink : Cond.fieldLink own idx "GlossRowsModel" "refusal" "I" ∈ kq_W) (hdg : decode cc pc = .ok (.getfield idx, 3)) (kk : W p l e R s m args below meth c H locs cells slots Q (F0 m (pc + 3) ls (.int (σ.1 (25, 0, 0) 0) :: rest))) : W p l e R s m args below meth c H locs cells slots Q (F0 m pc ls (.ref (ka_a G (25, 0, 0)) :: rest)) :=
  kr_get (ci := 8) (j := 0) (C := RX9) (T := TX9) (N := 22) C0 hK hP hv rfl rfl kq_inX9 (by decide) rfl hlink rfl hdg kk
theorem kp_X9_refusal {x : Int32} (C0 : ka_C p s m args meth c cc nL own ret) (hK : ka_Kn G s) (hI : ka_I G) (hP : ka_P G σ H) (hS : va_S (ka_A G) H0 H locs) (hv : ka_v (25, 0, 0)) (hlink : Cond.fieldLink own idx "GlossRowsModel" "refusal" "I" ∈ kq_W) (hdg : decode cc pc = .ok (.putfield idx, 3)) (kk : ∀ (H1 : Heap) (locs1 : List Loc), ka_P G (ka_wI σ (25, 0, 0) 0 x) H1 → va_S (ka_A G) H0 H1 locs1 → W p l e R s m args below meth c H1 locs1 cells slots Q (F0 m (pc + 3) ls rest)) : W p l e R s m args below meth c H locs cells slots Q (F0 m pc ls (.int x :: .ref (ka_a G (25, 0, 0)) :: rest)) :=
  kr_put (ci := 8) (j := 0) (C := RX9) (T := TX9) (N := 22) (ty := tyX9 0) (σ1 := ka_wI σ (25, 0, 0) 0 x) C0 hK hI hP hS hv rfl rfl kq_inX9 tyX9 tyX9_ok nmX9 (by decide) rfl hlink rfl (tyX9_ok 0 (by decide)) rfl rfl (Nat.le_of_ble_eq_true rfl) (by simp [ka_c, ka_wI, upd]) (fun k' h => ka_c_I h) hdg kk
theorem kg_X9_script (C0 : ka_C p s m args meth c cc nL own ret) (hK : ka_Kn G s) (hP : ka_P G σ H) (hv : ka_v (25, 0, 0)) (hlink : Cond.fieldLink own idx "GlossRowsModel" "script" "[I" ∈ kq_W) (hdg : decode cc pc = .ok (.getfield idx, 3)) (kk : W p l e R s m args below meth c H locs cells slots Q (F0 m (pc + 3) ls (.ref (ka_a G (26, 0, 0)) :: rest))) : W p l e R s m args below meth c H locs cells slots Q (F0 m pc ls (.ref (ka_a G (25, 0, 0)) :: rest)) :=
  kr_get (ci := 8) (j := 1) (C := RX9) (T := TX9) (N := 22) C0 hK hP hv rfl rfl kq_inX9 (by decide) rfl hlink rfl hdg kk
theorem kg_X9_scriptSize (C0 : ka_C p s m args meth c cc nL own ret) (hK : ka_Kn G s) (hP : ka_P G σ H) (hv : ka_v (25, 0, 0)) (hlink : Cond.fieldLink own idx "GlossRowsModel" "scriptSize" "I" ∈ kq_W) (hdg : decode cc pc = .ok (.getfield idx, 3)) (kk : W p l e R s m args below meth c H locs cells slots Q (F0 m (pc + 3) ls (.int (σ.1 (25, 0, 0) 2) :: rest))) : W p l e R s m args below meth c H locs cells slots Q (F0 m pc ls (.ref (ka_a G (25, 0, 0)) :: rest)) :=
  kr_get (ci := 8) (j := 2) (C := RX9) (T := TX9) (N := 22) C0 hK hP hv rfl rfl kq_inX9 (by decide) rfl hlink rfl hdg kk
theorem kp_X9_scriptSize {x : Int32} (C0 : ka_C p s m args meth c cc nL own ret) (hK : ka_Kn G s) (hI : ka_I G) (hP : ka_P G σ H) (hS : va_S (ka_A G) H0 H locs) (hv : ka_v (25, 0, 0)) (hlink : Cond.fieldLink own idx "GlossRowsModel" "scriptSize" "I" ∈ kq_W) (hdg : decode cc pc = .ok (.putfield idx, 3)) (kk : ∀ (H1 : Heap) (locs1 : List Loc), ka_P G (ka_wI σ (25, 0, 0) 2 x) H1 → va_S (ka_A G) H0 H1 locs1 → W p l e R s m args below meth c H1 locs1 cells slots Q (F0 m (pc + 3) ls rest)) : W p l e R s m args below meth c H locs cells slots Q (F0 m pc ls (.int x :: .ref (ka_a G (25, 0, 0)) :: rest)) :=
  kr_put (ci := 8) (j := 2) (C := RX9) (T := TX9) (N := 22) (ty := tyX9 2) (σ1 := ka_wI σ (25, 0, 0) 2 x) C0 hK hI hP hS hv rfl rfl kq_inX9 tyX9 tyX9_ok nmX9 (by decide) rfl hlink rfl (tyX9_ok 2 (by decide)) rfl rfl (Nat.le_of_ble_eq_true rfl) (by simp [ka_c, ka_wI, upd]) (fun k' h => ka_c_I h) hdg kk
theorem kg_X9_readMany (C0 : ka_C p s m args meth c cc nL own ret) (hK : ka_Kn G s) (hP : ka_P G σ H) (hv : ka_v (25, 0, 0)) (hlink : Cond.fieldLink own idx "GlossRowsModel" "readMany" "I" ∈ kq_W) (hdg : decode cc pc = .ok (.getfield idx, 3)) (kk : W p l e R s m args below meth c H locs cells slots Q (F0 m (pc + 3) ls (.int (σ.1 (25, 0, 0) 3) :: rest))) : W p l e R s m args below meth c H locs cells slots Q (F0 m pc ls (.ref (ka_a G (25, 0, 0)) :: rest)) :=
  kr_get (ci := 8) (j := 3) (C := RX9) (T := TX9) (N := 22) C0 hK hP hv rfl rfl kq_inX9 (by decide) rfl hlink rfl hdg kk
theorem kp_X9_readMany {x : Int32} (C0 : ka_C p s m args meth c cc nL own ret) (hK : ka_Kn G s) (hI : ka_I G) (hP : ka_P G σ H) (hS : va_S (ka_A G) H0 H locs) (hv : ka_v (25, 0, 0)) (hlink : Cond.fieldLink own idx "GlossRowsModel" "readMany" "I" ∈ kq_W) (hdg : decode cc pc = .ok (.putfield idx, 3)) (kk : ∀ (H1 : Heap) (locs1 : List Loc), ka_P G (ka_wI σ (25, 0, 0) 3 x) H1 → va_S (ka_A G) H0 H1 locs1 → W p l e R s m args below meth c H1 locs1 cells slots Q (F0 m (pc + 3) ls rest)) : W p l e R s m args below meth c H locs cells slots Q (F0 m pc ls (.int x :: .ref (ka_a G (25, 0, 0)) :: rest)) :=
  kr_put (ci := 8) (j := 3) (C := RX9) (T := TX9) (N := 22) (ty := tyX9 3) (σ1 := ka_wI σ (25, 0, 0) 3 x) C0 hK hI hP hS hv rfl rfl kq_inX9 tyX9 tyX9_ok nmX9 (by decide) rfl hlink rfl (tyX9_ok 3 (by decide)) rfl rfl (Nat.le_of_ble_eq_true rfl) (by simp [ka_c, ka_wI, upd]) (fun k' h => ka_c_I h) hdg kk
theorem kg_X9_read (C0 : ka_C p s m args meth c cc nL own ret) (hK : ka_Kn G s) (hP : ka_P G σ H) (hv : ka_v (25, 0, 0)) (hlink : Cond.fieldLink own idx "GlossRowsModel" "read" "[J" ∈ kq_W) (hdg : decode cc pc = .ok (.getfield idx, 3)) (kk : W p l e R s m args below meth c H locs cells slots Q (F0 m (pc + 3) ls (.ref (ka_a G (36, 0, 0)) :: rest))) : W p l e R s m args below meth c H locs cells slots Q (F0 m pc ls (.ref (ka_a G (25, 0, 0)) :: rest)) :=
  kr_get (ci := 8) (j := 4) (C := RX9) (T := TX9) (N := 22) C0 hK hP hv rfl rfl kq_inX9 (by decide) rfl hlink rfl hdg kk
theorem kg_X9_now (C0 : ka_C p s m args meth c cc nL own ret) (hK : ka_Kn G s) (hP : ka_P G σ H) (hv : ka_v (25, 0, 0)) (hlink : Cond.fieldLink own idx "GlossRowsModel" "now" "[J" ∈ kq_W) (hdg : decode cc pc = .ok (.getfield idx, 3)) (kk : W p l e R s m args below meth c H locs cells slots Q (F0 m (pc + 3) ls (.ref (ka_a G (37, 0, 0)) :: rest))) : W p l e R s m args below meth c H locs cells slots Q (F0 m pc ls (.ref (ka_a G (25, 0, 0)) :: rest)) :=
  kr_get (ci := 8) (j := 5) (C := RX9) (T := TX9) (N := 22) C0 hK hP hv rfl rfl kq_inX9 (by decide) rfl hlink rfl hdg kk
theorem kg_X9_trial (C0 : ka_C p s m args meth c cc nL own ret) (hK : ka_Kn G s) (hP : ka_P G σ H) (hv : ka_v (25, 0, 0)) (hlink : Cond.fieldLink own idx "GlossRowsModel" "trial" "[J" ∈ kq_W) (hdg : decode cc pc = .ok (.getfield idx, 3)) (kk : W p l e R s m args below meth c H locs cells slots Q (F0 m (pc + 3) ls (.ref (ka_a G (38, 0, 0)) :: rest))) : W p l e R s m args below meth c H locs cells slots Q (F0 m pc ls (.ref (ka_a G (25, 0, 0)) :: rest)) :=
  kr_get (ci := 8) (j := 6) (C := RX9) (T := TX9) (N := 22) C0 hK hP hv rfl rfl kq_inX9 (by decide) rfl hlink rfl hdg kk
theorem kg_X9_diary (C0 : ka_C p s m args meth c cc nL own ret) (hK : ka_Kn G s) (hP : ka_P G σ H) (hv : ka_v (25, 0, 0)) (hlink : Cond.fieldLink own idx "GlossRowsModel" "diary" "[J" ∈ kq_W) (hdg : decode cc pc = .ok (.getfield idx, 3)) (kk : W p l e R s m args below meth c H locs cells slots Q (F0 m (pc + 3) ls (.ref (ka_a G (39, 0, 0)) :: rest))) : W p l e R s m args below meth c H locs cells slots Q (F0 m pc ls (.ref (ka_a G (25, 0, 0)) :: rest)) :=
  kr_get (ci := 8) (j := 7) (C := RX9) (T := TX9) (N := 22) C0 hK hP hv rfl rfl kq_inX9 (by decide) rfl hlink rfl hdg kk
theorem kg_X9_acts (C0 : ka_C p s m args meth c cc nL own ret) (hK : ka_Kn G s) (hP : ka_P G σ H) (hv : ka_v (25, 0, 0)) (hlink : Cond.fieldLink own idx "GlossRowsModel" "acts" "I" ∈ kq_W) (hdg : decode cc pc = .ok (.getfield idx, 3)) (kk : W p l e R s m args below meth c H locs cells slots Q (F0 m (pc + 3) ls (.int (σ.1 (25, 0, 0) 8) :: rest))) : W p l e R s m args below meth c H locs cells slots Q (F0 m pc ls (.ref (ka_a G (25, 0, 0)) :: rest)) :=
  kr_get (ci := 8) (j := 8) (C := RX9) (T := TX9) (N := 22) C0 hK hP hv rfl rfl kq_inX9 (by decide) rfl hlink rfl hdg kk
theorem kp_X9_acts {x : Int32} (C0 : ka_C p s m args meth c cc nL own ret) (hK : ka_Kn G s) (hI : ka_I G) (hP : ka_P G σ H) (hS : va_S (ka_A G) H0 H locs) (hv : ka_v (25, 0, 0)) (hlink : Cond.fieldLink own idx "GlossRowsModel" "acts" "I" ∈ kq_W) (hdg : decode cc pc = .ok (.putfield idx, 3)) (kk : ∀ (H1 : Heap) (locs1 : List Loc), ka_P G (ka_wI σ (25, 0, 0) 8 x) H1 → va_S (ka_A G) H0 H1 locs1 → W p l e R s m args below meth c H1 locs1 cells slots Q (F0 m (pc + 3) ls rest)) : W p l e R s m args below meth c H locs cells slots Q (F0 m pc ls (.int x :: .ref (ka_a G (25, 0, 0)) :: rest)) :=
  kr_put (ci := 8) (j := 8) (C := RX9) (T := TX9) (N := 22) (ty := tyX9 8) (σ1 := ka_wI σ (25, 0, 0) 8 x) C0 hK hI hP hS hv rfl rfl kq_inX9 tyX9 tyX9_ok nmX9 (by decide) rfl hlink rfl (tyX9_ok 8 (by decide)) rfl rfl (Nat.le_of_ble_eq_true rfl) (by simp [ka_c, ka_wI, upd]) (fun k' h => ka_c_I h) hdg kk
theorem kg_X9_kept (C0 : ka_C p s m args meth c cc nL own ret) (hK : ka_Kn G s) (hP : ka_P G σ H) (hv : ka_v (25, 0, 0)) (hlink : Cond.fieldLink own idx "GlossRowsModel" "kept" "[J" ∈ kq_W) (hdg : decode cc pc = .ok (.getfield idx, 3)) (kk : W p l e R s m args below meth c H locs cells slots Q (F0 m (pc + 3) ls (.ref (ka_a G (40, 0, 0)) :: rest))) : W p l e R s m args below meth c H locs cells slots Q (F0 m pc ls (.ref (ka_a G (25, 0, 0)) :: rest)) :=
  kr_get (ci := 8) (j := 9) (C := RX9) (T := TX9) (N := 22) C0 hK hP hv rfl rfl kq_inX9 (by decide) rfl hlink rfl hdg kk
theorem kg_X9_isKept (C0 : ka_C p s m args meth c cc nL own ret) (hK : ka_Kn G s) (hP : ka_P G σ H) (hv : ka_v (25, 0, 0)) (hlink : Cond.fieldLink own idx "GlossRowsModel" "isKept" "[Z" ∈ kq_W) (hdg : decode cc pc = .ok (.getfield idx, 3)) (kk : W p l e R s m args below meth c H locs cells slots Q (F0 m (pc + 3) ls (.ref (ka_a G (35, 0, 0)) :: rest))) : W p l e R s m args below meth c H locs cells slots Q (F0 m pc ls (.ref (ka_a G (25, 0, 0)) :: rest)) :=
  kr_get (ci := 8) (j := 10) (C := RX9) (T := TX9) (N := 22) C0 hK hP hv rfl rfl kq_inX9 (by decide) rfl hlink rfl hdg kk
theorem kg_X9_lines (C0 : ka_C p s m args meth c cc nL own ret) (hK : ka_Kn G s) (hP : ka_P G σ H) (hv : ka_v (25, 0, 0)) (hlink : Cond.fieldLink own idx "GlossRowsModel" "lines" "I" ∈ kq_W) (hdg : decode cc pc = .ok (.getfield idx, 3)) (kk : W p l e R s m args below meth c H locs cells slots Q (F0 m (pc + 3) ls (.int (σ.1 (25, 0, 0) 11) :: rest))) : W p l e R s m args below meth c H locs cells slots Q (F0 m pc ls (.ref (ka_a G (25, 0, 0)) :: rest)) :=
  kr_get (ci := 8) (j := 11) (C := RX9) (T := TX9) (N := 22) C0 hK hP hv rfl rfl kq_inX9 (by decide) rfl hlink rfl hdg kk
theorem kp_X9_lines {x : Int32} (C0 : ka_C p s m args meth c cc nL own ret) (hK : ka_Kn G s) (hI : ka_I G) (hP : ka_P G σ H) (hS : va_S (ka_A G) H0 H locs) (hv : ka_v (25, 0, 0)) (hlink : Cond.fieldLink own idx "GlossRowsModel" "lines" "I" ∈ kq_W) (hdg : decode cc pc = .ok (.putfield idx, 3)) (kk : ∀ (H1 : Heap) (locs1 : List Loc), ka_P G (ka_wI σ (25, 0, 0) 11 x) H1 → va_S (ka_A G) H0 H1 locs1 → W p l e R s m args below meth c H1 locs1 cells slots Q (F0 m (pc + 3) ls rest)) : W p l e R s m args below meth c H locs cells slots Q (F0 m pc ls (.int x :: .ref (ka_a G (25, 0, 0)) :: rest)) :=
  kr_put (ci := 8) (j := 11) (C := RX9) (T := TX9) (N := 22) (ty := tyX9 11) (σ1 := ka_wI σ (25, 0, 0) 11 x) C0 hK hI hP hS hv rfl rfl kq_inX9 tyX9 tyX9_ok nmX9 (by decide) rfl hlink rfl (tyX9_ok 11 (by decide)) rfl rfl (Nat.le_of_ble_eq_true rfl) (by simp [ka_c, ka_wI, upd]) (fun k' h => ka_c_I h) hdg kk
theorem kg_X9_rows (C0 : ka_C p s m args meth c cc nL own ret) (hK : ka_Kn G s) (hP : ka_P G σ H) (hv : ka_v (25, 0, 0)) (hlink : Cond.fieldLink own idx "GlossRowsModel" "rows" "I" ∈ kq_W) (hdg : decode cc pc = .ok (.getfield idx, 3)) (kk : W p l e R s m args below meth c H locs cells slots Q (F0 m (pc + 3) ls (.int (σ.1 (25, 0, 0) 12) :: rest))) : W p l e R s m args below meth c H locs cells slots Q (F0 m pc ls (.ref (ka_a G (25, 0, 0)) :: rest)) :=
  kr_get (ci := 8) (j := 12) (C := RX9) (T := TX9) (N := 22) C0 hK hP hv rfl rfl kq_inX9 (by decide) rfl hlink rfl hdg kk
theorem kp_X9_rows {x : Int32} (C0 : ka_C p s m args meth c cc nL own ret) (hK : ka_Kn G s) (hI : ka_I G) (hP : ka_P G σ H) (hS : va_S (ka_A G) H0 H locs) (hv : ka_v (25, 0, 0)) (hlink : Cond.fieldLink own idx "GlossRowsModel" "rows" "I" ∈ kq_W) (hdg : decode cc pc = .ok (.putfield idx, 3)) (kk : ∀ (H1 : Heap) (locs1 : List Loc), ka_P G (ka_wI σ (25, 0, 0) 12 x) H1 → va_S (ka_A G) H0 H1 locs1 → W p l e R s m args below meth c H1 locs1 cells slots Q (F0 m (pc + 3) ls rest)) : W p l e R s m args below meth c H locs cells slots Q (F0 m pc ls (.int x :: .ref (ka_a G (25, 0, 0)) :: rest)) :=
  kr_put (ci := 8) (j := 12) (C := RX9) (T := TX9) (N := 22) (ty := tyX9 12) (σ1 := ka_wI σ (25, 0, 0) 12 x) C0 hK hI hP hS hv rfl rfl kq_inX9 tyX9 tyX9_ok nmX9 (by decide) rfl hlink rfl (tyX9_ok 12 (by decide)) rfl rfl (Nat.le_of_ble_eq_true rfl) (by simp [ka_c, ka_wI, upd]) (fun k' h => ka_c_I h) hdg kk
theorem kg_X9_sentences (C0 : ka_C p s m args meth c cc nL own ret) (hK : ka_Kn G s) (hP : ka_P G σ H) (hv : ka_v (25, 0, 0)) (hlink : Cond.fieldLink own idx "GlossRowsModel" "sentences" "I" ∈ kq_W) (hdg : decode cc pc = .ok (.getfield idx, 3)) (kk : W p l e R s m args below meth c H locs cells slots Q (F0 m (pc + 3) ls (.int (σ.1 (25, 0, 0) 13) :: rest))) : W p l e R s m args below meth c H locs cells slots Q (F0 m pc ls (.ref (ka_a G (25, 0, 0)) :: rest)) :=
  kr_get (ci := 8) (j := 13) (C := RX9) (T := TX9) (N := 22) C0 hK hP hv rfl rfl kq_inX9 (by decide) rfl hlink rfl hdg kk
theorem kp_X9_sentences {x : Int32} (C0 : ka_C p s m args meth c cc nL own ret) (hK : ka_Kn G s) (hI : ka_I G) (hP : ka_P G σ H) (hS : va_S (ka_A G) H0 H locs) (hv : ka_v (25, 0, 0)) (hlink : Cond.fieldLink own idx "GlossRowsModel" "sentences" "I" ∈ kq_W) (hdg : decode cc pc = .ok (.putfield idx, 3)) (kk : ∀ (H1 : Heap) (locs1 : List Loc), ka_P G (ka_wI σ (25, 0, 0) 13 x) H1 → va_S (ka_A G) H0 H1 locs1 → W p l e R s m args below meth c H1 locs1 cells slots Q (F0 m (pc + 3) ls rest)) : W p l e R s m args below meth c H locs cells slots Q (F0 m pc ls (.int x :: .ref (ka_a G (25, 0, 0)) :: rest)) :=
  kr_put (ci := 8) (j := 13) (C := RX9) (T := TX9) (N := 22) (ty := tyX9 13) (σ1 := ka_wI σ (25, 0, 0) 13 x) C0 hK hI hP hS hv rfl rfl kq_inX9 tyX9 tyX9_ok nmX9 (by decide) rfl hlink rfl (tyX9_ok 13 (by decide)) rfl rfl (Nat.le_of_ble_eq_true rfl) (by simp [ka_c, ka_wI, upd]) (fun k' h => ka_c_I h) hdg kk
theorem kg_X9_lineOf (C0 : ka_C p s m args meth c cc nL own ret) (hK : ka_Kn G s) (hP : ka_P G σ H) (hv : ka_v (25, 0, 0)) (hlink : Cond.fieldLink own idx "GlossRowsModel" "lineOf" "[I" ∈ kq_W) (hdg : decode cc pc = .ok (.getfield idx, 3)) (kk : W p l e R s m args below meth c H locs cells slots Q (F0 m (pc + 3) ls (.ref (ka_a G (27, 0, 0)) :: rest))) : W p l e R s m args below meth c H locs cells slots Q (F0 m pc ls (.ref (ka_a G (25, 0, 0)) :: rest)) :=
  kr_get (ci := 8) (j := 14) (C := RX9) (T := TX9) (N := 22) C0 hK hP hv rfl rfl kq_inX9 (by decide) rfl hlink rfl hdg kk
theorem kg_X9_columnOf (C0 : ka_C p s m args meth c cc nL own ret) (hK : ka_Kn G s) (hP : ka_P G σ H) (hv : ka_v (25, 0, 0)) (hlink : Cond.fieldLink own idx "GlossRowsModel" "columnOf" "[I" ∈ kq_W) (hdg : decode cc pc = .ok (.getfield idx, 3)) (kk : W p l e R s m args below meth c H locs cells slots Q (F0 m (pc + 3) ls (.ref (ka_a G (28, 0, 0)) :: rest))) : W p l e R s m args below meth c H locs cells slots Q (F0 m pc ls (.ref (ka_a G (25, 0, 0)) :: rest)) :=
  kr_get (ci := 8) (j := 15) (C := RX9) (T := TX9) (N := 22) C0 hK hP hv rfl rfl kq_inX9 (by decide) rfl hlink rfl hdg kk
theorem kg_X9_widthOf (C0 : ka_C p s m args meth c cc nL own ret) (hK : ka_Kn G s) (hP : ka_P G σ H) (hv : ka_v (25, 0, 0)) (hlink : Cond.fieldLink own idx "GlossRowsModel" "widthOf" "[I" ∈ kq_W) (hdg : decode cc pc = .ok (.getfield idx, 3)) (kk : W p l e R s m args below meth c H locs cells slots Q (F0 m (pc + 3) ls (.ref (ka_a G (29, 0, 0)) :: rest))) : W p l e R s m args below meth c H locs cells slots Q (F0 m pc ls (.ref (ka_a G (25, 0, 0)) :: rest)) :=
  kr_get (ci := 8) (j := 16) (C := RX9) (T := TX9) (N := 22) C0 hK hP hv rfl rfl kq_inX9 (by decide) rfl hlink rfl hdg kk
theorem kg_X9_sentenceOf (C0 : ka_C p s m args meth c cc nL own ret) (hK : ka_Kn G s) (hP : ka_P G σ H) (hv : ka_v (25, 0, 0)) (hlink : Cond.fieldLink own idx "GlossRowsModel" "sentenceOf" "[I" ∈ kq_W) (hdg : decode cc pc = .ok (.getfield idx, 3)) (kk : W p l e R s m args below meth c H locs cells slots Q (F0 m (pc + 3) ls (.ref (ka_a G (30, 0, 0)) :: rest))) : W p l e R s m args below meth c H locs cells slots Q (F0 m pc ls (.ref (ka_a G (25, 0, 0)) :: rest)) :=
  kr_get (ci := 8) (j := 17) (C := RX9) (T := TX9) (N := 22) C0 hK hP hv rfl rfl kq_inX9 (by decide) rfl hlink rfl hdg kk
theorem kg_X9_lengthOf (C0 : ka_C p s m args meth c cc nL own ret) (hK : ka_Kn G s) (hP : ka_P G σ H) (hv : ka_v (25, 0, 0)) (hlink : Cond.fieldLink own idx "GlossRowsModel" "lengthOf" "[I" ∈ kq_W) (hdg : decode cc pc = .ok (.getfield idx, 3)) (kk : W p l e R s m args below meth c H locs cells slots Q (F0 m (pc + 3) ls (.ref (ka_a G (31, 0, 0)) :: rest))) : W p l e R s m args below meth c H locs cells slots Q (F0 m pc ls (.ref (ka_a G (25, 0, 0)) :: rest)) :=
  kr_get (ci := 8) (j := 18) (C := RX9) (T := TX9) (N := 22) C0 hK hP hv rfl rfl kq_inX9 (by decide) rfl hlink rfl hdg kk
theorem kg_X9_rowKind (C0 : ka_C p s m args meth c cc nL own ret) (hK : ka_Kn G s) (hP : ka_P G σ H) (hv : ka_v (25, 0, 0)) (hlink : Cond.fieldLink own idx "GlossRowsModel" "rowKind" "[I" ∈ kq_W) (hdg : decode cc pc = .ok (.getfield idx, 3)) (kk : W p l e R s m args below meth c H locs cells slots Q (F0 m (pc + 3) ls (.ref (ka_a G (32, 0, 0)) :: rest))) : W p l e R s m args below meth c H locs cells slots Q (F0 m pc ls (.ref (ka_a G (25, 0, 0)) :: rest)) :=
  kr_get (ci := 8) (j := 19) (C := RX9) (T := TX9) (N := 22) C0 hK hP hv rfl rfl kq_inX9 (by decide) rfl hlink rfl hdg kk
theorem kg_X9_rowOf (C0 : ka_C p s m args meth c cc nL own ret) (hK : ka_Kn G s) (hP : ka_P G σ H) (hv : ka_v (25, 0, 0)) (hlink : Cond.fieldLink own idx "GlossRowsModel" "rowOf" "[I" ∈ kq_W) (hdg : decode cc pc = .ok (.getfield idx, 3)) (kk : W p l e R s m args below meth c H locs cells slots Q (F0 m (pc + 3) ls (.ref (ka_a G (33, 0, 0)) :: rest))) : W p l e R s m args below meth c H locs cells slots Q (F0 m pc ls (.ref (ka_a G (25, 0, 0)) :: rest)) :=
  kr_get (ci := 8) (j := 20) (C := RX9) (T := TX9) (N := 22) C0 hK hP hv rfl rfl kq_inX9 (by decide) rfl hlink rfl hdg kk
theorem kg_X9_rowFrom (C0 : ka_C p s m args meth c cc nL own ret) (hK : ka_Kn G s) (hP : ka_P G σ H) (hv : ka_v (25, 0, 0)) (hlink : Cond.fieldLink own idx "GlossRowsModel" "rowFrom" "[I" ∈ kq_W) (hdg : decode cc pc = .ok (.getfield idx, 3)) (kk : W p l e R s m args below meth c H locs cells slots Q (F0 m (pc + 3) ls (.ref (ka_a G (34, 0, 0)) :: rest))) : W p l e R s m args below meth c H locs cells slots Q (F0 m pc ls (.ref (ka_a G (25, 0, 0)) :: rest)) :=
  kr_get (ci := 8) (j := 21) (C := RX9) (T := TX9) (N := 22) C0 hK hP hv rfl rfl kq_inX9 (by decide) rfl hlink rfl hdg kk
end KF
theorem kd_X0_clear : kd_V yX0_clear cX0_clear 1 none 0 := ⟨kq_527, kq_528, kq_8, kq_529, by decide +kernel⟩
theorem kd_X0_remember : kd_V yX0_remember cX0_remember 2 none 1 := ⟨kq_344, kq_345, kq_8, kq_346, by decide +kernel⟩
theorem kd_X0_takeBack : kd_V yX0_takeBack cX0_takeBack 2 none 1 := ⟨kq_841, kq_842, kq_8, kq_843, by decide +kernel⟩
theorem kd_X1_measure : kd_V yX1_measure cX1_measure 4 none 2 := ⟨kq_388, kq_389, kq_7, kq_390, by decide +kernel⟩
theorem kd_X1_wrap : kd_V yX1_wrap cX1_wrap 8 none 2 := ⟨kq_405, kq_406, kq_7, kq_407, by decide +kernel⟩
theorem kd_X1_rowsOfFree : kd_S yX1_rowsOfFree cX1_rowsOfFree 2 (some .int) 2 := ⟨kq_409, kq_7, kq_410, by decide +kernel⟩
theorem kd_X1_countWider : kd_V yX1_countWider cX1_countWider 5 (some .int) 2 := ⟨kq_554, kq_555, kq_7, kq_556, by decide +kernel⟩
theorem kd_X1_countEmpty : kd_V yX1_countEmpty cX1_countEmpty 6 (some .int) 2 := ⟨kq_412, kq_413, kq_7, kq_414, by decide +kernel⟩
theorem kd_X1_kindOfRow : kd_V yX1_kindOfRow cX1_kindOfRow 3 (some .int) 2 := ⟨kq_657, kq_658, kq_7, kq_659, by decide +kernel⟩
theorem kd_X1_lengthOfRow : kd_V yX1_lengthOfRow cX1_lengthOfRow 4 (some .int) 2 := ⟨kq_668, kq_669, kq_7, kq_670, by decide +kernel⟩
theorem kd_X1_sentenceOfRow : kd_V yX1_sentenceOfRow cX1_sentenceOfRow 3 (some .int) 2 := ⟨kq_677, kq_678, kq_7, kq_679, by decide +kernel⟩
theorem kd_X1_codeInRow : kd_V yX1_codeInRow cX1_codeInRow 7 (some .int) 3 := ⟨kq_689, kq_690, kq_7, kq_691, by decide +kernel⟩
theorem kd_X1_beginInFree : kd_V yX1_beginInFree cX1_beginInFree 3 (some .int) 2 := ⟨kq_674, kq_s20, kq_7, kq_675, by decide +kernel⟩
theorem kd_X1_lastWordOfRow : kd_V yX1_lastWordOfRow cX1_lastWordOfRow 5 (some .int) 2 := ⟨kq_662, kq_s19, kq_7, kq_663, by decide +kernel⟩
theorem kd_X2_length : kd_S yX2_length cX2_length 2 (some .int) 1 := ⟨kq_299, kq_15, kq_300, by decide +kernel⟩
theorem kd_X2_code : kd_S yX2_code cX2_code 3 (some .int) 2 := ⟨kq_630, kq_15, kq_631, by decide +kernel⟩
theorem kd_X2_with : kd_S yX2_with cX2_with 4 (some .long) 2 := ⟨kq_328, kq_15, kq_329, by decide +kernel⟩
theorem kd_X2_placeOf : kd_S yX2_placeOf cX2_placeOf 1 (some .int) 1 := ⟨kq_332, kq_15, kq_333, by decide +kernel⟩
theorem kd_X2_isLetter : kd_S yX2_isLetter cX2_isLetter 1 (some .boolean) 1 := ⟨kq_325, kq_15, kq_326, by decide +kernel⟩
theorem kd_X2_isGlossLetter : kd_S yX2_isGlossLetter cX2_isGlossLetter 1 (some .boolean) 1 := ⟨kq_322, kq_15, kq_323, by decide +kernel⟩
theorem kd_X2_isMark : kd_S yX2_isMark cX2_isMark 1 (some .boolean) 1 := ⟨kq_307, kq_15, kq_308, by decide +kernel⟩
theorem kd_X3_copyFrom : kd_V yX3_copyFrom cX3_copyFrom 3 none 1 := ⟨kq_356, kq_357, kq_6, kq_358, by decide +kernel⟩
theorem kd_X3_find : kd_V yX3_find cX3_find 4 (some .int) 1 := ⟨kq_364, kq_365, kq_6, kq_366, by decide +kernel⟩
theorem kd_X3_canTake : kd_V yX3_canTake cX3_canTake 3 (some .boolean) 1 := ⟨kq_803, kq_804, kq_6, kq_805, by decide +kernel⟩
theorem kd_X3_take : kd_V yX3_take cX3_take 6 none 2 := ⟨kq_814, kq_815, kq_6, kq_816, by decide +kernel⟩
theorem kd_X3_makePlaceFor : kd_V yX3_makePlaceFor cX3_makePlaceFor 4 (some .int) 1 := ⟨kq_819, kq_s21, kq_6, kq_820, by decide +kernel⟩
theorem kd_X3_drop : kd_V yX3_drop cX3_drop 3 none 1 := ⟨kq_829, kq_830, kq_6, kq_831, by decide +kernel⟩
theorem kd_X4_reset : kd_V yX4_reset cX4_reset 1 none 0 := ⟨kq_146, kq_147, kq_5, kq_148, by decide +kernel⟩
theorem kd_X4_copyFrom : kd_V yX4_copyFrom cX4_copyFrom 3 none 1 := ⟨kq_348, kq_349, kq_5, kq_350, by decide +kernel⟩
theorem kd_X4_hasWord : kd_V yX4_hasWord cX4_hasWord 2 (some .boolean) 1 := ⟨kq_575, kq_576, kq_5, kq_577, by decide +kernel⟩
theorem kd_X4_hasPart : kd_V yX4_hasPart cX4_hasPart 3 (some .boolean) 2 := ⟨kq_609, kq_610, kq_5, kq_611, by decide +kernel⟩
theorem kd_X4_addWords : kd_V yX4_addWords cX4_addWords 5 none 2 := ⟨kq_523, kq_524, kq_5, kq_525, by decide +kernel⟩
theorem kd_X4_dropWord : kd_V yX4_dropWord cX4_dropWord 3 none 1 := ⟨kq_719, kq_720, kq_5, kq_721, by decide +kernel⟩
theorem kd_X4_allows : kd_S yX4_allows cX4_allows 2 (some .boolean) 2 := ⟨kq_783, kq_5, kq_784, by decide +kernel⟩
theorem kd_X4_change : kd_V yX4_change cX4_change 4 (some .int) 2 := ⟨kq_787, kq_788, kq_5, kq_789, by decide +kernel⟩
theorem kd_X4_canLearn : kd_V yX4_canLearn cX4_canLearn 3 (some .boolean) 2 := ⟨kq_798, kq_799, kq_5, kq_800, by decide +kernel⟩
theorem kd_X4_learnPart : kd_V yX4_learnPart cX4_learnPart 3 none 2 := ⟨kq_809, kq_810, kq_5, kq_811, by decide +kernel⟩
theorem kd_X4_fill : kd_V yX4_fill cX4_fill 5 (some .int) 0 := ⟨kq_360, kq_361, kq_5, kq_362, by decide +kernel⟩
theorem kd_X4_countParts : kd_V yX4_countParts cX4_countParts 3 (some .int) 0 := ⟨kq_538, kq_539, kq_5, kq_540, by decide +kernel⟩
theorem kd_X4_countGaps : kd_V yX4_countGaps cX4_countGaps 3 (some .int) 0 := ⟨kq_542, kq_543, kq_5, kq_544, by decide +kernel⟩
theorem kd_X4_countSentences : kd_V yX4_countSentences cX4_countSentences 3 (some .int) 0 := ⟨kq_550, kq_551, kq_5, kq_552, by decide +kernel⟩
theorem kd_X4_countDiffering : kd_V yX4_countDiffering cX4_countDiffering 7 (some .int) 0 := ⟨kq_558, kq_559, kq_5, kq_560, by decide +kernel⟩
theorem kd_X4_placeOfGap : kd_V yX4_placeOfGap cX4_placeOfGap 5 (some .int) 1 := ⟨kq_852, kq_853, kq_5, kq_854, by decide +kernel⟩
theorem kd_X4_placeOfMostUsed : kd_V yX4_placeOfMostUsed cX4_placeOfMostUsed 10 (some .int) 0 := ⟨kq_372, kq_373, kq_5, kq_374, by decide +kernel⟩
theorem kd_X4_countUses : kd_V yX4_countUses cX4_countUses 6 (some .int) 1 := ⟨kq_377, kq_s10, kq_5, kq_378, by decide +kernel⟩
theorem kd_X5_read : kd_V yX5_read cX5_read 3 (some .int) 1 := ⟨kq_267, kq_268, kq_3, kq_269, by decide +kernel⟩
theorem kd_X5_openWord : kd_V yX5_openWord cX5_openWord 1 none 0 := ⟨kq_272, kq_s0, kq_3, kq_273, by decide +kernel⟩
theorem kd_X5_takes : kd_V yX5_takes cX5_takes 2 (some .boolean) 1 := ⟨kq_284, kq_s1, kq_3, kq_285, by decide +kernel⟩
theorem kd_X5_takesBlank : kd_V yX5_takesBlank cX5_takesBlank 1 (some .boolean) 0 := ⟨kq_288, kq_s2, kq_3, kq_289, by decide +kernel⟩
theorem kd_X5_takesColon : kd_V yX5_takesColon cX5_takesColon 1 (some .boolean) 0 := ⟨kq_304, kq_s5, kq_3, kq_305, by decide +kernel⟩
theorem kd_X5_takesMarkOfParts : kd_V yX5_takesMarkOfParts cX5_takesMarkOfParts 2 (some .boolean) 1 := ⟨kq_315, kq_s7, kq_3, kq_316, by decide +kernel⟩
theorem kd_X5_takesMarkOfGlosses : kd_V yX5_takesMarkOfGlosses cX5_takesMarkOfGlosses 2 (some .boolean) 1 := ⟨kq_311, kq_s6, kq_3, kq_312, by decide +kernel⟩
theorem kd_X5_takesLetter : kd_V yX5_takesLetter cX5_takesLetter 2 (some .boolean) 1 := ⟨kq_336, kq_s9, kq_3, kq_337, by decide +kernel⟩
theorem kd_X5_takesGlossLetter : kd_V yX5_takesGlossLetter cX5_takesGlossLetter 2 (some .boolean) 1 := ⟨kq_319, kq_s8, kq_3, kq_320, by decide +kernel⟩
theorem kd_X5_isWordWhole : kd_V yX5_isWordWhole cX5_isWordWhole 1 (some .boolean) 0 := ⟨kq_292, kq_s3, kq_3, kq_293, by decide +kernel⟩
theorem kd_X5_hasPartLetters : kd_V yX5_hasPartLetters cX5_hasPartLetters 1 (some .boolean) 0 := ⟨kq_296, kq_s4, kq_3, kq_297, by decide +kernel⟩
theorem kd_X6_add : kd_V yX6_add cX6_add 2 none 1 := ⟨kq_510, kq_511, kq_2, kq_512, by decide +kernel⟩
theorem kd_X6_isFreeLine : kd_V yX6_isFreeLine cX6_isFreeLine 2 (some .boolean) 0 := ⟨kq_748, kq_749, kq_2, kq_750, by decide +kernel⟩
theorem kd_X6_isGloss : kd_V yX6_isGloss cX6_isGloss 2 (some .boolean) 0 := ⟨kq_765, kq_766, kq_2, kq_767, by decide +kernel⟩
theorem kd_X6_letters : kd_V yX6_letters cX6_letters 4 (some .long) 0 := ⟨kq_771, kq_772, kq_2, kq_773, by decide +kernel⟩
theorem kd_X7_reset : kd_V yX7_reset cX7_reset 1 none 0 := ⟨kq_275, kq_276, kq_4, kq_277, by decide +kernel⟩
theorem kd_X7_copyFrom : kd_V yX7_copyFrom cX7_copyFrom 3 none 1 := ⟨kq_352, kq_353, kq_4, kq_354, by decide +kernel⟩
theorem kd_X7_openPart : kd_V yX7_openPart cX7_openPart 2 none 1 := ⟨kq_279, kq_280, kq_4, kq_281, by decide +kernel⟩
theorem kd_X7_dropEnd : kd_V yX7_dropEnd cX7_dropEnd 1 none 0 := ⟨kq_737, kq_738, kq_4, kq_739, by decide +kernel⟩
theorem kd_X7_turnEnd : kd_V yX7_turnEnd cX7_turnEnd 1 none 0 := ⟨kq_920, kq_921, kq_4, kq_922, by decide +kernel⟩
theorem kd_X7_takeFree : kd_V yX7_takeFree cX7_takeFree 3 none 1 := ⟨kq_753, kq_754, kq_4, kq_755, by decide +kernel⟩
theorem kd_X7_countGaps : kd_V yX7_countGaps cX7_countGaps 3 (some .int) 0 := ⟨kq_546, kq_547, kq_4, kq_548, by decide +kernel⟩
theorem kd_X7_width : kd_V yX7_width cX7_width 8 (some .int) 1 := ⟨kq_392, kq_393, kq_4, kq_394, by decide +kernel⟩
theorem kd_X7_codeShown : kd_V yX7_codeShown cX7_codeShown 9 (some .int) 3 := ⟨kq_698, kq_699, kq_4, kq_700, by decide +kernel⟩
theorem kd_X7_codeOfFree : kd_V yX7_codeOfFree cX7_codeOfFree 2 (some .int) 1 := ⟨kq_694, kq_695, kq_4, kq_696, by decide +kernel⟩
theorem kd_X7_shownGloss : kd_V yX7_shownGloss cX7_shownGloss 2 (some .long) 1 := ⟨kq_398, kq_s12, kq_4, kq_399, by decide +kernel⟩
theorem kd_X8_append : kd_V yX8_append cX8_append 2 (some .int) 1 := ⟨kq_422, kq_423, kq_1, kq_424, by decide +kernel⟩
theorem kd_X8_clearText : kd_V yX8_clearText cX8_clearText 2 (some .int) 0 := ⟨kq_259, kq_260, kq_1, kq_261, by decide +kernel⟩
theorem kd_X8_errorPosition : kd_V yX8_errorPosition cX8_errorPosition 1 (some .int) 0 := ⟨kq_263, kq_264, kq_1, kq_265, by decide +kernel⟩
theorem kd_X8_load : kd_V yX8_load cX8_load 2 (some .int) 0 := ⟨kq_517, kq_518, kq_1, kq_519, by decide +kernel⟩
theorem kd_X8_about : kd_V yX8_about cX8_about 2 (some .int) 1 := ⟨kq_534, kq_535, kq_1, kq_536, by decide +kernel⟩
theorem kd_X8_word : kd_V yX8_word cX8_word 3 (some .int) 2 := ⟨kq_567, kq_568, kq_1, kq_569, by decide +kernel⟩
theorem kd_X8_part : kd_V yX8_part cX8_part 4 (some .int) 3 := ⟨kq_601, kq_602, kq_1, kq_603, by decide +kernel⟩
theorem kd_X8_letter : kd_V yX8_letter cX8_letter 5 (some .int) 4 := ⟨kq_621, kq_622, kq_1, kq_623, by decide +kernel⟩
theorem kd_X8_entry : kd_V yX8_entry cX8_entry 4 (some .int) 3 := ⟨kq_636, kq_637, kq_1, kq_638, by decide +kernel⟩
theorem kd_X8_row : kd_V yX8_row cX8_row 3 (some .int) 2 := ⟨kq_648, kq_649, kq_1, kq_650, by decide +kernel⟩
theorem kd_X8_at : kd_V yX8_at cX8_at 3 (some .int) 2 := ⟨kq_685, kq_686, kq_1, kq_687, by decide +kernel⟩
theorem kd_X8_insert : kd_V yX8_insert cX8_insert 2 (some .int) 1 := ⟨kq_706, kq_707, kq_1, kq_708, by decide +kernel⟩
theorem kd_X8_remove : kd_V yX8_remove cX8_remove 2 (some .int) 1 := ⟨kq_715, kq_716, kq_1, kq_717, by decide +kernel⟩
theorem kd_X8_end : kd_V yX8_end cX8_end 2 (some .int) 1 := ⟨kq_726, kq_727, kq_1, kq_728, by decide +kernel⟩
theorem kd_X8_join : kd_V yX8_join cX8_join 2 (some .int) 1 := ⟨kq_733, kq_734, kq_1, kq_735, by decide +kernel⟩
theorem kd_X8_setFree : kd_V yX8_setFree cX8_setFree 2 (some .int) 1 := ⟨kq_744, kq_745, kq_1, kq_746, by decide +kernel⟩
theorem kd_X8_setGloss : kd_V yX8_setGloss cX8_setGloss 3 (some .int) 2 := ⟨kq_761, kq_762, kq_1, kq_763, by decide +kernel⟩
theorem kd_X8_set : kd_V yX8_set cX8_set 3 (some .int) 2 := ⟨kq_779, kq_780, kq_1, kq_781, by decide +kernel⟩
theorem kd_X8_learn : kd_V yX8_learn cX8_learn 3 (some .int) 2 := ⟨kq_794, kq_795, kq_1, kq_796, by decide +kernel⟩
theorem kd_X8_forget : kd_V yX8_forget cX8_forget 2 (some .int) 1 := ⟨kq_825, kq_826, kq_1, kq_827, by decide +kernel⟩
theorem kd_X8_fillGaps : kd_V yX8_fillGaps cX8_fillGaps 1 (some .int) 0 := ⟨kq_340, kq_341, kq_1, kq_342, by decide +kernel⟩
theorem kd_X8_undo : kd_V yX8_undo cX8_undo 1 (some .int) 0 := ⟨kq_836, kq_837, kq_1, kq_838, by decide +kernel⟩
theorem kd_X8_gap : kd_V yX8_gap cX8_gap 2 (some .int) 1 := ⟨kq_848, kq_849, kq_1, kq_850, by decide +kernel⟩
theorem kd_X8_mostUsed : kd_V yX8_mostUsed cX8_mostUsed 1 (some .int) 0 := ⟨kq_368, kq_369, kq_1, kq_370, by decide +kernel⟩
theorem kd_X8_widthFor : kd_V yX8_widthFor cX8_widthFor 3 (some .int) 1 := ⟨kq_859, kq_860, kq_1, kq_861, by decide +kernel⟩
theorem kd_X8_empty : kd_V yX8_empty cX8_empty 1 (some .int) 0 := ⟨kq_380, kq_381, kq_1, kq_382, by decide +kernel⟩
theorem kd_X8_rowsWith : kd_V yX8_rowsWith cX8_rowsWith 3 (some .int) 2 := ⟨kq_867, kq_868, kq_1, kq_869, by decide +kernel⟩
theorem kd_X8_runScript : kd_V yX8_runScript cX8_runScript 5 (some .int) 2 := ⟨kq_875, kq_876, kq_1, kq_877, by decide +kernel⟩
theorem kd_X8_simulate : kd_V yX8_simulate cX8_simulate 8 (some .int) 2 := ⟨kq_909, kq_910, kq_1, kq_911, by decide +kernel⟩
theorem kd_X8_save : kd_V yX8_save cX8_save 2 (some .int) 1 := ⟨kq_928, kq_929, kq_1, kq_930, by decide +kernel⟩
theorem kd_X8_restore : kd_V yX8_restore cX8_restore 2 (some .int) 1 := ⟨kq_940, kq_941, kq_1, kq_942, by decide +kernel⟩
theorem kd_X8_requireWord : kd_V yX8_requireWord cX8_requireWord 2 none 1 := ⟨kq_572, kq_s14, kq_1, kq_573, by decide +kernel⟩
theorem kd_X8_requirePart : kd_V yX8_requirePart cX8_requirePart 3 none 2 := ⟨kq_606, kq_s15, kq_1, kq_607, by decide +kernel⟩
theorem kd_X8_requireEntry : kd_V yX8_requireEntry cX8_requireEntry 2 none 1 := ⟨kq_641, kq_s17, kq_1, kq_642, by decide +kernel⟩
theorem kd_X8_requireRow : kd_V yX8_requireRow cX8_requireRow 2 none 1 := ⟨kq_653, kq_s18, kq_1, kq_654, by decide +kernel⟩
theorem kd_X8_requireSlot : kd_V yX8_requireSlot cX8_requireSlot 2 none 1 := ⟨kq_933, kq_s28, kq_1, kq_934, by decide +kernel⟩
theorem kd_X8_requireNotNegative : kd_V yX8_requireNotNegative cX8_requireNotNegative 2 none 1 := ⟨kq_626, kq_s16, kq_1, kq_627, by decide +kernel⟩
theorem kd_X8_arranged : kd_V yX8_arranged cX8_arranged 2 (some (.object "GlossRows$Layout")) 1 := ⟨kq_385, kq_s11, kq_1, kq_386, by decide +kernel⟩
theorem kd_X8_withoutLowest : kd_S yX8_withoutLowest cX8_withoutLowest 6 (some .long) 2 := ⟨kq_880, kq_1, kq_881, by decide +kernel⟩
theorem kd_X8_succeeds : kd_V yX8_succeeds cX8_succeeds 5 (some .boolean) 1 := ⟨kq_887, kq_s22, kq_1, kq_888, by decide +kernel⟩
theorem kd_X8_setsOnTrial : kd_V yX8_setsOnTrial cX8_setsOnTrial 3 (some .boolean) 2 := ⟨kq_895, kq_s24, kq_1, kq_896, by decide +kernel⟩
theorem kd_X8_changesWordOfTrial : kd_V yX8_changesWordOfTrial cX8_changesWordOfTrial 3 (some .boolean) 2 := ⟨kq_899, kq_s25, kq_1, kq_900, by decide +kernel⟩
theorem kd_X8_learnsOnTrial : kd_V yX8_learnsOnTrial cX8_learnsOnTrial 3 (some .boolean) 2 := ⟨kq_891, kq_s23, kq_1, kq_892, by decide +kernel⟩
theorem kd_X8_fillsTrial : kd_V yX8_fillsTrial cX8_fillsTrial 1 (some .boolean) 0 := ⟨kq_903, kq_s26, kq_1, kq_904, by decide +kernel⟩
theorem kd_X8_playRound : kd_V yX8_playRound cX8_playRound 3 none 1 := ⟨kq_917, kq_s27, kq_1, kq_918, by decide +kernel⟩
theorem kd_X9_clean : kd_S yX9_clean cX9_clean 2 none 1 := ⟨kq_951, kq_9, kq_952, by decide +kernel⟩
theorem kd_X9_thrown : kd_V yX9_thrown cX9_thrown 1 (some .int) 0 := ⟨kq_1023, kq_1024, kq_9, kq_1025, by decide +kernel⟩
theorem kd_X9_refused : kd_V yX9_refused cX9_refused 2 (some .boolean) 1 := ⟨kq_1036, kq_s29, kq_9, kq_1037, by decide +kernel⟩
theorem kd_X9_in : kd_S yX9_in cX9_in 6 (some .boolean) 3 := ⟨kq_1032, kq_9, kq_1033, by decide +kernel⟩
theorem kd_X9_copy : kd_S yX9_copy cX9_copy 6 none 5 := ⟨kq_1081, kq_9, kq_1082, by decide +kernel⟩
theorem kd_X9_tenTo : kd_S yX9_tenTo cX9_tenTo 4 (some .long) 1 := ⟨kq_1318, kq_9, kq_1319, by decide +kernel⟩
theorem kd_X9_note : kd_V yX9_note cX9_note 1 none 0 := ⟨kq_1210, kq_s42, kq_9, kq_1211, by decide +kernel⟩
theorem kd_X9_lettersOf : kd_S yX9_lettersOf cX9_lettersOf 3 (some .int) 1 := ⟨kq_1109, kq_9, kq_1110, by decide +kernel⟩
theorem kd_X9_letterOf : kd_S yX9_letterOf cX9_letterOf 4 (some .int) 2 := ⟨kq_1166, kq_9, kq_1167, by decide +kernel⟩
theorem kd_X9_withLetter : kd_S yX9_withLetter cX9_withLetter 6 (some .long) 3 := ⟨kq_1063, kq_9, kq_1064, by decide +kernel⟩
theorem kd_X9_cell : kd_S yX9_cell cX9_cell 2 (some .int) 2 := ⟨kq_1103, kq_9, kq_1104, by decide +kernel⟩
theorem kd_X9_mark : kd_S yX9_mark cX9_mark 2 (some .int) 2 := ⟨kq_1159, kq_9, kq_1160, by decide +kernel⟩
theorem kd_X9_partAt : kd_S yX9_partAt cX9_partAt 2 (some .int) 2 := ⟨kq_1106, kq_9, kq_1107, by decide +kernel⟩
theorem kd_X9_glossAt : kd_S yX9_glossAt cX9_glossAt 2 (some .int) 2 := ⟨kq_1116, kq_9, kq_1117, by decide +kernel⟩
theorem kd_X9_parts : kd_S yX9_parts cX9_parts 2 (some .int) 2 := ⟨kq_1100, kq_9, kq_1101, by decide +kernel⟩
theorem kd_X9_many : kd_S yX9_many cX9_many 1 (some .int) 1 := ⟨kq_1078, kq_9, kq_1079, by decide +kernel⟩
theorem kd_X9_isWordOf : kd_S yX9_isWordOf cX9_isWordOf 2 (some .boolean) 2 := ⟨kq_1143, kq_9, kq_1144, by decide +kernel⟩
theorem kd_X9_isWord : kd_V yX9_isWord cX9_isWord 2 (some .boolean) 1 := ⟨kq_1140, kq_s36, kq_9, kq_1141, by decide +kernel⟩
theorem kd_X9_isPartOf : kd_S yX9_isPartOf cX9_isPartOf 3 (some .boolean) 3 := ⟨kq_1155, kq_9, kq_1156, by decide +kernel⟩
theorem kd_X9_shownLength : kd_S yX9_shownLength cX9_shownLength 5 (some .int) 3 := ⟨kq_1113, kq_9, kq_1114, by decide +kernel⟩
theorem kd_X9_wide : kd_S yX9_wide cX9_wide 10 (some .int) 3 := ⟨kq_1097, kq_9, kq_1098, by decide +kernel⟩
theorem kd_X9_addRow : kd_V yX9_addRow cX9_addRow 4 none 3 := ⟨kq_1120, kq_s35, kq_9, kq_1121, by decide +kernel⟩
theorem kd_X9_layOut : kd_V yX9_layOut cX9_layOut 13 none 3 := ⟨kq_1094, kq_s34, kq_9, kq_1095, by decide +kernel⟩
theorem kd_X9_rowsOf : kd_V yX9_rowsOf cX9_rowsOf 2 (some .int) 1 := ⟨kq_1331, kq_s49, kq_9, kq_1332, by decide +kernel⟩
theorem kd_X9_sentencesOf : kd_V yX9_sentencesOf cX9_sentencesOf 2 (some .int) 1 := ⟨kq_1225, kq_s43, kq_9, kq_1226, by decide +kernel⟩
theorem kd_X9_freeChar : kd_S yX9_freeChar cX9_freeChar 3 (some .int) 3 := ⟨kq_1197, kq_9, kq_1198, by decide +kernel⟩
theorem kd_X9_shown : kd_S yX9_shown cX9_shown 13 (some .int) 5 := ⟨kq_1201, kq_9, kq_1202, by decide +kernel⟩
theorem kd_X9_entryOf : kd_S yX9_entryOf cX9_entryOf 4 (some .int) 2 := ⟨kq_1132, kq_9, kq_1133, by decide +kernel⟩
theorem kd_X9_learnOn : kd_S yX9_learnOn cX9_learnOn 6 none 3 := ⟨kq_1270, kq_9, kq_1271, by decide +kernel⟩
theorem kd_X9_canLearn : kd_S yX9_canLearn cX9_canLearn 3 (some .boolean) 3 := ⟨kq_1266, kq_9, kq_1267, by decide +kernel⟩
theorem kd_X9_fillOn : kd_S yX9_fillOn cX9_fillOn 5 (some .int) 1 := ⟨kq_1281, kq_9, kq_1282, by decide +kernel⟩
theorem kd_X9_gapsOf : kd_S yX9_gapsOf cX9_gapsOf 4 (some .int) 2 := ⟨kq_1126, kq_9, kq_1127, by decide +kernel⟩
theorem kd_X9_gaps : kd_S yX9_gaps cX9_gaps 3 (some .int) 1 := ⟨kq_1123, kq_9, kq_1124, by decide +kernel⟩
theorem kd_X9_removeOn : kd_S yX9_removeOn cX9_removeOn 2 none 2 := ⟨kq_1217, kq_9, kq_1218, by decide +kernel⟩
theorem kd_X9_joinOn : kd_S yX9_joinOn cX9_joinOn 3 none 2 := ⟨kq_1232, kq_9, kq_1233, by decide +kernel⟩
theorem kd_X9_insertOn : kd_V yX9_insertOn cX9_insertOn 4 none 2 := ⟨kq_1075, kq_s32, kq_9, kq_1076, by decide +kernel⟩
theorem kd_X9_append : kd_V yX9_append cX9_append 2 (some .int) 1 := ⟨kq_1027, kq_1028, kq_9, kq_1029, by decide +kernel⟩
theorem kd_X9_clearText : kd_V yX9_clearText cX9_clearText 2 (some .int) 0 := ⟨kq_1039, kq_1040, kq_9, kq_1041, by decide +kernel⟩
theorem kd_X9_isLetter : kd_S yX9_isLetter cX9_isLetter 1 (some .boolean) 1 := ⟨kq_1058, kq_9, kq_1059, by decide +kernel⟩
theorem kd_X9_isGlossLetter : kd_S yX9_isGlossLetter cX9_isGlossLetter 1 (some .boolean) 1 := ⟨kq_1055, kq_9, kq_1056, by decide +kernel⟩
theorem kd_X9_isMark : kd_S yX9_isMark cX9_isMark 1 (some .boolean) 1 := ⟨kq_1067, kq_9, kq_1068, by decide +kernel⟩
theorem kd_X9_begin : kd_V yX9_begin cX9_begin 2 none 0 := ⟨kq_1052, kq_s31, kq_9, kq_1053, by decide +kernel⟩
theorem kd_X9_readText : kd_V yX9_readText cX9_readText 10 (some .int) 0 := ⟨kq_1048, kq_s30, kq_9, kq_1049, by decide +kernel⟩
theorem kd_X9_errorPosition : kd_V yX9_errorPosition cX9_errorPosition 1 (some .int) 0 := ⟨kq_1043, kq_1044, kq_9, kq_1045, by decide +kernel⟩
theorem kd_X9_load : kd_V yX9_load cX9_load 1 (some .int) 0 := ⟨kq_1070, kq_1071, kq_9, kq_1072, by decide +kernel⟩
theorem kd_X9_unlike : kd_S yX9_unlike cX9_unlike 7 (some .int) 1 := ⟨kq_1129, kq_9, kq_1130, by decide +kernel⟩
theorem kd_X9_about : kd_V yX9_about cX9_about 4 (some .int) 1 := ⟨kq_1084, kq_1085, kq_9, kq_1086, by decide +kernel⟩
theorem kd_X9_layNow : kd_V yX9_layNow cX9_layNow 1 none 0 := ⟨kq_1090, kq_s33, kq_9, kq_1091, by decide +kernel⟩
theorem kd_X9_word : kd_V yX9_word cX9_word 3 (some .int) 2 := ⟨kq_1135, kq_1136, kq_9, kq_1137, by decide +kernel⟩
theorem kd_X9_isPart : kd_V yX9_isPart cX9_isPart 3 (some .boolean) 2 := ⟨kq_1152, kq_s37, kq_9, kq_1153, by decide +kernel⟩
theorem kd_X9_part : kd_V yX9_part cX9_part 4 (some .int) 3 := ⟨kq_1147, kq_1148, kq_9, kq_1149, by decide +kernel⟩
theorem kd_X9_letter : kd_V yX9_letter cX9_letter 5 (some .int) 4 := ⟨kq_1162, kq_1163, kq_9, kq_1164, by decide +kernel⟩
theorem kd_X9_isEntry : kd_V yX9_isEntry cX9_isEntry 2 (some .boolean) 1 := ⟨kq_1174, kq_s38, kq_9, kq_1175, by decide +kernel⟩
theorem kd_X9_entry : kd_V yX9_entry cX9_entry 4 (some .int) 3 := ⟨kq_1169, kq_1170, kq_9, kq_1171, by decide +kernel⟩
theorem kd_X9_lengthOfRow : kd_V yX9_lengthOfRow cX9_lengthOfRow 3 (some .int) 1 := ⟨kq_1186, kq_s40, kq_9, kq_1187, by decide +kernel⟩
theorem kd_X9_sentenceOfRow : kd_V yX9_sentenceOfRow cX9_sentenceOfRow 3 (some .int) 1 := ⟨kq_1190, kq_s41, kq_9, kq_1191, by decide +kernel⟩
theorem kd_X9_isRow : kd_V yX9_isRow cX9_isRow 2 (some .boolean) 1 := ⟨kq_1182, kq_s39, kq_9, kq_1183, by decide +kernel⟩
theorem kd_X9_row : kd_V yX9_row cX9_row 3 (some .int) 2 := ⟨kq_1177, kq_1178, kq_9, kq_1179, by decide +kernel⟩
theorem kd_X9_at : kd_V yX9_at cX9_at 6 (some .int) 2 := ⟨kq_1193, kq_1194, kq_9, kq_1195, by decide +kernel⟩
theorem kd_X9_insert : kd_V yX9_insert cX9_insert 2 (some .int) 1 := ⟨kq_1204, kq_1205, kq_9, kq_1206, by decide +kernel⟩
theorem kd_X9_remove : kd_V yX9_remove cX9_remove 2 (some .int) 1 := ⟨kq_1213, kq_1214, kq_9, kq_1215, by decide +kernel⟩
theorem kd_X9_end : kd_V yX9_end cX9_end 2 (some .int) 1 := ⟨kq_1220, kq_1221, kq_9, kq_1222, by decide +kernel⟩
theorem kd_X9_join : kd_V yX9_join cX9_join 2 (some .int) 1 := ⟨kq_1228, kq_1229, kq_9, kq_1230, by decide +kernel⟩
theorem kd_X9_isFree : kd_V yX9_isFree cX9_isFree 3 (some .boolean) 0 := ⟨kq_1240, kq_s44, kq_9, kq_1241, by decide +kernel⟩
theorem kd_X9_setFree : kd_V yX9_setFree cX9_setFree 3 (some .int) 1 := ⟨kq_1235, kq_1236, kq_9, kq_1237, by decide +kernel⟩
theorem kd_X9_isGloss : kd_V yX9_isGloss cX9_isGloss 3 (some .boolean) 0 := ⟨kq_1250, kq_s45, kq_9, kq_1251, by decide +kernel⟩
theorem kd_X9_setGloss : kd_V yX9_setGloss cX9_setGloss 6 (some .int) 2 := ⟨kq_1245, kq_1246, kq_9, kq_1247, by decide +kernel⟩
theorem kd_X9_isSetting : kd_S yX9_isSetting cX9_isSetting 2 (some .boolean) 2 := ⟨kq_1257, kq_9, kq_1258, by decide +kernel⟩
theorem kd_X9_set : kd_V yX9_set cX9_set 4 (some .int) 2 := ⟨kq_1253, kq_1254, kq_9, kq_1255, by decide +kernel⟩
theorem kd_X9_learn : kd_V yX9_learn cX9_learn 3 (some .int) 2 := ⟨kq_1262, kq_1263, kq_9, kq_1264, by decide +kernel⟩
theorem kd_X9_forget : kd_V yX9_forget cX9_forget 2 (some .int) 1 := ⟨kq_1273, kq_1274, kq_9, kq_1275, by decide +kernel⟩
theorem kd_X9_fillGaps : kd_V yX9_fillGaps cX9_fillGaps 1 (some .int) 0 := ⟨kq_1277, kq_1278, kq_9, kq_1279, by decide +kernel⟩
theorem kd_X9_undo : kd_V yX9_undo cX9_undo 1 (some .int) 0 := ⟨kq_1284, kq_1285, kq_9, kq_1286, by decide +kernel⟩
theorem kd_X9_gap : kd_V yX9_gap cX9_gap 5 (some .int) 1 := ⟨kq_1288, kq_1289, kq_9, kq_1290, by decide +kernel⟩
theorem kd_X9_uses : kd_V yX9_uses cX9_uses 6 (some .int) 1 := ⟨kq_1297, kq_s46, kq_9, kq_1298, by decide +kernel⟩
theorem kd_X9_mostUsed : kd_V yX9_mostUsed cX9_mostUsed 10 (some .int) 0 := ⟨kq_1292, kq_1293, kq_9, kq_1294, by decide +kernel⟩
theorem kd_X9_widthFor : kd_V yX9_widthFor cX9_widthFor 3 (some .int) 1 := ⟨kq_1300, kq_1301, kq_9, kq_1302, by decide +kernel⟩
theorem kd_X9_empty : kd_V yX9_empty cX9_empty 3 (some .int) 0 := ⟨kq_1305, kq_1306, kq_9, kq_1307, by decide +kernel⟩
theorem kd_X9_rowsWith : kd_V yX9_rowsWith cX9_rowsWith 3 (some .int) 2 := ⟨kq_1309, kq_1310, kq_9, kq_1311, by decide +kernel⟩
theorem kd_X9_tryOut : kd_V yX9_tryOut cX9_tryOut 1 none 0 := ⟨kq_1322, kq_s47, kq_9, kq_1323, by decide +kernel⟩
theorem kd_X9_command : kd_V yX9_command cX9_command 6 (some .boolean) 1 := ⟨kq_1327, kq_s48, kq_9, kq_1328, by decide +kernel⟩
theorem kd_X9_runScript : kd_V yX9_runScript cX9_runScript 5 (some .int) 2 := ⟨kq_1313, kq_1314, kq_9, kq_1315, by decide +kernel⟩
theorem kd_X9_simulate : kd_V yX9_simulate cX9_simulate 11 (some .int) 2 := ⟨kq_1334, kq_1335, kq_9, kq_1336, by decide +kernel⟩
theorem kd_X9_save : kd_V yX9_save cX9_save 2 (some .int) 1 := ⟨kq_1340, kq_1341, kq_9, kq_1342, by decide +kernel⟩
theorem kd_X9_restore : kd_V yX9_restore cX9_restore 2 (some .int) 1 := ⟨kq_1344, kq_1345, kq_9, kq_1346, by decide +kernel⟩
end
