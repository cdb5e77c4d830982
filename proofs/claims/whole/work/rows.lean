section
-- ===== PART A: goes FIRST, ahead of the names: the tables' words, and 'selects' of the private methods out of them =====
/-- a private method of a class that the tables say can be made, by its rows of tables_1 -/
def lw_okq (q : MethodName × Nat) : Prop := (q.1.cls ≠ "java/lang/invoke/MethodHandle" ∧ q.1.cls ≠ "java/lang/invoke/VarHandle") ∧ Cond.instantiable q.1.cls q.2 ∈ tables_1 ∧ Cond.privateMethod q.1 ∈ tables_1 ∧ Cond.instanceMethod q.1 ∈ tables_1
theorem lw_p0 : lw_okq (⟨"FlexLayout$CrossAxis", "measure", "(LFlexLayout$Container;LFlexLayout$Arrangement;I)V"⟩, 5) := ⟨⟨by decide +kernel, by decide +kernel⟩, List.mem_of_getElem? (i := 173) (by decide +kernel), List.mem_of_getElem? (i := 265) (by decide +kernel), List.mem_of_getElem? (i := 266) (by decide +kernel)⟩
theorem lw_p1 : lw_okq (⟨"FlexLayout$CrossAxis", "stretch", "(LFlexLayout$Container;LFlexLayout$Arrangement;LFlexLayout$Division;)V"⟩, 5) := ⟨⟨by decide +kernel, by decide +kernel⟩, List.mem_of_getElem? (i := 173) (by decide +kernel), List.mem_of_getElem? (i := 277) (by decide +kernel), List.mem_of_getElem? (i := 278) (by decide +kernel)⟩
theorem lw_p2 : lw_okq (⟨"FlexLayout$CrossAxis", "lengthOfLines", "(LFlexLayout$Container;LFlexLayout$Arrangement;)I"⟩, 5) := ⟨⟨by decide +kernel, by decide +kernel⟩, List.mem_of_getElem? (i := 173) (by decide +kernel), List.mem_of_getElem? (i := 281) (by decide +kernel), List.mem_of_getElem? (i := 282) (by decide +kernel)⟩
theorem lw_p3 : lw_okq (⟨"FlexLayout$Division", "giveOut", "(II)V"⟩, 3) := ⟨⟨by decide +kernel, by decide +kernel⟩, List.mem_of_getElem? (i := 96) (by decide +kernel), List.mem_of_getElem? (i := 293) (by decide +kernel), List.mem_of_getElem? (i := 294) (by decide +kernel)⟩
theorem lw_p4 : lw_okq (⟨"FlexLayout$CrossAxis", "findPositions", "(LFlexLayout$Container;LFlexLayout$Arrangement;I)V"⟩, 5) := ⟨⟨by decide +kernel, by decide +kernel⟩, List.mem_of_getElem? (i := 173) (by decide +kernel), List.mem_of_getElem? (i := 298) (by decide +kernel), List.mem_of_getElem? (i := 299) (by decide +kernel)⟩
theorem lw_p5 : lw_okq (⟨"FlexLayout$CrossAxis", "put", "(LFlexLayout$Container;III)V"⟩, 5) := ⟨⟨by decide +kernel, by decide +kernel⟩, List.mem_of_getElem? (i := 173) (by decide +kernel), List.mem_of_getElem? (i := 308) (by decide +kernel), List.mem_of_getElem? (i := 309) (by decide +kernel)⟩
theorem lw_p6 : lw_okq (⟨"FlexLayout$CrossAxis", "positionInLine", "(LFlexLayout$Container;II)I"⟩, 5) := ⟨⟨by decide +kernel, by decide +kernel⟩, List.mem_of_getElem? (i := 173) (by decide +kernel), List.mem_of_getElem? (i := 312) (by decide +kernel), List.mem_of_getElem? (i := 313) (by decide +kernel)⟩
theorem lw_p7 : lw_okq (⟨"FlexLayout", "layOut", "()V"⟩, 8) := ⟨⟨by decide +kernel, by decide +kernel⟩, List.mem_of_getElem? (i := 22) (by decide +kernel), List.mem_of_getElem? (i := 321) (by decide +kernel), List.mem_of_getElem? (i := 322) (by decide +kernel)⟩
theorem lw_p8 : lw_okq (⟨"FlexLayout$MainAxis", "findSizes", "(LFlexLayout$Container;LFlexLayout$Arrangement;LFlexLayout$Division;I)V"⟩, 6) := ⟨⟨by decide +kernel, by decide +kernel⟩, List.mem_of_getElem? (i := 143) (by decide +kernel), List.mem_of_getElem? (i := 329) (by decide +kernel), List.mem_of_getElem? (i := 330) (by decide +kernel)⟩
theorem lw_p9 : lw_okq (⟨"FlexLayout$MainAxis", "freezeAtOnce", "(LFlexLayout$Container;LFlexLayout$Arrangement;I)Z"⟩, 6) := ⟨⟨by decide +kernel, by decide +kernel⟩, List.mem_of_getElem? (i := 143) (by decide +kernel), List.mem_of_getElem? (i := 333) (by decide +kernel), List.mem_of_getElem? (i := 334) (by decide +kernel)⟩
theorem lw_p10 : lw_okq (⟨"FlexLayout$MainAxis", "isFrozen", "(LFlexLayout$Arrangement;I)Z"⟩, 6) := ⟨⟨by decide +kernel, by decide +kernel⟩, List.mem_of_getElem? (i := 143) (by decide +kernel), List.mem_of_getElem? (i := 342) (by decide +kernel), List.mem_of_getElem? (i := 343) (by decide +kernel)⟩
theorem lw_p11 : lw_okq (⟨"FlexLayout$MainAxis", "spaceLeft", "(LFlexLayout$Container;LFlexLayout$Arrangement;I)I"⟩, 6) := ⟨⟨by decide +kernel, by decide +kernel⟩, List.mem_of_getElem? (i := 143) (by decide +kernel), List.mem_of_getElem? (i := 346) (by decide +kernel), List.mem_of_getElem? (i := 347) (by decide +kernel)⟩
theorem lw_p12 : lw_okq (⟨"FlexLayout$MainAxis", "weigh", "(LFlexLayout$Container;LFlexLayout$Arrangement;LFlexLayout$Division;IZI)V"⟩, 6) := ⟨⟨by decide +kernel, by decide +kernel⟩, List.mem_of_getElem? (i := 143) (by decide +kernel), List.mem_of_getElem? (i := 350) (by decide +kernel), List.mem_of_getElem? (i := 351) (by decide +kernel)⟩
theorem lw_p13 : lw_okq (⟨"FlexLayout$MainAxis", "resize", "(LFlexLayout$Container;LFlexLayout$Arrangement;LFlexLayout$Division;IZ)I"⟩, 6) := ⟨⟨by decide +kernel, by decide +kernel⟩, List.mem_of_getElem? (i := 143) (by decide +kernel), List.mem_of_getElem? (i := 358) (by decide +kernel), List.mem_of_getElem? (i := 359) (by decide +kernel)⟩
theorem lw_p14 : lw_okq (⟨"FlexLayout$MainAxis", "freeze", "(LFlexLayout$Arrangement;II)V"⟩, 6) := ⟨⟨by decide +kernel, by decide +kernel⟩, List.mem_of_getElem? (i := 143) (by decide +kernel), List.mem_of_getElem? (i := 363) (by decide +kernel), List.mem_of_getElem? (i := 364) (by decide +kernel)⟩
theorem lw_p15 : lw_okq (⟨"FlexLayout$MainAxis", "findPositions", "(LFlexLayout$Container;LFlexLayout$Arrangement;I)V"⟩, 6) := ⟨⟨by decide +kernel, by decide +kernel⟩, List.mem_of_getElem? (i := 143) (by decide +kernel), List.mem_of_getElem? (i := 367) (by decide +kernel), List.mem_of_getElem? (i := 368) (by decide +kernel)⟩
def lw_privs_1 : List (MethodName × Nat) := [(⟨"FlexLayout$CrossAxis", "measure", "(LFlexLayout$Container;LFlexLayout$Arrangement;I)V"⟩, 5), (⟨"FlexLayout$CrossAxis", "stretch", "(LFlexLayout$Container;LFlexLayout$Arrangement;LFlexLayout$Division;)V"⟩, 5), (⟨"FlexLayout$CrossAxis", "lengthOfLines", "(LFlexLayout$Container;LFlexLayout$Arrangement;)I"⟩, 5), (⟨"FlexLayout$Division", "giveOut", "(II)V"⟩, 3), (⟨"FlexLayout$CrossAxis", "findPositions", "(LFlexLayout$Container;LFlexLayout$Arrangement;I)V"⟩, 5), (⟨"FlexLayout$CrossAxis", "put", "(LFlexLayout$Container;III)V"⟩, 5), (⟨"FlexLayout$CrossAxis", "positionInLine", "(LFlexLayout$Container;II)I"⟩, 5), (⟨"FlexLayout", "layOut", "()V"⟩, 8), (⟨"FlexLayout$MainAxis", "findSizes", "(LFlexLayout$Container;LFlexLayout$Arrangement;LFlexLayout$Division;I)V"⟩, 6), (⟨"FlexLayout$MainAxis", "freezeAtOnce", "(LFlexLayout$Container;LFlexLayout$Arrangement;I)Z"⟩, 6), (⟨"FlexLayout$MainAxis", "isFrozen", "(LFlexLayout$Arrangement;I)Z"⟩, 6), (⟨"FlexLayout$MainAxis", "spaceLeft", "(LFlexLayout$Container;LFlexLayout$Arrangement;I)I"⟩, 6), (⟨"FlexLayout$MainAxis", "weigh", "(LFlexLayout$Container;LFlexLayout$Arrangement;LFlexLayout$Division;IZI)V"⟩, 6), (⟨"FlexLayout$MainAxis", "resize", "(LFlexLayout$Container;LFlexLayout$Arrangement;LFlexLayout$Division;IZ)I"⟩, 6), (⟨"FlexLayout$MainAxis", "freeze", "(LFlexLayout$Arrangement;II)V"⟩, 6), (⟨"FlexLayout$MainAxis", "findPositions", "(LFlexLayout$Container;LFlexLayout$Arrangement;I)V"⟩, 6)]
theorem lw_r1 : ∀ q ∈ lw_privs_1, lw_okq q := List.forall_mem_cons.mpr ⟨lw_p0, List.forall_mem_cons.mpr ⟨lw_p1, List.forall_mem_cons.mpr ⟨lw_p2, List.forall_mem_cons.mpr ⟨lw_p3, List.forall_mem_cons.mpr ⟨lw_p4, List.forall_mem_cons.mpr ⟨lw_p5, List.forall_mem_cons.mpr ⟨lw_p6, List.forall_mem_cons.mpr ⟨lw_p7, List.forall_mem_cons.mpr ⟨lw_p8, List.forall_mem_cons.mpr ⟨lw_p9, List.forall_mem_cons.mpr ⟨lw_p10, List.forall_mem_cons.mpr ⟨lw_p11, List.forall_mem_cons.mpr ⟨lw_p12, List.forall_mem_cons.mpr ⟨lw_p13, List.forall_mem_cons.mpr ⟨lw_p14, List.forall_mem_cons.mpr ⟨lw_p15, fun _ h => absurd h List.not_mem_nil⟩⟩⟩⟩⟩⟩⟩⟩⟩⟩⟩⟩⟩⟩⟩⟩
theorem lw_p16 : lw_okq (⟨"FlexLayout", "haveCommonPoint", "(II)Z"⟩, 8) := ⟨⟨by decide +kernel, by decide +kernel⟩, List.mem_of_getElem? (i := 22) (by decide +kernel), List.mem_of_getElem? (i := 376) (by decide +kernel), List.mem_of_getElem? (i := 377) (by decide +kernel)⟩
theorem lw_p17 : lw_okq (⟨"java/lang/Throwable", "fillInStackTrace", "(I)Ljava/lang/Throwable;"⟩, 6) := ⟨⟨by decide +kernel, by decide +kernel⟩, List.mem_of_getElem? (i := 450) (by decide +kernel), List.mem_of_getElem? (i := 448) (by decide +kernel), List.mem_of_getElem? (i := 449) (by decide +kernel)⟩
theorem lw_p18 : lw_okq (⟨"FlexLayout", "requireRoom", "()V"⟩, 8) := ⟨⟨by decide +kernel, by decide +kernel⟩, List.mem_of_getElem? (i := 22) (by decide +kernel), List.mem_of_getElem? (i := 559) (by decide +kernel), List.mem_of_getElem? (i := 560) (by decide +kernel)⟩
theorem lw_p19 : lw_okq (⟨"FlexLayout", "requireItem", "(I)V"⟩, 8) := ⟨⟨by decide +kernel, by decide +kernel⟩, List.mem_of_getElem? (i := 22) (by decide +kernel), List.mem_of_getElem? (i := 597) (by decide +kernel), List.mem_of_getElem? (i := 598) (by decide +kernel)⟩
theorem lw_p20 : lw_okq (⟨"FlexLayout$ItemText", "number", "(II)I"⟩, 2) := ⟨⟨by decide +kernel, by decide +kernel⟩, List.mem_of_getElem? (i := 80) (by decide +kernel), List.mem_of_getElem? (i := 656) (by decide +kernel), List.mem_of_getElem? (i := 657) (by decide +kernel)⟩
theorem lw_p21 : lw_okq (⟨"FlexLayout", "requireLine", "(I)V"⟩, 8) := ⟨⟨by decide +kernel, by decide +kernel⟩, List.mem_of_getElem? (i := 22) (by decide +kernel), List.mem_of_getElem? (i := 708) (by decide +kernel), List.mem_of_getElem? (i := 709) (by decide +kernel)⟩
theorem lw_p22 : lw_okq (⟨"FlexLayout", "contains", "(III)Z"⟩, 8) := ⟨⟨by decide +kernel, by decide +kernel⟩, List.mem_of_getElem? (i := 22) (by decide +kernel), List.mem_of_getElem? (i := 749) (by decide +kernel), List.mem_of_getElem? (i := 750) (by decide +kernel)⟩
theorem lw_p23 : lw_okq (⟨"FlexLayoutModel", "replaces", "(II)I"⟩, 35) := ⟨⟨by decide +kernel, by decide +kernel⟩, List.mem_of_getElem? (i := 818) (by decide +kernel), List.mem_of_getElem? (i := 942) (by decide +kernel), List.mem_of_getElem? (i := 943) (by decide +kernel)⟩
theorem lw_p24 : lw_okq (⟨"FlexLayoutModel", "fails", "(I)I"⟩, 35) := ⟨⟨by decide +kernel, by decide +kernel⟩, List.mem_of_getElem? (i := 818) (by decide +kernel), List.mem_of_getElem? (i := 946) (by decide +kernel), List.mem_of_getElem? (i := 947) (by decide +kernel)⟩
theorem lw_p25 : lw_okq (⟨"FlexLayoutModel", "begins", "(II)I"⟩, 35) := ⟨⟨by decide +kernel, by decide +kernel⟩, List.mem_of_getElem? (i := 818) (by decide +kernel), List.mem_of_getElem? (i := 971) (by decide +kernel), List.mem_of_getElem? (i := 972) (by decide +kernel)⟩
theorem lw_p26 : lw_okq (⟨"FlexLayoutModel", "isItem", "(I)Z"⟩, 35) := ⟨⟨by decide +kernel, by decide +kernel⟩, List.mem_of_getElem? (i := 818) (by decide +kernel), List.mem_of_getElem? (i := 981) (by decide +kernel), List.mem_of_getElem? (i := 982) (by decide +kernel)⟩
theorem lw_p27 : lw_okq (⟨"FlexLayoutModel", "of", "(II)I"⟩, 35) := ⟨⟨by decide +kernel, by decide +kernel⟩, List.mem_of_getElem? (i := 818) (by decide +kernel), List.mem_of_getElem? (i := 998) (by decide +kernel), List.mem_of_getElem? (i := 999) (by decide +kernel)⟩
theorem lw_p28 : lw_okq (⟨"FlexLayoutModel", "takesAll", "()Z"⟩, 35) := ⟨⟨by decide +kernel, by decide +kernel⟩, List.mem_of_getElem? (i := 818) (by decide +kernel), List.mem_of_getElem? (i := 1014) (by decide +kernel), List.mem_of_getElem? (i := 1015) (by decide +kernel)⟩
theorem lw_p29 : lw_okq (⟨"FlexLayoutModel", "takesSetting", "()Z"⟩, 35) := ⟨⟨by decide +kernel, by decide +kernel⟩, List.mem_of_getElem? (i := 818) (by decide +kernel), List.mem_of_getElem? (i := 1018) (by decide +kernel), List.mem_of_getElem? (i := 1019) (by decide +kernel)⟩
theorem lw_p30 : lw_okq (⟨"FlexLayoutModel", "isDigit", "()Z"⟩, 35) := ⟨⟨by decide +kernel, by decide +kernel⟩, List.mem_of_getElem? (i := 818) (by decide +kernel), List.mem_of_getElem? (i := 1025) (by decide +kernel), List.mem_of_getElem? (i := 1026) (by decide +kernel)⟩
theorem lw_p31 : lw_okq (⟨"FlexLayoutModel", "findLayout", "()V"⟩, 35) := ⟨⟨by decide +kernel, by decide +kernel⟩, List.mem_of_getElem? (i := 818) (by decide +kernel), List.mem_of_getElem? (i := 1035) (by decide +kernel), List.mem_of_getElem? (i := 1036) (by decide +kernel)⟩
def lw_privs_2 : List (MethodName × Nat) := [(⟨"FlexLayout", "haveCommonPoint", "(II)Z"⟩, 8), (⟨"java/lang/Throwable", "fillInStackTrace", "(I)Ljava/lang/Throwable;"⟩, 6), (⟨"FlexLayout", "requireRoom", "()V"⟩, 8), (⟨"FlexLayout", "requireItem", "(I)V"⟩, 8), (⟨"FlexLayout$ItemText", "number", "(II)I"⟩, 2), (⟨"FlexLayout", "requireLine", "(I)V"⟩, 8), (⟨"FlexLayout", "contains", "(III)Z"⟩, 8), (⟨"FlexLayoutModel", "replaces", "(II)I"⟩, 35), (⟨"FlexLayoutModel", "fails", "(I)I"⟩, 35), (⟨"FlexLayoutModel", "begins", "(II)I"⟩, 35), (⟨"FlexLayoutModel", "isItem", "(I)Z"⟩, 35), (⟨"FlexLayoutModel", "of", "(II)I"⟩, 35), (⟨"FlexLayoutModel", "takesAll", "()Z"⟩, 35), (⟨"FlexLayoutModel", "takesSetting", "()Z"⟩, 35), (⟨"FlexLayoutModel", "isDigit", "()Z"⟩, 35), (⟨"FlexLayoutModel", "findLayout", "()V"⟩, 35)]
theorem lw_r2 : ∀ q ∈ lw_privs_2, lw_okq q := List.forall_mem_cons.mpr ⟨lw_p16, List.forall_mem_cons.mpr ⟨lw_p17, List.forall_mem_cons.mpr ⟨lw_p18, List.forall_mem_cons.mpr ⟨lw_p19, List.forall_mem_cons.mpr ⟨lw_p20, List.forall_mem_cons.mpr ⟨lw_p21, List.forall_mem_cons.mpr ⟨lw_p22, List.forall_mem_cons.mpr ⟨lw_p23, List.forall_mem_cons.mpr ⟨lw_p24, List.forall_mem_cons.mpr ⟨lw_p25, List.forall_mem_cons.mpr ⟨lw_p26, List.forall_mem_cons.mpr ⟨lw_p27, List.forall_mem_cons.mpr ⟨lw_p28, List.forall_mem_cons.mpr ⟨lw_p29, List.forall_mem_cons.mpr ⟨lw_p30, List.forall_mem_cons.mpr ⟨lw_p31, fun _ h => absurd h List.not_mem_nil⟩⟩⟩⟩⟩⟩⟩⟩⟩⟩⟩⟩⟩⟩⟩⟩
theorem lw_p32 : lw_okq (⟨"FlexLayoutModel", "findSequence", "()V"⟩, 35) := ⟨⟨by decide +kernel, by decide +kernel⟩, List.mem_of_getElem? (i := 818) (by decide +kernel), List.mem_of_getElem? (i := 1039) (by decide +kernel), List.mem_of_getElem? (i := 1040) (by decide +kernel)⟩
theorem lw_p33 : lw_okq (⟨"FlexLayoutModel", "findLines", "(IZ)V"⟩, 35) := ⟨⟨by decide +kernel, by decide +kernel⟩, List.mem_of_getElem? (i := 818) (by decide +kernel), List.mem_of_getElem? (i := 1043) (by decide +kernel), List.mem_of_getElem? (i := 1044) (by decide +kernel)⟩
theorem lw_p34 : lw_okq (⟨"FlexLayoutModel", "hypothetical", "(I)I"⟩, 35) := ⟨⟨by decide +kernel, by decide +kernel⟩, List.mem_of_getElem? (i := 818) (by decide +kernel), List.mem_of_getElem? (i := 1047) (by decide +kernel), List.mem_of_getElem? (i := 1048) (by decide +kernel)⟩
theorem lw_p35 : lw_okq (⟨"FlexLayoutModel", "clamped", "(II)I"⟩, 35) := ⟨⟨by decide +kernel, by decide +kernel⟩, List.mem_of_getElem? (i := 818) (by decide +kernel), List.mem_of_getElem? (i := 1051) (by decide +kernel), List.mem_of_getElem? (i := 1052) (by decide +kernel)⟩
theorem lw_p36 : lw_okq (⟨"FlexLayoutModel", "findSizes", "(I)V"⟩, 35) := ⟨⟨by decide +kernel, by decide +kernel⟩, List.mem_of_getElem? (i := 818) (by decide +kernel), List.mem_of_getElem? (i := 1055) (by decide +kernel), List.mem_of_getElem? (i := 1056) (by decide +kernel)⟩
theorem lw_p37 : lw_okq (⟨"FlexLayoutModel", "available", "(I)I"⟩, 35) := ⟨⟨by decide +kernel, by decide +kernel⟩, List.mem_of_getElem? (i := 818) (by decide +kernel), List.mem_of_getElem? (i := 1059) (by decide +kernel), List.mem_of_getElem? (i := 1060) (by decide +kernel)⟩
theorem lw_p38 : lw_okq (⟨"FlexLayoutModel", "areFrozen", "(I)Z"⟩, 35) := ⟨⟨by decide +kernel, by decide +kernel⟩, List.mem_of_getElem? (i := 818) (by decide +kernel), List.mem_of_getElem? (i := 1063) (by decide +kernel), List.mem_of_getElem? (i := 1064) (by decide +kernel)⟩
theorem lw_p39 : lw_okq (⟨"FlexLayoutModel", "round", "(IZ)V"⟩, 35) := ⟨⟨by decide +kernel, by decide +kernel⟩, List.mem_of_getElem? (i := 818) (by decide +kernel), List.mem_of_getElem? (i := 1067) (by decide +kernel), List.mem_of_getElem? (i := 1068) (by decide +kernel)⟩
theorem lw_p40 : lw_okq (⟨"FlexLayoutModel", "leftOf", "(I)I"⟩, 35) := ⟨⟨by decide +kernel, by decide +kernel⟩, List.mem_of_getElem? (i := 818) (by decide +kernel), List.mem_of_getElem? (i := 1071) (by decide +kernel), List.mem_of_getElem? (i := 1072) (by decide +kernel)⟩
theorem lw_p41 : lw_okq (⟨"FlexLayoutModel", "hasShares", "(IIZ)Z"⟩, 35) := ⟨⟨by decide +kernel, by decide +kernel⟩, List.mem_of_getElem? (i := 818) (by decide +kernel), List.mem_of_getElem? (i := 1075) (by decide +kernel), List.mem_of_getElem? (i := 1076) (by decide +kernel)⟩
theorem lw_p42 : lw_okq (⟨"FlexLayoutModel", "divides", "(JI)V"⟩, 35) := ⟨⟨by decide +kernel, by decide +kernel⟩, List.mem_of_getElem? (i := 818) (by decide +kernel), List.mem_of_getElem? (i := 1079) (by decide +kernel), List.mem_of_getElem? (i := 1080) (by decide +kernel)⟩
theorem lw_p43 : lw_okq (⟨"FlexLayoutModel", "findLineCrosses", "()V"⟩, 35) := ⟨⟨by decide +kernel, by decide +kernel⟩, List.mem_of_getElem? (i := 818) (by decide +kernel), List.mem_of_getElem? (i := 1083) (by decide +kernel), List.mem_of_getElem? (i := 1084) (by decide +kernel)⟩
theorem lw_p44 : lw_okq (⟨"FlexLayoutModel", "findNatural", "(I)V"⟩, 35) := ⟨⟨by decide +kernel, by decide +kernel⟩, List.mem_of_getElem? (i := 818) (by decide +kernel), List.mem_of_getElem? (i := 1087) (by decide +kernel), List.mem_of_getElem? (i := 1088) (by decide +kernel)⟩
theorem lw_p45 : lw_okq (⟨"FlexLayoutModel", "alignmentOf", "(I)I"⟩, 35) := ⟨⟨by decide +kernel, by decide +kernel⟩, List.mem_of_getElem? (i := 818) (by decide +kernel), List.mem_of_getElem? (i := 1091) (by decide +kernel), List.mem_of_getElem? (i := 1092) (by decide +kernel)⟩
theorem lw_p46 : lw_okq (⟨"FlexLayoutModel", "crossLeft", "()I"⟩, 35) := ⟨⟨by decide +kernel, by decide +kernel⟩, List.mem_of_getElem? (i := 818) (by decide +kernel), List.mem_of_getElem? (i := 1095) (by decide +kernel), List.mem_of_getElem? (i := 1096) (by decide +kernel)⟩
theorem lw_p47 : lw_okq (⟨"FlexLayoutModel", "findPlaces", "(I)V"⟩, 35) := ⟨⟨by decide +kernel, by decide +kernel⟩, List.mem_of_getElem? (i := 818) (by decide +kernel), List.mem_of_getElem? (i := 1105) (by decide +kernel), List.mem_of_getElem? (i := 1106) (by decide +kernel)⟩
def lw_privs_3 : List (MethodName × Nat) := [(⟨"FlexLayoutModel", "findSequence", "()V"⟩, 35), (⟨"FlexLayoutModel", "findLines", "(IZ)V"⟩, 35), (⟨"FlexLayoutModel", "hypothetical", "(I)I"⟩, 35), (⟨"FlexLayoutModel", "clamped", "(II)I"⟩, 35), (⟨"FlexLayoutModel", "findSizes", "(I)V"⟩, 35), (⟨"FlexLayoutModel", "available", "(I)I"⟩, 35), (⟨"FlexLayoutModel", "areFrozen", "(I)Z"⟩, 35), (⟨"FlexLayoutModel", "round", "(IZ)V"⟩, 35), (⟨"FlexLayoutModel", "leftOf", "(I)I"⟩, 35), (⟨"FlexLayoutModel", "hasShares", "(IIZ)Z"⟩, 35), (⟨"FlexLayoutModel", "divides", "(JI)V"⟩, 35), (⟨"FlexLayoutModel", "findLineCrosses", "()V"⟩, 35), (⟨"FlexLayoutModel", "findNatural", "(I)V"⟩, 35), (⟨"FlexLayoutModel", "alignmentOf", "(I)I"⟩, 35), (⟨"FlexLayoutModel", "crossLeft", "()I"⟩, 35), (⟨"FlexLayoutModel", "findPlaces", "(I)V"⟩, 35)]
theorem lw_r3 : ∀ q ∈ lw_privs_3, lw_okq q := List.forall_mem_cons.mpr ⟨lw_p32, List.forall_mem_cons.mpr ⟨lw_p33, List.forall_mem_cons.mpr ⟨lw_p34, List.forall_mem_cons.mpr ⟨lw_p35, List.forall_mem_cons.mpr ⟨lw_p36, List.forall_mem_cons.mpr ⟨lw_p37, List.forall_mem_cons.mpr ⟨lw_p38, List.forall_mem_cons.mpr ⟨lw_p39, List.forall_mem_cons.mpr ⟨lw_p40, List.forall_mem_cons.mpr ⟨lw_p41, List.forall_mem_cons.mpr ⟨lw_p42, List.forall_mem_cons.mpr ⟨lw_p43, List.forall_mem_cons.mpr ⟨lw_p44, List.forall_mem_cons.mpr ⟨lw_p45, List.forall_mem_cons.mpr ⟨lw_p46, List.forall_mem_cons.mpr ⟨lw_p47, fun _ h => absurd h List.not_mem_nil⟩⟩⟩⟩⟩⟩⟩⟩⟩⟩⟩⟩⟩⟩⟩⟩
theorem lw_p48 : lw_okq (⟨"FlexLayoutModel", "coordinate", "(II)I"⟩, 35) := ⟨⟨by decide +kernel, by decide +kernel⟩, List.mem_of_getElem? (i := 818) (by decide +kernel), List.mem_of_getElem? (i := 1126) (by decide +kernel), List.mem_of_getElem? (i := 1127) (by decide +kernel)⟩
theorem lw_p49 : lw_okq (⟨"FlexLayoutModel", "isLine", "(I)Z"⟩, 35) := ⟨⟨by decide +kernel, by decide +kernel⟩, List.mem_of_getElem? (i := 818) (by decide +kernel), List.mem_of_getElem? (i := 1134) (by decide +kernel), List.mem_of_getElem? (i := 1135) (by decide +kernel)⟩
theorem lw_p50 : lw_okq (⟨"FlexLayoutModel", "meet", "(III)Z"⟩, 35) := ⟨⟨by decide +kernel, by decide +kernel⟩, List.mem_of_getElem? (i := 818) (by decide +kernel), List.mem_of_getElem? (i := 1166) (by decide +kernel), List.mem_of_getElem? (i := 1167) (by decide +kernel)⟩
def lw_privs_4 : List (MethodName × Nat) := [(⟨"FlexLayoutModel", "coordinate", "(II)I"⟩, 35), (⟨"FlexLayoutModel", "isLine", "(I)Z"⟩, 35), (⟨"FlexLayoutModel", "meet", "(III)Z"⟩, 35)]
theorem lw_r4 : ∀ q ∈ lw_privs_4, lw_okq q := List.forall_mem_cons.mpr ⟨lw_p48, List.forall_mem_cons.mpr ⟨lw_p49, List.forall_mem_cons.mpr ⟨lw_p50, fun _ h => absurd h List.not_mem_nil⟩⟩⟩
def lw_privs : List (MethodName × Nat) := lw_privs_1 ++ (lw_privs_2 ++ (lw_privs_3 ++ (lw_privs_4)))
def lw_tbl : List Cond := k2_sels lw_privs ++ tables_1
theorem lw_privs_ok : ∀ q ∈ lw_privs, lw_okq q := by
  show ∀ q ∈ lw_privs_1 ++ (lw_privs_2 ++ (lw_privs_3 ++ (lw_privs_4))), lw_okq q
  exact List.forall_mem_append.mpr ⟨lw_r1, List.forall_mem_append.mpr ⟨lw_r2, List.forall_mem_append.mpr ⟨lw_r3, lw_r4⟩⟩⟩
end
section
/-- "the array class over arrays of t is there", as a word of the tables that no argument changes (wanted by va_mna below) -/
def va_AOA (t : FieldType) (U : State) : Prop := (Cond.arrayOver (.array t)).before #[] U = true
theorem va_AOA.use {t : FieldType} {A : Array Value} {U : State} (h : va_AOA t U) : (Cond.arrayOver (.array t)).before A U = true := h
/-! ===== BEGIN words of one list among another's, by their places ===== -/
theorem goodIn_r {big : List Cond} (ws : List Cond) (ps : List Nat) (hp : ws = ps.filterMap (fun i => big[i]?)) (h : ws.all goodWord = true) : GoodIn big ws := by
  intro w hw
  have h1 := List.all_eq_true.mp h w hw
  rw [hp] at hw
  obtain ⟨i, -, hi⟩ := List.mem_filterMap.mp hw
  have hm : w ∈ big := by first | exact List.mem_of_getElem? hi | exact List.getElem?_mem hi
  exact ⟨hm, good_of_word h1⟩
theorem goodIn_app {big a b : List Cond} (ha : GoodIn big a) (hb : GoodIn big b) : GoodIn big (a ++ b) := fun w h => (List.mem_append.mp h).elim (ha w) (hb w)
theorem goodIn_ca {big a b : List Cond} {c : Cond} (ha : GoodIn big (c :: a)) (hb : GoodIn big b) : GoodIn big (c :: (a ++ b)) := fun w h => (List.mem_cons.mp h).elim (fun e => ha w (List.mem_cons.mpr (Or.inl e))) (fun h => (List.mem_append.mp h).elim (fun h => ha w (List.mem_cons.mpr (Or.inr h))) (hb w))
theorem goodIn_sub {big ws : List Cond} (hm : ∀ w ∈ ws, w ∈ big) (h : ws.all goodWord = true) : GoodIn big ws := fun w hw => ⟨hm w hw, good_of_word (List.all_eq_true.mp h w hw)⟩
/-! ===== END ===== -/

/-! ===== BEGIN new T[n][m]: the outer array a place, the inner ones among the pooled ===== -/
/-- f, but v at every address of l -/
def vr_up {α : Type} (f : Nat → α) (l : List Nat) (v : α) : Nat → α := fun a => if a ∈ l then v else f a
theorem vr_up_in {α : Type} {f : Nat → α} {l : List Nat} {v : α} {a : Nat} (h : a ∈ l) : vr_up f l v a = v := if_pos h
theorem vr_up_ne {α : Type} {f : Nat → α} {l : List Nat} {v : α} {a : Nat} (h : a ∉ l) : vr_up f l v a = f a := if_neg h
theorem vr_rows {L l : List Nat} {f : Nat → va_E} {e : va_E} (h : ∀ a, a ∈ l → a ∉ L) : va_pl L f ++ l.map (fun a => (a, e)) = va_pl (L ++ l) (vr_up f l e) := by
  unfold va_pl
  rw [List.map_append]
  congr 1
  · apply List.map_congr_left
    intro a ha
    rw [vr_up_ne (fun q => h a q ha)]
  · apply List.map_congr_left
    intro a ha
    rw [vr_up_in ha]
theorem vr_lay {X rows : va_W} {x : Nat × va_E} {pl : va_W} {D : va_G} {cl : List vw_C} {H : Heap} (hP : va_P D cl (((X ++ pl) ++ [x]) ++ rows) H) : va_P D cl ((X ++ [x]) ++ (pl ++ rows)) H := by
  rw [List.append_assoc (X ++ pl)] at hP
  have h := va_P.swap hP
  rw [← List.append_assoc X] at h
  have h2 := va_P.swap h
  rw [List.append_assoc (X ++ [x])] at h2
  exact h2
theorem vr_layD {X rows : va_W} {x : Nat × va_E} {pl : va_W} {A : Nat → Prop} (hD : va_D A (((X ++ pl) ++ [x]) ++ rows)) : va_D A ((X ++ [x]) ++ (pl ++ rows)) := by
  rw [List.append_assoc (X ++ pl)] at hD
  have h := va_D.swap hD
  rw [← List.append_assoc X] at h
  have h2 := va_D.swap h
  rw [List.append_assoc (X ++ [x])] at h2
  exact h2
theorem vr_outer (c : ClassId) (N h0 : Nat) : ∀ i : Nat, Jvm.Free.Multi.outerC c N h0 i = arrV c N (fun j => va_rf (if j < i then some (h0 + 1 + j) else none))
  | 0 => by
    show ({ cls := c, slots := Array.replicate N .null, vm := .none } : Cell) = _
    rw [arrV_new]
    refine congrArg (arrV c N) (funext fun j => ?_)
    simp [va_rf]
  | i + 1 => by
    show (Jvm.Free.Multi.outerC c N h0 i).setSlot i (.ref (h0 + 1 + i)) = _
    rw [vr_outer c N h0 i, arrV_store]
    refine congrArg (arrV c N) (funext fun j => ?_)
    by_cases e : j = i
    · subst e
      simp [updV, va_rf]
    · by_cases h : j < i
      · simp [updV, e, h, Nat.lt_succ_of_lt h]
      · simp [updV, e, h, show ¬ j < i + 1 by omega]
section VGM
variable {p : Program} {l : Launch} {e : Env} {R : Room} {s : State} {m : MethodId} {args : Array Value} {below : List Frame} {meth : Method} {c : Code} {H : Heap} {locs : List Loc} {cells slots : Nat} {Q : State → Prop}
variable {cc : ByteArray} {pc : Nat} {ls : Array Slot} {rest : List Value} {D : va_G} {cl : List vw_C} {A : Nat → Prop} {a : Nat} {tys : List (ClassId × FieldType)} {ws : va_W} {H0 : Heap}
theorem va_mna {X : va_W} {L : List Nat} {f : Nat → va_E} {cc : ByteArray} (hexec : p.tables.exec = Jvm.exec) (hb : c.code = cc) {own : String} {index : Nat} {ty : FieldType} {cy : ClassId} (hown : s.vm.findClass own = some m.cls) (hclink : (Cond.classLink own index ("[" ++ (FieldType.array ty).toString)).before args s = true) (hover : va_AOA ty s) (harr : (Cond.arrayClass ty).before args s = true) (hcy : s.vm.findClass (FieldType.array ty).toString = some cy)
    (hK : va_K D cl tys s) (hP : va_P D cl (X ++ va_pl L f) H) (hD : va_D A (X ++ va_pl L f)) (hS : va_S A H0 H locs) (hA : ∀ q, H0.size ≤ q → A q) {n k : Int32} {N' K' : Nat} {z : vp_A} (hn : ¬ n < 0) (hk : ¬ k < 0) (hN : n.toNatClampNeg = N') (hM : k.toNatClampNeg = K')
    (hb1 : N' * 4 ≤ 536870912) (hb2 : K' * componentBytes ty ≤ 536870912) (hb3 : K' ≤ 536870912) (hdf : fits ty (defaultValue ty) = true) (hdd : (defaultValue ty).isDefault = true) (hcells : cells + (1 + N') ≤ R.cells) (hslots : slots + (N' + N' * K') ≤ R.slots) (hz : ∀ c : ClassId, Jvm.Free.Multi.innerC c K' (defaultValue ty) = vp_cell c z) (hdg : decode cc pc = .ok (.multianewarray index 2, 4))
    (kk : ∀ (q : Nat) (r : Nat → Nat) (cA : ClassId) (H1 : Heap), (∀ i j : Nat, i < N' → j < N' → r i = r j → i = j) → (∀ i : Nat, i < N' → r i ∉ L) → va_K D cl (tys ++ [(cA, .array ty)]) s →
      va_P D cl ((X ++ [(q, .inl (cA, N', .inr (.inr (.inr (.inr (fun i => if i < N' then some (r i) else none))))))]) ++ va_pl (L ++ (List.range N').map r) (vr_up f ((List.range N').map r) (.inl (cy, z)))) H1 → va_D A ((X ++ [(q, .inl (cA, N', .inr (.inr (.inr (.inr (fun i => if i < N' then some (r i) else none))))))]) ++ va_pl (L ++ (List.range N').map r) (vr_up f ((List.range N').map r) (.inl (cy, z)))) → va_S A H0 H1 locs →
      W p l e R s m args below meth c H1 locs (cells + 1 + N') (slots + N' + N' * K') Q (F0 m (pc + 4) ls (.ref q :: rest))) : W p l e R s m args below meth c H locs cells slots Q (F0 m pc ls (.int k :: .int n :: rest)) := by
  subst hN
  subst hM
  intro T hT Xs
  obtain ⟨vm₁, cA, comp, -, fA, fC, hO, -, X', step⟩ := Xs.multianewarray2F hexec hown hclink (va_AOA.use hover) harr (g := F0 m pc ls (.int k :: .int n :: rest)) rfl (by rw [hb]; exact hdg) rfl hn hk hb1 hb2 hb3 hdf hdd hcells hslots
  have ec : some cy = some comp := hcy.symm.trans fC
  cases ec
  generalize hF : Jvm.Free.Multi.fill (T.setVm vm₁) cA cy n.toNatClampNeg k.toNatClampNeg (defaultValue ty) n.toNatClampNeg = F at X' step
  have hTh : (T.setVm vm₁).heap = H := hT
  obtain ⟨f1, f2, -, -⟩ := Jvm.Free.Multi.fill_facts (T.setVm vm₁) cA cy n.toNatClampNeg k.toNatClampNeg (defaultValue ty) n.toNatClampNeg
  rw [hF, hTh] at f1 f2
  have hold : ∀ x : Nat, x < H.size → F.heap[x]? = H[x]? := fun x hx => by
    have := Jvm.Free.Multi.fill_old (T.setVm vm₁) cA cy n.toNatClampNeg k.toNatClampNeg (defaultValue ty) (a := x) (by rw [hTh]; exact hx) n.toNatClampNeg
    rw [hF, hTh] at this
    exact this
  have hrow : ∀ j : Nat, j < n.toNatClampNeg → F.heap[H.size + 1 + j]? = some (vp_cell cy z) := fun j hj => by
    have := Jvm.Free.Multi.fill_inner (T.setVm vm₁) cA cy n.toNatClampNeg k.toNatClampNeg (defaultValue ty) n.toNatClampNeg j hj
    rw [hF, hTh, hz] at this
    exact this
  have hout : Jvm.Free.Multi.outerC cA n.toNatClampNeg H.size n.toNatClampNeg = vp_cell cA (n.toNatClampNeg, .inr (.inr (.inr (.inr (fun i => if i < n.toNatClampNeg then some (H.size + 1 + i) else none))))) := by
    rw [vp_cell_q]
    exact vr_outer cA n.toNatClampNeg H.size n.toNatClampNeg
  rw [hout] at f2
  have hlt : ∀ a, a ∈ L → a < H.size := fun a ha => by
    obtain ⟨k9, hk9⟩ := va_pl_get (X := X) (f := f) ha
    exact (hP k9 _ hk9).lt
  have hnl : ∀ i : Nat, i < n.toNatClampNeg → H.size + 1 + i ∉ L := fun i _ h => by
    have := hlt _ h
    omega
  have hnm : ∀ a, a ∈ (List.range n.toNatClampNeg).map (fun i => H.size + 1 + i) → a ∉ L := fun a ha h => by
    obtain ⟨i, -, rfl⟩ := List.mem_map.mp ha
    have := hlt _ h
    omega
  have hP0 : va_P D cl (X ++ va_pl L f) F.heap := hP.kept (fun k9 x hx => hold x.1 ((hP k9 x hx).lt))
  have hP1 : va_P D cl ((X ++ va_pl L f) ++ [(H.size, .inl (cA, n.toNatClampNeg, .inr (.inr (.inr (.inr (fun i => if i < n.toNatClampNeg then some (H.size + 1 + i) else none))))))]) F.heap := hP0.app (fun k9 x hx => by
    have h0 : k9 < 1 := (List.getElem?_eq_some_iff.mp hx).1
    rw [show k9 = 0 by omega] at hx
    cases hx
    exact f2)
  have hP2 : va_P D cl (((X ++ va_pl L f) ++ [(H.size, .inl (cA, n.toNatClampNeg, .inr (.inr (.inr (.inr (fun i => if i < n.toNatClampNeg then some (H.size + 1 + i) else none))))))]) ++ ((List.range n.toNatClampNeg).map (fun i => H.size + 1 + i)).map (fun a => (a, .inl (cy, z)))) F.heap := hP1.app (fun k9 x hx => by
    obtain ⟨a, ha, rfl⟩ := List.mem_map.mp (List.mem_of_getElem? hx)
    obtain ⟨i, hi, rfl⟩ := List.mem_map.mp ha
    exact hrow i (List.mem_range.mp hi))
  have hD2 : va_D A (((X ++ va_pl L f) ++ [(H.size, .inl (cA, n.toNatClampNeg, .inr (.inr (.inr (.inr (fun i => if i < n.toNatClampNeg then some (H.size + 1 + i) else none))))))]) ++ ((List.range n.toNatClampNeg).map (fun i => H.size + 1 + i)).map (fun a => (a, .inl (cy, z)))) := by
    have hD1 := hD.push (e := .inl (cA, n.toNatClampNeg, .inr (.inr (.inr (.inr (fun i => if i < n.toNatClampNeg then some (H.size + 1 + i) else none)))))) hP rfl (hA _ hS.1)
    generalize hW1 : (X ++ va_pl L f) ++ [(H.size, .inl (cA, n.toNatClampNeg, .inr (.inr (.inr (.inr (fun i => if i < n.toNatClampNeg then some (H.size + 1 + i) else none))))))] = W1 at hD1 hP1 ⊢
    have hle : ∀ (k9 : Nat) (x : Nat × va_E), W1[k9]? = some x → x.1 ≤ H.size := fun k9 x hx => by
      rw [← hW1] at hx
      by_cases hl : k9 < (X ++ va_pl L f).length
      · rw [List.getElem?_append_left hl] at hx
        exact Nat.le_of_lt ((hP k9 x hx).lt)
      · rw [List.getElem?_append_right (by omega)] at hx
        have h0 : k9 - (X ++ va_pl L f).length < 1 := (List.getElem?_eq_some_iff.mp hx).1
        rw [show k9 - (X ++ va_pl L f).length = 0 by omega] at hx
        cases hx
        exact Nat.le_refl _
    have hr : ∀ (k9 : Nat) (x : Nat × va_E), (((List.range n.toNatClampNeg).map (fun i => H.size + 1 + i)).map (fun a => ((a, .inl (cy, z)) : Nat × va_E)))[k9]? = some x → x.1 = H.size + 1 + k9 := fun k9 x hx => by
      rw [List.getElem?_map, List.getElem?_map] at hx
      by_cases h9 : k9 < n.toNatClampNeg
      · rw [List.getElem?_range h9] at hx
        cases hx
        rfl
      · have hn0 : (List.range n.toNatClampNeg)[k9]? = none := List.getElem?_eq_none (by rw [List.length_range]; omega)
        rw [hn0] at hx
        cases hx
    refine ⟨fun i j x y hi hj hxy => ?_, fun k9 x hx => ?_⟩
    · by_cases h1 : i < W1.length <;> by_cases h2 : j < W1.length
      · rw [List.getElem?_append_left h1] at hi
        rw [List.getElem?_append_left h2] at hj
        exact hD1.1 i j x y hi hj hxy
      · rw [List.getElem?_append_left h1] at hi
        rw [List.getElem?_append_right (by omega)] at hj
        have := hle _ _ hi
        have := hr _ _ hj
        omega
      · rw [List.getElem?_append_right (by omega)] at hi
        rw [List.getElem?_append_left h2] at hj
        have := hle _ _ hj
        have := hr _ _ hi
        omega
      · rw [List.getElem?_append_right (by omega)] at hi hj
        have := hr _ _ hi
        have := hr _ _ hj
        omega
    · by_cases h1 : k9 < W1.length
      · rw [List.getElem?_append_left h1] at hx
        exact hD1.2 k9 x hx
      · rw [List.getElem?_append_right (by omega)] at hx
        have := hr _ _ hx
        exact hA _ (by have := hS.1; omega)
  have hAr : ArrOfT s cA (.array ty) := fun N9 z9 => by
    obtain ⟨-, k9, hk9, cm9, hkk9⟩ := (hO 0 0 0).1
    exact ⟨(fun q hq => by cases hq), k9, hk9, cm9, hkk9⟩
  have hK2 : va_K D cl (tys ++ [(cA, .array ty)]) s := ⟨hK.1, fun k9 x hx => by
    by_cases hl : k9 < tys.length
    · rw [List.getElem?_append_left hl] at hx
      exact hK.2 k9 x hx
    · rw [List.getElem?_append_right (by omega)] at hx
      have h0 : k9 - tys.length < 1 := (List.getElem?_eq_some_iff.mp hx).1
      rw [show k9 - tys.length = 0 by omega] at hx
      cases hx
      exact ⟨hAr, fA⟩⟩
  obtain ⟨t, a1, b1⟩ := kk H.size (fun i => H.size + 1 + i) cA F.heap (fun i j _ _ h => by have h9 : H.size + 1 + i = H.size + 1 + j := h; omega) hnl hK2 (by rw [← vr_rows hnm]; exact vr_lay hP2) (by rw [← vr_rows hnm]; exact vr_layD hD2) ⟨by rw [f1]; have := hS.1; omega, fun x h1 h2 => (hold x (Nat.lt_of_lt_of_le h1 hS.1)).trans (hS.2.1 x h1 h2), hS.2.2⟩ F rfl X'
  refine ⟨t, step t ?_, b1⟩
  have e : T.heap.size = H.size := by rw [hT]
  rw [e]
  exact a1
end VGM
/-! ===== END ===== -/

/-! ===== BEGIN exceptions that leave a method, and their catching by the caller (launches without stack traces) ===== -/
section VXA
/-! The laws vx_back, vx_callV, vx_callS, vx_callSW, vx_throw0, vx_throwS follow proofs of the library, with one case more: JvmDerived/Free/Laws.lean (Back.of_free), Shelf42/LK1.lean (callV, callS), Shelf/KitTraced.lean (throwNew0V, throwNewS). -/
/-- where a method has thrown q: the class by its name, the cell, what was written, the world -/
def vx_T (XC : String → State → State → Prop) (st : State) (q : Addr) (t : State) (mc ms : Nat) (free : Addr → Prop) : Prop :=
  ∃ (E : String) (ce : Cell) (L : List Loc), XC E st t ∧ t.heap[q]? = some ce ∧ ce.vm = .none ∧ st.vm.findClass E = some ce.cls ∧ st.WarmedH t.vm ∧ st.sameButNew ({ t with vm := st.vm } : State) L mc ms ∧ ∀ z ∈ L, free z.base
def vx_Q (Qc : Array Value → State → Outcome → State → Prop) (XC : String → State → State → Prop) (mc ms : Nat) (free : Addr → Prop) : Array Value → State → Outcome → State → Prop := fun a st o t =>
  (Qc a st o t ∧ ∃ L, FrameEnd st o t L mc ms ∧ ∀ q ∈ L, free q.base) ∨ ∃ q, o = .threw q ∧ vx_T XC st q t mc ms free
/-- a callee that returns or throws -/
def vx_Met (l : Launch) (y : MethodName) (ws : List Cond) (rm : Room) (Pc : Array Value → State → Prop) (Qc : Array Value → State → Outcome → State → Prop) (XC : String → State → State → Prop) (mc ms : Nat) (free : Addr → Prop) : Prop :=
  MetFree l y (headSpec ws rm) Pc (fun _ _ _ _ _ => True) (vx_Q Qc XC mc ms free)
def vx_Post (XC : String → State → State → Prop) (mc ms : Nat) (free : Addr → Prop) : Pt → Array Value → Addr → Pt → Prop := fun A a q B =>
  ∃ (g : JFrame) (mk : MethodId) (t : State) (L : List Loc) (E : String) (ce : Cell), B.U.heap = t.heap ∧ B.U.vm = t.vm ∧ XC E (A.U.calling g mk a) t ∧ t.heap[q]? = some ce ∧ ce.vm = .none ∧ A.U.vm.findClass E = some ce.cls ∧ B.locs = A.locs ++ L ∧ (∀ z ∈ L, free z.base) ∧ B.cells = A.cells + mc ∧ B.slots = A.slots + ms
def vx_Back (l : Launch) (R : Room) (p : Program) (e : Env) (below : List Frame) (s : State) (sargs : Array Value) (y : MethodName) (len W9 : Nat)
    (Pre : Pt → Array Value → Prop) (Post : Pt → Array Value → Option Value → Pt → Prop) (PostX : Pt → Array Value → Addr → Pt → Prop) : Prop :=
  ∀ (m : MethodId) (meth : Method) (c : Code) (A : Pt) (g : JFrame) (ig : Instr) (mk : MethodId) (a : Array Value),
    Stand p l e R s m sargs below meth c A.U A.locs A.cells A.slots → g.method = m → g.locals.size = c.maxLocals → decode c.code g.pc = .ok (ig, len) →
    2 * g.monitorRoom + (g.stack.map fun v => v.category).sum ≤ W9 → A.U.methodNamed? y = some mk → Pre A a →
    (∃ (v : Option Value) (B : Pt), Stand p l e R s m sargs below meth c B.U B.locs B.cells B.slots ∧ Post A a v B ∧
      Steps p.tables e below (doInvoke e (A.U.setTop g) [] mk a).1 (B.U.setTop { g with pc := g.pc + len, stack := v.toList ++ g.stack })) ∨
    (∃ (q : Addr) (B : Pt), Stand p l e R s m sargs below meth c B.U B.locs B.cells B.slots ∧ PostX A a q B ∧
      Steps p.tables e below (doInvoke e (A.U.setTop g) [] mk a).1 ((B.U.setTop g).pushFrame (.throwing q)))
section Payer
variable {l : Launch} {R : Room} {p : Program} {e : Env} {below : List Frame} {s : State} {sargs : Array Value} {y : MethodName} {len W9 : Nat}
theorem vx_back {ws : List Cond} {rm : Room} {Pc : Array Value → State → Prop} {Qc : Array Value → State → Outcome → State → Prop} {XC : String → State → State → Prop} {mc ms : Nat} {free : Addr → Prop} {bytes : ByteArray} {maxL : Nat} {ret : Option FieldType}
    (hM : vx_Met l y ws rm Pc Qc XC mc ms free) (hblind : FrameBlind Pc) (hrc : rm.cells = mc) (hrs : rm.slots = ms)
    (hframes : rm.frames + 1 ≤ R.frames) (hlocals : W9 + (maxL + 11) + rm.locals ≤ R.locals)
    (hws : ∀ w ∈ ws, ∀ a' U, s.WarmedH U.vm → w.before a' U = true) (hcode : Cond.code y bytes maxL ret ∈ ws) (hinit : ∀ a' U, s.WarmedH U.vm → (Cond.initialized y.cls).before a' U = true) :
    vx_Back l R p e below s sargs y len W9 (PreOf R mc ms Pc) (PostOf Qc mc ms free) (vx_Post XC mc ms free) := by
  intro m meth c A g ig mk a X hg hsize hdg hW hn hp
  have h1 : (headSpec ws rm).pre.before a A.U = true := atoms_intro fun w hw => hws w hw _ _ X.warmed
  have h2 : (Cond.code y bytes maxL ret).before a A.U = true := hws _ hcode _ _ X.warmed
  have h3 : (Cond.initialized y.cls).before a A.U = true := hinit _ _ X.warmed
  have h4 : A.cells + (headSpec ws rm).room.cells ≤ R.cells := by rw [show (headSpec ws rm).room.cells = mc from hrc]; exact hp.1
  have h5 : A.slots + (headSpec ws rm).room.slots ≤ R.slots := by rw [show (headSpec ws rm).room.slots = ms from hrs]; exact hp.2.1
  have hPc : Pc a (A.U.calling g mk a) := hblind _ _ _ _ hp.2.2
  obtain ⟨U, Ls, c0, s0⟩ := A
  dsimp only [Pt.U, Pt.locs, Pt.cells, Pt.slots] at h1 h2 h3 h4 h5 X hn hPc ⊢
  obtain ⟨methY, cY, hmY, hcY, -, hlY, -, -, -, -⟩ := Cond.code_spec hn h2
  obtain ⟨kY, hkY, -⟩ := className_of_methodNamed hn
  have hinitY : kY.init = .initialized := Cond.initialized_spec (findClass_of_methodNamed hn) hkY h3
  have h : At U g.method c below := by rw [hg]; exact X.here
  have hlocals9 : W9 + (maxL + 11) + (headSpec ws rm).room.locals ≤ R.locals := hlocals
  have happ : (headSpec ws rm).appliesLoose y e.platform (U.calling g mk a) = true :=
    Spec.appliesLoose_calling (g := g) h hdg hn hkY hinitY
      (X.room_calling (g := g) (R' := (headSpec ws rm).room) hsize hmY hcY hframes (by rw [hlY]; omega) h4 h5) h1
  obtain ⟨mid, hmid⟩ := h.above
  have hfr : (U.setTop g).frames = (.java g :: mid) ++ below := by rw [State.frames_setTop' g h.top, hmid]; rfl
  obtain ⟨o, s₂, hsteps, -, hend, hq⟩ := Steps.callFree hM p X.admits X.cas X.clock (acts := []) hfr happ hPc trivial
  have hq' : vx_Q Qc XC mc ms free a (U.calling g mk a) o s₂ := hq
  rw [State.frames_setTop' g h.top] at hend
  obtain ⟨g₀, hg0⟩ := Option.isSome_iff_exists.mp h.top
  obtain ⟨r, hr⟩ := State.topJava?_eq_some.mp hg0
  have hr' : (({ U with heap := s₂.heap, slotsUsed := s₂.slotsUsed } : State).setVm s₂.vm).frames = .java g₀ :: r := hr
  rcases hq' with ⟨hqc, L, hfe, hL⟩ | ⟨q, rfl, E, ce, L, hx, hce, hcv, hcl, hW₂, hsm, hL⟩
  · obtain ⟨⟨v, rfl⟩, hW₂, e2, q2, q3, q4, q5, q6⟩ := id hfe
    have e3 : s₂ = ({ (U.calling g mk a).setFrames s₂.frames with heap := s₂.heap, slotsUsed := s₂.slotsUsed } : State).setVm s₂.vm := by
      have : s₂ = ({ s₂ with vm := (U.calling g mk a).vm } : State).setVm s₂.vm := rfl
      rw [e2] at this
      exact this
    obtain ⟨c₂, i₂, len₂, hc₂, hd₂, hf₂⟩ := hend
    have hW' : U.WarmedH s₂.vm := hW₂
    have hcc : c₂ = c := by
      have h1 : s₂.code? g.method = U.code? g.method := by
        rw [State.code?_eq, State.code?_eq, hW'.alike.method?]
      exact Option.some.inj (hc₂.symm.trans (h1.trans h.code))
    subst hcc
    have hlen : len₂ = len := by rw [hdg] at hd₂; cases hd₂; rfl
    subst hlen
    have hs₂ : s₂ = (({ U with heap := s₂.heap, slotsUsed := s₂.slotsUsed } : State).setVm s₂.vm).setTop { g with pc := g.pc + len₂, stack := v.toList ++ g.stack } := by
      refine e3.trans ?_
      rw [hf₂, State.calling_eq h.top, State.setFrames_setFrames, State.setTop_of_frames _ hr', hr]
      rfl
    have hsame : U.sameButNew ({ U with heap := s₂.heap, slotsUsed := s₂.slotsUsed } : State) L mc ms := by
      refine ⟨?_, q2, q3, q4, q5, q6⟩
      obtain ⟨t, ht, -⟩ := State.frames_cons hr
      show ({ U with heap := s₂.heap, slotsUsed := s₂.slotsUsed } : State) = { U.setFrames U.frames with heap := s₂.heap, slotsUsed := s₂.slotsUsed }
      rw [State.setFrames_self ht]
    subst hg
    refine Or.inl ⟨v, ⟨(({ U with heap := s₂.heap, slotsUsed := s₂.slotsUsed } : State).setVm s₂.vm), Ls ++ L, c0 + mc, s0 + ms⟩,
      ⟨X.admits, X.cas, X.clock, X.frames, X.room, X.hears, X.method, X.code, (X.here.setHeapUsed s₂.heap s₂.slotsUsed).setVm hW'.alike, X.tail, State.WarmedH.trans X.warmed hW', X.limits, X.bytes, X.same.trans (hsame.setVm s.vm)⟩,
      ⟨g, mk, s₂, L, rfl, rfl, hqc, rfl, hL, rfl, rfl⟩, ?_⟩
    show Steps p.tables e below _ ((({ U with heap := s₂.heap, slotsUsed := s₂.slotsUsed } : State).setVm s₂.vm).setTop { g with pc := g.pc + len₂, stack := v.toList ++ g.stack })
    rw [← hs₂]
    exact hsteps
  · obtain ⟨e2, q2, q3, q4, q5, q6⟩ := id hsm
    have e3 : s₂ = ({ (U.calling g mk a).setFrames s₂.frames with heap := s₂.heap, slotsUsed := s₂.slotsUsed } : State).setVm s₂.vm := by
      have : s₂ = ({ s₂ with vm := (U.calling g mk a).vm } : State).setVm s₂.vm := rfl
      rw [e2] at this
      exact this
    have hf₂ : s₂.frames = .throwing q :: .java g :: U.frames.tail := hend
    have hW' : U.WarmedH s₂.vm := hW₂
    have hs₂ : s₂ = ((({ U with heap := s₂.heap, slotsUsed := s₂.slotsUsed } : State).setVm s₂.vm).setTop g).pushFrame (.throwing q) := by
      refine e3.trans ?_
      rw [hf₂, State.calling_eq h.top, State.setFrames_setFrames, State.pushFrame, State.frames_setTop _ hr', State.setTop_of_frames _ hr', State.setFrames_setFrames, hr]
      rfl
    have hsame : U.sameButNew ({ U with heap := s₂.heap, slotsUsed := s₂.slotsUsed } : State) L mc ms := by
      refine ⟨?_, q2, q3, q4, q5, q6⟩
      obtain ⟨t, ht, -⟩ := State.frames_cons hr
      show ({ U with heap := s₂.heap, slotsUsed := s₂.slotsUsed } : State) = { U.setFrames U.frames with heap := s₂.heap, slotsUsed := s₂.slotsUsed }
      rw [State.setFrames_self ht]
    subst hg
    refine Or.inr ⟨q, ⟨(({ U with heap := s₂.heap, slotsUsed := s₂.slotsUsed } : State).setVm s₂.vm), Ls ++ L, c0 + mc, s0 + ms⟩,
      ⟨X.admits, X.cas, X.clock, X.frames, X.room, X.hears, X.method, X.code, (X.here.setHeapUsed s₂.heap s₂.slotsUsed).setVm hW'.alike, X.tail, State.WarmedH.trans X.warmed hW', X.limits, X.bytes, X.same.trans (hsame.setVm s.vm)⟩,
      ⟨g, mk, s₂, L, E, ce, rfl, rfl, hx, hce, hcv, hcl, rfl, hL, rfl, rfl⟩, ?_⟩
    show Steps p.tables e below _ (((({ U with heap := s₂.heap, slotsUsed := s₂.slotsUsed } : State).setVm s₂.vm).setTop g).pushFrame (.throwing q))
    rw [← hs₂]
    exact hsteps
end Payer
section Calls
variable {p : Program} {l : Launch} {e : Env} {R : Room} {s : State} {m : MethodId} {args : Array Value} {below : List Frame} {meth : Method} {c : Code} {T : State} {locs : List Loc} {cells slots : Nat}
theorem vx_callV (X : Stand p l e R s m args below meth c T locs cells slots) (hexec : p.tables.exec = Jvm.exec) {own C : String} {index : Nat} {y : MethodName} {bytes : ByteArray} {maxL : Nat} {ret : Option FieldType}
    (hown : s.vm.findClass own = some m.cls) (hlink : (Cond.methodLink own index y).before args s = true) (hinst : (Cond.instanceMethod y).before args s = true) (hsel : (Cond.selects C y y).before args s = true)
    (hcode : (Cond.code y bytes maxL ret).before args s = true) (hy : y.cls ≠ "java/lang/invoke/MethodHandle" ∧ y.cls ≠ "java/lang/invoke/VarHandle")
    {W9 : Nat} {Pre : Pt → Array Value → Prop} {Post : Pt → Array Value → Option Value → Pt → Prop} {PostX : Pt → Array Value → Addr → Pt → Prop} (hK : vx_Back l R p e below s args y 3 W9 Pre Post PostX)
    {b : Addr} {cellB : Cell} (hcell : T.heap[b]? = some cellB) (hobj : cellB.vm.isStatics = false) (hcls : s.vm.findClass C = some cellB.cls)
    {g : JFrame} (hg : g.method = m) (hsize : g.locals.size = c.maxLocals) {argsL rest : List Value} (hlen : ∀ sig, parseMethodDescriptor y.desc = some sig → argsL.length = sig.parameters.length)
    (hstack : g.stack = argsL.reverse ++ .ref b :: rest) (hW : 2 * g.monitorRoom + (rest.map fun v => v.category).sum ≤ W9) (hdg : decode c.code g.pc = .ok (.invokevirtual index, 3))
    (hpre : ∀ vm₁, s.WarmedH vm₁ → Pre ⟨T.setVm vm₁, locs, cells, slots⟩ (Value.ref b :: argsL).toArray) :
    (∃ (v : Option Value) (vm₁ : Vm) (B : Pt), s.WarmedH vm₁ ∧ Stand p l e R s m args below meth c B.U B.locs B.cells B.slots ∧ Post ⟨T.setVm vm₁, locs, cells, slots⟩ (Value.ref b :: argsL).toArray v B ∧
      ∀ target, Steps p.tables e below (B.U.setTop { g with pc := g.pc + 3, stack := v.toList ++ rest }) target → Steps p.tables e below (T.setTop g) target) ∨
    (∃ (q : Addr) (vm₁ : Vm) (B : Pt), s.WarmedH vm₁ ∧ Stand p l e R s m args below meth c B.U B.locs B.cells B.slots ∧ PostX ⟨T.setVm vm₁, locs, cells, slots⟩ (Value.ref b :: argsL).toArray q B ∧
      Steps p.tables e below (T.setTop g) ((B.U.setTop { g with stack := rest }).pushFrame (.throwing q))) := by
  obtain ⟨mk, methM, hnamed, hmethM, hstM, habM⟩ := Cond.instanceMethod_spec hinst
  obtain ⟨methM', cM, hmethM', -, -, -, -, -, -, hsigM⟩ := Cond.code_spec hnamed hcode
  cases hmethM.symm.trans hmethM'
  obtain ⟨c2, r2, m2, q1, q2, q3, q4, kP, hkP, hkPi⟩ := Cond.selects_spec hsel
  cases hcls.symm.trans q1
  cases (State.methodFound?_of_named hnamed hy).symm.trans q2
  cases hnamed.symm.trans q3
  have hselP : selectMethod e.platform s.vm cellB.cls mk = .method mk := by rw [Launch.admits_selectMethod X.admits]; exact q4
  obtain ⟨vm₁, X₁, hstep₁⟩ := X.invokevirtual hexec hown hlink hnamed hmethM hstM hkP hkPi hy (a := b) (cell := cellB) hcell
    (fun z h => by rw [h] at hobj; cases hobj) hselP hmethM habM hkP hkPi (g := g) hg (argsL := argsL) (rest := rest) (hlen _ hsigM) hstack hdg
  rcases hK m meth c ⟨T.setVm vm₁, locs, cells, slots⟩ { g with stack := rest } (.invokevirtual index) mk (Value.ref b :: argsL).toArray X₁ hg hsize hdg hW (X₁.named hnamed) (hpre vm₁ X₁.warmed) with ⟨v, B, X', hpost, hsteps⟩ | ⟨q, B, X', hpost, hsteps⟩
  · exact Or.inl ⟨v, vm₁, B, X₁.warmed, X', hpost, fun target h => hstep₁ _ fun acts => by rw [doInvoke_state]; exact hsteps.trans h⟩
  · exact Or.inr ⟨q, vm₁, B, X₁.warmed, X', hpost, hstep₁ _ fun acts => by rw [doInvoke_state]; exact hsteps⟩
theorem vx_callS (X : Stand p l e R s m args below meth c T locs cells slots) (hexec : p.tables.exec = Jvm.exec) {own : String} {index : Nat} {y : MethodName} {bytes : ByteArray} {maxL : Nat} {ret : Option FieldType}
    (hown : s.vm.findClass own = some m.cls) (hlink : (Cond.methodLink own index y).before args s = true) (hstat : (Cond.static y).before args s = true) (hinit : (Cond.initialized y.cls).before args s = true)
    (hcode : (Cond.code y bytes maxL ret).before args s = true) (hy : y.cls ≠ "java/lang/invoke/MethodHandle" ∧ y.cls ≠ "java/lang/invoke/VarHandle")
    {W9 : Nat} {Pre : Pt → Array Value → Prop} {Post : Pt → Array Value → Option Value → Pt → Prop} {PostX : Pt → Array Value → Addr → Pt → Prop} (hK : vx_Back l R p e below s args y 3 W9 Pre Post PostX)
    {g : JFrame} (hg : g.method = m) (hsize : g.locals.size = c.maxLocals) {argsL rest : List Value} (hlen : ∀ sig, parseMethodDescriptor y.desc = some sig → argsL.length = sig.parameters.length)
    (hstack : g.stack = argsL.reverse ++ rest) (hW : 2 * g.monitorRoom + (rest.map fun v => v.category).sum ≤ W9) (hdg : decode c.code g.pc = .ok (.invokestatic index, 3))
    (hpre : ∀ vm₁, s.WarmedH vm₁ → Pre ⟨T.setVm vm₁, locs, cells, slots⟩ argsL.toArray) :
    (∃ (v : Option Value) (vm₁ : Vm) (B : Pt), s.WarmedH vm₁ ∧ Stand p l e R s m args below meth c B.U B.locs B.cells B.slots ∧ Post ⟨T.setVm vm₁, locs, cells, slots⟩ argsL.toArray v B ∧
      ∀ target, Steps p.tables e below (B.U.setTop { g with pc := g.pc + 3, stack := v.toList ++ rest }) target → Steps p.tables e below (T.setTop g) target) ∨
    (∃ (q : Addr) (vm₁ : Vm) (B : Pt), s.WarmedH vm₁ ∧ Stand p l e R s m args below meth c B.U B.locs B.cells B.slots ∧ PostX ⟨T.setVm vm₁, locs, cells, slots⟩ argsL.toArray q B ∧
      Steps p.tables e below (T.setTop g) ((B.U.setTop { g with stack := rest }).pushFrame (.throwing q))) := by
  obtain ⟨mk, hnamed⟩ := Cond.code_named hcode
  obtain ⟨methM, cM, hmethM, -, -, -, -, -, -, hsigM⟩ := Cond.code_spec hnamed hcode
  have hstatic : methM.isStatic = true := Cond.static_spec hnamed hmethM hstat
  obtain ⟨kP, hkP, -⟩ := className_of_methodNamed hnamed
  have hinitP : kP.init = .initialized := Cond.initialized_spec (findClass_of_methodNamed hnamed) hkP hinit
  obtain ⟨vm₁, X₁, hstep₁⟩ := X.invokestatic hexec hown hlink hnamed hmethM hstatic hkP hinitP hy (g := g) hg (argsL := argsL) (rest := rest) (hlen _ hsigM) hstack hdg
  rcases hK m meth c ⟨T.setVm vm₁, locs, cells, slots⟩ { g with stack := rest } (.invokestatic index) mk argsL.toArray X₁ hg hsize hdg hW (X₁.named hnamed) (hpre vm₁ X₁.warmed) with ⟨v, B, X', hpost, hsteps⟩ | ⟨q, B, X', hpost, hsteps⟩
  · exact Or.inl ⟨v, vm₁, B, X₁.warmed, X', hpost, fun target h => hstep₁ _ fun acts => by rw [doInvoke_state]; exact hsteps.trans h⟩
  · exact Or.inr ⟨q, vm₁, B, X₁.warmed, X', hpost, hstep₁ _ fun acts => by rw [doInvoke_state]; exact hsteps⟩
end Calls
theorem vx_cls {s : State} {T : State} {vm₁ : Vm} {E : String} {k : ClassId} (hW : s.WarmedH vm₁) (h : (T.setVm vm₁).vm.findClass E = some k) : s.vm.findClass E = some k := by
  have h1 : vm₁.findClass E = some k := h
  rw [hW.alike.findClass] at h1
  exact h1
/-- the method's frame g, with q thrown over it -/
def vx_W (p : Program) (l : Launch) (e : Env) (R : Room) (s : State) (m : MethodId) (args : Array Value) (below : List Frame) (meth : Method) (c : Code) (H : Heap) (locs : List Loc) (cells slots : Nat) (Q : State → Prop) (g : JFrame) (q : Addr) : Prop :=
  ∀ T : State, T.heap = H → Stand p l e R s m args below meth c T locs cells slots → ∃ t, Steps p.tables e below ((T.setTop g).pushFrame (.throwing q)) t ∧ Q t
def vx_Run (p : Program) (l : Launch) (e : Env) (R : Room) (s : State) (m : MethodId) (args : Array Value) (below : List Frame) (meth : Method) (c : Code) (H : Heap) (locs : List Loc) (cells slots mc ms : Nat) (g : JFrame) (rest : List Value) (Qa : State → Outcome → State → Prop) (XC : String → State → State → Prop) (free : Addr → Prop) : Prop :=
  ∀ T : State, T.heap = H → Stand p l e R s m args below meth c T locs cells slots →
    (∃ (v : Option Value) (st₀ t T' : State) (L : List Loc), st₀.heap = H ∧ Stand p l e R s m args below meth c T' (locs ++ L) (cells + mc) (slots + ms) ∧ (∀ q ∈ L, free q.base) ∧ T'.heap = t.heap ∧ T'.vm = t.vm ∧ Qa st₀ (.returned v) t ∧
      Goes p e below T g T' { g with pc := g.pc + 3, stack := v.toList ++ rest }) ∨
    (∃ (q : Addr) (st₀ t T' : State) (L : List Loc) (E : String) (ce : Cell), st₀.heap = H ∧ Stand p l e R s m args below meth c T' (locs ++ L) (cells + mc) (slots + ms) ∧ (∀ z ∈ L, free z.base) ∧ T'.heap = t.heap ∧ T'.vm = t.vm ∧ XC E st₀ t ∧ t.heap[q]? = some ce ∧ ce.vm = .none ∧ s.vm.findClass E = some ce.cls ∧
      Steps p.tables e below (T.setTop g) ((T'.setTop { g with stack := rest }).pushFrame (.throwing q)))
def vx_X {S : Type} (px : S → Prop) (B : String → S → State → Prop) (A : Nat → Prop) : String → State → State → Prop := fun E st t => ∃ u : S, px u ∧ B E u t ∧ va_F A st t
section Runs
variable {p : Program} {l : Launch} {e : Env} {R : Room} {s : State} {m : MethodId} {args : Array Value} {below : List Frame} {meth : Method} {c : Code} {H : Heap} {locs : List Loc} {cells slots : Nat}
variable {y : MethodName} {bytes cc : ByteArray} {maxL nL mc ms n index : Nat} {ret : Option FieldType} {ws : List Cond} {rm : Room} {Pc : Array Value → State → Prop} {Qc : Array Value → State → Outcome → State → Prop} {XC : String → State → State → Prop} {free : Addr → Prop} {Ts : List Cond} {own C : String} {b : Addr} {As rest : List Value} {g : JFrame}
theorem vx_callBack (cb : CallB R s args own index y bytes maxL ret ws rm mc ms n) (hM : vx_Met l y ws rm Pc Qc XC mc ms free) (hbl : FrameBlind Pc) : vx_Back l R p e below s args y 3 8 (PreOf R mc ms Pc) (PostOf Qc mc ms free) (vx_Post XC mc ms free) := by
  obtain ⟨hrc, hrs, hfr, hlo, hws, hcw, -, hini, -⟩ := cb
  exact vx_back (bytes := bytes) (maxL := maxL) (ret := ret) hM hbl hrc hrs hfr hlo hws hcw (fun a' U hW => word_at hW (Or.inl (by first | rfl | simp [Cond.onTables, Cond.keeps, Cond.steady])) hini)
theorem vx_runV (S : CallFix p m c cc nL s args Ts own) (hM : vx_Met l y ws rm Pc Qc XC mc ms free) (cw : CallW R s args own C index y bytes maxL ret ws rm mc ms n) (hp : PreV s H C b Pc As)
    (hg : g.method = m) (hn : As.length = n) (hsize : g.locals.size = nL) (hstack : g.stack = As.reverse ++ .ref b :: rest) (hW : 2 * g.monitorRoom + (rest.map fun v => v.category).sum ≤ 8) (hdg : decode cc g.pc = .ok (.invokevirtual index, 3)) (hf : cells + mc ≤ R.cells ∧ slots + ms ≤ R.slots) :
    vx_Run p l e R s m args below meth c H locs cells slots mc ms g rest (Qc (Value.ref b :: As).toArray) XC free := by
  have hK : vx_Back l R p e below s args y 3 8 (PreOf R mc ms Pc) (PostOf Qc mc ms free) (vx_Post XC mc ms free) := vx_callBack cw.1 hM hp.1
  obtain ⟨⟨-, -, -, -, -, -, hcode, -, hy, hlen, hl⟩, hin, hse⟩ := cw
  obtain ⟨hx, hb, hml, ho, -⟩ := S
  obtain ⟨-, ⟨cellB, hcB, hoB, hclB⟩, hPc⟩ := hp
  intro T hT X
  rcases vx_callV X hx (C := C) (bytes := bytes) (maxL := maxL) (ret := ret) ho hl hin hse hcode hy hK (by rw [hT]; exact hcB) hoB hclB hg (hsize.trans hml.symm) (argsL := As) (rest := rest) (fun sig h => hn.trans (hlen sig h)) hstack hW (by rw [hb]; exact hdg)
    (fun vm₁ hW₁ => ⟨hf.1, hf.2, hPc (T.setVm vm₁) hT hW₁⟩) with ⟨v, vm₁, ⟨U', l2, c2, s2⟩, hW₁, X', ⟨g', mk, t, L, e1, e2, hq, h1, hL, h2, h3⟩, st⟩ | ⟨q, vm₁, ⟨U', l2, c2, s2⟩, hW₁, X', ⟨g', mk, t, L, E, ce, e1, e2, hq, hce, hcv, hcl, h1, hL, h2, h3⟩, st⟩
  · dsimp only [Pt.U, Pt.locs, Pt.cells, Pt.slots] at X' e1 e2 h1 h2 h3 st
    subst h1; subst h2; subst h3
    exact Or.inl ⟨v, (T.setVm vm₁).calling g' mk (Value.ref b :: As).toArray, t, U', L, hT, X', hL, e1, e2, hq, st⟩
  · dsimp only [Pt.U, Pt.locs, Pt.cells, Pt.slots] at X' e1 e2 h1 h2 h3 st hcl
    subst h1; subst h2; subst h3
    exact Or.inr ⟨q, (T.setVm vm₁).calling g' mk (Value.ref b :: As).toArray, t, U', L, E, ce, hT, X', hL, e1, e2, hq, hce, hcv, vx_cls hW₁ hcl, st⟩
theorem vx_runS (S : CallFix p m c cc nL s args Ts own) (hM : vx_Met l y ws rm Pc Qc XC mc ms free) (cw : CallB R s args own index y bytes maxL ret ws rm mc ms n ∧ (Cond.static y).before args s = true) (hp : PreS s H Pc As)
    (hg : g.method = m) (hn : As.length = n) (hsize : g.locals.size = nL) (hstack : g.stack = As.reverse ++ rest) (hW : 2 * g.monitorRoom + (rest.map fun v => v.category).sum ≤ 8) (hdg : decode cc g.pc = .ok (.invokestatic index, 3)) (hf : cells + mc ≤ R.cells ∧ slots + ms ≤ R.slots) :
    vx_Run p l e R s m args below meth c H locs cells slots mc ms g rest (Qc As.toArray) XC free := by
  have hK : vx_Back l R p e below s args y 3 8 (PreOf R mc ms Pc) (PostOf Qc mc ms free) (vx_Post XC mc ms free) := vx_callBack cw.1 hM hp.1
  obtain ⟨⟨-, -, -, -, -, -, hcode, hini, hy, hlen, hl⟩, hstt⟩ := cw
  obtain ⟨hx, hb, hml, ho, -⟩ := S
  intro T hT X
  rcases vx_callS X hx (bytes := bytes) (maxL := maxL) (ret := ret) ho hl hstt hini hcode hy hK hg (hsize.trans hml.symm) (argsL := As) (rest := rest) (fun sig h => hn.trans (hlen sig h)) hstack hW (by rw [hb]; exact hdg)
    (fun vm₁ hW₁ => ⟨hf.1, hf.2, hp.2 (T.setVm vm₁) hT hW₁⟩) with ⟨v, vm₁, ⟨U', l2, c2, s2⟩, hW₁, X', ⟨g', mk, t, L, e1, e2, hq, h1, hL, h2, h3⟩, st⟩ | ⟨q, vm₁, ⟨U', l2, c2, s2⟩, hW₁, X', ⟨g', mk, t, L, E, ce, e1, e2, hq, hce, hcv, hcl, h1, hL, h2, h3⟩, st⟩
  · dsimp only [Pt.U, Pt.locs, Pt.cells, Pt.slots] at X' e1 e2 h1 h2 h3 st
    subst h1; subst h2; subst h3
    exact Or.inl ⟨v, (T.setVm vm₁).calling g' mk As.toArray, t, U', L, hT, X', hL, e1, e2, hq, st⟩
  · dsimp only [Pt.U, Pt.locs, Pt.cells, Pt.slots] at X' e1 e2 h1 h2 h3 st hcl
    subst h1; subst h2; subst h3
    exact Or.inr ⟨q, (T.setVm vm₁).calling g' mk As.toArray, t, U', L, E, ce, hT, X', hL, e1, e2, hq, hce, hcv, vx_cls hW₁ hcl, st⟩
end Runs
section Rows
variable {p : Program} {l : Launch} {e : Env} {R : Room} {s : State} {m : MethodId} {args : Array Value} {below : List Frame} {meth : Method} {c : Code} {H : Heap} {locs : List Loc} {cells slots : Nat} {Q : State → Prop}
variable {mc ms : Nat} {free : Addr → Prop} {A0 A1 : Nat → Prop} {H0 : Heap} {a : Array Value} {pc : Nat} {ls : Array Slot} {st0 rest : List Value}
theorem vx_keep {st₀ t T' : State} {L : List Loc} (h0 : st₀.heap = H) (e1 : T'.heap = t.heap) (hS : va_S A0 H0 H locs) (hA : ∀ q, q < H.size → A1 q → A0 q) (hf : ∀ q, free q → A0 q) (hL : ∀ q ∈ L, free q.base) (hF : va_F A1 st₀ t) :
    H.size ≤ T'.heap.size ∧ (∀ q : Nat, q < H.size → ¬ A1 q → T'.heap[q]? = H[q]?) ∧ va_S A0 H0 T'.heap (locs ++ L) := by
  obtain ⟨hz, hk⟩ := hF
  rw [h0] at hz hk
  exact ⟨by rw [e1]; exact hz, fun q h1 h2 => by rw [e1]; exact hk q h1 h2,
    ⟨Nat.le_trans hS.1 (by rw [e1]; exact hz), fun q h1 h2 => by rw [e1, hk q (Nat.lt_of_lt_of_le h1 hS.1) (fun z => h2 (hA q (Nat.lt_of_lt_of_le h1 hS.1) z))]; exact hS.2.1 q h1 h2, fun q hq => by
      rcases List.mem_append.mp hq with h | h
      · exact hS.2.2 q h
      · exact hf _ (hL q h)⟩⟩
theorem vx_calli {S SX : Type} {post : Int32 → S → Prop} {px : SX → Prop} {B : S → State → Prop} {BX : String → SX → State → Prop} {AX : Nat → Prop} (hr : vx_Run p l e R s m args below meth c H locs cells slots mc ms (F0 m pc ls st0) rest (va_Qi post B A1 a) (vx_X px BX AX) free) (hS : va_S A0 H0 H locs) (hA : ∀ q, q < H.size → A1 q → A0 q) (hf : ∀ q, free q → A0 q) (hAX : ∀ q, q < H.size → AX q → A0 q)
    (kx : ∀ (E : String) (ce : Cell) (q9 : Addr) (u : SX) (t : State) (H1 : Heap) (locs1 : List Loc), t.heap = H1 → s.vm.Alike t.vm → px u → BX E u t → H.size ≤ H1.size → (∀ q : Nat, q < H.size → ¬ AX q → H1[q]? = H[q]?) → va_S A0 H0 H1 locs1 → H1[q9]? = some ce → ce.vm = .none → s.vm.findClass E = some ce.cls → vx_W p l e R s m args below meth c H1 locs1 (cells + mc) (slots + ms) Q (F0 m pc ls rest) q9)
    (kk : ∀ (r : Int32) (u : S) (t : State) (H1 : Heap) (locs1 : List Loc), t.heap = H1 → s.vm.Alike t.vm → post r u → B u t → H.size ≤ H1.size → (∀ q : Nat, q < H.size → ¬ A1 q → H1[q]? = H[q]?) → va_S A0 H0 H1 locs1 → W p l e R s m args below meth c H1 locs1 (cells + mc) (slots + ms) Q (F0 m (pc + 3) ls (.int r :: rest))) : W p l e R s m args below meth c H locs cells slots Q (F0 m pc ls st0) := by
  intro T hT X
  rcases hr T hT X with ⟨v, st₀, t, T', L, h0, X', hL, e1, e2, ⟨⟨r, u, hv, hp, hb⟩, hF⟩, st⟩ | ⟨q, st₀, t, T', L, E, ce, h0, X', hL, e1, e2, ⟨u, hp, hb, hF⟩, hce, hcv, hcl, st⟩
  · cases hv
    obtain ⟨k1, k2, k3⟩ := vx_keep h0 e1 hS hA hf hL hF
    obtain ⟨t2, a1, b1⟩ := kk r u t T'.heap (locs ++ L) e1.symm (by rw [← e2]; exact X'.warmed.alike) hp hb k1 k2 k3 T' rfl X'
    exact ⟨t2, st t2 a1, b1⟩
  · obtain ⟨k1, k2, k3⟩ := vx_keep h0 e1 hS hAX hf hL hF
    obtain ⟨t2, a1, b1⟩ := kx E ce q u t T'.heap (locs ++ L) e1.symm (by rw [← e2]; exact X'.warmed.alike) hp hb k1 k2 k3 (by rw [e1]; exact hce) hcv hcl T' rfl X'
    exact ⟨t2, st.trans a1, b1⟩
theorem vx_calll {S SX : Type} {post : Int64 → S → Prop} {px : SX → Prop} {B : S → State → Prop} {BX : String → SX → State → Prop} {AX : Nat → Prop} (hr : vx_Run p l e R s m args below meth c H locs cells slots mc ms (F0 m pc ls st0) rest (va_Ql post B A1 a) (vx_X px BX AX) free) (hS : va_S A0 H0 H locs) (hA : ∀ q, q < H.size → A1 q → A0 q) (hf : ∀ q, free q → A0 q) (hAX : ∀ q, q < H.size → AX q → A0 q)
    (kx : ∀ (E : String) (ce : Cell) (q9 : Addr) (u : SX) (t : State) (H1 : Heap) (locs1 : List Loc), t.heap = H1 → s.vm.Alike t.vm → px u → BX E u t → H.size ≤ H1.size → (∀ q : Nat, q < H.size → ¬ AX q → H1[q]? = H[q]?) → va_S A0 H0 H1 locs1 → H1[q9]? = some ce → ce.vm = .none → s.vm.findClass E = some ce.cls → vx_W p l e R s m args below meth c H1 locs1 (cells + mc) (slots + ms) Q (F0 m pc ls rest) q9)
    (kk : ∀ (r : Int64) (u : S) (t : State) (H1 : Heap) (locs1 : List Loc), t.heap = H1 → s.vm.Alike t.vm → post r u → B u t → H.size ≤ H1.size → (∀ q : Nat, q < H.size → ¬ A1 q → H1[q]? = H[q]?) → va_S A0 H0 H1 locs1 → W p l e R s m args below meth c H1 locs1 (cells + mc) (slots + ms) Q (F0 m (pc + 3) ls (.long r :: rest))) : W p l e R s m args below meth c H locs cells slots Q (F0 m pc ls st0) := by
  intro T hT X
  rcases hr T hT X with ⟨v, st₀, t, T', L, h0, X', hL, e1, e2, ⟨⟨r, u, hv, hp, hb⟩, hF⟩, st⟩ | ⟨q, st₀, t, T', L, E, ce, h0, X', hL, e1, e2, ⟨u, hp, hb, hF⟩, hce, hcv, hcl, st⟩
  · cases hv
    obtain ⟨k1, k2, k3⟩ := vx_keep h0 e1 hS hA hf hL hF
    obtain ⟨t2, a1, b1⟩ := kk r u t T'.heap (locs ++ L) e1.symm (by rw [← e2]; exact X'.warmed.alike) hp hb k1 k2 k3 T' rfl X'
    exact ⟨t2, st t2 a1, b1⟩
  · obtain ⟨k1, k2, k3⟩ := vx_keep h0 e1 hS hAX hf hL hF
    obtain ⟨t2, a1, b1⟩ := kx E ce q u t T'.heap (locs ++ L) e1.symm (by rw [← e2]; exact X'.warmed.alike) hp hb k1 k2 k3 (by rw [e1]; exact hce) hcv hcl T' rfl X'
    exact ⟨t2, st.trans a1, b1⟩
theorem vx_callf {S SX : Type} {post : UInt32 → S → Prop} {px : SX → Prop} {B : S → State → Prop} {BX : String → SX → State → Prop} {AX : Nat → Prop} (hr : vx_Run p l e R s m args below meth c H locs cells slots mc ms (F0 m pc ls st0) rest (va_Qf post B A1 a) (vx_X px BX AX) free) (hS : va_S A0 H0 H locs) (hA : ∀ q, q < H.size → A1 q → A0 q) (hf : ∀ q, free q → A0 q) (hAX : ∀ q, q < H.size → AX q → A0 q)
    (kx : ∀ (E : String) (ce : Cell) (q9 : Addr) (u : SX) (t : State) (H1 : Heap) (locs1 : List Loc), t.heap = H1 → s.vm.Alike t.vm → px u → BX E u t → H.size ≤ H1.size → (∀ q : Nat, q < H.size → ¬ AX q → H1[q]? = H[q]?) → va_S A0 H0 H1 locs1 → H1[q9]? = some ce → ce.vm = .none → s.vm.findClass E = some ce.cls → vx_W p l e R s m args below meth c H1 locs1 (cells + mc) (slots + ms) Q (F0 m pc ls rest) q9)
    (kk : ∀ (r : UInt32) (u : S) (t : State) (H1 : Heap) (locs1 : List Loc), t.heap = H1 → s.vm.Alike t.vm → post r u → B u t → H.size ≤ H1.size → (∀ q : Nat, q < H.size → ¬ A1 q → H1[q]? = H[q]?) → va_S A0 H0 H1 locs1 → W p l e R s m args below meth c H1 locs1 (cells + mc) (slots + ms) Q (F0 m (pc + 3) ls (.float r :: rest))) : W p l e R s m args below meth c H locs cells slots Q (F0 m pc ls st0) := by
  intro T hT X
  rcases hr T hT X with ⟨v, st₀, t, T', L, h0, X', hL, e1, e2, ⟨⟨r, u, hv, hp, hb⟩, hF⟩, st⟩ | ⟨q, st₀, t, T', L, E, ce, h0, X', hL, e1, e2, ⟨u, hp, hb, hF⟩, hce, hcv, hcl, st⟩
  · cases hv
    obtain ⟨k1, k2, k3⟩ := vx_keep h0 e1 hS hA hf hL hF
    obtain ⟨t2, a1, b1⟩ := kk r u t T'.heap (locs ++ L) e1.symm (by rw [← e2]; exact X'.warmed.alike) hp hb k1 k2 k3 T' rfl X'
    exact ⟨t2, st t2 a1, b1⟩
  · obtain ⟨k1, k2, k3⟩ := vx_keep h0 e1 hS hAX hf hL hF
    obtain ⟨t2, a1, b1⟩ := kx E ce q u t T'.heap (locs ++ L) e1.symm (by rw [← e2]; exact X'.warmed.alike) hp hb k1 k2 k3 (by rw [e1]; exact hce) hcv hcl T' rfl X'
    exact ⟨t2, st.trans a1, b1⟩
theorem vx_calld {S SX : Type} {post : UInt64 → S → Prop} {px : SX → Prop} {B : S → State → Prop} {BX : String → SX → State → Prop} {AX : Nat → Prop} (hr : vx_Run p l e R s m args below meth c H locs cells slots mc ms (F0 m pc ls st0) rest (va_Qd post B A1 a) (vx_X px BX AX) free) (hS : va_S A0 H0 H locs) (hA : ∀ q, q < H.size → A1 q → A0 q) (hf : ∀ q, free q → A0 q) (hAX : ∀ q, q < H.size → AX q → A0 q)
    (kx : ∀ (E : String) (ce : Cell) (q9 : Addr) (u : SX) (t : State) (H1 : Heap) (locs1 : List Loc), t.heap = H1 → s.vm.Alike t.vm → px u → BX E u t → H.size ≤ H1.size → (∀ q : Nat, q < H.size → ¬ AX q → H1[q]? = H[q]?) → va_S A0 H0 H1 locs1 → H1[q9]? = some ce → ce.vm = .none → s.vm.findClass E = some ce.cls → vx_W p l e R s m args below meth c H1 locs1 (cells + mc) (slots + ms) Q (F0 m pc ls rest) q9)
    (kk : ∀ (r : UInt64) (u : S) (t : State) (H1 : Heap) (locs1 : List Loc), t.heap = H1 → s.vm.Alike t.vm → post r u → B u t → H.size ≤ H1.size → (∀ q : Nat, q < H.size → ¬ A1 q → H1[q]? = H[q]?) → va_S A0 H0 H1 locs1 → W p l e R s m args below meth c H1 locs1 (cells + mc) (slots + ms) Q (F0 m (pc + 3) ls (.double r :: rest))) : W p l e R s m args below meth c H locs cells slots Q (F0 m pc ls st0) := by
  intro T hT X
  rcases hr T hT X with ⟨v, st₀, t, T', L, h0, X', hL, e1, e2, ⟨⟨r, u, hv, hp, hb⟩, hF⟩, st⟩ | ⟨q, st₀, t, T', L, E, ce, h0, X', hL, e1, e2, ⟨u, hp, hb, hF⟩, hce, hcv, hcl, st⟩
  · cases hv
    obtain ⟨k1, k2, k3⟩ := vx_keep h0 e1 hS hA hf hL hF
    obtain ⟨t2, a1, b1⟩ := kk r u t T'.heap (locs ++ L) e1.symm (by rw [← e2]; exact X'.warmed.alike) hp hb k1 k2 k3 T' rfl X'
    exact ⟨t2, st t2 a1, b1⟩
  · obtain ⟨k1, k2, k3⟩ := vx_keep h0 e1 hS hAX hf hL hF
    obtain ⟨t2, a1, b1⟩ := kx E ce q u t T'.heap (locs ++ L) e1.symm (by rw [← e2]; exact X'.warmed.alike) hp hb k1 k2 k3 (by rw [e1]; exact hce) hcv hcl T' rfl X'
    exact ⟨t2, st.trans a1, b1⟩
theorem vx_callv {S SX : Type} {post : S → Prop} {px : SX → Prop} {B : S → State → Prop} {BX : String → SX → State → Prop} {AX : Nat → Prop} (hr : vx_Run p l e R s m args below meth c H locs cells slots mc ms (F0 m pc ls st0) rest (va_Qv post B A1 a) (vx_X px BX AX) free) (hS : va_S A0 H0 H locs) (hA : ∀ q, q < H.size → A1 q → A0 q) (hf : ∀ q, free q → A0 q) (hAX : ∀ q, q < H.size → AX q → A0 q)
    (kx : ∀ (E : String) (ce : Cell) (q9 : Addr) (u : SX) (t : State) (H1 : Heap) (locs1 : List Loc), t.heap = H1 → s.vm.Alike t.vm → px u → BX E u t → H.size ≤ H1.size → (∀ q : Nat, q < H.size → ¬ AX q → H1[q]? = H[q]?) → va_S A0 H0 H1 locs1 → H1[q9]? = some ce → ce.vm = .none → s.vm.findClass E = some ce.cls → vx_W p l e R s m args below meth c H1 locs1 (cells + mc) (slots + ms) Q (F0 m pc ls rest) q9)
    (kk : ∀ (u : S) (t : State) (H1 : Heap) (locs1 : List Loc), t.heap = H1 → s.vm.Alike t.vm → post u → B u t → H.size ≤ H1.size → (∀ q : Nat, q < H.size → ¬ A1 q → H1[q]? = H[q]?) → va_S A0 H0 H1 locs1 → W p l e R s m args below meth c H1 locs1 (cells + mc) (slots + ms) Q (F0 m (pc + 3) ls (rest))) : W p l e R s m args below meth c H locs cells slots Q (F0 m pc ls st0) := by
  intro T hT X
  rcases hr T hT X with ⟨v, st₀, t, T', L, h0, X', hL, e1, e2, ⟨⟨u, hv, hp, hb⟩, hF⟩, st⟩ | ⟨q, st₀, t, T', L, E, ce, h0, X', hL, e1, e2, ⟨u, hp, hb, hF⟩, hce, hcv, hcl, st⟩
  · cases hv
    obtain ⟨k1, k2, k3⟩ := vx_keep h0 e1 hS hA hf hL hF
    obtain ⟨t2, a1, b1⟩ := kk u t T'.heap (locs ++ L) e1.symm (by rw [← e2]; exact X'.warmed.alike) hp hb k1 k2 k3 T' rfl X'
    exact ⟨t2, st t2 a1, b1⟩
  · obtain ⟨k1, k2, k3⟩ := vx_keep h0 e1 hS hAX hf hL hF
    obtain ⟨t2, a1, b1⟩ := kx E ce q u t T'.heap (locs ++ L) e1.symm (by rw [← e2]; exact X'.warmed.alike) hp hb k1 k2 k3 (by rw [e1]; exact hce) hcv hcl T' rfl X'
    exact ⟨t2, st.trans a1, b1⟩
/-- caught by the row x of this method's table; the rows ahead don't take it -/
theorem vx_catch {own name : String} {E : String} {ce : Cell} {q : Addr} (hown : s.vm.findClass own = some m.cls) (pre : List ExceptionTableEntry) (x : ExceptionTableEntry) (suf : List ExceptionTableEntry) (hsplit : c.exceptionTable.toList = pre ++ x :: suf)
    (hpass : ∀ z ∈ pre, covers z pc = false ∨ (z.catchType ≠ 0 ∧ ∃ nm : String, (Cond.classLink own z.catchType nm).before args s = true ∧ va_Nc E nm s)) (hx : covers x pc = true) (h0 : x.catchType ≠ 0)
    (hlink : (Cond.classLink own x.catchType name).before args s = true) (hcast : (Cond.castable E name).before args s = true) (hcell : H[q]? = some ce) (hv : ce.vm = .none) (hcl : s.vm.findClass E = some ce.cls)
    (kk : W p l e R s m args below meth c H locs cells slots Q (F0 m x.handlerPc ls [.ref q])) : vx_W p l e R s m args below meth c H locs cells slots Q (F0 m pc ls rest) q := by
  intro T hT X
  have hpl : e.platform.magicAccessors = ({} : Platform).magicAccessors := by rw [X.admits.platform]
  obtain ⟨c3, c4, hc3, hc4, hasg⟩ := Cond.castable_spec hcast
  cases Option.some.inj (hc3.symm.trans hcl)
  obtain ⟨c5, hc5, hcl5⟩ := Cond.classLink_spec hown hlink e.platform hpl
  cases Option.some.inj (hc4.symm.trans hc5)
  obtain ⟨vm', X', st⟩ := X.thenCaughtThrough q (g := F0 m pc ls rest) rfl (Steps.refl _) (by rw [hT]; exact hcell) (by rw [hv]; rfl) (by obtain ⟨k9, h9, -⟩ := Vm.findClass_spec hcl; exact ⟨k9, h9⟩) pre x suf hsplit
    (fun z hz => by
      rcases hpass z hz with h | ⟨hz0, nm, hl1, hn1⟩
      · exact Or.inl h
      · obtain ⟨c6, hc6, hcl6⟩ := Cond.classLink_spec hown hl1 e.platform hpl
        obtain ⟨a8, b8, h1, h2, h3⟩ := hn1
        cases Option.some.inj (h1.symm.trans hcl)
        cases Option.some.inj (h2.symm.trans hc6)
        exact Or.inr ⟨hz0, _, hcl6, h3⟩) hx (Or.inr ⟨h0, c4, hcl5, hasg⟩)
  obtain ⟨t, a1, b1⟩ := kk (T.setVm vm') hT X'
  exact ⟨t, st.trans a1, b1⟩
end Rows
section Ends
variable {p : Program} {l : Launch} {e : Env} {R : Room} {s : State} {m : MethodId} {args : Array Value} {below : List Frame} {meth : Method} {c : Code} {H : Heap} {locs : List Loc} {cells slots : Nat} {Q : State → Prop}
variable {mc ms : Nat} {free : Addr → Prop} {A0 A1 : Nat → Prop} {H0 : Heap} {a : Array Value} {ls : Array Slot} {st0 rest : List Value}
variable {Qc : Array Value → State → Outcome → State → Prop} {XC : String → State → State → Prop}
/-- what a body that may throw owes at its end -/
def vx_MQ (below : List Frame) (Qc : Array Value → State → Outcome → State → Prop) (XC : String → State → State → Prop) (a : Array Value) (s : State) (mc ms : Nat) (free : Addr → Prop) : State → Prop := fun t =>
  ∃ o, t.status = .running ∧ Ended t below o ∧ vx_Q Qc XC mc ms free a s o t
theorem vx_ret {g : JFrame} {mc ms : Nat} (k : W p l e R s m args below meth c H locs cells slots (MQ below Qc args s mc ms free) g) : W p l e R s m args below meth c H locs cells slots (vx_MQ below Qc XC args s mc ms free) g := by
  intro T hT X
  obtain ⟨t, a1, o, b1, b2, b3, b4⟩ := k T hT X
  exact ⟨t, a1, o, b1, b2, Or.inl ⟨b3, b4⟩⟩
/-- not caught here: it goes on to the caller -/
theorem vx_widen {g : JFrame} {q : Addr} {k n : Nat} (h1 : cells ≤ k) (h2 : slots ≤ n) (kk : vx_W p l e R s m args below meth c H locs k n Q g q) : vx_W p l e R s m args below meth c H locs cells slots Q g q := fun T hT X => kk T hT (stand_widen X h1 h2)
theorem vx_out {pc : Nat} {E : String} {ce : Cell} {q : Addr} {mc ms : Nat} (hout : ∀ x ∈ c.exceptionTable.toList, covers x pc = false) (hlocks : meth.locks = false) (hcell : H[q]? = some ce) (hv : ce.vm = .none) (hcl : s.vm.findClass E = some ce.cls)
    (hx : ∀ t : State, t.heap = H → s.vm.Alike t.vm → XC E s t) (hf : ∀ z ∈ locs, free z.base) (hc : cells ≤ mc) (hs : slots ≤ ms) :
    vx_W p l e R s m args below meth c H locs cells slots (vx_MQ below Qc XC args s mc ms free) (F0 m pc ls rest) q := by
  intro T hT X
  obtain ⟨st1, hrun, hend, hW, hsm⟩ := X.leaveThrown q (g := F0 m pc ls rest) rfl rfl rfl hout hlocks
  have hcell9 : (T.setFrames (.throwing q :: below)).heap[q]? = some ce := by
    show T.heap[q]? = some ce
    rw [hT]; exact hcell
  exact ⟨_, st1, .threw q, hrun, hend, Or.inr ⟨q, rfl, E, ce, locs, hx _ hT hW.alike, hcell9, hv, hcl, hW, hsm.mono hc hs, hf⟩⟩
theorem vx_frame {U : State} {k n : Nat} (h : s.sameButNew ({ U with vm := s.vm } : State) locs k n) : s.heap.size ≤ U.heap.size ∧ ∀ q : Nat, q < s.heap.size → (∀ z ∈ locs, z.base ≠ q) → U.heap[q]? = s.heap[q]? := by
  obtain ⟨-, h2, -, -, -, h6⟩ := h
  refine ⟨h2, fun q hq hz => ?_⟩
  obtain ⟨c9, e1, e2, e3, e4⟩ := h6 q _ (Array.getElem?_eq_getElem hq)
  have hs : c9.slots = (s.heap[q]).slots := Array.ext_getElem? fun i => e4 i fun hm => hz _ hm rfl
  have h9 : c9 = s.heap[q] := by
    rw [hs] at e2
    exact e2
  have e5 : U.heap[q]? = some c9 := e1
  rw [e5, h9, Array.getElem?_eq_getElem hq]
/-- the words of a throw but the four that speak of the heap -/
def vx_no (w : Cond) : Bool := decide (w ≠ .isRef (.static Bundle.tN "UNASSIGNED_STACK" Bundle.steD)) && decide (w ≠ .isRef (.static Bundle.tN "SUPPRESSED_SENTINEL" Bundle.listD)) && decide (w ≠ .laysStatic Bundle.tN "UNASSIGNED_STACK" Bundle.steD) && decide (w ≠ .laysStatic Bundle.tN "SUPPRESSED_SENTINEL" Bundle.listD)
def vx_at0 (own : String) (ic : Nat) (X : String) (names : List String) : List Cond := (Bundle.ownAtoms0 own ic X names).filter vx_no
def vx_atS (own : String) (ic : Nat) (X : String) (names : List String) : List Cond := (Bundle.ownAtoms own ic X names).filter vx_no
/-- a word that the tables alone decide, or a good one -/
def vx_ot (w : Cond) : Bool := w.onTables || goodWord w
theorem vx_ot_at {args a' : Array Value} {s U : State} {w : Cond} (hW : s.WarmedH U.vm) (hvm : s.vm = U.vm) (hg : vx_ot w = true) (h : w.before args s = true) : w.before a' U = true := by
  simp only [vx_ot, Bool.or_eq_true] at hg
  rcases hg with hg | hg
  · exact va_tabs hg hvm h
  · exact word_at hW (good_of_word hg) h
/-- a list's words: the good ones out of the method's own list, the others by premises of their own -/
theorem vx_hat {args : Array Value} {s : State} {L B : List Cond} (h1 : ∀ w ∈ L.filter goodWord, w.before args s = true) (h2 : ∀ w ∈ L.filter (fun w => !goodWord w), w ∈ B) (h3 : ∀ w ∈ B, w.before args s = true) : ∀ w ∈ L, w.before args s = true := by
  intro w hw
  by_cases g : goodWord w = true
  · exact h1 w (List.mem_filter.mpr ⟨hw, g⟩)
  · refine h3 w (h2 w (List.mem_filter.mpr ⟨hw, ?_⟩))
    show (!goodWord w) = true
    cases hgw : goodWord w
    · rfl
    · exact absurd hgw g
theorem vx_c {args : Array Value} {s : State} {w : Cond} {B : List Cond} (h : w.before args s = true) (t : ∀ w ∈ B, w.before args s = true) : ∀ w' ∈ w :: B, w'.before args s = true := fun w' h' => (List.mem_cons.mp h').elim (fun e => by rw [e]; exact h) (t w')
theorem vx_n {args : Array Value} {s : State} : ∀ w ∈ ([] : List Cond), w.before args s = true := fun _ h => nomatch h
theorem vx_own {args : Array Value} {s : State} {L : List Cond} (h1 : ∀ w ∈ L.filter vx_no, w.before args s = true)
    (hU : (Cond.isRef (.static Bundle.tN "UNASSIGNED_STACK" Bundle.steD)).before args s = true) (hN : (Cond.isRef (.static Bundle.tN "SUPPRESSED_SENTINEL" Bundle.listD)).before args s = true)
    (lU : (Cond.laysStatic Bundle.tN "UNASSIGNED_STACK" Bundle.steD).before args s = true) (lN : (Cond.laysStatic Bundle.tN "SUPPRESSED_SENTINEL" Bundle.listD).before args s = true) : ∀ w ∈ L, w.before args s = true := by
  intro w hw
  by_cases e1 : w = .isRef (.static Bundle.tN "UNASSIGNED_STACK" Bundle.steD)
  · rw [e1]; exact hU
  · by_cases e2 : w = .isRef (.static Bundle.tN "SUPPRESSED_SENTINEL" Bundle.listD)
    · rw [e2]; exact hN
    · by_cases e3 : w = .laysStatic Bundle.tN "UNASSIGNED_STACK" Bundle.steD
      · rw [e3]; exact lU
      · by_cases e4 : w = .laysStatic Bundle.tN "SUPPRESSED_SENTINEL" Bundle.listD
        · rw [e4]; exact lN
        · exact h1 w (List.mem_filter.mpr ⟨hw, by unfold vx_no; rw [decide_eq_true e1, decide_eq_true e2, decide_eq_true e3, decide_eq_true e4]; rfl⟩)
/-- where a static field lies, its class's statics cell in H -/
def vx_L (C n d : String) (A : Nat → Prop) (U : State) (H : Heap) : Prop := ∃ (c : ClassId) (k : Class) (i : Nat) (f : Field) (a : Nat) (cell : Cell), U.vm.findClass C = some c ∧ U.fieldFound? C n d = some (c, k, i, f) ∧ f.isStatic = true ∧ k.statics = some a ∧ H[a]? = some cell ∧ cell.vm.isStatics = true ∧ cell.cls = c ∧ f.slot < cell.slots.size ∧ k.staticTypes[f.slot]? = some f.type ∧ ¬ A a
theorem vx_L.moved {C n d : String} {A : Nat → Prop} {u U : State} {H : Heap} (hvm : u.vm.Alike U.vm) (h : vx_L C n d A u H) : vx_L C n d A U H := by
  obtain ⟨c, k, i, f, a, cell, h1, h2, h3, h4, h5, h6, h7, h8, h9, h10⟩ := h
  obtain ⟨k', hi', he⟩ := State.fieldFound?_setVm hvm h2
  exact ⟨c, k', i, f, a, cell, by rw [hvm.findClass]; exact h1, hi', h3, by rw [he]; exact h4, h5, h6, h7, h8, by rw [he]; exact h9, h10⟩
theorem vx_L.kept {C n d : String} {A : Nat → Prop} {U : State} {H H1 : Heap} (h : vx_L C n d A U H) (hq : ∀ a : Nat, a < H.size → ¬ A a → H1[a]? = H[a]?) : vx_L C n d A U H1 := by
  obtain ⟨c, k, i, f, a, cell, h1, h2, h3, h4, h5, h6, h7, h8, h9, h10⟩ := h
  exact ⟨c, k, i, f, a, cell, h1, h2, h3, h4, by rw [hq a (Array.getElem?_eq_some_iff.mp h5).1 h10]; exact h5, h6, h7, h8, h9, h10⟩
theorem vx_L.narrow {C n d : String} {A B : Nat → Prop} {U : State} {H : Heap} (h : vx_L C n d A U H) (hAB : ∀ q, B q → A q) : vx_L C n d B U H := by
  obtain ⟨c, k, i, f, a, cell, h1, h2, h3, h4, h5, h6, h7, h8, h9, h10⟩ := h
  exact ⟨c, k, i, f, a, cell, h1, h2, h3, h4, h5, h6, h7, h8, h9, fun z => h10 (hAB _ z)⟩
theorem vx_L.word {C n d : String} {A : Nat → Prop} {s : State} {args : Array Value} (h : vx_L C n d A s s.heap) : (Cond.laysStatic C n d).before args s = true := by
  obtain ⟨c, k, i, f, a, cell, h1, h2, h3, h4, h5, h6, h7, h8, h9, -⟩ := h
  show (Cond.laysStatic C n d).holds args s none s [] = true
  exact Cond.laysStatic_of h1 h2 h3 h4 h5 h6 h7 h8 h9
/-- .. and what it holds: null or some reference -/
def vx_Zq (C n d : String) (A : Nat → Prop) (U : State) (H : Heap) : Prop := va_Zq C n d A U H ∧ vx_L C n d A U H
theorem vx_Zq.moved {C n d : String} {A : Nat → Prop} {u U : State} {H : Heap} (hvm : u.vm.Alike U.vm) (h : vx_Zq C n d A u H) : vx_Zq C n d A U H := ⟨va_Zq.moved hvm h.1, vx_L.moved hvm h.2⟩
theorem vx_Zq.kept {C n d : String} {A : Nat → Prop} {U : State} {H H1 : Heap} (h : vx_Zq C n d A U H) (hq : ∀ a : Nat, a < H.size → ¬ A a → H1[a]? = H[a]?) : vx_Zq C n d A U H1 := ⟨va_Zq.kept h.1 hq, vx_L.kept h.2 hq⟩
theorem vx_Zq.narrow {C n d : String} {A B : Nat → Prop} {U : State} {H : Heap} (h : vx_Zq C n d A U H) (hAB : ∀ q, B q → A q) : vx_Zq C n d B U H := ⟨va_Zq.narrow h.1 hAB, vx_L.narrow h.2 hAB⟩
theorem vx_Zqof {args : Array Value} {s : State} {C n d : String} {A : Nat → Prop} (hl : (Cond.laysStatic C n d).before args s = true) (hini : (Cond.initialized C).before args s = true) (h : (Cond.isRef (.static C n d)).before args s = true) (hA : ∀ a : Nat, a < s.heap.size → ¬ A a) : vx_Zq C n d A s s.heap := by
  refine ⟨va_Zqof hl hini h hA, ?_⟩
  obtain ⟨c, k, i, f, a, cell, h1, h2, h3, h4, h5, h6, h7, h8, h9⟩ := Cond.laysStatic_spec hl
  exact ⟨c, k, i, f, a, cell, h1, h2, h3, h4, h5, h6, h7, h8, h9, hA a (Array.getElem?_eq_some_iff.mp h5).1⟩
theorem vx_isRef {C n d : String} {v : Value} {A : Nat → Prop} {s : State} {args : Array Value} (h : va_Z C n d v A s s.heap) (hv : v.isRef = true) : (Cond.isRef (.static C n d)).before args s = true := by
  obtain ⟨cf, kf, fi, f, a, cell, h1, h2, h3, h4, h5, h6, h7, -⟩ := h
  have he : (Term.static C n d).eval args s none [] s = some v := by
    simp [Term.eval, State.fieldNamed?, h1, h2, h4, h5, h6, h7]
  simp only [Cond.before, Cond.holds, Cond.value, he]
  cases v <;> simp_all [Value.isRef]
theorem vx_isRefq {C n d : String} {A : Nat → Prop} {s : State} {args : Array Value} (h : va_Zq C n d A s s.heap) : (Cond.isRef (.static C n d)).before args s = true := by
  rcases h with h | ⟨t, h⟩
  · exact vx_isRef h rfl
  · exact vx_isRef h rfl
/-- the same frame, seen from here: as if the method were called anew in this heap -/
theorem vx_rebase {T : State} (X : Stand p l e R s m args below meth c T locs cells slots) {R' : Room} (hf : R'.frames ≤ R.frames) (hl : R'.locals ≤ R.locals) (hc : cells + R'.cells ≤ R.cells) (hs : slots + R'.slots ≤ R.slots) :
    Stand p l e R' ((T.setVm s.vm).setFrames (.invoking m args :: below)) m args below meth c T [] 0 0 := by
  have htop : (T.setVm s.vm).topJava?.isSome := X.here.top
  have hF : ((T.setVm s.vm).setFrames (.invoking m args :: below)).frames = .invoking m args :: below := State.frames_setFrames _ (State.cur_lt_of_top htop)
  obtain ⟨g₀, hg0⟩ := Option.isSome_iff_exists.mp htop
  obtain ⟨r, hr⟩ := State.topJava?_eq_some.mp hg0
  have hl9 : e.platform.stackLimits (T.setVm s.vm).me = e.platform.stackLimits s.me := X.limits
  have hb9 : (T.setVm s.vm).me.stackBytes = s.me.stackBytes := X.bytes
  refine ⟨X.admits, X.cas, X.clock, hF, ?_, X.hears, X.method, X.code, X.here, X.tail, X.warmed, ?_, ?_, ?_⟩
  · have h := X.room
    have hU : ((T.setVm s.vm).setFrames (.invoking m args :: below)).localsInUse = s.localsInUse := by
      rw [State.localsInUse_invoking hF (meth := meth) (c := c) X.method X.code, State.localsInUse_invoking X.frames X.method X.code]
    simp only [State.hasRoom, Bool.and_eq_true, decide_eq_true_eq] at h ⊢
    obtain ⟨⟨⟨⟨h1, h2, h3, h4, h5, h6⟩, h7⟩, h8⟩, h9⟩ := h
    rw [X.frames, List.length_cons] at h2 h3
    have q1 := X.heapSize
    have q2 := X.used
    simp only [hF, hU, List.length_cons, State.stackLimits_setFrames, State.stackBytes_setFrames, hl9, hb9]
    refine ⟨⟨⟨⟨by omega, by omega, by omega, by omega, by omega, h6⟩, ?_⟩, ?_⟩, X.book⟩
    · show T.heap.size + R'.cells ≤ e.platform.maxCells
      omega
    · show T.slotsUsed + R'.slots ≤ e.platform.maxSlots
      omega
  · rw [State.stackLimits_setFrames]; rfl
  · rw [State.stackBytes_setFrames]; rfl
  · refine ⟨?_, Nat.le_refl _, Nat.le_refl _, ?_, ?_, fun a c9 h9 => ⟨c9, h9, rfl, rfl, fun _ _ => rfl⟩⟩
    · obtain ⟨t, ht, -⟩ := State.frames_cons hr
      show T.setVm s.vm = { ((T.setVm s.vm).setFrames (.invoking m args :: below)).setFrames (T.setVm s.vm).frames with heap := T.heap, slotsUsed := T.slotsUsed }
      rw [State.setFrames_setFrames, State.setFrames_self ht]
      rfl
    · show T.slotsUsed = T.slotsUsed + ((T.heap.toList.drop T.heap.size).map (·.slots.size)).sum
      rw [List.drop_eq_nil_of_le (Nat.le_of_eq Array.length_toList)]
      rfl
    · show ((T.heap.toList.drop T.heap.size).map (·.slots.size)).sum ≤ 0
      rw [List.drop_eq_nil_of_le (Nat.le_of_eq Array.length_toList)]
      exact Nat.le_refl _
/-- 'throw new E()': new; dup; invokespecial; athrow -/
theorem vx_throw0 {cc : ByteArray} {pc : Nat} (hexec : p.tables.exec = Jvm.exec) (hb : c.code = cc) (hl : l.stackTraces = false) {own cls : String} {names : List String} {ik ic mc ms : Nat} {A : Nat → Prop}
    (hown : s.vm.findClass own = some m.cls) (hcls : Bundle.fit cls = true) (hnames : ∀ n ∈ names, Bundle.fit n = true)
    (hk : (Cond.classLink own ik cls).before args s = true) (hini : (Cond.initialized cls).before args s = true) (hat : ∀ w ∈ vx_at0 own ic cls names, w.before args s = true)
    (hgood : ∀ w ∈ Cond.classLink own ik cls :: Cond.initialized cls :: vx_at0 own ic cls names, vx_ot w = true)
    (hU : vx_Zq Bundle.tN "UNASSIGNED_STACK" Bundle.steD A s s.heap) (hN : vx_Zq Bundle.tN "SUPPRESSED_SENTINEL" Bundle.listD A s s.heap) (hS : va_S A s.heap H locs) (hsize : ls.size = c.maxLocals)
    (d0 : decode cc pc = .ok (.new ik, 3)) (d3 : decode cc (pc + 3) = .ok (.dup, 1)) (d4 : decode cc (pc + 4) = .ok (.invokespecial ic, 3)) (d7 : decode cc (pc + 7) = .ok (.athrow, 1))
    (hout : ∀ x ∈ c.exceptionTable.toList, covers x (pc + 7) = false)
    (hRframes : names.length + 3 < R.frames) (hRlocals : (rest.map fun v => v.category).sum + (13 * (names.length + 1) + 42) ≤ R.locals) (hRcells : cells + 1 ≤ R.cells) (hRslots : slots + 6 ≤ R.slots) (hlocks : meth.locks = false)
    (hx : ∀ t : State, s.vm.Alike t.vm → H.size ≤ t.heap.size → (∀ q : Nat, q < H.size → t.heap[q]? = H[q]?) → XC cls s t)
    (hf : ∀ z ∈ locs, free z.base) (hc : cells + 1 ≤ mc) (hs : slots + 6 ≤ ms) :
    W p l e R s m args below meth c H locs cells slots (vx_MQ below Qc XC args s mc ms free) (F0 m pc ls rest) := by
  intro T hT X
  have htr : e.platform.stackTraces = false := (show e.platform.stackTraces = l.stackTraces by rw [X.admits.platform]).trans hl
  have Y := vx_rebase X (R' := { frames := R.frames, locals := R.locals, cells := 1, slots := 6 }) (Nat.le_refl _) (Nat.le_refl _) hRcells hRslots
  obtain ⟨s', hA⟩ : ∃ z, z = (T.setVm s.vm).setFrames (.invoking m args :: below) := ⟨_, rfl⟩
  rw [← hA] at Y
  have hvm : s'.vm = s.vm := by rw [hA]; rfl
  have hhp : s'.heap = H := by rw [hA]; exact hT
  have hW0 : s.WarmedH s'.vm := by rw [hvm]; exact State.WarmedH.refl s
  have hat' : ∀ w ∈ vx_at0 own ic cls names, w.before args s' = true := fun w hw => vx_ot_at hW0 hvm.symm (hgood w (List.mem_cons_of_mem _ (List.mem_cons_of_mem _ hw))) (hat w hw)
  have hk' : (Cond.classLink own ik cls).before args s' = true := vx_ot_at hW0 hvm.symm (hgood _ List.mem_cons_self) hk
  have hini' : (Cond.initialized cls).before args s' = true := vx_ot_at hW0 hvm.symm (hgood _ (List.mem_cons_of_mem _ List.mem_cons_self)) hini
  have hU' : vx_Zq Bundle.tN "UNASSIGNED_STACK" Bundle.steD A s' s'.heap := by rw [hhp]; exact vx_Zq.moved hW0.alike (hU.kept hS.2.1)
  have hN' : vx_Zq Bundle.tN "SUPPRESSED_SENTINEL" Bundle.listD A s' s'.heap := by rw [hhp]; exact vx_Zq.moved hW0.alike (hN.kept hS.2.1)
  have h : ∀ w ∈ Bundle.ownAtoms0 own ic cls names, w.before args s' = true := vx_own hat' (vx_isRefq hU'.1) (vx_isRefq hN'.1) hU'.2.word hN'.2.word
  have hown' : s'.vm.findClass own = some m.cls := by rw [hvm]; exact hown
  have hins : (Cond.instantiable cls 6).before args s' = true := h _ (by simp [Bundle.ownAtoms0])
  obtain ⟨vm₁, cX, kX, hfX, hkX, -, -, X₁, st1⟩ := Y.newCold hexec (own := own) (C := cls) (index := ik) (n := 6) hown' hk' hins hini'
    (g := F0 m pc ls rest) rfl (by rw [hb]; exact d0) (Nat.le_refl _) (Nat.le_refl _)
  generalize hT1 : (T.setVm vm₁).pushCell { cls := cX, slots := kX.instanceTypes.map defaultValue, vm := .none } = T1 at X₁ st1
  have hcat : (Value.ref T.heap.size).category = 1 := rfl
  have hcellA : T1.heap[T.heap.size]? = some (freshCell cX kX) := by rw [← hT1]; exact State.heap_pushCell_size _ _
  have d3' : decode c.code (pc + 3) = .ok (.dup, 1) := by rw [hb]; exact d3
  obtain ⟨U, hsteps, hrun, hend, hW, hsame, ce, hce, hO⟩ := X₁.ctorThrow0 hexec htr (own := own) (cls := cls) (names := names) (ic := ic) hown' hcls hnames h (fun x hx => nomatch hx) hfX hkX hcellA (by rw [hhp, hT]; exact Nat.le_refl _)
    (g := { method := m, pc := pc + 4, locals := ls, stack := .ref T.heap.size :: .ref T.heap.size :: rest, locked := none }) rfl hsize rfl rfl (rest := rest) rfl
    (by rw [hb]; exact d4) (by rw [hb]; exact d7) hout hRframes (by simp only [List.map_cons, List.sum_cons, hcat]; omega) hlocks
  obtain ⟨f1, f2⟩ := vx_frame hsame
  rw [hhp] at f1 f2
  have hWs : s.WarmedH U.vm := State.WarmedH.trans hW0 hW
  have hcl : s.vm.findClass cls = some ce.cls := by
    have h9 := hO.cls
    rw [hvm] at h9
    exact h9
  have hall : s.sameButNew ({ U with vm := s.vm } : State) locs mc ms := by
    subst hA
    obtain ⟨e1, e2⟩ := hsame
    rw [State.setFrames_setFrames] at e1
    have h2 : (T.setVm s.vm).sameButNew ({ U with vm := s.vm } : State) [] (0 + 1) (0 + 6) := ⟨e1, e2⟩
    have h3 := X.same.trans h2
    rw [List.append_nil] at h3
    exact h3.mono hc hs
  refine ⟨U, ?_, .threw T.heap.size, hrun, hend, Or.inr ⟨T.heap.size, rfl, cls, ce, locs, hx U hWs.alike f1 (fun q hq => f2 q hq (fun z hz => nomatch hz)), hce, hO.vm, hcl, hWs, hall, hf⟩⟩
  refine st1 _ ?_
  show Steps p.tables e below (T1.setTop { method := m, pc := pc + 3, locals := ls, stack := .ref T.heap.size :: rest, locked := none }) _
  jvm_step X₁.here [X₁.here.top, hexec, d3', Value.category]
  exact hsteps
/-- 'throw new E("text")': new; dup; ldc; invokespecial; athrow -/
theorem vx_throwS {cc : ByteArray} {pc : Nat} (hexec : p.tables.exec = Jvm.exec) (hb : c.code = cc) (hl : l.stackTraces = false) {own cls text : String} {names : List String} {ik is ic mc ms sa : Nat} {A : Nat → Prop}
    (hown : s.vm.findClass own = some m.cls) (hcls : Bundle.fit cls = true) (hnames : ∀ n ∈ names, Bundle.fit n = true)
    (hk : (Cond.classLink own ik cls).before args s = true) (hini : (Cond.initialized cls).before args s = true) (hstr : vk_R own is text sa s) (hat : ∀ w ∈ vx_atS own ic cls names, w.before args s = true)
    (hgood : ∀ w ∈ Cond.classLink own ik cls :: Cond.initialized cls :: vx_atS own ic cls names, vx_ot w = true)
    (hU : vx_Zq Bundle.tN "UNASSIGNED_STACK" Bundle.steD A s s.heap) (hN : vx_Zq Bundle.tN "SUPPRESSED_SENTINEL" Bundle.listD A s s.heap) (hS : va_S A s.heap H locs) (hsize : ls.size = c.maxLocals)
    (d0 : decode cc pc = .ok (.new ik, 3)) (d3 : decode cc (pc + 3) = .ok (.dup, 1)) (d4 : decode cc (pc + 4) = .ok (.ldc is, 2)) (d6 : decode cc (pc + 6) = .ok (.invokespecial ic, 3)) (d9 : decode cc (pc + 9) = .ok (.athrow, 1))
    (hout : ∀ x ∈ c.exceptionTable.toList, covers x (pc + 9) = false)
    (hRframes : names.length + 3 < R.frames) (hRlocals : (rest.map fun v => v.category).sum + (13 * (names.length + 1) + 43) ≤ R.locals) (hRcells : cells + 1 ≤ R.cells) (hRslots : slots + 6 ≤ R.slots) (hlocks : meth.locks = false)
    (hx : ∀ t : State, s.vm.Alike t.vm → H.size ≤ t.heap.size → (∀ q : Nat, q < H.size → t.heap[q]? = H[q]?) → XC cls s t)
    (hf : ∀ z ∈ locs, free z.base) (hc : cells + 1 ≤ mc) (hs : slots + 6 ≤ ms) :
    W p l e R s m args below meth c H locs cells slots (vx_MQ below Qc XC args s mc ms free) (F0 m pc ls rest) := by
  intro T hT X
  have htr : e.platform.stackTraces = false := (show e.platform.stackTraces = l.stackTraces by rw [X.admits.platform]).trans hl
  have Y := vx_rebase X (R' := { frames := R.frames, locals := R.locals, cells := 1, slots := 6 }) (Nat.le_refl _) (Nat.le_refl _) hRcells hRslots
  obtain ⟨s', hA⟩ : ∃ z, z = (T.setVm s.vm).setFrames (.invoking m args :: below) := ⟨_, rfl⟩
  rw [← hA] at Y
  have hvm : s'.vm = s.vm := by rw [hA]; rfl
  have hhp : s'.heap = H := by rw [hA]; exact hT
  have hW0 : s.WarmedH s'.vm := by rw [hvm]; exact State.WarmedH.refl s
  have hat' : ∀ w ∈ vx_atS own ic cls names, w.before args s' = true := fun w hw => vx_ot_at hW0 hvm.symm (hgood w (List.mem_cons_of_mem _ (List.mem_cons_of_mem _ hw))) (hat w hw)
  have hk' : (Cond.classLink own ik cls).before args s' = true := vx_ot_at hW0 hvm.symm (hgood _ List.mem_cons_self) hk
  have hini' : (Cond.initialized cls).before args s' = true := vx_ot_at hW0 hvm.symm (hgood _ (List.mem_cons_of_mem _ List.mem_cons_self)) hini
  have hU' : vx_Zq Bundle.tN "UNASSIGNED_STACK" Bundle.steD A s' s'.heap := by rw [hhp]; exact vx_Zq.moved hW0.alike (hU.kept hS.2.1)
  have hN' : vx_Zq Bundle.tN "SUPPRESSED_SENTINEL" Bundle.listD A s' s'.heap := by rw [hhp]; exact vx_Zq.moved hW0.alike (hN.kept hS.2.1)
  have h : ∀ w ∈ Bundle.ownAtoms own ic cls names, w.before args s' = true := vx_own hat' (vx_isRefq hU'.1) (vx_isRefq hN'.1) hU'.2.word hN'.2.word
  have hown' : s'.vm.findClass own = some m.cls := by rw [hvm]; exact hown
  have hins : (Cond.instantiable cls 6).before args s' = true := h _ (by simp [Bundle.ownAtoms])
  obtain ⟨vm₁, cX, kX, hfX, hkX, -, -, X₁, st1⟩ := Y.newCold hexec (own := own) (C := cls) (index := ik) (n := 6) hown' hk' hins hini'
    (g := F0 m pc ls rest) rfl (by rw [hb]; exact d0) (Nat.le_refl _) (Nat.le_refl _)
  generalize hT1 : (T.setVm vm₁).pushCell { cls := cX, slots := kX.instanceTypes.map defaultValue, vm := .none } = T1 at X₁ st1
  have hcat : (Value.ref T.heap.size).category = 1 := rfl
  have hcellA : T1.heap[T.heap.size]? = some (freshCell cX kX) := by rw [← hT1]; exact State.heap_pushCell_size _ _
  have d3' : decode c.code (pc + 3) = .ok (.dup, 1) := by rw [hb]; exact d3
  have d4' : decode c.code (pc + 4) = .ok (.ldc is, 2) := by rw [hb]; exact d4
  have hstr' : vk_R own is text sa s' := vk_R.warm hW0 hstr
  obtain ⟨U, hsteps, hrun, hend, hW, hsame, ce, hce, hO⟩ := X₁.ctorThrowS hexec htr (own := own) (cls := cls) (names := names) (ic := ic) hown' hcls hnames h (fun x hx => nomatch hx) hfX hkX hcellA (by rw [hhp, hT]; exact Nat.le_refl _) (msg := .ref sa) rfl
    (g := { method := m, pc := pc + 6, locals := ls, stack := .ref sa :: .ref T.heap.size :: .ref T.heap.size :: rest, locked := none }) rfl hsize rfl rfl (rest := rest) rfl
    (by rw [hb]; exact d6) (by rw [hb]; exact d9) hout hRframes (by simp only [List.map_cons, List.sum_cons, hcat]; omega) hlocks
  obtain ⟨f1, f2⟩ := vx_frame hsame
  rw [hhp] at f1 f2
  have hWs : s.WarmedH U.vm := State.WarmedH.trans hW0 hW
  have hcl : s.vm.findClass cls = some ce.cls := by
    have h9 := hO.cls
    rw [hvm] at h9
    exact h9
  have hall : s.sameButNew ({ U with vm := s.vm } : State) locs mc ms := by
    subst hA
    obtain ⟨e1, e2⟩ := hsame
    rw [State.setFrames_setFrames] at e1
    have h2 : (T.setVm s.vm).sameButNew ({ U with vm := s.vm } : State) [] (0 + 1) (0 + 6) := ⟨e1, e2⟩
    have h3 := X.same.trans h2
    rw [List.append_nil] at h3
    exact h3.mono hc hs
  refine ⟨U, ?_, .threw T.heap.size, hrun, hend, Or.inr ⟨T.heap.size, rfl, cls, ce, locs, hx U hWs.alike f1 (fun q hq => f2 q hq (fun z hz => nomatch hz)), hce, hO.vm, hcl, hWs, hall, hf⟩⟩
  refine st1 _ ?_
  show Steps p.tables e below (T1.setTop { method := m, pc := pc + 3, locals := ls, stack := .ref T.heap.size :: rest, locked := none }) _
  jvm_step X₁.here [X₁.here.top, hexec, d3', Value.category]
  exact X₁.ldcString hexec (own := own) (text := text) (index := is) (a := sa) hown' hstr'.1 hstr'.2
    (g := { method := m, pc := pc + 4, locals := ls, stack := .ref T.heap.size :: .ref T.heap.size :: rest, locked := none }) rfl d4' _ hsteps
/-- 'throw new E("text")', the text by a wide index -/
theorem vx_throwSW {cc : ByteArray} {pc : Nat} (hexec : p.tables.exec = Jvm.exec) (hb : c.code = cc) (hl : l.stackTraces = false) {own cls text : String} {names : List String} {ik is ic mc ms sa : Nat} {A : Nat → Prop}
    (hown : s.vm.findClass own = some m.cls) (hcls : Bundle.fit cls = true) (hnames : ∀ n ∈ names, Bundle.fit n = true)
    (hk : (Cond.classLink own ik cls).before args s = true) (hini : (Cond.initialized cls).before args s = true) (hstr : vk_R own is text sa s) (hat : ∀ w ∈ vx_atS own ic cls names, w.before args s = true)
    (hgood : ∀ w ∈ Cond.classLink own ik cls :: Cond.initialized cls :: vx_atS own ic cls names, vx_ot w = true)
    (hU : vx_Zq Bundle.tN "UNASSIGNED_STACK" Bundle.steD A s s.heap) (hN : vx_Zq Bundle.tN "SUPPRESSED_SENTINEL" Bundle.listD A s s.heap) (hS : va_S A s.heap H locs) (hsize : ls.size = c.maxLocals)
    (d0 : decode cc pc = .ok (.new ik, 3)) (d3 : decode cc (pc + 3) = .ok (.dup, 1)) (d4 : decode cc (pc + 4) = .ok (.ldc_w is, 3)) (d7 : decode cc (pc + 7) = .ok (.invokespecial ic, 3)) (d10 : decode cc (pc + 10) = .ok (.athrow, 1))
    (hout : ∀ x ∈ c.exceptionTable.toList, covers x (pc + 10) = false)
    (hRframes : names.length + 3 < R.frames) (hRlocals : (rest.map fun v => v.category).sum + (13 * (names.length + 1) + 43) ≤ R.locals) (hRcells : cells + 1 ≤ R.cells) (hRslots : slots + 6 ≤ R.slots) (hlocks : meth.locks = false)
    (hx : ∀ t : State, s.vm.Alike t.vm → H.size ≤ t.heap.size → (∀ q : Nat, q < H.size → t.heap[q]? = H[q]?) → XC cls s t)
    (hf : ∀ z ∈ locs, free z.base) (hc : cells + 1 ≤ mc) (hs : slots + 6 ≤ ms) :
    W p l e R s m args below meth c H locs cells slots (vx_MQ below Qc XC args s mc ms free) (F0 m pc ls rest) := by
  intro T hT X
  have htr : e.platform.stackTraces = false := (show e.platform.stackTraces = l.stackTraces by rw [X.admits.platform]).trans hl
  have Y := vx_rebase X (R' := { frames := R.frames, locals := R.locals, cells := 1, slots := 6 }) (Nat.le_refl _) (Nat.le_refl _) hRcells hRslots
  obtain ⟨s', hA⟩ : ∃ z, z = (T.setVm s.vm).setFrames (.invoking m args :: below) := ⟨_, rfl⟩
  rw [← hA] at Y
  have hvm : s'.vm = s.vm := by rw [hA]; rfl
  have hhp : s'.heap = H := by rw [hA]; exact hT
  have hW0 : s.WarmedH s'.vm := by rw [hvm]; exact State.WarmedH.refl s
  have hat' : ∀ w ∈ vx_atS own ic cls names, w.before args s' = true := fun w hw => vx_ot_at hW0 hvm.symm (hgood w (List.mem_cons_of_mem _ (List.mem_cons_of_mem _ hw))) (hat w hw)
  have hk' : (Cond.classLink own ik cls).before args s' = true := vx_ot_at hW0 hvm.symm (hgood _ List.mem_cons_self) hk
  have hini' : (Cond.initialized cls).before args s' = true := vx_ot_at hW0 hvm.symm (hgood _ (List.mem_cons_of_mem _ List.mem_cons_self)) hini
  have hU' : vx_Zq Bundle.tN "UNASSIGNED_STACK" Bundle.steD A s' s'.heap := by rw [hhp]; exact vx_Zq.moved hW0.alike (hU.kept hS.2.1)
  have hN' : vx_Zq Bundle.tN "SUPPRESSED_SENTINEL" Bundle.listD A s' s'.heap := by rw [hhp]; exact vx_Zq.moved hW0.alike (hN.kept hS.2.1)
  have h : ∀ w ∈ Bundle.ownAtoms own ic cls names, w.before args s' = true := vx_own hat' (vx_isRefq hU'.1) (vx_isRefq hN'.1) hU'.2.word hN'.2.word
  have hown' : s'.vm.findClass own = some m.cls := by rw [hvm]; exact hown
  have hins : (Cond.instantiable cls 6).before args s' = true := h _ (by simp [Bundle.ownAtoms])
  obtain ⟨vm₁, cX, kX, hfX, hkX, -, -, X₁, st1⟩ := Y.newCold hexec (own := own) (C := cls) (index := ik) (n := 6) hown' hk' hins hini'
    (g := F0 m pc ls rest) rfl (by rw [hb]; exact d0) (Nat.le_refl _) (Nat.le_refl _)
  generalize hT1 : (T.setVm vm₁).pushCell { cls := cX, slots := kX.instanceTypes.map defaultValue, vm := .none } = T1 at X₁ st1
  have hcat : (Value.ref T.heap.size).category = 1 := rfl
  have hcellA : T1.heap[T.heap.size]? = some (freshCell cX kX) := by rw [← hT1]; exact State.heap_pushCell_size _ _
  have d3' : decode c.code (pc + 3) = .ok (.dup, 1) := by rw [hb]; exact d3
  have d4' : decode c.code (pc + 4) = .ok (.ldc_w is, 3) := by rw [hb]; exact d4
  have hstr' : vk_R own is text sa s' := vk_R.warm hW0 hstr
  obtain ⟨U, hsteps, hrun, hend, hW, hsame, ce, hce, hO⟩ := X₁.ctorThrowS hexec htr (own := own) (cls := cls) (names := names) (ic := ic) hown' hcls hnames h (fun x hx => nomatch hx) hfX hkX hcellA (by rw [hhp, hT]; exact Nat.le_refl _) (msg := .ref sa) rfl
    (g := { method := m, pc := pc + 7, locals := ls, stack := .ref sa :: .ref T.heap.size :: .ref T.heap.size :: rest, locked := none }) rfl hsize rfl rfl (rest := rest) rfl
    (by rw [hb]; exact d7) (by rw [hb]; exact d10) hout hRframes (by simp only [List.map_cons, List.sum_cons, hcat]; omega) hlocks
  obtain ⟨f1, f2⟩ := vx_frame hsame
  rw [hhp] at f1 f2
  have hWs : s.WarmedH U.vm := State.WarmedH.trans hW0 hW
  have hcl : s.vm.findClass cls = some ce.cls := by
    have h9 := hO.cls
    rw [hvm] at h9
    exact h9
  have hall : s.sameButNew ({ U with vm := s.vm } : State) locs mc ms := by
    subst hA
    obtain ⟨e1, e2⟩ := hsame
    rw [State.setFrames_setFrames] at e1
    have h2 : (T.setVm s.vm).sameButNew ({ U with vm := s.vm } : State) [] (0 + 1) (0 + 6) := ⟨e1, e2⟩
    have h3 := X.same.trans h2
    rw [List.append_nil] at h3
    exact h3.mono hc hs
  refine ⟨U, ?_, .threw T.heap.size, hrun, hend, Or.inr ⟨T.heap.size, rfl, cls, ce, locs, hx U hWs.alike f1 (fun q hq => f2 q hq (fun z hz => nomatch hz)), hce, hO.vm, hcl, hWs, hall, hf⟩⟩
  refine st1 _ ?_
  show Steps p.tables e below (T1.setTop { method := m, pc := pc + 3, locals := ls, stack := .ref T.heap.size :: rest, locked := none }) _
  jvm_step X₁.here [X₁.here.top, hexec, d3', Value.category]
  exact X₁.ldcStringW hexec (own := own) (text := text) (index := is) (a := sa) hown' hstr'.1 hstr'.2
    (g := { method := m, pc := pc + 4, locals := ls, stack := .ref T.heap.size :: .ref T.heap.size :: rest, locked := none }) rfl d4' _ hsteps
end Ends
section Bodies
variable {l : Launch}
theorem vx_ofW {y : MethodName} {ws ws' : List Cond} {rm : Room} {Pc : Array Value → State → Prop} {Qc : Array Value → State → Outcome → State → Prop} {XC : String → State → State → Prop} {mc ms : Nat} {free : Addr → Prop} {cc : ByteArray} {maxL : Nat} {ret : Option FieldType}
    (hy : plainName y.cls = true) (hw : ws = Cond.code y cc maxL ret :: ws')
    (body : ∀ p e s m args below meth c s₁, BodyLoose p l y (headSpec ws rm) cc maxL ret e s m args below meth c s₁ → c.maxLocals = maxL → (∀ x ∈ c.exceptionTable.toList, False) → Pc args s →
      W p l e (headSpec ws rm).room s m args below meth c s.heap [] 0 0 (vx_MQ below Qc XC args s mc ms free) (entryFrame m args maxL)) : vx_Met l y ws rm Pc Qc XC mc ms free := by
  refine MetFree.of_bodyS (code := cc) (maxLocals := maxL) (ret := ret) hy ?_ ?_
  · intro args s m h hn
    obtain ⟨meth, c, h1, h2, h3, h4, h5, h6, -, -⟩ := Cond.code_spec hn (atoms_spec (ws := ws) h _ (by rw [hw]; exact List.mem_cons_self))
    exact ⟨meth, c, h1, h2, h3, h4, h5, h6⟩
  · intro p e s m args below meth c s₁ B hml hP _
    have hh0 : s₁.heap = s.heap := by rw [B.state]; rfl
    have ht : ∀ x ∈ c.exceptionTable.toList, False := by
      obtain ⟨meth9, c9, h1, h2, -, -, -, -, h7, -⟩ := Cond.code_spec B.named (atoms_spec (ws := ws) B.pre _ (by rw [hw]; exact List.mem_cons_self))
      cases Option.some.inj (h1.symm.trans B.method)
      cases Option.some.inj (h2.symm.trans (Stand.of_body B).code)
      intro x hx
      rw [Array.isEmpty_iff.mp h7] at hx
      cases hx
    obtain ⟨t, a1, o, b1, b2, b3⟩ := body p e s m args below meth c s₁ B hml ht hP s₁ hh0 (Stand.of_body B)
    exact ⟨t, o, a1, b1, b2, b3⟩
/-- the table of a body with handlers -/
theorem vx_table {p : Program} {x y : MethodName} {S : Spec} {cc bytes : ByteArray} {maxL maxL' : Nat} {ret ret' : Option FieldType} {e : Env} {s s₁ : State} {m : MethodId} {args : Array Value} {below : List Frame} {meth : Method} {c : Code} {hh : List (Nat × Nat × Nat × Nat)}
    (B : BodyLoose p l y S cc maxL ret e s m args below meth c s₁) (h : (Cond.codeWith y bytes maxL' ret' hh).before args s = true) : c.exceptionTable.toList = tableOf hh := by
  obtain ⟨m9, meth9, c9, hn9, h1, h2, -, -, h6, -⟩ := Cond.codeWith_spec h
  cases Option.some.inj (hn9.symm.trans B.named)
  cases Option.some.inj (h1.symm.trans B.method)
  cases Option.some.inj (h2.symm.trans (Stand.of_body B).code)
  rw [← h6, table_eq]
end Bodies
end VXA
/-! ===== END ===== -/
/-! ===== BEGIN a static call of a method with an exception table ===== -/
section VXS
variable {p : Program} {l : Launch} {e : Env} {R : Room} {s : State} {m : MethodId} {args : Array Value} {below : List Frame} {meth : Method} {c : Code} {T : State} {H : Heap} {locs : List Loc} {cells slots : Nat}
abbrev vx_CSW (R : Room) (s : State) (args : Array Value) (own : String) (index : Nat) (y : MethodName) (bytes : ByteArray) (maxL : Nat) (ret : Option FieldType) (hh : List (Nat × Nat × Nat × Nat)) (ws : List Cond) (rm : Room) (mc ms n : Nat) : Prop :=
  (rm.cells = mc ∧ rm.slots = ms ∧ rm.frames + 1 ≤ R.frames ∧ 8 + (maxL + 11) + rm.locals ≤ R.locals ∧ (∀ w ∈ ws, ∀ (a' : Array Value) (U : State), s.WarmedH U.vm → w.before a' U = true) ∧ Cond.codeWith y bytes maxL ret hh ∈ ws) ∧
  (Cond.codeWith y bytes maxL ret hh).before args s = true ∧ (Cond.initialized y.cls).before args s = true ∧ (y.cls ≠ "java/lang/invoke/MethodHandle" ∧ y.cls ≠ "java/lang/invoke/VarHandle") ∧
  (∀ sig, parseMethodDescriptor y.desc = some sig → n = sig.parameters.length) ∧ (Cond.methodLink own index y).before args s = true ∧ (Cond.static y).before args s = true
theorem vx_cwSW {own : String} {index maxL mc ms : Nat} {y : MethodName} {bytes : ByteArray} {ret : Option FieldType} {hh : List (Nat × Nat × Nat × Nat)} {Ts ws ws' : List Cond} {rm : Room} (n : Nat) (ht : ∀ w ∈ Ts, w.before args s = true) (hT : GoodIn Ts (va_wsS own index y ws)) (hw : ws = Cond.codeWith y bytes maxL ret hh :: ws') (hrc : rm.cells = mc) (hrs : rm.slots = ms)
    (hd : y.cls ≠ "java/lang/invoke/MethodHandle" ∧ y.cls ≠ "java/lang/invoke/VarHandle" ∧ (parseMethodDescriptor y.desc).map (fun d => d.parameters.length) = some n) (hR : rm.frames + 1 ≤ R.frames ∧ 8 + (maxL + 11) + rm.locals ≤ R.locals) :
    vx_CSW R s args own index y bytes maxL ret hh ws rm mc ms n := by
  have ok : ∀ w ∈ va_wsS own index y ws, w.before args s = true := fun w h => ht w (hT w h).1
  have hG : GoodIn Ts ws := fun w h => hT w (by unfold va_wsS; exact List.mem_append_right _ h)
  have hc : Cond.codeWith y bytes maxL ret hh ∈ ws := by rw [hw]; exact List.mem_cons_self
  refine ⟨⟨hrc, hrs, hR.1, hR.2, pay_in ht hG, hc⟩, ht _ (hG _ hc).1, ok _ (by simp [va_wsS]), ⟨hd.1, hd.2.1⟩, fun sig h => ?_, ok _ (by simp [va_wsS]), ok _ (by simp [va_wsS])⟩
  have h2 := hd.2.2
  rw [h] at h2
  exact (Option.some.inj h2).symm
theorem vx_callSW (X : Stand p l e R s m args below meth c T locs cells slots) (hexec : p.tables.exec = Jvm.exec) {own : String} {index : Nat} {y : MethodName} {bytes : ByteArray} {maxL : Nat} {ret : Option FieldType} {hh : List (Nat × Nat × Nat × Nat)}
    (hown : s.vm.findClass own = some m.cls) (hlink : (Cond.methodLink own index y).before args s = true) (hstat : (Cond.static y).before args s = true) (hinit : (Cond.initialized y.cls).before args s = true)
    (hcode : (Cond.codeWith y bytes maxL ret hh).before args s = true) (hy : y.cls ≠ "java/lang/invoke/MethodHandle" ∧ y.cls ≠ "java/lang/invoke/VarHandle")
    {W9 : Nat} {Pre : Pt → Array Value → Prop} {Post : Pt → Array Value → Option Value → Pt → Prop} (hK : Back l R p e below s args y 3 W9 Pre Post)
    {g : JFrame} (hg : g.method = m) (hsize : g.locals.size = c.maxLocals) {argsL rest : List Value} (hlen : ∀ sig, parseMethodDescriptor y.desc = some sig → argsL.length = sig.parameters.length)
    (hstack : g.stack = argsL.reverse ++ rest) (hW : 2 * g.monitorRoom + (rest.map fun v => v.category).sum ≤ W9) (hdg : decode c.code g.pc = .ok (.invokestatic index, 3))
    (hpre : ∀ vm₁, s.WarmedH vm₁ → Pre ⟨T.setVm vm₁, locs, cells, slots⟩ argsL.toArray) :
    ∃ (v : Option Value) (vm₁ : Vm) (B : Pt), s.WarmedH vm₁ ∧ Stand p l e R s m args below meth c B.U B.locs B.cells B.slots ∧ Post ⟨T.setVm vm₁, locs, cells, slots⟩ argsL.toArray v B ∧
      ∀ target, Steps p.tables e below (B.U.setTop { g with pc := g.pc + 3, stack := v.toList ++ rest }) target → Steps p.tables e below (T.setTop g) target := by
  obtain ⟨mk, methM, cM, hnamed, hmethM, -, -, -, -, -, -, hsigM⟩ := Cond.codeWith_spec hcode
  have hstatic : methM.isStatic = true := Cond.static_spec hnamed hmethM hstat
  obtain ⟨kP, hkP, -⟩ := className_of_methodNamed hnamed
  have hinitP : kP.init = .initialized := Cond.initialized_spec (findClass_of_methodNamed hnamed) hkP hinit
  obtain ⟨vm₁, X₁, hstep₁⟩ := X.invokestatic hexec hown hlink hnamed hmethM hstatic hkP hinitP hy (g := g) hg (argsL := argsL) (rest := rest) (hlen _ hsigM) hstack hdg
  obtain ⟨v, B, X', hpost, hsteps⟩ := hK m meth c ⟨T.setVm vm₁, locs, cells, slots⟩ { g with stack := rest } (.invokestatic index) mk argsL.toArray X₁ hg hsize hdg hW (X₁.named hnamed) (hpre vm₁ X₁.warmed)
  exact ⟨v, vm₁, B, X₁.warmed, X', hpost, fun target h => hstep₁ _ fun acts => by rw [doInvoke_state]; exact hsteps.trans h⟩
theorem vx_runSW {y : MethodName} {bytes cc : ByteArray} {maxL nL mc ms n index : Nat} {ret : Option FieldType} {hh : List (Nat × Nat × Nat × Nat)} {ws : List Cond} {rm : Room} {Pc : Array Value → State → Prop} {Qc : Array Value → State → Outcome → State → Prop} {free : Addr → Prop} {Ts : List Cond} {own : String} {As rest : List Value} {g : JFrame}
    (S : CallFix p m c cc nL s args Ts own) (hM : Met l y ws rm Pc Qc mc ms free) (cw : vx_CSW R s args own index y bytes maxL ret hh ws rm mc ms n) (hp : PreS s H Pc As)
    (hg : g.method = m) (hn : As.length = n) (hsize : g.locals.size = nL) (hstack : g.stack = As.reverse ++ rest) (hW : 2 * g.monitorRoom + (rest.map fun v => v.category).sum ≤ 8) (hdg : decode cc g.pc = .ok (.invokestatic index, 3)) (hf : cells + mc ≤ R.cells ∧ slots + ms ≤ R.slots) :
    va_Run p l e R s m args below meth c H locs cells slots mc ms g rest (Qc As.toArray) (free) := by
  obtain ⟨⟨hrc, hrs, hfr, hlo, hws, hcw⟩, hcode, hini, hy, hlen, hl, hstt⟩ := cw
  have hK : Back l R p e below s args y 3 8 (PreOf R mc ms Pc) (PostOf Qc mc ms free) := va_backW (hh := hh) (bytes := bytes) (maxL := maxL) (ret := ret) hM hp.1 hrc hrs hfr hlo hws hcw (fun a' U hW => word_at hW (Or.inl (by first | rfl | simp [Cond.onTables, Cond.keeps, Cond.steady])) hini)
  obtain ⟨hx, hb, hml, ho, -⟩ := S
  intro T hT X
  obtain ⟨v, vm₁, ⟨U', l2, c2, s2⟩, hW₁, X', ⟨g', mk, t, L, e1, e2, hq, h1, hL, h2, h3⟩, st⟩ := vx_callSW X hx (hh := hh) (bytes := bytes) (maxL := maxL) (ret := ret) ho hl hstt hini hcode hy hK hg (hsize.trans hml.symm) (argsL := As) (rest := rest) (fun sig h => hn.trans (hlen sig h)) hstack hW (by rw [hb]; exact hdg)
    (fun vm₁ hW₁ => ⟨hf.1, hf.2, hp.2 (T.setVm vm₁) hT hW₁⟩)
  dsimp only [Pt.U, Pt.locs, Pt.cells, Pt.slots] at X' e1 e2 h1 h2 h3 st
  subst h1; subst h2; subst h3
  exact ⟨v, (T.setVm vm₁).calling g' mk As.toArray, t, U', L, hT, X', hL, e1, e2, hq, st⟩
/-- not caught here, past rows that name other classes: it goes on to the caller -/
theorem vx_outP {p : Program} {l : Launch} {e : Env} {R : Room} {s : State} {m : MethodId} {args : Array Value} {below : List Frame} {meth : Method} {c : Code} {H : Heap} {locs : List Loc} {cells slots : Nat} {free : Addr → Prop} {ls : Array Slot} {rest : List Value} {Qc : Array Value → State → Outcome → State → Prop} {XC : String → State → State → Prop}
    {pc : Nat} {own E : String} {ce : Cell} {q : Addr} {mc ms : Nat} (hown : s.vm.findClass own = some m.cls) (hlocks : meth.locks = false)
    (hpass : ∀ z ∈ c.exceptionTable.toList, covers z pc = false ∨ (z.catchType ≠ 0 ∧ ∃ nm : String, (Cond.classLink own z.catchType nm).before args s = true ∧ va_Nc E nm s)) (hcell : H[q]? = some ce) (hv : ce.vm = .none) (hcl : s.vm.findClass E = some ce.cls)
    (hx : ∀ t : State, t.heap = H → s.vm.Alike t.vm → XC E s t) (hf : ∀ z ∈ locs, free z.base) (hc : cells ≤ mc) (hs : slots ≤ ms) :
    vx_W p l e R s m args below meth c H locs cells slots (vx_MQ below Qc XC args s mc ms free) (F0 m pc ls rest) q := by
  intro T hT X
  have hpl : e.platform.magicAccessors = ({} : Platform).magicAccessors := by rw [X.admits.platform]
  obtain ⟨vm', hW', X', st⟩ := X.outThrough hlocks q (g := F0 m pc ls rest) rfl rfl rfl (cell := ce) (by rw [hT]; exact hcell) (by rw [hv]; rfl)
    (by obtain ⟨k9, h9, -⟩ := Vm.findClass_spec hcl; exact ⟨k9, h9⟩) (fun z hz => by
      rcases hpass z hz with h | ⟨hz0, nm, hl1, hn1⟩
      · exact Or.inl h
      · obtain ⟨c6, hc6, hcl6⟩ := Cond.classLink_spec hown hl1 e.platform hpl
        obtain ⟨a8, b8, h1, h2, h3⟩ := hn1
        cases Option.some.inj (h1.symm.trans hcl)
        cases Option.some.inj (h2.symm.trans hc6)
        exact Or.inr ⟨hz0, _, hcl6, h3⟩)
  obtain ⟨g₀, hfr⟩ := X'.frames_eq
  have hcell9 : ((T.setVm vm').setFrames (.throwing q :: below)).heap[q]? = some ce := by
    show T.heap[q]? = some ce
    rw [hT]; exact hcell
  have hend : Ended ((T.setVm vm').setFrames (.throwing q :: below)) below (.threw q) := State.frames_setFrames _ (State.cur_lt_of_frames hfr)
  refine ⟨(T.setVm vm').setFrames (.throwing q :: below), ?_, .threw q, X'.here.running, hend, Or.inr ⟨q, rfl, E, ce, locs, hx _ hT (X'.ends _).1.alike, hcell9, hv, hcl, (X'.ends _).1, (X'.ends _).2.mono hc hs, hf⟩⟩
  rw [X.pushThrowing_eq]
  exact st
/-- a thing of a world lies in the heap -/
theorem vx_lt {D : va_G} {cl : List vw_C} {ws : va_W} {H1 : Heap} (h : va_P D cl ws H1) {k : Nat} {q : Nat × va_E} (hk : ws[k]? = some q) : q.1 < H1.size := (h k q hk).lt
end VXS
/-! ===== END ===== -/
/-! ===== BEGIN methods with a table of their own: called by a name, returning or throwing ===== -/
section VXH
/-! vx_backW, vx_callVX, vx_callSX, vx_callVW, vx_runVW, vx_runVX, vx_runSX, vx_ofWH follow the same proofs as their sisters above (Free/Laws.lean, Shelf42/LK1.lean); vx_outP calls Shelf42/NT130.lean (outThrough). -/
section
variable {l : Launch} {R : Room} {p : Program} {e : Env} {below : List Frame} {s : State} {sargs : Array Value} {y : MethodName} {len W9 : Nat}
theorem vx_backW {ws : List Cond} {rm : Room} {Pc : Array Value → State → Prop} {Qc : Array Value → State → Outcome → State → Prop} {XC : String → State → State → Prop} {mc ms : Nat} {free : Addr → Prop} {bytes : ByteArray} {maxL : Nat} {ret : Option FieldType} {hh : List (Nat × Nat × Nat × Nat)}
    (hM : vx_Met l y ws rm Pc Qc XC mc ms free) (hblind : FrameBlind Pc) (hrc : rm.cells = mc) (hrs : rm.slots = ms)
    (hframes : rm.frames + 1 ≤ R.frames) (hlocals : W9 + (maxL + 11) + rm.locals ≤ R.locals)
    (hws : ∀ w ∈ ws, ∀ a' U, s.WarmedH U.vm → w.before a' U = true) (hcode : Cond.codeWith y bytes maxL ret hh ∈ ws) (hinit : ∀ a' U, s.WarmedH U.vm → (Cond.initialized y.cls).before a' U = true) :
    vx_Back l R p e below s sargs y len W9 (PreOf R mc ms Pc) (PostOf Qc mc ms free) (vx_Post XC mc ms free) := by
  intro m meth c A g ig mk a X hg hsize hdg hW hn hp
  have h1 : (headSpec ws rm).pre.before a A.U = true := atoms_intro fun w hw => hws w hw _ _ X.warmed
  have h2 : (Cond.codeWith y bytes maxL ret hh).before a A.U = true := hws _ hcode _ _ X.warmed
  have h3 : (Cond.initialized y.cls).before a A.U = true := hinit _ _ X.warmed
  have h4 : A.cells + (headSpec ws rm).room.cells ≤ R.cells := by rw [show (headSpec ws rm).room.cells = mc from hrc]; exact hp.1
  have h5 : A.slots + (headSpec ws rm).room.slots ≤ R.slots := by rw [show (headSpec ws rm).room.slots = ms from hrs]; exact hp.2.1
  have hPc : Pc a (A.U.calling g mk a) := hblind _ _ _ _ hp.2.2
  obtain ⟨U, Ls, c0, s0⟩ := A
  dsimp only [Pt.U, Pt.locs, Pt.cells, Pt.slots] at h1 h2 h3 h4 h5 X hn hPc ⊢
  obtain ⟨m9, methY, cY, hn9, hmY, hcY, -, hlY, -⟩ := Cond.codeWith_spec h2
  cases Option.some.inj (hn9.symm.trans hn)
  obtain ⟨kY, hkY, -⟩ := className_of_methodNamed hn
  have hinitY : kY.init = .initialized := Cond.initialized_spec (findClass_of_methodNamed hn) hkY h3
  have h : At U g.method c below := by rw [hg]; exact X.here
  have hlocals9 : W9 + (maxL + 11) + (headSpec ws rm).room.locals ≤ R.locals := hlocals
  have happ : (headSpec ws rm).appliesLoose y e.platform (U.calling g mk a) = true :=
    Spec.appliesLoose_calling (g := g) h hdg hn hkY hinitY
      (X.room_calling (g := g) (R' := (headSpec ws rm).room) hsize hmY hcY hframes (by rw [hlY]; omega) h4 h5) h1
  obtain ⟨mid, hmid⟩ := h.above
  have hfr : (U.setTop g).frames = (.java g :: mid) ++ below := by rw [State.frames_setTop' g h.top, hmid]; rfl
  obtain ⟨o, s₂, hsteps, -, hend, hq⟩ := Steps.callFree hM p X.admits X.cas X.clock (acts := []) hfr happ hPc trivial
  have hq' : vx_Q Qc XC mc ms free a (U.calling g mk a) o s₂ := hq
  rw [State.frames_setTop' g h.top] at hend
  obtain ⟨g₀, hg0⟩ := Option.isSome_iff_exists.mp h.top
  obtain ⟨r, hr⟩ := State.topJava?_eq_some.mp hg0
  have hr' : (({ U with heap := s₂.heap, slotsUsed := s₂.slotsUsed } : State).setVm s₂.vm).frames = .java g₀ :: r := hr
  rcases hq' with ⟨hqc, L, hfe, hL⟩ | ⟨q, rfl, E, ce, L, hx, hce, hcv, hcl, hW₂, hsm, hL⟩
  · obtain ⟨⟨v, rfl⟩, hW₂, e2, q2, q3, q4, q5, q6⟩ := id hfe
    have e3 : s₂ = ({ (U.calling g mk a).setFrames s₂.frames with heap := s₂.heap, slotsUsed := s₂.slotsUsed } : State).setVm s₂.vm := by
      have : s₂ = ({ s₂ with vm := (U.calling g mk a).vm } : State).setVm s₂.vm := rfl
      rw [e2] at this
      exact this
    obtain ⟨c₂, i₂, len₂, hc₂, hd₂, hf₂⟩ := hend
    have hW' : U.WarmedH s₂.vm := hW₂
    have hcc : c₂ = c := by
      have h1 : s₂.code? g.method = U.code? g.method := by
        rw [State.code?_eq, State.code?_eq, hW'.alike.method?]
      exact Option.some.inj (hc₂.symm.trans (h1.trans h.code))
    subst hcc
    have hlen : len₂ = len := by rw [hdg] at hd₂; cases hd₂; rfl
    subst hlen
    have hs₂ : s₂ = (({ U with heap := s₂.heap, slotsUsed := s₂.slotsUsed } : State).setVm s₂.vm).setTop { g with pc := g.pc + len₂, stack := v.toList ++ g.stack } := by
      refine e3.trans ?_
      rw [hf₂, State.calling_eq h.top, State.setFrames_setFrames, State.setTop_of_frames _ hr', hr]
      rfl
    have hsame : U.sameButNew ({ U with heap := s₂.heap, slotsUsed := s₂.slotsUsed } : State) L mc ms := by
      refine ⟨?_, q2, q3, q4, q5, q6⟩
      obtain ⟨t, ht, -⟩ := State.frames_cons hr
      show ({ U with heap := s₂.heap, slotsUsed := s₂.slotsUsed } : State) = { U.setFrames U.frames with heap := s₂.heap, slotsUsed := s₂.slotsUsed }
      rw [State.setFrames_self ht]
    subst hg
    refine Or.inl ⟨v, ⟨(({ U with heap := s₂.heap, slotsUsed := s₂.slotsUsed } : State).setVm s₂.vm), Ls ++ L, c0 + mc, s0 + ms⟩,
      ⟨X.admits, X.cas, X.clock, X.frames, X.room, X.hears, X.method, X.code, (X.here.setHeapUsed s₂.heap s₂.slotsUsed).setVm hW'.alike, X.tail, State.WarmedH.trans X.warmed hW', X.limits, X.bytes, X.same.trans (hsame.setVm s.vm)⟩,
      ⟨g, mk, s₂, L, rfl, rfl, hqc, rfl, hL, rfl, rfl⟩, ?_⟩
    show Steps p.tables e below _ ((({ U with heap := s₂.heap, slotsUsed := s₂.slotsUsed } : State).setVm s₂.vm).setTop { g with pc := g.pc + len₂, stack := v.toList ++ g.stack })
    rw [← hs₂]
    exact hsteps
  · obtain ⟨e2, q2, q3, q4, q5, q6⟩ := id hsm
    have e3 : s₂ = ({ (U.calling g mk a).setFrames s₂.frames with heap := s₂.heap, slotsUsed := s₂.slotsUsed } : State).setVm s₂.vm := by
      have : s₂ = ({ s₂ with vm := (U.calling g mk a).vm } : State).setVm s₂.vm := rfl
      rw [e2] at this
      exact this
    have hf₂ : s₂.frames = .throwing q :: .java g :: U.frames.tail := hend
    have hW' : U.WarmedH s₂.vm := hW₂
    have hs₂ : s₂ = ((({ U with heap := s₂.heap, slotsUsed := s₂.slotsUsed } : State).setVm s₂.vm).setTop g).pushFrame (.throwing q) := by
      refine e3.trans ?_
      rw [hf₂, State.calling_eq h.top, State.setFrames_setFrames, State.pushFrame, State.frames_setTop _ hr', State.setTop_of_frames _ hr', State.setFrames_setFrames, hr]
      rfl
    have hsame : U.sameButNew ({ U with heap := s₂.heap, slotsUsed := s₂.slotsUsed } : State) L mc ms := by
      refine ⟨?_, q2, q3, q4, q5, q6⟩
      obtain ⟨t, ht, -⟩ := State.frames_cons hr
      show ({ U with heap := s₂.heap, slotsUsed := s₂.slotsUsed } : State) = { U.setFrames U.frames with heap := s₂.heap, slotsUsed := s₂.slotsUsed }
      rw [State.setFrames_self ht]
    subst hg
    refine Or.inr ⟨q, ⟨(({ U with heap := s₂.heap, slotsUsed := s₂.slotsUsed } : State).setVm s₂.vm), Ls ++ L, c0 + mc, s0 + ms⟩,
      ⟨X.admits, X.cas, X.clock, X.frames, X.room, X.hears, X.method, X.code, (X.here.setHeapUsed s₂.heap s₂.slotsUsed).setVm hW'.alike, X.tail, State.WarmedH.trans X.warmed hW', X.limits, X.bytes, X.same.trans (hsame.setVm s.vm)⟩,
      ⟨g, mk, s₂, L, E, ce, rfl, rfl, hx, hce, hcv, hcl, rfl, hL, rfl, rfl⟩, ?_⟩
    show Steps p.tables e below _ (((({ U with heap := s₂.heap, slotsUsed := s₂.slotsUsed } : State).setVm s₂.vm).setTop g).pushFrame (.throwing q))
    rw [← hs₂]
    exact hsteps
end
variable {p : Program} {l : Launch} {e : Env} {R : Room} {s : State} {m : MethodId} {args : Array Value} {below : List Frame} {meth : Method} {c : Code} {T : State} {H : Heap} {locs : List Loc} {cells slots : Nat}
theorem vx_callVX (X : Stand p l e R s m args below meth c T locs cells slots) (hexec : p.tables.exec = Jvm.exec) {own C : String} {index : Nat} {y : MethodName} {bytes : ByteArray} {maxL : Nat} {ret : Option FieldType} {hh : List (Nat × Nat × Nat × Nat)}
    (hown : s.vm.findClass own = some m.cls) (hlink : (Cond.methodLink own index y).before args s = true) (hinst : (Cond.instanceMethod y).before args s = true) (hsel : (Cond.selects C y y).before args s = true)
    (hcode : (Cond.codeWith y bytes maxL ret hh).before args s = true) (hy : y.cls ≠ "java/lang/invoke/MethodHandle" ∧ y.cls ≠ "java/lang/invoke/VarHandle")
    {W9 : Nat} {Pre : Pt → Array Value → Prop} {Post : Pt → Array Value → Option Value → Pt → Prop} {PostX : Pt → Array Value → Addr → Pt → Prop} (hK : vx_Back l R p e below s args y 3 W9 Pre Post PostX)
    {b : Addr} {cellB : Cell} (hcell : T.heap[b]? = some cellB) (hobj : cellB.vm.isStatics = false) (hcls : s.vm.findClass C = some cellB.cls)
    {g : JFrame} (hg : g.method = m) (hsize : g.locals.size = c.maxLocals) {argsL rest : List Value} (hlen : ∀ sig, parseMethodDescriptor y.desc = some sig → argsL.length = sig.parameters.length)
    (hstack : g.stack = argsL.reverse ++ .ref b :: rest) (hW : 2 * g.monitorRoom + (rest.map fun v => v.category).sum ≤ W9) (hdg : decode c.code g.pc = .ok (.invokevirtual index, 3))
    (hpre : ∀ vm₁, s.WarmedH vm₁ → Pre ⟨T.setVm vm₁, locs, cells, slots⟩ (Value.ref b :: argsL).toArray) :
    (∃ (v : Option Value) (vm₁ : Vm) (B : Pt), s.WarmedH vm₁ ∧ Stand p l e R s m args below meth c B.U B.locs B.cells B.slots ∧ Post ⟨T.setVm vm₁, locs, cells, slots⟩ (Value.ref b :: argsL).toArray v B ∧
      ∀ target, Steps p.tables e below (B.U.setTop { g with pc := g.pc + 3, stack := v.toList ++ rest }) target → Steps p.tables e below (T.setTop g) target) ∨
    (∃ (q : Addr) (vm₁ : Vm) (B : Pt), s.WarmedH vm₁ ∧ Stand p l e R s m args below meth c B.U B.locs B.cells B.slots ∧ PostX ⟨T.setVm vm₁, locs, cells, slots⟩ (Value.ref b :: argsL).toArray q B ∧
      Steps p.tables e below (T.setTop g) ((B.U.setTop { g with stack := rest }).pushFrame (.throwing q))) := by
  obtain ⟨mk, methM, hnamed, hmethM, hstM, habM⟩ := Cond.instanceMethod_spec hinst
  obtain ⟨m8, methM', cM, hn8, hmethM', -, -, -, -, -, -, hsigM⟩ := Cond.codeWith_spec hcode
  cases Option.some.inj (hn8.symm.trans hnamed)
  cases hmethM.symm.trans hmethM'
  obtain ⟨c2, r2, m2, q1, q2, q3, q4, kP, hkP, hkPi⟩ := Cond.selects_spec hsel
  cases hcls.symm.trans q1
  cases (State.methodFound?_of_named hnamed hy).symm.trans q2
  cases hnamed.symm.trans q3
  have hselP : selectMethod e.platform s.vm cellB.cls mk = .method mk := by rw [Launch.admits_selectMethod X.admits]; exact q4
  obtain ⟨vm₁, X₁, hstep₁⟩ := X.invokevirtual hexec hown hlink hnamed hmethM hstM hkP hkPi hy (a := b) (cell := cellB) hcell
    (fun z h => by rw [h] at hobj; cases hobj) hselP hmethM habM hkP hkPi (g := g) hg (argsL := argsL) (rest := rest) (hlen _ hsigM) hstack hdg
  rcases hK m meth c ⟨T.setVm vm₁, locs, cells, slots⟩ { g with stack := rest } (.invokevirtual index) mk (Value.ref b :: argsL).toArray X₁ hg hsize hdg hW (X₁.named hnamed) (hpre vm₁ X₁.warmed) with ⟨v, B, X', hpost, hsteps⟩ | ⟨q, B, X', hpost, hsteps⟩
  · exact Or.inl ⟨v, vm₁, B, X₁.warmed, X', hpost, fun target h => hstep₁ _ fun acts => by rw [doInvoke_state]; exact hsteps.trans h⟩
  · exact Or.inr ⟨q, vm₁, B, X₁.warmed, X', hpost, hstep₁ _ fun acts => by rw [doInvoke_state]; exact hsteps⟩
theorem vx_callSX (X : Stand p l e R s m args below meth c T locs cells slots) (hexec : p.tables.exec = Jvm.exec) {own : String} {index : Nat} {y : MethodName} {bytes : ByteArray} {maxL : Nat} {ret : Option FieldType} {hh : List (Nat × Nat × Nat × Nat)}
    (hown : s.vm.findClass own = some m.cls) (hlink : (Cond.methodLink own index y).before args s = true) (hstat : (Cond.static y).before args s = true) (hinit : (Cond.initialized y.cls).before args s = true)
    (hcode : (Cond.codeWith y bytes maxL ret hh).before args s = true) (hy : y.cls ≠ "java/lang/invoke/MethodHandle" ∧ y.cls ≠ "java/lang/invoke/VarHandle")
    {W9 : Nat} {Pre : Pt → Array Value → Prop} {Post : Pt → Array Value → Option Value → Pt → Prop} {PostX : Pt → Array Value → Addr → Pt → Prop} (hK : vx_Back l R p e below s args y 3 W9 Pre Post PostX)
    {g : JFrame} (hg : g.method = m) (hsize : g.locals.size = c.maxLocals) {argsL rest : List Value} (hlen : ∀ sig, parseMethodDescriptor y.desc = some sig → argsL.length = sig.parameters.length)
    (hstack : g.stack = argsL.reverse ++ rest) (hW : 2 * g.monitorRoom + (rest.map fun v => v.category).sum ≤ W9) (hdg : decode c.code g.pc = .ok (.invokestatic index, 3))
    (hpre : ∀ vm₁, s.WarmedH vm₁ → Pre ⟨T.setVm vm₁, locs, cells, slots⟩ argsL.toArray) :
    (∃ (v : Option Value) (vm₁ : Vm) (B : Pt), s.WarmedH vm₁ ∧ Stand p l e R s m args below meth c B.U B.locs B.cells B.slots ∧ Post ⟨T.setVm vm₁, locs, cells, slots⟩ argsL.toArray v B ∧
      ∀ target, Steps p.tables e below (B.U.setTop { g with pc := g.pc + 3, stack := v.toList ++ rest }) target → Steps p.tables e below (T.setTop g) target) ∨
    (∃ (q : Addr) (vm₁ : Vm) (B : Pt), s.WarmedH vm₁ ∧ Stand p l e R s m args below meth c B.U B.locs B.cells B.slots ∧ PostX ⟨T.setVm vm₁, locs, cells, slots⟩ argsL.toArray q B ∧
      Steps p.tables e below (T.setTop g) ((B.U.setTop { g with stack := rest }).pushFrame (.throwing q))) := by
  obtain ⟨mk, methM, cM, hnamed, hmethM, -, -, -, -, -, -, hsigM⟩ := Cond.codeWith_spec hcode
  have hstatic : methM.isStatic = true := Cond.static_spec hnamed hmethM hstat
  obtain ⟨kP, hkP, -⟩ := className_of_methodNamed hnamed
  have hinitP : kP.init = .initialized := Cond.initialized_spec (findClass_of_methodNamed hnamed) hkP hinit
  obtain ⟨vm₁, X₁, hstep₁⟩ := X.invokestatic hexec hown hlink hnamed hmethM hstatic hkP hinitP hy (g := g) hg (argsL := argsL) (rest := rest) (hlen _ hsigM) hstack hdg
  rcases hK m meth c ⟨T.setVm vm₁, locs, cells, slots⟩ { g with stack := rest } (.invokestatic index) mk argsL.toArray X₁ hg hsize hdg hW (X₁.named hnamed) (hpre vm₁ X₁.warmed) with ⟨v, B, X', hpost, hsteps⟩ | ⟨q, B, X', hpost, hsteps⟩
  · exact Or.inl ⟨v, vm₁, B, X₁.warmed, X', hpost, fun target h => hstep₁ _ fun acts => by rw [doInvoke_state]; exact hsteps.trans h⟩
  · exact Or.inr ⟨q, vm₁, B, X₁.warmed, X', hpost, hstep₁ _ fun acts => by rw [doInvoke_state]; exact hsteps⟩
theorem vx_callVW (X : Stand p l e R s m args below meth c T locs cells slots) (hexec : p.tables.exec = Jvm.exec) {own C : String} {index : Nat} {y : MethodName} {bytes : ByteArray} {maxL : Nat} {ret : Option FieldType} {hh : List (Nat × Nat × Nat × Nat)}
    (hown : s.vm.findClass own = some m.cls) (hlink : (Cond.methodLink own index y).before args s = true) (hinst : (Cond.instanceMethod y).before args s = true) (hsel : (Cond.selects C y y).before args s = true)
    (hcode : (Cond.codeWith y bytes maxL ret hh).before args s = true) (hy : y.cls ≠ "java/lang/invoke/MethodHandle" ∧ y.cls ≠ "java/lang/invoke/VarHandle")
    {W9 : Nat} {Pre : Pt → Array Value → Prop} {Post : Pt → Array Value → Option Value → Pt → Prop} (hK : Back l R p e below s args y 3 W9 Pre Post)
    {b : Addr} {cellB : Cell} (hcell : T.heap[b]? = some cellB) (hobj : cellB.vm.isStatics = false) (hcls : s.vm.findClass C = some cellB.cls)
    {g : JFrame} (hg : g.method = m) (hsize : g.locals.size = c.maxLocals) {argsL rest : List Value} (hlen : ∀ sig, parseMethodDescriptor y.desc = some sig → argsL.length = sig.parameters.length)
    (hstack : g.stack = argsL.reverse ++ .ref b :: rest) (hW : 2 * g.monitorRoom + (rest.map fun v => v.category).sum ≤ W9) (hdg : decode c.code g.pc = .ok (.invokevirtual index, 3))
    (hpre : ∀ vm₁, s.WarmedH vm₁ → Pre ⟨T.setVm vm₁, locs, cells, slots⟩ (Value.ref b :: argsL).toArray) :
    ∃ (v : Option Value) (vm₁ : Vm) (B : Pt), s.WarmedH vm₁ ∧ Stand p l e R s m args below meth c B.U B.locs B.cells B.slots ∧ Post ⟨T.setVm vm₁, locs, cells, slots⟩ (Value.ref b :: argsL).toArray v B ∧
      ∀ target, Steps p.tables e below (B.U.setTop { g with pc := g.pc + 3, stack := v.toList ++ rest }) target → Steps p.tables e below (T.setTop g) target := by
  obtain ⟨mk, methM, hnamed, hmethM, hstM, habM⟩ := Cond.instanceMethod_spec hinst
  obtain ⟨m8, methM', cM, hn8, hmethM', -, -, -, -, -, -, hsigM⟩ := Cond.codeWith_spec hcode
  cases Option.some.inj (hn8.symm.trans hnamed)
  cases hmethM.symm.trans hmethM'
  obtain ⟨c2, r2, m2, q1, q2, q3, q4, kP, hkP, hkPi⟩ := Cond.selects_spec hsel
  cases hcls.symm.trans q1
  cases (State.methodFound?_of_named hnamed hy).symm.trans q2
  cases hnamed.symm.trans q3
  have hselP : selectMethod e.platform s.vm cellB.cls mk = .method mk := by rw [Launch.admits_selectMethod X.admits]; exact q4
  obtain ⟨vm₁, X₁, hstep₁⟩ := X.invokevirtual hexec hown hlink hnamed hmethM hstM hkP hkPi hy (a := b) (cell := cellB) hcell
    (fun z h => by rw [h] at hobj; cases hobj) hselP hmethM habM hkP hkPi (g := g) hg (argsL := argsL) (rest := rest) (hlen _ hsigM) hstack hdg
  obtain ⟨v, B, X', hpost, hsteps⟩ := hK m meth c ⟨T.setVm vm₁, locs, cells, slots⟩ { g with stack := rest } (.invokevirtual index) mk (Value.ref b :: argsL).toArray X₁ hg hsize hdg hW (X₁.named hnamed) (hpre vm₁ X₁.warmed)
  exact ⟨v, vm₁, B, X₁.warmed, X', hpost, fun target h => hstep₁ _ fun acts => by rw [doInvoke_state]; exact hsteps.trans h⟩
abbrev vx_CVW (R : Room) (s : State) (args : Array Value) (own C : String) (index : Nat) (y : MethodName) (bytes : ByteArray) (maxL : Nat) (ret : Option FieldType) (hh : List (Nat × Nat × Nat × Nat)) (ws : List Cond) (rm : Room) (mc ms n : Nat) : Prop :=
  (rm.cells = mc ∧ rm.slots = ms ∧ rm.frames + 1 ≤ R.frames ∧ 8 + (maxL + 11) + rm.locals ≤ R.locals ∧ (∀ w ∈ ws, ∀ (a' : Array Value) (U : State), s.WarmedH U.vm → w.before a' U = true) ∧ Cond.codeWith y bytes maxL ret hh ∈ ws) ∧
  (Cond.codeWith y bytes maxL ret hh).before args s = true ∧ (Cond.initialized y.cls).before args s = true ∧ (y.cls ≠ "java/lang/invoke/MethodHandle" ∧ y.cls ≠ "java/lang/invoke/VarHandle") ∧
  (∀ sig, parseMethodDescriptor y.desc = some sig → n = sig.parameters.length) ∧ (Cond.methodLink own index y).before args s = true ∧ (Cond.instanceMethod y).before args s = true ∧ (Cond.selects C y y).before args s = true
theorem vx_cwVW {own C : String} {index maxL mc ms : Nat} {y : MethodName} {bytes : ByteArray} {ret : Option FieldType} {hh : List (Nat × Nat × Nat × Nat)} {Ts ws ws' : List Cond} {rm : Room} (n : Nat) (ht : ∀ w ∈ Ts, w.before args s = true) (hT : GoodIn Ts (wsV own index C y ws)) (hw : ws = Cond.codeWith y bytes maxL ret hh :: ws') (hrc : rm.cells = mc) (hrs : rm.slots = ms)
    (hd : y.cls = C ∧ y.cls ≠ "java/lang/invoke/MethodHandle" ∧ y.cls ≠ "java/lang/invoke/VarHandle" ∧ (parseMethodDescriptor y.desc).map (fun d => d.parameters.length) = some n) (hR : rm.frames + 1 ≤ R.frames ∧ 8 + (maxL + 11) + rm.locals ≤ R.locals) :
    vx_CVW R s args own C index y bytes maxL ret hh ws rm mc ms n := by
  obtain ⟨hC, hd⟩ := hd
  subst hC
  have ok : ∀ w ∈ wsV own index y.cls y ws, w.before args s = true := fun w h => ht w (hT w h).1
  have hG : GoodIn Ts ws := fun w h => hT w (by unfold wsV; exact List.mem_append_right _ h)
  have hc : Cond.codeWith y bytes maxL ret hh ∈ ws := by rw [hw]; exact List.mem_cons_self
  refine ⟨⟨hrc, hrs, hR.1, hR.2, pay_in ht hG, hc⟩, ht _ (hG _ hc).1, ok _ (by simp [wsV]), ⟨hd.1, hd.2.1⟩, fun sig h => ?_, ok _ (by simp [wsV]), ok _ (by simp [wsV]), ok _ (by simp [wsV])⟩
  have h2 := hd.2.2
  rw [h] at h2
  exact (Option.some.inj h2).symm
theorem vx_runVW {y : MethodName} {bytes cc : ByteArray} {maxL nL mc ms n index : Nat} {ret : Option FieldType} {hh : List (Nat × Nat × Nat × Nat)} {ws : List Cond} {rm : Room} {Pc : Array Value → State → Prop} {Qc : Array Value → State → Outcome → State → Prop} {free : Addr → Prop} {Ts : List Cond} {own C : String} {b : Addr} {As rest : List Value} {g : JFrame}
    (S : CallFix p m c cc nL s args Ts own) (hM : Met l y ws rm Pc Qc mc ms free) (cw : vx_CVW R s args own C index y bytes maxL ret hh ws rm mc ms n) (hp : PreV s H C b Pc As)
    (hg : g.method = m) (hn : As.length = n) (hsize : g.locals.size = nL) (hstack : g.stack = As.reverse ++ .ref b :: rest) (hW : 2 * g.monitorRoom + (rest.map fun v => v.category).sum ≤ 8) (hdg : decode cc g.pc = .ok (.invokevirtual index, 3)) (hf : cells + mc ≤ R.cells ∧ slots + ms ≤ R.slots) :
    va_Run p l e R s m args below meth c H locs cells slots mc ms g rest (Qc (Value.ref b :: As).toArray) free := by
  obtain ⟨⟨hrc, hrs, hfr, hlo, hws, hcw⟩, hcode, hini, hy, hlen, hl, hin, hse⟩ := cw
  have hK : Back l R p e below s args y 3 8 (PreOf R mc ms Pc) (PostOf Qc mc ms free) := va_backW (hh := hh) (bytes := bytes) (maxL := maxL) (ret := ret) hM hp.1 hrc hrs hfr hlo hws hcw (fun a' U hW => word_at hW (Or.inl (by first | rfl | simp [Cond.onTables, Cond.keeps, Cond.steady])) hini)
  obtain ⟨hx, hb, hml, ho, -⟩ := S
  obtain ⟨-, ⟨cellB, hcB, hoB, hclB⟩, hPc⟩ := hp
  intro T hT X
  obtain ⟨v, vm₁, ⟨U', l2, c2, s2⟩, hW₁, X', ⟨g', mk, t, L, e1, e2, hq, h1, hL, h2, h3⟩, st⟩ := vx_callVW X hx (C := C) (hh := hh) (bytes := bytes) (maxL := maxL) (ret := ret) ho hl hin hse hcode hy hK (by rw [hT]; exact hcB) hoB hclB hg (hsize.trans hml.symm) (argsL := As) (rest := rest) (fun sig h => hn.trans (hlen sig h)) hstack hW (by rw [hb]; exact hdg)
    (fun vm₁ hW₁ => ⟨hf.1, hf.2, hPc (T.setVm vm₁) hT hW₁⟩)
  dsimp only [Pt.U, Pt.locs, Pt.cells, Pt.slots] at X' e1 e2 h1 h2 h3 st
  subst h1; subst h2; subst h3
  exact ⟨v, (T.setVm vm₁).calling g' mk (Value.ref b :: As).toArray, t, U', L, hT, X', hL, e1, e2, hq, st⟩
section
variable {y : MethodName} {bytes cc : ByteArray} {maxL nL mc ms n index : Nat} {ret : Option FieldType} {ws : List Cond} {rm : Room} {Pc : Array Value → State → Prop} {Qc : Array Value → State → Outcome → State → Prop} {XC : String → State → State → Prop} {free : Addr → Prop} {Ts : List Cond} {own C : String} {b : Addr} {As rest : List Value} {g : JFrame}
theorem vx_runVX {hh : List (Nat × Nat × Nat × Nat)} (S : CallFix p m c cc nL s args Ts own) (hM : vx_Met l y ws rm Pc Qc XC mc ms free) (cw : vx_CVW R s args own C index y bytes maxL ret hh ws rm mc ms n) (hp : PreV s H C b Pc As)
    (hg : g.method = m) (hn : As.length = n) (hsize : g.locals.size = nL) (hstack : g.stack = As.reverse ++ .ref b :: rest) (hW : 2 * g.monitorRoom + (rest.map fun v => v.category).sum ≤ 8) (hdg : decode cc g.pc = .ok (.invokevirtual index, 3)) (hf : cells + mc ≤ R.cells ∧ slots + ms ≤ R.slots) :
    vx_Run p l e R s m args below meth c H locs cells slots mc ms g rest (Qc (Value.ref b :: As).toArray) XC free := by
  obtain ⟨⟨hrc, hrs, hfr, hlo, hws, hcw⟩, hcode, hini, hy, hlen, hl, hin, hse⟩ := cw
  have hK : vx_Back l R p e below s args y 3 8 (PreOf R mc ms Pc) (PostOf Qc mc ms free) (vx_Post XC mc ms free) := vx_backW (hh := hh) (bytes := bytes) (maxL := maxL) (ret := ret) hM hp.1 hrc hrs hfr hlo hws hcw (fun a' U hW => word_at hW (Or.inl (by first | rfl | simp [Cond.onTables, Cond.keeps, Cond.steady])) hini)
  obtain ⟨hx, hb, hml, ho, -⟩ := S
  obtain ⟨-, ⟨cellB, hcB, hoB, hclB⟩, hPc⟩ := hp
  intro T hT X
  rcases vx_callVX X hx (C := C) (hh := hh) (bytes := bytes) (maxL := maxL) (ret := ret) ho hl hin hse hcode hy hK (by rw [hT]; exact hcB) hoB hclB hg (hsize.trans hml.symm) (argsL := As) (rest := rest) (fun sig h => hn.trans (hlen sig h)) hstack hW (by rw [hb]; exact hdg)
    (fun vm₁ hW₁ => ⟨hf.1, hf.2, hPc (T.setVm vm₁) hT hW₁⟩) with ⟨v, vm₁, ⟨U', l2, c2, s2⟩, hW₁, X', ⟨g', mk, t, L, e1, e2, hq, h1, hL, h2, h3⟩, st⟩ | ⟨q, vm₁, ⟨U', l2, c2, s2⟩, hW₁, X', ⟨g', mk, t, L, E, ce, e1, e2, hq, hce, hcv, hcl, h1, hL, h2, h3⟩, st⟩
  · dsimp only [Pt.U, Pt.locs, Pt.cells, Pt.slots] at X' e1 e2 h1 h2 h3 st
    subst h1; subst h2; subst h3
    exact Or.inl ⟨v, (T.setVm vm₁).calling g' mk (Value.ref b :: As).toArray, t, U', L, hT, X', hL, e1, e2, hq, st⟩
  · dsimp only [Pt.U, Pt.locs, Pt.cells, Pt.slots] at X' e1 e2 h1 h2 h3 st hcl
    subst h1; subst h2; subst h3
    exact Or.inr ⟨q, (T.setVm vm₁).calling g' mk (Value.ref b :: As).toArray, t, U', L, E, ce, hT, X', hL, e1, e2, hq, hce, hcv, vx_cls hW₁ hcl, st⟩
theorem vx_runSX {hh : List (Nat × Nat × Nat × Nat)} (S : CallFix p m c cc nL s args Ts own) (hM : vx_Met l y ws rm Pc Qc XC mc ms free) (cw : vx_CSW R s args own index y bytes maxL ret hh ws rm mc ms n) (hp : PreS s H Pc As)
    (hg : g.method = m) (hn : As.length = n) (hsize : g.locals.size = nL) (hstack : g.stack = As.reverse ++ rest) (hW : 2 * g.monitorRoom + (rest.map fun v => v.category).sum ≤ 8) (hdg : decode cc g.pc = .ok (.invokestatic index, 3)) (hf : cells + mc ≤ R.cells ∧ slots + ms ≤ R.slots) :
    vx_Run p l e R s m args below meth c H locs cells slots mc ms g rest (Qc As.toArray) XC free := by
  obtain ⟨⟨hrc, hrs, hfr, hlo, hws, hcw⟩, hcode, hini, hy, hlen, hl, hstt⟩ := cw
  have hK : vx_Back l R p e below s args y 3 8 (PreOf R mc ms Pc) (PostOf Qc mc ms free) (vx_Post XC mc ms free) := vx_backW (hh := hh) (bytes := bytes) (maxL := maxL) (ret := ret) hM hp.1 hrc hrs hfr hlo hws hcw (fun a' U hW => word_at hW (Or.inl (by first | rfl | simp [Cond.onTables, Cond.keeps, Cond.steady])) hini)
  obtain ⟨hx, hb, hml, ho, -⟩ := S
  intro T hT X
  rcases vx_callSX X hx (hh := hh) (bytes := bytes) (maxL := maxL) (ret := ret) ho hl hstt hini hcode hy hK hg (hsize.trans hml.symm) (argsL := As) (rest := rest) (fun sig h => hn.trans (hlen sig h)) hstack hW (by rw [hb]; exact hdg)
    (fun vm₁ hW₁ => ⟨hf.1, hf.2, hp.2 (T.setVm vm₁) hT hW₁⟩) with ⟨v, vm₁, ⟨U', l2, c2, s2⟩, hW₁, X', ⟨g', mk, t, L, e1, e2, hq, h1, hL, h2, h3⟩, st⟩ | ⟨q, vm₁, ⟨U', l2, c2, s2⟩, hW₁, X', ⟨g', mk, t, L, E, ce, e1, e2, hq, hce, hcv, hcl, h1, hL, h2, h3⟩, st⟩
  · dsimp only [Pt.U, Pt.locs, Pt.cells, Pt.slots] at X' e1 e2 h1 h2 h3 st
    subst h1; subst h2; subst h3
    exact Or.inl ⟨v, (T.setVm vm₁).calling g' mk As.toArray, t, U', L, hT, X', hL, e1, e2, hq, st⟩
  · dsimp only [Pt.U, Pt.locs, Pt.cells, Pt.slots] at X' e1 e2 h1 h2 h3 st hcl
    subst h1; subst h2; subst h3
    exact Or.inr ⟨q, (T.setVm vm₁).calling g' mk As.toArray, t, U', L, E, ce, hT, X', hL, e1, e2, hq, hce, hcv, vx_cls hW₁ hcl, st⟩
end
end VXH
theorem vx_ofWH {l : Launch} {y : MethodName} {ws ws' : List Cond} {rm : Room} {Pc : Array Value → State → Prop} {Qc : Array Value → State → Outcome → State → Prop} {XC : String → State → State → Prop} {mc ms : Nat} {free : Addr → Prop} {cc : ByteArray} {maxL : Nat} {ret : Option FieldType} {hh : List (Nat × Nat × Nat × Nat)}
    (hy : plainName y.cls = true) (hw : ws = Cond.codeWith y cc maxL ret hh :: ws')
    (body : ∀ p e s m args below meth c s₁, BodyLoose p l y (headSpec ws rm) cc maxL ret e s m args below meth c s₁ → c.maxLocals = maxL → Pc args s →
      W p l e (headSpec ws rm).room s m args below meth c s.heap [] 0 0 (vx_MQ below Qc XC args s mc ms free) (entryFrame m args maxL)) : vx_Met l y ws rm Pc Qc XC mc ms free := by
  refine MetFree.of_bodyS (code := cc) (maxLocals := maxL) (ret := ret) hy ?_ ?_
  · intro args s m h hn
    obtain ⟨m9, meth, c, hn9, h1, h2, h3, h4, -, h5, h6, -⟩ := Cond.codeWith_spec (atoms_spec (ws := ws) h _ (by rw [hw]; exact List.mem_cons_self))
    cases hn.symm.trans hn9
    exact ⟨meth, c, h1, h2, h3, h4, h5, h6⟩
  · intro p e s m args below meth c s₁ B hml hP _
    have hh0 : s₁.heap = s.heap := by rw [B.state]; rfl
    obtain ⟨t, a1, o, b1, b2, b3⟩ := body p e s m args below meth c s₁ B hml hP s₁ hh0 (Stand.of_body B)
    exact ⟨t, o, a1, b1, b2, b3⟩
/-! ===== END ===== -/

/-! ===== BEGIN what the machine throws by itself, no traces kept ===== -/
section VXM
set_option maxHeartbeats 1000000 in
/-- the machine throws cls with the message text, no traces kept: from its note over the frame g to 'throwing' over the same frame (follows the proofs of Stand.vmThrowsMessage, Shelf/KitTracedVmS.lean, and Stand.throwsMessageColdBareV, StandMessageColdV.lean, without the step out of the frame) -/
theorem vx_vmAt {p : Program} {l : Launch} {e : Env} {R : Room} {s : State} {m₀ : MethodId} {args : Array Value} {below : List Frame} {meth : Method} {c : Code} {W : State} {locs : List Loc} {cells slots : Nat}
    (X : Stand p l e R s m₀ args below meth c W locs cells slots) (hexec : p.tables.exec = Jvm.exec) (htr : e.platform.stackTraces = false) {cls : String} {names : List String} {text : String}
    (hcls : Bundle.fit cls = true) (hnames : ∀ n ∈ names, Bundle.fit n = true) (hsoe : (cls == "java/lang/StackOverflowError") = false) (hoom : (cls == "java/lang/OutOfMemoryError") = false)
    (h : ∀ a ∈ Bundle.messageArmAtoms cls names, a.before args s = true)
    (hlocs : ∀ x ∈ locs, ∀ cell, s.heap[x.base]? = some cell → cell.vm.isStatics = false)
    (htext : (text == notModelled) = false) (hlimit : ¬ (stringBytes (stringToUtf16 text)).size > e.platform.arrayLengthLimit) (hheap : ¬ (stringBytes (stringToUtf16 text)).size * componentBytes .byte > e.platform.maxHeapBytes)
    {g : JFrame} (hg : g.method = m₀) (hsize : g.locals.size = c.maxLocals)
    (hRframes : names.length + 4 < R.frames) (hRlocals : 2 * g.monitorRoom + (g.stack.map fun v => v.category).sum + 10240 ≤ R.locals) (hshort : 13 * names.length + 55 ≤ 10240)
    (hRcells : cells + 3 ≤ R.cells) (hRslots : slots + ((stringBytes (stringToUtf16 text)).size + 4 + 6) ≤ R.slots) (hlocks : meth.locks = false) :
    ∃ (S : State) (q : Addr) (ce : Cell), (∀ target, Steps p.tables e below ((S.setTop g).pushFrame (.throwing q)) target → Steps p.tables e below ((W.setTop g).pushFrame (.throwNew cls (some text) none)) target) ∧
      Stand p l e R s m₀ args below meth c S locs (cells + 3) (slots + ((stringBytes (stringToUtf16 text)).size + 4 + 6)) ∧ S.heap[q]? = some ce ∧ s.vm.findClass cls = some ce.cls ∧ ce.vm = .none := by
  have howns : e.platform.frameOwnsMonitors = true := by rw [X.admits.platform]
  have hfin : e.platform.finalization = false := by rw [X.admits.platform]
  have hpl : e.platform.magicAccessors = ({} : Platform).magicAccessors := by rw [X.admits.platform]
  have a : ∀ x, x ∈ Bundle.messageArmAtoms cls names → x.holds args s none s [] = true := fun x hx => h x hx
  obtain ⟨T, Z0, L, -, Y⟩ := ThrowableC.of_atoms (args := args) howns hfin hpl (fun x hx => h x (by simp [Bundle.messageArmAtoms, hx]))
  obtain ⟨Z, M, LZ, LM, hnZ⟩ := Init0T.ofS_atoms (args := args) hpl L Y (fun x hx => h x (by simp [Bundle.messageArmAtoms, hx]))
  obtain ⟨P1, Ps, hlen, L1, hL, hP1m, hlink1, hlink⟩ := Bundle.chainS (args := args) hpl hnZ names cls hcls hnames (fun x hx => h x (by simp [Bundle.messageArmAtoms, hx]))
  obtain ⟨Zs, LZs, hn4, hfitv, hfitc⟩ := StringT.of_atoms (args := args) (fun x hx => h x (by simp [Bundle.messageArmAtoms, hx]))
  have hfound : s.vm.findClass cls = some P1.m.cls := findClass_of_methodNamed hP1m
  obtain ⟨c1, kX, hc1, hk, hord, -, -, hn6⟩ := Cond.instantiable_spec (a (.instantiable cls 6) (by simp [Bundle.messageArmAtoms]))
  cases Option.some.inj (hc1.symm.trans hfound)
  have hinit := Cond.initialized_spec hfound hk (a (.initialized cls) (by simp [Bundle.messageArmAtoms]))
  have hctor : kX.findMethod "<init>" "(Ljava/lang/String;)V" = some P1.m.idx := findMethod_of_methodNamed hP1m hk
  have hsel0 : selectMethod e.platform s.vm P1.m.cls T.fill0 = .method T.fill0 := by
    obtain ⟨c2, r2, m2, q1, q2, q3, q4, -⟩ := Cond.selects_spec (a (.selects cls Bundle.tFill0 Bundle.tFill0) (by simp [Bundle.messageArmAtoms]))
    cases Option.some.inj (q1.symm.trans hfound)
    cases Option.some.inj (q2.symm.trans (State.methodFound?_of_named Y.fill0 (by decide)))
    cases Option.some.inj (q3.symm.trans Y.fill0)
    rw [Launch.admits_selectMethod X.admits]; exact q4
  have hselF : selectMethod e.platform s.vm P1.m.cls T.fill = .method T.fill := by
    obtain ⟨c2, r2, m2, q1, q2, q3, q4, -⟩ := Cond.selects_spec (a (.selects cls Bundle.tFill Bundle.tFill) (by simp [Bundle.messageArmAtoms]))
    cases Option.some.inj (q1.symm.trans hfound)
    cases Option.some.inj (q2.symm.trans (State.methodFound?_of_named Y.fill (by decide)))
    cases Option.some.inj (q3.symm.trans Y.fill)
    rw [Launch.admits_selectMethod X.admits]; exact q4
  obtain ⟨cellS0, hcS0, hiss⟩ := Y.statics
  obtain ⟨u0, hu0⟩ := Cond.staticRefV Y.unassigned L.unassignedStatic L.statics hcS0 hiss (a (.isRef (.static Bundle.tN "UNASSIGNED_STACK" Bundle.steD)) (by simp [Bundle.messageArmAtoms]))
  obtain ⟨sen, hsen⟩ := Cond.staticRefV Y.sentinel L.sentinelStatic L.statics hcS0 hiss (a (.isRef (.static Bundle.tN "SUPPRESSED_SENTINEL" Bundle.listD)) (by simp [Bundle.messageArmAtoms]))
  obtain ⟨ci198, i198, fB, hk198, hg198, ha198, hsB, -, hnB, htB, hffB⟩ := Cond.ownField (t := .object "java/lang/Object") Y.found L.cls (by decide +kernel) (a (.fieldLink Bundle.tN 198 Bundle.tN "backtrace" "Ljava/lang/Object;") (by simp [Bundle.messageArmAtoms])) (a (.lays Bundle.tN Bundle.tN "backtrace" "Ljava/lang/Object;") (by simp [Bundle.messageArmAtoms])) e.platform hpl
  obtain ⟨cellS, hcS', heS, -, hkeep⟩ := X.same.2.2.2.2.2 T.aS cellS0 hcS0
  have hcellS : W.heap[T.aS]? = some cellS := hcS'
  have hout' : ∀ i, (⟨T.aS, i⟩ : Loc) ∉ locs := fun i hmem => by
    have := hlocs _ hmem cellS0 hcS0
    rw [hiss] at this; cases this
  have hknownS : cellS.vm ≠ .unknown := by
    rw [heS]; intro hu
    rw [show cellS0.vm = .unknown from hu] at hiss
    cases hiss
  have hvU : cellS.slots[T.fUnassigned.slot]? = some u0.v := by rw [hkeep _ (hout' _)]; exact hu0
  have hvSen : cellS.slots[T.fSentinel.slot]? = some sen.v := by rw [hkeep _ (hout' _)]; exact hsen
  obtain ⟨iM, hffM⟩ := Y.msg
  obtain ⟨tyC, dC, hdC, hdnC⟩ := Cond.laysAt hfound hk Y.cause (a (.lays cls Bundle.tN "cause" "Ljava/lang/Throwable;") (by simp [Bundle.messageArmAtoms]))
  obtain ⟨tyS, dS, hdS, hdnS⟩ := Cond.laysAt hfound hk Y.stack (a (.lays cls Bundle.tN "stackTrace" Bundle.steD) (by simp [Bundle.messageArmAtoms]))
  obtain ⟨tyP, dP, hdP, hdnP⟩ := Cond.laysAt hfound hk Y.supp (a (.lays cls Bundle.tN "suppressedExceptions" Bundle.listD) (by simp [Bundle.messageArmAtoms]))
  obtain ⟨tyM, dM, hdM, hdnM⟩ := Cond.laysAt hfound hk hffM (a (.lays cls Bundle.tN "detailMessage" "Ljava/lang/String;") (by simp [Bundle.messageArmAtoms]))
  obtain ⟨tyB, dB, hdB, hdnB⟩ := Cond.laysAt hfound hk hffB (a (.lays cls Bundle.tN "backtrace" "Ljava/lang/Object;") (by simp [Bundle.messageArmAtoms]))
  have bC := Cond.laysApart hdB hdC hdnB hdnC (by rw [hnB, Y.causeName]; decide)
  have bS := Cond.laysApart hdB hdS hdnB hdnS (by rw [hnB, Y.stackName]; decide)
  have bP := Cond.laysApart hdB hdP hdnB hdnP (by rw [hnB, Y.suppName]; decide)
  have hbk : ((preparedCellV T.toThrowableT (freshCell P1.m.cls kX) (W.heap.size + 2) u0 sen).withEntry W.cur).slots[fB.slot]? = some .null := by
    have := fresh_default (c := P1.m.cls) tyB
    rw [htB] at this
    simpa [preparedCellV, Cell.setSlot, Cell.withEntry, Array.getElem?_setIfInBounds, bC, bS, bP, bC.symm, bS.symm, bP.symm, defaultValue] using this
  have tkC := Takes.of_laid (v := .ref (W.heap.size + 2)) hk hord tyC (by rw [Y.causeType]; rfl)
  have tkS := Takes.of_laid (v := u0.v) hk hord tyS (by rw [Y.stackType]; exact fits_refV_array _ u0)
  have tkP := Takes.of_laid (v := sen.v) hk hord tyP (by rw [Y.suppType]; exact fits_refV_object _ sen)
  have tkM := Takes.of_laid (v := .ref (W.heap.size + 1)) hk hord tyM (by rw [Y.msgType]; rfl)
  have hskip : SkipFacts T e.platform s (fun u => u) u0 ((preparedCellV T.toThrowableT (freshCell P1.m.cls kX) (W.heap.size + 2) u0 sen).withEntry W.cur) := ⟨{ ci198 := ci198, i198 := i198, fBack := fB }, ⟨hk198, hg198, ha198, hsB⟩, hbk, fun _ _ => rfl⟩
  have h0 : At W g.method c below := by rw [hg]; exact X.here
  obtain ⟨hbeyond, hfreeW⟩ := X.vmMayThrow hsize (.throwNew cls (some text) none) (fun f hf => by cases hf) rfl hRlocals
  have hfr' : W.frames.length + Ps.length + 4 < (e.platform.stackLimits W.me).1 := by have := X.framesAbove hRframes; omega
  have hwd' : (stackUse (.java g :: W.frames.tail)).2 + 13 * Ps.length + 55 ≤ (e.platform.stackLimits W.me).2 := by have := X.stackAbove hsize (K := 13 * Ps.length + 55) (by omega); omega
  have hslots : W.slotsUsed + (stringBytes (stringToUtf16 text)).size + Zs.kS.instanceTypes.size + kX.instanceTypes.size ≤ e.platform.maxSlots := by
    have := X.slotsAbove hRslots
    rw [hn4, hn6]
    omega
  obtain ⟨vm', hW', st⟩ := Steps.vmThrowsMessageColdByV p (s₀ := s) (S := W) (g := g) h0 hexec T L Z LZ M LM X.warmed (t := W.cur) rfl Zs LZs P1 L1 Ps hL hlink1 hlink hsoe hoom hfound hk hinit hord hctor
    (Launch.admits_hotImplicitExceptions X.admits) hbeyond hfreeW htext hlimit hheap (X.cellsAbove hRcells) hslots (hfitv _) (hfitc _)
    (Nn := fun u => u) heapOnly_id (fun _ _ => rfl) (fun _ => rfl) (fun u x y => setCell_twice _ _ _ _) (fun _ => Nat.le_refl _) (cN := ((preparedCellV T.toThrowableT (freshCell P1.m.cls kX) (W.heap.size + 2) u0 sen).withEntry W.cur))
    hsel0 hcellS hknownS hvU tkS (fun _ hu => hu) (fun _ hu => hu) rfl rfl rfl (by simp [preparedCellV, Cell.setSlot, Cell.withEntry]) hskip (fun _ _ hA hW _ hroom _ hrest => L.nativeOff p htr hA hW hroom hrest) hselF hvSen tkC tkP tkM Y.objLocals rfl hfr' hwd'
  rw [plainBareV_eq T.toThrowableT (W.heap.size + 2) u0 sen (.ref (W.heap.size + 1)) W.cur rfl rfl] at st
  obtain ⟨-, -, w3, w4, -, -, -⟩ := withThrown_facts e.platform W Zs text P1.m.cls kX
  have X3 := ((X.pushed (bytesOf Zs.cB (stringToUtf16 text))).pushed (stringAt Zs.cS Zs.kS Zs.fv Zs.fc (stringToUtf16 text) W.heap.size)).pushed (freshCell P1.m.cls kX)
  rw [← withString_eq] at X3
  have X4 := X3.noted hW'
  have ha : (W.heap.size + 2) < ((withThrown W Zs text P1.m.cls kX).setVm vm').heap.size := by show _ < (withThrown W Zs text P1.m.cls kX).heap.size; rw [w3]; omega
  have hcell : ((withThrown W Zs text P1.m.cls kX).setVm vm').heap[(W.heap.size + 2)]? = some (freshCell P1.m.cls kX) := w4
  have X5 := ((((X4.stored hcell T.fCause.slot (.ref (W.heap.size + 2))).storedAgain ha T.fStack.slot u0.v).storedAgain ha T.fSupp.slot sen.v).storedAgain ha T.fStack.slot u0.v).storedAgain ha T.fMsg.slot (.ref (W.heap.size + 1))
  obtain ⟨g₁, hfrM⟩ := X5.frames_eq
  have hU : ((((withThrown W Zs text P1.m.cls kX).setVm vm').setCell (W.heap.size + 2) (plainBareV T.toThrowableT (freshCell P1.m.cls kX) (W.heap.size + 2) u0 sen (.ref (W.heap.size + 1)))).setTop g).pushFrame (.throwing (W.heap.size + 2)) = (((withThrown W Zs text P1.m.cls kX).setVm vm').setCell (W.heap.size + 2) (plainBareV T.toThrowableT (freshCell P1.m.cls kX) (W.heap.size + 2) u0 sen (.ref (W.heap.size + 1)))).setFrames (.throwing (W.heap.size + 2) :: .java g :: below) := by
    rw [State.pushFrame, State.frames_setTop _ hfrM, State.setTop_of_frames _ hfrM, State.setFrames_setFrames]
  have b1 : (bytesOf Zs.cB (stringToUtf16 text)).slots.size = (stringBytes (stringToUtf16 text)).size := by
    rw [(Cell.writeAll_facts _ _).2.2]; simp [bytes0]
  have b2 : (stringAt Zs.cS Zs.kS Zs.fv Zs.fc (stringToUtf16 text) W.heap.size).slots.size = 4 := by simp [string0, Cell.setSlot, hn4]
  have b3 : (freshCell P1.m.cls kX).slots.size = 6 := by simp [hn6]
  rw [b1, b2, b3] at X5
  have e9 : slots + (stringBytes (stringToUtf16 text)).size + 4 + 6 = slots + ((stringBytes (stringToUtf16 text)).size + 4 + 6) := by omega
  rw [e9] at X5
  simp only [List.append_assoc, List.cons_append, List.nil_append] at X5
  refine ⟨((withThrown W Zs text P1.m.cls kX).setVm vm').setCell (W.heap.size + 2) (plainBareV T.toThrowableT (freshCell P1.m.cls kX) (W.heap.size + 2) u0 sen (.ref (W.heap.size + 1))), W.heap.size + 2, _, fun target ht => st _ (by rw [X.tail, ← hU]; exact ht),
    X5.forget (fun y hy => ?_), heapAt_setCell_self _ ha, hfound, rfl⟩
  simp only [List.mem_cons, List.not_mem_nil, or_false] at hy
  have hge : s.heap.size ≤ W.heap.size := X.same.2.1
  rcases hy with rfl | rfl | rfl | rfl | rfl <;> exact Nat.le_trans hge (Nat.le_add_right _ 2)
set_option maxHeartbeats 1000000 in
/-- the machine throws NullPointerException, no traces kept: from its note over the frame g to 'throwing' over the same frame (follows the proof of Stand.vmThrowsNpe, Shelf42/KT2.lean; throwsNpeColdBareVAt, Shelf42/NT91.lean, called) -/
theorem vx_npeAt {p : Program} {l : Launch} {e : Env} {R : Room} {s : State} {m₀ : MethodId} {args : Array Value} {below : List Frame} {meth : Method} {c : Code} {W : State} {locs : List Loc} {cells slots : Nat}
    (X : Stand p l e R s m₀ args below meth c W locs cells slots) (hexec : p.tables.exec = Jvm.exec) (htr : e.platform.stackTraces = false) {n : Nat}
    (h : ∀ a ∈ Bundle.npeArmAtoms n, a.before args s = true)
    (hlocs : ∀ x ∈ locs, ∀ cell, s.heap[x.base]? = some cell → cell.vm.isStatics = false)
    {g : JFrame} (hg : g.method = m₀) (hsize : g.locals.size = c.maxLocals)
    (hRframes : 7 < R.frames) (hRlocals : 2 * g.monitorRoom + (g.stack.map fun v => v.category).sum + 10240 ≤ R.locals)
    (hRcells : cells + 1 ≤ R.cells) (hRslots : slots + n ≤ R.slots) (hlocks : meth.locks = false) :
    ∃ (S : State) (q : Addr) (ce : Cell), (∀ target, Steps p.tables e below ((S.setTop g).pushFrame (.throwing q)) target → Steps p.tables e below ((W.setTop g).pushFrame (.throwNew "java/lang/NullPointerException" none none)) target) ∧
      Stand p l e R s m₀ args below meth c S locs (cells + 1) (slots + n) ∧ S.heap[q]? = some ce ∧ s.vm.findClass "java/lang/NullPointerException" = some ce.cls ∧ ce.vm = .none := by
  have howns : e.platform.frameOwnsMonitors = true := by rw [X.admits.platform]
  have hfin : e.platform.finalization = false := by rw [X.admits.platform]
  have hpl : e.platform.magicAccessors = ({} : Platform).magicAccessors := by rw [X.admits.platform]
  have hpl2 : e.platform.arrayCloneIsPublic = true := by rw [X.admits.platform]
  have a' : ∀ x, x ∈ Bundle.npeArmAtoms n → x.holds args s none s [] = true := fun x hx => h x hx
  obtain ⟨T, Z, L, LZ, Y⟩ := ThrowableC.of_atoms (args := args) howns hfin hpl (fun x hx => h x (by simp [Bundle.npeArmAtoms, hx]))
  obtain ⟨N, LN, hcN, hnNF, hordN, hffS⟩ := NpeC.of_atoms (args := args) hpl hpl2 L Y (fun x hx => h x (by simp [Bundle.npeArmAtoms, hx]))
  obtain ⟨P1, L1, hP1m, hP1s⟩ := PassC.of_atoms (args := args) (s := s) hpl (X := Bundle.nN) (Y := Bundle.rN) (by decide) (by decide) LibCode.NullPointerException.Init0.at_0 LibCode.NullPointerException.Init0.at_1 LibCode.NullPointerException.Init0.at_4 (fun x hx => h x (by simp [Bundle.npeArmAtoms, hx]))
  obtain ⟨PR, LR, hPRm, hPRs⟩ := PassC.of_atoms (args := args) (s := s) hpl (X := Bundle.rN) (Y := Bundle.eN) (by decide) (by decide) LibCode.RuntimeException.Init0.at_0 LibCode.RuntimeException.Init0.at_1 LibCode.RuntimeException.Init0.at_4 (fun x hx => h x (by simp [Bundle.npeArmAtoms, hx]))
  obtain ⟨PE, LEx, hPEm, hPEs⟩ := PassC.of_atoms (args := args) (s := s) hpl (X := Bundle.eN) (Y := Bundle.tN) (by decide) (by decide) LibCode.Exception.Init0.at_0 LibCode.Exception.Init0.at_1 LibCode.Exception.Init0.at_4 (fun x hx => h x (by simp [Bundle.npeArmAtoms, hx]))
  have hfound : s.vm.findClass Bundle.nN = some P1.m.cls := findClass_of_methodNamed hP1m
  have ecls : N.cN = P1.m.cls := Option.some.inj (hcN.symm.trans hfound)
  have hk : s.vm.classes[P1.m.cls]? = some N.kN := by rw [← ecls]; exact LN.cls
  have hinit := Cond.initialized_spec hfound hk (a' (.initialized Bundle.nN) (by simp [Bundle.npeArmAtoms]))
  have hctor : N.kN.findMethod "<init>" "()V" = some P1.m.idx := findMethod_of_methodNamed hP1m hk
  obtain ⟨c1, k1, hc1, hk1, -, -, -, hn⟩ := Cond.instantiable_spec (a' (.instantiable Bundle.nN n) (by simp [Bundle.npeArmAtoms]))
  cases Option.some.inj (hc1.symm.trans hfound)
  cases Option.some.inj (hk1.symm.trans hk)
  have hfsz : (freshCell P1.m.cls N.kN).slots.size = n := by simp [hn]
  have hlink1 : P1.sup = PR.m := Option.some.inj (hP1s.symm.trans hPRm)
  have hlinkR : PR.sup = PE.m := Option.some.inj (hPRs.symm.trans hPEm)
  have hlinkE : PE.sup = Z.m T.toThrowableT := Option.some.inj (hPEs.symm.trans Y.init0)
  have hLs : ∀ P, P ∈ [PR, PE] → P.Links0 e.platform s := fun P hP => by
    simp only [List.mem_cons, List.not_mem_nil, or_false] at hP
    rcases hP with rfl | rfl
    · exact LR
    · exact LEx
  have hsel0 : selectMethod e.platform s.vm P1.m.cls T.fill0 = .method T.fill0 := by
    obtain ⟨c2, r2, m2, q1, q2, q3, q4, -⟩ := Cond.selects_spec (a' (.selects Bundle.nN Bundle.tFill0 Bundle.tFill0) (by simp [Bundle.npeArmAtoms]))
    cases Option.some.inj (q1.symm.trans hfound)
    cases Option.some.inj (q2.symm.trans (State.methodFound?_of_named Y.fill0 (by decide)))
    cases Option.some.inj (q3.symm.trans Y.fill0)
    rw [Launch.admits_selectMethod X.admits]; exact q4
  have hselF : selectMethod e.platform s.vm P1.m.cls T.fill = .method N.fill := by
    obtain ⟨c2, r2, m2, q1, q2, q3, q4, -⟩ := Cond.selects_spec (a' (.selects Bundle.nN Bundle.tFill Bundle.nFill) (by simp [Bundle.npeArmAtoms]))
    cases Option.some.inj (q1.symm.trans hfound)
    cases Option.some.inj (q2.symm.trans (State.methodFound?_of_named Y.fill (by decide)))
    cases Option.some.inj (q3.symm.trans hnNF)
    rw [Launch.admits_selectMethod X.admits]; exact q4
  obtain ⟨cellS0, hcS0, hiss⟩ := Y.statics
  obtain ⟨u0, hu0⟩ := Cond.staticRefV Y.unassigned L.unassignedStatic L.statics hcS0 hiss (a' (.isRef (.static Bundle.tN "UNASSIGNED_STACK" Bundle.steD)) (by simp [Bundle.npeArmAtoms]))
  obtain ⟨sen, hsen⟩ := Cond.staticRefV Y.sentinel L.sentinelStatic L.statics hcS0 hiss (a' (.isRef (.static Bundle.tN "SUPPRESSED_SENTINEL" Bundle.listD)) (by simp [Bundle.npeArmAtoms]))
  obtain ⟨ci198, i198, fB, hk198, hg198, ha198, hsB, -, hnB, htB, hffB⟩ := Cond.ownField (t := .object "java/lang/Object") Y.found L.cls (by decide +kernel) (a' (.fieldLink Bundle.tN 198 Bundle.tN "backtrace" Bundle.objD) (by simp [Bundle.npeArmAtoms])) (a' (.lays Bundle.tN Bundle.tN "backtrace" Bundle.objD) (by simp [Bundle.npeArmAtoms])) e.platform hpl
  obtain ⟨cellS, hcS', heS, -, hkeep⟩ := X.same.2.2.2.2.2 T.aS cellS0 hcS0
  have hcellS : W.heap[T.aS]? = some cellS := hcS'
  have hout' : ∀ i, (⟨T.aS, i⟩ : Loc) ∉ locs := fun i hmem => by
    have := hlocs _ hmem cellS0 hcS0
    rw [hiss] at this; cases this
  have hknownS : cellS.vm ≠ .unknown := by
    rw [heS]; intro hu
    rw [show cellS0.vm = .unknown from hu] at hiss
    cases hiss
  have hvU : cellS.slots[T.fUnassigned.slot]? = some u0.v := by rw [hkeep _ (hout' _)]; exact hu0
  have hvSen : cellS.slots[T.fSentinel.slot]? = some sen.v := by rw [hkeep _ (hout' _)]; exact hsen
  obtain ⟨tyC, dC, hdC, hdnC⟩ := Cond.laysAt hfound hk Y.cause (a' (.lays Bundle.nN Bundle.tN "cause" "Ljava/lang/Throwable;") (by simp [Bundle.npeArmAtoms]))
  obtain ⟨tyS, dS, hdS, hdnS⟩ := Cond.laysAt hfound hk Y.stack (a' (.lays Bundle.nN Bundle.tN "stackTrace" Bundle.steD) (by simp [Bundle.npeArmAtoms]))
  obtain ⟨tyP, dP, hdP, hdnP⟩ := Cond.laysAt hfound hk Y.supp (a' (.lays Bundle.nN Bundle.tN "suppressedExceptions" Bundle.listD) (by simp [Bundle.npeArmAtoms]))
  obtain ⟨tyX, dX, hdX, hdnX⟩ := Cond.laysAt hfound hk hffS (a' (.lays Bundle.nN Bundle.nN "extendedMessageState" "I") (by simp [Bundle.npeArmAtoms, Bundle.npeAtoms]))
  obtain ⟨hnX, htX⟩ := State.fieldFound?_type hffS (t := .int) (by decide +kernel)
  have xC := Cond.laysApart hdC hdX hdnC hdnX (by rw [hnX, Y.causeName]; decide)
  have xS := Cond.laysApart hdS hdX hdnS hdnX (by rw [hnX, Y.stackName]; decide)
  have xP := Cond.laysApart hdP hdX hdnP hdnX (by rw [hnX, Y.suppName]; decide)
  have hv0 : (freshCell P1.m.cls N.kN).slots[N.fState.slot]? = some (.int 0) := by
    have := fresh_default (c := P1.m.cls) tyX
    rw [htX] at this; exact this
  obtain ⟨tyB, dB, hdB, hdnB⟩ := Cond.laysAt hfound hk hffB (a' (.lays Bundle.nN Bundle.tN "backtrace" Bundle.objD) (by simp [Bundle.npeArmAtoms]))
  have bC := Cond.laysApart hdB hdC hdnB hdnC (by rw [hnB, Y.causeName]; decide)
  have bS := Cond.laysApart hdB hdS hdnB hdnS (by rw [hnB, Y.stackName]; decide)
  have bP := Cond.laysApart hdB hdP hdnB hdnP (by rw [hnB, Y.suppName]; decide)
  have bX := Cond.laysApart hdB hdX hdnB hdnX (by rw [hnB, hnX]; decide)
  have hbk : ((npeCell N.toNpeT (preparedCellV T.toThrowableT (freshCell P1.m.cls N.kN) W.heap.size u0 sen) W.cur).withEntry W.cur).slots[fB.slot]? = some .null := by
    have := fresh_default (c := P1.m.cls) tyB
    rw [htB] at this
    simpa [npeCell, preparedCellV, Cell.setSlot, Cell.withEntry, Array.getElem?_setIfInBounds, bC, bS, bP, bX, bC.symm, bS.symm, bP.symm, bX.symm, defaultValue] using this
  have tkC := Takes.of_laid (v := .ref W.heap.size) hk hordN tyC (by rw [Y.causeType]; rfl)
  have tkS := Takes.of_laid (v := u0.v) hk hordN tyS (by rw [Y.stackType]; exact fits_refV_array _ u0)
  have tkP := Takes.of_laid (v := sen.v) hk hordN tyP (by rw [Y.suppType]; exact fits_refV_object _ sen)
  have tkX := Takes.of_laid (v := .int 1) hk hordN tyX (by rw [htX]; rfl)
  have hskip : SkipFacts T e.platform s (fun u => u) u0 ((npeCell N.toNpeT (preparedCellV T.toThrowableT (freshCell P1.m.cls N.kN) W.heap.size u0 sen) W.cur).withEntry W.cur) := ⟨{ ci198 := ci198, i198 := i198, fBack := fB }, ⟨hk198, hg198, ha198, hsB⟩, hbk, fun _ _ => rfl⟩
  obtain ⟨vm', X3, st, -⟩ := X.throwsNpeColdBareVAt hexec hg hsize T L Z LZ N LN P1 L1 [PR, PE] hLs hlink1 ⟨hlinkR, hlinkE, trivial⟩ hfound hk hinit hordN hctor hsel0 hselF hcellS hknownS hvU hvSen
    hv0 xC xS xP tkC tkS tkP tkX Y.objLocals hskip (fun _ _ hA hW _ hroom _ hrest => L.nativeOff p htr hA hW hroom hrest) (by simpa using hRframes) hRlocals (by simp) hRcells (by rw [hn]; exact hRslots)
  have hlt : W.heap.size < ((W.pushCell (freshCell P1.m.cls N.kN)).setVm vm').heap.size := by
    show W.heap.size < (W.pushCell (freshCell P1.m.cls N.kN)).heap.size
    rw [State.heap_size_pushCell]; omega
  rw [hfsz] at X3
  obtain ⟨g₁, hfrM⟩ := X3.frames_eq
  have hU : ((((W.pushCell (freshCell P1.m.cls N.kN)).setVm vm').setCell W.heap.size (npeBareV T.toThrowableT N.toNpeT (freshCell P1.m.cls N.kN) W.heap.size u0 sen)).setTop g).pushFrame (.throwing W.heap.size) = (((W.pushCell (freshCell P1.m.cls N.kN)).setVm vm').setCell W.heap.size (npeBareV T.toThrowableT N.toNpeT (freshCell P1.m.cls N.kN) W.heap.size u0 sen)).setFrames (.throwing W.heap.size :: .java g :: below) := by
    rw [State.pushFrame, State.frames_setTop _ hfrM, State.setTop_of_frames _ hfrM, State.setFrames_setFrames]
  refine ⟨_, W.heap.size, _, fun target ht => st.trans (by rw [← hU]; exact ht), X3.forget (fun y hy => ?_), heapAt_setCell_self _ hlt, hfound, rfl⟩
  simp only [List.mem_cons, List.not_mem_nil, or_false] at hy
  have hge : s.heap.size ≤ W.heap.size := X.same.2.1
  rcases hy with rfl | rfl | rfl | rfl | rfl <;> exact hge
/-- the words of a machine's NullPointerException, but the four that speak of the heap -/
def vx_atN (n : Nat) : List Cond := (Bundle.npeArmAtoms n).filter vx_no
/-- the words of a machine's throw with a message, but the four that speak of the heap -/
def vx_atM (X : String) (names : List String) : List Cond := (Bundle.messageArmAtoms X names).filter vx_no
section
variable {p : Program} {l : Launch} {e : Env} {R : Room} {s : State} {m : MethodId} {args : Array Value} {below : List Frame} {meth : Method} {c : Code} {H : Heap} {locs : List Loc} {cells slots : Nat}
/-- a frame seen from a rebased start, seen from the first start again -/
theorem vx_back9 {T S : State} {R' : Room} {k n : Nat} (X : Stand p l e R s m args below meth c T locs cells slots) (Y : Stand p l e R' ((T.setVm s.vm).setFrames (.invoking m args :: below)) m args below meth c T [] 0 0) (Z : Stand p l e R' ((T.setVm s.vm).setFrames (.invoking m args :: below)) m args below meth c S [] k n) :
    Stand p l e R s m args below meth c S locs (cells + k) (slots + n) := by
  have hW0 : s.WarmedH ((T.setVm s.vm).setFrames (.invoking m args :: below)).vm := State.WarmedH.refl s
  refine { admits := X.admits, cas := X.cas, clock := X.clock, frames := X.frames, room := X.room, hears := X.hears, method := X.method, code := X.code, here := Z.here, tail := Z.tail, warmed := State.WarmedH.trans hW0 Z.warmed, limits := Z.limits.trans (Y.limits.symm.trans X.limits), bytes := Z.bytes.trans (Y.bytes.symm.trans X.bytes), same := ?_ }
  obtain ⟨e1, e2⟩ := Z.same
  rw [State.setFrames_setFrames] at e1
  have h2 : (T.setVm s.vm).sameButNew (S.setVm s.vm) [] k n := ⟨e1, e2⟩
  have h3 := X.same.trans h2
  rw [List.append_nil] at h3
  exact h3
/-- from the machine's note that E is thrown here with this text -/
def vx_Note (p : Program) (l : Launch) (e : Env) (R : Room) (s : State) (m : MethodId) (args : Array Value) (below : List Frame) (meth : Method) (c : Code) (H : Heap) (locs : List Loc) (cells slots : Nat) (Q : State → Prop) (g : JFrame) (E text : String) : Prop :=
  ∀ T : State, T.heap = H → Stand p l e R s m args below meth c T locs cells slots → ∃ t, Steps p.tables e below ((T.setTop g).pushFrame (.throwNew E (some text) none)) t ∧ Q t
theorem vx_vm {pc : Nat} {ls : Array Slot} {rest : List Value} {Q : State → Prop} (hexec : p.tables.exec = Jvm.exec) (hl : l.stackTraces = false) {cls text : String} {names : List String} {nb : Nat} {A : Nat → Prop}
    (hcls : Bundle.fit cls = true) (hnames : ∀ n ∈ names, Bundle.fit n = true) (hsoe : (cls == "java/lang/StackOverflowError") = false) (hoom : (cls == "java/lang/OutOfMemoryError") = false)
    (hat : ∀ w ∈ vx_atM cls names, w.before args s = true) (hgood : ∀ w ∈ vx_atM cls names, vx_ot w = true)
    (hU : vx_Zq Bundle.tN "UNASSIGNED_STACK" Bundle.steD A s s.heap) (hN : vx_Zq Bundle.tN "SUPPRESSED_SENTINEL" Bundle.listD A s s.heap) (hS : va_S A s.heap H locs) (hsize : ls.size = c.maxLocals)
    (htext : (text == notModelled) = false) (hnb : (stringBytes (stringToUtf16 text)).size ≤ nb) (hnb1 : nb ≤ 1000)
    (hRframes : names.length + 4 < R.frames) (hRlocals : (rest.map fun v => v.category).sum + 10240 ≤ R.locals) (hshort : 13 * names.length + 55 ≤ 10240) (hRcells : cells + 3 ≤ R.cells) (hRslots : slots + (nb + 10) ≤ R.slots) (hlocks : meth.locks = false)
    (k : ∀ (H1 : Heap) (q9 : Addr) (ce : Cell), H.size ≤ H1.size → (∀ q : Nat, q < H.size → H1[q]? = H[q]?) → va_S A s.heap H1 locs → H1[q9]? = some ce → ce.vm = .none → s.vm.findClass cls = some ce.cls → vx_W p l e R s m args below meth c H1 locs (cells + 3) (slots + (nb + 10)) Q (F0 m pc ls rest) q9) :
    vx_Note p l e R s m args below meth c H locs cells slots Q (F0 m pc ls rest) cls text := by
  intro T hT X
  have htr : e.platform.stackTraces = false := (show e.platform.stackTraces = l.stackTraces by rw [X.admits.platform]).trans hl
  have Y := vx_rebase X (R' := { frames := R.frames, locals := R.locals, cells := 3, slots := nb + 10 }) (Nat.le_refl _) (Nat.le_refl _) hRcells hRslots
  have hhp : ((T.setVm s.vm).setFrames (.invoking m args :: below)).heap = H := hT
  have hW0 : s.WarmedH ((T.setVm s.vm).setFrames (.invoking m args :: below)).vm := State.WarmedH.refl s
  have hat' : ∀ w ∈ vx_atM cls names, w.before args ((T.setVm s.vm).setFrames (.invoking m args :: below)) = true := fun w hw => vx_ot_at hW0 rfl (hgood w hw) (hat w hw)
  have hU' : vx_Zq Bundle.tN "UNASSIGNED_STACK" Bundle.steD A ((T.setVm s.vm).setFrames (.invoking m args :: below)) ((T.setVm s.vm).setFrames (.invoking m args :: below)).heap := by rw [hhp]; exact vx_Zq.moved hW0.alike (hU.kept hS.2.1)
  have hN' : vx_Zq Bundle.tN "SUPPRESSED_SENTINEL" Bundle.listD A ((T.setVm s.vm).setFrames (.invoking m args :: below)) ((T.setVm s.vm).setFrames (.invoking m args :: below)).heap := by rw [hhp]; exact vx_Zq.moved hW0.alike (hN.kept hS.2.1)
  obtain ⟨S, q, ce, st, Z, hce, hcl', hv⟩ := vx_vmAt Y hexec htr (cls := cls) (names := names) (text := text) hcls hnames hsoe hoom (vx_own hat' (vx_isRefq hU'.1) (vx_isRefq hN'.1) hU'.2.word hN'.2.word) (fun x hx => nomatch hx) htext
    (by rw [Launch.admits_arrayLengthLimit X.admits]; omega) (by rw [Launch.admits_maxHeapBytes X.admits]; simp only [componentBytes]; omega)
    (g := F0 m pc ls rest) rfl hsize hRframes (by show 2 * 0 + (rest.map fun v => v.category).sum + 10240 ≤ R.locals; omega) hshort (by show 0 + 3 ≤ 3; omega) (by show 0 + (_ + 4 + 6) ≤ nb + 10; omega) hlocks
  obtain ⟨f1, f2⟩ := vx_frame Z.same
  have f1' : H.size ≤ S.heap.size := by rw [← hT]; exact f1
  have f2' : ∀ q : Nat, q < H.size → S.heap[q]? = H[q]? := fun q hq => by
    rw [← hT]
    exact f2 q (by rw [← hT] at hq; exact hq) (fun z hz => nomatch hz)
  have X5 := vx_back9 X Y Z
  have X6 : Stand p l e R s m args below meth c S locs (cells + 3) (slots + (nb + 10)) := { X5 with same := X5.same.mono (by omega) (by omega) }
  obtain ⟨t, a1, b1⟩ := k S.heap q ce f1' f2' ⟨Nat.le_trans hS.1 f1', fun q h1 h2 => (f2' q (Nat.lt_of_lt_of_le h1 hS.1)).trans (hS.2.1 q h1 h2), hS.2.2⟩ hce hv hcl' S rfl X6
  exact ⟨t, st t a1, b1⟩
/-- from the machine's note that NullPointerException is thrown here -/
def vx_NoteN (p : Program) (l : Launch) (e : Env) (R : Room) (s : State) (m : MethodId) (args : Array Value) (below : List Frame) (meth : Method) (c : Code) (H : Heap) (locs : List Loc) (cells slots : Nat) (Q : State → Prop) (g : JFrame) : Prop :=
  ∀ T : State, T.heap = H → Stand p l e R s m args below meth c T locs cells slots → ∃ t, Steps p.tables e below ((T.setTop g).pushFrame (.throwNew "java/lang/NullPointerException" none none)) t ∧ Q t
theorem vx_npe {pc : Nat} {ls : Array Slot} {rest : List Value} {Q : State → Prop} (hexec : p.tables.exec = Jvm.exec) (hl : l.stackTraces = false) {nb : Nat} {A : Nat → Prop}
    (hat : ∀ w ∈ vx_atN nb, w.before args s = true) (hgood : ∀ w ∈ vx_atN nb, vx_ot w = true)
    (hU : vx_Zq Bundle.tN "UNASSIGNED_STACK" Bundle.steD A s s.heap) (hN : vx_Zq Bundle.tN "SUPPRESSED_SENTINEL" Bundle.listD A s s.heap) (hS : va_S A s.heap H locs) (hsize : ls.size = c.maxLocals)
    (hRframes : 7 < R.frames) (hRlocals : (rest.map fun v => v.category).sum + 10240 ≤ R.locals) (hRcells : cells + 1 ≤ R.cells) (hRslots : slots + nb ≤ R.slots) (hlocks : meth.locks = false)
    (k : ∀ (H1 : Heap) (q9 : Addr) (ce : Cell), H.size ≤ H1.size → (∀ q : Nat, q < H.size → H1[q]? = H[q]?) → va_S A s.heap H1 locs → H1[q9]? = some ce → ce.vm = .none → s.vm.findClass "java/lang/NullPointerException" = some ce.cls → vx_W p l e R s m args below meth c H1 locs (cells + 1) (slots + nb) Q (F0 m pc ls rest) q9) :
    vx_NoteN p l e R s m args below meth c H locs cells slots Q (F0 m pc ls rest) := by
  intro T hT X
  have htr : e.platform.stackTraces = false := (show e.platform.stackTraces = l.stackTraces by rw [X.admits.platform]).trans hl
  have Y := vx_rebase X (R' := { frames := R.frames, locals := R.locals, cells := 1, slots := nb }) (Nat.le_refl _) (Nat.le_refl _) hRcells hRslots
  have hhp : ((T.setVm s.vm).setFrames (.invoking m args :: below)).heap = H := hT
  have hW0 : s.WarmedH ((T.setVm s.vm).setFrames (.invoking m args :: below)).vm := State.WarmedH.refl s
  have hat' : ∀ w ∈ vx_atN nb, w.before args ((T.setVm s.vm).setFrames (.invoking m args :: below)) = true := fun w hw => vx_ot_at hW0 rfl (hgood w hw) (hat w hw)
  have hU' : vx_Zq Bundle.tN "UNASSIGNED_STACK" Bundle.steD A ((T.setVm s.vm).setFrames (.invoking m args :: below)) ((T.setVm s.vm).setFrames (.invoking m args :: below)).heap := by rw [hhp]; exact vx_Zq.moved hW0.alike (hU.kept hS.2.1)
  have hN' : vx_Zq Bundle.tN "SUPPRESSED_SENTINEL" Bundle.listD A ((T.setVm s.vm).setFrames (.invoking m args :: below)) ((T.setVm s.vm).setFrames (.invoking m args :: below)).heap := by rw [hhp]; exact vx_Zq.moved hW0.alike (hN.kept hS.2.1)
  obtain ⟨S, q, ce, st, Z, hce, hcl', hv⟩ := vx_npeAt Y hexec htr (n := nb) (vx_own hat' (vx_isRefq hU'.1) (vx_isRefq hN'.1) hU'.2.word hN'.2.word) (fun x hx => nomatch hx)
    (g := F0 m pc ls rest) rfl hsize hRframes (by show 2 * 0 + (rest.map fun v => v.category).sum + 10240 ≤ R.locals; omega) (by show 0 + 1 ≤ 1; omega) (by show 0 + nb ≤ nb; omega) hlocks
  obtain ⟨f1, f2⟩ := vx_frame Z.same
  have f1' : H.size ≤ S.heap.size := by rw [← hT]; exact f1
  have f2' : ∀ q : Nat, q < H.size → S.heap[q]? = H[q]? := fun q hq => by
    rw [← hT]
    exact f2 q (by rw [← hT] at hq; exact hq) (fun z hz => nomatch hz)
  have X5 := vx_back9 X Y Z
  have X6 : Stand p l e R s m args below meth c S locs (cells + 1) (slots + nb) := { X5 with same := X5.same.mono (by omega) (by omega) }
  obtain ⟨t, a1, b1⟩ := k S.heap q ce f1' f2' ⟨Nat.le_trans hS.1 f1', fun q h1 h2 => (f2' q (Nat.lt_of_lt_of_le h1 hS.1)).trans (hS.2.1 q h1 h2), hS.2.2⟩ hce hv hcl' S rfl X6
  exact ⟨t, st t a1, b1⟩
variable {Q : State → Prop} {cc : ByteArray} {pc : Nat} {ls : Array Slot} {rest : List Value}
theorem vx_idivZ (hexec : p.tables.exec = Jvm.exec) (hb : c.code = cc) {a b : Int32} (h0 : b = 0) (d : decode cc pc = .ok (.idiv, 1)) (k : vx_Note p l e R s m args below meth c H locs cells slots Q (F0 m pc ls rest) "java/lang/ArithmeticException" "/ by zero") :
    W p l e R s m args below meth c H locs cells slots Q (F0 m pc ls (.int b :: .int a :: rest)) := by
  intro T hT X
  obtain ⟨t, st, q⟩ := k T hT X
  exact ⟨t, X.idivZero hexec (g := F0 m pc ls (.int b :: .int a :: rest)) rfl (a := a) (rest := rest) (by rw [h0]) (by rw [hb]; exact d) t st, q⟩
theorem vx_iremZ (hexec : p.tables.exec = Jvm.exec) (hb : c.code = cc) {a b : Int32} (h0 : b = 0) (d : decode cc pc = .ok (.irem, 1)) (k : vx_Note p l e R s m args below meth c H locs cells slots Q (F0 m pc ls rest) "java/lang/ArithmeticException" "/ by zero") :
    W p l e R s m args below meth c H locs cells slots Q (F0 m pc ls (.int b :: .int a :: rest)) := by
  intro T hT X
  obtain ⟨t, st, q⟩ := k T hT X
  exact ⟨t, X.iremZero hexec (g := F0 m pc ls (.int b :: .int a :: rest)) rfl (a := a) (rest := rest) (by rw [h0]) (by rw [hb]; exact d) t st, q⟩
theorem vx_ldivZ (hexec : p.tables.exec = Jvm.exec) (hb : c.code = cc) {a b : Int64} (h0 : b = 0) (d : decode cc pc = .ok (.ldiv, 1)) (k : vx_Note p l e R s m args below meth c H locs cells slots Q (F0 m pc ls rest) "java/lang/ArithmeticException" "/ by zero") :
    W p l e R s m args below meth c H locs cells slots Q (F0 m pc ls (.long b :: .long a :: rest)) := by
  intro T hT X
  obtain ⟨t, st, q⟩ := k T hT X
  exact ⟨t, X.ldivZero hexec (g := F0 m pc ls (.long b :: .long a :: rest)) rfl (a := a) (rest := rest) (by rw [h0]) (by rw [hb]; exact d) t st, q⟩
theorem vx_lremZ (hexec : p.tables.exec = Jvm.exec) (hb : c.code = cc) {a b : Int64} (h0 : b = 0) (d : decode cc pc = .ok (.lrem, 1)) (k : vx_Note p l e R s m args below meth c H locs cells slots Q (F0 m pc ls rest) "java/lang/ArithmeticException" "/ by zero") :
    W p l e R s m args below meth c H locs cells slots Q (F0 m pc ls (.long b :: .long a :: rest)) := by
  intro T hT X
  obtain ⟨t, st, q⟩ := k T hT X
  exact ⟨t, X.lremZero hexec (g := F0 m pc ls (.long b :: .long a :: rest)) rfl (a := a) (rest := rest) (by rw [h0]) (by rw [hb]; exact d) t st, q⟩
theorem vx_ialdZ {D : va_G} {cl : List vw_C} {ws : va_W} {tys : List (ClassId × FieldType)} {a : Nat} (hexec : p.tables.exec = Jvm.exec) (hb : c.code = cc) (hK : va_K D cl tys s) (hP : va_P D cl ws H) (q0 t0 : Nat) {cA : ClassId} {n : Nat} {f : Nat → Int32} (ha : ws[q0]? = some (a, .inl (cA, n, .inl f))) (ht : tys[t0]? = some (cA, .int)) {i : Int32} (hout : ¬ vp_in i n) (hdg : decode cc pc = .ok (.iaload, 1))
    (k : ∀ tx : String, tx = (toString "Index " ++ toString i ++ toString " out of bounds for length " ++ toString n : String) → vx_Note p l e R s m args below meth c H locs cells slots Q (F0 m pc ls rest) "java/lang/ArrayIndexOutOfBoundsException" tx) : W p l e R s m args below meth c H locs cells slots Q (F0 m pc ls (.int i :: .ref a :: rest)) := by
  intro T hT X
  obtain ⟨t, st, q⟩ := k _ rfl T hT X
  refine ⟨t, ?_, q⟩
  have h1 := X.ialoadOut hexec (by rw [hT]; exact hP q0 _ ha) ((hK.2 t0 _ ht).1 n (fun j => .int (f j))) (j := i) (by show (i < 0 ∨ (arrV _ _ _).slots.size ≤ _); rw [arrV_size]; exact Classical.byContradiction hout) (g := F0 m pc ls (.int i :: .ref a :: rest)) rfl (rest := rest) rfl (by rw [hb]; exact hdg) t
  simp only [arrV_size] at h1
  exact h1 st
theorem vx_iastZ {D : va_G} {cl : List vw_C} {ws : va_W} {tys : List (ClassId × FieldType)} {a : Nat} (hexec : p.tables.exec = Jvm.exec) (hb : c.code = cc) (hK : va_K D cl tys s) (hP : va_P D cl ws H) (q0 t0 : Nat) {cA : ClassId} {n : Nat} {f : Nat → Int32} (ha : ws[q0]? = some (a, .inl (cA, n, .inl f))) (ht : tys[t0]? = some (cA, .int)) {i : Int32} {x : Int32} (hout : ¬ vp_in i n) (hdg : decode cc pc = .ok (.iastore, 1))
    (k : ∀ tx : String, tx = (toString "Index " ++ toString i ++ toString " out of bounds for length " ++ toString n : String) → vx_Note p l e R s m args below meth c H locs cells slots Q (F0 m pc ls rest) "java/lang/ArrayIndexOutOfBoundsException" tx) : W p l e R s m args below meth c H locs cells slots Q (F0 m pc ls (.int x :: .int i :: .ref a :: rest)) := by
  intro T hT X
  obtain ⟨t, st, q⟩ := k _ rfl T hT X
  refine ⟨t, ?_, q⟩
  have h1 := X.iastoreOut hexec (by rw [hT]; exact hP q0 _ ha) ((hK.2 t0 _ ht).1 n (fun j => .int (f j))) (j := i) (by show (i < 0 ∨ (arrV _ _ _).slots.size ≤ _); rw [arrV_size]; exact Classical.byContradiction hout) (g := F0 m pc ls (.int x :: .int i :: .ref a :: rest)) rfl (rest := rest) rfl (by rw [hb]; exact hdg) t
  simp only [arrV_size] at h1
  exact h1 st
theorem vx_baldZ {D : va_G} {cl : List vw_C} {ws : va_W} {tys : List (ClassId × FieldType)} {a : Nat} (hexec : p.tables.exec = Jvm.exec) (hb : c.code = cc) (hK : va_K D cl tys s) (hP : va_P D cl ws H) (q0 t0 : Nat) {cA : ClassId} {n : Nat} {f : Nat → Int32} (ha : ws[q0]? = some (a, .inl (cA, n, .inl f))) (ht : tys[t0]? = some (cA, .byte)) {i : Int32} (hout : ¬ vp_in i n) (hdg : decode cc pc = .ok (.baload, 1))
    (k : ∀ tx : String, tx = (toString "Index " ++ toString i ++ toString " out of bounds for length " ++ toString n : String) → vx_Note p l e R s m args below meth c H locs cells slots Q (F0 m pc ls rest) "java/lang/ArrayIndexOutOfBoundsException" tx) : W p l e R s m args below meth c H locs cells slots Q (F0 m pc ls (.int i :: .ref a :: rest)) := by
  intro T hT X
  obtain ⟨t, st, q⟩ := k _ rfl T hT X
  refine ⟨t, ?_, q⟩
  have h1 := X.baloadOut hexec (by rw [hT]; exact hP q0 _ ha) ((hK.2 t0 _ ht).1 n (fun j => .int (f j))) (j := i) (by show (i < 0 ∨ (arrV _ _ _).slots.size ≤ _); rw [arrV_size]; exact Classical.byContradiction hout) (g := F0 m pc ls (.int i :: .ref a :: rest)) rfl (rest := rest) rfl (by rw [hb]; exact hdg) t
  simp only [arrV_size] at h1
  exact h1 st
theorem vx_bastZ {D : va_G} {cl : List vw_C} {ws : va_W} {tys : List (ClassId × FieldType)} {a : Nat} (hexec : p.tables.exec = Jvm.exec) (hb : c.code = cc) (hK : va_K D cl tys s) (hP : va_P D cl ws H) (q0 t0 : Nat) {cA : ClassId} {n : Nat} {f : Nat → Int32} (ha : ws[q0]? = some (a, .inl (cA, n, .inl f))) (ht : tys[t0]? = some (cA, .byte)) {i : Int32} {x : Int32} (hout : ¬ vp_in i n) (hdg : decode cc pc = .ok (.bastore, 1))
    (k : ∀ tx : String, tx = (toString "Index " ++ toString i ++ toString " out of bounds for length " ++ toString n : String) → vx_Note p l e R s m args below meth c H locs cells slots Q (F0 m pc ls rest) "java/lang/ArrayIndexOutOfBoundsException" tx) : W p l e R s m args below meth c H locs cells slots Q (F0 m pc ls (.int x :: .int i :: .ref a :: rest)) := by
  intro T hT X
  obtain ⟨t, st, q⟩ := k _ rfl T hT X
  refine ⟨t, ?_, q⟩
  have h1 := X.bastoreOut hexec (by rw [hT]; exact hP q0 _ ha) ((hK.2 t0 _ ht).1 n (fun j => .int (f j))) (j := i) (by show (i < 0 ∨ (arrV _ _ _).slots.size ≤ _); rw [arrV_size]; exact Classical.byContradiction hout) (g := F0 m pc ls (.int x :: .int i :: .ref a :: rest)) rfl (rest := rest) rfl (by rw [hb]; exact hdg) t
  simp only [arrV_size] at h1
  exact h1 st
theorem vx_zaldZ {D : va_G} {cl : List vw_C} {ws : va_W} {tys : List (ClassId × FieldType)} {a : Nat} (hexec : p.tables.exec = Jvm.exec) (hb : c.code = cc) (hK : va_K D cl tys s) (hP : va_P D cl ws H) (q0 t0 : Nat) {cA : ClassId} {n : Nat} {f : Nat → Int32} (ha : ws[q0]? = some (a, .inl (cA, n, .inl f))) (ht : tys[t0]? = some (cA, .boolean)) {i : Int32} (hout : ¬ vp_in i n) (hdg : decode cc pc = .ok (.baload, 1))
    (k : ∀ tx : String, tx = (toString "Index " ++ toString i ++ toString " out of bounds for length " ++ toString n : String) → vx_Note p l e R s m args below meth c H locs cells slots Q (F0 m pc ls rest) "java/lang/ArrayIndexOutOfBoundsException" tx) : W p l e R s m args below meth c H locs cells slots Q (F0 m pc ls (.int i :: .ref a :: rest)) := by
  intro T hT X
  obtain ⟨t, st, q⟩ := k _ rfl T hT X
  refine ⟨t, ?_, q⟩
  have h1 := X.baloadOut hexec (by rw [hT]; exact hP q0 _ ha) ((hK.2 t0 _ ht).1 n (fun j => .int (f j))) (j := i) (by show (i < 0 ∨ (arrV _ _ _).slots.size ≤ _); rw [arrV_size]; exact Classical.byContradiction hout) (g := F0 m pc ls (.int i :: .ref a :: rest)) rfl (rest := rest) rfl (by rw [hb]; exact hdg) t
  simp only [arrV_size] at h1
  exact h1 st
theorem vx_zastZ {D : va_G} {cl : List vw_C} {ws : va_W} {tys : List (ClassId × FieldType)} {a : Nat} (hexec : p.tables.exec = Jvm.exec) (hb : c.code = cc) (hK : va_K D cl tys s) (hP : va_P D cl ws H) (q0 t0 : Nat) {cA : ClassId} {n : Nat} {f : Nat → Int32} (ha : ws[q0]? = some (a, .inl (cA, n, .inl f))) (ht : tys[t0]? = some (cA, .boolean)) {i : Int32} {x : Int32} (hout : ¬ vp_in i n) (hdg : decode cc pc = .ok (.bastore, 1))
    (k : ∀ tx : String, tx = (toString "Index " ++ toString i ++ toString " out of bounds for length " ++ toString n : String) → vx_Note p l e R s m args below meth c H locs cells slots Q (F0 m pc ls rest) "java/lang/ArrayIndexOutOfBoundsException" tx) : W p l e R s m args below meth c H locs cells slots Q (F0 m pc ls (.int x :: .int i :: .ref a :: rest)) := by
  intro T hT X
  obtain ⟨t, st, q⟩ := k _ rfl T hT X
  refine ⟨t, ?_, q⟩
  have h1 := X.bastoreOut hexec (by rw [hT]; exact hP q0 _ ha) ((hK.2 t0 _ ht).1 n (fun j => .int (f j))) (j := i) (by show (i < 0 ∨ (arrV _ _ _).slots.size ≤ _); rw [arrV_size]; exact Classical.byContradiction hout) (g := F0 m pc ls (.int x :: .int i :: .ref a :: rest)) rfl (rest := rest) rfl (by rw [hb]; exact hdg) t
  simp only [arrV_size] at h1
  exact h1 st
theorem vx_caldZ {D : va_G} {cl : List vw_C} {ws : va_W} {tys : List (ClassId × FieldType)} {a : Nat} (hexec : p.tables.exec = Jvm.exec) (hb : c.code = cc) (hK : va_K D cl tys s) (hP : va_P D cl ws H) (q0 t0 : Nat) {cA : ClassId} {n : Nat} {f : Nat → Int32} (ha : ws[q0]? = some (a, .inl (cA, n, .inl f))) (ht : tys[t0]? = some (cA, .char)) {i : Int32} (hout : ¬ vp_in i n) (hdg : decode cc pc = .ok (.caload, 1))
    (k : ∀ tx : String, tx = (toString "Index " ++ toString i ++ toString " out of bounds for length " ++ toString n : String) → vx_Note p l e R s m args below meth c H locs cells slots Q (F0 m pc ls rest) "java/lang/ArrayIndexOutOfBoundsException" tx) : W p l e R s m args below meth c H locs cells slots Q (F0 m pc ls (.int i :: .ref a :: rest)) := by
  intro T hT X
  obtain ⟨t, st, q⟩ := k _ rfl T hT X
  refine ⟨t, ?_, q⟩
  have h1 := X.caloadOut hexec (by rw [hT]; exact hP q0 _ ha) ((hK.2 t0 _ ht).1 n (fun j => .int (f j))) (j := i) (by show (i < 0 ∨ (arrV _ _ _).slots.size ≤ _); rw [arrV_size]; exact Classical.byContradiction hout) (g := F0 m pc ls (.int i :: .ref a :: rest)) rfl (rest := rest) rfl (by rw [hb]; exact hdg) t
  simp only [arrV_size] at h1
  exact h1 st
theorem vx_castZ {D : va_G} {cl : List vw_C} {ws : va_W} {tys : List (ClassId × FieldType)} {a : Nat} (hexec : p.tables.exec = Jvm.exec) (hb : c.code = cc) (hK : va_K D cl tys s) (hP : va_P D cl ws H) (q0 t0 : Nat) {cA : ClassId} {n : Nat} {f : Nat → Int32} (ha : ws[q0]? = some (a, .inl (cA, n, .inl f))) (ht : tys[t0]? = some (cA, .char)) {i : Int32} {x : Int32} (hout : ¬ vp_in i n) (hdg : decode cc pc = .ok (.castore, 1))
    (k : ∀ tx : String, tx = (toString "Index " ++ toString i ++ toString " out of bounds for length " ++ toString n : String) → vx_Note p l e R s m args below meth c H locs cells slots Q (F0 m pc ls rest) "java/lang/ArrayIndexOutOfBoundsException" tx) : W p l e R s m args below meth c H locs cells slots Q (F0 m pc ls (.int x :: .int i :: .ref a :: rest)) := by
  intro T hT X
  obtain ⟨t, st, q⟩ := k _ rfl T hT X
  refine ⟨t, ?_, q⟩
  have h1 := X.castoreOut hexec (by rw [hT]; exact hP q0 _ ha) ((hK.2 t0 _ ht).1 n (fun j => .int (f j))) (j := i) (by show (i < 0 ∨ (arrV _ _ _).slots.size ≤ _); rw [arrV_size]; exact Classical.byContradiction hout) (g := F0 m pc ls (.int x :: .int i :: .ref a :: rest)) rfl (rest := rest) rfl (by rw [hb]; exact hdg) t
  simp only [arrV_size] at h1
  exact h1 st
theorem vx_saldZ {D : va_G} {cl : List vw_C} {ws : va_W} {tys : List (ClassId × FieldType)} {a : Nat} (hexec : p.tables.exec = Jvm.exec) (hb : c.code = cc) (hK : va_K D cl tys s) (hP : va_P D cl ws H) (q0 t0 : Nat) {cA : ClassId} {n : Nat} {f : Nat → Int32} (ha : ws[q0]? = some (a, .inl (cA, n, .inl f))) (ht : tys[t0]? = some (cA, .short)) {i : Int32} (hout : ¬ vp_in i n) (hdg : decode cc pc = .ok (.saload, 1))
    (k : ∀ tx : String, tx = (toString "Index " ++ toString i ++ toString " out of bounds for length " ++ toString n : String) → vx_Note p l e R s m args below meth c H locs cells slots Q (F0 m pc ls rest) "java/lang/ArrayIndexOutOfBoundsException" tx) : W p l e R s m args below meth c H locs cells slots Q (F0 m pc ls (.int i :: .ref a :: rest)) := by
  intro T hT X
  obtain ⟨t, st, q⟩ := k _ rfl T hT X
  refine ⟨t, ?_, q⟩
  have h1 := X.saloadOut hexec (by rw [hT]; exact hP q0 _ ha) ((hK.2 t0 _ ht).1 n (fun j => .int (f j))) (j := i) (by show (i < 0 ∨ (arrV _ _ _).slots.size ≤ _); rw [arrV_size]; exact Classical.byContradiction hout) (g := F0 m pc ls (.int i :: .ref a :: rest)) rfl (rest := rest) rfl (by rw [hb]; exact hdg) t
  simp only [arrV_size] at h1
  exact h1 st
theorem vx_sastZ {D : va_G} {cl : List vw_C} {ws : va_W} {tys : List (ClassId × FieldType)} {a : Nat} (hexec : p.tables.exec = Jvm.exec) (hb : c.code = cc) (hK : va_K D cl tys s) (hP : va_P D cl ws H) (q0 t0 : Nat) {cA : ClassId} {n : Nat} {f : Nat → Int32} (ha : ws[q0]? = some (a, .inl (cA, n, .inl f))) (ht : tys[t0]? = some (cA, .short)) {i : Int32} {x : Int32} (hout : ¬ vp_in i n) (hdg : decode cc pc = .ok (.sastore, 1))
    (k : ∀ tx : String, tx = (toString "Index " ++ toString i ++ toString " out of bounds for length " ++ toString n : String) → vx_Note p l e R s m args below meth c H locs cells slots Q (F0 m pc ls rest) "java/lang/ArrayIndexOutOfBoundsException" tx) : W p l e R s m args below meth c H locs cells slots Q (F0 m pc ls (.int x :: .int i :: .ref a :: rest)) := by
  intro T hT X
  obtain ⟨t, st, q⟩ := k _ rfl T hT X
  refine ⟨t, ?_, q⟩
  have h1 := X.sastoreOut hexec (by rw [hT]; exact hP q0 _ ha) ((hK.2 t0 _ ht).1 n (fun j => .int (f j))) (j := i) (by show (i < 0 ∨ (arrV _ _ _).slots.size ≤ _); rw [arrV_size]; exact Classical.byContradiction hout) (g := F0 m pc ls (.int x :: .int i :: .ref a :: rest)) rfl (rest := rest) rfl (by rw [hb]; exact hdg) t
  simp only [arrV_size] at h1
  exact h1 st
theorem vx_laldZ {D : va_G} {cl : List vw_C} {ws : va_W} {tys : List (ClassId × FieldType)} {a : Nat} (hexec : p.tables.exec = Jvm.exec) (hb : c.code = cc) (hK : va_K D cl tys s) (hP : va_P D cl ws H) (q0 t0 : Nat) {cA : ClassId} {n : Nat} {f : Nat → Int64} (ha : ws[q0]? = some (a, .inl (cA, n, .inr (.inl f)))) (ht : tys[t0]? = some (cA, .long)) {i : Int32} (hout : ¬ vp_in i n) (hdg : decode cc pc = .ok (.laload, 1))
    (k : ∀ tx : String, tx = (toString "Index " ++ toString i ++ toString " out of bounds for length " ++ toString n : String) → vx_Note p l e R s m args below meth c H locs cells slots Q (F0 m pc ls rest) "java/lang/ArrayIndexOutOfBoundsException" tx) : W p l e R s m args below meth c H locs cells slots Q (F0 m pc ls (.int i :: .ref a :: rest)) := by
  intro T hT X
  obtain ⟨t, st, q⟩ := k _ rfl T hT X
  refine ⟨t, ?_, q⟩
  have h1 := X.laloadOut hexec (by rw [hT]; exact hP q0 _ ha) ((hK.2 t0 _ ht).1 n (fun j => .long (f j))) (j := i) (by show (i < 0 ∨ (arrV _ _ _).slots.size ≤ _); rw [arrV_size]; exact Classical.byContradiction hout) (g := F0 m pc ls (.int i :: .ref a :: rest)) rfl (rest := rest) rfl (by rw [hb]; exact hdg) t
  simp only [arrV_size] at h1
  exact h1 st
theorem vx_lastZ {D : va_G} {cl : List vw_C} {ws : va_W} {tys : List (ClassId × FieldType)} {a : Nat} (hexec : p.tables.exec = Jvm.exec) (hb : c.code = cc) (hK : va_K D cl tys s) (hP : va_P D cl ws H) (q0 t0 : Nat) {cA : ClassId} {n : Nat} {f : Nat → Int64} (ha : ws[q0]? = some (a, .inl (cA, n, .inr (.inl f)))) (ht : tys[t0]? = some (cA, .long)) {i : Int32} {x : Int64} (hout : ¬ vp_in i n) (hdg : decode cc pc = .ok (.lastore, 1))
    (k : ∀ tx : String, tx = (toString "Index " ++ toString i ++ toString " out of bounds for length " ++ toString n : String) → vx_Note p l e R s m args below meth c H locs cells slots Q (F0 m pc ls rest) "java/lang/ArrayIndexOutOfBoundsException" tx) : W p l e R s m args below meth c H locs cells slots Q (F0 m pc ls (.long x :: .int i :: .ref a :: rest)) := by
  intro T hT X
  obtain ⟨t, st, q⟩ := k _ rfl T hT X
  refine ⟨t, ?_, q⟩
  have h1 := X.lastoreOut hexec (by rw [hT]; exact hP q0 _ ha) ((hK.2 t0 _ ht).1 n (fun j => .long (f j))) (j := i) (by show (i < 0 ∨ (arrV _ _ _).slots.size ≤ _); rw [arrV_size]; exact Classical.byContradiction hout) (g := F0 m pc ls (.long x :: .int i :: .ref a :: rest)) rfl (rest := rest) rfl (by rw [hb]; exact hdg) t
  simp only [arrV_size] at h1
  exact h1 st
theorem vx_faldZ {D : va_G} {cl : List vw_C} {ws : va_W} {tys : List (ClassId × FieldType)} {a : Nat} (hexec : p.tables.exec = Jvm.exec) (hb : c.code = cc) (hK : va_K D cl tys s) (hP : va_P D cl ws H) (q0 t0 : Nat) {cA : ClassId} {n : Nat} {f : Nat → UInt32} (ha : ws[q0]? = some (a, .inl (cA, n, .inr (.inr (.inl f))))) (ht : tys[t0]? = some (cA, .float)) {i : Int32} (hout : ¬ vp_in i n) (hdg : decode cc pc = .ok (.faload, 1))
    (k : ∀ tx : String, tx = (toString "Index " ++ toString i ++ toString " out of bounds for length " ++ toString n : String) → vx_Note p l e R s m args below meth c H locs cells slots Q (F0 m pc ls rest) "java/lang/ArrayIndexOutOfBoundsException" tx) : W p l e R s m args below meth c H locs cells slots Q (F0 m pc ls (.int i :: .ref a :: rest)) := by
  intro T hT X
  obtain ⟨t, st, q⟩ := k _ rfl T hT X
  refine ⟨t, ?_, q⟩
  have h1 := X.faloadOut hexec (by rw [hT]; exact hP q0 _ ha) ((hK.2 t0 _ ht).1 n (fun j => .float (f j))) (j := i) (by show (i < 0 ∨ (arrV _ _ _).slots.size ≤ _); rw [arrV_size]; exact Classical.byContradiction hout) (g := F0 m pc ls (.int i :: .ref a :: rest)) rfl (rest := rest) rfl (by rw [hb]; exact hdg) t
  simp only [arrV_size] at h1
  exact h1 st
theorem vx_fastZ {D : va_G} {cl : List vw_C} {ws : va_W} {tys : List (ClassId × FieldType)} {a : Nat} (hexec : p.tables.exec = Jvm.exec) (hb : c.code = cc) (hK : va_K D cl tys s) (hP : va_P D cl ws H) (q0 t0 : Nat) {cA : ClassId} {n : Nat} {f : Nat → UInt32} (ha : ws[q0]? = some (a, .inl (cA, n, .inr (.inr (.inl f))))) (ht : tys[t0]? = some (cA, .float)) {i : Int32} {x : UInt32} (hout : ¬ vp_in i n) (hdg : decode cc pc = .ok (.fastore, 1))
    (k : ∀ tx : String, tx = (toString "Index " ++ toString i ++ toString " out of bounds for length " ++ toString n : String) → vx_Note p l e R s m args below meth c H locs cells slots Q (F0 m pc ls rest) "java/lang/ArrayIndexOutOfBoundsException" tx) : W p l e R s m args below meth c H locs cells slots Q (F0 m pc ls (.float x :: .int i :: .ref a :: rest)) := by
  intro T hT X
  obtain ⟨t, st, q⟩ := k _ rfl T hT X
  refine ⟨t, ?_, q⟩
  have h1 := X.fastoreOut hexec (by rw [hT]; exact hP q0 _ ha) ((hK.2 t0 _ ht).1 n (fun j => .float (f j))) (j := i) (by show (i < 0 ∨ (arrV _ _ _).slots.size ≤ _); rw [arrV_size]; exact Classical.byContradiction hout) (g := F0 m pc ls (.float x :: .int i :: .ref a :: rest)) rfl (rest := rest) rfl (by rw [hb]; exact hdg) t
  simp only [arrV_size] at h1
  exact h1 st
theorem vx_daldZ {D : va_G} {cl : List vw_C} {ws : va_W} {tys : List (ClassId × FieldType)} {a : Nat} (hexec : p.tables.exec = Jvm.exec) (hb : c.code = cc) (hK : va_K D cl tys s) (hP : va_P D cl ws H) (q0 t0 : Nat) {cA : ClassId} {n : Nat} {f : Nat → UInt64} (ha : ws[q0]? = some (a, .inl (cA, n, .inr (.inr (.inr (.inl f)))))) (ht : tys[t0]? = some (cA, .double)) {i : Int32} (hout : ¬ vp_in i n) (hdg : decode cc pc = .ok (.daload, 1))
    (k : ∀ tx : String, tx = (toString "Index " ++ toString i ++ toString " out of bounds for length " ++ toString n : String) → vx_Note p l e R s m args below meth c H locs cells slots Q (F0 m pc ls rest) "java/lang/ArrayIndexOutOfBoundsException" tx) : W p l e R s m args below meth c H locs cells slots Q (F0 m pc ls (.int i :: .ref a :: rest)) := by
  intro T hT X
  obtain ⟨t, st, q⟩ := k _ rfl T hT X
  refine ⟨t, ?_, q⟩
  have h1 := X.daloadOut hexec (by rw [hT]; exact hP q0 _ ha) ((hK.2 t0 _ ht).1 n (fun j => .double (f j))) (j := i) (by show (i < 0 ∨ (arrV _ _ _).slots.size ≤ _); rw [arrV_size]; exact Classical.byContradiction hout) (g := F0 m pc ls (.int i :: .ref a :: rest)) rfl (rest := rest) rfl (by rw [hb]; exact hdg) t
  simp only [arrV_size] at h1
  exact h1 st
theorem vx_dastZ {D : va_G} {cl : List vw_C} {ws : va_W} {tys : List (ClassId × FieldType)} {a : Nat} (hexec : p.tables.exec = Jvm.exec) (hb : c.code = cc) (hK : va_K D cl tys s) (hP : va_P D cl ws H) (q0 t0 : Nat) {cA : ClassId} {n : Nat} {f : Nat → UInt64} (ha : ws[q0]? = some (a, .inl (cA, n, .inr (.inr (.inr (.inl f)))))) (ht : tys[t0]? = some (cA, .double)) {i : Int32} {x : UInt64} (hout : ¬ vp_in i n) (hdg : decode cc pc = .ok (.dastore, 1))
    (k : ∀ tx : String, tx = (toString "Index " ++ toString i ++ toString " out of bounds for length " ++ toString n : String) → vx_Note p l e R s m args below meth c H locs cells slots Q (F0 m pc ls rest) "java/lang/ArrayIndexOutOfBoundsException" tx) : W p l e R s m args below meth c H locs cells slots Q (F0 m pc ls (.double x :: .int i :: .ref a :: rest)) := by
  intro T hT X
  obtain ⟨t, st, q⟩ := k _ rfl T hT X
  refine ⟨t, ?_, q⟩
  have h1 := X.dastoreOut hexec (by rw [hT]; exact hP q0 _ ha) ((hK.2 t0 _ ht).1 n (fun j => .double (f j))) (j := i) (by show (i < 0 ∨ (arrV _ _ _).slots.size ≤ _); rw [arrV_size]; exact Classical.byContradiction hout) (g := F0 m pc ls (.double x :: .int i :: .ref a :: rest)) rfl (rest := rest) rfl (by rw [hb]; exact hdg) t
  simp only [arrV_size] at h1
  exact h1 st
theorem vx_arraylengthN (hexec : p.tables.exec = Jvm.exec) (hb : c.code = cc) (hdg : decode cc pc = .ok (.arraylength, 1)) (k : vx_NoteN p l e R s m args below meth c H locs cells slots Q (F0 m pc ls rest)) : W p l e R s m args below meth c H locs cells slots Q (F0 m pc ls (.null :: rest)) := by
  intro T hT X
  obtain ⟨t, st, q⟩ := k T hT X
  exact ⟨t, X.arraylengthNull hexec (g := F0 m pc ls (.null :: rest)) rfl (rest := rest) rfl (by rw [hb]; exact hdg) t st, q⟩
theorem vx_ialoadN (hexec : p.tables.exec = Jvm.exec) (hb : c.code = cc) {i : Int32} (hdg : decode cc pc = .ok (.iaload, 1)) (k : vx_NoteN p l e R s m args below meth c H locs cells slots Q (F0 m pc ls rest)) : W p l e R s m args below meth c H locs cells slots Q (F0 m pc ls (.int i :: .null :: rest)) := by
  intro T hT X
  obtain ⟨t, st, q⟩ := k T hT X
  exact ⟨t, X.ialoadNull hexec (g := F0 m pc ls (.int i :: .null :: rest)) rfl (rest := rest) rfl (by rw [hb]; exact hdg) t st, q⟩
theorem vx_laloadN (hexec : p.tables.exec = Jvm.exec) (hb : c.code = cc) {i : Int32} (hdg : decode cc pc = .ok (.laload, 1)) (k : vx_NoteN p l e R s m args below meth c H locs cells slots Q (F0 m pc ls rest)) : W p l e R s m args below meth c H locs cells slots Q (F0 m pc ls (.int i :: .null :: rest)) := by
  intro T hT X
  obtain ⟨t, st, q⟩ := k T hT X
  exact ⟨t, X.laloadNull hexec (g := F0 m pc ls (.int i :: .null :: rest)) rfl (rest := rest) rfl (by rw [hb]; exact hdg) t st, q⟩
theorem vx_faloadN (hexec : p.tables.exec = Jvm.exec) (hb : c.code = cc) {i : Int32} (hdg : decode cc pc = .ok (.faload, 1)) (k : vx_NoteN p l e R s m args below meth c H locs cells slots Q (F0 m pc ls rest)) : W p l e R s m args below meth c H locs cells slots Q (F0 m pc ls (.int i :: .null :: rest)) := by
  intro T hT X
  obtain ⟨t, st, q⟩ := k T hT X
  exact ⟨t, X.faloadNull hexec (g := F0 m pc ls (.int i :: .null :: rest)) rfl (rest := rest) rfl (by rw [hb]; exact hdg) t st, q⟩
theorem vx_daloadN (hexec : p.tables.exec = Jvm.exec) (hb : c.code = cc) {i : Int32} (hdg : decode cc pc = .ok (.daload, 1)) (k : vx_NoteN p l e R s m args below meth c H locs cells slots Q (F0 m pc ls rest)) : W p l e R s m args below meth c H locs cells slots Q (F0 m pc ls (.int i :: .null :: rest)) := by
  intro T hT X
  obtain ⟨t, st, q⟩ := k T hT X
  exact ⟨t, X.daloadNull hexec (g := F0 m pc ls (.int i :: .null :: rest)) rfl (rest := rest) rfl (by rw [hb]; exact hdg) t st, q⟩
theorem vx_aaloadN (hexec : p.tables.exec = Jvm.exec) (hb : c.code = cc) {i : Int32} (hdg : decode cc pc = .ok (.aaload, 1)) (k : vx_NoteN p l e R s m args below meth c H locs cells slots Q (F0 m pc ls rest)) : W p l e R s m args below meth c H locs cells slots Q (F0 m pc ls (.int i :: .null :: rest)) := by
  intro T hT X
  obtain ⟨t, st, q⟩ := k T hT X
  exact ⟨t, X.aaloadNull hexec (g := F0 m pc ls (.int i :: .null :: rest)) rfl (rest := rest) rfl (by rw [hb]; exact hdg) t st, q⟩
theorem vx_baloadN (hexec : p.tables.exec = Jvm.exec) (hb : c.code = cc) {i : Int32} (hdg : decode cc pc = .ok (.baload, 1)) (k : vx_NoteN p l e R s m args below meth c H locs cells slots Q (F0 m pc ls rest)) : W p l e R s m args below meth c H locs cells slots Q (F0 m pc ls (.int i :: .null :: rest)) := by
  intro T hT X
  obtain ⟨t, st, q⟩ := k T hT X
  exact ⟨t, X.baloadNull hexec (g := F0 m pc ls (.int i :: .null :: rest)) rfl (rest := rest) rfl (by rw [hb]; exact hdg) t st, q⟩
theorem vx_caloadN (hexec : p.tables.exec = Jvm.exec) (hb : c.code = cc) {i : Int32} (hdg : decode cc pc = .ok (.caload, 1)) (k : vx_NoteN p l e R s m args below meth c H locs cells slots Q (F0 m pc ls rest)) : W p l e R s m args below meth c H locs cells slots Q (F0 m pc ls (.int i :: .null :: rest)) := by
  intro T hT X
  obtain ⟨t, st, q⟩ := k T hT X
  exact ⟨t, X.caloadNull hexec (g := F0 m pc ls (.int i :: .null :: rest)) rfl (rest := rest) rfl (by rw [hb]; exact hdg) t st, q⟩
theorem vx_saloadN (hexec : p.tables.exec = Jvm.exec) (hb : c.code = cc) {i : Int32} (hdg : decode cc pc = .ok (.saload, 1)) (k : vx_NoteN p l e R s m args below meth c H locs cells slots Q (F0 m pc ls rest)) : W p l e R s m args below meth c H locs cells slots Q (F0 m pc ls (.int i :: .null :: rest)) := by
  intro T hT X
  obtain ⟨t, st, q⟩ := k T hT X
  exact ⟨t, X.saloadNull hexec (g := F0 m pc ls (.int i :: .null :: rest)) rfl (rest := rest) rfl (by rw [hb]; exact hdg) t st, q⟩
theorem vx_iastoreN (hexec : p.tables.exec = Jvm.exec) (hb : c.code = cc) {x : Int32} {i : Int32} (hdg : decode cc pc = .ok (.iastore, 1)) (k : vx_NoteN p l e R s m args below meth c H locs cells slots Q (F0 m pc ls rest)) : W p l e R s m args below meth c H locs cells slots Q (F0 m pc ls (.int x :: .int i :: .null :: rest)) := by
  intro T hT X
  obtain ⟨t, st, q⟩ := k T hT X
  exact ⟨t, X.iastoreNull hexec (g := F0 m pc ls (.int x :: .int i :: .null :: rest)) rfl (rest := rest) rfl (by rw [hb]; exact hdg) t st, q⟩
theorem vx_lastoreN (hexec : p.tables.exec = Jvm.exec) (hb : c.code = cc) {x : Int64} {i : Int32} (hdg : decode cc pc = .ok (.lastore, 1)) (k : vx_NoteN p l e R s m args below meth c H locs cells slots Q (F0 m pc ls rest)) : W p l e R s m args below meth c H locs cells slots Q (F0 m pc ls (.long x :: .int i :: .null :: rest)) := by
  intro T hT X
  obtain ⟨t, st, q⟩ := k T hT X
  exact ⟨t, X.lastoreNull hexec (g := F0 m pc ls (.long x :: .int i :: .null :: rest)) rfl (rest := rest) rfl (by rw [hb]; exact hdg) t st, q⟩
theorem vx_fastoreN (hexec : p.tables.exec = Jvm.exec) (hb : c.code = cc) {x : UInt32} {i : Int32} (hdg : decode cc pc = .ok (.fastore, 1)) (k : vx_NoteN p l e R s m args below meth c H locs cells slots Q (F0 m pc ls rest)) : W p l e R s m args below meth c H locs cells slots Q (F0 m pc ls (.float x :: .int i :: .null :: rest)) := by
  intro T hT X
  obtain ⟨t, st, q⟩ := k T hT X
  exact ⟨t, X.fastoreNull hexec (g := F0 m pc ls (.float x :: .int i :: .null :: rest)) rfl (rest := rest) rfl (by rw [hb]; exact hdg) t st, q⟩
theorem vx_dastoreN (hexec : p.tables.exec = Jvm.exec) (hb : c.code = cc) {x : UInt64} {i : Int32} (hdg : decode cc pc = .ok (.dastore, 1)) (k : vx_NoteN p l e R s m args below meth c H locs cells slots Q (F0 m pc ls rest)) : W p l e R s m args below meth c H locs cells slots Q (F0 m pc ls (.double x :: .int i :: .null :: rest)) := by
  intro T hT X
  obtain ⟨t, st, q⟩ := k T hT X
  exact ⟨t, X.dastoreNull hexec (g := F0 m pc ls (.double x :: .int i :: .null :: rest)) rfl (rest := rest) rfl (by rw [hb]; exact hdg) t st, q⟩
theorem vx_bastoreN (hexec : p.tables.exec = Jvm.exec) (hb : c.code = cc) {x : Int32} {i : Int32} (hdg : decode cc pc = .ok (.bastore, 1)) (k : vx_NoteN p l e R s m args below meth c H locs cells slots Q (F0 m pc ls rest)) : W p l e R s m args below meth c H locs cells slots Q (F0 m pc ls (.int x :: .int i :: .null :: rest)) := by
  intro T hT X
  obtain ⟨t, st, q⟩ := k T hT X
  exact ⟨t, X.bastoreNull hexec (g := F0 m pc ls (.int x :: .int i :: .null :: rest)) rfl (rest := rest) rfl (by rw [hb]; exact hdg) t st, q⟩
theorem vx_castoreN (hexec : p.tables.exec = Jvm.exec) (hb : c.code = cc) {x : Int32} {i : Int32} (hdg : decode cc pc = .ok (.castore, 1)) (k : vx_NoteN p l e R s m args below meth c H locs cells slots Q (F0 m pc ls rest)) : W p l e R s m args below meth c H locs cells slots Q (F0 m pc ls (.int x :: .int i :: .null :: rest)) := by
  intro T hT X
  obtain ⟨t, st, q⟩ := k T hT X
  exact ⟨t, X.castoreNull hexec (g := F0 m pc ls (.int x :: .int i :: .null :: rest)) rfl (rest := rest) rfl (by rw [hb]; exact hdg) t st, q⟩
theorem vx_sastoreN (hexec : p.tables.exec = Jvm.exec) (hb : c.code = cc) {x : Int32} {i : Int32} (hdg : decode cc pc = .ok (.sastore, 1)) (k : vx_NoteN p l e R s m args below meth c H locs cells slots Q (F0 m pc ls rest)) : W p l e R s m args below meth c H locs cells slots Q (F0 m pc ls (.int x :: .int i :: .null :: rest)) := by
  intro T hT X
  obtain ⟨t, st, q⟩ := k T hT X
  exact ⟨t, X.sastoreNull hexec (g := F0 m pc ls (.int x :: .int i :: .null :: rest)) rfl (rest := rest) rfl (by rw [hb]; exact hdg) t st, q⟩
theorem vx_invokeN {own C : String} {index maxL : Nat} {y : MethodName} {bytes : ByteArray} {ret : Option FieldType} (hexec : p.tables.exec = Jvm.exec) (hb : c.code = cc) (hown : s.vm.findClass own = some m.cls) (hlink : (Cond.methodLink own index y).before args s = true) (hinst : (Cond.instanceMethod y).before args s = true) (hcode : (Cond.code y bytes maxL ret).before args s = true) (hsel : (Cond.selects C y y).before args s = true)
    (hx : y.cls ≠ "java/lang/invoke/MethodHandle" ∧ y.cls ≠ "java/lang/invoke/VarHandle") {As : List Value} (hlen : (parseMethodDescriptor y.desc).map (fun d => d.parameters.length) = some As.length) (hdg : decode cc pc = .ok (.invokevirtual index, 3))
    (k : vx_NoteN p l e R s m args below meth c H locs cells slots Q (F0 m pc ls rest)) {st0 : List Value} (hst : st0 = As.reverse ++ .null :: rest) : W p l e R s m args below meth c H locs cells slots Q (F0 m pc ls st0) := by
  intro T hT X
  obtain ⟨r0, r, hn, hrm, hstR, hsigR⟩ := va_Decl.of hinst hcode
  obtain ⟨c2, r2, m2, q1, q2, q3, q4, kP, hkP, hkPi⟩ := Cond.selects_spec hsel
  cases hn.symm.trans q3
  have hl9 : As.length = r.sig.parameters.length := by
    rw [hsigR] at hlen
    exact (Option.some.inj hlen).symm
  obtain ⟨vm', X1, st1⟩ := X.invokevirtualNull hexec hown hlink hn hrm hstR hkP hkPi hx (g := F0 m pc ls st0) rfl (argsL := As) (rest := rest) hl9 hst (by rw [hb]; exact hdg)
  obtain ⟨t, st, q⟩ := k (T.setVm vm') hT X1
  exact ⟨t, st1 t st, q⟩
theorem vx_newarrayZ {atype : ArrayType} (hexec : p.tables.exec = Jvm.exec) (hb : c.code = cc) {n : Int32} (h0 : n < 0) (hdg : decode cc pc = .ok (.newarray atype, 2)) (k : ∀ tx : String, tx = toString n → vx_Note p l e R s m args below meth c H locs cells slots Q (F0 m pc ls rest) "java/lang/NegativeArraySizeException" tx) : W p l e R s m args below meth c H locs cells slots Q (F0 m pc ls (.int n :: rest)) := by
  intro T hT X
  obtain ⟨t, st, q⟩ := k _ rfl T hT X
  exact ⟨t, X.newarrayNegative hexec (g := F0 m pc ls (.int n :: rest)) rfl h0 (rest := rest) rfl (by rw [hb]; exact hdg) t st, q⟩
end
end VXM
/-! ===== END ===== -/
end
section
def RX0 : String := "FlexLayout$Arrangement"
def TX0 : u_T := fun k => match k with
  | 0 => ("FlexLayout$Arrangement", "sequence", "[I", true)
  | 1 => ("FlexLayout$Arrangement", "starts", "[I", true)
  | _ => ("FlexLayout$Arrangement", "lineCount", "I", false)
def tyX0 : Nat → FieldType := fun k => match k with
  | 0 => .array .int
  | 1 => .array .int
  | _ => .int
abbrev wsX00 : List Cond := u_ws RX0 TX0 3
theorem nmX0 : ∀ a, a < 3 → ∀ b, b < 3 → a ≠ b → (TX0 a).2.1 ≠ (TX0 b).2.1 := by decide +kernel
theorem tyX0_ok : ∀ k, k < 3 → parseFieldDescriptor (TX0 k).2.2.1 = some (tyX0 k) := by decide +kernel
abbrev cX0_init : ByteArray := prog_2_method_1_code
def yX0_init : MethodName := ⟨RX0, "<init>", "()V"⟩
abbrev cX0_arrange : ByteArray := prog_2_method_2_code
def yX0_arrange : MethodName := ⟨RX0, "arrange", "(LFlexLayout$Container;)V"⟩
abbrev cX0_putInSequence : ByteArray := prog_2_method_3_code
def yX0_putInSequence : MethodName := ⟨RX0, "putInSequence", "(LFlexLayout$Container;)V"⟩
abbrev cX0_fillLines : ByteArray := prog_2_method_4_code
def yX0_fillLines : MethodName := ⟨RX0, "fillLines", "(LFlexLayout$Container;I)I"⟩
abbrev cX0_lineWith : ByteArray := prog_2_method_5_code
def yX0_lineWith : MethodName := ⟨RX0, "lineWith", "(I)I"⟩
abbrev cX0_available : ByteArray := prog_2_method_6_code
def yX0_available : MethodName := ⟨RX0, "available", "(LFlexLayout$Container;I)I"⟩
def RX1 : String := "FlexLayout$Container"
def TX1 : u_T := fun k => match k with
  | 0 => ("FlexLayout$Container", "mainSize", "I", false)
  | 1 => ("FlexLayout$Container", "crossSize", "I", false)
  | 2 => ("FlexLayout$Container", "mainGap", "I", false)
  | 3 => ("FlexLayout$Container", "crossGap", "I", false)
  | 4 => ("FlexLayout$Container", "settings", "[I", true)
  | 5 => ("FlexLayout$Container", "rows", "[[I", true)
  | _ => ("FlexLayout$Container", "count", "I", false)
def tyX1 : Nat → FieldType := fun k => match k with
  | 0 => .int
  | 1 => .int
  | 2 => .int
  | 3 => .int
  | 4 => .array .int
  | 5 => .array (.array .int)
  | _ => .int
abbrev wsX10 : List Cond := u_ws RX1 TX1 7
theorem nmX1 : ∀ a, a < 7 → ∀ b, b < 7 → a ≠ b → (TX1 a).2.1 ≠ (TX1 b).2.1 := by decide +kernel
theorem tyX1_ok : ∀ k, k < 7 → parseFieldDescriptor (TX1 k).2.2.1 = some (tyX1 k) := by decide +kernel
abbrev cX1_init : ByteArray := prog_3_method_1_code
def yX1_init : MethodName := ⟨RX1, "<init>", "()V"⟩
abbrev cX1_copyFrom : ByteArray := prog_3_method_2_code
def yX1_copyFrom : MethodName := ⟨RX1, "copyFrom", "(LFlexLayout$Container;)V"⟩
abbrev cX1_freshRow : ByteArray := prog_3_method_3_code
def yX1_freshRow : MethodName := ⟨RX1, "freshRow", "()[I"⟩
abbrev cX1_takeFreshRow : ByteArray := prog_3_method_4_code
def yX1_takeFreshRow : MethodName := ⟨RX1, "takeFreshRow", "()I"⟩
abbrev cX1_dropRow : ByteArray := prog_3_method_5_code
def yX1_dropRow : MethodName := ⟨RX1, "dropRow", "(I)V"⟩
abbrev cX1_clamp : ByteArray := prog_3_method_6_code
def yX1_clamp : MethodName := ⟨RX1, "clamp", "(II)I"⟩
abbrev cX1_hypothetical : ByteArray := prog_3_method_7_code
def yX1_hypothetical : MethodName := ⟨RX1, "hypothetical", "(I)I"⟩
abbrev cX1_alignment : ByteArray := prog_3_method_8_code
def yX1_alignment : MethodName := ⟨RX1, "alignment", "(I)I"⟩
abbrev cX1_hasHorizontalMainAxis : ByteArray := prog_3_method_9_code
def yX1_hasHorizontalMainAxis : MethodName := ⟨RX1, "hasHorizontalMainAxis", "()Z"⟩
abbrev cX1_isReversed : ByteArray := prog_3_method_10_code
def yX1_isReversed : MethodName := ⟨RX1, "isReversed", "()Z"⟩
abbrev cX1_wraps : ByteArray := prog_3_method_11_code
def yX1_wraps : MethodName := ⟨RX1, "wraps", "()Z"⟩
def RX2 : String := "FlexLayout$CrossAxis"
def TX2 : u_T := fun k => match k with
  | 0 => ("FlexLayout$CrossAxis", "lineSizes", "[I", true)
  | 1 => ("FlexLayout$CrossAxis", "lineAscents", "[I", true)
  | 2 => ("FlexLayout$CrossAxis", "sizes", "[I", true)
  | 3 => ("FlexLayout$CrossAxis", "positions", "[I", true)
  | _ => ("FlexLayout$CrossAxis", "extent", "I", false)
def tyX2 : Nat → FieldType := fun k => match k with
  | 0 => .array .int
  | 1 => .array .int
  | 2 => .array .int
  | 3 => .array .int
  | _ => .int
abbrev wsX20 : List Cond := u_ws RX2 TX2 5
theorem nmX2 : ∀ a, a < 5 → ∀ b, b < 5 → a ≠ b → (TX2 a).2.1 ≠ (TX2 b).2.1 := by decide +kernel
theorem tyX2_ok : ∀ k, k < 5 → parseFieldDescriptor (TX2 k).2.2.1 = some (tyX2 k) := by decide +kernel
abbrev cX2_init : ByteArray := prog_4_method_1_code
def yX2_init : MethodName := ⟨RX2, "<init>", "()V"⟩
abbrev cX2_layOut : ByteArray := prog_4_method_2_code
def yX2_layOut : MethodName := ⟨RX2, "layOut", "(LFlexLayout$Container;LFlexLayout$Arrangement;LFlexLayout$Division;)V"⟩
abbrev cX2_measure : ByteArray := prog_4_method_3_code
def yX2_measure : MethodName := ⟨RX2, "measure", "(LFlexLayout$Container;LFlexLayout$Arrangement;I)V"⟩
abbrev cX2_stretch : ByteArray := prog_4_method_4_code
def yX2_stretch : MethodName := ⟨RX2, "stretch", "(LFlexLayout$Container;LFlexLayout$Arrangement;LFlexLayout$Division;)V"⟩
abbrev cX2_lengthOfLines : ByteArray := prog_4_method_5_code
def yX2_lengthOfLines : MethodName := ⟨RX2, "lengthOfLines", "(LFlexLayout$Container;LFlexLayout$Arrangement;)I"⟩
abbrev cX2_findPositions : ByteArray := prog_4_method_6_code
def yX2_findPositions : MethodName := ⟨RX2, "findPositions", "(LFlexLayout$Container;LFlexLayout$Arrangement;I)V"⟩
abbrev cX2_put : ByteArray := prog_4_method_7_code
def yX2_put : MethodName := ⟨RX2, "put", "(LFlexLayout$Container;III)V"⟩
abbrev cX2_positionInLine : ByteArray := prog_4_method_8_code
def yX2_positionInLine : MethodName := ⟨RX2, "positionInLine", "(LFlexLayout$Container;II)I"⟩
def RX3 : String := "FlexLayout$Division"
def TX3 : u_T := fun k => match k with
  | 0 => ("FlexLayout$Division", "weights", "[J", true)
  | 1 => ("FlexLayout$Division", "shares", "[I", true)
  | _ => ("FlexLayout$Division", "remainders", "[J", true)
def tyX3 : Nat → FieldType := fun k => match k with
  | 0 => .array .long
  | 1 => .array .int
  | _ => .array .long
abbrev wsX30 : List Cond := u_ws RX3 TX3 3
theorem nmX3 : ∀ a, a < 3 → ∀ b, b < 3 → a ≠ b → (TX3 a).2.1 ≠ (TX3 b).2.1 := by decide +kernel
theorem tyX3_ok : ∀ k, k < 3 → parseFieldDescriptor (TX3 k).2.2.1 = some (tyX3 k) := by decide +kernel
abbrev cX3_init : ByteArray := prog_5_method_1_code
def yX3_init : MethodName := ⟨RX3, "<init>", "()V"⟩
abbrev cX3_weightSum : ByteArray := prog_5_method_2_code
def yX3_weightSum : MethodName := ⟨RX3, "weightSum", "(I)J"⟩
abbrev cX3_divide : ByteArray := prog_5_method_3_code
def yX3_divide : MethodName := ⟨RX3, "divide", "(II)V"⟩
abbrev cX3_giveOut : ByteArray := prog_5_method_4_code
def yX3_giveOut : MethodName := ⟨RX3, "giveOut", "(II)V"⟩
def RX4 : String := "FlexLayout$ItemText"
def TX4 : u_T := fun k => match k with
  | 0 => ("FlexLayout$ItemText", "letters", "[C", true)
  | _ => ("FlexLayout$ItemText", "length", "I", false)
def tyX4 : Nat → FieldType := fun k => match k with
  | 0 => .array .char
  | _ => .int
abbrev wsX40 : List Cond := u_ws RX4 TX4 2
theorem nmX4 : ∀ a, a < 2 → ∀ b, b < 2 → a ≠ b → (TX4 a).2.1 ≠ (TX4 b).2.1 := by decide +kernel
theorem tyX4_ok : ∀ k, k < 2 → parseFieldDescriptor (TX4 k).2.2.1 = some (tyX4 k) := by decide +kernel
abbrev cX4_init : ByteArray := prog_6_method_1_code
def yX4_init : MethodName := ⟨RX4, "<init>", "()V"⟩
abbrev cX4_syntaxError : ByteArray := prog_6_method_2_code
def yX4_syntaxError : MethodName := ⟨RX4, "syntaxError", "()I"⟩
abbrev cX4_next : ByteArray := prog_6_method_3_code
def yX4_next : MethodName := ⟨RX4, "next", "(IC)I"⟩
abbrev cX4_readInto : ByteArray := prog_6_method_4_code
def yX4_readInto : MethodName := ⟨RX4, "readInto", "([I)I"⟩
abbrev cX4_number : ByteArray := prog_6_method_5_code
def yX4_number : MethodName := ⟨RX4, "number", "(II)I"⟩
abbrev cX4_propertyFor : ByteArray := prog_6_method_6_code
def yX4_propertyFor : MethodName := ⟨RX4, "propertyFor", "(C)I"⟩
def RX5 : String := "FlexLayout$MainAxis"
def TX5 : u_T := fun k => match k with
  | 0 => ("FlexLayout$MainAxis", "sizes", "[I", true)
  | 1 => ("FlexLayout$MainAxis", "positions", "[I", true)
  | 2 => ("FlexLayout$MainAxis", "roundCounts", "[I", true)
  | 3 => ("FlexLayout$MainAxis", "freeSpaces", "[I", true)
  | 4 => ("FlexLayout$MainAxis", "violations", "[I", true)
  | _ => ("FlexLayout$MainAxis", "frozen", "[Z", true)
def tyX5 : Nat → FieldType := fun k => match k with
  | 0 => .array .int
  | 1 => .array .int
  | 2 => .array .int
  | 3 => .array .int
  | 4 => .array .int
  | _ => .array .boolean
abbrev wsX50 : List Cond := u_ws RX5 TX5 6
theorem nmX5 : ∀ a, a < 6 → ∀ b, b < 6 → a ≠ b → (TX5 a).2.1 ≠ (TX5 b).2.1 := by decide +kernel
theorem tyX5_ok : ∀ k, k < 6 → parseFieldDescriptor (TX5 k).2.2.1 = some (tyX5 k) := by decide +kernel
abbrev cX5_init : ByteArray := prog_7_method_1_code
def yX5_init : MethodName := ⟨RX5, "<init>", "()V"⟩
abbrev cX5_layOut : ByteArray := prog_7_method_2_code
def yX5_layOut : MethodName := ⟨RX5, "layOut", "(LFlexLayout$Container;LFlexLayout$Arrangement;LFlexLayout$Division;)V"⟩
abbrev cX5_findSizes : ByteArray := prog_7_method_3_code
def yX5_findSizes : MethodName := ⟨RX5, "findSizes", "(LFlexLayout$Container;LFlexLayout$Arrangement;LFlexLayout$Division;I)V"⟩
abbrev cX5_freezeAtOnce : ByteArray := prog_7_method_4_code
def yX5_freezeAtOnce : MethodName := ⟨RX5, "freezeAtOnce", "(LFlexLayout$Container;LFlexLayout$Arrangement;I)Z"⟩
abbrev cX5_isFrozen : ByteArray := prog_7_method_5_code
def yX5_isFrozen : MethodName := ⟨RX5, "isFrozen", "(LFlexLayout$Arrangement;I)Z"⟩
abbrev cX5_spaceLeft : ByteArray := prog_7_method_6_code
def yX5_spaceLeft : MethodName := ⟨RX5, "spaceLeft", "(LFlexLayout$Container;LFlexLayout$Arrangement;I)I"⟩
abbrev cX5_weigh : ByteArray := prog_7_method_7_code
def yX5_weigh : MethodName := ⟨RX5, "weigh", "(LFlexLayout$Container;LFlexLayout$Arrangement;LFlexLayout$Division;IZI)V"⟩
abbrev cX5_resize : ByteArray := prog_7_method_8_code
def yX5_resize : MethodName := ⟨RX5, "resize", "(LFlexLayout$Container;LFlexLayout$Arrangement;LFlexLayout$Division;IZ)I"⟩
abbrev cX5_freeze : ByteArray := prog_7_method_9_code
def yX5_freeze : MethodName := ⟨RX5, "freeze", "(LFlexLayout$Arrangement;II)V"⟩
abbrev cX5_findPositions : ByteArray := prog_7_method_10_code
def yX5_findPositions : MethodName := ⟨RX5, "findPositions", "(LFlexLayout$Container;LFlexLayout$Arrangement;I)V"⟩
def RX6 : String := "FlexLayout"
def TX6 : u_T := fun k => match k with
  | 0 => ("FlexLayout", "container", "LFlexLayout$Container;", true)
  | 1 => ("FlexLayout", "kept", "LFlexLayout$Container;", true)
  | 2 => ("FlexLayout", "isKept", "Z", false)
  | 3 => ("FlexLayout", "text", "LFlexLayout$ItemText;", true)
  | 4 => ("FlexLayout", "division", "LFlexLayout$Division;", true)
  | 5 => ("FlexLayout", "arrangement", "LFlexLayout$Arrangement;", true)
  | 6 => ("FlexLayout", "mainAxis", "LFlexLayout$MainAxis;", true)
  | _ => ("FlexLayout", "crossAxis", "LFlexLayout$CrossAxis;", true)
def tyX6 : Nat → FieldType := fun k => match k with
  | 0 => .object "FlexLayout$Container"
  | 1 => .object "FlexLayout$Container"
  | 2 => .boolean
  | 3 => .object "FlexLayout$ItemText"
  | 4 => .object "FlexLayout$Division"
  | 5 => .object "FlexLayout$Arrangement"
  | 6 => .object "FlexLayout$MainAxis"
  | _ => .object "FlexLayout$CrossAxis"
abbrev wsX60 : List Cond := u_ws RX6 TX6 8
theorem nmX6 : ∀ a, a < 8 → ∀ b, b < 8 → a ≠ b → (TX6 a).2.1 ≠ (TX6 b).2.1 := by decide +kernel
theorem tyX6_ok : ∀ k, k < 8 → parseFieldDescriptor (TX6 k).2.2.1 = some (tyX6 k) := by decide +kernel
abbrev cX6_init : ByteArray := prog_1_method_1_code
def yX6_init : MethodName := ⟨RX6, "<init>", "()V"⟩
abbrev cX6_setMainSize : ByteArray := prog_1_method_2_code
def yX6_setMainSize : MethodName := ⟨RX6, "setMainSize", "(I)I"⟩
abbrev cX6_setCrossSize : ByteArray := prog_1_method_3_code
def yX6_setCrossSize : MethodName := ⟨RX6, "setCrossSize", "(I)I"⟩
abbrev cX6_setGaps : ByteArray := prog_1_method_4_code
def yX6_setGaps : MethodName := ⟨RX6, "setGaps", "(II)I"⟩
abbrev cX6_setSetting : ByteArray := prog_1_method_5_code
def yX6_setSetting : MethodName := ⟨RX6, "setSetting", "(II)I"⟩
abbrev cX6_addItem : ByteArray := prog_1_method_6_code
def yX6_addItem : MethodName := ⟨RX6, "addItem", "(II)I"⟩
abbrev cX6_removeItem : ByteArray := prog_1_method_7_code
def yX6_removeItem : MethodName := ⟨RX6, "removeItem", "(I)I"⟩
abbrev cX6_items : ByteArray := prog_1_method_8_code
def yX6_items : MethodName := ⟨RX6, "items", "()I"⟩
abbrev cX6_setProperty : ByteArray := prog_1_method_9_code
def yX6_setProperty : MethodName := ⟨RX6, "setProperty", "(III)I"⟩
abbrev cX6_property : ByteArray := prog_1_method_10_code
def yX6_property : MethodName := ⟨RX6, "property", "(II)I"⟩
abbrev cX6_feed : ByteArray := prog_1_method_11_code
def yX6_feed : MethodName := ⟨RX6, "feed", "(C)I"⟩
abbrev cX6_readItem : ByteArray := prog_1_method_12_code
def yX6_readItem : MethodName := ⟨RX6, "readItem", "()I"⟩
abbrev cX6_lines : ByteArray := prog_1_method_13_code
def yX6_lines : MethodName := ⟨RX6, "lines", "()I"⟩
abbrev cX6_lineOf : ByteArray := prog_1_method_14_code
def yX6_lineOf : MethodName := ⟨RX6, "lineOf", "(I)I"⟩
abbrev cX6_itemAt : ByteArray := prog_1_method_15_code
def yX6_itemAt : MethodName := ⟨RX6, "itemAt", "(I)I"⟩
abbrev cX6_hypotheticalSize : ByteArray := prog_1_method_16_code
def yX6_hypotheticalSize : MethodName := ⟨RX6, "hypotheticalSize", "(I)I"⟩
abbrev cX6_box : ByteArray := prog_1_method_17_code
def yX6_box : MethodName := ⟨RX6, "box", "(II)I"⟩
abbrev cX6_rounds : ByteArray := prog_1_method_18_code
def yX6_rounds : MethodName := ⟨RX6, "rounds", "(I)I"⟩
abbrev cX6_freeSpace : ByteArray := prog_1_method_19_code
def yX6_freeSpace : MethodName := ⟨RX6, "freeSpace", "(I)I"⟩
abbrev cX6_lineCross : ByteArray := prog_1_method_20_code
def yX6_lineCross : MethodName := ⟨RX6, "lineCross", "(I)I"⟩
abbrev cX6_lineAscent : ByteArray := prog_1_method_21_code
def yX6_lineAscent : MethodName := ⟨RX6, "lineAscent", "(I)I"⟩
abbrev cX6_crossExtent : ByteArray := prog_1_method_22_code
def yX6_crossExtent : MethodName := ⟨RX6, "crossExtent", "()I"⟩
abbrev cX6_overflows : ByteArray := prog_1_method_23_code
def yX6_overflows : MethodName := ⟨RX6, "overflows", "(I)Z"⟩
abbrev cX6_itemUnder : ByteArray := prog_1_method_24_code
def yX6_itemUnder : MethodName := ⟨RX6, "itemUnder", "(II)I"⟩
abbrev cX6_overlaps : ByteArray := prog_1_method_25_code
def yX6_overlaps : MethodName := ⟨RX6, "overlaps", "()I"⟩
abbrev cX6_narrowest : ByteArray := prog_1_method_26_code
def yX6_narrowest : MethodName := ⟨RX6, "narrowest", "(I)I"⟩
abbrev cX6_share : ByteArray := prog_1_method_27_code
def yX6_share : MethodName := ⟨RX6, "share", "(III)I"⟩
abbrev cX6_save : ByteArray := prog_1_method_28_code
def yX6_save : MethodName := ⟨RX6, "save", "()I"⟩
abbrev cX6_restore : ByteArray := prog_1_method_29_code
def yX6_restore : MethodName := ⟨RX6, "restore", "()I"⟩
abbrev cX6_requireRoom : ByteArray := prog_1_method_30_code
def yX6_requireRoom : MethodName := ⟨RX6, "requireRoom", "()V"⟩
abbrev cX6_requireItem : ByteArray := prog_1_method_31_code
def yX6_requireItem : MethodName := ⟨RX6, "requireItem", "(I)V"⟩
abbrev cX6_requireLine : ByteArray := prog_1_method_32_code
def yX6_requireLine : MethodName := ⟨RX6, "requireLine", "(I)V"⟩
abbrev cX6_requireProperty : ByteArray := prog_1_method_33_code
def yX6_requireProperty : MethodName := ⟨RX6, "requireProperty", "(I)V"⟩
abbrev cX6_layOut : ByteArray := prog_1_method_34_code
def yX6_layOut : MethodName := ⟨RX6, "layOut", "()V"⟩
abbrev cX6_contains : ByteArray := prog_1_method_35_code
def yX6_contains : MethodName := ⟨RX6, "contains", "(III)Z"⟩
abbrev cX6_haveCommonPoint : ByteArray := prog_1_method_36_code
def yX6_haveCommonPoint : MethodName := ⟨RX6, "haveCommonPoint", "(II)Z"⟩
abbrev cX6_meet : ByteArray := prog_1_method_37_code
def yX6_meet : MethodName := ⟨RX6, "meet", "([I[III)Z"⟩
abbrev cX6_isWithin : ByteArray := prog_1_method_38_code
def yX6_isWithin : MethodName := ⟨RX6, "isWithin", "(III)Z"⟩
abbrev cX6_canHave : ByteArray := prog_1_method_39_code
def yX6_canHave : MethodName := ⟨RX6, "canHave", "(II)Z"⟩
abbrev cX6_canBeWeight : ByteArray := prog_1_method_40_code
def yX6_canBeWeight : MethodName := ⟨RX6, "canBeWeight", "(I)Z"⟩
abbrev cX6_offset : ByteArray := prog_1_method_41_code
def yX6_offset : MethodName := ⟨RX6, "offset", "(IIII)I"⟩
def RX7 : String := "FlexLayoutModel"
def TX7 : u_T := fun k => match k with
  | 0 => ("FlexLayoutModel", "thrown", "I", false)
  | 1 => ("FlexLayoutModel", "box", "[I", true)
  | 2 => ("FlexLayoutModel", "property", "[I", true)
  | 3 => ("FlexLayoutModel", "items", "I", false)
  | 4 => ("FlexLayoutModel", "input", "[C", true)
  | 5 => ("FlexLayoutModel", "told", "[I", true)
  | 6 => ("FlexLayoutModel", "value", "[I", true)
  | 7 => ("FlexLayoutModel", "toldAt", "[I", true)
  | 8 => ("FlexLayoutModel", "fed", "I", false)
  | 9 => ("FlexLayoutModel", "at", "I", false)
  | 10 => ("FlexLayoutModel", "settings", "I", false)
  | 11 => ("FlexLayoutModel", "weight", "[J", true)
  | 12 => ("FlexLayoutModel", "part", "[J", true)
  | 13 => ("FlexLayoutModel", "rest", "[J", true)
  | 14 => ("FlexLayoutModel", "itemAt", "[I", true)
  | 15 => ("FlexLayoutModel", "size", "[I", true)
  | 16 => ("FlexLayoutModel", "lineAt", "[I", true)
  | 17 => ("FlexLayoutModel", "cross", "[I", true)
  | 18 => ("FlexLayoutModel", "main", "[I", true)
  | 19 => ("FlexLayoutModel", "across", "[I", true)
  | 20 => ("FlexLayoutModel", "placeOf", "[I", true)
  | 21 => ("FlexLayoutModel", "isFrozen", "[Z", true)
  | 22 => ("FlexLayoutModel", "first", "[I", true)
  | 23 => ("FlexLayoutModel", "many", "[I", true)
  | 24 => ("FlexLayoutModel", "rounds", "[I", true)
  | 25 => ("FlexLayoutModel", "free", "[I", true)
  | 26 => ("FlexLayoutModel", "lineCross", "[I", true)
  | 27 => ("FlexLayoutModel", "ascent", "[I", true)
  | 28 => ("FlexLayoutModel", "natural", "[I", true)
  | 29 => ("FlexLayoutModel", "lineAcross", "[I", true)
  | 30 => ("FlexLayoutModel", "lines", "I", false)
  | 31 => ("FlexLayoutModel", "extent", "I", false)
  | 32 => ("FlexLayoutModel", "violation", "[I", true)
  | 33 => ("FlexLayoutModel", "saved", "[I", true)
  | _ => ("FlexLayoutModel", "savedItems", "I", false)
def tyX7 : Nat → FieldType := fun k => match k with
  | 0 => .int
  | 1 => .array .int
  | 2 => .array .int
  | 3 => .int
  | 4 => .array .char
  | 5 => .array .int
  | 6 => .array .int
  | 7 => .array .int
  | 8 => .int
  | 9 => .int
  | 10 => .int
  | 11 => .array .long
  | 12 => .array .long
  | 13 => .array .long
  | 14 => .array .int
  | 15 => .array .int
  | 16 => .array .int
  | 17 => .array .int
  | 18 => .array .int
  | 19 => .array .int
  | 20 => .array .int
  | 21 => .array .boolean
  | 22 => .array .int
  | 23 => .array .int
  | 24 => .array .int
  | 25 => .array .int
  | 26 => .array .int
  | 27 => .array .int
  | 28 => .array .int
  | 29 => .array .int
  | 30 => .int
  | 31 => .int
  | 32 => .array .int
  | 33 => .array .int
  | _ => .int
abbrev wsX70 : List Cond := u_ws RX7 TX7 35
theorem nmX7 : ∀ a, a < 35 → ∀ b, b < 35 → a ≠ b → (TX7 a).2.1 ≠ (TX7 b).2.1 := by decide +kernel
theorem tyX7_ok : ∀ k, k < 35 → parseFieldDescriptor (TX7 k).2.2.1 = some (tyX7 k) := by decide +kernel
abbrev cX7_init : ByteArray := prog_9_method_1_code
def yX7_init : MethodName := ⟨RX7, "<init>", "()V"⟩
abbrev cX7_thrown : ByteArray := prog_9_method_2_code
def yX7_thrown : MethodName := ⟨RX7, "thrown", "()I"⟩
abbrev cX7_fails : ByteArray := prog_9_method_3_code
def yX7_fails : MethodName := ⟨RX7, "fails", "(I)I"⟩
abbrev cX7_isBetween : ByteArray := prog_9_method_4_code
def yX7_isBetween : MethodName := ⟨RX7, "isBetween", "(JJJ)Z"⟩
abbrev cX7_replaces : ByteArray := prog_9_method_5_code
def yX7_replaces : MethodName := ⟨RX7, "replaces", "(II)I"⟩
abbrev cX7_setMainSize : ByteArray := prog_9_method_6_code
def yX7_setMainSize : MethodName := ⟨RX7, "setMainSize", "(I)I"⟩
abbrev cX7_setCrossSize : ByteArray := prog_9_method_7_code
def yX7_setCrossSize : MethodName := ⟨RX7, "setCrossSize", "(I)I"⟩
abbrev cX7_setGaps : ByteArray := prog_9_method_8_code
def yX7_setGaps : MethodName := ⟨RX7, "setGaps", "(II)I"⟩
abbrev cX7_setSetting : ByteArray := prog_9_method_9_code
def yX7_setSetting : MethodName := ⟨RX7, "setSetting", "(II)I"⟩
abbrev cX7_isItem : ByteArray := prog_9_method_10_code
def yX7_isItem : MethodName := ⟨RX7, "isItem", "(I)Z"⟩
abbrev cX7_of : ByteArray := prog_9_method_11_code
def yX7_of : MethodName := ⟨RX7, "of", "(II)I"⟩
abbrev cX7_begins : ByteArray := prog_9_method_12_code
def yX7_begins : MethodName := ⟨RX7, "begins", "(II)I"⟩
abbrev cX7_addItem : ByteArray := prog_9_method_13_code
def yX7_addItem : MethodName := ⟨RX7, "addItem", "(II)I"⟩
abbrev cX7_removeItem : ByteArray := prog_9_method_14_code
def yX7_removeItem : MethodName := ⟨RX7, "removeItem", "(I)I"⟩
abbrev cX7_items : ByteArray := prog_9_method_15_code
def yX7_items : MethodName := ⟨RX7, "items", "()I"⟩
abbrev cX7_setProperty : ByteArray := prog_9_method_16_code
def yX7_setProperty : MethodName := ⟨RX7, "setProperty", "(III)I"⟩
abbrev cX7_property : ByteArray := prog_9_method_17_code
def yX7_property : MethodName := ⟨RX7, "property", "(II)I"⟩
abbrev cX7_feed : ByteArray := prog_9_method_18_code
def yX7_feed : MethodName := ⟨RX7, "feed", "(C)I"⟩
abbrev cX7_propertyOf : ByteArray := prog_9_method_19_code
def yX7_propertyOf : MethodName := ⟨RX7, "propertyOf", "(C)I"⟩
abbrev cX7_isDigit : ByteArray := prog_9_method_20_code
def yX7_isDigit : MethodName := ⟨RX7, "isDigit", "()Z"⟩
abbrev cX7_takesSetting : ByteArray := prog_9_method_21_code
def yX7_takesSetting : MethodName := ⟨RX7, "takesSetting", "()Z"⟩
abbrev cX7_takesAll : ByteArray := prog_9_method_22_code
def yX7_takesAll : MethodName := ⟨RX7, "takesAll", "()Z"⟩
abbrev cX7_readItem : ByteArray := prog_9_method_23_code
def yX7_readItem : MethodName := ⟨RX7, "readItem", "()I"⟩
abbrev cX7_divides : ByteArray := prog_9_method_24_code
def yX7_divides : MethodName := ⟨RX7, "divides", "(JI)V"⟩
abbrev cX7_clamped : ByteArray := prog_9_method_25_code
def yX7_clamped : MethodName := ⟨RX7, "clamped", "(II)I"⟩
abbrev cX7_hypothetical : ByteArray := prog_9_method_26_code
def yX7_hypothetical : MethodName := ⟨RX7, "hypothetical", "(I)I"⟩
abbrev cX7_findSequence : ByteArray := prog_9_method_27_code
def yX7_findSequence : MethodName := ⟨RX7, "findSequence", "()V"⟩
abbrev cX7_findLines : ByteArray := prog_9_method_28_code
def yX7_findLines : MethodName := ⟨RX7, "findLines", "(IZ)V"⟩
abbrev cX7_available : ByteArray := prog_9_method_29_code
def yX7_available : MethodName := ⟨RX7, "available", "(I)I"⟩
abbrev cX7_leftOf : ByteArray := prog_9_method_30_code
def yX7_leftOf : MethodName := ⟨RX7, "leftOf", "(I)I"⟩
abbrev cX7_hasShares : ByteArray := prog_9_method_31_code
def yX7_hasShares : MethodName := ⟨RX7, "hasShares", "(IIZ)Z"⟩
abbrev cX7_areFrozen : ByteArray := prog_9_method_32_code
def yX7_areFrozen : MethodName := ⟨RX7, "areFrozen", "(I)Z"⟩
abbrev cX7_round : ByteArray := prog_9_method_33_code
def yX7_round : MethodName := ⟨RX7, "round", "(IZ)V"⟩
abbrev cX7_findSizes : ByteArray := prog_9_method_34_code
def yX7_findSizes : MethodName := ⟨RX7, "findSizes", "(I)V"⟩
abbrev cX7_alignmentOf : ByteArray := prog_9_method_35_code
def yX7_alignmentOf : MethodName := ⟨RX7, "alignmentOf", "(I)I"⟩
abbrev cX7_findNatural : ByteArray := prog_9_method_36_code
def yX7_findNatural : MethodName := ⟨RX7, "findNatural", "(I)V"⟩
abbrev cX7_crossLeft : ByteArray := prog_9_method_37_code
def yX7_crossLeft : MethodName := ⟨RX7, "crossLeft", "()I"⟩
abbrev cX7_findLineCrosses : ByteArray := prog_9_method_38_code
def yX7_findLineCrosses : MethodName := ⟨RX7, "findLineCrosses", "()V"⟩
abbrev cX7_floor : ByteArray := prog_9_method_39_code
def yX7_floor : MethodName := ⟨RX7, "floor", "(II)I"⟩
abbrev cX7_offset : ByteArray := prog_9_method_40_code
def yX7_offset : MethodName := ⟨RX7, "offset", "(IIII)I"⟩
abbrev cX7_findPlaces : ByteArray := prog_9_method_41_code
def yX7_findPlaces : MethodName := ⟨RX7, "findPlaces", "(I)V"⟩
abbrev cX7_findLayout : ByteArray := prog_9_method_42_code
def yX7_findLayout : MethodName := ⟨RX7, "findLayout", "()V"⟩
abbrev cX7_lines : ByteArray := prog_9_method_43_code
def yX7_lines : MethodName := ⟨RX7, "lines", "()I"⟩
abbrev cX7_lineOf : ByteArray := prog_9_method_44_code
def yX7_lineOf : MethodName := ⟨RX7, "lineOf", "(I)I"⟩
abbrev cX7_itemAt : ByteArray := prog_9_method_45_code
def yX7_itemAt : MethodName := ⟨RX7, "itemAt", "(I)I"⟩
abbrev cX7_hypotheticalSize : ByteArray := prog_9_method_46_code
def yX7_hypotheticalSize : MethodName := ⟨RX7, "hypotheticalSize", "(I)I"⟩
abbrev cX7_coordinate : ByteArray := prog_9_method_47_code
def yX7_coordinate : MethodName := ⟨RX7, "coordinate", "(II)I"⟩
abbrev cX7_box : ByteArray := prog_9_method_48_code
def yX7_box : MethodName := ⟨RX7, "box", "(II)I"⟩
abbrev cX7_isLine : ByteArray := prog_9_method_49_code
def yX7_isLine : MethodName := ⟨RX7, "isLine", "(I)Z"⟩
abbrev cX7_rounds : ByteArray := prog_9_method_50_code
def yX7_rounds : MethodName := ⟨RX7, "rounds", "(I)I"⟩
abbrev cX7_freeSpace : ByteArray := prog_9_method_51_code
def yX7_freeSpace : MethodName := ⟨RX7, "freeSpace", "(I)I"⟩
abbrev cX7_lineCross : ByteArray := prog_9_method_52_code
def yX7_lineCross : MethodName := ⟨RX7, "lineCross", "(I)I"⟩
abbrev cX7_lineAscent : ByteArray := prog_9_method_53_code
def yX7_lineAscent : MethodName := ⟨RX7, "lineAscent", "(I)I"⟩
abbrev cX7_crossExtent : ByteArray := prog_9_method_54_code
def yX7_crossExtent : MethodName := ⟨RX7, "crossExtent", "()I"⟩
abbrev cX7_overflows : ByteArray := prog_9_method_55_code
def yX7_overflows : MethodName := ⟨RX7, "overflows", "(I)Z"⟩
abbrev cX7_itemUnder : ByteArray := prog_9_method_56_code
def yX7_itemUnder : MethodName := ⟨RX7, "itemUnder", "(II)I"⟩
abbrev cX7_meet : ByteArray := prog_9_method_57_code
def yX7_meet : MethodName := ⟨RX7, "meet", "(III)Z"⟩
abbrev cX7_overlaps : ByteArray := prog_9_method_58_code
def yX7_overlaps : MethodName := ⟨RX7, "overlaps", "()I"⟩
abbrev cX7_narrowest : ByteArray := prog_9_method_59_code
def yX7_narrowest : MethodName := ⟨RX7, "narrowest", "(I)I"⟩
abbrev cX7_share : ByteArray := prog_9_method_60_code
def yX7_share : MethodName := ⟨RX7, "share", "(III)I"⟩
abbrev cX7_save : ByteArray := prog_9_method_61_code
def yX7_save : MethodName := ⟨RX7, "save", "()I"⟩
abbrev cX7_restore : ByteArray := prog_9_method_62_code
def yX7_restore : MethodName := ⟨RX7, "restore", "()I"⟩
def RJx145de : String := "java/io/Serializable"
def TJx145de : u_T := fun k => match k with
  | _ => ("", "", "", false)
def tyJx145de : Nat → FieldType := fun k => match k with
  | _ => .int
abbrev wsJx145de0 : List Cond := u_ws RJx145de TJx145de 0
theorem nmJx145de : ∀ a, a < 0 → ∀ b, b < 0 → a ≠ b → (TJx145de a).2.1 ≠ (TJx145de b).2.1 := by decide +kernel
theorem tyJx145de_ok : ∀ k, k < 0 → parseFieldDescriptor (TJx145de k).2.2.1 = some (tyJx145de k) := by decide +kernel
def RJx00060 : String := "java/lang/ArrayIndexOutOfBoundsException"
def TJx00060 : u_T := fun k => match k with
  | 0 => ("java/lang/Throwable", "backtrace", "Ljava/lang/Object;", false)
  | 1 => ("java/lang/Throwable", "detailMessage", "Ljava/lang/String;", false)
  | 2 => ("java/lang/Throwable", "cause", "Ljava/lang/Throwable;", false)
  | 3 => ("java/lang/Throwable", "stackTrace", "[Ljava/lang/StackTraceElement;", false)
  | 4 => ("java/lang/Throwable", "depth", "I", false)
  | _ => ("java/lang/Throwable", "suppressedExceptions", "Ljava/util/List;", false)
def tyJx00060 : Nat → FieldType := fun k => match k with
  | 0 => .object "java/lang/Object"
  | 1 => .object "java/lang/String"
  | 2 => .object "java/lang/Throwable"
  | 3 => .array (.object "java/lang/StackTraceElement")
  | 4 => .int
  | _ => .object "java/util/List"
abbrev wsJx000600 : List Cond := u_ws RJx00060 TJx00060 6
theorem nmJx00060 : ∀ a, a < 6 → ∀ b, b < 6 → a ≠ b → (TJx00060 a).2.1 ≠ (TJx00060 b).2.1 := by decide +kernel
theorem tyJx00060_ok : ∀ k, k < 6 → parseFieldDescriptor (TJx00060 k).2.2.1 = some (tyJx00060 k) := by decide +kernel
abbrev cJx00060_init_a7421 : ByteArray := prog_12_method_2_code
def yJx00060_init_a7421 : MethodName := ⟨RJx00060, "<init>", "(Ljava/lang/String;)V"⟩
def RJ9 : String := "java/lang/Math"
def TJ9 : u_T := fun k => match k with
  | _ => ("", "", "", false)
def tyJ9 : Nat → FieldType := fun k => match k with
  | _ => .int
abbrev wsJ90 : List Cond := u_ws RJ9 TJ9 0
theorem nmJ9 : ∀ a, a < 0 → ∀ b, b < 0 → a ≠ b → (TJ9 a).2.1 ≠ (TJ9 b).2.1 := by decide +kernel
theorem tyJ9_ok : ∀ k, k < 0 → parseFieldDescriptor (TJ9 k).2.2.1 = some (tyJ9 k) := by decide +kernel
abbrev cJ9_floorDiv_7cf53 : ByteArray := prog_17_method_47_code
def yJ9_floorDiv_7cf53 : MethodName := ⟨RJ9, "floorDiv", "(II)I"⟩
abbrev cJ9_abs_0f7a4 : ByteArray := prog_17_method_59_code
def yJ9_abs_0f7a4 : MethodName := ⟨RJ9, "abs", "(I)I"⟩
abbrev cJ9_max_7cf53 : ByteArray := prog_17_method_65_code
def yJ9_max_7cf53 : MethodName := ⟨RJ9, "max", "(II)I"⟩
abbrev cJ9_min_7cf53 : ByteArray := prog_17_method_69_code
def yJ9_min_7cf53 : MethodName := ⟨RJ9, "min", "(II)I"⟩
def RJ0 : String := "java/lang/String"
def TJ0 : u_T := fun k => match k with
  | 0 => ("java/lang/String", "value", "[B", true)
  | _ => ("java/lang/String", "coder", "B", true)
def tyJ0 : Nat → FieldType := fun k => match k with
  | 0 => .array .byte
  | _ => .byte
abbrev wsJ00 : List Cond := u_ws RJ0 TJ0 2
theorem nmJ0 : ∀ a, a < 2 → ∀ b, b < 2 → a ≠ b → (TJ0 a).2.1 ≠ (TJ0 b).2.1 := by decide +kernel
theorem tyJ0_ok : ∀ k, k < 2 → parseFieldDescriptor (TJ0 k).2.2.1 = some (tyJ0 k) := by decide +kernel
def RJ10 : String := "java/lang/System"
def TJ10 : u_T := fun k => match k with
  | _ => ("", "", "", false)
def tyJ10 : Nat → FieldType := fun k => match k with
  | _ => .int
abbrev wsJ100 : List Cond := u_ws RJ10 TJ10 0
theorem nmJ10 : ∀ a, a < 0 → ∀ b, b < 0 → a ≠ b → (TJ10 a).2.1 ≠ (TJ10 b).2.1 := by decide +kernel
theorem tyJ10_ok : ∀ k, k < 0 → parseFieldDescriptor (TJ10 k).2.2.1 = some (tyJ10 k) := by decide +kernel
def RL : String := "FlexLayoutLaw"
abbrev cL_setMainSize : ByteArray := method_3_code
def yL_setMainSize : MethodName := ⟨RL, "setMainSize", "(LFlexLayout;I[J)I"⟩
abbrev cL_setCrossSize : ByteArray := method_4_code
def yL_setCrossSize : MethodName := ⟨RL, "setCrossSize", "(LFlexLayout;I[J)I"⟩
abbrev cL_setGaps : ByteArray := method_5_code
def yL_setGaps : MethodName := ⟨RL, "setGaps", "(LFlexLayout;II[J)I"⟩
abbrev cL_setSetting : ByteArray := method_6_code
def yL_setSetting : MethodName := ⟨RL, "setSetting", "(LFlexLayout;II[J)I"⟩
abbrev cL_addItem : ByteArray := method_7_code
def yL_addItem : MethodName := ⟨RL, "addItem", "(LFlexLayout;II[J)I"⟩
abbrev cL_removeItem : ByteArray := method_8_code
def yL_removeItem : MethodName := ⟨RL, "removeItem", "(LFlexLayout;I[J)I"⟩
abbrev cL_setProperty : ByteArray := method_9_code
def yL_setProperty : MethodName := ⟨RL, "setProperty", "(LFlexLayout;III[J)I"⟩
abbrev cL_property : ByteArray := method_10_code
def yL_property : MethodName := ⟨RL, "property", "(LFlexLayout;II[J)I"⟩
abbrev cL_feed : ByteArray := method_11_code
def yL_feed : MethodName := ⟨RL, "feed", "(LFlexLayout;C[J)I"⟩
abbrev cL_readItem : ByteArray := method_12_code
def yL_readItem : MethodName := ⟨RL, "readItem", "(LFlexLayout;[J)I"⟩
abbrev cL_lineOf : ByteArray := method_13_code
def yL_lineOf : MethodName := ⟨RL, "lineOf", "(LFlexLayout;I[J)I"⟩
abbrev cL_itemAt : ByteArray := method_14_code
def yL_itemAt : MethodName := ⟨RL, "itemAt", "(LFlexLayout;I[J)I"⟩
abbrev cL_hypotheticalSize : ByteArray := method_15_code
def yL_hypotheticalSize : MethodName := ⟨RL, "hypotheticalSize", "(LFlexLayout;I[J)I"⟩
abbrev cL_box : ByteArray := method_16_code
def yL_box : MethodName := ⟨RL, "box", "(LFlexLayout;II[J)I"⟩
abbrev cL_rounds : ByteArray := method_17_code
def yL_rounds : MethodName := ⟨RL, "rounds", "(LFlexLayout;I[J)I"⟩
abbrev cL_freeSpace : ByteArray := method_18_code
def yL_freeSpace : MethodName := ⟨RL, "freeSpace", "(LFlexLayout;I[J)I"⟩
abbrev cL_lineCross : ByteArray := method_19_code
def yL_lineCross : MethodName := ⟨RL, "lineCross", "(LFlexLayout;I[J)I"⟩
abbrev cL_lineAscent : ByteArray := method_20_code
def yL_lineAscent : MethodName := ⟨RL, "lineAscent", "(LFlexLayout;I[J)I"⟩
abbrev cL_overflows : ByteArray := method_21_code
def yL_overflows : MethodName := ⟨RL, "overflows", "(LFlexLayout;I[J)I"⟩
abbrev cL_itemUnder : ByteArray := method_22_code
def yL_itemUnder : MethodName := ⟨RL, "itemUnder", "(LFlexLayout;II[J)I"⟩
abbrev cL_narrowest : ByteArray := method_23_code
def yL_narrowest : MethodName := ⟨RL, "narrowest", "(LFlexLayout;I[J)I"⟩
abbrev cL_share : ByteArray := method_24_code
def yL_share : MethodName := ⟨RL, "share", "(LFlexLayout;III[J)I"⟩
abbrev cL_restore : ByteArray := method_25_code
def yL_restore : MethodName := ⟨RL, "restore", "(LFlexLayout;[J)I"⟩
abbrev cL_law : ByteArray := code
def yL_law : MethodName := ⟨RL, "law", "([I)Z"⟩
abbrev vwCl : List vw_C := [(RJ0, TJ0, 2), (RJx00060, TJx00060, 6), (RX0, TX0, 3), (RX1, TX1, 7), (RX2, TX2, 5), (RX3, TX3, 3), (RX4, TX4, 2), (RX5, TX5, 6), (RX6, TX6, 8), (RX7, TX7, 35)]
end
section
theorem dX0_init_0 : decode cX0_init 0 = .ok (.aload_n 0, 1) := by decide +kernel
theorem dX0_init_1 : decode cX0_init 1 = .ok (.invokespecial 3, 3) := by decide +kernel
theorem dX0_init_4 : decode cX0_init 4 = .ok (.aload_n 0, 1) := by decide +kernel
theorem dX0_init_5 : decode cX0_init 5 = .ok (.bipush 20, 2) := by decide +kernel
theorem dX0_init_7 : decode cX0_init 7 = .ok (.newarray .int, 2) := by decide +kernel
theorem dX0_init_9 : decode cX0_init 9 = .ok (.putfield 9, 3) := by decide +kernel
theorem dX0_init_12 : decode cX0_init 12 = .ok (.aload_n 0, 1) := by decide +kernel
theorem dX0_init_13 : decode cX0_init 13 = .ok (.bipush 21, 2) := by decide +kernel
theorem dX0_init_15 : decode cX0_init 15 = .ok (.newarray .int, 2) := by decide +kernel
theorem dX0_init_17 : decode cX0_init 17 = .ok (.putfield 15, 3) := by decide +kernel
theorem dX0_init_20 : decode cX0_init 20 = .ok (.aload_n 0, 1) := by decide +kernel
theorem dX0_init_21 : decode cX0_init 21 = .ok (.iconst 0, 1) := by decide +kernel
theorem dX0_init_22 : decode cX0_init 22 = .ok (.putfield 18, 3) := by decide +kernel
theorem dX0_init_25 : decode cX0_init 25 = .ok (.return_, 1) := by decide +kernel
theorem dX0_arrange_0 : decode cX0_arrange 0 = .ok (.aload_n 0, 1) := by decide +kernel
theorem dX0_arrange_1 : decode cX0_arrange 1 = .ok (.aload_n 1, 1) := by decide +kernel
theorem dX0_arrange_2 : decode cX0_arrange 2 = .ok (.invokevirtual 22, 3) := by decide +kernel
theorem dX0_arrange_5 : decode cX0_arrange 5 = .ok (.aload_n 1, 1) := by decide +kernel
theorem dX0_arrange_6 : decode cX0_arrange 6 = .ok (.invokevirtual 26, 3) := by decide +kernel
theorem dX0_arrange_9 : decode cX0_arrange 9 = .ok (.ifCond .eq 19, 3) := by decide +kernel
theorem dX0_arrange_12 : decode cX0_arrange 12 = .ok (.aload_n 0, 1) := by decide +kernel
theorem dX0_arrange_13 : decode cX0_arrange 13 = .ok (.aload_n 0, 1) := by decide +kernel
theorem dX0_arrange_14 : decode cX0_arrange 14 = .ok (.aload_n 1, 1) := by decide +kernel
theorem dX0_arrange_15 : decode cX0_arrange 15 = .ok (.aload_n 1, 1) := by decide +kernel
theorem dX0_arrange_16 : decode cX0_arrange 16 = .ok (.getfield 32, 3) := by decide +kernel
theorem dX0_arrange_19 : decode cX0_arrange 19 = .ok (.invokevirtual 35, 3) := by decide +kernel
theorem dX0_arrange_22 : decode cX0_arrange 22 = .ok (.putfield 18, 3) := by decide +kernel
theorem dX0_arrange_25 : decode cX0_arrange 25 = .ok (.goto 39, 3) := by decide +kernel
theorem dX0_arrange_28 : decode cX0_arrange 28 = .ok (.aload_n 0, 1) := by decide +kernel
theorem dX0_arrange_29 : decode cX0_arrange 29 = .ok (.aload_n 1, 1) := by decide +kernel
theorem dX0_arrange_30 : decode cX0_arrange 30 = .ok (.getfield 39, 3) := by decide +kernel
theorem dX0_arrange_33 : decode cX0_arrange 33 = .ok (.ifCond .le 7, 3) := by decide +kernel
theorem dX0_arrange_36 : decode cX0_arrange 36 = .ok (.iconst 1, 1) := by decide +kernel
theorem dX0_arrange_37 : decode cX0_arrange 37 = .ok (.goto 4, 3) := by decide +kernel
theorem dX0_arrange_40 : decode cX0_arrange 40 = .ok (.iconst 0, 1) := by decide +kernel
theorem dX0_arrange_41 : decode cX0_arrange 41 = .ok (.putfield 18, 3) := by decide +kernel
theorem dX0_arrange_44 : decode cX0_arrange 44 = .ok (.aload_n 0, 1) := by decide +kernel
theorem dX0_arrange_45 : decode cX0_arrange 45 = .ok (.getfield 15, 3) := by decide +kernel
theorem dX0_arrange_48 : decode cX0_arrange 48 = .ok (.iconst 0, 1) := by decide +kernel
theorem dX0_arrange_49 : decode cX0_arrange 49 = .ok (.iconst 0, 1) := by decide +kernel
theorem dX0_arrange_50 : decode cX0_arrange 50 = .ok (.iastore, 1) := by decide +kernel
theorem dX0_arrange_51 : decode cX0_arrange 51 = .ok (.aload_n 0, 1) := by decide +kernel
theorem dX0_arrange_52 : decode cX0_arrange 52 = .ok (.getfield 15, 3) := by decide +kernel
theorem dX0_arrange_55 : decode cX0_arrange 55 = .ok (.aload_n 0, 1) := by decide +kernel
theorem dX0_arrange_56 : decode cX0_arrange 56 = .ok (.getfield 18, 3) := by decide +kernel
theorem dX0_arrange_59 : decode cX0_arrange 59 = .ok (.aload_n 1, 1) := by decide +kernel
theorem dX0_arrange_60 : decode cX0_arrange 60 = .ok (.getfield 39, 3) := by decide +kernel
theorem dX0_arrange_63 : decode cX0_arrange 63 = .ok (.iastore, 1) := by decide +kernel
theorem dX0_arrange_64 : decode cX0_arrange 64 = .ok (.return_, 1) := by decide +kernel
theorem dX0_putInSequence_0 : decode cX0_putInSequence 0 = .ok (.iconst 0, 1) := by decide +kernel
theorem dX0_putInSequence_1 : decode cX0_putInSequence 1 = .ok (.istore_n 2, 1) := by decide +kernel
theorem dX0_putInSequence_2 : decode cX0_putInSequence 2 = .ok (.iload_n 2, 1) := by decide +kernel
theorem dX0_putInSequence_3 : decode cX0_putInSequence 3 = .ok (.aload_n 1, 1) := by decide +kernel
theorem dX0_putInSequence_4 : decode cX0_putInSequence 4 = .ok (.getfield 39, 3) := by decide +kernel
theorem dX0_putInSequence_7 : decode cX0_putInSequence 7 = .ok (.if_icmp .ge 78, 3) := by decide +kernel
theorem dX0_putInSequence_10 : decode cX0_putInSequence 10 = .ok (.aload_n 1, 1) := by decide +kernel
theorem dX0_putInSequence_11 : decode cX0_putInSequence 11 = .ok (.getfield 42, 3) := by decide +kernel
theorem dX0_putInSequence_14 : decode cX0_putInSequence 14 = .ok (.iload_n 2, 1) := by decide +kernel
theorem dX0_putInSequence_15 : decode cX0_putInSequence 15 = .ok (.aaload, 1) := by decide +kernel
theorem dX0_putInSequence_16 : decode cX0_putInSequence 16 = .ok (.bipush 8, 2) := by decide +kernel
theorem dX0_putInSequence_18 : decode cX0_putInSequence 18 = .ok (.iaload, 1) := by decide +kernel
theorem dX0_putInSequence_19 : decode cX0_putInSequence 19 = .ok (.istore_n 3, 1) := by decide +kernel
theorem dX0_putInSequence_20 : decode cX0_putInSequence 20 = .ok (.iload_n 2, 1) := by decide +kernel
theorem dX0_putInSequence_21 : decode cX0_putInSequence 21 = .ok (.istore 4, 2) := by decide +kernel
theorem dX0_putInSequence_23 : decode cX0_putInSequence 23 = .ok (.iload 4, 2) := by decide +kernel
theorem dX0_putInSequence_25 : decode cX0_putInSequence 25 = .ok (.ifCond .le 46, 3) := by decide +kernel
theorem dX0_putInSequence_28 : decode cX0_putInSequence 28 = .ok (.aload_n 1, 1) := by decide +kernel
theorem dX0_putInSequence_29 : decode cX0_putInSequence 29 = .ok (.getfield 42, 3) := by decide +kernel
theorem dX0_putInSequence_32 : decode cX0_putInSequence 32 = .ok (.aload_n 0, 1) := by decide +kernel
theorem dX0_putInSequence_33 : decode cX0_putInSequence 33 = .ok (.getfield 9, 3) := by decide +kernel
theorem dX0_putInSequence_36 : decode cX0_putInSequence 36 = .ok (.iload 4, 2) := by decide +kernel
theorem dX0_putInSequence_38 : decode cX0_putInSequence 38 = .ok (.iconst 1, 1) := by decide +kernel
theorem dX0_putInSequence_39 : decode cX0_putInSequence 39 = .ok (.isub, 1) := by decide +kernel
theorem dX0_putInSequence_40 : decode cX0_putInSequence 40 = .ok (.iaload, 1) := by decide +kernel
theorem dX0_putInSequence_41 : decode cX0_putInSequence 41 = .ok (.aaload, 1) := by decide +kernel
theorem dX0_putInSequence_42 : decode cX0_putInSequence 42 = .ok (.bipush 8, 2) := by decide +kernel
theorem dX0_putInSequence_44 : decode cX0_putInSequence 44 = .ok (.iaload, 1) := by decide +kernel
theorem dX0_putInSequence_45 : decode cX0_putInSequence 45 = .ok (.iload_n 3, 1) := by decide +kernel
theorem dX0_putInSequence_46 : decode cX0_putInSequence 46 = .ok (.if_icmp .le 25, 3) := by decide +kernel
theorem dX0_putInSequence_49 : decode cX0_putInSequence 49 = .ok (.aload_n 0, 1) := by decide +kernel
theorem dX0_putInSequence_50 : decode cX0_putInSequence 50 = .ok (.getfield 9, 3) := by decide +kernel
theorem dX0_putInSequence_53 : decode cX0_putInSequence 53 = .ok (.iload 4, 2) := by decide +kernel
theorem dX0_putInSequence_55 : decode cX0_putInSequence 55 = .ok (.aload_n 0, 1) := by decide +kernel
theorem dX0_putInSequence_56 : decode cX0_putInSequence 56 = .ok (.getfield 9, 3) := by decide +kernel
theorem dX0_putInSequence_59 : decode cX0_putInSequence 59 = .ok (.iload 4, 2) := by decide +kernel
theorem dX0_putInSequence_61 : decode cX0_putInSequence 61 = .ok (.iconst 1, 1) := by decide +kernel
theorem dX0_putInSequence_62 : decode cX0_putInSequence 62 = .ok (.isub, 1) := by decide +kernel
theorem dX0_putInSequence_63 : decode cX0_putInSequence 63 = .ok (.iaload, 1) := by decide +kernel
theorem dX0_putInSequence_64 : decode cX0_putInSequence 64 = .ok (.iastore, 1) := by decide +kernel
theorem dX0_putInSequence_65 : decode cX0_putInSequence 65 = .ok (.iinc 4 (-1), 3) := by decide +kernel
theorem dX0_putInSequence_68 : decode cX0_putInSequence 68 = .ok (.goto (-45), 3) := by decide +kernel
theorem dX0_putInSequence_71 : decode cX0_putInSequence 71 = .ok (.aload_n 0, 1) := by decide +kernel
theorem dX0_putInSequence_72 : decode cX0_putInSequence 72 = .ok (.getfield 9, 3) := by decide +kernel
theorem dX0_putInSequence_75 : decode cX0_putInSequence 75 = .ok (.iload 4, 2) := by decide +kernel
theorem dX0_putInSequence_77 : decode cX0_putInSequence 77 = .ok (.iload_n 2, 1) := by decide +kernel
theorem dX0_putInSequence_78 : decode cX0_putInSequence 78 = .ok (.iastore, 1) := by decide +kernel
theorem dX0_putInSequence_79 : decode cX0_putInSequence 79 = .ok (.iinc 2 1, 3) := by decide +kernel
theorem dX0_putInSequence_82 : decode cX0_putInSequence 82 = .ok (.goto (-80), 3) := by decide +kernel
theorem dX0_putInSequence_85 : decode cX0_putInSequence 85 = .ok (.return_, 1) := by decide +kernel
theorem dX0_fillLines_0 : decode cX0_fillLines 0 = .ok (.iconst 0, 1) := by decide +kernel
theorem dX0_fillLines_1 : decode cX0_fillLines 1 = .ok (.istore_n 3, 1) := by decide +kernel
theorem dX0_fillLines_2 : decode cX0_fillLines 2 = .ok (.iconst 0, 1) := by decide +kernel
theorem dX0_fillLines_3 : decode cX0_fillLines 3 = .ok (.istore 4, 2) := by decide +kernel
theorem dX0_fillLines_5 : decode cX0_fillLines 5 = .ok (.iconst 0, 1) := by decide +kernel
theorem dX0_fillLines_6 : decode cX0_fillLines 6 = .ok (.istore 5, 2) := by decide +kernel
theorem dX0_fillLines_8 : decode cX0_fillLines 8 = .ok (.iload 5, 2) := by decide +kernel
theorem dX0_fillLines_10 : decode cX0_fillLines 10 = .ok (.aload_n 1, 1) := by decide +kernel
theorem dX0_fillLines_11 : decode cX0_fillLines 11 = .ok (.getfield 39, 3) := by decide +kernel
theorem dX0_fillLines_14 : decode cX0_fillLines 14 = .ok (.if_icmp .ge 67, 3) := by decide +kernel
theorem dX0_fillLines_17 : decode cX0_fillLines 17 = .ok (.aload_n 1, 1) := by decide +kernel
theorem dX0_fillLines_18 : decode cX0_fillLines 18 = .ok (.aload_n 0, 1) := by decide +kernel
theorem dX0_fillLines_19 : decode cX0_fillLines 19 = .ok (.getfield 9, 3) := by decide +kernel
theorem dX0_fillLines_22 : decode cX0_fillLines 22 = .ok (.iload 5, 2) := by decide +kernel
theorem dX0_fillLines_24 : decode cX0_fillLines 24 = .ok (.iaload, 1) := by decide +kernel
theorem dX0_fillLines_25 : decode cX0_fillLines 25 = .ok (.invokevirtual 46, 3) := by decide +kernel
theorem dX0_fillLines_28 : decode cX0_fillLines 28 = .ok (.istore 6, 2) := by decide +kernel
theorem dX0_fillLines_30 : decode cX0_fillLines 30 = .ok (.iload 4, 2) := by decide +kernel
theorem dX0_fillLines_32 : decode cX0_fillLines 32 = .ok (.aload_n 1, 1) := by decide +kernel
theorem dX0_fillLines_33 : decode cX0_fillLines 33 = .ok (.getfield 50, 3) := by decide +kernel
theorem dX0_fillLines_36 : decode cX0_fillLines 36 = .ok (.iadd, 1) := by decide +kernel
theorem dX0_fillLines_37 : decode cX0_fillLines 37 = .ok (.iload 6, 2) := by decide +kernel
theorem dX0_fillLines_39 : decode cX0_fillLines 39 = .ok (.iadd, 1) := by decide +kernel
theorem dX0_fillLines_40 : decode cX0_fillLines 40 = .ok (.istore 7, 2) := by decide +kernel
theorem dX0_fillLines_42 : decode cX0_fillLines 42 = .ok (.iload 5, 2) := by decide +kernel
theorem dX0_fillLines_44 : decode cX0_fillLines 44 = .ok (.ifCond .eq 9, 3) := by decide +kernel
theorem dX0_fillLines_47 : decode cX0_fillLines 47 = .ok (.iload 7, 2) := by decide +kernel
theorem dX0_fillLines_49 : decode cX0_fillLines 49 = .ok (.iload_n 2, 1) := by decide +kernel
theorem dX0_fillLines_50 : decode cX0_fillLines 50 = .ok (.if_icmp .le 21, 3) := by decide +kernel
theorem dX0_fillLines_53 : decode cX0_fillLines 53 = .ok (.aload_n 0, 1) := by decide +kernel
theorem dX0_fillLines_54 : decode cX0_fillLines 54 = .ok (.getfield 15, 3) := by decide +kernel
theorem dX0_fillLines_57 : decode cX0_fillLines 57 = .ok (.iload_n 3, 1) := by decide +kernel
theorem dX0_fillLines_58 : decode cX0_fillLines 58 = .ok (.iload 5, 2) := by decide +kernel
theorem dX0_fillLines_60 : decode cX0_fillLines 60 = .ok (.iastore, 1) := by decide +kernel
theorem dX0_fillLines_61 : decode cX0_fillLines 61 = .ok (.iinc 3 1, 3) := by decide +kernel
theorem dX0_fillLines_64 : decode cX0_fillLines 64 = .ok (.iload 6, 2) := by decide +kernel
theorem dX0_fillLines_66 : decode cX0_fillLines 66 = .ok (.istore 4, 2) := by decide +kernel
theorem dX0_fillLines_68 : decode cX0_fillLines 68 = .ok (.goto 7, 3) := by decide +kernel
theorem dX0_fillLines_71 : decode cX0_fillLines 71 = .ok (.iload 7, 2) := by decide +kernel
theorem dX0_fillLines_73 : decode cX0_fillLines 73 = .ok (.istore 4, 2) := by decide +kernel
theorem dX0_fillLines_75 : decode cX0_fillLines 75 = .ok (.iinc 5 1, 3) := by decide +kernel
theorem dX0_fillLines_78 : decode cX0_fillLines 78 = .ok (.goto (-70), 3) := by decide +kernel
theorem dX0_fillLines_81 : decode cX0_fillLines 81 = .ok (.aload_n 0, 1) := by decide +kernel
theorem dX0_fillLines_82 : decode cX0_fillLines 82 = .ok (.getfield 15, 3) := by decide +kernel
theorem dX0_fillLines_85 : decode cX0_fillLines 85 = .ok (.iload_n 3, 1) := by decide +kernel
theorem dX0_fillLines_86 : decode cX0_fillLines 86 = .ok (.aload_n 1, 1) := by decide +kernel
theorem dX0_fillLines_87 : decode cX0_fillLines 87 = .ok (.getfield 39, 3) := by decide +kernel
theorem dX0_fillLines_90 : decode cX0_fillLines 90 = .ok (.iastore, 1) := by decide +kernel
theorem dX0_fillLines_91 : decode cX0_fillLines 91 = .ok (.iload_n 3, 1) := by decide +kernel
theorem dX0_fillLines_92 : decode cX0_fillLines 92 = .ok (.ireturn, 1) := by decide +kernel
theorem dX0_lineWith_0 : decode cX0_lineWith 0 = .ok (.iconst 0, 1) := by decide +kernel
theorem dX0_lineWith_1 : decode cX0_lineWith 1 = .ok (.istore_n 2, 1) := by decide +kernel
theorem dX0_lineWith_2 : decode cX0_lineWith 2 = .ok (.iload_n 2, 1) := by decide +kernel
theorem dX0_lineWith_3 : decode cX0_lineWith 3 = .ok (.aload_n 0, 1) := by decide +kernel
theorem dX0_lineWith_4 : decode cX0_lineWith 4 = .ok (.getfield 18, 3) := by decide +kernel
theorem dX0_lineWith_7 : decode cX0_lineWith 7 = .ok (.if_icmp .ge 46, 3) := by decide +kernel
theorem dX0_lineWith_10 : decode cX0_lineWith 10 = .ok (.aload_n 0, 1) := by decide +kernel
theorem dX0_lineWith_11 : decode cX0_lineWith 11 = .ok (.getfield 15, 3) := by decide +kernel
theorem dX0_lineWith_14 : decode cX0_lineWith 14 = .ok (.iload_n 2, 1) := by decide +kernel
theorem dX0_lineWith_15 : decode cX0_lineWith 15 = .ok (.iaload, 1) := by decide +kernel
theorem dX0_lineWith_16 : decode cX0_lineWith 16 = .ok (.istore_n 3, 1) := by decide +kernel
theorem dX0_lineWith_17 : decode cX0_lineWith 17 = .ok (.iload_n 3, 1) := by decide +kernel
theorem dX0_lineWith_18 : decode cX0_lineWith 18 = .ok (.aload_n 0, 1) := by decide +kernel
theorem dX0_lineWith_19 : decode cX0_lineWith 19 = .ok (.getfield 15, 3) := by decide +kernel
theorem dX0_lineWith_22 : decode cX0_lineWith 22 = .ok (.iload_n 2, 1) := by decide +kernel
theorem dX0_lineWith_23 : decode cX0_lineWith 23 = .ok (.iconst 1, 1) := by decide +kernel
theorem dX0_lineWith_24 : decode cX0_lineWith 24 = .ok (.iadd, 1) := by decide +kernel
theorem dX0_lineWith_25 : decode cX0_lineWith 25 = .ok (.iaload, 1) := by decide +kernel
theorem dX0_lineWith_26 : decode cX0_lineWith 26 = .ok (.if_icmp .ge 21, 3) := by decide +kernel
theorem dX0_lineWith_29 : decode cX0_lineWith 29 = .ok (.aload_n 0, 1) := by decide +kernel
theorem dX0_lineWith_30 : decode cX0_lineWith 30 = .ok (.getfield 9, 3) := by decide +kernel
theorem dX0_lineWith_33 : decode cX0_lineWith 33 = .ok (.iload_n 3, 1) := by decide +kernel
theorem dX0_lineWith_34 : decode cX0_lineWith 34 = .ok (.iaload, 1) := by decide +kernel
theorem dX0_lineWith_35 : decode cX0_lineWith 35 = .ok (.iload_n 1, 1) := by decide +kernel
theorem dX0_lineWith_36 : decode cX0_lineWith 36 = .ok (.if_icmp .ne 5, 3) := by decide +kernel
theorem dX0_lineWith_39 : decode cX0_lineWith 39 = .ok (.iload_n 2, 1) := by decide +kernel
theorem dX0_lineWith_40 : decode cX0_lineWith 40 = .ok (.ireturn, 1) := by decide +kernel
theorem dX0_lineWith_41 : decode cX0_lineWith 41 = .ok (.iinc 3 1, 3) := by decide +kernel
theorem dX0_lineWith_44 : decode cX0_lineWith 44 = .ok (.goto (-27), 3) := by decide +kernel
theorem dX0_lineWith_47 : decode cX0_lineWith 47 = .ok (.iinc 2 1, 3) := by decide +kernel
theorem dX0_lineWith_50 : decode cX0_lineWith 50 = .ok (.goto (-48), 3) := by decide +kernel
theorem dX0_lineWith_53 : decode cX0_lineWith 53 = .ok (.iconst 0, 1) := by decide +kernel
theorem dX0_lineWith_54 : decode cX0_lineWith 54 = .ok (.ireturn, 1) := by decide +kernel
theorem dX0_available_0 : decode cX0_available 0 = .ok (.aload_n 1, 1) := by decide +kernel
theorem dX0_available_1 : decode cX0_available 1 = .ok (.getfield 32, 3) := by decide +kernel
theorem dX0_available_4 : decode cX0_available 4 = .ok (.aload_n 1, 1) := by decide +kernel
theorem dX0_available_5 : decode cX0_available 5 = .ok (.getfield 50, 3) := by decide +kernel
theorem dX0_available_8 : decode cX0_available 8 = .ok (.aload_n 0, 1) := by decide +kernel
theorem dX0_available_9 : decode cX0_available 9 = .ok (.getfield 15, 3) := by decide +kernel
theorem dX0_available_12 : decode cX0_available 12 = .ok (.iload_n 2, 1) := by decide +kernel
theorem dX0_available_13 : decode cX0_available 13 = .ok (.iconst 1, 1) := by decide +kernel
theorem dX0_available_14 : decode cX0_available 14 = .ok (.iadd, 1) := by decide +kernel
theorem dX0_available_15 : decode cX0_available 15 = .ok (.iaload, 1) := by decide +kernel
theorem dX0_available_16 : decode cX0_available 16 = .ok (.aload_n 0, 1) := by decide +kernel
theorem dX0_available_17 : decode cX0_available 17 = .ok (.getfield 15, 3) := by decide +kernel
theorem dX0_available_20 : decode cX0_available 20 = .ok (.iload_n 2, 1) := by decide +kernel
theorem dX0_available_21 : decode cX0_available 21 = .ok (.iaload, 1) := by decide +kernel
theorem dX0_available_22 : decode cX0_available 22 = .ok (.isub, 1) := by decide +kernel
theorem dX0_available_23 : decode cX0_available 23 = .ok (.iconst 1, 1) := by decide +kernel
theorem dX0_available_24 : decode cX0_available 24 = .ok (.isub, 1) := by decide +kernel
theorem dX0_available_25 : decode cX0_available 25 = .ok (.imul, 1) := by decide +kernel
theorem dX0_available_26 : decode cX0_available 26 = .ok (.isub, 1) := by decide +kernel
theorem dX0_available_27 : decode cX0_available 27 = .ok (.ireturn, 1) := by decide +kernel
theorem dX1_init_0 : decode cX1_init 0 = .ok (.aload_n 0, 1) := by decide +kernel
theorem dX1_init_1 : decode cX1_init 1 = .ok (.invokespecial 3, 3) := by decide +kernel
theorem dX1_init_4 : decode cX1_init 4 = .ok (.aload_n 0, 1) := by decide +kernel
theorem dX1_init_5 : decode cX1_init 5 = .ok (.bipush 100, 2) := by decide +kernel
theorem dX1_init_7 : decode cX1_init 7 = .ok (.putfield 9, 3) := by decide +kernel
theorem dX1_init_10 : decode cX1_init 10 = .ok (.aload_n 0, 1) := by decide +kernel
theorem dX1_init_11 : decode cX1_init 11 = .ok (.iconst (-1), 1) := by decide +kernel
theorem dX1_init_12 : decode cX1_init 12 = .ok (.putfield 15, 3) := by decide +kernel
theorem dX1_init_15 : decode cX1_init 15 = .ok (.aload_n 0, 1) := by decide +kernel
theorem dX1_init_16 : decode cX1_init 16 = .ok (.iconst 0, 1) := by decide +kernel
theorem dX1_init_17 : decode cX1_init 17 = .ok (.putfield 18, 3) := by decide +kernel
theorem dX1_init_20 : decode cX1_init 20 = .ok (.aload_n 0, 1) := by decide +kernel
theorem dX1_init_21 : decode cX1_init 21 = .ok (.iconst 0, 1) := by decide +kernel
theorem dX1_init_22 : decode cX1_init 22 = .ok (.putfield 21, 3) := by decide +kernel
theorem dX1_init_25 : decode cX1_init 25 = .ok (.aload_n 0, 1) := by decide +kernel
theorem dX1_init_26 : decode cX1_init 26 = .ok (.iconst 5, 1) := by decide +kernel
theorem dX1_init_27 : decode cX1_init 27 = .ok (.newarray .int, 2) := by decide +kernel
theorem dX1_init_29 : decode cX1_init 29 = .ok (.putfield 24, 3) := by decide +kernel
theorem dX1_init_32 : decode cX1_init 32 = .ok (.aload_n 0, 1) := by decide +kernel
theorem dX1_init_33 : decode cX1_init 33 = .ok (.bipush 20, 2) := by decide +kernel
theorem dX1_init_35 : decode cX1_init 35 = .ok (.bipush 10, 2) := by decide +kernel
theorem dX1_init_37 : decode cX1_init 37 = .ok (.multianewarray 28 2, 4) := by decide +kernel
theorem dX1_init_41 : decode cX1_init 41 = .ok (.putfield 30, 3) := by decide +kernel
theorem dX1_init_44 : decode cX1_init 44 = .ok (.aload_n 0, 1) := by decide +kernel
theorem dX1_init_45 : decode cX1_init 45 = .ok (.iconst 0, 1) := by decide +kernel
theorem dX1_init_46 : decode cX1_init 46 = .ok (.putfield 33, 3) := by decide +kernel
theorem dX1_init_49 : decode cX1_init 49 = .ok (.return_, 1) := by decide +kernel
theorem dX1_copyFrom_0 : decode cX1_copyFrom 0 = .ok (.aload_n 0, 1) := by decide +kernel
theorem dX1_copyFrom_1 : decode cX1_copyFrom 1 = .ok (.aload_n 1, 1) := by decide +kernel
theorem dX1_copyFrom_2 : decode cX1_copyFrom 2 = .ok (.getfield 9, 3) := by decide +kernel
theorem dX1_copyFrom_5 : decode cX1_copyFrom 5 = .ok (.putfield 9, 3) := by decide +kernel
theorem dX1_copyFrom_8 : decode cX1_copyFrom 8 = .ok (.aload_n 0, 1) := by decide +kernel
theorem dX1_copyFrom_9 : decode cX1_copyFrom 9 = .ok (.aload_n 1, 1) := by decide +kernel
theorem dX1_copyFrom_10 : decode cX1_copyFrom 10 = .ok (.getfield 15, 3) := by decide +kernel
theorem dX1_copyFrom_13 : decode cX1_copyFrom 13 = .ok (.putfield 15, 3) := by decide +kernel
theorem dX1_copyFrom_16 : decode cX1_copyFrom 16 = .ok (.aload_n 0, 1) := by decide +kernel
theorem dX1_copyFrom_17 : decode cX1_copyFrom 17 = .ok (.aload_n 1, 1) := by decide +kernel
theorem dX1_copyFrom_18 : decode cX1_copyFrom 18 = .ok (.getfield 18, 3) := by decide +kernel
theorem dX1_copyFrom_21 : decode cX1_copyFrom 21 = .ok (.putfield 18, 3) := by decide +kernel
theorem dX1_copyFrom_24 : decode cX1_copyFrom 24 = .ok (.aload_n 0, 1) := by decide +kernel
theorem dX1_copyFrom_25 : decode cX1_copyFrom 25 = .ok (.aload_n 1, 1) := by decide +kernel
theorem dX1_copyFrom_26 : decode cX1_copyFrom 26 = .ok (.getfield 21, 3) := by decide +kernel
theorem dX1_copyFrom_29 : decode cX1_copyFrom 29 = .ok (.putfield 21, 3) := by decide +kernel
theorem dX1_copyFrom_32 : decode cX1_copyFrom 32 = .ok (.aload_n 0, 1) := by decide +kernel
theorem dX1_copyFrom_33 : decode cX1_copyFrom 33 = .ok (.aload_n 1, 1) := by decide +kernel
theorem dX1_copyFrom_34 : decode cX1_copyFrom 34 = .ok (.getfield 33, 3) := by decide +kernel
theorem dX1_copyFrom_37 : decode cX1_copyFrom 37 = .ok (.putfield 33, 3) := by decide +kernel
theorem dX1_copyFrom_40 : decode cX1_copyFrom 40 = .ok (.aload_n 1, 1) := by decide +kernel
theorem dX1_copyFrom_41 : decode cX1_copyFrom 41 = .ok (.getfield 24, 3) := by decide +kernel
theorem dX1_copyFrom_44 : decode cX1_copyFrom 44 = .ok (.iconst 0, 1) := by decide +kernel
theorem dX1_copyFrom_45 : decode cX1_copyFrom 45 = .ok (.aload_n 0, 1) := by decide +kernel
theorem dX1_copyFrom_46 : decode cX1_copyFrom 46 = .ok (.getfield 24, 3) := by decide +kernel
theorem dX1_copyFrom_49 : decode cX1_copyFrom 49 = .ok (.iconst 0, 1) := by decide +kernel
theorem dX1_copyFrom_50 : decode cX1_copyFrom 50 = .ok (.iconst 5, 1) := by decide +kernel
theorem dX1_copyFrom_51 : decode cX1_copyFrom 51 = .ok (.invokestatic 36, 3) := by decide +kernel
theorem dX1_copyFrom_54 : decode cX1_copyFrom 54 = .ok (.iconst 0, 1) := by decide +kernel
theorem dX1_copyFrom_55 : decode cX1_copyFrom 55 = .ok (.istore_n 2, 1) := by decide +kernel
theorem dX1_copyFrom_56 : decode cX1_copyFrom 56 = .ok (.iload_n 2, 1) := by decide +kernel
theorem dX1_copyFrom_57 : decode cX1_copyFrom 57 = .ok (.bipush 20, 2) := by decide +kernel
theorem dX1_copyFrom_59 : decode cX1_copyFrom 59 = .ok (.if_icmp .ge 28, 3) := by decide +kernel
theorem dX1_copyFrom_62 : decode cX1_copyFrom 62 = .ok (.aload_n 1, 1) := by decide +kernel
theorem dX1_copyFrom_63 : decode cX1_copyFrom 63 = .ok (.getfield 30, 3) := by decide +kernel
theorem dX1_copyFrom_66 : decode cX1_copyFrom 66 = .ok (.iload_n 2, 1) := by decide +kernel
theorem dX1_copyFrom_67 : decode cX1_copyFrom 67 = .ok (.aaload, 1) := by decide +kernel
theorem dX1_copyFrom_68 : decode cX1_copyFrom 68 = .ok (.iconst 0, 1) := by decide +kernel
theorem dX1_copyFrom_69 : decode cX1_copyFrom 69 = .ok (.aload_n 0, 1) := by decide +kernel
theorem dX1_copyFrom_70 : decode cX1_copyFrom 70 = .ok (.getfield 30, 3) := by decide +kernel
theorem dX1_copyFrom_73 : decode cX1_copyFrom 73 = .ok (.iload_n 2, 1) := by decide +kernel
theorem dX1_copyFrom_74 : decode cX1_copyFrom 74 = .ok (.aaload, 1) := by decide +kernel
theorem dX1_copyFrom_75 : decode cX1_copyFrom 75 = .ok (.iconst 0, 1) := by decide +kernel
theorem dX1_copyFrom_76 : decode cX1_copyFrom 76 = .ok (.bipush 10, 2) := by decide +kernel
theorem dX1_copyFrom_78 : decode cX1_copyFrom 78 = .ok (.invokestatic 36, 3) := by decide +kernel
theorem dX1_copyFrom_81 : decode cX1_copyFrom 81 = .ok (.iinc 2 1, 3) := by decide +kernel
theorem dX1_copyFrom_84 : decode cX1_copyFrom 84 = .ok (.goto (-28), 3) := by decide +kernel
theorem dX1_copyFrom_87 : decode cX1_copyFrom 87 = .ok (.return_, 1) := by decide +kernel
theorem dX1_freshRow_0 : decode cX1_freshRow 0 = .ok (.aload_n 0, 1) := by decide +kernel
theorem dX1_freshRow_1 : decode cX1_freshRow 1 = .ok (.getfield 30, 3) := by decide +kernel
theorem dX1_freshRow_4 : decode cX1_freshRow 4 = .ok (.aload_n 0, 1) := by decide +kernel
theorem dX1_freshRow_5 : decode cX1_freshRow 5 = .ok (.getfield 33, 3) := by decide +kernel
theorem dX1_freshRow_8 : decode cX1_freshRow 8 = .ok (.bipush 19, 2) := by decide +kernel
theorem dX1_freshRow_10 : decode cX1_freshRow 10 = .ok (.invokestatic 42, 3) := by decide +kernel
theorem dX1_freshRow_13 : decode cX1_freshRow 13 = .ok (.aaload, 1) := by decide +kernel
theorem dX1_freshRow_14 : decode cX1_freshRow 14 = .ok (.astore_n 1, 1) := by decide +kernel
theorem dX1_freshRow_15 : decode cX1_freshRow 15 = .ok (.getstatic 48, 3) := by decide +kernel
theorem dX1_freshRow_18 : decode cX1_freshRow 18 = .ok (.iconst 0, 1) := by decide +kernel
theorem dX1_freshRow_19 : decode cX1_freshRow 19 = .ok (.aload_n 1, 1) := by decide +kernel
theorem dX1_freshRow_20 : decode cX1_freshRow 20 = .ok (.iconst 0, 1) := by decide +kernel
theorem dX1_freshRow_21 : decode cX1_freshRow 21 = .ok (.bipush 10, 2) := by decide +kernel
theorem dX1_freshRow_23 : decode cX1_freshRow 23 = .ok (.invokestatic 36, 3) := by decide +kernel
theorem dX1_freshRow_26 : decode cX1_freshRow 26 = .ok (.aload_n 1, 1) := by decide +kernel
theorem dX1_freshRow_27 : decode cX1_freshRow 27 = .ok (.areturn, 1) := by decide +kernel
theorem dX1_takeFreshRow_0 : decode cX1_takeFreshRow 0 = .ok (.aload_n 0, 1) := by decide +kernel
theorem dX1_takeFreshRow_1 : decode cX1_takeFreshRow 1 = .ok (.dup, 1) := by decide +kernel
theorem dX1_takeFreshRow_2 : decode cX1_takeFreshRow 2 = .ok (.getfield 33, 3) := by decide +kernel
theorem dX1_takeFreshRow_5 : decode cX1_takeFreshRow 5 = .ok (.iconst 1, 1) := by decide +kernel
theorem dX1_takeFreshRow_6 : decode cX1_takeFreshRow 6 = .ok (.iadd, 1) := by decide +kernel
theorem dX1_takeFreshRow_7 : decode cX1_takeFreshRow 7 = .ok (.putfield 33, 3) := by decide +kernel
theorem dX1_takeFreshRow_10 : decode cX1_takeFreshRow 10 = .ok (.aload_n 0, 1) := by decide +kernel
theorem dX1_takeFreshRow_11 : decode cX1_takeFreshRow 11 = .ok (.getfield 33, 3) := by decide +kernel
theorem dX1_takeFreshRow_14 : decode cX1_takeFreshRow 14 = .ok (.iconst 1, 1) := by decide +kernel
theorem dX1_takeFreshRow_15 : decode cX1_takeFreshRow 15 = .ok (.isub, 1) := by decide +kernel
theorem dX1_takeFreshRow_16 : decode cX1_takeFreshRow 16 = .ok (.ireturn, 1) := by decide +kernel
theorem dX1_dropRow_0 : decode cX1_dropRow 0 = .ok (.iload_n 1, 1) := by decide +kernel
theorem dX1_dropRow_1 : decode cX1_dropRow 1 = .ok (.iconst 1, 1) := by decide +kernel
theorem dX1_dropRow_2 : decode cX1_dropRow 2 = .ok (.iadd, 1) := by decide +kernel
theorem dX1_dropRow_3 : decode cX1_dropRow 3 = .ok (.istore_n 2, 1) := by decide +kernel
theorem dX1_dropRow_4 : decode cX1_dropRow 4 = .ok (.iload_n 2, 1) := by decide +kernel
theorem dX1_dropRow_5 : decode cX1_dropRow 5 = .ok (.aload_n 0, 1) := by decide +kernel
theorem dX1_dropRow_6 : decode cX1_dropRow 6 = .ok (.getfield 33, 3) := by decide +kernel
theorem dX1_dropRow_9 : decode cX1_dropRow 9 = .ok (.if_icmp .ge 30, 3) := by decide +kernel
theorem dX1_dropRow_12 : decode cX1_dropRow 12 = .ok (.aload_n 0, 1) := by decide +kernel
theorem dX1_dropRow_13 : decode cX1_dropRow 13 = .ok (.getfield 30, 3) := by decide +kernel
theorem dX1_dropRow_16 : decode cX1_dropRow 16 = .ok (.iload_n 2, 1) := by decide +kernel
theorem dX1_dropRow_17 : decode cX1_dropRow 17 = .ok (.aaload, 1) := by decide +kernel
theorem dX1_dropRow_18 : decode cX1_dropRow 18 = .ok (.iconst 0, 1) := by decide +kernel
theorem dX1_dropRow_19 : decode cX1_dropRow 19 = .ok (.aload_n 0, 1) := by decide +kernel
theorem dX1_dropRow_20 : decode cX1_dropRow 20 = .ok (.getfield 30, 3) := by decide +kernel
theorem dX1_dropRow_23 : decode cX1_dropRow 23 = .ok (.iload_n 2, 1) := by decide +kernel
theorem dX1_dropRow_24 : decode cX1_dropRow 24 = .ok (.iconst 1, 1) := by decide +kernel
theorem dX1_dropRow_25 : decode cX1_dropRow 25 = .ok (.isub, 1) := by decide +kernel
theorem dX1_dropRow_26 : decode cX1_dropRow 26 = .ok (.aaload, 1) := by decide +kernel
theorem dX1_dropRow_27 : decode cX1_dropRow 27 = .ok (.iconst 0, 1) := by decide +kernel
theorem dX1_dropRow_28 : decode cX1_dropRow 28 = .ok (.bipush 10, 2) := by decide +kernel
theorem dX1_dropRow_30 : decode cX1_dropRow 30 = .ok (.invokestatic 36, 3) := by decide +kernel
theorem dX1_dropRow_33 : decode cX1_dropRow 33 = .ok (.iinc 2 1, 3) := by decide +kernel
theorem dX1_dropRow_36 : decode cX1_dropRow 36 = .ok (.goto (-32), 3) := by decide +kernel
theorem dX1_dropRow_39 : decode cX1_dropRow 39 = .ok (.aload_n 0, 1) := by decide +kernel
theorem dX1_dropRow_40 : decode cX1_dropRow 40 = .ok (.dup, 1) := by decide +kernel
theorem dX1_dropRow_41 : decode cX1_dropRow 41 = .ok (.getfield 33, 3) := by decide +kernel
theorem dX1_dropRow_44 : decode cX1_dropRow 44 = .ok (.iconst 1, 1) := by decide +kernel
theorem dX1_dropRow_45 : decode cX1_dropRow 45 = .ok (.isub, 1) := by decide +kernel
theorem dX1_dropRow_46 : decode cX1_dropRow 46 = .ok (.putfield 33, 3) := by decide +kernel
theorem dX1_dropRow_49 : decode cX1_dropRow 49 = .ok (.return_, 1) := by decide +kernel
theorem dX1_clamp_0 : decode cX1_clamp 0 = .ok (.aload_n 0, 1) := by decide +kernel
theorem dX1_clamp_1 : decode cX1_clamp 1 = .ok (.getfield 30, 3) := by decide +kernel
theorem dX1_clamp_4 : decode cX1_clamp 4 = .ok (.iload_n 1, 1) := by decide +kernel
theorem dX1_clamp_5 : decode cX1_clamp 5 = .ok (.aaload, 1) := by decide +kernel
theorem dX1_clamp_6 : decode cX1_clamp 6 = .ok (.iconst 4, 1) := by decide +kernel
theorem dX1_clamp_7 : decode cX1_clamp 7 = .ok (.iaload, 1) := by decide +kernel
theorem dX1_clamp_8 : decode cX1_clamp 8 = .ok (.istore_n 3, 1) := by decide +kernel
theorem dX1_clamp_9 : decode cX1_clamp 9 = .ok (.aload_n 0, 1) := by decide +kernel
theorem dX1_clamp_10 : decode cX1_clamp 10 = .ok (.getfield 30, 3) := by decide +kernel
theorem dX1_clamp_13 : decode cX1_clamp 13 = .ok (.iload_n 1, 1) := by decide +kernel
theorem dX1_clamp_14 : decode cX1_clamp 14 = .ok (.aaload, 1) := by decide +kernel
theorem dX1_clamp_15 : decode cX1_clamp 15 = .ok (.iconst 3, 1) := by decide +kernel
theorem dX1_clamp_16 : decode cX1_clamp 16 = .ok (.iaload, 1) := by decide +kernel
theorem dX1_clamp_17 : decode cX1_clamp 17 = .ok (.istore 4, 2) := by decide +kernel
theorem dX1_clamp_19 : decode cX1_clamp 19 = .ok (.iload_n 3, 1) := by decide +kernel
theorem dX1_clamp_20 : decode cX1_clamp 20 = .ok (.iconst (-1), 1) := by decide +kernel
theorem dX1_clamp_21 : decode cX1_clamp 21 = .ok (.if_icmp .eq 12, 3) := by decide +kernel
theorem dX1_clamp_24 : decode cX1_clamp 24 = .ok (.iload_n 2, 1) := by decide +kernel
theorem dX1_clamp_25 : decode cX1_clamp 25 = .ok (.iload_n 3, 1) := by decide +kernel
theorem dX1_clamp_26 : decode cX1_clamp 26 = .ok (.if_icmp .le 7, 3) := by decide +kernel
theorem dX1_clamp_29 : decode cX1_clamp 29 = .ok (.iload_n 3, 1) := by decide +kernel
theorem dX1_clamp_30 : decode cX1_clamp 30 = .ok (.goto 4, 3) := by decide +kernel
theorem dX1_clamp_33 : decode cX1_clamp 33 = .ok (.iload_n 2, 1) := by decide +kernel
theorem dX1_clamp_34 : decode cX1_clamp 34 = .ok (.istore 5, 2) := by decide +kernel
theorem dX1_clamp_36 : decode cX1_clamp 36 = .ok (.iload 5, 2) := by decide +kernel
theorem dX1_clamp_38 : decode cX1_clamp 38 = .ok (.iload 4, 2) := by decide +kernel
theorem dX1_clamp_40 : decode cX1_clamp 40 = .ok (.if_icmp .ge 8, 3) := by decide +kernel
theorem dX1_clamp_43 : decode cX1_clamp 43 = .ok (.iload 4, 2) := by decide +kernel
theorem dX1_clamp_45 : decode cX1_clamp 45 = .ok (.goto 5, 3) := by decide +kernel
theorem dX1_clamp_48 : decode cX1_clamp 48 = .ok (.iload 5, 2) := by decide +kernel
theorem dX1_clamp_50 : decode cX1_clamp 50 = .ok (.ireturn, 1) := by decide +kernel
theorem dX1_hypothetical_0 : decode cX1_hypothetical 0 = .ok (.aload_n 0, 1) := by decide +kernel
theorem dX1_hypothetical_1 : decode cX1_hypothetical 1 = .ok (.iload_n 1, 1) := by decide +kernel
theorem dX1_hypothetical_2 : decode cX1_hypothetical 2 = .ok (.aload_n 0, 1) := by decide +kernel
theorem dX1_hypothetical_3 : decode cX1_hypothetical 3 = .ok (.getfield 30, 3) := by decide +kernel
theorem dX1_hypothetical_6 : decode cX1_hypothetical 6 = .ok (.iload_n 1, 1) := by decide +kernel
theorem dX1_hypothetical_7 : decode cX1_hypothetical 7 = .ok (.aaload, 1) := by decide +kernel
theorem dX1_hypothetical_8 : decode cX1_hypothetical 8 = .ok (.iconst 0, 1) := by decide +kernel
theorem dX1_hypothetical_9 : decode cX1_hypothetical 9 = .ok (.iaload, 1) := by decide +kernel
theorem dX1_hypothetical_10 : decode cX1_hypothetical 10 = .ok (.invokevirtual 51, 3) := by decide +kernel
theorem dX1_hypothetical_13 : decode cX1_hypothetical 13 = .ok (.ireturn, 1) := by decide +kernel
theorem dX1_alignment_0 : decode cX1_alignment 0 = .ok (.aload_n 0, 1) := by decide +kernel
theorem dX1_alignment_1 : decode cX1_alignment 1 = .ok (.getfield 30, 3) := by decide +kernel
theorem dX1_alignment_4 : decode cX1_alignment 4 = .ok (.iload_n 1, 1) := by decide +kernel
theorem dX1_alignment_5 : decode cX1_alignment 5 = .ok (.aaload, 1) := by decide +kernel
theorem dX1_alignment_6 : decode cX1_alignment 6 = .ok (.bipush 7, 2) := by decide +kernel
theorem dX1_alignment_8 : decode cX1_alignment 8 = .ok (.iaload, 1) := by decide +kernel
theorem dX1_alignment_9 : decode cX1_alignment 9 = .ok (.istore_n 2, 1) := by decide +kernel
theorem dX1_alignment_10 : decode cX1_alignment 10 = .ok (.iload_n 2, 1) := by decide +kernel
theorem dX1_alignment_11 : decode cX1_alignment 11 = .ok (.iconst (-1), 1) := by decide +kernel
theorem dX1_alignment_12 : decode cX1_alignment 12 = .ok (.if_icmp .ne 12, 3) := by decide +kernel
theorem dX1_alignment_15 : decode cX1_alignment 15 = .ok (.aload_n 0, 1) := by decide +kernel
theorem dX1_alignment_16 : decode cX1_alignment 16 = .ok (.getfield 24, 3) := by decide +kernel
theorem dX1_alignment_19 : decode cX1_alignment 19 = .ok (.iconst 3, 1) := by decide +kernel
theorem dX1_alignment_20 : decode cX1_alignment 20 = .ok (.iaload, 1) := by decide +kernel
theorem dX1_alignment_21 : decode cX1_alignment 21 = .ok (.goto 4, 3) := by decide +kernel
theorem dX1_alignment_24 : decode cX1_alignment 24 = .ok (.iload_n 2, 1) := by decide +kernel
theorem dX1_alignment_25 : decode cX1_alignment 25 = .ok (.ireturn, 1) := by decide +kernel
theorem dX1_hasHorizontalMainAxis_0 : decode cX1_hasHorizontalMainAxis 0 = .ok (.aload_n 0, 1) := by decide +kernel
theorem dX1_hasHorizontalMainAxis_1 : decode cX1_hasHorizontalMainAxis 1 = .ok (.getfield 24, 3) := by decide +kernel
theorem dX1_hasHorizontalMainAxis_4 : decode cX1_hasHorizontalMainAxis 4 = .ok (.iconst 0, 1) := by decide +kernel
theorem dX1_hasHorizontalMainAxis_5 : decode cX1_hasHorizontalMainAxis 5 = .ok (.iaload, 1) := by decide +kernel
theorem dX1_hasHorizontalMainAxis_6 : decode cX1_hasHorizontalMainAxis 6 = .ok (.iconst 2, 1) := by decide +kernel
theorem dX1_hasHorizontalMainAxis_7 : decode cX1_hasHorizontalMainAxis 7 = .ok (.if_icmp .ge 7, 3) := by decide +kernel
theorem dX1_hasHorizontalMainAxis_10 : decode cX1_hasHorizontalMainAxis 10 = .ok (.iconst 1, 1) := by decide +kernel
theorem dX1_hasHorizontalMainAxis_11 : decode cX1_hasHorizontalMainAxis 11 = .ok (.goto 4, 3) := by decide +kernel
theorem dX1_hasHorizontalMainAxis_14 : decode cX1_hasHorizontalMainAxis 14 = .ok (.iconst 0, 1) := by decide +kernel
theorem dX1_hasHorizontalMainAxis_15 : decode cX1_hasHorizontalMainAxis 15 = .ok (.ireturn, 1) := by decide +kernel
theorem dX1_isReversed_0 : decode cX1_isReversed 0 = .ok (.aload_n 0, 1) := by decide +kernel
theorem dX1_isReversed_1 : decode cX1_isReversed 1 = .ok (.getfield 24, 3) := by decide +kernel
theorem dX1_isReversed_4 : decode cX1_isReversed 4 = .ok (.iconst 0, 1) := by decide +kernel
theorem dX1_isReversed_5 : decode cX1_isReversed 5 = .ok (.iaload, 1) := by decide +kernel
theorem dX1_isReversed_6 : decode cX1_isReversed 6 = .ok (.iconst 1, 1) := by decide +kernel
theorem dX1_isReversed_7 : decode cX1_isReversed 7 = .ok (.if_icmp .eq 13, 3) := by decide +kernel
theorem dX1_isReversed_10 : decode cX1_isReversed 10 = .ok (.aload_n 0, 1) := by decide +kernel
theorem dX1_isReversed_11 : decode cX1_isReversed 11 = .ok (.getfield 24, 3) := by decide +kernel
theorem dX1_isReversed_14 : decode cX1_isReversed 14 = .ok (.iconst 0, 1) := by decide +kernel
theorem dX1_isReversed_15 : decode cX1_isReversed 15 = .ok (.iaload, 1) := by decide +kernel
theorem dX1_isReversed_16 : decode cX1_isReversed 16 = .ok (.iconst 3, 1) := by decide +kernel
theorem dX1_isReversed_17 : decode cX1_isReversed 17 = .ok (.if_icmp .ne 7, 3) := by decide +kernel
theorem dX1_isReversed_20 : decode cX1_isReversed 20 = .ok (.iconst 1, 1) := by decide +kernel
theorem dX1_isReversed_21 : decode cX1_isReversed 21 = .ok (.goto 4, 3) := by decide +kernel
theorem dX1_isReversed_24 : decode cX1_isReversed 24 = .ok (.iconst 0, 1) := by decide +kernel
theorem dX1_isReversed_25 : decode cX1_isReversed 25 = .ok (.ireturn, 1) := by decide +kernel
theorem dX1_wraps_0 : decode cX1_wraps 0 = .ok (.aload_n 0, 1) := by decide +kernel
theorem dX1_wraps_1 : decode cX1_wraps 1 = .ok (.getfield 24, 3) := by decide +kernel
theorem dX1_wraps_4 : decode cX1_wraps 4 = .ok (.iconst 1, 1) := by decide +kernel
theorem dX1_wraps_5 : decode cX1_wraps 5 = .ok (.iaload, 1) := by decide +kernel
theorem dX1_wraps_6 : decode cX1_wraps 6 = .ok (.ifCond .eq 7, 3) := by decide +kernel
theorem dX1_wraps_9 : decode cX1_wraps 9 = .ok (.iconst 1, 1) := by decide +kernel
theorem dX1_wraps_10 : decode cX1_wraps 10 = .ok (.goto 4, 3) := by decide +kernel
theorem dX1_wraps_13 : decode cX1_wraps 13 = .ok (.iconst 0, 1) := by decide +kernel
theorem dX1_wraps_14 : decode cX1_wraps 14 = .ok (.ireturn, 1) := by decide +kernel
theorem dX2_init_0 : decode cX2_init 0 = .ok (.aload_n 0, 1) := by decide +kernel
theorem dX2_init_1 : decode cX2_init 1 = .ok (.invokespecial 3, 3) := by decide +kernel
theorem dX2_init_4 : decode cX2_init 4 = .ok (.aload_n 0, 1) := by decide +kernel
theorem dX2_init_5 : decode cX2_init 5 = .ok (.bipush 20, 2) := by decide +kernel
theorem dX2_init_7 : decode cX2_init 7 = .ok (.newarray .int, 2) := by decide +kernel
theorem dX2_init_9 : decode cX2_init 9 = .ok (.putfield 9, 3) := by decide +kernel
theorem dX2_init_12 : decode cX2_init 12 = .ok (.aload_n 0, 1) := by decide +kernel
theorem dX2_init_13 : decode cX2_init 13 = .ok (.bipush 20, 2) := by decide +kernel
theorem dX2_init_15 : decode cX2_init 15 = .ok (.newarray .int, 2) := by decide +kernel
theorem dX2_init_17 : decode cX2_init 17 = .ok (.putfield 15, 3) := by decide +kernel
theorem dX2_init_20 : decode cX2_init 20 = .ok (.aload_n 0, 1) := by decide +kernel
theorem dX2_init_21 : decode cX2_init 21 = .ok (.bipush 20, 2) := by decide +kernel
theorem dX2_init_23 : decode cX2_init 23 = .ok (.newarray .int, 2) := by decide +kernel
theorem dX2_init_25 : decode cX2_init 25 = .ok (.putfield 18, 3) := by decide +kernel
theorem dX2_init_28 : decode cX2_init 28 = .ok (.aload_n 0, 1) := by decide +kernel
theorem dX2_init_29 : decode cX2_init 29 = .ok (.bipush 20, 2) := by decide +kernel
theorem dX2_init_31 : decode cX2_init 31 = .ok (.newarray .int, 2) := by decide +kernel
theorem dX2_init_33 : decode cX2_init 33 = .ok (.putfield 21, 3) := by decide +kernel
theorem dX2_init_36 : decode cX2_init 36 = .ok (.aload_n 0, 1) := by decide +kernel
theorem dX2_init_37 : decode cX2_init 37 = .ok (.iconst 0, 1) := by decide +kernel
theorem dX2_init_38 : decode cX2_init 38 = .ok (.putfield 24, 3) := by decide +kernel
theorem dX2_init_41 : decode cX2_init 41 = .ok (.return_, 1) := by decide +kernel
theorem dX2_layOut_0 : decode cX2_layOut 0 = .ok (.iconst 0, 1) := by decide +kernel
theorem dX2_layOut_1 : decode cX2_layOut 1 = .ok (.istore 4, 2) := by decide +kernel
theorem dX2_layOut_3 : decode cX2_layOut 3 = .ok (.iload 4, 2) := by decide +kernel
theorem dX2_layOut_5 : decode cX2_layOut 5 = .ok (.aload_n 2, 1) := by decide +kernel
theorem dX2_layOut_6 : decode cX2_layOut 6 = .ok (.getfield 28, 3) := by decide +kernel
theorem dX2_layOut_9 : decode cX2_layOut 9 = .ok (.if_icmp .ge 17, 3) := by decide +kernel
theorem dX2_layOut_12 : decode cX2_layOut 12 = .ok (.aload_n 0, 1) := by decide +kernel
theorem dX2_layOut_13 : decode cX2_layOut 13 = .ok (.aload_n 1, 1) := by decide +kernel
theorem dX2_layOut_14 : decode cX2_layOut 14 = .ok (.aload_n 2, 1) := by decide +kernel
theorem dX2_layOut_15 : decode cX2_layOut 15 = .ok (.iload 4, 2) := by decide +kernel
theorem dX2_layOut_17 : decode cX2_layOut 17 = .ok (.invokevirtual 33, 3) := by decide +kernel
theorem dX2_layOut_20 : decode cX2_layOut 20 = .ok (.iinc 4 1, 3) := by decide +kernel
theorem dX2_layOut_23 : decode cX2_layOut 23 = .ok (.goto (-20), 3) := by decide +kernel
theorem dX2_layOut_26 : decode cX2_layOut 26 = .ok (.aload_n 1, 1) := by decide +kernel
theorem dX2_layOut_27 : decode cX2_layOut 27 = .ok (.getfield 37, 3) := by decide +kernel
theorem dX2_layOut_30 : decode cX2_layOut 30 = .ok (.iconst (-1), 1) := by decide +kernel
theorem dX2_layOut_31 : decode cX2_layOut 31 = .ok (.if_icmp .eq 7, 3) := by decide +kernel
theorem dX2_layOut_34 : decode cX2_layOut 34 = .ok (.iconst 1, 1) := by decide +kernel
theorem dX2_layOut_35 : decode cX2_layOut 35 = .ok (.goto 4, 3) := by decide +kernel
theorem dX2_layOut_38 : decode cX2_layOut 38 = .ok (.iconst 0, 1) := by decide +kernel
theorem dX2_layOut_39 : decode cX2_layOut 39 = .ok (.istore 4, 2) := by decide +kernel
theorem dX2_layOut_41 : decode cX2_layOut 41 = .ok (.iload 4, 2) := by decide +kernel
theorem dX2_layOut_43 : decode cX2_layOut 43 = .ok (.ifCond .eq 31, 3) := by decide +kernel
theorem dX2_layOut_46 : decode cX2_layOut 46 = .ok (.aload_n 2, 1) := by decide +kernel
theorem dX2_layOut_47 : decode cX2_layOut 47 = .ok (.getfield 28, 3) := by decide +kernel
theorem dX2_layOut_50 : decode cX2_layOut 50 = .ok (.iconst 1, 1) := by decide +kernel
theorem dX2_layOut_51 : decode cX2_layOut 51 = .ok (.if_icmp .ne 23, 3) := by decide +kernel
theorem dX2_layOut_54 : decode cX2_layOut 54 = .ok (.aload_n 1, 1) := by decide +kernel
theorem dX2_layOut_55 : decode cX2_layOut 55 = .ok (.invokevirtual 42, 3) := by decide +kernel
theorem dX2_layOut_58 : decode cX2_layOut 58 = .ok (.ifCond .ne 16, 3) := by decide +kernel
theorem dX2_layOut_61 : decode cX2_layOut 61 = .ok (.aload_n 0, 1) := by decide +kernel
theorem dX2_layOut_62 : decode cX2_layOut 62 = .ok (.getfield 9, 3) := by decide +kernel
theorem dX2_layOut_65 : decode cX2_layOut 65 = .ok (.iconst 0, 1) := by decide +kernel
theorem dX2_layOut_66 : decode cX2_layOut 66 = .ok (.aload_n 1, 1) := by decide +kernel
theorem dX2_layOut_67 : decode cX2_layOut 67 = .ok (.getfield 37, 3) := by decide +kernel
theorem dX2_layOut_70 : decode cX2_layOut 70 = .ok (.iastore, 1) := by decide +kernel
theorem dX2_layOut_71 : decode cX2_layOut 71 = .ok (.goto 24, 3) := by decide +kernel
theorem dX2_layOut_74 : decode cX2_layOut 74 = .ok (.iload 4, 2) := by decide +kernel
theorem dX2_layOut_76 : decode cX2_layOut 76 = .ok (.ifCond .eq 19, 3) := by decide +kernel
theorem dX2_layOut_79 : decode cX2_layOut 79 = .ok (.aload_n 1, 1) := by decide +kernel
theorem dX2_layOut_80 : decode cX2_layOut 80 = .ok (.getfield 46, 3) := by decide +kernel
theorem dX2_layOut_83 : decode cX2_layOut 83 = .ok (.iconst 4, 1) := by decide +kernel
theorem dX2_layOut_84 : decode cX2_layOut 84 = .ok (.iaload, 1) := by decide +kernel
theorem dX2_layOut_85 : decode cX2_layOut 85 = .ok (.ifCond .ne 10, 3) := by decide +kernel
theorem dX2_layOut_88 : decode cX2_layOut 88 = .ok (.aload_n 0, 1) := by decide +kernel
theorem dX2_layOut_89 : decode cX2_layOut 89 = .ok (.aload_n 1, 1) := by decide +kernel
theorem dX2_layOut_90 : decode cX2_layOut 90 = .ok (.aload_n 2, 1) := by decide +kernel
theorem dX2_layOut_91 : decode cX2_layOut 91 = .ok (.aload_n 3, 1) := by decide +kernel
theorem dX2_layOut_92 : decode cX2_layOut 92 = .ok (.invokevirtual 49, 3) := by decide +kernel
theorem dX2_layOut_95 : decode cX2_layOut 95 = .ok (.aload_n 0, 1) := by decide +kernel
theorem dX2_layOut_96 : decode cX2_layOut 96 = .ok (.aload_n 1, 1) := by decide +kernel
theorem dX2_layOut_97 : decode cX2_layOut 97 = .ok (.aload_n 2, 1) := by decide +kernel
theorem dX2_layOut_98 : decode cX2_layOut 98 = .ok (.invokevirtual 53, 3) := by decide +kernel
theorem dX2_layOut_101 : decode cX2_layOut 101 = .ok (.istore 5, 2) := by decide +kernel
theorem dX2_layOut_103 : decode cX2_layOut 103 = .ok (.aload_n 0, 1) := by decide +kernel
theorem dX2_layOut_104 : decode cX2_layOut 104 = .ok (.iload 4, 2) := by decide +kernel
theorem dX2_layOut_106 : decode cX2_layOut 106 = .ok (.ifCond .eq 10, 3) := by decide +kernel
theorem dX2_layOut_109 : decode cX2_layOut 109 = .ok (.aload_n 1, 1) := by decide +kernel
theorem dX2_layOut_110 : decode cX2_layOut 110 = .ok (.getfield 37, 3) := by decide +kernel
theorem dX2_layOut_113 : decode cX2_layOut 113 = .ok (.goto 5, 3) := by decide +kernel
theorem dX2_layOut_116 : decode cX2_layOut 116 = .ok (.iload 5, 2) := by decide +kernel
theorem dX2_layOut_118 : decode cX2_layOut 118 = .ok (.putfield 24, 3) := by decide +kernel
theorem dX2_layOut_121 : decode cX2_layOut 121 = .ok (.aload_n 0, 1) := by decide +kernel
theorem dX2_layOut_122 : decode cX2_layOut 122 = .ok (.aload_n 1, 1) := by decide +kernel
theorem dX2_layOut_123 : decode cX2_layOut 123 = .ok (.aload_n 2, 1) := by decide +kernel
theorem dX2_layOut_124 : decode cX2_layOut 124 = .ok (.aload_n 0, 1) := by decide +kernel
theorem dX2_layOut_125 : decode cX2_layOut 125 = .ok (.getfield 24, 3) := by decide +kernel
theorem dX2_layOut_128 : decode cX2_layOut 128 = .ok (.iload 5, 2) := by decide +kernel
theorem dX2_layOut_130 : decode cX2_layOut 130 = .ok (.isub, 1) := by decide +kernel
theorem dX2_layOut_131 : decode cX2_layOut 131 = .ok (.invokevirtual 57, 3) := by decide +kernel
theorem dX2_layOut_134 : decode cX2_layOut 134 = .ok (.return_, 1) := by decide +kernel
theorem dX2_measure_0 : decode cX2_measure 0 = .ok (.iconst 0, 1) := by decide +kernel
theorem dX2_measure_1 : decode cX2_measure 1 = .ok (.istore 4, 2) := by decide +kernel
theorem dX2_measure_3 : decode cX2_measure 3 = .ok (.iconst 0, 1) := by decide +kernel
theorem dX2_measure_4 : decode cX2_measure 4 = .ok (.istore 5, 2) := by decide +kernel
theorem dX2_measure_6 : decode cX2_measure 6 = .ok (.iconst 0, 1) := by decide +kernel
theorem dX2_measure_7 : decode cX2_measure 7 = .ok (.istore 6, 2) := by decide +kernel
theorem dX2_measure_9 : decode cX2_measure 9 = .ok (.iconst 0, 1) := by decide +kernel
theorem dX2_measure_10 : decode cX2_measure 10 = .ok (.istore 7, 2) := by decide +kernel
theorem dX2_measure_12 : decode cX2_measure 12 = .ok (.aload_n 2, 1) := by decide +kernel
theorem dX2_measure_13 : decode cX2_measure 13 = .ok (.getfield 60, 3) := by decide +kernel
theorem dX2_measure_16 : decode cX2_measure 16 = .ok (.iload_n 3, 1) := by decide +kernel
theorem dX2_measure_17 : decode cX2_measure 17 = .ok (.iaload, 1) := by decide +kernel
theorem dX2_measure_18 : decode cX2_measure 18 = .ok (.istore 8, 2) := by decide +kernel
theorem dX2_measure_20 : decode cX2_measure 20 = .ok (.iload 8, 2) := by decide +kernel
theorem dX2_measure_22 : decode cX2_measure 22 = .ok (.aload_n 2, 1) := by decide +kernel
theorem dX2_measure_23 : decode cX2_measure 23 = .ok (.getfield 60, 3) := by decide +kernel
theorem dX2_measure_26 : decode cX2_measure 26 = .ok (.iload_n 3, 1) := by decide +kernel
theorem dX2_measure_27 : decode cX2_measure 27 = .ok (.iconst 1, 1) := by decide +kernel
theorem dX2_measure_28 : decode cX2_measure 28 = .ok (.iadd, 1) := by decide +kernel
theorem dX2_measure_29 : decode cX2_measure 29 = .ok (.iaload, 1) := by decide +kernel
theorem dX2_measure_30 : decode cX2_measure 30 = .ok (.if_icmp .ge 97, 3) := by decide +kernel
theorem dX2_measure_33 : decode cX2_measure 33 = .ok (.aload_n 2, 1) := by decide +kernel
theorem dX2_measure_34 : decode cX2_measure 34 = .ok (.getfield 63, 3) := by decide +kernel
theorem dX2_measure_37 : decode cX2_measure 37 = .ok (.iload 8, 2) := by decide +kernel
theorem dX2_measure_39 : decode cX2_measure 39 = .ok (.iaload, 1) := by decide +kernel
theorem dX2_measure_40 : decode cX2_measure 40 = .ok (.istore 9, 2) := by decide +kernel
theorem dX2_measure_42 : decode cX2_measure 42 = .ok (.aload_n 1, 1) := by decide +kernel
theorem dX2_measure_43 : decode cX2_measure 43 = .ok (.getfield 66, 3) := by decide +kernel
theorem dX2_measure_46 : decode cX2_measure 46 = .ok (.iload 9, 2) := by decide +kernel
theorem dX2_measure_48 : decode cX2_measure 48 = .ok (.aaload, 1) := by decide +kernel
theorem dX2_measure_49 : decode cX2_measure 49 = .ok (.astore 10, 2) := by decide +kernel
theorem dX2_measure_51 : decode cX2_measure 51 = .ok (.aload_n 1, 1) := by decide +kernel
theorem dX2_measure_52 : decode cX2_measure 52 = .ok (.iload 9, 2) := by decide +kernel
theorem dX2_measure_54 : decode cX2_measure 54 = .ok (.invokevirtual 70, 3) := by decide +kernel
theorem dX2_measure_57 : decode cX2_measure 57 = .ok (.iconst 4, 1) := by decide +kernel
theorem dX2_measure_58 : decode cX2_measure 58 = .ok (.if_icmp .ne 52, 3) := by decide +kernel
theorem dX2_measure_61 : decode cX2_measure 61 = .ok (.aload 10, 2) := by decide +kernel
theorem dX2_measure_63 : decode cX2_measure 63 = .ok (.iconst 5, 1) := by decide +kernel
theorem dX2_measure_64 : decode cX2_measure 64 = .ok (.iaload, 1) := by decide +kernel
theorem dX2_measure_65 : decode cX2_measure 65 = .ok (.aload 10, 2) := by decide +kernel
theorem dX2_measure_67 : decode cX2_measure 67 = .ok (.bipush 6, 2) := by decide +kernel
theorem dX2_measure_69 : decode cX2_measure 69 = .ok (.iaload, 1) := by decide +kernel
theorem dX2_measure_70 : decode cX2_measure 70 = .ok (.isub, 1) := by decide +kernel
theorem dX2_measure_71 : decode cX2_measure 71 = .ok (.istore 11, 2) := by decide +kernel
theorem dX2_measure_73 : decode cX2_measure 73 = .ok (.iload 5, 2) := by decide +kernel
theorem dX2_measure_75 : decode cX2_measure 75 = .ok (.aload 10, 2) := by decide +kernel
theorem dX2_measure_77 : decode cX2_measure 77 = .ok (.bipush 6, 2) := by decide +kernel
theorem dX2_measure_79 : decode cX2_measure 79 = .ok (.iaload, 1) := by decide +kernel
theorem dX2_measure_80 : decode cX2_measure 80 = .ok (.invokestatic 74, 3) := by decide +kernel
theorem dX2_measure_83 : decode cX2_measure 83 = .ok (.istore 5, 2) := by decide +kernel
theorem dX2_measure_85 : decode cX2_measure 85 = .ok (.iload 7, 2) := by decide +kernel
theorem dX2_measure_87 : decode cX2_measure 87 = .ok (.ifCond .eq 13, 3) := by decide +kernel
theorem dX2_measure_90 : decode cX2_measure 90 = .ok (.iload 6, 2) := by decide +kernel
theorem dX2_measure_92 : decode cX2_measure 92 = .ok (.iload 11, 2) := by decide +kernel
theorem dX2_measure_94 : decode cX2_measure 94 = .ok (.invokestatic 74, 3) := by decide +kernel
theorem dX2_measure_97 : decode cX2_measure 97 = .ok (.goto 5, 3) := by decide +kernel
theorem dX2_measure_100 : decode cX2_measure 100 = .ok (.iload 11, 2) := by decide +kernel
theorem dX2_measure_102 : decode cX2_measure 102 = .ok (.istore 6, 2) := by decide +kernel
theorem dX2_measure_104 : decode cX2_measure 104 = .ok (.iconst 1, 1) := by decide +kernel
theorem dX2_measure_105 : decode cX2_measure 105 = .ok (.istore 7, 2) := by decide +kernel
theorem dX2_measure_107 : decode cX2_measure 107 = .ok (.goto 14, 3) := by decide +kernel
theorem dX2_measure_110 : decode cX2_measure 110 = .ok (.iload 4, 2) := by decide +kernel
theorem dX2_measure_112 : decode cX2_measure 112 = .ok (.aload 10, 2) := by decide +kernel
theorem dX2_measure_114 : decode cX2_measure 114 = .ok (.iconst 5, 1) := by decide +kernel
theorem dX2_measure_115 : decode cX2_measure 115 = .ok (.iaload, 1) := by decide +kernel
theorem dX2_measure_116 : decode cX2_measure 116 = .ok (.invokestatic 74, 3) := by decide +kernel
theorem dX2_measure_119 : decode cX2_measure 119 = .ok (.istore 4, 2) := by decide +kernel
theorem dX2_measure_121 : decode cX2_measure 121 = .ok (.iinc 8 1, 3) := by decide +kernel
theorem dX2_measure_124 : decode cX2_measure 124 = .ok (.goto (-104), 3) := by decide +kernel
theorem dX2_measure_127 : decode cX2_measure 127 = .ok (.aload_n 0, 1) := by decide +kernel
theorem dX2_measure_128 : decode cX2_measure 128 = .ok (.getfield 9, 3) := by decide +kernel
theorem dX2_measure_131 : decode cX2_measure 131 = .ok (.iload_n 3, 1) := by decide +kernel
theorem dX2_measure_132 : decode cX2_measure 132 = .ok (.iload 4, 2) := by decide +kernel
theorem dX2_measure_134 : decode cX2_measure 134 = .ok (.iload 5, 2) := by decide +kernel
theorem dX2_measure_136 : decode cX2_measure 136 = .ok (.iload 6, 2) := by decide +kernel
theorem dX2_measure_138 : decode cX2_measure 138 = .ok (.iadd, 1) := by decide +kernel
theorem dX2_measure_139 : decode cX2_measure 139 = .ok (.invokestatic 74, 3) := by decide +kernel
theorem dX2_measure_142 : decode cX2_measure 142 = .ok (.iastore, 1) := by decide +kernel
theorem dX2_measure_143 : decode cX2_measure 143 = .ok (.aload_n 0, 1) := by decide +kernel
theorem dX2_measure_144 : decode cX2_measure 144 = .ok (.getfield 15, 3) := by decide +kernel
theorem dX2_measure_147 : decode cX2_measure 147 = .ok (.iload_n 3, 1) := by decide +kernel
theorem dX2_measure_148 : decode cX2_measure 148 = .ok (.iload 5, 2) := by decide +kernel
theorem dX2_measure_150 : decode cX2_measure 150 = .ok (.iastore, 1) := by decide +kernel
theorem dX2_measure_151 : decode cX2_measure 151 = .ok (.return_, 1) := by decide +kernel
theorem dX2_stretch_0 : decode cX2_stretch 0 = .ok (.aload_n 1, 1) := by decide +kernel
theorem dX2_stretch_1 : decode cX2_stretch 1 = .ok (.getfield 37, 3) := by decide +kernel
theorem dX2_stretch_4 : decode cX2_stretch 4 = .ok (.aload_n 0, 1) := by decide +kernel
theorem dX2_stretch_5 : decode cX2_stretch 5 = .ok (.aload_n 1, 1) := by decide +kernel
theorem dX2_stretch_6 : decode cX2_stretch 6 = .ok (.aload_n 2, 1) := by decide +kernel
theorem dX2_stretch_7 : decode cX2_stretch 7 = .ok (.invokevirtual 53, 3) := by decide +kernel
theorem dX2_stretch_10 : decode cX2_stretch 10 = .ok (.isub, 1) := by decide +kernel
theorem dX2_stretch_11 : decode cX2_stretch 11 = .ok (.istore 4, 2) := by decide +kernel
theorem dX2_stretch_13 : decode cX2_stretch 13 = .ok (.iload 4, 2) := by decide +kernel
theorem dX2_stretch_15 : decode cX2_stretch 15 = .ok (.ifCond .gt 4, 3) := by decide +kernel
theorem dX2_stretch_18 : decode cX2_stretch 18 = .ok (.return_, 1) := by decide +kernel
theorem dX2_stretch_19 : decode cX2_stretch 19 = .ok (.iconst 0, 1) := by decide +kernel
theorem dX2_stretch_20 : decode cX2_stretch 20 = .ok (.istore 5, 2) := by decide +kernel
theorem dX2_stretch_22 : decode cX2_stretch 22 = .ok (.iload 5, 2) := by decide +kernel
theorem dX2_stretch_24 : decode cX2_stretch 24 = .ok (.aload_n 2, 1) := by decide +kernel
theorem dX2_stretch_25 : decode cX2_stretch 25 = .ok (.getfield 28, 3) := by decide +kernel
theorem dX2_stretch_28 : decode cX2_stretch 28 = .ok (.if_icmp .ge 17, 3) := by decide +kernel
theorem dX2_stretch_31 : decode cX2_stretch 31 = .ok (.aload_n 3, 1) := by decide +kernel
theorem dX2_stretch_32 : decode cX2_stretch 32 = .ok (.getfield 80, 3) := by decide +kernel
theorem dX2_stretch_35 : decode cX2_stretch 35 = .ok (.iload 5, 2) := by decide +kernel
theorem dX2_stretch_37 : decode cX2_stretch 37 = .ok (.lconst 1, 1) := by decide +kernel
theorem dX2_stretch_38 : decode cX2_stretch 38 = .ok (.lastore, 1) := by decide +kernel
theorem dX2_stretch_39 : decode cX2_stretch 39 = .ok (.iinc 5 1, 3) := by decide +kernel
theorem dX2_stretch_42 : decode cX2_stretch 42 = .ok (.goto (-20), 3) := by decide +kernel
theorem dX2_stretch_45 : decode cX2_stretch 45 = .ok (.aload_n 3, 1) := by decide +kernel
theorem dX2_stretch_46 : decode cX2_stretch 46 = .ok (.iload 4, 2) := by decide +kernel
theorem dX2_stretch_48 : decode cX2_stretch 48 = .ok (.aload_n 2, 1) := by decide +kernel
theorem dX2_stretch_49 : decode cX2_stretch 49 = .ok (.getfield 28, 3) := by decide +kernel
theorem dX2_stretch_52 : decode cX2_stretch 52 = .ok (.invokevirtual 86, 3) := by decide +kernel
theorem dX2_stretch_55 : decode cX2_stretch 55 = .ok (.iconst 0, 1) := by decide +kernel
theorem dX2_stretch_56 : decode cX2_stretch 56 = .ok (.istore 5, 2) := by decide +kernel
theorem dX2_stretch_58 : decode cX2_stretch 58 = .ok (.iload 5, 2) := by decide +kernel
theorem dX2_stretch_60 : decode cX2_stretch 60 = .ok (.aload_n 2, 1) := by decide +kernel
theorem dX2_stretch_61 : decode cX2_stretch 61 = .ok (.getfield 28, 3) := by decide +kernel
theorem dX2_stretch_64 : decode cX2_stretch 64 = .ok (.if_icmp .ge 26, 3) := by decide +kernel
theorem dX2_stretch_67 : decode cX2_stretch 67 = .ok (.aload_n 0, 1) := by decide +kernel
theorem dX2_stretch_68 : decode cX2_stretch 68 = .ok (.getfield 9, 3) := by decide +kernel
theorem dX2_stretch_71 : decode cX2_stretch 71 = .ok (.iload 5, 2) := by decide +kernel
theorem dX2_stretch_73 : decode cX2_stretch 73 = .ok (.dup2, 1) := by decide +kernel
theorem dX2_stretch_74 : decode cX2_stretch 74 = .ok (.iaload, 1) := by decide +kernel
theorem dX2_stretch_75 : decode cX2_stretch 75 = .ok (.aload_n 3, 1) := by decide +kernel
theorem dX2_stretch_76 : decode cX2_stretch 76 = .ok (.getfield 90, 3) := by decide +kernel
theorem dX2_stretch_79 : decode cX2_stretch 79 = .ok (.iload 5, 2) := by decide +kernel
theorem dX2_stretch_81 : decode cX2_stretch 81 = .ok (.iaload, 1) := by decide +kernel
theorem dX2_stretch_82 : decode cX2_stretch 82 = .ok (.iadd, 1) := by decide +kernel
theorem dX2_stretch_83 : decode cX2_stretch 83 = .ok (.iastore, 1) := by decide +kernel
theorem dX2_stretch_84 : decode cX2_stretch 84 = .ok (.iinc 5 1, 3) := by decide +kernel
theorem dX2_stretch_87 : decode cX2_stretch 87 = .ok (.goto (-29), 3) := by decide +kernel
theorem dX2_stretch_90 : decode cX2_stretch 90 = .ok (.return_, 1) := by decide +kernel
theorem dX2_lengthOfLines_0 : decode cX2_lengthOfLines 0 = .ok (.iconst 0, 1) := by decide +kernel
theorem dX2_lengthOfLines_1 : decode cX2_lengthOfLines 1 = .ok (.istore_n 3, 1) := by decide +kernel
theorem dX2_lengthOfLines_2 : decode cX2_lengthOfLines 2 = .ok (.iconst 0, 1) := by decide +kernel
theorem dX2_lengthOfLines_3 : decode cX2_lengthOfLines 3 = .ok (.istore 4, 2) := by decide +kernel
theorem dX2_lengthOfLines_5 : decode cX2_lengthOfLines 5 = .ok (.iload 4, 2) := by decide +kernel
theorem dX2_lengthOfLines_7 : decode cX2_lengthOfLines 7 = .ok (.aload_n 2, 1) := by decide +kernel
theorem dX2_lengthOfLines_8 : decode cX2_lengthOfLines 8 = .ok (.getfield 28, 3) := by decide +kernel
theorem dX2_lengthOfLines_11 : decode cX2_lengthOfLines 11 = .ok (.if_icmp .ge 33, 3) := by decide +kernel
theorem dX2_lengthOfLines_14 : decode cX2_lengthOfLines 14 = .ok (.iload_n 3, 1) := by decide +kernel
theorem dX2_lengthOfLines_15 : decode cX2_lengthOfLines 15 = .ok (.aload_n 0, 1) := by decide +kernel
theorem dX2_lengthOfLines_16 : decode cX2_lengthOfLines 16 = .ok (.getfield 9, 3) := by decide +kernel
theorem dX2_lengthOfLines_19 : decode cX2_lengthOfLines 19 = .ok (.iload 4, 2) := by decide +kernel
theorem dX2_lengthOfLines_21 : decode cX2_lengthOfLines 21 = .ok (.iaload, 1) := by decide +kernel
theorem dX2_lengthOfLines_22 : decode cX2_lengthOfLines 22 = .ok (.iload 4, 2) := by decide +kernel
theorem dX2_lengthOfLines_24 : decode cX2_lengthOfLines 24 = .ok (.ifCond .le 10, 3) := by decide +kernel
theorem dX2_lengthOfLines_27 : decode cX2_lengthOfLines 27 = .ok (.aload_n 1, 1) := by decide +kernel
theorem dX2_lengthOfLines_28 : decode cX2_lengthOfLines 28 = .ok (.getfield 93, 3) := by decide +kernel
theorem dX2_lengthOfLines_31 : decode cX2_lengthOfLines 31 = .ok (.goto 4, 3) := by decide +kernel
theorem dX2_lengthOfLines_34 : decode cX2_lengthOfLines 34 = .ok (.iconst 0, 1) := by decide +kernel
theorem dX2_lengthOfLines_35 : decode cX2_lengthOfLines 35 = .ok (.iadd, 1) := by decide +kernel
theorem dX2_lengthOfLines_36 : decode cX2_lengthOfLines 36 = .ok (.iadd, 1) := by decide +kernel
theorem dX2_lengthOfLines_37 : decode cX2_lengthOfLines 37 = .ok (.istore_n 3, 1) := by decide +kernel
theorem dX2_lengthOfLines_38 : decode cX2_lengthOfLines 38 = .ok (.iinc 4 1, 3) := by decide +kernel
theorem dX2_lengthOfLines_41 : decode cX2_lengthOfLines 41 = .ok (.goto (-36), 3) := by decide +kernel
theorem dX2_lengthOfLines_44 : decode cX2_lengthOfLines 44 = .ok (.iload_n 3, 1) := by decide +kernel
theorem dX2_lengthOfLines_45 : decode cX2_lengthOfLines 45 = .ok (.ireturn, 1) := by decide +kernel
theorem dX2_findPositions_0 : decode cX2_findPositions 0 = .ok (.aload_n 1, 1) := by decide +kernel
theorem dX2_findPositions_1 : decode cX2_findPositions 1 = .ok (.getfield 46, 3) := by decide +kernel
theorem dX2_findPositions_4 : decode cX2_findPositions 4 = .ok (.iconst 4, 1) := by decide +kernel
theorem dX2_findPositions_5 : decode cX2_findPositions 5 = .ok (.iaload, 1) := by decide +kernel
theorem dX2_findPositions_6 : decode cX2_findPositions 6 = .ok (.istore 4, 2) := by decide +kernel
theorem dX2_findPositions_8 : decode cX2_findPositions 8 = .ok (.iload 4, 2) := by decide +kernel
theorem dX2_findPositions_10 : decode cX2_findPositions 10 = .ok (.ifCond .ne 7, 3) := by decide +kernel
theorem dX2_findPositions_13 : decode cX2_findPositions 13 = .ok (.iconst 0, 1) := by decide +kernel
theorem dX2_findPositions_14 : decode cX2_findPositions 14 = .ok (.goto 7, 3) := by decide +kernel
theorem dX2_findPositions_17 : decode cX2_findPositions 17 = .ok (.iload 4, 2) := by decide +kernel
theorem dX2_findPositions_19 : decode cX2_findPositions 19 = .ok (.iconst 1, 1) := by decide +kernel
theorem dX2_findPositions_20 : decode cX2_findPositions 20 = .ok (.isub, 1) := by decide +kernel
theorem dX2_findPositions_21 : decode cX2_findPositions 21 = .ok (.istore 5, 2) := by decide +kernel
theorem dX2_findPositions_23 : decode cX2_findPositions 23 = .ok (.iconst 0, 1) := by decide +kernel
theorem dX2_findPositions_24 : decode cX2_findPositions 24 = .ok (.istore 6, 2) := by decide +kernel
theorem dX2_findPositions_26 : decode cX2_findPositions 26 = .ok (.iconst 0, 1) := by decide +kernel
theorem dX2_findPositions_27 : decode cX2_findPositions 27 = .ok (.istore 7, 2) := by decide +kernel
theorem dX2_findPositions_29 : decode cX2_findPositions 29 = .ok (.iload 7, 2) := by decide +kernel
theorem dX2_findPositions_31 : decode cX2_findPositions 31 = .ok (.aload_n 2, 1) := by decide +kernel
theorem dX2_findPositions_32 : decode cX2_findPositions 32 = .ok (.getfield 28, 3) := by decide +kernel
theorem dX2_findPositions_35 : decode cX2_findPositions 35 = .ok (.if_icmp .ge 88, 3) := by decide +kernel
theorem dX2_findPositions_38 : decode cX2_findPositions 38 = .ok (.iload 6, 2) := by decide +kernel
theorem dX2_findPositions_40 : decode cX2_findPositions 40 = .ok (.iload 5, 2) := by decide +kernel
theorem dX2_findPositions_42 : decode cX2_findPositions 42 = .ok (.iload_n 3, 1) := by decide +kernel
theorem dX2_findPositions_43 : decode cX2_findPositions 43 = .ok (.iload 7, 2) := by decide +kernel
theorem dX2_findPositions_45 : decode cX2_findPositions 45 = .ok (.aload_n 2, 1) := by decide +kernel
theorem dX2_findPositions_46 : decode cX2_findPositions 46 = .ok (.getfield 28, 3) := by decide +kernel
theorem dX2_findPositions_49 : decode cX2_findPositions 49 = .ok (.invokestatic 96, 3) := by decide +kernel
theorem dX2_findPositions_52 : decode cX2_findPositions 52 = .ok (.iadd, 1) := by decide +kernel
theorem dX2_findPositions_53 : decode cX2_findPositions 53 = .ok (.istore 8, 2) := by decide +kernel
theorem dX2_findPositions_55 : decode cX2_findPositions 55 = .ok (.aload_n 2, 1) := by decide +kernel
theorem dX2_findPositions_56 : decode cX2_findPositions 56 = .ok (.getfield 60, 3) := by decide +kernel
theorem dX2_findPositions_59 : decode cX2_findPositions 59 = .ok (.iload 7, 2) := by decide +kernel
theorem dX2_findPositions_61 : decode cX2_findPositions 61 = .ok (.iaload, 1) := by decide +kernel
theorem dX2_findPositions_62 : decode cX2_findPositions 62 = .ok (.istore 9, 2) := by decide +kernel
theorem dX2_findPositions_64 : decode cX2_findPositions 64 = .ok (.iload 9, 2) := by decide +kernel
theorem dX2_findPositions_66 : decode cX2_findPositions 66 = .ok (.aload_n 2, 1) := by decide +kernel
theorem dX2_findPositions_67 : decode cX2_findPositions 67 = .ok (.getfield 60, 3) := by decide +kernel
theorem dX2_findPositions_70 : decode cX2_findPositions 70 = .ok (.iload 7, 2) := by decide +kernel
theorem dX2_findPositions_72 : decode cX2_findPositions 72 = .ok (.iconst 1, 1) := by decide +kernel
theorem dX2_findPositions_73 : decode cX2_findPositions 73 = .ok (.iadd, 1) := by decide +kernel
theorem dX2_findPositions_74 : decode cX2_findPositions 74 = .ok (.iaload, 1) := by decide +kernel
theorem dX2_findPositions_75 : decode cX2_findPositions 75 = .ok (.if_icmp .ge 25, 3) := by decide +kernel
theorem dX2_findPositions_78 : decode cX2_findPositions 78 = .ok (.aload_n 0, 1) := by decide +kernel
theorem dX2_findPositions_79 : decode cX2_findPositions 79 = .ok (.aload_n 1, 1) := by decide +kernel
theorem dX2_findPositions_80 : decode cX2_findPositions 80 = .ok (.aload_n 2, 1) := by decide +kernel
theorem dX2_findPositions_81 : decode cX2_findPositions 81 = .ok (.getfield 63, 3) := by decide +kernel
theorem dX2_findPositions_84 : decode cX2_findPositions 84 = .ok (.iload 9, 2) := by decide +kernel
theorem dX2_findPositions_86 : decode cX2_findPositions 86 = .ok (.iaload, 1) := by decide +kernel
theorem dX2_findPositions_87 : decode cX2_findPositions 87 = .ok (.iload 7, 2) := by decide +kernel
theorem dX2_findPositions_89 : decode cX2_findPositions 89 = .ok (.iload 8, 2) := by decide +kernel
theorem dX2_findPositions_91 : decode cX2_findPositions 91 = .ok (.invokevirtual 100, 3) := by decide +kernel
theorem dX2_findPositions_94 : decode cX2_findPositions 94 = .ok (.iinc 9 1, 3) := by decide +kernel
theorem dX2_findPositions_97 : decode cX2_findPositions 97 = .ok (.goto (-33), 3) := by decide +kernel
theorem dX2_findPositions_100 : decode cX2_findPositions 100 = .ok (.iload 6, 2) := by decide +kernel
theorem dX2_findPositions_102 : decode cX2_findPositions 102 = .ok (.aload_n 0, 1) := by decide +kernel
theorem dX2_findPositions_103 : decode cX2_findPositions 103 = .ok (.getfield 9, 3) := by decide +kernel
theorem dX2_findPositions_106 : decode cX2_findPositions 106 = .ok (.iload 7, 2) := by decide +kernel
theorem dX2_findPositions_108 : decode cX2_findPositions 108 = .ok (.iaload, 1) := by decide +kernel
theorem dX2_findPositions_109 : decode cX2_findPositions 109 = .ok (.aload_n 1, 1) := by decide +kernel
theorem dX2_findPositions_110 : decode cX2_findPositions 110 = .ok (.getfield 93, 3) := by decide +kernel
theorem dX2_findPositions_113 : decode cX2_findPositions 113 = .ok (.iadd, 1) := by decide +kernel
theorem dX2_findPositions_114 : decode cX2_findPositions 114 = .ok (.iadd, 1) := by decide +kernel
theorem dX2_findPositions_115 : decode cX2_findPositions 115 = .ok (.istore 6, 2) := by decide +kernel
theorem dX2_findPositions_117 : decode cX2_findPositions 117 = .ok (.iinc 7 1, 3) := by decide +kernel
theorem dX2_findPositions_120 : decode cX2_findPositions 120 = .ok (.goto (-91), 3) := by decide +kernel
theorem dX2_findPositions_123 : decode cX2_findPositions 123 = .ok (.return_, 1) := by decide +kernel
theorem dX2_put_0 : decode cX2_put 0 = .ok (.aload_n 1, 1) := by decide +kernel
theorem dX2_put_1 : decode cX2_put 1 = .ok (.getfield 66, 3) := by decide +kernel
theorem dX2_put_4 : decode cX2_put 4 = .ok (.iload_n 2, 1) := by decide +kernel
theorem dX2_put_5 : decode cX2_put 5 = .ok (.aaload, 1) := by decide +kernel
theorem dX2_put_6 : decode cX2_put 6 = .ok (.astore 5, 2) := by decide +kernel
theorem dX2_put_8 : decode cX2_put 8 = .ok (.aload_n 1, 1) := by decide +kernel
theorem dX2_put_9 : decode cX2_put 9 = .ok (.iload_n 2, 1) := by decide +kernel
theorem dX2_put_10 : decode cX2_put 10 = .ok (.invokevirtual 70, 3) := by decide +kernel
theorem dX2_put_13 : decode cX2_put 13 = .ok (.ifCond .ne 16, 3) := by decide +kernel
theorem dX2_put_16 : decode cX2_put 16 = .ok (.aload 5, 2) := by decide +kernel
theorem dX2_put_18 : decode cX2_put 18 = .ok (.bipush 9, 2) := by decide +kernel
theorem dX2_put_20 : decode cX2_put 20 = .ok (.iaload, 1) := by decide +kernel
theorem dX2_put_21 : decode cX2_put 21 = .ok (.iconst 1, 1) := by decide +kernel
theorem dX2_put_22 : decode cX2_put 22 = .ok (.if_icmp .ne 7, 3) := by decide +kernel
theorem dX2_put_25 : decode cX2_put 25 = .ok (.iconst 1, 1) := by decide +kernel
theorem dX2_put_26 : decode cX2_put 26 = .ok (.goto 4, 3) := by decide +kernel
theorem dX2_put_29 : decode cX2_put 29 = .ok (.iconst 0, 1) := by decide +kernel
theorem dX2_put_30 : decode cX2_put 30 = .ok (.istore 6, 2) := by decide +kernel
theorem dX2_put_32 : decode cX2_put 32 = .ok (.aload_n 0, 1) := by decide +kernel
theorem dX2_put_33 : decode cX2_put 33 = .ok (.getfield 18, 3) := by decide +kernel
theorem dX2_put_36 : decode cX2_put 36 = .ok (.iload_n 2, 1) := by decide +kernel
theorem dX2_put_37 : decode cX2_put 37 = .ok (.iload 6, 2) := by decide +kernel
theorem dX2_put_39 : decode cX2_put 39 = .ok (.ifCond .eq 12, 3) := by decide +kernel
theorem dX2_put_42 : decode cX2_put 42 = .ok (.aload_n 0, 1) := by decide +kernel
theorem dX2_put_43 : decode cX2_put 43 = .ok (.getfield 9, 3) := by decide +kernel
theorem dX2_put_46 : decode cX2_put 46 = .ok (.iload_n 3, 1) := by decide +kernel
theorem dX2_put_47 : decode cX2_put 47 = .ok (.iaload, 1) := by decide +kernel
theorem dX2_put_48 : decode cX2_put 48 = .ok (.goto 7, 3) := by decide +kernel
theorem dX2_put_51 : decode cX2_put 51 = .ok (.aload 5, 2) := by decide +kernel
theorem dX2_put_53 : decode cX2_put 53 = .ok (.iconst 5, 1) := by decide +kernel
theorem dX2_put_54 : decode cX2_put 54 = .ok (.iaload, 1) := by decide +kernel
theorem dX2_put_55 : decode cX2_put 55 = .ok (.iastore, 1) := by decide +kernel
theorem dX2_put_56 : decode cX2_put 56 = .ok (.iload 4, 2) := by decide +kernel
theorem dX2_put_58 : decode cX2_put 58 = .ok (.aload_n 0, 1) := by decide +kernel
theorem dX2_put_59 : decode cX2_put 59 = .ok (.aload_n 1, 1) := by decide +kernel
theorem dX2_put_60 : decode cX2_put 60 = .ok (.iload_n 2, 1) := by decide +kernel
theorem dX2_put_61 : decode cX2_put 61 = .ok (.iload_n 3, 1) := by decide +kernel
theorem dX2_put_62 : decode cX2_put 62 = .ok (.invokevirtual 104, 3) := by decide +kernel
theorem dX2_put_65 : decode cX2_put 65 = .ok (.iadd, 1) := by decide +kernel
theorem dX2_put_66 : decode cX2_put 66 = .ok (.istore 7, 2) := by decide +kernel
theorem dX2_put_68 : decode cX2_put 68 = .ok (.aload_n 0, 1) := by decide +kernel
theorem dX2_put_69 : decode cX2_put 69 = .ok (.getfield 21, 3) := by decide +kernel
theorem dX2_put_72 : decode cX2_put 72 = .ok (.iload_n 2, 1) := by decide +kernel
theorem dX2_put_73 : decode cX2_put 73 = .ok (.aload_n 1, 1) := by decide +kernel
theorem dX2_put_74 : decode cX2_put 74 = .ok (.getfield 46, 3) := by decide +kernel
theorem dX2_put_77 : decode cX2_put 77 = .ok (.iconst 1, 1) := by decide +kernel
theorem dX2_put_78 : decode cX2_put 78 = .ok (.iaload, 1) := by decide +kernel
theorem dX2_put_79 : decode cX2_put 79 = .ok (.iconst 2, 1) := by decide +kernel
theorem dX2_put_80 : decode cX2_put 80 = .ok (.if_icmp .ne 20, 3) := by decide +kernel
theorem dX2_put_83 : decode cX2_put 83 = .ok (.aload_n 0, 1) := by decide +kernel
theorem dX2_put_84 : decode cX2_put 84 = .ok (.getfield 24, 3) := by decide +kernel
theorem dX2_put_87 : decode cX2_put 87 = .ok (.iload 7, 2) := by decide +kernel
theorem dX2_put_89 : decode cX2_put 89 = .ok (.isub, 1) := by decide +kernel
theorem dX2_put_90 : decode cX2_put 90 = .ok (.aload_n 0, 1) := by decide +kernel
theorem dX2_put_91 : decode cX2_put 91 = .ok (.getfield 18, 3) := by decide +kernel
theorem dX2_put_94 : decode cX2_put 94 = .ok (.iload_n 2, 1) := by decide +kernel
theorem dX2_put_95 : decode cX2_put 95 = .ok (.iaload, 1) := by decide +kernel
theorem dX2_put_96 : decode cX2_put 96 = .ok (.isub, 1) := by decide +kernel
theorem dX2_put_97 : decode cX2_put 97 = .ok (.goto 5, 3) := by decide +kernel
theorem dX2_put_100 : decode cX2_put 100 = .ok (.iload 7, 2) := by decide +kernel
theorem dX2_put_102 : decode cX2_put 102 = .ok (.iastore, 1) := by decide +kernel
theorem dX2_put_103 : decode cX2_put 103 = .ok (.return_, 1) := by decide +kernel
theorem dX2_positionInLine_0 : decode cX2_positionInLine 0 = .ok (.aload_n 0, 1) := by decide +kernel
theorem dX2_positionInLine_1 : decode cX2_positionInLine 1 = .ok (.getfield 9, 3) := by decide +kernel
theorem dX2_positionInLine_4 : decode cX2_positionInLine 4 = .ok (.iload_n 3, 1) := by decide +kernel
theorem dX2_positionInLine_5 : decode cX2_positionInLine 5 = .ok (.iaload, 1) := by decide +kernel
theorem dX2_positionInLine_6 : decode cX2_positionInLine 6 = .ok (.aload_n 0, 1) := by decide +kernel
theorem dX2_positionInLine_7 : decode cX2_positionInLine 7 = .ok (.getfield 18, 3) := by decide +kernel
theorem dX2_positionInLine_10 : decode cX2_positionInLine 10 = .ok (.iload_n 2, 1) := by decide +kernel
theorem dX2_positionInLine_11 : decode cX2_positionInLine 11 = .ok (.iaload, 1) := by decide +kernel
theorem dX2_positionInLine_12 : decode cX2_positionInLine 12 = .ok (.isub, 1) := by decide +kernel
theorem dX2_positionInLine_13 : decode cX2_positionInLine 13 = .ok (.istore 4, 2) := by decide +kernel
theorem dX2_positionInLine_15 : decode cX2_positionInLine 15 = .ok (.aload_n 1, 1) := by decide +kernel
theorem dX2_positionInLine_16 : decode cX2_positionInLine 16 = .ok (.iload_n 2, 1) := by decide +kernel
theorem dX2_positionInLine_17 : decode cX2_positionInLine 17 = .ok (.invokevirtual 70, 3) := by decide +kernel
theorem dX2_positionInLine_20 : decode cX2_positionInLine 20 = .ok (.tableswitch 55 2 4 #[28, 31, 38], 28) := by decide +kernel
theorem dX2_positionInLine_48 : decode cX2_positionInLine 48 = .ok (.iload 4, 2) := by decide +kernel
theorem dX2_positionInLine_50 : decode cX2_positionInLine 50 = .ok (.ireturn, 1) := by decide +kernel
theorem dX2_positionInLine_51 : decode cX2_positionInLine 51 = .ok (.iload 4, 2) := by decide +kernel
theorem dX2_positionInLine_53 : decode cX2_positionInLine 53 = .ok (.iconst 2, 1) := by decide +kernel
theorem dX2_positionInLine_54 : decode cX2_positionInLine 54 = .ok (.invokestatic 108, 3) := by decide +kernel
theorem dX2_positionInLine_57 : decode cX2_positionInLine 57 = .ok (.ireturn, 1) := by decide +kernel
theorem dX2_positionInLine_58 : decode cX2_positionInLine 58 = .ok (.aload_n 0, 1) := by decide +kernel
theorem dX2_positionInLine_59 : decode cX2_positionInLine 59 = .ok (.getfield 15, 3) := by decide +kernel
theorem dX2_positionInLine_62 : decode cX2_positionInLine 62 = .ok (.iload_n 3, 1) := by decide +kernel
theorem dX2_positionInLine_63 : decode cX2_positionInLine 63 = .ok (.iaload, 1) := by decide +kernel
theorem dX2_positionInLine_64 : decode cX2_positionInLine 64 = .ok (.aload_n 1, 1) := by decide +kernel
theorem dX2_positionInLine_65 : decode cX2_positionInLine 65 = .ok (.getfield 66, 3) := by decide +kernel
theorem dX2_positionInLine_68 : decode cX2_positionInLine 68 = .ok (.iload_n 2, 1) := by decide +kernel
theorem dX2_positionInLine_69 : decode cX2_positionInLine 69 = .ok (.aaload, 1) := by decide +kernel
theorem dX2_positionInLine_70 : decode cX2_positionInLine 70 = .ok (.bipush 6, 2) := by decide +kernel
theorem dX2_positionInLine_72 : decode cX2_positionInLine 72 = .ok (.iaload, 1) := by decide +kernel
theorem dX2_positionInLine_73 : decode cX2_positionInLine 73 = .ok (.isub, 1) := by decide +kernel
theorem dX2_positionInLine_74 : decode cX2_positionInLine 74 = .ok (.ireturn, 1) := by decide +kernel
theorem dX2_positionInLine_75 : decode cX2_positionInLine 75 = .ok (.iconst 0, 1) := by decide +kernel
theorem dX2_positionInLine_76 : decode cX2_positionInLine 76 = .ok (.ireturn, 1) := by decide +kernel
theorem dX3_init_0 : decode cX3_init 0 = .ok (.aload_n 0, 1) := by decide +kernel
theorem dX3_init_1 : decode cX3_init 1 = .ok (.invokespecial 3, 3) := by decide +kernel
theorem dX3_init_4 : decode cX3_init 4 = .ok (.aload_n 0, 1) := by decide +kernel
theorem dX3_init_5 : decode cX3_init 5 = .ok (.bipush 20, 2) := by decide +kernel
theorem dX3_init_7 : decode cX3_init 7 = .ok (.newarray .long, 2) := by decide +kernel
theorem dX3_init_9 : decode cX3_init 9 = .ok (.putfield 9, 3) := by decide +kernel
theorem dX3_init_12 : decode cX3_init 12 = .ok (.aload_n 0, 1) := by decide +kernel
theorem dX3_init_13 : decode cX3_init 13 = .ok (.bipush 20, 2) := by decide +kernel
theorem dX3_init_15 : decode cX3_init 15 = .ok (.newarray .int, 2) := by decide +kernel
theorem dX3_init_17 : decode cX3_init 17 = .ok (.putfield 15, 3) := by decide +kernel
theorem dX3_init_20 : decode cX3_init 20 = .ok (.aload_n 0, 1) := by decide +kernel
theorem dX3_init_21 : decode cX3_init 21 = .ok (.bipush 20, 2) := by decide +kernel
theorem dX3_init_23 : decode cX3_init 23 = .ok (.newarray .long, 2) := by decide +kernel
theorem dX3_init_25 : decode cX3_init 25 = .ok (.putfield 19, 3) := by decide +kernel
theorem dX3_init_28 : decode cX3_init 28 = .ok (.return_, 1) := by decide +kernel
theorem dX3_weightSum_0 : decode cX3_weightSum 0 = .ok (.lconst 0, 1) := by decide +kernel
theorem dX3_weightSum_1 : decode cX3_weightSum 1 = .ok (.lstore_n 2, 1) := by decide +kernel
theorem dX3_weightSum_2 : decode cX3_weightSum 2 = .ok (.iconst 0, 1) := by decide +kernel
theorem dX3_weightSum_3 : decode cX3_weightSum 3 = .ok (.istore 4, 2) := by decide +kernel
theorem dX3_weightSum_5 : decode cX3_weightSum 5 = .ok (.iload 4, 2) := by decide +kernel
theorem dX3_weightSum_7 : decode cX3_weightSum 7 = .ok (.iload_n 1, 1) := by decide +kernel
theorem dX3_weightSum_8 : decode cX3_weightSum 8 = .ok (.if_icmp .ge 19, 3) := by decide +kernel
theorem dX3_weightSum_11 : decode cX3_weightSum 11 = .ok (.lload_n 2, 1) := by decide +kernel
theorem dX3_weightSum_12 : decode cX3_weightSum 12 = .ok (.aload_n 0, 1) := by decide +kernel
theorem dX3_weightSum_13 : decode cX3_weightSum 13 = .ok (.getfield 9, 3) := by decide +kernel
theorem dX3_weightSum_16 : decode cX3_weightSum 16 = .ok (.iload 4, 2) := by decide +kernel
theorem dX3_weightSum_18 : decode cX3_weightSum 18 = .ok (.laload, 1) := by decide +kernel
theorem dX3_weightSum_19 : decode cX3_weightSum 19 = .ok (.ladd, 1) := by decide +kernel
theorem dX3_weightSum_20 : decode cX3_weightSum 20 = .ok (.lstore_n 2, 1) := by decide +kernel
theorem dX3_weightSum_21 : decode cX3_weightSum 21 = .ok (.iinc 4 1, 3) := by decide +kernel
theorem dX3_weightSum_24 : decode cX3_weightSum 24 = .ok (.goto (-19), 3) := by decide +kernel
theorem dX3_weightSum_27 : decode cX3_weightSum 27 = .ok (.lload_n 2, 1) := by decide +kernel
theorem dX3_weightSum_28 : decode cX3_weightSum 28 = .ok (.lreturn, 1) := by decide +kernel
theorem dX3_divide_0 : decode cX3_divide 0 = .ok (.aload_n 0, 1) := by decide +kernel
theorem dX3_divide_1 : decode cX3_divide 1 = .ok (.iload_n 2, 1) := by decide +kernel
theorem dX3_divide_2 : decode cX3_divide 2 = .ok (.invokevirtual 22, 3) := by decide +kernel
theorem dX3_divide_5 : decode cX3_divide 5 = .ok (.lstore_n 3, 1) := by decide +kernel
theorem dX3_divide_6 : decode cX3_divide 6 = .ok (.lload_n 3, 1) := by decide +kernel
theorem dX3_divide_7 : decode cX3_divide 7 = .ok (.lconst 0, 1) := by decide +kernel
theorem dX3_divide_8 : decode cX3_divide 8 = .ok (.lcmp, 1) := by decide +kernel
theorem dX3_divide_9 : decode cX3_divide 9 = .ok (.ifCond .le 7, 3) := by decide +kernel
theorem dX3_divide_12 : decode cX3_divide 12 = .ok (.iload_n 1, 1) := by decide +kernel
theorem dX3_divide_13 : decode cX3_divide 13 = .ok (.goto 4, 3) := by decide +kernel
theorem dX3_divide_16 : decode cX3_divide 16 = .ok (.iconst 0, 1) := by decide +kernel
theorem dX3_divide_17 : decode cX3_divide 17 = .ok (.istore 5, 2) := by decide +kernel
theorem dX3_divide_19 : decode cX3_divide 19 = .ok (.iconst 0, 1) := by decide +kernel
theorem dX3_divide_20 : decode cX3_divide 20 = .ok (.istore 6, 2) := by decide +kernel
theorem dX3_divide_22 : decode cX3_divide 22 = .ok (.iload 6, 2) := by decide +kernel
theorem dX3_divide_24 : decode cX3_divide 24 = .ok (.iload_n 2, 1) := by decide +kernel
theorem dX3_divide_25 : decode cX3_divide 25 = .ok (.if_icmp .ge 76, 3) := by decide +kernel
theorem dX3_divide_28 : decode cX3_divide 28 = .ok (.iload_n 1, 1) := by decide +kernel
theorem dX3_divide_29 : decode cX3_divide 29 = .ok (.i2l, 1) := by decide +kernel
theorem dX3_divide_30 : decode cX3_divide 30 = .ok (.aload_n 0, 1) := by decide +kernel
theorem dX3_divide_31 : decode cX3_divide 31 = .ok (.getfield 9, 3) := by decide +kernel
theorem dX3_divide_34 : decode cX3_divide 34 = .ok (.iload 6, 2) := by decide +kernel
theorem dX3_divide_36 : decode cX3_divide 36 = .ok (.laload, 1) := by decide +kernel
theorem dX3_divide_37 : decode cX3_divide 37 = .ok (.lmul, 1) := by decide +kernel
theorem dX3_divide_38 : decode cX3_divide 38 = .ok (.lstore 7, 2) := by decide +kernel
theorem dX3_divide_40 : decode cX3_divide 40 = .ok (.aload_n 0, 1) := by decide +kernel
theorem dX3_divide_41 : decode cX3_divide 41 = .ok (.getfield 15, 3) := by decide +kernel
theorem dX3_divide_44 : decode cX3_divide 44 = .ok (.iload 6, 2) := by decide +kernel
theorem dX3_divide_46 : decode cX3_divide 46 = .ok (.lload_n 3, 1) := by decide +kernel
theorem dX3_divide_47 : decode cX3_divide 47 = .ok (.lconst 0, 1) := by decide +kernel
theorem dX3_divide_48 : decode cX3_divide 48 = .ok (.lcmp, 1) := by decide +kernel
theorem dX3_divide_49 : decode cX3_divide 49 = .ok (.ifCond .le 11, 3) := by decide +kernel
theorem dX3_divide_52 : decode cX3_divide 52 = .ok (.lload 7, 2) := by decide +kernel
theorem dX3_divide_54 : decode cX3_divide 54 = .ok (.lload_n 3, 1) := by decide +kernel
theorem dX3_divide_55 : decode cX3_divide 55 = .ok (.ldiv, 1) := by decide +kernel
theorem dX3_divide_56 : decode cX3_divide 56 = .ok (.l2i, 1) := by decide +kernel
theorem dX3_divide_57 : decode cX3_divide 57 = .ok (.goto 4, 3) := by decide +kernel
theorem dX3_divide_60 : decode cX3_divide 60 = .ok (.iconst 0, 1) := by decide +kernel
theorem dX3_divide_61 : decode cX3_divide 61 = .ok (.iastore, 1) := by decide +kernel
theorem dX3_divide_62 : decode cX3_divide 62 = .ok (.aload_n 0, 1) := by decide +kernel
theorem dX3_divide_63 : decode cX3_divide 63 = .ok (.getfield 19, 3) := by decide +kernel
theorem dX3_divide_66 : decode cX3_divide 66 = .ok (.iload 6, 2) := by decide +kernel
theorem dX3_divide_68 : decode cX3_divide 68 = .ok (.lload_n 3, 1) := by decide +kernel
theorem dX3_divide_69 : decode cX3_divide 69 = .ok (.lconst 0, 1) := by decide +kernel
theorem dX3_divide_70 : decode cX3_divide 70 = .ok (.lcmp, 1) := by decide +kernel
theorem dX3_divide_71 : decode cX3_divide 71 = .ok (.ifCond .le 10, 3) := by decide +kernel
theorem dX3_divide_74 : decode cX3_divide 74 = .ok (.lload 7, 2) := by decide +kernel
theorem dX3_divide_76 : decode cX3_divide 76 = .ok (.lload_n 3, 1) := by decide +kernel
theorem dX3_divide_77 : decode cX3_divide 77 = .ok (.lrem, 1) := by decide +kernel
theorem dX3_divide_78 : decode cX3_divide 78 = .ok (.goto 4, 3) := by decide +kernel
theorem dX3_divide_81 : decode cX3_divide 81 = .ok (.lconst 0, 1) := by decide +kernel
theorem dX3_divide_82 : decode cX3_divide 82 = .ok (.lastore, 1) := by decide +kernel
theorem dX3_divide_83 : decode cX3_divide 83 = .ok (.iload 5, 2) := by decide +kernel
theorem dX3_divide_85 : decode cX3_divide 85 = .ok (.aload_n 0, 1) := by decide +kernel
theorem dX3_divide_86 : decode cX3_divide 86 = .ok (.getfield 15, 3) := by decide +kernel
theorem dX3_divide_89 : decode cX3_divide 89 = .ok (.iload 6, 2) := by decide +kernel
theorem dX3_divide_91 : decode cX3_divide 91 = .ok (.iaload, 1) := by decide +kernel
theorem dX3_divide_92 : decode cX3_divide 92 = .ok (.isub, 1) := by decide +kernel
theorem dX3_divide_93 : decode cX3_divide 93 = .ok (.istore 5, 2) := by decide +kernel
theorem dX3_divide_95 : decode cX3_divide 95 = .ok (.iinc 6 1, 3) := by decide +kernel
theorem dX3_divide_98 : decode cX3_divide 98 = .ok (.goto (-76), 3) := by decide +kernel
theorem dX3_divide_101 : decode cX3_divide 101 = .ok (.aload_n 0, 1) := by decide +kernel
theorem dX3_divide_102 : decode cX3_divide 102 = .ok (.iload 5, 2) := by decide +kernel
theorem dX3_divide_104 : decode cX3_divide 104 = .ok (.iload_n 2, 1) := by decide +kernel
theorem dX3_divide_105 : decode cX3_divide 105 = .ok (.invokevirtual 26, 3) := by decide +kernel
theorem dX3_divide_108 : decode cX3_divide 108 = .ok (.return_, 1) := by decide +kernel
theorem dX3_giveOut_0 : decode cX3_giveOut 0 = .ok (.iconst 0, 1) := by decide +kernel
theorem dX3_giveOut_1 : decode cX3_giveOut 1 = .ok (.istore_n 3, 1) := by decide +kernel
theorem dX3_giveOut_2 : decode cX3_giveOut 2 = .ok (.iload_n 3, 1) := by decide +kernel
theorem dX3_giveOut_3 : decode cX3_giveOut 3 = .ok (.iload_n 1, 1) := by decide +kernel
theorem dX3_giveOut_4 : decode cX3_giveOut 4 = .ok (.if_icmp .ge 75, 3) := by decide +kernel
theorem dX3_giveOut_7 : decode cX3_giveOut 7 = .ok (.iload_n 3, 1) := by decide +kernel
theorem dX3_giveOut_8 : decode cX3_giveOut 8 = .ok (.iload_n 2, 1) := by decide +kernel
theorem dX3_giveOut_9 : decode cX3_giveOut 9 = .ok (.if_icmp .ge 70, 3) := by decide +kernel
theorem dX3_giveOut_12 : decode cX3_giveOut 12 = .ok (.iconst 0, 1) := by decide +kernel
theorem dX3_giveOut_13 : decode cX3_giveOut 13 = .ok (.istore 4, 2) := by decide +kernel
theorem dX3_giveOut_15 : decode cX3_giveOut 15 = .ok (.iconst 1, 1) := by decide +kernel
theorem dX3_giveOut_16 : decode cX3_giveOut 16 = .ok (.istore 5, 2) := by decide +kernel
theorem dX3_giveOut_18 : decode cX3_giveOut 18 = .ok (.iload 5, 2) := by decide +kernel
theorem dX3_giveOut_20 : decode cX3_giveOut 20 = .ok (.iload_n 2, 1) := by decide +kernel
theorem dX3_giveOut_21 : decode cX3_giveOut 21 = .ok (.if_icmp .ge 31, 3) := by decide +kernel
theorem dX3_giveOut_24 : decode cX3_giveOut 24 = .ok (.aload_n 0, 1) := by decide +kernel
theorem dX3_giveOut_25 : decode cX3_giveOut 25 = .ok (.getfield 19, 3) := by decide +kernel
theorem dX3_giveOut_28 : decode cX3_giveOut 28 = .ok (.iload 5, 2) := by decide +kernel
theorem dX3_giveOut_30 : decode cX3_giveOut 30 = .ok (.laload, 1) := by decide +kernel
theorem dX3_giveOut_31 : decode cX3_giveOut 31 = .ok (.aload_n 0, 1) := by decide +kernel
theorem dX3_giveOut_32 : decode cX3_giveOut 32 = .ok (.getfield 19, 3) := by decide +kernel
theorem dX3_giveOut_35 : decode cX3_giveOut 35 = .ok (.iload 4, 2) := by decide +kernel
theorem dX3_giveOut_37 : decode cX3_giveOut 37 = .ok (.laload, 1) := by decide +kernel
theorem dX3_giveOut_38 : decode cX3_giveOut 38 = .ok (.lcmp, 1) := by decide +kernel
theorem dX3_giveOut_39 : decode cX3_giveOut 39 = .ok (.ifCond .le 7, 3) := by decide +kernel
theorem dX3_giveOut_42 : decode cX3_giveOut 42 = .ok (.iload 5, 2) := by decide +kernel
theorem dX3_giveOut_44 : decode cX3_giveOut 44 = .ok (.istore 4, 2) := by decide +kernel
theorem dX3_giveOut_46 : decode cX3_giveOut 46 = .ok (.iinc 5 1, 3) := by decide +kernel
theorem dX3_giveOut_49 : decode cX3_giveOut 49 = .ok (.goto (-31), 3) := by decide +kernel
theorem dX3_giveOut_52 : decode cX3_giveOut 52 = .ok (.aload_n 0, 1) := by decide +kernel
theorem dX3_giveOut_53 : decode cX3_giveOut 53 = .ok (.getfield 15, 3) := by decide +kernel
theorem dX3_giveOut_56 : decode cX3_giveOut 56 = .ok (.iload 4, 2) := by decide +kernel
theorem dX3_giveOut_58 : decode cX3_giveOut 58 = .ok (.dup2, 1) := by decide +kernel
theorem dX3_giveOut_59 : decode cX3_giveOut 59 = .ok (.iaload, 1) := by decide +kernel
theorem dX3_giveOut_60 : decode cX3_giveOut 60 = .ok (.iconst 1, 1) := by decide +kernel
theorem dX3_giveOut_61 : decode cX3_giveOut 61 = .ok (.iadd, 1) := by decide +kernel
theorem dX3_giveOut_62 : decode cX3_giveOut 62 = .ok (.iastore, 1) := by decide +kernel
theorem dX3_giveOut_63 : decode cX3_giveOut 63 = .ok (.aload_n 0, 1) := by decide +kernel
theorem dX3_giveOut_64 : decode cX3_giveOut 64 = .ok (.getfield 19, 3) := by decide +kernel
theorem dX3_giveOut_67 : decode cX3_giveOut 67 = .ok (.iload 4, 2) := by decide +kernel
theorem dX3_giveOut_69 : decode cX3_giveOut 69 = .ok (.ldc2_w 30, 3) := by decide +kernel
theorem dX3_giveOut_72 : decode cX3_giveOut 72 = .ok (.lastore, 1) := by decide +kernel
theorem dX3_giveOut_73 : decode cX3_giveOut 73 = .ok (.iinc 3 1, 3) := by decide +kernel
theorem dX3_giveOut_76 : decode cX3_giveOut 76 = .ok (.goto (-74), 3) := by decide +kernel
theorem dX3_giveOut_79 : decode cX3_giveOut 79 = .ok (.return_, 1) := by decide +kernel
theorem dX4_init_0 : decode cX4_init 0 = .ok (.aload_n 0, 1) := by decide +kernel
theorem dX4_init_1 : decode cX4_init 1 = .ok (.invokespecial 3, 3) := by decide +kernel
theorem dX4_init_4 : decode cX4_init 4 = .ok (.aload_n 0, 1) := by decide +kernel
theorem dX4_init_5 : decode cX4_init 5 = .ok (.bipush 80, 2) := by decide +kernel
theorem dX4_init_7 : decode cX4_init 7 = .ok (.newarray .char, 2) := by decide +kernel
theorem dX4_init_9 : decode cX4_init 9 = .ok (.putfield 9, 3) := by decide +kernel
theorem dX4_init_12 : decode cX4_init 12 = .ok (.aload_n 0, 1) := by decide +kernel
theorem dX4_init_13 : decode cX4_init 13 = .ok (.iconst 0, 1) := by decide +kernel
theorem dX4_init_14 : decode cX4_init 14 = .ok (.putfield 15, 3) := by decide +kernel
theorem dX4_init_17 : decode cX4_init 17 = .ok (.return_, 1) := by decide +kernel
theorem dX4_syntaxError_0 : decode cX4_syntaxError 0 = .ok (.iconst 0, 1) := by decide +kernel
theorem dX4_syntaxError_1 : decode cX4_syntaxError 1 = .ok (.istore_n 1, 1) := by decide +kernel
theorem dX4_syntaxError_2 : decode cX4_syntaxError 2 = .ok (.iconst 0, 1) := by decide +kernel
theorem dX4_syntaxError_3 : decode cX4_syntaxError 3 = .ok (.istore_n 2, 1) := by decide +kernel
theorem dX4_syntaxError_4 : decode cX4_syntaxError 4 = .ok (.iload_n 2, 1) := by decide +kernel
theorem dX4_syntaxError_5 : decode cX4_syntaxError 5 = .ok (.aload_n 0, 1) := by decide +kernel
theorem dX4_syntaxError_6 : decode cX4_syntaxError 6 = .ok (.getfield 15, 3) := by decide +kernel
theorem dX4_syntaxError_9 : decode cX4_syntaxError 9 = .ok (.if_icmp .ge 27, 3) := by decide +kernel
theorem dX4_syntaxError_12 : decode cX4_syntaxError 12 = .ok (.iload_n 1, 1) := by decide +kernel
theorem dX4_syntaxError_13 : decode cX4_syntaxError 13 = .ok (.aload_n 0, 1) := by decide +kernel
theorem dX4_syntaxError_14 : decode cX4_syntaxError 14 = .ok (.getfield 9, 3) := by decide +kernel
theorem dX4_syntaxError_17 : decode cX4_syntaxError 17 = .ok (.iload_n 2, 1) := by decide +kernel
theorem dX4_syntaxError_18 : decode cX4_syntaxError 18 = .ok (.caload, 1) := by decide +kernel
theorem dX4_syntaxError_19 : decode cX4_syntaxError 19 = .ok (.invokestatic 19, 3) := by decide +kernel
theorem dX4_syntaxError_22 : decode cX4_syntaxError 22 = .ok (.istore_n 1, 1) := by decide +kernel
theorem dX4_syntaxError_23 : decode cX4_syntaxError 23 = .ok (.iload_n 1, 1) := by decide +kernel
theorem dX4_syntaxError_24 : decode cX4_syntaxError 24 = .ok (.iconst (-1), 1) := by decide +kernel
theorem dX4_syntaxError_25 : decode cX4_syntaxError 25 = .ok (.if_icmp .ne 5, 3) := by decide +kernel
theorem dX4_syntaxError_28 : decode cX4_syntaxError 28 = .ok (.iload_n 2, 1) := by decide +kernel
theorem dX4_syntaxError_29 : decode cX4_syntaxError 29 = .ok (.ireturn, 1) := by decide +kernel
theorem dX4_syntaxError_30 : decode cX4_syntaxError 30 = .ok (.iinc 2 1, 3) := by decide +kernel
theorem dX4_syntaxError_33 : decode cX4_syntaxError 33 = .ok (.goto (-29), 3) := by decide +kernel
theorem dX4_syntaxError_36 : decode cX4_syntaxError 36 = .ok (.iload_n 1, 1) := by decide +kernel
theorem dX4_syntaxError_37 : decode cX4_syntaxError 37 = .ok (.iconst 3, 1) := by decide +kernel
theorem dX4_syntaxError_38 : decode cX4_syntaxError 38 = .ok (.if_icmp .lt 7, 3) := by decide +kernel
theorem dX4_syntaxError_41 : decode cX4_syntaxError 41 = .ok (.iconst (-1), 1) := by decide +kernel
theorem dX4_syntaxError_42 : decode cX4_syntaxError 42 = .ok (.goto 7, 3) := by decide +kernel
theorem dX4_syntaxError_45 : decode cX4_syntaxError 45 = .ok (.aload_n 0, 1) := by decide +kernel
theorem dX4_syntaxError_46 : decode cX4_syntaxError 46 = .ok (.getfield 15, 3) := by decide +kernel
theorem dX4_syntaxError_49 : decode cX4_syntaxError 49 = .ok (.ireturn, 1) := by decide +kernel
theorem dX4_next_0 : decode cX4_next 0 = .ok (.iload_n 0, 1) := by decide +kernel
theorem dX4_next_1 : decode cX4_next 1 = .ok (.ifCond .ne 18, 3) := by decide +kernel
theorem dX4_next_4 : decode cX4_next 4 = .ok (.iload_n 1, 1) := by decide +kernel
theorem dX4_next_5 : decode cX4_next 5 = .ok (.invokestatic 23, 3) := by decide +kernel
theorem dX4_next_8 : decode cX4_next 8 = .ok (.bipush 10, 2) := by decide +kernel
theorem dX4_next_10 : decode cX4_next 10 = .ok (.if_icmp .ge 7, 3) := by decide +kernel
theorem dX4_next_13 : decode cX4_next 13 = .ok (.iconst 1, 1) := by decide +kernel
theorem dX4_next_14 : decode cX4_next 14 = .ok (.goto 4, 3) := by decide +kernel
theorem dX4_next_17 : decode cX4_next 17 = .ok (.iconst (-1), 1) := by decide +kernel
theorem dX4_next_18 : decode cX4_next 18 = .ok (.ireturn, 1) := by decide +kernel
theorem dX4_next_19 : decode cX4_next 19 = .ok (.iload_n 1, 1) := by decide +kernel
theorem dX4_next_20 : decode cX4_next 20 = .ok (.bipush 48, 2) := by decide +kernel
theorem dX4_next_22 : decode cX4_next 22 = .ok (.if_icmp .lt 28, 3) := by decide +kernel
theorem dX4_next_25 : decode cX4_next 25 = .ok (.iload_n 1, 1) := by decide +kernel
theorem dX4_next_26 : decode cX4_next 26 = .ok (.bipush 57, 2) := by decide +kernel
theorem dX4_next_28 : decode cX4_next 28 = .ok (.if_icmp .gt 22, 3) := by decide +kernel
theorem dX4_next_31 : decode cX4_next 31 = .ok (.iload_n 0, 1) := by decide +kernel
theorem dX4_next_32 : decode cX4_next 32 = .ok (.bipush 6, 2) := by decide +kernel
theorem dX4_next_34 : decode cX4_next 34 = .ok (.if_icmp .ge 16, 3) := by decide +kernel
theorem dX4_next_37 : decode cX4_next 37 = .ok (.iload_n 0, 1) := by decide +kernel
theorem dX4_next_38 : decode cX4_next 38 = .ok (.iconst 3, 1) := by decide +kernel
theorem dX4_next_39 : decode cX4_next 39 = .ok (.if_icmp .ge 7, 3) := by decide +kernel
theorem dX4_next_42 : decode cX4_next 42 = .ok (.iconst 3, 1) := by decide +kernel
theorem dX4_next_43 : decode cX4_next 43 = .ok (.goto 6, 3) := by decide +kernel
theorem dX4_next_46 : decode cX4_next 46 = .ok (.iload_n 0, 1) := by decide +kernel
theorem dX4_next_47 : decode cX4_next 47 = .ok (.iconst 1, 1) := by decide +kernel
theorem dX4_next_48 : decode cX4_next 48 = .ok (.iadd, 1) := by decide +kernel
theorem dX4_next_49 : decode cX4_next 49 = .ok (.ireturn, 1) := by decide +kernel
theorem dX4_next_50 : decode cX4_next 50 = .ok (.iload_n 1, 1) := by decide +kernel
theorem dX4_next_51 : decode cX4_next 51 = .ok (.bipush 45, 2) := by decide +kernel
theorem dX4_next_53 : decode cX4_next 53 = .ok (.if_icmp .ne 10, 3) := by decide +kernel
theorem dX4_next_56 : decode cX4_next 56 = .ok (.iload_n 0, 1) := by decide +kernel
theorem dX4_next_57 : decode cX4_next 57 = .ok (.iconst 1, 1) := by decide +kernel
theorem dX4_next_58 : decode cX4_next 58 = .ok (.if_icmp .ne 5, 3) := by decide +kernel
theorem dX4_next_61 : decode cX4_next 61 = .ok (.iconst 2, 1) := by decide +kernel
theorem dX4_next_62 : decode cX4_next 62 = .ok (.ireturn, 1) := by decide +kernel
theorem dX4_next_63 : decode cX4_next 63 = .ok (.iload_n 1, 1) := by decide +kernel
theorem dX4_next_64 : decode cX4_next 64 = .ok (.bipush 32, 2) := by decide +kernel
theorem dX4_next_66 : decode cX4_next 66 = .ok (.if_icmp .ne 12, 3) := by decide +kernel
theorem dX4_next_69 : decode cX4_next 69 = .ok (.iload_n 0, 1) := by decide +kernel
theorem dX4_next_70 : decode cX4_next 70 = .ok (.iconst 3, 1) := by decide +kernel
theorem dX4_next_71 : decode cX4_next 71 = .ok (.if_icmp .lt 7, 3) := by decide +kernel
theorem dX4_next_74 : decode cX4_next 74 = .ok (.iconst 0, 1) := by decide +kernel
theorem dX4_next_75 : decode cX4_next 75 = .ok (.goto 4, 3) := by decide +kernel
theorem dX4_next_78 : decode cX4_next 78 = .ok (.iconst (-1), 1) := by decide +kernel
theorem dX4_next_79 : decode cX4_next 79 = .ok (.ireturn, 1) := by decide +kernel
theorem dX4_readInto_0 : decode cX4_readInto 0 = .ok (.iconst 0, 1) := by decide +kernel
theorem dX4_readInto_1 : decode cX4_readInto 1 = .ok (.istore_n 2, 1) := by decide +kernel
theorem dX4_readInto_2 : decode cX4_readInto 2 = .ok (.iconst 1, 1) := by decide +kernel
theorem dX4_readInto_3 : decode cX4_readInto 3 = .ok (.istore_n 3, 1) := by decide +kernel
theorem dX4_readInto_4 : decode cX4_readInto 4 = .ok (.iload_n 3, 1) := by decide +kernel
theorem dX4_readInto_5 : decode cX4_readInto 5 = .ok (.aload_n 0, 1) := by decide +kernel
theorem dX4_readInto_6 : decode cX4_readInto 6 = .ok (.getfield 15, 3) := by decide +kernel
theorem dX4_readInto_9 : decode cX4_readInto 9 = .ok (.if_icmp .gt 71, 3) := by decide +kernel
theorem dX4_readInto_12 : decode cX4_readInto 12 = .ok (.iload_n 3, 1) := by decide +kernel
theorem dX4_readInto_13 : decode cX4_readInto 13 = .ok (.aload_n 0, 1) := by decide +kernel
theorem dX4_readInto_14 : decode cX4_readInto 14 = .ok (.getfield 15, 3) := by decide +kernel
theorem dX4_readInto_17 : decode cX4_readInto 17 = .ok (.if_icmp .eq 14, 3) := by decide +kernel
theorem dX4_readInto_20 : decode cX4_readInto 20 = .ok (.aload_n 0, 1) := by decide +kernel
theorem dX4_readInto_21 : decode cX4_readInto 21 = .ok (.getfield 9, 3) := by decide +kernel
theorem dX4_readInto_24 : decode cX4_readInto 24 = .ok (.iload_n 3, 1) := by decide +kernel
theorem dX4_readInto_25 : decode cX4_readInto 25 = .ok (.caload, 1) := by decide +kernel
theorem dX4_readInto_26 : decode cX4_readInto 26 = .ok (.bipush 32, 2) := by decide +kernel
theorem dX4_readInto_28 : decode cX4_readInto 28 = .ok (.if_icmp .ne 46, 3) := by decide +kernel
theorem dX4_readInto_31 : decode cX4_readInto 31 = .ok (.aload_n 0, 1) := by decide +kernel
theorem dX4_readInto_32 : decode cX4_readInto 32 = .ok (.getfield 9, 3) := by decide +kernel
theorem dX4_readInto_35 : decode cX4_readInto 35 = .ok (.iload_n 2, 1) := by decide +kernel
theorem dX4_readInto_36 : decode cX4_readInto 36 = .ok (.caload, 1) := by decide +kernel
theorem dX4_readInto_37 : decode cX4_readInto 37 = .ok (.invokestatic 23, 3) := by decide +kernel
theorem dX4_readInto_40 : decode cX4_readInto 40 = .ok (.istore 4, 2) := by decide +kernel
theorem dX4_readInto_42 : decode cX4_readInto 42 = .ok (.aload_n 0, 1) := by decide +kernel
theorem dX4_readInto_43 : decode cX4_readInto 43 = .ok (.iload_n 2, 1) := by decide +kernel
theorem dX4_readInto_44 : decode cX4_readInto 44 = .ok (.iconst 1, 1) := by decide +kernel
theorem dX4_readInto_45 : decode cX4_readInto 45 = .ok (.iadd, 1) := by decide +kernel
theorem dX4_readInto_46 : decode cX4_readInto 46 = .ok (.iload_n 3, 1) := by decide +kernel
theorem dX4_readInto_47 : decode cX4_readInto 47 = .ok (.invokevirtual 27, 3) := by decide +kernel
theorem dX4_readInto_50 : decode cX4_readInto 50 = .ok (.istore 5, 2) := by decide +kernel
theorem dX4_readInto_52 : decode cX4_readInto 52 = .ok (.iload 4, 2) := by decide +kernel
theorem dX4_readInto_54 : decode cX4_readInto 54 = .ok (.iload 5, 2) := by decide +kernel
theorem dX4_readInto_56 : decode cX4_readInto 56 = .ok (.invokestatic 31, 3) := by decide +kernel
theorem dX4_readInto_59 : decode cX4_readInto 59 = .ok (.ifCond .ne 5, 3) := by decide +kernel
theorem dX4_readInto_62 : decode cX4_readInto 62 = .ok (.iload_n 2, 1) := by decide +kernel
theorem dX4_readInto_63 : decode cX4_readInto 63 = .ok (.ireturn, 1) := by decide +kernel
theorem dX4_readInto_64 : decode cX4_readInto 64 = .ok (.aload_n 1, 1) := by decide +kernel
theorem dX4_readInto_65 : decode cX4_readInto 65 = .ok (.iload 4, 2) := by decide +kernel
theorem dX4_readInto_67 : decode cX4_readInto 67 = .ok (.iload 5, 2) := by decide +kernel
theorem dX4_readInto_69 : decode cX4_readInto 69 = .ok (.iastore, 1) := by decide +kernel
theorem dX4_readInto_70 : decode cX4_readInto 70 = .ok (.iload_n 3, 1) := by decide +kernel
theorem dX4_readInto_71 : decode cX4_readInto 71 = .ok (.iconst 1, 1) := by decide +kernel
theorem dX4_readInto_72 : decode cX4_readInto 72 = .ok (.iadd, 1) := by decide +kernel
theorem dX4_readInto_73 : decode cX4_readInto 73 = .ok (.istore_n 2, 1) := by decide +kernel
theorem dX4_readInto_74 : decode cX4_readInto 74 = .ok (.iinc 3 1, 3) := by decide +kernel
theorem dX4_readInto_77 : decode cX4_readInto 77 = .ok (.goto (-73), 3) := by decide +kernel
theorem dX4_readInto_80 : decode cX4_readInto 80 = .ok (.iconst (-1), 1) := by decide +kernel
theorem dX4_readInto_81 : decode cX4_readInto 81 = .ok (.ireturn, 1) := by decide +kernel
theorem dX4_number_0 : decode cX4_number 0 = .ok (.iconst 0, 1) := by decide +kernel
theorem dX4_number_1 : decode cX4_number 1 = .ok (.istore_n 3, 1) := by decide +kernel
theorem dX4_number_2 : decode cX4_number 2 = .ok (.iconst 0, 1) := by decide +kernel
theorem dX4_number_3 : decode cX4_number 3 = .ok (.istore 4, 2) := by decide +kernel
theorem dX4_number_5 : decode cX4_number 5 = .ok (.iload_n 1, 1) := by decide +kernel
theorem dX4_number_6 : decode cX4_number 6 = .ok (.istore 5, 2) := by decide +kernel
theorem dX4_number_8 : decode cX4_number 8 = .ok (.iload 5, 2) := by decide +kernel
theorem dX4_number_10 : decode cX4_number 10 = .ok (.iload_n 2, 1) := by decide +kernel
theorem dX4_number_11 : decode cX4_number 11 = .ok (.if_icmp .ge 43, 3) := by decide +kernel
theorem dX4_number_14 : decode cX4_number 14 = .ok (.aload_n 0, 1) := by decide +kernel
theorem dX4_number_15 : decode cX4_number 15 = .ok (.getfield 9, 3) := by decide +kernel
theorem dX4_number_18 : decode cX4_number 18 = .ok (.iload 5, 2) := by decide +kernel
theorem dX4_number_20 : decode cX4_number 20 = .ok (.caload, 1) := by decide +kernel
theorem dX4_number_21 : decode cX4_number 21 = .ok (.bipush 45, 2) := by decide +kernel
theorem dX4_number_23 : decode cX4_number 23 = .ok (.if_icmp .ne 9, 3) := by decide +kernel
theorem dX4_number_26 : decode cX4_number 26 = .ok (.iconst 1, 1) := by decide +kernel
theorem dX4_number_27 : decode cX4_number 27 = .ok (.istore 4, 2) := by decide +kernel
theorem dX4_number_29 : decode cX4_number 29 = .ok (.goto 19, 3) := by decide +kernel
theorem dX4_number_32 : decode cX4_number 32 = .ok (.bipush 10, 2) := by decide +kernel
theorem dX4_number_34 : decode cX4_number 34 = .ok (.iload_n 3, 1) := by decide +kernel
theorem dX4_number_35 : decode cX4_number 35 = .ok (.imul, 1) := by decide +kernel
theorem dX4_number_36 : decode cX4_number 36 = .ok (.aload_n 0, 1) := by decide +kernel
theorem dX4_number_37 : decode cX4_number 37 = .ok (.getfield 9, 3) := by decide +kernel
theorem dX4_number_40 : decode cX4_number 40 = .ok (.iload 5, 2) := by decide +kernel
theorem dX4_number_42 : decode cX4_number 42 = .ok (.caload, 1) := by decide +kernel
theorem dX4_number_43 : decode cX4_number 43 = .ok (.bipush 48, 2) := by decide +kernel
theorem dX4_number_45 : decode cX4_number 45 = .ok (.isub, 1) := by decide +kernel
theorem dX4_number_46 : decode cX4_number 46 = .ok (.iadd, 1) := by decide +kernel
theorem dX4_number_47 : decode cX4_number 47 = .ok (.istore_n 3, 1) := by decide +kernel
theorem dX4_number_48 : decode cX4_number 48 = .ok (.iinc 5 1, 3) := by decide +kernel
theorem dX4_number_51 : decode cX4_number 51 = .ok (.goto (-43), 3) := by decide +kernel
theorem dX4_number_54 : decode cX4_number 54 = .ok (.iload 4, 2) := by decide +kernel
theorem dX4_number_56 : decode cX4_number 56 = .ok (.ifCond .eq 8, 3) := by decide +kernel
theorem dX4_number_59 : decode cX4_number 59 = .ok (.iload_n 3, 1) := by decide +kernel
theorem dX4_number_60 : decode cX4_number 60 = .ok (.ineg, 1) := by decide +kernel
theorem dX4_number_61 : decode cX4_number 61 = .ok (.goto 4, 3) := by decide +kernel
theorem dX4_number_64 : decode cX4_number 64 = .ok (.iload_n 3, 1) := by decide +kernel
theorem dX4_number_65 : decode cX4_number 65 = .ok (.ireturn, 1) := by decide +kernel
theorem dX4_propertyFor_0 : decode cX4_propertyFor 0 = .ok (.iconst 0, 1) := by decide +kernel
theorem dX4_propertyFor_1 : decode cX4_propertyFor 1 = .ok (.istore_n 1, 1) := by decide +kernel
theorem dX4_propertyFor_2 : decode cX4_propertyFor 2 = .ok (.iload_n 1, 1) := by decide +kernel
theorem dX4_propertyFor_3 : decode cX4_propertyFor 3 = .ok (.bipush 10, 2) := by decide +kernel
theorem dX4_propertyFor_5 : decode cX4_propertyFor 5 = .ok (.if_icmp .ge 18, 3) := by decide +kernel
theorem dX4_propertyFor_8 : decode cX4_propertyFor 8 = .ok (.getstatic 35, 3) := by decide +kernel
theorem dX4_propertyFor_11 : decode cX4_propertyFor 11 = .ok (.iload_n 1, 1) := by decide +kernel
theorem dX4_propertyFor_12 : decode cX4_propertyFor 12 = .ok (.caload, 1) := by decide +kernel
theorem dX4_propertyFor_13 : decode cX4_propertyFor 13 = .ok (.iload_n 0, 1) := by decide +kernel
theorem dX4_propertyFor_14 : decode cX4_propertyFor 14 = .ok (.if_icmp .eq 9, 3) := by decide +kernel
theorem dX4_propertyFor_17 : decode cX4_propertyFor 17 = .ok (.iinc 1 1, 3) := by decide +kernel
theorem dX4_propertyFor_20 : decode cX4_propertyFor 20 = .ok (.goto (-18), 3) := by decide +kernel
theorem dX4_propertyFor_23 : decode cX4_propertyFor 23 = .ok (.iload_n 1, 1) := by decide +kernel
theorem dX4_propertyFor_24 : decode cX4_propertyFor 24 = .ok (.ireturn, 1) := by decide +kernel
theorem dX5_init_0 : decode cX5_init 0 = .ok (.aload_n 0, 1) := by decide +kernel
theorem dX5_init_1 : decode cX5_init 1 = .ok (.invokespecial 3, 3) := by decide +kernel
theorem dX5_init_4 : decode cX5_init 4 = .ok (.aload_n 0, 1) := by decide +kernel
theorem dX5_init_5 : decode cX5_init 5 = .ok (.bipush 20, 2) := by decide +kernel
theorem dX5_init_7 : decode cX5_init 7 = .ok (.newarray .int, 2) := by decide +kernel
theorem dX5_init_9 : decode cX5_init 9 = .ok (.putfield 9, 3) := by decide +kernel
theorem dX5_init_12 : decode cX5_init 12 = .ok (.aload_n 0, 1) := by decide +kernel
theorem dX5_init_13 : decode cX5_init 13 = .ok (.bipush 20, 2) := by decide +kernel
theorem dX5_init_15 : decode cX5_init 15 = .ok (.newarray .int, 2) := by decide +kernel
theorem dX5_init_17 : decode cX5_init 17 = .ok (.putfield 15, 3) := by decide +kernel
theorem dX5_init_20 : decode cX5_init 20 = .ok (.aload_n 0, 1) := by decide +kernel
theorem dX5_init_21 : decode cX5_init 21 = .ok (.bipush 20, 2) := by decide +kernel
theorem dX5_init_23 : decode cX5_init 23 = .ok (.newarray .int, 2) := by decide +kernel
theorem dX5_init_25 : decode cX5_init 25 = .ok (.putfield 18, 3) := by decide +kernel
theorem dX5_init_28 : decode cX5_init 28 = .ok (.aload_n 0, 1) := by decide +kernel
theorem dX5_init_29 : decode cX5_init 29 = .ok (.bipush 20, 2) := by decide +kernel
theorem dX5_init_31 : decode cX5_init 31 = .ok (.newarray .int, 2) := by decide +kernel
theorem dX5_init_33 : decode cX5_init 33 = .ok (.putfield 21, 3) := by decide +kernel
theorem dX5_init_36 : decode cX5_init 36 = .ok (.aload_n 0, 1) := by decide +kernel
theorem dX5_init_37 : decode cX5_init 37 = .ok (.bipush 20, 2) := by decide +kernel
theorem dX5_init_39 : decode cX5_init 39 = .ok (.newarray .int, 2) := by decide +kernel
theorem dX5_init_41 : decode cX5_init 41 = .ok (.putfield 24, 3) := by decide +kernel
theorem dX5_init_44 : decode cX5_init 44 = .ok (.aload_n 0, 1) := by decide +kernel
theorem dX5_init_45 : decode cX5_init 45 = .ok (.bipush 20, 2) := by decide +kernel
theorem dX5_init_47 : decode cX5_init 47 = .ok (.newarray .boolean, 2) := by decide +kernel
theorem dX5_init_49 : decode cX5_init 49 = .ok (.putfield 27, 3) := by decide +kernel
theorem dX5_init_52 : decode cX5_init 52 = .ok (.return_, 1) := by decide +kernel
theorem dX5_layOut_0 : decode cX5_layOut 0 = .ok (.iconst 0, 1) := by decide +kernel
theorem dX5_layOut_1 : decode cX5_layOut 1 = .ok (.istore 4, 2) := by decide +kernel
theorem dX5_layOut_3 : decode cX5_layOut 3 = .ok (.iload 4, 2) := by decide +kernel
theorem dX5_layOut_5 : decode cX5_layOut 5 = .ok (.aload_n 2, 1) := by decide +kernel
theorem dX5_layOut_6 : decode cX5_layOut 6 = .ok (.getfield 31, 3) := by decide +kernel
theorem dX5_layOut_9 : decode cX5_layOut 9 = .ok (.if_icmp .ge 26, 3) := by decide +kernel
theorem dX5_layOut_12 : decode cX5_layOut 12 = .ok (.aload_n 0, 1) := by decide +kernel
theorem dX5_layOut_13 : decode cX5_layOut 13 = .ok (.aload_n 1, 1) := by decide +kernel
theorem dX5_layOut_14 : decode cX5_layOut 14 = .ok (.aload_n 2, 1) := by decide +kernel
theorem dX5_layOut_15 : decode cX5_layOut 15 = .ok (.aload_n 3, 1) := by decide +kernel
theorem dX5_layOut_16 : decode cX5_layOut 16 = .ok (.iload 4, 2) := by decide +kernel
theorem dX5_layOut_18 : decode cX5_layOut 18 = .ok (.invokevirtual 37, 3) := by decide +kernel
theorem dX5_layOut_21 : decode cX5_layOut 21 = .ok (.aload_n 0, 1) := by decide +kernel
theorem dX5_layOut_22 : decode cX5_layOut 22 = .ok (.aload_n 1, 1) := by decide +kernel
theorem dX5_layOut_23 : decode cX5_layOut 23 = .ok (.aload_n 2, 1) := by decide +kernel
theorem dX5_layOut_24 : decode cX5_layOut 24 = .ok (.iload 4, 2) := by decide +kernel
theorem dX5_layOut_26 : decode cX5_layOut 26 = .ok (.invokevirtual 41, 3) := by decide +kernel
theorem dX5_layOut_29 : decode cX5_layOut 29 = .ok (.iinc 4 1, 3) := by decide +kernel
theorem dX5_layOut_32 : decode cX5_layOut 32 = .ok (.goto (-29), 3) := by decide +kernel
theorem dX5_layOut_35 : decode cX5_layOut 35 = .ok (.return_, 1) := by decide +kernel
theorem dX5_findSizes_0 : decode cX5_findSizes 0 = .ok (.aload_n 0, 1) := by decide +kernel
theorem dX5_findSizes_1 : decode cX5_findSizes 1 = .ok (.aload_n 1, 1) := by decide +kernel
theorem dX5_findSizes_2 : decode cX5_findSizes 2 = .ok (.aload_n 2, 1) := by decide +kernel
theorem dX5_findSizes_3 : decode cX5_findSizes 3 = .ok (.iload 4, 2) := by decide +kernel
theorem dX5_findSizes_5 : decode cX5_findSizes 5 = .ok (.invokevirtual 45, 3) := by decide +kernel
theorem dX5_findSizes_8 : decode cX5_findSizes 8 = .ok (.istore 5, 2) := by decide +kernel
theorem dX5_findSizes_10 : decode cX5_findSizes 10 = .ok (.aload_n 0, 1) := by decide +kernel
theorem dX5_findSizes_11 : decode cX5_findSizes 11 = .ok (.getfield 18, 3) := by decide +kernel
theorem dX5_findSizes_14 : decode cX5_findSizes 14 = .ok (.iload 4, 2) := by decide +kernel
theorem dX5_findSizes_16 : decode cX5_findSizes 16 = .ok (.iconst 0, 1) := by decide +kernel
theorem dX5_findSizes_17 : decode cX5_findSizes 17 = .ok (.iastore, 1) := by decide +kernel
theorem dX5_findSizes_18 : decode cX5_findSizes 18 = .ok (.iconst 1, 1) := by decide +kernel
theorem dX5_findSizes_19 : decode cX5_findSizes 19 = .ok (.istore 6, 2) := by decide +kernel
theorem dX5_findSizes_21 : decode cX5_findSizes 21 = .ok (.iload 6, 2) := by decide +kernel
theorem dX5_findSizes_23 : decode cX5_findSizes 23 = .ok (.bipush 20, 2) := by decide +kernel
theorem dX5_findSizes_25 : decode cX5_findSizes 25 = .ok (.if_icmp .gt 95, 3) := by decide +kernel
theorem dX5_findSizes_28 : decode cX5_findSizes 28 = .ok (.aload_n 0, 1) := by decide +kernel
theorem dX5_findSizes_29 : decode cX5_findSizes 29 = .ok (.aload_n 2, 1) := by decide +kernel
theorem dX5_findSizes_30 : decode cX5_findSizes 30 = .ok (.iload 4, 2) := by decide +kernel
theorem dX5_findSizes_32 : decode cX5_findSizes 32 = .ok (.invokevirtual 49, 3) := by decide +kernel
theorem dX5_findSizes_35 : decode cX5_findSizes 35 = .ok (.ifCond .ne 85, 3) := by decide +kernel
theorem dX5_findSizes_38 : decode cX5_findSizes 38 = .ok (.aload_n 0, 1) := by decide +kernel
theorem dX5_findSizes_39 : decode cX5_findSizes 39 = .ok (.aload_n 1, 1) := by decide +kernel
theorem dX5_findSizes_40 : decode cX5_findSizes 40 = .ok (.aload_n 2, 1) := by decide +kernel
theorem dX5_findSizes_41 : decode cX5_findSizes 41 = .ok (.iload 4, 2) := by decide +kernel
theorem dX5_findSizes_43 : decode cX5_findSizes 43 = .ok (.invokevirtual 53, 3) := by decide +kernel
theorem dX5_findSizes_46 : decode cX5_findSizes 46 = .ok (.istore 7, 2) := by decide +kernel
theorem dX5_findSizes_48 : decode cX5_findSizes 48 = .ok (.aload_n 0, 1) := by decide +kernel
theorem dX5_findSizes_49 : decode cX5_findSizes 49 = .ok (.aload_n 1, 1) := by decide +kernel
theorem dX5_findSizes_50 : decode cX5_findSizes 50 = .ok (.aload_n 2, 1) := by decide +kernel
theorem dX5_findSizes_51 : decode cX5_findSizes 51 = .ok (.aload_n 3, 1) := by decide +kernel
theorem dX5_findSizes_52 : decode cX5_findSizes 52 = .ok (.iload 4, 2) := by decide +kernel
theorem dX5_findSizes_54 : decode cX5_findSizes 54 = .ok (.iload 5, 2) := by decide +kernel
theorem dX5_findSizes_56 : decode cX5_findSizes 56 = .ok (.iload 7, 2) := by decide +kernel
theorem dX5_findSizes_58 : decode cX5_findSizes 58 = .ok (.invokevirtual 57, 3) := by decide +kernel
theorem dX5_findSizes_61 : decode cX5_findSizes 61 = .ok (.aload_n 3, 1) := by decide +kernel
theorem dX5_findSizes_62 : decode cX5_findSizes 62 = .ok (.iload 7, 2) := by decide +kernel
theorem dX5_findSizes_64 : decode cX5_findSizes 64 = .ok (.invokestatic 61, 3) := by decide +kernel
theorem dX5_findSizes_67 : decode cX5_findSizes 67 = .ok (.aload_n 2, 1) := by decide +kernel
theorem dX5_findSizes_68 : decode cX5_findSizes 68 = .ok (.getfield 67, 3) := by decide +kernel
theorem dX5_findSizes_71 : decode cX5_findSizes 71 = .ok (.iload 4, 2) := by decide +kernel
theorem dX5_findSizes_73 : decode cX5_findSizes 73 = .ok (.iconst 1, 1) := by decide +kernel
theorem dX5_findSizes_74 : decode cX5_findSizes 74 = .ok (.iadd, 1) := by decide +kernel
theorem dX5_findSizes_75 : decode cX5_findSizes 75 = .ok (.iaload, 1) := by decide +kernel
theorem dX5_findSizes_76 : decode cX5_findSizes 76 = .ok (.aload_n 2, 1) := by decide +kernel
theorem dX5_findSizes_77 : decode cX5_findSizes 77 = .ok (.getfield 67, 3) := by decide +kernel
theorem dX5_findSizes_80 : decode cX5_findSizes 80 = .ok (.iload 4, 2) := by decide +kernel
theorem dX5_findSizes_82 : decode cX5_findSizes 82 = .ok (.iaload, 1) := by decide +kernel
theorem dX5_findSizes_83 : decode cX5_findSizes 83 = .ok (.isub, 1) := by decide +kernel
theorem dX5_findSizes_84 : decode cX5_findSizes 84 = .ok (.invokevirtual 70, 3) := by decide +kernel
theorem dX5_findSizes_87 : decode cX5_findSizes 87 = .ok (.aload_n 0, 1) := by decide +kernel
theorem dX5_findSizes_88 : decode cX5_findSizes 88 = .ok (.aload_n 2, 1) := by decide +kernel
theorem dX5_findSizes_89 : decode cX5_findSizes 89 = .ok (.iload 4, 2) := by decide +kernel
theorem dX5_findSizes_91 : decode cX5_findSizes 91 = .ok (.aload_n 0, 1) := by decide +kernel
theorem dX5_findSizes_92 : decode cX5_findSizes 92 = .ok (.aload_n 1, 1) := by decide +kernel
theorem dX5_findSizes_93 : decode cX5_findSizes 93 = .ok (.aload_n 2, 1) := by decide +kernel
theorem dX5_findSizes_94 : decode cX5_findSizes 94 = .ok (.aload_n 3, 1) := by decide +kernel
theorem dX5_findSizes_95 : decode cX5_findSizes 95 = .ok (.iload 4, 2) := by decide +kernel
theorem dX5_findSizes_97 : decode cX5_findSizes 97 = .ok (.iload 5, 2) := by decide +kernel
theorem dX5_findSizes_99 : decode cX5_findSizes 99 = .ok (.invokevirtual 76, 3) := by decide +kernel
theorem dX5_findSizes_102 : decode cX5_findSizes 102 = .ok (.invokevirtual 80, 3) := by decide +kernel
theorem dX5_findSizes_105 : decode cX5_findSizes 105 = .ok (.aload_n 0, 1) := by decide +kernel
theorem dX5_findSizes_106 : decode cX5_findSizes 106 = .ok (.getfield 18, 3) := by decide +kernel
theorem dX5_findSizes_109 : decode cX5_findSizes 109 = .ok (.iload 4, 2) := by decide +kernel
theorem dX5_findSizes_111 : decode cX5_findSizes 111 = .ok (.iload 6, 2) := by decide +kernel
theorem dX5_findSizes_113 : decode cX5_findSizes 113 = .ok (.iastore, 1) := by decide +kernel
theorem dX5_findSizes_114 : decode cX5_findSizes 114 = .ok (.iinc 6 1, 3) := by decide +kernel
theorem dX5_findSizes_117 : decode cX5_findSizes 117 = .ok (.goto (-96), 3) := by decide +kernel
theorem dX5_findSizes_120 : decode cX5_findSizes 120 = .ok (.aload_n 0, 1) := by decide +kernel
theorem dX5_findSizes_121 : decode cX5_findSizes 121 = .ok (.getfield 21, 3) := by decide +kernel
theorem dX5_findSizes_124 : decode cX5_findSizes 124 = .ok (.iload 4, 2) := by decide +kernel
theorem dX5_findSizes_126 : decode cX5_findSizes 126 = .ok (.aload_n 0, 1) := by decide +kernel
theorem dX5_findSizes_127 : decode cX5_findSizes 127 = .ok (.aload_n 1, 1) := by decide +kernel
theorem dX5_findSizes_128 : decode cX5_findSizes 128 = .ok (.aload_n 2, 1) := by decide +kernel
theorem dX5_findSizes_129 : decode cX5_findSizes 129 = .ok (.iload 4, 2) := by decide +kernel
theorem dX5_findSizes_131 : decode cX5_findSizes 131 = .ok (.invokevirtual 53, 3) := by decide +kernel
theorem dX5_findSizes_134 : decode cX5_findSizes 134 = .ok (.iastore, 1) := by decide +kernel
theorem dX5_findSizes_135 : decode cX5_findSizes 135 = .ok (.return_, 1) := by decide +kernel
theorem dX5_freezeAtOnce_0 : decode cX5_freezeAtOnce 0 = .ok (.aload_n 2, 1) := by decide +kernel
theorem dX5_freezeAtOnce_1 : decode cX5_freezeAtOnce 1 = .ok (.getfield 67, 3) := by decide +kernel
theorem dX5_freezeAtOnce_4 : decode cX5_freezeAtOnce 4 = .ok (.iload_n 3, 1) := by decide +kernel
theorem dX5_freezeAtOnce_5 : decode cX5_freezeAtOnce 5 = .ok (.iaload, 1) := by decide +kernel
theorem dX5_freezeAtOnce_6 : decode cX5_freezeAtOnce 6 = .ok (.istore 4, 2) := by decide +kernel
theorem dX5_freezeAtOnce_8 : decode cX5_freezeAtOnce 8 = .ok (.aload_n 2, 1) := by decide +kernel
theorem dX5_freezeAtOnce_9 : decode cX5_freezeAtOnce 9 = .ok (.getfield 67, 3) := by decide +kernel
theorem dX5_freezeAtOnce_12 : decode cX5_freezeAtOnce 12 = .ok (.iload_n 3, 1) := by decide +kernel
theorem dX5_freezeAtOnce_13 : decode cX5_freezeAtOnce 13 = .ok (.iconst 1, 1) := by decide +kernel
theorem dX5_freezeAtOnce_14 : decode cX5_freezeAtOnce 14 = .ok (.iadd, 1) := by decide +kernel
theorem dX5_freezeAtOnce_15 : decode cX5_freezeAtOnce 15 = .ok (.iaload, 1) := by decide +kernel
theorem dX5_freezeAtOnce_16 : decode cX5_freezeAtOnce 16 = .ok (.istore 5, 2) := by decide +kernel
theorem dX5_freezeAtOnce_18 : decode cX5_freezeAtOnce 18 = .ok (.iconst 0, 1) := by decide +kernel
theorem dX5_freezeAtOnce_19 : decode cX5_freezeAtOnce 19 = .ok (.istore 6, 2) := by decide +kernel
theorem dX5_freezeAtOnce_21 : decode cX5_freezeAtOnce 21 = .ok (.iload 4, 2) := by decide +kernel
theorem dX5_freezeAtOnce_23 : decode cX5_freezeAtOnce 23 = .ok (.istore 7, 2) := by decide +kernel
theorem dX5_freezeAtOnce_25 : decode cX5_freezeAtOnce 25 = .ok (.iload 7, 2) := by decide +kernel
theorem dX5_freezeAtOnce_27 : decode cX5_freezeAtOnce 27 = .ok (.iload 5, 2) := by decide +kernel
theorem dX5_freezeAtOnce_29 : decode cX5_freezeAtOnce 29 = .ok (.if_icmp .ge 25, 3) := by decide +kernel
theorem dX5_freezeAtOnce_32 : decode cX5_freezeAtOnce 32 = .ok (.iload 6, 2) := by decide +kernel
theorem dX5_freezeAtOnce_34 : decode cX5_freezeAtOnce 34 = .ok (.aload_n 1, 1) := by decide +kernel
theorem dX5_freezeAtOnce_35 : decode cX5_freezeAtOnce 35 = .ok (.aload_n 2, 1) := by decide +kernel
theorem dX5_freezeAtOnce_36 : decode cX5_freezeAtOnce 36 = .ok (.getfield 84, 3) := by decide +kernel
theorem dX5_freezeAtOnce_39 : decode cX5_freezeAtOnce 39 = .ok (.iload 7, 2) := by decide +kernel
theorem dX5_freezeAtOnce_41 : decode cX5_freezeAtOnce 41 = .ok (.iaload, 1) := by decide +kernel
theorem dX5_freezeAtOnce_42 : decode cX5_freezeAtOnce 42 = .ok (.invokevirtual 87, 3) := by decide +kernel
theorem dX5_freezeAtOnce_45 : decode cX5_freezeAtOnce 45 = .ok (.iadd, 1) := by decide +kernel
theorem dX5_freezeAtOnce_46 : decode cX5_freezeAtOnce 46 = .ok (.istore 6, 2) := by decide +kernel
theorem dX5_freezeAtOnce_48 : decode cX5_freezeAtOnce 48 = .ok (.iinc 7 1, 3) := by decide +kernel
theorem dX5_freezeAtOnce_51 : decode cX5_freezeAtOnce 51 = .ok (.goto (-26), 3) := by decide +kernel
theorem dX5_freezeAtOnce_54 : decode cX5_freezeAtOnce 54 = .ok (.iload 6, 2) := by decide +kernel
theorem dX5_freezeAtOnce_56 : decode cX5_freezeAtOnce 56 = .ok (.aload_n 2, 1) := by decide +kernel
theorem dX5_freezeAtOnce_57 : decode cX5_freezeAtOnce 57 = .ok (.aload_n 1, 1) := by decide +kernel
theorem dX5_freezeAtOnce_58 : decode cX5_freezeAtOnce 58 = .ok (.iload_n 3, 1) := by decide +kernel
theorem dX5_freezeAtOnce_59 : decode cX5_freezeAtOnce 59 = .ok (.invokevirtual 92, 3) := by decide +kernel
theorem dX5_freezeAtOnce_62 : decode cX5_freezeAtOnce 62 = .ok (.if_icmp .ge 7, 3) := by decide +kernel
theorem dX5_freezeAtOnce_65 : decode cX5_freezeAtOnce 65 = .ok (.iconst 1, 1) := by decide +kernel
theorem dX5_freezeAtOnce_66 : decode cX5_freezeAtOnce 66 = .ok (.goto 4, 3) := by decide +kernel
theorem dX5_freezeAtOnce_69 : decode cX5_freezeAtOnce 69 = .ok (.iconst 0, 1) := by decide +kernel
theorem dX5_freezeAtOnce_70 : decode cX5_freezeAtOnce 70 = .ok (.istore 7, 2) := by decide +kernel
theorem dX5_freezeAtOnce_72 : decode cX5_freezeAtOnce 72 = .ok (.iload 4, 2) := by decide +kernel
theorem dX5_freezeAtOnce_74 : decode cX5_freezeAtOnce 74 = .ok (.istore 8, 2) := by decide +kernel
theorem dX5_freezeAtOnce_76 : decode cX5_freezeAtOnce 76 = .ok (.iload 8, 2) := by decide +kernel
theorem dX5_freezeAtOnce_78 : decode cX5_freezeAtOnce 78 = .ok (.iload 5, 2) := by decide +kernel
theorem dX5_freezeAtOnce_80 : decode cX5_freezeAtOnce 80 = .ok (.if_icmp .ge 107, 3) := by decide +kernel
theorem dX5_freezeAtOnce_83 : decode cX5_freezeAtOnce 83 = .ok (.aload_n 2, 1) := by decide +kernel
theorem dX5_freezeAtOnce_84 : decode cX5_freezeAtOnce 84 = .ok (.getfield 84, 3) := by decide +kernel
theorem dX5_freezeAtOnce_87 : decode cX5_freezeAtOnce 87 = .ok (.iload 8, 2) := by decide +kernel
theorem dX5_freezeAtOnce_89 : decode cX5_freezeAtOnce 89 = .ok (.iaload, 1) := by decide +kernel
theorem dX5_freezeAtOnce_90 : decode cX5_freezeAtOnce 90 = .ok (.istore 9, 2) := by decide +kernel
theorem dX5_freezeAtOnce_92 : decode cX5_freezeAtOnce 92 = .ok (.aload_n 1, 1) := by decide +kernel
theorem dX5_freezeAtOnce_93 : decode cX5_freezeAtOnce 93 = .ok (.getfield 96, 3) := by decide +kernel
theorem dX5_freezeAtOnce_96 : decode cX5_freezeAtOnce 96 = .ok (.iload 9, 2) := by decide +kernel
theorem dX5_freezeAtOnce_98 : decode cX5_freezeAtOnce 98 = .ok (.aaload, 1) := by decide +kernel
theorem dX5_freezeAtOnce_99 : decode cX5_freezeAtOnce 99 = .ok (.astore 10, 2) := by decide +kernel
theorem dX5_freezeAtOnce_101 : decode cX5_freezeAtOnce 101 = .ok (.aload_n 0, 1) := by decide +kernel
theorem dX5_freezeAtOnce_102 : decode cX5_freezeAtOnce 102 = .ok (.getfield 9, 3) := by decide +kernel
theorem dX5_freezeAtOnce_105 : decode cX5_freezeAtOnce 105 = .ok (.iload 9, 2) := by decide +kernel
theorem dX5_freezeAtOnce_107 : decode cX5_freezeAtOnce 107 = .ok (.aload_n 1, 1) := by decide +kernel
theorem dX5_freezeAtOnce_108 : decode cX5_freezeAtOnce 108 = .ok (.iload 9, 2) := by decide +kernel
theorem dX5_freezeAtOnce_110 : decode cX5_freezeAtOnce 110 = .ok (.invokevirtual 87, 3) := by decide +kernel
theorem dX5_freezeAtOnce_113 : decode cX5_freezeAtOnce 113 = .ok (.iastore, 1) := by decide +kernel
theorem dX5_freezeAtOnce_114 : decode cX5_freezeAtOnce 114 = .ok (.aload_n 0, 1) := by decide +kernel
theorem dX5_freezeAtOnce_115 : decode cX5_freezeAtOnce 115 = .ok (.getfield 27, 3) := by decide +kernel
theorem dX5_freezeAtOnce_118 : decode cX5_freezeAtOnce 118 = .ok (.iload 9, 2) := by decide +kernel
theorem dX5_freezeAtOnce_120 : decode cX5_freezeAtOnce 120 = .ok (.iload 7, 2) := by decide +kernel
theorem dX5_freezeAtOnce_122 : decode cX5_freezeAtOnce 122 = .ok (.ifCond .eq 32, 3) := by decide +kernel
theorem dX5_freezeAtOnce_125 : decode cX5_freezeAtOnce 125 = .ok (.aload 10, 2) := by decide +kernel
theorem dX5_freezeAtOnce_127 : decode cX5_freezeAtOnce 127 = .ok (.iconst 1, 1) := by decide +kernel
theorem dX5_freezeAtOnce_128 : decode cX5_freezeAtOnce 128 = .ok (.iaload, 1) := by decide +kernel
theorem dX5_freezeAtOnce_129 : decode cX5_freezeAtOnce 129 = .ok (.ifCond .eq 17, 3) := by decide +kernel
theorem dX5_freezeAtOnce_132 : decode cX5_freezeAtOnce 132 = .ok (.aload 10, 2) := by decide +kernel
theorem dX5_freezeAtOnce_134 : decode cX5_freezeAtOnce 134 = .ok (.iconst 0, 1) := by decide +kernel
theorem dX5_freezeAtOnce_135 : decode cX5_freezeAtOnce 135 = .ok (.iaload, 1) := by decide +kernel
theorem dX5_freezeAtOnce_136 : decode cX5_freezeAtOnce 136 = .ok (.aload_n 0, 1) := by decide +kernel
theorem dX5_freezeAtOnce_137 : decode cX5_freezeAtOnce 137 = .ok (.getfield 9, 3) := by decide +kernel
theorem dX5_freezeAtOnce_140 : decode cX5_freezeAtOnce 140 = .ok (.iload 9, 2) := by decide +kernel
theorem dX5_freezeAtOnce_142 : decode cX5_freezeAtOnce 142 = .ok (.iaload, 1) := by decide +kernel
theorem dX5_freezeAtOnce_143 : decode cX5_freezeAtOnce 143 = .ok (.if_icmp .le 7, 3) := by decide +kernel
theorem dX5_freezeAtOnce_146 : decode cX5_freezeAtOnce 146 = .ok (.iconst 1, 1) := by decide +kernel
theorem dX5_freezeAtOnce_147 : decode cX5_freezeAtOnce 147 = .ok (.goto 33, 3) := by decide +kernel
theorem dX5_freezeAtOnce_150 : decode cX5_freezeAtOnce 150 = .ok (.iconst 0, 1) := by decide +kernel
theorem dX5_freezeAtOnce_151 : decode cX5_freezeAtOnce 151 = .ok (.goto 29, 3) := by decide +kernel
theorem dX5_freezeAtOnce_154 : decode cX5_freezeAtOnce 154 = .ok (.aload 10, 2) := by decide +kernel
theorem dX5_freezeAtOnce_156 : decode cX5_freezeAtOnce 156 = .ok (.iconst 2, 1) := by decide +kernel
theorem dX5_freezeAtOnce_157 : decode cX5_freezeAtOnce 157 = .ok (.iaload, 1) := by decide +kernel
theorem dX5_freezeAtOnce_158 : decode cX5_freezeAtOnce 158 = .ok (.ifCond .eq 17, 3) := by decide +kernel
theorem dX5_freezeAtOnce_161 : decode cX5_freezeAtOnce 161 = .ok (.aload 10, 2) := by decide +kernel
theorem dX5_freezeAtOnce_163 : decode cX5_freezeAtOnce 163 = .ok (.iconst 0, 1) := by decide +kernel
theorem dX5_freezeAtOnce_164 : decode cX5_freezeAtOnce 164 = .ok (.iaload, 1) := by decide +kernel
theorem dX5_freezeAtOnce_165 : decode cX5_freezeAtOnce 165 = .ok (.aload_n 0, 1) := by decide +kernel
theorem dX5_freezeAtOnce_166 : decode cX5_freezeAtOnce 166 = .ok (.getfield 9, 3) := by decide +kernel
theorem dX5_freezeAtOnce_169 : decode cX5_freezeAtOnce 169 = .ok (.iload 9, 2) := by decide +kernel
theorem dX5_freezeAtOnce_171 : decode cX5_freezeAtOnce 171 = .ok (.iaload, 1) := by decide +kernel
theorem dX5_freezeAtOnce_172 : decode cX5_freezeAtOnce 172 = .ok (.if_icmp .ge 7, 3) := by decide +kernel
theorem dX5_freezeAtOnce_175 : decode cX5_freezeAtOnce 175 = .ok (.iconst 1, 1) := by decide +kernel
theorem dX5_freezeAtOnce_176 : decode cX5_freezeAtOnce 176 = .ok (.goto 4, 3) := by decide +kernel
theorem dX5_freezeAtOnce_179 : decode cX5_freezeAtOnce 179 = .ok (.iconst 0, 1) := by decide +kernel
theorem dX5_freezeAtOnce_180 : decode cX5_freezeAtOnce 180 = .ok (.bastore, 1) := by decide +kernel
theorem dX5_freezeAtOnce_181 : decode cX5_freezeAtOnce 181 = .ok (.iinc 8 1, 3) := by decide +kernel
theorem dX5_freezeAtOnce_184 : decode cX5_freezeAtOnce 184 = .ok (.goto (-108), 3) := by decide +kernel
theorem dX5_freezeAtOnce_187 : decode cX5_freezeAtOnce 187 = .ok (.iload 7, 2) := by decide +kernel
theorem dX5_freezeAtOnce_189 : decode cX5_freezeAtOnce 189 = .ok (.ireturn, 1) := by decide +kernel
theorem dX5_isFrozen_0 : decode cX5_isFrozen 0 = .ok (.aload_n 1, 1) := by decide +kernel
theorem dX5_isFrozen_1 : decode cX5_isFrozen 1 = .ok (.getfield 67, 3) := by decide +kernel
theorem dX5_isFrozen_4 : decode cX5_isFrozen 4 = .ok (.iload_n 2, 1) := by decide +kernel
theorem dX5_isFrozen_5 : decode cX5_isFrozen 5 = .ok (.iaload, 1) := by decide +kernel
theorem dX5_isFrozen_6 : decode cX5_isFrozen 6 = .ok (.istore_n 3, 1) := by decide +kernel
theorem dX5_isFrozen_7 : decode cX5_isFrozen 7 = .ok (.iload_n 3, 1) := by decide +kernel
theorem dX5_isFrozen_8 : decode cX5_isFrozen 8 = .ok (.aload_n 1, 1) := by decide +kernel
theorem dX5_isFrozen_9 : decode cX5_isFrozen 9 = .ok (.getfield 67, 3) := by decide +kernel
theorem dX5_isFrozen_12 : decode cX5_isFrozen 12 = .ok (.iload_n 2, 1) := by decide +kernel
theorem dX5_isFrozen_13 : decode cX5_isFrozen 13 = .ok (.iconst 1, 1) := by decide +kernel
theorem dX5_isFrozen_14 : decode cX5_isFrozen 14 = .ok (.iadd, 1) := by decide +kernel
theorem dX5_isFrozen_15 : decode cX5_isFrozen 15 = .ok (.iaload, 1) := by decide +kernel
theorem dX5_isFrozen_16 : decode cX5_isFrozen 16 = .ok (.if_icmp .ge 25, 3) := by decide +kernel
theorem dX5_isFrozen_19 : decode cX5_isFrozen 19 = .ok (.aload_n 0, 1) := by decide +kernel
theorem dX5_isFrozen_20 : decode cX5_isFrozen 20 = .ok (.getfield 27, 3) := by decide +kernel
theorem dX5_isFrozen_23 : decode cX5_isFrozen 23 = .ok (.aload_n 1, 1) := by decide +kernel
theorem dX5_isFrozen_24 : decode cX5_isFrozen 24 = .ok (.getfield 84, 3) := by decide +kernel
theorem dX5_isFrozen_27 : decode cX5_isFrozen 27 = .ok (.iload_n 3, 1) := by decide +kernel
theorem dX5_isFrozen_28 : decode cX5_isFrozen 28 = .ok (.iaload, 1) := by decide +kernel
theorem dX5_isFrozen_29 : decode cX5_isFrozen 29 = .ok (.baload, 1) := by decide +kernel
theorem dX5_isFrozen_30 : decode cX5_isFrozen 30 = .ok (.ifCond .ne 5, 3) := by decide +kernel
theorem dX5_isFrozen_33 : decode cX5_isFrozen 33 = .ok (.iconst 0, 1) := by decide +kernel
theorem dX5_isFrozen_34 : decode cX5_isFrozen 34 = .ok (.ireturn, 1) := by decide +kernel
theorem dX5_isFrozen_35 : decode cX5_isFrozen 35 = .ok (.iinc 3 1, 3) := by decide +kernel
theorem dX5_isFrozen_38 : decode cX5_isFrozen 38 = .ok (.goto (-31), 3) := by decide +kernel
theorem dX5_isFrozen_41 : decode cX5_isFrozen 41 = .ok (.iconst 1, 1) := by decide +kernel
theorem dX5_isFrozen_42 : decode cX5_isFrozen 42 = .ok (.ireturn, 1) := by decide +kernel
theorem dX5_spaceLeft_0 : decode cX5_spaceLeft 0 = .ok (.aload_n 2, 1) := by decide +kernel
theorem dX5_spaceLeft_1 : decode cX5_spaceLeft 1 = .ok (.aload_n 1, 1) := by decide +kernel
theorem dX5_spaceLeft_2 : decode cX5_spaceLeft 2 = .ok (.iload_n 3, 1) := by decide +kernel
theorem dX5_spaceLeft_3 : decode cX5_spaceLeft 3 = .ok (.invokevirtual 92, 3) := by decide +kernel
theorem dX5_spaceLeft_6 : decode cX5_spaceLeft 6 = .ok (.istore 4, 2) := by decide +kernel
theorem dX5_spaceLeft_8 : decode cX5_spaceLeft 8 = .ok (.aload_n 2, 1) := by decide +kernel
theorem dX5_spaceLeft_9 : decode cX5_spaceLeft 9 = .ok (.getfield 67, 3) := by decide +kernel
theorem dX5_spaceLeft_12 : decode cX5_spaceLeft 12 = .ok (.iload_n 3, 1) := by decide +kernel
theorem dX5_spaceLeft_13 : decode cX5_spaceLeft 13 = .ok (.iaload, 1) := by decide +kernel
theorem dX5_spaceLeft_14 : decode cX5_spaceLeft 14 = .ok (.istore 5, 2) := by decide +kernel
theorem dX5_spaceLeft_16 : decode cX5_spaceLeft 16 = .ok (.iload 5, 2) := by decide +kernel
theorem dX5_spaceLeft_18 : decode cX5_spaceLeft 18 = .ok (.aload_n 2, 1) := by decide +kernel
theorem dX5_spaceLeft_19 : decode cX5_spaceLeft 19 = .ok (.getfield 67, 3) := by decide +kernel
theorem dX5_spaceLeft_22 : decode cX5_spaceLeft 22 = .ok (.iload_n 3, 1) := by decide +kernel
theorem dX5_spaceLeft_23 : decode cX5_spaceLeft 23 = .ok (.iconst 1, 1) := by decide +kernel
theorem dX5_spaceLeft_24 : decode cX5_spaceLeft 24 = .ok (.iadd, 1) := by decide +kernel
theorem dX5_spaceLeft_25 : decode cX5_spaceLeft 25 = .ok (.iaload, 1) := by decide +kernel
theorem dX5_spaceLeft_26 : decode cX5_spaceLeft 26 = .ok (.if_icmp .ge 52, 3) := by decide +kernel
theorem dX5_spaceLeft_29 : decode cX5_spaceLeft 29 = .ok (.aload_n 2, 1) := by decide +kernel
theorem dX5_spaceLeft_30 : decode cX5_spaceLeft 30 = .ok (.getfield 84, 3) := by decide +kernel
theorem dX5_spaceLeft_33 : decode cX5_spaceLeft 33 = .ok (.iload 5, 2) := by decide +kernel
theorem dX5_spaceLeft_35 : decode cX5_spaceLeft 35 = .ok (.iaload, 1) := by decide +kernel
theorem dX5_spaceLeft_36 : decode cX5_spaceLeft 36 = .ok (.istore 6, 2) := by decide +kernel
theorem dX5_spaceLeft_38 : decode cX5_spaceLeft 38 = .ok (.iload 4, 2) := by decide +kernel
theorem dX5_spaceLeft_40 : decode cX5_spaceLeft 40 = .ok (.aload_n 0, 1) := by decide +kernel
theorem dX5_spaceLeft_41 : decode cX5_spaceLeft 41 = .ok (.getfield 27, 3) := by decide +kernel
theorem dX5_spaceLeft_44 : decode cX5_spaceLeft 44 = .ok (.iload 6, 2) := by decide +kernel
theorem dX5_spaceLeft_46 : decode cX5_spaceLeft 46 = .ok (.baload, 1) := by decide +kernel
theorem dX5_spaceLeft_47 : decode cX5_spaceLeft 47 = .ok (.ifCond .eq 13, 3) := by decide +kernel
theorem dX5_spaceLeft_50 : decode cX5_spaceLeft 50 = .ok (.aload_n 0, 1) := by decide +kernel
theorem dX5_spaceLeft_51 : decode cX5_spaceLeft 51 = .ok (.getfield 9, 3) := by decide +kernel
theorem dX5_spaceLeft_54 : decode cX5_spaceLeft 54 = .ok (.iload 6, 2) := by decide +kernel
theorem dX5_spaceLeft_56 : decode cX5_spaceLeft 56 = .ok (.iaload, 1) := by decide +kernel
theorem dX5_spaceLeft_57 : decode cX5_spaceLeft 57 = .ok (.goto 12, 3) := by decide +kernel
theorem dX5_spaceLeft_60 : decode cX5_spaceLeft 60 = .ok (.aload_n 1, 1) := by decide +kernel
theorem dX5_spaceLeft_61 : decode cX5_spaceLeft 61 = .ok (.getfield 96, 3) := by decide +kernel
theorem dX5_spaceLeft_64 : decode cX5_spaceLeft 64 = .ok (.iload 6, 2) := by decide +kernel
theorem dX5_spaceLeft_66 : decode cX5_spaceLeft 66 = .ok (.aaload, 1) := by decide +kernel
theorem dX5_spaceLeft_67 : decode cX5_spaceLeft 67 = .ok (.iconst 0, 1) := by decide +kernel
theorem dX5_spaceLeft_68 : decode cX5_spaceLeft 68 = .ok (.iaload, 1) := by decide +kernel
theorem dX5_spaceLeft_69 : decode cX5_spaceLeft 69 = .ok (.isub, 1) := by decide +kernel
theorem dX5_spaceLeft_70 : decode cX5_spaceLeft 70 = .ok (.istore 4, 2) := by decide +kernel
theorem dX5_spaceLeft_72 : decode cX5_spaceLeft 72 = .ok (.iinc 5 1, 3) := by decide +kernel
theorem dX5_spaceLeft_75 : decode cX5_spaceLeft 75 = .ok (.goto (-59), 3) := by decide +kernel
theorem dX5_spaceLeft_78 : decode cX5_spaceLeft 78 = .ok (.iload 4, 2) := by decide +kernel
theorem dX5_spaceLeft_80 : decode cX5_spaceLeft 80 = .ok (.ireturn, 1) := by decide +kernel
theorem dX5_weigh_0 : decode cX5_weigh 0 = .ok (.iload 5, 2) := by decide +kernel
theorem dX5_weigh_2 : decode cX5_weigh 2 = .ok (.ifCond .eq 16, 3) := by decide +kernel
theorem dX5_weigh_5 : decode cX5_weigh 5 = .ok (.iload 6, 2) := by decide +kernel
theorem dX5_weigh_7 : decode cX5_weigh 7 = .ok (.ifCond .le 7, 3) := by decide +kernel
theorem dX5_weigh_10 : decode cX5_weigh 10 = .ok (.iconst 1, 1) := by decide +kernel
theorem dX5_weigh_11 : decode cX5_weigh 11 = .ok (.goto 17, 3) := by decide +kernel
theorem dX5_weigh_14 : decode cX5_weigh 14 = .ok (.iconst 0, 1) := by decide +kernel
theorem dX5_weigh_15 : decode cX5_weigh 15 = .ok (.goto 13, 3) := by decide +kernel
theorem dX5_weigh_18 : decode cX5_weigh 18 = .ok (.iload 6, 2) := by decide +kernel
theorem dX5_weigh_20 : decode cX5_weigh 20 = .ok (.ifCond .ge 7, 3) := by decide +kernel
theorem dX5_weigh_23 : decode cX5_weigh 23 = .ok (.iconst 1, 1) := by decide +kernel
theorem dX5_weigh_24 : decode cX5_weigh 24 = .ok (.goto 4, 3) := by decide +kernel
theorem dX5_weigh_27 : decode cX5_weigh 27 = .ok (.iconst 0, 1) := by decide +kernel
theorem dX5_weigh_28 : decode cX5_weigh 28 = .ok (.istore 7, 2) := by decide +kernel
theorem dX5_weigh_30 : decode cX5_weigh 30 = .ok (.aload_n 2, 1) := by decide +kernel
theorem dX5_weigh_31 : decode cX5_weigh 31 = .ok (.getfield 67, 3) := by decide +kernel
theorem dX5_weigh_34 : decode cX5_weigh 34 = .ok (.iload 4, 2) := by decide +kernel
theorem dX5_weigh_36 : decode cX5_weigh 36 = .ok (.iaload, 1) := by decide +kernel
theorem dX5_weigh_37 : decode cX5_weigh 37 = .ok (.istore 8, 2) := by decide +kernel
theorem dX5_weigh_39 : decode cX5_weigh 39 = .ok (.iload 8, 2) := by decide +kernel
theorem dX5_weigh_41 : decode cX5_weigh 41 = .ok (.istore 9, 2) := by decide +kernel
theorem dX5_weigh_43 : decode cX5_weigh 43 = .ok (.iload 9, 2) := by decide +kernel
theorem dX5_weigh_45 : decode cX5_weigh 45 = .ok (.aload_n 2, 1) := by decide +kernel
theorem dX5_weigh_46 : decode cX5_weigh 46 = .ok (.getfield 67, 3) := by decide +kernel
theorem dX5_weigh_49 : decode cX5_weigh 49 = .ok (.iload 4, 2) := by decide +kernel
theorem dX5_weigh_51 : decode cX5_weigh 51 = .ok (.iconst 1, 1) := by decide +kernel
theorem dX5_weigh_52 : decode cX5_weigh 52 = .ok (.iadd, 1) := by decide +kernel
theorem dX5_weigh_53 : decode cX5_weigh 53 = .ok (.iaload, 1) := by decide +kernel
theorem dX5_weigh_54 : decode cX5_weigh 54 = .ok (.if_icmp .ge 82, 3) := by decide +kernel
theorem dX5_weigh_57 : decode cX5_weigh 57 = .ok (.aload_n 2, 1) := by decide +kernel
theorem dX5_weigh_58 : decode cX5_weigh 58 = .ok (.getfield 84, 3) := by decide +kernel
theorem dX5_weigh_61 : decode cX5_weigh 61 = .ok (.iload 9, 2) := by decide +kernel
theorem dX5_weigh_63 : decode cX5_weigh 63 = .ok (.iaload, 1) := by decide +kernel
theorem dX5_weigh_64 : decode cX5_weigh 64 = .ok (.istore 10, 2) := by decide +kernel
theorem dX5_weigh_66 : decode cX5_weigh 66 = .ok (.aload_n 1, 1) := by decide +kernel
theorem dX5_weigh_67 : decode cX5_weigh 67 = .ok (.getfield 96, 3) := by decide +kernel
theorem dX5_weigh_70 : decode cX5_weigh 70 = .ok (.iload 10, 2) := by decide +kernel
theorem dX5_weigh_72 : decode cX5_weigh 72 = .ok (.aaload, 1) := by decide +kernel
theorem dX5_weigh_73 : decode cX5_weigh 73 = .ok (.astore 11, 2) := by decide +kernel
theorem dX5_weigh_75 : decode cX5_weigh 75 = .ok (.iload 5, 2) := by decide +kernel
theorem dX5_weigh_77 : decode cX5_weigh 77 = .ok (.ifCond .eq 10, 3) := by decide +kernel
theorem dX5_weigh_80 : decode cX5_weigh 80 = .ok (.aload 11, 2) := by decide +kernel
theorem dX5_weigh_82 : decode cX5_weigh 82 = .ok (.iconst 1, 1) := by decide +kernel
theorem dX5_weigh_83 : decode cX5_weigh 83 = .ok (.iaload, 1) := by decide +kernel
theorem dX5_weigh_84 : decode cX5_weigh 84 = .ok (.goto 12, 3) := by decide +kernel
theorem dX5_weigh_87 : decode cX5_weigh 87 = .ok (.aload 11, 2) := by decide +kernel
theorem dX5_weigh_89 : decode cX5_weigh 89 = .ok (.iconst 2, 1) := by decide +kernel
theorem dX5_weigh_90 : decode cX5_weigh 90 = .ok (.iaload, 1) := by decide +kernel
theorem dX5_weigh_91 : decode cX5_weigh 91 = .ok (.aload 11, 2) := by decide +kernel
theorem dX5_weigh_93 : decode cX5_weigh 93 = .ok (.iconst 0, 1) := by decide +kernel
theorem dX5_weigh_94 : decode cX5_weigh 94 = .ok (.iaload, 1) := by decide +kernel
theorem dX5_weigh_95 : decode cX5_weigh 95 = .ok (.imul, 1) := by decide +kernel
theorem dX5_weigh_96 : decode cX5_weigh 96 = .ok (.istore 12, 2) := by decide +kernel
theorem dX5_weigh_98 : decode cX5_weigh 98 = .ok (.aload_n 3, 1) := by decide +kernel
theorem dX5_weigh_99 : decode cX5_weigh 99 = .ok (.getfield 100, 3) := by decide +kernel
theorem dX5_weigh_102 : decode cX5_weigh 102 = .ok (.iload 9, 2) := by decide +kernel
theorem dX5_weigh_104 : decode cX5_weigh 104 = .ok (.iload 8, 2) := by decide +kernel
theorem dX5_weigh_106 : decode cX5_weigh 106 = .ok (.isub, 1) := by decide +kernel
theorem dX5_weigh_107 : decode cX5_weigh 107 = .ok (.iload 7, 2) := by decide +kernel
theorem dX5_weigh_109 : decode cX5_weigh 109 = .ok (.ifCond .eq 19, 3) := by decide +kernel
theorem dX5_weigh_112 : decode cX5_weigh 112 = .ok (.aload_n 0, 1) := by decide +kernel
theorem dX5_weigh_113 : decode cX5_weigh 113 = .ok (.getfield 27, 3) := by decide +kernel
theorem dX5_weigh_116 : decode cX5_weigh 116 = .ok (.iload 10, 2) := by decide +kernel
theorem dX5_weigh_118 : decode cX5_weigh 118 = .ok (.baload, 1) := by decide +kernel
theorem dX5_weigh_119 : decode cX5_weigh 119 = .ok (.ifCond .ne 9, 3) := by decide +kernel
theorem dX5_weigh_122 : decode cX5_weigh 122 = .ok (.iload 12, 2) := by decide +kernel
theorem dX5_weigh_124 : decode cX5_weigh 124 = .ok (.i2l, 1) := by decide +kernel
theorem dX5_weigh_125 : decode cX5_weigh 125 = .ok (.goto 4, 3) := by decide +kernel
theorem dX5_weigh_128 : decode cX5_weigh 128 = .ok (.lconst 0, 1) := by decide +kernel
theorem dX5_weigh_129 : decode cX5_weigh 129 = .ok (.lastore, 1) := by decide +kernel
theorem dX5_weigh_130 : decode cX5_weigh 130 = .ok (.iinc 9 1, 3) := by decide +kernel
theorem dX5_weigh_133 : decode cX5_weigh 133 = .ok (.goto (-90), 3) := by decide +kernel
theorem dX5_weigh_136 : decode cX5_weigh 136 = .ok (.return_, 1) := by decide +kernel
theorem dX5_resize_0 : decode cX5_resize 0 = .ok (.aload_n 2, 1) := by decide +kernel
theorem dX5_resize_1 : decode cX5_resize 1 = .ok (.getfield 67, 3) := by decide +kernel
theorem dX5_resize_4 : decode cX5_resize 4 = .ok (.iload 4, 2) := by decide +kernel
theorem dX5_resize_6 : decode cX5_resize 6 = .ok (.iaload, 1) := by decide +kernel
theorem dX5_resize_7 : decode cX5_resize 7 = .ok (.istore 6, 2) := by decide +kernel
theorem dX5_resize_9 : decode cX5_resize 9 = .ok (.iconst 0, 1) := by decide +kernel
theorem dX5_resize_10 : decode cX5_resize 10 = .ok (.istore 7, 2) := by decide +kernel
theorem dX5_resize_12 : decode cX5_resize 12 = .ok (.iload 6, 2) := by decide +kernel
theorem dX5_resize_14 : decode cX5_resize 14 = .ok (.istore 8, 2) := by decide +kernel
theorem dX5_resize_16 : decode cX5_resize 16 = .ok (.iload 8, 2) := by decide +kernel
theorem dX5_resize_18 : decode cX5_resize 18 = .ok (.aload_n 2, 1) := by decide +kernel
theorem dX5_resize_19 : decode cX5_resize 19 = .ok (.getfield 67, 3) := by decide +kernel
theorem dX5_resize_22 : decode cX5_resize 22 = .ok (.iload 4, 2) := by decide +kernel
theorem dX5_resize_24 : decode cX5_resize 24 = .ok (.iconst 1, 1) := by decide +kernel
theorem dX5_resize_25 : decode cX5_resize 25 = .ok (.iadd, 1) := by decide +kernel
theorem dX5_resize_26 : decode cX5_resize 26 = .ok (.iaload, 1) := by decide +kernel
theorem dX5_resize_27 : decode cX5_resize 27 = .ok (.if_icmp .ge 109, 3) := by decide +kernel
theorem dX5_resize_30 : decode cX5_resize 30 = .ok (.aload_n 2, 1) := by decide +kernel
theorem dX5_resize_31 : decode cX5_resize 31 = .ok (.getfield 84, 3) := by decide +kernel
theorem dX5_resize_34 : decode cX5_resize 34 = .ok (.iload 8, 2) := by decide +kernel
theorem dX5_resize_36 : decode cX5_resize 36 = .ok (.iaload, 1) := by decide +kernel
theorem dX5_resize_37 : decode cX5_resize 37 = .ok (.istore 9, 2) := by decide +kernel
theorem dX5_resize_39 : decode cX5_resize 39 = .ok (.aload_n 0, 1) := by decide +kernel
theorem dX5_resize_40 : decode cX5_resize 40 = .ok (.getfield 27, 3) := by decide +kernel
theorem dX5_resize_43 : decode cX5_resize 43 = .ok (.iload 9, 2) := by decide +kernel
theorem dX5_resize_45 : decode cX5_resize 45 = .ok (.baload, 1) := by decide +kernel
theorem dX5_resize_46 : decode cX5_resize 46 = .ok (.ifCond .ne 84, 3) := by decide +kernel
theorem dX5_resize_49 : decode cX5_resize 49 = .ok (.aload_n 3, 1) := by decide +kernel
theorem dX5_resize_50 : decode cX5_resize 50 = .ok (.getfield 104, 3) := by decide +kernel
theorem dX5_resize_53 : decode cX5_resize 53 = .ok (.iload 8, 2) := by decide +kernel
theorem dX5_resize_55 : decode cX5_resize 55 = .ok (.iload 6, 2) := by decide +kernel
theorem dX5_resize_57 : decode cX5_resize 57 = .ok (.isub, 1) := by decide +kernel
theorem dX5_resize_58 : decode cX5_resize 58 = .ok (.iaload, 1) := by decide +kernel
theorem dX5_resize_59 : decode cX5_resize 59 = .ok (.istore 10, 2) := by decide +kernel
theorem dX5_resize_61 : decode cX5_resize 61 = .ok (.aload_n 1, 1) := by decide +kernel
theorem dX5_resize_62 : decode cX5_resize 62 = .ok (.getfield 96, 3) := by decide +kernel
theorem dX5_resize_65 : decode cX5_resize 65 = .ok (.iload 9, 2) := by decide +kernel
theorem dX5_resize_67 : decode cX5_resize 67 = .ok (.aaload, 1) := by decide +kernel
theorem dX5_resize_68 : decode cX5_resize 68 = .ok (.iconst 0, 1) := by decide +kernel
theorem dX5_resize_69 : decode cX5_resize 69 = .ok (.iaload, 1) := by decide +kernel
theorem dX5_resize_70 : decode cX5_resize 70 = .ok (.iload 5, 2) := by decide +kernel
theorem dX5_resize_72 : decode cX5_resize 72 = .ok (.ifCond .eq 8, 3) := by decide +kernel
theorem dX5_resize_75 : decode cX5_resize 75 = .ok (.iload 10, 2) := by decide +kernel
theorem dX5_resize_77 : decode cX5_resize 77 = .ok (.goto 6, 3) := by decide +kernel
theorem dX5_resize_80 : decode cX5_resize 80 = .ok (.iload 10, 2) := by decide +kernel
theorem dX5_resize_82 : decode cX5_resize 82 = .ok (.ineg, 1) := by decide +kernel
theorem dX5_resize_83 : decode cX5_resize 83 = .ok (.iadd, 1) := by decide +kernel
theorem dX5_resize_84 : decode cX5_resize 84 = .ok (.istore 11, 2) := by decide +kernel
theorem dX5_resize_86 : decode cX5_resize 86 = .ok (.aload_n 0, 1) := by decide +kernel
theorem dX5_resize_87 : decode cX5_resize 87 = .ok (.getfield 9, 3) := by decide +kernel
theorem dX5_resize_90 : decode cX5_resize 90 = .ok (.iload 9, 2) := by decide +kernel
theorem dX5_resize_92 : decode cX5_resize 92 = .ok (.aload_n 1, 1) := by decide +kernel
theorem dX5_resize_93 : decode cX5_resize 93 = .ok (.iload 9, 2) := by decide +kernel
theorem dX5_resize_95 : decode cX5_resize 95 = .ok (.iload 11, 2) := by decide +kernel
theorem dX5_resize_97 : decode cX5_resize 97 = .ok (.invokevirtual 107, 3) := by decide +kernel
theorem dX5_resize_100 : decode cX5_resize 100 = .ok (.iastore, 1) := by decide +kernel
theorem dX5_resize_101 : decode cX5_resize 101 = .ok (.aload_n 0, 1) := by decide +kernel
theorem dX5_resize_102 : decode cX5_resize 102 = .ok (.getfield 24, 3) := by decide +kernel
theorem dX5_resize_105 : decode cX5_resize 105 = .ok (.iload 9, 2) := by decide +kernel
theorem dX5_resize_107 : decode cX5_resize 107 = .ok (.aload_n 0, 1) := by decide +kernel
theorem dX5_resize_108 : decode cX5_resize 108 = .ok (.getfield 9, 3) := by decide +kernel
theorem dX5_resize_111 : decode cX5_resize 111 = .ok (.iload 9, 2) := by decide +kernel
theorem dX5_resize_113 : decode cX5_resize 113 = .ok (.iaload, 1) := by decide +kernel
theorem dX5_resize_114 : decode cX5_resize 114 = .ok (.iload 11, 2) := by decide +kernel
theorem dX5_resize_116 : decode cX5_resize 116 = .ok (.isub, 1) := by decide +kernel
theorem dX5_resize_117 : decode cX5_resize 117 = .ok (.iastore, 1) := by decide +kernel
theorem dX5_resize_118 : decode cX5_resize 118 = .ok (.iload 7, 2) := by decide +kernel
theorem dX5_resize_120 : decode cX5_resize 120 = .ok (.aload_n 0, 1) := by decide +kernel
theorem dX5_resize_121 : decode cX5_resize 121 = .ok (.getfield 24, 3) := by decide +kernel
theorem dX5_resize_124 : decode cX5_resize 124 = .ok (.iload 9, 2) := by decide +kernel
theorem dX5_resize_126 : decode cX5_resize 126 = .ok (.iaload, 1) := by decide +kernel
theorem dX5_resize_127 : decode cX5_resize 127 = .ok (.iadd, 1) := by decide +kernel
theorem dX5_resize_128 : decode cX5_resize 128 = .ok (.istore 7, 2) := by decide +kernel
theorem dX5_resize_130 : decode cX5_resize 130 = .ok (.iinc 8 1, 3) := by decide +kernel
theorem dX5_resize_133 : decode cX5_resize 133 = .ok (.goto (-117), 3) := by decide +kernel
theorem dX5_resize_136 : decode cX5_resize 136 = .ok (.iload 7, 2) := by decide +kernel
theorem dX5_resize_138 : decode cX5_resize 138 = .ok (.ireturn, 1) := by decide +kernel
theorem dX5_freeze_0 : decode cX5_freeze 0 = .ok (.aload_n 1, 1) := by decide +kernel
theorem dX5_freeze_1 : decode cX5_freeze 1 = .ok (.getfield 67, 3) := by decide +kernel
theorem dX5_freeze_4 : decode cX5_freeze 4 = .ok (.iload_n 2, 1) := by decide +kernel
theorem dX5_freeze_5 : decode cX5_freeze 5 = .ok (.iaload, 1) := by decide +kernel
theorem dX5_freeze_6 : decode cX5_freeze 6 = .ok (.istore 4, 2) := by decide +kernel
theorem dX5_freeze_8 : decode cX5_freeze 8 = .ok (.iload 4, 2) := by decide +kernel
theorem dX5_freeze_10 : decode cX5_freeze 10 = .ok (.aload_n 1, 1) := by decide +kernel
theorem dX5_freeze_11 : decode cX5_freeze 11 = .ok (.getfield 67, 3) := by decide +kernel
theorem dX5_freeze_14 : decode cX5_freeze 14 = .ok (.iload_n 2, 1) := by decide +kernel
theorem dX5_freeze_15 : decode cX5_freeze 15 = .ok (.iconst 1, 1) := by decide +kernel
theorem dX5_freeze_16 : decode cX5_freeze 16 = .ok (.iadd, 1) := by decide +kernel
theorem dX5_freeze_17 : decode cX5_freeze 17 = .ok (.iaload, 1) := by decide +kernel
theorem dX5_freeze_18 : decode cX5_freeze 18 = .ok (.if_icmp .ge 88, 3) := by decide +kernel
theorem dX5_freeze_21 : decode cX5_freeze 21 = .ok (.aload_n 1, 1) := by decide +kernel
theorem dX5_freeze_22 : decode cX5_freeze 22 = .ok (.getfield 84, 3) := by decide +kernel
theorem dX5_freeze_25 : decode cX5_freeze 25 = .ok (.iload 4, 2) := by decide +kernel
theorem dX5_freeze_27 : decode cX5_freeze 27 = .ok (.iaload, 1) := by decide +kernel
theorem dX5_freeze_28 : decode cX5_freeze 28 = .ok (.istore 5, 2) := by decide +kernel
theorem dX5_freeze_30 : decode cX5_freeze 30 = .ok (.iload_n 3, 1) := by decide +kernel
theorem dX5_freeze_31 : decode cX5_freeze 31 = .ok (.ifCond .le 21, 3) := by decide +kernel
theorem dX5_freeze_34 : decode cX5_freeze 34 = .ok (.aload_n 0, 1) := by decide +kernel
theorem dX5_freeze_35 : decode cX5_freeze 35 = .ok (.getfield 24, 3) := by decide +kernel
theorem dX5_freeze_38 : decode cX5_freeze 38 = .ok (.iload 5, 2) := by decide +kernel
theorem dX5_freeze_40 : decode cX5_freeze 40 = .ok (.iaload, 1) := by decide +kernel
theorem dX5_freeze_41 : decode cX5_freeze 41 = .ok (.ifCond .le 7, 3) := by decide +kernel
theorem dX5_freeze_44 : decode cX5_freeze 44 = .ok (.iconst 1, 1) := by decide +kernel
theorem dX5_freeze_45 : decode cX5_freeze 45 = .ok (.goto 22, 3) := by decide +kernel
theorem dX5_freeze_48 : decode cX5_freeze 48 = .ok (.iconst 0, 1) := by decide +kernel
theorem dX5_freeze_49 : decode cX5_freeze 49 = .ok (.goto 18, 3) := by decide +kernel
theorem dX5_freeze_52 : decode cX5_freeze 52 = .ok (.aload_n 0, 1) := by decide +kernel
theorem dX5_freeze_53 : decode cX5_freeze 53 = .ok (.getfield 24, 3) := by decide +kernel
theorem dX5_freeze_56 : decode cX5_freeze 56 = .ok (.iload 5, 2) := by decide +kernel
theorem dX5_freeze_58 : decode cX5_freeze 58 = .ok (.iaload, 1) := by decide +kernel
theorem dX5_freeze_59 : decode cX5_freeze 59 = .ok (.ifCond .ge 7, 3) := by decide +kernel
theorem dX5_freeze_62 : decode cX5_freeze 62 = .ok (.iconst 1, 1) := by decide +kernel
theorem dX5_freeze_63 : decode cX5_freeze 63 = .ok (.goto 4, 3) := by decide +kernel
theorem dX5_freeze_66 : decode cX5_freeze 66 = .ok (.iconst 0, 1) := by decide +kernel
theorem dX5_freeze_67 : decode cX5_freeze 67 = .ok (.istore 6, 2) := by decide +kernel
theorem dX5_freeze_69 : decode cX5_freeze 69 = .ok (.aload_n 0, 1) := by decide +kernel
theorem dX5_freeze_70 : decode cX5_freeze 70 = .ok (.getfield 27, 3) := by decide +kernel
theorem dX5_freeze_73 : decode cX5_freeze 73 = .ok (.iload 5, 2) := by decide +kernel
theorem dX5_freeze_75 : decode cX5_freeze 75 = .ok (.aload_n 0, 1) := by decide +kernel
theorem dX5_freeze_76 : decode cX5_freeze 76 = .ok (.getfield 27, 3) := by decide +kernel
theorem dX5_freeze_79 : decode cX5_freeze 79 = .ok (.iload 5, 2) := by decide +kernel
theorem dX5_freeze_81 : decode cX5_freeze 81 = .ok (.baload, 1) := by decide +kernel
theorem dX5_freeze_82 : decode cX5_freeze 82 = .ok (.ifCond .ne 12, 3) := by decide +kernel
theorem dX5_freeze_85 : decode cX5_freeze 85 = .ok (.iload_n 3, 1) := by decide +kernel
theorem dX5_freeze_86 : decode cX5_freeze 86 = .ok (.ifCond .eq 8, 3) := by decide +kernel
theorem dX5_freeze_89 : decode cX5_freeze 89 = .ok (.iload 6, 2) := by decide +kernel
theorem dX5_freeze_91 : decode cX5_freeze 91 = .ok (.ifCond .eq 7, 3) := by decide +kernel
theorem dX5_freeze_94 : decode cX5_freeze 94 = .ok (.iconst 1, 1) := by decide +kernel
theorem dX5_freeze_95 : decode cX5_freeze 95 = .ok (.goto 4, 3) := by decide +kernel
theorem dX5_freeze_98 : decode cX5_freeze 98 = .ok (.iconst 0, 1) := by decide +kernel
theorem dX5_freeze_99 : decode cX5_freeze 99 = .ok (.bastore, 1) := by decide +kernel
theorem dX5_freeze_100 : decode cX5_freeze 100 = .ok (.iinc 4 1, 3) := by decide +kernel
theorem dX5_freeze_103 : decode cX5_freeze 103 = .ok (.goto (-95), 3) := by decide +kernel
theorem dX5_freeze_106 : decode cX5_freeze 106 = .ok (.return_, 1) := by decide +kernel
theorem dX5_findPositions_0 : decode cX5_findPositions 0 = .ok (.aload_n 2, 1) := by decide +kernel
theorem dX5_findPositions_1 : decode cX5_findPositions 1 = .ok (.getfield 67, 3) := by decide +kernel
theorem dX5_findPositions_4 : decode cX5_findPositions 4 = .ok (.iload_n 3, 1) := by decide +kernel
theorem dX5_findPositions_5 : decode cX5_findPositions 5 = .ok (.iaload, 1) := by decide +kernel
theorem dX5_findPositions_6 : decode cX5_findPositions 6 = .ok (.istore 4, 2) := by decide +kernel
theorem dX5_findPositions_8 : decode cX5_findPositions 8 = .ok (.aload_n 2, 1) := by decide +kernel
theorem dX5_findPositions_9 : decode cX5_findPositions 9 = .ok (.getfield 67, 3) := by decide +kernel
theorem dX5_findPositions_12 : decode cX5_findPositions 12 = .ok (.iload_n 3, 1) := by decide +kernel
theorem dX5_findPositions_13 : decode cX5_findPositions 13 = .ok (.iconst 1, 1) := by decide +kernel
theorem dX5_findPositions_14 : decode cX5_findPositions 14 = .ok (.iadd, 1) := by decide +kernel
theorem dX5_findPositions_15 : decode cX5_findPositions 15 = .ok (.iaload, 1) := by decide +kernel
theorem dX5_findPositions_16 : decode cX5_findPositions 16 = .ok (.iload 4, 2) := by decide +kernel
theorem dX5_findPositions_18 : decode cX5_findPositions 18 = .ok (.isub, 1) := by decide +kernel
theorem dX5_findPositions_19 : decode cX5_findPositions 19 = .ok (.istore 5, 2) := by decide +kernel
theorem dX5_findPositions_21 : decode cX5_findPositions 21 = .ok (.iconst 0, 1) := by decide +kernel
theorem dX5_findPositions_22 : decode cX5_findPositions 22 = .ok (.istore 6, 2) := by decide +kernel
theorem dX5_findPositions_24 : decode cX5_findPositions 24 = .ok (.iconst 0, 1) := by decide +kernel
theorem dX5_findPositions_25 : decode cX5_findPositions 25 = .ok (.istore 7, 2) := by decide +kernel
theorem dX5_findPositions_27 : decode cX5_findPositions 27 = .ok (.iload 7, 2) := by decide +kernel
theorem dX5_findPositions_29 : decode cX5_findPositions 29 = .ok (.iload 5, 2) := by decide +kernel
theorem dX5_findPositions_31 : decode cX5_findPositions 31 = .ok (.if_icmp .ge 96, 3) := by decide +kernel
theorem dX5_findPositions_34 : decode cX5_findPositions 34 = .ok (.aload_n 2, 1) := by decide +kernel
theorem dX5_findPositions_35 : decode cX5_findPositions 35 = .ok (.getfield 84, 3) := by decide +kernel
theorem dX5_findPositions_38 : decode cX5_findPositions 38 = .ok (.iload 4, 2) := by decide +kernel
theorem dX5_findPositions_40 : decode cX5_findPositions 40 = .ok (.iload 7, 2) := by decide +kernel
theorem dX5_findPositions_42 : decode cX5_findPositions 42 = .ok (.iadd, 1) := by decide +kernel
theorem dX5_findPositions_43 : decode cX5_findPositions 43 = .ok (.iaload, 1) := by decide +kernel
theorem dX5_findPositions_44 : decode cX5_findPositions 44 = .ok (.istore 8, 2) := by decide +kernel
theorem dX5_findPositions_46 : decode cX5_findPositions 46 = .ok (.iload 6, 2) := by decide +kernel
theorem dX5_findPositions_48 : decode cX5_findPositions 48 = .ok (.aload_n 1, 1) := by decide +kernel
theorem dX5_findPositions_49 : decode cX5_findPositions 49 = .ok (.getfield 111, 3) := by decide +kernel
theorem dX5_findPositions_52 : decode cX5_findPositions 52 = .ok (.iconst 2, 1) := by decide +kernel
theorem dX5_findPositions_53 : decode cX5_findPositions 53 = .ok (.iaload, 1) := by decide +kernel
theorem dX5_findPositions_54 : decode cX5_findPositions 54 = .ok (.aload_n 0, 1) := by decide +kernel
theorem dX5_findPositions_55 : decode cX5_findPositions 55 = .ok (.getfield 21, 3) := by decide +kernel
theorem dX5_findPositions_58 : decode cX5_findPositions 58 = .ok (.iload_n 3, 1) := by decide +kernel
theorem dX5_findPositions_59 : decode cX5_findPositions 59 = .ok (.iaload, 1) := by decide +kernel
theorem dX5_findPositions_60 : decode cX5_findPositions 60 = .ok (.iload 7, 2) := by decide +kernel
theorem dX5_findPositions_62 : decode cX5_findPositions 62 = .ok (.iload 5, 2) := by decide +kernel
theorem dX5_findPositions_64 : decode cX5_findPositions 64 = .ok (.invokestatic 114, 3) := by decide +kernel
theorem dX5_findPositions_67 : decode cX5_findPositions 67 = .ok (.iadd, 1) := by decide +kernel
theorem dX5_findPositions_68 : decode cX5_findPositions 68 = .ok (.istore 9, 2) := by decide +kernel
theorem dX5_findPositions_70 : decode cX5_findPositions 70 = .ok (.aload_n 0, 1) := by decide +kernel
theorem dX5_findPositions_71 : decode cX5_findPositions 71 = .ok (.getfield 15, 3) := by decide +kernel
theorem dX5_findPositions_74 : decode cX5_findPositions 74 = .ok (.iload 8, 2) := by decide +kernel
theorem dX5_findPositions_76 : decode cX5_findPositions 76 = .ok (.aload_n 1, 1) := by decide +kernel
theorem dX5_findPositions_77 : decode cX5_findPositions 77 = .ok (.invokevirtual 118, 3) := by decide +kernel
theorem dX5_findPositions_80 : decode cX5_findPositions 80 = .ok (.ifCond .eq 21, 3) := by decide +kernel
theorem dX5_findPositions_83 : decode cX5_findPositions 83 = .ok (.aload_n 1, 1) := by decide +kernel
theorem dX5_findPositions_84 : decode cX5_findPositions 84 = .ok (.getfield 122, 3) := by decide +kernel
theorem dX5_findPositions_87 : decode cX5_findPositions 87 = .ok (.iload 9, 2) := by decide +kernel
theorem dX5_findPositions_89 : decode cX5_findPositions 89 = .ok (.isub, 1) := by decide +kernel
theorem dX5_findPositions_90 : decode cX5_findPositions 90 = .ok (.aload_n 0, 1) := by decide +kernel
theorem dX5_findPositions_91 : decode cX5_findPositions 91 = .ok (.getfield 9, 3) := by decide +kernel
theorem dX5_findPositions_94 : decode cX5_findPositions 94 = .ok (.iload 8, 2) := by decide +kernel
theorem dX5_findPositions_96 : decode cX5_findPositions 96 = .ok (.iaload, 1) := by decide +kernel
theorem dX5_findPositions_97 : decode cX5_findPositions 97 = .ok (.isub, 1) := by decide +kernel
theorem dX5_findPositions_98 : decode cX5_findPositions 98 = .ok (.goto 5, 3) := by decide +kernel
theorem dX5_findPositions_101 : decode cX5_findPositions 101 = .ok (.iload 9, 2) := by decide +kernel
theorem dX5_findPositions_103 : decode cX5_findPositions 103 = .ok (.iastore, 1) := by decide +kernel
theorem dX5_findPositions_104 : decode cX5_findPositions 104 = .ok (.iload 6, 2) := by decide +kernel
theorem dX5_findPositions_106 : decode cX5_findPositions 106 = .ok (.aload_n 0, 1) := by decide +kernel
theorem dX5_findPositions_107 : decode cX5_findPositions 107 = .ok (.getfield 9, 3) := by decide +kernel
theorem dX5_findPositions_110 : decode cX5_findPositions 110 = .ok (.iload 8, 2) := by decide +kernel
theorem dX5_findPositions_112 : decode cX5_findPositions 112 = .ok (.iaload, 1) := by decide +kernel
theorem dX5_findPositions_113 : decode cX5_findPositions 113 = .ok (.aload_n 1, 1) := by decide +kernel
theorem dX5_findPositions_114 : decode cX5_findPositions 114 = .ok (.getfield 125, 3) := by decide +kernel
theorem dX5_findPositions_117 : decode cX5_findPositions 117 = .ok (.iadd, 1) := by decide +kernel
theorem dX5_findPositions_118 : decode cX5_findPositions 118 = .ok (.iadd, 1) := by decide +kernel
theorem dX5_findPositions_119 : decode cX5_findPositions 119 = .ok (.istore 6, 2) := by decide +kernel
theorem dX5_findPositions_121 : decode cX5_findPositions 121 = .ok (.iinc 7 1, 3) := by decide +kernel
theorem dX5_findPositions_124 : decode cX5_findPositions 124 = .ok (.goto (-97), 3) := by decide +kernel
theorem dX5_findPositions_127 : decode cX5_findPositions 127 = .ok (.return_, 1) := by decide +kernel
theorem dX6_init_0 : decode cX6_init 0 = .ok (.aload_n 0, 1) := by decide +kernel
theorem dX6_init_1 : decode cX6_init 1 = .ok (.invokespecial 1, 3) := by decide +kernel
theorem dX6_init_4 : decode cX6_init 4 = .ok (.aload_n 0, 1) := by decide +kernel
theorem dX6_init_5 : decode cX6_init 5 = .ok (.new 7, 3) := by decide +kernel
theorem dX6_init_8 : decode cX6_init 8 = .ok (.dup, 1) := by decide +kernel
theorem dX6_init_9 : decode cX6_init 9 = .ok (.invokespecial 9, 3) := by decide +kernel
theorem dX6_init_12 : decode cX6_init 12 = .ok (.putfield 10, 3) := by decide +kernel
theorem dX6_init_15 : decode cX6_init 15 = .ok (.aload_n 0, 1) := by decide +kernel
theorem dX6_init_16 : decode cX6_init 16 = .ok (.new 7, 3) := by decide +kernel
theorem dX6_init_19 : decode cX6_init 19 = .ok (.dup, 1) := by decide +kernel
theorem dX6_init_20 : decode cX6_init 20 = .ok (.invokespecial 9, 3) := by decide +kernel
theorem dX6_init_23 : decode cX6_init 23 = .ok (.putfield 16, 3) := by decide +kernel
theorem dX6_init_26 : decode cX6_init 26 = .ok (.aload_n 0, 1) := by decide +kernel
theorem dX6_init_27 : decode cX6_init 27 = .ok (.iconst 0, 1) := by decide +kernel
theorem dX6_init_28 : decode cX6_init 28 = .ok (.putfield 19, 3) := by decide +kernel
theorem dX6_init_31 : decode cX6_init 31 = .ok (.aload_n 0, 1) := by decide +kernel
theorem dX6_init_32 : decode cX6_init 32 = .ok (.new 23, 3) := by decide +kernel
theorem dX6_init_35 : decode cX6_init 35 = .ok (.dup, 1) := by decide +kernel
theorem dX6_init_36 : decode cX6_init 36 = .ok (.invokespecial 25, 3) := by decide +kernel
theorem dX6_init_39 : decode cX6_init 39 = .ok (.putfield 26, 3) := by decide +kernel
theorem dX6_init_42 : decode cX6_init 42 = .ok (.aload_n 0, 1) := by decide +kernel
theorem dX6_init_43 : decode cX6_init 43 = .ok (.new 30, 3) := by decide +kernel
theorem dX6_init_46 : decode cX6_init 46 = .ok (.dup, 1) := by decide +kernel
theorem dX6_init_47 : decode cX6_init 47 = .ok (.invokespecial 32, 3) := by decide +kernel
theorem dX6_init_50 : decode cX6_init 50 = .ok (.putfield 33, 3) := by decide +kernel
theorem dX6_init_53 : decode cX6_init 53 = .ok (.aload_n 0, 1) := by decide +kernel
theorem dX6_init_54 : decode cX6_init 54 = .ok (.new 37, 3) := by decide +kernel
theorem dX6_init_57 : decode cX6_init 57 = .ok (.dup, 1) := by decide +kernel
theorem dX6_init_58 : decode cX6_init 58 = .ok (.invokespecial 39, 3) := by decide +kernel
theorem dX6_init_61 : decode cX6_init 61 = .ok (.putfield 40, 3) := by decide +kernel
theorem dX6_init_64 : decode cX6_init 64 = .ok (.aload_n 0, 1) := by decide +kernel
theorem dX6_init_65 : decode cX6_init 65 = .ok (.new 44, 3) := by decide +kernel
theorem dX6_init_68 : decode cX6_init 68 = .ok (.dup, 1) := by decide +kernel
theorem dX6_init_69 : decode cX6_init 69 = .ok (.invokespecial 46, 3) := by decide +kernel
theorem dX6_init_72 : decode cX6_init 72 = .ok (.putfield 47, 3) := by decide +kernel
theorem dX6_init_75 : decode cX6_init 75 = .ok (.aload_n 0, 1) := by decide +kernel
theorem dX6_init_76 : decode cX6_init 76 = .ok (.new 51, 3) := by decide +kernel
theorem dX6_init_79 : decode cX6_init 79 = .ok (.dup, 1) := by decide +kernel
theorem dX6_init_80 : decode cX6_init 80 = .ok (.invokespecial 53, 3) := by decide +kernel
theorem dX6_init_83 : decode cX6_init 83 = .ok (.putfield 54, 3) := by decide +kernel
theorem dX6_init_86 : decode cX6_init 86 = .ok (.return_, 1) := by decide +kernel
theorem dX6_setMainSize_0 : decode cX6_setMainSize 0 = .ok (.iload_n 1, 1) := by decide +kernel
theorem dX6_setMainSize_1 : decode cX6_setMainSize 1 = .ok (.iconst 0, 1) := by decide +kernel
theorem dX6_setMainSize_2 : decode cX6_setMainSize 2 = .ok (.sipush 9999, 3) := by decide +kernel
theorem dX6_setMainSize_5 : decode cX6_setMainSize 5 = .ok (.invokestatic 58, 3) := by decide +kernel
theorem dX6_setMainSize_8 : decode cX6_setMainSize 8 = .ok (.ifCond .ne 13, 3) := by decide +kernel
theorem dX6_setMainSize_11 : decode cX6_setMainSize 11 = .ok (.new 62, 3) := by decide +kernel
theorem dX6_setMainSize_14 : decode cX6_setMainSize 14 = .ok (.dup, 1) := by decide +kernel
theorem dX6_setMainSize_15 : decode cX6_setMainSize 15 = .ok (.ldc 64, 2) := by decide +kernel
theorem dX6_setMainSize_17 : decode cX6_setMainSize 17 = .ok (.invokespecial 66, 3) := by decide +kernel
theorem dX6_setMainSize_20 : decode cX6_setMainSize 20 = .ok (.athrow, 1) := by decide +kernel
theorem dX6_setMainSize_21 : decode cX6_setMainSize 21 = .ok (.aload_n 0, 1) := by decide +kernel
theorem dX6_setMainSize_22 : decode cX6_setMainSize 22 = .ok (.getfield 10, 3) := by decide +kernel
theorem dX6_setMainSize_25 : decode cX6_setMainSize 25 = .ok (.getfield 69, 3) := by decide +kernel
theorem dX6_setMainSize_28 : decode cX6_setMainSize 28 = .ok (.istore_n 2, 1) := by decide +kernel
theorem dX6_setMainSize_29 : decode cX6_setMainSize 29 = .ok (.aload_n 0, 1) := by decide +kernel
theorem dX6_setMainSize_30 : decode cX6_setMainSize 30 = .ok (.getfield 10, 3) := by decide +kernel
theorem dX6_setMainSize_33 : decode cX6_setMainSize 33 = .ok (.iload_n 1, 1) := by decide +kernel
theorem dX6_setMainSize_34 : decode cX6_setMainSize 34 = .ok (.putfield 69, 3) := by decide +kernel
theorem dX6_setMainSize_37 : decode cX6_setMainSize 37 = .ok (.iload_n 2, 1) := by decide +kernel
theorem dX6_setMainSize_38 : decode cX6_setMainSize 38 = .ok (.ireturn, 1) := by decide +kernel
theorem dX6_setCrossSize_0 : decode cX6_setCrossSize 0 = .ok (.iload_n 1, 1) := by decide +kernel
theorem dX6_setCrossSize_1 : decode cX6_setCrossSize 1 = .ok (.iconst (-1), 1) := by decide +kernel
theorem dX6_setCrossSize_2 : decode cX6_setCrossSize 2 = .ok (.if_icmp .eq 24, 3) := by decide +kernel
theorem dX6_setCrossSize_5 : decode cX6_setCrossSize 5 = .ok (.iload_n 1, 1) := by decide +kernel
theorem dX6_setCrossSize_6 : decode cX6_setCrossSize 6 = .ok (.iconst 0, 1) := by decide +kernel
theorem dX6_setCrossSize_7 : decode cX6_setCrossSize 7 = .ok (.sipush 9999, 3) := by decide +kernel
theorem dX6_setCrossSize_10 : decode cX6_setCrossSize 10 = .ok (.invokestatic 58, 3) := by decide +kernel
theorem dX6_setCrossSize_13 : decode cX6_setCrossSize 13 = .ok (.ifCond .ne 13, 3) := by decide +kernel
theorem dX6_setCrossSize_16 : decode cX6_setCrossSize 16 = .ok (.new 62, 3) := by decide +kernel
theorem dX6_setCrossSize_19 : decode cX6_setCrossSize 19 = .ok (.dup, 1) := by decide +kernel
theorem dX6_setCrossSize_20 : decode cX6_setCrossSize 20 = .ok (.ldc 73, 2) := by decide +kernel
theorem dX6_setCrossSize_22 : decode cX6_setCrossSize 22 = .ok (.invokespecial 66, 3) := by decide +kernel
theorem dX6_setCrossSize_25 : decode cX6_setCrossSize 25 = .ok (.athrow, 1) := by decide +kernel
theorem dX6_setCrossSize_26 : decode cX6_setCrossSize 26 = .ok (.aload_n 0, 1) := by decide +kernel
theorem dX6_setCrossSize_27 : decode cX6_setCrossSize 27 = .ok (.getfield 10, 3) := by decide +kernel
theorem dX6_setCrossSize_30 : decode cX6_setCrossSize 30 = .ok (.getfield 75, 3) := by decide +kernel
theorem dX6_setCrossSize_33 : decode cX6_setCrossSize 33 = .ok (.istore_n 2, 1) := by decide +kernel
theorem dX6_setCrossSize_34 : decode cX6_setCrossSize 34 = .ok (.aload_n 0, 1) := by decide +kernel
theorem dX6_setCrossSize_35 : decode cX6_setCrossSize 35 = .ok (.getfield 10, 3) := by decide +kernel
theorem dX6_setCrossSize_38 : decode cX6_setCrossSize 38 = .ok (.iload_n 1, 1) := by decide +kernel
theorem dX6_setCrossSize_39 : decode cX6_setCrossSize 39 = .ok (.putfield 75, 3) := by decide +kernel
theorem dX6_setCrossSize_42 : decode cX6_setCrossSize 42 = .ok (.iload_n 2, 1) := by decide +kernel
theorem dX6_setCrossSize_43 : decode cX6_setCrossSize 43 = .ok (.ireturn, 1) := by decide +kernel
theorem dX6_setGaps_0 : decode cX6_setGaps 0 = .ok (.iload_n 1, 1) := by decide +kernel
theorem dX6_setGaps_1 : decode cX6_setGaps 1 = .ok (.iconst 0, 1) := by decide +kernel
theorem dX6_setGaps_2 : decode cX6_setGaps 2 = .ok (.bipush 99, 2) := by decide +kernel
theorem dX6_setGaps_4 : decode cX6_setGaps 4 = .ok (.invokestatic 58, 3) := by decide +kernel
theorem dX6_setGaps_7 : decode cX6_setGaps 7 = .ok (.ifCond .eq 13, 3) := by decide +kernel
theorem dX6_setGaps_10 : decode cX6_setGaps 10 = .ok (.iload_n 2, 1) := by decide +kernel
theorem dX6_setGaps_11 : decode cX6_setGaps 11 = .ok (.iconst 0, 1) := by decide +kernel
theorem dX6_setGaps_12 : decode cX6_setGaps 12 = .ok (.bipush 99, 2) := by decide +kernel
theorem dX6_setGaps_14 : decode cX6_setGaps 14 = .ok (.invokestatic 58, 3) := by decide +kernel
theorem dX6_setGaps_17 : decode cX6_setGaps 17 = .ok (.ifCond .ne 13, 3) := by decide +kernel
theorem dX6_setGaps_20 : decode cX6_setGaps 20 = .ok (.new 62, 3) := by decide +kernel
theorem dX6_setGaps_23 : decode cX6_setGaps 23 = .ok (.dup, 1) := by decide +kernel
theorem dX6_setGaps_24 : decode cX6_setGaps 24 = .ok (.ldc 78, 2) := by decide +kernel
theorem dX6_setGaps_26 : decode cX6_setGaps 26 = .ok (.invokespecial 66, 3) := by decide +kernel
theorem dX6_setGaps_29 : decode cX6_setGaps 29 = .ok (.athrow, 1) := by decide +kernel
theorem dX6_setGaps_30 : decode cX6_setGaps 30 = .ok (.bipush 100, 2) := by decide +kernel
theorem dX6_setGaps_32 : decode cX6_setGaps 32 = .ok (.aload_n 0, 1) := by decide +kernel
theorem dX6_setGaps_33 : decode cX6_setGaps 33 = .ok (.getfield 10, 3) := by decide +kernel
theorem dX6_setGaps_36 : decode cX6_setGaps 36 = .ok (.getfield 80, 3) := by decide +kernel
theorem dX6_setGaps_39 : decode cX6_setGaps 39 = .ok (.imul, 1) := by decide +kernel
theorem dX6_setGaps_40 : decode cX6_setGaps 40 = .ok (.aload_n 0, 1) := by decide +kernel
theorem dX6_setGaps_41 : decode cX6_setGaps 41 = .ok (.getfield 10, 3) := by decide +kernel
theorem dX6_setGaps_44 : decode cX6_setGaps 44 = .ok (.getfield 83, 3) := by decide +kernel
theorem dX6_setGaps_47 : decode cX6_setGaps 47 = .ok (.iadd, 1) := by decide +kernel
theorem dX6_setGaps_48 : decode cX6_setGaps 48 = .ok (.istore_n 3, 1) := by decide +kernel
theorem dX6_setGaps_49 : decode cX6_setGaps 49 = .ok (.aload_n 0, 1) := by decide +kernel
theorem dX6_setGaps_50 : decode cX6_setGaps 50 = .ok (.getfield 10, 3) := by decide +kernel
theorem dX6_setGaps_53 : decode cX6_setGaps 53 = .ok (.iload_n 1, 1) := by decide +kernel
theorem dX6_setGaps_54 : decode cX6_setGaps 54 = .ok (.putfield 80, 3) := by decide +kernel
theorem dX6_setGaps_57 : decode cX6_setGaps 57 = .ok (.aload_n 0, 1) := by decide +kernel
theorem dX6_setGaps_58 : decode cX6_setGaps 58 = .ok (.getfield 10, 3) := by decide +kernel
theorem dX6_setGaps_61 : decode cX6_setGaps 61 = .ok (.iload_n 2, 1) := by decide +kernel
theorem dX6_setGaps_62 : decode cX6_setGaps 62 = .ok (.putfield 83, 3) := by decide +kernel
theorem dX6_setGaps_65 : decode cX6_setGaps 65 = .ok (.iload_n 3, 1) := by decide +kernel
theorem dX6_setGaps_66 : decode cX6_setGaps 66 = .ok (.ireturn, 1) := by decide +kernel
theorem dX6_setSetting_0 : decode cX6_setSetting 0 = .ok (.iload_n 1, 1) := by decide +kernel
theorem dX6_setSetting_1 : decode cX6_setSetting 1 = .ok (.iconst 0, 1) := by decide +kernel
theorem dX6_setSetting_2 : decode cX6_setSetting 2 = .ok (.iconst 4, 1) := by decide +kernel
theorem dX6_setSetting_3 : decode cX6_setSetting 3 = .ok (.invokestatic 58, 3) := by decide +kernel
theorem dX6_setSetting_6 : decode cX6_setSetting 6 = .ok (.ifCond .ne 13, 3) := by decide +kernel
theorem dX6_setSetting_9 : decode cX6_setSetting 9 = .ok (.new 86, 3) := by decide +kernel
theorem dX6_setSetting_12 : decode cX6_setSetting 12 = .ok (.dup, 1) := by decide +kernel
theorem dX6_setSetting_13 : decode cX6_setSetting 13 = .ok (.ldc 88, 2) := by decide +kernel
theorem dX6_setSetting_15 : decode cX6_setSetting 15 = .ok (.invokespecial 90, 3) := by decide +kernel
theorem dX6_setSetting_18 : decode cX6_setSetting 18 = .ok (.athrow, 1) := by decide +kernel
theorem dX6_setSetting_19 : decode cX6_setSetting 19 = .ok (.iload_n 2, 1) := by decide +kernel
theorem dX6_setSetting_20 : decode cX6_setSetting 20 = .ok (.iconst 0, 1) := by decide +kernel
theorem dX6_setSetting_21 : decode cX6_setSetting 21 = .ok (.getstatic 91, 3) := by decide +kernel
theorem dX6_setSetting_24 : decode cX6_setSetting 24 = .ok (.iload_n 1, 1) := by decide +kernel
theorem dX6_setSetting_25 : decode cX6_setSetting 25 = .ok (.iaload, 1) := by decide +kernel
theorem dX6_setSetting_26 : decode cX6_setSetting 26 = .ok (.invokestatic 58, 3) := by decide +kernel
theorem dX6_setSetting_29 : decode cX6_setSetting 29 = .ok (.ifCond .ne 13, 3) := by decide +kernel
theorem dX6_setSetting_32 : decode cX6_setSetting 32 = .ok (.new 62, 3) := by decide +kernel
theorem dX6_setSetting_35 : decode cX6_setSetting 35 = .ok (.dup, 1) := by decide +kernel
theorem dX6_setSetting_36 : decode cX6_setSetting 36 = .ok (.ldc 95, 2) := by decide +kernel
theorem dX6_setSetting_38 : decode cX6_setSetting 38 = .ok (.invokespecial 66, 3) := by decide +kernel
theorem dX6_setSetting_41 : decode cX6_setSetting 41 = .ok (.athrow, 1) := by decide +kernel
theorem dX6_setSetting_42 : decode cX6_setSetting 42 = .ok (.aload_n 0, 1) := by decide +kernel
theorem dX6_setSetting_43 : decode cX6_setSetting 43 = .ok (.getfield 10, 3) := by decide +kernel
theorem dX6_setSetting_46 : decode cX6_setSetting 46 = .ok (.getfield 97, 3) := by decide +kernel
theorem dX6_setSetting_49 : decode cX6_setSetting 49 = .ok (.iload_n 1, 1) := by decide +kernel
theorem dX6_setSetting_50 : decode cX6_setSetting 50 = .ok (.iaload, 1) := by decide +kernel
theorem dX6_setSetting_51 : decode cX6_setSetting 51 = .ok (.istore_n 3, 1) := by decide +kernel
theorem dX6_setSetting_52 : decode cX6_setSetting 52 = .ok (.aload_n 0, 1) := by decide +kernel
theorem dX6_setSetting_53 : decode cX6_setSetting 53 = .ok (.getfield 10, 3) := by decide +kernel
theorem dX6_setSetting_56 : decode cX6_setSetting 56 = .ok (.getfield 97, 3) := by decide +kernel
theorem dX6_setSetting_59 : decode cX6_setSetting 59 = .ok (.iload_n 1, 1) := by decide +kernel
theorem dX6_setSetting_60 : decode cX6_setSetting 60 = .ok (.iload_n 2, 1) := by decide +kernel
theorem dX6_setSetting_61 : decode cX6_setSetting 61 = .ok (.iastore, 1) := by decide +kernel
theorem dX6_setSetting_62 : decode cX6_setSetting 62 = .ok (.iload_n 3, 1) := by decide +kernel
theorem dX6_setSetting_63 : decode cX6_setSetting 63 = .ok (.ireturn, 1) := by decide +kernel
theorem dX6_addItem_0 : decode cX6_addItem 0 = .ok (.iconst 0, 1) := by decide +kernel
theorem dX6_addItem_1 : decode cX6_addItem 1 = .ok (.iload_n 1, 1) := by decide +kernel
theorem dX6_addItem_2 : decode cX6_addItem 2 = .ok (.invokestatic 100, 3) := by decide +kernel
theorem dX6_addItem_5 : decode cX6_addItem 5 = .ok (.ifCond .eq 11, 3) := by decide +kernel
theorem dX6_addItem_8 : decode cX6_addItem 8 = .ok (.iconst 5, 1) := by decide +kernel
theorem dX6_addItem_9 : decode cX6_addItem 9 = .ok (.iload_n 2, 1) := by decide +kernel
theorem dX6_addItem_10 : decode cX6_addItem 10 = .ok (.invokestatic 100, 3) := by decide +kernel
theorem dX6_addItem_13 : decode cX6_addItem 13 = .ok (.ifCond .ne 13, 3) := by decide +kernel
theorem dX6_addItem_16 : decode cX6_addItem 16 = .ok (.new 62, 3) := by decide +kernel
theorem dX6_addItem_19 : decode cX6_addItem 19 = .ok (.dup, 1) := by decide +kernel
theorem dX6_addItem_20 : decode cX6_addItem 20 = .ok (.ldc 104, 2) := by decide +kernel
theorem dX6_addItem_22 : decode cX6_addItem 22 = .ok (.invokespecial 66, 3) := by decide +kernel
theorem dX6_addItem_25 : decode cX6_addItem 25 = .ok (.athrow, 1) := by decide +kernel
theorem dX6_addItem_26 : decode cX6_addItem 26 = .ok (.aload_n 0, 1) := by decide +kernel
theorem dX6_addItem_27 : decode cX6_addItem 27 = .ok (.invokevirtual 106, 3) := by decide +kernel
theorem dX6_addItem_30 : decode cX6_addItem 30 = .ok (.aload_n 0, 1) := by decide +kernel
theorem dX6_addItem_31 : decode cX6_addItem 31 = .ok (.getfield 10, 3) := by decide +kernel
theorem dX6_addItem_34 : decode cX6_addItem 34 = .ok (.invokevirtual 109, 3) := by decide +kernel
theorem dX6_addItem_37 : decode cX6_addItem 37 = .ok (.astore_n 3, 1) := by decide +kernel
theorem dX6_addItem_38 : decode cX6_addItem 38 = .ok (.aload_n 3, 1) := by decide +kernel
theorem dX6_addItem_39 : decode cX6_addItem 39 = .ok (.iconst 0, 1) := by decide +kernel
theorem dX6_addItem_40 : decode cX6_addItem 40 = .ok (.iload_n 1, 1) := by decide +kernel
theorem dX6_addItem_41 : decode cX6_addItem 41 = .ok (.iastore, 1) := by decide +kernel
theorem dX6_addItem_42 : decode cX6_addItem 42 = .ok (.aload_n 3, 1) := by decide +kernel
theorem dX6_addItem_43 : decode cX6_addItem 43 = .ok (.iconst 5, 1) := by decide +kernel
theorem dX6_addItem_44 : decode cX6_addItem 44 = .ok (.iload_n 2, 1) := by decide +kernel
theorem dX6_addItem_45 : decode cX6_addItem 45 = .ok (.iastore, 1) := by decide +kernel
theorem dX6_addItem_46 : decode cX6_addItem 46 = .ok (.aload_n 0, 1) := by decide +kernel
theorem dX6_addItem_47 : decode cX6_addItem 47 = .ok (.getfield 10, 3) := by decide +kernel
theorem dX6_addItem_50 : decode cX6_addItem 50 = .ok (.invokevirtual 113, 3) := by decide +kernel
theorem dX6_addItem_53 : decode cX6_addItem 53 = .ok (.ireturn, 1) := by decide +kernel
theorem dX6_removeItem_0 : decode cX6_removeItem 0 = .ok (.aload_n 0, 1) := by decide +kernel
theorem dX6_removeItem_1 : decode cX6_removeItem 1 = .ok (.iload_n 1, 1) := by decide +kernel
theorem dX6_removeItem_2 : decode cX6_removeItem 2 = .ok (.invokevirtual 117, 3) := by decide +kernel
theorem dX6_removeItem_5 : decode cX6_removeItem 5 = .ok (.aload_n 0, 1) := by decide +kernel
theorem dX6_removeItem_6 : decode cX6_removeItem 6 = .ok (.getfield 10, 3) := by decide +kernel
theorem dX6_removeItem_9 : decode cX6_removeItem 9 = .ok (.iload_n 1, 1) := by decide +kernel
theorem dX6_removeItem_10 : decode cX6_removeItem 10 = .ok (.invokevirtual 121, 3) := by decide +kernel
theorem dX6_removeItem_13 : decode cX6_removeItem 13 = .ok (.aload_n 0, 1) := by decide +kernel
theorem dX6_removeItem_14 : decode cX6_removeItem 14 = .ok (.getfield 10, 3) := by decide +kernel
theorem dX6_removeItem_17 : decode cX6_removeItem 17 = .ok (.getfield 124, 3) := by decide +kernel
theorem dX6_removeItem_20 : decode cX6_removeItem 20 = .ok (.ireturn, 1) := by decide +kernel
theorem dX6_items_0 : decode cX6_items 0 = .ok (.aload_n 0, 1) := by decide +kernel
theorem dX6_items_1 : decode cX6_items 1 = .ok (.getfield 10, 3) := by decide +kernel
theorem dX6_items_4 : decode cX6_items 4 = .ok (.getfield 124, 3) := by decide +kernel
theorem dX6_items_7 : decode cX6_items 7 = .ok (.ireturn, 1) := by decide +kernel
theorem dX6_setProperty_0 : decode cX6_setProperty 0 = .ok (.aload_n 0, 1) := by decide +kernel
theorem dX6_setProperty_1 : decode cX6_setProperty 1 = .ok (.iload_n 1, 1) := by decide +kernel
theorem dX6_setProperty_2 : decode cX6_setProperty 2 = .ok (.invokevirtual 117, 3) := by decide +kernel
theorem dX6_setProperty_5 : decode cX6_setProperty 5 = .ok (.iload_n 2, 1) := by decide +kernel
theorem dX6_setProperty_6 : decode cX6_setProperty 6 = .ok (.invokestatic 127, 3) := by decide +kernel
theorem dX6_setProperty_9 : decode cX6_setProperty 9 = .ok (.iload_n 2, 1) := by decide +kernel
theorem dX6_setProperty_10 : decode cX6_setProperty 10 = .ok (.iload_n 3, 1) := by decide +kernel
theorem dX6_setProperty_11 : decode cX6_setProperty 11 = .ok (.invokestatic 100, 3) := by decide +kernel
theorem dX6_setProperty_14 : decode cX6_setProperty 14 = .ok (.ifCond .ne 13, 3) := by decide +kernel
theorem dX6_setProperty_17 : decode cX6_setProperty 17 = .ok (.new 62, 3) := by decide +kernel
theorem dX6_setProperty_20 : decode cX6_setProperty 20 = .ok (.dup, 1) := by decide +kernel
theorem dX6_setProperty_21 : decode cX6_setProperty 21 = .ok (.ldc 130, 2) := by decide +kernel
theorem dX6_setProperty_23 : decode cX6_setProperty 23 = .ok (.invokespecial 66, 3) := by decide +kernel
theorem dX6_setProperty_26 : decode cX6_setProperty 26 = .ok (.athrow, 1) := by decide +kernel
theorem dX6_setProperty_27 : decode cX6_setProperty 27 = .ok (.aload_n 0, 1) := by decide +kernel
theorem dX6_setProperty_28 : decode cX6_setProperty 28 = .ok (.getfield 10, 3) := by decide +kernel
theorem dX6_setProperty_31 : decode cX6_setProperty 31 = .ok (.getfield 132, 3) := by decide +kernel
theorem dX6_setProperty_34 : decode cX6_setProperty 34 = .ok (.iload_n 1, 1) := by decide +kernel
theorem dX6_setProperty_35 : decode cX6_setProperty 35 = .ok (.aaload, 1) := by decide +kernel
theorem dX6_setProperty_36 : decode cX6_setProperty 36 = .ok (.iload_n 2, 1) := by decide +kernel
theorem dX6_setProperty_37 : decode cX6_setProperty 37 = .ok (.iaload, 1) := by decide +kernel
theorem dX6_setProperty_38 : decode cX6_setProperty 38 = .ok (.istore 4, 2) := by decide +kernel
theorem dX6_setProperty_40 : decode cX6_setProperty 40 = .ok (.aload_n 0, 1) := by decide +kernel
theorem dX6_setProperty_41 : decode cX6_setProperty 41 = .ok (.getfield 10, 3) := by decide +kernel
theorem dX6_setProperty_44 : decode cX6_setProperty 44 = .ok (.getfield 132, 3) := by decide +kernel
theorem dX6_setProperty_47 : decode cX6_setProperty 47 = .ok (.iload_n 1, 1) := by decide +kernel
theorem dX6_setProperty_48 : decode cX6_setProperty 48 = .ok (.aaload, 1) := by decide +kernel
theorem dX6_setProperty_49 : decode cX6_setProperty 49 = .ok (.iload_n 2, 1) := by decide +kernel
theorem dX6_setProperty_50 : decode cX6_setProperty 50 = .ok (.iload_n 3, 1) := by decide +kernel
theorem dX6_setProperty_51 : decode cX6_setProperty 51 = .ok (.iastore, 1) := by decide +kernel
theorem dX6_setProperty_52 : decode cX6_setProperty 52 = .ok (.iload 4, 2) := by decide +kernel
theorem dX6_setProperty_54 : decode cX6_setProperty 54 = .ok (.ireturn, 1) := by decide +kernel
theorem dX6_property_0 : decode cX6_property 0 = .ok (.aload_n 0, 1) := by decide +kernel
theorem dX6_property_1 : decode cX6_property 1 = .ok (.iload_n 1, 1) := by decide +kernel
theorem dX6_property_2 : decode cX6_property 2 = .ok (.invokevirtual 117, 3) := by decide +kernel
theorem dX6_property_5 : decode cX6_property 5 = .ok (.iload_n 2, 1) := by decide +kernel
theorem dX6_property_6 : decode cX6_property 6 = .ok (.invokestatic 127, 3) := by decide +kernel
theorem dX6_property_9 : decode cX6_property 9 = .ok (.aload_n 0, 1) := by decide +kernel
theorem dX6_property_10 : decode cX6_property 10 = .ok (.getfield 10, 3) := by decide +kernel
theorem dX6_property_13 : decode cX6_property 13 = .ok (.getfield 132, 3) := by decide +kernel
theorem dX6_property_16 : decode cX6_property 16 = .ok (.iload_n 1, 1) := by decide +kernel
theorem dX6_property_17 : decode cX6_property 17 = .ok (.aaload, 1) := by decide +kernel
theorem dX6_property_18 : decode cX6_property 18 = .ok (.iload_n 2, 1) := by decide +kernel
theorem dX6_property_19 : decode cX6_property 19 = .ok (.iaload, 1) := by decide +kernel
theorem dX6_property_20 : decode cX6_property 20 = .ok (.ireturn, 1) := by decide +kernel
theorem dX6_feed_0 : decode cX6_feed 0 = .ok (.aload_n 0, 1) := by decide +kernel
theorem dX6_feed_1 : decode cX6_feed 1 = .ok (.getfield 26, 3) := by decide +kernel
theorem dX6_feed_4 : decode cX6_feed 4 = .ok (.getfield 136, 3) := by decide +kernel
theorem dX6_feed_7 : decode cX6_feed 7 = .ok (.bipush 80, 2) := by decide +kernel
theorem dX6_feed_9 : decode cX6_feed 9 = .ok (.if_icmp .lt 13, 3) := by decide +kernel
theorem dX6_feed_12 : decode cX6_feed 12 = .ok (.new 139, 3) := by decide +kernel
theorem dX6_feed_15 : decode cX6_feed 15 = .ok (.dup, 1) := by decide +kernel
theorem dX6_feed_16 : decode cX6_feed 16 = .ok (.ldc 141, 2) := by decide +kernel
theorem dX6_feed_18 : decode cX6_feed 18 = .ok (.invokespecial 143, 3) := by decide +kernel
theorem dX6_feed_21 : decode cX6_feed 21 = .ok (.athrow, 1) := by decide +kernel
theorem dX6_feed_22 : decode cX6_feed 22 = .ok (.aload_n 0, 1) := by decide +kernel
theorem dX6_feed_23 : decode cX6_feed 23 = .ok (.getfield 26, 3) := by decide +kernel
theorem dX6_feed_26 : decode cX6_feed 26 = .ok (.getfield 144, 3) := by decide +kernel
theorem dX6_feed_29 : decode cX6_feed 29 = .ok (.aload_n 0, 1) := by decide +kernel
theorem dX6_feed_30 : decode cX6_feed 30 = .ok (.getfield 26, 3) := by decide +kernel
theorem dX6_feed_33 : decode cX6_feed 33 = .ok (.getfield 136, 3) := by decide +kernel
theorem dX6_feed_36 : decode cX6_feed 36 = .ok (.iload_n 1, 1) := by decide +kernel
theorem dX6_feed_37 : decode cX6_feed 37 = .ok (.castore, 1) := by decide +kernel
theorem dX6_feed_38 : decode cX6_feed 38 = .ok (.aload_n 0, 1) := by decide +kernel
theorem dX6_feed_39 : decode cX6_feed 39 = .ok (.getfield 26, 3) := by decide +kernel
theorem dX6_feed_42 : decode cX6_feed 42 = .ok (.dup, 1) := by decide +kernel
theorem dX6_feed_43 : decode cX6_feed 43 = .ok (.getfield 136, 3) := by decide +kernel
theorem dX6_feed_46 : decode cX6_feed 46 = .ok (.iconst 1, 1) := by decide +kernel
theorem dX6_feed_47 : decode cX6_feed 47 = .ok (.iadd, 1) := by decide +kernel
theorem dX6_feed_48 : decode cX6_feed 48 = .ok (.putfield 136, 3) := by decide +kernel
theorem dX6_feed_51 : decode cX6_feed 51 = .ok (.aload_n 0, 1) := by decide +kernel
theorem dX6_feed_52 : decode cX6_feed 52 = .ok (.getfield 26, 3) := by decide +kernel
theorem dX6_feed_55 : decode cX6_feed 55 = .ok (.getfield 136, 3) := by decide +kernel
theorem dX6_feed_58 : decode cX6_feed 58 = .ok (.ireturn, 1) := by decide +kernel
theorem dX6_readItem_0 : decode cX6_readItem 0 = .ok (.aload_n 0, 1) := by decide +kernel
theorem dX6_readItem_1 : decode cX6_readItem 1 = .ok (.invokevirtual 106, 3) := by decide +kernel
theorem dX6_readItem_4 : decode cX6_readItem 4 = .ok (.aload_n 0, 1) := by decide +kernel
theorem dX6_readItem_5 : decode cX6_readItem 5 = .ok (.getfield 26, 3) := by decide +kernel
theorem dX6_readItem_8 : decode cX6_readItem 8 = .ok (.invokevirtual 148, 3) := by decide +kernel
theorem dX6_readItem_11 : decode cX6_readItem 11 = .ok (.istore_n 1, 1) := by decide +kernel
theorem dX6_readItem_12 : decode cX6_readItem 12 = .ok (.iload_n 1, 1) := by decide +kernel
theorem dX6_readItem_13 : decode cX6_readItem 13 = .ok (.iconst (-1), 1) := by decide +kernel
theorem dX6_readItem_14 : decode cX6_readItem 14 = .ok (.if_icmp .ne 18, 3) := by decide +kernel
theorem dX6_readItem_17 : decode cX6_readItem 17 = .ok (.aload_n 0, 1) := by decide +kernel
theorem dX6_readItem_18 : decode cX6_readItem 18 = .ok (.getfield 26, 3) := by decide +kernel
theorem dX6_readItem_21 : decode cX6_readItem 21 = .ok (.aload_n 0, 1) := by decide +kernel
theorem dX6_readItem_22 : decode cX6_readItem 22 = .ok (.getfield 10, 3) := by decide +kernel
theorem dX6_readItem_25 : decode cX6_readItem 25 = .ok (.invokevirtual 109, 3) := by decide +kernel
theorem dX6_readItem_28 : decode cX6_readItem 28 = .ok (.invokevirtual 151, 3) := by decide +kernel
theorem dX6_readItem_31 : decode cX6_readItem 31 = .ok (.istore_n 1, 1) := by decide +kernel
theorem dX6_readItem_32 : decode cX6_readItem 32 = .ok (.aload_n 0, 1) := by decide +kernel
theorem dX6_readItem_33 : decode cX6_readItem 33 = .ok (.getfield 26, 3) := by decide +kernel
theorem dX6_readItem_36 : decode cX6_readItem 36 = .ok (.iconst 0, 1) := by decide +kernel
theorem dX6_readItem_37 : decode cX6_readItem 37 = .ok (.putfield 136, 3) := by decide +kernel
theorem dX6_readItem_40 : decode cX6_readItem 40 = .ok (.iload_n 1, 1) := by decide +kernel
theorem dX6_readItem_41 : decode cX6_readItem 41 = .ok (.iconst (-1), 1) := by decide +kernel
theorem dX6_readItem_42 : decode cX6_readItem 42 = .ok (.if_icmp .ne 13, 3) := by decide +kernel
theorem dX6_readItem_45 : decode cX6_readItem 45 = .ok (.aload_n 0, 1) := by decide +kernel
theorem dX6_readItem_46 : decode cX6_readItem 46 = .ok (.getfield 10, 3) := by decide +kernel
theorem dX6_readItem_49 : decode cX6_readItem 49 = .ok (.invokevirtual 113, 3) := by decide +kernel
theorem dX6_readItem_52 : decode cX6_readItem 52 = .ok (.goto 7, 3) := by decide +kernel
theorem dX6_readItem_55 : decode cX6_readItem 55 = .ok (.bipush (-100), 2) := by decide +kernel
theorem dX6_readItem_57 : decode cX6_readItem 57 = .ok (.iload_n 1, 1) := by decide +kernel
theorem dX6_readItem_58 : decode cX6_readItem 58 = .ok (.isub, 1) := by decide +kernel
theorem dX6_readItem_59 : decode cX6_readItem 59 = .ok (.ireturn, 1) := by decide +kernel
theorem dX6_lines_0 : decode cX6_lines 0 = .ok (.aload_n 0, 1) := by decide +kernel
theorem dX6_lines_1 : decode cX6_lines 1 = .ok (.getfield 40, 3) := by decide +kernel
theorem dX6_lines_4 : decode cX6_lines 4 = .ok (.aload_n 0, 1) := by decide +kernel
theorem dX6_lines_5 : decode cX6_lines 5 = .ok (.getfield 10, 3) := by decide +kernel
theorem dX6_lines_8 : decode cX6_lines 8 = .ok (.invokevirtual 155, 3) := by decide +kernel
theorem dX6_lines_11 : decode cX6_lines 11 = .ok (.aload_n 0, 1) := by decide +kernel
theorem dX6_lines_12 : decode cX6_lines 12 = .ok (.getfield 40, 3) := by decide +kernel
theorem dX6_lines_15 : decode cX6_lines 15 = .ok (.getfield 159, 3) := by decide +kernel
theorem dX6_lines_18 : decode cX6_lines 18 = .ok (.ireturn, 1) := by decide +kernel
theorem dX6_lineOf_0 : decode cX6_lineOf 0 = .ok (.aload_n 0, 1) := by decide +kernel
theorem dX6_lineOf_1 : decode cX6_lineOf 1 = .ok (.iload_n 1, 1) := by decide +kernel
theorem dX6_lineOf_2 : decode cX6_lineOf 2 = .ok (.invokevirtual 117, 3) := by decide +kernel
theorem dX6_lineOf_5 : decode cX6_lineOf 5 = .ok (.aload_n 0, 1) := by decide +kernel
theorem dX6_lineOf_6 : decode cX6_lineOf 6 = .ok (.getfield 40, 3) := by decide +kernel
theorem dX6_lineOf_9 : decode cX6_lineOf 9 = .ok (.aload_n 0, 1) := by decide +kernel
theorem dX6_lineOf_10 : decode cX6_lineOf 10 = .ok (.getfield 10, 3) := by decide +kernel
theorem dX6_lineOf_13 : decode cX6_lineOf 13 = .ok (.invokevirtual 155, 3) := by decide +kernel
theorem dX6_lineOf_16 : decode cX6_lineOf 16 = .ok (.aload_n 0, 1) := by decide +kernel
theorem dX6_lineOf_17 : decode cX6_lineOf 17 = .ok (.getfield 40, 3) := by decide +kernel
theorem dX6_lineOf_20 : decode cX6_lineOf 20 = .ok (.iload_n 1, 1) := by decide +kernel
theorem dX6_lineOf_21 : decode cX6_lineOf 21 = .ok (.invokevirtual 162, 3) := by decide +kernel
theorem dX6_lineOf_24 : decode cX6_lineOf 24 = .ok (.ireturn, 1) := by decide +kernel
theorem dX6_itemAt_0 : decode cX6_itemAt 0 = .ok (.iload_n 1, 1) := by decide +kernel
theorem dX6_itemAt_1 : decode cX6_itemAt 1 = .ok (.iconst 0, 1) := by decide +kernel
theorem dX6_itemAt_2 : decode cX6_itemAt 2 = .ok (.aload_n 0, 1) := by decide +kernel
theorem dX6_itemAt_3 : decode cX6_itemAt 3 = .ok (.getfield 10, 3) := by decide +kernel
theorem dX6_itemAt_6 : decode cX6_itemAt 6 = .ok (.getfield 124, 3) := by decide +kernel
theorem dX6_itemAt_9 : decode cX6_itemAt 9 = .ok (.iconst 1, 1) := by decide +kernel
theorem dX6_itemAt_10 : decode cX6_itemAt 10 = .ok (.isub, 1) := by decide +kernel
theorem dX6_itemAt_11 : decode cX6_itemAt 11 = .ok (.invokestatic 58, 3) := by decide +kernel
theorem dX6_itemAt_14 : decode cX6_itemAt 14 = .ok (.ifCond .ne 13, 3) := by decide +kernel
theorem dX6_itemAt_17 : decode cX6_itemAt 17 = .ok (.new 86, 3) := by decide +kernel
theorem dX6_itemAt_20 : decode cX6_itemAt 20 = .ok (.dup, 1) := by decide +kernel
theorem dX6_itemAt_21 : decode cX6_itemAt 21 = .ok (.ldc 166, 2) := by decide +kernel
theorem dX6_itemAt_23 : decode cX6_itemAt 23 = .ok (.invokespecial 90, 3) := by decide +kernel
theorem dX6_itemAt_26 : decode cX6_itemAt 26 = .ok (.athrow, 1) := by decide +kernel
theorem dX6_itemAt_27 : decode cX6_itemAt 27 = .ok (.aload_n 0, 1) := by decide +kernel
theorem dX6_itemAt_28 : decode cX6_itemAt 28 = .ok (.getfield 40, 3) := by decide +kernel
theorem dX6_itemAt_31 : decode cX6_itemAt 31 = .ok (.aload_n 0, 1) := by decide +kernel
theorem dX6_itemAt_32 : decode cX6_itemAt 32 = .ok (.getfield 10, 3) := by decide +kernel
theorem dX6_itemAt_35 : decode cX6_itemAt 35 = .ok (.invokevirtual 168, 3) := by decide +kernel
theorem dX6_itemAt_38 : decode cX6_itemAt 38 = .ok (.aload_n 0, 1) := by decide +kernel
theorem dX6_itemAt_39 : decode cX6_itemAt 39 = .ok (.getfield 40, 3) := by decide +kernel
theorem dX6_itemAt_42 : decode cX6_itemAt 42 = .ok (.getfield 171, 3) := by decide +kernel
theorem dX6_itemAt_45 : decode cX6_itemAt 45 = .ok (.iload_n 1, 1) := by decide +kernel
theorem dX6_itemAt_46 : decode cX6_itemAt 46 = .ok (.iaload, 1) := by decide +kernel
theorem dX6_itemAt_47 : decode cX6_itemAt 47 = .ok (.ireturn, 1) := by decide +kernel
theorem dX6_hypotheticalSize_0 : decode cX6_hypotheticalSize 0 = .ok (.aload_n 0, 1) := by decide +kernel
theorem dX6_hypotheticalSize_1 : decode cX6_hypotheticalSize 1 = .ok (.iload_n 1, 1) := by decide +kernel
theorem dX6_hypotheticalSize_2 : decode cX6_hypotheticalSize 2 = .ok (.invokevirtual 117, 3) := by decide +kernel
theorem dX6_hypotheticalSize_5 : decode cX6_hypotheticalSize 5 = .ok (.aload_n 0, 1) := by decide +kernel
theorem dX6_hypotheticalSize_6 : decode cX6_hypotheticalSize 6 = .ok (.getfield 10, 3) := by decide +kernel
theorem dX6_hypotheticalSize_9 : decode cX6_hypotheticalSize 9 = .ok (.iload_n 1, 1) := by decide +kernel
theorem dX6_hypotheticalSize_10 : decode cX6_hypotheticalSize 10 = .ok (.invokevirtual 174, 3) := by decide +kernel
theorem dX6_hypotheticalSize_13 : decode cX6_hypotheticalSize 13 = .ok (.ireturn, 1) := by decide +kernel
theorem dX6_box_0 : decode cX6_box 0 = .ok (.aload_n 0, 1) := by decide +kernel
theorem dX6_box_1 : decode cX6_box 1 = .ok (.iload_n 1, 1) := by decide +kernel
theorem dX6_box_2 : decode cX6_box 2 = .ok (.invokevirtual 117, 3) := by decide +kernel
theorem dX6_box_5 : decode cX6_box 5 = .ok (.iload_n 2, 1) := by decide +kernel
theorem dX6_box_6 : decode cX6_box 6 = .ok (.iconst 0, 1) := by decide +kernel
theorem dX6_box_7 : decode cX6_box 7 = .ok (.iconst 3, 1) := by decide +kernel
theorem dX6_box_8 : decode cX6_box 8 = .ok (.invokestatic 58, 3) := by decide +kernel
theorem dX6_box_11 : decode cX6_box 11 = .ok (.ifCond .ne 13, 3) := by decide +kernel
theorem dX6_box_14 : decode cX6_box 14 = .ok (.new 86, 3) := by decide +kernel
theorem dX6_box_17 : decode cX6_box 17 = .ok (.dup, 1) := by decide +kernel
theorem dX6_box_18 : decode cX6_box 18 = .ok (.ldc 177, 2) := by decide +kernel
theorem dX6_box_20 : decode cX6_box 20 = .ok (.invokespecial 90, 3) := by decide +kernel
theorem dX6_box_23 : decode cX6_box 23 = .ok (.athrow, 1) := by decide +kernel
theorem dX6_box_24 : decode cX6_box 24 = .ok (.aload_n 0, 1) := by decide +kernel
theorem dX6_box_25 : decode cX6_box 25 = .ok (.invokevirtual 179, 3) := by decide +kernel
theorem dX6_box_28 : decode cX6_box 28 = .ok (.iload_n 2, 1) := by decide +kernel
theorem dX6_box_29 : decode cX6_box 29 = .ok (.ifCond .eq 8, 3) := by decide +kernel
theorem dX6_box_32 : decode cX6_box 32 = .ok (.iload_n 2, 1) := by decide +kernel
theorem dX6_box_33 : decode cX6_box 33 = .ok (.iconst 2, 1) := by decide +kernel
theorem dX6_box_34 : decode cX6_box 34 = .ok (.if_icmp .ne 7, 3) := by decide +kernel
theorem dX6_box_37 : decode cX6_box 37 = .ok (.iconst 1, 1) := by decide +kernel
theorem dX6_box_38 : decode cX6_box 38 = .ok (.goto 4, 3) := by decide +kernel
theorem dX6_box_41 : decode cX6_box 41 = .ok (.iconst 0, 1) := by decide +kernel
theorem dX6_box_42 : decode cX6_box 42 = .ok (.istore_n 3, 1) := by decide +kernel
theorem dX6_box_43 : decode cX6_box 43 = .ok (.iload_n 3, 1) := by decide +kernel
theorem dX6_box_44 : decode cX6_box 44 = .ok (.aload_n 0, 1) := by decide +kernel
theorem dX6_box_45 : decode cX6_box 45 = .ok (.getfield 10, 3) := by decide +kernel
theorem dX6_box_48 : decode cX6_box 48 = .ok (.invokevirtual 182, 3) := by decide +kernel
theorem dX6_box_51 : decode cX6_box 51 = .ok (.if_icmp .ne 7, 3) := by decide +kernel
theorem dX6_box_54 : decode cX6_box 54 = .ok (.iconst 1, 1) := by decide +kernel
theorem dX6_box_55 : decode cX6_box 55 = .ok (.goto 4, 3) := by decide +kernel
theorem dX6_box_58 : decode cX6_box 58 = .ok (.iconst 0, 1) := by decide +kernel
theorem dX6_box_59 : decode cX6_box 59 = .ok (.istore 4, 2) := by decide +kernel
theorem dX6_box_61 : decode cX6_box 61 = .ok (.iload_n 2, 1) := by decide +kernel
theorem dX6_box_62 : decode cX6_box 62 = .ok (.iconst 2, 1) := by decide +kernel
theorem dX6_box_63 : decode cX6_box 63 = .ok (.if_icmp .ge 30, 3) := by decide +kernel
theorem dX6_box_66 : decode cX6_box 66 = .ok (.iload 4, 2) := by decide +kernel
theorem dX6_box_68 : decode cX6_box 68 = .ok (.ifCond .eq 15, 3) := by decide +kernel
theorem dX6_box_71 : decode cX6_box 71 = .ok (.aload_n 0, 1) := by decide +kernel
theorem dX6_box_72 : decode cX6_box 72 = .ok (.getfield 47, 3) := by decide +kernel
theorem dX6_box_75 : decode cX6_box 75 = .ok (.getfield 186, 3) := by decide +kernel
theorem dX6_box_78 : decode cX6_box 78 = .ok (.iload_n 1, 1) := by decide +kernel
theorem dX6_box_79 : decode cX6_box 79 = .ok (.iaload, 1) := by decide +kernel
theorem dX6_box_80 : decode cX6_box 80 = .ok (.goto 12, 3) := by decide +kernel
theorem dX6_box_83 : decode cX6_box 83 = .ok (.aload_n 0, 1) := by decide +kernel
theorem dX6_box_84 : decode cX6_box 84 = .ok (.getfield 54, 3) := by decide +kernel
theorem dX6_box_87 : decode cX6_box 87 = .ok (.getfield 189, 3) := by decide +kernel
theorem dX6_box_90 : decode cX6_box 90 = .ok (.iload_n 1, 1) := by decide +kernel
theorem dX6_box_91 : decode cX6_box 91 = .ok (.iaload, 1) := by decide +kernel
theorem dX6_box_92 : decode cX6_box 92 = .ok (.ireturn, 1) := by decide +kernel
theorem dX6_box_93 : decode cX6_box 93 = .ok (.iload 4, 2) := by decide +kernel
theorem dX6_box_95 : decode cX6_box 95 = .ok (.ifCond .eq 15, 3) := by decide +kernel
theorem dX6_box_98 : decode cX6_box 98 = .ok (.aload_n 0, 1) := by decide +kernel
theorem dX6_box_99 : decode cX6_box 99 = .ok (.getfield 47, 3) := by decide +kernel
theorem dX6_box_102 : decode cX6_box 102 = .ok (.getfield 190, 3) := by decide +kernel
theorem dX6_box_105 : decode cX6_box 105 = .ok (.iload_n 1, 1) := by decide +kernel
theorem dX6_box_106 : decode cX6_box 106 = .ok (.iaload, 1) := by decide +kernel
theorem dX6_box_107 : decode cX6_box 107 = .ok (.goto 12, 3) := by decide +kernel
theorem dX6_box_110 : decode cX6_box 110 = .ok (.aload_n 0, 1) := by decide +kernel
theorem dX6_box_111 : decode cX6_box 111 = .ok (.getfield 54, 3) := by decide +kernel
theorem dX6_box_114 : decode cX6_box 114 = .ok (.getfield 193, 3) := by decide +kernel
theorem dX6_box_117 : decode cX6_box 117 = .ok (.iload_n 1, 1) := by decide +kernel
theorem dX6_box_118 : decode cX6_box 118 = .ok (.iaload, 1) := by decide +kernel
theorem dX6_box_119 : decode cX6_box 119 = .ok (.ireturn, 1) := by decide +kernel
theorem dX6_rounds_0 : decode cX6_rounds 0 = .ok (.aload_n 0, 1) := by decide +kernel
theorem dX6_rounds_1 : decode cX6_rounds 1 = .ok (.getfield 40, 3) := by decide +kernel
theorem dX6_rounds_4 : decode cX6_rounds 4 = .ok (.aload_n 0, 1) := by decide +kernel
theorem dX6_rounds_5 : decode cX6_rounds 5 = .ok (.getfield 10, 3) := by decide +kernel
theorem dX6_rounds_8 : decode cX6_rounds 8 = .ok (.invokevirtual 155, 3) := by decide +kernel
theorem dX6_rounds_11 : decode cX6_rounds 11 = .ok (.aload_n 0, 1) := by decide +kernel
theorem dX6_rounds_12 : decode cX6_rounds 12 = .ok (.iload_n 1, 1) := by decide +kernel
theorem dX6_rounds_13 : decode cX6_rounds 13 = .ok (.invokevirtual 194, 3) := by decide +kernel
theorem dX6_rounds_16 : decode cX6_rounds 16 = .ok (.aload_n 0, 1) := by decide +kernel
theorem dX6_rounds_17 : decode cX6_rounds 17 = .ok (.getfield 47, 3) := by decide +kernel
theorem dX6_rounds_20 : decode cX6_rounds 20 = .ok (.aload_n 0, 1) := by decide +kernel
theorem dX6_rounds_21 : decode cX6_rounds 21 = .ok (.getfield 10, 3) := by decide +kernel
theorem dX6_rounds_24 : decode cX6_rounds 24 = .ok (.aload_n 0, 1) := by decide +kernel
theorem dX6_rounds_25 : decode cX6_rounds 25 = .ok (.getfield 40, 3) := by decide +kernel
theorem dX6_rounds_28 : decode cX6_rounds 28 = .ok (.aload_n 0, 1) := by decide +kernel
theorem dX6_rounds_29 : decode cX6_rounds 29 = .ok (.getfield 33, 3) := by decide +kernel
theorem dX6_rounds_32 : decode cX6_rounds 32 = .ok (.invokevirtual 197, 3) := by decide +kernel
theorem dX6_rounds_35 : decode cX6_rounds 35 = .ok (.aload_n 0, 1) := by decide +kernel
theorem dX6_rounds_36 : decode cX6_rounds 36 = .ok (.getfield 47, 3) := by decide +kernel
theorem dX6_rounds_39 : decode cX6_rounds 39 = .ok (.getfield 200, 3) := by decide +kernel
theorem dX6_rounds_42 : decode cX6_rounds 42 = .ok (.iload_n 1, 1) := by decide +kernel
theorem dX6_rounds_43 : decode cX6_rounds 43 = .ok (.iaload, 1) := by decide +kernel
theorem dX6_rounds_44 : decode cX6_rounds 44 = .ok (.ireturn, 1) := by decide +kernel
theorem dX6_freeSpace_0 : decode cX6_freeSpace 0 = .ok (.aload_n 0, 1) := by decide +kernel
theorem dX6_freeSpace_1 : decode cX6_freeSpace 1 = .ok (.getfield 40, 3) := by decide +kernel
theorem dX6_freeSpace_4 : decode cX6_freeSpace 4 = .ok (.aload_n 0, 1) := by decide +kernel
theorem dX6_freeSpace_5 : decode cX6_freeSpace 5 = .ok (.getfield 10, 3) := by decide +kernel
theorem dX6_freeSpace_8 : decode cX6_freeSpace 8 = .ok (.invokevirtual 155, 3) := by decide +kernel
theorem dX6_freeSpace_11 : decode cX6_freeSpace 11 = .ok (.aload_n 0, 1) := by decide +kernel
theorem dX6_freeSpace_12 : decode cX6_freeSpace 12 = .ok (.iload_n 1, 1) := by decide +kernel
theorem dX6_freeSpace_13 : decode cX6_freeSpace 13 = .ok (.invokevirtual 194, 3) := by decide +kernel
theorem dX6_freeSpace_16 : decode cX6_freeSpace 16 = .ok (.aload_n 0, 1) := by decide +kernel
theorem dX6_freeSpace_17 : decode cX6_freeSpace 17 = .ok (.getfield 47, 3) := by decide +kernel
theorem dX6_freeSpace_20 : decode cX6_freeSpace 20 = .ok (.aload_n 0, 1) := by decide +kernel
theorem dX6_freeSpace_21 : decode cX6_freeSpace 21 = .ok (.getfield 10, 3) := by decide +kernel
theorem dX6_freeSpace_24 : decode cX6_freeSpace 24 = .ok (.aload_n 0, 1) := by decide +kernel
theorem dX6_freeSpace_25 : decode cX6_freeSpace 25 = .ok (.getfield 40, 3) := by decide +kernel
theorem dX6_freeSpace_28 : decode cX6_freeSpace 28 = .ok (.aload_n 0, 1) := by decide +kernel
theorem dX6_freeSpace_29 : decode cX6_freeSpace 29 = .ok (.getfield 33, 3) := by decide +kernel
theorem dX6_freeSpace_32 : decode cX6_freeSpace 32 = .ok (.invokevirtual 197, 3) := by decide +kernel
theorem dX6_freeSpace_35 : decode cX6_freeSpace 35 = .ok (.aload_n 0, 1) := by decide +kernel
theorem dX6_freeSpace_36 : decode cX6_freeSpace 36 = .ok (.getfield 47, 3) := by decide +kernel
theorem dX6_freeSpace_39 : decode cX6_freeSpace 39 = .ok (.getfield 203, 3) := by decide +kernel
theorem dX6_freeSpace_42 : decode cX6_freeSpace 42 = .ok (.iload_n 1, 1) := by decide +kernel
theorem dX6_freeSpace_43 : decode cX6_freeSpace 43 = .ok (.iaload, 1) := by decide +kernel
theorem dX6_freeSpace_44 : decode cX6_freeSpace 44 = .ok (.ireturn, 1) := by decide +kernel
theorem dX6_lineCross_0 : decode cX6_lineCross 0 = .ok (.aload_n 0, 1) := by decide +kernel
theorem dX6_lineCross_1 : decode cX6_lineCross 1 = .ok (.getfield 40, 3) := by decide +kernel
theorem dX6_lineCross_4 : decode cX6_lineCross 4 = .ok (.aload_n 0, 1) := by decide +kernel
theorem dX6_lineCross_5 : decode cX6_lineCross 5 = .ok (.getfield 10, 3) := by decide +kernel
theorem dX6_lineCross_8 : decode cX6_lineCross 8 = .ok (.invokevirtual 155, 3) := by decide +kernel
theorem dX6_lineCross_11 : decode cX6_lineCross 11 = .ok (.aload_n 0, 1) := by decide +kernel
theorem dX6_lineCross_12 : decode cX6_lineCross 12 = .ok (.iload_n 1, 1) := by decide +kernel
theorem dX6_lineCross_13 : decode cX6_lineCross 13 = .ok (.invokevirtual 194, 3) := by decide +kernel
theorem dX6_lineCross_16 : decode cX6_lineCross 16 = .ok (.aload_n 0, 1) := by decide +kernel
theorem dX6_lineCross_17 : decode cX6_lineCross 17 = .ok (.getfield 54, 3) := by decide +kernel
theorem dX6_lineCross_20 : decode cX6_lineCross 20 = .ok (.aload_n 0, 1) := by decide +kernel
theorem dX6_lineCross_21 : decode cX6_lineCross 21 = .ok (.getfield 10, 3) := by decide +kernel
theorem dX6_lineCross_24 : decode cX6_lineCross 24 = .ok (.aload_n 0, 1) := by decide +kernel
theorem dX6_lineCross_25 : decode cX6_lineCross 25 = .ok (.getfield 40, 3) := by decide +kernel
theorem dX6_lineCross_28 : decode cX6_lineCross 28 = .ok (.aload_n 0, 1) := by decide +kernel
theorem dX6_lineCross_29 : decode cX6_lineCross 29 = .ok (.getfield 33, 3) := by decide +kernel
theorem dX6_lineCross_32 : decode cX6_lineCross 32 = .ok (.invokevirtual 206, 3) := by decide +kernel
theorem dX6_lineCross_35 : decode cX6_lineCross 35 = .ok (.aload_n 0, 1) := by decide +kernel
theorem dX6_lineCross_36 : decode cX6_lineCross 36 = .ok (.getfield 54, 3) := by decide +kernel
theorem dX6_lineCross_39 : decode cX6_lineCross 39 = .ok (.getfield 207, 3) := by decide +kernel
theorem dX6_lineCross_42 : decode cX6_lineCross 42 = .ok (.iload_n 1, 1) := by decide +kernel
theorem dX6_lineCross_43 : decode cX6_lineCross 43 = .ok (.iaload, 1) := by decide +kernel
theorem dX6_lineCross_44 : decode cX6_lineCross 44 = .ok (.ireturn, 1) := by decide +kernel
theorem dX6_lineAscent_0 : decode cX6_lineAscent 0 = .ok (.aload_n 0, 1) := by decide +kernel
theorem dX6_lineAscent_1 : decode cX6_lineAscent 1 = .ok (.getfield 40, 3) := by decide +kernel
theorem dX6_lineAscent_4 : decode cX6_lineAscent 4 = .ok (.aload_n 0, 1) := by decide +kernel
theorem dX6_lineAscent_5 : decode cX6_lineAscent 5 = .ok (.getfield 10, 3) := by decide +kernel
theorem dX6_lineAscent_8 : decode cX6_lineAscent 8 = .ok (.invokevirtual 155, 3) := by decide +kernel
theorem dX6_lineAscent_11 : decode cX6_lineAscent 11 = .ok (.aload_n 0, 1) := by decide +kernel
theorem dX6_lineAscent_12 : decode cX6_lineAscent 12 = .ok (.iload_n 1, 1) := by decide +kernel
theorem dX6_lineAscent_13 : decode cX6_lineAscent 13 = .ok (.invokevirtual 194, 3) := by decide +kernel
theorem dX6_lineAscent_16 : decode cX6_lineAscent 16 = .ok (.aload_n 0, 1) := by decide +kernel
theorem dX6_lineAscent_17 : decode cX6_lineAscent 17 = .ok (.getfield 54, 3) := by decide +kernel
theorem dX6_lineAscent_20 : decode cX6_lineAscent 20 = .ok (.aload_n 0, 1) := by decide +kernel
theorem dX6_lineAscent_21 : decode cX6_lineAscent 21 = .ok (.getfield 10, 3) := by decide +kernel
theorem dX6_lineAscent_24 : decode cX6_lineAscent 24 = .ok (.aload_n 0, 1) := by decide +kernel
theorem dX6_lineAscent_25 : decode cX6_lineAscent 25 = .ok (.getfield 40, 3) := by decide +kernel
theorem dX6_lineAscent_28 : decode cX6_lineAscent 28 = .ok (.aload_n 0, 1) := by decide +kernel
theorem dX6_lineAscent_29 : decode cX6_lineAscent 29 = .ok (.getfield 33, 3) := by decide +kernel
theorem dX6_lineAscent_32 : decode cX6_lineAscent 32 = .ok (.invokevirtual 206, 3) := by decide +kernel
theorem dX6_lineAscent_35 : decode cX6_lineAscent 35 = .ok (.aload_n 0, 1) := by decide +kernel
theorem dX6_lineAscent_36 : decode cX6_lineAscent 36 = .ok (.getfield 54, 3) := by decide +kernel
theorem dX6_lineAscent_39 : decode cX6_lineAscent 39 = .ok (.getfield 210, 3) := by decide +kernel
theorem dX6_lineAscent_42 : decode cX6_lineAscent 42 = .ok (.iload_n 1, 1) := by decide +kernel
theorem dX6_lineAscent_43 : decode cX6_lineAscent 43 = .ok (.iaload, 1) := by decide +kernel
theorem dX6_lineAscent_44 : decode cX6_lineAscent 44 = .ok (.ireturn, 1) := by decide +kernel
theorem dX6_crossExtent_0 : decode cX6_crossExtent 0 = .ok (.aload_n 0, 1) := by decide +kernel
theorem dX6_crossExtent_1 : decode cX6_crossExtent 1 = .ok (.getfield 40, 3) := by decide +kernel
theorem dX6_crossExtent_4 : decode cX6_crossExtent 4 = .ok (.aload_n 0, 1) := by decide +kernel
theorem dX6_crossExtent_5 : decode cX6_crossExtent 5 = .ok (.getfield 10, 3) := by decide +kernel
theorem dX6_crossExtent_8 : decode cX6_crossExtent 8 = .ok (.invokevirtual 155, 3) := by decide +kernel
theorem dX6_crossExtent_11 : decode cX6_crossExtent 11 = .ok (.aload_n 0, 1) := by decide +kernel
theorem dX6_crossExtent_12 : decode cX6_crossExtent 12 = .ok (.getfield 54, 3) := by decide +kernel
theorem dX6_crossExtent_15 : decode cX6_crossExtent 15 = .ok (.aload_n 0, 1) := by decide +kernel
theorem dX6_crossExtent_16 : decode cX6_crossExtent 16 = .ok (.getfield 10, 3) := by decide +kernel
theorem dX6_crossExtent_19 : decode cX6_crossExtent 19 = .ok (.aload_n 0, 1) := by decide +kernel
theorem dX6_crossExtent_20 : decode cX6_crossExtent 20 = .ok (.getfield 40, 3) := by decide +kernel
theorem dX6_crossExtent_23 : decode cX6_crossExtent 23 = .ok (.aload_n 0, 1) := by decide +kernel
theorem dX6_crossExtent_24 : decode cX6_crossExtent 24 = .ok (.getfield 33, 3) := by decide +kernel
theorem dX6_crossExtent_27 : decode cX6_crossExtent 27 = .ok (.invokevirtual 206, 3) := by decide +kernel
theorem dX6_crossExtent_30 : decode cX6_crossExtent 30 = .ok (.aload_n 0, 1) := by decide +kernel
theorem dX6_crossExtent_31 : decode cX6_crossExtent 31 = .ok (.getfield 54, 3) := by decide +kernel
theorem dX6_crossExtent_34 : decode cX6_crossExtent 34 = .ok (.getfield 213, 3) := by decide +kernel
theorem dX6_crossExtent_37 : decode cX6_crossExtent 37 = .ok (.ireturn, 1) := by decide +kernel
theorem dX6_overflows_0 : decode cX6_overflows 0 = .ok (.aload_n 0, 1) := by decide +kernel
theorem dX6_overflows_1 : decode cX6_overflows 1 = .ok (.iload_n 1, 1) := by decide +kernel
theorem dX6_overflows_2 : decode cX6_overflows 2 = .ok (.invokevirtual 117, 3) := by decide +kernel
theorem dX6_overflows_5 : decode cX6_overflows 5 = .ok (.aload_n 0, 1) := by decide +kernel
theorem dX6_overflows_6 : decode cX6_overflows 6 = .ok (.invokevirtual 179, 3) := by decide +kernel
theorem dX6_overflows_9 : decode cX6_overflows 9 = .ok (.aload_n 0, 1) := by decide +kernel
theorem dX6_overflows_10 : decode cX6_overflows 10 = .ok (.getfield 47, 3) := by decide +kernel
theorem dX6_overflows_13 : decode cX6_overflows 13 = .ok (.getfield 186, 3) := by decide +kernel
theorem dX6_overflows_16 : decode cX6_overflows 16 = .ok (.iload_n 1, 1) := by decide +kernel
theorem dX6_overflows_17 : decode cX6_overflows 17 = .ok (.iaload, 1) := by decide +kernel
theorem dX6_overflows_18 : decode cX6_overflows 18 = .ok (.istore_n 2, 1) := by decide +kernel
theorem dX6_overflows_19 : decode cX6_overflows 19 = .ok (.aload_n 0, 1) := by decide +kernel
theorem dX6_overflows_20 : decode cX6_overflows 20 = .ok (.getfield 54, 3) := by decide +kernel
theorem dX6_overflows_23 : decode cX6_overflows 23 = .ok (.getfield 189, 3) := by decide +kernel
theorem dX6_overflows_26 : decode cX6_overflows 26 = .ok (.iload_n 1, 1) := by decide +kernel
theorem dX6_overflows_27 : decode cX6_overflows 27 = .ok (.iaload, 1) := by decide +kernel
theorem dX6_overflows_28 : decode cX6_overflows 28 = .ok (.istore_n 3, 1) := by decide +kernel
theorem dX6_overflows_29 : decode cX6_overflows 29 = .ok (.iload_n 2, 1) := by decide +kernel
theorem dX6_overflows_30 : decode cX6_overflows 30 = .ok (.ifCond .lt 49, 3) := by decide +kernel
theorem dX6_overflows_33 : decode cX6_overflows 33 = .ok (.iload_n 2, 1) := by decide +kernel
theorem dX6_overflows_34 : decode cX6_overflows 34 = .ok (.aload_n 0, 1) := by decide +kernel
theorem dX6_overflows_35 : decode cX6_overflows 35 = .ok (.getfield 47, 3) := by decide +kernel
theorem dX6_overflows_38 : decode cX6_overflows 38 = .ok (.getfield 190, 3) := by decide +kernel
theorem dX6_overflows_41 : decode cX6_overflows 41 = .ok (.iload_n 1, 1) := by decide +kernel
theorem dX6_overflows_42 : decode cX6_overflows 42 = .ok (.iaload, 1) := by decide +kernel
theorem dX6_overflows_43 : decode cX6_overflows 43 = .ok (.iadd, 1) := by decide +kernel
theorem dX6_overflows_44 : decode cX6_overflows 44 = .ok (.aload_n 0, 1) := by decide +kernel
theorem dX6_overflows_45 : decode cX6_overflows 45 = .ok (.getfield 10, 3) := by decide +kernel
theorem dX6_overflows_48 : decode cX6_overflows 48 = .ok (.getfield 69, 3) := by decide +kernel
theorem dX6_overflows_51 : decode cX6_overflows 51 = .ok (.if_icmp .gt 28, 3) := by decide +kernel
theorem dX6_overflows_54 : decode cX6_overflows 54 = .ok (.iload_n 3, 1) := by decide +kernel
theorem dX6_overflows_55 : decode cX6_overflows 55 = .ok (.ifCond .lt 24, 3) := by decide +kernel
theorem dX6_overflows_58 : decode cX6_overflows 58 = .ok (.iload_n 3, 1) := by decide +kernel
theorem dX6_overflows_59 : decode cX6_overflows 59 = .ok (.aload_n 0, 1) := by decide +kernel
theorem dX6_overflows_60 : decode cX6_overflows 60 = .ok (.getfield 54, 3) := by decide +kernel
theorem dX6_overflows_63 : decode cX6_overflows 63 = .ok (.getfield 193, 3) := by decide +kernel
theorem dX6_overflows_66 : decode cX6_overflows 66 = .ok (.iload_n 1, 1) := by decide +kernel
theorem dX6_overflows_67 : decode cX6_overflows 67 = .ok (.iaload, 1) := by decide +kernel
theorem dX6_overflows_68 : decode cX6_overflows 68 = .ok (.iadd, 1) := by decide +kernel
theorem dX6_overflows_69 : decode cX6_overflows 69 = .ok (.aload_n 0, 1) := by decide +kernel
theorem dX6_overflows_70 : decode cX6_overflows 70 = .ok (.getfield 54, 3) := by decide +kernel
theorem dX6_overflows_73 : decode cX6_overflows 73 = .ok (.getfield 213, 3) := by decide +kernel
theorem dX6_overflows_76 : decode cX6_overflows 76 = .ok (.if_icmp .le 7, 3) := by decide +kernel
theorem dX6_overflows_79 : decode cX6_overflows 79 = .ok (.iconst 1, 1) := by decide +kernel
theorem dX6_overflows_80 : decode cX6_overflows 80 = .ok (.goto 4, 3) := by decide +kernel
theorem dX6_overflows_83 : decode cX6_overflows 83 = .ok (.iconst 0, 1) := by decide +kernel
theorem dX6_overflows_84 : decode cX6_overflows 84 = .ok (.ireturn, 1) := by decide +kernel
theorem dX6_itemUnder_0 : decode cX6_itemUnder 0 = .ok (.aload_n 0, 1) := by decide +kernel
theorem dX6_itemUnder_1 : decode cX6_itemUnder 1 = .ok (.invokevirtual 179, 3) := by decide +kernel
theorem dX6_itemUnder_4 : decode cX6_itemUnder 4 = .ok (.aload_n 0, 1) := by decide +kernel
theorem dX6_itemUnder_5 : decode cX6_itemUnder 5 = .ok (.getfield 10, 3) := by decide +kernel
theorem dX6_itemUnder_8 : decode cX6_itemUnder 8 = .ok (.invokevirtual 182, 3) := by decide +kernel
theorem dX6_itemUnder_11 : decode cX6_itemUnder 11 = .ok (.ifCond .eq 7, 3) := by decide +kernel
theorem dX6_itemUnder_14 : decode cX6_itemUnder 14 = .ok (.iload_n 1, 1) := by decide +kernel
theorem dX6_itemUnder_15 : decode cX6_itemUnder 15 = .ok (.goto 4, 3) := by decide +kernel
theorem dX6_itemUnder_18 : decode cX6_itemUnder 18 = .ok (.iload_n 2, 1) := by decide +kernel
theorem dX6_itemUnder_19 : decode cX6_itemUnder 19 = .ok (.istore_n 3, 1) := by decide +kernel
theorem dX6_itemUnder_20 : decode cX6_itemUnder 20 = .ok (.aload_n 0, 1) := by decide +kernel
theorem dX6_itemUnder_21 : decode cX6_itemUnder 21 = .ok (.getfield 10, 3) := by decide +kernel
theorem dX6_itemUnder_24 : decode cX6_itemUnder 24 = .ok (.invokevirtual 182, 3) := by decide +kernel
theorem dX6_itemUnder_27 : decode cX6_itemUnder 27 = .ok (.ifCond .eq 7, 3) := by decide +kernel
theorem dX6_itemUnder_30 : decode cX6_itemUnder 30 = .ok (.iload_n 2, 1) := by decide +kernel
theorem dX6_itemUnder_31 : decode cX6_itemUnder 31 = .ok (.goto 4, 3) := by decide +kernel
theorem dX6_itemUnder_34 : decode cX6_itemUnder 34 = .ok (.iload_n 1, 1) := by decide +kernel
theorem dX6_itemUnder_35 : decode cX6_itemUnder 35 = .ok (.istore 4, 2) := by decide +kernel
theorem dX6_itemUnder_37 : decode cX6_itemUnder 37 = .ok (.aload_n 0, 1) := by decide +kernel
theorem dX6_itemUnder_38 : decode cX6_itemUnder 38 = .ok (.getfield 10, 3) := by decide +kernel
end
section
theorem dX6_itemUnder_41 : decode cX6_itemUnder 41 = .ok (.getfield 124, 3) := by decide +kernel
theorem dX6_itemUnder_44 : decode cX6_itemUnder 44 = .ok (.iconst 1, 1) := by decide +kernel
theorem dX6_itemUnder_45 : decode cX6_itemUnder 45 = .ok (.isub, 1) := by decide +kernel
theorem dX6_itemUnder_46 : decode cX6_itemUnder 46 = .ok (.istore 5, 2) := by decide +kernel
theorem dX6_itemUnder_48 : decode cX6_itemUnder 48 = .ok (.iload 5, 2) := by decide +kernel
theorem dX6_itemUnder_50 : decode cX6_itemUnder 50 = .ok (.ifCond .lt 36, 3) := by decide +kernel
theorem dX6_itemUnder_53 : decode cX6_itemUnder 53 = .ok (.aload_n 0, 1) := by decide +kernel
theorem dX6_itemUnder_54 : decode cX6_itemUnder 54 = .ok (.getfield 40, 3) := by decide +kernel
theorem dX6_itemUnder_57 : decode cX6_itemUnder 57 = .ok (.getfield 171, 3) := by decide +kernel
theorem dX6_itemUnder_60 : decode cX6_itemUnder 60 = .ok (.iload 5, 2) := by decide +kernel
theorem dX6_itemUnder_62 : decode cX6_itemUnder 62 = .ok (.iaload, 1) := by decide +kernel
theorem dX6_itemUnder_63 : decode cX6_itemUnder 63 = .ok (.istore 6, 2) := by decide +kernel
theorem dX6_itemUnder_65 : decode cX6_itemUnder 65 = .ok (.aload_n 0, 1) := by decide +kernel
theorem dX6_itemUnder_66 : decode cX6_itemUnder 66 = .ok (.iload 6, 2) := by decide +kernel
theorem dX6_itemUnder_68 : decode cX6_itemUnder 68 = .ok (.iload_n 3, 1) := by decide +kernel
theorem dX6_itemUnder_69 : decode cX6_itemUnder 69 = .ok (.iload 4, 2) := by decide +kernel
theorem dX6_itemUnder_71 : decode cX6_itemUnder 71 = .ok (.invokevirtual 216, 3) := by decide +kernel
theorem dX6_itemUnder_74 : decode cX6_itemUnder 74 = .ok (.ifCond .eq 6, 3) := by decide +kernel
theorem dX6_itemUnder_77 : decode cX6_itemUnder 77 = .ok (.iload 6, 2) := by decide +kernel
theorem dX6_itemUnder_79 : decode cX6_itemUnder 79 = .ok (.ireturn, 1) := by decide +kernel
theorem dX6_itemUnder_80 : decode cX6_itemUnder 80 = .ok (.iinc 5 (-1), 3) := by decide +kernel
theorem dX6_itemUnder_83 : decode cX6_itemUnder 83 = .ok (.goto (-35), 3) := by decide +kernel
theorem dX6_itemUnder_86 : decode cX6_itemUnder 86 = .ok (.new 219, 3) := by decide +kernel
theorem dX6_itemUnder_89 : decode cX6_itemUnder 89 = .ok (.dup, 1) := by decide +kernel
theorem dX6_itemUnder_90 : decode cX6_itemUnder 90 = .ok (.ldc 221, 2) := by decide +kernel
theorem dX6_itemUnder_92 : decode cX6_itemUnder 92 = .ok (.invokespecial 223, 3) := by decide +kernel
theorem dX6_itemUnder_95 : decode cX6_itemUnder 95 = .ok (.athrow, 1) := by decide +kernel
theorem dX6_overlaps_0 : decode cX6_overlaps 0 = .ok (.aload_n 0, 1) := by decide +kernel
theorem dX6_overlaps_1 : decode cX6_overlaps 1 = .ok (.invokevirtual 179, 3) := by decide +kernel
theorem dX6_overlaps_4 : decode cX6_overlaps 4 = .ok (.iconst 0, 1) := by decide +kernel
theorem dX6_overlaps_5 : decode cX6_overlaps 5 = .ok (.istore_n 1, 1) := by decide +kernel
theorem dX6_overlaps_6 : decode cX6_overlaps 6 = .ok (.iconst 1, 1) := by decide +kernel
theorem dX6_overlaps_7 : decode cX6_overlaps 7 = .ok (.istore_n 2, 1) := by decide +kernel
theorem dX6_overlaps_8 : decode cX6_overlaps 8 = .ok (.iload_n 2, 1) := by decide +kernel
theorem dX6_overlaps_9 : decode cX6_overlaps 9 = .ok (.aload_n 0, 1) := by decide +kernel
theorem dX6_overlaps_10 : decode cX6_overlaps 10 = .ok (.getfield 10, 3) := by decide +kernel
theorem dX6_overlaps_13 : decode cX6_overlaps 13 = .ok (.getfield 124, 3) := by decide +kernel
theorem dX6_overlaps_16 : decode cX6_overlaps 16 = .ok (.if_icmp .ge 34, 3) := by decide +kernel
theorem dX6_overlaps_19 : decode cX6_overlaps 19 = .ok (.iconst 0, 1) := by decide +kernel
theorem dX6_overlaps_20 : decode cX6_overlaps 20 = .ok (.istore_n 3, 1) := by decide +kernel
theorem dX6_overlaps_21 : decode cX6_overlaps 21 = .ok (.iload_n 3, 1) := by decide +kernel
theorem dX6_overlaps_22 : decode cX6_overlaps 22 = .ok (.iload_n 2, 1) := by decide +kernel
theorem dX6_overlaps_23 : decode cX6_overlaps 23 = .ok (.if_icmp .ge 21, 3) := by decide +kernel
theorem dX6_overlaps_26 : decode cX6_overlaps 26 = .ok (.aload_n 0, 1) := by decide +kernel
theorem dX6_overlaps_27 : decode cX6_overlaps 27 = .ok (.iload_n 3, 1) := by decide +kernel
theorem dX6_overlaps_28 : decode cX6_overlaps 28 = .ok (.iload_n 2, 1) := by decide +kernel
theorem dX6_overlaps_29 : decode cX6_overlaps 29 = .ok (.invokevirtual 224, 3) := by decide +kernel
theorem dX6_overlaps_32 : decode cX6_overlaps 32 = .ok (.ifCond .eq 6, 3) := by decide +kernel
theorem dX6_overlaps_35 : decode cX6_overlaps 35 = .ok (.iinc 1 1, 3) := by decide +kernel
theorem dX6_overlaps_38 : decode cX6_overlaps 38 = .ok (.iinc 3 1, 3) := by decide +kernel
theorem dX6_overlaps_41 : decode cX6_overlaps 41 = .ok (.goto (-20), 3) := by decide +kernel
theorem dX6_overlaps_44 : decode cX6_overlaps 44 = .ok (.iinc 2 1, 3) := by decide +kernel
theorem dX6_overlaps_47 : decode cX6_overlaps 47 = .ok (.goto (-39), 3) := by decide +kernel
theorem dX6_overlaps_50 : decode cX6_overlaps 50 = .ok (.iload_n 1, 1) := by decide +kernel
theorem dX6_overlaps_51 : decode cX6_overlaps 51 = .ok (.ireturn, 1) := by decide +kernel
theorem dX6_narrowest_0 : decode cX6_narrowest 0 = .ok (.iload_n 1, 1) := by decide +kernel
theorem dX6_narrowest_1 : decode cX6_narrowest 1 = .ok (.iconst 1, 1) := by decide +kernel
theorem dX6_narrowest_2 : decode cX6_narrowest 2 = .ok (.bipush 20, 2) := by decide +kernel
theorem dX6_narrowest_4 : decode cX6_narrowest 4 = .ok (.invokestatic 58, 3) := by decide +kernel
theorem dX6_narrowest_7 : decode cX6_narrowest 7 = .ok (.ifCond .ne 13, 3) := by decide +kernel
theorem dX6_narrowest_10 : decode cX6_narrowest 10 = .ok (.new 62, 3) := by decide +kernel
theorem dX6_narrowest_13 : decode cX6_narrowest 13 = .ok (.dup, 1) := by decide +kernel
theorem dX6_narrowest_14 : decode cX6_narrowest 14 = .ok (.ldc 227, 2) := by decide +kernel
theorem dX6_narrowest_16 : decode cX6_narrowest 16 = .ok (.invokespecial 66, 3) := by decide +kernel
theorem dX6_narrowest_19 : decode cX6_narrowest 19 = .ok (.athrow, 1) := by decide +kernel
theorem dX6_narrowest_20 : decode cX6_narrowest 20 = .ok (.aload_n 0, 1) := by decide +kernel
theorem dX6_narrowest_21 : decode cX6_narrowest 21 = .ok (.getfield 40, 3) := by decide +kernel
theorem dX6_narrowest_24 : decode cX6_narrowest 24 = .ok (.aload_n 0, 1) := by decide +kernel
theorem dX6_narrowest_25 : decode cX6_narrowest 25 = .ok (.getfield 10, 3) := by decide +kernel
theorem dX6_narrowest_28 : decode cX6_narrowest 28 = .ok (.invokevirtual 168, 3) := by decide +kernel
theorem dX6_narrowest_31 : decode cX6_narrowest 31 = .ok (.aload_n 0, 1) := by decide +kernel
theorem dX6_narrowest_32 : decode cX6_narrowest 32 = .ok (.getfield 40, 3) := by decide +kernel
theorem dX6_narrowest_35 : decode cX6_narrowest 35 = .ok (.aload_n 0, 1) := by decide +kernel
theorem dX6_narrowest_36 : decode cX6_narrowest 36 = .ok (.getfield 10, 3) := by decide +kernel
theorem dX6_narrowest_39 : decode cX6_narrowest 39 = .ok (.sipush 9999, 3) := by decide +kernel
theorem dX6_narrowest_42 : decode cX6_narrowest 42 = .ok (.invokevirtual 229, 3) := by decide +kernel
theorem dX6_narrowest_45 : decode cX6_narrowest 45 = .ok (.iload_n 1, 1) := by decide +kernel
theorem dX6_narrowest_46 : decode cX6_narrowest 46 = .ok (.if_icmp .le 13, 3) := by decide +kernel
theorem dX6_narrowest_49 : decode cX6_narrowest 49 = .ok (.new 219, 3) := by decide +kernel
theorem dX6_narrowest_52 : decode cX6_narrowest 52 = .ok (.dup, 1) := by decide +kernel
theorem dX6_narrowest_53 : decode cX6_narrowest 53 = .ok (.ldc 233, 2) := by decide +kernel
theorem dX6_narrowest_55 : decode cX6_narrowest 55 = .ok (.invokespecial 223, 3) := by decide +kernel
theorem dX6_narrowest_58 : decode cX6_narrowest 58 = .ok (.athrow, 1) := by decide +kernel
theorem dX6_narrowest_59 : decode cX6_narrowest 59 = .ok (.iconst 0, 1) := by decide +kernel
theorem dX6_narrowest_60 : decode cX6_narrowest 60 = .ok (.istore_n 2, 1) := by decide +kernel
theorem dX6_narrowest_61 : decode cX6_narrowest 61 = .ok (.sipush 9999, 3) := by decide +kernel
theorem dX6_narrowest_64 : decode cX6_narrowest 64 = .ok (.istore_n 3, 1) := by decide +kernel
theorem dX6_narrowest_65 : decode cX6_narrowest 65 = .ok (.iconst 0, 1) := by decide +kernel
theorem dX6_narrowest_66 : decode cX6_narrowest 66 = .ok (.istore 4, 2) := by decide +kernel
theorem dX6_narrowest_68 : decode cX6_narrowest 68 = .ok (.iload 4, 2) := by decide +kernel
theorem dX6_narrowest_70 : decode cX6_narrowest 70 = .ok (.bipush 14, 2) := by decide +kernel
theorem dX6_narrowest_72 : decode cX6_narrowest 72 = .ok (.if_icmp .ge 49, 3) := by decide +kernel
theorem dX6_narrowest_75 : decode cX6_narrowest 75 = .ok (.iload_n 2, 1) := by decide +kernel
theorem dX6_narrowest_76 : decode cX6_narrowest 76 = .ok (.iload_n 3, 1) := by decide +kernel
theorem dX6_narrowest_77 : decode cX6_narrowest 77 = .ok (.if_icmp .ge 44, 3) := by decide +kernel
theorem dX6_narrowest_80 : decode cX6_narrowest 80 = .ok (.iload_n 2, 1) := by decide +kernel
theorem dX6_narrowest_81 : decode cX6_narrowest 81 = .ok (.iload_n 3, 1) := by decide +kernel
theorem dX6_narrowest_82 : decode cX6_narrowest 82 = .ok (.iadd, 1) := by decide +kernel
theorem dX6_narrowest_83 : decode cX6_narrowest 83 = .ok (.iconst 2, 1) := by decide +kernel
theorem dX6_narrowest_84 : decode cX6_narrowest 84 = .ok (.idiv, 1) := by decide +kernel
theorem dX6_narrowest_85 : decode cX6_narrowest 85 = .ok (.istore 5, 2) := by decide +kernel
theorem dX6_narrowest_87 : decode cX6_narrowest 87 = .ok (.aload_n 0, 1) := by decide +kernel
theorem dX6_narrowest_88 : decode cX6_narrowest 88 = .ok (.getfield 40, 3) := by decide +kernel
theorem dX6_narrowest_91 : decode cX6_narrowest 91 = .ok (.aload_n 0, 1) := by decide +kernel
theorem dX6_narrowest_92 : decode cX6_narrowest 92 = .ok (.getfield 10, 3) := by decide +kernel
theorem dX6_narrowest_95 : decode cX6_narrowest 95 = .ok (.iload 5, 2) := by decide +kernel
theorem dX6_narrowest_97 : decode cX6_narrowest 97 = .ok (.invokevirtual 229, 3) := by decide +kernel
theorem dX6_narrowest_100 : decode cX6_narrowest 100 = .ok (.iload_n 1, 1) := by decide +kernel
theorem dX6_narrowest_101 : decode cX6_narrowest 101 = .ok (.if_icmp .le 11, 3) := by decide +kernel
theorem dX6_narrowest_104 : decode cX6_narrowest 104 = .ok (.iload 5, 2) := by decide +kernel
theorem dX6_narrowest_106 : decode cX6_narrowest 106 = .ok (.iconst 1, 1) := by decide +kernel
theorem dX6_narrowest_107 : decode cX6_narrowest 107 = .ok (.iadd, 1) := by decide +kernel
theorem dX6_narrowest_108 : decode cX6_narrowest 108 = .ok (.istore_n 2, 1) := by decide +kernel
theorem dX6_narrowest_109 : decode cX6_narrowest 109 = .ok (.goto 6, 3) := by decide +kernel
theorem dX6_narrowest_112 : decode cX6_narrowest 112 = .ok (.iload 5, 2) := by decide +kernel
theorem dX6_narrowest_114 : decode cX6_narrowest 114 = .ok (.istore_n 3, 1) := by decide +kernel
theorem dX6_narrowest_115 : decode cX6_narrowest 115 = .ok (.iinc 4 1, 3) := by decide +kernel
theorem dX6_narrowest_118 : decode cX6_narrowest 118 = .ok (.goto (-50), 3) := by decide +kernel
theorem dX6_narrowest_121 : decode cX6_narrowest 121 = .ok (.iload_n 2, 1) := by decide +kernel
theorem dX6_narrowest_122 : decode cX6_narrowest 122 = .ok (.ireturn, 1) := by decide +kernel
theorem dX6_share_0 : decode cX6_share 0 = .ok (.iload_n 1, 1) := by decide +kernel
theorem dX6_share_1 : decode cX6_share 1 = .ok (.iconst 0, 1) := by decide +kernel
theorem dX6_share_2 : decode cX6_share 2 = .ok (.ldc 235, 2) := by decide +kernel
theorem dX6_share_4 : decode cX6_share 4 = .ok (.invokestatic 58, 3) := by decide +kernel
theorem dX6_share_7 : decode cX6_share 7 = .ok (.ifCond .eq 10, 3) := by decide +kernel
theorem dX6_share_10 : decode cX6_share 10 = .ok (.iload_n 2, 1) := by decide +kernel
theorem dX6_share_11 : decode cX6_share 11 = .ok (.invokestatic 236, 3) := by decide +kernel
theorem dX6_share_14 : decode cX6_share 14 = .ok (.ifCond .ne 13, 3) := by decide +kernel
theorem dX6_share_17 : decode cX6_share 17 = .ok (.new 62, 3) := by decide +kernel
theorem dX6_share_20 : decode cX6_share 20 = .ok (.dup, 1) := by decide +kernel
theorem dX6_share_21 : decode cX6_share 21 = .ok (.ldc 240, 2) := by decide +kernel
theorem dX6_share_23 : decode cX6_share 23 = .ok (.invokespecial 66, 3) := by decide +kernel
theorem dX6_share_26 : decode cX6_share 26 = .ok (.athrow, 1) := by decide +kernel
theorem dX6_share_27 : decode cX6_share 27 = .ok (.aload_n 0, 1) := by decide +kernel
theorem dX6_share_28 : decode cX6_share 28 = .ok (.iload_n 3, 1) := by decide +kernel
theorem dX6_share_29 : decode cX6_share 29 = .ok (.invokevirtual 117, 3) := by decide +kernel
theorem dX6_share_32 : decode cX6_share 32 = .ok (.iconst 0, 1) := by decide +kernel
theorem dX6_share_33 : decode cX6_share 33 = .ok (.istore 4, 2) := by decide +kernel
theorem dX6_share_35 : decode cX6_share 35 = .ok (.iload 4, 2) := by decide +kernel
theorem dX6_share_37 : decode cX6_share 37 = .ok (.aload_n 0, 1) := by decide +kernel
theorem dX6_share_38 : decode cX6_share 38 = .ok (.getfield 10, 3) := by decide +kernel
theorem dX6_share_41 : decode cX6_share 41 = .ok (.getfield 124, 3) := by decide +kernel
theorem dX6_share_44 : decode cX6_share 44 = .ok (.if_icmp .ge 32, 3) := by decide +kernel
theorem dX6_share_47 : decode cX6_share 47 = .ok (.aload_n 0, 1) := by decide +kernel
theorem dX6_share_48 : decode cX6_share 48 = .ok (.getfield 33, 3) := by decide +kernel
theorem dX6_share_51 : decode cX6_share 51 = .ok (.getfield 242, 3) := by decide +kernel
theorem dX6_share_54 : decode cX6_share 54 = .ok (.iload 4, 2) := by decide +kernel
theorem dX6_share_56 : decode cX6_share 56 = .ok (.aload_n 0, 1) := by decide +kernel
theorem dX6_share_57 : decode cX6_share 57 = .ok (.getfield 10, 3) := by decide +kernel
theorem dX6_share_60 : decode cX6_share 60 = .ok (.getfield 132, 3) := by decide +kernel
theorem dX6_share_63 : decode cX6_share 63 = .ok (.iload 4, 2) := by decide +kernel
theorem dX6_share_65 : decode cX6_share 65 = .ok (.aaload, 1) := by decide +kernel
theorem dX6_share_66 : decode cX6_share 66 = .ok (.iload_n 2, 1) := by decide +kernel
theorem dX6_share_67 : decode cX6_share 67 = .ok (.iaload, 1) := by decide +kernel
theorem dX6_share_68 : decode cX6_share 68 = .ok (.i2l, 1) := by decide +kernel
theorem dX6_share_69 : decode cX6_share 69 = .ok (.lastore, 1) := by decide +kernel
theorem dX6_share_70 : decode cX6_share 70 = .ok (.iinc 4 1, 3) := by decide +kernel
theorem dX6_share_73 : decode cX6_share 73 = .ok (.goto (-38), 3) := by decide +kernel
theorem dX6_share_76 : decode cX6_share 76 = .ok (.aload_n 0, 1) := by decide +kernel
theorem dX6_share_77 : decode cX6_share 77 = .ok (.getfield 33, 3) := by decide +kernel
theorem dX6_share_80 : decode cX6_share 80 = .ok (.aload_n 0, 1) := by decide +kernel
theorem dX6_share_81 : decode cX6_share 81 = .ok (.getfield 10, 3) := by decide +kernel
theorem dX6_share_84 : decode cX6_share 84 = .ok (.getfield 124, 3) := by decide +kernel
theorem dX6_share_87 : decode cX6_share 87 = .ok (.invokevirtual 246, 3) := by decide +kernel
theorem dX6_share_90 : decode cX6_share 90 = .ok (.lconst 0, 1) := by decide +kernel
theorem dX6_share_91 : decode cX6_share 91 = .ok (.lcmp, 1) := by decide +kernel
theorem dX6_share_92 : decode cX6_share 92 = .ok (.ifCond .ne 13, 3) := by decide +kernel
theorem dX6_share_95 : decode cX6_share 95 = .ok (.new 250, 3) := by decide +kernel
theorem dX6_share_98 : decode cX6_share 98 = .ok (.dup, 1) := by decide +kernel
theorem dX6_share_99 : decode cX6_share 99 = .ok (.ldc 252, 2) := by decide +kernel
theorem dX6_share_101 : decode cX6_share 101 = .ok (.invokespecial 254, 3) := by decide +kernel
theorem dX6_share_104 : decode cX6_share 104 = .ok (.athrow, 1) := by decide +kernel
theorem dX6_share_105 : decode cX6_share 105 = .ok (.aload_n 0, 1) := by decide +kernel
theorem dX6_share_106 : decode cX6_share 106 = .ok (.getfield 33, 3) := by decide +kernel
theorem dX6_share_109 : decode cX6_share 109 = .ok (.iload_n 1, 1) := by decide +kernel
theorem dX6_share_110 : decode cX6_share 110 = .ok (.aload_n 0, 1) := by decide +kernel
theorem dX6_share_111 : decode cX6_share 111 = .ok (.getfield 10, 3) := by decide +kernel
theorem dX6_share_114 : decode cX6_share 114 = .ok (.getfield 124, 3) := by decide +kernel
theorem dX6_share_117 : decode cX6_share 117 = .ok (.invokevirtual 255, 3) := by decide +kernel
theorem dX6_share_120 : decode cX6_share 120 = .ok (.aload_n 0, 1) := by decide +kernel
theorem dX6_share_121 : decode cX6_share 121 = .ok (.getfield 33, 3) := by decide +kernel
theorem dX6_share_124 : decode cX6_share 124 = .ok (.getfield 259, 3) := by decide +kernel
theorem dX6_share_127 : decode cX6_share 127 = .ok (.iload_n 3, 1) := by decide +kernel
theorem dX6_share_128 : decode cX6_share 128 = .ok (.iaload, 1) := by decide +kernel
theorem dX6_share_129 : decode cX6_share 129 = .ok (.ireturn, 1) := by decide +kernel
theorem dX6_save_0 : decode cX6_save 0 = .ok (.aload_n 0, 1) := by decide +kernel
theorem dX6_save_1 : decode cX6_save 1 = .ok (.getfield 16, 3) := by decide +kernel
theorem dX6_save_4 : decode cX6_save 4 = .ok (.aload_n 0, 1) := by decide +kernel
theorem dX6_save_5 : decode cX6_save 5 = .ok (.getfield 10, 3) := by decide +kernel
theorem dX6_save_8 : decode cX6_save 8 = .ok (.invokevirtual 262, 3) := by decide +kernel
theorem dX6_save_11 : decode cX6_save 11 = .ok (.aload_n 0, 1) := by decide +kernel
theorem dX6_save_12 : decode cX6_save 12 = .ok (.iconst 1, 1) := by decide +kernel
theorem dX6_save_13 : decode cX6_save 13 = .ok (.putfield 19, 3) := by decide +kernel
theorem dX6_save_16 : decode cX6_save 16 = .ok (.aload_n 0, 1) := by decide +kernel
theorem dX6_save_17 : decode cX6_save 17 = .ok (.getfield 16, 3) := by decide +kernel
theorem dX6_save_20 : decode cX6_save 20 = .ok (.getfield 124, 3) := by decide +kernel
theorem dX6_save_23 : decode cX6_save 23 = .ok (.ireturn, 1) := by decide +kernel
theorem dX6_restore_0 : decode cX6_restore 0 = .ok (.aload_n 0, 1) := by decide +kernel
theorem dX6_restore_1 : decode cX6_restore 1 = .ok (.getfield 19, 3) := by decide +kernel
theorem dX6_restore_4 : decode cX6_restore 4 = .ok (.ifCond .ne 14, 3) := by decide +kernel
theorem dX6_restore_7 : decode cX6_restore 7 = .ok (.new 139, 3) := by decide +kernel
theorem dX6_restore_10 : decode cX6_restore 10 = .ok (.dup, 1) := by decide +kernel
theorem dX6_restore_11 : decode cX6_restore 11 = .ok (.ldc_w 265, 3) := by decide +kernel
theorem dX6_restore_14 : decode cX6_restore 14 = .ok (.invokespecial 143, 3) := by decide +kernel
theorem dX6_restore_17 : decode cX6_restore 17 = .ok (.athrow, 1) := by decide +kernel
theorem dX6_restore_18 : decode cX6_restore 18 = .ok (.aload_n 0, 1) := by decide +kernel
theorem dX6_restore_19 : decode cX6_restore 19 = .ok (.getfield 10, 3) := by decide +kernel
theorem dX6_restore_22 : decode cX6_restore 22 = .ok (.aload_n 0, 1) := by decide +kernel
theorem dX6_restore_23 : decode cX6_restore 23 = .ok (.getfield 16, 3) := by decide +kernel
theorem dX6_restore_26 : decode cX6_restore 26 = .ok (.invokevirtual 262, 3) := by decide +kernel
theorem dX6_restore_29 : decode cX6_restore 29 = .ok (.aload_n 0, 1) := by decide +kernel
theorem dX6_restore_30 : decode cX6_restore 30 = .ok (.getfield 10, 3) := by decide +kernel
theorem dX6_restore_33 : decode cX6_restore 33 = .ok (.getfield 124, 3) := by decide +kernel
theorem dX6_restore_36 : decode cX6_restore 36 = .ok (.ireturn, 1) := by decide +kernel
theorem dX6_requireRoom_0 : decode cX6_requireRoom 0 = .ok (.aload_n 0, 1) := by decide +kernel
theorem dX6_requireRoom_1 : decode cX6_requireRoom 1 = .ok (.getfield 10, 3) := by decide +kernel
theorem dX6_requireRoom_4 : decode cX6_requireRoom 4 = .ok (.getfield 124, 3) := by decide +kernel
theorem dX6_requireRoom_7 : decode cX6_requireRoom 7 = .ok (.bipush 20, 2) := by decide +kernel
theorem dX6_requireRoom_9 : decode cX6_requireRoom 9 = .ok (.if_icmp .lt 14, 3) := by decide +kernel
theorem dX6_requireRoom_12 : decode cX6_requireRoom 12 = .ok (.new 139, 3) := by decide +kernel
theorem dX6_requireRoom_15 : decode cX6_requireRoom 15 = .ok (.dup, 1) := by decide +kernel
theorem dX6_requireRoom_16 : decode cX6_requireRoom 16 = .ok (.ldc_w 267, 3) := by decide +kernel
theorem dX6_requireRoom_19 : decode cX6_requireRoom 19 = .ok (.invokespecial 143, 3) := by decide +kernel
theorem dX6_requireRoom_22 : decode cX6_requireRoom 22 = .ok (.athrow, 1) := by decide +kernel
theorem dX6_requireRoom_23 : decode cX6_requireRoom 23 = .ok (.return_, 1) := by decide +kernel
theorem dX6_requireItem_0 : decode cX6_requireItem 0 = .ok (.iload_n 1, 1) := by decide +kernel
theorem dX6_requireItem_1 : decode cX6_requireItem 1 = .ok (.iconst 0, 1) := by decide +kernel
theorem dX6_requireItem_2 : decode cX6_requireItem 2 = .ok (.aload_n 0, 1) := by decide +kernel
theorem dX6_requireItem_3 : decode cX6_requireItem 3 = .ok (.getfield 10, 3) := by decide +kernel
theorem dX6_requireItem_6 : decode cX6_requireItem 6 = .ok (.getfield 124, 3) := by decide +kernel
theorem dX6_requireItem_9 : decode cX6_requireItem 9 = .ok (.iconst 1, 1) := by decide +kernel
theorem dX6_requireItem_10 : decode cX6_requireItem 10 = .ok (.isub, 1) := by decide +kernel
theorem dX6_requireItem_11 : decode cX6_requireItem 11 = .ok (.invokestatic 58, 3) := by decide +kernel
theorem dX6_requireItem_14 : decode cX6_requireItem 14 = .ok (.ifCond .ne 14, 3) := by decide +kernel
theorem dX6_requireItem_17 : decode cX6_requireItem 17 = .ok (.new 86, 3) := by decide +kernel
theorem dX6_requireItem_20 : decode cX6_requireItem 20 = .ok (.dup, 1) := by decide +kernel
theorem dX6_requireItem_21 : decode cX6_requireItem 21 = .ok (.ldc_w 269, 3) := by decide +kernel
theorem dX6_requireItem_24 : decode cX6_requireItem 24 = .ok (.invokespecial 90, 3) := by decide +kernel
theorem dX6_requireItem_27 : decode cX6_requireItem 27 = .ok (.athrow, 1) := by decide +kernel
theorem dX6_requireItem_28 : decode cX6_requireItem 28 = .ok (.return_, 1) := by decide +kernel
theorem dX6_requireLine_0 : decode cX6_requireLine 0 = .ok (.iload_n 1, 1) := by decide +kernel
theorem dX6_requireLine_1 : decode cX6_requireLine 1 = .ok (.iconst 0, 1) := by decide +kernel
theorem dX6_requireLine_2 : decode cX6_requireLine 2 = .ok (.aload_n 0, 1) := by decide +kernel
theorem dX6_requireLine_3 : decode cX6_requireLine 3 = .ok (.getfield 40, 3) := by decide +kernel
theorem dX6_requireLine_6 : decode cX6_requireLine 6 = .ok (.getfield 159, 3) := by decide +kernel
theorem dX6_requireLine_9 : decode cX6_requireLine 9 = .ok (.iconst 1, 1) := by decide +kernel
theorem dX6_requireLine_10 : decode cX6_requireLine 10 = .ok (.isub, 1) := by decide +kernel
theorem dX6_requireLine_11 : decode cX6_requireLine 11 = .ok (.invokestatic 58, 3) := by decide +kernel
theorem dX6_requireLine_14 : decode cX6_requireLine 14 = .ok (.ifCond .ne 14, 3) := by decide +kernel
theorem dX6_requireLine_17 : decode cX6_requireLine 17 = .ok (.new 86, 3) := by decide +kernel
theorem dX6_requireLine_20 : decode cX6_requireLine 20 = .ok (.dup, 1) := by decide +kernel
theorem dX6_requireLine_21 : decode cX6_requireLine 21 = .ok (.ldc_w 271, 3) := by decide +kernel
theorem dX6_requireLine_24 : decode cX6_requireLine 24 = .ok (.invokespecial 90, 3) := by decide +kernel
theorem dX6_requireLine_27 : decode cX6_requireLine 27 = .ok (.athrow, 1) := by decide +kernel
theorem dX6_requireLine_28 : decode cX6_requireLine 28 = .ok (.return_, 1) := by decide +kernel
theorem dX6_requireProperty_0 : decode cX6_requireProperty 0 = .ok (.iload_n 0, 1) := by decide +kernel
theorem dX6_requireProperty_1 : decode cX6_requireProperty 1 = .ok (.iconst 0, 1) := by decide +kernel
theorem dX6_requireProperty_2 : decode cX6_requireProperty 2 = .ok (.bipush 9, 2) := by decide +kernel
theorem dX6_requireProperty_4 : decode cX6_requireProperty 4 = .ok (.invokestatic 58, 3) := by decide +kernel
theorem dX6_requireProperty_7 : decode cX6_requireProperty 7 = .ok (.ifCond .ne 14, 3) := by decide +kernel
theorem dX6_requireProperty_10 : decode cX6_requireProperty 10 = .ok (.new 86, 3) := by decide +kernel
theorem dX6_requireProperty_13 : decode cX6_requireProperty 13 = .ok (.dup, 1) := by decide +kernel
theorem dX6_requireProperty_14 : decode cX6_requireProperty 14 = .ok (.ldc_w 273, 3) := by decide +kernel
theorem dX6_requireProperty_17 : decode cX6_requireProperty 17 = .ok (.invokespecial 90, 3) := by decide +kernel
theorem dX6_requireProperty_20 : decode cX6_requireProperty 20 = .ok (.athrow, 1) := by decide +kernel
theorem dX6_requireProperty_21 : decode cX6_requireProperty 21 = .ok (.return_, 1) := by decide +kernel
theorem dX6_layOut_0 : decode cX6_layOut 0 = .ok (.aload_n 0, 1) := by decide +kernel
theorem dX6_layOut_1 : decode cX6_layOut 1 = .ok (.getfield 40, 3) := by decide +kernel
theorem dX6_layOut_4 : decode cX6_layOut 4 = .ok (.aload_n 0, 1) := by decide +kernel
theorem dX6_layOut_5 : decode cX6_layOut 5 = .ok (.getfield 10, 3) := by decide +kernel
theorem dX6_layOut_8 : decode cX6_layOut 8 = .ok (.invokevirtual 155, 3) := by decide +kernel
theorem dX6_layOut_11 : decode cX6_layOut 11 = .ok (.aload_n 0, 1) := by decide +kernel
theorem dX6_layOut_12 : decode cX6_layOut 12 = .ok (.getfield 47, 3) := by decide +kernel
theorem dX6_layOut_15 : decode cX6_layOut 15 = .ok (.aload_n 0, 1) := by decide +kernel
theorem dX6_layOut_16 : decode cX6_layOut 16 = .ok (.getfield 10, 3) := by decide +kernel
theorem dX6_layOut_19 : decode cX6_layOut 19 = .ok (.aload_n 0, 1) := by decide +kernel
theorem dX6_layOut_20 : decode cX6_layOut 20 = .ok (.getfield 40, 3) := by decide +kernel
theorem dX6_layOut_23 : decode cX6_layOut 23 = .ok (.aload_n 0, 1) := by decide +kernel
theorem dX6_layOut_24 : decode cX6_layOut 24 = .ok (.getfield 33, 3) := by decide +kernel
theorem dX6_layOut_27 : decode cX6_layOut 27 = .ok (.invokevirtual 197, 3) := by decide +kernel
theorem dX6_layOut_30 : decode cX6_layOut 30 = .ok (.aload_n 0, 1) := by decide +kernel
theorem dX6_layOut_31 : decode cX6_layOut 31 = .ok (.getfield 54, 3) := by decide +kernel
theorem dX6_layOut_34 : decode cX6_layOut 34 = .ok (.aload_n 0, 1) := by decide +kernel
theorem dX6_layOut_35 : decode cX6_layOut 35 = .ok (.getfield 10, 3) := by decide +kernel
theorem dX6_layOut_38 : decode cX6_layOut 38 = .ok (.aload_n 0, 1) := by decide +kernel
theorem dX6_layOut_39 : decode cX6_layOut 39 = .ok (.getfield 40, 3) := by decide +kernel
theorem dX6_layOut_42 : decode cX6_layOut 42 = .ok (.aload_n 0, 1) := by decide +kernel
theorem dX6_layOut_43 : decode cX6_layOut 43 = .ok (.getfield 33, 3) := by decide +kernel
theorem dX6_layOut_46 : decode cX6_layOut 46 = .ok (.invokevirtual 206, 3) := by decide +kernel
theorem dX6_layOut_49 : decode cX6_layOut 49 = .ok (.return_, 1) := by decide +kernel
theorem dX6_contains_0 : decode cX6_contains 0 = .ok (.aload_n 0, 1) := by decide +kernel
theorem dX6_contains_1 : decode cX6_contains 1 = .ok (.getfield 47, 3) := by decide +kernel
theorem dX6_contains_4 : decode cX6_contains 4 = .ok (.getfield 186, 3) := by decide +kernel
theorem dX6_contains_7 : decode cX6_contains 7 = .ok (.iload_n 1, 1) := by decide +kernel
theorem dX6_contains_8 : decode cX6_contains 8 = .ok (.iaload, 1) := by decide +kernel
theorem dX6_contains_9 : decode cX6_contains 9 = .ok (.istore 4, 2) := by decide +kernel
theorem dX6_contains_11 : decode cX6_contains 11 = .ok (.aload_n 0, 1) := by decide +kernel
theorem dX6_contains_12 : decode cX6_contains 12 = .ok (.getfield 54, 3) := by decide +kernel
theorem dX6_contains_15 : decode cX6_contains 15 = .ok (.getfield 189, 3) := by decide +kernel
theorem dX6_contains_18 : decode cX6_contains 18 = .ok (.iload_n 1, 1) := by decide +kernel
theorem dX6_contains_19 : decode cX6_contains 19 = .ok (.iaload, 1) := by decide +kernel
theorem dX6_contains_20 : decode cX6_contains 20 = .ok (.istore 5, 2) := by decide +kernel
theorem dX6_contains_22 : decode cX6_contains 22 = .ok (.iload_n 2, 1) := by decide +kernel
theorem dX6_contains_23 : decode cX6_contains 23 = .ok (.iload 4, 2) := by decide +kernel
theorem dX6_contains_25 : decode cX6_contains 25 = .ok (.if_icmp .lt 45, 3) := by decide +kernel
theorem dX6_contains_28 : decode cX6_contains 28 = .ok (.iload_n 2, 1) := by decide +kernel
theorem dX6_contains_29 : decode cX6_contains 29 = .ok (.iload 4, 2) := by decide +kernel
theorem dX6_contains_31 : decode cX6_contains 31 = .ok (.aload_n 0, 1) := by decide +kernel
theorem dX6_contains_32 : decode cX6_contains 32 = .ok (.getfield 47, 3) := by decide +kernel
theorem dX6_contains_35 : decode cX6_contains 35 = .ok (.getfield 190, 3) := by decide +kernel
theorem dX6_contains_38 : decode cX6_contains 38 = .ok (.iload_n 1, 1) := by decide +kernel
theorem dX6_contains_39 : decode cX6_contains 39 = .ok (.iaload, 1) := by decide +kernel
theorem dX6_contains_40 : decode cX6_contains 40 = .ok (.iadd, 1) := by decide +kernel
theorem dX6_contains_41 : decode cX6_contains 41 = .ok (.if_icmp .ge 29, 3) := by decide +kernel
theorem dX6_contains_44 : decode cX6_contains 44 = .ok (.iload_n 3, 1) := by decide +kernel
theorem dX6_contains_45 : decode cX6_contains 45 = .ok (.iload 5, 2) := by decide +kernel
theorem dX6_contains_47 : decode cX6_contains 47 = .ok (.if_icmp .lt 23, 3) := by decide +kernel
theorem dX6_contains_50 : decode cX6_contains 50 = .ok (.iload_n 3, 1) := by decide +kernel
theorem dX6_contains_51 : decode cX6_contains 51 = .ok (.iload 5, 2) := by decide +kernel
theorem dX6_contains_53 : decode cX6_contains 53 = .ok (.aload_n 0, 1) := by decide +kernel
theorem dX6_contains_54 : decode cX6_contains 54 = .ok (.getfield 54, 3) := by decide +kernel
theorem dX6_contains_57 : decode cX6_contains 57 = .ok (.getfield 193, 3) := by decide +kernel
theorem dX6_contains_60 : decode cX6_contains 60 = .ok (.iload_n 1, 1) := by decide +kernel
theorem dX6_contains_61 : decode cX6_contains 61 = .ok (.iaload, 1) := by decide +kernel
theorem dX6_contains_62 : decode cX6_contains 62 = .ok (.iadd, 1) := by decide +kernel
theorem dX6_contains_63 : decode cX6_contains 63 = .ok (.if_icmp .ge 7, 3) := by decide +kernel
theorem dX6_contains_66 : decode cX6_contains 66 = .ok (.iconst 1, 1) := by decide +kernel
theorem dX6_contains_67 : decode cX6_contains 67 = .ok (.goto 4, 3) := by decide +kernel
theorem dX6_contains_70 : decode cX6_contains 70 = .ok (.iconst 0, 1) := by decide +kernel
theorem dX6_contains_71 : decode cX6_contains 71 = .ok (.ireturn, 1) := by decide +kernel
theorem dX6_haveCommonPoint_0 : decode cX6_haveCommonPoint 0 = .ok (.aload_n 0, 1) := by decide +kernel
theorem dX6_haveCommonPoint_1 : decode cX6_haveCommonPoint 1 = .ok (.getfield 47, 3) := by decide +kernel
theorem dX6_haveCommonPoint_4 : decode cX6_haveCommonPoint 4 = .ok (.getfield 186, 3) := by decide +kernel
theorem dX6_haveCommonPoint_7 : decode cX6_haveCommonPoint 7 = .ok (.aload_n 0, 1) := by decide +kernel
theorem dX6_haveCommonPoint_8 : decode cX6_haveCommonPoint 8 = .ok (.getfield 47, 3) := by decide +kernel
theorem dX6_haveCommonPoint_11 : decode cX6_haveCommonPoint 11 = .ok (.getfield 190, 3) := by decide +kernel
theorem dX6_haveCommonPoint_14 : decode cX6_haveCommonPoint 14 = .ok (.iload_n 1, 1) := by decide +kernel
theorem dX6_haveCommonPoint_15 : decode cX6_haveCommonPoint 15 = .ok (.iload_n 2, 1) := by decide +kernel
theorem dX6_haveCommonPoint_16 : decode cX6_haveCommonPoint 16 = .ok (.invokestatic 275, 3) := by decide +kernel
theorem dX6_haveCommonPoint_19 : decode cX6_haveCommonPoint 19 = .ok (.ifCond .eq 29, 3) := by decide +kernel
theorem dX6_haveCommonPoint_22 : decode cX6_haveCommonPoint 22 = .ok (.aload_n 0, 1) := by decide +kernel
theorem dX6_haveCommonPoint_23 : decode cX6_haveCommonPoint 23 = .ok (.getfield 54, 3) := by decide +kernel
theorem dX6_haveCommonPoint_26 : decode cX6_haveCommonPoint 26 = .ok (.getfield 189, 3) := by decide +kernel
theorem dX6_haveCommonPoint_29 : decode cX6_haveCommonPoint 29 = .ok (.aload_n 0, 1) := by decide +kernel
theorem dX6_haveCommonPoint_30 : decode cX6_haveCommonPoint 30 = .ok (.getfield 54, 3) := by decide +kernel
theorem dX6_haveCommonPoint_33 : decode cX6_haveCommonPoint 33 = .ok (.getfield 193, 3) := by decide +kernel
theorem dX6_haveCommonPoint_36 : decode cX6_haveCommonPoint 36 = .ok (.iload_n 1, 1) := by decide +kernel
theorem dX6_haveCommonPoint_37 : decode cX6_haveCommonPoint 37 = .ok (.iload_n 2, 1) := by decide +kernel
theorem dX6_haveCommonPoint_38 : decode cX6_haveCommonPoint 38 = .ok (.invokestatic 275, 3) := by decide +kernel
theorem dX6_haveCommonPoint_41 : decode cX6_haveCommonPoint 41 = .ok (.ifCond .eq 7, 3) := by decide +kernel
theorem dX6_haveCommonPoint_44 : decode cX6_haveCommonPoint 44 = .ok (.iconst 1, 1) := by decide +kernel
theorem dX6_haveCommonPoint_45 : decode cX6_haveCommonPoint 45 = .ok (.goto 4, 3) := by decide +kernel
theorem dX6_haveCommonPoint_48 : decode cX6_haveCommonPoint 48 = .ok (.iconst 0, 1) := by decide +kernel
theorem dX6_haveCommonPoint_49 : decode cX6_haveCommonPoint 49 = .ok (.ireturn, 1) := by decide +kernel
theorem dX6_meet_0 : decode cX6_meet 0 = .ok (.aload_n 0, 1) := by decide +kernel
theorem dX6_meet_1 : decode cX6_meet 1 = .ok (.iload_n 2, 1) := by decide +kernel
theorem dX6_meet_2 : decode cX6_meet 2 = .ok (.iaload, 1) := by decide +kernel
theorem dX6_meet_3 : decode cX6_meet 3 = .ok (.aload_n 0, 1) := by decide +kernel
theorem dX6_meet_4 : decode cX6_meet 4 = .ok (.iload_n 3, 1) := by decide +kernel
theorem dX6_meet_5 : decode cX6_meet 5 = .ok (.iaload, 1) := by decide +kernel
theorem dX6_meet_6 : decode cX6_meet 6 = .ok (.invokestatic 279, 3) := by decide +kernel
theorem dX6_meet_9 : decode cX6_meet 9 = .ok (.istore 4, 2) := by decide +kernel
theorem dX6_meet_11 : decode cX6_meet 11 = .ok (.aload_n 0, 1) := by decide +kernel
theorem dX6_meet_12 : decode cX6_meet 12 = .ok (.iload_n 2, 1) := by decide +kernel
theorem dX6_meet_13 : decode cX6_meet 13 = .ok (.iaload, 1) := by decide +kernel
theorem dX6_meet_14 : decode cX6_meet 14 = .ok (.aload_n 1, 1) := by decide +kernel
theorem dX6_meet_15 : decode cX6_meet 15 = .ok (.iload_n 2, 1) := by decide +kernel
theorem dX6_meet_16 : decode cX6_meet 16 = .ok (.iaload, 1) := by decide +kernel
theorem dX6_meet_17 : decode cX6_meet 17 = .ok (.iadd, 1) := by decide +kernel
theorem dX6_meet_18 : decode cX6_meet 18 = .ok (.aload_n 0, 1) := by decide +kernel
theorem dX6_meet_19 : decode cX6_meet 19 = .ok (.iload_n 3, 1) := by decide +kernel
theorem dX6_meet_20 : decode cX6_meet 20 = .ok (.iaload, 1) := by decide +kernel
theorem dX6_meet_21 : decode cX6_meet 21 = .ok (.aload_n 1, 1) := by decide +kernel
theorem dX6_meet_22 : decode cX6_meet 22 = .ok (.iload_n 3, 1) := by decide +kernel
theorem dX6_meet_23 : decode cX6_meet 23 = .ok (.iaload, 1) := by decide +kernel
theorem dX6_meet_24 : decode cX6_meet 24 = .ok (.iadd, 1) := by decide +kernel
theorem dX6_meet_25 : decode cX6_meet 25 = .ok (.invokestatic 285, 3) := by decide +kernel
theorem dX6_meet_28 : decode cX6_meet 28 = .ok (.istore 5, 2) := by decide +kernel
theorem dX6_meet_30 : decode cX6_meet 30 = .ok (.iload 4, 2) := by decide +kernel
theorem dX6_meet_32 : decode cX6_meet 32 = .ok (.iload 5, 2) := by decide +kernel
theorem dX6_meet_34 : decode cX6_meet 34 = .ok (.if_icmp .ge 7, 3) := by decide +kernel
theorem dX6_meet_37 : decode cX6_meet 37 = .ok (.iconst 1, 1) := by decide +kernel
theorem dX6_meet_38 : decode cX6_meet 38 = .ok (.goto 4, 3) := by decide +kernel
theorem dX6_meet_41 : decode cX6_meet 41 = .ok (.iconst 0, 1) := by decide +kernel
theorem dX6_meet_42 : decode cX6_meet 42 = .ok (.ireturn, 1) := by decide +kernel
theorem dX6_isWithin_0 : decode cX6_isWithin 0 = .ok (.iload_n 0, 1) := by decide +kernel
theorem dX6_isWithin_1 : decode cX6_isWithin 1 = .ok (.iload_n 1, 1) := by decide +kernel
theorem dX6_isWithin_2 : decode cX6_isWithin 2 = .ok (.if_icmp .lt 12, 3) := by decide +kernel
theorem dX6_isWithin_5 : decode cX6_isWithin 5 = .ok (.iload_n 0, 1) := by decide +kernel
theorem dX6_isWithin_6 : decode cX6_isWithin 6 = .ok (.iload_n 2, 1) := by decide +kernel
theorem dX6_isWithin_7 : decode cX6_isWithin 7 = .ok (.if_icmp .gt 7, 3) := by decide +kernel
theorem dX6_isWithin_10 : decode cX6_isWithin 10 = .ok (.iconst 1, 1) := by decide +kernel
theorem dX6_isWithin_11 : decode cX6_isWithin 11 = .ok (.goto 4, 3) := by decide +kernel
theorem dX6_isWithin_14 : decode cX6_isWithin 14 = .ok (.iconst 0, 1) := by decide +kernel
theorem dX6_isWithin_15 : decode cX6_isWithin 15 = .ok (.ireturn, 1) := by decide +kernel
theorem dX6_canHave_0 : decode cX6_canHave 0 = .ok (.iload_n 0, 1) := by decide +kernel
theorem dX6_canHave_1 : decode cX6_canHave 1 = .ok (.iconst 0, 1) := by decide +kernel
theorem dX6_canHave_2 : decode cX6_canHave 2 = .ok (.bipush 9, 2) := by decide +kernel
theorem dX6_canHave_4 : decode cX6_canHave 4 = .ok (.invokestatic 58, 3) := by decide +kernel
theorem dX6_canHave_7 : decode cX6_canHave 7 = .ok (.ifCond .eq 24, 3) := by decide +kernel
theorem dX6_canHave_10 : decode cX6_canHave 10 = .ok (.iload_n 1, 1) := by decide +kernel
theorem dX6_canHave_11 : decode cX6_canHave 11 = .ok (.getstatic 288, 3) := by decide +kernel
theorem dX6_canHave_14 : decode cX6_canHave 14 = .ok (.iload_n 0, 1) := by decide +kernel
theorem dX6_canHave_15 : decode cX6_canHave 15 = .ok (.iaload, 1) := by decide +kernel
theorem dX6_canHave_16 : decode cX6_canHave 16 = .ok (.getstatic 291, 3) := by decide +kernel
theorem dX6_canHave_19 : decode cX6_canHave 19 = .ok (.iload_n 0, 1) := by decide +kernel
theorem dX6_canHave_20 : decode cX6_canHave 20 = .ok (.iaload, 1) := by decide +kernel
theorem dX6_canHave_21 : decode cX6_canHave 21 = .ok (.invokestatic 58, 3) := by decide +kernel
theorem dX6_canHave_24 : decode cX6_canHave 24 = .ok (.ifCond .eq 7, 3) := by decide +kernel
theorem dX6_canHave_27 : decode cX6_canHave 27 = .ok (.iconst 1, 1) := by decide +kernel
theorem dX6_canHave_28 : decode cX6_canHave 28 = .ok (.goto 4, 3) := by decide +kernel
theorem dX6_canHave_31 : decode cX6_canHave 31 = .ok (.iconst 0, 1) := by decide +kernel
theorem dX6_canHave_32 : decode cX6_canHave 32 = .ok (.ireturn, 1) := by decide +kernel
theorem dX6_canBeWeight_0 : decode cX6_canBeWeight 0 = .ok (.iload_n 0, 1) := by decide +kernel
theorem dX6_canBeWeight_1 : decode cX6_canBeWeight 1 = .ok (.iconst 0, 1) := by decide +kernel
theorem dX6_canBeWeight_2 : decode cX6_canBeWeight 2 = .ok (.iconst 3, 1) := by decide +kernel
theorem dX6_canBeWeight_3 : decode cX6_canBeWeight 3 = .ok (.invokestatic 58, 3) := by decide +kernel
theorem dX6_canBeWeight_6 : decode cX6_canBeWeight 6 = .ok (.ifCond .ne 8, 3) := by decide +kernel
theorem dX6_canBeWeight_9 : decode cX6_canBeWeight 9 = .ok (.iload_n 0, 1) := by decide +kernel
theorem dX6_canBeWeight_10 : decode cX6_canBeWeight 10 = .ok (.iconst 5, 1) := by decide +kernel
theorem dX6_canBeWeight_11 : decode cX6_canBeWeight 11 = .ok (.if_icmp .ne 7, 3) := by decide +kernel
theorem dX6_canBeWeight_14 : decode cX6_canBeWeight 14 = .ok (.iconst 1, 1) := by decide +kernel
theorem dX6_canBeWeight_15 : decode cX6_canBeWeight 15 = .ok (.goto 4, 3) := by decide +kernel
theorem dX6_canBeWeight_18 : decode cX6_canBeWeight 18 = .ok (.iconst 0, 1) := by decide +kernel
theorem dX6_canBeWeight_19 : decode cX6_canBeWeight 19 = .ok (.ireturn, 1) := by decide +kernel
theorem dX6_offset_0 : decode cX6_offset 0 = .ok (.iload_n 0, 1) := by decide +kernel
theorem dX6_offset_1 : decode cX6_offset 1 = .ok (.istore 4, 2) := by decide +kernel
theorem dX6_offset_3 : decode cX6_offset 3 = .ok (.iload_n 1, 1) := by decide +kernel
theorem dX6_offset_4 : decode cX6_offset 4 = .ok (.ifCond .ge 11, 3) := by decide +kernel
theorem dX6_offset_7 : decode cX6_offset 7 = .ok (.iload_n 0, 1) := by decide +kernel
theorem dX6_offset_8 : decode cX6_offset 8 = .ok (.iconst 3, 1) := by decide +kernel
theorem dX6_offset_9 : decode cX6_offset 9 = .ok (.if_icmp .ne 6, 3) := by decide +kernel
theorem dX6_offset_12 : decode cX6_offset 12 = .ok (.iconst 0, 1) := by decide +kernel
theorem dX6_offset_13 : decode cX6_offset 13 = .ok (.istore 4, 2) := by decide +kernel
theorem dX6_offset_15 : decode cX6_offset 15 = .ok (.iload_n 1, 1) := by decide +kernel
theorem dX6_offset_16 : decode cX6_offset 16 = .ok (.ifCond .ge 11, 3) := by decide +kernel
theorem dX6_offset_19 : decode cX6_offset 19 = .ok (.iload_n 0, 1) := by decide +kernel
theorem dX6_offset_20 : decode cX6_offset 20 = .ok (.iconst 3, 1) := by decide +kernel
theorem dX6_offset_21 : decode cX6_offset 21 = .ok (.if_icmp .le 6, 3) := by decide +kernel
theorem dX6_offset_24 : decode cX6_offset 24 = .ok (.iconst 2, 1) := by decide +kernel
theorem dX6_offset_25 : decode cX6_offset 25 = .ok (.istore 4, 2) := by decide +kernel
theorem dX6_offset_27 : decode cX6_offset 27 = .ok (.iload 4, 2) := by decide +kernel
theorem dX6_offset_29 : decode cX6_offset 29 = .ok (.tableswitch 98 1 5 #[35, 37, 43, 60, 80], 35) := by decide +kernel
theorem dX6_offset_64 : decode cX6_offset 64 = .ok (.iload_n 1, 1) := by decide +kernel
theorem dX6_offset_65 : decode cX6_offset 65 = .ok (.ireturn, 1) := by decide +kernel
theorem dX6_offset_66 : decode cX6_offset 66 = .ok (.iload_n 1, 1) := by decide +kernel
theorem dX6_offset_67 : decode cX6_offset 67 = .ok (.iconst 2, 1) := by decide +kernel
theorem dX6_offset_68 : decode cX6_offset 68 = .ok (.invokestatic 294, 3) := by decide +kernel
theorem dX6_offset_71 : decode cX6_offset 71 = .ok (.ireturn, 1) := by decide +kernel
theorem dX6_offset_72 : decode cX6_offset 72 = .ok (.iload_n 3, 1) := by decide +kernel
theorem dX6_offset_73 : decode cX6_offset 73 = .ok (.iconst 1, 1) := by decide +kernel
theorem dX6_offset_74 : decode cX6_offset 74 = .ok (.if_icmp .le 13, 3) := by decide +kernel
theorem dX6_offset_77 : decode cX6_offset 77 = .ok (.iload_n 1, 1) := by decide +kernel
theorem dX6_offset_78 : decode cX6_offset 78 = .ok (.iload_n 2, 1) := by decide +kernel
theorem dX6_offset_79 : decode cX6_offset 79 = .ok (.imul, 1) := by decide +kernel
theorem dX6_offset_80 : decode cX6_offset 80 = .ok (.iload_n 3, 1) := by decide +kernel
theorem dX6_offset_81 : decode cX6_offset 81 = .ok (.iconst 1, 1) := by decide +kernel
theorem dX6_offset_82 : decode cX6_offset 82 = .ok (.isub, 1) := by decide +kernel
theorem dX6_offset_83 : decode cX6_offset 83 = .ok (.idiv, 1) := by decide +kernel
theorem dX6_offset_84 : decode cX6_offset 84 = .ok (.goto 4, 3) := by decide +kernel
theorem dX6_offset_87 : decode cX6_offset 87 = .ok (.iconst 0, 1) := by decide +kernel
theorem dX6_offset_88 : decode cX6_offset 88 = .ok (.ireturn, 1) := by decide +kernel
theorem dX6_offset_89 : decode cX6_offset 89 = .ok (.iload_n 3, 1) := by decide +kernel
theorem dX6_offset_90 : decode cX6_offset 90 = .ok (.ifCond .le 17, 3) := by decide +kernel
theorem dX6_offset_93 : decode cX6_offset 93 = .ok (.iload_n 1, 1) := by decide +kernel
theorem dX6_offset_94 : decode cX6_offset 94 = .ok (.iconst 2, 1) := by decide +kernel
theorem dX6_offset_95 : decode cX6_offset 95 = .ok (.iload_n 2, 1) := by decide +kernel
theorem dX6_offset_96 : decode cX6_offset 96 = .ok (.imul, 1) := by decide +kernel
theorem dX6_offset_97 : decode cX6_offset 97 = .ok (.iconst 1, 1) := by decide +kernel
theorem dX6_offset_98 : decode cX6_offset 98 = .ok (.iadd, 1) := by decide +kernel
theorem dX6_offset_99 : decode cX6_offset 99 = .ok (.imul, 1) := by decide +kernel
theorem dX6_offset_100 : decode cX6_offset 100 = .ok (.iconst 2, 1) := by decide +kernel
theorem dX6_offset_101 : decode cX6_offset 101 = .ok (.iload_n 3, 1) := by decide +kernel
theorem dX6_offset_102 : decode cX6_offset 102 = .ok (.imul, 1) := by decide +kernel
theorem dX6_offset_103 : decode cX6_offset 103 = .ok (.idiv, 1) := by decide +kernel
theorem dX6_offset_104 : decode cX6_offset 104 = .ok (.goto 4, 3) := by decide +kernel
theorem dX6_offset_107 : decode cX6_offset 107 = .ok (.iconst 0, 1) := by decide +kernel
theorem dX6_offset_108 : decode cX6_offset 108 = .ok (.ireturn, 1) := by decide +kernel
theorem dX6_offset_109 : decode cX6_offset 109 = .ok (.iload_n 3, 1) := by decide +kernel
theorem dX6_offset_110 : decode cX6_offset 110 = .ok (.ifCond .le 15, 3) := by decide +kernel
theorem dX6_offset_113 : decode cX6_offset 113 = .ok (.iload_n 1, 1) := by decide +kernel
theorem dX6_offset_114 : decode cX6_offset 114 = .ok (.iload_n 2, 1) := by decide +kernel
theorem dX6_offset_115 : decode cX6_offset 115 = .ok (.iconst 1, 1) := by decide +kernel
theorem dX6_offset_116 : decode cX6_offset 116 = .ok (.iadd, 1) := by decide +kernel
theorem dX6_offset_117 : decode cX6_offset 117 = .ok (.imul, 1) := by decide +kernel
theorem dX6_offset_118 : decode cX6_offset 118 = .ok (.iload_n 3, 1) := by decide +kernel
theorem dX6_offset_119 : decode cX6_offset 119 = .ok (.iconst 1, 1) := by decide +kernel
theorem dX6_offset_120 : decode cX6_offset 120 = .ok (.iadd, 1) := by decide +kernel
theorem dX6_offset_121 : decode cX6_offset 121 = .ok (.idiv, 1) := by decide +kernel
theorem dX6_offset_122 : decode cX6_offset 122 = .ok (.goto 4, 3) := by decide +kernel
theorem dX6_offset_125 : decode cX6_offset 125 = .ok (.iconst 0, 1) := by decide +kernel
theorem dX6_offset_126 : decode cX6_offset 126 = .ok (.ireturn, 1) := by decide +kernel
theorem dX6_offset_127 : decode cX6_offset 127 = .ok (.iconst 0, 1) := by decide +kernel
theorem dX6_offset_128 : decode cX6_offset 128 = .ok (.ireturn, 1) := by decide +kernel
theorem dX7_init_0 : decode cX7_init 0 = .ok (.aload_n 0, 1) := by decide +kernel
theorem dX7_init_1 : decode cX7_init 1 = .ok (.invokespecial 1, 3) := by decide +kernel
theorem dX7_init_4 : decode cX7_init 4 = .ok (.aload_n 0, 1) := by decide +kernel
theorem dX7_init_5 : decode cX7_init 5 = .ok (.bipush 9, 2) := by decide +kernel
theorem dX7_init_7 : decode cX7_init 7 = .ok (.newarray .int, 2) := by decide +kernel
theorem dX7_init_9 : decode cX7_init 9 = .ok (.dup, 1) := by decide +kernel
theorem dX7_init_10 : decode cX7_init 10 = .ok (.iconst 0, 1) := by decide +kernel
theorem dX7_init_11 : decode cX7_init 11 = .ok (.bipush 100, 2) := by decide +kernel
theorem dX7_init_13 : decode cX7_init 13 = .ok (.iastore, 1) := by decide +kernel
theorem dX7_init_14 : decode cX7_init 14 = .ok (.dup, 1) := by decide +kernel
theorem dX7_init_15 : decode cX7_init 15 = .ok (.iconst 1, 1) := by decide +kernel
theorem dX7_init_16 : decode cX7_init 16 = .ok (.iconst (-1), 1) := by decide +kernel
theorem dX7_init_17 : decode cX7_init 17 = .ok (.iastore, 1) := by decide +kernel
theorem dX7_init_18 : decode cX7_init 18 = .ok (.dup, 1) := by decide +kernel
theorem dX7_init_19 : decode cX7_init 19 = .ok (.iconst 2, 1) := by decide +kernel
theorem dX7_init_20 : decode cX7_init 20 = .ok (.iconst 0, 1) := by decide +kernel
theorem dX7_init_21 : decode cX7_init 21 = .ok (.iastore, 1) := by decide +kernel
theorem dX7_init_22 : decode cX7_init 22 = .ok (.dup, 1) := by decide +kernel
theorem dX7_init_23 : decode cX7_init 23 = .ok (.iconst 3, 1) := by decide +kernel
theorem dX7_init_24 : decode cX7_init 24 = .ok (.iconst 0, 1) := by decide +kernel
theorem dX7_init_25 : decode cX7_init 25 = .ok (.iastore, 1) := by decide +kernel
theorem dX7_init_26 : decode cX7_init 26 = .ok (.dup, 1) := by decide +kernel
theorem dX7_init_27 : decode cX7_init 27 = .ok (.iconst 4, 1) := by decide +kernel
theorem dX7_init_28 : decode cX7_init 28 = .ok (.iconst 0, 1) := by decide +kernel
theorem dX7_init_29 : decode cX7_init 29 = .ok (.iastore, 1) := by decide +kernel
theorem dX7_init_30 : decode cX7_init 30 = .ok (.dup, 1) := by decide +kernel
theorem dX7_init_31 : decode cX7_init 31 = .ok (.iconst 5, 1) := by decide +kernel
theorem dX7_init_32 : decode cX7_init 32 = .ok (.iconst 0, 1) := by decide +kernel
theorem dX7_init_33 : decode cX7_init 33 = .ok (.iastore, 1) := by decide +kernel
theorem dX7_init_34 : decode cX7_init 34 = .ok (.dup, 1) := by decide +kernel
theorem dX7_init_35 : decode cX7_init 35 = .ok (.bipush 6, 2) := by decide +kernel
theorem dX7_init_37 : decode cX7_init 37 = .ok (.iconst 0, 1) := by decide +kernel
theorem dX7_init_38 : decode cX7_init 38 = .ok (.iastore, 1) := by decide +kernel
theorem dX7_init_39 : decode cX7_init 39 = .ok (.dup, 1) := by decide +kernel
theorem dX7_init_40 : decode cX7_init 40 = .ok (.bipush 7, 2) := by decide +kernel
theorem dX7_init_42 : decode cX7_init 42 = .ok (.iconst 0, 1) := by decide +kernel
theorem dX7_init_43 : decode cX7_init 43 = .ok (.iastore, 1) := by decide +kernel
theorem dX7_init_44 : decode cX7_init 44 = .ok (.dup, 1) := by decide +kernel
theorem dX7_init_45 : decode cX7_init 45 = .ok (.bipush 8, 2) := by decide +kernel
theorem dX7_init_47 : decode cX7_init 47 = .ok (.iconst 0, 1) := by decide +kernel
theorem dX7_init_48 : decode cX7_init 48 = .ok (.iastore, 1) := by decide +kernel
theorem dX7_init_49 : decode cX7_init 49 = .ok (.putfield 9, 3) := by decide +kernel
theorem dX7_init_52 : decode cX7_init 52 = .ok (.aload_n 0, 1) := by decide +kernel
theorem dX7_init_53 : decode cX7_init 53 = .ok (.sipush 200, 3) := by decide +kernel
theorem dX7_init_56 : decode cX7_init 56 = .ok (.newarray .int, 2) := by decide +kernel
theorem dX7_init_58 : decode cX7_init 58 = .ok (.putfield 13, 3) := by decide +kernel
theorem dX7_init_61 : decode cX7_init 61 = .ok (.aload_n 0, 1) := by decide +kernel
theorem dX7_init_62 : decode cX7_init 62 = .ok (.bipush 80, 2) := by decide +kernel
theorem dX7_init_64 : decode cX7_init 64 = .ok (.newarray .char, 2) := by decide +kernel
theorem dX7_init_66 : decode cX7_init 66 = .ok (.putfield 16, 3) := by decide +kernel
theorem dX7_init_69 : decode cX7_init 69 = .ok (.aload_n 0, 1) := by decide +kernel
theorem dX7_init_70 : decode cX7_init 70 = .ok (.bipush 40, 2) := by decide +kernel
theorem dX7_init_72 : decode cX7_init 72 = .ok (.newarray .int, 2) := by decide +kernel
theorem dX7_init_74 : decode cX7_init 74 = .ok (.putfield 20, 3) := by decide +kernel
theorem dX7_init_77 : decode cX7_init 77 = .ok (.aload_n 0, 1) := by decide +kernel
theorem dX7_init_78 : decode cX7_init 78 = .ok (.bipush 40, 2) := by decide +kernel
theorem dX7_init_80 : decode cX7_init 80 = .ok (.newarray .int, 2) := by decide +kernel
theorem dX7_init_82 : decode cX7_init 82 = .ok (.putfield 23, 3) := by decide +kernel
theorem dX7_init_85 : decode cX7_init 85 = .ok (.aload_n 0, 1) := by decide +kernel
theorem dX7_init_86 : decode cX7_init 86 = .ok (.bipush 40, 2) := by decide +kernel
theorem dX7_init_88 : decode cX7_init 88 = .ok (.newarray .int, 2) := by decide +kernel
theorem dX7_init_90 : decode cX7_init 90 = .ok (.putfield 26, 3) := by decide +kernel
theorem dX7_init_93 : decode cX7_init 93 = .ok (.aload_n 0, 1) := by decide +kernel
theorem dX7_init_94 : decode cX7_init 94 = .ok (.bipush 20, 2) := by decide +kernel
theorem dX7_init_96 : decode cX7_init 96 = .ok (.newarray .long, 2) := by decide +kernel
theorem dX7_init_98 : decode cX7_init 98 = .ok (.putfield 29, 3) := by decide +kernel
theorem dX7_init_101 : decode cX7_init 101 = .ok (.aload_n 0, 1) := by decide +kernel
theorem dX7_init_102 : decode cX7_init 102 = .ok (.bipush 20, 2) := by decide +kernel
theorem dX7_init_104 : decode cX7_init 104 = .ok (.newarray .long, 2) := by decide +kernel
theorem dX7_init_106 : decode cX7_init 106 = .ok (.putfield 33, 3) := by decide +kernel
theorem dX7_init_109 : decode cX7_init 109 = .ok (.aload_n 0, 1) := by decide +kernel
theorem dX7_init_110 : decode cX7_init 110 = .ok (.bipush 20, 2) := by decide +kernel
theorem dX7_init_112 : decode cX7_init 112 = .ok (.newarray .long, 2) := by decide +kernel
theorem dX7_init_114 : decode cX7_init 114 = .ok (.putfield 36, 3) := by decide +kernel
theorem dX7_init_117 : decode cX7_init 117 = .ok (.aload_n 0, 1) := by decide +kernel
theorem dX7_init_118 : decode cX7_init 118 = .ok (.bipush 20, 2) := by decide +kernel
theorem dX7_init_120 : decode cX7_init 120 = .ok (.newarray .int, 2) := by decide +kernel
theorem dX7_init_122 : decode cX7_init 122 = .ok (.putfield 39, 3) := by decide +kernel
theorem dX7_init_125 : decode cX7_init 125 = .ok (.aload_n 0, 1) := by decide +kernel
theorem dX7_init_126 : decode cX7_init 126 = .ok (.bipush 20, 2) := by decide +kernel
theorem dX7_init_128 : decode cX7_init 128 = .ok (.newarray .int, 2) := by decide +kernel
theorem dX7_init_130 : decode cX7_init 130 = .ok (.putfield 42, 3) := by decide +kernel
theorem dX7_init_133 : decode cX7_init 133 = .ok (.aload_n 0, 1) := by decide +kernel
theorem dX7_init_134 : decode cX7_init 134 = .ok (.bipush 20, 2) := by decide +kernel
theorem dX7_init_136 : decode cX7_init 136 = .ok (.newarray .int, 2) := by decide +kernel
theorem dX7_init_138 : decode cX7_init 138 = .ok (.putfield 45, 3) := by decide +kernel
theorem dX7_init_141 : decode cX7_init 141 = .ok (.aload_n 0, 1) := by decide +kernel
theorem dX7_init_142 : decode cX7_init 142 = .ok (.bipush 20, 2) := by decide +kernel
theorem dX7_init_144 : decode cX7_init 144 = .ok (.newarray .int, 2) := by decide +kernel
theorem dX7_init_146 : decode cX7_init 146 = .ok (.putfield 48, 3) := by decide +kernel
theorem dX7_init_149 : decode cX7_init 149 = .ok (.aload_n 0, 1) := by decide +kernel
theorem dX7_init_150 : decode cX7_init 150 = .ok (.bipush 20, 2) := by decide +kernel
theorem dX7_init_152 : decode cX7_init 152 = .ok (.newarray .int, 2) := by decide +kernel
theorem dX7_init_154 : decode cX7_init 154 = .ok (.putfield 51, 3) := by decide +kernel
theorem dX7_init_157 : decode cX7_init 157 = .ok (.aload_n 0, 1) := by decide +kernel
theorem dX7_init_158 : decode cX7_init 158 = .ok (.bipush 20, 2) := by decide +kernel
theorem dX7_init_160 : decode cX7_init 160 = .ok (.newarray .int, 2) := by decide +kernel
theorem dX7_init_162 : decode cX7_init 162 = .ok (.putfield 54, 3) := by decide +kernel
theorem dX7_init_165 : decode cX7_init 165 = .ok (.aload_n 0, 1) := by decide +kernel
theorem dX7_init_166 : decode cX7_init 166 = .ok (.bipush 20, 2) := by decide +kernel
theorem dX7_init_168 : decode cX7_init 168 = .ok (.newarray .int, 2) := by decide +kernel
theorem dX7_init_170 : decode cX7_init 170 = .ok (.putfield 57, 3) := by decide +kernel
theorem dX7_init_173 : decode cX7_init 173 = .ok (.aload_n 0, 1) := by decide +kernel
theorem dX7_init_174 : decode cX7_init 174 = .ok (.bipush 20, 2) := by decide +kernel
theorem dX7_init_176 : decode cX7_init 176 = .ok (.newarray .boolean, 2) := by decide +kernel
theorem dX7_init_178 : decode cX7_init 178 = .ok (.putfield 60, 3) := by decide +kernel
theorem dX7_init_181 : decode cX7_init 181 = .ok (.aload_n 0, 1) := by decide +kernel
theorem dX7_init_182 : decode cX7_init 182 = .ok (.bipush 20, 2) := by decide +kernel
theorem dX7_init_184 : decode cX7_init 184 = .ok (.newarray .int, 2) := by decide +kernel
theorem dX7_init_186 : decode cX7_init 186 = .ok (.putfield 64, 3) := by decide +kernel
theorem dX7_init_189 : decode cX7_init 189 = .ok (.aload_n 0, 1) := by decide +kernel
theorem dX7_init_190 : decode cX7_init 190 = .ok (.bipush 20, 2) := by decide +kernel
theorem dX7_init_192 : decode cX7_init 192 = .ok (.newarray .int, 2) := by decide +kernel
theorem dX7_init_194 : decode cX7_init 194 = .ok (.putfield 67, 3) := by decide +kernel
theorem dX7_init_197 : decode cX7_init 197 = .ok (.aload_n 0, 1) := by decide +kernel
theorem dX7_init_198 : decode cX7_init 198 = .ok (.bipush 20, 2) := by decide +kernel
theorem dX7_init_200 : decode cX7_init 200 = .ok (.newarray .int, 2) := by decide +kernel
theorem dX7_init_202 : decode cX7_init 202 = .ok (.putfield 70, 3) := by decide +kernel
theorem dX7_init_205 : decode cX7_init 205 = .ok (.aload_n 0, 1) := by decide +kernel
theorem dX7_init_206 : decode cX7_init 206 = .ok (.bipush 20, 2) := by decide +kernel
theorem dX7_init_208 : decode cX7_init 208 = .ok (.newarray .int, 2) := by decide +kernel
theorem dX7_init_210 : decode cX7_init 210 = .ok (.putfield 73, 3) := by decide +kernel
theorem dX7_init_213 : decode cX7_init 213 = .ok (.aload_n 0, 1) := by decide +kernel
theorem dX7_init_214 : decode cX7_init 214 = .ok (.bipush 20, 2) := by decide +kernel
theorem dX7_init_216 : decode cX7_init 216 = .ok (.newarray .int, 2) := by decide +kernel
theorem dX7_init_218 : decode cX7_init 218 = .ok (.putfield 76, 3) := by decide +kernel
theorem dX7_init_221 : decode cX7_init 221 = .ok (.aload_n 0, 1) := by decide +kernel
theorem dX7_init_222 : decode cX7_init 222 = .ok (.bipush 20, 2) := by decide +kernel
theorem dX7_init_224 : decode cX7_init 224 = .ok (.newarray .int, 2) := by decide +kernel
theorem dX7_init_226 : decode cX7_init 226 = .ok (.putfield 79, 3) := by decide +kernel
theorem dX7_init_229 : decode cX7_init 229 = .ok (.aload_n 0, 1) := by decide +kernel
theorem dX7_init_230 : decode cX7_init 230 = .ok (.bipush 20, 2) := by decide +kernel
theorem dX7_init_232 : decode cX7_init 232 = .ok (.newarray .int, 2) := by decide +kernel
theorem dX7_init_234 : decode cX7_init 234 = .ok (.putfield 82, 3) := by decide +kernel
theorem dX7_init_237 : decode cX7_init 237 = .ok (.aload_n 0, 1) := by decide +kernel
theorem dX7_init_238 : decode cX7_init 238 = .ok (.bipush 20, 2) := by decide +kernel
theorem dX7_init_240 : decode cX7_init 240 = .ok (.newarray .int, 2) := by decide +kernel
theorem dX7_init_242 : decode cX7_init 242 = .ok (.putfield 85, 3) := by decide +kernel
theorem dX7_init_245 : decode cX7_init 245 = .ok (.aload_n 0, 1) := by decide +kernel
theorem dX7_init_246 : decode cX7_init 246 = .ok (.bipush 20, 2) := by decide +kernel
theorem dX7_init_248 : decode cX7_init 248 = .ok (.newarray .int, 2) := by decide +kernel
theorem dX7_init_250 : decode cX7_init 250 = .ok (.putfield 88, 3) := by decide +kernel
theorem dX7_init_253 : decode cX7_init 253 = .ok (.aload_n 0, 1) := by decide +kernel
theorem dX7_init_254 : decode cX7_init 254 = .ok (.sipush 210, 3) := by decide +kernel
theorem dX7_init_257 : decode cX7_init 257 = .ok (.newarray .int, 2) := by decide +kernel
theorem dX7_init_259 : decode cX7_init 259 = .ok (.putfield 91, 3) := by decide +kernel
theorem dX7_init_262 : decode cX7_init 262 = .ok (.aload_n 0, 1) := by decide +kernel
theorem dX7_init_263 : decode cX7_init 263 = .ok (.iconst (-1), 1) := by decide +kernel
theorem dX7_init_264 : decode cX7_init 264 = .ok (.putfield 94, 3) := by decide +kernel
theorem dX7_init_267 : decode cX7_init 267 = .ok (.return_, 1) := by decide +kernel
theorem dX7_thrown_0 : decode cX7_thrown 0 = .ok (.aload_n 0, 1) := by decide +kernel
theorem dX7_thrown_1 : decode cX7_thrown 1 = .ok (.getfield 98, 3) := by decide +kernel
theorem dX7_thrown_4 : decode cX7_thrown 4 = .ok (.ireturn, 1) := by decide +kernel
theorem dX7_fails_0 : decode cX7_fails 0 = .ok (.aload_n 0, 1) := by decide +kernel
theorem dX7_fails_1 : decode cX7_fails 1 = .ok (.iload_n 1, 1) := by decide +kernel
theorem dX7_fails_2 : decode cX7_fails 2 = .ok (.putfield 98, 3) := by decide +kernel
theorem dX7_fails_5 : decode cX7_fails 5 = .ok (.iconst 0, 1) := by decide +kernel
theorem dX7_fails_6 : decode cX7_fails 6 = .ok (.ireturn, 1) := by decide +kernel
theorem dX7_isBetween_0 : decode cX7_isBetween 0 = .ok (.lload_n 0, 1) := by decide +kernel
theorem dX7_isBetween_1 : decode cX7_isBetween 1 = .ok (.lload_n 2, 1) := by decide +kernel
theorem dX7_isBetween_2 : decode cX7_isBetween 2 = .ok (.lcmp, 1) := by decide +kernel
theorem dX7_isBetween_3 : decode cX7_isBetween 3 = .ok (.ifCond .lt 14, 3) := by decide +kernel
theorem dX7_isBetween_6 : decode cX7_isBetween 6 = .ok (.lload_n 0, 1) := by decide +kernel
theorem dX7_isBetween_7 : decode cX7_isBetween 7 = .ok (.lload 4, 2) := by decide +kernel
theorem dX7_isBetween_9 : decode cX7_isBetween 9 = .ok (.lcmp, 1) := by decide +kernel
theorem dX7_isBetween_10 : decode cX7_isBetween 10 = .ok (.ifCond .gt 7, 3) := by decide +kernel
theorem dX7_isBetween_13 : decode cX7_isBetween 13 = .ok (.iconst 1, 1) := by decide +kernel
theorem dX7_isBetween_14 : decode cX7_isBetween 14 = .ok (.goto 4, 3) := by decide +kernel
theorem dX7_isBetween_17 : decode cX7_isBetween 17 = .ok (.iconst 0, 1) := by decide +kernel
theorem dX7_isBetween_18 : decode cX7_isBetween 18 = .ok (.ireturn, 1) := by decide +kernel
theorem dX7_replaces_0 : decode cX7_replaces 0 = .ok (.aload_n 0, 1) := by decide +kernel
theorem dX7_replaces_1 : decode cX7_replaces 1 = .ok (.iconst 0, 1) := by decide +kernel
theorem dX7_replaces_2 : decode cX7_replaces 2 = .ok (.putfield 98, 3) := by decide +kernel
theorem dX7_replaces_5 : decode cX7_replaces 5 = .ok (.aload_n 0, 1) := by decide +kernel
theorem dX7_replaces_6 : decode cX7_replaces 6 = .ok (.getfield 9, 3) := by decide +kernel
theorem dX7_replaces_9 : decode cX7_replaces 9 = .ok (.iload_n 1, 1) := by decide +kernel
theorem dX7_replaces_10 : decode cX7_replaces 10 = .ok (.iaload, 1) := by decide +kernel
theorem dX7_replaces_11 : decode cX7_replaces 11 = .ok (.istore_n 3, 1) := by decide +kernel
theorem dX7_replaces_12 : decode cX7_replaces 12 = .ok (.aload_n 0, 1) := by decide +kernel
theorem dX7_replaces_13 : decode cX7_replaces 13 = .ok (.getfield 9, 3) := by decide +kernel
theorem dX7_replaces_16 : decode cX7_replaces 16 = .ok (.iload_n 1, 1) := by decide +kernel
theorem dX7_replaces_17 : decode cX7_replaces 17 = .ok (.iload_n 2, 1) := by decide +kernel
theorem dX7_replaces_18 : decode cX7_replaces 18 = .ok (.iastore, 1) := by decide +kernel
theorem dX7_replaces_19 : decode cX7_replaces 19 = .ok (.iload_n 3, 1) := by decide +kernel
theorem dX7_replaces_20 : decode cX7_replaces 20 = .ok (.ireturn, 1) := by decide +kernel
theorem dX7_setMainSize_0 : decode cX7_setMainSize 0 = .ok (.iload_n 1, 1) := by decide +kernel
theorem dX7_setMainSize_1 : decode cX7_setMainSize 1 = .ok (.i2l, 1) := by decide +kernel
theorem dX7_setMainSize_2 : decode cX7_setMainSize 2 = .ok (.lconst 0, 1) := by decide +kernel
theorem dX7_setMainSize_3 : decode cX7_setMainSize 3 = .ok (.ldc2_w 101, 3) := by decide +kernel
theorem dX7_setMainSize_6 : decode cX7_setMainSize 6 = .ok (.invokestatic 103, 3) := by decide +kernel
theorem dX7_setMainSize_9 : decode cX7_setMainSize 9 = .ok (.ifCond .eq 12, 3) := by decide +kernel
theorem dX7_setMainSize_12 : decode cX7_setMainSize 12 = .ok (.aload_n 0, 1) := by decide +kernel
theorem dX7_setMainSize_13 : decode cX7_setMainSize 13 = .ok (.iconst 0, 1) := by decide +kernel
theorem dX7_setMainSize_14 : decode cX7_setMainSize 14 = .ok (.iload_n 1, 1) := by decide +kernel
theorem dX7_setMainSize_15 : decode cX7_setMainSize 15 = .ok (.invokevirtual 107, 3) := by decide +kernel
theorem dX7_setMainSize_18 : decode cX7_setMainSize 18 = .ok (.goto 8, 3) := by decide +kernel
theorem dX7_setMainSize_21 : decode cX7_setMainSize 21 = .ok (.aload_n 0, 1) := by decide +kernel
theorem dX7_setMainSize_22 : decode cX7_setMainSize 22 = .ok (.iconst 1, 1) := by decide +kernel
theorem dX7_setMainSize_23 : decode cX7_setMainSize 23 = .ok (.invokevirtual 111, 3) := by decide +kernel
theorem dX7_setMainSize_26 : decode cX7_setMainSize 26 = .ok (.ireturn, 1) := by decide +kernel
theorem dX7_setCrossSize_0 : decode cX7_setCrossSize 0 = .ok (.iload_n 1, 1) := by decide +kernel
theorem dX7_setCrossSize_1 : decode cX7_setCrossSize 1 = .ok (.i2l, 1) := by decide +kernel
theorem dX7_setCrossSize_2 : decode cX7_setCrossSize 2 = .ok (.ldc2_w 115, 3) := by decide +kernel
theorem dX7_setCrossSize_5 : decode cX7_setCrossSize 5 = .ok (.ldc2_w 101, 3) := by decide +kernel
theorem dX7_setCrossSize_8 : decode cX7_setCrossSize 8 = .ok (.invokestatic 103, 3) := by decide +kernel
theorem dX7_setCrossSize_11 : decode cX7_setCrossSize 11 = .ok (.ifCond .eq 12, 3) := by decide +kernel
theorem dX7_setCrossSize_14 : decode cX7_setCrossSize 14 = .ok (.aload_n 0, 1) := by decide +kernel
theorem dX7_setCrossSize_15 : decode cX7_setCrossSize 15 = .ok (.iconst 1, 1) := by decide +kernel
theorem dX7_setCrossSize_16 : decode cX7_setCrossSize 16 = .ok (.iload_n 1, 1) := by decide +kernel
theorem dX7_setCrossSize_17 : decode cX7_setCrossSize 17 = .ok (.invokevirtual 107, 3) := by decide +kernel
theorem dX7_setCrossSize_20 : decode cX7_setCrossSize 20 = .ok (.goto 8, 3) := by decide +kernel
theorem dX7_setCrossSize_23 : decode cX7_setCrossSize 23 = .ok (.aload_n 0, 1) := by decide +kernel
theorem dX7_setCrossSize_24 : decode cX7_setCrossSize 24 = .ok (.iconst 1, 1) := by decide +kernel
theorem dX7_setCrossSize_25 : decode cX7_setCrossSize 25 = .ok (.invokevirtual 111, 3) := by decide +kernel
theorem dX7_setCrossSize_28 : decode cX7_setCrossSize 28 = .ok (.ireturn, 1) := by decide +kernel
theorem dX7_setGaps_0 : decode cX7_setGaps 0 = .ok (.iload_n 1, 1) := by decide +kernel
theorem dX7_setGaps_1 : decode cX7_setGaps 1 = .ok (.i2l, 1) := by decide +kernel
theorem dX7_setGaps_2 : decode cX7_setGaps 2 = .ok (.lconst 0, 1) := by decide +kernel
theorem dX7_setGaps_3 : decode cX7_setGaps 3 = .ok (.ldc2_w 117, 3) := by decide +kernel
theorem dX7_setGaps_6 : decode cX7_setGaps 6 = .ok (.invokestatic 103, 3) := by decide +kernel
theorem dX7_setGaps_9 : decode cX7_setGaps 9 = .ok (.ifCond .eq 15, 3) := by decide +kernel
theorem dX7_setGaps_12 : decode cX7_setGaps 12 = .ok (.iload_n 2, 1) := by decide +kernel
theorem dX7_setGaps_13 : decode cX7_setGaps 13 = .ok (.i2l, 1) := by decide +kernel
theorem dX7_setGaps_14 : decode cX7_setGaps 14 = .ok (.lconst 0, 1) := by decide +kernel
theorem dX7_setGaps_15 : decode cX7_setGaps 15 = .ok (.ldc2_w 117, 3) := by decide +kernel
theorem dX7_setGaps_18 : decode cX7_setGaps 18 = .ok (.invokestatic 103, 3) := by decide +kernel
theorem dX7_setGaps_21 : decode cX7_setGaps 21 = .ok (.ifCond .ne 9, 3) := by decide +kernel
theorem dX7_setGaps_24 : decode cX7_setGaps 24 = .ok (.aload_n 0, 1) := by decide +kernel
theorem dX7_setGaps_25 : decode cX7_setGaps 25 = .ok (.iconst 1, 1) := by decide +kernel
theorem dX7_setGaps_26 : decode cX7_setGaps 26 = .ok (.invokevirtual 111, 3) := by decide +kernel
theorem dX7_setGaps_29 : decode cX7_setGaps 29 = .ok (.ireturn, 1) := by decide +kernel
theorem dX7_setGaps_30 : decode cX7_setGaps 30 = .ok (.bipush 100, 2) := by decide +kernel
theorem dX7_setGaps_32 : decode cX7_setGaps 32 = .ok (.aload_n 0, 1) := by decide +kernel
theorem dX7_setGaps_33 : decode cX7_setGaps 33 = .ok (.iconst 2, 1) := by decide +kernel
theorem dX7_setGaps_34 : decode cX7_setGaps 34 = .ok (.iload_n 1, 1) := by decide +kernel
theorem dX7_setGaps_35 : decode cX7_setGaps 35 = .ok (.invokevirtual 107, 3) := by decide +kernel
theorem dX7_setGaps_38 : decode cX7_setGaps 38 = .ok (.imul, 1) := by decide +kernel
theorem dX7_setGaps_39 : decode cX7_setGaps 39 = .ok (.istore_n 3, 1) := by decide +kernel
theorem dX7_setGaps_40 : decode cX7_setGaps 40 = .ok (.iload_n 3, 1) := by decide +kernel
theorem dX7_setGaps_41 : decode cX7_setGaps 41 = .ok (.aload_n 0, 1) := by decide +kernel
theorem dX7_setGaps_42 : decode cX7_setGaps 42 = .ok (.iconst 3, 1) := by decide +kernel
theorem dX7_setGaps_43 : decode cX7_setGaps 43 = .ok (.iload_n 2, 1) := by decide +kernel
theorem dX7_setGaps_44 : decode cX7_setGaps 44 = .ok (.invokevirtual 107, 3) := by decide +kernel
theorem dX7_setGaps_47 : decode cX7_setGaps 47 = .ok (.iadd, 1) := by decide +kernel
theorem dX7_setGaps_48 : decode cX7_setGaps 48 = .ok (.ireturn, 1) := by decide +kernel
theorem dX7_setSetting_0 : decode cX7_setSetting 0 = .ok (.iload_n 1, 1) := by decide +kernel
theorem dX7_setSetting_1 : decode cX7_setSetting 1 = .ok (.i2l, 1) := by decide +kernel
theorem dX7_setSetting_2 : decode cX7_setSetting 2 = .ok (.lconst 0, 1) := by decide +kernel
theorem dX7_setSetting_3 : decode cX7_setSetting 3 = .ok (.ldc2_w 119, 3) := by decide +kernel
theorem dX7_setSetting_6 : decode cX7_setSetting 6 = .ok (.invokestatic 103, 3) := by decide +kernel
theorem dX7_setSetting_9 : decode cX7_setSetting 9 = .ok (.ifCond .ne 9, 3) := by decide +kernel
theorem dX7_setSetting_12 : decode cX7_setSetting 12 = .ok (.aload_n 0, 1) := by decide +kernel
theorem dX7_setSetting_13 : decode cX7_setSetting 13 = .ok (.iconst 1, 1) := by decide +kernel
theorem dX7_setSetting_14 : decode cX7_setSetting 14 = .ok (.invokevirtual 111, 3) := by decide +kernel
theorem dX7_setSetting_17 : decode cX7_setSetting 17 = .ok (.ireturn, 1) := by decide +kernel
theorem dX7_setSetting_18 : decode cX7_setSetting 18 = .ok (.iload_n 2, 1) := by decide +kernel
theorem dX7_setSetting_19 : decode cX7_setSetting 19 = .ok (.i2l, 1) := by decide +kernel
theorem dX7_setSetting_20 : decode cX7_setSetting 20 = .ok (.lconst 0, 1) := by decide +kernel
theorem dX7_setSetting_21 : decode cX7_setSetting 21 = .ok (.getstatic 121, 3) := by decide +kernel
theorem dX7_setSetting_24 : decode cX7_setSetting 24 = .ok (.iload_n 1, 1) := by decide +kernel
theorem dX7_setSetting_25 : decode cX7_setSetting 25 = .ok (.iaload, 1) := by decide +kernel
theorem dX7_setSetting_26 : decode cX7_setSetting 26 = .ok (.i2l, 1) := by decide +kernel
theorem dX7_setSetting_27 : decode cX7_setSetting 27 = .ok (.invokestatic 103, 3) := by decide +kernel
theorem dX7_setSetting_30 : decode cX7_setSetting 30 = .ok (.ifCond .eq 14, 3) := by decide +kernel
theorem dX7_setSetting_33 : decode cX7_setSetting 33 = .ok (.aload_n 0, 1) := by decide +kernel
theorem dX7_setSetting_34 : decode cX7_setSetting 34 = .ok (.iconst 4, 1) := by decide +kernel
theorem dX7_setSetting_35 : decode cX7_setSetting 35 = .ok (.iload_n 1, 1) := by decide +kernel
theorem dX7_setSetting_36 : decode cX7_setSetting 36 = .ok (.iadd, 1) := by decide +kernel
theorem dX7_setSetting_37 : decode cX7_setSetting 37 = .ok (.iload_n 2, 1) := by decide +kernel
theorem dX7_setSetting_38 : decode cX7_setSetting 38 = .ok (.invokevirtual 107, 3) := by decide +kernel
theorem dX7_setSetting_41 : decode cX7_setSetting 41 = .ok (.goto 8, 3) := by decide +kernel
theorem dX7_setSetting_44 : decode cX7_setSetting 44 = .ok (.aload_n 0, 1) := by decide +kernel
theorem dX7_setSetting_45 : decode cX7_setSetting 45 = .ok (.iconst 2, 1) := by decide +kernel
theorem dX7_setSetting_46 : decode cX7_setSetting 46 = .ok (.invokevirtual 111, 3) := by decide +kernel
theorem dX7_setSetting_49 : decode cX7_setSetting 49 = .ok (.ireturn, 1) := by decide +kernel
theorem dX7_isItem_0 : decode cX7_isItem 0 = .ok (.iload_n 1, 1) := by decide +kernel
theorem dX7_isItem_1 : decode cX7_isItem 1 = .ok (.ifCond .lt 15, 3) := by decide +kernel
theorem dX7_isItem_4 : decode cX7_isItem 4 = .ok (.iload_n 1, 1) := by decide +kernel
theorem dX7_isItem_5 : decode cX7_isItem 5 = .ok (.aload_n 0, 1) := by decide +kernel
theorem dX7_isItem_6 : decode cX7_isItem 6 = .ok (.getfield 124, 3) := by decide +kernel
theorem dX7_isItem_9 : decode cX7_isItem 9 = .ok (.if_icmp .ge 7, 3) := by decide +kernel
theorem dX7_isItem_12 : decode cX7_isItem 12 = .ok (.iconst 1, 1) := by decide +kernel
theorem dX7_isItem_13 : decode cX7_isItem 13 = .ok (.goto 4, 3) := by decide +kernel
theorem dX7_isItem_16 : decode cX7_isItem 16 = .ok (.iconst 0, 1) := by decide +kernel
theorem dX7_isItem_17 : decode cX7_isItem 17 = .ok (.ireturn, 1) := by decide +kernel
theorem dX7_of_0 : decode cX7_of 0 = .ok (.aload_n 0, 1) := by decide +kernel
theorem dX7_of_1 : decode cX7_of 1 = .ok (.getfield 13, 3) := by decide +kernel
theorem dX7_of_4 : decode cX7_of 4 = .ok (.bipush 10, 2) := by decide +kernel
theorem dX7_of_6 : decode cX7_of 6 = .ok (.iload_n 1, 1) := by decide +kernel
theorem dX7_of_7 : decode cX7_of 7 = .ok (.imul, 1) := by decide +kernel
theorem dX7_of_8 : decode cX7_of 8 = .ok (.iload_n 2, 1) := by decide +kernel
theorem dX7_of_9 : decode cX7_of 9 = .ok (.iadd, 1) := by decide +kernel
theorem dX7_of_10 : decode cX7_of 10 = .ok (.iaload, 1) := by decide +kernel
theorem dX7_of_11 : decode cX7_of 11 = .ok (.ireturn, 1) := by decide +kernel
theorem dX7_begins_0 : decode cX7_begins 0 = .ok (.iconst 0, 1) := by decide +kernel
theorem dX7_begins_1 : decode cX7_begins 1 = .ok (.istore_n 3, 1) := by decide +kernel
theorem dX7_begins_2 : decode cX7_begins 2 = .ok (.iload_n 3, 1) := by decide +kernel
theorem dX7_begins_3 : decode cX7_begins 3 = .ok (.bipush 10, 2) := by decide +kernel
theorem dX7_begins_5 : decode cX7_begins 5 = .ok (.if_icmp .ge 28, 3) := by decide +kernel
theorem dX7_begins_8 : decode cX7_begins 8 = .ok (.aload_n 0, 1) := by decide +kernel
theorem dX7_begins_9 : decode cX7_begins 9 = .ok (.getfield 13, 3) := by decide +kernel
theorem dX7_begins_12 : decode cX7_begins 12 = .ok (.bipush 10, 2) := by decide +kernel
theorem dX7_begins_14 : decode cX7_begins 14 = .ok (.aload_n 0, 1) := by decide +kernel
theorem dX7_begins_15 : decode cX7_begins 15 = .ok (.getfield 124, 3) := by decide +kernel
theorem dX7_begins_18 : decode cX7_begins 18 = .ok (.imul, 1) := by decide +kernel
theorem dX7_begins_19 : decode cX7_begins 19 = .ok (.iload_n 3, 1) := by decide +kernel
theorem dX7_begins_20 : decode cX7_begins 20 = .ok (.iadd, 1) := by decide +kernel
theorem dX7_begins_21 : decode cX7_begins 21 = .ok (.getstatic 127, 3) := by decide +kernel
theorem dX7_begins_24 : decode cX7_begins 24 = .ok (.iload_n 3, 1) := by decide +kernel
theorem dX7_begins_25 : decode cX7_begins 25 = .ok (.iaload, 1) := by decide +kernel
theorem dX7_begins_26 : decode cX7_begins 26 = .ok (.iastore, 1) := by decide +kernel
theorem dX7_begins_27 : decode cX7_begins 27 = .ok (.iinc 3 1, 3) := by decide +kernel
theorem dX7_begins_30 : decode cX7_begins 30 = .ok (.goto (-28), 3) := by decide +kernel
theorem dX7_begins_33 : decode cX7_begins 33 = .ok (.aload_n 0, 1) := by decide +kernel
theorem dX7_begins_34 : decode cX7_begins 34 = .ok (.getfield 13, 3) := by decide +kernel
theorem dX7_begins_37 : decode cX7_begins 37 = .ok (.bipush 10, 2) := by decide +kernel
theorem dX7_begins_39 : decode cX7_begins 39 = .ok (.aload_n 0, 1) := by decide +kernel
theorem dX7_begins_40 : decode cX7_begins 40 = .ok (.getfield 124, 3) := by decide +kernel
theorem dX7_begins_43 : decode cX7_begins 43 = .ok (.imul, 1) := by decide +kernel
theorem dX7_begins_44 : decode cX7_begins 44 = .ok (.iload_n 1, 1) := by decide +kernel
theorem dX7_begins_45 : decode cX7_begins 45 = .ok (.iastore, 1) := by decide +kernel
theorem dX7_begins_46 : decode cX7_begins 46 = .ok (.aload_n 0, 1) := by decide +kernel
theorem dX7_begins_47 : decode cX7_begins 47 = .ok (.getfield 13, 3) := by decide +kernel
theorem dX7_begins_50 : decode cX7_begins 50 = .ok (.bipush 10, 2) := by decide +kernel
theorem dX7_begins_52 : decode cX7_begins 52 = .ok (.aload_n 0, 1) := by decide +kernel
theorem dX7_begins_53 : decode cX7_begins 53 = .ok (.getfield 124, 3) := by decide +kernel
theorem dX7_begins_56 : decode cX7_begins 56 = .ok (.imul, 1) := by decide +kernel
theorem dX7_begins_57 : decode cX7_begins 57 = .ok (.iconst 5, 1) := by decide +kernel
theorem dX7_begins_58 : decode cX7_begins 58 = .ok (.iadd, 1) := by decide +kernel
theorem dX7_begins_59 : decode cX7_begins 59 = .ok (.iload_n 2, 1) := by decide +kernel
theorem dX7_begins_60 : decode cX7_begins 60 = .ok (.iastore, 1) := by decide +kernel
theorem dX7_begins_61 : decode cX7_begins 61 = .ok (.aload_n 0, 1) := by decide +kernel
theorem dX7_begins_62 : decode cX7_begins 62 = .ok (.dup, 1) := by decide +kernel
theorem dX7_begins_63 : decode cX7_begins 63 = .ok (.getfield 124, 3) := by decide +kernel
theorem dX7_begins_66 : decode cX7_begins 66 = .ok (.iconst 1, 1) := by decide +kernel
theorem dX7_begins_67 : decode cX7_begins 67 = .ok (.iadd, 1) := by decide +kernel
theorem dX7_begins_68 : decode cX7_begins 68 = .ok (.putfield 124, 3) := by decide +kernel
theorem dX7_begins_71 : decode cX7_begins 71 = .ok (.aload_n 0, 1) := by decide +kernel
theorem dX7_begins_72 : decode cX7_begins 72 = .ok (.getfield 124, 3) := by decide +kernel
theorem dX7_begins_75 : decode cX7_begins 75 = .ok (.iconst 1, 1) := by decide +kernel
theorem dX7_begins_76 : decode cX7_begins 76 = .ok (.isub, 1) := by decide +kernel
theorem dX7_begins_77 : decode cX7_begins 77 = .ok (.ireturn, 1) := by decide +kernel
theorem dX7_addItem_0 : decode cX7_addItem 0 = .ok (.iload_n 1, 1) := by decide +kernel
theorem dX7_addItem_1 : decode cX7_addItem 1 = .ok (.i2l, 1) := by decide +kernel
theorem dX7_addItem_2 : decode cX7_addItem 2 = .ok (.lconst 0, 1) := by decide +kernel
theorem dX7_addItem_3 : decode cX7_addItem 3 = .ok (.ldc2_w 101, 3) := by decide +kernel
theorem dX7_addItem_6 : decode cX7_addItem 6 = .ok (.invokestatic 103, 3) := by decide +kernel
theorem dX7_addItem_9 : decode cX7_addItem 9 = .ok (.ifCond .eq 15, 3) := by decide +kernel
theorem dX7_addItem_12 : decode cX7_addItem 12 = .ok (.iload_n 2, 1) := by decide +kernel
theorem dX7_addItem_13 : decode cX7_addItem 13 = .ok (.i2l, 1) := by decide +kernel
theorem dX7_addItem_14 : decode cX7_addItem 14 = .ok (.lconst 0, 1) := by decide +kernel
theorem dX7_addItem_15 : decode cX7_addItem 15 = .ok (.ldc2_w 101, 3) := by decide +kernel
theorem dX7_addItem_18 : decode cX7_addItem 18 = .ok (.invokestatic 103, 3) := by decide +kernel
theorem dX7_addItem_21 : decode cX7_addItem 21 = .ok (.ifCond .ne 9, 3) := by decide +kernel
theorem dX7_addItem_24 : decode cX7_addItem 24 = .ok (.aload_n 0, 1) := by decide +kernel
theorem dX7_addItem_25 : decode cX7_addItem 25 = .ok (.iconst 1, 1) := by decide +kernel
theorem dX7_addItem_26 : decode cX7_addItem 26 = .ok (.invokevirtual 111, 3) := by decide +kernel
theorem dX7_addItem_29 : decode cX7_addItem 29 = .ok (.ireturn, 1) := by decide +kernel
theorem dX7_addItem_30 : decode cX7_addItem 30 = .ok (.aload_n 0, 1) := by decide +kernel
theorem dX7_addItem_31 : decode cX7_addItem 31 = .ok (.getfield 124, 3) := by decide +kernel
theorem dX7_addItem_34 : decode cX7_addItem 34 = .ok (.bipush 20, 2) := by decide +kernel
theorem dX7_addItem_36 : decode cX7_addItem 36 = .ok (.if_icmp .ne 9, 3) := by decide +kernel
theorem dX7_addItem_39 : decode cX7_addItem 39 = .ok (.aload_n 0, 1) := by decide +kernel
theorem dX7_addItem_40 : decode cX7_addItem 40 = .ok (.iconst 2, 1) := by decide +kernel
theorem dX7_addItem_41 : decode cX7_addItem 41 = .ok (.invokevirtual 111, 3) := by decide +kernel
theorem dX7_addItem_44 : decode cX7_addItem 44 = .ok (.ireturn, 1) := by decide +kernel
theorem dX7_addItem_45 : decode cX7_addItem 45 = .ok (.aload_n 0, 1) := by decide +kernel
theorem dX7_addItem_46 : decode cX7_addItem 46 = .ok (.iconst 0, 1) := by decide +kernel
theorem dX7_addItem_47 : decode cX7_addItem 47 = .ok (.putfield 98, 3) := by decide +kernel
theorem dX7_addItem_50 : decode cX7_addItem 50 = .ok (.aload_n 0, 1) := by decide +kernel
theorem dX7_addItem_51 : decode cX7_addItem 51 = .ok (.iload_n 1, 1) := by decide +kernel
theorem dX7_addItem_52 : decode cX7_addItem 52 = .ok (.iload_n 2, 1) := by decide +kernel
theorem dX7_addItem_53 : decode cX7_addItem 53 = .ok (.invokevirtual 130, 3) := by decide +kernel
theorem dX7_addItem_56 : decode cX7_addItem 56 = .ok (.ireturn, 1) := by decide +kernel
theorem dX7_removeItem_0 : decode cX7_removeItem 0 = .ok (.aload_n 0, 1) := by decide +kernel
theorem dX7_removeItem_1 : decode cX7_removeItem 1 = .ok (.iload_n 1, 1) := by decide +kernel
theorem dX7_removeItem_2 : decode cX7_removeItem 2 = .ok (.invokevirtual 133, 3) := by decide +kernel
theorem dX7_removeItem_5 : decode cX7_removeItem 5 = .ok (.ifCond .ne 9, 3) := by decide +kernel
theorem dX7_removeItem_8 : decode cX7_removeItem 8 = .ok (.aload_n 0, 1) := by decide +kernel
theorem dX7_removeItem_9 : decode cX7_removeItem 9 = .ok (.iconst 1, 1) := by decide +kernel
theorem dX7_removeItem_10 : decode cX7_removeItem 10 = .ok (.invokevirtual 111, 3) := by decide +kernel
theorem dX7_removeItem_13 : decode cX7_removeItem 13 = .ok (.ireturn, 1) := by decide +kernel
theorem dX7_removeItem_14 : decode cX7_removeItem 14 = .ok (.aload_n 0, 1) := by decide +kernel
theorem dX7_removeItem_15 : decode cX7_removeItem 15 = .ok (.iconst 0, 1) := by decide +kernel
theorem dX7_removeItem_16 : decode cX7_removeItem 16 = .ok (.putfield 98, 3) := by decide +kernel
theorem dX7_removeItem_19 : decode cX7_removeItem 19 = .ok (.aload_n 0, 1) := by decide +kernel
theorem dX7_removeItem_20 : decode cX7_removeItem 20 = .ok (.dup, 1) := by decide +kernel
theorem dX7_removeItem_21 : decode cX7_removeItem 21 = .ok (.getfield 124, 3) := by decide +kernel
theorem dX7_removeItem_24 : decode cX7_removeItem 24 = .ok (.iconst 1, 1) := by decide +kernel
theorem dX7_removeItem_25 : decode cX7_removeItem 25 = .ok (.isub, 1) := by decide +kernel
theorem dX7_removeItem_26 : decode cX7_removeItem 26 = .ok (.putfield 124, 3) := by decide +kernel
theorem dX7_removeItem_29 : decode cX7_removeItem 29 = .ok (.bipush 10, 2) := by decide +kernel
theorem dX7_removeItem_31 : decode cX7_removeItem 31 = .ok (.iload_n 1, 1) := by decide +kernel
theorem dX7_removeItem_32 : decode cX7_removeItem 32 = .ok (.imul, 1) := by decide +kernel
theorem dX7_removeItem_33 : decode cX7_removeItem 33 = .ok (.istore_n 2, 1) := by decide +kernel
theorem dX7_removeItem_34 : decode cX7_removeItem 34 = .ok (.iload_n 2, 1) := by decide +kernel
theorem dX7_removeItem_35 : decode cX7_removeItem 35 = .ok (.bipush 10, 2) := by decide +kernel
theorem dX7_removeItem_37 : decode cX7_removeItem 37 = .ok (.aload_n 0, 1) := by decide +kernel
theorem dX7_removeItem_38 : decode cX7_removeItem 38 = .ok (.getfield 124, 3) := by decide +kernel
theorem dX7_removeItem_41 : decode cX7_removeItem 41 = .ok (.imul, 1) := by decide +kernel
theorem dX7_removeItem_42 : decode cX7_removeItem 42 = .ok (.if_icmp .ge 24, 3) := by decide +kernel
theorem dX7_removeItem_45 : decode cX7_removeItem 45 = .ok (.aload_n 0, 1) := by decide +kernel
theorem dX7_removeItem_46 : decode cX7_removeItem 46 = .ok (.getfield 13, 3) := by decide +kernel
theorem dX7_removeItem_49 : decode cX7_removeItem 49 = .ok (.iload_n 2, 1) := by decide +kernel
theorem dX7_removeItem_50 : decode cX7_removeItem 50 = .ok (.aload_n 0, 1) := by decide +kernel
theorem dX7_removeItem_51 : decode cX7_removeItem 51 = .ok (.getfield 13, 3) := by decide +kernel
theorem dX7_removeItem_54 : decode cX7_removeItem 54 = .ok (.iload_n 2, 1) := by decide +kernel
theorem dX7_removeItem_55 : decode cX7_removeItem 55 = .ok (.bipush 10, 2) := by decide +kernel
theorem dX7_removeItem_57 : decode cX7_removeItem 57 = .ok (.iadd, 1) := by decide +kernel
theorem dX7_removeItem_58 : decode cX7_removeItem 58 = .ok (.iaload, 1) := by decide +kernel
theorem dX7_removeItem_59 : decode cX7_removeItem 59 = .ok (.iastore, 1) := by decide +kernel
theorem dX7_removeItem_60 : decode cX7_removeItem 60 = .ok (.iinc 2 1, 3) := by decide +kernel
theorem dX7_removeItem_63 : decode cX7_removeItem 63 = .ok (.goto (-29), 3) := by decide +kernel
theorem dX7_removeItem_66 : decode cX7_removeItem 66 = .ok (.aload_n 0, 1) := by decide +kernel
theorem dX7_removeItem_67 : decode cX7_removeItem 67 = .ok (.getfield 124, 3) := by decide +kernel
theorem dX7_removeItem_70 : decode cX7_removeItem 70 = .ok (.ireturn, 1) := by decide +kernel
theorem dX7_items_0 : decode cX7_items 0 = .ok (.aload_n 0, 1) := by decide +kernel
theorem dX7_items_1 : decode cX7_items 1 = .ok (.iconst 0, 1) := by decide +kernel
theorem dX7_items_2 : decode cX7_items 2 = .ok (.putfield 98, 3) := by decide +kernel
theorem dX7_items_5 : decode cX7_items 5 = .ok (.aload_n 0, 1) := by decide +kernel
theorem dX7_items_6 : decode cX7_items 6 = .ok (.getfield 124, 3) := by decide +kernel
theorem dX7_items_9 : decode cX7_items 9 = .ok (.ireturn, 1) := by decide +kernel
theorem dX7_setProperty_0 : decode cX7_setProperty 0 = .ok (.aload_n 0, 1) := by decide +kernel
theorem dX7_setProperty_1 : decode cX7_setProperty 1 = .ok (.iload_n 1, 1) := by decide +kernel
theorem dX7_setProperty_2 : decode cX7_setProperty 2 = .ok (.invokevirtual 133, 3) := by decide +kernel
theorem dX7_setProperty_5 : decode cX7_setProperty 5 = .ok (.ifCond .eq 15, 3) := by decide +kernel
theorem dX7_setProperty_8 : decode cX7_setProperty 8 = .ok (.iload_n 2, 1) := by decide +kernel
theorem dX7_setProperty_9 : decode cX7_setProperty 9 = .ok (.i2l, 1) := by decide +kernel
theorem dX7_setProperty_10 : decode cX7_setProperty 10 = .ok (.lconst 0, 1) := by decide +kernel
theorem dX7_setProperty_11 : decode cX7_setProperty 11 = .ok (.ldc2_w 137, 3) := by decide +kernel
theorem dX7_setProperty_14 : decode cX7_setProperty 14 = .ok (.invokestatic 103, 3) := by decide +kernel
theorem dX7_setProperty_17 : decode cX7_setProperty 17 = .ok (.ifCond .ne 9, 3) := by decide +kernel
theorem dX7_setProperty_20 : decode cX7_setProperty 20 = .ok (.aload_n 0, 1) := by decide +kernel
theorem dX7_setProperty_21 : decode cX7_setProperty 21 = .ok (.iconst 1, 1) := by decide +kernel
theorem dX7_setProperty_22 : decode cX7_setProperty 22 = .ok (.invokevirtual 111, 3) := by decide +kernel
theorem dX7_setProperty_25 : decode cX7_setProperty 25 = .ok (.ireturn, 1) := by decide +kernel
theorem dX7_setProperty_26 : decode cX7_setProperty 26 = .ok (.iload_n 3, 1) := by decide +kernel
theorem dX7_setProperty_27 : decode cX7_setProperty 27 = .ok (.i2l, 1) := by decide +kernel
theorem dX7_setProperty_28 : decode cX7_setProperty 28 = .ok (.getstatic 139, 3) := by decide +kernel
theorem dX7_setProperty_31 : decode cX7_setProperty 31 = .ok (.iload_n 2, 1) := by decide +kernel
theorem dX7_setProperty_32 : decode cX7_setProperty 32 = .ok (.iaload, 1) := by decide +kernel
theorem dX7_setProperty_33 : decode cX7_setProperty 33 = .ok (.i2l, 1) := by decide +kernel
theorem dX7_setProperty_34 : decode cX7_setProperty 34 = .ok (.getstatic 142, 3) := by decide +kernel
theorem dX7_setProperty_37 : decode cX7_setProperty 37 = .ok (.iload_n 2, 1) := by decide +kernel
theorem dX7_setProperty_38 : decode cX7_setProperty 38 = .ok (.iaload, 1) := by decide +kernel
theorem dX7_setProperty_39 : decode cX7_setProperty 39 = .ok (.i2l, 1) := by decide +kernel
theorem dX7_setProperty_40 : decode cX7_setProperty 40 = .ok (.invokestatic 103, 3) := by decide +kernel
theorem dX7_setProperty_43 : decode cX7_setProperty 43 = .ok (.ifCond .ne 9, 3) := by decide +kernel
theorem dX7_setProperty_46 : decode cX7_setProperty 46 = .ok (.aload_n 0, 1) := by decide +kernel
theorem dX7_setProperty_47 : decode cX7_setProperty 47 = .ok (.iconst 2, 1) := by decide +kernel
theorem dX7_setProperty_48 : decode cX7_setProperty 48 = .ok (.invokevirtual 111, 3) := by decide +kernel
theorem dX7_setProperty_51 : decode cX7_setProperty 51 = .ok (.ireturn, 1) := by decide +kernel
theorem dX7_setProperty_52 : decode cX7_setProperty 52 = .ok (.aload_n 0, 1) := by decide +kernel
theorem dX7_setProperty_53 : decode cX7_setProperty 53 = .ok (.iconst 0, 1) := by decide +kernel
theorem dX7_setProperty_54 : decode cX7_setProperty 54 = .ok (.putfield 98, 3) := by decide +kernel
theorem dX7_setProperty_57 : decode cX7_setProperty 57 = .ok (.aload_n 0, 1) := by decide +kernel
theorem dX7_setProperty_58 : decode cX7_setProperty 58 = .ok (.iload_n 1, 1) := by decide +kernel
theorem dX7_setProperty_59 : decode cX7_setProperty 59 = .ok (.iload_n 2, 1) := by decide +kernel
theorem dX7_setProperty_60 : decode cX7_setProperty 60 = .ok (.invokevirtual 145, 3) := by decide +kernel
theorem dX7_setProperty_63 : decode cX7_setProperty 63 = .ok (.istore 4, 2) := by decide +kernel
theorem dX7_setProperty_65 : decode cX7_setProperty 65 = .ok (.aload_n 0, 1) := by decide +kernel
theorem dX7_setProperty_66 : decode cX7_setProperty 66 = .ok (.getfield 13, 3) := by decide +kernel
theorem dX7_setProperty_69 : decode cX7_setProperty 69 = .ok (.bipush 10, 2) := by decide +kernel
theorem dX7_setProperty_71 : decode cX7_setProperty 71 = .ok (.iload_n 1, 1) := by decide +kernel
theorem dX7_setProperty_72 : decode cX7_setProperty 72 = .ok (.imul, 1) := by decide +kernel
theorem dX7_setProperty_73 : decode cX7_setProperty 73 = .ok (.iload_n 2, 1) := by decide +kernel
theorem dX7_setProperty_74 : decode cX7_setProperty 74 = .ok (.iadd, 1) := by decide +kernel
theorem dX7_setProperty_75 : decode cX7_setProperty 75 = .ok (.iload_n 3, 1) := by decide +kernel
theorem dX7_setProperty_76 : decode cX7_setProperty 76 = .ok (.iastore, 1) := by decide +kernel
theorem dX7_setProperty_77 : decode cX7_setProperty 77 = .ok (.iload 4, 2) := by decide +kernel
theorem dX7_setProperty_79 : decode cX7_setProperty 79 = .ok (.ireturn, 1) := by decide +kernel
theorem dX7_property_0 : decode cX7_property 0 = .ok (.aload_n 0, 1) := by decide +kernel
theorem dX7_property_1 : decode cX7_property 1 = .ok (.iload_n 1, 1) := by decide +kernel
theorem dX7_property_2 : decode cX7_property 2 = .ok (.invokevirtual 133, 3) := by decide +kernel
theorem dX7_property_5 : decode cX7_property 5 = .ok (.ifCond .eq 15, 3) := by decide +kernel
theorem dX7_property_8 : decode cX7_property 8 = .ok (.iload_n 2, 1) := by decide +kernel
theorem dX7_property_9 : decode cX7_property 9 = .ok (.i2l, 1) := by decide +kernel
theorem dX7_property_10 : decode cX7_property 10 = .ok (.lconst 0, 1) := by decide +kernel
theorem dX7_property_11 : decode cX7_property 11 = .ok (.ldc2_w 137, 3) := by decide +kernel
theorem dX7_property_14 : decode cX7_property 14 = .ok (.invokestatic 103, 3) := by decide +kernel
theorem dX7_property_17 : decode cX7_property 17 = .ok (.ifCond .ne 9, 3) := by decide +kernel
theorem dX7_property_20 : decode cX7_property 20 = .ok (.aload_n 0, 1) := by decide +kernel
theorem dX7_property_21 : decode cX7_property 21 = .ok (.iconst 1, 1) := by decide +kernel
theorem dX7_property_22 : decode cX7_property 22 = .ok (.invokevirtual 111, 3) := by decide +kernel
theorem dX7_property_25 : decode cX7_property 25 = .ok (.ireturn, 1) := by decide +kernel
theorem dX7_property_26 : decode cX7_property 26 = .ok (.aload_n 0, 1) := by decide +kernel
theorem dX7_property_27 : decode cX7_property 27 = .ok (.iconst 0, 1) := by decide +kernel
theorem dX7_property_28 : decode cX7_property 28 = .ok (.putfield 98, 3) := by decide +kernel
theorem dX7_property_31 : decode cX7_property 31 = .ok (.aload_n 0, 1) := by decide +kernel
theorem dX7_property_32 : decode cX7_property 32 = .ok (.iload_n 1, 1) := by decide +kernel
theorem dX7_property_33 : decode cX7_property 33 = .ok (.iload_n 2, 1) := by decide +kernel
theorem dX7_property_34 : decode cX7_property 34 = .ok (.invokevirtual 145, 3) := by decide +kernel
theorem dX7_property_37 : decode cX7_property 37 = .ok (.ireturn, 1) := by decide +kernel
theorem dX7_feed_0 : decode cX7_feed 0 = .ok (.aload_n 0, 1) := by decide +kernel
theorem dX7_feed_1 : decode cX7_feed 1 = .ok (.getfield 148, 3) := by decide +kernel
theorem dX7_feed_4 : decode cX7_feed 4 = .ok (.bipush 80, 2) := by decide +kernel
theorem dX7_feed_6 : decode cX7_feed 6 = .ok (.if_icmp .ne 9, 3) := by decide +kernel
theorem dX7_feed_9 : decode cX7_feed 9 = .ok (.aload_n 0, 1) := by decide +kernel
theorem dX7_feed_10 : decode cX7_feed 10 = .ok (.iconst 1, 1) := by decide +kernel
theorem dX7_feed_11 : decode cX7_feed 11 = .ok (.invokevirtual 111, 3) := by decide +kernel
theorem dX7_feed_14 : decode cX7_feed 14 = .ok (.ireturn, 1) := by decide +kernel
theorem dX7_feed_15 : decode cX7_feed 15 = .ok (.aload_n 0, 1) := by decide +kernel
theorem dX7_feed_16 : decode cX7_feed 16 = .ok (.iconst 0, 1) := by decide +kernel
theorem dX7_feed_17 : decode cX7_feed 17 = .ok (.putfield 98, 3) := by decide +kernel
theorem dX7_feed_20 : decode cX7_feed 20 = .ok (.aload_n 0, 1) := by decide +kernel
theorem dX7_feed_21 : decode cX7_feed 21 = .ok (.getfield 16, 3) := by decide +kernel
theorem dX7_feed_24 : decode cX7_feed 24 = .ok (.aload_n 0, 1) := by decide +kernel
theorem dX7_feed_25 : decode cX7_feed 25 = .ok (.getfield 148, 3) := by decide +kernel
theorem dX7_feed_28 : decode cX7_feed 28 = .ok (.iload_n 1, 1) := by decide +kernel
theorem dX7_feed_29 : decode cX7_feed 29 = .ok (.castore, 1) := by decide +kernel
theorem dX7_feed_30 : decode cX7_feed 30 = .ok (.aload_n 0, 1) := by decide +kernel
theorem dX7_feed_31 : decode cX7_feed 31 = .ok (.dup, 1) := by decide +kernel
theorem dX7_feed_32 : decode cX7_feed 32 = .ok (.getfield 148, 3) := by decide +kernel
theorem dX7_feed_35 : decode cX7_feed 35 = .ok (.iconst 1, 1) := by decide +kernel
theorem dX7_feed_36 : decode cX7_feed 36 = .ok (.iadd, 1) := by decide +kernel
theorem dX7_feed_37 : decode cX7_feed 37 = .ok (.putfield 148, 3) := by decide +kernel
theorem dX7_feed_40 : decode cX7_feed 40 = .ok (.aload_n 0, 1) := by decide +kernel
theorem dX7_feed_41 : decode cX7_feed 41 = .ok (.getfield 148, 3) := by decide +kernel
theorem dX7_feed_44 : decode cX7_feed 44 = .ok (.ireturn, 1) := by decide +kernel
theorem dX7_propertyOf_0 : decode cX7_propertyOf 0 = .ok (.iload_n 0, 1) := by decide +kernel
theorem dX7_propertyOf_1 : decode cX7_propertyOf 1 = .ok (.tableswitch 135 97 120 #[123, 111, 121, 135, 135, 135, 113, 135, 135, 135, 135, 126, 117, 135, 129, 135, 135, 135, 115, 132, 135, 135, 135, 119], 111) := by decide +kernel
theorem dX7_propertyOf_112 : decode cX7_propertyOf 112 = .ok (.iconst 0, 1) := by decide +kernel
theorem dX7_propertyOf_113 : decode cX7_propertyOf 113 = .ok (.ireturn, 1) := by decide +kernel
theorem dX7_propertyOf_114 : decode cX7_propertyOf 114 = .ok (.iconst 1, 1) := by decide +kernel
theorem dX7_propertyOf_115 : decode cX7_propertyOf 115 = .ok (.ireturn, 1) := by decide +kernel
theorem dX7_propertyOf_116 : decode cX7_propertyOf 116 = .ok (.iconst 2, 1) := by decide +kernel
theorem dX7_propertyOf_117 : decode cX7_propertyOf 117 = .ok (.ireturn, 1) := by decide +kernel
theorem dX7_propertyOf_118 : decode cX7_propertyOf 118 = .ok (.iconst 3, 1) := by decide +kernel
theorem dX7_propertyOf_119 : decode cX7_propertyOf 119 = .ok (.ireturn, 1) := by decide +kernel
theorem dX7_propertyOf_120 : decode cX7_propertyOf 120 = .ok (.iconst 4, 1) := by decide +kernel
theorem dX7_propertyOf_121 : decode cX7_propertyOf 121 = .ok (.ireturn, 1) := by decide +kernel
theorem dX7_propertyOf_122 : decode cX7_propertyOf 122 = .ok (.iconst 5, 1) := by decide +kernel
theorem dX7_propertyOf_123 : decode cX7_propertyOf 123 = .ok (.ireturn, 1) := by decide +kernel
theorem dX7_propertyOf_124 : decode cX7_propertyOf 124 = .ok (.bipush 6, 2) := by decide +kernel
theorem dX7_propertyOf_126 : decode cX7_propertyOf 126 = .ok (.ireturn, 1) := by decide +kernel
theorem dX7_propertyOf_127 : decode cX7_propertyOf 127 = .ok (.bipush 7, 2) := by decide +kernel
theorem dX7_propertyOf_129 : decode cX7_propertyOf 129 = .ok (.ireturn, 1) := by decide +kernel
theorem dX7_propertyOf_130 : decode cX7_propertyOf 130 = .ok (.bipush 8, 2) := by decide +kernel
theorem dX7_propertyOf_132 : decode cX7_propertyOf 132 = .ok (.ireturn, 1) := by decide +kernel
theorem dX7_propertyOf_133 : decode cX7_propertyOf 133 = .ok (.bipush 9, 2) := by decide +kernel
theorem dX7_propertyOf_135 : decode cX7_propertyOf 135 = .ok (.ireturn, 1) := by decide +kernel
theorem dX7_propertyOf_136 : decode cX7_propertyOf 136 = .ok (.iconst (-1), 1) := by decide +kernel
theorem dX7_propertyOf_137 : decode cX7_propertyOf 137 = .ok (.ireturn, 1) := by decide +kernel
theorem dX7_isDigit_0 : decode cX7_isDigit 0 = .ok (.aload_n 0, 1) := by decide +kernel
theorem dX7_isDigit_1 : decode cX7_isDigit 1 = .ok (.getfield 151, 3) := by decide +kernel
theorem dX7_isDigit_4 : decode cX7_isDigit 4 = .ok (.aload_n 0, 1) := by decide +kernel
theorem dX7_isDigit_5 : decode cX7_isDigit 5 = .ok (.getfield 148, 3) := by decide +kernel
theorem dX7_isDigit_8 : decode cX7_isDigit 8 = .ok (.if_icmp .ge 29, 3) := by decide +kernel
theorem dX7_isDigit_11 : decode cX7_isDigit 11 = .ok (.aload_n 0, 1) := by decide +kernel
theorem dX7_isDigit_12 : decode cX7_isDigit 12 = .ok (.getfield 16, 3) := by decide +kernel
theorem dX7_isDigit_15 : decode cX7_isDigit 15 = .ok (.aload_n 0, 1) := by decide +kernel
theorem dX7_isDigit_16 : decode cX7_isDigit 16 = .ok (.getfield 151, 3) := by decide +kernel
theorem dX7_isDigit_19 : decode cX7_isDigit 19 = .ok (.caload, 1) := by decide +kernel
theorem dX7_isDigit_20 : decode cX7_isDigit 20 = .ok (.i2l, 1) := by decide +kernel
theorem dX7_isDigit_21 : decode cX7_isDigit 21 = .ok (.ldc2_w 154, 3) := by decide +kernel
theorem dX7_isDigit_24 : decode cX7_isDigit 24 = .ok (.ldc2_w 156, 3) := by decide +kernel
theorem dX7_isDigit_27 : decode cX7_isDigit 27 = .ok (.invokestatic 103, 3) := by decide +kernel
theorem dX7_isDigit_30 : decode cX7_isDigit 30 = .ok (.ifCond .eq 7, 3) := by decide +kernel
theorem dX7_isDigit_33 : decode cX7_isDigit 33 = .ok (.iconst 1, 1) := by decide +kernel
theorem dX7_isDigit_34 : decode cX7_isDigit 34 = .ok (.goto 4, 3) := by decide +kernel
theorem dX7_isDigit_37 : decode cX7_isDigit 37 = .ok (.iconst 0, 1) := by decide +kernel
theorem dX7_isDigit_38 : decode cX7_isDigit 38 = .ok (.ireturn, 1) := by decide +kernel
theorem dX7_takesSetting_0 : decode cX7_takesSetting 0 = .ok (.aload_n 0, 1) := by decide +kernel
theorem dX7_takesSetting_1 : decode cX7_takesSetting 1 = .ok (.getfield 151, 3) := by decide +kernel
theorem dX7_takesSetting_4 : decode cX7_takesSetting 4 = .ok (.aload_n 0, 1) := by decide +kernel
theorem dX7_takesSetting_5 : decode cX7_takesSetting 5 = .ok (.getfield 148, 3) := by decide +kernel
theorem dX7_takesSetting_8 : decode cX7_takesSetting 8 = .ok (.if_icmp .eq 18, 3) := by decide +kernel
theorem dX7_takesSetting_11 : decode cX7_takesSetting 11 = .ok (.aload_n 0, 1) := by decide +kernel
theorem dX7_takesSetting_12 : decode cX7_takesSetting 12 = .ok (.getfield 16, 3) := by decide +kernel
theorem dX7_takesSetting_15 : decode cX7_takesSetting 15 = .ok (.aload_n 0, 1) := by decide +kernel
theorem dX7_takesSetting_16 : decode cX7_takesSetting 16 = .ok (.getfield 151, 3) := by decide +kernel
theorem dX7_takesSetting_19 : decode cX7_takesSetting 19 = .ok (.caload, 1) := by decide +kernel
theorem dX7_takesSetting_20 : decode cX7_takesSetting 20 = .ok (.invokestatic 158, 3) := by decide +kernel
theorem dX7_takesSetting_23 : decode cX7_takesSetting 23 = .ok (.ifCond .ge 5, 3) := by decide +kernel
theorem dX7_takesSetting_26 : decode cX7_takesSetting 26 = .ok (.iconst 0, 1) := by decide +kernel
theorem dX7_takesSetting_27 : decode cX7_takesSetting 27 = .ok (.ireturn, 1) := by decide +kernel
theorem dX7_takesSetting_28 : decode cX7_takesSetting 28 = .ok (.aload_n 0, 1) := by decide +kernel
theorem dX7_takesSetting_29 : decode cX7_takesSetting 29 = .ok (.getfield 20, 3) := by decide +kernel
theorem dX7_takesSetting_32 : decode cX7_takesSetting 32 = .ok (.aload_n 0, 1) := by decide +kernel
theorem dX7_takesSetting_33 : decode cX7_takesSetting 33 = .ok (.getfield 162, 3) := by decide +kernel
theorem dX7_takesSetting_36 : decode cX7_takesSetting 36 = .ok (.aload_n 0, 1) := by decide +kernel
theorem dX7_takesSetting_37 : decode cX7_takesSetting 37 = .ok (.getfield 16, 3) := by decide +kernel
theorem dX7_takesSetting_40 : decode cX7_takesSetting 40 = .ok (.aload_n 0, 1) := by decide +kernel
theorem dX7_takesSetting_41 : decode cX7_takesSetting 41 = .ok (.getfield 151, 3) := by decide +kernel
theorem dX7_takesSetting_44 : decode cX7_takesSetting 44 = .ok (.caload, 1) := by decide +kernel
theorem dX7_takesSetting_45 : decode cX7_takesSetting 45 = .ok (.invokestatic 158, 3) := by decide +kernel
theorem dX7_takesSetting_48 : decode cX7_takesSetting 48 = .ok (.iastore, 1) := by decide +kernel
theorem dX7_takesSetting_49 : decode cX7_takesSetting 49 = .ok (.aload_n 0, 1) := by decide +kernel
theorem dX7_takesSetting_50 : decode cX7_takesSetting 50 = .ok (.getfield 26, 3) := by decide +kernel
theorem dX7_takesSetting_53 : decode cX7_takesSetting 53 = .ok (.aload_n 0, 1) := by decide +kernel
theorem dX7_takesSetting_54 : decode cX7_takesSetting 54 = .ok (.getfield 162, 3) := by decide +kernel
theorem dX7_takesSetting_57 : decode cX7_takesSetting 57 = .ok (.aload_n 0, 1) := by decide +kernel
theorem dX7_takesSetting_58 : decode cX7_takesSetting 58 = .ok (.getfield 151, 3) := by decide +kernel
theorem dX7_takesSetting_61 : decode cX7_takesSetting 61 = .ok (.iastore, 1) := by decide +kernel
theorem dX7_takesSetting_62 : decode cX7_takesSetting 62 = .ok (.aload_n 0, 1) := by decide +kernel
theorem dX7_takesSetting_63 : decode cX7_takesSetting 63 = .ok (.dup, 1) := by decide +kernel
theorem dX7_takesSetting_64 : decode cX7_takesSetting 64 = .ok (.getfield 151, 3) := by decide +kernel
theorem dX7_takesSetting_67 : decode cX7_takesSetting 67 = .ok (.iconst 1, 1) := by decide +kernel
theorem dX7_takesSetting_68 : decode cX7_takesSetting 68 = .ok (.iadd, 1) := by decide +kernel
theorem dX7_takesSetting_69 : decode cX7_takesSetting 69 = .ok (.putfield 151, 3) := by decide +kernel
theorem dX7_takesSetting_72 : decode cX7_takesSetting 72 = .ok (.aload_n 0, 1) := by decide +kernel
theorem dX7_takesSetting_73 : decode cX7_takesSetting 73 = .ok (.getfield 151, 3) := by decide +kernel
theorem dX7_takesSetting_76 : decode cX7_takesSetting 76 = .ok (.aload_n 0, 1) := by decide +kernel
theorem dX7_takesSetting_77 : decode cX7_takesSetting 77 = .ok (.getfield 148, 3) := by decide +kernel
theorem dX7_takesSetting_80 : decode cX7_takesSetting 80 = .ok (.if_icmp .ge 21, 3) := by decide +kernel
theorem dX7_takesSetting_83 : decode cX7_takesSetting 83 = .ok (.aload_n 0, 1) := by decide +kernel
theorem dX7_takesSetting_84 : decode cX7_takesSetting 84 = .ok (.getfield 16, 3) := by decide +kernel
theorem dX7_takesSetting_87 : decode cX7_takesSetting 87 = .ok (.aload_n 0, 1) := by decide +kernel
theorem dX7_takesSetting_88 : decode cX7_takesSetting 88 = .ok (.getfield 151, 3) := by decide +kernel
theorem dX7_takesSetting_91 : decode cX7_takesSetting 91 = .ok (.caload, 1) := by decide +kernel
theorem dX7_takesSetting_92 : decode cX7_takesSetting 92 = .ok (.bipush 45, 2) := by decide +kernel
theorem dX7_takesSetting_94 : decode cX7_takesSetting 94 = .ok (.if_icmp .ne 7, 3) := by decide +kernel
theorem dX7_takesSetting_97 : decode cX7_takesSetting 97 = .ok (.iconst 1, 1) := by decide +kernel
theorem dX7_takesSetting_98 : decode cX7_takesSetting 98 = .ok (.goto 4, 3) := by decide +kernel
theorem dX7_takesSetting_101 : decode cX7_takesSetting 101 = .ok (.iconst 0, 1) := by decide +kernel
theorem dX7_takesSetting_102 : decode cX7_takesSetting 102 = .ok (.istore_n 1, 1) := by decide +kernel
theorem dX7_takesSetting_103 : decode cX7_takesSetting 103 = .ok (.aload_n 0, 1) := by decide +kernel
theorem dX7_takesSetting_104 : decode cX7_takesSetting 104 = .ok (.dup, 1) := by decide +kernel
theorem dX7_takesSetting_105 : decode cX7_takesSetting 105 = .ok (.getfield 151, 3) := by decide +kernel
theorem dX7_takesSetting_108 : decode cX7_takesSetting 108 = .ok (.iload_n 1, 1) := by decide +kernel
theorem dX7_takesSetting_109 : decode cX7_takesSetting 109 = .ok (.ifCond .eq 7, 3) := by decide +kernel
theorem dX7_takesSetting_112 : decode cX7_takesSetting 112 = .ok (.iconst 1, 1) := by decide +kernel
theorem dX7_takesSetting_113 : decode cX7_takesSetting 113 = .ok (.goto 4, 3) := by decide +kernel
theorem dX7_takesSetting_116 : decode cX7_takesSetting 116 = .ok (.iconst 0, 1) := by decide +kernel
theorem dX7_takesSetting_117 : decode cX7_takesSetting 117 = .ok (.iadd, 1) := by decide +kernel
theorem dX7_takesSetting_118 : decode cX7_takesSetting 118 = .ok (.putfield 151, 3) := by decide +kernel
theorem dX7_takesSetting_121 : decode cX7_takesSetting 121 = .ok (.aload_n 0, 1) := by decide +kernel
theorem dX7_takesSetting_122 : decode cX7_takesSetting 122 = .ok (.invokevirtual 165, 3) := by decide +kernel
theorem dX7_takesSetting_125 : decode cX7_takesSetting 125 = .ok (.ifCond .ne 5, 3) := by decide +kernel
theorem dX7_takesSetting_128 : decode cX7_takesSetting 128 = .ok (.iconst 0, 1) := by decide +kernel
theorem dX7_takesSetting_129 : decode cX7_takesSetting 129 = .ok (.ireturn, 1) := by decide +kernel
theorem dX7_takesSetting_130 : decode cX7_takesSetting 130 = .ok (.iconst 0, 1) := by decide +kernel
theorem dX7_takesSetting_131 : decode cX7_takesSetting 131 = .ok (.istore_n 2, 1) := by decide +kernel
theorem dX7_takesSetting_132 : decode cX7_takesSetting 132 = .ok (.iconst 0, 1) := by decide +kernel
theorem dX7_takesSetting_133 : decode cX7_takesSetting 133 = .ok (.istore_n 3, 1) := by decide +kernel
theorem dX7_takesSetting_134 : decode cX7_takesSetting 134 = .ok (.iload_n 3, 1) := by decide +kernel
theorem dX7_takesSetting_135 : decode cX7_takesSetting 135 = .ok (.iconst 4, 1) := by decide +kernel
theorem dX7_takesSetting_136 : decode cX7_takesSetting 136 = .ok (.if_icmp .ge 44, 3) := by decide +kernel
theorem dX7_takesSetting_139 : decode cX7_takesSetting 139 = .ok (.aload_n 0, 1) := by decide +kernel
theorem dX7_takesSetting_140 : decode cX7_takesSetting 140 = .ok (.invokevirtual 165, 3) := by decide +kernel
theorem dX7_takesSetting_143 : decode cX7_takesSetting 143 = .ok (.ifCond .eq 37, 3) := by decide +kernel
theorem dX7_takesSetting_146 : decode cX7_takesSetting 146 = .ok (.bipush 10, 2) := by decide +kernel
theorem dX7_takesSetting_148 : decode cX7_takesSetting 148 = .ok (.iload_n 2, 1) := by decide +kernel
theorem dX7_takesSetting_149 : decode cX7_takesSetting 149 = .ok (.imul, 1) := by decide +kernel
theorem dX7_takesSetting_150 : decode cX7_takesSetting 150 = .ok (.aload_n 0, 1) := by decide +kernel
theorem dX7_takesSetting_151 : decode cX7_takesSetting 151 = .ok (.getfield 16, 3) := by decide +kernel
theorem dX7_takesSetting_154 : decode cX7_takesSetting 154 = .ok (.aload_n 0, 1) := by decide +kernel
theorem dX7_takesSetting_155 : decode cX7_takesSetting 155 = .ok (.getfield 151, 3) := by decide +kernel
theorem dX7_takesSetting_158 : decode cX7_takesSetting 158 = .ok (.caload, 1) := by decide +kernel
theorem dX7_takesSetting_159 : decode cX7_takesSetting 159 = .ok (.iadd, 1) := by decide +kernel
theorem dX7_takesSetting_160 : decode cX7_takesSetting 160 = .ok (.bipush 48, 2) := by decide +kernel
theorem dX7_takesSetting_162 : decode cX7_takesSetting 162 = .ok (.isub, 1) := by decide +kernel
theorem dX7_takesSetting_163 : decode cX7_takesSetting 163 = .ok (.istore_n 2, 1) := by decide +kernel
theorem dX7_takesSetting_164 : decode cX7_takesSetting 164 = .ok (.aload_n 0, 1) := by decide +kernel
theorem dX7_takesSetting_165 : decode cX7_takesSetting 165 = .ok (.dup, 1) := by decide +kernel
theorem dX7_takesSetting_166 : decode cX7_takesSetting 166 = .ok (.getfield 151, 3) := by decide +kernel
theorem dX7_takesSetting_169 : decode cX7_takesSetting 169 = .ok (.iconst 1, 1) := by decide +kernel
theorem dX7_takesSetting_170 : decode cX7_takesSetting 170 = .ok (.iadd, 1) := by decide +kernel
theorem dX7_takesSetting_171 : decode cX7_takesSetting 171 = .ok (.putfield 151, 3) := by decide +kernel
theorem dX7_takesSetting_174 : decode cX7_takesSetting 174 = .ok (.iinc 3 1, 3) := by decide +kernel
theorem dX7_takesSetting_177 : decode cX7_takesSetting 177 = .ok (.goto (-43), 3) := by decide +kernel
theorem dX7_takesSetting_180 : decode cX7_takesSetting 180 = .ok (.aload_n 0, 1) := by decide +kernel
theorem dX7_takesSetting_181 : decode cX7_takesSetting 181 = .ok (.getfield 23, 3) := by decide +kernel
theorem dX7_takesSetting_184 : decode cX7_takesSetting 184 = .ok (.aload_n 0, 1) := by decide +kernel
theorem dX7_takesSetting_185 : decode cX7_takesSetting 185 = .ok (.getfield 162, 3) := by decide +kernel
theorem dX7_takesSetting_188 : decode cX7_takesSetting 188 = .ok (.iload_n 1, 1) := by decide +kernel
theorem dX7_takesSetting_189 : decode cX7_takesSetting 189 = .ok (.ifCond .eq 8, 3) := by decide +kernel
theorem dX7_takesSetting_192 : decode cX7_takesSetting 192 = .ok (.iload_n 2, 1) := by decide +kernel
theorem dX7_takesSetting_193 : decode cX7_takesSetting 193 = .ok (.ineg, 1) := by decide +kernel
theorem dX7_takesSetting_194 : decode cX7_takesSetting 194 = .ok (.goto 4, 3) := by decide +kernel
theorem dX7_takesSetting_197 : decode cX7_takesSetting 197 = .ok (.iload_n 2, 1) := by decide +kernel
theorem dX7_takesSetting_198 : decode cX7_takesSetting 198 = .ok (.iastore, 1) := by decide +kernel
theorem dX7_takesSetting_199 : decode cX7_takesSetting 199 = .ok (.aload_n 0, 1) := by decide +kernel
theorem dX7_takesSetting_200 : decode cX7_takesSetting 200 = .ok (.dup, 1) := by decide +kernel
theorem dX7_takesSetting_201 : decode cX7_takesSetting 201 = .ok (.getfield 162, 3) := by decide +kernel
theorem dX7_takesSetting_204 : decode cX7_takesSetting 204 = .ok (.iconst 1, 1) := by decide +kernel
theorem dX7_takesSetting_205 : decode cX7_takesSetting 205 = .ok (.iadd, 1) := by decide +kernel
theorem dX7_takesSetting_206 : decode cX7_takesSetting 206 = .ok (.putfield 162, 3) := by decide +kernel
theorem dX7_takesSetting_209 : decode cX7_takesSetting 209 = .ok (.iconst 1, 1) := by decide +kernel
theorem dX7_takesSetting_210 : decode cX7_takesSetting 210 = .ok (.ireturn, 1) := by decide +kernel
theorem dX7_takesAll_0 : decode cX7_takesAll 0 = .ok (.aload_n 0, 1) := by decide +kernel
theorem dX7_takesAll_1 : decode cX7_takesAll 1 = .ok (.iconst 0, 1) := by decide +kernel
theorem dX7_takesAll_2 : decode cX7_takesAll 2 = .ok (.putfield 151, 3) := by decide +kernel
theorem dX7_takesAll_5 : decode cX7_takesAll 5 = .ok (.aload_n 0, 1) := by decide +kernel
theorem dX7_takesAll_6 : decode cX7_takesAll 6 = .ok (.iconst 0, 1) := by decide +kernel
theorem dX7_takesAll_7 : decode cX7_takesAll 7 = .ok (.putfield 162, 3) := by decide +kernel
theorem dX7_takesAll_10 : decode cX7_takesAll 10 = .ok (.iconst 1, 1) := by decide +kernel
theorem dX7_takesAll_11 : decode cX7_takesAll 11 = .ok (.istore_n 1, 1) := by decide +kernel
theorem dX7_takesAll_12 : decode cX7_takesAll 12 = .ok (.iload_n 1, 1) := by decide +kernel
theorem dX7_takesAll_13 : decode cX7_takesAll 13 = .ok (.ifCond .eq 64, 3) := by decide +kernel
theorem dX7_takesAll_16 : decode cX7_takesAll 16 = .ok (.aload_n 0, 1) := by decide +kernel
theorem dX7_takesAll_17 : decode cX7_takesAll 17 = .ok (.invokevirtual 169, 3) := by decide +kernel
theorem dX7_takesAll_20 : decode cX7_takesAll 20 = .ok (.ifCond .ne 5, 3) := by decide +kernel
theorem dX7_takesAll_23 : decode cX7_takesAll 23 = .ok (.iconst 0, 1) := by decide +kernel
theorem dX7_takesAll_24 : decode cX7_takesAll 24 = .ok (.ireturn, 1) := by decide +kernel
theorem dX7_takesAll_25 : decode cX7_takesAll 25 = .ok (.aload_n 0, 1) := by decide +kernel
theorem dX7_takesAll_26 : decode cX7_takesAll 26 = .ok (.getfield 151, 3) := by decide +kernel
theorem dX7_takesAll_29 : decode cX7_takesAll 29 = .ok (.aload_n 0, 1) := by decide +kernel
theorem dX7_takesAll_30 : decode cX7_takesAll 30 = .ok (.getfield 148, 3) := by decide +kernel
theorem dX7_takesAll_33 : decode cX7_takesAll 33 = .ok (.if_icmp .ge 21, 3) := by decide +kernel
theorem dX7_takesAll_36 : decode cX7_takesAll 36 = .ok (.aload_n 0, 1) := by decide +kernel
theorem dX7_takesAll_37 : decode cX7_takesAll 37 = .ok (.getfield 16, 3) := by decide +kernel
theorem dX7_takesAll_40 : decode cX7_takesAll 40 = .ok (.aload_n 0, 1) := by decide +kernel
theorem dX7_takesAll_41 : decode cX7_takesAll 41 = .ok (.getfield 151, 3) := by decide +kernel
theorem dX7_takesAll_44 : decode cX7_takesAll 44 = .ok (.caload, 1) := by decide +kernel
theorem dX7_takesAll_45 : decode cX7_takesAll 45 = .ok (.bipush 32, 2) := by decide +kernel
theorem dX7_takesAll_47 : decode cX7_takesAll 47 = .ok (.if_icmp .ne 7, 3) := by decide +kernel
theorem dX7_takesAll_50 : decode cX7_takesAll 50 = .ok (.iconst 1, 1) := by decide +kernel
theorem dX7_takesAll_51 : decode cX7_takesAll 51 = .ok (.goto 4, 3) := by decide +kernel
theorem dX7_takesAll_54 : decode cX7_takesAll 54 = .ok (.iconst 0, 1) := by decide +kernel
theorem dX7_takesAll_55 : decode cX7_takesAll 55 = .ok (.istore_n 1, 1) := by decide +kernel
theorem dX7_takesAll_56 : decode cX7_takesAll 56 = .ok (.aload_n 0, 1) := by decide +kernel
theorem dX7_takesAll_57 : decode cX7_takesAll 57 = .ok (.dup, 1) := by decide +kernel
theorem dX7_takesAll_58 : decode cX7_takesAll 58 = .ok (.getfield 151, 3) := by decide +kernel
theorem dX7_takesAll_61 : decode cX7_takesAll 61 = .ok (.iload_n 1, 1) := by decide +kernel
theorem dX7_takesAll_62 : decode cX7_takesAll 62 = .ok (.ifCond .eq 7, 3) := by decide +kernel
theorem dX7_takesAll_65 : decode cX7_takesAll 65 = .ok (.iconst 1, 1) := by decide +kernel
theorem dX7_takesAll_66 : decode cX7_takesAll 66 = .ok (.goto 4, 3) := by decide +kernel
theorem dX7_takesAll_69 : decode cX7_takesAll 69 = .ok (.iconst 0, 1) := by decide +kernel
theorem dX7_takesAll_70 : decode cX7_takesAll 70 = .ok (.iadd, 1) := by decide +kernel
theorem dX7_takesAll_71 : decode cX7_takesAll 71 = .ok (.putfield 151, 3) := by decide +kernel
theorem dX7_takesAll_74 : decode cX7_takesAll 74 = .ok (.goto (-62), 3) := by decide +kernel
theorem dX7_takesAll_77 : decode cX7_takesAll 77 = .ok (.aload_n 0, 1) := by decide +kernel
theorem dX7_takesAll_78 : decode cX7_takesAll 78 = .ok (.getfield 151, 3) := by decide +kernel
theorem dX7_takesAll_81 : decode cX7_takesAll 81 = .ok (.aload_n 0, 1) := by decide +kernel
theorem dX7_takesAll_82 : decode cX7_takesAll 82 = .ok (.getfield 148, 3) := by decide +kernel
theorem dX7_takesAll_85 : decode cX7_takesAll 85 = .ok (.if_icmp .ne 7, 3) := by decide +kernel
theorem dX7_takesAll_88 : decode cX7_takesAll 88 = .ok (.iconst 1, 1) := by decide +kernel
theorem dX7_takesAll_89 : decode cX7_takesAll 89 = .ok (.goto 4, 3) := by decide +kernel
theorem dX7_takesAll_92 : decode cX7_takesAll 92 = .ok (.iconst 0, 1) := by decide +kernel
theorem dX7_takesAll_93 : decode cX7_takesAll 93 = .ok (.ireturn, 1) := by decide +kernel
theorem dX7_readItem_0 : decode cX7_readItem 0 = .ok (.aload_n 0, 1) := by decide +kernel
theorem dX7_readItem_1 : decode cX7_readItem 1 = .ok (.getfield 124, 3) := by decide +kernel
theorem dX7_readItem_4 : decode cX7_readItem 4 = .ok (.bipush 20, 2) := by decide +kernel
theorem dX7_readItem_6 : decode cX7_readItem 6 = .ok (.if_icmp .ne 9, 3) := by decide +kernel
theorem dX7_readItem_9 : decode cX7_readItem 9 = .ok (.aload_n 0, 1) := by decide +kernel
theorem dX7_readItem_10 : decode cX7_readItem 10 = .ok (.iconst 1, 1) := by decide +kernel
theorem dX7_readItem_11 : decode cX7_readItem 11 = .ok (.invokevirtual 111, 3) := by decide +kernel
theorem dX7_readItem_14 : decode cX7_readItem 14 = .ok (.ireturn, 1) := by decide +kernel
theorem dX7_readItem_15 : decode cX7_readItem 15 = .ok (.aload_n 0, 1) := by decide +kernel
theorem dX7_readItem_16 : decode cX7_readItem 16 = .ok (.iconst 0, 1) := by decide +kernel
theorem dX7_readItem_17 : decode cX7_readItem 17 = .ok (.putfield 98, 3) := by decide +kernel
theorem dX7_readItem_20 : decode cX7_readItem 20 = .ok (.aload_n 0, 1) := by decide +kernel
theorem dX7_readItem_21 : decode cX7_readItem 21 = .ok (.invokevirtual 172, 3) := by decide +kernel
theorem dX7_readItem_24 : decode cX7_readItem 24 = .ok (.istore_n 1, 1) := by decide +kernel
theorem dX7_readItem_25 : decode cX7_readItem 25 = .ok (.aload_n 0, 1) := by decide +kernel
theorem dX7_readItem_26 : decode cX7_readItem 26 = .ok (.iconst 0, 1) := by decide +kernel
theorem dX7_readItem_27 : decode cX7_readItem 27 = .ok (.putfield 148, 3) := by decide +kernel
theorem dX7_readItem_30 : decode cX7_readItem 30 = .ok (.iload_n 1, 1) := by decide +kernel
theorem dX7_readItem_31 : decode cX7_readItem 31 = .ok (.ifCond .ne 11, 3) := by decide +kernel
theorem dX7_readItem_34 : decode cX7_readItem 34 = .ok (.bipush (-100), 2) := by decide +kernel
theorem dX7_readItem_36 : decode cX7_readItem 36 = .ok (.aload_n 0, 1) := by decide +kernel
theorem dX7_readItem_37 : decode cX7_readItem 37 = .ok (.getfield 151, 3) := by decide +kernel
theorem dX7_readItem_40 : decode cX7_readItem 40 = .ok (.isub, 1) := by decide +kernel
theorem dX7_readItem_41 : decode cX7_readItem 41 = .ok (.ireturn, 1) := by decide +kernel
theorem dX7_readItem_42 : decode cX7_readItem 42 = .ok (.iconst 0, 1) := by decide +kernel
theorem dX7_readItem_43 : decode cX7_readItem 43 = .ok (.istore_n 2, 1) := by decide +kernel
theorem dX7_readItem_44 : decode cX7_readItem 44 = .ok (.iload_n 2, 1) := by decide +kernel
theorem dX7_readItem_45 : decode cX7_readItem 45 = .ok (.aload_n 0, 1) := by decide +kernel
theorem dX7_readItem_46 : decode cX7_readItem 46 = .ok (.getfield 162, 3) := by decide +kernel
theorem dX7_readItem_49 : decode cX7_readItem 49 = .ok (.if_icmp .ge 54, 3) := by decide +kernel
theorem dX7_readItem_52 : decode cX7_readItem 52 = .ok (.aload_n 0, 1) := by decide +kernel
theorem dX7_readItem_53 : decode cX7_readItem 53 = .ok (.getfield 23, 3) := by decide +kernel
theorem dX7_readItem_56 : decode cX7_readItem 56 = .ok (.iload_n 2, 1) := by decide +kernel
theorem dX7_readItem_57 : decode cX7_readItem 57 = .ok (.iaload, 1) := by decide +kernel
theorem dX7_readItem_58 : decode cX7_readItem 58 = .ok (.i2l, 1) := by decide +kernel
theorem dX7_readItem_59 : decode cX7_readItem 59 = .ok (.getstatic 139, 3) := by decide +kernel
theorem dX7_readItem_62 : decode cX7_readItem 62 = .ok (.aload_n 0, 1) := by decide +kernel
theorem dX7_readItem_63 : decode cX7_readItem 63 = .ok (.getfield 20, 3) := by decide +kernel
theorem dX7_readItem_66 : decode cX7_readItem 66 = .ok (.iload_n 2, 1) := by decide +kernel
theorem dX7_readItem_67 : decode cX7_readItem 67 = .ok (.iaload, 1) := by decide +kernel
theorem dX7_readItem_68 : decode cX7_readItem 68 = .ok (.iaload, 1) := by decide +kernel
theorem dX7_readItem_69 : decode cX7_readItem 69 = .ok (.i2l, 1) := by decide +kernel
theorem dX7_readItem_70 : decode cX7_readItem 70 = .ok (.getstatic 142, 3) := by decide +kernel
theorem dX7_readItem_73 : decode cX7_readItem 73 = .ok (.aload_n 0, 1) := by decide +kernel
theorem dX7_readItem_74 : decode cX7_readItem 74 = .ok (.getfield 20, 3) := by decide +kernel
theorem dX7_readItem_77 : decode cX7_readItem 77 = .ok (.iload_n 2, 1) := by decide +kernel
theorem dX7_readItem_78 : decode cX7_readItem 78 = .ok (.iaload, 1) := by decide +kernel
theorem dX7_readItem_79 : decode cX7_readItem 79 = .ok (.iaload, 1) := by decide +kernel
theorem dX7_readItem_80 : decode cX7_readItem 80 = .ok (.i2l, 1) := by decide +kernel
theorem dX7_readItem_81 : decode cX7_readItem 81 = .ok (.invokestatic 103, 3) := by decide +kernel
theorem dX7_readItem_84 : decode cX7_readItem 84 = .ok (.ifCond .ne 13, 3) := by decide +kernel
theorem dX7_readItem_87 : decode cX7_readItem 87 = .ok (.bipush (-100), 2) := by decide +kernel
theorem dX7_readItem_89 : decode cX7_readItem 89 = .ok (.aload_n 0, 1) := by decide +kernel
theorem dX7_readItem_90 : decode cX7_readItem 90 = .ok (.getfield 26, 3) := by decide +kernel
theorem dX7_readItem_93 : decode cX7_readItem 93 = .ok (.iload_n 2, 1) := by decide +kernel
theorem dX7_readItem_94 : decode cX7_readItem 94 = .ok (.iaload, 1) := by decide +kernel
theorem dX7_readItem_95 : decode cX7_readItem 95 = .ok (.isub, 1) := by decide +kernel
theorem dX7_readItem_96 : decode cX7_readItem 96 = .ok (.ireturn, 1) := by decide +kernel
theorem dX7_readItem_97 : decode cX7_readItem 97 = .ok (.iinc 2 1, 3) := by decide +kernel
theorem dX7_readItem_100 : decode cX7_readItem 100 = .ok (.goto (-56), 3) := by decide +kernel
theorem dX7_readItem_103 : decode cX7_readItem 103 = .ok (.aload_n 0, 1) := by decide +kernel
theorem dX7_readItem_104 : decode cX7_readItem 104 = .ok (.iconst 0, 1) := by decide +kernel
theorem dX7_readItem_105 : decode cX7_readItem 105 = .ok (.iconst 0, 1) := by decide +kernel
theorem dX7_readItem_106 : decode cX7_readItem 106 = .ok (.invokevirtual 130, 3) := by decide +kernel
theorem dX7_readItem_109 : decode cX7_readItem 109 = .ok (.istore_n 2, 1) := by decide +kernel
theorem dX7_readItem_110 : decode cX7_readItem 110 = .ok (.iconst 0, 1) := by decide +kernel
theorem dX7_readItem_111 : decode cX7_readItem 111 = .ok (.istore_n 3, 1) := by decide +kernel
theorem dX7_readItem_112 : decode cX7_readItem 112 = .ok (.iload_n 3, 1) := by decide +kernel
theorem dX7_readItem_113 : decode cX7_readItem 113 = .ok (.aload_n 0, 1) := by decide +kernel
theorem dX7_readItem_114 : decode cX7_readItem 114 = .ok (.getfield 162, 3) := by decide +kernel
theorem dX7_readItem_117 : decode cX7_readItem 117 = .ok (.if_icmp .ge 31, 3) := by decide +kernel
theorem dX7_readItem_120 : decode cX7_readItem 120 = .ok (.aload_n 0, 1) := by decide +kernel
theorem dX7_readItem_121 : decode cX7_readItem 121 = .ok (.getfield 13, 3) := by decide +kernel
theorem dX7_readItem_124 : decode cX7_readItem 124 = .ok (.bipush 10, 2) := by decide +kernel
theorem dX7_readItem_126 : decode cX7_readItem 126 = .ok (.iload_n 2, 1) := by decide +kernel
theorem dX7_readItem_127 : decode cX7_readItem 127 = .ok (.imul, 1) := by decide +kernel
theorem dX7_readItem_128 : decode cX7_readItem 128 = .ok (.aload_n 0, 1) := by decide +kernel
theorem dX7_readItem_129 : decode cX7_readItem 129 = .ok (.getfield 20, 3) := by decide +kernel
theorem dX7_readItem_132 : decode cX7_readItem 132 = .ok (.iload_n 3, 1) := by decide +kernel
theorem dX7_readItem_133 : decode cX7_readItem 133 = .ok (.iaload, 1) := by decide +kernel
theorem dX7_readItem_134 : decode cX7_readItem 134 = .ok (.iadd, 1) := by decide +kernel
theorem dX7_readItem_135 : decode cX7_readItem 135 = .ok (.aload_n 0, 1) := by decide +kernel
theorem dX7_readItem_136 : decode cX7_readItem 136 = .ok (.getfield 23, 3) := by decide +kernel
theorem dX7_readItem_139 : decode cX7_readItem 139 = .ok (.iload_n 3, 1) := by decide +kernel
theorem dX7_readItem_140 : decode cX7_readItem 140 = .ok (.iaload, 1) := by decide +kernel
theorem dX7_readItem_141 : decode cX7_readItem 141 = .ok (.iastore, 1) := by decide +kernel
theorem dX7_readItem_142 : decode cX7_readItem 142 = .ok (.iinc 3 1, 3) := by decide +kernel
theorem dX7_readItem_145 : decode cX7_readItem 145 = .ok (.goto (-33), 3) := by decide +kernel
theorem dX7_readItem_148 : decode cX7_readItem 148 = .ok (.iload_n 2, 1) := by decide +kernel
theorem dX7_readItem_149 : decode cX7_readItem 149 = .ok (.ireturn, 1) := by decide +kernel
theorem dX7_divides_0 : decode cX7_divides 0 = .ok (.lconst 0, 1) := by decide +kernel
theorem dX7_divides_1 : decode cX7_divides 1 = .ok (.lstore 4, 2) := by decide +kernel
theorem dX7_divides_3 : decode cX7_divides 3 = .ok (.iconst 0, 1) := by decide +kernel
theorem dX7_divides_4 : decode cX7_divides 4 = .ok (.istore 6, 2) := by decide +kernel
theorem dX7_divides_6 : decode cX7_divides 6 = .ok (.iload 6, 2) := by decide +kernel
theorem dX7_divides_8 : decode cX7_divides 8 = .ok (.iload_n 3, 1) := by decide +kernel
theorem dX7_divides_9 : decode cX7_divides 9 = .ok (.if_icmp .ge 21, 3) := by decide +kernel
theorem dX7_divides_12 : decode cX7_divides 12 = .ok (.lload 4, 2) := by decide +kernel
theorem dX7_divides_14 : decode cX7_divides 14 = .ok (.aload_n 0, 1) := by decide +kernel
theorem dX7_divides_15 : decode cX7_divides 15 = .ok (.getfield 29, 3) := by decide +kernel
theorem dX7_divides_18 : decode cX7_divides 18 = .ok (.iload 6, 2) := by decide +kernel
theorem dX7_divides_20 : decode cX7_divides 20 = .ok (.laload, 1) := by decide +kernel
theorem dX7_divides_21 : decode cX7_divides 21 = .ok (.ladd, 1) := by decide +kernel
theorem dX7_divides_22 : decode cX7_divides 22 = .ok (.lstore 4, 2) := by decide +kernel
theorem dX7_divides_24 : decode cX7_divides 24 = .ok (.iinc 6 1, 3) := by decide +kernel
theorem dX7_divides_27 : decode cX7_divides 27 = .ok (.goto (-21), 3) := by decide +kernel
theorem dX7_divides_30 : decode cX7_divides 30 = .ok (.lload_n 1, 1) := by decide +kernel
theorem dX7_divides_31 : decode cX7_divides 31 = .ok (.lstore 6, 2) := by decide +kernel
theorem dX7_divides_33 : decode cX7_divides 33 = .ok (.iconst 0, 1) := by decide +kernel
theorem dX7_divides_34 : decode cX7_divides 34 = .ok (.istore 8, 2) := by decide +kernel
theorem dX7_divides_36 : decode cX7_divides 36 = .ok (.iload 8, 2) := by decide +kernel
theorem dX7_divides_38 : decode cX7_divides 38 = .ok (.iload_n 3, 1) := by decide +kernel
theorem dX7_divides_39 : decode cX7_divides 39 = .ok (.if_icmp .ge 59, 3) := by decide +kernel
theorem dX7_divides_42 : decode cX7_divides 42 = .ok (.aload_n 0, 1) := by decide +kernel
theorem dX7_divides_43 : decode cX7_divides 43 = .ok (.getfield 33, 3) := by decide +kernel
theorem dX7_divides_46 : decode cX7_divides 46 = .ok (.iload 8, 2) := by decide +kernel
theorem dX7_divides_48 : decode cX7_divides 48 = .ok (.lload_n 1, 1) := by decide +kernel
theorem dX7_divides_49 : decode cX7_divides 49 = .ok (.aload_n 0, 1) := by decide +kernel
theorem dX7_divides_50 : decode cX7_divides 50 = .ok (.getfield 29, 3) := by decide +kernel
theorem dX7_divides_53 : decode cX7_divides 53 = .ok (.iload 8, 2) := by decide +kernel
theorem dX7_divides_55 : decode cX7_divides 55 = .ok (.laload, 1) := by decide +kernel
theorem dX7_divides_56 : decode cX7_divides 56 = .ok (.lmul, 1) := by decide +kernel
theorem dX7_divides_57 : decode cX7_divides 57 = .ok (.lload 4, 2) := by decide +kernel
theorem dX7_divides_59 : decode cX7_divides 59 = .ok (.ldiv, 1) := by decide +kernel
theorem dX7_divides_60 : decode cX7_divides 60 = .ok (.lastore, 1) := by decide +kernel
theorem dX7_divides_61 : decode cX7_divides 61 = .ok (.aload_n 0, 1) := by decide +kernel
theorem dX7_divides_62 : decode cX7_divides 62 = .ok (.getfield 36, 3) := by decide +kernel
theorem dX7_divides_65 : decode cX7_divides 65 = .ok (.iload 8, 2) := by decide +kernel
theorem dX7_divides_67 : decode cX7_divides 67 = .ok (.lload_n 1, 1) := by decide +kernel
theorem dX7_divides_68 : decode cX7_divides 68 = .ok (.aload_n 0, 1) := by decide +kernel
theorem dX7_divides_69 : decode cX7_divides 69 = .ok (.getfield 29, 3) := by decide +kernel
theorem dX7_divides_72 : decode cX7_divides 72 = .ok (.iload 8, 2) := by decide +kernel
theorem dX7_divides_74 : decode cX7_divides 74 = .ok (.laload, 1) := by decide +kernel
theorem dX7_divides_75 : decode cX7_divides 75 = .ok (.lmul, 1) := by decide +kernel
theorem dX7_divides_76 : decode cX7_divides 76 = .ok (.lload 4, 2) := by decide +kernel
theorem dX7_divides_78 : decode cX7_divides 78 = .ok (.lrem, 1) := by decide +kernel
theorem dX7_divides_79 : decode cX7_divides 79 = .ok (.lastore, 1) := by decide +kernel
theorem dX7_divides_80 : decode cX7_divides 80 = .ok (.lload 6, 2) := by decide +kernel
theorem dX7_divides_82 : decode cX7_divides 82 = .ok (.aload_n 0, 1) := by decide +kernel
theorem dX7_divides_83 : decode cX7_divides 83 = .ok (.getfield 33, 3) := by decide +kernel
theorem dX7_divides_86 : decode cX7_divides 86 = .ok (.iload 8, 2) := by decide +kernel
theorem dX7_divides_88 : decode cX7_divides 88 = .ok (.laload, 1) := by decide +kernel
theorem dX7_divides_89 : decode cX7_divides 89 = .ok (.lsub, 1) := by decide +kernel
theorem dX7_divides_90 : decode cX7_divides 90 = .ok (.lstore 6, 2) := by decide +kernel
theorem dX7_divides_92 : decode cX7_divides 92 = .ok (.iinc 8 1, 3) := by decide +kernel
theorem dX7_divides_95 : decode cX7_divides 95 = .ok (.goto (-59), 3) := by decide +kernel
theorem dX7_divides_98 : decode cX7_divides 98 = .ok (.lload 6, 2) := by decide +kernel
theorem dX7_divides_100 : decode cX7_divides 100 = .ok (.lconst 0, 1) := by decide +kernel
theorem dX7_divides_101 : decode cX7_divides 101 = .ok (.lcmp, 1) := by decide +kernel
theorem dX7_divides_102 : decode cX7_divides 102 = .ok (.ifCond .le 78, 3) := by decide +kernel
theorem dX7_divides_105 : decode cX7_divides 105 = .ok (.iconst 0, 1) := by decide +kernel
theorem dX7_divides_106 : decode cX7_divides 106 = .ok (.istore 8, 2) := by decide +kernel
theorem dX7_divides_108 : decode cX7_divides 108 = .ok (.iconst 1, 1) := by decide +kernel
theorem dX7_divides_109 : decode cX7_divides 109 = .ok (.istore 9, 2) := by decide +kernel
theorem dX7_divides_111 : decode cX7_divides 111 = .ok (.iload 9, 2) := by decide +kernel
theorem dX7_divides_113 : decode cX7_divides 113 = .ok (.iload_n 3, 1) := by decide +kernel
theorem dX7_divides_114 : decode cX7_divides 114 = .ok (.if_icmp .ge 36, 3) := by decide +kernel
theorem dX7_divides_117 : decode cX7_divides 117 = .ok (.aload_n 0, 1) := by decide +kernel
theorem dX7_divides_118 : decode cX7_divides 118 = .ok (.getfield 36, 3) := by decide +kernel
theorem dX7_divides_121 : decode cX7_divides 121 = .ok (.iload 9, 2) := by decide +kernel
theorem dX7_divides_123 : decode cX7_divides 123 = .ok (.laload, 1) := by decide +kernel
theorem dX7_divides_124 : decode cX7_divides 124 = .ok (.aload_n 0, 1) := by decide +kernel
theorem dX7_divides_125 : decode cX7_divides 125 = .ok (.getfield 36, 3) := by decide +kernel
theorem dX7_divides_128 : decode cX7_divides 128 = .ok (.iload 8, 2) := by decide +kernel
theorem dX7_divides_130 : decode cX7_divides 130 = .ok (.laload, 1) := by decide +kernel
theorem dX7_divides_131 : decode cX7_divides 131 = .ok (.lcmp, 1) := by decide +kernel
theorem dX7_divides_132 : decode cX7_divides 132 = .ok (.ifCond .le 8, 3) := by decide +kernel
theorem dX7_divides_135 : decode cX7_divides 135 = .ok (.iload 9, 2) := by decide +kernel
theorem dX7_divides_137 : decode cX7_divides 137 = .ok (.goto 5, 3) := by decide +kernel
theorem dX7_divides_140 : decode cX7_divides 140 = .ok (.iload 8, 2) := by decide +kernel
theorem dX7_divides_142 : decode cX7_divides 142 = .ok (.istore 8, 2) := by decide +kernel
theorem dX7_divides_144 : decode cX7_divides 144 = .ok (.iinc 9 1, 3) := by decide +kernel
theorem dX7_divides_147 : decode cX7_divides 147 = .ok (.goto (-36), 3) := by decide +kernel
theorem dX7_divides_150 : decode cX7_divides 150 = .ok (.aload_n 0, 1) := by decide +kernel
theorem dX7_divides_151 : decode cX7_divides 151 = .ok (.getfield 33, 3) := by decide +kernel
theorem dX7_divides_154 : decode cX7_divides 154 = .ok (.iload 8, 2) := by decide +kernel
theorem dX7_divides_156 : decode cX7_divides 156 = .ok (.dup2, 1) := by decide +kernel
theorem dX7_divides_157 : decode cX7_divides 157 = .ok (.laload, 1) := by decide +kernel
theorem dX7_divides_158 : decode cX7_divides 158 = .ok (.lconst 1, 1) := by decide +kernel
theorem dX7_divides_159 : decode cX7_divides 159 = .ok (.ladd, 1) := by decide +kernel
theorem dX7_divides_160 : decode cX7_divides 160 = .ok (.lastore, 1) := by decide +kernel
theorem dX7_divides_161 : decode cX7_divides 161 = .ok (.aload_n 0, 1) := by decide +kernel
theorem dX7_divides_162 : decode cX7_divides 162 = .ok (.getfield 36, 3) := by decide +kernel
theorem dX7_divides_165 : decode cX7_divides 165 = .ok (.iload 8, 2) := by decide +kernel
theorem dX7_divides_167 : decode cX7_divides 167 = .ok (.ldc2_w 115, 3) := by decide +kernel
theorem dX7_divides_170 : decode cX7_divides 170 = .ok (.lastore, 1) := by decide +kernel
theorem dX7_divides_171 : decode cX7_divides 171 = .ok (.lload 6, 2) := by decide +kernel
theorem dX7_divides_173 : decode cX7_divides 173 = .ok (.lconst 1, 1) := by decide +kernel
theorem dX7_divides_174 : decode cX7_divides 174 = .ok (.lsub, 1) := by decide +kernel
theorem dX7_divides_175 : decode cX7_divides 175 = .ok (.lstore 6, 2) := by decide +kernel
theorem dX7_divides_177 : decode cX7_divides 177 = .ok (.goto (-79), 3) := by decide +kernel
theorem dX7_divides_180 : decode cX7_divides 180 = .ok (.return_, 1) := by decide +kernel
theorem dX7_clamped_0 : decode cX7_clamped 0 = .ok (.aload_n 0, 1) := by decide +kernel
theorem dX7_clamped_1 : decode cX7_clamped 1 = .ok (.iload_n 1, 1) := by decide +kernel
theorem dX7_clamped_2 : decode cX7_clamped 2 = .ok (.iconst 4, 1) := by decide +kernel
theorem dX7_clamped_3 : decode cX7_clamped 3 = .ok (.invokevirtual 145, 3) := by decide +kernel
theorem dX7_clamped_6 : decode cX7_clamped 6 = .ok (.ifCond .lt 22, 3) := by decide +kernel
theorem dX7_clamped_9 : decode cX7_clamped 9 = .ok (.iload_n 2, 1) := by decide +kernel
theorem dX7_clamped_10 : decode cX7_clamped 10 = .ok (.aload_n 0, 1) := by decide +kernel
theorem dX7_clamped_11 : decode cX7_clamped 11 = .ok (.iload_n 1, 1) := by decide +kernel
theorem dX7_clamped_12 : decode cX7_clamped 12 = .ok (.iconst 4, 1) := by decide +kernel
theorem dX7_clamped_13 : decode cX7_clamped 13 = .ok (.invokevirtual 145, 3) := by decide +kernel
theorem dX7_clamped_16 : decode cX7_clamped 16 = .ok (.if_icmp .le 12, 3) := by decide +kernel
theorem dX7_clamped_19 : decode cX7_clamped 19 = .ok (.aload_n 0, 1) := by decide +kernel
theorem dX7_clamped_20 : decode cX7_clamped 20 = .ok (.iload_n 1, 1) := by decide +kernel
theorem dX7_clamped_21 : decode cX7_clamped 21 = .ok (.iconst 4, 1) := by decide +kernel
theorem dX7_clamped_22 : decode cX7_clamped 22 = .ok (.invokevirtual 145, 3) := by decide +kernel
theorem dX7_clamped_25 : decode cX7_clamped 25 = .ok (.goto 4, 3) := by decide +kernel
theorem dX7_clamped_28 : decode cX7_clamped 28 = .ok (.iload_n 2, 1) := by decide +kernel
theorem dX7_clamped_29 : decode cX7_clamped 29 = .ok (.istore_n 3, 1) := by decide +kernel
theorem dX7_clamped_30 : decode cX7_clamped 30 = .ok (.iload_n 3, 1) := by decide +kernel
theorem dX7_clamped_31 : decode cX7_clamped 31 = .ok (.aload_n 0, 1) := by decide +kernel
theorem dX7_clamped_32 : decode cX7_clamped 32 = .ok (.iload_n 1, 1) := by decide +kernel
theorem dX7_clamped_33 : decode cX7_clamped 33 = .ok (.iconst 3, 1) := by decide +kernel
theorem dX7_clamped_34 : decode cX7_clamped 34 = .ok (.invokevirtual 145, 3) := by decide +kernel
theorem dX7_clamped_37 : decode cX7_clamped 37 = .ok (.if_icmp .ge 12, 3) := by decide +kernel
theorem dX7_clamped_40 : decode cX7_clamped 40 = .ok (.aload_n 0, 1) := by decide +kernel
theorem dX7_clamped_41 : decode cX7_clamped 41 = .ok (.iload_n 1, 1) := by decide +kernel
theorem dX7_clamped_42 : decode cX7_clamped 42 = .ok (.iconst 3, 1) := by decide +kernel
theorem dX7_clamped_43 : decode cX7_clamped 43 = .ok (.invokevirtual 145, 3) := by decide +kernel
theorem dX7_clamped_46 : decode cX7_clamped 46 = .ok (.goto 4, 3) := by decide +kernel
theorem dX7_clamped_49 : decode cX7_clamped 49 = .ok (.iload_n 3, 1) := by decide +kernel
theorem dX7_clamped_50 : decode cX7_clamped 50 = .ok (.ireturn, 1) := by decide +kernel
theorem dX7_hypothetical_0 : decode cX7_hypothetical 0 = .ok (.aload_n 0, 1) := by decide +kernel
theorem dX7_hypothetical_1 : decode cX7_hypothetical 1 = .ok (.iload_n 1, 1) := by decide +kernel
theorem dX7_hypothetical_2 : decode cX7_hypothetical 2 = .ok (.aload_n 0, 1) := by decide +kernel
theorem dX7_hypothetical_3 : decode cX7_hypothetical 3 = .ok (.iload_n 1, 1) := by decide +kernel
theorem dX7_hypothetical_4 : decode cX7_hypothetical 4 = .ok (.iconst 0, 1) := by decide +kernel
theorem dX7_hypothetical_5 : decode cX7_hypothetical 5 = .ok (.invokevirtual 145, 3) := by decide +kernel
theorem dX7_hypothetical_8 : decode cX7_hypothetical 8 = .ok (.invokevirtual 175, 3) := by decide +kernel
theorem dX7_hypothetical_11 : decode cX7_hypothetical 11 = .ok (.ireturn, 1) := by decide +kernel
theorem dX7_findSequence_0 : decode cX7_findSequence 0 = .ok (.iconst 0, 1) := by decide +kernel
theorem dX7_findSequence_1 : decode cX7_findSequence 1 = .ok (.istore_n 1, 1) := by decide +kernel
theorem dX7_findSequence_2 : decode cX7_findSequence 2 = .ok (.iload_n 1, 1) := by decide +kernel
theorem dX7_findSequence_3 : decode cX7_findSequence 3 = .ok (.aload_n 0, 1) := by decide +kernel
theorem dX7_findSequence_4 : decode cX7_findSequence 4 = .ok (.getfield 124, 3) := by decide +kernel
theorem dX7_findSequence_7 : decode cX7_findSequence 7 = .ok (.if_icmp .ge 66, 3) := by decide +kernel
theorem dX7_findSequence_10 : decode cX7_findSequence 10 = .ok (.iload_n 1, 1) := by decide +kernel
theorem dX7_findSequence_11 : decode cX7_findSequence 11 = .ok (.istore_n 2, 1) := by decide +kernel
theorem dX7_findSequence_12 : decode cX7_findSequence 12 = .ok (.iload_n 2, 1) := by decide +kernel
theorem dX7_findSequence_13 : decode cX7_findSequence 13 = .ok (.ifCond .le 47, 3) := by decide +kernel
theorem dX7_findSequence_16 : decode cX7_findSequence 16 = .ok (.aload_n 0, 1) := by decide +kernel
theorem dX7_findSequence_17 : decode cX7_findSequence 17 = .ok (.aload_n 0, 1) := by decide +kernel
theorem dX7_findSequence_18 : decode cX7_findSequence 18 = .ok (.getfield 39, 3) := by decide +kernel
theorem dX7_findSequence_21 : decode cX7_findSequence 21 = .ok (.iload_n 2, 1) := by decide +kernel
theorem dX7_findSequence_22 : decode cX7_findSequence 22 = .ok (.iconst 1, 1) := by decide +kernel
theorem dX7_findSequence_23 : decode cX7_findSequence 23 = .ok (.isub, 1) := by decide +kernel
theorem dX7_findSequence_24 : decode cX7_findSequence 24 = .ok (.iaload, 1) := by decide +kernel
theorem dX7_findSequence_25 : decode cX7_findSequence 25 = .ok (.bipush 8, 2) := by decide +kernel
theorem dX7_findSequence_27 : decode cX7_findSequence 27 = .ok (.invokevirtual 145, 3) := by decide +kernel
theorem dX7_findSequence_30 : decode cX7_findSequence 30 = .ok (.aload_n 0, 1) := by decide +kernel
theorem dX7_findSequence_31 : decode cX7_findSequence 31 = .ok (.iload_n 1, 1) := by decide +kernel
theorem dX7_findSequence_32 : decode cX7_findSequence 32 = .ok (.bipush 8, 2) := by decide +kernel
theorem dX7_findSequence_34 : decode cX7_findSequence 34 = .ok (.invokevirtual 145, 3) := by decide +kernel
theorem dX7_findSequence_37 : decode cX7_findSequence 37 = .ok (.if_icmp .le 23, 3) := by decide +kernel
theorem dX7_findSequence_40 : decode cX7_findSequence 40 = .ok (.aload_n 0, 1) := by decide +kernel
theorem dX7_findSequence_41 : decode cX7_findSequence 41 = .ok (.getfield 39, 3) := by decide +kernel
theorem dX7_findSequence_44 : decode cX7_findSequence 44 = .ok (.iload_n 2, 1) := by decide +kernel
theorem dX7_findSequence_45 : decode cX7_findSequence 45 = .ok (.aload_n 0, 1) := by decide +kernel
theorem dX7_findSequence_46 : decode cX7_findSequence 46 = .ok (.getfield 39, 3) := by decide +kernel
theorem dX7_findSequence_49 : decode cX7_findSequence 49 = .ok (.iload_n 2, 1) := by decide +kernel
theorem dX7_findSequence_50 : decode cX7_findSequence 50 = .ok (.iconst 1, 1) := by decide +kernel
theorem dX7_findSequence_51 : decode cX7_findSequence 51 = .ok (.isub, 1) := by decide +kernel
theorem dX7_findSequence_52 : decode cX7_findSequence 52 = .ok (.iaload, 1) := by decide +kernel
theorem dX7_findSequence_53 : decode cX7_findSequence 53 = .ok (.iastore, 1) := by decide +kernel
theorem dX7_findSequence_54 : decode cX7_findSequence 54 = .ok (.iinc 2 (-1), 3) := by decide +kernel
theorem dX7_findSequence_57 : decode cX7_findSequence 57 = .ok (.goto (-45), 3) := by decide +kernel
theorem dX7_findSequence_60 : decode cX7_findSequence 60 = .ok (.aload_n 0, 1) := by decide +kernel
theorem dX7_findSequence_61 : decode cX7_findSequence 61 = .ok (.getfield 39, 3) := by decide +kernel
theorem dX7_findSequence_64 : decode cX7_findSequence 64 = .ok (.iload_n 2, 1) := by decide +kernel
theorem dX7_findSequence_65 : decode cX7_findSequence 65 = .ok (.iload_n 1, 1) := by decide +kernel
theorem dX7_findSequence_66 : decode cX7_findSequence 66 = .ok (.iastore, 1) := by decide +kernel
theorem dX7_findSequence_67 : decode cX7_findSequence 67 = .ok (.iinc 1 1, 3) := by decide +kernel
theorem dX7_findSequence_70 : decode cX7_findSequence 70 = .ok (.goto (-68), 3) := by decide +kernel
theorem dX7_findSequence_73 : decode cX7_findSequence 73 = .ok (.iconst 0, 1) := by decide +kernel
theorem dX7_findSequence_74 : decode cX7_findSequence 74 = .ok (.istore_n 1, 1) := by decide +kernel
theorem dX7_findSequence_75 : decode cX7_findSequence 75 = .ok (.iload_n 1, 1) := by decide +kernel
theorem dX7_findSequence_76 : decode cX7_findSequence 76 = .ok (.aload_n 0, 1) := by decide +kernel
theorem dX7_findSequence_77 : decode cX7_findSequence 77 = .ok (.getfield 124, 3) := by decide +kernel
theorem dX7_findSequence_80 : decode cX7_findSequence 80 = .ok (.if_icmp .ge 21, 3) := by decide +kernel
theorem dX7_findSequence_83 : decode cX7_findSequence 83 = .ok (.aload_n 0, 1) := by decide +kernel
theorem dX7_findSequence_84 : decode cX7_findSequence 84 = .ok (.getfield 57, 3) := by decide +kernel
theorem dX7_findSequence_87 : decode cX7_findSequence 87 = .ok (.aload_n 0, 1) := by decide +kernel
theorem dX7_findSequence_88 : decode cX7_findSequence 88 = .ok (.getfield 39, 3) := by decide +kernel
theorem dX7_findSequence_91 : decode cX7_findSequence 91 = .ok (.iload_n 1, 1) := by decide +kernel
theorem dX7_findSequence_92 : decode cX7_findSequence 92 = .ok (.iaload, 1) := by decide +kernel
theorem dX7_findSequence_93 : decode cX7_findSequence 93 = .ok (.iload_n 1, 1) := by decide +kernel
theorem dX7_findSequence_94 : decode cX7_findSequence 94 = .ok (.iastore, 1) := by decide +kernel
theorem dX7_findSequence_95 : decode cX7_findSequence 95 = .ok (.iinc 1 1, 3) := by decide +kernel
theorem dX7_findSequence_98 : decode cX7_findSequence 98 = .ok (.goto (-23), 3) := by decide +kernel
theorem dX7_findSequence_101 : decode cX7_findSequence 101 = .ok (.return_, 1) := by decide +kernel
theorem dX7_findLines_0 : decode cX7_findLines 0 = .ok (.aload_n 0, 1) := by decide +kernel
theorem dX7_findLines_1 : decode cX7_findLines 1 = .ok (.iconst 0, 1) := by decide +kernel
theorem dX7_findLines_2 : decode cX7_findLines 2 = .ok (.putfield 178, 3) := by decide +kernel
theorem dX7_findLines_5 : decode cX7_findLines 5 = .ok (.iconst 0, 1) := by decide +kernel
theorem dX7_findLines_6 : decode cX7_findLines 6 = .ok (.istore_n 3, 1) := by decide +kernel
theorem dX7_findLines_7 : decode cX7_findLines 7 = .ok (.iconst 0, 1) := by decide +kernel
theorem dX7_findLines_8 : decode cX7_findLines 8 = .ok (.istore 4, 2) := by decide +kernel
theorem dX7_findLines_10 : decode cX7_findLines 10 = .ok (.iload 4, 2) := by decide +kernel
theorem dX7_findLines_12 : decode cX7_findLines 12 = .ok (.aload_n 0, 1) := by decide +kernel
theorem dX7_findLines_13 : decode cX7_findLines 13 = .ok (.getfield 124, 3) := by decide +kernel
theorem dX7_findLines_16 : decode cX7_findLines 16 = .ok (.if_icmp .ge 141, 3) := by decide +kernel
theorem dX7_findLines_19 : decode cX7_findLines 19 = .ok (.aload_n 0, 1) := by decide +kernel
theorem dX7_findLines_20 : decode cX7_findLines 20 = .ok (.aload_n 0, 1) := by decide +kernel
theorem dX7_findLines_21 : decode cX7_findLines 21 = .ok (.getfield 39, 3) := by decide +kernel
theorem dX7_findLines_24 : decode cX7_findLines 24 = .ok (.iload 4, 2) := by decide +kernel
theorem dX7_findLines_26 : decode cX7_findLines 26 = .ok (.iaload, 1) := by decide +kernel
theorem dX7_findLines_27 : decode cX7_findLines 27 = .ok (.invokevirtual 181, 3) := by decide +kernel
theorem dX7_findLines_30 : decode cX7_findLines 30 = .ok (.istore 5, 2) := by decide +kernel
theorem dX7_findLines_32 : decode cX7_findLines 32 = .ok (.aload_n 0, 1) := by decide +kernel
theorem dX7_findLines_33 : decode cX7_findLines 33 = .ok (.getfield 178, 3) := by decide +kernel
theorem dX7_findLines_36 : decode cX7_findLines 36 = .ok (.ifCond .eq 22, 3) := by decide +kernel
theorem dX7_findLines_39 : decode cX7_findLines 39 = .ok (.iload_n 2, 1) := by decide +kernel
theorem dX7_findLines_40 : decode cX7_findLines 40 = .ok (.ifCond .eq 22, 3) := by decide +kernel
theorem dX7_findLines_43 : decode cX7_findLines 43 = .ok (.iload_n 3, 1) := by decide +kernel
theorem dX7_findLines_44 : decode cX7_findLines 44 = .ok (.aload_n 0, 1) := by decide +kernel
theorem dX7_findLines_45 : decode cX7_findLines 45 = .ok (.getfield 9, 3) := by decide +kernel
theorem dX7_findLines_48 : decode cX7_findLines 48 = .ok (.iconst 2, 1) := by decide +kernel
theorem dX7_findLines_49 : decode cX7_findLines 49 = .ok (.iaload, 1) := by decide +kernel
theorem dX7_findLines_50 : decode cX7_findLines 50 = .ok (.iadd, 1) := by decide +kernel
theorem dX7_findLines_51 : decode cX7_findLines 51 = .ok (.iload 5, 2) := by decide +kernel
theorem dX7_findLines_53 : decode cX7_findLines 53 = .ok (.iadd, 1) := by decide +kernel
theorem dX7_findLines_54 : decode cX7_findLines 54 = .ok (.iload_n 1, 1) := by decide +kernel
theorem dX7_findLines_55 : decode cX7_findLines 55 = .ok (.if_icmp .le 7, 3) := by decide +kernel
theorem dX7_findLines_58 : decode cX7_findLines 58 = .ok (.iconst 1, 1) := by decide +kernel
theorem dX7_findLines_59 : decode cX7_findLines 59 = .ok (.goto 4, 3) := by decide +kernel
theorem dX7_findLines_62 : decode cX7_findLines 62 = .ok (.iconst 0, 1) := by decide +kernel
theorem dX7_findLines_63 : decode cX7_findLines 63 = .ok (.istore 6, 2) := by decide +kernel
theorem dX7_findLines_65 : decode cX7_findLines 65 = .ok (.iload 6, 2) := by decide +kernel
theorem dX7_findLines_67 : decode cX7_findLines 67 = .ok (.ifCond .eq 34, 3) := by decide +kernel
theorem dX7_findLines_70 : decode cX7_findLines 70 = .ok (.aload_n 0, 1) := by decide +kernel
theorem dX7_findLines_71 : decode cX7_findLines 71 = .ok (.getfield 64, 3) := by decide +kernel
theorem dX7_findLines_74 : decode cX7_findLines 74 = .ok (.aload_n 0, 1) := by decide +kernel
theorem dX7_findLines_75 : decode cX7_findLines 75 = .ok (.getfield 178, 3) := by decide +kernel
theorem dX7_findLines_78 : decode cX7_findLines 78 = .ok (.iload 4, 2) := by decide +kernel
theorem dX7_findLines_80 : decode cX7_findLines 80 = .ok (.iastore, 1) := by decide +kernel
theorem dX7_findLines_81 : decode cX7_findLines 81 = .ok (.aload_n 0, 1) := by decide +kernel
theorem dX7_findLines_82 : decode cX7_findLines 82 = .ok (.getfield 67, 3) := by decide +kernel
theorem dX7_findLines_85 : decode cX7_findLines 85 = .ok (.aload_n 0, 1) := by decide +kernel
theorem dX7_findLines_86 : decode cX7_findLines 86 = .ok (.getfield 178, 3) := by decide +kernel
theorem dX7_findLines_89 : decode cX7_findLines 89 = .ok (.iconst 0, 1) := by decide +kernel
theorem dX7_findLines_90 : decode cX7_findLines 90 = .ok (.iastore, 1) := by decide +kernel
theorem dX7_findLines_91 : decode cX7_findLines 91 = .ok (.aload_n 0, 1) := by decide +kernel
theorem dX7_findLines_92 : decode cX7_findLines 92 = .ok (.dup, 1) := by decide +kernel
theorem dX7_findLines_93 : decode cX7_findLines 93 = .ok (.getfield 178, 3) := by decide +kernel
theorem dX7_findLines_96 : decode cX7_findLines 96 = .ok (.iconst 1, 1) := by decide +kernel
theorem dX7_findLines_97 : decode cX7_findLines 97 = .ok (.iadd, 1) := by decide +kernel
theorem dX7_findLines_98 : decode cX7_findLines 98 = .ok (.putfield 178, 3) := by decide +kernel
theorem dX7_findLines_101 : decode cX7_findLines 101 = .ok (.iload 6, 2) := by decide +kernel
theorem dX7_findLines_103 : decode cX7_findLines 103 = .ok (.ifCond .eq 8, 3) := by decide +kernel
theorem dX7_findLines_106 : decode cX7_findLines 106 = .ok (.iload 5, 2) := by decide +kernel
theorem dX7_findLines_108 : decode cX7_findLines 108 = .ok (.goto 14, 3) := by decide +kernel
theorem dX7_findLines_111 : decode cX7_findLines 111 = .ok (.iload_n 3, 1) := by decide +kernel
theorem dX7_findLines_112 : decode cX7_findLines 112 = .ok (.aload_n 0, 1) := by decide +kernel
theorem dX7_findLines_113 : decode cX7_findLines 113 = .ok (.getfield 9, 3) := by decide +kernel
theorem dX7_findLines_116 : decode cX7_findLines 116 = .ok (.iconst 2, 1) := by decide +kernel
theorem dX7_findLines_117 : decode cX7_findLines 117 = .ok (.iaload, 1) := by decide +kernel
theorem dX7_findLines_118 : decode cX7_findLines 118 = .ok (.iadd, 1) := by decide +kernel
theorem dX7_findLines_119 : decode cX7_findLines 119 = .ok (.iload 5, 2) := by decide +kernel
theorem dX7_findLines_121 : decode cX7_findLines 121 = .ok (.iadd, 1) := by decide +kernel
theorem dX7_findLines_122 : decode cX7_findLines 122 = .ok (.istore_n 3, 1) := by decide +kernel
theorem dX7_findLines_123 : decode cX7_findLines 123 = .ok (.aload_n 0, 1) := by decide +kernel
theorem dX7_findLines_124 : decode cX7_findLines 124 = .ok (.getfield 67, 3) := by decide +kernel
theorem dX7_findLines_127 : decode cX7_findLines 127 = .ok (.aload_n 0, 1) := by decide +kernel
theorem dX7_findLines_128 : decode cX7_findLines 128 = .ok (.getfield 178, 3) := by decide +kernel
theorem dX7_findLines_131 : decode cX7_findLines 131 = .ok (.iconst 1, 1) := by decide +kernel
theorem dX7_findLines_132 : decode cX7_findLines 132 = .ok (.isub, 1) := by decide +kernel
theorem dX7_findLines_133 : decode cX7_findLines 133 = .ok (.dup2, 1) := by decide +kernel
theorem dX7_findLines_134 : decode cX7_findLines 134 = .ok (.iaload, 1) := by decide +kernel
theorem dX7_findLines_135 : decode cX7_findLines 135 = .ok (.iconst 1, 1) := by decide +kernel
theorem dX7_findLines_136 : decode cX7_findLines 136 = .ok (.iadd, 1) := by decide +kernel
theorem dX7_findLines_137 : decode cX7_findLines 137 = .ok (.iastore, 1) := by decide +kernel
theorem dX7_findLines_138 : decode cX7_findLines 138 = .ok (.aload_n 0, 1) := by decide +kernel
theorem dX7_findLines_139 : decode cX7_findLines 139 = .ok (.getfield 45, 3) := by decide +kernel
theorem dX7_findLines_142 : decode cX7_findLines 142 = .ok (.iload 4, 2) := by decide +kernel
theorem dX7_findLines_144 : decode cX7_findLines 144 = .ok (.aload_n 0, 1) := by decide +kernel
theorem dX7_findLines_145 : decode cX7_findLines 145 = .ok (.getfield 178, 3) := by decide +kernel
theorem dX7_findLines_148 : decode cX7_findLines 148 = .ok (.iconst 1, 1) := by decide +kernel
theorem dX7_findLines_149 : decode cX7_findLines 149 = .ok (.isub, 1) := by decide +kernel
theorem dX7_findLines_150 : decode cX7_findLines 150 = .ok (.iastore, 1) := by decide +kernel
theorem dX7_findLines_151 : decode cX7_findLines 151 = .ok (.iinc 4 1, 3) := by decide +kernel
theorem dX7_findLines_154 : decode cX7_findLines 154 = .ok (.goto (-144), 3) := by decide +kernel
theorem dX7_findLines_157 : decode cX7_findLines 157 = .ok (.return_, 1) := by decide +kernel
theorem dX7_available_0 : decode cX7_available 0 = .ok (.aload_n 0, 1) := by decide +kernel
theorem dX7_available_1 : decode cX7_available 1 = .ok (.getfield 9, 3) := by decide +kernel
theorem dX7_available_4 : decode cX7_available 4 = .ok (.iconst 0, 1) := by decide +kernel
theorem dX7_available_5 : decode cX7_available 5 = .ok (.iaload, 1) := by decide +kernel
theorem dX7_available_6 : decode cX7_available 6 = .ok (.aload_n 0, 1) := by decide +kernel
theorem dX7_available_7 : decode cX7_available 7 = .ok (.getfield 9, 3) := by decide +kernel
theorem dX7_available_10 : decode cX7_available 10 = .ok (.iconst 2, 1) := by decide +kernel
theorem dX7_available_11 : decode cX7_available 11 = .ok (.iaload, 1) := by decide +kernel
theorem dX7_available_12 : decode cX7_available 12 = .ok (.aload_n 0, 1) := by decide +kernel
theorem dX7_available_13 : decode cX7_available 13 = .ok (.getfield 67, 3) := by decide +kernel
theorem dX7_available_16 : decode cX7_available 16 = .ok (.iload_n 1, 1) := by decide +kernel
theorem dX7_available_17 : decode cX7_available 17 = .ok (.iaload, 1) := by decide +kernel
theorem dX7_available_18 : decode cX7_available 18 = .ok (.iconst 1, 1) := by decide +kernel
theorem dX7_available_19 : decode cX7_available 19 = .ok (.isub, 1) := by decide +kernel
theorem dX7_available_20 : decode cX7_available 20 = .ok (.imul, 1) := by decide +kernel
theorem dX7_available_21 : decode cX7_available 21 = .ok (.isub, 1) := by decide +kernel
theorem dX7_available_22 : decode cX7_available 22 = .ok (.ireturn, 1) := by decide +kernel
theorem dX7_leftOf_0 : decode cX7_leftOf 0 = .ok (.aload_n 0, 1) := by decide +kernel
theorem dX7_leftOf_1 : decode cX7_leftOf 1 = .ok (.iload_n 1, 1) := by decide +kernel
theorem dX7_leftOf_2 : decode cX7_leftOf 2 = .ok (.invokevirtual 184, 3) := by decide +kernel
theorem dX7_leftOf_5 : decode cX7_leftOf 5 = .ok (.istore_n 2, 1) := by decide +kernel
theorem dX7_leftOf_6 : decode cX7_leftOf 6 = .ok (.aload_n 0, 1) := by decide +kernel
theorem dX7_leftOf_7 : decode cX7_leftOf 7 = .ok (.getfield 64, 3) := by decide +kernel
theorem dX7_leftOf_10 : decode cX7_leftOf 10 = .ok (.iload_n 1, 1) := by decide +kernel
theorem dX7_leftOf_11 : decode cX7_leftOf 11 = .ok (.iaload, 1) := by decide +kernel
theorem dX7_leftOf_12 : decode cX7_leftOf 12 = .ok (.istore_n 3, 1) := by decide +kernel
theorem dX7_leftOf_13 : decode cX7_leftOf 13 = .ok (.iload_n 3, 1) := by decide +kernel
theorem dX7_leftOf_14 : decode cX7_leftOf 14 = .ok (.aload_n 0, 1) := by decide +kernel
theorem dX7_leftOf_15 : decode cX7_leftOf 15 = .ok (.getfield 64, 3) := by decide +kernel
theorem dX7_leftOf_18 : decode cX7_leftOf 18 = .ok (.iload_n 1, 1) := by decide +kernel
theorem dX7_leftOf_19 : decode cX7_leftOf 19 = .ok (.iaload, 1) := by decide +kernel
theorem dX7_leftOf_20 : decode cX7_leftOf 20 = .ok (.aload_n 0, 1) := by decide +kernel
theorem dX7_leftOf_21 : decode cX7_leftOf 21 = .ok (.getfield 67, 3) := by decide +kernel
theorem dX7_leftOf_24 : decode cX7_leftOf 24 = .ok (.iload_n 1, 1) := by decide +kernel
theorem dX7_leftOf_25 : decode cX7_leftOf 25 = .ok (.iaload, 1) := by decide +kernel
theorem dX7_leftOf_26 : decode cX7_leftOf 26 = .ok (.iadd, 1) := by decide +kernel
theorem dX7_leftOf_27 : decode cX7_leftOf 27 = .ok (.if_icmp .ge 41, 3) := by decide +kernel
theorem dX7_leftOf_30 : decode cX7_leftOf 30 = .ok (.iload_n 2, 1) := by decide +kernel
theorem dX7_leftOf_31 : decode cX7_leftOf 31 = .ok (.aload_n 0, 1) := by decide +kernel
theorem dX7_leftOf_32 : decode cX7_leftOf 32 = .ok (.getfield 60, 3) := by decide +kernel
theorem dX7_leftOf_35 : decode cX7_leftOf 35 = .ok (.iload_n 3, 1) := by decide +kernel
theorem dX7_leftOf_36 : decode cX7_leftOf 36 = .ok (.baload, 1) := by decide +kernel
theorem dX7_leftOf_37 : decode cX7_leftOf 37 = .ok (.ifCond .eq 12, 3) := by decide +kernel
theorem dX7_leftOf_40 : decode cX7_leftOf 40 = .ok (.aload_n 0, 1) := by decide +kernel
theorem dX7_leftOf_41 : decode cX7_leftOf 41 = .ok (.getfield 42, 3) := by decide +kernel
theorem dX7_leftOf_44 : decode cX7_leftOf 44 = .ok (.iload_n 3, 1) := by decide +kernel
theorem dX7_leftOf_45 : decode cX7_leftOf 45 = .ok (.iaload, 1) := by decide +kernel
theorem dX7_leftOf_46 : decode cX7_leftOf 46 = .ok (.goto 14, 3) := by decide +kernel
theorem dX7_leftOf_49 : decode cX7_leftOf 49 = .ok (.aload_n 0, 1) := by decide +kernel
theorem dX7_leftOf_50 : decode cX7_leftOf 50 = .ok (.aload_n 0, 1) := by decide +kernel
theorem dX7_leftOf_51 : decode cX7_leftOf 51 = .ok (.getfield 39, 3) := by decide +kernel
theorem dX7_leftOf_54 : decode cX7_leftOf 54 = .ok (.iload_n 3, 1) := by decide +kernel
theorem dX7_leftOf_55 : decode cX7_leftOf 55 = .ok (.iaload, 1) := by decide +kernel
theorem dX7_leftOf_56 : decode cX7_leftOf 56 = .ok (.iconst 0, 1) := by decide +kernel
theorem dX7_leftOf_57 : decode cX7_leftOf 57 = .ok (.invokevirtual 145, 3) := by decide +kernel
theorem dX7_leftOf_60 : decode cX7_leftOf 60 = .ok (.isub, 1) := by decide +kernel
theorem dX7_leftOf_61 : decode cX7_leftOf 61 = .ok (.istore_n 2, 1) := by decide +kernel
theorem dX7_leftOf_62 : decode cX7_leftOf 62 = .ok (.iinc 3 1, 3) := by decide +kernel
theorem dX7_leftOf_65 : decode cX7_leftOf 65 = .ok (.goto (-52), 3) := by decide +kernel
theorem dX7_leftOf_68 : decode cX7_leftOf 68 = .ok (.iload_n 2, 1) := by decide +kernel
theorem dX7_leftOf_69 : decode cX7_leftOf 69 = .ok (.ireturn, 1) := by decide +kernel
theorem dX7_hasShares_0 : decode cX7_hasShares 0 = .ok (.lconst 0, 1) := by decide +kernel
theorem dX7_hasShares_1 : decode cX7_hasShares 1 = .ok (.lstore 4, 2) := by decide +kernel
theorem dX7_hasShares_3 : decode cX7_hasShares 3 = .ok (.iconst 0, 1) := by decide +kernel
theorem dX7_hasShares_4 : decode cX7_hasShares 4 = .ok (.istore 6, 2) := by decide +kernel
theorem dX7_hasShares_6 : decode cX7_hasShares 6 = .ok (.iload 6, 2) := by decide +kernel
theorem dX7_hasShares_8 : decode cX7_hasShares 8 = .ok (.aload_n 0, 1) := by decide +kernel
theorem dX7_hasShares_9 : decode cX7_hasShares 9 = .ok (.getfield 67, 3) := by decide +kernel
theorem dX7_hasShares_12 : decode cX7_hasShares 12 = .ok (.iload_n 1, 1) := by decide +kernel
theorem dX7_hasShares_13 : decode cX7_hasShares 13 = .ok (.iaload, 1) := by decide +kernel
theorem dX7_hasShares_14 : decode cX7_hasShares 14 = .ok (.if_icmp .ge 97, 3) := by decide +kernel
theorem dX7_hasShares_17 : decode cX7_hasShares 17 = .ok (.aload_n 0, 1) := by decide +kernel
theorem dX7_hasShares_18 : decode cX7_hasShares 18 = .ok (.getfield 39, 3) := by decide +kernel
theorem dX7_hasShares_21 : decode cX7_hasShares 21 = .ok (.aload_n 0, 1) := by decide +kernel
theorem dX7_hasShares_22 : decode cX7_hasShares 22 = .ok (.getfield 64, 3) := by decide +kernel
theorem dX7_hasShares_25 : decode cX7_hasShares 25 = .ok (.iload_n 1, 1) := by decide +kernel
theorem dX7_hasShares_26 : decode cX7_hasShares 26 = .ok (.iaload, 1) := by decide +kernel
theorem dX7_hasShares_27 : decode cX7_hasShares 27 = .ok (.iload 6, 2) := by decide +kernel
theorem dX7_hasShares_29 : decode cX7_hasShares 29 = .ok (.iadd, 1) := by decide +kernel
theorem dX7_hasShares_30 : decode cX7_hasShares 30 = .ok (.iaload, 1) := by decide +kernel
theorem dX7_hasShares_31 : decode cX7_hasShares 31 = .ok (.istore 7, 2) := by decide +kernel
theorem dX7_hasShares_33 : decode cX7_hasShares 33 = .ok (.aload_n 0, 1) := by decide +kernel
theorem dX7_hasShares_34 : decode cX7_hasShares 34 = .ok (.getfield 29, 3) := by decide +kernel
theorem dX7_hasShares_37 : decode cX7_hasShares 37 = .ok (.iload 6, 2) := by decide +kernel
theorem dX7_hasShares_39 : decode cX7_hasShares 39 = .ok (.aload_n 0, 1) := by decide +kernel
theorem dX7_hasShares_40 : decode cX7_hasShares 40 = .ok (.getfield 60, 3) := by decide +kernel
theorem dX7_hasShares_43 : decode cX7_hasShares 43 = .ok (.aload_n 0, 1) := by decide +kernel
theorem dX7_hasShares_44 : decode cX7_hasShares 44 = .ok (.getfield 64, 3) := by decide +kernel
theorem dX7_hasShares_47 : decode cX7_hasShares 47 = .ok (.iload_n 1, 1) := by decide +kernel
theorem dX7_hasShares_48 : decode cX7_hasShares 48 = .ok (.iaload, 1) := by decide +kernel
theorem dX7_hasShares_49 : decode cX7_hasShares 49 = .ok (.iload 6, 2) := by decide +kernel
theorem dX7_hasShares_51 : decode cX7_hasShares 51 = .ok (.iadd, 1) := by decide +kernel
theorem dX7_hasShares_52 : decode cX7_hasShares 52 = .ok (.baload, 1) := by decide +kernel
theorem dX7_hasShares_53 : decode cX7_hasShares 53 = .ok (.ifCond .eq 7, 3) := by decide +kernel
theorem dX7_hasShares_56 : decode cX7_hasShares 56 = .ok (.lconst 0, 1) := by decide +kernel
theorem dX7_hasShares_57 : decode cX7_hasShares 57 = .ok (.goto 35, 3) := by decide +kernel
theorem dX7_hasShares_60 : decode cX7_hasShares 60 = .ok (.iload_n 3, 1) := by decide +kernel
theorem dX7_hasShares_61 : decode cX7_hasShares 61 = .ok (.ifCond .eq 14, 3) := by decide +kernel
theorem dX7_hasShares_64 : decode cX7_hasShares 64 = .ok (.aload_n 0, 1) := by decide +kernel
theorem dX7_hasShares_65 : decode cX7_hasShares 65 = .ok (.iload 7, 2) := by decide +kernel
theorem dX7_hasShares_67 : decode cX7_hasShares 67 = .ok (.iconst 1, 1) := by decide +kernel
theorem dX7_hasShares_68 : decode cX7_hasShares 68 = .ok (.invokevirtual 145, 3) := by decide +kernel
theorem dX7_hasShares_71 : decode cX7_hasShares 71 = .ok (.i2l, 1) := by decide +kernel
theorem dX7_hasShares_72 : decode cX7_hasShares 72 = .ok (.goto 20, 3) := by decide +kernel
theorem dX7_hasShares_75 : decode cX7_hasShares 75 = .ok (.aload_n 0, 1) := by decide +kernel
theorem dX7_hasShares_76 : decode cX7_hasShares 76 = .ok (.iload 7, 2) := by decide +kernel
theorem dX7_hasShares_78 : decode cX7_hasShares 78 = .ok (.iconst 2, 1) := by decide +kernel
theorem dX7_hasShares_79 : decode cX7_hasShares 79 = .ok (.invokevirtual 145, 3) := by decide +kernel
theorem dX7_hasShares_82 : decode cX7_hasShares 82 = .ok (.i2l, 1) := by decide +kernel
theorem dX7_hasShares_83 : decode cX7_hasShares 83 = .ok (.aload_n 0, 1) := by decide +kernel
theorem dX7_hasShares_84 : decode cX7_hasShares 84 = .ok (.iload 7, 2) := by decide +kernel
theorem dX7_hasShares_86 : decode cX7_hasShares 86 = .ok (.iconst 0, 1) := by decide +kernel
theorem dX7_hasShares_87 : decode cX7_hasShares 87 = .ok (.invokevirtual 145, 3) := by decide +kernel
theorem dX7_hasShares_90 : decode cX7_hasShares 90 = .ok (.i2l, 1) := by decide +kernel
theorem dX7_hasShares_91 : decode cX7_hasShares 91 = .ok (.lmul, 1) := by decide +kernel
theorem dX7_hasShares_92 : decode cX7_hasShares 92 = .ok (.lastore, 1) := by decide +kernel
theorem dX7_hasShares_93 : decode cX7_hasShares 93 = .ok (.lload 4, 2) := by decide +kernel
theorem dX7_hasShares_95 : decode cX7_hasShares 95 = .ok (.aload_n 0, 1) := by decide +kernel
theorem dX7_hasShares_96 : decode cX7_hasShares 96 = .ok (.getfield 29, 3) := by decide +kernel
theorem dX7_hasShares_99 : decode cX7_hasShares 99 = .ok (.iload 6, 2) := by decide +kernel
theorem dX7_hasShares_101 : decode cX7_hasShares 101 = .ok (.laload, 1) := by decide +kernel
theorem dX7_hasShares_102 : decode cX7_hasShares 102 = .ok (.ladd, 1) := by decide +kernel
theorem dX7_hasShares_103 : decode cX7_hasShares 103 = .ok (.lstore 4, 2) := by decide +kernel
theorem dX7_hasShares_105 : decode cX7_hasShares 105 = .ok (.iinc 6 1, 3) := by decide +kernel
theorem dX7_hasShares_108 : decode cX7_hasShares 108 = .ok (.goto (-102), 3) := by decide +kernel
theorem dX7_hasShares_111 : decode cX7_hasShares 111 = .ok (.lload 4, 2) := by decide +kernel
theorem dX7_hasShares_113 : decode cX7_hasShares 113 = .ok (.lconst 0, 1) := by decide +kernel
theorem dX7_hasShares_114 : decode cX7_hasShares 114 = .ok (.lcmp, 1) := by decide +kernel
theorem dX7_hasShares_115 : decode cX7_hasShares 115 = .ok (.ifCond .eq 18, 3) := by decide +kernel
theorem dX7_hasShares_118 : decode cX7_hasShares 118 = .ok (.iload_n 3, 1) := by decide +kernel
theorem dX7_hasShares_119 : decode cX7_hasShares 119 = .ok (.ifCond .eq 10, 3) := by decide +kernel
theorem dX7_hasShares_122 : decode cX7_hasShares 122 = .ok (.iload_n 2, 1) := by decide +kernel
theorem dX7_hasShares_123 : decode cX7_hasShares 123 = .ok (.ifCond .gt 12, 3) := by decide +kernel
theorem dX7_hasShares_126 : decode cX7_hasShares 126 = .ok (.goto 7, 3) := by decide +kernel
theorem dX7_hasShares_129 : decode cX7_hasShares 129 = .ok (.iload_n 2, 1) := by decide +kernel
theorem dX7_hasShares_130 : decode cX7_hasShares 130 = .ok (.ifCond .lt 5, 3) := by decide +kernel
theorem dX7_hasShares_133 : decode cX7_hasShares 133 = .ok (.iconst 0, 1) := by decide +kernel
theorem dX7_hasShares_134 : decode cX7_hasShares 134 = .ok (.ireturn, 1) := by decide +kernel
theorem dX7_hasShares_135 : decode cX7_hasShares 135 = .ok (.aload_n 0, 1) := by decide +kernel
theorem dX7_hasShares_136 : decode cX7_hasShares 136 = .ok (.iload_n 3, 1) := by decide +kernel
theorem dX7_hasShares_137 : decode cX7_hasShares 137 = .ok (.ifCond .eq 8, 3) := by decide +kernel
theorem dX7_hasShares_140 : decode cX7_hasShares 140 = .ok (.iload_n 2, 1) := by decide +kernel
theorem dX7_hasShares_141 : decode cX7_hasShares 141 = .ok (.i2l, 1) := by decide +kernel
theorem dX7_hasShares_142 : decode cX7_hasShares 142 = .ok (.goto 6, 3) := by decide +kernel
theorem dX7_hasShares_145 : decode cX7_hasShares 145 = .ok (.iload_n 2, 1) := by decide +kernel
theorem dX7_hasShares_146 : decode cX7_hasShares 146 = .ok (.ineg, 1) := by decide +kernel
theorem dX7_hasShares_147 : decode cX7_hasShares 147 = .ok (.i2l, 1) := by decide +kernel
theorem dX7_hasShares_148 : decode cX7_hasShares 148 = .ok (.aload_n 0, 1) := by decide +kernel
theorem dX7_hasShares_149 : decode cX7_hasShares 149 = .ok (.getfield 67, 3) := by decide +kernel
theorem dX7_hasShares_152 : decode cX7_hasShares 152 = .ok (.iload_n 1, 1) := by decide +kernel
theorem dX7_hasShares_153 : decode cX7_hasShares 153 = .ok (.iaload, 1) := by decide +kernel
theorem dX7_hasShares_154 : decode cX7_hasShares 154 = .ok (.invokevirtual 187, 3) := by decide +kernel
theorem dX7_hasShares_157 : decode cX7_hasShares 157 = .ok (.iconst 1, 1) := by decide +kernel
theorem dX7_hasShares_158 : decode cX7_hasShares 158 = .ok (.ireturn, 1) := by decide +kernel
theorem dX7_areFrozen_0 : decode cX7_areFrozen 0 = .ok (.iconst 1, 1) := by decide +kernel
theorem dX7_areFrozen_1 : decode cX7_areFrozen 1 = .ok (.istore_n 2, 1) := by decide +kernel
theorem dX7_areFrozen_2 : decode cX7_areFrozen 2 = .ok (.aload_n 0, 1) := by decide +kernel
theorem dX7_areFrozen_3 : decode cX7_areFrozen 3 = .ok (.getfield 64, 3) := by decide +kernel
theorem dX7_areFrozen_6 : decode cX7_areFrozen 6 = .ok (.iload_n 1, 1) := by decide +kernel
theorem dX7_areFrozen_7 : decode cX7_areFrozen 7 = .ok (.iaload, 1) := by decide +kernel
theorem dX7_areFrozen_8 : decode cX7_areFrozen 8 = .ok (.istore_n 3, 1) := by decide +kernel
theorem dX7_areFrozen_9 : decode cX7_areFrozen 9 = .ok (.iload_n 3, 1) := by decide +kernel
theorem dX7_areFrozen_10 : decode cX7_areFrozen 10 = .ok (.aload_n 0, 1) := by decide +kernel
theorem dX7_areFrozen_11 : decode cX7_areFrozen 11 = .ok (.getfield 64, 3) := by decide +kernel
theorem dX7_areFrozen_14 : decode cX7_areFrozen 14 = .ok (.iload_n 1, 1) := by decide +kernel
theorem dX7_areFrozen_15 : decode cX7_areFrozen 15 = .ok (.iaload, 1) := by decide +kernel
theorem dX7_areFrozen_16 : decode cX7_areFrozen 16 = .ok (.aload_n 0, 1) := by decide +kernel
theorem dX7_areFrozen_17 : decode cX7_areFrozen 17 = .ok (.getfield 67, 3) := by decide +kernel
theorem dX7_areFrozen_20 : decode cX7_areFrozen 20 = .ok (.iload_n 1, 1) := by decide +kernel
theorem dX7_areFrozen_21 : decode cX7_areFrozen 21 = .ok (.iaload, 1) := by decide +kernel
theorem dX7_areFrozen_22 : decode cX7_areFrozen 22 = .ok (.iadd, 1) := by decide +kernel
theorem dX7_areFrozen_23 : decode cX7_areFrozen 23 = .ok (.if_icmp .ge 28, 3) := by decide +kernel
theorem dX7_areFrozen_26 : decode cX7_areFrozen 26 = .ok (.iload_n 2, 1) := by decide +kernel
theorem dX7_areFrozen_27 : decode cX7_areFrozen 27 = .ok (.ifCond .eq 16, 3) := by decide +kernel
theorem dX7_areFrozen_30 : decode cX7_areFrozen 30 = .ok (.aload_n 0, 1) := by decide +kernel
theorem dX7_areFrozen_31 : decode cX7_areFrozen 31 = .ok (.getfield 60, 3) := by decide +kernel
theorem dX7_areFrozen_34 : decode cX7_areFrozen 34 = .ok (.iload_n 3, 1) := by decide +kernel
theorem dX7_areFrozen_35 : decode cX7_areFrozen 35 = .ok (.baload, 1) := by decide +kernel
theorem dX7_areFrozen_36 : decode cX7_areFrozen 36 = .ok (.ifCond .eq 7, 3) := by decide +kernel
theorem dX7_areFrozen_39 : decode cX7_areFrozen 39 = .ok (.iconst 1, 1) := by decide +kernel
theorem dX7_areFrozen_40 : decode cX7_areFrozen 40 = .ok (.goto 4, 3) := by decide +kernel
theorem dX7_areFrozen_43 : decode cX7_areFrozen 43 = .ok (.iconst 0, 1) := by decide +kernel
theorem dX7_areFrozen_44 : decode cX7_areFrozen 44 = .ok (.istore_n 2, 1) := by decide +kernel
theorem dX7_areFrozen_45 : decode cX7_areFrozen 45 = .ok (.iinc 3 1, 3) := by decide +kernel
theorem dX7_areFrozen_48 : decode cX7_areFrozen 48 = .ok (.goto (-39), 3) := by decide +kernel
theorem dX7_areFrozen_51 : decode cX7_areFrozen 51 = .ok (.iload_n 2, 1) := by decide +kernel
theorem dX7_areFrozen_52 : decode cX7_areFrozen 52 = .ok (.ireturn, 1) := by decide +kernel
theorem dX7_round_0 : decode cX7_round 0 = .ok (.aload_n 0, 1) := by decide +kernel
theorem dX7_round_1 : decode cX7_round 1 = .ok (.iload_n 1, 1) := by decide +kernel
theorem dX7_round_2 : decode cX7_round 2 = .ok (.aload_n 0, 1) := by decide +kernel
theorem dX7_round_3 : decode cX7_round 3 = .ok (.iload_n 1, 1) := by decide +kernel
theorem dX7_round_4 : decode cX7_round 4 = .ok (.invokevirtual 191, 3) := by decide +kernel
theorem dX7_round_7 : decode cX7_round 7 = .ok (.iload_n 2, 1) := by decide +kernel
theorem dX7_round_8 : decode cX7_round 8 = .ok (.invokevirtual 194, 3) := by decide +kernel
theorem dX7_round_11 : decode cX7_round 11 = .ok (.istore_n 3, 1) := by decide +kernel
theorem dX7_round_12 : decode cX7_round 12 = .ok (.iconst 0, 1) := by decide +kernel
theorem dX7_round_13 : decode cX7_round 13 = .ok (.istore 4, 2) := by decide +kernel
theorem dX7_round_15 : decode cX7_round 15 = .ok (.aload_n 0, 1) := by decide +kernel
theorem dX7_round_16 : decode cX7_round 16 = .ok (.getfield 64, 3) := by decide +kernel
theorem dX7_round_19 : decode cX7_round 19 = .ok (.iload_n 1, 1) := by decide +kernel
theorem dX7_round_20 : decode cX7_round 20 = .ok (.iaload, 1) := by decide +kernel
theorem dX7_round_21 : decode cX7_round 21 = .ok (.istore 5, 2) := by decide +kernel
theorem dX7_round_23 : decode cX7_round 23 = .ok (.iload 5, 2) := by decide +kernel
theorem dX7_round_25 : decode cX7_round 25 = .ok (.aload_n 0, 1) := by decide +kernel
theorem dX7_round_26 : decode cX7_round 26 = .ok (.getfield 64, 3) := by decide +kernel
theorem dX7_round_29 : decode cX7_round 29 = .ok (.iload_n 1, 1) := by decide +kernel
theorem dX7_round_30 : decode cX7_round 30 = .ok (.iaload, 1) := by decide +kernel
theorem dX7_round_31 : decode cX7_round 31 = .ok (.aload_n 0, 1) := by decide +kernel
theorem dX7_round_32 : decode cX7_round 32 = .ok (.getfield 67, 3) := by decide +kernel
theorem dX7_round_35 : decode cX7_round 35 = .ok (.iload_n 1, 1) := by decide +kernel
theorem dX7_round_36 : decode cX7_round 36 = .ok (.iaload, 1) := by decide +kernel
theorem dX7_round_37 : decode cX7_round 37 = .ok (.iadd, 1) := by decide +kernel
theorem dX7_round_38 : decode cX7_round 38 = .ok (.if_icmp .ge 123, 3) := by decide +kernel
theorem dX7_round_41 : decode cX7_round 41 = .ok (.aload_n 0, 1) := by decide +kernel
theorem dX7_round_42 : decode cX7_round 42 = .ok (.getfield 60, 3) := by decide +kernel
theorem dX7_round_45 : decode cX7_round 45 = .ok (.iload 5, 2) := by decide +kernel
theorem dX7_round_47 : decode cX7_round 47 = .ok (.baload, 1) := by decide +kernel
theorem dX7_round_48 : decode cX7_round 48 = .ok (.ifCond .eq 6, 3) := by decide +kernel
theorem dX7_round_51 : decode cX7_round 51 = .ok (.goto 104, 3) := by decide +kernel
theorem dX7_round_54 : decode cX7_round 54 = .ok (.iload_n 3, 1) := by decide +kernel
theorem dX7_round_55 : decode cX7_round 55 = .ok (.ifCond .eq 21, 3) := by decide +kernel
theorem dX7_round_58 : decode cX7_round 58 = .ok (.aload_n 0, 1) := by decide +kernel
theorem dX7_round_59 : decode cX7_round 59 = .ok (.getfield 33, 3) := by decide +kernel
theorem dX7_round_62 : decode cX7_round 62 = .ok (.iload 5, 2) := by decide +kernel
theorem dX7_round_64 : decode cX7_round 64 = .ok (.aload_n 0, 1) := by decide +kernel
theorem dX7_round_65 : decode cX7_round 65 = .ok (.getfield 64, 3) := by decide +kernel
theorem dX7_round_68 : decode cX7_round 68 = .ok (.iload_n 1, 1) := by decide +kernel
theorem dX7_round_69 : decode cX7_round 69 = .ok (.iaload, 1) := by decide +kernel
theorem dX7_round_70 : decode cX7_round 70 = .ok (.isub, 1) := by decide +kernel
theorem dX7_round_71 : decode cX7_round 71 = .ok (.laload, 1) := by decide +kernel
theorem dX7_round_72 : decode cX7_round 72 = .ok (.l2i, 1) := by decide +kernel
theorem dX7_round_73 : decode cX7_round 73 = .ok (.goto 4, 3) := by decide +kernel
theorem dX7_round_76 : decode cX7_round 76 = .ok (.iconst 0, 1) := by decide +kernel
theorem dX7_round_77 : decode cX7_round 77 = .ok (.istore 6, 2) := by decide +kernel
theorem dX7_round_79 : decode cX7_round 79 = .ok (.aload_n 0, 1) := by decide +kernel
theorem dX7_round_80 : decode cX7_round 80 = .ok (.aload_n 0, 1) := by decide +kernel
theorem dX7_round_81 : decode cX7_round 81 = .ok (.getfield 39, 3) := by decide +kernel
theorem dX7_round_84 : decode cX7_round 84 = .ok (.iload 5, 2) := by decide +kernel
theorem dX7_round_86 : decode cX7_round 86 = .ok (.iaload, 1) := by decide +kernel
theorem dX7_round_87 : decode cX7_round 87 = .ok (.iconst 0, 1) := by decide +kernel
theorem dX7_round_88 : decode cX7_round 88 = .ok (.invokevirtual 145, 3) := by decide +kernel
theorem dX7_round_91 : decode cX7_round 91 = .ok (.iload_n 2, 1) := by decide +kernel
theorem dX7_round_92 : decode cX7_round 92 = .ok (.ifCond .eq 8, 3) := by decide +kernel
theorem dX7_round_95 : decode cX7_round 95 = .ok (.iload 6, 2) := by decide +kernel
theorem dX7_round_97 : decode cX7_round 97 = .ok (.goto 6, 3) := by decide +kernel
theorem dX7_round_100 : decode cX7_round 100 = .ok (.iload 6, 2) := by decide +kernel
theorem dX7_round_102 : decode cX7_round 102 = .ok (.ineg, 1) := by decide +kernel
theorem dX7_round_103 : decode cX7_round 103 = .ok (.iadd, 1) := by decide +kernel
theorem dX7_round_104 : decode cX7_round 104 = .ok (.istore 7, 2) := by decide +kernel
theorem dX7_round_106 : decode cX7_round 106 = .ok (.aload_n 0, 1) := by decide +kernel
theorem dX7_round_107 : decode cX7_round 107 = .ok (.getfield 42, 3) := by decide +kernel
theorem dX7_round_110 : decode cX7_round 110 = .ok (.iload 5, 2) := by decide +kernel
theorem dX7_round_112 : decode cX7_round 112 = .ok (.aload_n 0, 1) := by decide +kernel
theorem dX7_round_113 : decode cX7_round 113 = .ok (.aload_n 0, 1) := by decide +kernel
theorem dX7_round_114 : decode cX7_round 114 = .ok (.getfield 39, 3) := by decide +kernel
theorem dX7_round_117 : decode cX7_round 117 = .ok (.iload 5, 2) := by decide +kernel
theorem dX7_round_119 : decode cX7_round 119 = .ok (.iaload, 1) := by decide +kernel
theorem dX7_round_120 : decode cX7_round 120 = .ok (.iload 7, 2) := by decide +kernel
theorem dX7_round_122 : decode cX7_round 122 = .ok (.invokevirtual 175, 3) := by decide +kernel
theorem dX7_round_125 : decode cX7_round 125 = .ok (.iastore, 1) := by decide +kernel
theorem dX7_round_126 : decode cX7_round 126 = .ok (.aload_n 0, 1) := by decide +kernel
theorem dX7_round_127 : decode cX7_round 127 = .ok (.getfield 88, 3) := by decide +kernel
theorem dX7_round_130 : decode cX7_round 130 = .ok (.iload 5, 2) := by decide +kernel
theorem dX7_round_132 : decode cX7_round 132 = .ok (.aload_n 0, 1) := by decide +kernel
theorem dX7_round_133 : decode cX7_round 133 = .ok (.getfield 42, 3) := by decide +kernel
theorem dX7_round_136 : decode cX7_round 136 = .ok (.iload 5, 2) := by decide +kernel
theorem dX7_round_138 : decode cX7_round 138 = .ok (.iaload, 1) := by decide +kernel
theorem dX7_round_139 : decode cX7_round 139 = .ok (.iload 7, 2) := by decide +kernel
theorem dX7_round_141 : decode cX7_round 141 = .ok (.isub, 1) := by decide +kernel
theorem dX7_round_142 : decode cX7_round 142 = .ok (.iastore, 1) := by decide +kernel
theorem dX7_round_143 : decode cX7_round 143 = .ok (.iload 4, 2) := by decide +kernel
theorem dX7_round_145 : decode cX7_round 145 = .ok (.aload_n 0, 1) := by decide +kernel
theorem dX7_round_146 : decode cX7_round 146 = .ok (.getfield 88, 3) := by decide +kernel
theorem dX7_round_149 : decode cX7_round 149 = .ok (.iload 5, 2) := by decide +kernel
theorem dX7_round_151 : decode cX7_round 151 = .ok (.iaload, 1) := by decide +kernel
theorem dX7_round_152 : decode cX7_round 152 = .ok (.iadd, 1) := by decide +kernel
theorem dX7_round_153 : decode cX7_round 153 = .ok (.istore 4, 2) := by decide +kernel
theorem dX7_round_155 : decode cX7_round 155 = .ok (.iinc 5 1, 3) := by decide +kernel
theorem dX7_round_158 : decode cX7_round 158 = .ok (.goto (-135), 3) := by decide +kernel
theorem dX7_round_161 : decode cX7_round 161 = .ok (.aload_n 0, 1) := by decide +kernel
theorem dX7_round_162 : decode cX7_round 162 = .ok (.getfield 64, 3) := by decide +kernel
theorem dX7_round_165 : decode cX7_round 165 = .ok (.iload_n 1, 1) := by decide +kernel
theorem dX7_round_166 : decode cX7_round 166 = .ok (.iaload, 1) := by decide +kernel
theorem dX7_round_167 : decode cX7_round 167 = .ok (.istore 5, 2) := by decide +kernel
theorem dX7_round_169 : decode cX7_round 169 = .ok (.iload 5, 2) := by decide +kernel
theorem dX7_round_171 : decode cX7_round 171 = .ok (.aload_n 0, 1) := by decide +kernel
theorem dX7_round_172 : decode cX7_round 172 = .ok (.getfield 64, 3) := by decide +kernel
theorem dX7_round_175 : decode cX7_round 175 = .ok (.iload_n 1, 1) := by decide +kernel
theorem dX7_round_176 : decode cX7_round 176 = .ok (.iaload, 1) := by decide +kernel
theorem dX7_round_177 : decode cX7_round 177 = .ok (.aload_n 0, 1) := by decide +kernel
theorem dX7_round_178 : decode cX7_round 178 = .ok (.getfield 67, 3) := by decide +kernel
theorem dX7_round_181 : decode cX7_round 181 = .ok (.iload_n 1, 1) := by decide +kernel
theorem dX7_round_182 : decode cX7_round 182 = .ok (.iaload, 1) := by decide +kernel
theorem dX7_round_183 : decode cX7_round 183 = .ok (.iadd, 1) := by decide +kernel
theorem dX7_round_184 : decode cX7_round 184 = .ok (.if_icmp .ge 64, 3) := by decide +kernel
theorem dX7_round_187 : decode cX7_round 187 = .ok (.aload_n 0, 1) := by decide +kernel
theorem dX7_round_188 : decode cX7_round 188 = .ok (.getfield 60, 3) := by decide +kernel
theorem dX7_round_191 : decode cX7_round 191 = .ok (.iload 5, 2) := by decide +kernel
theorem dX7_round_193 : decode cX7_round 193 = .ok (.baload, 1) := by decide +kernel
theorem dX7_round_194 : decode cX7_round 194 = .ok (.ifCond .ne 48, 3) := by decide +kernel
theorem dX7_round_197 : decode cX7_round 197 = .ok (.aload_n 0, 1) := by decide +kernel
theorem dX7_round_198 : decode cX7_round 198 = .ok (.getfield 60, 3) := by decide +kernel
theorem dX7_round_201 : decode cX7_round 201 = .ok (.iload 5, 2) := by decide +kernel
theorem dX7_round_203 : decode cX7_round 203 = .ok (.iload 4, 2) := by decide +kernel
theorem dX7_round_205 : decode cX7_round 205 = .ok (.ifCond .eq 31, 3) := by decide +kernel
theorem dX7_round_208 : decode cX7_round 208 = .ok (.iload 4, 2) := by decide +kernel
theorem dX7_round_210 : decode cX7_round 210 = .ok (.ifCond .le 16, 3) := by decide +kernel
theorem dX7_round_213 : decode cX7_round 213 = .ok (.aload_n 0, 1) := by decide +kernel
theorem dX7_round_214 : decode cX7_round 214 = .ok (.getfield 88, 3) := by decide +kernel
theorem dX7_round_217 : decode cX7_round 217 = .ok (.iload 5, 2) := by decide +kernel
theorem dX7_round_219 : decode cX7_round 219 = .ok (.iaload, 1) := by decide +kernel
theorem dX7_round_220 : decode cX7_round 220 = .ok (.ifCond .le 20, 3) := by decide +kernel
theorem dX7_round_223 : decode cX7_round 223 = .ok (.goto 13, 3) := by decide +kernel
theorem dX7_round_226 : decode cX7_round 226 = .ok (.aload_n 0, 1) := by decide +kernel
theorem dX7_round_227 : decode cX7_round 227 = .ok (.getfield 88, 3) := by decide +kernel
theorem dX7_round_230 : decode cX7_round 230 = .ok (.iload 5, 2) := by decide +kernel
theorem dX7_round_232 : decode cX7_round 232 = .ok (.iaload, 1) := by decide +kernel
theorem dX7_round_233 : decode cX7_round 233 = .ok (.ifCond .ge 7, 3) := by decide +kernel
theorem dX7_round_236 : decode cX7_round 236 = .ok (.iconst 1, 1) := by decide +kernel
theorem dX7_round_237 : decode cX7_round 237 = .ok (.goto 4, 3) := by decide +kernel
theorem dX7_round_240 : decode cX7_round 240 = .ok (.iconst 0, 1) := by decide +kernel
theorem dX7_round_241 : decode cX7_round 241 = .ok (.bastore, 1) := by decide +kernel
theorem dX7_round_242 : decode cX7_round 242 = .ok (.iinc 5 1, 3) := by decide +kernel
theorem dX7_round_245 : decode cX7_round 245 = .ok (.goto (-76), 3) := by decide +kernel
theorem dX7_round_248 : decode cX7_round 248 = .ok (.return_, 1) := by decide +kernel
theorem dX7_findSizes_0 : decode cX7_findSizes 0 = .ok (.iconst 0, 1) := by decide +kernel
theorem dX7_findSizes_1 : decode cX7_findSizes 1 = .ok (.istore_n 2, 1) := by decide +kernel
theorem dX7_findSizes_2 : decode cX7_findSizes 2 = .ok (.aload_n 0, 1) := by decide +kernel
theorem dX7_findSizes_3 : decode cX7_findSizes 3 = .ok (.getfield 64, 3) := by decide +kernel
theorem dX7_findSizes_6 : decode cX7_findSizes 6 = .ok (.iload_n 1, 1) := by decide +kernel
theorem dX7_findSizes_7 : decode cX7_findSizes 7 = .ok (.iaload, 1) := by decide +kernel
theorem dX7_findSizes_8 : decode cX7_findSizes 8 = .ok (.istore_n 3, 1) := by decide +kernel
theorem dX7_findSizes_9 : decode cX7_findSizes 9 = .ok (.iload_n 3, 1) := by decide +kernel
theorem dX7_findSizes_10 : decode cX7_findSizes 10 = .ok (.aload_n 0, 1) := by decide +kernel
theorem dX7_findSizes_11 : decode cX7_findSizes 11 = .ok (.getfield 64, 3) := by decide +kernel
theorem dX7_findSizes_14 : decode cX7_findSizes 14 = .ok (.iload_n 1, 1) := by decide +kernel
theorem dX7_findSizes_15 : decode cX7_findSizes 15 = .ok (.iaload, 1) := by decide +kernel
theorem dX7_findSizes_16 : decode cX7_findSizes 16 = .ok (.aload_n 0, 1) := by decide +kernel
theorem dX7_findSizes_17 : decode cX7_findSizes 17 = .ok (.getfield 67, 3) := by decide +kernel
theorem dX7_findSizes_20 : decode cX7_findSizes 20 = .ok (.iload_n 1, 1) := by decide +kernel
theorem dX7_findSizes_21 : decode cX7_findSizes 21 = .ok (.iaload, 1) := by decide +kernel
theorem dX7_findSizes_22 : decode cX7_findSizes 22 = .ok (.iadd, 1) := by decide +kernel
theorem dX7_findSizes_23 : decode cX7_findSizes 23 = .ok (.if_icmp .ge 22, 3) := by decide +kernel
theorem dX7_findSizes_26 : decode cX7_findSizes 26 = .ok (.iload_n 2, 1) := by decide +kernel
theorem dX7_findSizes_27 : decode cX7_findSizes 27 = .ok (.aload_n 0, 1) := by decide +kernel
theorem dX7_findSizes_28 : decode cX7_findSizes 28 = .ok (.aload_n 0, 1) := by decide +kernel
theorem dX7_findSizes_29 : decode cX7_findSizes 29 = .ok (.getfield 39, 3) := by decide +kernel
theorem dX7_findSizes_32 : decode cX7_findSizes 32 = .ok (.iload_n 3, 1) := by decide +kernel
theorem dX7_findSizes_33 : decode cX7_findSizes 33 = .ok (.iaload, 1) := by decide +kernel
theorem dX7_findSizes_34 : decode cX7_findSizes 34 = .ok (.invokevirtual 181, 3) := by decide +kernel
theorem dX7_findSizes_37 : decode cX7_findSizes 37 = .ok (.iadd, 1) := by decide +kernel
theorem dX7_findSizes_38 : decode cX7_findSizes 38 = .ok (.istore_n 2, 1) := by decide +kernel
theorem dX7_findSizes_39 : decode cX7_findSizes 39 = .ok (.iinc 3 1, 3) := by decide +kernel
theorem dX7_findSizes_42 : decode cX7_findSizes 42 = .ok (.goto (-33), 3) := by decide +kernel
theorem dX7_findSizes_45 : decode cX7_findSizes 45 = .ok (.iload_n 2, 1) := by decide +kernel
theorem dX7_findSizes_46 : decode cX7_findSizes 46 = .ok (.aload_n 0, 1) := by decide +kernel
theorem dX7_findSizes_47 : decode cX7_findSizes 47 = .ok (.iload_n 1, 1) := by decide +kernel
theorem dX7_findSizes_48 : decode cX7_findSizes 48 = .ok (.invokevirtual 184, 3) := by decide +kernel
theorem dX7_findSizes_51 : decode cX7_findSizes 51 = .ok (.if_icmp .ge 7, 3) := by decide +kernel
theorem dX7_findSizes_54 : decode cX7_findSizes 54 = .ok (.iconst 1, 1) := by decide +kernel
theorem dX7_findSizes_55 : decode cX7_findSizes 55 = .ok (.goto 4, 3) := by decide +kernel
theorem dX7_findSizes_58 : decode cX7_findSizes 58 = .ok (.iconst 0, 1) := by decide +kernel
theorem dX7_findSizes_59 : decode cX7_findSizes 59 = .ok (.istore_n 3, 1) := by decide +kernel
theorem dX7_findSizes_60 : decode cX7_findSizes 60 = .ok (.aload_n 0, 1) := by decide +kernel
theorem dX7_findSizes_61 : decode cX7_findSizes 61 = .ok (.getfield 64, 3) := by decide +kernel
theorem dX7_findSizes_64 : decode cX7_findSizes 64 = .ok (.iload_n 1, 1) := by decide +kernel
theorem dX7_findSizes_65 : decode cX7_findSizes 65 = .ok (.iaload, 1) := by decide +kernel
theorem dX7_findSizes_66 : decode cX7_findSizes 66 = .ok (.istore 4, 2) := by decide +kernel
theorem dX7_findSizes_68 : decode cX7_findSizes 68 = .ok (.iload 4, 2) := by decide +kernel
theorem dX7_findSizes_70 : decode cX7_findSizes 70 = .ok (.aload_n 0, 1) := by decide +kernel
theorem dX7_findSizes_71 : decode cX7_findSizes 71 = .ok (.getfield 64, 3) := by decide +kernel
theorem dX7_findSizes_74 : decode cX7_findSizes 74 = .ok (.iload_n 1, 1) := by decide +kernel
theorem dX7_findSizes_75 : decode cX7_findSizes 75 = .ok (.iaload, 1) := by decide +kernel
theorem dX7_findSizes_76 : decode cX7_findSizes 76 = .ok (.aload_n 0, 1) := by decide +kernel
theorem dX7_findSizes_77 : decode cX7_findSizes 77 = .ok (.getfield 67, 3) := by decide +kernel
theorem dX7_findSizes_80 : decode cX7_findSizes 80 = .ok (.iload_n 1, 1) := by decide +kernel
theorem dX7_findSizes_81 : decode cX7_findSizes 81 = .ok (.iaload, 1) := by decide +kernel
theorem dX7_findSizes_82 : decode cX7_findSizes 82 = .ok (.iadd, 1) := by decide +kernel
theorem dX7_findSizes_83 : decode cX7_findSizes 83 = .ok (.if_icmp .ge 102, 3) := by decide +kernel
theorem dX7_findSizes_86 : decode cX7_findSizes 86 = .ok (.aload_n 0, 1) := by decide +kernel
theorem dX7_findSizes_87 : decode cX7_findSizes 87 = .ok (.getfield 39, 3) := by decide +kernel
theorem dX7_findSizes_90 : decode cX7_findSizes 90 = .ok (.iload 4, 2) := by decide +kernel
theorem dX7_findSizes_92 : decode cX7_findSizes 92 = .ok (.iaload, 1) := by decide +kernel
theorem dX7_findSizes_93 : decode cX7_findSizes 93 = .ok (.istore 5, 2) := by decide +kernel
theorem dX7_findSizes_95 : decode cX7_findSizes 95 = .ok (.aload_n 0, 1) := by decide +kernel
theorem dX7_findSizes_96 : decode cX7_findSizes 96 = .ok (.getfield 42, 3) := by decide +kernel
theorem dX7_findSizes_99 : decode cX7_findSizes 99 = .ok (.iload 4, 2) := by decide +kernel
theorem dX7_findSizes_101 : decode cX7_findSizes 101 = .ok (.aload_n 0, 1) := by decide +kernel
theorem dX7_findSizes_102 : decode cX7_findSizes 102 = .ok (.iload 5, 2) := by decide +kernel
theorem dX7_findSizes_104 : decode cX7_findSizes 104 = .ok (.invokevirtual 181, 3) := by decide +kernel
theorem dX7_findSizes_107 : decode cX7_findSizes 107 = .ok (.iastore, 1) := by decide +kernel
theorem dX7_findSizes_108 : decode cX7_findSizes 108 = .ok (.aload_n 0, 1) := by decide +kernel
theorem dX7_findSizes_109 : decode cX7_findSizes 109 = .ok (.getfield 60, 3) := by decide +kernel
theorem dX7_findSizes_112 : decode cX7_findSizes 112 = .ok (.iload 4, 2) := by decide +kernel
theorem dX7_findSizes_114 : decode cX7_findSizes 114 = .ok (.aload_n 0, 1) := by decide +kernel
theorem dX7_findSizes_115 : decode cX7_findSizes 115 = .ok (.iload 5, 2) := by decide +kernel
theorem dX7_findSizes_117 : decode cX7_findSizes 117 = .ok (.iload_n 3, 1) := by decide +kernel
theorem dX7_findSizes_118 : decode cX7_findSizes 118 = .ok (.ifCond .eq 7, 3) := by decide +kernel
theorem dX7_findSizes_121 : decode cX7_findSizes 121 = .ok (.iconst 1, 1) := by decide +kernel
theorem dX7_findSizes_122 : decode cX7_findSizes 122 = .ok (.goto 4, 3) := by decide +kernel
theorem dX7_findSizes_125 : decode cX7_findSizes 125 = .ok (.iconst 2, 1) := by decide +kernel
theorem dX7_findSizes_126 : decode cX7_findSizes 126 = .ok (.invokevirtual 145, 3) := by decide +kernel
theorem dX7_findSizes_129 : decode cX7_findSizes 129 = .ok (.ifCond .eq 44, 3) := by decide +kernel
theorem dX7_findSizes_132 : decode cX7_findSizes 132 = .ok (.iload_n 3, 1) := by decide +kernel
theorem dX7_findSizes_133 : decode cX7_findSizes 133 = .ok (.ifCond .eq 23, 3) := by decide +kernel
theorem dX7_findSizes_136 : decode cX7_findSizes 136 = .ok (.aload_n 0, 1) := by decide +kernel
theorem dX7_findSizes_137 : decode cX7_findSizes 137 = .ok (.iload 5, 2) := by decide +kernel
theorem dX7_findSizes_139 : decode cX7_findSizes 139 = .ok (.iconst 0, 1) := by decide +kernel
theorem dX7_findSizes_140 : decode cX7_findSizes 140 = .ok (.invokevirtual 145, 3) := by decide +kernel
theorem dX7_findSizes_143 : decode cX7_findSizes 143 = .ok (.aload_n 0, 1) := by decide +kernel
theorem dX7_findSizes_144 : decode cX7_findSizes 144 = .ok (.getfield 42, 3) := by decide +kernel
theorem dX7_findSizes_147 : decode cX7_findSizes 147 = .ok (.iload 4, 2) := by decide +kernel
theorem dX7_findSizes_149 : decode cX7_findSizes 149 = .ok (.iaload, 1) := by decide +kernel
theorem dX7_findSizes_150 : decode cX7_findSizes 150 = .ok (.if_icmp .le 27, 3) := by decide +kernel
theorem dX7_findSizes_153 : decode cX7_findSizes 153 = .ok (.goto 20, 3) := by decide +kernel
theorem dX7_findSizes_156 : decode cX7_findSizes 156 = .ok (.aload_n 0, 1) := by decide +kernel
theorem dX7_findSizes_157 : decode cX7_findSizes 157 = .ok (.iload 5, 2) := by decide +kernel
theorem dX7_findSizes_159 : decode cX7_findSizes 159 = .ok (.iconst 0, 1) := by decide +kernel
theorem dX7_findSizes_160 : decode cX7_findSizes 160 = .ok (.invokevirtual 145, 3) := by decide +kernel
theorem dX7_findSizes_163 : decode cX7_findSizes 163 = .ok (.aload_n 0, 1) := by decide +kernel
theorem dX7_findSizes_164 : decode cX7_findSizes 164 = .ok (.getfield 42, 3) := by decide +kernel
theorem dX7_findSizes_167 : decode cX7_findSizes 167 = .ok (.iload 4, 2) := by decide +kernel
theorem dX7_findSizes_169 : decode cX7_findSizes 169 = .ok (.iaload, 1) := by decide +kernel
theorem dX7_findSizes_170 : decode cX7_findSizes 170 = .ok (.if_icmp .ge 7, 3) := by decide +kernel
theorem dX7_findSizes_173 : decode cX7_findSizes 173 = .ok (.iconst 1, 1) := by decide +kernel
theorem dX7_findSizes_174 : decode cX7_findSizes 174 = .ok (.goto 4, 3) := by decide +kernel
theorem dX7_findSizes_177 : decode cX7_findSizes 177 = .ok (.iconst 0, 1) := by decide +kernel
theorem dX7_findSizes_178 : decode cX7_findSizes 178 = .ok (.bastore, 1) := by decide +kernel
theorem dX7_findSizes_179 : decode cX7_findSizes 179 = .ok (.iinc 4 1, 3) := by decide +kernel
theorem dX7_findSizes_182 : decode cX7_findSizes 182 = .ok (.goto (-114), 3) := by decide +kernel
theorem dX7_findSizes_185 : decode cX7_findSizes 185 = .ok (.aload_n 0, 1) := by decide +kernel
theorem dX7_findSizes_186 : decode cX7_findSizes 186 = .ok (.getfield 70, 3) := by decide +kernel
theorem dX7_findSizes_189 : decode cX7_findSizes 189 = .ok (.iload_n 1, 1) := by decide +kernel
theorem dX7_findSizes_190 : decode cX7_findSizes 190 = .ok (.iconst 0, 1) := by decide +kernel
theorem dX7_findSizes_191 : decode cX7_findSizes 191 = .ok (.iastore, 1) := by decide +kernel
theorem dX7_findSizes_192 : decode cX7_findSizes 192 = .ok (.aload_n 0, 1) := by decide +kernel
theorem dX7_findSizes_193 : decode cX7_findSizes 193 = .ok (.iload_n 1, 1) := by decide +kernel
theorem dX7_findSizes_194 : decode cX7_findSizes 194 = .ok (.invokevirtual 198, 3) := by decide +kernel
theorem dX7_findSizes_197 : decode cX7_findSizes 197 = .ok (.ifCond .ne 22, 3) := by decide +kernel
theorem dX7_findSizes_200 : decode cX7_findSizes 200 = .ok (.aload_n 0, 1) := by decide +kernel
theorem dX7_findSizes_201 : decode cX7_findSizes 201 = .ok (.iload_n 1, 1) := by decide +kernel
theorem dX7_findSizes_202 : decode cX7_findSizes 202 = .ok (.iload_n 3, 1) := by decide +kernel
theorem dX7_findSizes_203 : decode cX7_findSizes 203 = .ok (.invokevirtual 201, 3) := by decide +kernel
theorem dX7_findSizes_206 : decode cX7_findSizes 206 = .ok (.aload_n 0, 1) := by decide +kernel
theorem dX7_findSizes_207 : decode cX7_findSizes 207 = .ok (.getfield 70, 3) := by decide +kernel
theorem dX7_findSizes_210 : decode cX7_findSizes 210 = .ok (.iload_n 1, 1) := by decide +kernel
theorem dX7_findSizes_211 : decode cX7_findSizes 211 = .ok (.dup2, 1) := by decide +kernel
theorem dX7_findSizes_212 : decode cX7_findSizes 212 = .ok (.iaload, 1) := by decide +kernel
theorem dX7_findSizes_213 : decode cX7_findSizes 213 = .ok (.iconst 1, 1) := by decide +kernel
theorem dX7_findSizes_214 : decode cX7_findSizes 214 = .ok (.iadd, 1) := by decide +kernel
theorem dX7_findSizes_215 : decode cX7_findSizes 215 = .ok (.iastore, 1) := by decide +kernel
theorem dX7_findSizes_216 : decode cX7_findSizes 216 = .ok (.goto (-24), 3) := by decide +kernel
theorem dX7_findSizes_219 : decode cX7_findSizes 219 = .ok (.aload_n 0, 1) := by decide +kernel
theorem dX7_findSizes_220 : decode cX7_findSizes 220 = .ok (.getfield 73, 3) := by decide +kernel
theorem dX7_findSizes_223 : decode cX7_findSizes 223 = .ok (.iload_n 1, 1) := by decide +kernel
theorem dX7_findSizes_224 : decode cX7_findSizes 224 = .ok (.aload_n 0, 1) := by decide +kernel
theorem dX7_findSizes_225 : decode cX7_findSizes 225 = .ok (.iload_n 1, 1) := by decide +kernel
theorem dX7_findSizes_226 : decode cX7_findSizes 226 = .ok (.invokevirtual 184, 3) := by decide +kernel
theorem dX7_findSizes_229 : decode cX7_findSizes 229 = .ok (.iastore, 1) := by decide +kernel
theorem dX7_findSizes_230 : decode cX7_findSizes 230 = .ok (.aload_n 0, 1) := by decide +kernel
theorem dX7_findSizes_231 : decode cX7_findSizes 231 = .ok (.getfield 64, 3) := by decide +kernel
theorem dX7_findSizes_234 : decode cX7_findSizes 234 = .ok (.iload_n 1, 1) := by decide +kernel
theorem dX7_findSizes_235 : decode cX7_findSizes 235 = .ok (.iaload, 1) := by decide +kernel
theorem dX7_findSizes_236 : decode cX7_findSizes 236 = .ok (.istore 4, 2) := by decide +kernel
theorem dX7_findSizes_238 : decode cX7_findSizes 238 = .ok (.iload 4, 2) := by decide +kernel
theorem dX7_findSizes_240 : decode cX7_findSizes 240 = .ok (.aload_n 0, 1) := by decide +kernel
theorem dX7_findSizes_241 : decode cX7_findSizes 241 = .ok (.getfield 64, 3) := by decide +kernel
theorem dX7_findSizes_244 : decode cX7_findSizes 244 = .ok (.iload_n 1, 1) := by decide +kernel
theorem dX7_findSizes_245 : decode cX7_findSizes 245 = .ok (.iaload, 1) := by decide +kernel
theorem dX7_findSizes_246 : decode cX7_findSizes 246 = .ok (.aload_n 0, 1) := by decide +kernel
theorem dX7_findSizes_247 : decode cX7_findSizes 247 = .ok (.getfield 67, 3) := by decide +kernel
theorem dX7_findSizes_250 : decode cX7_findSizes 250 = .ok (.iload_n 1, 1) := by decide +kernel
theorem dX7_findSizes_251 : decode cX7_findSizes 251 = .ok (.iaload, 1) := by decide +kernel
theorem dX7_findSizes_252 : decode cX7_findSizes 252 = .ok (.iadd, 1) := by decide +kernel
theorem dX7_findSizes_253 : decode cX7_findSizes 253 = .ok (.if_icmp .ge 25, 3) := by decide +kernel
theorem dX7_findSizes_256 : decode cX7_findSizes 256 = .ok (.aload_n 0, 1) := by decide +kernel
theorem dX7_findSizes_257 : decode cX7_findSizes 257 = .ok (.getfield 73, 3) := by decide +kernel
theorem dX7_findSizes_260 : decode cX7_findSizes 260 = .ok (.iload_n 1, 1) := by decide +kernel
theorem dX7_findSizes_261 : decode cX7_findSizes 261 = .ok (.dup2, 1) := by decide +kernel
theorem dX7_findSizes_262 : decode cX7_findSizes 262 = .ok (.iaload, 1) := by decide +kernel
theorem dX7_findSizes_263 : decode cX7_findSizes 263 = .ok (.aload_n 0, 1) := by decide +kernel
theorem dX7_findSizes_264 : decode cX7_findSizes 264 = .ok (.getfield 42, 3) := by decide +kernel
theorem dX7_findSizes_267 : decode cX7_findSizes 267 = .ok (.iload 4, 2) := by decide +kernel
theorem dX7_findSizes_269 : decode cX7_findSizes 269 = .ok (.iaload, 1) := by decide +kernel
theorem dX7_findSizes_270 : decode cX7_findSizes 270 = .ok (.isub, 1) := by decide +kernel
theorem dX7_findSizes_271 : decode cX7_findSizes 271 = .ok (.iastore, 1) := by decide +kernel
theorem dX7_findSizes_272 : decode cX7_findSizes 272 = .ok (.iinc 4 1, 3) := by decide +kernel
theorem dX7_findSizes_275 : decode cX7_findSizes 275 = .ok (.goto (-37), 3) := by decide +kernel
theorem dX7_findSizes_278 : decode cX7_findSizes 278 = .ok (.return_, 1) := by decide +kernel
theorem dX7_alignmentOf_0 : decode cX7_alignmentOf 0 = .ok (.aload_n 0, 1) := by decide +kernel
theorem dX7_alignmentOf_1 : decode cX7_alignmentOf 1 = .ok (.iload_n 1, 1) := by decide +kernel
theorem dX7_alignmentOf_2 : decode cX7_alignmentOf 2 = .ok (.bipush 7, 2) := by decide +kernel
theorem dX7_alignmentOf_4 : decode cX7_alignmentOf 4 = .ok (.invokevirtual 145, 3) := by decide +kernel
theorem dX7_alignmentOf_7 : decode cX7_alignmentOf 7 = .ok (.ifCond .ge 13, 3) := by decide +kernel
theorem dX7_alignmentOf_10 : decode cX7_alignmentOf 10 = .ok (.aload_n 0, 1) := by decide +kernel
theorem dX7_alignmentOf_11 : decode cX7_alignmentOf 11 = .ok (.getfield 9, 3) := by decide +kernel
theorem dX7_alignmentOf_14 : decode cX7_alignmentOf 14 = .ok (.bipush 7, 2) := by decide +kernel
theorem dX7_alignmentOf_16 : decode cX7_alignmentOf 16 = .ok (.iaload, 1) := by decide +kernel
theorem dX7_alignmentOf_17 : decode cX7_alignmentOf 17 = .ok (.goto 10, 3) := by decide +kernel
theorem dX7_alignmentOf_20 : decode cX7_alignmentOf 20 = .ok (.aload_n 0, 1) := by decide +kernel
theorem dX7_alignmentOf_21 : decode cX7_alignmentOf 21 = .ok (.iload_n 1, 1) := by decide +kernel
theorem dX7_alignmentOf_22 : decode cX7_alignmentOf 22 = .ok (.bipush 7, 2) := by decide +kernel
theorem dX7_alignmentOf_24 : decode cX7_alignmentOf 24 = .ok (.invokevirtual 145, 3) := by decide +kernel
theorem dX7_alignmentOf_27 : decode cX7_alignmentOf 27 = .ok (.ireturn, 1) := by decide +kernel
theorem dX7_findNatural_0 : decode cX7_findNatural 0 = .ok (.iconst 0, 1) := by decide +kernel
theorem dX7_findNatural_1 : decode cX7_findNatural 1 = .ok (.istore_n 2, 1) := by decide +kernel
theorem dX7_findNatural_2 : decode cX7_findNatural 2 = .ok (.iconst 0, 1) := by decide +kernel
theorem dX7_findNatural_3 : decode cX7_findNatural 3 = .ok (.istore_n 3, 1) := by decide +kernel
theorem dX7_findNatural_4 : decode cX7_findNatural 4 = .ok (.iconst 0, 1) := by decide +kernel
theorem dX7_findNatural_5 : decode cX7_findNatural 5 = .ok (.istore 4, 2) := by decide +kernel
theorem dX7_findNatural_7 : decode cX7_findNatural 7 = .ok (.aload_n 0, 1) := by decide +kernel
theorem dX7_findNatural_8 : decode cX7_findNatural 8 = .ok (.getfield 79, 3) := by decide +kernel
theorem dX7_findNatural_11 : decode cX7_findNatural 11 = .ok (.iload_n 1, 1) := by decide +kernel
theorem dX7_findNatural_12 : decode cX7_findNatural 12 = .ok (.iconst 0, 1) := by decide +kernel
theorem dX7_findNatural_13 : decode cX7_findNatural 13 = .ok (.iastore, 1) := by decide +kernel
theorem dX7_findNatural_14 : decode cX7_findNatural 14 = .ok (.aload_n 0, 1) := by decide +kernel
theorem dX7_findNatural_15 : decode cX7_findNatural 15 = .ok (.getfield 64, 3) := by decide +kernel
theorem dX7_findNatural_18 : decode cX7_findNatural 18 = .ok (.iload_n 1, 1) := by decide +kernel
theorem dX7_findNatural_19 : decode cX7_findNatural 19 = .ok (.iaload, 1) := by decide +kernel
theorem dX7_findNatural_20 : decode cX7_findNatural 20 = .ok (.istore 5, 2) := by decide +kernel
theorem dX7_findNatural_22 : decode cX7_findNatural 22 = .ok (.iload 5, 2) := by decide +kernel
theorem dX7_findNatural_24 : decode cX7_findNatural 24 = .ok (.aload_n 0, 1) := by decide +kernel
theorem dX7_findNatural_25 : decode cX7_findNatural 25 = .ok (.getfield 64, 3) := by decide +kernel
theorem dX7_findNatural_28 : decode cX7_findNatural 28 = .ok (.iload_n 1, 1) := by decide +kernel
theorem dX7_findNatural_29 : decode cX7_findNatural 29 = .ok (.iaload, 1) := by decide +kernel
theorem dX7_findNatural_30 : decode cX7_findNatural 30 = .ok (.aload_n 0, 1) := by decide +kernel
theorem dX7_findNatural_31 : decode cX7_findNatural 31 = .ok (.getfield 67, 3) := by decide +kernel
theorem dX7_findNatural_34 : decode cX7_findNatural 34 = .ok (.iload_n 1, 1) := by decide +kernel
theorem dX7_findNatural_35 : decode cX7_findNatural 35 = .ok (.iaload, 1) := by decide +kernel
theorem dX7_findNatural_36 : decode cX7_findNatural 36 = .ok (.iadd, 1) := by decide +kernel
theorem dX7_findNatural_37 : decode cX7_findNatural 37 = .ok (.if_icmp .ge 134, 3) := by decide +kernel
theorem dX7_findNatural_40 : decode cX7_findNatural 40 = .ok (.aload_n 0, 1) := by decide +kernel
theorem dX7_findNatural_41 : decode cX7_findNatural 41 = .ok (.getfield 39, 3) := by decide +kernel
theorem dX7_findNatural_44 : decode cX7_findNatural 44 = .ok (.iload 5, 2) := by decide +kernel
theorem dX7_findNatural_46 : decode cX7_findNatural 46 = .ok (.iaload, 1) := by decide +kernel
theorem dX7_findNatural_47 : decode cX7_findNatural 47 = .ok (.istore 6, 2) := by decide +kernel
theorem dX7_findNatural_49 : decode cX7_findNatural 49 = .ok (.aload_n 0, 1) := by decide +kernel
theorem dX7_findNatural_50 : decode cX7_findNatural 50 = .ok (.iload 6, 2) := by decide +kernel
theorem dX7_findNatural_52 : decode cX7_findNatural 52 = .ok (.invokevirtual 205, 3) := by decide +kernel
theorem dX7_findNatural_55 : decode cX7_findNatural 55 = .ok (.iconst 4, 1) := by decide +kernel
theorem dX7_findNatural_56 : decode cX7_findNatural 56 = .ok (.if_icmp .eq 32, 3) := by decide +kernel
theorem dX7_findNatural_59 : decode cX7_findNatural 59 = .ok (.aload_n 0, 1) := by decide +kernel
theorem dX7_findNatural_60 : decode cX7_findNatural 60 = .ok (.iload 6, 2) := by decide +kernel
theorem dX7_findNatural_62 : decode cX7_findNatural 62 = .ok (.iconst 5, 1) := by decide +kernel
theorem dX7_findNatural_63 : decode cX7_findNatural 63 = .ok (.invokevirtual 145, 3) := by decide +kernel
theorem dX7_findNatural_66 : decode cX7_findNatural 66 = .ok (.iload 4, 2) := by decide +kernel
theorem dX7_findNatural_68 : decode cX7_findNatural 68 = .ok (.if_icmp .le 13, 3) := by decide +kernel
theorem dX7_findNatural_71 : decode cX7_findNatural 71 = .ok (.aload_n 0, 1) := by decide +kernel
theorem dX7_findNatural_72 : decode cX7_findNatural 72 = .ok (.iload 6, 2) := by decide +kernel
theorem dX7_findNatural_74 : decode cX7_findNatural 74 = .ok (.iconst 5, 1) := by decide +kernel
theorem dX7_findNatural_75 : decode cX7_findNatural 75 = .ok (.invokevirtual 145, 3) := by decide +kernel
theorem dX7_findNatural_78 : decode cX7_findNatural 78 = .ok (.goto 5, 3) := by decide +kernel
theorem dX7_findNatural_81 : decode cX7_findNatural 81 = .ok (.iload 4, 2) := by decide +kernel
theorem dX7_findNatural_83 : decode cX7_findNatural 83 = .ok (.istore 4, 2) := by decide +kernel
theorem dX7_findNatural_85 : decode cX7_findNatural 85 = .ok (.goto 80, 3) := by decide +kernel
theorem dX7_findNatural_88 : decode cX7_findNatural 88 = .ok (.aload_n 0, 1) := by decide +kernel
theorem dX7_findNatural_89 : decode cX7_findNatural 89 = .ok (.iload 6, 2) := by decide +kernel
theorem dX7_findNatural_91 : decode cX7_findNatural 91 = .ok (.iconst 5, 1) := by decide +kernel
theorem dX7_findNatural_92 : decode cX7_findNatural 92 = .ok (.invokevirtual 145, 3) := by decide +kernel
theorem dX7_findNatural_95 : decode cX7_findNatural 95 = .ok (.aload_n 0, 1) := by decide +kernel
theorem dX7_findNatural_96 : decode cX7_findNatural 96 = .ok (.iload 6, 2) := by decide +kernel
theorem dX7_findNatural_98 : decode cX7_findNatural 98 = .ok (.bipush 6, 2) := by decide +kernel
theorem dX7_findNatural_100 : decode cX7_findNatural 100 = .ok (.invokevirtual 145, 3) := by decide +kernel
theorem dX7_findNatural_103 : decode cX7_findNatural 103 = .ok (.isub, 1) := by decide +kernel
theorem dX7_findNatural_104 : decode cX7_findNatural 104 = .ok (.istore 7, 2) := by decide +kernel
theorem dX7_findNatural_106 : decode cX7_findNatural 106 = .ok (.aload_n 0, 1) := by decide +kernel
theorem dX7_findNatural_107 : decode cX7_findNatural 107 = .ok (.getfield 79, 3) := by decide +kernel
theorem dX7_findNatural_110 : decode cX7_findNatural 110 = .ok (.iload_n 1, 1) := by decide +kernel
theorem dX7_findNatural_111 : decode cX7_findNatural 111 = .ok (.aload_n 0, 1) := by decide +kernel
theorem dX7_findNatural_112 : decode cX7_findNatural 112 = .ok (.iload 6, 2) := by decide +kernel
theorem dX7_findNatural_114 : decode cX7_findNatural 114 = .ok (.bipush 6, 2) := by decide +kernel
theorem dX7_findNatural_116 : decode cX7_findNatural 116 = .ok (.invokevirtual 145, 3) := by decide +kernel
theorem dX7_findNatural_119 : decode cX7_findNatural 119 = .ok (.aload_n 0, 1) := by decide +kernel
theorem dX7_findNatural_120 : decode cX7_findNatural 120 = .ok (.getfield 79, 3) := by decide +kernel
theorem dX7_findNatural_123 : decode cX7_findNatural 123 = .ok (.iload_n 1, 1) := by decide +kernel
theorem dX7_findNatural_124 : decode cX7_findNatural 124 = .ok (.iaload, 1) := by decide +kernel
theorem dX7_findNatural_125 : decode cX7_findNatural 125 = .ok (.if_icmp .le 14, 3) := by decide +kernel
theorem dX7_findNatural_128 : decode cX7_findNatural 128 = .ok (.aload_n 0, 1) := by decide +kernel
theorem dX7_findNatural_129 : decode cX7_findNatural 129 = .ok (.iload 6, 2) := by decide +kernel
theorem dX7_findNatural_131 : decode cX7_findNatural 131 = .ok (.bipush 6, 2) := by decide +kernel
theorem dX7_findNatural_133 : decode cX7_findNatural 133 = .ok (.invokevirtual 145, 3) := by decide +kernel
theorem dX7_findNatural_136 : decode cX7_findNatural 136 = .ok (.goto 9, 3) := by decide +kernel
theorem dX7_findNatural_139 : decode cX7_findNatural 139 = .ok (.aload_n 0, 1) := by decide +kernel
theorem dX7_findNatural_140 : decode cX7_findNatural 140 = .ok (.getfield 79, 3) := by decide +kernel
theorem dX7_findNatural_143 : decode cX7_findNatural 143 = .ok (.iload_n 1, 1) := by decide +kernel
theorem dX7_findNatural_144 : decode cX7_findNatural 144 = .ok (.iaload, 1) := by decide +kernel
theorem dX7_findNatural_145 : decode cX7_findNatural 145 = .ok (.iastore, 1) := by decide +kernel
theorem dX7_findNatural_146 : decode cX7_findNatural 146 = .ok (.iload_n 2, 1) := by decide +kernel
theorem dX7_findNatural_147 : decode cX7_findNatural 147 = .ok (.ifCond .eq 9, 3) := by decide +kernel
theorem dX7_findNatural_150 : decode cX7_findNatural 150 = .ok (.iload 7, 2) := by decide +kernel
theorem dX7_findNatural_152 : decode cX7_findNatural 152 = .ok (.iload_n 3, 1) := by decide +kernel
theorem dX7_findNatural_153 : decode cX7_findNatural 153 = .ok (.if_icmp .le 8, 3) := by decide +kernel
theorem dX7_findNatural_156 : decode cX7_findNatural 156 = .ok (.iload 7, 2) := by decide +kernel
theorem dX7_findNatural_158 : decode cX7_findNatural 158 = .ok (.goto 4, 3) := by decide +kernel
theorem dX7_findNatural_161 : decode cX7_findNatural 161 = .ok (.iload_n 3, 1) := by decide +kernel
theorem dX7_findNatural_162 : decode cX7_findNatural 162 = .ok (.istore_n 3, 1) := by decide +kernel
theorem dX7_findNatural_163 : decode cX7_findNatural 163 = .ok (.iconst 1, 1) := by decide +kernel
theorem dX7_findNatural_164 : decode cX7_findNatural 164 = .ok (.istore_n 2, 1) := by decide +kernel
theorem dX7_findNatural_165 : decode cX7_findNatural 165 = .ok (.iinc 5 1, 3) := by decide +kernel
theorem dX7_findNatural_168 : decode cX7_findNatural 168 = .ok (.goto (-146), 3) := by decide +kernel
theorem dX7_findNatural_171 : decode cX7_findNatural 171 = .ok (.aload_n 0, 1) := by decide +kernel
theorem dX7_findNatural_172 : decode cX7_findNatural 172 = .ok (.getfield 82, 3) := by decide +kernel
theorem dX7_findNatural_175 : decode cX7_findNatural 175 = .ok (.iload_n 1, 1) := by decide +kernel
theorem dX7_findNatural_176 : decode cX7_findNatural 176 = .ok (.aload_n 0, 1) := by decide +kernel
theorem dX7_findNatural_177 : decode cX7_findNatural 177 = .ok (.getfield 79, 3) := by decide +kernel
theorem dX7_findNatural_180 : decode cX7_findNatural 180 = .ok (.iload_n 1, 1) := by decide +kernel
theorem dX7_findNatural_181 : decode cX7_findNatural 181 = .ok (.iaload, 1) := by decide +kernel
theorem dX7_findNatural_182 : decode cX7_findNatural 182 = .ok (.iload_n 3, 1) := by decide +kernel
theorem dX7_findNatural_183 : decode cX7_findNatural 183 = .ok (.iadd, 1) := by decide +kernel
theorem dX7_findNatural_184 : decode cX7_findNatural 184 = .ok (.iload 4, 2) := by decide +kernel
theorem dX7_findNatural_186 : decode cX7_findNatural 186 = .ok (.if_icmp .le 14, 3) := by decide +kernel
theorem dX7_findNatural_189 : decode cX7_findNatural 189 = .ok (.aload_n 0, 1) := by decide +kernel
theorem dX7_findNatural_190 : decode cX7_findNatural 190 = .ok (.getfield 79, 3) := by decide +kernel
theorem dX7_findNatural_193 : decode cX7_findNatural 193 = .ok (.iload_n 1, 1) := by decide +kernel
theorem dX7_findNatural_194 : decode cX7_findNatural 194 = .ok (.iaload, 1) := by decide +kernel
theorem dX7_findNatural_195 : decode cX7_findNatural 195 = .ok (.iload_n 3, 1) := by decide +kernel
theorem dX7_findNatural_196 : decode cX7_findNatural 196 = .ok (.iadd, 1) := by decide +kernel
theorem dX7_findNatural_197 : decode cX7_findNatural 197 = .ok (.goto 5, 3) := by decide +kernel
theorem dX7_findNatural_200 : decode cX7_findNatural 200 = .ok (.iload 4, 2) := by decide +kernel
theorem dX7_findNatural_202 : decode cX7_findNatural 202 = .ok (.iastore, 1) := by decide +kernel
theorem dX7_findNatural_203 : decode cX7_findNatural 203 = .ok (.return_, 1) := by decide +kernel
theorem dX7_crossLeft_0 : decode cX7_crossLeft 0 = .ok (.aload_n 0, 1) := by decide +kernel
theorem dX7_crossLeft_1 : decode cX7_crossLeft 1 = .ok (.getfield 9, 3) := by decide +kernel
theorem dX7_crossLeft_4 : decode cX7_crossLeft 4 = .ok (.iconst 1, 1) := by decide +kernel
theorem dX7_crossLeft_5 : decode cX7_crossLeft 5 = .ok (.iaload, 1) := by decide +kernel
theorem dX7_crossLeft_6 : decode cX7_crossLeft 6 = .ok (.aload_n 0, 1) := by decide +kernel
theorem dX7_crossLeft_7 : decode cX7_crossLeft 7 = .ok (.getfield 9, 3) := by decide +kernel
theorem dX7_crossLeft_10 : decode cX7_crossLeft 10 = .ok (.iconst 3, 1) := by decide +kernel
theorem dX7_crossLeft_11 : decode cX7_crossLeft 11 = .ok (.iaload, 1) := by decide +kernel
theorem dX7_crossLeft_12 : decode cX7_crossLeft 12 = .ok (.aload_n 0, 1) := by decide +kernel
theorem dX7_crossLeft_13 : decode cX7_crossLeft 13 = .ok (.getfield 178, 3) := by decide +kernel
theorem dX7_crossLeft_16 : decode cX7_crossLeft 16 = .ok (.iconst 1, 1) := by decide +kernel
theorem dX7_crossLeft_17 : decode cX7_crossLeft 17 = .ok (.isub, 1) := by decide +kernel
theorem dX7_crossLeft_18 : decode cX7_crossLeft 18 = .ok (.imul, 1) := by decide +kernel
theorem dX7_crossLeft_19 : decode cX7_crossLeft 19 = .ok (.isub, 1) := by decide +kernel
theorem dX7_crossLeft_20 : decode cX7_crossLeft 20 = .ok (.istore_n 1, 1) := by decide +kernel
theorem dX7_crossLeft_21 : decode cX7_crossLeft 21 = .ok (.iconst 0, 1) := by decide +kernel
theorem dX7_crossLeft_22 : decode cX7_crossLeft 22 = .ok (.istore_n 2, 1) := by decide +kernel
theorem dX7_crossLeft_23 : decode cX7_crossLeft 23 = .ok (.iload_n 2, 1) := by decide +kernel
theorem dX7_crossLeft_24 : decode cX7_crossLeft 24 = .ok (.aload_n 0, 1) := by decide +kernel
theorem dX7_crossLeft_25 : decode cX7_crossLeft 25 = .ok (.getfield 178, 3) := by decide +kernel
theorem dX7_crossLeft_28 : decode cX7_crossLeft 28 = .ok (.if_icmp .ge 18, 3) := by decide +kernel
theorem dX7_crossLeft_31 : decode cX7_crossLeft 31 = .ok (.iload_n 1, 1) := by decide +kernel
theorem dX7_crossLeft_32 : decode cX7_crossLeft 32 = .ok (.aload_n 0, 1) := by decide +kernel
theorem dX7_crossLeft_33 : decode cX7_crossLeft 33 = .ok (.getfield 76, 3) := by decide +kernel
theorem dX7_crossLeft_36 : decode cX7_crossLeft 36 = .ok (.iload_n 2, 1) := by decide +kernel
theorem dX7_crossLeft_37 : decode cX7_crossLeft 37 = .ok (.iaload, 1) := by decide +kernel
theorem dX7_crossLeft_38 : decode cX7_crossLeft 38 = .ok (.isub, 1) := by decide +kernel
theorem dX7_crossLeft_39 : decode cX7_crossLeft 39 = .ok (.istore_n 1, 1) := by decide +kernel
theorem dX7_crossLeft_40 : decode cX7_crossLeft 40 = .ok (.iinc 2 1, 3) := by decide +kernel
theorem dX7_crossLeft_43 : decode cX7_crossLeft 43 = .ok (.goto (-20), 3) := by decide +kernel
theorem dX7_crossLeft_46 : decode cX7_crossLeft 46 = .ok (.aload_n 0, 1) := by decide +kernel
theorem dX7_crossLeft_47 : decode cX7_crossLeft 47 = .ok (.getfield 9, 3) := by decide +kernel
theorem dX7_crossLeft_50 : decode cX7_crossLeft 50 = .ok (.iconst 1, 1) := by decide +kernel
theorem dX7_crossLeft_51 : decode cX7_crossLeft 51 = .ok (.iaload, 1) := by decide +kernel
theorem dX7_crossLeft_52 : decode cX7_crossLeft 52 = .ok (.iconst (-1), 1) := by decide +kernel
theorem dX7_crossLeft_53 : decode cX7_crossLeft 53 = .ok (.if_icmp .eq 10, 3) := by decide +kernel
theorem dX7_crossLeft_56 : decode cX7_crossLeft 56 = .ok (.aload_n 0, 1) := by decide +kernel
theorem dX7_crossLeft_57 : decode cX7_crossLeft 57 = .ok (.getfield 178, 3) := by decide +kernel
theorem dX7_crossLeft_60 : decode cX7_crossLeft 60 = .ok (.ifCond .ne 7, 3) := by decide +kernel
theorem dX7_crossLeft_63 : decode cX7_crossLeft 63 = .ok (.iconst 0, 1) := by decide +kernel
theorem dX7_crossLeft_64 : decode cX7_crossLeft 64 = .ok (.goto 4, 3) := by decide +kernel
theorem dX7_crossLeft_67 : decode cX7_crossLeft 67 = .ok (.iload_n 1, 1) := by decide +kernel
theorem dX7_crossLeft_68 : decode cX7_crossLeft 68 = .ok (.ireturn, 1) := by decide +kernel
theorem dX7_findLineCrosses_0 : decode cX7_findLineCrosses 0 = .ok (.iconst 0, 1) := by decide +kernel
theorem dX7_findLineCrosses_1 : decode cX7_findLineCrosses 1 = .ok (.istore_n 1, 1) := by decide +kernel
theorem dX7_findLineCrosses_2 : decode cX7_findLineCrosses 2 = .ok (.iload_n 1, 1) := by decide +kernel
theorem dX7_findLineCrosses_3 : decode cX7_findLineCrosses 3 = .ok (.aload_n 0, 1) := by decide +kernel
theorem dX7_findLineCrosses_4 : decode cX7_findLineCrosses 4 = .ok (.getfield 178, 3) := by decide +kernel
theorem dX7_findLineCrosses_7 : decode cX7_findLineCrosses 7 = .ok (.if_icmp .ge 26, 3) := by decide +kernel
theorem dX7_findLineCrosses_10 : decode cX7_findLineCrosses 10 = .ok (.aload_n 0, 1) := by decide +kernel
theorem dX7_findLineCrosses_11 : decode cX7_findLineCrosses 11 = .ok (.iload_n 1, 1) := by decide +kernel
theorem dX7_findLineCrosses_12 : decode cX7_findLineCrosses 12 = .ok (.invokevirtual 208, 3) := by decide +kernel
theorem dX7_findLineCrosses_15 : decode cX7_findLineCrosses 15 = .ok (.aload_n 0, 1) := by decide +kernel
theorem dX7_findLineCrosses_16 : decode cX7_findLineCrosses 16 = .ok (.getfield 76, 3) := by decide +kernel
theorem dX7_findLineCrosses_19 : decode cX7_findLineCrosses 19 = .ok (.iload_n 1, 1) := by decide +kernel
theorem dX7_findLineCrosses_20 : decode cX7_findLineCrosses 20 = .ok (.aload_n 0, 1) := by decide +kernel
theorem dX7_findLineCrosses_21 : decode cX7_findLineCrosses 21 = .ok (.getfield 82, 3) := by decide +kernel
theorem dX7_findLineCrosses_24 : decode cX7_findLineCrosses 24 = .ok (.iload_n 1, 1) := by decide +kernel
theorem dX7_findLineCrosses_25 : decode cX7_findLineCrosses 25 = .ok (.iaload, 1) := by decide +kernel
theorem dX7_findLineCrosses_26 : decode cX7_findLineCrosses 26 = .ok (.iastore, 1) := by decide +kernel
theorem dX7_findLineCrosses_27 : decode cX7_findLineCrosses 27 = .ok (.iinc 1 1, 3) := by decide +kernel
theorem dX7_findLineCrosses_30 : decode cX7_findLineCrosses 30 = .ok (.goto (-28), 3) := by decide +kernel
theorem dX7_findLineCrosses_33 : decode cX7_findLineCrosses 33 = .ok (.aload_n 0, 1) := by decide +kernel
theorem dX7_findLineCrosses_34 : decode cX7_findLineCrosses 34 = .ok (.getfield 178, 3) := by decide +kernel
theorem dX7_findLineCrosses_37 : decode cX7_findLineCrosses 37 = .ok (.iconst 1, 1) := by decide +kernel
theorem dX7_findLineCrosses_38 : decode cX7_findLineCrosses 38 = .ok (.if_icmp .ne 37, 3) := by decide +kernel
theorem dX7_findLineCrosses_41 : decode cX7_findLineCrosses 41 = .ok (.aload_n 0, 1) := by decide +kernel
theorem dX7_findLineCrosses_42 : decode cX7_findLineCrosses 42 = .ok (.getfield 9, 3) := by decide +kernel
theorem dX7_findLineCrosses_45 : decode cX7_findLineCrosses 45 = .ok (.iconst 5, 1) := by decide +kernel
theorem dX7_findLineCrosses_46 : decode cX7_findLineCrosses 46 = .ok (.iaload, 1) := by decide +kernel
theorem dX7_findLineCrosses_47 : decode cX7_findLineCrosses 47 = .ok (.ifCond .ne 28, 3) := by decide +kernel
theorem dX7_findLineCrosses_50 : decode cX7_findLineCrosses 50 = .ok (.aload_n 0, 1) := by decide +kernel
theorem dX7_findLineCrosses_51 : decode cX7_findLineCrosses 51 = .ok (.getfield 9, 3) := by decide +kernel
theorem dX7_findLineCrosses_54 : decode cX7_findLineCrosses 54 = .ok (.iconst 1, 1) := by decide +kernel
theorem dX7_findLineCrosses_55 : decode cX7_findLineCrosses 55 = .ok (.iaload, 1) := by decide +kernel
theorem dX7_findLineCrosses_56 : decode cX7_findLineCrosses 56 = .ok (.iconst (-1), 1) := by decide +kernel
theorem dX7_findLineCrosses_57 : decode cX7_findLineCrosses 57 = .ok (.if_icmp .eq 18, 3) := by decide +kernel
theorem dX7_findLineCrosses_60 : decode cX7_findLineCrosses 60 = .ok (.aload_n 0, 1) := by decide +kernel
theorem dX7_findLineCrosses_61 : decode cX7_findLineCrosses 61 = .ok (.getfield 76, 3) := by decide +kernel
theorem dX7_findLineCrosses_64 : decode cX7_findLineCrosses 64 = .ok (.iconst 0, 1) := by decide +kernel
theorem dX7_findLineCrosses_65 : decode cX7_findLineCrosses 65 = .ok (.aload_n 0, 1) := by decide +kernel
theorem dX7_findLineCrosses_66 : decode cX7_findLineCrosses 66 = .ok (.getfield 9, 3) := by decide +kernel
theorem dX7_findLineCrosses_69 : decode cX7_findLineCrosses 69 = .ok (.iconst 1, 1) := by decide +kernel
theorem dX7_findLineCrosses_70 : decode cX7_findLineCrosses 70 = .ok (.iaload, 1) := by decide +kernel
theorem dX7_findLineCrosses_71 : decode cX7_findLineCrosses 71 = .ok (.iastore, 1) := by decide +kernel
theorem dX7_findLineCrosses_72 : decode cX7_findLineCrosses 72 = .ok (.goto 98, 3) := by decide +kernel
theorem dX7_findLineCrosses_75 : decode cX7_findLineCrosses 75 = .ok (.aload_n 0, 1) := by decide +kernel
theorem dX7_findLineCrosses_76 : decode cX7_findLineCrosses 76 = .ok (.getfield 9, 3) := by decide +kernel
theorem dX7_findLineCrosses_79 : decode cX7_findLineCrosses 79 = .ok (.iconst 1, 1) := by decide +kernel
theorem dX7_findLineCrosses_80 : decode cX7_findLineCrosses 80 = .ok (.iaload, 1) := by decide +kernel
theorem dX7_findLineCrosses_81 : decode cX7_findLineCrosses 81 = .ok (.iconst (-1), 1) := by decide +kernel
theorem dX7_findLineCrosses_82 : decode cX7_findLineCrosses 82 = .ok (.if_icmp .eq 88, 3) := by decide +kernel
theorem dX7_findLineCrosses_85 : decode cX7_findLineCrosses 85 = .ok (.aload_n 0, 1) := by decide +kernel
theorem dX7_findLineCrosses_86 : decode cX7_findLineCrosses 86 = .ok (.getfield 9, 3) := by decide +kernel
theorem dX7_findLineCrosses_89 : decode cX7_findLineCrosses 89 = .ok (.bipush 8, 2) := by decide +kernel
theorem dX7_findLineCrosses_91 : decode cX7_findLineCrosses 91 = .ok (.iaload, 1) := by decide +kernel
theorem dX7_findLineCrosses_92 : decode cX7_findLineCrosses 92 = .ok (.ifCond .ne 78, 3) := by decide +kernel
theorem dX7_findLineCrosses_95 : decode cX7_findLineCrosses 95 = .ok (.aload_n 0, 1) := by decide +kernel
theorem dX7_findLineCrosses_96 : decode cX7_findLineCrosses 96 = .ok (.invokevirtual 212, 3) := by decide +kernel
theorem dX7_findLineCrosses_99 : decode cX7_findLineCrosses 99 = .ok (.ifCond .le 71, 3) := by decide +kernel
theorem dX7_findLineCrosses_102 : decode cX7_findLineCrosses 102 = .ok (.iconst 0, 1) := by decide +kernel
theorem dX7_findLineCrosses_103 : decode cX7_findLineCrosses 103 = .ok (.istore_n 1, 1) := by decide +kernel
theorem dX7_findLineCrosses_104 : decode cX7_findLineCrosses 104 = .ok (.iload_n 1, 1) := by decide +kernel
theorem dX7_findLineCrosses_105 : decode cX7_findLineCrosses 105 = .ok (.aload_n 0, 1) := by decide +kernel
theorem dX7_findLineCrosses_106 : decode cX7_findLineCrosses 106 = .ok (.getfield 178, 3) := by decide +kernel
theorem dX7_findLineCrosses_109 : decode cX7_findLineCrosses 109 = .ok (.if_icmp .ge 16, 3) := by decide +kernel
theorem dX7_findLineCrosses_112 : decode cX7_findLineCrosses 112 = .ok (.aload_n 0, 1) := by decide +kernel
theorem dX7_findLineCrosses_113 : decode cX7_findLineCrosses 113 = .ok (.getfield 29, 3) := by decide +kernel
theorem dX7_findLineCrosses_116 : decode cX7_findLineCrosses 116 = .ok (.iload_n 1, 1) := by decide +kernel
theorem dX7_findLineCrosses_117 : decode cX7_findLineCrosses 117 = .ok (.lconst 1, 1) := by decide +kernel
theorem dX7_findLineCrosses_118 : decode cX7_findLineCrosses 118 = .ok (.lastore, 1) := by decide +kernel
theorem dX7_findLineCrosses_119 : decode cX7_findLineCrosses 119 = .ok (.iinc 1 1, 3) := by decide +kernel
theorem dX7_findLineCrosses_122 : decode cX7_findLineCrosses 122 = .ok (.goto (-18), 3) := by decide +kernel
theorem dX7_findLineCrosses_125 : decode cX7_findLineCrosses 125 = .ok (.aload_n 0, 1) := by decide +kernel
theorem dX7_findLineCrosses_126 : decode cX7_findLineCrosses 126 = .ok (.aload_n 0, 1) := by decide +kernel
theorem dX7_findLineCrosses_127 : decode cX7_findLineCrosses 127 = .ok (.invokevirtual 212, 3) := by decide +kernel
theorem dX7_findLineCrosses_130 : decode cX7_findLineCrosses 130 = .ok (.i2l, 1) := by decide +kernel
theorem dX7_findLineCrosses_131 : decode cX7_findLineCrosses 131 = .ok (.aload_n 0, 1) := by decide +kernel
theorem dX7_findLineCrosses_132 : decode cX7_findLineCrosses 132 = .ok (.getfield 178, 3) := by decide +kernel
theorem dX7_findLineCrosses_135 : decode cX7_findLineCrosses 135 = .ok (.invokevirtual 187, 3) := by decide +kernel
theorem dX7_findLineCrosses_138 : decode cX7_findLineCrosses 138 = .ok (.iconst 0, 1) := by decide +kernel
theorem dX7_findLineCrosses_139 : decode cX7_findLineCrosses 139 = .ok (.istore_n 1, 1) := by decide +kernel
theorem dX7_findLineCrosses_140 : decode cX7_findLineCrosses 140 = .ok (.iload_n 1, 1) := by decide +kernel
theorem dX7_findLineCrosses_141 : decode cX7_findLineCrosses 141 = .ok (.aload_n 0, 1) := by decide +kernel
theorem dX7_findLineCrosses_142 : decode cX7_findLineCrosses 142 = .ok (.getfield 178, 3) := by decide +kernel
theorem dX7_findLineCrosses_145 : decode cX7_findLineCrosses 145 = .ok (.if_icmp .ge 25, 3) := by decide +kernel
theorem dX7_findLineCrosses_148 : decode cX7_findLineCrosses 148 = .ok (.aload_n 0, 1) := by decide +kernel
theorem dX7_findLineCrosses_149 : decode cX7_findLineCrosses 149 = .ok (.getfield 76, 3) := by decide +kernel
end
section
theorem dX7_findLineCrosses_152 : decode cX7_findLineCrosses 152 = .ok (.iload_n 1, 1) := by decide +kernel
theorem dX7_findLineCrosses_153 : decode cX7_findLineCrosses 153 = .ok (.dup2, 1) := by decide +kernel
theorem dX7_findLineCrosses_154 : decode cX7_findLineCrosses 154 = .ok (.iaload, 1) := by decide +kernel
theorem dX7_findLineCrosses_155 : decode cX7_findLineCrosses 155 = .ok (.aload_n 0, 1) := by decide +kernel
theorem dX7_findLineCrosses_156 : decode cX7_findLineCrosses 156 = .ok (.getfield 33, 3) := by decide +kernel
theorem dX7_findLineCrosses_159 : decode cX7_findLineCrosses 159 = .ok (.iload_n 1, 1) := by decide +kernel
theorem dX7_findLineCrosses_160 : decode cX7_findLineCrosses 160 = .ok (.laload, 1) := by decide +kernel
theorem dX7_findLineCrosses_161 : decode cX7_findLineCrosses 161 = .ok (.l2i, 1) := by decide +kernel
theorem dX7_findLineCrosses_162 : decode cX7_findLineCrosses 162 = .ok (.iadd, 1) := by decide +kernel
theorem dX7_findLineCrosses_163 : decode cX7_findLineCrosses 163 = .ok (.iastore, 1) := by decide +kernel
theorem dX7_findLineCrosses_164 : decode cX7_findLineCrosses 164 = .ok (.iinc 1 1, 3) := by decide +kernel
theorem dX7_findLineCrosses_167 : decode cX7_findLineCrosses 167 = .ok (.goto (-27), 3) := by decide +kernel
theorem dX7_findLineCrosses_170 : decode cX7_findLineCrosses 170 = .ok (.aload_n 0, 1) := by decide +kernel
theorem dX7_findLineCrosses_171 : decode cX7_findLineCrosses 171 = .ok (.aload_n 0, 1) := by decide +kernel
theorem dX7_findLineCrosses_172 : decode cX7_findLineCrosses 172 = .ok (.getfield 9, 3) := by decide +kernel
theorem dX7_findLineCrosses_175 : decode cX7_findLineCrosses 175 = .ok (.iconst 1, 1) := by decide +kernel
theorem dX7_findLineCrosses_176 : decode cX7_findLineCrosses 176 = .ok (.iaload, 1) := by decide +kernel
theorem dX7_findLineCrosses_177 : decode cX7_findLineCrosses 177 = .ok (.putfield 216, 3) := by decide +kernel
theorem dX7_findLineCrosses_180 : decode cX7_findLineCrosses 180 = .ok (.aload_n 0, 1) := by decide +kernel
theorem dX7_findLineCrosses_181 : decode cX7_findLineCrosses 181 = .ok (.getfield 9, 3) := by decide +kernel
theorem dX7_findLineCrosses_184 : decode cX7_findLineCrosses 184 = .ok (.iconst 1, 1) := by decide +kernel
theorem dX7_findLineCrosses_185 : decode cX7_findLineCrosses 185 = .ok (.iaload, 1) := by decide +kernel
theorem dX7_findLineCrosses_186 : decode cX7_findLineCrosses 186 = .ok (.iconst (-1), 1) := by decide +kernel
theorem dX7_findLineCrosses_187 : decode cX7_findLineCrosses 187 = .ok (.if_icmp .eq 4, 3) := by decide +kernel
theorem dX7_findLineCrosses_190 : decode cX7_findLineCrosses 190 = .ok (.return_, 1) := by decide +kernel
theorem dX7_findLineCrosses_191 : decode cX7_findLineCrosses 191 = .ok (.aload_n 0, 1) := by decide +kernel
theorem dX7_findLineCrosses_192 : decode cX7_findLineCrosses 192 = .ok (.aload_n 0, 1) := by decide +kernel
theorem dX7_findLineCrosses_193 : decode cX7_findLineCrosses 193 = .ok (.getfield 178, 3) := by decide +kernel
theorem dX7_findLineCrosses_196 : decode cX7_findLineCrosses 196 = .ok (.ifCond .ne 7, 3) := by decide +kernel
theorem dX7_findLineCrosses_199 : decode cX7_findLineCrosses 199 = .ok (.iconst 0, 1) := by decide +kernel
theorem dX7_findLineCrosses_200 : decode cX7_findLineCrosses 200 = .ok (.goto 16, 3) := by decide +kernel
theorem dX7_findLineCrosses_203 : decode cX7_findLineCrosses 203 = .ok (.aload_n 0, 1) := by decide +kernel
theorem dX7_findLineCrosses_204 : decode cX7_findLineCrosses 204 = .ok (.getfield 9, 3) := by decide +kernel
theorem dX7_findLineCrosses_207 : decode cX7_findLineCrosses 207 = .ok (.iconst 3, 1) := by decide +kernel
theorem dX7_findLineCrosses_208 : decode cX7_findLineCrosses 208 = .ok (.iaload, 1) := by decide +kernel
theorem dX7_findLineCrosses_209 : decode cX7_findLineCrosses 209 = .ok (.aload_n 0, 1) := by decide +kernel
theorem dX7_findLineCrosses_210 : decode cX7_findLineCrosses 210 = .ok (.getfield 178, 3) := by decide +kernel
theorem dX7_findLineCrosses_213 : decode cX7_findLineCrosses 213 = .ok (.iconst 1, 1) := by decide +kernel
theorem dX7_findLineCrosses_214 : decode cX7_findLineCrosses 214 = .ok (.isub, 1) := by decide +kernel
theorem dX7_findLineCrosses_215 : decode cX7_findLineCrosses 215 = .ok (.imul, 1) := by decide +kernel
theorem dX7_findLineCrosses_216 : decode cX7_findLineCrosses 216 = .ok (.putfield 216, 3) := by decide +kernel
theorem dX7_findLineCrosses_219 : decode cX7_findLineCrosses 219 = .ok (.iconst 0, 1) := by decide +kernel
theorem dX7_findLineCrosses_220 : decode cX7_findLineCrosses 220 = .ok (.istore_n 1, 1) := by decide +kernel
theorem dX7_findLineCrosses_221 : decode cX7_findLineCrosses 221 = .ok (.iload_n 1, 1) := by decide +kernel
theorem dX7_findLineCrosses_222 : decode cX7_findLineCrosses 222 = .ok (.aload_n 0, 1) := by decide +kernel
theorem dX7_findLineCrosses_223 : decode cX7_findLineCrosses 223 = .ok (.getfield 178, 3) := by decide +kernel
theorem dX7_findLineCrosses_226 : decode cX7_findLineCrosses 226 = .ok (.if_icmp .ge 24, 3) := by decide +kernel
theorem dX7_findLineCrosses_229 : decode cX7_findLineCrosses 229 = .ok (.aload_n 0, 1) := by decide +kernel
theorem dX7_findLineCrosses_230 : decode cX7_findLineCrosses 230 = .ok (.dup, 1) := by decide +kernel
theorem dX7_findLineCrosses_231 : decode cX7_findLineCrosses 231 = .ok (.getfield 216, 3) := by decide +kernel
theorem dX7_findLineCrosses_234 : decode cX7_findLineCrosses 234 = .ok (.aload_n 0, 1) := by decide +kernel
theorem dX7_findLineCrosses_235 : decode cX7_findLineCrosses 235 = .ok (.getfield 76, 3) := by decide +kernel
theorem dX7_findLineCrosses_238 : decode cX7_findLineCrosses 238 = .ok (.iload_n 1, 1) := by decide +kernel
theorem dX7_findLineCrosses_239 : decode cX7_findLineCrosses 239 = .ok (.iaload, 1) := by decide +kernel
theorem dX7_findLineCrosses_240 : decode cX7_findLineCrosses 240 = .ok (.iadd, 1) := by decide +kernel
theorem dX7_findLineCrosses_241 : decode cX7_findLineCrosses 241 = .ok (.putfield 216, 3) := by decide +kernel
theorem dX7_findLineCrosses_244 : decode cX7_findLineCrosses 244 = .ok (.iinc 1 1, 3) := by decide +kernel
theorem dX7_findLineCrosses_247 : decode cX7_findLineCrosses 247 = .ok (.goto (-26), 3) := by decide +kernel
theorem dX7_findLineCrosses_250 : decode cX7_findLineCrosses 250 = .ok (.return_, 1) := by decide +kernel
theorem dX7_floor_0 : decode cX7_floor 0 = .ok (.iload_n 0, 1) := by decide +kernel
theorem dX7_floor_1 : decode cX7_floor 1 = .ok (.ifCond .lt 9, 3) := by decide +kernel
theorem dX7_floor_4 : decode cX7_floor 4 = .ok (.iload_n 0, 1) := by decide +kernel
theorem dX7_floor_5 : decode cX7_floor 5 = .ok (.iload_n 1, 1) := by decide +kernel
theorem dX7_floor_6 : decode cX7_floor 6 = .ok (.idiv, 1) := by decide +kernel
theorem dX7_floor_7 : decode cX7_floor 7 = .ok (.goto 11, 3) := by decide +kernel
theorem dX7_floor_10 : decode cX7_floor 10 = .ok (.iload_n 1, 1) := by decide +kernel
theorem dX7_floor_11 : decode cX7_floor 11 = .ok (.iconst 1, 1) := by decide +kernel
theorem dX7_floor_12 : decode cX7_floor 12 = .ok (.isub, 1) := by decide +kernel
theorem dX7_floor_13 : decode cX7_floor 13 = .ok (.iload_n 0, 1) := by decide +kernel
theorem dX7_floor_14 : decode cX7_floor 14 = .ok (.isub, 1) := by decide +kernel
theorem dX7_floor_15 : decode cX7_floor 15 = .ok (.iload_n 1, 1) := by decide +kernel
theorem dX7_floor_16 : decode cX7_floor 16 = .ok (.idiv, 1) := by decide +kernel
theorem dX7_floor_17 : decode cX7_floor 17 = .ok (.ineg, 1) := by decide +kernel
theorem dX7_floor_18 : decode cX7_floor 18 = .ok (.ireturn, 1) := by decide +kernel
theorem dX7_offset_0 : decode cX7_offset 0 = .ok (.iload_n 1, 1) := by decide +kernel
theorem dX7_offset_1 : decode cX7_offset 1 = .ok (.ifCond .ge 8, 3) := by decide +kernel
theorem dX7_offset_4 : decode cX7_offset 4 = .ok (.iload_n 0, 1) := by decide +kernel
theorem dX7_offset_5 : decode cX7_offset 5 = .ok (.iconst 3, 1) := by decide +kernel
theorem dX7_offset_6 : decode cX7_offset 6 = .ok (.if_icmp .ge 7, 3) := by decide +kernel
theorem dX7_offset_9 : decode cX7_offset 9 = .ok (.iload_n 0, 1) := by decide +kernel
theorem dX7_offset_10 : decode cX7_offset 10 = .ok (.goto 13, 3) := by decide +kernel
theorem dX7_offset_13 : decode cX7_offset 13 = .ok (.iload_n 0, 1) := by decide +kernel
theorem dX7_offset_14 : decode cX7_offset 14 = .ok (.iconst 3, 1) := by decide +kernel
theorem dX7_offset_15 : decode cX7_offset 15 = .ok (.if_icmp .ne 7, 3) := by decide +kernel
theorem dX7_offset_18 : decode cX7_offset 18 = .ok (.iconst 0, 1) := by decide +kernel
theorem dX7_offset_19 : decode cX7_offset 19 = .ok (.goto 4, 3) := by decide +kernel
theorem dX7_offset_22 : decode cX7_offset 22 = .ok (.iconst 2, 1) := by decide +kernel
theorem dX7_offset_23 : decode cX7_offset 23 = .ok (.istore 4, 2) := by decide +kernel
theorem dX7_offset_25 : decode cX7_offset 25 = .ok (.iload 4, 2) := by decide +kernel
theorem dX7_offset_27 : decode cX7_offset 27 = .ok (.tableswitch 80 1 5 #[33, 35, 41, 58, 70], 33) := by decide +kernel
theorem dX7_offset_60 : decode cX7_offset 60 = .ok (.iload_n 1, 1) := by decide +kernel
theorem dX7_offset_61 : decode cX7_offset 61 = .ok (.ireturn, 1) := by decide +kernel
theorem dX7_offset_62 : decode cX7_offset 62 = .ok (.iload_n 1, 1) := by decide +kernel
theorem dX7_offset_63 : decode cX7_offset 63 = .ok (.iconst 2, 1) := by decide +kernel
theorem dX7_offset_64 : decode cX7_offset 64 = .ok (.invokestatic 219, 3) := by decide +kernel
theorem dX7_offset_67 : decode cX7_offset 67 = .ok (.ireturn, 1) := by decide +kernel
theorem dX7_offset_68 : decode cX7_offset 68 = .ok (.iload_n 3, 1) := by decide +kernel
theorem dX7_offset_69 : decode cX7_offset 69 = .ok (.iconst 1, 1) := by decide +kernel
theorem dX7_offset_70 : decode cX7_offset 70 = .ok (.if_icmp .ne 7, 3) := by decide +kernel
theorem dX7_offset_73 : decode cX7_offset 73 = .ok (.iconst 0, 1) := by decide +kernel
theorem dX7_offset_74 : decode cX7_offset 74 = .ok (.goto 10, 3) := by decide +kernel
theorem dX7_offset_77 : decode cX7_offset 77 = .ok (.iload_n 1, 1) := by decide +kernel
theorem dX7_offset_78 : decode cX7_offset 78 = .ok (.iload_n 2, 1) := by decide +kernel
theorem dX7_offset_79 : decode cX7_offset 79 = .ok (.imul, 1) := by decide +kernel
theorem dX7_offset_80 : decode cX7_offset 80 = .ok (.iload_n 3, 1) := by decide +kernel
theorem dX7_offset_81 : decode cX7_offset 81 = .ok (.iconst 1, 1) := by decide +kernel
theorem dX7_offset_82 : decode cX7_offset 82 = .ok (.isub, 1) := by decide +kernel
theorem dX7_offset_83 : decode cX7_offset 83 = .ok (.idiv, 1) := by decide +kernel
theorem dX7_offset_84 : decode cX7_offset 84 = .ok (.ireturn, 1) := by decide +kernel
theorem dX7_offset_85 : decode cX7_offset 85 = .ok (.iload_n 1, 1) := by decide +kernel
theorem dX7_offset_86 : decode cX7_offset 86 = .ok (.iconst 2, 1) := by decide +kernel
theorem dX7_offset_87 : decode cX7_offset 87 = .ok (.iload_n 2, 1) := by decide +kernel
theorem dX7_offset_88 : decode cX7_offset 88 = .ok (.imul, 1) := by decide +kernel
theorem dX7_offset_89 : decode cX7_offset 89 = .ok (.iconst 1, 1) := by decide +kernel
theorem dX7_offset_90 : decode cX7_offset 90 = .ok (.iadd, 1) := by decide +kernel
theorem dX7_offset_91 : decode cX7_offset 91 = .ok (.imul, 1) := by decide +kernel
theorem dX7_offset_92 : decode cX7_offset 92 = .ok (.iconst 2, 1) := by decide +kernel
theorem dX7_offset_93 : decode cX7_offset 93 = .ok (.iload_n 3, 1) := by decide +kernel
theorem dX7_offset_94 : decode cX7_offset 94 = .ok (.imul, 1) := by decide +kernel
theorem dX7_offset_95 : decode cX7_offset 95 = .ok (.idiv, 1) := by decide +kernel
theorem dX7_offset_96 : decode cX7_offset 96 = .ok (.ireturn, 1) := by decide +kernel
theorem dX7_offset_97 : decode cX7_offset 97 = .ok (.iload_n 1, 1) := by decide +kernel
theorem dX7_offset_98 : decode cX7_offset 98 = .ok (.iload_n 2, 1) := by decide +kernel
theorem dX7_offset_99 : decode cX7_offset 99 = .ok (.iconst 1, 1) := by decide +kernel
theorem dX7_offset_100 : decode cX7_offset 100 = .ok (.iadd, 1) := by decide +kernel
theorem dX7_offset_101 : decode cX7_offset 101 = .ok (.imul, 1) := by decide +kernel
theorem dX7_offset_102 : decode cX7_offset 102 = .ok (.iload_n 3, 1) := by decide +kernel
theorem dX7_offset_103 : decode cX7_offset 103 = .ok (.iconst 1, 1) := by decide +kernel
theorem dX7_offset_104 : decode cX7_offset 104 = .ok (.iadd, 1) := by decide +kernel
theorem dX7_offset_105 : decode cX7_offset 105 = .ok (.idiv, 1) := by decide +kernel
theorem dX7_offset_106 : decode cX7_offset 106 = .ok (.ireturn, 1) := by decide +kernel
theorem dX7_offset_107 : decode cX7_offset 107 = .ok (.iconst 0, 1) := by decide +kernel
theorem dX7_offset_108 : decode cX7_offset 108 = .ok (.ireturn, 1) := by decide +kernel
theorem dX7_findPlaces_0 : decode cX7_findPlaces 0 = .ok (.iconst 0, 1) := by decide +kernel
theorem dX7_findPlaces_1 : decode cX7_findPlaces 1 = .ok (.istore_n 2, 1) := by decide +kernel
theorem dX7_findPlaces_2 : decode cX7_findPlaces 2 = .ok (.iconst 0, 1) := by decide +kernel
theorem dX7_findPlaces_3 : decode cX7_findPlaces 3 = .ok (.istore_n 3, 1) := by decide +kernel
theorem dX7_findPlaces_4 : decode cX7_findPlaces 4 = .ok (.iload_n 3, 1) := by decide +kernel
theorem dX7_findPlaces_5 : decode cX7_findPlaces 5 = .ok (.aload_n 0, 1) := by decide +kernel
theorem dX7_findPlaces_6 : decode cX7_findPlaces 6 = .ok (.getfield 67, 3) := by decide +kernel
theorem dX7_findPlaces_9 : decode cX7_findPlaces 9 = .ok (.iload_n 1, 1) := by decide +kernel
theorem dX7_findPlaces_10 : decode cX7_findPlaces 10 = .ok (.iaload, 1) := by decide +kernel
theorem dX7_findPlaces_11 : decode cX7_findPlaces 11 = .ok (.if_icmp .ge 288, 3) := by decide +kernel
theorem dX7_findPlaces_14 : decode cX7_findPlaces 14 = .ok (.aload_n 0, 1) := by decide +kernel
theorem dX7_findPlaces_15 : decode cX7_findPlaces 15 = .ok (.getfield 64, 3) := by decide +kernel
theorem dX7_findPlaces_18 : decode cX7_findPlaces 18 = .ok (.iload_n 1, 1) := by decide +kernel
theorem dX7_findPlaces_19 : decode cX7_findPlaces 19 = .ok (.iaload, 1) := by decide +kernel
theorem dX7_findPlaces_20 : decode cX7_findPlaces 20 = .ok (.iload_n 3, 1) := by decide +kernel
theorem dX7_findPlaces_21 : decode cX7_findPlaces 21 = .ok (.iadd, 1) := by decide +kernel
theorem dX7_findPlaces_22 : decode cX7_findPlaces 22 = .ok (.istore 4, 2) := by decide +kernel
theorem dX7_findPlaces_24 : decode cX7_findPlaces 24 = .ok (.aload_n 0, 1) := by decide +kernel
theorem dX7_findPlaces_25 : decode cX7_findPlaces 25 = .ok (.getfield 39, 3) := by decide +kernel
theorem dX7_findPlaces_28 : decode cX7_findPlaces 28 = .ok (.iload 4, 2) := by decide +kernel
theorem dX7_findPlaces_30 : decode cX7_findPlaces 30 = .ok (.iaload, 1) := by decide +kernel
theorem dX7_findPlaces_31 : decode cX7_findPlaces 31 = .ok (.istore 5, 2) := by decide +kernel
theorem dX7_findPlaces_33 : decode cX7_findPlaces 33 = .ok (.aload_n 0, 1) := by decide +kernel
theorem dX7_findPlaces_34 : decode cX7_findPlaces 34 = .ok (.iload 5, 2) := by decide +kernel
theorem dX7_findPlaces_36 : decode cX7_findPlaces 36 = .ok (.invokevirtual 205, 3) := by decide +kernel
theorem dX7_findPlaces_39 : decode cX7_findPlaces 39 = .ok (.istore 6, 2) := by decide +kernel
theorem dX7_findPlaces_41 : decode cX7_findPlaces 41 = .ok (.aload_n 0, 1) := by decide +kernel
theorem dX7_findPlaces_42 : decode cX7_findPlaces 42 = .ok (.getfield 51, 3) := by decide +kernel
theorem dX7_findPlaces_45 : decode cX7_findPlaces 45 = .ok (.iload 4, 2) := by decide +kernel
theorem dX7_findPlaces_47 : decode cX7_findPlaces 47 = .ok (.iload_n 2, 1) := by decide +kernel
theorem dX7_findPlaces_48 : decode cX7_findPlaces 48 = .ok (.aload_n 0, 1) := by decide +kernel
theorem dX7_findPlaces_49 : decode cX7_findPlaces 49 = .ok (.getfield 9, 3) := by decide +kernel
theorem dX7_findPlaces_52 : decode cX7_findPlaces 52 = .ok (.bipush 6, 2) := by decide +kernel
theorem dX7_findPlaces_54 : decode cX7_findPlaces 54 = .ok (.iaload, 1) := by decide +kernel
theorem dX7_findPlaces_55 : decode cX7_findPlaces 55 = .ok (.aload_n 0, 1) := by decide +kernel
theorem dX7_findPlaces_56 : decode cX7_findPlaces 56 = .ok (.getfield 73, 3) := by decide +kernel
theorem dX7_findPlaces_59 : decode cX7_findPlaces 59 = .ok (.iload_n 1, 1) := by decide +kernel
theorem dX7_findPlaces_60 : decode cX7_findPlaces 60 = .ok (.iaload, 1) := by decide +kernel
theorem dX7_findPlaces_61 : decode cX7_findPlaces 61 = .ok (.iload_n 3, 1) := by decide +kernel
theorem dX7_findPlaces_62 : decode cX7_findPlaces 62 = .ok (.aload_n 0, 1) := by decide +kernel
theorem dX7_findPlaces_63 : decode cX7_findPlaces 63 = .ok (.getfield 67, 3) := by decide +kernel
theorem dX7_findPlaces_66 : decode cX7_findPlaces 66 = .ok (.iload_n 1, 1) := by decide +kernel
theorem dX7_findPlaces_67 : decode cX7_findPlaces 67 = .ok (.iaload, 1) := by decide +kernel
theorem dX7_findPlaces_68 : decode cX7_findPlaces 68 = .ok (.invokestatic 222, 3) := by decide +kernel
theorem dX7_findPlaces_71 : decode cX7_findPlaces 71 = .ok (.iadd, 1) := by decide +kernel
theorem dX7_findPlaces_72 : decode cX7_findPlaces 72 = .ok (.iastore, 1) := by decide +kernel
theorem dX7_findPlaces_73 : decode cX7_findPlaces 73 = .ok (.iload_n 2, 1) := by decide +kernel
theorem dX7_findPlaces_74 : decode cX7_findPlaces 74 = .ok (.aload_n 0, 1) := by decide +kernel
theorem dX7_findPlaces_75 : decode cX7_findPlaces 75 = .ok (.getfield 42, 3) := by decide +kernel
theorem dX7_findPlaces_78 : decode cX7_findPlaces 78 = .ok (.iload 4, 2) := by decide +kernel
theorem dX7_findPlaces_80 : decode cX7_findPlaces 80 = .ok (.iaload, 1) := by decide +kernel
theorem dX7_findPlaces_81 : decode cX7_findPlaces 81 = .ok (.aload_n 0, 1) := by decide +kernel
theorem dX7_findPlaces_82 : decode cX7_findPlaces 82 = .ok (.getfield 9, 3) := by decide +kernel
theorem dX7_findPlaces_85 : decode cX7_findPlaces 85 = .ok (.iconst 2, 1) := by decide +kernel
theorem dX7_findPlaces_86 : decode cX7_findPlaces 86 = .ok (.iaload, 1) := by decide +kernel
theorem dX7_findPlaces_87 : decode cX7_findPlaces 87 = .ok (.iadd, 1) := by decide +kernel
theorem dX7_findPlaces_88 : decode cX7_findPlaces 88 = .ok (.iadd, 1) := by decide +kernel
theorem dX7_findPlaces_89 : decode cX7_findPlaces 89 = .ok (.istore_n 2, 1) := by decide +kernel
theorem dX7_findPlaces_90 : decode cX7_findPlaces 90 = .ok (.aload_n 0, 1) := by decide +kernel
theorem dX7_findPlaces_91 : decode cX7_findPlaces 91 = .ok (.getfield 48, 3) := by decide +kernel
theorem dX7_findPlaces_94 : decode cX7_findPlaces 94 = .ok (.iload 4, 2) := by decide +kernel
theorem dX7_findPlaces_96 : decode cX7_findPlaces 96 = .ok (.iload 6, 2) := by decide +kernel
theorem dX7_findPlaces_98 : decode cX7_findPlaces 98 = .ok (.ifCond .ne 24, 3) := by decide +kernel
theorem dX7_findPlaces_101 : decode cX7_findPlaces 101 = .ok (.aload_n 0, 1) := by decide +kernel
theorem dX7_findPlaces_102 : decode cX7_findPlaces 102 = .ok (.iload 5, 2) := by decide +kernel
theorem dX7_findPlaces_104 : decode cX7_findPlaces 104 = .ok (.bipush 9, 2) := by decide +kernel
theorem dX7_findPlaces_106 : decode cX7_findPlaces 106 = .ok (.invokevirtual 145, 3) := by decide +kernel
theorem dX7_findPlaces_109 : decode cX7_findPlaces 109 = .ok (.iconst 1, 1) := by decide +kernel
theorem dX7_findPlaces_110 : decode cX7_findPlaces 110 = .ok (.if_icmp .ne 12, 3) := by decide +kernel
theorem dX7_findPlaces_113 : decode cX7_findPlaces 113 = .ok (.aload_n 0, 1) := by decide +kernel
theorem dX7_findPlaces_114 : decode cX7_findPlaces 114 = .ok (.getfield 76, 3) := by decide +kernel
theorem dX7_findPlaces_117 : decode cX7_findPlaces 117 = .ok (.iload_n 1, 1) := by decide +kernel
theorem dX7_findPlaces_118 : decode cX7_findPlaces 118 = .ok (.iaload, 1) := by decide +kernel
theorem dX7_findPlaces_119 : decode cX7_findPlaces 119 = .ok (.goto 10, 3) := by decide +kernel
theorem dX7_findPlaces_122 : decode cX7_findPlaces 122 = .ok (.aload_n 0, 1) := by decide +kernel
theorem dX7_findPlaces_123 : decode cX7_findPlaces 123 = .ok (.iload 5, 2) := by decide +kernel
theorem dX7_findPlaces_125 : decode cX7_findPlaces 125 = .ok (.iconst 5, 1) := by decide +kernel
theorem dX7_findPlaces_126 : decode cX7_findPlaces 126 = .ok (.invokevirtual 145, 3) := by decide +kernel
theorem dX7_findPlaces_129 : decode cX7_findPlaces 129 = .ok (.iastore, 1) := by decide +kernel
theorem dX7_findPlaces_130 : decode cX7_findPlaces 130 = .ok (.aload_n 0, 1) := by decide +kernel
theorem dX7_findPlaces_131 : decode cX7_findPlaces 131 = .ok (.getfield 76, 3) := by decide +kernel
theorem dX7_findPlaces_134 : decode cX7_findPlaces 134 = .ok (.iload_n 1, 1) := by decide +kernel
theorem dX7_findPlaces_135 : decode cX7_findPlaces 135 = .ok (.iaload, 1) := by decide +kernel
theorem dX7_findPlaces_136 : decode cX7_findPlaces 136 = .ok (.aload_n 0, 1) := by decide +kernel
theorem dX7_findPlaces_137 : decode cX7_findPlaces 137 = .ok (.getfield 48, 3) := by decide +kernel
theorem dX7_findPlaces_140 : decode cX7_findPlaces 140 = .ok (.iload 4, 2) := by decide +kernel
theorem dX7_findPlaces_142 : decode cX7_findPlaces 142 = .ok (.iaload, 1) := by decide +kernel
theorem dX7_findPlaces_143 : decode cX7_findPlaces 143 = .ok (.isub, 1) := by decide +kernel
theorem dX7_findPlaces_144 : decode cX7_findPlaces 144 = .ok (.istore 7, 2) := by decide +kernel
theorem dX7_findPlaces_146 : decode cX7_findPlaces 146 = .ok (.iload 6, 2) := by decide +kernel
theorem dX7_findPlaces_148 : decode cX7_findPlaces 148 = .ok (.iconst 2, 1) := by decide +kernel
theorem dX7_findPlaces_149 : decode cX7_findPlaces 149 = .ok (.if_icmp .ne 8, 3) := by decide +kernel
theorem dX7_findPlaces_152 : decode cX7_findPlaces 152 = .ok (.iload 7, 2) := by decide +kernel
theorem dX7_findPlaces_154 : decode cX7_findPlaces 154 = .ok (.goto 43, 3) := by decide +kernel
theorem dX7_findPlaces_157 : decode cX7_findPlaces 157 = .ok (.iload 6, 2) := by decide +kernel
theorem dX7_findPlaces_159 : decode cX7_findPlaces 159 = .ok (.iconst 3, 1) := by decide +kernel
theorem dX7_findPlaces_160 : decode cX7_findPlaces 160 = .ok (.if_icmp .ne 12, 3) := by decide +kernel
theorem dX7_findPlaces_163 : decode cX7_findPlaces 163 = .ok (.iload 7, 2) := by decide +kernel
theorem dX7_findPlaces_165 : decode cX7_findPlaces 165 = .ok (.iconst 2, 1) := by decide +kernel
theorem dX7_findPlaces_166 : decode cX7_findPlaces 166 = .ok (.invokestatic 219, 3) := by decide +kernel
theorem dX7_findPlaces_169 : decode cX7_findPlaces 169 = .ok (.goto 28, 3) := by decide +kernel
theorem dX7_findPlaces_172 : decode cX7_findPlaces 172 = .ok (.iload 6, 2) := by decide +kernel
theorem dX7_findPlaces_174 : decode cX7_findPlaces 174 = .ok (.iconst 4, 1) := by decide +kernel
theorem dX7_findPlaces_175 : decode cX7_findPlaces 175 = .ok (.if_icmp .ne 21, 3) := by decide +kernel
theorem dX7_findPlaces_178 : decode cX7_findPlaces 178 = .ok (.aload_n 0, 1) := by decide +kernel
theorem dX7_findPlaces_179 : decode cX7_findPlaces 179 = .ok (.getfield 79, 3) := by decide +kernel
theorem dX7_findPlaces_182 : decode cX7_findPlaces 182 = .ok (.iload_n 1, 1) := by decide +kernel
theorem dX7_findPlaces_183 : decode cX7_findPlaces 183 = .ok (.iaload, 1) := by decide +kernel
theorem dX7_findPlaces_184 : decode cX7_findPlaces 184 = .ok (.aload_n 0, 1) := by decide +kernel
theorem dX7_findPlaces_185 : decode cX7_findPlaces 185 = .ok (.iload 5, 2) := by decide +kernel
theorem dX7_findPlaces_187 : decode cX7_findPlaces 187 = .ok (.bipush 6, 2) := by decide +kernel
theorem dX7_findPlaces_189 : decode cX7_findPlaces 189 = .ok (.invokevirtual 145, 3) := by decide +kernel
theorem dX7_findPlaces_192 : decode cX7_findPlaces 192 = .ok (.isub, 1) := by decide +kernel
theorem dX7_findPlaces_193 : decode cX7_findPlaces 193 = .ok (.goto 4, 3) := by decide +kernel
theorem dX7_findPlaces_196 : decode cX7_findPlaces 196 = .ok (.iconst 0, 1) := by decide +kernel
theorem dX7_findPlaces_197 : decode cX7_findPlaces 197 = .ok (.istore 8, 2) := by decide +kernel
theorem dX7_findPlaces_199 : decode cX7_findPlaces 199 = .ok (.aload_n 0, 1) := by decide +kernel
theorem dX7_findPlaces_200 : decode cX7_findPlaces 200 = .ok (.getfield 54, 3) := by decide +kernel
theorem dX7_findPlaces_203 : decode cX7_findPlaces 203 = .ok (.iload 4, 2) := by decide +kernel
theorem dX7_findPlaces_205 : decode cX7_findPlaces 205 = .ok (.aload_n 0, 1) := by decide +kernel
theorem dX7_findPlaces_206 : decode cX7_findPlaces 206 = .ok (.getfield 85, 3) := by decide +kernel
theorem dX7_findPlaces_209 : decode cX7_findPlaces 209 = .ok (.iload_n 1, 1) := by decide +kernel
theorem dX7_findPlaces_210 : decode cX7_findPlaces 210 = .ok (.iaload, 1) := by decide +kernel
theorem dX7_findPlaces_211 : decode cX7_findPlaces 211 = .ok (.iload 8, 2) := by decide +kernel
theorem dX7_findPlaces_213 : decode cX7_findPlaces 213 = .ok (.iadd, 1) := by decide +kernel
theorem dX7_findPlaces_214 : decode cX7_findPlaces 214 = .ok (.iastore, 1) := by decide +kernel
theorem dX7_findPlaces_215 : decode cX7_findPlaces 215 = .ok (.aload_n 0, 1) := by decide +kernel
theorem dX7_findPlaces_216 : decode cX7_findPlaces 216 = .ok (.getfield 9, 3) := by decide +kernel
theorem dX7_findPlaces_219 : decode cX7_findPlaces 219 = .ok (.iconst 4, 1) := by decide +kernel
theorem dX7_findPlaces_220 : decode cX7_findPlaces 220 = .ok (.iaload, 1) := by decide +kernel
theorem dX7_findPlaces_221 : decode cX7_findPlaces 221 = .ok (.iconst 2, 1) := by decide +kernel
theorem dX7_findPlaces_222 : decode cX7_findPlaces 222 = .ok (.irem, 1) := by decide +kernel
theorem dX7_findPlaces_223 : decode cX7_findPlaces 223 = .ok (.iconst 1, 1) := by decide +kernel
theorem dX7_findPlaces_224 : decode cX7_findPlaces 224 = .ok (.if_icmp .ne 32, 3) := by decide +kernel
theorem dX7_findPlaces_227 : decode cX7_findPlaces 227 = .ok (.aload_n 0, 1) := by decide +kernel
theorem dX7_findPlaces_228 : decode cX7_findPlaces 228 = .ok (.getfield 51, 3) := by decide +kernel
theorem dX7_findPlaces_231 : decode cX7_findPlaces 231 = .ok (.iload 4, 2) := by decide +kernel
theorem dX7_findPlaces_233 : decode cX7_findPlaces 233 = .ok (.aload_n 0, 1) := by decide +kernel
theorem dX7_findPlaces_234 : decode cX7_findPlaces 234 = .ok (.getfield 9, 3) := by decide +kernel
theorem dX7_findPlaces_237 : decode cX7_findPlaces 237 = .ok (.iconst 0, 1) := by decide +kernel
theorem dX7_findPlaces_238 : decode cX7_findPlaces 238 = .ok (.iaload, 1) := by decide +kernel
theorem dX7_findPlaces_239 : decode cX7_findPlaces 239 = .ok (.aload_n 0, 1) := by decide +kernel
theorem dX7_findPlaces_240 : decode cX7_findPlaces 240 = .ok (.getfield 51, 3) := by decide +kernel
theorem dX7_findPlaces_243 : decode cX7_findPlaces 243 = .ok (.iload 4, 2) := by decide +kernel
theorem dX7_findPlaces_245 : decode cX7_findPlaces 245 = .ok (.iaload, 1) := by decide +kernel
theorem dX7_findPlaces_246 : decode cX7_findPlaces 246 = .ok (.isub, 1) := by decide +kernel
theorem dX7_findPlaces_247 : decode cX7_findPlaces 247 = .ok (.aload_n 0, 1) := by decide +kernel
theorem dX7_findPlaces_248 : decode cX7_findPlaces 248 = .ok (.getfield 42, 3) := by decide +kernel
theorem dX7_findPlaces_251 : decode cX7_findPlaces 251 = .ok (.iload 4, 2) := by decide +kernel
theorem dX7_findPlaces_253 : decode cX7_findPlaces 253 = .ok (.iaload, 1) := by decide +kernel
theorem dX7_findPlaces_254 : decode cX7_findPlaces 254 = .ok (.isub, 1) := by decide +kernel
theorem dX7_findPlaces_255 : decode cX7_findPlaces 255 = .ok (.iastore, 1) := by decide +kernel
theorem dX7_findPlaces_256 : decode cX7_findPlaces 256 = .ok (.aload_n 0, 1) := by decide +kernel
theorem dX7_findPlaces_257 : decode cX7_findPlaces 257 = .ok (.getfield 9, 3) := by decide +kernel
theorem dX7_findPlaces_260 : decode cX7_findPlaces 260 = .ok (.iconst 5, 1) := by decide +kernel
theorem dX7_findPlaces_261 : decode cX7_findPlaces 261 = .ok (.iaload, 1) := by decide +kernel
theorem dX7_findPlaces_262 : decode cX7_findPlaces 262 = .ok (.iconst 2, 1) := by decide +kernel
theorem dX7_findPlaces_263 : decode cX7_findPlaces 263 = .ok (.if_icmp .ne 30, 3) := by decide +kernel
theorem dX7_findPlaces_266 : decode cX7_findPlaces 266 = .ok (.aload_n 0, 1) := by decide +kernel
theorem dX7_findPlaces_267 : decode cX7_findPlaces 267 = .ok (.getfield 54, 3) := by decide +kernel
theorem dX7_findPlaces_270 : decode cX7_findPlaces 270 = .ok (.iload 4, 2) := by decide +kernel
theorem dX7_findPlaces_272 : decode cX7_findPlaces 272 = .ok (.aload_n 0, 1) := by decide +kernel
theorem dX7_findPlaces_273 : decode cX7_findPlaces 273 = .ok (.getfield 216, 3) := by decide +kernel
theorem dX7_findPlaces_276 : decode cX7_findPlaces 276 = .ok (.aload_n 0, 1) := by decide +kernel
theorem dX7_findPlaces_277 : decode cX7_findPlaces 277 = .ok (.getfield 54, 3) := by decide +kernel
theorem dX7_findPlaces_280 : decode cX7_findPlaces 280 = .ok (.iload 4, 2) := by decide +kernel
theorem dX7_findPlaces_282 : decode cX7_findPlaces 282 = .ok (.iaload, 1) := by decide +kernel
theorem dX7_findPlaces_283 : decode cX7_findPlaces 283 = .ok (.isub, 1) := by decide +kernel
theorem dX7_findPlaces_284 : decode cX7_findPlaces 284 = .ok (.aload_n 0, 1) := by decide +kernel
theorem dX7_findPlaces_285 : decode cX7_findPlaces 285 = .ok (.getfield 48, 3) := by decide +kernel
theorem dX7_findPlaces_288 : decode cX7_findPlaces 288 = .ok (.iload 4, 2) := by decide +kernel
theorem dX7_findPlaces_290 : decode cX7_findPlaces 290 = .ok (.iaload, 1) := by decide +kernel
theorem dX7_findPlaces_291 : decode cX7_findPlaces 291 = .ok (.isub, 1) := by decide +kernel
theorem dX7_findPlaces_292 : decode cX7_findPlaces 292 = .ok (.iastore, 1) := by decide +kernel
theorem dX7_findPlaces_293 : decode cX7_findPlaces 293 = .ok (.iinc 3 1, 3) := by decide +kernel
theorem dX7_findPlaces_296 : decode cX7_findPlaces 296 = .ok (.goto (-292), 3) := by decide +kernel
theorem dX7_findPlaces_299 : decode cX7_findPlaces 299 = .ok (.return_, 1) := by decide +kernel
theorem dX7_findLayout_0 : decode cX7_findLayout 0 = .ok (.aload_n 0, 1) := by decide +kernel
theorem dX7_findLayout_1 : decode cX7_findLayout 1 = .ok (.invokevirtual 226, 3) := by decide +kernel
theorem dX7_findLayout_4 : decode cX7_findLayout 4 = .ok (.aload_n 0, 1) := by decide +kernel
theorem dX7_findLayout_5 : decode cX7_findLayout 5 = .ok (.aload_n 0, 1) := by decide +kernel
theorem dX7_findLayout_6 : decode cX7_findLayout 6 = .ok (.getfield 9, 3) := by decide +kernel
theorem dX7_findLayout_9 : decode cX7_findLayout 9 = .ok (.iconst 0, 1) := by decide +kernel
theorem dX7_findLayout_10 : decode cX7_findLayout 10 = .ok (.iaload, 1) := by decide +kernel
theorem dX7_findLayout_11 : decode cX7_findLayout 11 = .ok (.aload_n 0, 1) := by decide +kernel
theorem dX7_findLayout_12 : decode cX7_findLayout 12 = .ok (.getfield 9, 3) := by decide +kernel
theorem dX7_findLayout_15 : decode cX7_findLayout 15 = .ok (.iconst 5, 1) := by decide +kernel
theorem dX7_findLayout_16 : decode cX7_findLayout 16 = .ok (.iaload, 1) := by decide +kernel
theorem dX7_findLayout_17 : decode cX7_findLayout 17 = .ok (.ifCond .le 7, 3) := by decide +kernel
theorem dX7_findLayout_20 : decode cX7_findLayout 20 = .ok (.iconst 1, 1) := by decide +kernel
theorem dX7_findLayout_21 : decode cX7_findLayout 21 = .ok (.goto 4, 3) := by decide +kernel
theorem dX7_findLayout_24 : decode cX7_findLayout 24 = .ok (.iconst 0, 1) := by decide +kernel
theorem dX7_findLayout_25 : decode cX7_findLayout 25 = .ok (.invokevirtual 229, 3) := by decide +kernel
theorem dX7_findLayout_28 : decode cX7_findLayout 28 = .ok (.iconst 0, 1) := by decide +kernel
theorem dX7_findLayout_29 : decode cX7_findLayout 29 = .ok (.istore_n 1, 1) := by decide +kernel
theorem dX7_findLayout_30 : decode cX7_findLayout 30 = .ok (.iload_n 1, 1) := by decide +kernel
theorem dX7_findLayout_31 : decode cX7_findLayout 31 = .ok (.aload_n 0, 1) := by decide +kernel
theorem dX7_findLayout_32 : decode cX7_findLayout 32 = .ok (.getfield 178, 3) := by decide +kernel
theorem dX7_findLayout_35 : decode cX7_findLayout 35 = .ok (.if_icmp .ge 14, 3) := by decide +kernel
theorem dX7_findLayout_38 : decode cX7_findLayout 38 = .ok (.aload_n 0, 1) := by decide +kernel
theorem dX7_findLayout_39 : decode cX7_findLayout 39 = .ok (.iload_n 1, 1) := by decide +kernel
theorem dX7_findLayout_40 : decode cX7_findLayout 40 = .ok (.invokevirtual 232, 3) := by decide +kernel
theorem dX7_findLayout_43 : decode cX7_findLayout 43 = .ok (.iinc 1 1, 3) := by decide +kernel
theorem dX7_findLayout_46 : decode cX7_findLayout 46 = .ok (.goto (-16), 3) := by decide +kernel
theorem dX7_findLayout_49 : decode cX7_findLayout 49 = .ok (.aload_n 0, 1) := by decide +kernel
theorem dX7_findLayout_50 : decode cX7_findLayout 50 = .ok (.invokevirtual 235, 3) := by decide +kernel
theorem dX7_findLayout_53 : decode cX7_findLayout 53 = .ok (.aload_n 0, 1) := by decide +kernel
theorem dX7_findLayout_54 : decode cX7_findLayout 54 = .ok (.invokevirtual 212, 3) := by decide +kernel
theorem dX7_findLayout_57 : decode cX7_findLayout 57 = .ok (.istore_n 1, 1) := by decide +kernel
theorem dX7_findLayout_58 : decode cX7_findLayout 58 = .ok (.iconst 0, 1) := by decide +kernel
theorem dX7_findLayout_59 : decode cX7_findLayout 59 = .ok (.istore_n 2, 1) := by decide +kernel
theorem dX7_findLayout_60 : decode cX7_findLayout 60 = .ok (.iconst 0, 1) := by decide +kernel
theorem dX7_findLayout_61 : decode cX7_findLayout 61 = .ok (.istore_n 3, 1) := by decide +kernel
theorem dX7_findLayout_62 : decode cX7_findLayout 62 = .ok (.iload_n 3, 1) := by decide +kernel
theorem dX7_findLayout_63 : decode cX7_findLayout 63 = .ok (.aload_n 0, 1) := by decide +kernel
theorem dX7_findLayout_64 : decode cX7_findLayout 64 = .ok (.getfield 178, 3) := by decide +kernel
theorem dX7_findLayout_67 : decode cX7_findLayout 67 = .ok (.if_icmp .ge 65, 3) := by decide +kernel
theorem dX7_findLayout_70 : decode cX7_findLayout 70 = .ok (.aload_n 0, 1) := by decide +kernel
theorem dX7_findLayout_71 : decode cX7_findLayout 71 = .ok (.getfield 85, 3) := by decide +kernel
theorem dX7_findLayout_74 : decode cX7_findLayout 74 = .ok (.iload_n 3, 1) := by decide +kernel
theorem dX7_findLayout_75 : decode cX7_findLayout 75 = .ok (.iload_n 2, 1) := by decide +kernel
theorem dX7_findLayout_76 : decode cX7_findLayout 76 = .ok (.aload_n 0, 1) := by decide +kernel
theorem dX7_findLayout_77 : decode cX7_findLayout 77 = .ok (.getfield 9, 3) := by decide +kernel
theorem dX7_findLayout_80 : decode cX7_findLayout 80 = .ok (.bipush 8, 2) := by decide +kernel
theorem dX7_findLayout_82 : decode cX7_findLayout 82 = .ok (.iaload, 1) := by decide +kernel
theorem dX7_findLayout_83 : decode cX7_findLayout 83 = .ok (.ifCond .ne 7, 3) := by decide +kernel
theorem dX7_findLayout_86 : decode cX7_findLayout 86 = .ok (.iconst 0, 1) := by decide +kernel
theorem dX7_findLayout_87 : decode cX7_findLayout 87 = .ok (.goto 12, 3) := by decide +kernel
theorem dX7_findLayout_90 : decode cX7_findLayout 90 = .ok (.aload_n 0, 1) := by decide +kernel
theorem dX7_findLayout_91 : decode cX7_findLayout 91 = .ok (.getfield 9, 3) := by decide +kernel
theorem dX7_findLayout_94 : decode cX7_findLayout 94 = .ok (.bipush 8, 2) := by decide +kernel
theorem dX7_findLayout_96 : decode cX7_findLayout 96 = .ok (.iaload, 1) := by decide +kernel
theorem dX7_findLayout_97 : decode cX7_findLayout 97 = .ok (.iconst 1, 1) := by decide +kernel
theorem dX7_findLayout_98 : decode cX7_findLayout 98 = .ok (.isub, 1) := by decide +kernel
theorem dX7_findLayout_99 : decode cX7_findLayout 99 = .ok (.iload_n 1, 1) := by decide +kernel
theorem dX7_findLayout_100 : decode cX7_findLayout 100 = .ok (.iload_n 3, 1) := by decide +kernel
theorem dX7_findLayout_101 : decode cX7_findLayout 101 = .ok (.aload_n 0, 1) := by decide +kernel
theorem dX7_findLayout_102 : decode cX7_findLayout 102 = .ok (.getfield 178, 3) := by decide +kernel
theorem dX7_findLayout_105 : decode cX7_findLayout 105 = .ok (.invokestatic 222, 3) := by decide +kernel
theorem dX7_findLayout_108 : decode cX7_findLayout 108 = .ok (.iadd, 1) := by decide +kernel
theorem dX7_findLayout_109 : decode cX7_findLayout 109 = .ok (.iastore, 1) := by decide +kernel
theorem dX7_findLayout_110 : decode cX7_findLayout 110 = .ok (.iload_n 2, 1) := by decide +kernel
theorem dX7_findLayout_111 : decode cX7_findLayout 111 = .ok (.aload_n 0, 1) := by decide +kernel
theorem dX7_findLayout_112 : decode cX7_findLayout 112 = .ok (.getfield 76, 3) := by decide +kernel
theorem dX7_findLayout_115 : decode cX7_findLayout 115 = .ok (.iload_n 3, 1) := by decide +kernel
theorem dX7_findLayout_116 : decode cX7_findLayout 116 = .ok (.iaload, 1) := by decide +kernel
theorem dX7_findLayout_117 : decode cX7_findLayout 117 = .ok (.aload_n 0, 1) := by decide +kernel
theorem dX7_findLayout_118 : decode cX7_findLayout 118 = .ok (.getfield 9, 3) := by decide +kernel
theorem dX7_findLayout_121 : decode cX7_findLayout 121 = .ok (.iconst 3, 1) := by decide +kernel
theorem dX7_findLayout_122 : decode cX7_findLayout 122 = .ok (.iaload, 1) := by decide +kernel
theorem dX7_findLayout_123 : decode cX7_findLayout 123 = .ok (.iadd, 1) := by decide +kernel
theorem dX7_findLayout_124 : decode cX7_findLayout 124 = .ok (.iadd, 1) := by decide +kernel
theorem dX7_findLayout_125 : decode cX7_findLayout 125 = .ok (.istore_n 2, 1) := by decide +kernel
theorem dX7_findLayout_126 : decode cX7_findLayout 126 = .ok (.iinc 3 1, 3) := by decide +kernel
theorem dX7_findLayout_129 : decode cX7_findLayout 129 = .ok (.goto (-67), 3) := by decide +kernel
theorem dX7_findLayout_132 : decode cX7_findLayout 132 = .ok (.iconst 0, 1) := by decide +kernel
theorem dX7_findLayout_133 : decode cX7_findLayout 133 = .ok (.istore_n 3, 1) := by decide +kernel
theorem dX7_findLayout_134 : decode cX7_findLayout 134 = .ok (.iload_n 3, 1) := by decide +kernel
theorem dX7_findLayout_135 : decode cX7_findLayout 135 = .ok (.aload_n 0, 1) := by decide +kernel
theorem dX7_findLayout_136 : decode cX7_findLayout 136 = .ok (.getfield 178, 3) := by decide +kernel
theorem dX7_findLayout_139 : decode cX7_findLayout 139 = .ok (.if_icmp .ge 14, 3) := by decide +kernel
theorem dX7_findLayout_142 : decode cX7_findLayout 142 = .ok (.aload_n 0, 1) := by decide +kernel
theorem dX7_findLayout_143 : decode cX7_findLayout 143 = .ok (.iload_n 3, 1) := by decide +kernel
theorem dX7_findLayout_144 : decode cX7_findLayout 144 = .ok (.invokevirtual 238, 3) := by decide +kernel
theorem dX7_findLayout_147 : decode cX7_findLayout 147 = .ok (.iinc 3 1, 3) := by decide +kernel
theorem dX7_findLayout_150 : decode cX7_findLayout 150 = .ok (.goto (-16), 3) := by decide +kernel
theorem dX7_findLayout_153 : decode cX7_findLayout 153 = .ok (.return_, 1) := by decide +kernel
theorem dX7_lines_0 : decode cX7_lines 0 = .ok (.aload_n 0, 1) := by decide +kernel
theorem dX7_lines_1 : decode cX7_lines 1 = .ok (.iconst 0, 1) := by decide +kernel
theorem dX7_lines_2 : decode cX7_lines 2 = .ok (.putfield 98, 3) := by decide +kernel
theorem dX7_lines_5 : decode cX7_lines 5 = .ok (.aload_n 0, 1) := by decide +kernel
theorem dX7_lines_6 : decode cX7_lines 6 = .ok (.invokevirtual 241, 3) := by decide +kernel
theorem dX7_lines_9 : decode cX7_lines 9 = .ok (.aload_n 0, 1) := by decide +kernel
theorem dX7_lines_10 : decode cX7_lines 10 = .ok (.getfield 178, 3) := by decide +kernel
theorem dX7_lines_13 : decode cX7_lines 13 = .ok (.ireturn, 1) := by decide +kernel
theorem dX7_lineOf_0 : decode cX7_lineOf 0 = .ok (.aload_n 0, 1) := by decide +kernel
theorem dX7_lineOf_1 : decode cX7_lineOf 1 = .ok (.iload_n 1, 1) := by decide +kernel
theorem dX7_lineOf_2 : decode cX7_lineOf 2 = .ok (.invokevirtual 133, 3) := by decide +kernel
theorem dX7_lineOf_5 : decode cX7_lineOf 5 = .ok (.ifCond .ne 9, 3) := by decide +kernel
theorem dX7_lineOf_8 : decode cX7_lineOf 8 = .ok (.aload_n 0, 1) := by decide +kernel
theorem dX7_lineOf_9 : decode cX7_lineOf 9 = .ok (.iconst 1, 1) := by decide +kernel
theorem dX7_lineOf_10 : decode cX7_lineOf 10 = .ok (.invokevirtual 111, 3) := by decide +kernel
theorem dX7_lineOf_13 : decode cX7_lineOf 13 = .ok (.ireturn, 1) := by decide +kernel
theorem dX7_lineOf_14 : decode cX7_lineOf 14 = .ok (.aload_n 0, 1) := by decide +kernel
theorem dX7_lineOf_15 : decode cX7_lineOf 15 = .ok (.iconst 0, 1) := by decide +kernel
theorem dX7_lineOf_16 : decode cX7_lineOf 16 = .ok (.putfield 98, 3) := by decide +kernel
theorem dX7_lineOf_19 : decode cX7_lineOf 19 = .ok (.aload_n 0, 1) := by decide +kernel
theorem dX7_lineOf_20 : decode cX7_lineOf 20 = .ok (.invokevirtual 241, 3) := by decide +kernel
theorem dX7_lineOf_23 : decode cX7_lineOf 23 = .ok (.aload_n 0, 1) := by decide +kernel
theorem dX7_lineOf_24 : decode cX7_lineOf 24 = .ok (.getfield 45, 3) := by decide +kernel
theorem dX7_lineOf_27 : decode cX7_lineOf 27 = .ok (.aload_n 0, 1) := by decide +kernel
theorem dX7_lineOf_28 : decode cX7_lineOf 28 = .ok (.getfield 57, 3) := by decide +kernel
theorem dX7_lineOf_31 : decode cX7_lineOf 31 = .ok (.iload_n 1, 1) := by decide +kernel
theorem dX7_lineOf_32 : decode cX7_lineOf 32 = .ok (.iaload, 1) := by decide +kernel
theorem dX7_lineOf_33 : decode cX7_lineOf 33 = .ok (.iaload, 1) := by decide +kernel
theorem dX7_lineOf_34 : decode cX7_lineOf 34 = .ok (.ireturn, 1) := by decide +kernel
theorem dX7_itemAt_0 : decode cX7_itemAt 0 = .ok (.aload_n 0, 1) := by decide +kernel
theorem dX7_itemAt_1 : decode cX7_itemAt 1 = .ok (.iload_n 1, 1) := by decide +kernel
theorem dX7_itemAt_2 : decode cX7_itemAt 2 = .ok (.invokevirtual 133, 3) := by decide +kernel
theorem dX7_itemAt_5 : decode cX7_itemAt 5 = .ok (.ifCond .ne 9, 3) := by decide +kernel
theorem dX7_itemAt_8 : decode cX7_itemAt 8 = .ok (.aload_n 0, 1) := by decide +kernel
theorem dX7_itemAt_9 : decode cX7_itemAt 9 = .ok (.iconst 1, 1) := by decide +kernel
theorem dX7_itemAt_10 : decode cX7_itemAt 10 = .ok (.invokevirtual 111, 3) := by decide +kernel
theorem dX7_itemAt_13 : decode cX7_itemAt 13 = .ok (.ireturn, 1) := by decide +kernel
theorem dX7_itemAt_14 : decode cX7_itemAt 14 = .ok (.aload_n 0, 1) := by decide +kernel
theorem dX7_itemAt_15 : decode cX7_itemAt 15 = .ok (.iconst 0, 1) := by decide +kernel
theorem dX7_itemAt_16 : decode cX7_itemAt 16 = .ok (.putfield 98, 3) := by decide +kernel
theorem dX7_itemAt_19 : decode cX7_itemAt 19 = .ok (.aload_n 0, 1) := by decide +kernel
theorem dX7_itemAt_20 : decode cX7_itemAt 20 = .ok (.invokevirtual 226, 3) := by decide +kernel
theorem dX7_itemAt_23 : decode cX7_itemAt 23 = .ok (.aload_n 0, 1) := by decide +kernel
theorem dX7_itemAt_24 : decode cX7_itemAt 24 = .ok (.getfield 39, 3) := by decide +kernel
theorem dX7_itemAt_27 : decode cX7_itemAt 27 = .ok (.iload_n 1, 1) := by decide +kernel
theorem dX7_itemAt_28 : decode cX7_itemAt 28 = .ok (.iaload, 1) := by decide +kernel
theorem dX7_itemAt_29 : decode cX7_itemAt 29 = .ok (.ireturn, 1) := by decide +kernel
theorem dX7_hypotheticalSize_0 : decode cX7_hypotheticalSize 0 = .ok (.aload_n 0, 1) := by decide +kernel
theorem dX7_hypotheticalSize_1 : decode cX7_hypotheticalSize 1 = .ok (.iload_n 1, 1) := by decide +kernel
theorem dX7_hypotheticalSize_2 : decode cX7_hypotheticalSize 2 = .ok (.invokevirtual 133, 3) := by decide +kernel
theorem dX7_hypotheticalSize_5 : decode cX7_hypotheticalSize 5 = .ok (.ifCond .ne 9, 3) := by decide +kernel
theorem dX7_hypotheticalSize_8 : decode cX7_hypotheticalSize 8 = .ok (.aload_n 0, 1) := by decide +kernel
theorem dX7_hypotheticalSize_9 : decode cX7_hypotheticalSize 9 = .ok (.iconst 1, 1) := by decide +kernel
theorem dX7_hypotheticalSize_10 : decode cX7_hypotheticalSize 10 = .ok (.invokevirtual 111, 3) := by decide +kernel
theorem dX7_hypotheticalSize_13 : decode cX7_hypotheticalSize 13 = .ok (.ireturn, 1) := by decide +kernel
theorem dX7_hypotheticalSize_14 : decode cX7_hypotheticalSize 14 = .ok (.aload_n 0, 1) := by decide +kernel
theorem dX7_hypotheticalSize_15 : decode cX7_hypotheticalSize 15 = .ok (.iconst 0, 1) := by decide +kernel
theorem dX7_hypotheticalSize_16 : decode cX7_hypotheticalSize 16 = .ok (.putfield 98, 3) := by decide +kernel
theorem dX7_hypotheticalSize_19 : decode cX7_hypotheticalSize 19 = .ok (.aload_n 0, 1) := by decide +kernel
theorem dX7_hypotheticalSize_20 : decode cX7_hypotheticalSize 20 = .ok (.iload_n 1, 1) := by decide +kernel
theorem dX7_hypotheticalSize_21 : decode cX7_hypotheticalSize 21 = .ok (.invokevirtual 181, 3) := by decide +kernel
theorem dX7_hypotheticalSize_24 : decode cX7_hypotheticalSize 24 = .ok (.ireturn, 1) := by decide +kernel
theorem dX7_coordinate_0 : decode cX7_coordinate 0 = .ok (.aload_n 0, 1) := by decide +kernel
theorem dX7_coordinate_1 : decode cX7_coordinate 1 = .ok (.getfield 9, 3) := by decide +kernel
theorem dX7_coordinate_4 : decode cX7_coordinate 4 = .ok (.iconst 4, 1) := by decide +kernel
theorem dX7_coordinate_5 : decode cX7_coordinate 5 = .ok (.iaload, 1) := by decide +kernel
theorem dX7_coordinate_6 : decode cX7_coordinate 6 = .ok (.iconst 2, 1) := by decide +kernel
theorem dX7_coordinate_7 : decode cX7_coordinate 7 = .ok (.if_icmp .ge 7, 3) := by decide +kernel
theorem dX7_coordinate_10 : decode cX7_coordinate 10 = .ok (.iconst 1, 1) := by decide +kernel
theorem dX7_coordinate_11 : decode cX7_coordinate 11 = .ok (.goto 4, 3) := by decide +kernel
theorem dX7_coordinate_14 : decode cX7_coordinate 14 = .ok (.iconst 0, 1) := by decide +kernel
theorem dX7_coordinate_15 : decode cX7_coordinate 15 = .ok (.iload_n 2, 1) := by decide +kernel
theorem dX7_coordinate_16 : decode cX7_coordinate 16 = .ok (.iconst 2, 1) := by decide +kernel
theorem dX7_coordinate_17 : decode cX7_coordinate 17 = .ok (.irem, 1) := by decide +kernel
theorem dX7_coordinate_18 : decode cX7_coordinate 18 = .ok (.ifCond .ne 7, 3) := by decide +kernel
theorem dX7_coordinate_21 : decode cX7_coordinate 21 = .ok (.iconst 1, 1) := by decide +kernel
theorem dX7_coordinate_22 : decode cX7_coordinate 22 = .ok (.goto 4, 3) := by decide +kernel
theorem dX7_coordinate_25 : decode cX7_coordinate 25 = .ok (.iconst 0, 1) := by decide +kernel
theorem dX7_coordinate_26 : decode cX7_coordinate 26 = .ok (.if_icmp .ne 7, 3) := by decide +kernel
theorem dX7_coordinate_29 : decode cX7_coordinate 29 = .ok (.iconst 1, 1) := by decide +kernel
theorem dX7_coordinate_30 : decode cX7_coordinate 30 = .ok (.goto 4, 3) := by decide +kernel
theorem dX7_coordinate_33 : decode cX7_coordinate 33 = .ok (.iconst 0, 1) := by decide +kernel
theorem dX7_coordinate_34 : decode cX7_coordinate 34 = .ok (.istore_n 3, 1) := by decide +kernel
theorem dX7_coordinate_35 : decode cX7_coordinate 35 = .ok (.iload_n 2, 1) := by decide +kernel
theorem dX7_coordinate_36 : decode cX7_coordinate 36 = .ok (.iconst 2, 1) := by decide +kernel
theorem dX7_coordinate_37 : decode cX7_coordinate 37 = .ok (.if_icmp .ge 23, 3) := by decide +kernel
theorem dX7_coordinate_40 : decode cX7_coordinate 40 = .ok (.iload_n 3, 1) := by decide +kernel
theorem dX7_coordinate_41 : decode cX7_coordinate 41 = .ok (.ifCond .eq 12, 3) := by decide +kernel
theorem dX7_coordinate_44 : decode cX7_coordinate 44 = .ok (.aload_n 0, 1) := by decide +kernel
theorem dX7_coordinate_45 : decode cX7_coordinate 45 = .ok (.getfield 51, 3) := by decide +kernel
theorem dX7_coordinate_48 : decode cX7_coordinate 48 = .ok (.iload_n 1, 1) := by decide +kernel
theorem dX7_coordinate_49 : decode cX7_coordinate 49 = .ok (.iaload, 1) := by decide +kernel
theorem dX7_coordinate_50 : decode cX7_coordinate 50 = .ok (.goto 9, 3) := by decide +kernel
theorem dX7_coordinate_53 : decode cX7_coordinate 53 = .ok (.aload_n 0, 1) := by decide +kernel
theorem dX7_coordinate_54 : decode cX7_coordinate 54 = .ok (.getfield 54, 3) := by decide +kernel
theorem dX7_coordinate_57 : decode cX7_coordinate 57 = .ok (.iload_n 1, 1) := by decide +kernel
theorem dX7_coordinate_58 : decode cX7_coordinate 58 = .ok (.iaload, 1) := by decide +kernel
theorem dX7_coordinate_59 : decode cX7_coordinate 59 = .ok (.ireturn, 1) := by decide +kernel
theorem dX7_coordinate_60 : decode cX7_coordinate 60 = .ok (.iload_n 3, 1) := by decide +kernel
theorem dX7_coordinate_61 : decode cX7_coordinate 61 = .ok (.ifCond .eq 12, 3) := by decide +kernel
theorem dX7_coordinate_64 : decode cX7_coordinate 64 = .ok (.aload_n 0, 1) := by decide +kernel
theorem dX7_coordinate_65 : decode cX7_coordinate 65 = .ok (.getfield 42, 3) := by decide +kernel
theorem dX7_coordinate_68 : decode cX7_coordinate 68 = .ok (.iload_n 1, 1) := by decide +kernel
theorem dX7_coordinate_69 : decode cX7_coordinate 69 = .ok (.iaload, 1) := by decide +kernel
theorem dX7_coordinate_70 : decode cX7_coordinate 70 = .ok (.goto 9, 3) := by decide +kernel
theorem dX7_coordinate_73 : decode cX7_coordinate 73 = .ok (.aload_n 0, 1) := by decide +kernel
theorem dX7_coordinate_74 : decode cX7_coordinate 74 = .ok (.getfield 48, 3) := by decide +kernel
theorem dX7_coordinate_77 : decode cX7_coordinate 77 = .ok (.iload_n 1, 1) := by decide +kernel
theorem dX7_coordinate_78 : decode cX7_coordinate 78 = .ok (.iaload, 1) := by decide +kernel
theorem dX7_coordinate_79 : decode cX7_coordinate 79 = .ok (.ireturn, 1) := by decide +kernel
theorem dX7_box_0 : decode cX7_box 0 = .ok (.aload_n 0, 1) := by decide +kernel
theorem dX7_box_1 : decode cX7_box 1 = .ok (.iload_n 1, 1) := by decide +kernel
theorem dX7_box_2 : decode cX7_box 2 = .ok (.invokevirtual 133, 3) := by decide +kernel
theorem dX7_box_5 : decode cX7_box 5 = .ok (.ifCond .eq 15, 3) := by decide +kernel
theorem dX7_box_8 : decode cX7_box 8 = .ok (.iload_n 2, 1) := by decide +kernel
theorem dX7_box_9 : decode cX7_box 9 = .ok (.i2l, 1) := by decide +kernel
theorem dX7_box_10 : decode cX7_box 10 = .ok (.lconst 0, 1) := by decide +kernel
theorem dX7_box_11 : decode cX7_box 11 = .ok (.ldc2_w 244, 3) := by decide +kernel
theorem dX7_box_14 : decode cX7_box 14 = .ok (.invokestatic 103, 3) := by decide +kernel
theorem dX7_box_17 : decode cX7_box 17 = .ok (.ifCond .ne 9, 3) := by decide +kernel
theorem dX7_box_20 : decode cX7_box 20 = .ok (.aload_n 0, 1) := by decide +kernel
theorem dX7_box_21 : decode cX7_box 21 = .ok (.iconst 1, 1) := by decide +kernel
theorem dX7_box_22 : decode cX7_box 22 = .ok (.invokevirtual 111, 3) := by decide +kernel
theorem dX7_box_25 : decode cX7_box 25 = .ok (.ireturn, 1) := by decide +kernel
theorem dX7_box_26 : decode cX7_box 26 = .ok (.aload_n 0, 1) := by decide +kernel
theorem dX7_box_27 : decode cX7_box 27 = .ok (.iconst 0, 1) := by decide +kernel
theorem dX7_box_28 : decode cX7_box 28 = .ok (.putfield 98, 3) := by decide +kernel
theorem dX7_box_31 : decode cX7_box 31 = .ok (.aload_n 0, 1) := by decide +kernel
theorem dX7_box_32 : decode cX7_box 32 = .ok (.invokevirtual 241, 3) := by decide +kernel
theorem dX7_box_35 : decode cX7_box 35 = .ok (.aload_n 0, 1) := by decide +kernel
theorem dX7_box_36 : decode cX7_box 36 = .ok (.aload_n 0, 1) := by decide +kernel
theorem dX7_box_37 : decode cX7_box 37 = .ok (.getfield 57, 3) := by decide +kernel
theorem dX7_box_40 : decode cX7_box 40 = .ok (.iload_n 1, 1) := by decide +kernel
theorem dX7_box_41 : decode cX7_box 41 = .ok (.iaload, 1) := by decide +kernel
theorem dX7_box_42 : decode cX7_box 42 = .ok (.iload_n 2, 1) := by decide +kernel
theorem dX7_box_43 : decode cX7_box 43 = .ok (.invokevirtual 246, 3) := by decide +kernel
theorem dX7_box_46 : decode cX7_box 46 = .ok (.ireturn, 1) := by decide +kernel
theorem dX7_isLine_0 : decode cX7_isLine 0 = .ok (.aload_n 0, 1) := by decide +kernel
theorem dX7_isLine_1 : decode cX7_isLine 1 = .ok (.invokevirtual 241, 3) := by decide +kernel
theorem dX7_isLine_4 : decode cX7_isLine 4 = .ok (.aload_n 0, 1) := by decide +kernel
theorem dX7_isLine_5 : decode cX7_isLine 5 = .ok (.iload_n 1, 1) := by decide +kernel
theorem dX7_isLine_6 : decode cX7_isLine 6 = .ok (.ifCond .lt 15, 3) := by decide +kernel
theorem dX7_isLine_9 : decode cX7_isLine 9 = .ok (.iload_n 1, 1) := by decide +kernel
theorem dX7_isLine_10 : decode cX7_isLine 10 = .ok (.aload_n 0, 1) := by decide +kernel
theorem dX7_isLine_11 : decode cX7_isLine 11 = .ok (.getfield 178, 3) := by decide +kernel
theorem dX7_isLine_14 : decode cX7_isLine 14 = .ok (.if_icmp .ge 7, 3) := by decide +kernel
theorem dX7_isLine_17 : decode cX7_isLine 17 = .ok (.iconst 0, 1) := by decide +kernel
theorem dX7_isLine_18 : decode cX7_isLine 18 = .ok (.goto 4, 3) := by decide +kernel
theorem dX7_isLine_21 : decode cX7_isLine 21 = .ok (.iconst 1, 1) := by decide +kernel
theorem dX7_isLine_22 : decode cX7_isLine 22 = .ok (.putfield 98, 3) := by decide +kernel
theorem dX7_isLine_25 : decode cX7_isLine 25 = .ok (.aload_n 0, 1) := by decide +kernel
theorem dX7_isLine_26 : decode cX7_isLine 26 = .ok (.getfield 98, 3) := by decide +kernel
theorem dX7_isLine_29 : decode cX7_isLine 29 = .ok (.ifCond .ne 7, 3) := by decide +kernel
theorem dX7_isLine_32 : decode cX7_isLine 32 = .ok (.iconst 1, 1) := by decide +kernel
theorem dX7_isLine_33 : decode cX7_isLine 33 = .ok (.goto 4, 3) := by decide +kernel
theorem dX7_isLine_36 : decode cX7_isLine 36 = .ok (.iconst 0, 1) := by decide +kernel
theorem dX7_isLine_37 : decode cX7_isLine 37 = .ok (.ireturn, 1) := by decide +kernel
theorem dX7_rounds_0 : decode cX7_rounds 0 = .ok (.aload_n 0, 1) := by decide +kernel
theorem dX7_rounds_1 : decode cX7_rounds 1 = .ok (.iload_n 1, 1) := by decide +kernel
theorem dX7_rounds_2 : decode cX7_rounds 2 = .ok (.invokevirtual 249, 3) := by decide +kernel
theorem dX7_rounds_5 : decode cX7_rounds 5 = .ok (.ifCond .eq 12, 3) := by decide +kernel
theorem dX7_rounds_8 : decode cX7_rounds 8 = .ok (.aload_n 0, 1) := by decide +kernel
theorem dX7_rounds_9 : decode cX7_rounds 9 = .ok (.getfield 70, 3) := by decide +kernel
theorem dX7_rounds_12 : decode cX7_rounds 12 = .ok (.iload_n 1, 1) := by decide +kernel
theorem dX7_rounds_13 : decode cX7_rounds 13 = .ok (.iaload, 1) := by decide +kernel
theorem dX7_rounds_14 : decode cX7_rounds 14 = .ok (.goto 4, 3) := by decide +kernel
theorem dX7_rounds_17 : decode cX7_rounds 17 = .ok (.iconst 0, 1) := by decide +kernel
theorem dX7_rounds_18 : decode cX7_rounds 18 = .ok (.ireturn, 1) := by decide +kernel
theorem dX7_freeSpace_0 : decode cX7_freeSpace 0 = .ok (.aload_n 0, 1) := by decide +kernel
theorem dX7_freeSpace_1 : decode cX7_freeSpace 1 = .ok (.iload_n 1, 1) := by decide +kernel
theorem dX7_freeSpace_2 : decode cX7_freeSpace 2 = .ok (.invokevirtual 249, 3) := by decide +kernel
theorem dX7_freeSpace_5 : decode cX7_freeSpace 5 = .ok (.ifCond .eq 12, 3) := by decide +kernel
theorem dX7_freeSpace_8 : decode cX7_freeSpace 8 = .ok (.aload_n 0, 1) := by decide +kernel
theorem dX7_freeSpace_9 : decode cX7_freeSpace 9 = .ok (.getfield 73, 3) := by decide +kernel
theorem dX7_freeSpace_12 : decode cX7_freeSpace 12 = .ok (.iload_n 1, 1) := by decide +kernel
theorem dX7_freeSpace_13 : decode cX7_freeSpace 13 = .ok (.iaload, 1) := by decide +kernel
theorem dX7_freeSpace_14 : decode cX7_freeSpace 14 = .ok (.goto 4, 3) := by decide +kernel
theorem dX7_freeSpace_17 : decode cX7_freeSpace 17 = .ok (.iconst 0, 1) := by decide +kernel
theorem dX7_freeSpace_18 : decode cX7_freeSpace 18 = .ok (.ireturn, 1) := by decide +kernel
theorem dX7_lineCross_0 : decode cX7_lineCross 0 = .ok (.aload_n 0, 1) := by decide +kernel
theorem dX7_lineCross_1 : decode cX7_lineCross 1 = .ok (.iload_n 1, 1) := by decide +kernel
theorem dX7_lineCross_2 : decode cX7_lineCross 2 = .ok (.invokevirtual 249, 3) := by decide +kernel
theorem dX7_lineCross_5 : decode cX7_lineCross 5 = .ok (.ifCond .eq 12, 3) := by decide +kernel
theorem dX7_lineCross_8 : decode cX7_lineCross 8 = .ok (.aload_n 0, 1) := by decide +kernel
theorem dX7_lineCross_9 : decode cX7_lineCross 9 = .ok (.getfield 76, 3) := by decide +kernel
theorem dX7_lineCross_12 : decode cX7_lineCross 12 = .ok (.iload_n 1, 1) := by decide +kernel
theorem dX7_lineCross_13 : decode cX7_lineCross 13 = .ok (.iaload, 1) := by decide +kernel
theorem dX7_lineCross_14 : decode cX7_lineCross 14 = .ok (.goto 4, 3) := by decide +kernel
theorem dX7_lineCross_17 : decode cX7_lineCross 17 = .ok (.iconst 0, 1) := by decide +kernel
theorem dX7_lineCross_18 : decode cX7_lineCross 18 = .ok (.ireturn, 1) := by decide +kernel
theorem dX7_lineAscent_0 : decode cX7_lineAscent 0 = .ok (.aload_n 0, 1) := by decide +kernel
theorem dX7_lineAscent_1 : decode cX7_lineAscent 1 = .ok (.iload_n 1, 1) := by decide +kernel
theorem dX7_lineAscent_2 : decode cX7_lineAscent 2 = .ok (.invokevirtual 249, 3) := by decide +kernel
theorem dX7_lineAscent_5 : decode cX7_lineAscent 5 = .ok (.ifCond .eq 12, 3) := by decide +kernel
theorem dX7_lineAscent_8 : decode cX7_lineAscent 8 = .ok (.aload_n 0, 1) := by decide +kernel
theorem dX7_lineAscent_9 : decode cX7_lineAscent 9 = .ok (.getfield 79, 3) := by decide +kernel
theorem dX7_lineAscent_12 : decode cX7_lineAscent 12 = .ok (.iload_n 1, 1) := by decide +kernel
theorem dX7_lineAscent_13 : decode cX7_lineAscent 13 = .ok (.iaload, 1) := by decide +kernel
theorem dX7_lineAscent_14 : decode cX7_lineAscent 14 = .ok (.goto 4, 3) := by decide +kernel
theorem dX7_lineAscent_17 : decode cX7_lineAscent 17 = .ok (.iconst 0, 1) := by decide +kernel
theorem dX7_lineAscent_18 : decode cX7_lineAscent 18 = .ok (.ireturn, 1) := by decide +kernel
theorem dX7_crossExtent_0 : decode cX7_crossExtent 0 = .ok (.aload_n 0, 1) := by decide +kernel
theorem dX7_crossExtent_1 : decode cX7_crossExtent 1 = .ok (.iconst 0, 1) := by decide +kernel
theorem dX7_crossExtent_2 : decode cX7_crossExtent 2 = .ok (.putfield 98, 3) := by decide +kernel
theorem dX7_crossExtent_5 : decode cX7_crossExtent 5 = .ok (.aload_n 0, 1) := by decide +kernel
theorem dX7_crossExtent_6 : decode cX7_crossExtent 6 = .ok (.invokevirtual 241, 3) := by decide +kernel
theorem dX7_crossExtent_9 : decode cX7_crossExtent 9 = .ok (.aload_n 0, 1) := by decide +kernel
theorem dX7_crossExtent_10 : decode cX7_crossExtent 10 = .ok (.getfield 216, 3) := by decide +kernel
theorem dX7_crossExtent_13 : decode cX7_crossExtent 13 = .ok (.ireturn, 1) := by decide +kernel
theorem dX7_overflows_0 : decode cX7_overflows 0 = .ok (.aload_n 0, 1) := by decide +kernel
theorem dX7_overflows_1 : decode cX7_overflows 1 = .ok (.aload_n 0, 1) := by decide +kernel
theorem dX7_overflows_2 : decode cX7_overflows 2 = .ok (.iload_n 1, 1) := by decide +kernel
theorem dX7_overflows_3 : decode cX7_overflows 3 = .ok (.invokevirtual 133, 3) := by decide +kernel
theorem dX7_overflows_6 : decode cX7_overflows 6 = .ok (.ifCond .eq 7, 3) := by decide +kernel
theorem dX7_overflows_9 : decode cX7_overflows 9 = .ok (.iconst 0, 1) := by decide +kernel
theorem dX7_overflows_10 : decode cX7_overflows 10 = .ok (.goto 4, 3) := by decide +kernel
theorem dX7_overflows_13 : decode cX7_overflows 13 = .ok (.iconst 1, 1) := by decide +kernel
theorem dX7_overflows_14 : decode cX7_overflows 14 = .ok (.putfield 98, 3) := by decide +kernel
theorem dX7_overflows_17 : decode cX7_overflows 17 = .ok (.aload_n 0, 1) := by decide +kernel
theorem dX7_overflows_18 : decode cX7_overflows 18 = .ok (.getfield 98, 3) := by decide +kernel
theorem dX7_overflows_21 : decode cX7_overflows 21 = .ok (.ifCond .le 5, 3) := by decide +kernel
theorem dX7_overflows_24 : decode cX7_overflows 24 = .ok (.iconst 0, 1) := by decide +kernel
theorem dX7_overflows_25 : decode cX7_overflows 25 = .ok (.ireturn, 1) := by decide +kernel
theorem dX7_overflows_26 : decode cX7_overflows 26 = .ok (.aload_n 0, 1) := by decide +kernel
theorem dX7_overflows_27 : decode cX7_overflows 27 = .ok (.invokevirtual 241, 3) := by decide +kernel
theorem dX7_overflows_30 : decode cX7_overflows 30 = .ok (.aload_n 0, 1) := by decide +kernel
theorem dX7_overflows_31 : decode cX7_overflows 31 = .ok (.getfield 57, 3) := by decide +kernel
theorem dX7_overflows_34 : decode cX7_overflows 34 = .ok (.iload_n 1, 1) := by decide +kernel
theorem dX7_overflows_35 : decode cX7_overflows 35 = .ok (.iaload, 1) := by decide +kernel
theorem dX7_overflows_36 : decode cX7_overflows 36 = .ok (.istore_n 2, 1) := by decide +kernel
theorem dX7_overflows_37 : decode cX7_overflows 37 = .ok (.aload_n 0, 1) := by decide +kernel
theorem dX7_overflows_38 : decode cX7_overflows 38 = .ok (.getfield 51, 3) := by decide +kernel
theorem dX7_overflows_41 : decode cX7_overflows 41 = .ok (.iload_n 2, 1) := by decide +kernel
theorem dX7_overflows_42 : decode cX7_overflows 42 = .ok (.iaload, 1) := by decide +kernel
theorem dX7_overflows_43 : decode cX7_overflows 43 = .ok (.ifCond .lt 54, 3) := by decide +kernel
theorem dX7_overflows_46 : decode cX7_overflows 46 = .ok (.aload_n 0, 1) := by decide +kernel
theorem dX7_overflows_47 : decode cX7_overflows 47 = .ok (.getfield 51, 3) := by decide +kernel
theorem dX7_overflows_50 : decode cX7_overflows 50 = .ok (.iload_n 2, 1) := by decide +kernel
theorem dX7_overflows_51 : decode cX7_overflows 51 = .ok (.iaload, 1) := by decide +kernel
theorem dX7_overflows_52 : decode cX7_overflows 52 = .ok (.aload_n 0, 1) := by decide +kernel
theorem dX7_overflows_53 : decode cX7_overflows 53 = .ok (.getfield 42, 3) := by decide +kernel
theorem dX7_overflows_56 : decode cX7_overflows 56 = .ok (.iload_n 2, 1) := by decide +kernel
theorem dX7_overflows_57 : decode cX7_overflows 57 = .ok (.iaload, 1) := by decide +kernel
theorem dX7_overflows_58 : decode cX7_overflows 58 = .ok (.iadd, 1) := by decide +kernel
theorem dX7_overflows_59 : decode cX7_overflows 59 = .ok (.aload_n 0, 1) := by decide +kernel
theorem dX7_overflows_60 : decode cX7_overflows 60 = .ok (.getfield 9, 3) := by decide +kernel
theorem dX7_overflows_63 : decode cX7_overflows 63 = .ok (.iconst 0, 1) := by decide +kernel
theorem dX7_overflows_64 : decode cX7_overflows 64 = .ok (.iaload, 1) := by decide +kernel
theorem dX7_overflows_65 : decode cX7_overflows 65 = .ok (.if_icmp .gt 32, 3) := by decide +kernel
theorem dX7_overflows_68 : decode cX7_overflows 68 = .ok (.aload_n 0, 1) := by decide +kernel
theorem dX7_overflows_69 : decode cX7_overflows 69 = .ok (.getfield 54, 3) := by decide +kernel
theorem dX7_overflows_72 : decode cX7_overflows 72 = .ok (.iload_n 2, 1) := by decide +kernel
theorem dX7_overflows_73 : decode cX7_overflows 73 = .ok (.iaload, 1) := by decide +kernel
theorem dX7_overflows_74 : decode cX7_overflows 74 = .ok (.ifCond .lt 23, 3) := by decide +kernel
theorem dX7_overflows_77 : decode cX7_overflows 77 = .ok (.aload_n 0, 1) := by decide +kernel
theorem dX7_overflows_78 : decode cX7_overflows 78 = .ok (.getfield 54, 3) := by decide +kernel
theorem dX7_overflows_81 : decode cX7_overflows 81 = .ok (.iload_n 2, 1) := by decide +kernel
theorem dX7_overflows_82 : decode cX7_overflows 82 = .ok (.iaload, 1) := by decide +kernel
theorem dX7_overflows_83 : decode cX7_overflows 83 = .ok (.aload_n 0, 1) := by decide +kernel
theorem dX7_overflows_84 : decode cX7_overflows 84 = .ok (.getfield 48, 3) := by decide +kernel
theorem dX7_overflows_87 : decode cX7_overflows 87 = .ok (.iload_n 2, 1) := by decide +kernel
theorem dX7_overflows_88 : decode cX7_overflows 88 = .ok (.iaload, 1) := by decide +kernel
theorem dX7_overflows_89 : decode cX7_overflows 89 = .ok (.iadd, 1) := by decide +kernel
theorem dX7_overflows_90 : decode cX7_overflows 90 = .ok (.aload_n 0, 1) := by decide +kernel
theorem dX7_overflows_91 : decode cX7_overflows 91 = .ok (.getfield 216, 3) := by decide +kernel
theorem dX7_overflows_94 : decode cX7_overflows 94 = .ok (.if_icmp .le 7, 3) := by decide +kernel
theorem dX7_overflows_97 : decode cX7_overflows 97 = .ok (.iconst 1, 1) := by decide +kernel
theorem dX7_overflows_98 : decode cX7_overflows 98 = .ok (.goto 4, 3) := by decide +kernel
theorem dX7_overflows_101 : decode cX7_overflows 101 = .ok (.iconst 0, 1) := by decide +kernel
theorem dX7_overflows_102 : decode cX7_overflows 102 = .ok (.ireturn, 1) := by decide +kernel
theorem dX7_itemUnder_0 : decode cX7_itemUnder 0 = .ok (.aload_n 0, 1) := by decide +kernel
theorem dX7_itemUnder_1 : decode cX7_itemUnder 1 = .ok (.iconst 0, 1) := by decide +kernel
theorem dX7_itemUnder_2 : decode cX7_itemUnder 2 = .ok (.putfield 98, 3) := by decide +kernel
theorem dX7_itemUnder_5 : decode cX7_itemUnder 5 = .ok (.aload_n 0, 1) := by decide +kernel
theorem dX7_itemUnder_6 : decode cX7_itemUnder 6 = .ok (.invokevirtual 241, 3) := by decide +kernel
theorem dX7_itemUnder_9 : decode cX7_itemUnder 9 = .ok (.aload_n 0, 1) := by decide +kernel
theorem dX7_itemUnder_10 : decode cX7_itemUnder 10 = .ok (.getfield 124, 3) := by decide +kernel
theorem dX7_itemUnder_13 : decode cX7_itemUnder 13 = .ok (.iconst 1, 1) := by decide +kernel
theorem dX7_itemUnder_14 : decode cX7_itemUnder 14 = .ok (.isub, 1) := by decide +kernel
theorem dX7_itemUnder_15 : decode cX7_itemUnder 15 = .ok (.istore_n 3, 1) := by decide +kernel
theorem dX7_itemUnder_16 : decode cX7_itemUnder 16 = .ok (.iload_n 3, 1) := by decide +kernel
theorem dX7_itemUnder_17 : decode cX7_itemUnder 17 = .ok (.ifCond .lt 78, 3) := by decide +kernel
theorem dX7_itemUnder_20 : decode cX7_itemUnder 20 = .ok (.aload_n 0, 1) := by decide +kernel
theorem dX7_itemUnder_21 : decode cX7_itemUnder 21 = .ok (.iload_n 3, 1) := by decide +kernel
theorem dX7_itemUnder_22 : decode cX7_itemUnder 22 = .ok (.iconst 0, 1) := by decide +kernel
theorem dX7_itemUnder_23 : decode cX7_itemUnder 23 = .ok (.invokevirtual 246, 3) := by decide +kernel
theorem dX7_itemUnder_26 : decode cX7_itemUnder 26 = .ok (.istore 4, 2) := by decide +kernel
theorem dX7_itemUnder_28 : decode cX7_itemUnder 28 = .ok (.aload_n 0, 1) := by decide +kernel
theorem dX7_itemUnder_29 : decode cX7_itemUnder 29 = .ok (.iload_n 3, 1) := by decide +kernel
theorem dX7_itemUnder_30 : decode cX7_itemUnder 30 = .ok (.iconst 1, 1) := by decide +kernel
theorem dX7_itemUnder_31 : decode cX7_itemUnder 31 = .ok (.invokevirtual 246, 3) := by decide +kernel
theorem dX7_itemUnder_34 : decode cX7_itemUnder 34 = .ok (.istore 5, 2) := by decide +kernel
theorem dX7_itemUnder_36 : decode cX7_itemUnder 36 = .ok (.iload_n 1, 1) := by decide +kernel
theorem dX7_itemUnder_37 : decode cX7_itemUnder 37 = .ok (.i2l, 1) := by decide +kernel
theorem dX7_itemUnder_38 : decode cX7_itemUnder 38 = .ok (.iload 4, 2) := by decide +kernel
theorem dX7_itemUnder_40 : decode cX7_itemUnder 40 = .ok (.i2l, 1) := by decide +kernel
theorem dX7_itemUnder_41 : decode cX7_itemUnder 41 = .ok (.iload 4, 2) := by decide +kernel
theorem dX7_itemUnder_43 : decode cX7_itemUnder 43 = .ok (.aload_n 0, 1) := by decide +kernel
theorem dX7_itemUnder_44 : decode cX7_itemUnder 44 = .ok (.iload_n 3, 1) := by decide +kernel
theorem dX7_itemUnder_45 : decode cX7_itemUnder 45 = .ok (.iconst 2, 1) := by decide +kernel
theorem dX7_itemUnder_46 : decode cX7_itemUnder 46 = .ok (.invokevirtual 246, 3) := by decide +kernel
theorem dX7_itemUnder_49 : decode cX7_itemUnder 49 = .ok (.iadd, 1) := by decide +kernel
theorem dX7_itemUnder_50 : decode cX7_itemUnder 50 = .ok (.i2l, 1) := by decide +kernel
theorem dX7_itemUnder_51 : decode cX7_itemUnder 51 = .ok (.lconst 1, 1) := by decide +kernel
theorem dX7_itemUnder_52 : decode cX7_itemUnder 52 = .ok (.lsub, 1) := by decide +kernel
theorem dX7_itemUnder_53 : decode cX7_itemUnder 53 = .ok (.invokestatic 103, 3) := by decide +kernel
theorem dX7_itemUnder_56 : decode cX7_itemUnder 56 = .ok (.ifCond .eq 33, 3) := by decide +kernel
theorem dX7_itemUnder_59 : decode cX7_itemUnder 59 = .ok (.iload_n 2, 1) := by decide +kernel
theorem dX7_itemUnder_60 : decode cX7_itemUnder 60 = .ok (.i2l, 1) := by decide +kernel
theorem dX7_itemUnder_61 : decode cX7_itemUnder 61 = .ok (.iload 5, 2) := by decide +kernel
theorem dX7_itemUnder_63 : decode cX7_itemUnder 63 = .ok (.i2l, 1) := by decide +kernel
theorem dX7_itemUnder_64 : decode cX7_itemUnder 64 = .ok (.iload 5, 2) := by decide +kernel
theorem dX7_itemUnder_66 : decode cX7_itemUnder 66 = .ok (.aload_n 0, 1) := by decide +kernel
theorem dX7_itemUnder_67 : decode cX7_itemUnder 67 = .ok (.iload_n 3, 1) := by decide +kernel
theorem dX7_itemUnder_68 : decode cX7_itemUnder 68 = .ok (.iconst 3, 1) := by decide +kernel
theorem dX7_itemUnder_69 : decode cX7_itemUnder 69 = .ok (.invokevirtual 246, 3) := by decide +kernel
theorem dX7_itemUnder_72 : decode cX7_itemUnder 72 = .ok (.iadd, 1) := by decide +kernel
theorem dX7_itemUnder_73 : decode cX7_itemUnder 73 = .ok (.i2l, 1) := by decide +kernel
theorem dX7_itemUnder_74 : decode cX7_itemUnder 74 = .ok (.lconst 1, 1) := by decide +kernel
theorem dX7_itemUnder_75 : decode cX7_itemUnder 75 = .ok (.lsub, 1) := by decide +kernel
theorem dX7_itemUnder_76 : decode cX7_itemUnder 76 = .ok (.invokestatic 103, 3) := by decide +kernel
theorem dX7_itemUnder_79 : decode cX7_itemUnder 79 = .ok (.ifCond .eq 10, 3) := by decide +kernel
theorem dX7_itemUnder_82 : decode cX7_itemUnder 82 = .ok (.aload_n 0, 1) := by decide +kernel
theorem dX7_itemUnder_83 : decode cX7_itemUnder 83 = .ok (.getfield 39, 3) := by decide +kernel
theorem dX7_itemUnder_86 : decode cX7_itemUnder 86 = .ok (.iload_n 3, 1) := by decide +kernel
theorem dX7_itemUnder_87 : decode cX7_itemUnder 87 = .ok (.iaload, 1) := by decide +kernel
theorem dX7_itemUnder_88 : decode cX7_itemUnder 88 = .ok (.ireturn, 1) := by decide +kernel
theorem dX7_itemUnder_89 : decode cX7_itemUnder 89 = .ok (.iinc 3 (-1), 3) := by decide +kernel
theorem dX7_itemUnder_92 : decode cX7_itemUnder 92 = .ok (.goto (-76), 3) := by decide +kernel
theorem dX7_itemUnder_95 : decode cX7_itemUnder 95 = .ok (.aload_n 0, 1) := by decide +kernel
theorem dX7_itemUnder_96 : decode cX7_itemUnder 96 = .ok (.iconst 1, 1) := by decide +kernel
theorem dX7_itemUnder_97 : decode cX7_itemUnder 97 = .ok (.invokevirtual 111, 3) := by decide +kernel
theorem dX7_itemUnder_100 : decode cX7_itemUnder 100 = .ok (.ireturn, 1) := by decide +kernel
theorem dX7_meet_0 : decode cX7_meet 0 = .ok (.aload_n 0, 1) := by decide +kernel
theorem dX7_meet_1 : decode cX7_meet 1 = .ok (.iload_n 1, 1) := by decide +kernel
theorem dX7_meet_2 : decode cX7_meet 2 = .ok (.iload_n 3, 1) := by decide +kernel
theorem dX7_meet_3 : decode cX7_meet 3 = .ok (.invokevirtual 246, 3) := by decide +kernel
theorem dX7_meet_6 : decode cX7_meet 6 = .ok (.aload_n 0, 1) := by decide +kernel
theorem dX7_meet_7 : decode cX7_meet 7 = .ok (.iload_n 2, 1) := by decide +kernel
theorem dX7_meet_8 : decode cX7_meet 8 = .ok (.iload_n 3, 1) := by decide +kernel
theorem dX7_meet_9 : decode cX7_meet 9 = .ok (.invokevirtual 246, 3) := by decide +kernel
theorem dX7_meet_12 : decode cX7_meet 12 = .ok (.if_icmp .le 12, 3) := by decide +kernel
theorem dX7_meet_15 : decode cX7_meet 15 = .ok (.aload_n 0, 1) := by decide +kernel
theorem dX7_meet_16 : decode cX7_meet 16 = .ok (.iload_n 1, 1) := by decide +kernel
theorem dX7_meet_17 : decode cX7_meet 17 = .ok (.iload_n 3, 1) := by decide +kernel
theorem dX7_meet_18 : decode cX7_meet 18 = .ok (.invokevirtual 246, 3) := by decide +kernel
theorem dX7_meet_21 : decode cX7_meet 21 = .ok (.goto 9, 3) := by decide +kernel
theorem dX7_meet_24 : decode cX7_meet 24 = .ok (.aload_n 0, 1) := by decide +kernel
theorem dX7_meet_25 : decode cX7_meet 25 = .ok (.iload_n 2, 1) := by decide +kernel
theorem dX7_meet_26 : decode cX7_meet 26 = .ok (.iload_n 3, 1) := by decide +kernel
theorem dX7_meet_27 : decode cX7_meet 27 = .ok (.invokevirtual 246, 3) := by decide +kernel
theorem dX7_meet_30 : decode cX7_meet 30 = .ok (.istore 4, 2) := by decide +kernel
theorem dX7_meet_32 : decode cX7_meet 32 = .ok (.aload_n 0, 1) := by decide +kernel
theorem dX7_meet_33 : decode cX7_meet 33 = .ok (.iload_n 1, 1) := by decide +kernel
theorem dX7_meet_34 : decode cX7_meet 34 = .ok (.iload_n 3, 1) := by decide +kernel
theorem dX7_meet_35 : decode cX7_meet 35 = .ok (.invokevirtual 246, 3) := by decide +kernel
theorem dX7_meet_38 : decode cX7_meet 38 = .ok (.aload_n 0, 1) := by decide +kernel
theorem dX7_meet_39 : decode cX7_meet 39 = .ok (.iload_n 1, 1) := by decide +kernel
theorem dX7_meet_40 : decode cX7_meet 40 = .ok (.iconst 2, 1) := by decide +kernel
theorem dX7_meet_41 : decode cX7_meet 41 = .ok (.iload_n 3, 1) := by decide +kernel
theorem dX7_meet_42 : decode cX7_meet 42 = .ok (.iadd, 1) := by decide +kernel
theorem dX7_meet_43 : decode cX7_meet 43 = .ok (.invokevirtual 246, 3) := by decide +kernel
theorem dX7_meet_46 : decode cX7_meet 46 = .ok (.iadd, 1) := by decide +kernel
theorem dX7_meet_47 : decode cX7_meet 47 = .ok (.istore 5, 2) := by decide +kernel
theorem dX7_meet_49 : decode cX7_meet 49 = .ok (.aload_n 0, 1) := by decide +kernel
theorem dX7_meet_50 : decode cX7_meet 50 = .ok (.iload_n 2, 1) := by decide +kernel
theorem dX7_meet_51 : decode cX7_meet 51 = .ok (.iload_n 3, 1) := by decide +kernel
theorem dX7_meet_52 : decode cX7_meet 52 = .ok (.invokevirtual 246, 3) := by decide +kernel
theorem dX7_meet_55 : decode cX7_meet 55 = .ok (.aload_n 0, 1) := by decide +kernel
theorem dX7_meet_56 : decode cX7_meet 56 = .ok (.iload_n 2, 1) := by decide +kernel
theorem dX7_meet_57 : decode cX7_meet 57 = .ok (.iconst 2, 1) := by decide +kernel
theorem dX7_meet_58 : decode cX7_meet 58 = .ok (.iload_n 3, 1) := by decide +kernel
theorem dX7_meet_59 : decode cX7_meet 59 = .ok (.iadd, 1) := by decide +kernel
theorem dX7_meet_60 : decode cX7_meet 60 = .ok (.invokevirtual 246, 3) := by decide +kernel
theorem dX7_meet_63 : decode cX7_meet 63 = .ok (.iadd, 1) := by decide +kernel
theorem dX7_meet_64 : decode cX7_meet 64 = .ok (.istore 6, 2) := by decide +kernel
theorem dX7_meet_66 : decode cX7_meet 66 = .ok (.iload 4, 2) := by decide +kernel
theorem dX7_meet_68 : decode cX7_meet 68 = .ok (.iload 5, 2) := by decide +kernel
theorem dX7_meet_70 : decode cX7_meet 70 = .ok (.if_icmp .ge 14, 3) := by decide +kernel
theorem dX7_meet_73 : decode cX7_meet 73 = .ok (.iload 4, 2) := by decide +kernel
theorem dX7_meet_75 : decode cX7_meet 75 = .ok (.iload 6, 2) := by decide +kernel
theorem dX7_meet_77 : decode cX7_meet 77 = .ok (.if_icmp .ge 7, 3) := by decide +kernel
theorem dX7_meet_80 : decode cX7_meet 80 = .ok (.iconst 1, 1) := by decide +kernel
theorem dX7_meet_81 : decode cX7_meet 81 = .ok (.goto 4, 3) := by decide +kernel
theorem dX7_meet_84 : decode cX7_meet 84 = .ok (.iconst 0, 1) := by decide +kernel
theorem dX7_meet_85 : decode cX7_meet 85 = .ok (.ireturn, 1) := by decide +kernel
theorem dX7_overlaps_0 : decode cX7_overlaps 0 = .ok (.aload_n 0, 1) := by decide +kernel
theorem dX7_overlaps_1 : decode cX7_overlaps 1 = .ok (.iconst 0, 1) := by decide +kernel
theorem dX7_overlaps_2 : decode cX7_overlaps 2 = .ok (.putfield 98, 3) := by decide +kernel
theorem dX7_overlaps_5 : decode cX7_overlaps 5 = .ok (.aload_n 0, 1) := by decide +kernel
theorem dX7_overlaps_6 : decode cX7_overlaps 6 = .ok (.invokevirtual 241, 3) := by decide +kernel
theorem dX7_overlaps_9 : decode cX7_overlaps 9 = .ok (.iconst 0, 1) := by decide +kernel
theorem dX7_overlaps_10 : decode cX7_overlaps 10 = .ok (.istore_n 1, 1) := by decide +kernel
theorem dX7_overlaps_11 : decode cX7_overlaps 11 = .ok (.iconst 0, 1) := by decide +kernel
theorem dX7_overlaps_12 : decode cX7_overlaps 12 = .ok (.istore_n 2, 1) := by decide +kernel
theorem dX7_overlaps_13 : decode cX7_overlaps 13 = .ok (.iload_n 2, 1) := by decide +kernel
theorem dX7_overlaps_14 : decode cX7_overlaps 14 = .ok (.aload_n 0, 1) := by decide +kernel
theorem dX7_overlaps_15 : decode cX7_overlaps 15 = .ok (.getfield 124, 3) := by decide +kernel
theorem dX7_overlaps_18 : decode cX7_overlaps 18 = .ok (.if_icmp .ge 50, 3) := by decide +kernel
theorem dX7_overlaps_21 : decode cX7_overlaps 21 = .ok (.iconst 0, 1) := by decide +kernel
theorem dX7_overlaps_22 : decode cX7_overlaps 22 = .ok (.istore_n 3, 1) := by decide +kernel
theorem dX7_overlaps_23 : decode cX7_overlaps 23 = .ok (.iload_n 3, 1) := by decide +kernel
theorem dX7_overlaps_24 : decode cX7_overlaps 24 = .ok (.iload_n 2, 1) := by decide +kernel
theorem dX7_overlaps_25 : decode cX7_overlaps 25 = .ok (.if_icmp .ge 37, 3) := by decide +kernel
theorem dX7_overlaps_28 : decode cX7_overlaps 28 = .ok (.iload_n 1, 1) := by decide +kernel
theorem dX7_overlaps_29 : decode cX7_overlaps 29 = .ok (.aload_n 0, 1) := by decide +kernel
theorem dX7_overlaps_30 : decode cX7_overlaps 30 = .ok (.iload_n 2, 1) := by decide +kernel
theorem dX7_overlaps_31 : decode cX7_overlaps 31 = .ok (.iload_n 3, 1) := by decide +kernel
theorem dX7_overlaps_32 : decode cX7_overlaps 32 = .ok (.iconst 0, 1) := by decide +kernel
theorem dX7_overlaps_33 : decode cX7_overlaps 33 = .ok (.invokevirtual 252, 3) := by decide +kernel
theorem dX7_overlaps_36 : decode cX7_overlaps 36 = .ok (.ifCond .eq 17, 3) := by decide +kernel
theorem dX7_overlaps_39 : decode cX7_overlaps 39 = .ok (.aload_n 0, 1) := by decide +kernel
theorem dX7_overlaps_40 : decode cX7_overlaps 40 = .ok (.iload_n 2, 1) := by decide +kernel
theorem dX7_overlaps_41 : decode cX7_overlaps 41 = .ok (.iload_n 3, 1) := by decide +kernel
theorem dX7_overlaps_42 : decode cX7_overlaps 42 = .ok (.iconst 1, 1) := by decide +kernel
theorem dX7_overlaps_43 : decode cX7_overlaps 43 = .ok (.invokevirtual 252, 3) := by decide +kernel
theorem dX7_overlaps_46 : decode cX7_overlaps 46 = .ok (.ifCond .eq 7, 3) := by decide +kernel
theorem dX7_overlaps_49 : decode cX7_overlaps 49 = .ok (.iconst 1, 1) := by decide +kernel
theorem dX7_overlaps_50 : decode cX7_overlaps 50 = .ok (.goto 4, 3) := by decide +kernel
theorem dX7_overlaps_53 : decode cX7_overlaps 53 = .ok (.iconst 0, 1) := by decide +kernel
theorem dX7_overlaps_54 : decode cX7_overlaps 54 = .ok (.iadd, 1) := by decide +kernel
theorem dX7_overlaps_55 : decode cX7_overlaps 55 = .ok (.istore_n 1, 1) := by decide +kernel
theorem dX7_overlaps_56 : decode cX7_overlaps 56 = .ok (.iinc 3 1, 3) := by decide +kernel
theorem dX7_overlaps_59 : decode cX7_overlaps 59 = .ok (.goto (-36), 3) := by decide +kernel
theorem dX7_overlaps_62 : decode cX7_overlaps 62 = .ok (.iinc 2 1, 3) := by decide +kernel
theorem dX7_overlaps_65 : decode cX7_overlaps 65 = .ok (.goto (-52), 3) := by decide +kernel
theorem dX7_overlaps_68 : decode cX7_overlaps 68 = .ok (.iload_n 1, 1) := by decide +kernel
theorem dX7_overlaps_69 : decode cX7_overlaps 69 = .ok (.ireturn, 1) := by decide +kernel
theorem dX7_narrowest_0 : decode cX7_narrowest 0 = .ok (.iload_n 1, 1) := by decide +kernel
theorem dX7_narrowest_1 : decode cX7_narrowest 1 = .ok (.i2l, 1) := by decide +kernel
theorem dX7_narrowest_2 : decode cX7_narrowest 2 = .ok (.lconst 1, 1) := by decide +kernel
theorem dX7_narrowest_3 : decode cX7_narrowest 3 = .ok (.ldc2_w 256, 3) := by decide +kernel
theorem dX7_narrowest_6 : decode cX7_narrowest 6 = .ok (.invokestatic 103, 3) := by decide +kernel
theorem dX7_narrowest_9 : decode cX7_narrowest 9 = .ok (.ifCond .ne 9, 3) := by decide +kernel
theorem dX7_narrowest_12 : decode cX7_narrowest 12 = .ok (.aload_n 0, 1) := by decide +kernel
theorem dX7_narrowest_13 : decode cX7_narrowest 13 = .ok (.iconst 1, 1) := by decide +kernel
theorem dX7_narrowest_14 : decode cX7_narrowest 14 = .ok (.invokevirtual 111, 3) := by decide +kernel
theorem dX7_narrowest_17 : decode cX7_narrowest 17 = .ok (.ireturn, 1) := by decide +kernel
theorem dX7_narrowest_18 : decode cX7_narrowest 18 = .ok (.aload_n 0, 1) := by decide +kernel
theorem dX7_narrowest_19 : decode cX7_narrowest 19 = .ok (.iconst 0, 1) := by decide +kernel
theorem dX7_narrowest_20 : decode cX7_narrowest 20 = .ok (.putfield 98, 3) := by decide +kernel
theorem dX7_narrowest_23 : decode cX7_narrowest 23 = .ok (.aload_n 0, 1) := by decide +kernel
theorem dX7_narrowest_24 : decode cX7_narrowest 24 = .ok (.invokevirtual 226, 3) := by decide +kernel
theorem dX7_narrowest_27 : decode cX7_narrowest 27 = .ok (.iconst 0, 1) := by decide +kernel
theorem dX7_narrowest_28 : decode cX7_narrowest 28 = .ok (.istore_n 2, 1) := by decide +kernel
theorem dX7_narrowest_29 : decode cX7_narrowest 29 = .ok (.iload_n 2, 1) := by decide +kernel
theorem dX7_narrowest_30 : decode cX7_narrowest 30 = .ok (.sipush 9999, 3) := by decide +kernel
theorem dX7_narrowest_33 : decode cX7_narrowest 33 = .ok (.if_icmp .gt 25, 3) := by decide +kernel
theorem dX7_narrowest_36 : decode cX7_narrowest 36 = .ok (.aload_n 0, 1) := by decide +kernel
theorem dX7_narrowest_37 : decode cX7_narrowest 37 = .ok (.iload_n 2, 1) := by decide +kernel
theorem dX7_narrowest_38 : decode cX7_narrowest 38 = .ok (.iconst 1, 1) := by decide +kernel
theorem dX7_narrowest_39 : decode cX7_narrowest 39 = .ok (.invokevirtual 229, 3) := by decide +kernel
theorem dX7_narrowest_42 : decode cX7_narrowest 42 = .ok (.aload_n 0, 1) := by decide +kernel
theorem dX7_narrowest_43 : decode cX7_narrowest 43 = .ok (.getfield 178, 3) := by decide +kernel
theorem dX7_narrowest_46 : decode cX7_narrowest 46 = .ok (.iload_n 1, 1) := by decide +kernel
theorem dX7_narrowest_47 : decode cX7_narrowest 47 = .ok (.if_icmp .gt 5, 3) := by decide +kernel
theorem dX7_narrowest_50 : decode cX7_narrowest 50 = .ok (.iload_n 2, 1) := by decide +kernel
theorem dX7_narrowest_51 : decode cX7_narrowest 51 = .ok (.ireturn, 1) := by decide +kernel
theorem dX7_narrowest_52 : decode cX7_narrowest 52 = .ok (.iinc 2 1, 3) := by decide +kernel
theorem dX7_narrowest_55 : decode cX7_narrowest 55 = .ok (.goto (-26), 3) := by decide +kernel
theorem dX7_narrowest_58 : decode cX7_narrowest 58 = .ok (.aload_n 0, 1) := by decide +kernel
theorem dX7_narrowest_59 : decode cX7_narrowest 59 = .ok (.iconst 2, 1) := by decide +kernel
theorem dX7_narrowest_60 : decode cX7_narrowest 60 = .ok (.invokevirtual 111, 3) := by decide +kernel
theorem dX7_narrowest_63 : decode cX7_narrowest 63 = .ok (.ireturn, 1) := by decide +kernel
theorem dX7_share_0 : decode cX7_share 0 = .ok (.iload_n 1, 1) := by decide +kernel
theorem dX7_share_1 : decode cX7_share 1 = .ok (.i2l, 1) := by decide +kernel
theorem dX7_share_2 : decode cX7_share 2 = .ok (.lconst 0, 1) := by decide +kernel
theorem dX7_share_3 : decode cX7_share 3 = .ok (.ldc2_w 258, 3) := by decide +kernel
theorem dX7_share_6 : decode cX7_share 6 = .ok (.invokestatic 103, 3) := by decide +kernel
theorem dX7_share_9 : decode cX7_share 9 = .ok (.ifCond .eq 20, 3) := by decide +kernel
theorem dX7_share_12 : decode cX7_share 12 = .ok (.iload_n 2, 1) := by decide +kernel
theorem dX7_share_13 : decode cX7_share 13 = .ok (.i2l, 1) := by decide +kernel
theorem dX7_share_14 : decode cX7_share 14 = .ok (.lconst 0, 1) := by decide +kernel
theorem dX7_share_15 : decode cX7_share 15 = .ok (.ldc2_w 244, 3) := by decide +kernel
theorem dX7_share_18 : decode cX7_share 18 = .ok (.invokestatic 103, 3) := by decide +kernel
theorem dX7_share_21 : decode cX7_share 21 = .ok (.ifCond .ne 14, 3) := by decide +kernel
theorem dX7_share_24 : decode cX7_share 24 = .ok (.iload_n 2, 1) := by decide +kernel
theorem dX7_share_25 : decode cX7_share 25 = .ok (.iconst 5, 1) := by decide +kernel
theorem dX7_share_26 : decode cX7_share 26 = .ok (.if_icmp .eq 9, 3) := by decide +kernel
theorem dX7_share_29 : decode cX7_share 29 = .ok (.aload_n 0, 1) := by decide +kernel
theorem dX7_share_30 : decode cX7_share 30 = .ok (.iconst 1, 1) := by decide +kernel
theorem dX7_share_31 : decode cX7_share 31 = .ok (.invokevirtual 111, 3) := by decide +kernel
theorem dX7_share_34 : decode cX7_share 34 = .ok (.ireturn, 1) := by decide +kernel
theorem dX7_share_35 : decode cX7_share 35 = .ok (.aload_n 0, 1) := by decide +kernel
theorem dX7_share_36 : decode cX7_share 36 = .ok (.iload_n 3, 1) := by decide +kernel
theorem dX7_share_37 : decode cX7_share 37 = .ok (.invokevirtual 133, 3) := by decide +kernel
theorem dX7_share_40 : decode cX7_share 40 = .ok (.ifCond .ne 9, 3) := by decide +kernel
theorem dX7_share_43 : decode cX7_share 43 = .ok (.aload_n 0, 1) := by decide +kernel
theorem dX7_share_44 : decode cX7_share 44 = .ok (.iconst 2, 1) := by decide +kernel
theorem dX7_share_45 : decode cX7_share 45 = .ok (.invokevirtual 111, 3) := by decide +kernel
theorem dX7_share_48 : decode cX7_share 48 = .ok (.ireturn, 1) := by decide +kernel
theorem dX7_share_49 : decode cX7_share 49 = .ok (.lconst 0, 1) := by decide +kernel
theorem dX7_share_50 : decode cX7_share 50 = .ok (.lstore 4, 2) := by decide +kernel
theorem dX7_share_52 : decode cX7_share 52 = .ok (.iconst 0, 1) := by decide +kernel
theorem dX7_share_53 : decode cX7_share 53 = .ok (.istore 6, 2) := by decide +kernel
theorem dX7_share_55 : decode cX7_share 55 = .ok (.iload 6, 2) := by decide +kernel
theorem dX7_share_57 : decode cX7_share 57 = .ok (.aload_n 0, 1) := by decide +kernel
theorem dX7_share_58 : decode cX7_share 58 = .ok (.getfield 124, 3) := by decide +kernel
theorem dX7_share_61 : decode cX7_share 61 = .ok (.if_icmp .ge 36, 3) := by decide +kernel
theorem dX7_share_64 : decode cX7_share 64 = .ok (.aload_n 0, 1) := by decide +kernel
theorem dX7_share_65 : decode cX7_share 65 = .ok (.getfield 29, 3) := by decide +kernel
theorem dX7_share_68 : decode cX7_share 68 = .ok (.iload 6, 2) := by decide +kernel
theorem dX7_share_70 : decode cX7_share 70 = .ok (.aload_n 0, 1) := by decide +kernel
theorem dX7_share_71 : decode cX7_share 71 = .ok (.iload 6, 2) := by decide +kernel
theorem dX7_share_73 : decode cX7_share 73 = .ok (.iload_n 2, 1) := by decide +kernel
theorem dX7_share_74 : decode cX7_share 74 = .ok (.invokevirtual 145, 3) := by decide +kernel
theorem dX7_share_77 : decode cX7_share 77 = .ok (.i2l, 1) := by decide +kernel
theorem dX7_share_78 : decode cX7_share 78 = .ok (.lastore, 1) := by decide +kernel
theorem dX7_share_79 : decode cX7_share 79 = .ok (.lload 4, 2) := by decide +kernel
theorem dX7_share_81 : decode cX7_share 81 = .ok (.aload_n 0, 1) := by decide +kernel
theorem dX7_share_82 : decode cX7_share 82 = .ok (.getfield 29, 3) := by decide +kernel
theorem dX7_share_85 : decode cX7_share 85 = .ok (.iload 6, 2) := by decide +kernel
theorem dX7_share_87 : decode cX7_share 87 = .ok (.laload, 1) := by decide +kernel
theorem dX7_share_88 : decode cX7_share 88 = .ok (.ladd, 1) := by decide +kernel
theorem dX7_share_89 : decode cX7_share 89 = .ok (.lstore 4, 2) := by decide +kernel
theorem dX7_share_91 : decode cX7_share 91 = .ok (.iinc 6 1, 3) := by decide +kernel
theorem dX7_share_94 : decode cX7_share 94 = .ok (.goto (-39), 3) := by decide +kernel
theorem dX7_share_97 : decode cX7_share 97 = .ok (.lload 4, 2) := by decide +kernel
theorem dX7_share_99 : decode cX7_share 99 = .ok (.lconst 0, 1) := by decide +kernel
theorem dX7_share_100 : decode cX7_share 100 = .ok (.lcmp, 1) := by decide +kernel
theorem dX7_share_101 : decode cX7_share 101 = .ok (.ifCond .ne 9, 3) := by decide +kernel
theorem dX7_share_104 : decode cX7_share 104 = .ok (.aload_n 0, 1) := by decide +kernel
theorem dX7_share_105 : decode cX7_share 105 = .ok (.iconst 3, 1) := by decide +kernel
theorem dX7_share_106 : decode cX7_share 106 = .ok (.invokevirtual 111, 3) := by decide +kernel
theorem dX7_share_109 : decode cX7_share 109 = .ok (.ireturn, 1) := by decide +kernel
theorem dX7_share_110 : decode cX7_share 110 = .ok (.aload_n 0, 1) := by decide +kernel
theorem dX7_share_111 : decode cX7_share 111 = .ok (.iconst 0, 1) := by decide +kernel
theorem dX7_share_112 : decode cX7_share 112 = .ok (.putfield 98, 3) := by decide +kernel
theorem dX7_share_115 : decode cX7_share 115 = .ok (.aload_n 0, 1) := by decide +kernel
theorem dX7_share_116 : decode cX7_share 116 = .ok (.iload_n 1, 1) := by decide +kernel
theorem dX7_share_117 : decode cX7_share 117 = .ok (.i2l, 1) := by decide +kernel
theorem dX7_share_118 : decode cX7_share 118 = .ok (.aload_n 0, 1) := by decide +kernel
theorem dX7_share_119 : decode cX7_share 119 = .ok (.getfield 124, 3) := by decide +kernel
theorem dX7_share_122 : decode cX7_share 122 = .ok (.invokevirtual 187, 3) := by decide +kernel
theorem dX7_share_125 : decode cX7_share 125 = .ok (.aload_n 0, 1) := by decide +kernel
theorem dX7_share_126 : decode cX7_share 126 = .ok (.getfield 33, 3) := by decide +kernel
theorem dX7_share_129 : decode cX7_share 129 = .ok (.iload_n 3, 1) := by decide +kernel
theorem dX7_share_130 : decode cX7_share 130 = .ok (.laload, 1) := by decide +kernel
theorem dX7_share_131 : decode cX7_share 131 = .ok (.l2i, 1) := by decide +kernel
theorem dX7_share_132 : decode cX7_share 132 = .ok (.ireturn, 1) := by decide +kernel
theorem dX7_save_0 : decode cX7_save 0 = .ok (.aload_n 0, 1) := by decide +kernel
theorem dX7_save_1 : decode cX7_save 1 = .ok (.iconst 0, 1) := by decide +kernel
theorem dX7_save_2 : decode cX7_save 2 = .ok (.putfield 98, 3) := by decide +kernel
theorem dX7_save_5 : decode cX7_save 5 = .ok (.aload_n 0, 1) := by decide +kernel
theorem dX7_save_6 : decode cX7_save 6 = .ok (.aload_n 0, 1) := by decide +kernel
theorem dX7_save_7 : decode cX7_save 7 = .ok (.getfield 124, 3) := by decide +kernel
theorem dX7_save_10 : decode cX7_save 10 = .ok (.putfield 94, 3) := by decide +kernel
theorem dX7_save_13 : decode cX7_save 13 = .ok (.iconst 0, 1) := by decide +kernel
theorem dX7_save_14 : decode cX7_save 14 = .ok (.istore_n 1, 1) := by decide +kernel
theorem dX7_save_15 : decode cX7_save 15 = .ok (.iload_n 1, 1) := by decide +kernel
theorem dX7_save_16 : decode cX7_save 16 = .ok (.bipush 9, 2) := by decide +kernel
theorem dX7_save_18 : decode cX7_save 18 = .ok (.if_icmp .ge 25, 3) := by decide +kernel
theorem dX7_save_21 : decode cX7_save 21 = .ok (.aload_n 0, 1) := by decide +kernel
theorem dX7_save_22 : decode cX7_save 22 = .ok (.getfield 91, 3) := by decide +kernel
theorem dX7_save_25 : decode cX7_save 25 = .ok (.sipush 200, 3) := by decide +kernel
theorem dX7_save_28 : decode cX7_save 28 = .ok (.iload_n 1, 1) := by decide +kernel
theorem dX7_save_29 : decode cX7_save 29 = .ok (.iadd, 1) := by decide +kernel
theorem dX7_save_30 : decode cX7_save 30 = .ok (.aload_n 0, 1) := by decide +kernel
theorem dX7_save_31 : decode cX7_save 31 = .ok (.getfield 9, 3) := by decide +kernel
theorem dX7_save_34 : decode cX7_save 34 = .ok (.iload_n 1, 1) := by decide +kernel
theorem dX7_save_35 : decode cX7_save 35 = .ok (.iaload, 1) := by decide +kernel
theorem dX7_save_36 : decode cX7_save 36 = .ok (.iastore, 1) := by decide +kernel
theorem dX7_save_37 : decode cX7_save 37 = .ok (.iinc 1 1, 3) := by decide +kernel
theorem dX7_save_40 : decode cX7_save 40 = .ok (.goto (-25), 3) := by decide +kernel
theorem dX7_save_43 : decode cX7_save 43 = .ok (.iconst 0, 1) := by decide +kernel
theorem dX7_save_44 : decode cX7_save 44 = .ok (.istore_n 1, 1) := by decide +kernel
theorem dX7_save_45 : decode cX7_save 45 = .ok (.iload_n 1, 1) := by decide +kernel
theorem dX7_save_46 : decode cX7_save 46 = .ok (.sipush 200, 3) := by decide +kernel
theorem dX7_save_49 : decode cX7_save 49 = .ok (.if_icmp .ge 21, 3) := by decide +kernel
theorem dX7_save_52 : decode cX7_save 52 = .ok (.aload_n 0, 1) := by decide +kernel
theorem dX7_save_53 : decode cX7_save 53 = .ok (.getfield 91, 3) := by decide +kernel
theorem dX7_save_56 : decode cX7_save 56 = .ok (.iload_n 1, 1) := by decide +kernel
theorem dX7_save_57 : decode cX7_save 57 = .ok (.aload_n 0, 1) := by decide +kernel
theorem dX7_save_58 : decode cX7_save 58 = .ok (.getfield 13, 3) := by decide +kernel
theorem dX7_save_61 : decode cX7_save 61 = .ok (.iload_n 1, 1) := by decide +kernel
theorem dX7_save_62 : decode cX7_save 62 = .ok (.iaload, 1) := by decide +kernel
theorem dX7_save_63 : decode cX7_save 63 = .ok (.iastore, 1) := by decide +kernel
theorem dX7_save_64 : decode cX7_save 64 = .ok (.iinc 1 1, 3) := by decide +kernel
theorem dX7_save_67 : decode cX7_save 67 = .ok (.goto (-22), 3) := by decide +kernel
theorem dX7_save_70 : decode cX7_save 70 = .ok (.aload_n 0, 1) := by decide +kernel
theorem dX7_save_71 : decode cX7_save 71 = .ok (.getfield 124, 3) := by decide +kernel
theorem dX7_save_74 : decode cX7_save 74 = .ok (.ireturn, 1) := by decide +kernel
theorem dX7_restore_0 : decode cX7_restore 0 = .ok (.aload_n 0, 1) := by decide +kernel
theorem dX7_restore_1 : decode cX7_restore 1 = .ok (.getfield 94, 3) := by decide +kernel
theorem dX7_restore_4 : decode cX7_restore 4 = .ok (.ifCond .ge 9, 3) := by decide +kernel
theorem dX7_restore_7 : decode cX7_restore 7 = .ok (.aload_n 0, 1) := by decide +kernel
theorem dX7_restore_8 : decode cX7_restore 8 = .ok (.iconst 1, 1) := by decide +kernel
theorem dX7_restore_9 : decode cX7_restore 9 = .ok (.invokevirtual 111, 3) := by decide +kernel
theorem dX7_restore_12 : decode cX7_restore 12 = .ok (.ireturn, 1) := by decide +kernel
theorem dX7_restore_13 : decode cX7_restore 13 = .ok (.aload_n 0, 1) := by decide +kernel
theorem dX7_restore_14 : decode cX7_restore 14 = .ok (.iconst 0, 1) := by decide +kernel
theorem dX7_restore_15 : decode cX7_restore 15 = .ok (.putfield 98, 3) := by decide +kernel
theorem dX7_restore_18 : decode cX7_restore 18 = .ok (.aload_n 0, 1) := by decide +kernel
theorem dX7_restore_19 : decode cX7_restore 19 = .ok (.aload_n 0, 1) := by decide +kernel
theorem dX7_restore_20 : decode cX7_restore 20 = .ok (.getfield 94, 3) := by decide +kernel
theorem dX7_restore_23 : decode cX7_restore 23 = .ok (.putfield 124, 3) := by decide +kernel
theorem dX7_restore_26 : decode cX7_restore 26 = .ok (.iconst 0, 1) := by decide +kernel
theorem dX7_restore_27 : decode cX7_restore 27 = .ok (.istore_n 1, 1) := by decide +kernel
theorem dX7_restore_28 : decode cX7_restore 28 = .ok (.iload_n 1, 1) := by decide +kernel
theorem dX7_restore_29 : decode cX7_restore 29 = .ok (.bipush 9, 2) := by decide +kernel
theorem dX7_restore_31 : decode cX7_restore 31 = .ok (.if_icmp .ge 25, 3) := by decide +kernel
theorem dX7_restore_34 : decode cX7_restore 34 = .ok (.aload_n 0, 1) := by decide +kernel
theorem dX7_restore_35 : decode cX7_restore 35 = .ok (.getfield 9, 3) := by decide +kernel
theorem dX7_restore_38 : decode cX7_restore 38 = .ok (.iload_n 1, 1) := by decide +kernel
theorem dX7_restore_39 : decode cX7_restore 39 = .ok (.aload_n 0, 1) := by decide +kernel
theorem dX7_restore_40 : decode cX7_restore 40 = .ok (.getfield 91, 3) := by decide +kernel
theorem dX7_restore_43 : decode cX7_restore 43 = .ok (.sipush 200, 3) := by decide +kernel
theorem dX7_restore_46 : decode cX7_restore 46 = .ok (.iload_n 1, 1) := by decide +kernel
theorem dX7_restore_47 : decode cX7_restore 47 = .ok (.iadd, 1) := by decide +kernel
theorem dX7_restore_48 : decode cX7_restore 48 = .ok (.iaload, 1) := by decide +kernel
theorem dX7_restore_49 : decode cX7_restore 49 = .ok (.iastore, 1) := by decide +kernel
theorem dX7_restore_50 : decode cX7_restore 50 = .ok (.iinc 1 1, 3) := by decide +kernel
theorem dX7_restore_53 : decode cX7_restore 53 = .ok (.goto (-25), 3) := by decide +kernel
theorem dX7_restore_56 : decode cX7_restore 56 = .ok (.iconst 0, 1) := by decide +kernel
theorem dX7_restore_57 : decode cX7_restore 57 = .ok (.istore_n 1, 1) := by decide +kernel
theorem dX7_restore_58 : decode cX7_restore 58 = .ok (.iload_n 1, 1) := by decide +kernel
theorem dX7_restore_59 : decode cX7_restore 59 = .ok (.sipush 200, 3) := by decide +kernel
theorem dX7_restore_62 : decode cX7_restore 62 = .ok (.if_icmp .ge 21, 3) := by decide +kernel
theorem dX7_restore_65 : decode cX7_restore 65 = .ok (.aload_n 0, 1) := by decide +kernel
theorem dX7_restore_66 : decode cX7_restore 66 = .ok (.getfield 13, 3) := by decide +kernel
theorem dX7_restore_69 : decode cX7_restore 69 = .ok (.iload_n 1, 1) := by decide +kernel
theorem dX7_restore_70 : decode cX7_restore 70 = .ok (.aload_n 0, 1) := by decide +kernel
theorem dX7_restore_71 : decode cX7_restore 71 = .ok (.getfield 91, 3) := by decide +kernel
theorem dX7_restore_74 : decode cX7_restore 74 = .ok (.iload_n 1, 1) := by decide +kernel
theorem dX7_restore_75 : decode cX7_restore 75 = .ok (.iaload, 1) := by decide +kernel
theorem dX7_restore_76 : decode cX7_restore 76 = .ok (.iastore, 1) := by decide +kernel
theorem dX7_restore_77 : decode cX7_restore 77 = .ok (.iinc 1 1, 3) := by decide +kernel
theorem dX7_restore_80 : decode cX7_restore 80 = .ok (.goto (-22), 3) := by decide +kernel
theorem dX7_restore_83 : decode cX7_restore 83 = .ok (.aload_n 0, 1) := by decide +kernel
theorem dX7_restore_84 : decode cX7_restore 84 = .ok (.getfield 124, 3) := by decide +kernel
theorem dX7_restore_87 : decode cX7_restore 87 = .ok (.ireturn, 1) := by decide +kernel
theorem dJx00060_init_a7421_0 : decode cJx00060_init_a7421 0 = .ok (.aload_n 0, 1) := by decide +kernel
theorem dJx00060_init_a7421_1 : decode cJx00060_init_a7421 1 = .ok (.aload_n 1, 1) := by decide +kernel
theorem dJx00060_init_a7421_2 : decode cJx00060_init_a7421 2 = .ok (.invokespecial 7, 3) := by decide +kernel
theorem dJx00060_init_a7421_5 : decode cJx00060_init_a7421 5 = .ok (.return_, 1) := by decide +kernel
theorem dJ9_floorDiv_7cf53_0 : decode cJ9_floorDiv_7cf53 0 = .ok (.iload_n 0, 1) := by decide +kernel
theorem dJ9_floorDiv_7cf53_1 : decode cJ9_floorDiv_7cf53 1 = .ok (.iload_n 1, 1) := by decide +kernel
theorem dJ9_floorDiv_7cf53_2 : decode cJ9_floorDiv_7cf53 2 = .ok (.idiv, 1) := by decide +kernel
theorem dJ9_floorDiv_7cf53_3 : decode cJ9_floorDiv_7cf53 3 = .ok (.istore_n 2, 1) := by decide +kernel
theorem dJ9_floorDiv_7cf53_4 : decode cJ9_floorDiv_7cf53 4 = .ok (.iload_n 0, 1) := by decide +kernel
theorem dJ9_floorDiv_7cf53_5 : decode cJ9_floorDiv_7cf53 5 = .ok (.iload_n 1, 1) := by decide +kernel
theorem dJ9_floorDiv_7cf53_6 : decode cJ9_floorDiv_7cf53 6 = .ok (.ixor, 1) := by decide +kernel
theorem dJ9_floorDiv_7cf53_7 : decode cJ9_floorDiv_7cf53 7 = .ok (.ifCond .ge 14, 3) := by decide +kernel
theorem dJ9_floorDiv_7cf53_10 : decode cJ9_floorDiv_7cf53 10 = .ok (.iload_n 2, 1) := by decide +kernel
theorem dJ9_floorDiv_7cf53_11 : decode cJ9_floorDiv_7cf53 11 = .ok (.iload_n 1, 1) := by decide +kernel
theorem dJ9_floorDiv_7cf53_12 : decode cJ9_floorDiv_7cf53 12 = .ok (.imul, 1) := by decide +kernel
theorem dJ9_floorDiv_7cf53_13 : decode cJ9_floorDiv_7cf53 13 = .ok (.iload_n 0, 1) := by decide +kernel
theorem dJ9_floorDiv_7cf53_14 : decode cJ9_floorDiv_7cf53 14 = .ok (.if_icmp .eq 7, 3) := by decide +kernel
theorem dJ9_floorDiv_7cf53_17 : decode cJ9_floorDiv_7cf53 17 = .ok (.iload_n 2, 1) := by decide +kernel
theorem dJ9_floorDiv_7cf53_18 : decode cJ9_floorDiv_7cf53 18 = .ok (.iconst 1, 1) := by decide +kernel
theorem dJ9_floorDiv_7cf53_19 : decode cJ9_floorDiv_7cf53 19 = .ok (.isub, 1) := by decide +kernel
theorem dJ9_floorDiv_7cf53_20 : decode cJ9_floorDiv_7cf53 20 = .ok (.ireturn, 1) := by decide +kernel
theorem dJ9_floorDiv_7cf53_21 : decode cJ9_floorDiv_7cf53 21 = .ok (.iload_n 2, 1) := by decide +kernel
theorem dJ9_floorDiv_7cf53_22 : decode cJ9_floorDiv_7cf53 22 = .ok (.ireturn, 1) := by decide +kernel
theorem dJ9_abs_0f7a4_0 : decode cJ9_abs_0f7a4 0 = .ok (.iload_n 0, 1) := by decide +kernel
theorem dJ9_abs_0f7a4_1 : decode cJ9_abs_0f7a4 1 = .ok (.ifCond .ge 8, 3) := by decide +kernel
theorem dJ9_abs_0f7a4_4 : decode cJ9_abs_0f7a4 4 = .ok (.iload_n 0, 1) := by decide +kernel
theorem dJ9_abs_0f7a4_5 : decode cJ9_abs_0f7a4 5 = .ok (.ineg, 1) := by decide +kernel
theorem dJ9_abs_0f7a4_6 : decode cJ9_abs_0f7a4 6 = .ok (.goto 4, 3) := by decide +kernel
theorem dJ9_abs_0f7a4_9 : decode cJ9_abs_0f7a4 9 = .ok (.iload_n 0, 1) := by decide +kernel
theorem dJ9_abs_0f7a4_10 : decode cJ9_abs_0f7a4 10 = .ok (.ireturn, 1) := by decide +kernel
theorem dJ9_max_7cf53_0 : decode cJ9_max_7cf53 0 = .ok (.iload_n 0, 1) := by decide +kernel
theorem dJ9_max_7cf53_1 : decode cJ9_max_7cf53 1 = .ok (.iload_n 1, 1) := by decide +kernel
theorem dJ9_max_7cf53_2 : decode cJ9_max_7cf53 2 = .ok (.if_icmp .lt 7, 3) := by decide +kernel
theorem dJ9_max_7cf53_5 : decode cJ9_max_7cf53 5 = .ok (.iload_n 0, 1) := by decide +kernel
theorem dJ9_max_7cf53_6 : decode cJ9_max_7cf53 6 = .ok (.goto 4, 3) := by decide +kernel
theorem dJ9_max_7cf53_9 : decode cJ9_max_7cf53 9 = .ok (.iload_n 1, 1) := by decide +kernel
theorem dJ9_max_7cf53_10 : decode cJ9_max_7cf53 10 = .ok (.ireturn, 1) := by decide +kernel
theorem dJ9_min_7cf53_0 : decode cJ9_min_7cf53 0 = .ok (.iload_n 0, 1) := by decide +kernel
theorem dJ9_min_7cf53_1 : decode cJ9_min_7cf53 1 = .ok (.iload_n 1, 1) := by decide +kernel
theorem dJ9_min_7cf53_2 : decode cJ9_min_7cf53 2 = .ok (.if_icmp .gt 7, 3) := by decide +kernel
theorem dJ9_min_7cf53_5 : decode cJ9_min_7cf53 5 = .ok (.iload_n 0, 1) := by decide +kernel
theorem dJ9_min_7cf53_6 : decode cJ9_min_7cf53 6 = .ok (.goto 4, 3) := by decide +kernel
theorem dJ9_min_7cf53_9 : decode cJ9_min_7cf53 9 = .ok (.iload_n 1, 1) := by decide +kernel
theorem dJ9_min_7cf53_10 : decode cJ9_min_7cf53 10 = .ok (.ireturn, 1) := by decide +kernel
theorem dL_setMainSize_0 : decode cL_setMainSize 0 = .ok (.aload_n 2, 1) := by decide +kernel
theorem dL_setMainSize_1 : decode cL_setMainSize 1 = .ok (.iconst 0, 1) := by decide +kernel
theorem dL_setMainSize_2 : decode cL_setMainSize 2 = .ok (.aload_n 0, 1) := by decide +kernel
theorem dL_setMainSize_3 : decode cL_setMainSize 3 = .ok (.iload_n 1, 1) := by decide +kernel
theorem dL_setMainSize_4 : decode cL_setMainSize 4 = .ok (.invokevirtual 7, 3) := by decide +kernel
theorem dL_setMainSize_7 : decode cL_setMainSize 7 = .ok (.i2l, 1) := by decide +kernel
theorem dL_setMainSize_8 : decode cL_setMainSize 8 = .ok (.lastore, 1) := by decide +kernel
theorem dL_setMainSize_9 : decode cL_setMainSize 9 = .ok (.goto 6, 3) := by decide +kernel
theorem dL_setMainSize_12 : decode cL_setMainSize 12 = .ok (.astore_n 3, 1) := by decide +kernel
theorem dL_setMainSize_13 : decode cL_setMainSize 13 = .ok (.iconst 1, 1) := by decide +kernel
theorem dL_setMainSize_14 : decode cL_setMainSize 14 = .ok (.ireturn, 1) := by decide +kernel
theorem dL_setMainSize_15 : decode cL_setMainSize 15 = .ok (.iconst 0, 1) := by decide +kernel
theorem dL_setMainSize_16 : decode cL_setMainSize 16 = .ok (.ireturn, 1) := by decide +kernel
theorem dL_setCrossSize_0 : decode cL_setCrossSize 0 = .ok (.aload_n 2, 1) := by decide +kernel
theorem dL_setCrossSize_1 : decode cL_setCrossSize 1 = .ok (.iconst 0, 1) := by decide +kernel
theorem dL_setCrossSize_2 : decode cL_setCrossSize 2 = .ok (.aload_n 0, 1) := by decide +kernel
theorem dL_setCrossSize_3 : decode cL_setCrossSize 3 = .ok (.iload_n 1, 1) := by decide +kernel
theorem dL_setCrossSize_4 : decode cL_setCrossSize 4 = .ok (.invokevirtual 15, 3) := by decide +kernel
theorem dL_setCrossSize_7 : decode cL_setCrossSize 7 = .ok (.i2l, 1) := by decide +kernel
theorem dL_setCrossSize_8 : decode cL_setCrossSize 8 = .ok (.lastore, 1) := by decide +kernel
theorem dL_setCrossSize_9 : decode cL_setCrossSize 9 = .ok (.goto 6, 3) := by decide +kernel
theorem dL_setCrossSize_12 : decode cL_setCrossSize 12 = .ok (.astore_n 3, 1) := by decide +kernel
theorem dL_setCrossSize_13 : decode cL_setCrossSize 13 = .ok (.iconst 1, 1) := by decide +kernel
theorem dL_setCrossSize_14 : decode cL_setCrossSize 14 = .ok (.ireturn, 1) := by decide +kernel
theorem dL_setCrossSize_15 : decode cL_setCrossSize 15 = .ok (.iconst 0, 1) := by decide +kernel
theorem dL_setCrossSize_16 : decode cL_setCrossSize 16 = .ok (.ireturn, 1) := by decide +kernel
theorem dL_setGaps_0 : decode cL_setGaps 0 = .ok (.aload_n 3, 1) := by decide +kernel
theorem dL_setGaps_1 : decode cL_setGaps 1 = .ok (.iconst 0, 1) := by decide +kernel
theorem dL_setGaps_2 : decode cL_setGaps 2 = .ok (.aload_n 0, 1) := by decide +kernel
theorem dL_setGaps_3 : decode cL_setGaps 3 = .ok (.iload_n 1, 1) := by decide +kernel
theorem dL_setGaps_4 : decode cL_setGaps 4 = .ok (.iload_n 2, 1) := by decide +kernel
theorem dL_setGaps_5 : decode cL_setGaps 5 = .ok (.invokevirtual 18, 3) := by decide +kernel
theorem dL_setGaps_8 : decode cL_setGaps 8 = .ok (.i2l, 1) := by decide +kernel
theorem dL_setGaps_9 : decode cL_setGaps 9 = .ok (.lastore, 1) := by decide +kernel
theorem dL_setGaps_10 : decode cL_setGaps 10 = .ok (.goto 7, 3) := by decide +kernel
theorem dL_setGaps_13 : decode cL_setGaps 13 = .ok (.astore 4, 2) := by decide +kernel
theorem dL_setGaps_15 : decode cL_setGaps 15 = .ok (.iconst 1, 1) := by decide +kernel
theorem dL_setGaps_16 : decode cL_setGaps 16 = .ok (.ireturn, 1) := by decide +kernel
theorem dL_setGaps_17 : decode cL_setGaps 17 = .ok (.iconst 0, 1) := by decide +kernel
theorem dL_setGaps_18 : decode cL_setGaps 18 = .ok (.ireturn, 1) := by decide +kernel
theorem dL_setSetting_0 : decode cL_setSetting 0 = .ok (.aload_n 3, 1) := by decide +kernel
theorem dL_setSetting_1 : decode cL_setSetting 1 = .ok (.iconst 0, 1) := by decide +kernel
theorem dL_setSetting_2 : decode cL_setSetting 2 = .ok (.aload_n 0, 1) := by decide +kernel
theorem dL_setSetting_3 : decode cL_setSetting 3 = .ok (.iload_n 1, 1) := by decide +kernel
theorem dL_setSetting_4 : decode cL_setSetting 4 = .ok (.iload_n 2, 1) := by decide +kernel
theorem dL_setSetting_5 : decode cL_setSetting 5 = .ok (.invokevirtual 22, 3) := by decide +kernel
theorem dL_setSetting_8 : decode cL_setSetting 8 = .ok (.i2l, 1) := by decide +kernel
theorem dL_setSetting_9 : decode cL_setSetting 9 = .ok (.lastore, 1) := by decide +kernel
theorem dL_setSetting_10 : decode cL_setSetting 10 = .ok (.goto 11, 3) := by decide +kernel
theorem dL_setSetting_13 : decode cL_setSetting 13 = .ok (.astore 4, 2) := by decide +kernel
theorem dL_setSetting_15 : decode cL_setSetting 15 = .ok (.iconst 1, 1) := by decide +kernel
theorem dL_setSetting_16 : decode cL_setSetting 16 = .ok (.ireturn, 1) := by decide +kernel
theorem dL_setSetting_17 : decode cL_setSetting 17 = .ok (.astore 4, 2) := by decide +kernel
theorem dL_setSetting_19 : decode cL_setSetting 19 = .ok (.iconst 2, 1) := by decide +kernel
theorem dL_setSetting_20 : decode cL_setSetting 20 = .ok (.ireturn, 1) := by decide +kernel
theorem dL_setSetting_21 : decode cL_setSetting 21 = .ok (.iconst 0, 1) := by decide +kernel
theorem dL_setSetting_22 : decode cL_setSetting 22 = .ok (.ireturn, 1) := by decide +kernel
theorem dL_addItem_0 : decode cL_addItem 0 = .ok (.aload_n 3, 1) := by decide +kernel
theorem dL_addItem_1 : decode cL_addItem 1 = .ok (.iconst 0, 1) := by decide +kernel
theorem dL_addItem_2 : decode cL_addItem 2 = .ok (.aload_n 0, 1) := by decide +kernel
theorem dL_addItem_3 : decode cL_addItem 3 = .ok (.iload_n 1, 1) := by decide +kernel
theorem dL_addItem_4 : decode cL_addItem 4 = .ok (.iload_n 2, 1) := by decide +kernel
theorem dL_addItem_5 : decode cL_addItem 5 = .ok (.invokevirtual 27, 3) := by decide +kernel
theorem dL_addItem_8 : decode cL_addItem 8 = .ok (.i2l, 1) := by decide +kernel
theorem dL_addItem_9 : decode cL_addItem 9 = .ok (.lastore, 1) := by decide +kernel
theorem dL_addItem_10 : decode cL_addItem 10 = .ok (.goto 11, 3) := by decide +kernel
theorem dL_addItem_13 : decode cL_addItem 13 = .ok (.astore 4, 2) := by decide +kernel
theorem dL_addItem_15 : decode cL_addItem 15 = .ok (.iconst 1, 1) := by decide +kernel
theorem dL_addItem_16 : decode cL_addItem 16 = .ok (.ireturn, 1) := by decide +kernel
theorem dL_addItem_17 : decode cL_addItem 17 = .ok (.astore 4, 2) := by decide +kernel
theorem dL_addItem_19 : decode cL_addItem 19 = .ok (.iconst 2, 1) := by decide +kernel
theorem dL_addItem_20 : decode cL_addItem 20 = .ok (.ireturn, 1) := by decide +kernel
theorem dL_addItem_21 : decode cL_addItem 21 = .ok (.iconst 0, 1) := by decide +kernel
theorem dL_addItem_22 : decode cL_addItem 22 = .ok (.ireturn, 1) := by decide +kernel
theorem dL_removeItem_0 : decode cL_removeItem 0 = .ok (.aload_n 2, 1) := by decide +kernel
theorem dL_removeItem_1 : decode cL_removeItem 1 = .ok (.iconst 0, 1) := by decide +kernel
theorem dL_removeItem_2 : decode cL_removeItem 2 = .ok (.aload_n 0, 1) := by decide +kernel
theorem dL_removeItem_3 : decode cL_removeItem 3 = .ok (.iload_n 1, 1) := by decide +kernel
theorem dL_removeItem_4 : decode cL_removeItem 4 = .ok (.invokevirtual 32, 3) := by decide +kernel
theorem dL_removeItem_7 : decode cL_removeItem 7 = .ok (.i2l, 1) := by decide +kernel
theorem dL_removeItem_8 : decode cL_removeItem 8 = .ok (.lastore, 1) := by decide +kernel
theorem dL_removeItem_9 : decode cL_removeItem 9 = .ok (.goto 6, 3) := by decide +kernel
theorem dL_removeItem_12 : decode cL_removeItem 12 = .ok (.astore_n 3, 1) := by decide +kernel
theorem dL_removeItem_13 : decode cL_removeItem 13 = .ok (.iconst 1, 1) := by decide +kernel
theorem dL_removeItem_14 : decode cL_removeItem 14 = .ok (.ireturn, 1) := by decide +kernel
theorem dL_removeItem_15 : decode cL_removeItem 15 = .ok (.iconst 0, 1) := by decide +kernel
theorem dL_removeItem_16 : decode cL_removeItem 16 = .ok (.ireturn, 1) := by decide +kernel
theorem dL_setProperty_0 : decode cL_setProperty 0 = .ok (.aload 4, 2) := by decide +kernel
theorem dL_setProperty_2 : decode cL_setProperty 2 = .ok (.iconst 0, 1) := by decide +kernel
theorem dL_setProperty_3 : decode cL_setProperty 3 = .ok (.aload_n 0, 1) := by decide +kernel
theorem dL_setProperty_4 : decode cL_setProperty 4 = .ok (.iload_n 1, 1) := by decide +kernel
theorem dL_setProperty_5 : decode cL_setProperty 5 = .ok (.iload_n 2, 1) := by decide +kernel
theorem dL_setProperty_6 : decode cL_setProperty 6 = .ok (.iload_n 3, 1) := by decide +kernel
theorem dL_setProperty_7 : decode cL_setProperty 7 = .ok (.invokevirtual 35, 3) := by decide +kernel
theorem dL_setProperty_10 : decode cL_setProperty 10 = .ok (.i2l, 1) := by decide +kernel
theorem dL_setProperty_11 : decode cL_setProperty 11 = .ok (.lastore, 1) := by decide +kernel
theorem dL_setProperty_12 : decode cL_setProperty 12 = .ok (.goto 11, 3) := by decide +kernel
theorem dL_setProperty_15 : decode cL_setProperty 15 = .ok (.astore 5, 2) := by decide +kernel
theorem dL_setProperty_17 : decode cL_setProperty 17 = .ok (.iconst 1, 1) := by decide +kernel
theorem dL_setProperty_18 : decode cL_setProperty 18 = .ok (.ireturn, 1) := by decide +kernel
theorem dL_setProperty_19 : decode cL_setProperty 19 = .ok (.astore 5, 2) := by decide +kernel
theorem dL_setProperty_21 : decode cL_setProperty 21 = .ok (.iconst 2, 1) := by decide +kernel
theorem dL_setProperty_22 : decode cL_setProperty 22 = .ok (.ireturn, 1) := by decide +kernel
theorem dL_setProperty_23 : decode cL_setProperty 23 = .ok (.iconst 0, 1) := by decide +kernel
theorem dL_setProperty_24 : decode cL_setProperty 24 = .ok (.ireturn, 1) := by decide +kernel
theorem dL_property_0 : decode cL_property 0 = .ok (.aload_n 3, 1) := by decide +kernel
theorem dL_property_1 : decode cL_property 1 = .ok (.iconst 0, 1) := by decide +kernel
theorem dL_property_2 : decode cL_property 2 = .ok (.aload_n 0, 1) := by decide +kernel
theorem dL_property_3 : decode cL_property 3 = .ok (.iload_n 1, 1) := by decide +kernel
theorem dL_property_4 : decode cL_property 4 = .ok (.iload_n 2, 1) := by decide +kernel
theorem dL_property_5 : decode cL_property 5 = .ok (.invokevirtual 39, 3) := by decide +kernel
theorem dL_property_8 : decode cL_property 8 = .ok (.i2l, 1) := by decide +kernel
theorem dL_property_9 : decode cL_property 9 = .ok (.lastore, 1) := by decide +kernel
theorem dL_property_10 : decode cL_property 10 = .ok (.goto 7, 3) := by decide +kernel
theorem dL_property_13 : decode cL_property 13 = .ok (.astore 4, 2) := by decide +kernel
theorem dL_property_15 : decode cL_property 15 = .ok (.iconst 1, 1) := by decide +kernel
theorem dL_property_16 : decode cL_property 16 = .ok (.ireturn, 1) := by decide +kernel
theorem dL_property_17 : decode cL_property 17 = .ok (.iconst 0, 1) := by decide +kernel
theorem dL_property_18 : decode cL_property 18 = .ok (.ireturn, 1) := by decide +kernel
theorem dL_feed_0 : decode cL_feed 0 = .ok (.aload_n 2, 1) := by decide +kernel
theorem dL_feed_1 : decode cL_feed 1 = .ok (.iconst 0, 1) := by decide +kernel
theorem dL_feed_2 : decode cL_feed 2 = .ok (.aload_n 0, 1) := by decide +kernel
theorem dL_feed_3 : decode cL_feed 3 = .ok (.iload_n 1, 1) := by decide +kernel
theorem dL_feed_4 : decode cL_feed 4 = .ok (.invokevirtual 42, 3) := by decide +kernel
theorem dL_feed_7 : decode cL_feed 7 = .ok (.i2l, 1) := by decide +kernel
theorem dL_feed_8 : decode cL_feed 8 = .ok (.lastore, 1) := by decide +kernel
theorem dL_feed_9 : decode cL_feed 9 = .ok (.goto 6, 3) := by decide +kernel
theorem dL_feed_12 : decode cL_feed 12 = .ok (.astore_n 3, 1) := by decide +kernel
theorem dL_feed_13 : decode cL_feed 13 = .ok (.iconst 1, 1) := by decide +kernel
theorem dL_feed_14 : decode cL_feed 14 = .ok (.ireturn, 1) := by decide +kernel
theorem dL_feed_15 : decode cL_feed 15 = .ok (.iconst 0, 1) := by decide +kernel
theorem dL_feed_16 : decode cL_feed 16 = .ok (.ireturn, 1) := by decide +kernel
theorem dL_readItem_0 : decode cL_readItem 0 = .ok (.aload_n 1, 1) := by decide +kernel
theorem dL_readItem_1 : decode cL_readItem 1 = .ok (.iconst 0, 1) := by decide +kernel
theorem dL_readItem_2 : decode cL_readItem 2 = .ok (.aload_n 0, 1) := by decide +kernel
theorem dL_readItem_3 : decode cL_readItem 3 = .ok (.invokevirtual 46, 3) := by decide +kernel
theorem dL_readItem_6 : decode cL_readItem 6 = .ok (.i2l, 1) := by decide +kernel
theorem dL_readItem_7 : decode cL_readItem 7 = .ok (.lastore, 1) := by decide +kernel
theorem dL_readItem_8 : decode cL_readItem 8 = .ok (.goto 6, 3) := by decide +kernel
theorem dL_readItem_11 : decode cL_readItem 11 = .ok (.astore_n 2, 1) := by decide +kernel
theorem dL_readItem_12 : decode cL_readItem 12 = .ok (.iconst 1, 1) := by decide +kernel
theorem dL_readItem_13 : decode cL_readItem 13 = .ok (.ireturn, 1) := by decide +kernel
theorem dL_readItem_14 : decode cL_readItem 14 = .ok (.iconst 0, 1) := by decide +kernel
theorem dL_readItem_15 : decode cL_readItem 15 = .ok (.ireturn, 1) := by decide +kernel
theorem dL_lineOf_0 : decode cL_lineOf 0 = .ok (.aload_n 2, 1) := by decide +kernel
theorem dL_lineOf_1 : decode cL_lineOf 1 = .ok (.iconst 0, 1) := by decide +kernel
theorem dL_lineOf_2 : decode cL_lineOf 2 = .ok (.aload_n 0, 1) := by decide +kernel
theorem dL_lineOf_3 : decode cL_lineOf 3 = .ok (.iload_n 1, 1) := by decide +kernel
theorem dL_lineOf_4 : decode cL_lineOf 4 = .ok (.invokevirtual 50, 3) := by decide +kernel
theorem dL_lineOf_7 : decode cL_lineOf 7 = .ok (.i2l, 1) := by decide +kernel
theorem dL_lineOf_8 : decode cL_lineOf 8 = .ok (.lastore, 1) := by decide +kernel
theorem dL_lineOf_9 : decode cL_lineOf 9 = .ok (.goto 6, 3) := by decide +kernel
theorem dL_lineOf_12 : decode cL_lineOf 12 = .ok (.astore_n 3, 1) := by decide +kernel
theorem dL_lineOf_13 : decode cL_lineOf 13 = .ok (.iconst 1, 1) := by decide +kernel
theorem dL_lineOf_14 : decode cL_lineOf 14 = .ok (.ireturn, 1) := by decide +kernel
theorem dL_lineOf_15 : decode cL_lineOf 15 = .ok (.iconst 0, 1) := by decide +kernel
theorem dL_lineOf_16 : decode cL_lineOf 16 = .ok (.ireturn, 1) := by decide +kernel
theorem dL_itemAt_0 : decode cL_itemAt 0 = .ok (.aload_n 2, 1) := by decide +kernel
theorem dL_itemAt_1 : decode cL_itemAt 1 = .ok (.iconst 0, 1) := by decide +kernel
theorem dL_itemAt_2 : decode cL_itemAt 2 = .ok (.aload_n 0, 1) := by decide +kernel
theorem dL_itemAt_3 : decode cL_itemAt 3 = .ok (.iload_n 1, 1) := by decide +kernel
theorem dL_itemAt_4 : decode cL_itemAt 4 = .ok (.invokevirtual 53, 3) := by decide +kernel
theorem dL_itemAt_7 : decode cL_itemAt 7 = .ok (.i2l, 1) := by decide +kernel
theorem dL_itemAt_8 : decode cL_itemAt 8 = .ok (.lastore, 1) := by decide +kernel
theorem dL_itemAt_9 : decode cL_itemAt 9 = .ok (.goto 6, 3) := by decide +kernel
theorem dL_itemAt_12 : decode cL_itemAt 12 = .ok (.astore_n 3, 1) := by decide +kernel
theorem dL_itemAt_13 : decode cL_itemAt 13 = .ok (.iconst 1, 1) := by decide +kernel
theorem dL_itemAt_14 : decode cL_itemAt 14 = .ok (.ireturn, 1) := by decide +kernel
theorem dL_itemAt_15 : decode cL_itemAt 15 = .ok (.iconst 0, 1) := by decide +kernel
theorem dL_itemAt_16 : decode cL_itemAt 16 = .ok (.ireturn, 1) := by decide +kernel
theorem dL_hypotheticalSize_0 : decode cL_hypotheticalSize 0 = .ok (.aload_n 2, 1) := by decide +kernel
theorem dL_hypotheticalSize_1 : decode cL_hypotheticalSize 1 = .ok (.iconst 0, 1) := by decide +kernel
theorem dL_hypotheticalSize_2 : decode cL_hypotheticalSize 2 = .ok (.aload_n 0, 1) := by decide +kernel
theorem dL_hypotheticalSize_3 : decode cL_hypotheticalSize 3 = .ok (.iload_n 1, 1) := by decide +kernel
theorem dL_hypotheticalSize_4 : decode cL_hypotheticalSize 4 = .ok (.invokevirtual 56, 3) := by decide +kernel
theorem dL_hypotheticalSize_7 : decode cL_hypotheticalSize 7 = .ok (.i2l, 1) := by decide +kernel
theorem dL_hypotheticalSize_8 : decode cL_hypotheticalSize 8 = .ok (.lastore, 1) := by decide +kernel
theorem dL_hypotheticalSize_9 : decode cL_hypotheticalSize 9 = .ok (.goto 6, 3) := by decide +kernel
theorem dL_hypotheticalSize_12 : decode cL_hypotheticalSize 12 = .ok (.astore_n 3, 1) := by decide +kernel
theorem dL_hypotheticalSize_13 : decode cL_hypotheticalSize 13 = .ok (.iconst 1, 1) := by decide +kernel
theorem dL_hypotheticalSize_14 : decode cL_hypotheticalSize 14 = .ok (.ireturn, 1) := by decide +kernel
theorem dL_hypotheticalSize_15 : decode cL_hypotheticalSize 15 = .ok (.iconst 0, 1) := by decide +kernel
theorem dL_hypotheticalSize_16 : decode cL_hypotheticalSize 16 = .ok (.ireturn, 1) := by decide +kernel
theorem dL_box_0 : decode cL_box 0 = .ok (.aload_n 3, 1) := by decide +kernel
theorem dL_box_1 : decode cL_box 1 = .ok (.iconst 0, 1) := by decide +kernel
theorem dL_box_2 : decode cL_box 2 = .ok (.aload_n 0, 1) := by decide +kernel
theorem dL_box_3 : decode cL_box 3 = .ok (.iload_n 1, 1) := by decide +kernel
theorem dL_box_4 : decode cL_box 4 = .ok (.iload_n 2, 1) := by decide +kernel
theorem dL_box_5 : decode cL_box 5 = .ok (.invokevirtual 59, 3) := by decide +kernel
theorem dL_box_8 : decode cL_box 8 = .ok (.i2l, 1) := by decide +kernel
theorem dL_box_9 : decode cL_box 9 = .ok (.lastore, 1) := by decide +kernel
theorem dL_box_10 : decode cL_box 10 = .ok (.goto 7, 3) := by decide +kernel
theorem dL_box_13 : decode cL_box 13 = .ok (.astore 4, 2) := by decide +kernel
theorem dL_box_15 : decode cL_box 15 = .ok (.iconst 1, 1) := by decide +kernel
theorem dL_box_16 : decode cL_box 16 = .ok (.ireturn, 1) := by decide +kernel
theorem dL_box_17 : decode cL_box 17 = .ok (.iconst 0, 1) := by decide +kernel
theorem dL_box_18 : decode cL_box 18 = .ok (.ireturn, 1) := by decide +kernel
theorem dL_rounds_0 : decode cL_rounds 0 = .ok (.aload_n 2, 1) := by decide +kernel
theorem dL_rounds_1 : decode cL_rounds 1 = .ok (.iconst 0, 1) := by decide +kernel
theorem dL_rounds_2 : decode cL_rounds 2 = .ok (.aload_n 0, 1) := by decide +kernel
theorem dL_rounds_3 : decode cL_rounds 3 = .ok (.iload_n 1, 1) := by decide +kernel
theorem dL_rounds_4 : decode cL_rounds 4 = .ok (.invokevirtual 62, 3) := by decide +kernel
theorem dL_rounds_7 : decode cL_rounds 7 = .ok (.i2l, 1) := by decide +kernel
theorem dL_rounds_8 : decode cL_rounds 8 = .ok (.lastore, 1) := by decide +kernel
theorem dL_rounds_9 : decode cL_rounds 9 = .ok (.goto 6, 3) := by decide +kernel
theorem dL_rounds_12 : decode cL_rounds 12 = .ok (.astore_n 3, 1) := by decide +kernel
theorem dL_rounds_13 : decode cL_rounds 13 = .ok (.iconst 1, 1) := by decide +kernel
theorem dL_rounds_14 : decode cL_rounds 14 = .ok (.ireturn, 1) := by decide +kernel
theorem dL_rounds_15 : decode cL_rounds 15 = .ok (.iconst 0, 1) := by decide +kernel
theorem dL_rounds_16 : decode cL_rounds 16 = .ok (.ireturn, 1) := by decide +kernel
theorem dL_freeSpace_0 : decode cL_freeSpace 0 = .ok (.aload_n 2, 1) := by decide +kernel
theorem dL_freeSpace_1 : decode cL_freeSpace 1 = .ok (.iconst 0, 1) := by decide +kernel
theorem dL_freeSpace_2 : decode cL_freeSpace 2 = .ok (.aload_n 0, 1) := by decide +kernel
theorem dL_freeSpace_3 : decode cL_freeSpace 3 = .ok (.iload_n 1, 1) := by decide +kernel
theorem dL_freeSpace_4 : decode cL_freeSpace 4 = .ok (.invokevirtual 65, 3) := by decide +kernel
theorem dL_freeSpace_7 : decode cL_freeSpace 7 = .ok (.i2l, 1) := by decide +kernel
theorem dL_freeSpace_8 : decode cL_freeSpace 8 = .ok (.lastore, 1) := by decide +kernel
theorem dL_freeSpace_9 : decode cL_freeSpace 9 = .ok (.goto 6, 3) := by decide +kernel
theorem dL_freeSpace_12 : decode cL_freeSpace 12 = .ok (.astore_n 3, 1) := by decide +kernel
theorem dL_freeSpace_13 : decode cL_freeSpace 13 = .ok (.iconst 1, 1) := by decide +kernel
theorem dL_freeSpace_14 : decode cL_freeSpace 14 = .ok (.ireturn, 1) := by decide +kernel
theorem dL_freeSpace_15 : decode cL_freeSpace 15 = .ok (.iconst 0, 1) := by decide +kernel
theorem dL_freeSpace_16 : decode cL_freeSpace 16 = .ok (.ireturn, 1) := by decide +kernel
theorem dL_lineCross_0 : decode cL_lineCross 0 = .ok (.aload_n 2, 1) := by decide +kernel
theorem dL_lineCross_1 : decode cL_lineCross 1 = .ok (.iconst 0, 1) := by decide +kernel
theorem dL_lineCross_2 : decode cL_lineCross 2 = .ok (.aload_n 0, 1) := by decide +kernel
theorem dL_lineCross_3 : decode cL_lineCross 3 = .ok (.iload_n 1, 1) := by decide +kernel
theorem dL_lineCross_4 : decode cL_lineCross 4 = .ok (.invokevirtual 68, 3) := by decide +kernel
theorem dL_lineCross_7 : decode cL_lineCross 7 = .ok (.i2l, 1) := by decide +kernel
theorem dL_lineCross_8 : decode cL_lineCross 8 = .ok (.lastore, 1) := by decide +kernel
theorem dL_lineCross_9 : decode cL_lineCross 9 = .ok (.goto 6, 3) := by decide +kernel
theorem dL_lineCross_12 : decode cL_lineCross 12 = .ok (.astore_n 3, 1) := by decide +kernel
theorem dL_lineCross_13 : decode cL_lineCross 13 = .ok (.iconst 1, 1) := by decide +kernel
theorem dL_lineCross_14 : decode cL_lineCross 14 = .ok (.ireturn, 1) := by decide +kernel
theorem dL_lineCross_15 : decode cL_lineCross 15 = .ok (.iconst 0, 1) := by decide +kernel
theorem dL_lineCross_16 : decode cL_lineCross 16 = .ok (.ireturn, 1) := by decide +kernel
theorem dL_lineAscent_0 : decode cL_lineAscent 0 = .ok (.aload_n 2, 1) := by decide +kernel
theorem dL_lineAscent_1 : decode cL_lineAscent 1 = .ok (.iconst 0, 1) := by decide +kernel
theorem dL_lineAscent_2 : decode cL_lineAscent 2 = .ok (.aload_n 0, 1) := by decide +kernel
theorem dL_lineAscent_3 : decode cL_lineAscent 3 = .ok (.iload_n 1, 1) := by decide +kernel
theorem dL_lineAscent_4 : decode cL_lineAscent 4 = .ok (.invokevirtual 71, 3) := by decide +kernel
theorem dL_lineAscent_7 : decode cL_lineAscent 7 = .ok (.i2l, 1) := by decide +kernel
theorem dL_lineAscent_8 : decode cL_lineAscent 8 = .ok (.lastore, 1) := by decide +kernel
theorem dL_lineAscent_9 : decode cL_lineAscent 9 = .ok (.goto 6, 3) := by decide +kernel
theorem dL_lineAscent_12 : decode cL_lineAscent 12 = .ok (.astore_n 3, 1) := by decide +kernel
theorem dL_lineAscent_13 : decode cL_lineAscent 13 = .ok (.iconst 1, 1) := by decide +kernel
theorem dL_lineAscent_14 : decode cL_lineAscent 14 = .ok (.ireturn, 1) := by decide +kernel
theorem dL_lineAscent_15 : decode cL_lineAscent 15 = .ok (.iconst 0, 1) := by decide +kernel
theorem dL_lineAscent_16 : decode cL_lineAscent 16 = .ok (.ireturn, 1) := by decide +kernel
theorem dL_overflows_0 : decode cL_overflows 0 = .ok (.aload_n 2, 1) := by decide +kernel
theorem dL_overflows_1 : decode cL_overflows 1 = .ok (.iconst 0, 1) := by decide +kernel
theorem dL_overflows_2 : decode cL_overflows 2 = .ok (.aload_n 0, 1) := by decide +kernel
theorem dL_overflows_3 : decode cL_overflows 3 = .ok (.iload_n 1, 1) := by decide +kernel
theorem dL_overflows_4 : decode cL_overflows 4 = .ok (.invokevirtual 74, 3) := by decide +kernel
theorem dL_overflows_7 : decode cL_overflows 7 = .ok (.ifCond .eq 7, 3) := by decide +kernel
theorem dL_overflows_10 : decode cL_overflows 10 = .ok (.lconst 1, 1) := by decide +kernel
theorem dL_overflows_11 : decode cL_overflows 11 = .ok (.goto 4, 3) := by decide +kernel
theorem dL_overflows_14 : decode cL_overflows 14 = .ok (.lconst 0, 1) := by decide +kernel
theorem dL_overflows_15 : decode cL_overflows 15 = .ok (.lastore, 1) := by decide +kernel
theorem dL_overflows_16 : decode cL_overflows 16 = .ok (.goto 6, 3) := by decide +kernel
theorem dL_overflows_19 : decode cL_overflows 19 = .ok (.astore_n 3, 1) := by decide +kernel
theorem dL_overflows_20 : decode cL_overflows 20 = .ok (.iconst 1, 1) := by decide +kernel
theorem dL_overflows_21 : decode cL_overflows 21 = .ok (.ireturn, 1) := by decide +kernel
theorem dL_overflows_22 : decode cL_overflows 22 = .ok (.iconst 0, 1) := by decide +kernel
theorem dL_overflows_23 : decode cL_overflows 23 = .ok (.ireturn, 1) := by decide +kernel
theorem dL_itemUnder_0 : decode cL_itemUnder 0 = .ok (.aload_n 3, 1) := by decide +kernel
theorem dL_itemUnder_1 : decode cL_itemUnder 1 = .ok (.iconst 0, 1) := by decide +kernel
theorem dL_itemUnder_2 : decode cL_itemUnder 2 = .ok (.aload_n 0, 1) := by decide +kernel
theorem dL_itemUnder_3 : decode cL_itemUnder 3 = .ok (.iload_n 1, 1) := by decide +kernel
theorem dL_itemUnder_4 : decode cL_itemUnder 4 = .ok (.iload_n 2, 1) := by decide +kernel
theorem dL_itemUnder_5 : decode cL_itemUnder 5 = .ok (.invokevirtual 78, 3) := by decide +kernel
theorem dL_itemUnder_8 : decode cL_itemUnder 8 = .ok (.i2l, 1) := by decide +kernel
theorem dL_itemUnder_9 : decode cL_itemUnder 9 = .ok (.lastore, 1) := by decide +kernel
theorem dL_itemUnder_10 : decode cL_itemUnder 10 = .ok (.goto 7, 3) := by decide +kernel
theorem dL_itemUnder_13 : decode cL_itemUnder 13 = .ok (.astore 4, 2) := by decide +kernel
theorem dL_itemUnder_15 : decode cL_itemUnder 15 = .ok (.iconst 1, 1) := by decide +kernel
theorem dL_itemUnder_16 : decode cL_itemUnder 16 = .ok (.ireturn, 1) := by decide +kernel
theorem dL_itemUnder_17 : decode cL_itemUnder 17 = .ok (.iconst 0, 1) := by decide +kernel
theorem dL_itemUnder_18 : decode cL_itemUnder 18 = .ok (.ireturn, 1) := by decide +kernel
theorem dL_narrowest_0 : decode cL_narrowest 0 = .ok (.aload_n 2, 1) := by decide +kernel
theorem dL_narrowest_1 : decode cL_narrowest 1 = .ok (.iconst 0, 1) := by decide +kernel
theorem dL_narrowest_2 : decode cL_narrowest 2 = .ok (.aload_n 0, 1) := by decide +kernel
theorem dL_narrowest_3 : decode cL_narrowest 3 = .ok (.iload_n 1, 1) := by decide +kernel
theorem dL_narrowest_4 : decode cL_narrowest 4 = .ok (.invokevirtual 83, 3) := by decide +kernel
theorem dL_narrowest_7 : decode cL_narrowest 7 = .ok (.i2l, 1) := by decide +kernel
theorem dL_narrowest_8 : decode cL_narrowest 8 = .ok (.lastore, 1) := by decide +kernel
theorem dL_narrowest_9 : decode cL_narrowest 9 = .ok (.goto 9, 3) := by decide +kernel
theorem dL_narrowest_12 : decode cL_narrowest 12 = .ok (.astore_n 3, 1) := by decide +kernel
theorem dL_narrowest_13 : decode cL_narrowest 13 = .ok (.iconst 1, 1) := by decide +kernel
theorem dL_narrowest_14 : decode cL_narrowest 14 = .ok (.ireturn, 1) := by decide +kernel
theorem dL_narrowest_15 : decode cL_narrowest 15 = .ok (.astore_n 3, 1) := by decide +kernel
theorem dL_narrowest_16 : decode cL_narrowest 16 = .ok (.iconst 2, 1) := by decide +kernel
theorem dL_narrowest_17 : decode cL_narrowest 17 = .ok (.ireturn, 1) := by decide +kernel
theorem dL_narrowest_18 : decode cL_narrowest 18 = .ok (.iconst 0, 1) := by decide +kernel
theorem dL_narrowest_19 : decode cL_narrowest 19 = .ok (.ireturn, 1) := by decide +kernel
theorem dL_share_0 : decode cL_share 0 = .ok (.aload 4, 2) := by decide +kernel
theorem dL_share_2 : decode cL_share 2 = .ok (.iconst 0, 1) := by decide +kernel
theorem dL_share_3 : decode cL_share 3 = .ok (.aload_n 0, 1) := by decide +kernel
theorem dL_share_4 : decode cL_share 4 = .ok (.iload_n 1, 1) := by decide +kernel
theorem dL_share_5 : decode cL_share 5 = .ok (.iload_n 2, 1) := by decide +kernel
theorem dL_share_6 : decode cL_share 6 = .ok (.iload_n 3, 1) := by decide +kernel
theorem dL_share_7 : decode cL_share 7 = .ok (.invokevirtual 86, 3) := by decide +kernel
theorem dL_share_10 : decode cL_share 10 = .ok (.i2l, 1) := by decide +kernel
theorem dL_share_11 : decode cL_share 11 = .ok (.lastore, 1) := by decide +kernel
theorem dL_share_12 : decode cL_share 12 = .ok (.goto 15, 3) := by decide +kernel
theorem dL_share_15 : decode cL_share 15 = .ok (.astore 5, 2) := by decide +kernel
theorem dL_share_17 : decode cL_share 17 = .ok (.iconst 1, 1) := by decide +kernel
theorem dL_share_18 : decode cL_share 18 = .ok (.ireturn, 1) := by decide +kernel
theorem dL_share_19 : decode cL_share 19 = .ok (.astore 5, 2) := by decide +kernel
theorem dL_share_21 : decode cL_share 21 = .ok (.iconst 2, 1) := by decide +kernel
theorem dL_share_22 : decode cL_share 22 = .ok (.ireturn, 1) := by decide +kernel
theorem dL_share_23 : decode cL_share 23 = .ok (.astore 5, 2) := by decide +kernel
theorem dL_share_25 : decode cL_share 25 = .ok (.iconst 3, 1) := by decide +kernel
theorem dL_share_26 : decode cL_share 26 = .ok (.ireturn, 1) := by decide +kernel
theorem dL_share_27 : decode cL_share 27 = .ok (.iconst 0, 1) := by decide +kernel
theorem dL_share_28 : decode cL_share 28 = .ok (.ireturn, 1) := by decide +kernel
theorem dL_restore_0 : decode cL_restore 0 = .ok (.aload_n 1, 1) := by decide +kernel
theorem dL_restore_1 : decode cL_restore 1 = .ok (.iconst 0, 1) := by decide +kernel
theorem dL_restore_2 : decode cL_restore 2 = .ok (.aload_n 0, 1) := by decide +kernel
theorem dL_restore_3 : decode cL_restore 3 = .ok (.invokevirtual 91, 3) := by decide +kernel
theorem dL_restore_6 : decode cL_restore 6 = .ok (.i2l, 1) := by decide +kernel
theorem dL_restore_7 : decode cL_restore 7 = .ok (.lastore, 1) := by decide +kernel
theorem dL_restore_8 : decode cL_restore 8 = .ok (.goto 6, 3) := by decide +kernel
theorem dL_restore_11 : decode cL_restore 11 = .ok (.astore_n 2, 1) := by decide +kernel
theorem dL_restore_12 : decode cL_restore 12 = .ok (.iconst 1, 1) := by decide +kernel
theorem dL_restore_13 : decode cL_restore 13 = .ok (.ireturn, 1) := by decide +kernel
theorem dL_restore_14 : decode cL_restore 14 = .ok (.iconst 0, 1) := by decide +kernel
theorem dL_restore_15 : decode cL_restore 15 = .ok (.ireturn, 1) := by decide +kernel
theorem dL_law_0 : decode cL_law 0 = .ok (.new 8, 3) := by decide +kernel
theorem dL_law_3 : decode cL_law 3 = .ok (.dup, 1) := by decide +kernel
theorem dL_law_4 : decode cL_law 4 = .ok (.invokespecial 94, 3) := by decide +kernel
theorem dL_law_7 : decode cL_law 7 = .ok (.astore_n 1, 1) := by decide +kernel
theorem dL_law_8 : decode cL_law 8 = .ok (.new 95, 3) := by decide +kernel
theorem dL_law_11 : decode cL_law 11 = .ok (.dup, 1) := by decide +kernel
theorem dL_law_12 : decode cL_law 12 = .ok (.invokespecial 97, 3) := by decide +kernel
theorem dL_law_15 : decode cL_law 15 = .ok (.astore_n 2, 1) := by decide +kernel
theorem dL_law_16 : decode cL_law 16 = .ok (.iconst 1, 1) := by decide +kernel
theorem dL_law_17 : decode cL_law 17 = .ok (.newarray .long, 2) := by decide +kernel
theorem dL_law_19 : decode cL_law 19 = .ok (.astore_n 3, 1) := by decide +kernel
theorem dL_law_20 : decode cL_law 20 = .ok (.iconst 0, 1) := by decide +kernel
theorem dL_law_21 : decode cL_law 21 = .ok (.istore 4, 2) := by decide +kernel
theorem dL_law_23 : decode cL_law 23 = .ok (.iload 4, 2) := by decide +kernel
theorem dL_law_25 : decode cL_law 25 = .ok (.aload_n 0, 1) := by decide +kernel
theorem dL_law_26 : decode cL_law 26 = .ok (.arraylength, 1) := by decide +kernel
theorem dL_law_27 : decode cL_law 27 = .ok (.iconst 4, 1) := by decide +kernel
theorem dL_law_28 : decode cL_law 28 = .ok (.isub, 1) := by decide +kernel
theorem dL_law_29 : decode cL_law 29 = .ok (.if_icmp .gt 1599, 3) := by decide +kernel
theorem dL_law_32 : decode cL_law 32 = .ok (.aload_n 0, 1) := by decide +kernel
theorem dL_law_33 : decode cL_law 33 = .ok (.iload 4, 2) := by decide +kernel
theorem dL_law_35 : decode cL_law 35 = .ok (.iaload, 1) := by decide +kernel
theorem dL_law_36 : decode cL_law 36 = .ok (.bipush 31, 2) := by decide +kernel
theorem dL_law_38 : decode cL_law 38 = .ok (.iand, 1) := by decide +kernel
theorem dL_law_39 : decode cL_law 39 = .ok (.tableswitch 1583 0 27 #[125, 181, 237, 305, 373, 441, 497, 510, 590, 658, 716, 760, 773, 829, 885, 941, 1009, 1065, 1121, 1177, 1233, 1246, 1309, 1377, 1390, 1446, 1526, 1539], 125) := by decide +kernel
theorem dL_law_164 : decode cL_law 164 = .ok (.aload_n 1, 1) := by decide +kernel
theorem dL_law_165 : decode cL_law 165 = .ok (.aload_n 0, 1) := by decide +kernel
theorem dL_law_166 : decode cL_law 166 = .ok (.iload 4, 2) := by decide +kernel
theorem dL_law_168 : decode cL_law 168 = .ok (.iconst 1, 1) := by decide +kernel
theorem dL_law_169 : decode cL_law 169 = .ok (.iadd, 1) := by decide +kernel
theorem dL_law_170 : decode cL_law 170 = .ok (.iaload, 1) := by decide +kernel
theorem dL_law_171 : decode cL_law 171 = .ok (.aload_n 3, 1) := by decide +kernel
theorem dL_law_172 : decode cL_law 172 = .ok (.invokestatic 98, 3) := by decide +kernel
theorem dL_law_175 : decode cL_law 175 = .ok (.istore 5, 2) := by decide +kernel
theorem dL_law_177 : decode cL_law 177 = .ok (.aload_n 2, 1) := by decide +kernel
theorem dL_law_178 : decode cL_law 178 = .ok (.aload_n 0, 1) := by decide +kernel
theorem dL_law_179 : decode cL_law 179 = .ok (.iload 4, 2) := by decide +kernel
theorem dL_law_181 : decode cL_law 181 = .ok (.iconst 1, 1) := by decide +kernel
theorem dL_law_182 : decode cL_law 182 = .ok (.iadd, 1) := by decide +kernel
theorem dL_law_183 : decode cL_law 183 = .ok (.iaload, 1) := by decide +kernel
theorem dL_law_184 : decode cL_law 184 = .ok (.invokevirtual 103, 3) := by decide +kernel
theorem dL_law_187 : decode cL_law 187 = .ok (.istore 6, 2) := by decide +kernel
theorem dL_law_189 : decode cL_law 189 = .ok (.aload_n 2, 1) := by decide +kernel
theorem dL_law_190 : decode cL_law 190 = .ok (.invokevirtual 104, 3) := by decide +kernel
theorem dL_law_193 : decode cL_law 193 = .ok (.iload 5, 2) := by decide +kernel
theorem dL_law_195 : decode cL_law 195 = .ok (.if_icmp .eq 5, 3) := by decide +kernel
theorem dL_law_198 : decode cL_law 198 = .ok (.iconst 0, 1) := by decide +kernel
theorem dL_law_199 : decode cL_law 199 = .ok (.ireturn, 1) := by decide +kernel
theorem dL_law_200 : decode cL_law 200 = .ok (.iload 5, 2) := by decide +kernel
theorem dL_law_202 : decode cL_law 202 = .ok (.ifCond .ne 15, 3) := by decide +kernel
theorem dL_law_205 : decode cL_law 205 = .ok (.aload_n 3, 1) := by decide +kernel
theorem dL_law_206 : decode cL_law 206 = .ok (.iconst 0, 1) := by decide +kernel
theorem dL_law_207 : decode cL_law 207 = .ok (.laload, 1) := by decide +kernel
theorem dL_law_208 : decode cL_law 208 = .ok (.iload 6, 2) := by decide +kernel
theorem dL_law_210 : decode cL_law 210 = .ok (.i2l, 1) := by decide +kernel
theorem dL_law_211 : decode cL_law 211 = .ok (.lcmp, 1) := by decide +kernel
theorem dL_law_212 : decode cL_law 212 = .ok (.ifCond .eq 5, 3) := by decide +kernel
theorem dL_law_215 : decode cL_law 215 = .ok (.iconst 0, 1) := by decide +kernel
theorem dL_law_216 : decode cL_law 216 = .ok (.ireturn, 1) := by decide +kernel
theorem dL_law_217 : decode cL_law 217 = .ok (.goto 1405, 3) := by decide +kernel
theorem dL_law_220 : decode cL_law 220 = .ok (.aload_n 1, 1) := by decide +kernel
theorem dL_law_221 : decode cL_law 221 = .ok (.aload_n 0, 1) := by decide +kernel
theorem dL_law_222 : decode cL_law 222 = .ok (.iload 4, 2) := by decide +kernel
theorem dL_law_224 : decode cL_law 224 = .ok (.iconst 1, 1) := by decide +kernel
theorem dL_law_225 : decode cL_law 225 = .ok (.iadd, 1) := by decide +kernel
theorem dL_law_226 : decode cL_law 226 = .ok (.iaload, 1) := by decide +kernel
theorem dL_law_227 : decode cL_law 227 = .ok (.aload_n 3, 1) := by decide +kernel
theorem dL_law_228 : decode cL_law 228 = .ok (.invokestatic 107, 3) := by decide +kernel
theorem dL_law_231 : decode cL_law 231 = .ok (.istore 5, 2) := by decide +kernel
theorem dL_law_233 : decode cL_law 233 = .ok (.aload_n 2, 1) := by decide +kernel
theorem dL_law_234 : decode cL_law 234 = .ok (.aload_n 0, 1) := by decide +kernel
theorem dL_law_235 : decode cL_law 235 = .ok (.iload 4, 2) := by decide +kernel
theorem dL_law_237 : decode cL_law 237 = .ok (.iconst 1, 1) := by decide +kernel
theorem dL_law_238 : decode cL_law 238 = .ok (.iadd, 1) := by decide +kernel
theorem dL_law_239 : decode cL_law 239 = .ok (.iaload, 1) := by decide +kernel
theorem dL_law_240 : decode cL_law 240 = .ok (.invokevirtual 109, 3) := by decide +kernel
theorem dL_law_243 : decode cL_law 243 = .ok (.istore 6, 2) := by decide +kernel
theorem dL_law_245 : decode cL_law 245 = .ok (.aload_n 2, 1) := by decide +kernel
theorem dL_law_246 : decode cL_law 246 = .ok (.invokevirtual 104, 3) := by decide +kernel
theorem dL_law_249 : decode cL_law 249 = .ok (.iload 5, 2) := by decide +kernel
theorem dL_law_251 : decode cL_law 251 = .ok (.if_icmp .eq 5, 3) := by decide +kernel
theorem dL_law_254 : decode cL_law 254 = .ok (.iconst 0, 1) := by decide +kernel
theorem dL_law_255 : decode cL_law 255 = .ok (.ireturn, 1) := by decide +kernel
theorem dL_law_256 : decode cL_law 256 = .ok (.iload 5, 2) := by decide +kernel
theorem dL_law_258 : decode cL_law 258 = .ok (.ifCond .ne 15, 3) := by decide +kernel
theorem dL_law_261 : decode cL_law 261 = .ok (.aload_n 3, 1) := by decide +kernel
theorem dL_law_262 : decode cL_law 262 = .ok (.iconst 0, 1) := by decide +kernel
theorem dL_law_263 : decode cL_law 263 = .ok (.laload, 1) := by decide +kernel
theorem dL_law_264 : decode cL_law 264 = .ok (.iload 6, 2) := by decide +kernel
theorem dL_law_266 : decode cL_law 266 = .ok (.i2l, 1) := by decide +kernel
theorem dL_law_267 : decode cL_law 267 = .ok (.lcmp, 1) := by decide +kernel
theorem dL_law_268 : decode cL_law 268 = .ok (.ifCond .eq 5, 3) := by decide +kernel
theorem dL_law_271 : decode cL_law 271 = .ok (.iconst 0, 1) := by decide +kernel
theorem dL_law_272 : decode cL_law 272 = .ok (.ireturn, 1) := by decide +kernel
theorem dL_law_273 : decode cL_law 273 = .ok (.goto 1349, 3) := by decide +kernel
theorem dL_law_276 : decode cL_law 276 = .ok (.aload_n 1, 1) := by decide +kernel
theorem dL_law_277 : decode cL_law 277 = .ok (.aload_n 0, 1) := by decide +kernel
theorem dL_law_278 : decode cL_law 278 = .ok (.iload 4, 2) := by decide +kernel
theorem dL_law_280 : decode cL_law 280 = .ok (.iconst 1, 1) := by decide +kernel
theorem dL_law_281 : decode cL_law 281 = .ok (.iadd, 1) := by decide +kernel
theorem dL_law_282 : decode cL_law 282 = .ok (.iaload, 1) := by decide +kernel
theorem dL_law_283 : decode cL_law 283 = .ok (.aload_n 0, 1) := by decide +kernel
theorem dL_law_284 : decode cL_law 284 = .ok (.iload 4, 2) := by decide +kernel
theorem dL_law_286 : decode cL_law 286 = .ok (.iconst 2, 1) := by decide +kernel
theorem dL_law_287 : decode cL_law 287 = .ok (.iadd, 1) := by decide +kernel
theorem dL_law_288 : decode cL_law 288 = .ok (.iaload, 1) := by decide +kernel
theorem dL_law_289 : decode cL_law 289 = .ok (.aload_n 3, 1) := by decide +kernel
theorem dL_law_290 : decode cL_law 290 = .ok (.invokestatic 110, 3) := by decide +kernel
theorem dL_law_293 : decode cL_law 293 = .ok (.istore 5, 2) := by decide +kernel
theorem dL_law_295 : decode cL_law 295 = .ok (.aload_n 2, 1) := by decide +kernel
theorem dL_law_296 : decode cL_law 296 = .ok (.aload_n 0, 1) := by decide +kernel
theorem dL_law_297 : decode cL_law 297 = .ok (.iload 4, 2) := by decide +kernel
theorem dL_law_299 : decode cL_law 299 = .ok (.iconst 1, 1) := by decide +kernel
theorem dL_law_300 : decode cL_law 300 = .ok (.iadd, 1) := by decide +kernel
theorem dL_law_301 : decode cL_law 301 = .ok (.iaload, 1) := by decide +kernel
theorem dL_law_302 : decode cL_law 302 = .ok (.aload_n 0, 1) := by decide +kernel
theorem dL_law_303 : decode cL_law 303 = .ok (.iload 4, 2) := by decide +kernel
theorem dL_law_305 : decode cL_law 305 = .ok (.iconst 2, 1) := by decide +kernel
theorem dL_law_306 : decode cL_law 306 = .ok (.iadd, 1) := by decide +kernel
theorem dL_law_307 : decode cL_law 307 = .ok (.iaload, 1) := by decide +kernel
theorem dL_law_308 : decode cL_law 308 = .ok (.invokevirtual 113, 3) := by decide +kernel
theorem dL_law_311 : decode cL_law 311 = .ok (.istore 6, 2) := by decide +kernel
theorem dL_law_313 : decode cL_law 313 = .ok (.aload_n 2, 1) := by decide +kernel
theorem dL_law_314 : decode cL_law 314 = .ok (.invokevirtual 104, 3) := by decide +kernel
theorem dL_law_317 : decode cL_law 317 = .ok (.iload 5, 2) := by decide +kernel
theorem dL_law_319 : decode cL_law 319 = .ok (.if_icmp .eq 5, 3) := by decide +kernel
theorem dL_law_322 : decode cL_law 322 = .ok (.iconst 0, 1) := by decide +kernel
theorem dL_law_323 : decode cL_law 323 = .ok (.ireturn, 1) := by decide +kernel
theorem dL_law_324 : decode cL_law 324 = .ok (.iload 5, 2) := by decide +kernel
theorem dL_law_326 : decode cL_law 326 = .ok (.ifCond .ne 15, 3) := by decide +kernel
theorem dL_law_329 : decode cL_law 329 = .ok (.aload_n 3, 1) := by decide +kernel
theorem dL_law_330 : decode cL_law 330 = .ok (.iconst 0, 1) := by decide +kernel
theorem dL_law_331 : decode cL_law 331 = .ok (.laload, 1) := by decide +kernel
theorem dL_law_332 : decode cL_law 332 = .ok (.iload 6, 2) := by decide +kernel
theorem dL_law_334 : decode cL_law 334 = .ok (.i2l, 1) := by decide +kernel
theorem dL_law_335 : decode cL_law 335 = .ok (.lcmp, 1) := by decide +kernel
theorem dL_law_336 : decode cL_law 336 = .ok (.ifCond .eq 5, 3) := by decide +kernel
theorem dL_law_339 : decode cL_law 339 = .ok (.iconst 0, 1) := by decide +kernel
theorem dL_law_340 : decode cL_law 340 = .ok (.ireturn, 1) := by decide +kernel
theorem dL_law_341 : decode cL_law 341 = .ok (.goto 1281, 3) := by decide +kernel
theorem dL_law_344 : decode cL_law 344 = .ok (.aload_n 1, 1) := by decide +kernel
theorem dL_law_345 : decode cL_law 345 = .ok (.aload_n 0, 1) := by decide +kernel
theorem dL_law_346 : decode cL_law 346 = .ok (.iload 4, 2) := by decide +kernel
theorem dL_law_348 : decode cL_law 348 = .ok (.iconst 1, 1) := by decide +kernel
theorem dL_law_349 : decode cL_law 349 = .ok (.iadd, 1) := by decide +kernel
theorem dL_law_350 : decode cL_law 350 = .ok (.iaload, 1) := by decide +kernel
theorem dL_law_351 : decode cL_law 351 = .ok (.aload_n 0, 1) := by decide +kernel
theorem dL_law_352 : decode cL_law 352 = .ok (.iload 4, 2) := by decide +kernel
theorem dL_law_354 : decode cL_law 354 = .ok (.iconst 2, 1) := by decide +kernel
theorem dL_law_355 : decode cL_law 355 = .ok (.iadd, 1) := by decide +kernel
theorem dL_law_356 : decode cL_law 356 = .ok (.iaload, 1) := by decide +kernel
theorem dL_law_357 : decode cL_law 357 = .ok (.aload_n 3, 1) := by decide +kernel
theorem dL_law_358 : decode cL_law 358 = .ok (.invokestatic 114, 3) := by decide +kernel
theorem dL_law_361 : decode cL_law 361 = .ok (.istore 5, 2) := by decide +kernel
theorem dL_law_363 : decode cL_law 363 = .ok (.aload_n 2, 1) := by decide +kernel
theorem dL_law_364 : decode cL_law 364 = .ok (.aload_n 0, 1) := by decide +kernel
theorem dL_law_365 : decode cL_law 365 = .ok (.iload 4, 2) := by decide +kernel
theorem dL_law_367 : decode cL_law 367 = .ok (.iconst 1, 1) := by decide +kernel
theorem dL_law_368 : decode cL_law 368 = .ok (.iadd, 1) := by decide +kernel
theorem dL_law_369 : decode cL_law 369 = .ok (.iaload, 1) := by decide +kernel
theorem dL_law_370 : decode cL_law 370 = .ok (.aload_n 0, 1) := by decide +kernel
theorem dL_law_371 : decode cL_law 371 = .ok (.iload 4, 2) := by decide +kernel
theorem dL_law_373 : decode cL_law 373 = .ok (.iconst 2, 1) := by decide +kernel
theorem dL_law_374 : decode cL_law 374 = .ok (.iadd, 1) := by decide +kernel
theorem dL_law_375 : decode cL_law 375 = .ok (.iaload, 1) := by decide +kernel
theorem dL_law_376 : decode cL_law 376 = .ok (.invokevirtual 116, 3) := by decide +kernel
theorem dL_law_379 : decode cL_law 379 = .ok (.istore 6, 2) := by decide +kernel
theorem dL_law_381 : decode cL_law 381 = .ok (.aload_n 2, 1) := by decide +kernel
theorem dL_law_382 : decode cL_law 382 = .ok (.invokevirtual 104, 3) := by decide +kernel
theorem dL_law_385 : decode cL_law 385 = .ok (.iload 5, 2) := by decide +kernel
theorem dL_law_387 : decode cL_law 387 = .ok (.if_icmp .eq 5, 3) := by decide +kernel
theorem dL_law_390 : decode cL_law 390 = .ok (.iconst 0, 1) := by decide +kernel
theorem dL_law_391 : decode cL_law 391 = .ok (.ireturn, 1) := by decide +kernel
theorem dL_law_392 : decode cL_law 392 = .ok (.iload 5, 2) := by decide +kernel
theorem dL_law_394 : decode cL_law 394 = .ok (.ifCond .ne 15, 3) := by decide +kernel
theorem dL_law_397 : decode cL_law 397 = .ok (.aload_n 3, 1) := by decide +kernel
theorem dL_law_398 : decode cL_law 398 = .ok (.iconst 0, 1) := by decide +kernel
theorem dL_law_399 : decode cL_law 399 = .ok (.laload, 1) := by decide +kernel
theorem dL_law_400 : decode cL_law 400 = .ok (.iload 6, 2) := by decide +kernel
theorem dL_law_402 : decode cL_law 402 = .ok (.i2l, 1) := by decide +kernel
theorem dL_law_403 : decode cL_law 403 = .ok (.lcmp, 1) := by decide +kernel
theorem dL_law_404 : decode cL_law 404 = .ok (.ifCond .eq 5, 3) := by decide +kernel
theorem dL_law_407 : decode cL_law 407 = .ok (.iconst 0, 1) := by decide +kernel
theorem dL_law_408 : decode cL_law 408 = .ok (.ireturn, 1) := by decide +kernel
theorem dL_law_409 : decode cL_law 409 = .ok (.goto 1213, 3) := by decide +kernel
theorem dL_law_412 : decode cL_law 412 = .ok (.aload_n 1, 1) := by decide +kernel
theorem dL_law_413 : decode cL_law 413 = .ok (.aload_n 0, 1) := by decide +kernel
theorem dL_law_414 : decode cL_law 414 = .ok (.iload 4, 2) := by decide +kernel
theorem dL_law_416 : decode cL_law 416 = .ok (.iconst 1, 1) := by decide +kernel
theorem dL_law_417 : decode cL_law 417 = .ok (.iadd, 1) := by decide +kernel
theorem dL_law_418 : decode cL_law 418 = .ok (.iaload, 1) := by decide +kernel
theorem dL_law_419 : decode cL_law 419 = .ok (.aload_n 0, 1) := by decide +kernel
theorem dL_law_420 : decode cL_law 420 = .ok (.iload 4, 2) := by decide +kernel
theorem dL_law_422 : decode cL_law 422 = .ok (.iconst 2, 1) := by decide +kernel
theorem dL_law_423 : decode cL_law 423 = .ok (.iadd, 1) := by decide +kernel
theorem dL_law_424 : decode cL_law 424 = .ok (.iaload, 1) := by decide +kernel
theorem dL_law_425 : decode cL_law 425 = .ok (.aload_n 3, 1) := by decide +kernel
theorem dL_law_426 : decode cL_law 426 = .ok (.invokestatic 117, 3) := by decide +kernel
theorem dL_law_429 : decode cL_law 429 = .ok (.istore 5, 2) := by decide +kernel
theorem dL_law_431 : decode cL_law 431 = .ok (.aload_n 2, 1) := by decide +kernel
theorem dL_law_432 : decode cL_law 432 = .ok (.aload_n 0, 1) := by decide +kernel
theorem dL_law_433 : decode cL_law 433 = .ok (.iload 4, 2) := by decide +kernel
theorem dL_law_435 : decode cL_law 435 = .ok (.iconst 1, 1) := by decide +kernel
theorem dL_law_436 : decode cL_law 436 = .ok (.iadd, 1) := by decide +kernel
theorem dL_law_437 : decode cL_law 437 = .ok (.iaload, 1) := by decide +kernel
theorem dL_law_438 : decode cL_law 438 = .ok (.aload_n 0, 1) := by decide +kernel
theorem dL_law_439 : decode cL_law 439 = .ok (.iload 4, 2) := by decide +kernel
theorem dL_law_441 : decode cL_law 441 = .ok (.iconst 2, 1) := by decide +kernel
theorem dL_law_442 : decode cL_law 442 = .ok (.iadd, 1) := by decide +kernel
theorem dL_law_443 : decode cL_law 443 = .ok (.iaload, 1) := by decide +kernel
theorem dL_law_444 : decode cL_law 444 = .ok (.invokevirtual 119, 3) := by decide +kernel
theorem dL_law_447 : decode cL_law 447 = .ok (.istore 6, 2) := by decide +kernel
theorem dL_law_449 : decode cL_law 449 = .ok (.aload_n 2, 1) := by decide +kernel
theorem dL_law_450 : decode cL_law 450 = .ok (.invokevirtual 104, 3) := by decide +kernel
theorem dL_law_453 : decode cL_law 453 = .ok (.iload 5, 2) := by decide +kernel
theorem dL_law_455 : decode cL_law 455 = .ok (.if_icmp .eq 5, 3) := by decide +kernel
theorem dL_law_458 : decode cL_law 458 = .ok (.iconst 0, 1) := by decide +kernel
theorem dL_law_459 : decode cL_law 459 = .ok (.ireturn, 1) := by decide +kernel
theorem dL_law_460 : decode cL_law 460 = .ok (.iload 5, 2) := by decide +kernel
theorem dL_law_462 : decode cL_law 462 = .ok (.ifCond .ne 15, 3) := by decide +kernel
theorem dL_law_465 : decode cL_law 465 = .ok (.aload_n 3, 1) := by decide +kernel
theorem dL_law_466 : decode cL_law 466 = .ok (.iconst 0, 1) := by decide +kernel
theorem dL_law_467 : decode cL_law 467 = .ok (.laload, 1) := by decide +kernel
theorem dL_law_468 : decode cL_law 468 = .ok (.iload 6, 2) := by decide +kernel
theorem dL_law_470 : decode cL_law 470 = .ok (.i2l, 1) := by decide +kernel
theorem dL_law_471 : decode cL_law 471 = .ok (.lcmp, 1) := by decide +kernel
theorem dL_law_472 : decode cL_law 472 = .ok (.ifCond .eq 5, 3) := by decide +kernel
theorem dL_law_475 : decode cL_law 475 = .ok (.iconst 0, 1) := by decide +kernel
theorem dL_law_476 : decode cL_law 476 = .ok (.ireturn, 1) := by decide +kernel
theorem dL_law_477 : decode cL_law 477 = .ok (.goto 1145, 3) := by decide +kernel
theorem dL_law_480 : decode cL_law 480 = .ok (.aload_n 1, 1) := by decide +kernel
theorem dL_law_481 : decode cL_law 481 = .ok (.aload_n 0, 1) := by decide +kernel
theorem dL_law_482 : decode cL_law 482 = .ok (.iload 4, 2) := by decide +kernel
theorem dL_law_484 : decode cL_law 484 = .ok (.iconst 1, 1) := by decide +kernel
theorem dL_law_485 : decode cL_law 485 = .ok (.iadd, 1) := by decide +kernel
theorem dL_law_486 : decode cL_law 486 = .ok (.iaload, 1) := by decide +kernel
theorem dL_law_487 : decode cL_law 487 = .ok (.aload_n 3, 1) := by decide +kernel
theorem dL_law_488 : decode cL_law 488 = .ok (.invokestatic 120, 3) := by decide +kernel
theorem dL_law_491 : decode cL_law 491 = .ok (.istore 5, 2) := by decide +kernel
theorem dL_law_493 : decode cL_law 493 = .ok (.aload_n 2, 1) := by decide +kernel
theorem dL_law_494 : decode cL_law 494 = .ok (.aload_n 0, 1) := by decide +kernel
theorem dL_law_495 : decode cL_law 495 = .ok (.iload 4, 2) := by decide +kernel
theorem dL_law_497 : decode cL_law 497 = .ok (.iconst 1, 1) := by decide +kernel
theorem dL_law_498 : decode cL_law 498 = .ok (.iadd, 1) := by decide +kernel
theorem dL_law_499 : decode cL_law 499 = .ok (.iaload, 1) := by decide +kernel
theorem dL_law_500 : decode cL_law 500 = .ok (.invokevirtual 122, 3) := by decide +kernel
theorem dL_law_503 : decode cL_law 503 = .ok (.istore 6, 2) := by decide +kernel
theorem dL_law_505 : decode cL_law 505 = .ok (.aload_n 2, 1) := by decide +kernel
theorem dL_law_506 : decode cL_law 506 = .ok (.invokevirtual 104, 3) := by decide +kernel
theorem dL_law_509 : decode cL_law 509 = .ok (.iload 5, 2) := by decide +kernel
theorem dL_law_511 : decode cL_law 511 = .ok (.if_icmp .eq 5, 3) := by decide +kernel
theorem dL_law_514 : decode cL_law 514 = .ok (.iconst 0, 1) := by decide +kernel
theorem dL_law_515 : decode cL_law 515 = .ok (.ireturn, 1) := by decide +kernel
theorem dL_law_516 : decode cL_law 516 = .ok (.iload 5, 2) := by decide +kernel
theorem dL_law_518 : decode cL_law 518 = .ok (.ifCond .ne 15, 3) := by decide +kernel
theorem dL_law_521 : decode cL_law 521 = .ok (.aload_n 3, 1) := by decide +kernel
theorem dL_law_522 : decode cL_law 522 = .ok (.iconst 0, 1) := by decide +kernel
theorem dL_law_523 : decode cL_law 523 = .ok (.laload, 1) := by decide +kernel
theorem dL_law_524 : decode cL_law 524 = .ok (.iload 6, 2) := by decide +kernel
theorem dL_law_526 : decode cL_law 526 = .ok (.i2l, 1) := by decide +kernel
theorem dL_law_527 : decode cL_law 527 = .ok (.lcmp, 1) := by decide +kernel
theorem dL_law_528 : decode cL_law 528 = .ok (.ifCond .eq 5, 3) := by decide +kernel
theorem dL_law_531 : decode cL_law 531 = .ok (.iconst 0, 1) := by decide +kernel
theorem dL_law_532 : decode cL_law 532 = .ok (.ireturn, 1) := by decide +kernel
theorem dL_law_533 : decode cL_law 533 = .ok (.goto 1089, 3) := by decide +kernel
theorem dL_law_536 : decode cL_law 536 = .ok (.aload_n 1, 1) := by decide +kernel
theorem dL_law_537 : decode cL_law 537 = .ok (.invokevirtual 123, 3) := by decide +kernel
theorem dL_law_540 : decode cL_law 540 = .ok (.aload_n 2, 1) := by decide +kernel
theorem dL_law_541 : decode cL_law 541 = .ok (.invokevirtual 126, 3) := by decide +kernel
theorem dL_law_544 : decode cL_law 544 = .ok (.if_icmp .eq 1078, 3) := by decide +kernel
theorem dL_law_547 : decode cL_law 547 = .ok (.iconst 0, 1) := by decide +kernel
theorem dL_law_548 : decode cL_law 548 = .ok (.ireturn, 1) := by decide +kernel
theorem dL_law_549 : decode cL_law 549 = .ok (.aload_n 1, 1) := by decide +kernel
theorem dL_law_550 : decode cL_law 550 = .ok (.aload_n 0, 1) := by decide +kernel
theorem dL_law_551 : decode cL_law 551 = .ok (.iload 4, 2) := by decide +kernel
theorem dL_law_553 : decode cL_law 553 = .ok (.iconst 1, 1) := by decide +kernel
theorem dL_law_554 : decode cL_law 554 = .ok (.iadd, 1) := by decide +kernel
theorem dL_law_555 : decode cL_law 555 = .ok (.iaload, 1) := by decide +kernel
theorem dL_law_556 : decode cL_law 556 = .ok (.aload_n 0, 1) := by decide +kernel
theorem dL_law_557 : decode cL_law 557 = .ok (.iload 4, 2) := by decide +kernel
theorem dL_law_559 : decode cL_law 559 = .ok (.iconst 2, 1) := by decide +kernel
theorem dL_law_560 : decode cL_law 560 = .ok (.iadd, 1) := by decide +kernel
theorem dL_law_561 : decode cL_law 561 = .ok (.iaload, 1) := by decide +kernel
theorem dL_law_562 : decode cL_law 562 = .ok (.aload_n 0, 1) := by decide +kernel
theorem dL_law_563 : decode cL_law 563 = .ok (.iload 4, 2) := by decide +kernel
theorem dL_law_565 : decode cL_law 565 = .ok (.iconst 3, 1) := by decide +kernel
theorem dL_law_566 : decode cL_law 566 = .ok (.iadd, 1) := by decide +kernel
theorem dL_law_567 : decode cL_law 567 = .ok (.iaload, 1) := by decide +kernel
theorem dL_law_568 : decode cL_law 568 = .ok (.aload_n 3, 1) := by decide +kernel
theorem dL_law_569 : decode cL_law 569 = .ok (.invokestatic 127, 3) := by decide +kernel
theorem dL_law_572 : decode cL_law 572 = .ok (.istore 5, 2) := by decide +kernel
theorem dL_law_574 : decode cL_law 574 = .ok (.aload_n 2, 1) := by decide +kernel
theorem dL_law_575 : decode cL_law 575 = .ok (.aload_n 0, 1) := by decide +kernel
theorem dL_law_576 : decode cL_law 576 = .ok (.iload 4, 2) := by decide +kernel
theorem dL_law_578 : decode cL_law 578 = .ok (.iconst 1, 1) := by decide +kernel
theorem dL_law_579 : decode cL_law 579 = .ok (.iadd, 1) := by decide +kernel
theorem dL_law_580 : decode cL_law 580 = .ok (.iaload, 1) := by decide +kernel
theorem dL_law_581 : decode cL_law 581 = .ok (.aload_n 0, 1) := by decide +kernel
theorem dL_law_582 : decode cL_law 582 = .ok (.iload 4, 2) := by decide +kernel
theorem dL_law_584 : decode cL_law 584 = .ok (.iconst 2, 1) := by decide +kernel
theorem dL_law_585 : decode cL_law 585 = .ok (.iadd, 1) := by decide +kernel
theorem dL_law_586 : decode cL_law 586 = .ok (.iaload, 1) := by decide +kernel
theorem dL_law_587 : decode cL_law 587 = .ok (.aload_n 0, 1) := by decide +kernel
theorem dL_law_588 : decode cL_law 588 = .ok (.iload 4, 2) := by decide +kernel
theorem dL_law_590 : decode cL_law 590 = .ok (.iconst 3, 1) := by decide +kernel
theorem dL_law_591 : decode cL_law 591 = .ok (.iadd, 1) := by decide +kernel
theorem dL_law_592 : decode cL_law 592 = .ok (.iaload, 1) := by decide +kernel
theorem dL_law_593 : decode cL_law 593 = .ok (.invokevirtual 130, 3) := by decide +kernel
theorem dL_law_596 : decode cL_law 596 = .ok (.istore 6, 2) := by decide +kernel
theorem dL_law_598 : decode cL_law 598 = .ok (.aload_n 2, 1) := by decide +kernel
theorem dL_law_599 : decode cL_law 599 = .ok (.invokevirtual 104, 3) := by decide +kernel
theorem dL_law_602 : decode cL_law 602 = .ok (.iload 5, 2) := by decide +kernel
theorem dL_law_604 : decode cL_law 604 = .ok (.if_icmp .eq 5, 3) := by decide +kernel
theorem dL_law_607 : decode cL_law 607 = .ok (.iconst 0, 1) := by decide +kernel
theorem dL_law_608 : decode cL_law 608 = .ok (.ireturn, 1) := by decide +kernel
theorem dL_law_609 : decode cL_law 609 = .ok (.iload 5, 2) := by decide +kernel
theorem dL_law_611 : decode cL_law 611 = .ok (.ifCond .ne 15, 3) := by decide +kernel
theorem dL_law_614 : decode cL_law 614 = .ok (.aload_n 3, 1) := by decide +kernel
theorem dL_law_615 : decode cL_law 615 = .ok (.iconst 0, 1) := by decide +kernel
theorem dL_law_616 : decode cL_law 616 = .ok (.laload, 1) := by decide +kernel
theorem dL_law_617 : decode cL_law 617 = .ok (.iload 6, 2) := by decide +kernel
theorem dL_law_619 : decode cL_law 619 = .ok (.i2l, 1) := by decide +kernel
theorem dL_law_620 : decode cL_law 620 = .ok (.lcmp, 1) := by decide +kernel
theorem dL_law_621 : decode cL_law 621 = .ok (.ifCond .eq 5, 3) := by decide +kernel
theorem dL_law_624 : decode cL_law 624 = .ok (.iconst 0, 1) := by decide +kernel
theorem dL_law_625 : decode cL_law 625 = .ok (.ireturn, 1) := by decide +kernel
theorem dL_law_626 : decode cL_law 626 = .ok (.goto 996, 3) := by decide +kernel
theorem dL_law_629 : decode cL_law 629 = .ok (.aload_n 1, 1) := by decide +kernel
theorem dL_law_630 : decode cL_law 630 = .ok (.aload_n 0, 1) := by decide +kernel
theorem dL_law_631 : decode cL_law 631 = .ok (.iload 4, 2) := by decide +kernel
theorem dL_law_633 : decode cL_law 633 = .ok (.iconst 1, 1) := by decide +kernel
theorem dL_law_634 : decode cL_law 634 = .ok (.iadd, 1) := by decide +kernel
theorem dL_law_635 : decode cL_law 635 = .ok (.iaload, 1) := by decide +kernel
theorem dL_law_636 : decode cL_law 636 = .ok (.aload_n 0, 1) := by decide +kernel
theorem dL_law_637 : decode cL_law 637 = .ok (.iload 4, 2) := by decide +kernel
theorem dL_law_639 : decode cL_law 639 = .ok (.iconst 2, 1) := by decide +kernel
theorem dL_law_640 : decode cL_law 640 = .ok (.iadd, 1) := by decide +kernel
theorem dL_law_641 : decode cL_law 641 = .ok (.iaload, 1) := by decide +kernel
theorem dL_law_642 : decode cL_law 642 = .ok (.aload_n 3, 1) := by decide +kernel
theorem dL_law_643 : decode cL_law 643 = .ok (.invokestatic 131, 3) := by decide +kernel
theorem dL_law_646 : decode cL_law 646 = .ok (.istore 5, 2) := by decide +kernel
theorem dL_law_648 : decode cL_law 648 = .ok (.aload_n 2, 1) := by decide +kernel
theorem dL_law_649 : decode cL_law 649 = .ok (.aload_n 0, 1) := by decide +kernel
theorem dL_law_650 : decode cL_law 650 = .ok (.iload 4, 2) := by decide +kernel
theorem dL_law_652 : decode cL_law 652 = .ok (.iconst 1, 1) := by decide +kernel
theorem dL_law_653 : decode cL_law 653 = .ok (.iadd, 1) := by decide +kernel
theorem dL_law_654 : decode cL_law 654 = .ok (.iaload, 1) := by decide +kernel
theorem dL_law_655 : decode cL_law 655 = .ok (.aload_n 0, 1) := by decide +kernel
theorem dL_law_656 : decode cL_law 656 = .ok (.iload 4, 2) := by decide +kernel
theorem dL_law_658 : decode cL_law 658 = .ok (.iconst 2, 1) := by decide +kernel
theorem dL_law_659 : decode cL_law 659 = .ok (.iadd, 1) := by decide +kernel
theorem dL_law_660 : decode cL_law 660 = .ok (.iaload, 1) := by decide +kernel
theorem dL_law_661 : decode cL_law 661 = .ok (.invokevirtual 133, 3) := by decide +kernel
theorem dL_law_664 : decode cL_law 664 = .ok (.istore 6, 2) := by decide +kernel
theorem dL_law_666 : decode cL_law 666 = .ok (.aload_n 2, 1) := by decide +kernel
theorem dL_law_667 : decode cL_law 667 = .ok (.invokevirtual 104, 3) := by decide +kernel
theorem dL_law_670 : decode cL_law 670 = .ok (.iload 5, 2) := by decide +kernel
theorem dL_law_672 : decode cL_law 672 = .ok (.if_icmp .eq 5, 3) := by decide +kernel
theorem dL_law_675 : decode cL_law 675 = .ok (.iconst 0, 1) := by decide +kernel
theorem dL_law_676 : decode cL_law 676 = .ok (.ireturn, 1) := by decide +kernel
theorem dL_law_677 : decode cL_law 677 = .ok (.iload 5, 2) := by decide +kernel
theorem dL_law_679 : decode cL_law 679 = .ok (.ifCond .ne 15, 3) := by decide +kernel
theorem dL_law_682 : decode cL_law 682 = .ok (.aload_n 3, 1) := by decide +kernel
theorem dL_law_683 : decode cL_law 683 = .ok (.iconst 0, 1) := by decide +kernel
theorem dL_law_684 : decode cL_law 684 = .ok (.laload, 1) := by decide +kernel
theorem dL_law_685 : decode cL_law 685 = .ok (.iload 6, 2) := by decide +kernel
theorem dL_law_687 : decode cL_law 687 = .ok (.i2l, 1) := by decide +kernel
theorem dL_law_688 : decode cL_law 688 = .ok (.lcmp, 1) := by decide +kernel
theorem dL_law_689 : decode cL_law 689 = .ok (.ifCond .eq 5, 3) := by decide +kernel
theorem dL_law_692 : decode cL_law 692 = .ok (.iconst 0, 1) := by decide +kernel
theorem dL_law_693 : decode cL_law 693 = .ok (.ireturn, 1) := by decide +kernel
theorem dL_law_694 : decode cL_law 694 = .ok (.goto 928, 3) := by decide +kernel
theorem dL_law_697 : decode cL_law 697 = .ok (.aload_n 1, 1) := by decide +kernel
theorem dL_law_698 : decode cL_law 698 = .ok (.aload_n 0, 1) := by decide +kernel
theorem dL_law_699 : decode cL_law 699 = .ok (.iload 4, 2) := by decide +kernel
theorem dL_law_701 : decode cL_law 701 = .ok (.iconst 1, 1) := by decide +kernel
theorem dL_law_702 : decode cL_law 702 = .ok (.iadd, 1) := by decide +kernel
theorem dL_law_703 : decode cL_law 703 = .ok (.iaload, 1) := by decide +kernel
theorem dL_law_704 : decode cL_law 704 = .ok (.i2c, 1) := by decide +kernel
theorem dL_law_705 : decode cL_law 705 = .ok (.aload_n 3, 1) := by decide +kernel
theorem dL_law_706 : decode cL_law 706 = .ok (.invokestatic 134, 3) := by decide +kernel
theorem dL_law_709 : decode cL_law 709 = .ok (.istore 5, 2) := by decide +kernel
theorem dL_law_711 : decode cL_law 711 = .ok (.aload_n 2, 1) := by decide +kernel
theorem dL_law_712 : decode cL_law 712 = .ok (.aload_n 0, 1) := by decide +kernel
theorem dL_law_713 : decode cL_law 713 = .ok (.iload 4, 2) := by decide +kernel
theorem dL_law_715 : decode cL_law 715 = .ok (.iconst 1, 1) := by decide +kernel
theorem dL_law_716 : decode cL_law 716 = .ok (.iadd, 1) := by decide +kernel
theorem dL_law_717 : decode cL_law 717 = .ok (.iaload, 1) := by decide +kernel
theorem dL_law_718 : decode cL_law 718 = .ok (.i2c, 1) := by decide +kernel
theorem dL_law_719 : decode cL_law 719 = .ok (.invokevirtual 137, 3) := by decide +kernel
theorem dL_law_722 : decode cL_law 722 = .ok (.istore 6, 2) := by decide +kernel
theorem dL_law_724 : decode cL_law 724 = .ok (.aload_n 2, 1) := by decide +kernel
theorem dL_law_725 : decode cL_law 725 = .ok (.invokevirtual 104, 3) := by decide +kernel
theorem dL_law_728 : decode cL_law 728 = .ok (.iload 5, 2) := by decide +kernel
theorem dL_law_730 : decode cL_law 730 = .ok (.if_icmp .eq 5, 3) := by decide +kernel
theorem dL_law_733 : decode cL_law 733 = .ok (.iconst 0, 1) := by decide +kernel
theorem dL_law_734 : decode cL_law 734 = .ok (.ireturn, 1) := by decide +kernel
theorem dL_law_735 : decode cL_law 735 = .ok (.iload 5, 2) := by decide +kernel
theorem dL_law_737 : decode cL_law 737 = .ok (.ifCond .ne 15, 3) := by decide +kernel
theorem dL_law_740 : decode cL_law 740 = .ok (.aload_n 3, 1) := by decide +kernel
theorem dL_law_741 : decode cL_law 741 = .ok (.iconst 0, 1) := by decide +kernel
theorem dL_law_742 : decode cL_law 742 = .ok (.laload, 1) := by decide +kernel
theorem dL_law_743 : decode cL_law 743 = .ok (.iload 6, 2) := by decide +kernel
theorem dL_law_745 : decode cL_law 745 = .ok (.i2l, 1) := by decide +kernel
theorem dL_law_746 : decode cL_law 746 = .ok (.lcmp, 1) := by decide +kernel
theorem dL_law_747 : decode cL_law 747 = .ok (.ifCond .eq 5, 3) := by decide +kernel
theorem dL_law_750 : decode cL_law 750 = .ok (.iconst 0, 1) := by decide +kernel
theorem dL_law_751 : decode cL_law 751 = .ok (.ireturn, 1) := by decide +kernel
theorem dL_law_752 : decode cL_law 752 = .ok (.goto 870, 3) := by decide +kernel
theorem dL_law_755 : decode cL_law 755 = .ok (.aload_n 1, 1) := by decide +kernel
theorem dL_law_756 : decode cL_law 756 = .ok (.aload_n 3, 1) := by decide +kernel
theorem dL_law_757 : decode cL_law 757 = .ok (.invokestatic 138, 3) := by decide +kernel
theorem dL_law_760 : decode cL_law 760 = .ok (.istore 5, 2) := by decide +kernel
theorem dL_law_762 : decode cL_law 762 = .ok (.aload_n 2, 1) := by decide +kernel
theorem dL_law_763 : decode cL_law 763 = .ok (.invokevirtual 141, 3) := by decide +kernel
theorem dL_law_766 : decode cL_law 766 = .ok (.istore 6, 2) := by decide +kernel
theorem dL_law_768 : decode cL_law 768 = .ok (.aload_n 2, 1) := by decide +kernel
theorem dL_law_769 : decode cL_law 769 = .ok (.invokevirtual 104, 3) := by decide +kernel
theorem dL_law_772 : decode cL_law 772 = .ok (.iload 5, 2) := by decide +kernel
theorem dL_law_774 : decode cL_law 774 = .ok (.if_icmp .eq 5, 3) := by decide +kernel
theorem dL_law_777 : decode cL_law 777 = .ok (.iconst 0, 1) := by decide +kernel
theorem dL_law_778 : decode cL_law 778 = .ok (.ireturn, 1) := by decide +kernel
theorem dL_law_779 : decode cL_law 779 = .ok (.iload 5, 2) := by decide +kernel
theorem dL_law_781 : decode cL_law 781 = .ok (.ifCond .ne 15, 3) := by decide +kernel
theorem dL_law_784 : decode cL_law 784 = .ok (.aload_n 3, 1) := by decide +kernel
theorem dL_law_785 : decode cL_law 785 = .ok (.iconst 0, 1) := by decide +kernel
theorem dL_law_786 : decode cL_law 786 = .ok (.laload, 1) := by decide +kernel
theorem dL_law_787 : decode cL_law 787 = .ok (.iload 6, 2) := by decide +kernel
theorem dL_law_789 : decode cL_law 789 = .ok (.i2l, 1) := by decide +kernel
theorem dL_law_790 : decode cL_law 790 = .ok (.lcmp, 1) := by decide +kernel
theorem dL_law_791 : decode cL_law 791 = .ok (.ifCond .eq 5, 3) := by decide +kernel
theorem dL_law_794 : decode cL_law 794 = .ok (.iconst 0, 1) := by decide +kernel
theorem dL_law_795 : decode cL_law 795 = .ok (.ireturn, 1) := by decide +kernel
theorem dL_law_796 : decode cL_law 796 = .ok (.goto 826, 3) := by decide +kernel
theorem dL_law_799 : decode cL_law 799 = .ok (.aload_n 1, 1) := by decide +kernel
theorem dL_law_800 : decode cL_law 800 = .ok (.invokevirtual 142, 3) := by decide +kernel
theorem dL_law_803 : decode cL_law 803 = .ok (.aload_n 2, 1) := by decide +kernel
theorem dL_law_804 : decode cL_law 804 = .ok (.invokevirtual 145, 3) := by decide +kernel
theorem dL_law_807 : decode cL_law 807 = .ok (.if_icmp .eq 815, 3) := by decide +kernel
theorem dL_law_810 : decode cL_law 810 = .ok (.iconst 0, 1) := by decide +kernel
theorem dL_law_811 : decode cL_law 811 = .ok (.ireturn, 1) := by decide +kernel
theorem dL_law_812 : decode cL_law 812 = .ok (.aload_n 1, 1) := by decide +kernel
theorem dL_law_813 : decode cL_law 813 = .ok (.aload_n 0, 1) := by decide +kernel
theorem dL_law_814 : decode cL_law 814 = .ok (.iload 4, 2) := by decide +kernel
theorem dL_law_816 : decode cL_law 816 = .ok (.iconst 1, 1) := by decide +kernel
theorem dL_law_817 : decode cL_law 817 = .ok (.iadd, 1) := by decide +kernel
theorem dL_law_818 : decode cL_law 818 = .ok (.iaload, 1) := by decide +kernel
theorem dL_law_819 : decode cL_law 819 = .ok (.aload_n 3, 1) := by decide +kernel
theorem dL_law_820 : decode cL_law 820 = .ok (.invokestatic 146, 3) := by decide +kernel
theorem dL_law_823 : decode cL_law 823 = .ok (.istore 5, 2) := by decide +kernel
theorem dL_law_825 : decode cL_law 825 = .ok (.aload_n 2, 1) := by decide +kernel
theorem dL_law_826 : decode cL_law 826 = .ok (.aload_n 0, 1) := by decide +kernel
theorem dL_law_827 : decode cL_law 827 = .ok (.iload 4, 2) := by decide +kernel
theorem dL_law_829 : decode cL_law 829 = .ok (.iconst 1, 1) := by decide +kernel
theorem dL_law_830 : decode cL_law 830 = .ok (.iadd, 1) := by decide +kernel
theorem dL_law_831 : decode cL_law 831 = .ok (.iaload, 1) := by decide +kernel
theorem dL_law_832 : decode cL_law 832 = .ok (.invokevirtual 148, 3) := by decide +kernel
theorem dL_law_835 : decode cL_law 835 = .ok (.istore 6, 2) := by decide +kernel
theorem dL_law_837 : decode cL_law 837 = .ok (.aload_n 2, 1) := by decide +kernel
theorem dL_law_838 : decode cL_law 838 = .ok (.invokevirtual 104, 3) := by decide +kernel
theorem dL_law_841 : decode cL_law 841 = .ok (.iload 5, 2) := by decide +kernel
theorem dL_law_843 : decode cL_law 843 = .ok (.if_icmp .eq 5, 3) := by decide +kernel
theorem dL_law_846 : decode cL_law 846 = .ok (.iconst 0, 1) := by decide +kernel
theorem dL_law_847 : decode cL_law 847 = .ok (.ireturn, 1) := by decide +kernel
theorem dL_law_848 : decode cL_law 848 = .ok (.iload 5, 2) := by decide +kernel
theorem dL_law_850 : decode cL_law 850 = .ok (.ifCond .ne 15, 3) := by decide +kernel
theorem dL_law_853 : decode cL_law 853 = .ok (.aload_n 3, 1) := by decide +kernel
theorem dL_law_854 : decode cL_law 854 = .ok (.iconst 0, 1) := by decide +kernel
theorem dL_law_855 : decode cL_law 855 = .ok (.laload, 1) := by decide +kernel
theorem dL_law_856 : decode cL_law 856 = .ok (.iload 6, 2) := by decide +kernel
theorem dL_law_858 : decode cL_law 858 = .ok (.i2l, 1) := by decide +kernel
theorem dL_law_859 : decode cL_law 859 = .ok (.lcmp, 1) := by decide +kernel
theorem dL_law_860 : decode cL_law 860 = .ok (.ifCond .eq 5, 3) := by decide +kernel
theorem dL_law_863 : decode cL_law 863 = .ok (.iconst 0, 1) := by decide +kernel
theorem dL_law_864 : decode cL_law 864 = .ok (.ireturn, 1) := by decide +kernel
theorem dL_law_865 : decode cL_law 865 = .ok (.goto 757, 3) := by decide +kernel
theorem dL_law_868 : decode cL_law 868 = .ok (.aload_n 1, 1) := by decide +kernel
theorem dL_law_869 : decode cL_law 869 = .ok (.aload_n 0, 1) := by decide +kernel
theorem dL_law_870 : decode cL_law 870 = .ok (.iload 4, 2) := by decide +kernel
theorem dL_law_872 : decode cL_law 872 = .ok (.iconst 1, 1) := by decide +kernel
theorem dL_law_873 : decode cL_law 873 = .ok (.iadd, 1) := by decide +kernel
theorem dL_law_874 : decode cL_law 874 = .ok (.iaload, 1) := by decide +kernel
theorem dL_law_875 : decode cL_law 875 = .ok (.aload_n 3, 1) := by decide +kernel
theorem dL_law_876 : decode cL_law 876 = .ok (.invokestatic 149, 3) := by decide +kernel
theorem dL_law_879 : decode cL_law 879 = .ok (.istore 5, 2) := by decide +kernel
theorem dL_law_881 : decode cL_law 881 = .ok (.aload_n 2, 1) := by decide +kernel
theorem dL_law_882 : decode cL_law 882 = .ok (.aload_n 0, 1) := by decide +kernel
theorem dL_law_883 : decode cL_law 883 = .ok (.iload 4, 2) := by decide +kernel
theorem dL_law_885 : decode cL_law 885 = .ok (.iconst 1, 1) := by decide +kernel
theorem dL_law_886 : decode cL_law 886 = .ok (.iadd, 1) := by decide +kernel
theorem dL_law_887 : decode cL_law 887 = .ok (.iaload, 1) := by decide +kernel
theorem dL_law_888 : decode cL_law 888 = .ok (.invokevirtual 151, 3) := by decide +kernel
theorem dL_law_891 : decode cL_law 891 = .ok (.istore 6, 2) := by decide +kernel
theorem dL_law_893 : decode cL_law 893 = .ok (.aload_n 2, 1) := by decide +kernel
theorem dL_law_894 : decode cL_law 894 = .ok (.invokevirtual 104, 3) := by decide +kernel
theorem dL_law_897 : decode cL_law 897 = .ok (.iload 5, 2) := by decide +kernel
theorem dL_law_899 : decode cL_law 899 = .ok (.if_icmp .eq 5, 3) := by decide +kernel
theorem dL_law_902 : decode cL_law 902 = .ok (.iconst 0, 1) := by decide +kernel
theorem dL_law_903 : decode cL_law 903 = .ok (.ireturn, 1) := by decide +kernel
theorem dL_law_904 : decode cL_law 904 = .ok (.iload 5, 2) := by decide +kernel
theorem dL_law_906 : decode cL_law 906 = .ok (.ifCond .ne 15, 3) := by decide +kernel
theorem dL_law_909 : decode cL_law 909 = .ok (.aload_n 3, 1) := by decide +kernel
theorem dL_law_910 : decode cL_law 910 = .ok (.iconst 0, 1) := by decide +kernel
theorem dL_law_911 : decode cL_law 911 = .ok (.laload, 1) := by decide +kernel
theorem dL_law_912 : decode cL_law 912 = .ok (.iload 6, 2) := by decide +kernel
theorem dL_law_914 : decode cL_law 914 = .ok (.i2l, 1) := by decide +kernel
theorem dL_law_915 : decode cL_law 915 = .ok (.lcmp, 1) := by decide +kernel
theorem dL_law_916 : decode cL_law 916 = .ok (.ifCond .eq 5, 3) := by decide +kernel
theorem dL_law_919 : decode cL_law 919 = .ok (.iconst 0, 1) := by decide +kernel
theorem dL_law_920 : decode cL_law 920 = .ok (.ireturn, 1) := by decide +kernel
theorem dL_law_921 : decode cL_law 921 = .ok (.goto 701, 3) := by decide +kernel
theorem dL_law_924 : decode cL_law 924 = .ok (.aload_n 1, 1) := by decide +kernel
theorem dL_law_925 : decode cL_law 925 = .ok (.aload_n 0, 1) := by decide +kernel
theorem dL_law_926 : decode cL_law 926 = .ok (.iload 4, 2) := by decide +kernel
theorem dL_law_928 : decode cL_law 928 = .ok (.iconst 1, 1) := by decide +kernel
theorem dL_law_929 : decode cL_law 929 = .ok (.iadd, 1) := by decide +kernel
theorem dL_law_930 : decode cL_law 930 = .ok (.iaload, 1) := by decide +kernel
theorem dL_law_931 : decode cL_law 931 = .ok (.aload_n 3, 1) := by decide +kernel
theorem dL_law_932 : decode cL_law 932 = .ok (.invokestatic 152, 3) := by decide +kernel
theorem dL_law_935 : decode cL_law 935 = .ok (.istore 5, 2) := by decide +kernel
theorem dL_law_937 : decode cL_law 937 = .ok (.aload_n 2, 1) := by decide +kernel
theorem dL_law_938 : decode cL_law 938 = .ok (.aload_n 0, 1) := by decide +kernel
theorem dL_law_939 : decode cL_law 939 = .ok (.iload 4, 2) := by decide +kernel
theorem dL_law_941 : decode cL_law 941 = .ok (.iconst 1, 1) := by decide +kernel
theorem dL_law_942 : decode cL_law 942 = .ok (.iadd, 1) := by decide +kernel
theorem dL_law_943 : decode cL_law 943 = .ok (.iaload, 1) := by decide +kernel
theorem dL_law_944 : decode cL_law 944 = .ok (.invokevirtual 154, 3) := by decide +kernel
theorem dL_law_947 : decode cL_law 947 = .ok (.istore 6, 2) := by decide +kernel
theorem dL_law_949 : decode cL_law 949 = .ok (.aload_n 2, 1) := by decide +kernel
theorem dL_law_950 : decode cL_law 950 = .ok (.invokevirtual 104, 3) := by decide +kernel
theorem dL_law_953 : decode cL_law 953 = .ok (.iload 5, 2) := by decide +kernel
theorem dL_law_955 : decode cL_law 955 = .ok (.if_icmp .eq 5, 3) := by decide +kernel
theorem dL_law_958 : decode cL_law 958 = .ok (.iconst 0, 1) := by decide +kernel
theorem dL_law_959 : decode cL_law 959 = .ok (.ireturn, 1) := by decide +kernel
theorem dL_law_960 : decode cL_law 960 = .ok (.iload 5, 2) := by decide +kernel
theorem dL_law_962 : decode cL_law 962 = .ok (.ifCond .ne 15, 3) := by decide +kernel
theorem dL_law_965 : decode cL_law 965 = .ok (.aload_n 3, 1) := by decide +kernel
theorem dL_law_966 : decode cL_law 966 = .ok (.iconst 0, 1) := by decide +kernel
theorem dL_law_967 : decode cL_law 967 = .ok (.laload, 1) := by decide +kernel
theorem dL_law_968 : decode cL_law 968 = .ok (.iload 6, 2) := by decide +kernel
theorem dL_law_970 : decode cL_law 970 = .ok (.i2l, 1) := by decide +kernel
theorem dL_law_971 : decode cL_law 971 = .ok (.lcmp, 1) := by decide +kernel
theorem dL_law_972 : decode cL_law 972 = .ok (.ifCond .eq 5, 3) := by decide +kernel
theorem dL_law_975 : decode cL_law 975 = .ok (.iconst 0, 1) := by decide +kernel
theorem dL_law_976 : decode cL_law 976 = .ok (.ireturn, 1) := by decide +kernel
theorem dL_law_977 : decode cL_law 977 = .ok (.goto 645, 3) := by decide +kernel
theorem dL_law_980 : decode cL_law 980 = .ok (.aload_n 1, 1) := by decide +kernel
theorem dL_law_981 : decode cL_law 981 = .ok (.aload_n 0, 1) := by decide +kernel
theorem dL_law_982 : decode cL_law 982 = .ok (.iload 4, 2) := by decide +kernel
theorem dL_law_984 : decode cL_law 984 = .ok (.iconst 1, 1) := by decide +kernel
theorem dL_law_985 : decode cL_law 985 = .ok (.iadd, 1) := by decide +kernel
theorem dL_law_986 : decode cL_law 986 = .ok (.iaload, 1) := by decide +kernel
theorem dL_law_987 : decode cL_law 987 = .ok (.aload_n 0, 1) := by decide +kernel
theorem dL_law_988 : decode cL_law 988 = .ok (.iload 4, 2) := by decide +kernel
theorem dL_law_990 : decode cL_law 990 = .ok (.iconst 2, 1) := by decide +kernel
theorem dL_law_991 : decode cL_law 991 = .ok (.iadd, 1) := by decide +kernel
theorem dL_law_992 : decode cL_law 992 = .ok (.iaload, 1) := by decide +kernel
theorem dL_law_993 : decode cL_law 993 = .ok (.aload_n 3, 1) := by decide +kernel
theorem dL_law_994 : decode cL_law 994 = .ok (.invokestatic 155, 3) := by decide +kernel
theorem dL_law_997 : decode cL_law 997 = .ok (.istore 5, 2) := by decide +kernel
theorem dL_law_999 : decode cL_law 999 = .ok (.aload_n 2, 1) := by decide +kernel
theorem dL_law_1000 : decode cL_law 1000 = .ok (.aload_n 0, 1) := by decide +kernel
theorem dL_law_1001 : decode cL_law 1001 = .ok (.iload 4, 2) := by decide +kernel
theorem dL_law_1003 : decode cL_law 1003 = .ok (.iconst 1, 1) := by decide +kernel
theorem dL_law_1004 : decode cL_law 1004 = .ok (.iadd, 1) := by decide +kernel
theorem dL_law_1005 : decode cL_law 1005 = .ok (.iaload, 1) := by decide +kernel
theorem dL_law_1006 : decode cL_law 1006 = .ok (.aload_n 0, 1) := by decide +kernel
theorem dL_law_1007 : decode cL_law 1007 = .ok (.iload 4, 2) := by decide +kernel
theorem dL_law_1009 : decode cL_law 1009 = .ok (.iconst 2, 1) := by decide +kernel
theorem dL_law_1010 : decode cL_law 1010 = .ok (.iadd, 1) := by decide +kernel
theorem dL_law_1011 : decode cL_law 1011 = .ok (.iaload, 1) := by decide +kernel
theorem dL_law_1012 : decode cL_law 1012 = .ok (.invokevirtual 157, 3) := by decide +kernel
theorem dL_law_1015 : decode cL_law 1015 = .ok (.istore 6, 2) := by decide +kernel
theorem dL_law_1017 : decode cL_law 1017 = .ok (.aload_n 2, 1) := by decide +kernel
theorem dL_law_1018 : decode cL_law 1018 = .ok (.invokevirtual 104, 3) := by decide +kernel
theorem dL_law_1021 : decode cL_law 1021 = .ok (.iload 5, 2) := by decide +kernel
theorem dL_law_1023 : decode cL_law 1023 = .ok (.if_icmp .eq 5, 3) := by decide +kernel
theorem dL_law_1026 : decode cL_law 1026 = .ok (.iconst 0, 1) := by decide +kernel
theorem dL_law_1027 : decode cL_law 1027 = .ok (.ireturn, 1) := by decide +kernel
theorem dL_law_1028 : decode cL_law 1028 = .ok (.iload 5, 2) := by decide +kernel
theorem dL_law_1030 : decode cL_law 1030 = .ok (.ifCond .ne 15, 3) := by decide +kernel
theorem dL_law_1033 : decode cL_law 1033 = .ok (.aload_n 3, 1) := by decide +kernel
theorem dL_law_1034 : decode cL_law 1034 = .ok (.iconst 0, 1) := by decide +kernel
theorem dL_law_1035 : decode cL_law 1035 = .ok (.laload, 1) := by decide +kernel
theorem dL_law_1036 : decode cL_law 1036 = .ok (.iload 6, 2) := by decide +kernel
theorem dL_law_1038 : decode cL_law 1038 = .ok (.i2l, 1) := by decide +kernel
theorem dL_law_1039 : decode cL_law 1039 = .ok (.lcmp, 1) := by decide +kernel
theorem dL_law_1040 : decode cL_law 1040 = .ok (.ifCond .eq 5, 3) := by decide +kernel
theorem dL_law_1043 : decode cL_law 1043 = .ok (.iconst 0, 1) := by decide +kernel
theorem dL_law_1044 : decode cL_law 1044 = .ok (.ireturn, 1) := by decide +kernel
theorem dL_law_1045 : decode cL_law 1045 = .ok (.goto 577, 3) := by decide +kernel
theorem dL_law_1048 : decode cL_law 1048 = .ok (.aload_n 1, 1) := by decide +kernel
theorem dL_law_1049 : decode cL_law 1049 = .ok (.aload_n 0, 1) := by decide +kernel
theorem dL_law_1050 : decode cL_law 1050 = .ok (.iload 4, 2) := by decide +kernel
theorem dL_law_1052 : decode cL_law 1052 = .ok (.iconst 1, 1) := by decide +kernel
theorem dL_law_1053 : decode cL_law 1053 = .ok (.iadd, 1) := by decide +kernel
theorem dL_law_1054 : decode cL_law 1054 = .ok (.iaload, 1) := by decide +kernel
theorem dL_law_1055 : decode cL_law 1055 = .ok (.aload_n 3, 1) := by decide +kernel
theorem dL_law_1056 : decode cL_law 1056 = .ok (.invokestatic 158, 3) := by decide +kernel
theorem dL_law_1059 : decode cL_law 1059 = .ok (.istore 5, 2) := by decide +kernel
theorem dL_law_1061 : decode cL_law 1061 = .ok (.aload_n 2, 1) := by decide +kernel
theorem dL_law_1062 : decode cL_law 1062 = .ok (.aload_n 0, 1) := by decide +kernel
theorem dL_law_1063 : decode cL_law 1063 = .ok (.iload 4, 2) := by decide +kernel
theorem dL_law_1065 : decode cL_law 1065 = .ok (.iconst 1, 1) := by decide +kernel
theorem dL_law_1066 : decode cL_law 1066 = .ok (.iadd, 1) := by decide +kernel
theorem dL_law_1067 : decode cL_law 1067 = .ok (.iaload, 1) := by decide +kernel
theorem dL_law_1068 : decode cL_law 1068 = .ok (.invokevirtual 160, 3) := by decide +kernel
theorem dL_law_1071 : decode cL_law 1071 = .ok (.istore 6, 2) := by decide +kernel
theorem dL_law_1073 : decode cL_law 1073 = .ok (.aload_n 2, 1) := by decide +kernel
theorem dL_law_1074 : decode cL_law 1074 = .ok (.invokevirtual 104, 3) := by decide +kernel
theorem dL_law_1077 : decode cL_law 1077 = .ok (.iload 5, 2) := by decide +kernel
theorem dL_law_1079 : decode cL_law 1079 = .ok (.if_icmp .eq 5, 3) := by decide +kernel
theorem dL_law_1082 : decode cL_law 1082 = .ok (.iconst 0, 1) := by decide +kernel
theorem dL_law_1083 : decode cL_law 1083 = .ok (.ireturn, 1) := by decide +kernel
theorem dL_law_1084 : decode cL_law 1084 = .ok (.iload 5, 2) := by decide +kernel
theorem dL_law_1086 : decode cL_law 1086 = .ok (.ifCond .ne 15, 3) := by decide +kernel
theorem dL_law_1089 : decode cL_law 1089 = .ok (.aload_n 3, 1) := by decide +kernel
theorem dL_law_1090 : decode cL_law 1090 = .ok (.iconst 0, 1) := by decide +kernel
theorem dL_law_1091 : decode cL_law 1091 = .ok (.laload, 1) := by decide +kernel
theorem dL_law_1092 : decode cL_law 1092 = .ok (.iload 6, 2) := by decide +kernel
theorem dL_law_1094 : decode cL_law 1094 = .ok (.i2l, 1) := by decide +kernel
theorem dL_law_1095 : decode cL_law 1095 = .ok (.lcmp, 1) := by decide +kernel
theorem dL_law_1096 : decode cL_law 1096 = .ok (.ifCond .eq 5, 3) := by decide +kernel
theorem dL_law_1099 : decode cL_law 1099 = .ok (.iconst 0, 1) := by decide +kernel
theorem dL_law_1100 : decode cL_law 1100 = .ok (.ireturn, 1) := by decide +kernel
theorem dL_law_1101 : decode cL_law 1101 = .ok (.goto 521, 3) := by decide +kernel
theorem dL_law_1104 : decode cL_law 1104 = .ok (.aload_n 1, 1) := by decide +kernel
theorem dL_law_1105 : decode cL_law 1105 = .ok (.aload_n 0, 1) := by decide +kernel
theorem dL_law_1106 : decode cL_law 1106 = .ok (.iload 4, 2) := by decide +kernel
theorem dL_law_1108 : decode cL_law 1108 = .ok (.iconst 1, 1) := by decide +kernel
theorem dL_law_1109 : decode cL_law 1109 = .ok (.iadd, 1) := by decide +kernel
theorem dL_law_1110 : decode cL_law 1110 = .ok (.iaload, 1) := by decide +kernel
theorem dL_law_1111 : decode cL_law 1111 = .ok (.aload_n 3, 1) := by decide +kernel
theorem dL_law_1112 : decode cL_law 1112 = .ok (.invokestatic 161, 3) := by decide +kernel
theorem dL_law_1115 : decode cL_law 1115 = .ok (.istore 5, 2) := by decide +kernel
theorem dL_law_1117 : decode cL_law 1117 = .ok (.aload_n 2, 1) := by decide +kernel
theorem dL_law_1118 : decode cL_law 1118 = .ok (.aload_n 0, 1) := by decide +kernel
theorem dL_law_1119 : decode cL_law 1119 = .ok (.iload 4, 2) := by decide +kernel
theorem dL_law_1121 : decode cL_law 1121 = .ok (.iconst 1, 1) := by decide +kernel
theorem dL_law_1122 : decode cL_law 1122 = .ok (.iadd, 1) := by decide +kernel
theorem dL_law_1123 : decode cL_law 1123 = .ok (.iaload, 1) := by decide +kernel
theorem dL_law_1124 : decode cL_law 1124 = .ok (.invokevirtual 163, 3) := by decide +kernel
theorem dL_law_1127 : decode cL_law 1127 = .ok (.istore 6, 2) := by decide +kernel
theorem dL_law_1129 : decode cL_law 1129 = .ok (.aload_n 2, 1) := by decide +kernel
theorem dL_law_1130 : decode cL_law 1130 = .ok (.invokevirtual 104, 3) := by decide +kernel
theorem dL_law_1133 : decode cL_law 1133 = .ok (.iload 5, 2) := by decide +kernel
theorem dL_law_1135 : decode cL_law 1135 = .ok (.if_icmp .eq 5, 3) := by decide +kernel
theorem dL_law_1138 : decode cL_law 1138 = .ok (.iconst 0, 1) := by decide +kernel
theorem dL_law_1139 : decode cL_law 1139 = .ok (.ireturn, 1) := by decide +kernel
theorem dL_law_1140 : decode cL_law 1140 = .ok (.iload 5, 2) := by decide +kernel
theorem dL_law_1142 : decode cL_law 1142 = .ok (.ifCond .ne 15, 3) := by decide +kernel
theorem dL_law_1145 : decode cL_law 1145 = .ok (.aload_n 3, 1) := by decide +kernel
theorem dL_law_1146 : decode cL_law 1146 = .ok (.iconst 0, 1) := by decide +kernel
theorem dL_law_1147 : decode cL_law 1147 = .ok (.laload, 1) := by decide +kernel
theorem dL_law_1148 : decode cL_law 1148 = .ok (.iload 6, 2) := by decide +kernel
theorem dL_law_1150 : decode cL_law 1150 = .ok (.i2l, 1) := by decide +kernel
theorem dL_law_1151 : decode cL_law 1151 = .ok (.lcmp, 1) := by decide +kernel
theorem dL_law_1152 : decode cL_law 1152 = .ok (.ifCond .eq 5, 3) := by decide +kernel
theorem dL_law_1155 : decode cL_law 1155 = .ok (.iconst 0, 1) := by decide +kernel
theorem dL_law_1156 : decode cL_law 1156 = .ok (.ireturn, 1) := by decide +kernel
theorem dL_law_1157 : decode cL_law 1157 = .ok (.goto 465, 3) := by decide +kernel
theorem dL_law_1160 : decode cL_law 1160 = .ok (.aload_n 1, 1) := by decide +kernel
theorem dL_law_1161 : decode cL_law 1161 = .ok (.aload_n 0, 1) := by decide +kernel
theorem dL_law_1162 : decode cL_law 1162 = .ok (.iload 4, 2) := by decide +kernel
theorem dL_law_1164 : decode cL_law 1164 = .ok (.iconst 1, 1) := by decide +kernel
theorem dL_law_1165 : decode cL_law 1165 = .ok (.iadd, 1) := by decide +kernel
theorem dL_law_1166 : decode cL_law 1166 = .ok (.iaload, 1) := by decide +kernel
theorem dL_law_1167 : decode cL_law 1167 = .ok (.aload_n 3, 1) := by decide +kernel
theorem dL_law_1168 : decode cL_law 1168 = .ok (.invokestatic 164, 3) := by decide +kernel
theorem dL_law_1171 : decode cL_law 1171 = .ok (.istore 5, 2) := by decide +kernel
theorem dL_law_1173 : decode cL_law 1173 = .ok (.aload_n 2, 1) := by decide +kernel
theorem dL_law_1174 : decode cL_law 1174 = .ok (.aload_n 0, 1) := by decide +kernel
theorem dL_law_1175 : decode cL_law 1175 = .ok (.iload 4, 2) := by decide +kernel
theorem dL_law_1177 : decode cL_law 1177 = .ok (.iconst 1, 1) := by decide +kernel
theorem dL_law_1178 : decode cL_law 1178 = .ok (.iadd, 1) := by decide +kernel
theorem dL_law_1179 : decode cL_law 1179 = .ok (.iaload, 1) := by decide +kernel
theorem dL_law_1180 : decode cL_law 1180 = .ok (.invokevirtual 166, 3) := by decide +kernel
theorem dL_law_1183 : decode cL_law 1183 = .ok (.istore 6, 2) := by decide +kernel
theorem dL_law_1185 : decode cL_law 1185 = .ok (.aload_n 2, 1) := by decide +kernel
theorem dL_law_1186 : decode cL_law 1186 = .ok (.invokevirtual 104, 3) := by decide +kernel
theorem dL_law_1189 : decode cL_law 1189 = .ok (.iload 5, 2) := by decide +kernel
theorem dL_law_1191 : decode cL_law 1191 = .ok (.if_icmp .eq 5, 3) := by decide +kernel
theorem dL_law_1194 : decode cL_law 1194 = .ok (.iconst 0, 1) := by decide +kernel
theorem dL_law_1195 : decode cL_law 1195 = .ok (.ireturn, 1) := by decide +kernel
theorem dL_law_1196 : decode cL_law 1196 = .ok (.iload 5, 2) := by decide +kernel
theorem dL_law_1198 : decode cL_law 1198 = .ok (.ifCond .ne 15, 3) := by decide +kernel
theorem dL_law_1201 : decode cL_law 1201 = .ok (.aload_n 3, 1) := by decide +kernel
theorem dL_law_1202 : decode cL_law 1202 = .ok (.iconst 0, 1) := by decide +kernel
theorem dL_law_1203 : decode cL_law 1203 = .ok (.laload, 1) := by decide +kernel
theorem dL_law_1204 : decode cL_law 1204 = .ok (.iload 6, 2) := by decide +kernel
theorem dL_law_1206 : decode cL_law 1206 = .ok (.i2l, 1) := by decide +kernel
theorem dL_law_1207 : decode cL_law 1207 = .ok (.lcmp, 1) := by decide +kernel
theorem dL_law_1208 : decode cL_law 1208 = .ok (.ifCond .eq 5, 3) := by decide +kernel
theorem dL_law_1211 : decode cL_law 1211 = .ok (.iconst 0, 1) := by decide +kernel
theorem dL_law_1212 : decode cL_law 1212 = .ok (.ireturn, 1) := by decide +kernel
theorem dL_law_1213 : decode cL_law 1213 = .ok (.goto 409, 3) := by decide +kernel
theorem dL_law_1216 : decode cL_law 1216 = .ok (.aload_n 1, 1) := by decide +kernel
theorem dL_law_1217 : decode cL_law 1217 = .ok (.aload_n 0, 1) := by decide +kernel
theorem dL_law_1218 : decode cL_law 1218 = .ok (.iload 4, 2) := by decide +kernel
theorem dL_law_1220 : decode cL_law 1220 = .ok (.iconst 1, 1) := by decide +kernel
theorem dL_law_1221 : decode cL_law 1221 = .ok (.iadd, 1) := by decide +kernel
theorem dL_law_1222 : decode cL_law 1222 = .ok (.iaload, 1) := by decide +kernel
theorem dL_law_1223 : decode cL_law 1223 = .ok (.aload_n 3, 1) := by decide +kernel
theorem dL_law_1224 : decode cL_law 1224 = .ok (.invokestatic 167, 3) := by decide +kernel
theorem dL_law_1227 : decode cL_law 1227 = .ok (.istore 5, 2) := by decide +kernel
theorem dL_law_1229 : decode cL_law 1229 = .ok (.aload_n 2, 1) := by decide +kernel
theorem dL_law_1230 : decode cL_law 1230 = .ok (.aload_n 0, 1) := by decide +kernel
theorem dL_law_1231 : decode cL_law 1231 = .ok (.iload 4, 2) := by decide +kernel
theorem dL_law_1233 : decode cL_law 1233 = .ok (.iconst 1, 1) := by decide +kernel
theorem dL_law_1234 : decode cL_law 1234 = .ok (.iadd, 1) := by decide +kernel
theorem dL_law_1235 : decode cL_law 1235 = .ok (.iaload, 1) := by decide +kernel
theorem dL_law_1236 : decode cL_law 1236 = .ok (.invokevirtual 169, 3) := by decide +kernel
theorem dL_law_1239 : decode cL_law 1239 = .ok (.istore 6, 2) := by decide +kernel
theorem dL_law_1241 : decode cL_law 1241 = .ok (.aload_n 2, 1) := by decide +kernel
theorem dL_law_1242 : decode cL_law 1242 = .ok (.invokevirtual 104, 3) := by decide +kernel
theorem dL_law_1245 : decode cL_law 1245 = .ok (.iload 5, 2) := by decide +kernel
theorem dL_law_1247 : decode cL_law 1247 = .ok (.if_icmp .eq 5, 3) := by decide +kernel
theorem dL_law_1250 : decode cL_law 1250 = .ok (.iconst 0, 1) := by decide +kernel
theorem dL_law_1251 : decode cL_law 1251 = .ok (.ireturn, 1) := by decide +kernel
theorem dL_law_1252 : decode cL_law 1252 = .ok (.iload 5, 2) := by decide +kernel
theorem dL_law_1254 : decode cL_law 1254 = .ok (.ifCond .ne 15, 3) := by decide +kernel
theorem dL_law_1257 : decode cL_law 1257 = .ok (.aload_n 3, 1) := by decide +kernel
theorem dL_law_1258 : decode cL_law 1258 = .ok (.iconst 0, 1) := by decide +kernel
theorem dL_law_1259 : decode cL_law 1259 = .ok (.laload, 1) := by decide +kernel
theorem dL_law_1260 : decode cL_law 1260 = .ok (.iload 6, 2) := by decide +kernel
theorem dL_law_1262 : decode cL_law 1262 = .ok (.i2l, 1) := by decide +kernel
theorem dL_law_1263 : decode cL_law 1263 = .ok (.lcmp, 1) := by decide +kernel
theorem dL_law_1264 : decode cL_law 1264 = .ok (.ifCond .eq 5, 3) := by decide +kernel
theorem dL_law_1267 : decode cL_law 1267 = .ok (.iconst 0, 1) := by decide +kernel
theorem dL_law_1268 : decode cL_law 1268 = .ok (.ireturn, 1) := by decide +kernel
theorem dL_law_1269 : decode cL_law 1269 = .ok (.goto 353, 3) := by decide +kernel
theorem dL_law_1272 : decode cL_law 1272 = .ok (.aload_n 1, 1) := by decide +kernel
theorem dL_law_1273 : decode cL_law 1273 = .ok (.invokevirtual 170, 3) := by decide +kernel
theorem dL_law_1276 : decode cL_law 1276 = .ok (.aload_n 2, 1) := by decide +kernel
theorem dL_law_1277 : decode cL_law 1277 = .ok (.invokevirtual 173, 3) := by decide +kernel
theorem dL_law_1280 : decode cL_law 1280 = .ok (.if_icmp .eq 342, 3) := by decide +kernel
theorem dL_law_1283 : decode cL_law 1283 = .ok (.iconst 0, 1) := by decide +kernel
theorem dL_law_1284 : decode cL_law 1284 = .ok (.ireturn, 1) := by decide +kernel
theorem dL_law_1285 : decode cL_law 1285 = .ok (.aload_n 1, 1) := by decide +kernel
theorem dL_law_1286 : decode cL_law 1286 = .ok (.aload_n 0, 1) := by decide +kernel
theorem dL_law_1287 : decode cL_law 1287 = .ok (.iload 4, 2) := by decide +kernel
theorem dL_law_1289 : decode cL_law 1289 = .ok (.iconst 1, 1) := by decide +kernel
theorem dL_law_1290 : decode cL_law 1290 = .ok (.iadd, 1) := by decide +kernel
theorem dL_law_1291 : decode cL_law 1291 = .ok (.iaload, 1) := by decide +kernel
theorem dL_law_1292 : decode cL_law 1292 = .ok (.aload_n 3, 1) := by decide +kernel
theorem dL_law_1293 : decode cL_law 1293 = .ok (.invokestatic 174, 3) := by decide +kernel
theorem dL_law_1296 : decode cL_law 1296 = .ok (.istore 5, 2) := by decide +kernel
theorem dL_law_1298 : decode cL_law 1298 = .ok (.aload_n 2, 1) := by decide +kernel
theorem dL_law_1299 : decode cL_law 1299 = .ok (.aload_n 0, 1) := by decide +kernel
theorem dL_law_1300 : decode cL_law 1300 = .ok (.iload 4, 2) := by decide +kernel
theorem dL_law_1302 : decode cL_law 1302 = .ok (.iconst 1, 1) := by decide +kernel
theorem dL_law_1303 : decode cL_law 1303 = .ok (.iadd, 1) := by decide +kernel
theorem dL_law_1304 : decode cL_law 1304 = .ok (.iaload, 1) := by decide +kernel
theorem dL_law_1305 : decode cL_law 1305 = .ok (.invokevirtual 176, 3) := by decide +kernel
theorem dL_law_1308 : decode cL_law 1308 = .ok (.istore 6, 2) := by decide +kernel
theorem dL_law_1310 : decode cL_law 1310 = .ok (.aload_n 2, 1) := by decide +kernel
theorem dL_law_1311 : decode cL_law 1311 = .ok (.invokevirtual 104, 3) := by decide +kernel
theorem dL_law_1314 : decode cL_law 1314 = .ok (.iload 5, 2) := by decide +kernel
theorem dL_law_1316 : decode cL_law 1316 = .ok (.if_icmp .eq 5, 3) := by decide +kernel
theorem dL_law_1319 : decode cL_law 1319 = .ok (.iconst 0, 1) := by decide +kernel
theorem dL_law_1320 : decode cL_law 1320 = .ok (.ireturn, 1) := by decide +kernel
theorem dL_law_1321 : decode cL_law 1321 = .ok (.iload 5, 2) := by decide +kernel
theorem dL_law_1323 : decode cL_law 1323 = .ok (.ifCond .ne 22, 3) := by decide +kernel
theorem dL_law_1326 : decode cL_law 1326 = .ok (.aload_n 3, 1) := by decide +kernel
theorem dL_law_1327 : decode cL_law 1327 = .ok (.iconst 0, 1) := by decide +kernel
theorem dL_law_1328 : decode cL_law 1328 = .ok (.laload, 1) := by decide +kernel
theorem dL_law_1329 : decode cL_law 1329 = .ok (.iload 6, 2) := by decide +kernel
theorem dL_law_1331 : decode cL_law 1331 = .ok (.ifCond .eq 7, 3) := by decide +kernel
theorem dL_law_1334 : decode cL_law 1334 = .ok (.lconst 1, 1) := by decide +kernel
theorem dL_law_1335 : decode cL_law 1335 = .ok (.goto 4, 3) := by decide +kernel
theorem dL_law_1338 : decode cL_law 1338 = .ok (.lconst 0, 1) := by decide +kernel
theorem dL_law_1339 : decode cL_law 1339 = .ok (.lcmp, 1) := by decide +kernel
theorem dL_law_1340 : decode cL_law 1340 = .ok (.ifCond .eq 5, 3) := by decide +kernel
theorem dL_law_1343 : decode cL_law 1343 = .ok (.iconst 0, 1) := by decide +kernel
theorem dL_law_1344 : decode cL_law 1344 = .ok (.ireturn, 1) := by decide +kernel
theorem dL_law_1345 : decode cL_law 1345 = .ok (.goto 277, 3) := by decide +kernel
theorem dL_law_1348 : decode cL_law 1348 = .ok (.aload_n 1, 1) := by decide +kernel
theorem dL_law_1349 : decode cL_law 1349 = .ok (.aload_n 0, 1) := by decide +kernel
theorem dL_law_1350 : decode cL_law 1350 = .ok (.iload 4, 2) := by decide +kernel
theorem dL_law_1352 : decode cL_law 1352 = .ok (.iconst 1, 1) := by decide +kernel
theorem dL_law_1353 : decode cL_law 1353 = .ok (.iadd, 1) := by decide +kernel
theorem dL_law_1354 : decode cL_law 1354 = .ok (.iaload, 1) := by decide +kernel
theorem dL_law_1355 : decode cL_law 1355 = .ok (.aload_n 0, 1) := by decide +kernel
theorem dL_law_1356 : decode cL_law 1356 = .ok (.iload 4, 2) := by decide +kernel
theorem dL_law_1358 : decode cL_law 1358 = .ok (.iconst 2, 1) := by decide +kernel
theorem dL_law_1359 : decode cL_law 1359 = .ok (.iadd, 1) := by decide +kernel
theorem dL_law_1360 : decode cL_law 1360 = .ok (.iaload, 1) := by decide +kernel
theorem dL_law_1361 : decode cL_law 1361 = .ok (.aload_n 3, 1) := by decide +kernel
theorem dL_law_1362 : decode cL_law 1362 = .ok (.invokestatic 177, 3) := by decide +kernel
theorem dL_law_1365 : decode cL_law 1365 = .ok (.istore 5, 2) := by decide +kernel
theorem dL_law_1367 : decode cL_law 1367 = .ok (.aload_n 2, 1) := by decide +kernel
theorem dL_law_1368 : decode cL_law 1368 = .ok (.aload_n 0, 1) := by decide +kernel
theorem dL_law_1369 : decode cL_law 1369 = .ok (.iload 4, 2) := by decide +kernel
theorem dL_law_1371 : decode cL_law 1371 = .ok (.iconst 1, 1) := by decide +kernel
theorem dL_law_1372 : decode cL_law 1372 = .ok (.iadd, 1) := by decide +kernel
theorem dL_law_1373 : decode cL_law 1373 = .ok (.iaload, 1) := by decide +kernel
theorem dL_law_1374 : decode cL_law 1374 = .ok (.aload_n 0, 1) := by decide +kernel
theorem dL_law_1375 : decode cL_law 1375 = .ok (.iload 4, 2) := by decide +kernel
theorem dL_law_1377 : decode cL_law 1377 = .ok (.iconst 2, 1) := by decide +kernel
theorem dL_law_1378 : decode cL_law 1378 = .ok (.iadd, 1) := by decide +kernel
theorem dL_law_1379 : decode cL_law 1379 = .ok (.iaload, 1) := by decide +kernel
theorem dL_law_1380 : decode cL_law 1380 = .ok (.invokevirtual 179, 3) := by decide +kernel
theorem dL_law_1383 : decode cL_law 1383 = .ok (.istore 6, 2) := by decide +kernel
theorem dL_law_1385 : decode cL_law 1385 = .ok (.aload_n 2, 1) := by decide +kernel
theorem dL_law_1386 : decode cL_law 1386 = .ok (.invokevirtual 104, 3) := by decide +kernel
theorem dL_law_1389 : decode cL_law 1389 = .ok (.iload 5, 2) := by decide +kernel
theorem dL_law_1391 : decode cL_law 1391 = .ok (.if_icmp .eq 5, 3) := by decide +kernel
theorem dL_law_1394 : decode cL_law 1394 = .ok (.iconst 0, 1) := by decide +kernel
theorem dL_law_1395 : decode cL_law 1395 = .ok (.ireturn, 1) := by decide +kernel
theorem dL_law_1396 : decode cL_law 1396 = .ok (.iload 5, 2) := by decide +kernel
theorem dL_law_1398 : decode cL_law 1398 = .ok (.ifCond .ne 15, 3) := by decide +kernel
theorem dL_law_1401 : decode cL_law 1401 = .ok (.aload_n 3, 1) := by decide +kernel
theorem dL_law_1402 : decode cL_law 1402 = .ok (.iconst 0, 1) := by decide +kernel
theorem dL_law_1403 : decode cL_law 1403 = .ok (.laload, 1) := by decide +kernel
theorem dL_law_1404 : decode cL_law 1404 = .ok (.iload 6, 2) := by decide +kernel
theorem dL_law_1406 : decode cL_law 1406 = .ok (.i2l, 1) := by decide +kernel
theorem dL_law_1407 : decode cL_law 1407 = .ok (.lcmp, 1) := by decide +kernel
theorem dL_law_1408 : decode cL_law 1408 = .ok (.ifCond .eq 5, 3) := by decide +kernel
theorem dL_law_1411 : decode cL_law 1411 = .ok (.iconst 0, 1) := by decide +kernel
theorem dL_law_1412 : decode cL_law 1412 = .ok (.ireturn, 1) := by decide +kernel
theorem dL_law_1413 : decode cL_law 1413 = .ok (.goto 209, 3) := by decide +kernel
theorem dL_law_1416 : decode cL_law 1416 = .ok (.aload_n 1, 1) := by decide +kernel
theorem dL_law_1417 : decode cL_law 1417 = .ok (.invokevirtual 180, 3) := by decide +kernel
theorem dL_law_1420 : decode cL_law 1420 = .ok (.aload_n 2, 1) := by decide +kernel
theorem dL_law_1421 : decode cL_law 1421 = .ok (.invokevirtual 183, 3) := by decide +kernel
theorem dL_law_1424 : decode cL_law 1424 = .ok (.if_icmp .eq 198, 3) := by decide +kernel
theorem dL_law_1427 : decode cL_law 1427 = .ok (.iconst 0, 1) := by decide +kernel
theorem dL_law_1428 : decode cL_law 1428 = .ok (.ireturn, 1) := by decide +kernel
theorem dL_law_1429 : decode cL_law 1429 = .ok (.aload_n 1, 1) := by decide +kernel
theorem dL_law_1430 : decode cL_law 1430 = .ok (.aload_n 0, 1) := by decide +kernel
theorem dL_law_1431 : decode cL_law 1431 = .ok (.iload 4, 2) := by decide +kernel
theorem dL_law_1433 : decode cL_law 1433 = .ok (.iconst 1, 1) := by decide +kernel
theorem dL_law_1434 : decode cL_law 1434 = .ok (.iadd, 1) := by decide +kernel
theorem dL_law_1435 : decode cL_law 1435 = .ok (.iaload, 1) := by decide +kernel
theorem dL_law_1436 : decode cL_law 1436 = .ok (.aload_n 3, 1) := by decide +kernel
theorem dL_law_1437 : decode cL_law 1437 = .ok (.invokestatic 184, 3) := by decide +kernel
theorem dL_law_1440 : decode cL_law 1440 = .ok (.istore 5, 2) := by decide +kernel
theorem dL_law_1442 : decode cL_law 1442 = .ok (.aload_n 2, 1) := by decide +kernel
theorem dL_law_1443 : decode cL_law 1443 = .ok (.aload_n 0, 1) := by decide +kernel
theorem dL_law_1444 : decode cL_law 1444 = .ok (.iload 4, 2) := by decide +kernel
theorem dL_law_1446 : decode cL_law 1446 = .ok (.iconst 1, 1) := by decide +kernel
theorem dL_law_1447 : decode cL_law 1447 = .ok (.iadd, 1) := by decide +kernel
theorem dL_law_1448 : decode cL_law 1448 = .ok (.iaload, 1) := by decide +kernel
theorem dL_law_1449 : decode cL_law 1449 = .ok (.invokevirtual 186, 3) := by decide +kernel
theorem dL_law_1452 : decode cL_law 1452 = .ok (.istore 6, 2) := by decide +kernel
theorem dL_law_1454 : decode cL_law 1454 = .ok (.aload_n 2, 1) := by decide +kernel
theorem dL_law_1455 : decode cL_law 1455 = .ok (.invokevirtual 104, 3) := by decide +kernel
theorem dL_law_1458 : decode cL_law 1458 = .ok (.iload 5, 2) := by decide +kernel
theorem dL_law_1460 : decode cL_law 1460 = .ok (.if_icmp .eq 5, 3) := by decide +kernel
theorem dL_law_1463 : decode cL_law 1463 = .ok (.iconst 0, 1) := by decide +kernel
theorem dL_law_1464 : decode cL_law 1464 = .ok (.ireturn, 1) := by decide +kernel
theorem dL_law_1465 : decode cL_law 1465 = .ok (.iload 5, 2) := by decide +kernel
theorem dL_law_1467 : decode cL_law 1467 = .ok (.ifCond .ne 15, 3) := by decide +kernel
theorem dL_law_1470 : decode cL_law 1470 = .ok (.aload_n 3, 1) := by decide +kernel
theorem dL_law_1471 : decode cL_law 1471 = .ok (.iconst 0, 1) := by decide +kernel
theorem dL_law_1472 : decode cL_law 1472 = .ok (.laload, 1) := by decide +kernel
theorem dL_law_1473 : decode cL_law 1473 = .ok (.iload 6, 2) := by decide +kernel
theorem dL_law_1475 : decode cL_law 1475 = .ok (.i2l, 1) := by decide +kernel
theorem dL_law_1476 : decode cL_law 1476 = .ok (.lcmp, 1) := by decide +kernel
theorem dL_law_1477 : decode cL_law 1477 = .ok (.ifCond .eq 5, 3) := by decide +kernel
theorem dL_law_1480 : decode cL_law 1480 = .ok (.iconst 0, 1) := by decide +kernel
theorem dL_law_1481 : decode cL_law 1481 = .ok (.ireturn, 1) := by decide +kernel
theorem dL_law_1482 : decode cL_law 1482 = .ok (.goto 140, 3) := by decide +kernel
theorem dL_law_1485 : decode cL_law 1485 = .ok (.aload_n 1, 1) := by decide +kernel
theorem dL_law_1486 : decode cL_law 1486 = .ok (.aload_n 0, 1) := by decide +kernel
theorem dL_law_1487 : decode cL_law 1487 = .ok (.iload 4, 2) := by decide +kernel
theorem dL_law_1489 : decode cL_law 1489 = .ok (.iconst 1, 1) := by decide +kernel
theorem dL_law_1490 : decode cL_law 1490 = .ok (.iadd, 1) := by decide +kernel
theorem dL_law_1491 : decode cL_law 1491 = .ok (.iaload, 1) := by decide +kernel
theorem dL_law_1492 : decode cL_law 1492 = .ok (.aload_n 0, 1) := by decide +kernel
theorem dL_law_1493 : decode cL_law 1493 = .ok (.iload 4, 2) := by decide +kernel
theorem dL_law_1495 : decode cL_law 1495 = .ok (.iconst 2, 1) := by decide +kernel
theorem dL_law_1496 : decode cL_law 1496 = .ok (.iadd, 1) := by decide +kernel
theorem dL_law_1497 : decode cL_law 1497 = .ok (.iaload, 1) := by decide +kernel
theorem dL_law_1498 : decode cL_law 1498 = .ok (.aload_n 0, 1) := by decide +kernel
theorem dL_law_1499 : decode cL_law 1499 = .ok (.iload 4, 2) := by decide +kernel
theorem dL_law_1501 : decode cL_law 1501 = .ok (.iconst 3, 1) := by decide +kernel
theorem dL_law_1502 : decode cL_law 1502 = .ok (.iadd, 1) := by decide +kernel
theorem dL_law_1503 : decode cL_law 1503 = .ok (.iaload, 1) := by decide +kernel
theorem dL_law_1504 : decode cL_law 1504 = .ok (.aload_n 3, 1) := by decide +kernel
theorem dL_law_1505 : decode cL_law 1505 = .ok (.invokestatic 187, 3) := by decide +kernel
theorem dL_law_1508 : decode cL_law 1508 = .ok (.istore 5, 2) := by decide +kernel
theorem dL_law_1510 : decode cL_law 1510 = .ok (.aload_n 2, 1) := by decide +kernel
theorem dL_law_1511 : decode cL_law 1511 = .ok (.aload_n 0, 1) := by decide +kernel
theorem dL_law_1512 : decode cL_law 1512 = .ok (.iload 4, 2) := by decide +kernel
theorem dL_law_1514 : decode cL_law 1514 = .ok (.iconst 1, 1) := by decide +kernel
theorem dL_law_1515 : decode cL_law 1515 = .ok (.iadd, 1) := by decide +kernel
theorem dL_law_1516 : decode cL_law 1516 = .ok (.iaload, 1) := by decide +kernel
theorem dL_law_1517 : decode cL_law 1517 = .ok (.aload_n 0, 1) := by decide +kernel
theorem dL_law_1518 : decode cL_law 1518 = .ok (.iload 4, 2) := by decide +kernel
theorem dL_law_1520 : decode cL_law 1520 = .ok (.iconst 2, 1) := by decide +kernel
theorem dL_law_1521 : decode cL_law 1521 = .ok (.iadd, 1) := by decide +kernel
theorem dL_law_1522 : decode cL_law 1522 = .ok (.iaload, 1) := by decide +kernel
theorem dL_law_1523 : decode cL_law 1523 = .ok (.aload_n 0, 1) := by decide +kernel
theorem dL_law_1524 : decode cL_law 1524 = .ok (.iload 4, 2) := by decide +kernel
theorem dL_law_1526 : decode cL_law 1526 = .ok (.iconst 3, 1) := by decide +kernel
theorem dL_law_1527 : decode cL_law 1527 = .ok (.iadd, 1) := by decide +kernel
theorem dL_law_1528 : decode cL_law 1528 = .ok (.iaload, 1) := by decide +kernel
theorem dL_law_1529 : decode cL_law 1529 = .ok (.invokevirtual 189, 3) := by decide +kernel
theorem dL_law_1532 : decode cL_law 1532 = .ok (.istore 6, 2) := by decide +kernel
theorem dL_law_1534 : decode cL_law 1534 = .ok (.aload_n 2, 1) := by decide +kernel
theorem dL_law_1535 : decode cL_law 1535 = .ok (.invokevirtual 104, 3) := by decide +kernel
theorem dL_law_1538 : decode cL_law 1538 = .ok (.iload 5, 2) := by decide +kernel
theorem dL_law_1540 : decode cL_law 1540 = .ok (.if_icmp .eq 5, 3) := by decide +kernel
theorem dL_law_1543 : decode cL_law 1543 = .ok (.iconst 0, 1) := by decide +kernel
theorem dL_law_1544 : decode cL_law 1544 = .ok (.ireturn, 1) := by decide +kernel
theorem dL_law_1545 : decode cL_law 1545 = .ok (.iload 5, 2) := by decide +kernel
theorem dL_law_1547 : decode cL_law 1547 = .ok (.ifCond .ne 15, 3) := by decide +kernel
theorem dL_law_1550 : decode cL_law 1550 = .ok (.aload_n 3, 1) := by decide +kernel
theorem dL_law_1551 : decode cL_law 1551 = .ok (.iconst 0, 1) := by decide +kernel
theorem dL_law_1552 : decode cL_law 1552 = .ok (.laload, 1) := by decide +kernel
theorem dL_law_1553 : decode cL_law 1553 = .ok (.iload 6, 2) := by decide +kernel
theorem dL_law_1555 : decode cL_law 1555 = .ok (.i2l, 1) := by decide +kernel
theorem dL_law_1556 : decode cL_law 1556 = .ok (.lcmp, 1) := by decide +kernel
theorem dL_law_1557 : decode cL_law 1557 = .ok (.ifCond .eq 5, 3) := by decide +kernel
theorem dL_law_1560 : decode cL_law 1560 = .ok (.iconst 0, 1) := by decide +kernel
theorem dL_law_1561 : decode cL_law 1561 = .ok (.ireturn, 1) := by decide +kernel
theorem dL_law_1562 : decode cL_law 1562 = .ok (.goto 60, 3) := by decide +kernel
theorem dL_law_1565 : decode cL_law 1565 = .ok (.aload_n 1, 1) := by decide +kernel
theorem dL_law_1566 : decode cL_law 1566 = .ok (.invokevirtual 190, 3) := by decide +kernel
theorem dL_law_1569 : decode cL_law 1569 = .ok (.aload_n 2, 1) := by decide +kernel
theorem dL_law_1570 : decode cL_law 1570 = .ok (.invokevirtual 193, 3) := by decide +kernel
theorem dL_law_1573 : decode cL_law 1573 = .ok (.if_icmp .eq 49, 3) := by decide +kernel
theorem dL_law_1576 : decode cL_law 1576 = .ok (.iconst 0, 1) := by decide +kernel
theorem dL_law_1577 : decode cL_law 1577 = .ok (.ireturn, 1) := by decide +kernel
theorem dL_law_1578 : decode cL_law 1578 = .ok (.aload_n 1, 1) := by decide +kernel
theorem dL_law_1579 : decode cL_law 1579 = .ok (.aload_n 3, 1) := by decide +kernel
theorem dL_law_1580 : decode cL_law 1580 = .ok (.invokestatic 194, 3) := by decide +kernel
theorem dL_law_1583 : decode cL_law 1583 = .ok (.istore 5, 2) := by decide +kernel
theorem dL_law_1585 : decode cL_law 1585 = .ok (.aload_n 2, 1) := by decide +kernel
theorem dL_law_1586 : decode cL_law 1586 = .ok (.invokevirtual 196, 3) := by decide +kernel
theorem dL_law_1589 : decode cL_law 1589 = .ok (.istore 6, 2) := by decide +kernel
theorem dL_law_1591 : decode cL_law 1591 = .ok (.aload_n 2, 1) := by decide +kernel
theorem dL_law_1592 : decode cL_law 1592 = .ok (.invokevirtual 104, 3) := by decide +kernel
theorem dL_law_1595 : decode cL_law 1595 = .ok (.iload 5, 2) := by decide +kernel
theorem dL_law_1597 : decode cL_law 1597 = .ok (.if_icmp .eq 5, 3) := by decide +kernel
theorem dL_law_1600 : decode cL_law 1600 = .ok (.iconst 0, 1) := by decide +kernel
theorem dL_law_1601 : decode cL_law 1601 = .ok (.ireturn, 1) := by decide +kernel
theorem dL_law_1602 : decode cL_law 1602 = .ok (.iload 5, 2) := by decide +kernel
theorem dL_law_1604 : decode cL_law 1604 = .ok (.ifCond .ne 15, 3) := by decide +kernel
theorem dL_law_1607 : decode cL_law 1607 = .ok (.aload_n 3, 1) := by decide +kernel
theorem dL_law_1608 : decode cL_law 1608 = .ok (.iconst 0, 1) := by decide +kernel
theorem dL_law_1609 : decode cL_law 1609 = .ok (.laload, 1) := by decide +kernel
theorem dL_law_1610 : decode cL_law 1610 = .ok (.iload 6, 2) := by decide +kernel
theorem dL_law_1612 : decode cL_law 1612 = .ok (.i2l, 1) := by decide +kernel
theorem dL_law_1613 : decode cL_law 1613 = .ok (.lcmp, 1) := by decide +kernel
theorem dL_law_1614 : decode cL_law 1614 = .ok (.ifCond .eq 5, 3) := by decide +kernel
theorem dL_law_1617 : decode cL_law 1617 = .ok (.iconst 0, 1) := by decide +kernel
theorem dL_law_1618 : decode cL_law 1618 = .ok (.ireturn, 1) := by decide +kernel
theorem dL_law_1619 : decode cL_law 1619 = .ok (.goto 3, 3) := by decide +kernel
theorem dL_law_1622 : decode cL_law 1622 = .ok (.iinc 4 4, 3) := by decide +kernel
theorem dL_law_1625 : decode cL_law 1625 = .ok (.goto (-1602), 3) := by decide +kernel
theorem dL_law_1628 : decode cL_law 1628 = .ok (.iconst 1, 1) := by decide +kernel
theorem dL_law_1629 : decode cL_law 1629 = .ok (.ireturn, 1) := by decide +kernel
end
section
/-! THE WORLD: one FlexLayout, one FlexLayoutModel, the law's long[1], all their arrays; what they hold is a memory (ints of fields, int arrays, long arrays) -/
abbrev fx_Mem : Type := (Nat → Int32) × (Nat → Nat → Int32) × (Nat → Nat → Int64)
abbrev fx_Geo : Type := va_G × (ClassId × ClassId × ClassId × ClassId × ClassId) × (Nat → Nat) × Nat
def fx_a (g : fx_Geo) (k : Nat) : Nat := g.2.2.1 k
def fx_A (g : fx_Geo) : Nat → Prop := fun q => g.2.2.2 ≤ q
abbrev fx_cI (g : fx_Geo) : ClassId := g.2.1.1
abbrev fx_cJ (g : fx_Geo) : ClassId := g.2.1.2.1
abbrev fx_cZ (g : fx_Geo) : ClassId := g.2.1.2.2.1
abbrev fx_cC (g : fx_Geo) : ClassId := g.2.1.2.2.2.1
abbrev fx_cR (g : fx_Geo) : ClassId := g.2.1.2.2.2.2
def fx_tys (g : fx_Geo) : List (ClassId × FieldType) := [(fx_cI g, .int), (fx_cJ g, .long), (fx_cZ g, .boolean), (fx_cC g, .char), (fx_cR g, .array .int)]
/-- stores: a field, a place of an int array, a whole int array, a place of a long array -/
def fx_si (M : fx_Mem) (k : Nat) (v : Int32) : fx_Mem := (va_up M.1 k v, M.2.1, M.2.2)
def fx_sA (M : fx_Mem) (k : Nat) (f : Nat → Int32) : fx_Mem := (M.1, va_up M.2.1 k f, M.2.2)
def fx_sa (M : fx_Mem) (k j : Nat) (v : Int32) : fx_Mem := fx_sA M k (upd (M.2.1 k) j v)
def fx_sl (M : fx_Mem) (k j : Nat) (v : Int64) : fx_Mem := (M.1, M.2.1, va_up M.2.2 k (vp_updL (M.2.2 k) j v))
def fx_wd (g : fx_Geo) (M : fx_Mem) : va_W := [(fx_a g 0, .inr (8, [.ref (fx_a g 1), .ref (fx_a g 2), .int (M.1 2), .ref (fx_a g 3), .ref (fx_a g 4), .ref (fx_a g 5), .ref (fx_a g 6), .ref (fx_a g 7)])),
  (fx_a g 1, .inr (3, [.int (M.1 64), .int (M.1 65), .int (M.1 66), .int (M.1 67), .ref (fx_a g 10), .ref (fx_a g 11), .int (M.1 70)])),
  (fx_a g 2, .inr (3, [.int (M.1 128), .int (M.1 129), .int (M.1 130), .int (M.1 131), .ref (fx_a g 12), .ref (fx_a g 13), .int (M.1 134)])),
  (fx_a g 3, .inr (6, [.ref (fx_a g 14), .int (M.1 193)])),
  (fx_a g 4, .inr (5, [.ref (fx_a g 15), .ref (fx_a g 16), .ref (fx_a g 17)])),
  (fx_a g 5, .inr (2, [.ref (fx_a g 18), .ref (fx_a g 19), .int (M.1 322)])),
  (fx_a g 6, .inr (7, [.ref (fx_a g 20), .ref (fx_a g 21), .ref (fx_a g 22), .ref (fx_a g 23), .ref (fx_a g 24), .ref (fx_a g 25)])),
  (fx_a g 7, .inr (4, [.ref (fx_a g 26), .ref (fx_a g 27), .ref (fx_a g 28), .ref (fx_a g 29), .int (M.1 452)])),
  (fx_a g 8, .inr (9, [.int (M.1 512), .ref (fx_a g 30), .ref (fx_a g 31), .int (M.1 515), .ref (fx_a g 32), .ref (fx_a g 33), .ref (fx_a g 34), .ref (fx_a g 35), .int (M.1 520), .int (M.1 521), .int (M.1 522), .ref (fx_a g 36), .ref (fx_a g 37), .ref (fx_a g 38), .ref (fx_a g 39), .ref (fx_a g 40), .ref (fx_a g 41), .ref (fx_a g 42), .ref (fx_a g 43), .ref (fx_a g 44), .ref (fx_a g 45), .ref (fx_a g 46), .ref (fx_a g 47), .ref (fx_a g 48), .ref (fx_a g 49), .ref (fx_a g 50), .ref (fx_a g 51), .ref (fx_a g 52), .ref (fx_a g 53), .ref (fx_a g 54), .int (M.1 542), .int (M.1 543), .ref (fx_a g 55), .ref (fx_a g 56), .int (M.1 546)])),
  (fx_a g 9, .inl (fx_cJ g, 1, .inr (.inl (M.2.2 9)))),
  (fx_a g 10, .inl (fx_cI g, 5, .inl (M.2.1 10))),
  (fx_a g 11, .inl (fx_cR g, 20, .inr (.inr (.inr (.inr (fun i => if i < 20 then some (fx_a g (57 + i)) else none)))))),
  (fx_a g 12, .inl (fx_cI g, 5, .inl (M.2.1 12))),
  (fx_a g 13, .inl (fx_cR g, 20, .inr (.inr (.inr (.inr (fun i => if i < 20 then some (fx_a g (77 + i)) else none)))))),
  (fx_a g 14, .inl (fx_cC g, 80, .inl (M.2.1 14))),
  (fx_a g 15, .inl (fx_cJ g, 20, .inr (.inl (M.2.2 15)))),
  (fx_a g 16, .inl (fx_cI g, 20, .inl (M.2.1 16))),
  (fx_a g 17, .inl (fx_cJ g, 20, .inr (.inl (M.2.2 17)))),
  (fx_a g 18, .inl (fx_cI g, 20, .inl (M.2.1 18))),
  (fx_a g 19, .inl (fx_cI g, 21, .inl (M.2.1 19))),
  (fx_a g 20, .inl (fx_cI g, 20, .inl (M.2.1 20))),
  (fx_a g 21, .inl (fx_cI g, 20, .inl (M.2.1 21))),
  (fx_a g 22, .inl (fx_cI g, 20, .inl (M.2.1 22))),
  (fx_a g 23, .inl (fx_cI g, 20, .inl (M.2.1 23))),
  (fx_a g 24, .inl (fx_cI g, 20, .inl (M.2.1 24))),
  (fx_a g 25, .inl (fx_cZ g, 20, .inl (M.2.1 25))),
  (fx_a g 26, .inl (fx_cI g, 20, .inl (M.2.1 26))),
  (fx_a g 27, .inl (fx_cI g, 20, .inl (M.2.1 27))),
  (fx_a g 28, .inl (fx_cI g, 20, .inl (M.2.1 28))),
  (fx_a g 29, .inl (fx_cI g, 20, .inl (M.2.1 29))),
  (fx_a g 30, .inl (fx_cI g, 9, .inl (M.2.1 30))),
  (fx_a g 31, .inl (fx_cI g, 200, .inl (M.2.1 31))),
  (fx_a g 32, .inl (fx_cC g, 80, .inl (M.2.1 32))),
  (fx_a g 33, .inl (fx_cI g, 40, .inl (M.2.1 33))),
  (fx_a g 34, .inl (fx_cI g, 40, .inl (M.2.1 34))),
  (fx_a g 35, .inl (fx_cI g, 40, .inl (M.2.1 35))),
  (fx_a g 36, .inl (fx_cJ g, 20, .inr (.inl (M.2.2 36)))),
  (fx_a g 37, .inl (fx_cJ g, 20, .inr (.inl (M.2.2 37)))),
  (fx_a g 38, .inl (fx_cJ g, 20, .inr (.inl (M.2.2 38)))),
  (fx_a g 39, .inl (fx_cI g, 20, .inl (M.2.1 39))),
  (fx_a g 40, .inl (fx_cI g, 20, .inl (M.2.1 40))),
  (fx_a g 41, .inl (fx_cI g, 20, .inl (M.2.1 41))),
  (fx_a g 42, .inl (fx_cI g, 20, .inl (M.2.1 42))),
  (fx_a g 43, .inl (fx_cI g, 20, .inl (M.2.1 43))),
  (fx_a g 44, .inl (fx_cI g, 20, .inl (M.2.1 44))),
  (fx_a g 45, .inl (fx_cI g, 20, .inl (M.2.1 45))),
  (fx_a g 46, .inl (fx_cZ g, 20, .inl (M.2.1 46))),
  (fx_a g 47, .inl (fx_cI g, 20, .inl (M.2.1 47))),
  (fx_a g 48, .inl (fx_cI g, 20, .inl (M.2.1 48))),
  (fx_a g 49, .inl (fx_cI g, 20, .inl (M.2.1 49))),
  (fx_a g 50, .inl (fx_cI g, 20, .inl (M.2.1 50))),
  (fx_a g 51, .inl (fx_cI g, 20, .inl (M.2.1 51))),
  (fx_a g 52, .inl (fx_cI g, 20, .inl (M.2.1 52))),
  (fx_a g 53, .inl (fx_cI g, 20, .inl (M.2.1 53))),
  (fx_a g 54, .inl (fx_cI g, 20, .inl (M.2.1 54))),
  (fx_a g 55, .inl (fx_cI g, 20, .inl (M.2.1 55))),
  (fx_a g 56, .inl (fx_cI g, 210, .inl (M.2.1 56))),
  (fx_a g 57, .inl (fx_cI g, 10, .inl (M.2.1 57))),
  (fx_a g 58, .inl (fx_cI g, 10, .inl (M.2.1 58))),
  (fx_a g 59, .inl (fx_cI g, 10, .inl (M.2.1 59))),
  (fx_a g 60, .inl (fx_cI g, 10, .inl (M.2.1 60))),
  (fx_a g 61, .inl (fx_cI g, 10, .inl (M.2.1 61))),
  (fx_a g 62, .inl (fx_cI g, 10, .inl (M.2.1 62))),
  (fx_a g 63, .inl (fx_cI g, 10, .inl (M.2.1 63))),
  (fx_a g 64, .inl (fx_cI g, 10, .inl (M.2.1 64))),
  (fx_a g 65, .inl (fx_cI g, 10, .inl (M.2.1 65))),
  (fx_a g 66, .inl (fx_cI g, 10, .inl (M.2.1 66))),
  (fx_a g 67, .inl (fx_cI g, 10, .inl (M.2.1 67))),
  (fx_a g 68, .inl (fx_cI g, 10, .inl (M.2.1 68))),
  (fx_a g 69, .inl (fx_cI g, 10, .inl (M.2.1 69))),
  (fx_a g 70, .inl (fx_cI g, 10, .inl (M.2.1 70))),
  (fx_a g 71, .inl (fx_cI g, 10, .inl (M.2.1 71))),
  (fx_a g 72, .inl (fx_cI g, 10, .inl (M.2.1 72))),
  (fx_a g 73, .inl (fx_cI g, 10, .inl (M.2.1 73))),
  (fx_a g 74, .inl (fx_cI g, 10, .inl (M.2.1 74))),
  (fx_a g 75, .inl (fx_cI g, 10, .inl (M.2.1 75))),
  (fx_a g 76, .inl (fx_cI g, 10, .inl (M.2.1 76))),
  (fx_a g 77, .inl (fx_cI g, 10, .inl (M.2.1 77))),
  (fx_a g 78, .inl (fx_cI g, 10, .inl (M.2.1 78))),
  (fx_a g 79, .inl (fx_cI g, 10, .inl (M.2.1 79))),
  (fx_a g 80, .inl (fx_cI g, 10, .inl (M.2.1 80))),
  (fx_a g 81, .inl (fx_cI g, 10, .inl (M.2.1 81))),
  (fx_a g 82, .inl (fx_cI g, 10, .inl (M.2.1 82))),
  (fx_a g 83, .inl (fx_cI g, 10, .inl (M.2.1 83))),
  (fx_a g 84, .inl (fx_cI g, 10, .inl (M.2.1 84))),
  (fx_a g 85, .inl (fx_cI g, 10, .inl (M.2.1 85))),
  (fx_a g 86, .inl (fx_cI g, 10, .inl (M.2.1 86))),
  (fx_a g 87, .inl (fx_cI g, 10, .inl (M.2.1 87))),
  (fx_a g 88, .inl (fx_cI g, 10, .inl (M.2.1 88))),
  (fx_a g 89, .inl (fx_cI g, 10, .inl (M.2.1 89))),
  (fx_a g 90, .inl (fx_cI g, 10, .inl (M.2.1 90))),
  (fx_a g 91, .inl (fx_cI g, 10, .inl (M.2.1 91))),
  (fx_a g 92, .inl (fx_cI g, 10, .inl (M.2.1 92))),
  (fx_a g 93, .inl (fx_cI g, 10, .inl (M.2.1 93))),
  (fx_a g 94, .inl (fx_cI g, 10, .inl (M.2.1 94))),
  (fx_a g 95, .inl (fx_cI g, 10, .inl (M.2.1 95))),
  (fx_a g 96, .inl (fx_cI g, 10, .inl (M.2.1 96)))]
def fx_Gd (g : fx_Geo) : Prop := ∀ M, va_D (fx_A g) (fx_wd g M)
theorem fx_w0 (g : fx_Geo) (M : fx_Mem) : (fx_wd g M)[0]? = some (fx_a g 0, .inr (8, [.ref (fx_a g 1), .ref (fx_a g 2), .int (M.1 2), .ref (fx_a g 3), .ref (fx_a g 4), .ref (fx_a g 5), .ref (fx_a g 6), .ref (fx_a g 7)])) := rfl
theorem fx_p0_2 (g : fx_Geo) (M : fx_Mem) (v : Int32) : (fx_wd g M).set 0 (fx_a g 0, .inr (8, ([.ref (fx_a g 1), .ref (fx_a g 2), .int (M.1 2), .ref (fx_a g 3), .ref (fx_a g 4), .ref (fx_a g 5), .ref (fx_a g 6), .ref (fx_a g 7)] : List Value).set 2 (.int v))) = fx_wd g (fx_si M 2 v) := rfl
theorem fx_w1 (g : fx_Geo) (M : fx_Mem) : (fx_wd g M)[1]? = some (fx_a g 1, .inr (3, [.int (M.1 64), .int (M.1 65), .int (M.1 66), .int (M.1 67), .ref (fx_a g 10), .ref (fx_a g 11), .int (M.1 70)])) := rfl
theorem fx_p1_0 (g : fx_Geo) (M : fx_Mem) (v : Int32) : (fx_wd g M).set 1 (fx_a g 1, .inr (3, ([.int (M.1 64), .int (M.1 65), .int (M.1 66), .int (M.1 67), .ref (fx_a g 10), .ref (fx_a g 11), .int (M.1 70)] : List Value).set 0 (.int v))) = fx_wd g (fx_si M 64 v) := rfl
theorem fx_p1_1 (g : fx_Geo) (M : fx_Mem) (v : Int32) : (fx_wd g M).set 1 (fx_a g 1, .inr (3, ([.int (M.1 64), .int (M.1 65), .int (M.1 66), .int (M.1 67), .ref (fx_a g 10), .ref (fx_a g 11), .int (M.1 70)] : List Value).set 1 (.int v))) = fx_wd g (fx_si M 65 v) := rfl
theorem fx_p1_2 (g : fx_Geo) (M : fx_Mem) (v : Int32) : (fx_wd g M).set 1 (fx_a g 1, .inr (3, ([.int (M.1 64), .int (M.1 65), .int (M.1 66), .int (M.1 67), .ref (fx_a g 10), .ref (fx_a g 11), .int (M.1 70)] : List Value).set 2 (.int v))) = fx_wd g (fx_si M 66 v) := rfl
theorem fx_p1_3 (g : fx_Geo) (M : fx_Mem) (v : Int32) : (fx_wd g M).set 1 (fx_a g 1, .inr (3, ([.int (M.1 64), .int (M.1 65), .int (M.1 66), .int (M.1 67), .ref (fx_a g 10), .ref (fx_a g 11), .int (M.1 70)] : List Value).set 3 (.int v))) = fx_wd g (fx_si M 67 v) := rfl
theorem fx_p1_6 (g : fx_Geo) (M : fx_Mem) (v : Int32) : (fx_wd g M).set 1 (fx_a g 1, .inr (3, ([.int (M.1 64), .int (M.1 65), .int (M.1 66), .int (M.1 67), .ref (fx_a g 10), .ref (fx_a g 11), .int (M.1 70)] : List Value).set 6 (.int v))) = fx_wd g (fx_si M 70 v) := rfl
theorem fx_w2 (g : fx_Geo) (M : fx_Mem) : (fx_wd g M)[2]? = some (fx_a g 2, .inr (3, [.int (M.1 128), .int (M.1 129), .int (M.1 130), .int (M.1 131), .ref (fx_a g 12), .ref (fx_a g 13), .int (M.1 134)])) := rfl
theorem fx_p2_0 (g : fx_Geo) (M : fx_Mem) (v : Int32) : (fx_wd g M).set 2 (fx_a g 2, .inr (3, ([.int (M.1 128), .int (M.1 129), .int (M.1 130), .int (M.1 131), .ref (fx_a g 12), .ref (fx_a g 13), .int (M.1 134)] : List Value).set 0 (.int v))) = fx_wd g (fx_si M 128 v) := rfl
theorem fx_p2_1 (g : fx_Geo) (M : fx_Mem) (v : Int32) : (fx_wd g M).set 2 (fx_a g 2, .inr (3, ([.int (M.1 128), .int (M.1 129), .int (M.1 130), .int (M.1 131), .ref (fx_a g 12), .ref (fx_a g 13), .int (M.1 134)] : List Value).set 1 (.int v))) = fx_wd g (fx_si M 129 v) := rfl
theorem fx_p2_2 (g : fx_Geo) (M : fx_Mem) (v : Int32) : (fx_wd g M).set 2 (fx_a g 2, .inr (3, ([.int (M.1 128), .int (M.1 129), .int (M.1 130), .int (M.1 131), .ref (fx_a g 12), .ref (fx_a g 13), .int (M.1 134)] : List Value).set 2 (.int v))) = fx_wd g (fx_si M 130 v) := rfl
theorem fx_p2_3 (g : fx_Geo) (M : fx_Mem) (v : Int32) : (fx_wd g M).set 2 (fx_a g 2, .inr (3, ([.int (M.1 128), .int (M.1 129), .int (M.1 130), .int (M.1 131), .ref (fx_a g 12), .ref (fx_a g 13), .int (M.1 134)] : List Value).set 3 (.int v))) = fx_wd g (fx_si M 131 v) := rfl
theorem fx_p2_6 (g : fx_Geo) (M : fx_Mem) (v : Int32) : (fx_wd g M).set 2 (fx_a g 2, .inr (3, ([.int (M.1 128), .int (M.1 129), .int (M.1 130), .int (M.1 131), .ref (fx_a g 12), .ref (fx_a g 13), .int (M.1 134)] : List Value).set 6 (.int v))) = fx_wd g (fx_si M 134 v) := rfl
theorem fx_w3 (g : fx_Geo) (M : fx_Mem) : (fx_wd g M)[3]? = some (fx_a g 3, .inr (6, [.ref (fx_a g 14), .int (M.1 193)])) := rfl
theorem fx_p3_1 (g : fx_Geo) (M : fx_Mem) (v : Int32) : (fx_wd g M).set 3 (fx_a g 3, .inr (6, ([.ref (fx_a g 14), .int (M.1 193)] : List Value).set 1 (.int v))) = fx_wd g (fx_si M 193 v) := rfl
theorem fx_w4 (g : fx_Geo) (M : fx_Mem) : (fx_wd g M)[4]? = some (fx_a g 4, .inr (5, [.ref (fx_a g 15), .ref (fx_a g 16), .ref (fx_a g 17)])) := rfl
theorem fx_w5 (g : fx_Geo) (M : fx_Mem) : (fx_wd g M)[5]? = some (fx_a g 5, .inr (2, [.ref (fx_a g 18), .ref (fx_a g 19), .int (M.1 322)])) := rfl
theorem fx_p5_2 (g : fx_Geo) (M : fx_Mem) (v : Int32) : (fx_wd g M).set 5 (fx_a g 5, .inr (2, ([.ref (fx_a g 18), .ref (fx_a g 19), .int (M.1 322)] : List Value).set 2 (.int v))) = fx_wd g (fx_si M 322 v) := rfl
theorem fx_w6 (g : fx_Geo) (M : fx_Mem) : (fx_wd g M)[6]? = some (fx_a g 6, .inr (7, [.ref (fx_a g 20), .ref (fx_a g 21), .ref (fx_a g 22), .ref (fx_a g 23), .ref (fx_a g 24), .ref (fx_a g 25)])) := rfl
theorem fx_w7 (g : fx_Geo) (M : fx_Mem) : (fx_wd g M)[7]? = some (fx_a g 7, .inr (4, [.ref (fx_a g 26), .ref (fx_a g 27), .ref (fx_a g 28), .ref (fx_a g 29), .int (M.1 452)])) := rfl
theorem fx_p7_4 (g : fx_Geo) (M : fx_Mem) (v : Int32) : (fx_wd g M).set 7 (fx_a g 7, .inr (4, ([.ref (fx_a g 26), .ref (fx_a g 27), .ref (fx_a g 28), .ref (fx_a g 29), .int (M.1 452)] : List Value).set 4 (.int v))) = fx_wd g (fx_si M 452 v) := rfl
theorem fx_w8 (g : fx_Geo) (M : fx_Mem) : (fx_wd g M)[8]? = some (fx_a g 8, .inr (9, [.int (M.1 512), .ref (fx_a g 30), .ref (fx_a g 31), .int (M.1 515), .ref (fx_a g 32), .ref (fx_a g 33), .ref (fx_a g 34), .ref (fx_a g 35), .int (M.1 520), .int (M.1 521), .int (M.1 522), .ref (fx_a g 36), .ref (fx_a g 37), .ref (fx_a g 38), .ref (fx_a g 39), .ref (fx_a g 40), .ref (fx_a g 41), .ref (fx_a g 42), .ref (fx_a g 43), .ref (fx_a g 44), .ref (fx_a g 45), .ref (fx_a g 46), .ref (fx_a g 47), .ref (fx_a g 48), .ref (fx_a g 49), .ref (fx_a g 50), .ref (fx_a g 51), .ref (fx_a g 52), .ref (fx_a g 53), .ref (fx_a g 54), .int (M.1 542), .int (M.1 543), .ref (fx_a g 55), .ref (fx_a g 56), .int (M.1 546)])) := rfl
theorem fx_p8_0 (g : fx_Geo) (M : fx_Mem) (v : Int32) : (fx_wd g M).set 8 (fx_a g 8, .inr (9, ([.int (M.1 512), .ref (fx_a g 30), .ref (fx_a g 31), .int (M.1 515), .ref (fx_a g 32), .ref (fx_a g 33), .ref (fx_a g 34), .ref (fx_a g 35), .int (M.1 520), .int (M.1 521), .int (M.1 522), .ref (fx_a g 36), .ref (fx_a g 37), .ref (fx_a g 38), .ref (fx_a g 39), .ref (fx_a g 40), .ref (fx_a g 41), .ref (fx_a g 42), .ref (fx_a g 43), .ref (fx_a g 44), .ref (fx_a g 45), .ref (fx_a g 46), .ref (fx_a g 47), .ref (fx_a g 48), .ref (fx_a g 49), .ref (fx_a g 50), .ref (fx_a g 51), .ref (fx_a g 52), .ref (fx_a g 53), .ref (fx_a g 54), .int (M.1 542), .int (M.1 543), .ref (fx_a g 55), .ref (fx_a g 56), .int (M.1 546)] : List Value).set 0 (.int v))) = fx_wd g (fx_si M 512 v) := rfl
theorem fx_p8_3 (g : fx_Geo) (M : fx_Mem) (v : Int32) : (fx_wd g M).set 8 (fx_a g 8, .inr (9, ([.int (M.1 512), .ref (fx_a g 30), .ref (fx_a g 31), .int (M.1 515), .ref (fx_a g 32), .ref (fx_a g 33), .ref (fx_a g 34), .ref (fx_a g 35), .int (M.1 520), .int (M.1 521), .int (M.1 522), .ref (fx_a g 36), .ref (fx_a g 37), .ref (fx_a g 38), .ref (fx_a g 39), .ref (fx_a g 40), .ref (fx_a g 41), .ref (fx_a g 42), .ref (fx_a g 43), .ref (fx_a g 44), .ref (fx_a g 45), .ref (fx_a g 46), .ref (fx_a g 47), .ref (fx_a g 48), .ref (fx_a g 49), .ref (fx_a g 50), .ref (fx_a g 51), .ref (fx_a g 52), .ref (fx_a g 53), .ref (fx_a g 54), .int (M.1 542), .int (M.1 543), .ref (fx_a g 55), .ref (fx_a g 56), .int (M.1 546)] : List Value).set 3 (.int v))) = fx_wd g (fx_si M 515 v) := rfl
theorem fx_p8_8 (g : fx_Geo) (M : fx_Mem) (v : Int32) : (fx_wd g M).set 8 (fx_a g 8, .inr (9, ([.int (M.1 512), .ref (fx_a g 30), .ref (fx_a g 31), .int (M.1 515), .ref (fx_a g 32), .ref (fx_a g 33), .ref (fx_a g 34), .ref (fx_a g 35), .int (M.1 520), .int (M.1 521), .int (M.1 522), .ref (fx_a g 36), .ref (fx_a g 37), .ref (fx_a g 38), .ref (fx_a g 39), .ref (fx_a g 40), .ref (fx_a g 41), .ref (fx_a g 42), .ref (fx_a g 43), .ref (fx_a g 44), .ref (fx_a g 45), .ref (fx_a g 46), .ref (fx_a g 47), .ref (fx_a g 48), .ref (fx_a g 49), .ref (fx_a g 50), .ref (fx_a g 51), .ref (fx_a g 52), .ref (fx_a g 53), .ref (fx_a g 54), .int (M.1 542), .int (M.1 543), .ref (fx_a g 55), .ref (fx_a g 56), .int (M.1 546)] : List Value).set 8 (.int v))) = fx_wd g (fx_si M 520 v) := rfl
theorem fx_p8_9 (g : fx_Geo) (M : fx_Mem) (v : Int32) : (fx_wd g M).set 8 (fx_a g 8, .inr (9, ([.int (M.1 512), .ref (fx_a g 30), .ref (fx_a g 31), .int (M.1 515), .ref (fx_a g 32), .ref (fx_a g 33), .ref (fx_a g 34), .ref (fx_a g 35), .int (M.1 520), .int (M.1 521), .int (M.1 522), .ref (fx_a g 36), .ref (fx_a g 37), .ref (fx_a g 38), .ref (fx_a g 39), .ref (fx_a g 40), .ref (fx_a g 41), .ref (fx_a g 42), .ref (fx_a g 43), .ref (fx_a g 44), .ref (fx_a g 45), .ref (fx_a g 46), .ref (fx_a g 47), .ref (fx_a g 48), .ref (fx_a g 49), .ref (fx_a g 50), .ref (fx_a g 51), .ref (fx_a g 52), .ref (fx_a g 53), .ref (fx_a g 54), .int (M.1 542), .int (M.1 543), .ref (fx_a g 55), .ref (fx_a g 56), .int (M.1 546)] : List Value).set 9 (.int v))) = fx_wd g (fx_si M 521 v) := rfl
theorem fx_p8_10 (g : fx_Geo) (M : fx_Mem) (v : Int32) : (fx_wd g M).set 8 (fx_a g 8, .inr (9, ([.int (M.1 512), .ref (fx_a g 30), .ref (fx_a g 31), .int (M.1 515), .ref (fx_a g 32), .ref (fx_a g 33), .ref (fx_a g 34), .ref (fx_a g 35), .int (M.1 520), .int (M.1 521), .int (M.1 522), .ref (fx_a g 36), .ref (fx_a g 37), .ref (fx_a g 38), .ref (fx_a g 39), .ref (fx_a g 40), .ref (fx_a g 41), .ref (fx_a g 42), .ref (fx_a g 43), .ref (fx_a g 44), .ref (fx_a g 45), .ref (fx_a g 46), .ref (fx_a g 47), .ref (fx_a g 48), .ref (fx_a g 49), .ref (fx_a g 50), .ref (fx_a g 51), .ref (fx_a g 52), .ref (fx_a g 53), .ref (fx_a g 54), .int (M.1 542), .int (M.1 543), .ref (fx_a g 55), .ref (fx_a g 56), .int (M.1 546)] : List Value).set 10 (.int v))) = fx_wd g (fx_si M 522 v) := rfl
theorem fx_p8_30 (g : fx_Geo) (M : fx_Mem) (v : Int32) : (fx_wd g M).set 8 (fx_a g 8, .inr (9, ([.int (M.1 512), .ref (fx_a g 30), .ref (fx_a g 31), .int (M.1 515), .ref (fx_a g 32), .ref (fx_a g 33), .ref (fx_a g 34), .ref (fx_a g 35), .int (M.1 520), .int (M.1 521), .int (M.1 522), .ref (fx_a g 36), .ref (fx_a g 37), .ref (fx_a g 38), .ref (fx_a g 39), .ref (fx_a g 40), .ref (fx_a g 41), .ref (fx_a g 42), .ref (fx_a g 43), .ref (fx_a g 44), .ref (fx_a g 45), .ref (fx_a g 46), .ref (fx_a g 47), .ref (fx_a g 48), .ref (fx_a g 49), .ref (fx_a g 50), .ref (fx_a g 51), .ref (fx_a g 52), .ref (fx_a g 53), .ref (fx_a g 54), .int (M.1 542), .int (M.1 543), .ref (fx_a g 55), .ref (fx_a g 56), .int (M.1 546)] : List Value).set 30 (.int v))) = fx_wd g (fx_si M 542 v) := rfl
theorem fx_p8_31 (g : fx_Geo) (M : fx_Mem) (v : Int32) : (fx_wd g M).set 8 (fx_a g 8, .inr (9, ([.int (M.1 512), .ref (fx_a g 30), .ref (fx_a g 31), .int (M.1 515), .ref (fx_a g 32), .ref (fx_a g 33), .ref (fx_a g 34), .ref (fx_a g 35), .int (M.1 520), .int (M.1 521), .int (M.1 522), .ref (fx_a g 36), .ref (fx_a g 37), .ref (fx_a g 38), .ref (fx_a g 39), .ref (fx_a g 40), .ref (fx_a g 41), .ref (fx_a g 42), .ref (fx_a g 43), .ref (fx_a g 44), .ref (fx_a g 45), .ref (fx_a g 46), .ref (fx_a g 47), .ref (fx_a g 48), .ref (fx_a g 49), .ref (fx_a g 50), .ref (fx_a g 51), .ref (fx_a g 52), .ref (fx_a g 53), .ref (fx_a g 54), .int (M.1 542), .int (M.1 543), .ref (fx_a g 55), .ref (fx_a g 56), .int (M.1 546)] : List Value).set 31 (.int v))) = fx_wd g (fx_si M 543 v) := rfl
theorem fx_p8_34 (g : fx_Geo) (M : fx_Mem) (v : Int32) : (fx_wd g M).set 8 (fx_a g 8, .inr (9, ([.int (M.1 512), .ref (fx_a g 30), .ref (fx_a g 31), .int (M.1 515), .ref (fx_a g 32), .ref (fx_a g 33), .ref (fx_a g 34), .ref (fx_a g 35), .int (M.1 520), .int (M.1 521), .int (M.1 522), .ref (fx_a g 36), .ref (fx_a g 37), .ref (fx_a g 38), .ref (fx_a g 39), .ref (fx_a g 40), .ref (fx_a g 41), .ref (fx_a g 42), .ref (fx_a g 43), .ref (fx_a g 44), .ref (fx_a g 45), .ref (fx_a g 46), .ref (fx_a g 47), .ref (fx_a g 48), .ref (fx_a g 49), .ref (fx_a g 50), .ref (fx_a g 51), .ref (fx_a g 52), .ref (fx_a g 53), .ref (fx_a g 54), .int (M.1 542), .int (M.1 543), .ref (fx_a g 55), .ref (fx_a g 56), .int (M.1 546)] : List Value).set 34 (.int v))) = fx_wd g (fx_si M 546 v) := rfl
theorem fx_w9 (g : fx_Geo) (M : fx_Mem) : (fx_wd g M)[9]? = some (fx_a g 9, .inl (fx_cJ g, 1, .inr (.inl (M.2.2 9)))) := rfl
theorem fx_p9 (g : fx_Geo) (M : fx_Mem) (j : Nat) (v : Int64) : (fx_wd g M).set 9 (fx_a g 9, .inl (fx_cJ g, 1, .inr (.inl (vp_updL (M.2.2 9) j v)))) = fx_wd g (fx_sl M 9 j v) := rfl
theorem fx_w10 (g : fx_Geo) (M : fx_Mem) : (fx_wd g M)[10]? = some (fx_a g 10, .inl (fx_cI g, 5, .inl (M.2.1 10))) := rfl
theorem fx_p10 (g : fx_Geo) (M : fx_Mem) (f : Nat → Int32) : (fx_wd g M).set 10 (fx_a g 10, .inl (fx_cI g, 5, .inl f)) = fx_wd g (fx_sA M 10 f) := rfl
theorem fx_w11 (g : fx_Geo) (M : fx_Mem) : (fx_wd g M)[11]? = some (fx_a g 11, .inl (fx_cR g, 20, .inr (.inr (.inr (.inr (fun i => if i < 20 then some (fx_a g (57 + i)) else none)))))) := rfl
theorem fx_w12 (g : fx_Geo) (M : fx_Mem) : (fx_wd g M)[12]? = some (fx_a g 12, .inl (fx_cI g, 5, .inl (M.2.1 12))) := rfl
theorem fx_p12 (g : fx_Geo) (M : fx_Mem) (f : Nat → Int32) : (fx_wd g M).set 12 (fx_a g 12, .inl (fx_cI g, 5, .inl f)) = fx_wd g (fx_sA M 12 f) := rfl
theorem fx_w13 (g : fx_Geo) (M : fx_Mem) : (fx_wd g M)[13]? = some (fx_a g 13, .inl (fx_cR g, 20, .inr (.inr (.inr (.inr (fun i => if i < 20 then some (fx_a g (77 + i)) else none)))))) := rfl
theorem fx_w14 (g : fx_Geo) (M : fx_Mem) : (fx_wd g M)[14]? = some (fx_a g 14, .inl (fx_cC g, 80, .inl (M.2.1 14))) := rfl
theorem fx_p14 (g : fx_Geo) (M : fx_Mem) (f : Nat → Int32) : (fx_wd g M).set 14 (fx_a g 14, .inl (fx_cC g, 80, .inl f)) = fx_wd g (fx_sA M 14 f) := rfl
theorem fx_w15 (g : fx_Geo) (M : fx_Mem) : (fx_wd g M)[15]? = some (fx_a g 15, .inl (fx_cJ g, 20, .inr (.inl (M.2.2 15)))) := rfl
theorem fx_p15 (g : fx_Geo) (M : fx_Mem) (j : Nat) (v : Int64) : (fx_wd g M).set 15 (fx_a g 15, .inl (fx_cJ g, 20, .inr (.inl (vp_updL (M.2.2 15) j v)))) = fx_wd g (fx_sl M 15 j v) := rfl
theorem fx_w16 (g : fx_Geo) (M : fx_Mem) : (fx_wd g M)[16]? = some (fx_a g 16, .inl (fx_cI g, 20, .inl (M.2.1 16))) := rfl
theorem fx_p16 (g : fx_Geo) (M : fx_Mem) (f : Nat → Int32) : (fx_wd g M).set 16 (fx_a g 16, .inl (fx_cI g, 20, .inl f)) = fx_wd g (fx_sA M 16 f) := rfl
theorem fx_w17 (g : fx_Geo) (M : fx_Mem) : (fx_wd g M)[17]? = some (fx_a g 17, .inl (fx_cJ g, 20, .inr (.inl (M.2.2 17)))) := rfl
theorem fx_p17 (g : fx_Geo) (M : fx_Mem) (j : Nat) (v : Int64) : (fx_wd g M).set 17 (fx_a g 17, .inl (fx_cJ g, 20, .inr (.inl (vp_updL (M.2.2 17) j v)))) = fx_wd g (fx_sl M 17 j v) := rfl
theorem fx_w18 (g : fx_Geo) (M : fx_Mem) : (fx_wd g M)[18]? = some (fx_a g 18, .inl (fx_cI g, 20, .inl (M.2.1 18))) := rfl
theorem fx_p18 (g : fx_Geo) (M : fx_Mem) (f : Nat → Int32) : (fx_wd g M).set 18 (fx_a g 18, .inl (fx_cI g, 20, .inl f)) = fx_wd g (fx_sA M 18 f) := rfl
theorem fx_w19 (g : fx_Geo) (M : fx_Mem) : (fx_wd g M)[19]? = some (fx_a g 19, .inl (fx_cI g, 21, .inl (M.2.1 19))) := rfl
theorem fx_p19 (g : fx_Geo) (M : fx_Mem) (f : Nat → Int32) : (fx_wd g M).set 19 (fx_a g 19, .inl (fx_cI g, 21, .inl f)) = fx_wd g (fx_sA M 19 f) := rfl
theorem fx_w20 (g : fx_Geo) (M : fx_Mem) : (fx_wd g M)[20]? = some (fx_a g 20, .inl (fx_cI g, 20, .inl (M.2.1 20))) := rfl
theorem fx_p20 (g : fx_Geo) (M : fx_Mem) (f : Nat → Int32) : (fx_wd g M).set 20 (fx_a g 20, .inl (fx_cI g, 20, .inl f)) = fx_wd g (fx_sA M 20 f) := rfl
theorem fx_w21 (g : fx_Geo) (M : fx_Mem) : (fx_wd g M)[21]? = some (fx_a g 21, .inl (fx_cI g, 20, .inl (M.2.1 21))) := rfl
theorem fx_p21 (g : fx_Geo) (M : fx_Mem) (f : Nat → Int32) : (fx_wd g M).set 21 (fx_a g 21, .inl (fx_cI g, 20, .inl f)) = fx_wd g (fx_sA M 21 f) := rfl
theorem fx_w22 (g : fx_Geo) (M : fx_Mem) : (fx_wd g M)[22]? = some (fx_a g 22, .inl (fx_cI g, 20, .inl (M.2.1 22))) := rfl
theorem fx_p22 (g : fx_Geo) (M : fx_Mem) (f : Nat → Int32) : (fx_wd g M).set 22 (fx_a g 22, .inl (fx_cI g, 20, .inl f)) = fx_wd g (fx_sA M 22 f) := rfl
theorem fx_w23 (g : fx_Geo) (M : fx_Mem) : (fx_wd g M)[23]? = some (fx_a g 23, .inl (fx_cI g, 20, .inl (M.2.1 23))) := rfl
theorem fx_p23 (g : fx_Geo) (M : fx_Mem) (f : Nat → Int32) : (fx_wd g M).set 23 (fx_a g 23, .inl (fx_cI g, 20, .inl f)) = fx_wd g (fx_sA M 23 f) := rfl
theorem fx_w24 (g : fx_Geo) (M : fx_Mem) : (fx_wd g M)[24]? = some (fx_a g 24, .inl (fx_cI g, 20, .inl (M.2.1 24))) := rfl
theorem fx_p24 (g : fx_Geo) (M : fx_Mem) (f : Nat → Int32) : (fx_wd g M).set 24 (fx_a g 24, .inl (fx_cI g, 20, .inl f)) = fx_wd g (fx_sA M 24 f) := rfl
theorem fx_w25 (g : fx_Geo) (M : fx_Mem) : (fx_wd g M)[25]? = some (fx_a g 25, .inl (fx_cZ g, 20, .inl (M.2.1 25))) := rfl
theorem fx_p25 (g : fx_Geo) (M : fx_Mem) (f : Nat → Int32) : (fx_wd g M).set 25 (fx_a g 25, .inl (fx_cZ g, 20, .inl f)) = fx_wd g (fx_sA M 25 f) := rfl
theorem fx_w26 (g : fx_Geo) (M : fx_Mem) : (fx_wd g M)[26]? = some (fx_a g 26, .inl (fx_cI g, 20, .inl (M.2.1 26))) := rfl
theorem fx_p26 (g : fx_Geo) (M : fx_Mem) (f : Nat → Int32) : (fx_wd g M).set 26 (fx_a g 26, .inl (fx_cI g, 20, .inl f)) = fx_wd g (fx_sA M 26 f) := rfl
theorem fx_w27 (g : fx_Geo) (M : fx_Mem) : (fx_wd g M)[27]? = some (fx_a g 27, .inl (fx_cI g, 20, .inl (M.2.1 27))) := rfl
theorem fx_p27 (g : fx_Geo) (M : fx_Mem) (f : Nat → Int32) : (fx_wd g M).set 27 (fx_a g 27, .inl (fx_cI g, 20, .inl f)) = fx_wd g (fx_sA M 27 f) := rfl
theorem fx_w28 (g : fx_Geo) (M : fx_Mem) : (fx_wd g M)[28]? = some (fx_a g 28, .inl (fx_cI g, 20, .inl (M.2.1 28))) := rfl
theorem fx_p28 (g : fx_Geo) (M : fx_Mem) (f : Nat → Int32) : (fx_wd g M).set 28 (fx_a g 28, .inl (fx_cI g, 20, .inl f)) = fx_wd g (fx_sA M 28 f) := rfl
theorem fx_w29 (g : fx_Geo) (M : fx_Mem) : (fx_wd g M)[29]? = some (fx_a g 29, .inl (fx_cI g, 20, .inl (M.2.1 29))) := rfl
theorem fx_p29 (g : fx_Geo) (M : fx_Mem) (f : Nat → Int32) : (fx_wd g M).set 29 (fx_a g 29, .inl (fx_cI g, 20, .inl f)) = fx_wd g (fx_sA M 29 f) := rfl
theorem fx_w30 (g : fx_Geo) (M : fx_Mem) : (fx_wd g M)[30]? = some (fx_a g 30, .inl (fx_cI g, 9, .inl (M.2.1 30))) := rfl
theorem fx_p30 (g : fx_Geo) (M : fx_Mem) (f : Nat → Int32) : (fx_wd g M).set 30 (fx_a g 30, .inl (fx_cI g, 9, .inl f)) = fx_wd g (fx_sA M 30 f) := rfl
theorem fx_w31 (g : fx_Geo) (M : fx_Mem) : (fx_wd g M)[31]? = some (fx_a g 31, .inl (fx_cI g, 200, .inl (M.2.1 31))) := rfl
theorem fx_p31 (g : fx_Geo) (M : fx_Mem) (f : Nat → Int32) : (fx_wd g M).set 31 (fx_a g 31, .inl (fx_cI g, 200, .inl f)) = fx_wd g (fx_sA M 31 f) := rfl
theorem fx_w32 (g : fx_Geo) (M : fx_Mem) : (fx_wd g M)[32]? = some (fx_a g 32, .inl (fx_cC g, 80, .inl (M.2.1 32))) := rfl
theorem fx_p32 (g : fx_Geo) (M : fx_Mem) (f : Nat → Int32) : (fx_wd g M).set 32 (fx_a g 32, .inl (fx_cC g, 80, .inl f)) = fx_wd g (fx_sA M 32 f) := rfl
theorem fx_w33 (g : fx_Geo) (M : fx_Mem) : (fx_wd g M)[33]? = some (fx_a g 33, .inl (fx_cI g, 40, .inl (M.2.1 33))) := rfl
theorem fx_p33 (g : fx_Geo) (M : fx_Mem) (f : Nat → Int32) : (fx_wd g M).set 33 (fx_a g 33, .inl (fx_cI g, 40, .inl f)) = fx_wd g (fx_sA M 33 f) := rfl
theorem fx_w34 (g : fx_Geo) (M : fx_Mem) : (fx_wd g M)[34]? = some (fx_a g 34, .inl (fx_cI g, 40, .inl (M.2.1 34))) := rfl
theorem fx_p34 (g : fx_Geo) (M : fx_Mem) (f : Nat → Int32) : (fx_wd g M).set 34 (fx_a g 34, .inl (fx_cI g, 40, .inl f)) = fx_wd g (fx_sA M 34 f) := rfl
theorem fx_w35 (g : fx_Geo) (M : fx_Mem) : (fx_wd g M)[35]? = some (fx_a g 35, .inl (fx_cI g, 40, .inl (M.2.1 35))) := rfl
theorem fx_p35 (g : fx_Geo) (M : fx_Mem) (f : Nat → Int32) : (fx_wd g M).set 35 (fx_a g 35, .inl (fx_cI g, 40, .inl f)) = fx_wd g (fx_sA M 35 f) := rfl
theorem fx_w36 (g : fx_Geo) (M : fx_Mem) : (fx_wd g M)[36]? = some (fx_a g 36, .inl (fx_cJ g, 20, .inr (.inl (M.2.2 36)))) := rfl
theorem fx_p36 (g : fx_Geo) (M : fx_Mem) (j : Nat) (v : Int64) : (fx_wd g M).set 36 (fx_a g 36, .inl (fx_cJ g, 20, .inr (.inl (vp_updL (M.2.2 36) j v)))) = fx_wd g (fx_sl M 36 j v) := rfl
theorem fx_w37 (g : fx_Geo) (M : fx_Mem) : (fx_wd g M)[37]? = some (fx_a g 37, .inl (fx_cJ g, 20, .inr (.inl (M.2.2 37)))) := rfl
theorem fx_p37 (g : fx_Geo) (M : fx_Mem) (j : Nat) (v : Int64) : (fx_wd g M).set 37 (fx_a g 37, .inl (fx_cJ g, 20, .inr (.inl (vp_updL (M.2.2 37) j v)))) = fx_wd g (fx_sl M 37 j v) := rfl
theorem fx_w38 (g : fx_Geo) (M : fx_Mem) : (fx_wd g M)[38]? = some (fx_a g 38, .inl (fx_cJ g, 20, .inr (.inl (M.2.2 38)))) := rfl
theorem fx_p38 (g : fx_Geo) (M : fx_Mem) (j : Nat) (v : Int64) : (fx_wd g M).set 38 (fx_a g 38, .inl (fx_cJ g, 20, .inr (.inl (vp_updL (M.2.2 38) j v)))) = fx_wd g (fx_sl M 38 j v) := rfl
theorem fx_w39 (g : fx_Geo) (M : fx_Mem) : (fx_wd g M)[39]? = some (fx_a g 39, .inl (fx_cI g, 20, .inl (M.2.1 39))) := rfl
theorem fx_p39 (g : fx_Geo) (M : fx_Mem) (f : Nat → Int32) : (fx_wd g M).set 39 (fx_a g 39, .inl (fx_cI g, 20, .inl f)) = fx_wd g (fx_sA M 39 f) := rfl
theorem fx_w40 (g : fx_Geo) (M : fx_Mem) : (fx_wd g M)[40]? = some (fx_a g 40, .inl (fx_cI g, 20, .inl (M.2.1 40))) := rfl
theorem fx_p40 (g : fx_Geo) (M : fx_Mem) (f : Nat → Int32) : (fx_wd g M).set 40 (fx_a g 40, .inl (fx_cI g, 20, .inl f)) = fx_wd g (fx_sA M 40 f) := rfl
theorem fx_w41 (g : fx_Geo) (M : fx_Mem) : (fx_wd g M)[41]? = some (fx_a g 41, .inl (fx_cI g, 20, .inl (M.2.1 41))) := rfl
theorem fx_p41 (g : fx_Geo) (M : fx_Mem) (f : Nat → Int32) : (fx_wd g M).set 41 (fx_a g 41, .inl (fx_cI g, 20, .inl f)) = fx_wd g (fx_sA M 41 f) := rfl
theorem fx_w42 (g : fx_Geo) (M : fx_Mem) : (fx_wd g M)[42]? = some (fx_a g 42, .inl (fx_cI g, 20, .inl (M.2.1 42))) := rfl
theorem fx_p42 (g : fx_Geo) (M : fx_Mem) (f : Nat → Int32) : (fx_wd g M).set 42 (fx_a g 42, .inl (fx_cI g, 20, .inl f)) = fx_wd g (fx_sA M 42 f) := rfl
theorem fx_w43 (g : fx_Geo) (M : fx_Mem) : (fx_wd g M)[43]? = some (fx_a g 43, .inl (fx_cI g, 20, .inl (M.2.1 43))) := rfl
theorem fx_p43 (g : fx_Geo) (M : fx_Mem) (f : Nat → Int32) : (fx_wd g M).set 43 (fx_a g 43, .inl (fx_cI g, 20, .inl f)) = fx_wd g (fx_sA M 43 f) := rfl
theorem fx_w44 (g : fx_Geo) (M : fx_Mem) : (fx_wd g M)[44]? = some (fx_a g 44, .inl (fx_cI g, 20, .inl (M.2.1 44))) := rfl
theorem fx_p44 (g : fx_Geo) (M : fx_Mem) (f : Nat → Int32) : (fx_wd g M).set 44 (fx_a g 44, .inl (fx_cI g, 20, .inl f)) = fx_wd g (fx_sA M 44 f) := rfl
theorem fx_w45 (g : fx_Geo) (M : fx_Mem) : (fx_wd g M)[45]? = some (fx_a g 45, .inl (fx_cI g, 20, .inl (M.2.1 45))) := rfl
theorem fx_p45 (g : fx_Geo) (M : fx_Mem) (f : Nat → Int32) : (fx_wd g M).set 45 (fx_a g 45, .inl (fx_cI g, 20, .inl f)) = fx_wd g (fx_sA M 45 f) := rfl
theorem fx_w46 (g : fx_Geo) (M : fx_Mem) : (fx_wd g M)[46]? = some (fx_a g 46, .inl (fx_cZ g, 20, .inl (M.2.1 46))) := rfl
theorem fx_p46 (g : fx_Geo) (M : fx_Mem) (f : Nat → Int32) : (fx_wd g M).set 46 (fx_a g 46, .inl (fx_cZ g, 20, .inl f)) = fx_wd g (fx_sA M 46 f) := rfl
theorem fx_w47 (g : fx_Geo) (M : fx_Mem) : (fx_wd g M)[47]? = some (fx_a g 47, .inl (fx_cI g, 20, .inl (M.2.1 47))) := rfl
theorem fx_p47 (g : fx_Geo) (M : fx_Mem) (f : Nat → Int32) : (fx_wd g M).set 47 (fx_a g 47, .inl (fx_cI g, 20, .inl f)) = fx_wd g (fx_sA M 47 f) := rfl
theorem fx_w48 (g : fx_Geo) (M : fx_Mem) : (fx_wd g M)[48]? = some (fx_a g 48, .inl (fx_cI g, 20, .inl (M.2.1 48))) := rfl
theorem fx_p48 (g : fx_Geo) (M : fx_Mem) (f : Nat → Int32) : (fx_wd g M).set 48 (fx_a g 48, .inl (fx_cI g, 20, .inl f)) = fx_wd g (fx_sA M 48 f) := rfl
theorem fx_w49 (g : fx_Geo) (M : fx_Mem) : (fx_wd g M)[49]? = some (fx_a g 49, .inl (fx_cI g, 20, .inl (M.2.1 49))) := rfl
theorem fx_p49 (g : fx_Geo) (M : fx_Mem) (f : Nat → Int32) : (fx_wd g M).set 49 (fx_a g 49, .inl (fx_cI g, 20, .inl f)) = fx_wd g (fx_sA M 49 f) := rfl
theorem fx_w50 (g : fx_Geo) (M : fx_Mem) : (fx_wd g M)[50]? = some (fx_a g 50, .inl (fx_cI g, 20, .inl (M.2.1 50))) := rfl
theorem fx_p50 (g : fx_Geo) (M : fx_Mem) (f : Nat → Int32) : (fx_wd g M).set 50 (fx_a g 50, .inl (fx_cI g, 20, .inl f)) = fx_wd g (fx_sA M 50 f) := rfl
theorem fx_w51 (g : fx_Geo) (M : fx_Mem) : (fx_wd g M)[51]? = some (fx_a g 51, .inl (fx_cI g, 20, .inl (M.2.1 51))) := rfl
theorem fx_p51 (g : fx_Geo) (M : fx_Mem) (f : Nat → Int32) : (fx_wd g M).set 51 (fx_a g 51, .inl (fx_cI g, 20, .inl f)) = fx_wd g (fx_sA M 51 f) := rfl
theorem fx_w52 (g : fx_Geo) (M : fx_Mem) : (fx_wd g M)[52]? = some (fx_a g 52, .inl (fx_cI g, 20, .inl (M.2.1 52))) := rfl
theorem fx_p52 (g : fx_Geo) (M : fx_Mem) (f : Nat → Int32) : (fx_wd g M).set 52 (fx_a g 52, .inl (fx_cI g, 20, .inl f)) = fx_wd g (fx_sA M 52 f) := rfl
theorem fx_w53 (g : fx_Geo) (M : fx_Mem) : (fx_wd g M)[53]? = some (fx_a g 53, .inl (fx_cI g, 20, .inl (M.2.1 53))) := rfl
theorem fx_p53 (g : fx_Geo) (M : fx_Mem) (f : Nat → Int32) : (fx_wd g M).set 53 (fx_a g 53, .inl (fx_cI g, 20, .inl f)) = fx_wd g (fx_sA M 53 f) := rfl
theorem fx_w54 (g : fx_Geo) (M : fx_Mem) : (fx_wd g M)[54]? = some (fx_a g 54, .inl (fx_cI g, 20, .inl (M.2.1 54))) := rfl
theorem fx_p54 (g : fx_Geo) (M : fx_Mem) (f : Nat → Int32) : (fx_wd g M).set 54 (fx_a g 54, .inl (fx_cI g, 20, .inl f)) = fx_wd g (fx_sA M 54 f) := rfl
theorem fx_w55 (g : fx_Geo) (M : fx_Mem) : (fx_wd g M)[55]? = some (fx_a g 55, .inl (fx_cI g, 20, .inl (M.2.1 55))) := rfl
theorem fx_p55 (g : fx_Geo) (M : fx_Mem) (f : Nat → Int32) : (fx_wd g M).set 55 (fx_a g 55, .inl (fx_cI g, 20, .inl f)) = fx_wd g (fx_sA M 55 f) := rfl
theorem fx_w56 (g : fx_Geo) (M : fx_Mem) : (fx_wd g M)[56]? = some (fx_a g 56, .inl (fx_cI g, 210, .inl (M.2.1 56))) := rfl
theorem fx_p56 (g : fx_Geo) (M : fx_Mem) (f : Nat → Int32) : (fx_wd g M).set 56 (fx_a g 56, .inl (fx_cI g, 210, .inl f)) = fx_wd g (fx_sA M 56 f) := rfl
theorem fx_r1 (g : fx_Geo) (M : fx_Mem) : ∀ j, j < 20 → (fx_wd g M)[57 + j]? = some (fx_a g (57 + j), .inl (fx_cI g, 10, .inl (M.2.1 (57 + j))))
  | 0, _ => rfl
  | 1, _ => rfl
  | 2, _ => rfl
  | 3, _ => rfl
  | 4, _ => rfl
  | 5, _ => rfl
  | 6, _ => rfl
  | 7, _ => rfl
  | 8, _ => rfl
  | 9, _ => rfl
  | 10, _ => rfl
  | 11, _ => rfl
  | 12, _ => rfl
  | 13, _ => rfl
  | 14, _ => rfl
  | 15, _ => rfl
  | 16, _ => rfl
  | 17, _ => rfl
  | 18, _ => rfl
  | 19, _ => rfl
  | n + 20, h => absurd h (by omega)
theorem fx_q1 (g : fx_Geo) (M : fx_Mem) (f : Nat → Int32) : ∀ j, j < 20 → (fx_wd g M).set (57 + j) (fx_a g (57 + j), .inl (fx_cI g, 10, .inl f)) = fx_wd g (fx_sA M (57 + j) f)
  | 0, _ => rfl
  | 1, _ => rfl
  | 2, _ => rfl
  | 3, _ => rfl
  | 4, _ => rfl
  | 5, _ => rfl
  | 6, _ => rfl
  | 7, _ => rfl
  | 8, _ => rfl
  | 9, _ => rfl
  | 10, _ => rfl
  | 11, _ => rfl
  | 12, _ => rfl
  | 13, _ => rfl
  | 14, _ => rfl
  | 15, _ => rfl
  | 16, _ => rfl
  | 17, _ => rfl
  | 18, _ => rfl
  | 19, _ => rfl
  | n + 20, h => absurd h (by omega)
theorem fx_r2 (g : fx_Geo) (M : fx_Mem) : ∀ j, j < 20 → (fx_wd g M)[77 + j]? = some (fx_a g (77 + j), .inl (fx_cI g, 10, .inl (M.2.1 (77 + j))))
  | 0, _ => rfl
  | 1, _ => rfl
  | 2, _ => rfl
  | 3, _ => rfl
  | 4, _ => rfl
  | 5, _ => rfl
  | 6, _ => rfl
  | 7, _ => rfl
  | 8, _ => rfl
  | 9, _ => rfl
  | 10, _ => rfl
  | 11, _ => rfl
  | 12, _ => rfl
  | 13, _ => rfl
  | 14, _ => rfl
  | 15, _ => rfl
  | 16, _ => rfl
  | 17, _ => rfl
  | 18, _ => rfl
  | 19, _ => rfl
  | n + 20, h => absurd h (by omega)
theorem fx_q2 (g : fx_Geo) (M : fx_Mem) (f : Nat → Int32) : ∀ j, j < 20 → (fx_wd g M).set (77 + j) (fx_a g (77 + j), .inl (fx_cI g, 10, .inl f)) = fx_wd g (fx_sA M (77 + j) f)
  | 0, _ => rfl
  | 1, _ => rfl
  | 2, _ => rfl
  | 3, _ => rfl
  | 4, _ => rfl
  | 5, _ => rfl
  | 6, _ => rfl
  | 7, _ => rfl
  | 8, _ => rfl
  | 9, _ => rfl
  | 10, _ => rfl
  | 11, _ => rfl
  | 12, _ => rfl
  | 13, _ => rfl
  | 14, _ => rfl
  | 15, _ => rfl
  | 16, _ => rfl
  | 17, _ => rfl
  | 18, _ => rfl
  | 19, _ => rfl
  | n + 20, h => absurd h (by omega)
/-! what the static tables, the nest mates' links, the texts of throws are: as the start of the law has them; a method takes them at its start -/
def fx_tHS (j : Nat) : Int32 := ([(3), (2), (5), (4), (6)] : List Int32).getD j 0
def fx_tLO (j : Nat) : Int32 := ([(0), (0), (0), (0), (-1), (0), (0), (-1), (-9), (0)] : List Int32).getD j 0
def fx_tHI (j : Nat) : Int32 := ([(9999), (99), (99), (9999), (9999), (9999), (9999), (4), (9), (1)] : List Int32).getD j 0
def fx_tFI (j : Nat) : Int32 := ([(0), (0), (1), (0), (-1), (0), (0), (-1), (0), (1)] : List Int32).getD j 0
def fx_tLE (j : Nat) : Int32 := ([(98), (103), (115), (109), (120), (99), (97), (108), (111), (116)] : List Int32).getD j 0
def fx_tQS (j : Nat) : Int32 := ([(3), (2), (5), (4), (6)] : List Int32).getD j 0
def fx_tQL (j : Nat) : Int32 := ([(0), (0), (0), (0), (-1), (0), (0), (-1), (-9), (0)] : List Int32).getD j 0
def fx_tQM (j : Nat) : Int32 := ([(9999), (99), (99), (9999), (9999), (9999), (9999), (4), (9), (1)] : List Int32).getD j 0
def fx_tQF (j : Nat) : Int32 := ([(0), (0), (1), (0), (-1), (0), (0), (-1), (0), (1)] : List Int32).getD j 0
end
section
/-- the words that every method of ours takes: all good ones of the tables -/
def fx_U : List Cond := lw_tbl.filter goodWord
theorem fx_Ui {w : Cond} (i : Nat) (h : tables_1[i]? = some w) (hg : goodWord w = true) : w ∈ fx_U := List.mem_filter.mpr ⟨List.mem_append_right _ (List.mem_of_getElem? h), hg⟩
theorem fx_Us {w : Cond} (i : Nat) (h : (k2_sels lw_privs)[i]? = some w) (hg : goodWord w = true) : w ∈ fx_U := List.mem_filter.mpr ⟨List.mem_append_left _ (List.mem_of_getElem? h), hg⟩
theorem fx_Ug {w : Cond} (h : w ∈ fx_U) : (w.onTables && w.keeps) = true ∨ ∃ ty, w = .arrayClass ty := good_of_word (List.mem_filter.mp h).2
theorem fx_gd {c0 : Cond} (h : c0 ∈ fx_U) {ws : List Cond} (hw : ∀ w ∈ ws, w ∈ fx_U) : GoodIn fx_U (ws ++ c0 :: fx_U) := by
  intro w hm
  have hu : w ∈ fx_U := by
    rcases List.mem_append.mp hm with h1 | h1
    · exact hw w h1
    · rcases List.mem_cons.mp h1 with h2 | h2
      · rw [h2]; exact h
      · exact h2
  exact ⟨hu, fx_Ug hu⟩
theorem fx_cwV {R : Room} {s : State} {args : Array Value} {own C : String} {index maxL mc ms : Nat} {y : MethodName} {bytes : ByteArray} {rt : Option FieldType} {rm : Room} (n : Nat) (hts : ∀ w ∈ fx_U, w.before args s = true) (h1 : Cond.methodLink own index y ∈ fx_U) (h2 : Cond.instanceMethod y ∈ fx_U) (h3 : Cond.selects C y y ∈ fx_U) (h4 : Cond.initialized C ∈ fx_U) (h5 : Cond.code y bytes maxL rt ∈ fx_U) (hrc : rm.cells = mc) (hrs : rm.slots = ms)
    (hd : y.cls = C ∧ y.cls ≠ "java/lang/invoke/MethodHandle" ∧ y.cls ≠ "java/lang/invoke/VarHandle" ∧ (parseMethodDescriptor y.desc).map (fun d => d.parameters.length) = some n) (hR : rm.frames + 1 ≤ R.frames ∧ 8 + (maxL + 11) + rm.locals ≤ R.locals) :
    CallW R s args own C index y bytes maxL rt (Cond.code y bytes maxL rt :: fx_U) rm mc ms n := by
  refine cwV n hts (fx_gd h5 (ws := [.methodLink own index y, .instanceMethod y, .selects C y y, .initialized C]) ?_) rfl hrc hrs hd hR
  intro w hw
  simp only [List.mem_cons, List.not_mem_nil, or_false] at hw
  rcases hw with rfl | rfl | rfl | rfl <;> assumption
theorem fx_cwS {R : Room} {s : State} {args : Array Value} {own : String} {index maxL mc ms : Nat} {y : MethodName} {bytes : ByteArray} {rt : Option FieldType} {rm : Room} (n : Nat) (hts : ∀ w ∈ fx_U, w.before args s = true) (h1 : Cond.methodLink own index y ∈ fx_U) (h2 : Cond.static y ∈ fx_U) (h4 : Cond.initialized y.cls ∈ fx_U) (h5 : Cond.code y bytes maxL rt ∈ fx_U) (hrc : rm.cells = mc) (hrs : rm.slots = ms)
    (hd : y.cls ≠ "java/lang/invoke/MethodHandle" ∧ y.cls ≠ "java/lang/invoke/VarHandle" ∧ (parseMethodDescriptor y.desc).map (fun d => d.parameters.length) = some n) (hR : rm.frames + 1 ≤ R.frames ∧ 8 + (maxL + 11) + rm.locals ≤ R.locals) :
    CallB R s args own index y bytes maxL rt (Cond.code y bytes maxL rt :: fx_U) rm mc ms n ∧ (Cond.static y).before args s = true := by
  refine va_cwS n hts (fx_gd h5 (ws := [.methodLink own index y, .static y, .initialized y.cls]) ?_) rfl hrc hrs hd hR
  intro w hw
  simp only [List.mem_cons, List.not_mem_nil, or_false] at hw
  rcases hw with rfl | rfl | rfl <;> assumption
theorem fx_cwSN {R : Room} {s : State} {args : Array Value} {own host : String} {index maxL mc ms : Nat} {y : MethodName} {bytes : ByteArray} {rt : Option FieldType} {rm : Room} (n : Nat) (hts : ∀ w ∈ fx_U, w.before args s = true) (h1 : va_Nw (.methodLinkNest own index y host) s) (h2 : Cond.static y ∈ fx_U) (h4 : Cond.initialized y.cls ∈ fx_U) (h5 : Cond.code y bytes maxL rt ∈ fx_U) (hrc : rm.cells = mc) (hrs : rm.slots = ms)
    (hd : y.cls ≠ "java/lang/invoke/MethodHandle" ∧ y.cls ≠ "java/lang/invoke/VarHandle" ∧ (parseMethodDescriptor y.desc).map (fun d => d.parameters.length) = some n) (hR : rm.frames + 1 ≤ R.frames ∧ 8 + (maxL + 11) + rm.locals ≤ R.locals) :
    va_CN R s args own index y host bytes maxL rt (Cond.code y bytes maxL rt :: fx_U) rm mc ms n ∧ (Cond.static y).before args s = true ∧ True :=
  ⟨va_cnB n hts (fun w hm => by
    have hu : w ∈ fx_U := by
      rcases List.mem_cons.mp hm with h | h
      · rw [h]; exact h5
      · exact h
    exact ⟨hu, fx_Ug hu⟩) rfl hrc hrs h1 (hts _ h4) hd hR, hts _ h2, trivial⟩
/-- a loop, by the number of its rounds: the body says what it needs of the next round -/
def fx_lp {α : Type} (step : (α → Prop) → α → Prop) : Nat → α → Prop
  | 0, _ => False
  | n + 1, a => step (fx_lp step n) a
theorem fx_lp_rule {α : Type} {step : (α → Prop) → α → Prop} (I : α → Prop) (μ : α → Nat) (hs : ∀ (k : α → Prop) (a : α), I a → (∀ b, I b → μ b < μ a → k b) → step k a) : ∀ (m : Nat) (a : α), I a → μ a < m → fx_lp step m a
  | 0, _, _, h => absurd h (Nat.not_lt_zero _)
  | m + 1, a, hI, h => hs _ a hI (fun b hb hlt => fx_lp_rule I μ hs m b hb (by omega))
theorem fx_lp_ex {α : Type} {step : (α → Prop) → α → Prop} (I : α → Prop) (μ : α → Nat) (hs : ∀ (k : α → Prop) (a : α), I a → (∀ b, I b → μ b < μ a → k b) → step k a) (a : α) (h : I a) : ∃ n, fx_lp step n a := ⟨μ a + 1, fx_lp_rule I μ hs _ a h (Nat.lt_succ_self _)⟩
/-- a static table: where it lies, what it holds -/
def fx_tab (C n d : String) (ty : FieldType) (N : Nat) (f : Nat → Int32) (A : Nat → Prop) (U : State) (H : Heap) : Prop := ∃ t : Nat, va_Z C n d (.ref t) A U H ∧ va_T ty t N (fun j => .int (f j)) A U H
theorem fx_tab_move {C n d : String} {ty : FieldType} {N : Nat} {f : Nat → Int32} {A : Nat → Prop} {u U : State} {H H1 : Heap} (hvm : u.vm.Alike U.vm) (hq : ∀ a : Nat, a < H.size → ¬ A a → H1[a]? = H[a]?) (h : fx_tab C n d ty N f A u H) : fx_tab C n d ty N f A U H1 := by
  obtain ⟨t, h1, h2⟩ := h
  exact ⟨t, (h1.moved hvm).kept hq, (h2.moved hvm).kept hq⟩
abbrev fx_tb : Type := String × String × String × FieldType × Nat × (Nat → Int32)
def fx_tabs : List fx_tb := [("FlexLayout", "HIGHEST_SETTING", "[I", .int, 5, fx_tHS), ("FlexLayout", "LOWEST", "[I", .int, 10, fx_tLO), ("FlexLayout", "HIGHEST", "[I", .int, 10, fx_tHI), ("FlexLayout", "FIRST", "[I", .int, 10, fx_tFI), ("FlexLayout", "LETTERS", "[C", .char, 10, fx_tLE), ("FlexLayoutModel", "MOST_SETTING", "[I", .int, 5, fx_tQS), ("FlexLayoutModel", "LEAST", "[I", .int, 10, fx_tQL), ("FlexLayoutModel", "MOST", "[I", .int, 10, fx_tQM), ("FlexLayoutModel", "FIRST", "[I", .int, 10, fx_tQF)]
def fx_strs : List (String × Nat × String) := [("FlexLayout", 64, "no such main size"), ("FlexLayout", 73, "no such cross size"), ("FlexLayout", 78, "no such gap"), ("FlexLayout", 88, "no such setting"), ("FlexLayout", 95, "no such value of the setting"), ("FlexLayout", 104, "no such size"), ("FlexLayout", 267, "there are 20 items"), ("FlexLayout", 269, "no such item"), ("FlexLayout", 273, "no such property"), ("FlexLayout", 130, "no such value of the property"), ("FlexLayout", 141, "the buffer is full"), ("FlexLayout", 166, "no such place"), ("FlexLayout", 177, "no such coordinate"), ("FlexLayout", 271, "no such line"), ("FlexLayout", 221, "no item at this point"), ("FlexLayout", 227, "no such number of lines"), ("FlexLayout", 233, "no main size is wide enough"), ("FlexLayout", 240, "no such number of pixels or weight"), ("FlexLayout", 252, "all weights are 0"), ("FlexLayout", 265, "nothing was saved")]
def fx_nm : List (String × Nat × MethodName × String) := [("FlexLayout", 9, ⟨"FlexLayout$Container", "<init>", "()V"⟩, "FlexLayout"), ("FlexLayout", 25, ⟨"FlexLayout$ItemText", "<init>", "()V"⟩, "FlexLayout"), ("FlexLayout", 32, ⟨"FlexLayout$Division", "<init>", "()V"⟩, "FlexLayout"), ("FlexLayout", 39, ⟨"FlexLayout$Arrangement", "<init>", "()V"⟩, "FlexLayout"), ("FlexLayout", 46, ⟨"FlexLayout$MainAxis", "<init>", "()V"⟩, "FlexLayout"), ("FlexLayout", 53, ⟨"FlexLayout$CrossAxis", "<init>", "()V"⟩, "FlexLayout"), ("FlexLayout$CrossAxis", 96, ⟨"FlexLayout", "offset", "(IIII)I"⟩, "FlexLayout"), ("FlexLayout$MainAxis", 114, ⟨"FlexLayout", "offset", "(IIII)I"⟩, "FlexLayout"), ("FlexLayout$ItemText", 31, ⟨"FlexLayout", "canHave", "(II)Z"⟩, "FlexLayout")]
def fx_nf : List (String × Nat × String × String × String × String) := [("FlexLayout$Container", 48, "FlexLayout", "FIRST", "[I", "FlexLayout"), ("FlexLayout$ItemText", 35, "FlexLayout", "LETTERS", "[C", "FlexLayout")]
def fx_ex : List String := ["java/lang/IllegalArgumentException", "java/lang/IllegalStateException", "java/lang/IndexOutOfBoundsException", "java/lang/ArithmeticException", "java/util/NoSuchElementException"]
def fx_dc : List MethodName := [Bundle.initS "java/lang/RuntimeException", Bundle.initS "java/lang/Exception", Bundle.initS Bundle.tN]
/-- what the tables say beside the words: the static tables, the texts, the nest mates' links, the throws' own statics, which exceptions are no others -/
def fx_St (g : fx_Geo) (U : State) : Prop :=
  (∀ q ∈ fx_tabs, fx_tab q.1 q.2.1 q.2.2.1 q.2.2.2.1 q.2.2.2.2.1 q.2.2.2.2.2 (fx_A g) U U.heap) ∧
  (∀ q ∈ fx_strs, ∃ a, vk_R q.1 q.2.1 q.2.2 a U) ∧
  (∀ q ∈ fx_nm, va_Nw (.methodLinkNest q.1 q.2.1 q.2.2.1 q.2.2.2) U) ∧
  (∀ q ∈ fx_nf, va_Nw (.fieldLinkNest q.1 q.2.1 q.2.2.1 q.2.2.2.1 q.2.2.2.2.1 q.2.2.2.2.2) U) ∧
  vx_Zq Bundle.tN "UNASSIGNED_STACK" Bundle.steD (fx_A g) U U.heap ∧ vx_Zq Bundle.tN "SUPPRESSED_SENTINEL" Bundle.listD (fx_A g) U U.heap ∧
  (∀ a ∈ fx_ex, ∀ b ∈ fx_ex, a ≠ b → va_Nc a b U) ∧ (∀ a ∈ fx_ex, va_Nw (.castable a a) U) ∧ (∀ y ∈ fx_dc, va_Nw (.declares y) U)
theorem fx_St_warm {g : fx_Geo} {s U : State} (hW : s.WarmedH U.vm) (hq : ∀ a : Nat, a < s.heap.size → ¬ fx_A g a → U.heap[a]? = s.heap[a]?) (h : fx_St g s) : fx_St g U := by
  obtain ⟨h1, h2, h3, h4, h5, h6, h7, h8, h9⟩ := h
  refine ⟨fun q hm => fx_tab_move hW.alike hq (h1 q hm), fun q hm => ?_, fun q hm => (h3 q hm).warmM hW, fun q hm => (h4 q hm).warmF hW, (h5.moved hW.alike).kept hq, (h6.moved hW.alike).kept hq, fun a ha b hb hne => (h7 a ha b hb hne).moved hW.alike, fun a ha => (h8 a ha).warmC hW, fun y hy => (h9 y hy).warmD hW⟩
  obtain ⟨a, ha⟩ := h2 q hm
  exact ⟨a, ha.warm hW⟩
def fx_Pw (g : fx_Geo) (M : fx_Mem) (t : State) : Prop := va_P g.1 vwCl (fx_wd g M) t.heap
def fx_At (g : fx_Geo) (M : fx_Mem) (U : State) : Prop := g.2.2.2 ≤ U.heap.size ∧ va_P g.1 vwCl (fx_wd g M) U.heap ∧ va_K g.1 vwCl (fx_tys g) U ∧ fx_St g U
theorem fx_blind (g : fx_Geo) (M : fx_Mem) (av : List Value) : FrameBlind (va_Pc av (fx_At g M)) := by
  intro a U f mk h
  obtain ⟨h0, h1, h2, h3, h4⟩ := h
  exact ⟨h0, h1, h2, va_K.moved (u := U) (U := U.calling f mk a) (Vm.Alike.refl U.vm) h3, fx_St_warm (s := U) (U := U.calling f mk a) (State.WarmedH.refl U) (fun _ _ _ => rfl) h4⟩
/-- what a body has at hand at each of its places -/
def fx_Cx (g : fx_Geo) (p : Program) (s : State) (m : MethodId) (args : Array Value) (meth : Method) (c : Code) (own : String) (cc : ByteArray) (nL : Nat) (ret : Option FieldType) : Prop :=
  p.tables.exec = Jvm.exec ∧ c.code = cc ∧ meth.sig.returnType = ret ∧ c.maxLocals = nL ∧ s.vm.findClass own = some m.cls ∧ (∀ w ∈ fx_U, w.before args s = true) ∧ meth.locks = false ∧ g.2.2.2 ≤ s.heap.size ∧ va_K g.1 vwCl (fx_tys g) s ∧ fx_Gd g ∧ fx_St g s
section FXR
variable {g : fx_Geo} {p : Program} {l : Launch} {e : Env} {R : Room} {s : State} {m : MethodId} {args : Array Value} {below : List Frame} {meth : Method} {c : Code} {H : Heap} {locs : List Loc} {cells slots : Nat} {Q : State → Prop}
variable {own : String} {cc : ByteArray} {nL pc : Nat} {ret : Option FieldType} {ls : Array Slot} {rest : List Value} {M : fx_Mem}
/-- the world, at some place of a body -/
def fx_H (g : fx_Geo) (s : State) (M : fx_Mem) (H : Heap) (locs : List Loc) : Prop := va_P g.1 vwCl (fx_wd g M) H ∧ va_S (fx_A g) s.heap H locs
theorem fx_get (C : fx_Cx g p s m args meth c own cc nL ret) (hH : fx_H g s M H locs) {ci N index o : Nat} {Cn ref : String} {T : u_T} {fs : List Value} {v : Value} (he : (fx_wd g M)[o]? = some (fx_a g o, .inr (ci, fs))) (hc : vwCl[ci]? = some (Cn, T, N)) (hin : ∀ w ∈ u_ws Cn T N, w ∈ fx_U) (k : Nat) (hk : k < N) (hlink : Cond.fieldLink own index ref (T k).2.1 (T k).2.2.1 ∈ fx_U) (hr : (T k).1 = ref) (hv : fs[k]? = some v) (hdg : decode cc pc = .ok (.getfield index, 3))
    (kk : W p l e R s m args below meth c H locs cells slots Q (F0 m (pc + 3) ls (v :: rest))) : W p l e R s m args below meth c H locs cells slots Q (F0 m pc ls (.ref (fx_a g o) :: rest)) := by
  obtain ⟨hx, hb, -, -, hown, hts, -, -, hK, -⟩ := C
  exact va_get hx hb hts hin hown hK hH.1 o he hc k hk (hts _ hlink) (fun _ h => by rw [← hr]; exact h) hv hdg kk
theorem fx_put (C : fx_Cx g p s m args meth c own cc nL ret) (hH : fx_H g s M H locs) {ci N index o : Nat} {Cn ref : String} {T : u_T} {fs : List Value} {v : Value} {M' : fx_Mem} (he : (fx_wd g M)[o]? = some (fx_a g o, .inr (ci, fs))) (hc : vwCl[ci]? = some (Cn, T, N)) (hin : ∀ w ∈ u_ws Cn T N, w ∈ fx_U) (ty0 : Nat → FieldType) (hty : ∀ k, k < N → parseFieldDescriptor (T k).2.2.1 = some (ty0 k)) (hnm : ∀ a, a < N → ∀ b, b < N → a ≠ b → (T a).2.1 ≠ (T b).2.1) (k : Nat) (hk : k < N) (hlink : Cond.fieldLink own index ref (T k).2.1 (T k).2.2.1 ∈ fx_U) (hr : (T k).1 = ref) (hfin : (T k).2.2.2 = false) {ty : FieldType} (hd : parseFieldDescriptor (T k).2.2.1 = some ty) (hn : narrow ty v = v) (hfit : fits ty v = true) (hl : k < fs.length)
    (hset : (fx_wd g M).set o (fx_a g o, .inr (ci, fs.set k v)) = fx_wd g M') (hdg : decode cc pc = .ok (.putfield index, 3))
    (kk : ∀ (H1 : Heap) (locs1 : List Loc), fx_H g s M' H1 locs1 → W p l e R s m args below meth c H1 locs1 cells slots Q (F0 m (pc + 3) ls rest)) : W p l e R s m args below meth c H locs cells slots Q (F0 m pc ls (v :: .ref (fx_a g o) :: rest)) := by
  obtain ⟨hx, hb, -, -, hown, hts, -, -, hK, hG, -⟩ := C
  refine va_put hx hb hts hin ty0 hty hnm hown hK hH.1 (hG M) hH.2 o he hc k hk (hts _ hlink) (fun _ h => by rw [← hr]; exact h) hfin hd hn hfit hl hdg (fun H1 locs1 hP _ hS => ?_)
  rw [hset] at hP
  exact kk H1 locs1 ⟨hP, hS⟩
theorem fx_iald (C : fx_Cx g p s m args meth c own cc nL ret) (hH : fx_H g s M H locs) {a n : Nat} {f : Nat → Int32} (o : Nat) (ha : (fx_wd g M)[o]? = some (a, .inl (fx_cI g, n, .inl f))) {i : Int32} {j : Nat} (hj : i.toNatClampNeg = j) (hin : vp_in i n) (hdg : decode cc pc = .ok (.iaload, 1))
    (kk : W p l e R s m args below meth c H locs cells slots Q (F0 m (pc + 1) ls (.int (f j) :: rest))) : W p l e R s m args below meth c H locs cells slots Q (F0 m pc ls (.int i :: .ref a :: rest)) := by
  subst hj
  obtain ⟨hx, hb, -, -, -, -, -, -, hK, -⟩ := C
  exact va_iald hx hb hK hH.1 o 0 ha rfl hin hdg kk
theorem fx_zald (C : fx_Cx g p s m args meth c own cc nL ret) (hH : fx_H g s M H locs) {a n : Nat} {f : Nat → Int32} (o : Nat) (ha : (fx_wd g M)[o]? = some (a, .inl (fx_cZ g, n, .inl f))) {i : Int32} {j : Nat} (hj : i.toNatClampNeg = j) (hin : vp_in i n) (hdg : decode cc pc = .ok (.baload, 1))
    (kk : W p l e R s m args below meth c H locs cells slots Q (F0 m (pc + 1) ls (.int (f j) :: rest))) : W p l e R s m args below meth c H locs cells slots Q (F0 m pc ls (.int i :: .ref a :: rest)) := by
  subst hj
  obtain ⟨hx, hb, -, -, -, -, -, -, hK, -⟩ := C
  exact va_zald hx hb hK hH.1 o 2 ha rfl hin hdg kk
theorem fx_cald (C : fx_Cx g p s m args meth c own cc nL ret) (hH : fx_H g s M H locs) {a n : Nat} {f : Nat → Int32} (o : Nat) (ha : (fx_wd g M)[o]? = some (a, .inl (fx_cC g, n, .inl f))) {i : Int32} {j : Nat} (hj : i.toNatClampNeg = j) (hin : vp_in i n) (hdg : decode cc pc = .ok (.caload, 1))
    (kk : W p l e R s m args below meth c H locs cells slots Q (F0 m (pc + 1) ls (.int (f j) :: rest))) : W p l e R s m args below meth c H locs cells slots Q (F0 m pc ls (.int i :: .ref a :: rest)) := by
  subst hj
  obtain ⟨hx, hb, -, -, -, -, -, -, hK, -⟩ := C
  exact va_cald hx hb hK hH.1 o 3 ha rfl hin hdg kk
theorem fx_lald (C : fx_Cx g p s m args meth c own cc nL ret) (hH : fx_H g s M H locs) {a n : Nat} {f : Nat → Int64} (o : Nat) (ha : (fx_wd g M)[o]? = some (a, .inl (fx_cJ g, n, .inr (.inl f)))) {i : Int32} {j : Nat} (hj : i.toNatClampNeg = j) (hin : vp_in i n) (hdg : decode cc pc = .ok (.laload, 1))
    (kk : W p l e R s m args below meth c H locs cells slots Q (F0 m (pc + 1) ls (.long (f j) :: rest))) : W p l e R s m args below meth c H locs cells slots Q (F0 m pc ls (.int i :: .ref a :: rest)) := by
  subst hj
  obtain ⟨hx, hb, -, -, -, -, -, -, hK, -⟩ := C
  exact va_lald hx hb hK hH.1 o 1 ha rfl hin hdg kk
/-- a row of a grid: rows of int[][] never move -/
theorem fx_aald (C : fx_Cx g p s m args meth c own cc nL ret) (hH : fx_H g s M H locs) {a b : Nat} (o : Nat) (ha : (fx_wd g M)[o]? = some (a, .inl (fx_cR g, 20, .inr (.inr (.inr (.inr (fun i => if i < 20 then some (fx_a g (b + i)) else none))))))) {i : Int32} (hin : vp_in i 20) (hdg : decode cc pc = .ok (.aaload, 1))
    (kk : W p l e R s m args below meth c H locs cells slots Q (F0 m (pc + 1) ls (.ref (fx_a g (b + i.toNatClampNeg)) :: rest))) : W p l e R s m args below meth c H locs cells slots Q (F0 m pc ls (.int i :: .ref a :: rest)) := by
  obtain ⟨hx, hb, -, -, -, -, -, -, hK, -⟩ := C
  have hlt : i.toNatClampNeg < 20 := Nat.not_le.mp fun q => hin (Or.inr q)
  have hcell : H[a]? = some (arrV (fx_cR g) 20 (fun j => va_rf (if j < 20 then some (fx_a g (b + j)) else none))) := by
    have h1 := hH.1 o _ ha
    exact h1
  have harr := (hK.2 4 (fx_cR g, .array .int) rfl).1 20 (fun j => va_rf (if j < 20 then some (fx_a g (b + j)) else none))
  generalize hcl : arrV (fx_cR g) 20 (fun j => va_rf (if j < 20 then some (fx_a g (b + j)) else none)) = cell at hcell harr
  have hsz : cell.slots.size = 20 := by rw [← hcl, arrV_size]
  have hv : cell.slots[i.toNatClampNeg]? = some (.ref (fx_a g (b + i.toNatClampNeg))) := by
    rw [← hcl, arrV_read _ _ hlt, if_pos hlt]
    rfl
  have hkn : cell.vm ≠ .unknown := by
    rw [← hcl]
    exact fun q => by cases q
  exact W.aald (v := .ref (fx_a g (b + i.toNatClampNeg))) (ty := .array .int) hx hb hcell harr rfl hkn (by rw [hsz]; exact hin) hv rfl rfl hdg kk
theorem fx_iast (C : fx_Cx g p s m args meth c own cc nL ret) (hH : fx_H g s M H locs) {a n : Nat} {f : Nat → Int32} {M' : fx_Mem} (o : Nat) {i x : Int32} {j : Nat} (hj : i.toNatClampNeg = j) (ha : (fx_wd g M)[o]? = some (a, .inl (fx_cI g, n, .inl f))) (hset : (fx_wd g M).set o (a, .inl (fx_cI g, n, .inl (upd f j x))) = fx_wd g M') (hin : vp_in i n) (hdg : decode cc pc = .ok (.iastore, 1))
    (kk : ∀ (H1 : Heap) (locs1 : List Loc), fx_H g s M' H1 locs1 → W p l e R s m args below meth c H1 locs1 cells slots Q (F0 m (pc + 1) ls rest)) : W p l e R s m args below meth c H locs cells slots Q (F0 m pc ls (.int x :: .int i :: .ref a :: rest)) := by
  subst hj
  obtain ⟨hx, hb, -, -, -, -, -, -, hK, hG, -⟩ := C
  refine va_iast hx hb hK hH.1 (hG M) hH.2 o 0 ha rfl hin hdg (fun H1 locs1 hP _ hS => ?_)
  rw [hset] at hP
  exact kk H1 locs1 ⟨hP, hS⟩
theorem fx_zast (C : fx_Cx g p s m args meth c own cc nL ret) (hH : fx_H g s M H locs) {a n : Nat} {f : Nat → Int32} {M' : fx_Mem} (o : Nat) {i x : Int32} {j : Nat} (hj : i.toNatClampNeg = j) (ha : (fx_wd g M)[o]? = some (a, .inl (fx_cZ g, n, .inl f))) (hset : (fx_wd g M).set o (a, .inl (fx_cZ g, n, .inl (upd f j (vp_nar .boolean x)))) = fx_wd g M') (hin : vp_in i n) (hdg : decode cc pc = .ok (.bastore, 1))
    (kk : ∀ (H1 : Heap) (locs1 : List Loc), fx_H g s M' H1 locs1 → W p l e R s m args below meth c H1 locs1 cells slots Q (F0 m (pc + 1) ls rest)) : W p l e R s m args below meth c H locs cells slots Q (F0 m pc ls (.int x :: .int i :: .ref a :: rest)) := by
  subst hj
  obtain ⟨hx, hb, -, -, -, -, -, -, hK, hG, -⟩ := C
  refine va_zast hx hb hK hH.1 (hG M) hH.2 o 2 ha rfl hin hdg (fun H1 locs1 hP _ hS => ?_)
  rw [hset] at hP
  exact kk H1 locs1 ⟨hP, hS⟩
theorem fx_cast (C : fx_Cx g p s m args meth c own cc nL ret) (hH : fx_H g s M H locs) {a n : Nat} {f : Nat → Int32} {M' : fx_Mem} (o : Nat) {i x : Int32} {j : Nat} (hj : i.toNatClampNeg = j) (ha : (fx_wd g M)[o]? = some (a, .inl (fx_cC g, n, .inl f))) (hset : (fx_wd g M).set o (a, .inl (fx_cC g, n, .inl (upd f j (vp_nar .char x)))) = fx_wd g M') (hin : vp_in i n) (hdg : decode cc pc = .ok (.castore, 1))
    (kk : ∀ (H1 : Heap) (locs1 : List Loc), fx_H g s M' H1 locs1 → W p l e R s m args below meth c H1 locs1 cells slots Q (F0 m (pc + 1) ls rest)) : W p l e R s m args below meth c H locs cells slots Q (F0 m pc ls (.int x :: .int i :: .ref a :: rest)) := by
  subst hj
  obtain ⟨hx, hb, -, -, -, -, -, -, hK, hG, -⟩ := C
  refine va_cast hx hb hK hH.1 (hG M) hH.2 o 3 ha rfl hin hdg (fun H1 locs1 hP _ hS => ?_)
  rw [hset] at hP
  exact kk H1 locs1 ⟨hP, hS⟩
theorem fx_last (C : fx_Cx g p s m args meth c own cc nL ret) (hH : fx_H g s M H locs) {a n : Nat} {f : Nat → Int64} {M' : fx_Mem} (o : Nat) {i : Int32} {x : Int64} {j : Nat} (hj : i.toNatClampNeg = j) (ha : (fx_wd g M)[o]? = some (a, .inl (fx_cJ g, n, .inr (.inl f)))) (hset : (fx_wd g M).set o (a, .inl (fx_cJ g, n, .inr (.inl (vp_updL f j x)))) = fx_wd g M') (hin : vp_in i n) (hdg : decode cc pc = .ok (.lastore, 1))
    (kk : ∀ (H1 : Heap) (locs1 : List Loc), fx_H g s M' H1 locs1 → W p l e R s m args below meth c H1 locs1 cells slots Q (F0 m (pc + 1) ls rest)) : W p l e R s m args below meth c H locs cells slots Q (F0 m pc ls (.long x :: .int i :: .ref a :: rest)) := by
  subst hj
  obtain ⟨hx, hb, -, -, -, -, -, -, hK, hG, -⟩ := C
  refine va_last hx hb hK hH.1 (hG M) hH.2 o 1 ha rfl hin hdg (fun H1 locs1 hP _ hS => ?_)
  rw [hset] at hP
  exact kk H1 locs1 ⟨hP, hS⟩
/-- a place of a static table -/
theorem fx_gets (C : fx_Cx g p s m args meth c own cc nL ret) (hH : fx_H g s M H locs) (k : Nat) {q : fx_tb} (hq : fx_tabs[k]? = some q) {index : Nat} (hlink : Cond.fieldLink own index q.1 q.2.1 q.2.2.1 ∈ fx_U) (hdg : decode cc pc = .ok (.getstatic index, 3))
    (kk : ∀ t : Nat, va_T q.2.2.2.1 t q.2.2.2.2.1 (fun j => .int (q.2.2.2.2.2 j)) (fx_A g) s s.heap → W p l e R s m args below meth c H locs cells slots Q (F0 m (pc + 3) ls (.ref t :: rest))) : W p l e R s m args below meth c H locs cells slots Q (F0 m pc ls rest) := by
  obtain ⟨hx, hb, -, -, hown, hts, -, -, hK, hG, hSt⟩ := C
  obtain ⟨t, h1, h2⟩ := hSt.1 q (List.mem_of_getElem? hq)
  exact va_gets hx hb h1 hH.2 hown (hts _ hlink) (fun _ h => h) hdg (kk t h2)
theorem fx_getsN (C : fx_Cx g p s m args meth c own cc nL ret) (hH : fx_H g s M H locs) (k : Nat) {q : fx_tb} (hq : fx_tabs[k]? = some q) {index : Nat} {host : String} (hlink : (own, index, q.1, q.2.1, q.2.2.1, host) ∈ fx_nf) (hdg : decode cc pc = .ok (.getstatic index, 3))
    (kk : ∀ t : Nat, va_T q.2.2.2.1 t q.2.2.2.2.1 (fun j => .int (q.2.2.2.2.2 j)) (fx_A g) s s.heap → W p l e R s m args below meth c H locs cells slots Q (F0 m (pc + 3) ls (.ref t :: rest))) : W p l e R s m args below meth c H locs cells slots Q (F0 m pc ls rest) := by
  obtain ⟨hx, hb, -, -, hown, hts, -, -, hK, hG, hSt⟩ := C
  obtain ⟨t, h1, h2⟩ := hSt.1 q (List.mem_of_getElem? hq)
  exact va_getsN hx hb h1 hH.2 hown (va_Nw.use rfl (hSt.2.2.2.1 _ hlink)) (fun _ h => h) hdg (kk t h2)
theorem fx_ti (C : fx_Cx g p s m args meth c own cc nL ret) (hH : fx_H g s M H locs) {t N : Nat} {f : Nat → Int32} (hT : va_T .int t N (fun j => .int (f j)) (fx_A g) s s.heap) {i : Int32} {j : Nat} (hj : i.toNatClampNeg = j) (hin : vp_in i N) (hdg : decode cc pc = .ok (.iaload, 1))
    (kk : W p l e R s m args below meth c H locs cells slots Q (F0 m (pc + 1) ls (.int (f j) :: rest))) : W p l e R s m args below meth c H locs cells slots Q (F0 m pc ls (.int i :: .ref t :: rest)) := by
  subst hj
  obtain ⟨hx, hb, -⟩ := C
  exact va_ti hx hb hT hH.2 hin rfl hdg kk
theorem fx_tc (C : fx_Cx g p s m args meth c own cc nL ret) (hH : fx_H g s M H locs) {t N : Nat} {f : Nat → Int32} (hT : va_T .char t N (fun j => .int (f j)) (fx_A g) s s.heap) {i : Int32} {j : Nat} (hj : i.toNatClampNeg = j) (hin : vp_in i N) (hdg : decode cc pc = .ok (.caload, 1))
    (kk : W p l e R s m args below meth c H locs cells slots Q (F0 m (pc + 1) ls (.int (f j) :: rest))) : W p l e R s m args below meth c H locs cells slots Q (F0 m pc ls (.int i :: .ref t :: rest)) := by
  subst hj
  obtain ⟨hx, hb, -⟩ := C
  exact va_tc hx hb hT hH.2 hin rfl hdg kk
-- ends
theorem fx_iret {post : Int32 → fx_Mem → Prop} (C : fx_Cx g p s m args meth c own cc nL (some .int)) (hH : fx_H g s M H locs) {v : Int32} (hq : post v M) (hdg : decode cc pc = .ok (.ireturn, 1)) : W p l e R s m args below meth c H locs cells slots (MQ below (va_Qi post (fx_Pw g) (fx_A g)) args s cells slots (fx_A g)) (F0 m pc ls [.int v]) := by
  obtain ⟨hx, hb, hr, -, -, -, hlocks, -⟩ := C
  exact W.iret (v := v) hx hb hr (fun t ht _ => ⟨⟨v, M, rfl, hq, by unfold fx_Pw; rw [ht]; exact hH.1⟩, hH.2.F ht⟩) hH.2.2.2 hdg hlocks
theorem fx_zret {post : Int32 → fx_Mem → Prop} (C : fx_Cx g p s m args meth c own cc nL (some .boolean)) (hH : fx_H g s M H locs) {v : Int32} (hv : v = 0 ∨ v = 1) (hq : post v M) (hdg : decode cc pc = .ok (.ireturn, 1)) : W p l e R s m args below meth c H locs cells slots (MQ below (va_Qi post (fx_Pw g) (fx_A g)) args s cells slots (fx_A g)) (F0 m pc ls [.int v]) := by
  obtain ⟨hx, hb, hr, -, -, -, hlocks, -⟩ := C
  exact W.zret (v := v) hx hb hr (by rcases hv with h | h <;> rw [h] <;> rfl) (fun t ht _ => ⟨⟨v, M, rfl, hq, by unfold fx_Pw; rw [ht]; exact hH.1⟩, hH.2.F ht⟩) hH.2.2.2 hdg hlocks
theorem fx_lret {post : Int64 → fx_Mem → Prop} (C : fx_Cx g p s m args meth c own cc nL (some .long)) (hH : fx_H g s M H locs) {v : Int64} (hq : post v M) (hdg : decode cc pc = .ok (.lreturn, 1)) : W p l e R s m args below meth c H locs cells slots (MQ below (va_Ql post (fx_Pw g) (fx_A g)) args s cells slots (fx_A g)) (F0 m pc ls [.long v]) := by
  obtain ⟨hx, hb, hr, -, -, -, hlocks, -⟩ := C
  exact W.lret (v := v) hx hb hr (fun t ht _ => ⟨⟨v, M, rfl, hq, by unfold fx_Pw; rw [ht]; exact hH.1⟩, hH.2.F ht⟩) hH.2.2.2 hdg hlocks
theorem fx_vret {post : fx_Mem → Prop} (C : fx_Cx g p s m args meth c own cc nL none) (hH : fx_H g s M H locs) (hq : post M) (hdg : decode cc pc = .ok (.return_, 1)) : W p l e R s m args below meth c H locs cells slots (MQ below (va_Qv post (fx_Pw g) (fx_A g)) args s cells slots (fx_A g)) (F0 m pc ls []) := by
  obtain ⟨hx, hb, hr, -, -, -, hlocks, -⟩ := C
  exact W.vret hx hb hr (fun t ht _ => ⟨⟨M, rfl, hq, by unfold fx_Pw; rw [ht]; exact hH.1⟩, hH.2.F ht⟩) hH.2.2.2 hdg hlocks
-- calls
theorem fx_pre (C : fx_Cx g p s m args meth c own cc nL ret) (hH : fx_H g s M H locs) (av : List Value) : ∀ U : State, U.heap = H → s.WarmedH U.vm → va_Pc av (fx_At g M) av.toArray U := by
  obtain ⟨-, -, -, -, -, -, -, hsz, hK, -, hSt⟩ := C
  intro U hU hW
  exact ⟨rfl, by rw [hU]; exact Nat.le_trans hsz hH.2.1, by rw [hU]; exact hH.1, va_K.moved hW.alike hK, fx_St_warm hW (fun a h1 h2 => by rw [hU]; exact hH.2.2.1 a h1 h2) hSt⟩
variable {y : MethodName} {ws : List Cond} {rm : Room} {bytes : ByteArray} {maxL n index mc ms : Nat} {rt : Option FieldType} {As st0 : List Value}
theorem fx_runV {Qc : Array Value → State → Outcome → State → Prop} {Cn : String} {T : u_T} {N ci o : Nat} {fs : List Value} (C : fx_Cx g p s m args meth c own cc nL ret) (hH : fx_H g s M H locs)
    (hM : Met l y ws rm (va_Pc (.ref (fx_a g o) :: As) (fx_At g M)) Qc mc ms (fx_A g)) (cw : CallW R s args own Cn index y bytes maxL rt ws rm mc ms n) (he : (fx_wd g M)[o]? = some (fx_a g o, .inr (ci, fs))) (hc : vwCl[ci]? = some (Cn, T, N)) (hn : As.length = n) (hls : ls.size = nL) (hst : st0 = As.reverse ++ .ref (fx_a g o) :: rest) (hrm : (rest.map fun v => v.category).sum ≤ 8) (hdg : decode cc pc = .ok (.invokevirtual index, 3)) (hf : cells + mc ≤ R.cells ∧ slots + ms ≤ R.slots) :
    va_Run p l e R s m args below meth c H locs cells slots mc ms (F0 m pc ls st0) rest (Qc (.ref (fx_a g o) :: As).toArray) (fx_A g) := by
  have hpre := fx_pre C hH (.ref (fx_a g o) :: As)
  obtain ⟨hx, hb, -, hml, hown, hts, -, -, hK, -⟩ := C
  exact va_runV (As := As) (rest := rest) ⟨hx, hb, hml, hown, hts⟩ hM cw ⟨fx_blind g M _, va_recv hK hH.1 hc he, hpre⟩ rfl hn hls hst (lv_room hrm) hdg hf
theorem fx_runS {Qc : Array Value → State → Outcome → State → Prop} (C : fx_Cx g p s m args meth c own cc nL ret) (hH : fx_H g s M H locs)
    (hM : Met l y ws rm (va_Pc As (fx_At g M)) Qc mc ms (fx_A g)) (cw : CallB R s args own index y bytes maxL rt ws rm mc ms n ∧ (Cond.static y).before args s = true) (hn : As.length = n) (hls : ls.size = nL) (hst : st0 = As.reverse ++ rest) (hrm : (rest.map fun v => v.category).sum ≤ 8) (hdg : decode cc pc = .ok (.invokestatic index, 3)) (hf : cells + mc ≤ R.cells ∧ slots + ms ≤ R.slots) :
    va_Run p l e R s m args below meth c H locs cells slots mc ms (F0 m pc ls st0) rest (Qc As.toArray) (fx_A g) := by
  have hpre := fx_pre C hH As
  obtain ⟨hx, hb, -, hml, hown, hts, -, -, hK, -⟩ := C
  exact va_runS (As := As) (rest := rest) ⟨hx, hb, hml, hown, hts⟩ hM cw ⟨fx_blind g M _, hpre⟩ rfl hn hls hst (lv_room hrm) hdg hf
theorem fx_runSN {Qc : Array Value → State → Outcome → State → Prop} {host : String} (C : fx_Cx g p s m args meth c own cc nL ret) (hH : fx_H g s M H locs)
    (hM : Met l y ws rm (va_Pc As (fx_At g M)) Qc mc ms (fx_A g)) (cw : va_CN R s args own index y host bytes maxL rt ws rm mc ms n ∧ (Cond.static y).before args s = true ∧ True) (hn : As.length = n) (hls : ls.size = nL) (hst : st0 = As.reverse ++ rest) (hrm : (rest.map fun v => v.category).sum ≤ 8) (hdg : decode cc pc = .ok (.invokestatic index, 3)) (hf : cells + mc ≤ R.cells ∧ slots + ms ≤ R.slots) :
    va_Run p l e R s m args below meth c H locs cells slots mc ms (F0 m pc ls st0) rest (Qc As.toArray) (fx_A g) := by
  have hpre := fx_pre C hH As
  obtain ⟨hx, hb, -, hml, hown, hts, -, -, hK, -⟩ := C
  exact va_runSN (As := As) (rest := rest) ⟨hx, hb, hml, hown, hts⟩ hM cw ⟨fx_blind g M _, hpre⟩ rfl hn hls hst (lv_room hrm) hdg hf
theorem fx_ci {post : Int32 → fx_Mem → Prop} {av : Array Value} (hH : fx_H g s M H locs) (hr : va_Run p l e R s m args below meth c H locs cells slots 0 0 (F0 m pc ls st0) rest (va_Qi post (fx_Pw g) (fx_A g) av) (fx_A g))
    (kk : ∀ (r : Int32) (M' : fx_Mem) (H1 : Heap) (locs1 : List Loc), post r M' → fx_H g s M' H1 locs1 → W p l e R s m args below meth c H1 locs1 cells slots Q (F0 m (pc + 3) ls (.int r :: rest))) : W p l e R s m args below meth c H locs cells slots Q (F0 m pc ls st0) :=
  va_calli hr hH.2 (fun _ _ h => h) (fun _ h => h) (fun r u t H1 locs1 ht _ hw hB _ _ hS => kk r u H1 locs1 hw ⟨by rw [← ht]; exact hB, hS⟩)
theorem fx_cl {post : Int64 → fx_Mem → Prop} {av : Array Value} (hH : fx_H g s M H locs) (hr : va_Run p l e R s m args below meth c H locs cells slots 0 0 (F0 m pc ls st0) rest (va_Ql post (fx_Pw g) (fx_A g) av) (fx_A g))
    (kk : ∀ (r : Int64) (M' : fx_Mem) (H1 : Heap) (locs1 : List Loc), post r M' → fx_H g s M' H1 locs1 → W p l e R s m args below meth c H1 locs1 cells slots Q (F0 m (pc + 3) ls (.long r :: rest))) : W p l e R s m args below meth c H locs cells slots Q (F0 m pc ls st0) :=
  va_calll hr hH.2 (fun _ _ h => h) (fun _ h => h) (fun r u t H1 locs1 ht _ hw hB _ _ hS => kk r u H1 locs1 hw ⟨by rw [← ht]; exact hB, hS⟩)
theorem fx_cv {post : fx_Mem → Prop} {av : Array Value} (hH : fx_H g s M H locs) (hr : va_Run p l e R s m args below meth c H locs cells slots 0 0 (F0 m pc ls st0) rest (va_Qv post (fx_Pw g) (fx_A g) av) (fx_A g))
    (kk : ∀ (M' : fx_Mem) (H1 : Heap) (locs1 : List Loc), post M' → fx_H g s M' H1 locs1 → W p l e R s m args below meth c H1 locs1 cells slots Q (F0 m (pc + 3) ls rest)) : W p l e R s m args below meth c H locs cells slots Q (F0 m pc ls st0) :=
  va_callv hr hH.2 (fun _ _ h => h) (fun _ h => h) (fun u t H1 locs1 ht _ hw hB _ _ hS => kk u H1 locs1 hw ⟨by rw [← ht]; exact hB, hS⟩)
-- the start of a body
theorem fx_body {spec : Spec} {s₁ : State} (B : BodyLoose p l y spec cc nL ret e s m args below meth c s₁) (hml : c.maxLocals = nL) (hcls : y.cls = own) (hts : ∀ w ∈ fx_U, w.before args s = true) (hG : fx_Gd g) (hv : fx_At g M s) : fx_Cx g p s m args meth c own cc nL ret ∧ fx_H g s M s.heap [] :=
  ⟨⟨B.exec, B.bytes, B.returns, hml, by rw [← hcls]; exact findClass_of_methodNamed B.named, hts, B.notSynchronized, hv.1, hv.2.2.1, hG, hv.2.2.2⟩, hv.2.1, va_S.rf⟩
end FXR
end
section
/-! rows of copies, of answers that are a row of a grid, of throws -/
def fx_Qr (g : fx_Geo) (Q : Nat → fx_Mem → Prop) : Array Value → State → Outcome → State → Prop := va_Qr (fun u : Nat × fx_Mem => u.1 < 20 ∧ Q u.1 u.2) (fun u a t => a = fx_a g (57 + u.1) ∧ fx_Pw g u.2 t) (fx_A g)
def fx_XC (g : fx_Geo) (X : String → fx_Mem → Prop) : String → State → State → Prop := vx_X (fun u : String × fx_Mem => X u.1 u.2) (fun E u t => E = u.1 ∧ fx_Pw g u.2 t) (fx_A g)
def fx_fl (l : Launch) (c : Code) : Prop := l.stackTraces = false ∧ ∀ x ∈ c.exceptionTable.toList, False
def fx_n2 : List String := ["java/lang/RuntimeException", "java/lang/Exception"]
def fx_ng (E : String) : List Cond := [.castable E E, .declares (Bundle.initS "java/lang/RuntimeException"), .declares (Bundle.initS "java/lang/Exception"), .declares (Bundle.initS Bundle.tN)]
theorem fx_fit : ∀ a ∈ fx_ex, Bundle.fit a = true := by decide +kernel
theorem fx_fit2 : ∀ a ∈ fx_n2, Bundle.fit a = true := by decide +kernel
section FXS
variable {g : fx_Geo} {p : Program} {l : Launch} {e : Env} {R : Room} {s : State} {m : MethodId} {args : Array Value} {below : List Frame} {meth : Method} {c : Code} {H : Heap} {locs : List Loc} {cells slots : Nat} {Q : State → Prop}
variable {own : String} {cc : ByteArray} {nL pc : Nat} {ret : Option FieldType} {ls : Array Slot} {rest : List Value} {M : fx_Mem}
theorem fx_copy (C : fx_Cx g p s m args meth c own cc nL ret) (hH : fx_H g s M H locs) {index : Nat} (w1 : (Cond.methodLink own index arraycopyName).before args s = true) (w2 : (Cond.native arraycopyName).before args s = true) (w3 : (Cond.static arraycopyName).before args s = true) (w4 : (Cond.initialized "java/lang/System").before args s = true) (hls : ls.size = nL) {a0 a1 n0 n1 k : Nat} {n : Int32} {f0 f1 : Nat → Int32} {M' : fx_Mem} (q0 q1 : Nat)
    (ha0 : (fx_wd g M)[q0]? = some (a0, .inl (fx_cI g, n0, .inl f0))) (ha1 : (fx_wd g M)[q1]? = some (a1, .inl (fx_cI g, n1, .inl f1))) (hset : (fx_wd g M).set q1 (a1, .inl (fx_cI g, n1, .inl (va_cpy f0 f1 0 0 k))) = fx_wd g M') (hn : ¬ n < 0) (hk : n.toNatClampNeg = k) (h5 : k ≤ n0) (h6 : k ≤ n1)
    (hfr : 1 ≤ R.frames) (hlo : (rest.map fun v => v.category).sum + (nativeFrameWords "java/lang/System" "arraycopy" 5 + 11) ≤ R.locals) (hdg : decode cc pc = .ok (.invokestatic index, 3))
    (kk : ∀ (H1 : Heap) (locs1 : List Loc), fx_H g s M' H1 locs1 → W p l e R s m args below meth c H1 locs1 cells slots Q (F0 m (pc + 3) ls rest)) : W p l e R s m args below meth c H locs cells slots Q (F0 m pc ls (.int n :: .int 0 :: .ref a1 :: .int 0 :: .ref a0 :: rest)) := by
  subst hk
  obtain ⟨hx, hb, -, hml, hown, hts, -, -, hK, hG, -⟩ := C
  refine va_copyi hx hb (hml.trans hls.symm) hown w1 w2 w3 w4 hK hH.1 (hG M) hH.2 q0 q1 0 0 ha0 ha1 rfl rfl rfl (by decide) (by decide) hn (by show 0 + _ ≤ _; omega) (by show 0 + _ ≤ _; omega) (fun _ _ => rfl) hfr hlo hdg (fun H1 locs1 hP _ hS => ?_)
  rw [show ((0 : Int32).toNatClampNeg) = 0 from rfl, hset] at hP
  exact kk H1 locs1 ⟨hP, hS⟩
theorem va_copyT {D : va_G} {cl : List vw_C} {A : Nat → Prop} {a : Nat} {tys : List (ClassId × FieldType)} {ws : va_W} (hexec : p.tables.exec = Jvm.exec) (hb : c.code = cc) (hml : c.maxLocals = ls.size) {own : String} {index : Nat} (hown : s.vm.findClass own = some m.cls) (hlink : (Cond.methodLink own index arraycopyName).before args s = true) (hnat : (Cond.native arraycopyName).before args s = true) (hstat : (Cond.static arraycopyName).before args s = true) (hini : (Cond.initialized "java/lang/System").before args s = true)
    (hK : va_K D cl tys s) (hP : va_P D cl ws H) (hD : va_D A ws) (hS : va_S A s.heap H locs) {b0 n0 : Nat} {f : Nat → Int32} (hX : va_T .int b0 n0 (fun j => .int (f j)) A s s.heap) (q1 t1 : Nat) {c1 : ClassId} {n1 : Nat} {g : Nat → Int32} (ha1 : ws[q1]? = some (a, .inl (c1, n1, .inl g))) (ht1 : tys[t1]? = some (c1, .int))
    {sp dp n : Int32} (h1 : ¬ sp < 0) (h2 : ¬ dp < 0) (h3 : ¬ n < 0) (h4 : sp.toNatClampNeg + n.toNatClampNeg ≤ n0) (h5 : dp.toNatClampNeg + n.toNatClampNeg ≤ n1)
    (hframes : 1 ≤ R.frames) (hlocals : (rest.map fun v => v.category).sum + (nativeFrameWords "java/lang/System" "arraycopy" 5 + 11) ≤ R.locals) (hdg : decode cc pc = .ok (.invokestatic index, 3))
    (kk : ∀ (H1 : Heap) (locs1 : List Loc), va_P D cl (ws.set q1 (a, .inl (c1, n1, .inl (va_cpy f g sp.toNatClampNeg dp.toNatClampNeg n.toNatClampNeg)))) H1 → va_S A s.heap H1 locs1 → W p l e R s m args below meth c H1 locs1 cells slots Q (F0 m (pc + 3) ls rest)) : W p l e R s m args below meth c H locs cells slots Q (F0 m pc ls (.int n :: .int dp :: .ref a :: .int sp :: .ref b0 :: rest)) := by
  have nn : ∀ z : Int32, ¬ z < 0 → z.toInt = (z.toNatClampNeg : Int) := by
    intro z hz
    have hz0 : (0 : Int) ≤ z.toInt := by
      have := Int32.not_lt.mp hz
      simpa using Int32.le_iff_toInt_le.mp this
    show z.toInt = ((z.toInt.toNat : Nat) : Int)
    omega
  intro T hT X
  obtain ⟨scr, hs1, hs2, hs3, hs4, -, hs5, hbA⟩ := hX
  have hbl : b0 < s.heap.size := (Array.getElem?_eq_some_iff.mp hs1).1
  have hc0 : H[b0]? = some scr := by rw [hS.2.1 b0 hbl hbA]; exact hs1
  have hc1 : H[a]? = some (vp_cell c1 (n1, .inl g)) := hP q1 _ ha1
  obtain ⟨hs6, k0, hk0, cm0, hkk0⟩ := hs2
  obtain ⟨-, k1, hk1, cm1, hkk1⟩ := (hK.2 t1 _ ht1).1 n1 (fun j => .int (g j))
  obtain ⟨vm', X', step⟩ := X.arraycopy hexec hown hlink hnat hstat hini (src := b0) (dst := a) (cs := scr) (cd := vp_cell c1 (n1, .inl g)) (srcPos := sp) (destPos := dp) (n := n) (by rw [hT]; exact hc0) (by rw [hT]; exact hc1)
    hs6 (fun _ h => by cases h) hs3 (fun h => by cases h) hk0 hk1 hkk0 hkk1 (by simp [refKind]) h1 h2 h3
    (by rw [nn sp h1, nn n h3]; omega)
    (by rw [nn dp h2, nn n h3]; show ¬ _ > ((arrV c1 n1 (fun j => .int (g j))).slots.size : Int); rw [arrV_size]; omega)
    (fun vm₁ _ i hi => by
      have e : scr.slots.getD (sp.toNatClampNeg + i) .null = .int (f (sp.toNatClampNeg + i)) := by
        rw [Array.getD_eq_getD_getElem?, hs5 _ (by omega)]
        rfl
      refine ⟨?_, ?_⟩
      · rw [e]
        rfl
      · rw [e]
        exact trivial)
    (g := F0 m pc ls (.int n :: .int dp :: .ref a :: .int sp :: .ref b0 :: rest)) rfl (by rw [hml]) (rest := rest) rfl (by rw [hb]; exact hdg) hframes (by show 2 * 0 + _ + _ ≤ _; omega)
  have e1 : copied scr (vp_cell c1 (n1, .inl g)) sp dp n = vp_cell c1 (n1, .inl (va_cpy f g sp.toNatClampNeg dp.toNatClampNeg n.toNatClampNeg)) := va_copiedX (fun z => .int z) scr c1 f g hs5 h4
  rw [e1] at X' step
  have hl : a < H.size := (Array.getElem?_eq_some_iff.mp hc1).1
  have hheap : ((T.setVm vm').setCell a (vp_cell c1 (n1, .inl (va_cpy f g sp.toNatClampNeg dp.toNatClampNeg n.toNatClampNeg)))).heap = H.setIfInBounds a (vp_cell c1 (n1, .inl (va_cpy f g sp.toNatClampNeg dp.toNatClampNeg n.toNatClampNeg))) := by rw [← hT]; rfl
  have oq : ∀ q : Nat, q ≠ a → (H.setIfInBounds a (vp_cell c1 (n1, .inl (va_cpy f g sp.toNatClampNeg dp.toNatClampNeg n.toNatClampNeg))))[q]? = H[q]? := fun q hq => by simp [Array.getElem?_setIfInBounds, Ne.symm hq]
  obtain ⟨t, a1, b1⟩ := kk _ _ (hP.set hD ha1 (show (H.setIfInBounds a _)[a]? = some _ by simp [Array.getElem?_setIfInBounds, hl]) oq) ⟨by simp; exact hS.1, fun q g1 g2 => by
      rw [oq q (fun e => g2 (by rw [e]; exact hD.2 q1 _ ha1))]
      exact hS.2.1 q g1 g2, fun q hq => by
      rcases List.mem_append.mp hq with h | h
      · exact hS.2.2 q h
      · obtain ⟨z, -, hz⟩ := List.mem_map.mp h
        rw [← hz]
        exact hD.2 q1 _ ha1⟩ _ hheap X'
  exact ⟨t, step t a1, b1⟩
theorem fx_copyT (C : fx_Cx g p s m args meth c own cc nL ret) (hH : fx_H g s M H locs) {index : Nat} (w1 : (Cond.methodLink own index arraycopyName).before args s = true) (w2 : (Cond.native arraycopyName).before args s = true) (w3 : (Cond.static arraycopyName).before args s = true) (w4 : (Cond.initialized "java/lang/System").before args s = true) (hls : ls.size = nL) {a0 a1 n0 n1 k : Nat} {n : Int32} {f0 f1 : Nat → Int32} {M' : fx_Mem} (hT : va_T .int a0 n0 (fun j => .int (f0 j)) (fx_A g) s s.heap) (q1 : Nat)
    (ha1 : (fx_wd g M)[q1]? = some (a1, .inl (fx_cI g, n1, .inl f1))) (hset : (fx_wd g M).set q1 (a1, .inl (fx_cI g, n1, .inl (va_cpy f0 f1 0 0 k))) = fx_wd g M') (hn : ¬ n < 0) (hk : n.toNatClampNeg = k) (h5 : k ≤ n0) (h6 : k ≤ n1)
    (hfr : 1 ≤ R.frames) (hlo : (rest.map fun v => v.category).sum + (nativeFrameWords "java/lang/System" "arraycopy" 5 + 11) ≤ R.locals) (hdg : decode cc pc = .ok (.invokestatic index, 3))
    (kk : ∀ (H1 : Heap) (locs1 : List Loc), fx_H g s M' H1 locs1 → W p l e R s m args below meth c H1 locs1 cells slots Q (F0 m (pc + 3) ls rest)) : W p l e R s m args below meth c H locs cells slots Q (F0 m pc ls (.int n :: .int 0 :: .ref a1 :: .int 0 :: .ref a0 :: rest)) := by
  subst hk
  obtain ⟨hx, hb, -, hml, hown, hts, -, -, hK, hG, -⟩ := C
  refine va_copyT hx hb (hml.trans hls.symm) hown w1 w2 w3 w4 hK hH.1 (hG M) hH.2 hT q1 0 ha1 rfl (by decide) (by decide) hn (by show 0 + _ ≤ _; omega) (by show 0 + _ ≤ _; omega) hfr hlo hdg (fun H1 locs1 hP hS => ?_)
  rw [show ((0 : Int32).toNatClampNeg) = 0 from rfl, hset] at hP
  exact kk H1 locs1 ⟨hP, hS⟩
theorem fx_aret {post : Nat → fx_Mem → Prop} (C : fx_Cx g p s m args meth c own cc nL (some (.array .int))) (hH : fx_H g s M H locs) {j : Nat} (hq : post j M) (hj : j < 20) (hdg : decode cc pc = .ok (.areturn, 1)) : W p l e R s m args below meth c H locs cells slots (MQ below (fx_Qr g post) args s cells slots (fx_A g)) (F0 m pc ls [.ref (fx_a g (57 + j))]) := by
  obtain ⟨hx, hb, hr, -, -, -, hlocks, -⟩ := C
  exact W.aret hx hb hr (Or.inr ⟨_, rfl⟩) (Or.inr ⟨_, rfl⟩) (fun t ht _ => ⟨⟨(j, M), _, rfl, ⟨hj, hq⟩, rfl, by unfold fx_Pw; rw [ht]; exact hH.1⟩, hH.2.F ht⟩) hH.2.2.2 hdg hlocks
variable {y : MethodName} {ws : List Cond} {rm : Room} {bytes : ByteArray} {maxL n index mc ms mcT msT : Nat} {rt : Option FieldType} {As st0 : List Value} {X X' : String → fx_Mem → Prop} {Qc : Array Value → State → Outcome → State → Prop}
theorem fx_cr {post : Nat → fx_Mem → Prop} {av : Array Value} (hH : fx_H g s M H locs) (hr : va_Run p l e R s m args below meth c H locs cells slots 0 0 (F0 m pc ls st0) rest (fx_Qr g post av) (fx_A g))
    (kk : ∀ (j : Nat) (M' : fx_Mem) (H1 : Heap) (locs1 : List Loc), post j M' → fx_H g s M' H1 locs1 → j < 20 → W p l e R s m args below meth c H1 locs1 cells slots Q (F0 m (pc + 3) ls (.ref (fx_a g (57 + j)) :: rest))) : W p l e R s m args below meth c H locs cells slots Q (F0 m pc ls st0) :=
  va_callr hr hH.2 (fun _ _ h => h) (fun _ h => h) (fun u ra t H1 locs1 ht _ hw hB _ _ hS => by
    obtain ⟨rfl, hB⟩ := hB
    exact kk u.1 u.2 H1 locs1 hw.2 ⟨by rw [← ht]; exact hB, hS⟩ hw.1)
theorem fx_xrunV {Qd : Array Value → State → Outcome → State → Prop} {Cn : String} {T : u_T} {N ci o : Nat} {fs : List Value} (C : fx_Cx g p s m args meth c own cc nL ret) (hH : fx_H g s M H locs)
    (hM : vx_Met l y ws rm (va_Pc (.ref (fx_a g o) :: As) (fx_At g M)) Qd (fx_XC g X') mc ms (fx_A g)) (cw : CallW R s args own Cn index y bytes maxL rt ws rm mc ms n) (he : (fx_wd g M)[o]? = some (fx_a g o, .inr (ci, fs))) (hc : vwCl[ci]? = some (Cn, T, N)) (hn : As.length = n) (hls : ls.size = nL) (hst : st0 = As.reverse ++ .ref (fx_a g o) :: rest) (hrm : (rest.map fun v => v.category).sum ≤ 8) (hdg : decode cc pc = .ok (.invokevirtual index, 3)) (hf : cells + mc ≤ R.cells ∧ slots + ms ≤ R.slots) :
    vx_Run p l e R s m args below meth c H locs cells slots mc ms (F0 m pc ls st0) rest (Qd (.ref (fx_a g o) :: As).toArray) (fx_XC g X') (fx_A g) := by
  have hpre := fx_pre C hH (.ref (fx_a g o) :: As)
  obtain ⟨hx, hb, -, hml, hown, hts, -, -, hK, -⟩ := C
  exact vx_runV (As := As) (rest := rest) ⟨hx, hb, hml, hown, hts⟩ hM cw ⟨fx_blind g M _, va_recv hK hH.1 hc he, hpre⟩ rfl hn hls hst (lv_room hrm) hdg hf
theorem fx_xrunS {Qd : Array Value → State → Outcome → State → Prop} (C : fx_Cx g p s m args meth c own cc nL ret) (hH : fx_H g s M H locs)
    (hM : vx_Met l y ws rm (va_Pc As (fx_At g M)) Qd (fx_XC g X') mc ms (fx_A g)) (cw : CallB R s args own index y bytes maxL rt ws rm mc ms n ∧ (Cond.static y).before args s = true) (hn : As.length = n) (hls : ls.size = nL) (hst : st0 = As.reverse ++ rest) (hrm : (rest.map fun v => v.category).sum ≤ 8) (hdg : decode cc pc = .ok (.invokestatic index, 3)) (hf : cells + mc ≤ R.cells ∧ slots + ms ≤ R.slots) :
    vx_Run p l e R s m args below meth c H locs cells slots mc ms (F0 m pc ls st0) rest (Qd As.toArray) (fx_XC g X') (fx_A g) := by
  have hpre := fx_pre C hH As
  obtain ⟨hx, hb, -, hml, hown, hts, -, -, hK, -⟩ := C
  exact vx_runS (As := As) (rest := rest) ⟨hx, hb, hml, hown, hts⟩ hM cw ⟨fx_blind g M _, hpre⟩ rfl hn hls hst (lv_room hrm) hdg hf
theorem fx_xci {post : Int32 → fx_Mem → Prop} {av : Array Value} (C : fx_Cx g p s m args meth c own cc nL ret) (hfl : fx_fl l c) (hH : fx_H g s M H locs) (hr : vx_Run p l e R s m args below meth c H locs cells slots mc ms (F0 m pc ls st0) rest (va_Qi post (fx_Pw g) (fx_A g) av) (fx_XC g X') (fx_A g)) (hX : ∀ E M, X' E M → X E M) (hc : cells + mc ≤ mcT) (hs : slots + ms ≤ msT)
    (kk : ∀ (r : Int32) (M' : fx_Mem) (H1 : Heap) (locs1 : List Loc), post r M' → fx_H g s M' H1 locs1 → W p l e R s m args below meth c H1 locs1 (cells + mc) (slots + ms) (vx_MQ below Qc (fx_XC g X) args s mcT msT (fx_A g)) (F0 m (pc + 3) ls (.int r :: rest))) : W p l e R s m args below meth c H locs cells slots (vx_MQ below Qc (fx_XC g X) args s mcT msT (fx_A g)) (F0 m pc ls st0) :=
  vx_calli hr hH.2 (fun _ _ h => h) (fun _ h => h) (fun _ _ h => h) (fun E ce q9 u t H1 locs1 ht hvm hp hB _ _ hS h1 h2 h3 => vx_out (fun x h => (hfl.2 x h).elim) C.2.2.2.2.2.2.1 h1 h2 h3 (fun t' ht' _ => ⟨u, hX _ _ hp, ⟨hB.1, by unfold fx_Pw; rw [ht', ← ht]; exact hB.2⟩, hS.F ht'⟩) hS.2.2 hc hs) (fun r u t H1 locs1 ht _ hw hB _ _ hS => kk r u H1 locs1 hw ⟨by rw [← ht]; exact hB, hS⟩)
theorem fx_xcv {post : fx_Mem → Prop} {av : Array Value} (C : fx_Cx g p s m args meth c own cc nL ret) (hfl : fx_fl l c) (hH : fx_H g s M H locs) (hr : vx_Run p l e R s m args below meth c H locs cells slots mc ms (F0 m pc ls st0) rest (va_Qv post (fx_Pw g) (fx_A g) av) (fx_XC g X') (fx_A g)) (hX : ∀ E M, X' E M → X E M) (hc : cells + mc ≤ mcT) (hs : slots + ms ≤ msT)
    (kk : ∀ (M' : fx_Mem) (H1 : Heap) (locs1 : List Loc), post M' → fx_H g s M' H1 locs1 → W p l e R s m args below meth c H1 locs1 (cells + mc) (slots + ms) (vx_MQ below Qc (fx_XC g X) args s mcT msT (fx_A g)) (F0 m (pc + 3) ls rest)) : W p l e R s m args below meth c H locs cells slots (vx_MQ below Qc (fx_XC g X) args s mcT msT (fx_A g)) (F0 m pc ls st0) :=
  vx_callv hr hH.2 (fun _ _ h => h) (fun _ h => h) (fun _ _ h => h) (fun E ce q9 u t H1 locs1 ht hvm hp hB _ _ hS h1 h2 h3 => vx_out (fun x h => (hfl.2 x h).elim) C.2.2.2.2.2.2.1 h1 h2 h3 (fun t' ht' _ => ⟨u, hX _ _ hp, ⟨hB.1, by unfold fx_Pw; rw [ht', ← ht]; exact hB.2⟩, hS.F ht'⟩) hS.2.2 hc hs) (fun u t H1 locs1 ht _ hw hB _ _ hS => kk u H1 locs1 hw ⟨by rw [← ht]; exact hB, hS⟩)
theorem fx_hat (hSt : fx_St g s) (hts : ∀ w ∈ fx_U, w.before args s = true) {ic : Nat} {E : String} (hE : E ∈ fx_ex) (hat : ∀ w ∈ (vx_atS RX6 ic E fx_n2).filter goodWord, w ∈ fx_U) (hng : ∀ w ∈ (vx_atS RX6 ic E fx_n2).filter (fun w => !goodWord w), w ∈ fx_ng E) : ∀ w ∈ vx_atS RX6 ic E fx_n2, w.before args s = true := by
  refine vx_hat (fun w h => hts w (hat w h)) hng ?_
  obtain ⟨-, -, -, -, -, -, -, h8, h9⟩ := hSt
  exact vx_c (va_Nw.use rfl (h8 E hE)) (vx_c (va_Nw.use rfl (h9 _ (by simp [fx_dc]))) (vx_c (va_Nw.use rfl (h9 _ (by simp [fx_dc]))) (vx_c (va_Nw.use rfl (h9 _ (by simp [fx_dc]))) vx_n)))
theorem fx_thrown (hH : fx_H g s M H locs) {E : String} (hq : X E M) : ∀ t : State, s.vm.Alike t.vm → H.size ≤ t.heap.size → (∀ q : Nat, q < H.size → t.heap[q]? = H[q]?) → fx_XC g X E s t := by
  intro t _ hz hk
  exact ⟨(E, M), hq, ⟨rfl, hH.1.kept (fun k q h => hk _ (hH.1 k q h).lt)⟩, Nat.le_trans hH.2.1 hz, fun q h1 h2 => (hk q (Nat.lt_of_lt_of_le h1 hH.2.1)).trans (hH.2.2.1 q h1 h2)⟩
theorem fx_throwS {text E : String} {ik is ic : Nat} (C : fx_Cx g p s m args meth c RX6 cc nL ret) (hfl : fx_fl l c) (hH : fx_H g s M H locs) (hk : Cond.classLink RX6 ik E ∈ fx_U) (hini : Cond.initialized E ∈ fx_U) (sx : Nat) (hsx : fx_strs[sx]? = some (RX6, is, text)) (hat : ∀ w ∈ (vx_atS RX6 ic E fx_n2).filter goodWord, w ∈ fx_U) (hE : E ∈ fx_ex) (hng : ∀ w ∈ (vx_atS RX6 ic E fx_n2).filter (fun w => !goodWord w), w ∈ fx_ng E) (hgood : ∀ w ∈ Cond.classLink RX6 ik E :: Cond.initialized E :: vx_atS RX6 ic E fx_n2, vx_ot w = true)
    (d0 : decode cc pc = .ok (.new ik, 3)) (d3 : decode cc (pc + 3) = .ok (.dup, 1)) (d4 : decode cc (pc + 4) = .ok (.ldc is, 2)) (d6 : decode cc (pc + 6) = .ok (.invokespecial ic, 3)) (d9 : decode cc (pc + 9) = .ok (.athrow, 1))
    (hRframes : fx_n2.length + 3 < R.frames) (hRlocals : (rest.map fun v => v.category).sum + (13 * (fx_n2.length + 1) + 43) ≤ R.locals) (hRcells : cells + 1 ≤ R.cells) (hRslots : slots + 6 ≤ R.slots) (hls : ls.size = nL) (hq : X E M) (hc : cells + 1 ≤ mcT) (hs : slots + 6 ≤ msT) :
    W p l e R s m args below meth c H locs cells slots (vx_MQ below Qc (fx_XC g X) args s mcT msT (fx_A g)) (F0 m pc ls rest) := by
  have hh := fx_hat C.2.2.2.2.2.2.2.2.2.2 C.2.2.2.2.2.1 hE hat hng
  obtain ⟨hx, hb, -, hml, hown, hts, hlocks, -, hK, hG, hSt⟩ := C
  obtain ⟨sa, hstr⟩ := hSt.2.1 _ (List.mem_of_getElem? hsx)
  exact vx_throwS hx hb hfl.1 hown (fx_fit E hE) fx_fit2 (hts _ hk) (hts _ hini) hstr hh hgood hSt.2.2.2.2.1 hSt.2.2.2.2.2.1 hH.2 (hls.trans hml.symm) d0 d3 d4 d6 d9 (fun x h => (hfl.2 x h).elim) hRframes hRlocals hRcells hRslots hlocks (fx_thrown hH hq) hH.2.2.2 hc hs
theorem fx_throwSW {text E : String} {ik is ic : Nat} (C : fx_Cx g p s m args meth c RX6 cc nL ret) (hfl : fx_fl l c) (hH : fx_H g s M H locs) (hk : Cond.classLink RX6 ik E ∈ fx_U) (hini : Cond.initialized E ∈ fx_U) (sx : Nat) (hsx : fx_strs[sx]? = some (RX6, is, text)) (hat : ∀ w ∈ (vx_atS RX6 ic E fx_n2).filter goodWord, w ∈ fx_U) (hE : E ∈ fx_ex) (hng : ∀ w ∈ (vx_atS RX6 ic E fx_n2).filter (fun w => !goodWord w), w ∈ fx_ng E) (hgood : ∀ w ∈ Cond.classLink RX6 ik E :: Cond.initialized E :: vx_atS RX6 ic E fx_n2, vx_ot w = true)
    (d0 : decode cc pc = .ok (.new ik, 3)) (d3 : decode cc (pc + 3) = .ok (.dup, 1)) (d4 : decode cc (pc + 4) = .ok (.ldc_w is, 3)) (d7 : decode cc (pc + 7) = .ok (.invokespecial ic, 3)) (d10 : decode cc (pc + 10) = .ok (.athrow, 1))
    (hRframes : fx_n2.length + 3 < R.frames) (hRlocals : (rest.map fun v => v.category).sum + (13 * (fx_n2.length + 1) + 43) ≤ R.locals) (hRcells : cells + 1 ≤ R.cells) (hRslots : slots + 6 ≤ R.slots) (hls : ls.size = nL) (hq : X E M) (hc : cells + 1 ≤ mcT) (hs : slots + 6 ≤ msT) :
    W p l e R s m args below meth c H locs cells slots (vx_MQ below Qc (fx_XC g X) args s mcT msT (fx_A g)) (F0 m pc ls rest) := by
  have hh := fx_hat C.2.2.2.2.2.2.2.2.2.2 C.2.2.2.2.2.1 hE hat hng
  obtain ⟨hx, hb, -, hml, hown, hts, hlocks, -, hK, hG, hSt⟩ := C
  obtain ⟨sa, hstr⟩ := hSt.2.1 _ (List.mem_of_getElem? hsx)
  exact vx_throwSW hx hb hfl.1 hown (fx_fit E hE) fx_fit2 (hts _ hk) (hts _ hini) hstr hh hgood hSt.2.2.2.2.1 hSt.2.2.2.2.2.1 hH.2 (hls.trans hml.symm) d0 d3 d4 d7 d10 (fun x h => (hfl.2 x h).elim) hRframes hRlocals hRcells hRslots hlocks (fx_thrown hH hq) hH.2.2.2 hc hs
end FXS
end
section
/-! a throw of java.util.NoSuchElementException: its constructor has another link number (13) than its sisters' (7). The first proof follows the library's own for the number 7, the second the kit's vx_throwS. -/
def fx_r13 : ByteArray := ⟨#[0x2a, 0x2b, 0xb7, 0x00, 0x0d, 0xb1]⟩
def fx_atX (own : String) (ic : Nat) (E : String) (ix : Nat) (rx : ByteArray) (names : List String) : List Cond := (Bundle.ownAtomsX own ic E ix rx names).filter vx_no
section FXC
variable {p : Program} {l : Launch} {e : Env} {R : Room} {s : State} {m₀ : MethodId} {args : Array Value} {below : List Frame} {meth : Method} {c : Code} {W : State} {locs : List Loc} {cells slots : Nat}
set_option maxHeartbeats 1000000 in
theorem fx_ctorThrowSX (X : Stand p l e R s m₀ args below meth c W locs cells slots) (hexec : p.tables.exec = Jvm.exec) (htr : e.platform.stackTraces = false) {own cls : String} {names : List String} {ic ix : Nat} {rx : ByteArray} (x0 : decode rx 0 = .ok (.aload_n 0, 1)) (x1 : decode rx 1 = .ok (.aload_n 1, 1)) (x2 : decode rx 2 = .ok (.invokespecial ix, 3)) (x5 : decode rx 5 = .ok (.return_, 1))
    (hown : s.vm.findClass own = some m₀.cls) (hcls : Bundle.fit cls = true) (hnames : ∀ n ∈ names, Bundle.fit n = true)
    (h : ∀ a ∈ Bundle.ownAtomsX own ic cls ix rx names, a.before args s = true)
    (hlocs : ∀ x ∈ locs, ∀ cell, s.heap[x.base]? = some cell → cell.vm.isStatics = false)
    {a : Addr} {cX : ClassId} {kX : Class} (hfoundX : s.vm.findClass cls = some cX) (hkX : s.vm.classes[cX]? = some kX) (hcell : W.heap[a]? = some (freshCell cX kX)) (hnew : s.heap.size ≤ a)
    {msg : Value} (hmsg : msg.isRef = true)
    {g : JFrame} (hg : g.method = m₀) (hsize : g.locals.size = c.maxLocals) (hlocked : g.locked = none) (hentered : g.entered = []) {rest : List Value} (hstack : g.stack = msg :: .ref a :: .ref a :: rest)
    (hd6 : decode c.code g.pc = .ok (.invokespecial ic, 3)) (hd9 : decode c.code (g.pc + 3) = .ok (.athrow, 1)) (hout : ∀ x ∈ c.exceptionTable.toList, covers x (g.pc + 3) = false)
    (hRframes : names.length + 3 < R.frames) (hRlocals : 2 * g.monitorRoom + ((Value.ref a :: rest).map fun v => v.category).sum + (13 * (names.length + 1) + 42) ≤ R.locals) (hlocks : meth.locks = false := by first | assumption | exact BodyLoose.notSynchronized (by assumption) | exact Body.notSynchronized (by assumption)) :
    ∃ U : State, Steps p.tables e below (W.setTop g) U ∧ U.status = .running ∧ Ended U below (.threw a) ∧ s.WarmedH U.vm ∧ s.sameButNew ({ U with vm := s.vm } : State) locs cells slots ∧
      ∃ ce, U.heap[a]? = some ce ∧ Bundle.OwnCell args s cls a msg ce := by
  have howns : e.platform.frameOwnsMonitors = true := by rw [X.admits.platform]
  have hfin : e.platform.finalization = false := by rw [X.admits.platform]
  have hpl : e.platform.magicAccessors = ({} : Platform).magicAccessors := by rw [X.admits.platform]
  have a' : ∀ x, x ∈ Bundle.ownAtomsX own ic cls ix rx names → x.holds args s none s [] = true := fun x hx => h x hx
  obtain ⟨T, Z0, L, -, Y⟩ := ThrowableC.of_atoms (args := args) howns hfin hpl (fun x hx => h x (by simp [Bundle.ownAtomsX, hx]))
  obtain ⟨Z, M, LZ, LM, hnZ⟩ := Init0T.ofS_atoms (args := args) hpl L Y (fun x hx => h x (by simp [Bundle.ownAtomsX, hx]))
  obtain ⟨P1, Ps, hlen, L1, hL, hP1m, hlink1, hlink⟩ := Bundle.chainSX (args := args) hpl hnZ x0 x1 x2 x5 names cls hcls hnames (fun x hx => h x (by simp [Bundle.ownAtomsX, hx]))
  have hfound : s.vm.findClass cls = some P1.m.cls := findClass_of_methodNamed hP1m
  cases Option.some.inj (hfoundX.symm.trans hfound)
  obtain ⟨c1, kX', hc1, hk, hord, -, -, hn6⟩ := Cond.instantiable_spec (a' (.instantiable cls 6) (by simp [Bundle.ownAtomsX]))
  cases Option.some.inj (hc1.symm.trans hfound)
  cases Option.some.inj (hkX.symm.trans hk)
  have hsel0 : selectMethod e.platform s.vm P1.m.cls T.fill0 = .method T.fill0 := by
    obtain ⟨c2, r2, m2, q1, q2, q3, q4, -⟩ := Cond.selects_spec (a' (.selects cls Bundle.tFill0 Bundle.tFill0) (by simp [Bundle.ownAtomsX]))
    cases Option.some.inj (q1.symm.trans hfound)
    cases Option.some.inj (q2.symm.trans (State.methodFound?_of_named Y.fill0 (by decide)))
    cases Option.some.inj (q3.symm.trans Y.fill0)
    rw [Launch.admits_selectMethod X.admits]; exact q4
  have hselF : selectMethod e.platform s.vm P1.m.cls T.fill = .method T.fill := by
    obtain ⟨c2, r2, m2, q1, q2, q3, q4, -⟩ := Cond.selects_spec (a' (.selects cls Bundle.tFill Bundle.tFill) (by simp [Bundle.ownAtomsX]))
    cases Option.some.inj (q1.symm.trans hfound)
    cases Option.some.inj (q2.symm.trans (State.methodFound?_of_named Y.fill (by decide)))
    cases Option.some.inj (q3.symm.trans Y.fill)
    rw [Launch.admits_selectMethod X.admits]; exact q4
  obtain ⟨cellS0, hcS0, hiss⟩ := Y.statics
  obtain ⟨u0, hu0⟩ := Cond.staticRefV Y.unassigned L.unassignedStatic L.statics hcS0 hiss (a' (.isRef (.static Bundle.tN "UNASSIGNED_STACK" Bundle.steD)) (by simp [Bundle.ownAtomsX]))
  obtain ⟨sen, hsen⟩ := Cond.staticRefV Y.sentinel L.sentinelStatic L.statics hcS0 hiss (a' (.isRef (.static Bundle.tN "SUPPRESSED_SENTINEL" Bundle.listD)) (by simp [Bundle.ownAtomsX]))
  obtain ⟨ci198, i198, fB, hk198, hg198, ha198, hsB, -, hnB, htB, hffB⟩ := Cond.ownField (t := .object "java/lang/Object") Y.found L.cls (by decide +kernel) (a' (.fieldLink Bundle.tN 198 Bundle.tN "backtrace" "Ljava/lang/Object;") (by simp [Bundle.ownAtomsX])) (a' (.lays Bundle.tN Bundle.tN "backtrace" "Ljava/lang/Object;") (by simp [Bundle.ownAtomsX])) e.platform hpl
  obtain ⟨cellS, hcS', heS, -, hkeep⟩ := X.same.2.2.2.2.2 T.aS cellS0 hcS0
  have hcellS : W.heap[T.aS]? = some cellS := hcS'
  have hout' : ∀ i, (⟨T.aS, i⟩ : Loc) ∉ locs := fun i hmem => by
    have := hlocs _ hmem cellS0 hcS0
    rw [hiss] at this; cases this
  have hknownS : cellS.vm ≠ .unknown := by
    rw [heS]; intro hu
    rw [show cellS0.vm = .unknown from hu] at hiss
    cases hiss
  have hneS : T.aS ≠ a := Nat.ne_of_lt (Nat.lt_of_lt_of_le (Array.getElem?_eq_some_iff.mp hcS0).1 hnew)
  obtain ⟨iM, hffM⟩ := Y.msg
  obtain ⟨tyC, dC, hdC, hdnC⟩ := Cond.laysAt hfound hk Y.cause (a' (.lays cls Bundle.tN "cause" "Ljava/lang/Throwable;") (by simp [Bundle.ownAtomsX]))
  obtain ⟨tyS, dS, hdS, hdnS⟩ := Cond.laysAt hfound hk Y.stack (a' (.lays cls Bundle.tN "stackTrace" Bundle.steD) (by simp [Bundle.ownAtomsX]))
  obtain ⟨tyP, dP, hdP, hdnP⟩ := Cond.laysAt hfound hk Y.supp (a' (.lays cls Bundle.tN "suppressedExceptions" Bundle.listD) (by simp [Bundle.ownAtomsX]))
  obtain ⟨tyM, dM, hdM, hdnM⟩ := Cond.laysAt hfound hk hffM (a' (.lays cls Bundle.tN "detailMessage" "Ljava/lang/String;") (by simp [Bundle.ownAtomsX]))
  obtain ⟨tyB, dB, hdB, hdnB⟩ := Cond.laysAt hfound hk hffB (a' (.lays cls Bundle.tN "backtrace" "Ljava/lang/Object;") (by simp [Bundle.ownAtomsX]))
  have bC := Cond.laysApart hdB hdC hdnB hdnC (by rw [hnB, Y.causeName]; decide)
  have bS := Cond.laysApart hdB hdS hdnB hdnS (by rw [hnB, Y.stackName]; decide)
  have bP := Cond.laysApart hdB hdP hdnB hdnP (by rw [hnB, Y.suppName]; decide)
  have hskip : SkipFacts T e.platform s (fun u => u) u0 ((preparedCellV T.toThrowableT (freshCell P1.m.cls kX) a u0 sen).withEntry W.cur) :=
    ⟨{ ci198 := ci198, i198 := i198, fBack := fB }, ⟨hk198, hg198, ha198, hsB⟩, by
      have := fresh_default (c := P1.m.cls) tyB
      rw [htB] at this
      simpa [preparedCellV, Cell.setSlot, Cell.withEntry, Array.getElem?_setIfInBounds, bC, bS, bP, bC.symm, bS.symm, bP.symm, defaultValue] using this, fun _ _ => rfl⟩
  obtain ⟨tm, methC, cdC, kC, vm₁, hnC, -, -, -, -, -, -, -, hW₁, st1⟩ := Steps.initColdS (tb := p.tables) (e := e) (below := below) (s := s) (U := W) X.here hexec X.warmed hpl hown (t := Bundle.initS cls) rfl rfl (Bundle.fit_spec hcls).2
    (a' (.methodLink own ic (Bundle.initS cls)) (by simp [Bundle.ownAtomsX])) (h (.instanceMethod (Bundle.initS cls)) (by cases names <;> simp [Bundle.ownAtomsX, Bundle.chainSAtomsX, Bundle.passSAtoms])) (bytes := rx) (maxL := 2) (h (.code (Bundle.initS cls) rx 2 none) (by cases names <;> simp [Bundle.ownAtomsX, Bundle.chainSAtomsX, Bundle.passSAtoms]))
    (f := g) hg (a := a) (msg := msg) (rest := .ref a :: rest) hstack hd6
  cases Option.some.inj (hnC.symm.trans hP1m)
  have X₁ := X.noted hW₁
  obtain ⟨vm₂, X₂, st2⟩ := X₁.ctorMessageOffV hexec (g := { g with stack := .ref a :: rest }) hg hsize T L Z LZ M LM (P1 :: Ps)
    (fun P hP => by rcases List.mem_cons.mp hP with rfl | hP; exact L1; exact hL P hP) ⟨hlink1, hlink⟩ (u0 := u0) (sen := sen) (self := a) hmsg (cell := freshCell P1.m.cls kX) (cellS := cellS)
    hcell (fun _ => by simp) (by simp) rfl rfl hsel0 hselF hcellS hneS hknownS (by rw [hkeep _ (hout' _)]; exact hu0) (by rw [hkeep _ (hout' _)]; exact hsen)
    (Takes.of_laid hk hord tyC (by rw [Y.causeType]; rfl)) (Takes.of_laid hk hord tyS (by rw [Y.stackType]; exact fits_refV_array _ u0)) (Takes.of_laid hk hord tyP (by rw [Y.suppType]; exact fits_refV_object _ sen))
    (Takes.of_laid hk hord tyM (by rw [Y.msgType]; exact fits_refV_object _ ⟨msg, hmsg⟩)) Y.objLocals hskip htr [] hd6
    (by simp only [List.length_cons, hlen]; omega) (by simp only [List.length_cons, hlen]; exact hRlocals)
  obtain ⟨hwalk, hrun, hended, hWU, hsame⟩ := X₂.athrowLeaves hexec (g := { g with stack := .ref a :: rest, pc := g.pc + 3 }) hg hlocked hentered hout (a := a) (rest := rest) rfl hd9
  obtain ⟨c3, c4, hc3, hc4, hasg⟩ := Cond.castable_spec (a' (.castable cls cls) (by simp [Bundle.ownAtomsX]))
  cases Option.some.inj (hc3.symm.trans hfound)
  cases Option.some.inj (hc4.symm.trans hfound)
  have hlt : a < ((W.setVm vm₁).setVm vm₂).heap.size := (Array.getElem?_eq_some_iff.mp hcell).1
  have hU := heapAt_setCell_self (s := (W.setVm vm₁).setVm vm₂) (plainBareV T.toThrowableT (freshCell P1.m.cls kX) a u0 sen msg) hlt
  have hnM : T.fMsg.name = "detailMessage" := (State.fieldFound?_type hffM (t := .object "java/lang/String") (by decide +kernel)).1
  have nCS := Cond.laysApart hdC hdS hdnC hdnS (by rw [Y.causeName, Y.stackName]; decide)
  have nCP := Cond.laysApart hdC hdP hdnC hdnP (by rw [Y.causeName, Y.suppName]; decide)
  have nCM := Cond.laysApart hdC hdM hdnC hdnM (by rw [Y.causeName, hnM]; decide)
  have nSP := Cond.laysApart hdS hdP hdnS hdnP (by rw [Y.stackName, Y.suppName]; decide)
  have nSM := Cond.laysApart hdS hdM hdnS hdnM (by rw [Y.stackName, hnM]; decide)
  have nPM := Cond.laysApart hdP hdM hdnP hdnM (by rw [Y.suppName, hnM]; decide)
  have lC : T.fCause.slot < kX.instanceTypes.size := (Array.getElem?_eq_some_iff.mp tyC).1
  have lS : T.fStack.slot < kX.instanceTypes.size := (Array.getElem?_eq_some_iff.mp tyS).1
  have lP : T.fSupp.slot < kX.instanceTypes.size := (Array.getElem?_eq_some_iff.mp tyP).1
  have lM : T.fMsg.slot < kX.instanceTypes.size := (Array.getElem?_eq_some_iff.mp tyM).1
  have evU : ∀ o, (Term.static Bundle.tN "UNASSIGNED_STACK" Bundle.steD).eval args s o [] s = some u0.v := by
    intro o
    simp [Term.eval, State.fieldNamed?, Y.unassigned, L.unassignedStatic, L.statics, hcS0, hiss, hu0]
  have evS : ∀ o, (Term.static Bundle.tN "SUPPRESSED_SENTINEL" Bundle.listD).eval args s o [] s = some sen.v := by
    intro o
    simp [Term.eval, State.fieldNamed?, Y.sentinel, L.sentinelStatic, L.statics, hcS0, hiss, hsen]
  refine ⟨_, st1 _ (fun acts => ?_), hrun, hended, hWU, hsame.weaken (fun y hy hlt' => ?_) (Nat.le_refl _) (Nat.le_refl _), _, hU, ?_⟩
  · rw [doInvoke_state]
    exact st2 _ hwalk
  · rcases List.mem_append.mp hy with h1 | h1
    · exact h1
    · exfalso
      have hb : y.base = a := by
        simp only [List.mem_cons, List.not_mem_nil, or_false] at h1
        rcases h1 with rfl | rfl | rfl | rfl | rfl <;> rfl
      rw [hb] at hlt'
      exact Nat.not_lt.mpr hnew hlt'
  · exact { cls := hfound, self := hasg, monitor := rfl, hash := rfl, vm := rfl, size := by simp [plainBareV, preparedCellV, Cell.setSlot, hn6]
            cause := ⟨_, _, _, _, Y.cause, by simp [plainBareV, preparedCellV, Cell.setSlot, nCS.symm, nCP.symm, nCM.symm, lC]⟩
            stack := ⟨_, _, _, _, u0, Y.stack, by simp [plainBareV, preparedCellV, Cell.setSlot, nSM.symm, lS], evU⟩
            supp := ⟨_, _, _, _, sen, Y.supp, by simp [plainBareV, preparedCellV, Cell.setSlot, nSP, nPM.symm, lP], evS⟩
            msg := ⟨_, _, _, _, hffM, by simp [plainBareV, preparedCellV, Cell.setSlot, lM]⟩
            other := fun O f d c k i fd hf hy n1 n2 n3 n4 => by
              obtain ⟨ty, dd, hdd, hddn⟩ := Cond.laysAt hfound hk hf hy
              have m1 := Cond.laysApart hdd hdC hddn hdnC (by rw [Y.causeName]; exact n1)
              have m2 := Cond.laysApart hdd hdS hddn hdnS (by rw [Y.stackName]; exact n2)
              have m3 := Cond.laysApart hdd hdP hddn hdnP (by rw [Y.suppName]; exact n3)
              have m4 := Cond.laysApart hdd hdM hddn hdnM (by rw [hnM]; exact n4)
              have := fresh_default (c := P1.m.cls) ty
              simpa [plainBareV, preparedCellV, Cell.setSlot, Array.getElem?_setIfInBounds, m1, m2, m3, m4, m1.symm, m2.symm, m3.symm, m4.symm] using this }
end FXC
section FXN
variable {p : Program} {l : Launch} {e : Env} {R : Room} {s : State} {m : MethodId} {args : Array Value} {below : List Frame} {meth : Method} {c : Code} {H : Heap} {locs : List Loc} {cells slots : Nat} {Q : State → Prop}
variable {mc ms : Nat} {free : Addr → Prop} {ls : Array Slot} {rest : List Value}
variable {Qc : Array Value → State → Outcome → State → Prop} {XC : String → State → State → Prop}
theorem vx_throwNS {cc : ByteArray} {pc : Nat} (hexec : p.tables.exec = Jvm.exec) (hb : c.code = cc) (hl : l.stackTraces = false) {own cls text : String} {names : List String} {ik is ic ix mc ms sa : Nat} {rx : ByteArray} (x0 : decode rx 0 = .ok (.aload_n 0, 1)) (x1 : decode rx 1 = .ok (.aload_n 1, 1)) (x2 : decode rx 2 = .ok (.invokespecial ix, 3)) (x5 : decode rx 5 = .ok (.return_, 1)) {A : Nat → Prop}
    (hown : s.vm.findClass own = some m.cls) (hcls : Bundle.fit cls = true) (hnames : ∀ n ∈ names, Bundle.fit n = true)
    (hk : (Cond.classLink own ik cls).before args s = true) (hini : (Cond.initialized cls).before args s = true) (hstr : vk_R own is text sa s) (hat : ∀ w ∈ fx_atX own ic cls ix rx names, w.before args s = true)
    (hgood : ∀ w ∈ Cond.classLink own ik cls :: Cond.initialized cls :: fx_atX own ic cls ix rx names, vx_ot w = true)
    (hU : vx_Zq Bundle.tN "UNASSIGNED_STACK" Bundle.steD A s s.heap) (hN : vx_Zq Bundle.tN "SUPPRESSED_SENTINEL" Bundle.listD A s s.heap) (hS : va_S A s.heap H locs) (hsize : ls.size = c.maxLocals)
    (d0 : decode cc pc = .ok (.new ik, 3)) (d3 : decode cc (pc + 3) = .ok (.dup, 1)) (d4 : decode cc (pc + 4) = .ok (.ldc is, 2)) (d6 : decode cc (pc + 6) = .ok (.invokespecial ic, 3)) (d9 : decode cc (pc + 9) = .ok (.athrow, 1))
    (hout : ∀ x ∈ c.exceptionTable.toList, covers x (pc + 9) = false)
    (hRframes : names.length + 3 < R.frames) (hRlocals : (rest.map fun v => v.category).sum + (13 * (names.length + 1) + 43) ≤ R.locals) (hRcells : cells + 1 ≤ R.cells) (hRslots : slots + 6 ≤ R.slots) (hlocks : meth.locks = false)
    (hx : ∀ t : State, s.vm.Alike t.vm → H.size ≤ t.heap.size → (∀ q : Nat, q < H.size → t.heap[q]? = H[q]?) → XC cls s t)
    (hf : ∀ z ∈ locs, free z.base) (hc : cells + 1 ≤ mc) (hs : slots + 6 ≤ ms) :
    W p l e R s m args below meth c H locs cells slots (vx_MQ below Qc XC args s mc ms free) (F0 m pc ls rest) := by
  intro T hT X
  have htr : e.platform.stackTraces = false := (show e.platform.stackTraces = l.stackTraces by rw [X.admits.platform]).trans hl
  have Y := vx_rebase X (R' := { frames := R.frames, locals := R.locals, cells := 1, slots := 6 }) (Nat.le_refl _) (Nat.le_refl _) hRcells hRslots
  obtain ⟨s', hA⟩ : ∃ z, z = (T.setVm s.vm).setFrames (.invoking m args :: below) := ⟨_, rfl⟩
  rw [← hA] at Y
  have hvm : s'.vm = s.vm := by rw [hA]; rfl
  have hhp : s'.heap = H := by rw [hA]; exact hT
  have hW0 : s.WarmedH s'.vm := by rw [hvm]; exact State.WarmedH.refl s
  have hat' : ∀ w ∈ fx_atX own ic cls ix rx names, w.before args s' = true := fun w hw => vx_ot_at hW0 hvm.symm (hgood w (List.mem_cons_of_mem _ (List.mem_cons_of_mem _ hw))) (hat w hw)
  have hk' : (Cond.classLink own ik cls).before args s' = true := vx_ot_at hW0 hvm.symm (hgood _ List.mem_cons_self) hk
  have hini' : (Cond.initialized cls).before args s' = true := vx_ot_at hW0 hvm.symm (hgood _ (List.mem_cons_of_mem _ List.mem_cons_self)) hini
  have hU' : vx_Zq Bundle.tN "UNASSIGNED_STACK" Bundle.steD A s' s'.heap := by rw [hhp]; exact vx_Zq.moved hW0.alike (hU.kept hS.2.1)
  have hN' : vx_Zq Bundle.tN "SUPPRESSED_SENTINEL" Bundle.listD A s' s'.heap := by rw [hhp]; exact vx_Zq.moved hW0.alike (hN.kept hS.2.1)
  have h : ∀ w ∈ Bundle.ownAtomsX own ic cls ix rx names, w.before args s' = true := vx_own hat' (vx_isRefq hU'.1) (vx_isRefq hN'.1) hU'.2.word hN'.2.word
  have hown' : s'.vm.findClass own = some m.cls := by rw [hvm]; exact hown
  have hins : (Cond.instantiable cls 6).before args s' = true := h _ (by simp [Bundle.ownAtomsX])
  obtain ⟨vm₁, cX, kX, hfX, hkX, -, -, X₁, st1⟩ := Y.newCold hexec (own := own) (C := cls) (index := ik) (n := 6) hown' hk' hins hini'
    (g := F0 m pc ls rest) rfl (by rw [hb]; exact d0) (Nat.le_refl _) (Nat.le_refl _)
  generalize hT1 : (T.setVm vm₁).pushCell { cls := cX, slots := kX.instanceTypes.map defaultValue, vm := .none } = T1 at X₁ st1
  have hcat : (Value.ref T.heap.size).category = 1 := rfl
  have hcellA : T1.heap[T.heap.size]? = some (freshCell cX kX) := by rw [← hT1]; exact State.heap_pushCell_size _ _
  have d3' : decode c.code (pc + 3) = .ok (.dup, 1) := by rw [hb]; exact d3
  have d4' : decode c.code (pc + 4) = .ok (.ldc is, 2) := by rw [hb]; exact d4
  have hstr' : vk_R own is text sa s' := vk_R.warm hW0 hstr
  obtain ⟨U, hsteps, hrun, hend, hW, hsame, ce, hce, hO⟩ := fx_ctorThrowSX X₁ hexec htr (own := own) (cls := cls) (names := names) (ic := ic) x0 x1 x2 x5 hown' hcls hnames h (fun x hx => nomatch hx) hfX hkX hcellA (by rw [hhp, hT]; exact Nat.le_refl _) (msg := .ref sa) rfl
    (g := { method := m, pc := pc + 6, locals := ls, stack := .ref sa :: .ref T.heap.size :: .ref T.heap.size :: rest, locked := none }) rfl hsize rfl rfl (rest := rest) rfl
    (by rw [hb]; exact d6) (by rw [hb]; exact d9) hout hRframes (by simp only [List.map_cons, List.sum_cons, hcat]; omega) hlocks
  obtain ⟨f1, f2⟩ := vx_frame hsame
  rw [hhp] at f1 f2
  have hWs : s.WarmedH U.vm := State.WarmedH.trans hW0 hW
  have hcl : s.vm.findClass cls = some ce.cls := by
    have h9 := hO.cls
    rw [hvm] at h9
    exact h9
  have hall : s.sameButNew ({ U with vm := s.vm } : State) locs mc ms := by
    subst hA
    obtain ⟨e1, e2⟩ := hsame
    rw [State.setFrames_setFrames] at e1
    have h2 : (T.setVm s.vm).sameButNew ({ U with vm := s.vm } : State) [] (0 + 1) (0 + 6) := ⟨e1, e2⟩
    have h3 := X.same.trans h2
    rw [List.append_nil] at h3
    exact h3.mono hc hs
  refine ⟨U, ?_, .threw T.heap.size, hrun, hend, Or.inr ⟨T.heap.size, rfl, cls, ce, locs, hx U hWs.alike f1 (fun q hq => f2 q hq (fun z hz => nomatch hz)), hce, hO.vm, hcl, hWs, hall, hf⟩⟩
  refine st1 _ ?_
  show Steps p.tables e below (T1.setTop { method := m, pc := pc + 3, locals := ls, stack := .ref T.heap.size :: rest, locked := none }) _
  jvm_step X₁.here [X₁.here.top, hexec, d3', Value.category]
  exact X₁.ldcString hexec (own := own) (text := text) (index := is) (a := sa) hown' hstr'.1 hstr'.2
    (g := { method := m, pc := pc + 4, locals := ls, stack := .ref T.heap.size :: .ref T.heap.size :: rest, locked := none }) rfl d4' _ hsteps
end FXN
section FXM
variable {g : fx_Geo} {p : Program} {l : Launch} {e : Env} {R : Room} {s : State} {m : MethodId} {args : Array Value} {below : List Frame} {meth : Method} {c : Code} {H : Heap} {locs : List Loc} {cells slots : Nat}
variable {cc : ByteArray} {nL pc mcT msT : Nat} {ret : Option FieldType} {ls : Array Slot} {rest : List Value} {M : fx_Mem} {X : String → fx_Mem → Prop} {Qc : Array Value → State → Outcome → State → Prop}
theorem fx_throwNS {text E : String} {ik is ic : Nat} (C : fx_Cx g p s m args meth c RX6 cc nL ret) (hfl : fx_fl l c) (hH : fx_H g s M H locs) (hk : Cond.classLink RX6 ik E ∈ fx_U) (hini : Cond.initialized E ∈ fx_U) (sx : Nat) (hsx : fx_strs[sx]? = some (RX6, is, text)) (hat : ∀ w ∈ (fx_atX RX6 ic E 13 fx_r13 fx_n2).filter goodWord, w ∈ fx_U) (hE : E ∈ fx_ex) (hng : ∀ w ∈ (fx_atX RX6 ic E 13 fx_r13 fx_n2).filter (fun w => !goodWord w), w ∈ fx_ng E) (hgood : ∀ w ∈ Cond.classLink RX6 ik E :: Cond.initialized E :: fx_atX RX6 ic E 13 fx_r13 fx_n2, vx_ot w = true)
    (d0 : decode cc pc = .ok (.new ik, 3)) (d3 : decode cc (pc + 3) = .ok (.dup, 1)) (d4 : decode cc (pc + 4) = .ok (.ldc is, 2)) (d6 : decode cc (pc + 6) = .ok (.invokespecial ic, 3)) (d9 : decode cc (pc + 9) = .ok (.athrow, 1))
    (hRframes : fx_n2.length + 3 < R.frames) (hRlocals : (rest.map fun v => v.category).sum + (13 * (fx_n2.length + 1) + 43) ≤ R.locals) (hRcells : cells + 1 ≤ R.cells) (hRslots : slots + 6 ≤ R.slots) (hls : ls.size = nL) (hq : X E M) (hc : cells + 1 ≤ mcT) (hs : slots + 6 ≤ msT) :
    W p l e R s m args below meth c H locs cells slots (vx_MQ below Qc (fx_XC g X) args s mcT msT (fx_A g)) (F0 m pc ls rest) := by
  obtain ⟨hx, hb, -, hml, hown, hts, hlocks, -, hK, hG, hSt⟩ := C
  have hh : ∀ w ∈ fx_atX RX6 ic E 13 fx_r13 fx_n2, w.before args s = true := by
    refine vx_hat (fun w h => hts w (hat w h)) hng ?_
    obtain ⟨-, -, -, -, -, -, -, h8, h9⟩ := hSt
    exact vx_c (va_Nw.use rfl (h8 E hE)) (vx_c (va_Nw.use rfl (h9 _ (by simp [fx_dc]))) (vx_c (va_Nw.use rfl (h9 _ (by simp [fx_dc]))) (vx_c (va_Nw.use rfl (h9 _ (by simp [fx_dc]))) vx_n)))
  obtain ⟨sa, hstr⟩ := hSt.2.1 _ (List.mem_of_getElem? hsx)
  exact vx_throwNS (ix := 13) (rx := fx_r13) hx hb hfl.1 (by decide +kernel) (by decide +kernel) (by decide +kernel) (by decide +kernel) hown (fx_fit E hE) fx_fit2 (hts _ hk) (hts _ hini) hstr hh hgood hSt.2.2.2.2.1 hSt.2.2.2.2.2.1 hH.2 (hls.trans hml.symm) d0 d3 d4 d6 d9 (fun x h => (hfl.2 x h).elim) hRframes hRlocals hRcells hRslots hlocks (fx_thrown hH hq) hH.2.2.2 hc hs
end FXM
end
section
/-! Math.floorDiv of two ints, by the library's law -/
def fx_fd (x y : Int32) : Int32 := if (x ^^^ y) < 0 then if ((x / y) * y) = x then x / y else (x / y) - 1 else x / y
section FXF
variable {g : fx_Geo} {p : Program} {l : Launch} {e : Env} {R : Room} {s : State} {m : MethodId} {args : Array Value} {below : List Frame} {meth : Method} {c : Code} {H : Heap} {locs : List Loc} {cells slots : Nat} {Q : State → Prop}
variable {own : String} {cc : ByteArray} {nL pc : Nat} {ret : Option FieldType} {ls : Array Slot} {rest : List Value}
theorem fx_floorDiv (C : fx_Cx g p s m args meth c own cc nL ret) (hls : ls.size = nL) {index : Nat} (w1 : Cond.methodLink own index yJ9_floorDiv_7cf53 ∈ fx_U) (w2 : Cond.static yJ9_floorDiv_7cf53 ∈ fx_U) (w3 : Cond.initialized RJ9 ∈ fx_U) (w4 : Cond.code yJ9_floorDiv_7cf53 cJ9_floorDiv_7cf53 3 (some .int) ∈ fx_U) {x y : Int32} (hy : ¬ y = 0) (hrm : (rest.map fun v => v.category).sum ≤ 8) (hfr : 1 ≤ R.frames) (hlo : 8 + 14 ≤ R.locals) (hc : cells ≤ R.cells) (hs : slots ≤ R.slots) (hdg : decode cc pc = .ok (.invokestatic index, 3))
    (kk : W p l e R s m args below meth c H locs cells slots Q (F0 m (pc + 3) ls (.int (fx_fd x y) :: rest))) : W p l e R s m args below meth c H locs cells slots Q (F0 m pc ls (.int y :: .int x :: rest)) := by
  intro T hT X
  obtain ⟨hx, hb, -, hml, hown, hts, -⟩ := C
  have hcode := hts _ w4
  have hini := hts _ w3
  have htab : (Jvm.Free.JP.Math_floorDiv_II.tab).before args s = true := by
    have h1 : (Cond.and (Cond.code yJ9_floorDiv_7cf53 cJ9_floorDiv_7cf53 3 (some .int)) (Cond.initialized RJ9)).before args s = true := by
      rw [Cond.before_and, Bool.and_eq_true]
      exact ⟨hcode, hini⟩
    exact h1
  have hK := Jvm.Free.JP.Math_floorDiv_II.pays (l := l) (R := R) (p := p) (e := e) (below := below) (s := s) (sargs := args) (len := 3) (W := 8) x y htab hfr hlo
  have hsig : parseMethodDescriptor "(II)I" = some { parameters := [.int, .int], returnType := some .int } := by decide +kernel
  obtain ⟨v, vm₁, ⟨U', l2, c2, s2⟩, hW₁, X', ⟨⟨hv, hh⟩, e1, e2, e3⟩, st⟩ := callS X hx (y := Jvm.Free.JP.Math_floorDiv_II.yN) (bytes := cJ9_floorDiv_7cf53) (maxL := 3) (ret := some .int) hown (hts _ w1) (hts _ w2) hini hcode (by decide) hK (g := F0 m pc ls (.int y :: .int x :: rest)) rfl (hls.trans hml.symm) (argsL := [.int x, .int y]) (rest := rest)
    (fun sig h => by
      rw [show Jvm.Free.JP.Math_floorDiv_II.yN.desc = "(II)I" from rfl, hsig] at h
      rw [← Option.some.inj h]; rfl) rfl (lv_room hrm) (by rw [hb]; exact hdg) (fun vm₁ hW₁ => ⟨hc, hs, rfl, hy⟩)
  dsimp only [Pt.U, Pt.locs, Pt.cells, Pt.slots] at X' hh e1 e2 e3 st
  rw [List.append_nil] at e1
  subst hv; subst e1; subst e2; subst e3
  obtain ⟨t2, a1, b1⟩ := kk U' (by rw [hh]; exact hT) X'
  exact ⟨t2, st t2 a1, b1⟩
end FXF
end
