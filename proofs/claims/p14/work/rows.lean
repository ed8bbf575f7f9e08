section
-- ===== PART A: goes FIRST, ahead of the names: the tables' words, and 'selects' of the private methods out of them =====
/-- a private method of a class that the tables say can be made, by its rows of tables_1 -/
def lw_okq (q : MethodName × Nat) : Prop := (q.1.cls ≠ "java/lang/invoke/MethodHandle" ∧ q.1.cls ≠ "java/lang/invoke/VarHandle") ∧ Cond.instantiable q.1.cls q.2 ∈ tables_1 ∧ Cond.privateMethod q.1 ∈ tables_1 ∧ Cond.instanceMethod q.1 ∈ tables_1
theorem lw_p0 : lw_okq (⟨"DreamGuard$FortReader", "readClause", "()Z"⟩, 6) := ⟨⟨by decide +kernel, by decide +kernel⟩, List.mem_of_getElem? (i := 56) (by decide +kernel), List.mem_of_getElem? (i := 484) (by decide +kernel), List.mem_of_getElem? (i := 485) (by decide +kernel)⟩
theorem lw_p1 : lw_okq (⟨"DreamGuard$FortReader", "readItems", "(Ljava/lang/String;[I[I[I)Z"⟩, 6) := ⟨⟨by decide +kernel, by decide +kernel⟩, List.mem_of_getElem? (i := 56) (by decide +kernel), List.mem_of_getElem? (i := 497) (by decide +kernel), List.mem_of_getElem? (i := 498) (by decide +kernel)⟩
theorem lw_p2 : lw_okq (⟨"DreamGuard$FortReader", "isWhole", "()Z"⟩, 6) := ⟨⟨by decide +kernel, by decide +kernel⟩, List.mem_of_getElem? (i := 56) (by decide +kernel), List.mem_of_getElem? (i := 610) (by decide +kernel), List.mem_of_getElem? (i := 611) (by decide +kernel)⟩
theorem lw_p3 : lw_okq (⟨"DreamGuard$LawReader", "readClause", "()Z"⟩, 3) := ⟨⟨by decide +kernel, by decide +kernel⟩, List.mem_of_getElem? (i := 84) (by decide +kernel), List.mem_of_getElem? (i := 618) (by decide +kernel), List.mem_of_getElem? (i := 619) (by decide +kernel)⟩
theorem lw_p4 : lw_okq (⟨"DreamGuard$LawReader", "readSum", "(I)Z"⟩, 3) := ⟨⟨by decide +kernel, by decide +kernel⟩, List.mem_of_getElem? (i := 84) (by decide +kernel), List.mem_of_getElem? (i := 624) (by decide +kernel), List.mem_of_getElem? (i := 625) (by decide +kernel)⟩
theorem lw_p5 : lw_okq (⟨"DreamGuard$LawReader", "readTerm", "(I)Z"⟩, 3) := ⟨⟨by decide +kernel, by decide +kernel⟩, List.mem_of_getElem? (i := 84) (by decide +kernel), List.mem_of_getElem? (i := 628) (by decide +kernel), List.mem_of_getElem? (i := 629) (by decide +kernel)⟩
theorem lw_p6 : lw_okq (⟨"DreamGuard$LawReader", "readAtom", "(I)Z"⟩, 3) := ⟨⟨by decide +kernel, by decide +kernel⟩, List.mem_of_getElem? (i := 84) (by decide +kernel), List.mem_of_getElem? (i := 632) (by decide +kernel), List.mem_of_getElem? (i := 633) (by decide +kernel)⟩
theorem lw_p7 : lw_okq (⟨"DreamGuard$LawReader", "emit", "(I)V"⟩, 3) := ⟨⟨by decide +kernel, by decide +kernel⟩, List.mem_of_getElem? (i := 84) (by decide +kernel), List.mem_of_getElem? (i := 638) (by decide +kernel), List.mem_of_getElem? (i := 639) (by decide +kernel)⟩
theorem lw_p8 : lw_okq (⟨"DreamGuard$LawReader", "readCondition", "(IZ)Z"⟩, 3) := ⟨⟨by decide +kernel, by decide +kernel⟩, List.mem_of_getElem? (i := 84) (by decide +kernel), List.mem_of_getElem? (i := 646) (by decide +kernel), List.mem_of_getElem? (i := 647) (by decide +kernel)⟩
theorem lw_p9 : lw_okq (⟨"DreamGuard$LawReader", "readTruth", "(IZ)Z"⟩, 3) := ⟨⟨by decide +kernel, by decide +kernel⟩, List.mem_of_getElem? (i := 84) (by decide +kernel), List.mem_of_getElem? (i := 650) (by decide +kernel), List.mem_of_getElem? (i := 651) (by decide +kernel)⟩
theorem lw_p10 : lw_okq (⟨"DreamGuard$LawReader", "readUnit", "(IZ)Z"⟩, 3) := ⟨⟨by decide +kernel, by decide +kernel⟩, List.mem_of_getElem? (i := 84) (by decide +kernel), List.mem_of_getElem? (i := 654) (by decide +kernel), List.mem_of_getElem? (i := 655) (by decide +kernel)⟩
theorem lw_p11 : lw_okq (⟨"DreamGuard$LawReader", "readNested", "(II)Z"⟩, 3) := ⟨⟨by decide +kernel, by decide +kernel⟩, List.mem_of_getElem? (i := 84) (by decide +kernel), List.mem_of_getElem? (i := 658) (by decide +kernel), List.mem_of_getElem? (i := 659) (by decide +kernel)⟩
theorem lw_p12 : lw_okq (⟨"DreamGuard", "beginFort", "()V"⟩, 20) := ⟨⟨by decide +kernel, by decide +kernel⟩, List.mem_of_getElem? (i := 27) (by decide +kernel), List.mem_of_getElem? (i := 671) (by decide +kernel), List.mem_of_getElem? (i := 672) (by decide +kernel)⟩
theorem lw_p13 : lw_okq (⟨"DreamGuard", "hasFort", "()Z"⟩, 20) := ⟨⟨by decide +kernel, by decide +kernel⟩, List.mem_of_getElem? (i := 27) (by decide +kernel), List.mem_of_getElem? (i := 689) (by decide +kernel), List.mem_of_getElem? (i := 690) (by decide +kernel)⟩
theorem lw_p14 : lw_okq (⟨"DreamGuard", "refuse", "(I)I"⟩, 20) := ⟨⟨by decide +kernel, by decide +kernel⟩, List.mem_of_getElem? (i := 27) (by decide +kernel), List.mem_of_getElem? (i := 705) (by decide +kernel), List.mem_of_getElem? (i := 706) (by decide +kernel)⟩
theorem lw_p15 : lw_okq (⟨"DreamGuard", "changePlaces", "(II)V"⟩, 20) := ⟨⟨by decide +kernel, by decide +kernel⟩, List.mem_of_getElem? (i := 27) (by decide +kernel), List.mem_of_getElem? (i := 730) (by decide +kernel), List.mem_of_getElem? (i := 731) (by decide +kernel)⟩
def lw_privs_1 : List (MethodName × Nat) := [(⟨"DreamGuard$FortReader", "readClause", "()Z"⟩, 6), (⟨"DreamGuard$FortReader", "readItems", "(Ljava/lang/String;[I[I[I)Z"⟩, 6), (⟨"DreamGuard$FortReader", "isWhole", "()Z"⟩, 6), (⟨"DreamGuard$LawReader", "readClause", "()Z"⟩, 3), (⟨"DreamGuard$LawReader", "readSum", "(I)Z"⟩, 3), (⟨"DreamGuard$LawReader", "readTerm", "(I)Z"⟩, 3), (⟨"DreamGuard$LawReader", "readAtom", "(I)Z"⟩, 3), (⟨"DreamGuard$LawReader", "emit", "(I)V"⟩, 3), (⟨"DreamGuard$LawReader", "readCondition", "(IZ)Z"⟩, 3), (⟨"DreamGuard$LawReader", "readTruth", "(IZ)Z"⟩, 3), (⟨"DreamGuard$LawReader", "readUnit", "(IZ)Z"⟩, 3), (⟨"DreamGuard$LawReader", "readNested", "(II)Z"⟩, 3), (⟨"DreamGuard", "beginFort", "()V"⟩, 20), (⟨"DreamGuard", "hasFort", "()Z"⟩, 20), (⟨"DreamGuard", "refuse", "(I)I"⟩, 20), (⟨"DreamGuard", "changePlaces", "(II)V"⟩, 20)]
theorem lw_r1 : ∀ q ∈ lw_privs_1, lw_okq q := List.forall_mem_cons.mpr ⟨lw_p0, List.forall_mem_cons.mpr ⟨lw_p1, List.forall_mem_cons.mpr ⟨lw_p2, List.forall_mem_cons.mpr ⟨lw_p3, List.forall_mem_cons.mpr ⟨lw_p4, List.forall_mem_cons.mpr ⟨lw_p5, List.forall_mem_cons.mpr ⟨lw_p6, List.forall_mem_cons.mpr ⟨lw_p7, List.forall_mem_cons.mpr ⟨lw_p8, List.forall_mem_cons.mpr ⟨lw_p9, List.forall_mem_cons.mpr ⟨lw_p10, List.forall_mem_cons.mpr ⟨lw_p11, List.forall_mem_cons.mpr ⟨lw_p12, List.forall_mem_cons.mpr ⟨lw_p13, List.forall_mem_cons.mpr ⟨lw_p14, List.forall_mem_cons.mpr ⟨lw_p15, fun _ h => absurd h List.not_mem_nil⟩⟩⟩⟩⟩⟩⟩⟩⟩⟩⟩⟩⟩⟩⟩⟩
theorem lw_p16 : lw_okq (⟨"DreamGuard$Night", "clear", "(LDreamGuard$State;)V"⟩, 12) := ⟨⟨by decide +kernel, by decide +kernel⟩, List.mem_of_getElem? (i := 260) (by decide +kernel), List.mem_of_getElem? (i := 746) (by decide +kernel), List.mem_of_getElem? (i := 747) (by decide +kernel)⟩
theorem lw_p17 : lw_okq (⟨"DreamGuard$Night", "lieDown", "(LDreamGuard$State;I)V"⟩, 12) := ⟨⟨by decide +kernel, by decide +kernel⟩, List.mem_of_getElem? (i := 260) (by decide +kernel), List.mem_of_getElem? (i := 754) (by decide +kernel), List.mem_of_getElem? (i := 755) (by decide +kernel)⟩
theorem lw_p18 : lw_okq (⟨"DreamGuard$Night", "sleepOn", "(LDreamGuard$State;III)V"⟩, 12) := ⟨⟨by decide +kernel, by decide +kernel⟩, List.mem_of_getElem? (i := 260) (by decide +kernel), List.mem_of_getElem? (i := 759) (by decide +kernel), List.mem_of_getElem? (i := 760) (by decide +kernel)⟩
theorem lw_p19 : lw_okq (⟨"DreamGuard$Night", "dreamOf", "(LDreamGuard$State;III)I"⟩, 12) := ⟨⟨by decide +kernel, by decide +kernel⟩, List.mem_of_getElem? (i := 260) (by decide +kernel), List.mem_of_getElem? (i := 763) (by decide +kernel), List.mem_of_getElem? (i := 764) (by decide +kernel)⟩
theorem lw_p20 : lw_okq (⟨"DreamGuard$LawBook", "valueOf", "(I)I"⟩, 6) := ⟨⟨by decide +kernel, by decide +kernel⟩, List.mem_of_getElem? (i := 102) (by decide +kernel), List.mem_of_getElem? (i := 771) (by decide +kernel), List.mem_of_getElem? (i := 772) (by decide +kernel)⟩
theorem lw_p21 : lw_okq (⟨"DreamGuard", "drawBed", "()V"⟩, 20) := ⟨⟨by decide +kernel, by decide +kernel⟩, List.mem_of_getElem? (i := 27) (by decide +kernel), List.mem_of_getElem? (i := 799) (by decide +kernel), List.mem_of_getElem? (i := 800) (by decide +kernel)⟩
theorem lw_p22 : lw_okq (⟨"DreamGuard", "draw", "(I)I"⟩, 20) := ⟨⟨by decide +kernel, by decide +kernel⟩, List.mem_of_getElem? (i := 27) (by decide +kernel), List.mem_of_getElem? (i := 803) (by decide +kernel), List.mem_of_getElem? (i := 804) (by decide +kernel)⟩
theorem lw_p23 : lw_okq (⟨"DreamGuard", "drawPlaces", "()V"⟩, 20) := ⟨⟨by decide +kernel, by decide +kernel⟩, List.mem_of_getElem? (i := 27) (by decide +kernel), List.mem_of_getElem? (i := 809) (by decide +kernel), List.mem_of_getElem? (i := 810) (by decide +kernel)⟩
theorem lw_p24 : lw_okq (⟨"DreamGuard$Stagger", "begin", "()V"⟩, 6) := ⟨⟨by decide +kernel, by decide +kernel⟩, List.mem_of_getElem? (i := 370) (by decide +kernel), List.mem_of_getElem? (i := 889) (by decide +kernel), List.mem_of_getElem? (i := 890) (by decide +kernel)⟩
theorem lw_p25 : lw_okq (⟨"DreamGuard$Stagger", "goRound", "()I"⟩, 6) := ⟨⟨by decide +kernel, by decide +kernel⟩, List.mem_of_getElem? (i := 370) (by decide +kernel), List.mem_of_getElem? (i := 893) (by decide +kernel), List.mem_of_getElem? (i := 894) (by decide +kernel)⟩
theorem lw_p26 : lw_okq (⟨"DreamGuard$Stagger", "mayHave", "(II)Z"⟩, 6) := ⟨⟨by decide +kernel, by decide +kernel⟩, List.mem_of_getElem? (i := 370) (by decide +kernel), List.mem_of_getElem? (i := 897) (by decide +kernel), List.mem_of_getElem? (i := 898) (by decide +kernel)⟩
theorem lw_p27 : lw_okq (⟨"DreamGuard$Stagger", "goRoundFrom", "(I)I"⟩, 6) := ⟨⟨by decide +kernel, by decide +kernel⟩, List.mem_of_getElem? (i := 370) (by decide +kernel), List.mem_of_getElem? (i := 901) (by decide +kernel), List.mem_of_getElem? (i := 902) (by decide +kernel)⟩
theorem lw_p28 : lw_okq (⟨"DreamGuard$Stagger", "changesBy", "(II)I"⟩, 6) := ⟨⟨by decide +kernel, by decide +kernel⟩, List.mem_of_getElem? (i := 370) (by decide +kernel), List.mem_of_getElem? (i := 905) (by decide +kernel), List.mem_of_getElem? (i := 906) (by decide +kernel)⟩
theorem lw_p29 : lw_okq (⟨"DreamGuard$Stagger", "goOn", "(II)V"⟩, 6) := ⟨⟨by decide +kernel, by decide +kernel⟩, List.mem_of_getElem? (i := 370) (by decide +kernel), List.mem_of_getElem? (i := 909) (by decide +kernel), List.mem_of_getElem? (i := 910) (by decide +kernel)⟩
theorem lw_p30 : lw_okq (⟨"DreamGuard$Stagger", "areApart", "(IIII)Z"⟩, 6) := ⟨⟨by decide +kernel, by decide +kernel⟩, List.mem_of_getElem? (i := 370) (by decide +kernel), List.mem_of_getElem? (i := 913) (by decide +kernel), List.mem_of_getElem? (i := 914) (by decide +kernel)⟩
theorem lw_p31 : lw_okq (⟨"DreamGuard$Stagger", "fixLeastBed", "(II)I"⟩, 6) := ⟨⟨by decide +kernel, by decide +kernel⟩, List.mem_of_getElem? (i := 370) (by decide +kernel), List.mem_of_getElem? (i := 923) (by decide +kernel), List.mem_of_getElem? (i := 924) (by decide +kernel)⟩
def lw_privs_2 : List (MethodName × Nat) := [(⟨"DreamGuard$Night", "clear", "(LDreamGuard$State;)V"⟩, 12), (⟨"DreamGuard$Night", "lieDown", "(LDreamGuard$State;I)V"⟩, 12), (⟨"DreamGuard$Night", "sleepOn", "(LDreamGuard$State;III)V"⟩, 12), (⟨"DreamGuard$Night", "dreamOf", "(LDreamGuard$State;III)I"⟩, 12), (⟨"DreamGuard$LawBook", "valueOf", "(I)I"⟩, 6), (⟨"DreamGuard", "drawBed", "()V"⟩, 20), (⟨"DreamGuard", "draw", "(I)I"⟩, 20), (⟨"DreamGuard", "drawPlaces", "()V"⟩, 20), (⟨"DreamGuard$Stagger", "begin", "()V"⟩, 6), (⟨"DreamGuard$Stagger", "goRound", "()I"⟩, 6), (⟨"DreamGuard$Stagger", "mayHave", "(II)Z"⟩, 6), (⟨"DreamGuard$Stagger", "goRoundFrom", "(I)I"⟩, 6), (⟨"DreamGuard$Stagger", "changesBy", "(II)I"⟩, 6), (⟨"DreamGuard$Stagger", "goOn", "(II)V"⟩, 6), (⟨"DreamGuard$Stagger", "areApart", "(IIII)Z"⟩, 6), (⟨"DreamGuard$Stagger", "fixLeastBed", "(II)I"⟩, 6)]
theorem lw_r2 : ∀ q ∈ lw_privs_2, lw_okq q := List.forall_mem_cons.mpr ⟨lw_p16, List.forall_mem_cons.mpr ⟨lw_p17, List.forall_mem_cons.mpr ⟨lw_p18, List.forall_mem_cons.mpr ⟨lw_p19, List.forall_mem_cons.mpr ⟨lw_p20, List.forall_mem_cons.mpr ⟨lw_p21, List.forall_mem_cons.mpr ⟨lw_p22, List.forall_mem_cons.mpr ⟨lw_p23, List.forall_mem_cons.mpr ⟨lw_p24, List.forall_mem_cons.mpr ⟨lw_p25, List.forall_mem_cons.mpr ⟨lw_p26, List.forall_mem_cons.mpr ⟨lw_p27, List.forall_mem_cons.mpr ⟨lw_p28, List.forall_mem_cons.mpr ⟨lw_p29, List.forall_mem_cons.mpr ⟨lw_p30, List.forall_mem_cons.mpr ⟨lw_p31, fun _ h => absurd h List.not_mem_nil⟩⟩⟩⟩⟩⟩⟩⟩⟩⟩⟩⟩⟩⟩⟩⟩
theorem lw_p32 : lw_okq (⟨"DreamGuard", "layFirstRow", "()V"⟩, 20) := ⟨⟨by decide +kernel, by decide +kernel⟩, List.mem_of_getElem? (i := 27) (by decide +kernel), List.mem_of_getElem? (i := 931) (by decide +kernel), List.mem_of_getElem? (i := 932) (by decide +kernel)⟩
theorem lw_p33 : lw_okq (⟨"DreamGuard", "nightmaresByRow", "()I"⟩, 20) := ⟨⟨by decide +kernel, by decide +kernel⟩, List.mem_of_getElem? (i := 27) (by decide +kernel), List.mem_of_getElem? (i := 935) (by decide +kernel), List.mem_of_getElem? (i := 936) (by decide +kernel)⟩
theorem lw_p34 : lw_okq (⟨"DreamGuard", "digitsOfRow", "()I"⟩, 20) := ⟨⟨by decide +kernel, by decide +kernel⟩, List.mem_of_getElem? (i := 27) (by decide +kernel), List.mem_of_getElem? (i := 939) (by decide +kernel), List.mem_of_getElem? (i := 940) (by decide +kernel)⟩
theorem lw_p35 : lw_okq (⟨"DreamGuard", "layNextRow", "()Z"⟩, 20) := ⟨⟨by decide +kernel, by decide +kernel⟩, List.mem_of_getElem? (i := 27) (by decide +kernel), List.mem_of_getElem? (i := 943) (by decide +kernel), List.mem_of_getElem? (i := 944) (by decide +kernel)⟩
theorem lw_p36 : lw_okq (⟨"DreamGuard", "exchangeInRow", "(II)V"⟩, 20) := ⟨⟨by decide +kernel, by decide +kernel⟩, List.mem_of_getElem? (i := 27) (by decide +kernel), List.mem_of_getElem? (i := 947) (by decide +kernel), List.mem_of_getElem? (i := 948) (by decide +kernel)⟩
theorem lw_p37 : lw_okq (⟨"DreamGuard$Suspects", "consider", "(I)V"⟩, 7) := ⟨⟨by decide +kernel, by decide +kernel⟩, List.mem_of_getElem? (i := 340) (by decide +kernel), List.mem_of_getElem? (i := 975) (by decide +kernel), List.mem_of_getElem? (i := 976) (by decide +kernel)⟩
theorem lw_p38 : lw_okq (⟨"DreamGuard$Suspects", "isAsSeen", "()Z"⟩, 7) := ⟨⟨by decide +kernel, by decide +kernel⟩, List.mem_of_getElem? (i := 340) (by decide +kernel), List.mem_of_getElem? (i := 980) (by decide +kernel), List.mem_of_getElem? (i := 981) (by decide +kernel)⟩
theorem lw_p39 : lw_okq (⟨"DreamGuard", "areTwo", "(II)Z"⟩, 20) := ⟨⟨by decide +kernel, by decide +kernel⟩, List.mem_of_getElem? (i := 27) (by decide +kernel), List.mem_of_getElem? (i := 1001) (by decide +kernel), List.mem_of_getElem? (i := 1002) (by decide +kernel)⟩
theorem lw_p40 : lw_okq (⟨"DreamGuard", "play", "(IIII)V"⟩, 20) := ⟨⟨by decide +kernel, by decide +kernel⟩, List.mem_of_getElem? (i := 27) (by decide +kernel), List.mem_of_getElem? (i := 1016) (by decide +kernel), List.mem_of_getElem? (i := 1017) (by decide +kernel)⟩
theorem lw_p41 : lw_okq (⟨"DreamGuard", "gainOf", "(II)I"⟩, 20) := ⟨⟨by decide +kernel, by decide +kernel⟩, List.mem_of_getElem? (i := 27) (by decide +kernel), List.mem_of_getElem? (i := 1020) (by decide +kernel), List.mem_of_getElem? (i := 1021) (by decide +kernel)⟩
theorem lw_p42 : lw_okq (⟨"DreamGuard", "playAll", "(II)V"⟩, 20) := ⟨⟨by decide +kernel, by decide +kernel⟩, List.mem_of_getElem? (i := 27) (by decide +kernel), List.mem_of_getElem? (i := 1028) (by decide +kernel), List.mem_of_getElem? (i := 1029) (by decide +kernel)⟩
theorem lw_p43 : lw_okq (⟨"DreamGuard", "restsAt", "(II)Z"⟩, 20) := ⟨⟨by decide +kernel, by decide +kernel⟩, List.mem_of_getElem? (i := 27) (by decide +kernel), List.mem_of_getElem? (i := 1032) (by decide +kernel), List.mem_of_getElem? (i := 1033) (by decide +kernel)⟩
theorem lw_p44 : lw_okq (⟨"DreamGuard", "sumOfMen", "([I)I"⟩, 20) := ⟨⟨by decide +kernel, by decide +kernel⟩, List.mem_of_getElem? (i := 27) (by decide +kernel), List.mem_of_getElem? (i := 1040) (by decide +kernel), List.mem_of_getElem? (i := 1041) (by decide +kernel)⟩
theorem lw_p45 : lw_okq (⟨"DreamGuard", "manWith", "([II)I"⟩, 20) := ⟨⟨by decide +kernel, by decide +kernel⟩, List.mem_of_getElem? (i := 27) (by decide +kernel), List.mem_of_getElem? (i := 1053) (by decide +kernel), List.mem_of_getElem? (i := 1054) (by decide +kernel)⟩
theorem lw_p46 : lw_okq (⟨"DreamGuard", "nightsUntilRested", "()I"⟩, 20) := ⟨⟨by decide +kernel, by decide +kernel⟩, List.mem_of_getElem? (i := 27) (by decide +kernel), List.mem_of_getElem? (i := 1057) (by decide +kernel), List.mem_of_getElem? (i := 1058) (by decide +kernel)⟩
theorem lw_p47 : lw_okq (⟨"java/lang/Throwable", "fillInStackTrace", "(I)Ljava/lang/Throwable;"⟩, 6) := ⟨⟨by decide +kernel, by decide +kernel⟩, List.mem_of_getElem? (i := 1121) (by decide +kernel), List.mem_of_getElem? (i := 1119) (by decide +kernel), List.mem_of_getElem? (i := 1120) (by decide +kernel)⟩
def lw_privs_3 : List (MethodName × Nat) := [(⟨"DreamGuard", "layFirstRow", "()V"⟩, 20), (⟨"DreamGuard", "nightmaresByRow", "()I"⟩, 20), (⟨"DreamGuard", "digitsOfRow", "()I"⟩, 20), (⟨"DreamGuard", "layNextRow", "()Z"⟩, 20), (⟨"DreamGuard", "exchangeInRow", "(II)V"⟩, 20), (⟨"DreamGuard$Suspects", "consider", "(I)V"⟩, 7), (⟨"DreamGuard$Suspects", "isAsSeen", "()Z"⟩, 7), (⟨"DreamGuard", "areTwo", "(II)Z"⟩, 20), (⟨"DreamGuard", "play", "(IIII)V"⟩, 20), (⟨"DreamGuard", "gainOf", "(II)I"⟩, 20), (⟨"DreamGuard", "playAll", "(II)V"⟩, 20), (⟨"DreamGuard", "restsAt", "(II)Z"⟩, 20), (⟨"DreamGuard", "sumOfMen", "([I)I"⟩, 20), (⟨"DreamGuard", "manWith", "([II)I"⟩, 20), (⟨"DreamGuard", "nightsUntilRested", "()I"⟩, 20), (⟨"java/lang/Throwable", "fillInStackTrace", "(I)Ljava/lang/Throwable;"⟩, 6)]
theorem lw_r3 : ∀ q ∈ lw_privs_3, lw_okq q := List.forall_mem_cons.mpr ⟨lw_p32, List.forall_mem_cons.mpr ⟨lw_p33, List.forall_mem_cons.mpr ⟨lw_p34, List.forall_mem_cons.mpr ⟨lw_p35, List.forall_mem_cons.mpr ⟨lw_p36, List.forall_mem_cons.mpr ⟨lw_p37, List.forall_mem_cons.mpr ⟨lw_p38, List.forall_mem_cons.mpr ⟨lw_p39, List.forall_mem_cons.mpr ⟨lw_p40, List.forall_mem_cons.mpr ⟨lw_p41, List.forall_mem_cons.mpr ⟨lw_p42, List.forall_mem_cons.mpr ⟨lw_p43, List.forall_mem_cons.mpr ⟨lw_p44, List.forall_mem_cons.mpr ⟨lw_p45, List.forall_mem_cons.mpr ⟨lw_p46, List.forall_mem_cons.mpr ⟨lw_p47, fun _ h => absurd h List.not_mem_nil⟩⟩⟩⟩⟩⟩⟩⟩⟩⟩⟩⟩⟩⟩⟩⟩
theorem lw_p48 : lw_okq (⟨"DreamGuardModel", "readFort", "()I"⟩, 56) := ⟨⟨by decide +kernel, by decide +kernel⟩, List.mem_of_getElem? (i := 1150) (by decide +kernel), List.mem_of_getElem? (i := 1340) (by decide +kernel), List.mem_of_getElem? (i := 1341) (by decide +kernel)⟩
theorem lw_p49 : lw_okq (⟨"DreamGuardModel", "look", "()I"⟩, 56) := ⟨⟨by decide +kernel, by decide +kernel⟩, List.mem_of_getElem? (i := 1150) (by decide +kernel), List.mem_of_getElem? (i := 1347) (by decide +kernel), List.mem_of_getElem? (i := 1348) (by decide +kernel)⟩
theorem lw_p50 : lw_okq (⟨"DreamGuardModel", "here", "()I"⟩, 56) := ⟨⟨by decide +kernel, by decide +kernel⟩, List.mem_of_getElem? (i := 1150) (by decide +kernel), List.mem_of_getElem? (i := 1351) (by decide +kernel), List.mem_of_getElem? (i := 1352) (by decide +kernel)⟩
theorem lw_p51 : lw_okq (⟨"DreamGuardModel", "items", "(I[III)V"⟩, 56) := ⟨⟨by decide +kernel, by decide +kernel⟩, List.mem_of_getElem? (i := 1150) (by decide +kernel), List.mem_of_getElem? (i := 1355) (by decide +kernel), List.mem_of_getElem? (i := 1356) (by decide +kernel)⟩
theorem lw_p52 : lw_okq (⟨"DreamGuardModel", "number", "(II)I"⟩, 56) := ⟨⟨by decide +kernel, by decide +kernel⟩, List.mem_of_getElem? (i := 1150) (by decide +kernel), List.mem_of_getElem? (i := 1371) (by decide +kernel), List.mem_of_getElem? (i := 1372) (by decide +kernel)⟩
theorem lw_p53 : lw_okq (⟨"DreamGuardModel", "bad", "()V"⟩, 56) := ⟨⟨by decide +kernel, by decide +kernel⟩, List.mem_of_getElem? (i := 1150) (by decide +kernel), List.mem_of_getElem? (i := 1378) (by decide +kernel), List.mem_of_getElem? (i := 1379) (by decide +kernel)⟩
theorem lw_p54 : lw_okq (⟨"DreamGuardModel", "isWhole", "()Z"⟩, 56) := ⟨⟨by decide +kernel, by decide +kernel⟩, List.mem_of_getElem? (i := 1150) (by decide +kernel), List.mem_of_getElem? (i := 1385) (by decide +kernel), List.mem_of_getElem? (i := 1386) (by decide +kernel)⟩
theorem lw_p55 : lw_okq (⟨"DreamGuardModel", "readLaw", "(I)I"⟩, 56) := ⟨⟨by decide +kernel, by decide +kernel⟩, List.mem_of_getElem? (i := 1150) (by decide +kernel), List.mem_of_getElem? (i := 1389) (by decide +kernel), List.mem_of_getElem? (i := 1390) (by decide +kernel)⟩
theorem lw_p56 : lw_okq (⟨"DreamGuardModel", "open", "(I)V"⟩, 56) := ⟨⟨by decide +kernel, by decide +kernel⟩, List.mem_of_getElem? (i := 1150) (by decide +kernel), List.mem_of_getElem? (i := 1393) (by decide +kernel), List.mem_of_getElem? (i := 1394) (by decide +kernel)⟩
theorem lw_p57 : lw_okq (⟨"DreamGuardModel", "clause", "()V"⟩, 56) := ⟨⟨by decide +kernel, by decide +kernel⟩, List.mem_of_getElem? (i := 1150) (by decide +kernel), List.mem_of_getElem? (i := 1397) (by decide +kernel), List.mem_of_getElem? (i := 1398) (by decide +kernel)⟩
theorem lw_p58 : lw_okq (⟨"DreamGuardModel", "condition", "()V"⟩, 56) := ⟨⟨by decide +kernel, by decide +kernel⟩, List.mem_of_getElem? (i := 1150) (by decide +kernel), List.mem_of_getElem? (i := 1401) (by decide +kernel), List.mem_of_getElem? (i := 1402) (by decide +kernel)⟩
theorem lw_p59 : lw_okq (⟨"DreamGuardModel", "unit", "()V"⟩, 56) := ⟨⟨by decide +kernel, by decide +kernel⟩, List.mem_of_getElem? (i := 1150) (by decide +kernel), List.mem_of_getElem? (i := 1405) (by decide +kernel), List.mem_of_getElem? (i := 1406) (by decide +kernel)⟩
theorem lw_p60 : lw_okq (⟨"DreamGuardModel", "opens", "()V"⟩, 56) := ⟨⟨by decide +kernel, by decide +kernel⟩, List.mem_of_getElem? (i := 1150) (by decide +kernel), List.mem_of_getElem? (i := 1409) (by decide +kernel), List.mem_of_getElem? (i := 1410) (by decide +kernel)⟩
theorem lw_p61 : lw_okq (⟨"DreamGuardModel", "put", "(II)V"⟩, 56) := ⟨⟨by decide +kernel, by decide +kernel⟩, List.mem_of_getElem? (i := 1150) (by decide +kernel), List.mem_of_getElem? (i := 1413) (by decide +kernel), List.mem_of_getElem? (i := 1414) (by decide +kernel)⟩
theorem lw_p62 : lw_okq (⟨"DreamGuardModel", "closes", "(I)V"⟩, 56) := ⟨⟨by decide +kernel, by decide +kernel⟩, List.mem_of_getElem? (i := 1150) (by decide +kernel), List.mem_of_getElem? (i := 1417) (by decide +kernel), List.mem_of_getElem? (i := 1418) (by decide +kernel)⟩
theorem lw_p63 : lw_okq (⟨"DreamGuardModel", "sum", "()V"⟩, 56) := ⟨⟨by decide +kernel, by decide +kernel⟩, List.mem_of_getElem? (i := 1150) (by decide +kernel), List.mem_of_getElem? (i := 1421) (by decide +kernel), List.mem_of_getElem? (i := 1422) (by decide +kernel)⟩
def lw_privs_4 : List (MethodName × Nat) := [(⟨"DreamGuardModel", "readFort", "()I"⟩, 56), (⟨"DreamGuardModel", "look", "()I"⟩, 56), (⟨"DreamGuardModel", "here", "()I"⟩, 56), (⟨"DreamGuardModel", "items", "(I[III)V"⟩, 56), (⟨"DreamGuardModel", "number", "(II)I"⟩, 56), (⟨"DreamGuardModel", "bad", "()V"⟩, 56), (⟨"DreamGuardModel", "isWhole", "()Z"⟩, 56), (⟨"DreamGuardModel", "readLaw", "(I)I"⟩, 56), (⟨"DreamGuardModel", "open", "(I)V"⟩, 56), (⟨"DreamGuardModel", "clause", "()V"⟩, 56), (⟨"DreamGuardModel", "condition", "()V"⟩, 56), (⟨"DreamGuardModel", "unit", "()V"⟩, 56), (⟨"DreamGuardModel", "opens", "()V"⟩, 56), (⟨"DreamGuardModel", "put", "(II)V"⟩, 56), (⟨"DreamGuardModel", "closes", "(I)V"⟩, 56), (⟨"DreamGuardModel", "sum", "()V"⟩, 56)]
theorem lw_r4 : ∀ q ∈ lw_privs_4, lw_okq q := List.forall_mem_cons.mpr ⟨lw_p48, List.forall_mem_cons.mpr ⟨lw_p49, List.forall_mem_cons.mpr ⟨lw_p50, List.forall_mem_cons.mpr ⟨lw_p51, List.forall_mem_cons.mpr ⟨lw_p52, List.forall_mem_cons.mpr ⟨lw_p53, List.forall_mem_cons.mpr ⟨lw_p54, List.forall_mem_cons.mpr ⟨lw_p55, List.forall_mem_cons.mpr ⟨lw_p56, List.forall_mem_cons.mpr ⟨lw_p57, List.forall_mem_cons.mpr ⟨lw_p58, List.forall_mem_cons.mpr ⟨lw_p59, List.forall_mem_cons.mpr ⟨lw_p60, List.forall_mem_cons.mpr ⟨lw_p61, List.forall_mem_cons.mpr ⟨lw_p62, List.forall_mem_cons.mpr ⟨lw_p63, fun _ h => absurd h List.not_mem_nil⟩⟩⟩⟩⟩⟩⟩⟩⟩⟩⟩⟩⟩⟩⟩⟩
theorem lw_p64 : lw_okq (⟨"DreamGuardModel", "term", "()V"⟩, 56) := ⟨⟨by decide +kernel, by decide +kernel⟩, List.mem_of_getElem? (i := 1150) (by decide +kernel), List.mem_of_getElem? (i := 1425) (by decide +kernel), List.mem_of_getElem? (i := 1426) (by decide +kernel)⟩
theorem lw_p65 : lw_okq (⟨"DreamGuardModel", "atom", "()V"⟩, 56) := ⟨⟨by decide +kernel, by decide +kernel⟩, List.mem_of_getElem? (i := 1150) (by decide +kernel), List.mem_of_getElem? (i := 1429) (by decide +kernel), List.mem_of_getElem? (i := 1430) (by decide +kernel)⟩
theorem lw_p66 : lw_okq (⟨"DreamGuardModel", "plainNumber", "()I"⟩, 56) := ⟨⟨by decide +kernel, by decide +kernel⟩, List.mem_of_getElem? (i := 1150) (by decide +kernel), List.mem_of_getElem? (i := 1433) (by decide +kernel), List.mem_of_getElem? (i := 1434) (by decide +kernel)⟩
theorem lw_p67 : lw_okq (⟨"DreamGuardModel", "compare", "()V"⟩, 56) := ⟨⟨by decide +kernel, by decide +kernel⟩, List.mem_of_getElem? (i := 1150) (by decide +kernel), List.mem_of_getElem? (i := 1440) (by decide +kernel), List.mem_of_getElem? (i := 1441) (by decide +kernel)⟩
theorem lw_p68 : lw_okq (⟨"DreamGuardModel", "goOnAnd", "()V"⟩, 56) := ⟨⟨by decide +kernel, by decide +kernel⟩, List.mem_of_getElem? (i := 1150) (by decide +kernel), List.mem_of_getElem? (i := 1447) (by decide +kernel), List.mem_of_getElem? (i := 1448) (by decide +kernel)⟩
theorem lw_p69 : lw_okq (⟨"DreamGuardModel", "goOnOr", "()V"⟩, 56) := ⟨⟨by decide +kernel, by decide +kernel⟩, List.mem_of_getElem? (i := 1150) (by decide +kernel), List.mem_of_getElem? (i := 1451) (by decide +kernel), List.mem_of_getElem? (i := 1452) (by decide +kernel)⟩
theorem lw_p70 : lw_okq (⟨"DreamGuardModel", "atEnd", "()I"⟩, 56) := ⟨⟨by decide +kernel, by decide +kernel⟩, List.mem_of_getElem? (i := 1150) (by decide +kernel), List.mem_of_getElem? (i := 1455) (by decide +kernel), List.mem_of_getElem? (i := 1456) (by decide +kernel)⟩
theorem lw_p71 : lw_okq (⟨"DreamGuardModel", "takeFort", "()I"⟩, 56) := ⟨⟨by decide +kernel, by decide +kernel⟩, List.mem_of_getElem? (i := 1150) (by decide +kernel), List.mem_of_getElem? (i := 1463) (by decide +kernel), List.mem_of_getElem? (i := 1464) (by decide +kernel)⟩
theorem lw_p72 : lw_okq (⟨"DreamGuardModel", "begin", "()V"⟩, 56) := ⟨⟨by decide +kernel, by decide +kernel⟩, List.mem_of_getElem? (i := 1150) (by decide +kernel), List.mem_of_getElem? (i := 1467) (by decide +kernel), List.mem_of_getElem? (i := 1468) (by decide +kernel)⟩
theorem lw_p73 : lw_okq (⟨"DreamGuardModel", "of", "(II)I"⟩, 56) := ⟨⟨by decide +kernel, by decide +kernel⟩, List.mem_of_getElem? (i := 1150) (by decide +kernel), List.mem_of_getElem? (i := 1471) (by decide +kernel), List.mem_of_getElem? (i := 1472) (by decide +kernel)⟩
theorem lw_p74 : lw_okq (⟨"DreamGuardModel", "isMan", "(I)Z"⟩, 56) := ⟨⟨by decide +kernel, by decide +kernel⟩, List.mem_of_getElem? (i := 1150) (by decide +kernel), List.mem_of_getElem? (i := 1483) (by decide +kernel), List.mem_of_getElem? (i := 1484) (by decide +kernel)⟩
theorem lw_p75 : lw_okq (⟨"DreamGuardModel", "isHour", "(I)Z"⟩, 56) := ⟨⟨by decide +kernel, by decide +kernel⟩, List.mem_of_getElem? (i := 1150) (by decide +kernel), List.mem_of_getElem? (i := 1495) (by decide +kernel), List.mem_of_getElem? (i := 1496) (by decide +kernel)⟩
theorem lw_p76 : lw_okq (⟨"DreamGuardModel", "isRefused", "(I)Z"⟩, 56) := ⟨⟨by decide +kernel, by decide +kernel⟩, List.mem_of_getElem? (i := 1150) (by decide +kernel), List.mem_of_getElem? (i := 1499) (by decide +kernel), List.mem_of_getElem? (i := 1500) (by decide +kernel)⟩
theorem lw_p77 : lw_okq (⟨"DreamGuardModel", "keep", "()V"⟩, 56) := ⟨⟨by decide +kernel, by decide +kernel⟩, List.mem_of_getElem? (i := 1150) (by decide +kernel), List.mem_of_getElem? (i := 1503) (by decide +kernel), List.mem_of_getElem? (i := 1504) (by decide +kernel)⟩
theorem lw_p78 : lw_okq (⟨"DreamGuardModel", "swapNow", "(II)V"⟩, 56) := ⟨⟨by decide +kernel, by decide +kernel⟩, List.mem_of_getElem? (i := 1150) (by decide +kernel), List.mem_of_getElem? (i := 1519) (by decide +kernel), List.mem_of_getElem? (i := 1520) (by decide +kernel)⟩
theorem lw_p79 : lw_okq (⟨"DreamGuardModel", "areNights", "(I)Z"⟩, 56) := ⟨⟨by decide +kernel, by decide +kernel⟩, List.mem_of_getElem? (i := 1150) (by decide +kernel), List.mem_of_getElem? (i := 1527) (by decide +kernel), List.mem_of_getElem? (i := 1528) (by decide +kernel)⟩
def lw_privs_5 : List (MethodName × Nat) := [(⟨"DreamGuardModel", "term", "()V"⟩, 56), (⟨"DreamGuardModel", "atom", "()V"⟩, 56), (⟨"DreamGuardModel", "plainNumber", "()I"⟩, 56), (⟨"DreamGuardModel", "compare", "()V"⟩, 56), (⟨"DreamGuardModel", "goOnAnd", "()V"⟩, 56), (⟨"DreamGuardModel", "goOnOr", "()V"⟩, 56), (⟨"DreamGuardModel", "atEnd", "()I"⟩, 56), (⟨"DreamGuardModel", "takeFort", "()I"⟩, 56), (⟨"DreamGuardModel", "begin", "()V"⟩, 56), (⟨"DreamGuardModel", "of", "(II)I"⟩, 56), (⟨"DreamGuardModel", "isMan", "(I)Z"⟩, 56), (⟨"DreamGuardModel", "isHour", "(I)Z"⟩, 56), (⟨"DreamGuardModel", "isRefused", "(I)Z"⟩, 56), (⟨"DreamGuardModel", "keep", "()V"⟩, 56), (⟨"DreamGuardModel", "swapNow", "(II)V"⟩, 56), (⟨"DreamGuardModel", "areNights", "(I)Z"⟩, 56)]
theorem lw_r5 : ∀ q ∈ lw_privs_5, lw_okq q := List.forall_mem_cons.mpr ⟨lw_p64, List.forall_mem_cons.mpr ⟨lw_p65, List.forall_mem_cons.mpr ⟨lw_p66, List.forall_mem_cons.mpr ⟨lw_p67, List.forall_mem_cons.mpr ⟨lw_p68, List.forall_mem_cons.mpr ⟨lw_p69, List.forall_mem_cons.mpr ⟨lw_p70, List.forall_mem_cons.mpr ⟨lw_p71, List.forall_mem_cons.mpr ⟨lw_p72, List.forall_mem_cons.mpr ⟨lw_p73, List.forall_mem_cons.mpr ⟨lw_p74, List.forall_mem_cons.mpr ⟨lw_p75, List.forall_mem_cons.mpr ⟨lw_p76, List.forall_mem_cons.mpr ⟨lw_p77, List.forall_mem_cons.mpr ⟨lw_p78, List.forall_mem_cons.mpr ⟨lw_p79, fun _ h => absurd h List.not_mem_nil⟩⟩⟩⟩⟩⟩⟩⟩⟩⟩⟩⟩⟩⟩⟩⟩
theorem lw_p80 : lw_okq (⟨"DreamGuardModel", "passNight", "()V"⟩, 56) := ⟨⟨by decide +kernel, by decide +kernel⟩, List.mem_of_getElem? (i := 1150) (by decide +kernel), List.mem_of_getElem? (i := 1531) (by decide +kernel), List.mem_of_getElem? (i := 1532) (by decide +kernel)⟩
theorem lw_p81 : lw_okq (⟨"DreamGuardModel", "live", "()V"⟩, 56) := ⟨⟨by decide +kernel, by decide +kernel⟩, List.mem_of_getElem? (i := 1150) (by decide +kernel), List.mem_of_getElem? (i := 1535) (by decide +kernel), List.mem_of_getElem? (i := 1536) (by decide +kernel)⟩
theorem lw_p82 : lw_okq (⟨"DreamGuardModel", "layNight", "()V"⟩, 56) := ⟨⟨by decide +kernel, by decide +kernel⟩, List.mem_of_getElem? (i := 1150) (by decide +kernel), List.mem_of_getElem? (i := 1539) (by decide +kernel), List.mem_of_getElem? (i := 1540) (by decide +kernel)⟩
theorem lw_p83 : lw_okq (⟨"DreamGuardModel", "layHour", "(I)V"⟩, 56) := ⟨⟨by decide +kernel, by decide +kernel⟩, List.mem_of_getElem? (i := 1150) (by decide +kernel), List.mem_of_getElem? (i := 1543) (by decide +kernel), List.mem_of_getElem? (i := 1544) (by decide +kernel)⟩
theorem lw_p84 : lw_okq (⟨"DreamGuardModel", "isInBed", "(II)Z"⟩, 56) := ⟨⟨by decide +kernel, by decide +kernel⟩, List.mem_of_getElem? (i := 1150) (by decide +kernel), List.mem_of_getElem? (i := 1547) (by decide +kernel), List.mem_of_getElem? (i := 1548) (by decide +kernel)⟩
theorem lw_p85 : lw_okq (⟨"DreamGuardModel", "watcherOf", "(I)I"⟩, 56) := ⟨⟨by decide +kernel, by decide +kernel⟩, List.mem_of_getElem? (i := 1150) (by decide +kernel), List.mem_of_getElem? (i := 1551) (by decide +kernel), List.mem_of_getElem? (i := 1552) (by decide +kernel)⟩
theorem lw_p86 : lw_okq (⟨"DreamGuardModel", "manAt", "(I)I"⟩, 56) := ⟨⟨by decide +kernel, by decide +kernel⟩, List.mem_of_getElem? (i := 1150) (by decide +kernel), List.mem_of_getElem? (i := 1555) (by decide +kernel), List.mem_of_getElem? (i := 1556) (by decide +kernel)⟩
theorem lw_p87 : lw_okq (⟨"DreamGuardModel", "dreamOf", "(IIZ)I"⟩, 56) := ⟨⟨by decide +kernel, by decide +kernel⟩, List.mem_of_getElem? (i := 1150) (by decide +kernel), List.mem_of_getElem? (i := 1559) (by decide +kernel), List.mem_of_getElem? (i := 1560) (by decide +kernel)⟩
theorem lw_p88 : lw_okq (⟨"DreamGuardModel", "worthOf", "(I)I"⟩, 56) := ⟨⟨by decide +kernel, by decide +kernel⟩, List.mem_of_getElem? (i := 1150) (by decide +kernel), List.mem_of_getElem? (i := 1563) (by decide +kernel), List.mem_of_getElem? (i := 1564) (by decide +kernel)⟩
theorem lw_p89 : lw_okq (⟨"DreamGuardModel", "workOut", "(III)I"⟩, 56) := ⟨⟨by decide +kernel, by decide +kernel⟩, List.mem_of_getElem? (i := 1150) (by decide +kernel), List.mem_of_getElem? (i := 1567) (by decide +kernel), List.mem_of_getElem? (i := 1568) (by decide +kernel)⟩
theorem lw_p90 : lw_okq (⟨"DreamGuardModel", "draw", "(I)I"⟩, 56) := ⟨⟨by decide +kernel, by decide +kernel⟩, List.mem_of_getElem? (i := 1150) (by decide +kernel), List.mem_of_getElem? (i := 1595) (by decide +kernel), List.mem_of_getElem? (i := 1596) (by decide +kernel)⟩
theorem lw_p91 : lw_okq (⟨"DreamGuardModel", "awakeIn", "(I)I"⟩, 56) := ⟨⟨by decide +kernel, by decide +kernel⟩, List.mem_of_getElem? (i := 1150) (by decide +kernel), List.mem_of_getElem? (i := 1630) (by decide +kernel), List.mem_of_getElem? (i := 1631) (by decide +kernel)⟩
theorem lw_p92 : lw_okq (⟨"DreamGuardModel", "fewest", "()I"⟩, 56) := ⟨⟨by decide +kernel, by decide +kernel⟩, List.mem_of_getElem? (i := 1150) (by decide +kernel), List.mem_of_getElem? (i := 1638) (by decide +kernel), List.mem_of_getElem? (i := 1639) (by decide +kernel)⟩
theorem lw_p93 : lw_okq (⟨"DreamGuardModel", "tryBeds", "(III)V"⟩, 56) := ⟨⟨by decide +kernel, by decide +kernel⟩, List.mem_of_getElem? (i := 1150) (by decide +kernel), List.mem_of_getElem? (i := 1647) (by decide +kernel), List.mem_of_getElem? (i := 1648) (by decide +kernel)⟩
theorem lw_p94 : lw_okq (⟨"DreamGuardModel", "tryRow", "(II)V"⟩, 56) := ⟨⟨by decide +kernel, by decide +kernel⟩, List.mem_of_getElem? (i := 1150) (by decide +kernel), List.mem_of_getElem? (i := 1651) (by decide +kernel), List.mem_of_getElem? (i := 1652) (by decide +kernel)⟩
theorem lw_p95 : lw_okq (⟨"DreamGuardModel", "isGuarded", "(I)Z"⟩, 56) := ⟨⟨by decide +kernel, by decide +kernel⟩, List.mem_of_getElem? (i := 1150) (by decide +kernel), List.mem_of_getElem? (i := 1655) (by decide +kernel), List.mem_of_getElem? (i := 1656) (by decide +kernel)⟩
def lw_privs_6 : List (MethodName × Nat) := [(⟨"DreamGuardModel", "passNight", "()V"⟩, 56), (⟨"DreamGuardModel", "live", "()V"⟩, 56), (⟨"DreamGuardModel", "layNight", "()V"⟩, 56), (⟨"DreamGuardModel", "layHour", "(I)V"⟩, 56), (⟨"DreamGuardModel", "isInBed", "(II)Z"⟩, 56), (⟨"DreamGuardModel", "watcherOf", "(I)I"⟩, 56), (⟨"DreamGuardModel", "manAt", "(I)I"⟩, 56), (⟨"DreamGuardModel", "dreamOf", "(IIZ)I"⟩, 56), (⟨"DreamGuardModel", "worthOf", "(I)I"⟩, 56), (⟨"DreamGuardModel", "workOut", "(III)I"⟩, 56), (⟨"DreamGuardModel", "draw", "(I)I"⟩, 56), (⟨"DreamGuardModel", "awakeIn", "(I)I"⟩, 56), (⟨"DreamGuardModel", "fewest", "()I"⟩, 56), (⟨"DreamGuardModel", "tryBeds", "(III)V"⟩, 56), (⟨"DreamGuardModel", "tryRow", "(II)V"⟩, 56), (⟨"DreamGuardModel", "isGuarded", "(I)Z"⟩, 56)]
theorem lw_r6 : ∀ q ∈ lw_privs_6, lw_okq q := List.forall_mem_cons.mpr ⟨lw_p80, List.forall_mem_cons.mpr ⟨lw_p81, List.forall_mem_cons.mpr ⟨lw_p82, List.forall_mem_cons.mpr ⟨lw_p83, List.forall_mem_cons.mpr ⟨lw_p84, List.forall_mem_cons.mpr ⟨lw_p85, List.forall_mem_cons.mpr ⟨lw_p86, List.forall_mem_cons.mpr ⟨lw_p87, List.forall_mem_cons.mpr ⟨lw_p88, List.forall_mem_cons.mpr ⟨lw_p89, List.forall_mem_cons.mpr ⟨lw_p90, List.forall_mem_cons.mpr ⟨lw_p91, List.forall_mem_cons.mpr ⟨lw_p92, List.forall_mem_cons.mpr ⟨lw_p93, List.forall_mem_cons.mpr ⟨lw_p94, List.forall_mem_cons.mpr ⟨lw_p95, fun _ h => absurd h List.not_mem_nil⟩⟩⟩⟩⟩⟩⟩⟩⟩⟩⟩⟩⟩⟩⟩⟩
theorem lw_p96 : lw_okq (⟨"DreamGuardModel", "areApart", "(II)Z"⟩, 56) := ⟨⟨by decide +kernel, by decide +kernel⟩, List.mem_of_getElem? (i := 1150) (by decide +kernel), List.mem_of_getElem? (i := 1659) (by decide +kernel), List.mem_of_getElem? (i := 1660) (by decide +kernel)⟩
theorem lw_p97 : lw_okq (⟨"DreamGuardModel", "tryRingsFrom", "(I)V"⟩, 56) := ⟨⟨by decide +kernel, by decide +kernel⟩, List.mem_of_getElem? (i := 1150) (by decide +kernel), List.mem_of_getElem? (i := 1667) (by decide +kernel), List.mem_of_getElem? (i := 1668) (by decide +kernel)⟩
theorem lw_p98 : lw_okq (⟨"DreamGuardModel", "tryRings", "(III)V"⟩, 56) := ⟨⟨by decide +kernel, by decide +kernel⟩, List.mem_of_getElem? (i := 1150) (by decide +kernel), List.mem_of_getElem? (i := 1671) (by decide +kernel), List.mem_of_getElem? (i := 1672) (by decide +kernel)⟩
theorem lw_p99 : lw_okq (⟨"DreamGuardModel", "isMore", "(I)Z"⟩, 56) := ⟨⟨by decide +kernel, by decide +kernel⟩, List.mem_of_getElem? (i := 1150) (by decide +kernel), List.mem_of_getElem? (i := 1687) (by decide +kernel), List.mem_of_getElem? (i := 1688) (by decide +kernel)⟩
theorem lw_p100 : lw_okq (⟨"DreamGuardModel", "layTold", "(I)V"⟩, 56) := ⟨⟨by decide +kernel, by decide +kernel⟩, List.mem_of_getElem? (i := 1150) (by decide +kernel), List.mem_of_getElem? (i := 1691) (by decide +kernel), List.mem_of_getElem? (i := 1692) (by decide +kernel)⟩
theorem lw_p101 : lw_okq (⟨"DreamGuardModel", "isWho", "(I)Z"⟩, 56) := ⟨⟨by decide +kernel, by decide +kernel⟩, List.mem_of_getElem? (i := 1150) (by decide +kernel), List.mem_of_getElem? (i := 1695) (by decide +kernel), List.mem_of_getElem? (i := 1696) (by decide +kernel)⟩
theorem lw_p102 : lw_okq (⟨"DreamGuardModel", "isSo", "(I)Z"⟩, 56) := ⟨⟨by decide +kernel, by decide +kernel⟩, List.mem_of_getElem? (i := 1150) (by decide +kernel), List.mem_of_getElem? (i := 1699) (by decide +kernel), List.mem_of_getElem? (i := 1700) (by decide +kernel)⟩
theorem lw_p103 : lw_okq (⟨"DreamGuardModel", "areTwo", "(II)Z"⟩, 56) := ⟨⟨by decide +kernel, by decide +kernel⟩, List.mem_of_getElem? (i := 1150) (by decide +kernel), List.mem_of_getElem? (i := 1713) (by decide +kernel), List.mem_of_getElem? (i := 1714) (by decide +kernel)⟩
theorem lw_p104 : lw_okq (⟨"DreamGuardModel", "gameOf", "(IIII)I"⟩, 56) := ⟨⟨by decide +kernel, by decide +kernel⟩, List.mem_of_getElem? (i := 1150) (by decide +kernel), List.mem_of_getElem? (i := 1725) (by decide +kernel), List.mem_of_getElem? (i := 1726) (by decide +kernel)⟩
theorem lw_p105 : lw_okq (⟨"DreamGuardModel", "isRest", "(IIII)Z"⟩, 56) := ⟨⟨by decide +kernel, by decide +kernel⟩, List.mem_of_getElem? (i := 1150) (by decide +kernel), List.mem_of_getElem? (i := 1733) (by decide +kernel), List.mem_of_getElem? (i := 1734) (by decide +kernel)⟩
theorem lw_p106 : lw_okq (⟨"DreamGuardModel", "sumOf", "(I)I"⟩, 56) := ⟨⟨by decide +kernel, by decide +kernel⟩, List.mem_of_getElem? (i := 1150) (by decide +kernel), List.mem_of_getElem? (i := 1747) (by decide +kernel), List.mem_of_getElem? (i := 1748) (by decide +kernel)⟩
theorem lw_p107 : lw_okq (⟨"DreamGuardModel", "mostBy", "(II)I"⟩, 56) := ⟨⟨by decide +kernel, by decide +kernel⟩, List.mem_of_getElem? (i := 1150) (by decide +kernel), List.mem_of_getElem? (i := 1759) (by decide +kernel), List.mem_of_getElem? (i := 1760) (by decide +kernel)⟩
theorem lw_p108 : lw_okq (⟨"DreamGuardModel", "rested", "()I"⟩, 56) := ⟨⟨by decide +kernel, by decide +kernel⟩, List.mem_of_getElem? (i := 1150) (by decide +kernel), List.mem_of_getElem? (i := 1763) (by decide +kernel), List.mem_of_getElem? (i := 1764) (by decide +kernel)⟩
def lw_privs_7 : List (MethodName × Nat) := [(⟨"DreamGuardModel", "areApart", "(II)Z"⟩, 56), (⟨"DreamGuardModel", "tryRingsFrom", "(I)V"⟩, 56), (⟨"DreamGuardModel", "tryRings", "(III)V"⟩, 56), (⟨"DreamGuardModel", "isMore", "(I)Z"⟩, 56), (⟨"DreamGuardModel", "layTold", "(I)V"⟩, 56), (⟨"DreamGuardModel", "isWho", "(I)Z"⟩, 56), (⟨"DreamGuardModel", "isSo", "(I)Z"⟩, 56), (⟨"DreamGuardModel", "areTwo", "(II)Z"⟩, 56), (⟨"DreamGuardModel", "gameOf", "(IIII)I"⟩, 56), (⟨"DreamGuardModel", "isRest", "(IIII)Z"⟩, 56), (⟨"DreamGuardModel", "sumOf", "(I)I"⟩, 56), (⟨"DreamGuardModel", "mostBy", "(II)I"⟩, 56), (⟨"DreamGuardModel", "rested", "()I"⟩, 56)]
theorem lw_r7 : ∀ q ∈ lw_privs_7, lw_okq q := List.forall_mem_cons.mpr ⟨lw_p96, List.forall_mem_cons.mpr ⟨lw_p97, List.forall_mem_cons.mpr ⟨lw_p98, List.forall_mem_cons.mpr ⟨lw_p99, List.forall_mem_cons.mpr ⟨lw_p100, List.forall_mem_cons.mpr ⟨lw_p101, List.forall_mem_cons.mpr ⟨lw_p102, List.forall_mem_cons.mpr ⟨lw_p103, List.forall_mem_cons.mpr ⟨lw_p104, List.forall_mem_cons.mpr ⟨lw_p105, List.forall_mem_cons.mpr ⟨lw_p106, List.forall_mem_cons.mpr ⟨lw_p107, List.forall_mem_cons.mpr ⟨lw_p108, fun _ h => absurd h List.not_mem_nil⟩⟩⟩⟩⟩⟩⟩⟩⟩⟩⟩⟩⟩
def lw_privs : List (MethodName × Nat) := lw_privs_1 ++ (lw_privs_2 ++ (lw_privs_3 ++ (lw_privs_4 ++ (lw_privs_5 ++ (lw_privs_6 ++ (lw_privs_7))))))
def lw_tbl : List Cond := k2_sels lw_privs ++ tables_1
theorem lw_privs_ok : ∀ q ∈ lw_privs, lw_okq q := by
  show ∀ q ∈ lw_privs_1 ++ (lw_privs_2 ++ (lw_privs_3 ++ (lw_privs_4 ++ (lw_privs_5 ++ (lw_privs_6 ++ (lw_privs_7)))))), lw_okq q
  exact List.forall_mem_append.mpr ⟨lw_r1, List.forall_mem_append.mpr ⟨lw_r2, List.forall_mem_append.mpr ⟨lw_r3, List.forall_mem_append.mpr ⟨lw_r4, List.forall_mem_append.mpr ⟨lw_r5, List.forall_mem_append.mpr ⟨lw_r6, lw_r7⟩⟩⟩⟩⟩⟩
-- ===== end of PART A; then your names; then what follows =====
end
section
/-- the tables hold the class of arrays of arrays of ty (a word that the printed rows name and no text defines) -/
def va_AOA (ty : FieldType) (U : State) : Prop := (Cond.arrayOver (.array ty)).before #[] U = true
theorem va_AOA.of {ty : FieldType} {A : Array Value} {U : State} (h : (Cond.arrayOver (.array ty)).before A U = true) : va_AOA ty U := h
theorem va_AOA.use {ty : FieldType} {A : Array Value} {U : State} (h : va_AOA ty U) : (Cond.arrayOver (.array ty)).before A U = true := h
/-! ===== BEGIN words of one list among another's, by their places ===== -/
theorem goodIn_r {big : List Cond} (ws : List Cond) (ps : List Nat) (hp : ws = ps.filterMap (fun i => big[i]?)) (h : ws.all goodWord = true) : GoodIn big ws := by
  intro w hw
  have h1 := List.all_eq_true.mp h w hw
  rw [hp] at hw
  obtain ⟨i, -, hi⟩ := List.mem_filterMap.mp hw
  have hm : w ∈ big := by first | exact List.mem_of_getElem? hi | exact List.getElem?_mem hi
  exact ⟨hm, good_of_word h1⟩
theorem goodIn_app {big a b : List Cond} (ha : GoodIn big a) (hb : GoodIn big b) : GoodIn big (a ++ b) := fun w h => (List.mem_append.mp h).elim (ha w) (hb w)
theorem goodIn_ca {big a b : List Cond} {c : Cond} (ha : GoodIn big (c :: a)) (hb : GoodIn big b) : GoodIn big (c :: (a ++ b)) := fun w h => (List.mem_cons.mp h).elim (fun e => ha w (List.mem_cons.mpr (Or.inl e))) (fun h => (List.mem_append.mp h).elim (fun h => ha w (List.mem_cons.mpr (Or.inr h))) (hb w))
theorem goodIn_sub {big ws : List Cond} (hm : ∀ w ∈ ws, w ∈ big) (h : ws.all goodWord = true) : GoodIn big ws := fun w hw => ⟨hm w hw, good_of_word (List.all_eq_true.mp h w hw)⟩
/-! ===== END ===== -/

/-! ===== BEGIN new T[n][m]: the outer array a place, the inner ones among the pooled ===== -/
/-- f, but v at every address of l -/
def vr_up {α : Type} (f : Nat → α) (l : List Nat) (v : α) : Nat → α := fun a => if a ∈ l then v else f a
theorem vr_up_in {α : Type} {f : Nat → α} {l : List Nat} {v : α} {a : Nat} (h : a ∈ l) : vr_up f l v a = v := if_pos h
theorem vr_up_ne {α : Type} {f : Nat → α} {l : List Nat} {v : α} {a : Nat} (h : a ∉ l) : vr_up f l v a = f a := if_neg h
theorem vr_rows {L l : List Nat} {f : Nat → va_E} {e : va_E} (h : ∀ a, a ∈ l → a ∉ L) : va_pl L f ++ l.map (fun a => (a, e)) = va_pl (L ++ l) (vr_up f l e) := by
  unfold va_pl
  rw [List.map_append]
  congr 1
  · apply List.map_congr_left
    intro a ha
    rw [vr_up_ne (fun q => h a q ha)]
  · apply List.map_congr_left
    intro a ha
    rw [vr_up_in ha]
theorem vr_lay {X rows : va_W} {x : Nat × va_E} {pl : va_W} {D : va_G} {cl : List vw_C} {H : Heap} (hP : va_P D cl (((X ++ pl) ++ [x]) ++ rows) H) : va_P D cl ((X ++ [x]) ++ (pl ++ rows)) H := by
  rw [List.append_assoc (X ++ pl)] at hP
  have h := va_P.swap hP
  rw [← List.append_assoc X] at h
  have h2 := va_P.swap h
  rw [List.append_assoc (X ++ [x])] at h2
  exact h2
theorem vr_layD {X rows : va_W} {x : Nat × va_E} {pl : va_W} {A : Nat → Prop} (hD : va_D A (((X ++ pl) ++ [x]) ++ rows)) : va_D A ((X ++ [x]) ++ (pl ++ rows)) := by
  rw [List.append_assoc (X ++ pl)] at hD
  have h := va_D.swap hD
  rw [← List.append_assoc X] at h
  have h2 := va_D.swap h
  rw [List.append_assoc (X ++ [x])] at h2
  exact h2
theorem vr_outer (c : ClassId) (N h0 : Nat) : ∀ i : Nat, Jvm.Free.Multi.outerC c N h0 i = arrV c N (fun j => va_rf (if j < i then some (h0 + 1 + j) else none))
  | 0 => by
    show ({ cls := c, slots := Array.replicate N .null, vm := .none } : Cell) = _
    rw [arrV_new]
    refine congrArg (arrV c N) (funext fun j => ?_)
    simp [va_rf]
  | i + 1 => by
    show (Jvm.Free.Multi.outerC c N h0 i).setSlot i (.ref (h0 + 1 + i)) = _
    rw [vr_outer c N h0 i, arrV_store]
    refine congrArg (arrV c N) (funext fun j => ?_)
    by_cases e : j = i
    · subst e
      simp [updV, va_rf]
    · by_cases h : j < i
      · simp [updV, e, h, Nat.lt_succ_of_lt h]
      · simp [updV, e, h, show ¬ j < i + 1 by omega]
section VGM
variable {p : Program} {l : Launch} {e : Env} {R : Room} {s : State} {m : MethodId} {args : Array Value} {below : List Frame} {meth : Method} {c : Code} {H : Heap} {locs : List Loc} {cells slots : Nat} {Q : State → Prop}
variable {cc : ByteArray} {pc : Nat} {ls : Array Slot} {rest : List Value} {D : va_G} {cl : List vw_C} {A : Nat → Prop} {a : Nat} {tys : List (ClassId × FieldType)} {ws : va_W} {H0 : Heap}
theorem va_mna {X : va_W} {L : List Nat} {f : Nat → va_E} {cc : ByteArray} (hexec : p.tables.exec = Jvm.exec) (hb : c.code = cc) {own : String} {index : Nat} {ty : FieldType} {cy : ClassId} (hown : s.vm.findClass own = some m.cls) (hclink : (Cond.classLink own index ("[" ++ (FieldType.array ty).toString)).before args s = true) (hover : va_AOA ty s) (harr : (Cond.arrayClass ty).before args s = true) (hcy : s.vm.findClass (FieldType.array ty).toString = some cy)
    (hK : va_K D cl tys s) (hP : va_P D cl (X ++ va_pl L f) H) (hD : va_D A (X ++ va_pl L f)) (hS : va_S A H0 H locs) (hA : ∀ q, H0.size ≤ q → A q) {n k : Int32} {N' K' : Nat} {z : vp_A} (hn : ¬ n < 0) (hk : ¬ k < 0) (hN : n.toNatClampNeg = N') (hM : k.toNatClampNeg = K')
    (hb1 : N' * 4 ≤ 536870912) (hb2 : K' * componentBytes ty ≤ 536870912) (hb3 : K' ≤ 536870912) (hdf : fits ty (defaultValue ty) = true) (hdd : (defaultValue ty).isDefault = true) (hcells : cells + (1 + N') ≤ R.cells) (hslots : slots + (N' + N' * K') ≤ R.slots) (hz : ∀ c : ClassId, Jvm.Free.Multi.innerC c K' (defaultValue ty) = vp_cell c z) (hdg : decode cc pc = .ok (.multianewarray index 2, 4))
    (kk : ∀ (q : Nat) (r : Nat → Nat) (cA : ClassId) (H1 : Heap), (∀ i j : Nat, i < N' → j < N' → r i = r j → i = j) → (∀ i : Nat, i < N' → r i ∉ L) → va_K D cl (tys ++ [(cA, .array ty)]) s →
      va_P D cl ((X ++ [(q, .inl (cA, N', .inr (.inr (.inr (.inr (fun i => if i < N' then some (r i) else none))))))]) ++ va_pl (L ++ (List.range N').map r) (vr_up f ((List.range N').map r) (.inl (cy, z)))) H1 → va_D A ((X ++ [(q, .inl (cA, N', .inr (.inr (.inr (.inr (fun i => if i < N' then some (r i) else none))))))]) ++ va_pl (L ++ (List.range N').map r) (vr_up f ((List.range N').map r) (.inl (cy, z)))) → va_S A H0 H1 locs →
      W p l e R s m args below meth c H1 locs (cells + 1 + N') (slots + N' + N' * K') Q (F0 m (pc + 4) ls (.ref q :: rest))) : W p l e R s m args below meth c H locs cells slots Q (F0 m pc ls (.int k :: .int n :: rest)) := by
  subst hN
  subst hM
  intro T hT Xs
  obtain ⟨vm₁, cA, comp, -, fA, fC, hO, -, X', step⟩ := Xs.multianewarray2F hexec hown hclink (va_AOA.use hover) harr (g := F0 m pc ls (.int k :: .int n :: rest)) rfl (by rw [hb]; exact hdg) rfl hn hk hb1 hb2 hb3 hdf hdd hcells hslots
  have ec : some cy = some comp := hcy.symm.trans fC
  cases ec
  generalize hF : Jvm.Free.Multi.fill (T.setVm vm₁) cA cy n.toNatClampNeg k.toNatClampNeg (defaultValue ty) n.toNatClampNeg = F at X' step
  have hTh : (T.setVm vm₁).heap = H := hT
  obtain ⟨f1, f2, -, -⟩ := Jvm.Free.Multi.fill_facts (T.setVm vm₁) cA cy n.toNatClampNeg k.toNatClampNeg (defaultValue ty) n.toNatClampNeg
  rw [hF, hTh] at f1 f2
  have hold : ∀ x : Nat, x < H.size → F.heap[x]? = H[x]? := fun x hx => by
    have := Jvm.Free.Multi.fill_old (T.setVm vm₁) cA cy n.toNatClampNeg k.toNatClampNeg (defaultValue ty) (a := x) (by rw [hTh]; exact hx) n.toNatClampNeg
    rw [hF, hTh] at this
    exact this
  have hrow : ∀ j : Nat, j < n.toNatClampNeg → F.heap[H.size + 1 + j]? = some (vp_cell cy z) := fun j hj => by
    have := Jvm.Free.Multi.fill_inner (T.setVm vm₁) cA cy n.toNatClampNeg k.toNatClampNeg (defaultValue ty) n.toNatClampNeg j hj
    rw [hF, hTh, hz] at this
    exact this
  have hout : Jvm.Free.Multi.outerC cA n.toNatClampNeg H.size n.toNatClampNeg = vp_cell cA (n.toNatClampNeg, .inr (.inr (.inr (.inr (fun i => if i < n.toNatClampNeg then some (H.size + 1 + i) else none))))) := by
    rw [vp_cell_q]
    exact vr_outer cA n.toNatClampNeg H.size n.toNatClampNeg
  rw [hout] at f2
  have hlt : ∀ a, a ∈ L → a < H.size := fun a ha => by
    obtain ⟨k9, hk9⟩ := va_pl_get (X := X) (f := f) ha
    exact (hP k9 _ hk9).lt
  have hnl : ∀ i : Nat, i < n.toNatClampNeg → H.size + 1 + i ∉ L := fun i _ h => by
    have := hlt _ h
    omega
  have hnm : ∀ a, a ∈ (List.range n.toNatClampNeg).map (fun i => H.size + 1 + i) → a ∉ L := fun a ha h => by
    obtain ⟨i, -, rfl⟩ := List.mem_map.mp ha
    have := hlt _ h
    omega
  have hP0 : va_P D cl (X ++ va_pl L f) F.heap := hP.kept (fun k9 x hx => hold x.1 ((hP k9 x hx).lt))
  have hP1 : va_P D cl ((X ++ va_pl L f) ++ [(H.size, .inl (cA, n.toNatClampNeg, .inr (.inr (.inr (.inr (fun i => if i < n.toNatClampNeg then some (H.size + 1 + i) else none))))))]) F.heap := hP0.app (fun k9 x hx => by
    have h0 : k9 < 1 := (List.getElem?_eq_some_iff.mp hx).1
    rw [show k9 = 0 by omega] at hx
    cases hx
    exact f2)
  have hP2 : va_P D cl (((X ++ va_pl L f) ++ [(H.size, .inl (cA, n.toNatClampNeg, .inr (.inr (.inr (.inr (fun i => if i < n.toNatClampNeg then some (H.size + 1 + i) else none))))))]) ++ ((List.range n.toNatClampNeg).map (fun i => H.size + 1 + i)).map (fun a => (a, .inl (cy, z)))) F.heap := hP1.app (fun k9 x hx => by
    obtain ⟨a, ha, rfl⟩ := List.mem_map.mp (List.mem_of_getElem? hx)
    obtain ⟨i, hi, rfl⟩ := List.mem_map.mp ha
    exact hrow i (List.mem_range.mp hi))
  have hD2 : va_D A (((X ++ va_pl L f) ++ [(H.size, .inl (cA, n.toNatClampNeg, .inr (.inr (.inr (.inr (fun i => if i < n.toNatClampNeg then some (H.size + 1 + i) else none))))))]) ++ ((List.range n.toNatClampNeg).map (fun i => H.size + 1 + i)).map (fun a => (a, .inl (cy, z)))) := by
    have hD1 := hD.push (e := .inl (cA, n.toNatClampNeg, .inr (.inr (.inr (.inr (fun i => if i < n.toNatClampNeg then some (H.size + 1 + i) else none)))))) hP rfl (hA _ hS.1)
    generalize hW1 : (X ++ va_pl L f) ++ [(H.size, .inl (cA, n.toNatClampNeg, .inr (.inr (.inr (.inr (fun i => if i < n.toNatClampNeg then some (H.size + 1 + i) else none))))))] = W1 at hD1 hP1 ⊢
    have hle : ∀ (k9 : Nat) (x : Nat × va_E), W1[k9]? = some x → x.1 ≤ H.size := fun k9 x hx => by
      rw [← hW1] at hx
      by_cases hl : k9 < (X ++ va_pl L f).length
      · rw [List.getElem?_append_left hl] at hx
        exact Nat.le_of_lt ((hP k9 x hx).lt)
      · rw [List.getElem?_append_right (by omega)] at hx
        have h0 : k9 - (X ++ va_pl L f).length < 1 := (List.getElem?_eq_some_iff.mp hx).1
        rw [show k9 - (X ++ va_pl L f).length = 0 by omega] at hx
        cases hx
        exact Nat.le_refl _
    have hr : ∀ (k9 : Nat) (x : Nat × va_E), (((List.range n.toNatClampNeg).map (fun i => H.size + 1 + i)).map (fun a => ((a, .inl (cy, z)) : Nat × va_E)))[k9]? = some x → x.1 = H.size + 1 + k9 := fun k9 x hx => by
      rw [List.getElem?_map, List.getElem?_map] at hx
      by_cases h9 : k9 < n.toNatClampNeg
      · rw [List.getElem?_range h9] at hx
        cases hx
        rfl
      · have hn0 : (List.range n.toNatClampNeg)[k9]? = none := List.getElem?_eq_none (by rw [List.length_range]; omega)
        rw [hn0] at hx
        cases hx
    refine ⟨fun i j x y hi hj hxy => ?_, fun k9 x hx => ?_⟩
    · by_cases h1 : i < W1.length <;> by_cases h2 : j < W1.length
      · rw [List.getElem?_append_left h1] at hi
        rw [List.getElem?_append_left h2] at hj
        exact hD1.1 i j x y hi hj hxy
      · rw [List.getElem?_append_left h1] at hi
        rw [List.getElem?_append_right (by omega)] at hj
        have := hle _ _ hi
        have := hr _ _ hj
        omega
      · rw [List.getElem?_append_right (by omega)] at hi
        rw [List.getElem?_append_left h2] at hj
        have := hle _ _ hj
        have := hr _ _ hi
        omega
      · rw [List.getElem?_append_right (by omega)] at hi hj
        have := hr _ _ hi
        have := hr _ _ hj
        omega
    · by_cases h1 : k9 < W1.length
      · rw [List.getElem?_append_left h1] at hx
        exact hD1.2 k9 x hx
      · rw [List.getElem?_append_right (by omega)] at hx
        have := hr _ _ hx
        exact hA _ (by have := hS.1; omega)
  have hAr : ArrOfT s cA (.array ty) := fun N9 z9 => by
    obtain ⟨-, k9, hk9, cm9, hkk9⟩ := (hO 0 0 0).1
    exact ⟨(fun q hq => by cases hq), k9, hk9, cm9, hkk9⟩
  have hK2 : va_K D cl (tys ++ [(cA, .array ty)]) s := ⟨hK.1, fun k9 x hx => by
    by_cases hl : k9 < tys.length
    · rw [List.getElem?_append_left hl] at hx
      exact hK.2 k9 x hx
    · rw [List.getElem?_append_right (by omega)] at hx
      have h0 : k9 - tys.length < 1 := (List.getElem?_eq_some_iff.mp hx).1
      rw [show k9 - tys.length = 0 by omega] at hx
      cases hx
      exact ⟨hAr, fA⟩⟩
  obtain ⟨t, a1, b1⟩ := kk H.size (fun i => H.size + 1 + i) cA F.heap (fun i j _ _ h => by have h9 : H.size + 1 + i = H.size + 1 + j := h; omega) hnl hK2 (by rw [← vr_rows hnm]; exact vr_lay hP2) (by rw [← vr_rows hnm]; exact vr_layD hD2) ⟨by rw [f1]; have := hS.1; omega, fun x h1 h2 => (hold x (Nat.lt_of_lt_of_le h1 hS.1)).trans (hS.2.1 x h1 h2), hS.2.2⟩ F rfl X'
  refine ⟨t, step t ?_, b1⟩
  have e : T.heap.size = H.size := by rw [hT]
  rw [e]
  exact a1
end VGM
/-! ===== END ===== -/

/-! ===== BEGIN exceptions that leave a method, and their catching by the caller (launches without stack traces) ===== -/
section VXA
/-! The laws vx_back, vx_callV, vx_callS, vx_callSW, vx_throw0, vx_throwS follow proofs of the library, with one case more: JvmDerived/Free/Laws.lean (Back.of_free), Shelf42/LK1.lean (callV, callS), Shelf/KitTraced.lean (throwNew0V, throwNewS). -/
/-- where a method has thrown q: the class by its name, the cell, what was written, the world -/
def vx_T (XC : String → State → State → Prop) (st : State) (q : Addr) (t : State) (mc ms : Nat) (free : Addr → Prop) : Prop :=
  ∃ (E : String) (ce : Cell) (L : List Loc), XC E st t ∧ t.heap[q]? = some ce ∧ ce.vm = .none ∧ st.vm.findClass E = some ce.cls ∧ st.WarmedH t.vm ∧ st.sameButNew ({ t with vm := st.vm } : State) L mc ms ∧ ∀ z ∈ L, free z.base
def vx_Q (Qc : Array Value → State → Outcome → State → Prop) (XC : String → State → State → Prop) (mc ms : Nat) (free : Addr → Prop) : Array Value → State → Outcome → State → Prop := fun a st o t =>
  (Qc a st o t ∧ ∃ L, FrameEnd st o t L mc ms ∧ ∀ q ∈ L, free q.base) ∨ ∃ q, o = .threw q ∧ vx_T XC st q t mc ms free
/-- a callee that returns or throws -/
def vx_Met (l : Launch) (y : MethodName) (ws : List Cond) (rm : Room) (Pc : Array Value → State → Prop) (Qc : Array Value → State → Outcome → State → Prop) (XC : String → State → State → Prop) (mc ms : Nat) (free : Addr → Prop) : Prop :=
  MetFree l y (headSpec ws rm) Pc (fun _ _ _ _ _ => True) (vx_Q Qc XC mc ms free)
def vx_Post (XC : String → State → State → Prop) (mc ms : Nat) (free : Addr → Prop) : Pt → Array Value → Addr → Pt → Prop := fun A a q B =>
  ∃ (g : JFrame) (mk : MethodId) (t : State) (L : List Loc) (E : String) (ce : Cell), B.U.heap = t.heap ∧ B.U.vm = t.vm ∧ XC E (A.U.calling g mk a) t ∧ t.heap[q]? = some ce ∧ ce.vm = .none ∧ A.U.vm.findClass E = some ce.cls ∧ B.locs = A.locs ++ L ∧ (∀ z ∈ L, free z.base) ∧ B.cells = A.cells + mc ∧ B.slots = A.slots + ms
def vx_Back (l : Launch) (R : Room) (p : Program) (e : Env) (below : List Frame) (s : State) (sargs : Array Value) (y : MethodName) (len W9 : Nat)
    (Pre : Pt → Array Value → Prop) (Post : Pt → Array Value → Option Value → Pt → Prop) (PostX : Pt → Array Value → Addr → Pt → Prop) : Prop :=
  ∀ (m : MethodId) (meth : Method) (c : Code) (A : Pt) (g : JFrame) (ig : Instr) (mk : MethodId) (a : Array Value),
    Stand p l e R s m sargs below meth c A.U A.locs A.cells A.slots → g.method = m → g.locals.size = c.maxLocals → decode c.code g.pc = .ok (ig, len) →
    2 * g.monitorRoom + (g.stack.map fun v => v.category).sum ≤ W9 → A.U.methodNamed? y = some mk → Pre A a →
    (∃ (v : Option Value) (B : Pt), Stand p l e R s m sargs below meth c B.U B.locs B.cells B.slots ∧ Post A a v B ∧
      Steps p.tables e below (doInvoke e (A.U.setTop g) [] mk a).1 (B.U.setTop { g with pc := g.pc + len, stack := v.toList ++ g.stack })) ∨
    (∃ (q : Addr) (B : Pt), Stand p l e R s m sargs below meth c B.U B.locs B.cells B.slots ∧ PostX A a q B ∧
      Steps p.tables e below (doInvoke e (A.U.setTop g) [] mk a).1 ((B.U.setTop g).pushFrame (.throwing q)))
section Payer
variable {l : Launch} {R : Room} {p : Program} {e : Env} {below : List Frame} {s : State} {sargs : Array Value} {y : MethodName} {len W9 : Nat}
theorem vx_back {ws : List Cond} {rm : Room} {Pc : Array Value → State → Prop} {Qc : Array Value → State → Outcome → State → Prop} {XC : String → State → State → Prop} {mc ms : Nat} {free : Addr → Prop} {bytes : ByteArray} {maxL : Nat} {ret : Option FieldType}
    (hM : vx_Met l y ws rm Pc Qc XC mc ms free) (hblind : FrameBlind Pc) (hrc : rm.cells = mc) (hrs : rm.slots = ms)
    (hframes : rm.frames + 1 ≤ R.frames) (hlocals : W9 + (maxL + 11) + rm.locals ≤ R.locals)
    (hws : ∀ w ∈ ws, ∀ a' U, s.WarmedH U.vm → w.before a' U = true) (hcode : Cond.code y bytes maxL ret ∈ ws) (hinit : ∀ a' U, s.WarmedH U.vm → (Cond.initialized y.cls).before a' U = true) :
    vx_Back l R p e below s sargs y len W9 (PreOf R mc ms Pc) (PostOf Qc mc ms free) (vx_Post XC mc ms free) := by
  intro m meth c A g ig mk a X hg hsize hdg hW hn hp
  have h1 : (headSpec ws rm).pre.before a A.U = true := atoms_intro fun w hw => hws w hw _ _ X.warmed
  have h2 : (Cond.code y bytes maxL ret).before a A.U = true := hws _ hcode _ _ X.warmed
  have h3 : (Cond.initialized y.cls).before a A.U = true := hinit _ _ X.warmed
  have h4 : A.cells + (headSpec ws rm).room.cells ≤ R.cells := by rw [show (headSpec ws rm).room.cells = mc from hrc]; exact hp.1
  have h5 : A.slots + (headSpec ws rm).room.slots ≤ R.slots := by rw [show (headSpec ws rm).room.slots = ms from hrs]; exact hp.2.1
  have hPc : Pc a (A.U.calling g mk a) := hblind _ _ _ _ hp.2.2
  obtain ⟨U, Ls, c0, s0⟩ := A
  dsimp only [Pt.U, Pt.locs, Pt.cells, Pt.slots] at h1 h2 h3 h4 h5 X hn hPc ⊢
  obtain ⟨methY, cY, hmY, hcY, -, hlY, -, -, -, -⟩ := Cond.code_spec hn h2
  obtain ⟨kY, hkY, -⟩ := className_of_methodNamed hn
  have hinitY : kY.init = .initialized := Cond.initialized_spec (findClass_of_methodNamed hn) hkY h3
  have h : At U g.method c below := by rw [hg]; exact X.here
  have hlocals9 : W9 + (maxL + 11) + (headSpec ws rm).room.locals ≤ R.locals := hlocals
  have happ : (headSpec ws rm).appliesLoose y e.platform (U.calling g mk a) = true :=
    Spec.appliesLoose_calling (g := g) h hdg hn hkY hinitY
      (X.room_calling (g := g) (R' := (headSpec ws rm).room) hsize hmY hcY hframes (by rw [hlY]; omega) h4 h5) h1
  obtain ⟨mid, hmid⟩ := h.above
  have hfr : (U.setTop g).frames = (.java g :: mid) ++ below := by rw [State.frames_setTop' g h.top, hmid]; rfl
  obtain ⟨o, s₂, hsteps, -, hend, hq⟩ := Steps.callFree hM p X.admits X.cas X.clock (acts := []) hfr happ hPc trivial
  have hq' : vx_Q Qc XC mc ms free a (U.calling g mk a) o s₂ := hq
  rw [State.frames_setTop' g h.top] at hend
  obtain ⟨g₀, hg0⟩ := Option.isSome_iff_exists.mp h.top
  obtain ⟨r, hr⟩ := State.topJava?_eq_some.mp hg0
  have hr' : (({ U with heap := s₂.heap, slotsUsed := s₂.slotsUsed } : State).setVm s₂.vm).frames = .java g₀ :: r := hr
  rcases hq' with ⟨hqc, L, hfe, hL⟩ | ⟨q, rfl, E, ce, L, hx, hce, hcv, hcl, hW₂, hsm, hL⟩
  · obtain ⟨⟨v, rfl⟩, hW₂, e2, q2, q3, q4, q5, q6⟩ := id hfe
    have e3 : s₂ = ({ (U.calling g mk a).setFrames s₂.frames with heap := s₂.heap, slotsUsed := s₂.slotsUsed } : State).setVm s₂.vm := by
      have : s₂ = ({ s₂ with vm := (U.calling g mk a).vm } : State).setVm s₂.vm := rfl
      rw [e2] at this
      exact this
    obtain ⟨c₂, i₂, len₂, hc₂, hd₂, hf₂⟩ := hend
    have hW' : U.WarmedH s₂.vm := hW₂
    have hcc : c₂ = c := by
      have h1 : s₂.code? g.method = U.code? g.method := by
        rw [State.code?_eq, State.code?_eq, hW'.alike.method?]
      exact Option.some.inj (hc₂.symm.trans (h1.trans h.code))
    subst hcc
    have hlen : len₂ = len := by rw [hdg] at hd₂; cases hd₂; rfl
    subst hlen
    have hs₂ : s₂ = (({ U with heap := s₂.heap, slotsUsed := s₂.slotsUsed } : State).setVm s₂.vm).setTop { g with pc := g.pc + len₂, stack := v.toList ++ g.stack } := by
      refine e3.trans ?_
      rw [hf₂, State.calling_eq h.top, State.setFrames_setFrames, State.setTop_of_frames _ hr', hr]
      rfl
    have hsame : U.sameButNew ({ U with heap := s₂.heap, slotsUsed := s₂.slotsUsed } : State) L mc ms := by
      refine ⟨?_, q2, q3, q4, q5, q6⟩
      obtain ⟨t, ht, -⟩ := State.frames_cons hr
      show ({ U with heap := s₂.heap, slotsUsed := s₂.slotsUsed } : State) = { U.setFrames U.frames with heap := s₂.heap, slotsUsed := s₂.slotsUsed }
      rw [State.setFrames_self ht]
    subst hg
    refine Or.inl ⟨v, ⟨(({ U with heap := s₂.heap, slotsUsed := s₂.slotsUsed } : State).setVm s₂.vm), Ls ++ L, c0 + mc, s0 + ms⟩,
      ⟨X.admits, X.cas, X.clock, X.frames, X.room, X.hears, X.method, X.code, (X.here.setHeapUsed s₂.heap s₂.slotsUsed).setVm hW'.alike, X.tail, State.WarmedH.trans X.warmed hW', X.limits, X.bytes, X.same.trans (hsame.setVm s.vm)⟩,
      ⟨g, mk, s₂, L, rfl, rfl, hqc, rfl, hL, rfl, rfl⟩, ?_⟩
    show Steps p.tables e below _ ((({ U with heap := s₂.heap, slotsUsed := s₂.slotsUsed } : State).setVm s₂.vm).setTop { g with pc := g.pc + len₂, stack := v.toList ++ g.stack })
    rw [← hs₂]
    exact hsteps
  · obtain ⟨e2, q2, q3, q4, q5, q6⟩ := id hsm
    have e3 : s₂ = ({ (U.calling g mk a).setFrames s₂.frames with heap := s₂.heap, slotsUsed := s₂.slotsUsed } : State).setVm s₂.vm := by
      have : s₂ = ({ s₂ with vm := (U.calling g mk a).vm } : State).setVm s₂.vm := rfl
      rw [e2] at this
      exact this
    have hf₂ : s₂.frames = .throwing q :: .java g :: U.frames.tail := hend
    have hW' : U.WarmedH s₂.vm := hW₂
    have hs₂ : s₂ = ((({ U with heap := s₂.heap, slotsUsed := s₂.slotsUsed } : State).setVm s₂.vm).setTop g).pushFrame (.throwing q) := by
      refine e3.trans ?_
      rw [hf₂, State.calling_eq h.top, State.setFrames_setFrames, State.pushFrame, State.frames_setTop _ hr', State.setTop_of_frames _ hr', State.setFrames_setFrames, hr]
      rfl
    have hsame : U.sameButNew ({ U with heap := s₂.heap, slotsUsed := s₂.slotsUsed } : State) L mc ms := by
      refine ⟨?_, q2, q3, q4, q5, q6⟩
      obtain ⟨t, ht, -⟩ := State.frames_cons hr
      show ({ U with heap := s₂.heap, slotsUsed := s₂.slotsUsed } : State) = { U.setFrames U.frames with heap := s₂.heap, slotsUsed := s₂.slotsUsed }
      rw [State.setFrames_self ht]
    subst hg
    refine Or.inr ⟨q, ⟨(({ U with heap := s₂.heap, slotsUsed := s₂.slotsUsed } : State).setVm s₂.vm), Ls ++ L, c0 + mc, s0 + ms⟩,
      ⟨X.admits, X.cas, X.clock, X.frames, X.room, X.hears, X.method, X.code, (X.here.setHeapUsed s₂.heap s₂.slotsUsed).setVm hW'.alike, X.tail, State.WarmedH.trans X.warmed hW', X.limits, X.bytes, X.same.trans (hsame.setVm s.vm)⟩,
      ⟨g, mk, s₂, L, E, ce, rfl, rfl, hx, hce, hcv, hcl, rfl, hL, rfl, rfl⟩, ?_⟩
    show Steps p.tables e below _ (((({ U with heap := s₂.heap, slotsUsed := s₂.slotsUsed } : State).setVm s₂.vm).setTop g).pushFrame (.throwing q))
    rw [← hs₂]
    exact hsteps
end Payer
section Calls
variable {p : Program} {l : Launch} {e : Env} {R : Room} {s : State} {m : MethodId} {args : Array Value} {below : List Frame} {meth : Method} {c : Code} {T : State} {locs : List Loc} {cells slots : Nat}
theorem vx_callV (X : Stand p l e R s m args below meth c T locs cells slots) (hexec : p.tables.exec = Jvm.exec) {own C : String} {index : Nat} {y : MethodName} {bytes : ByteArray} {maxL : Nat} {ret : Option FieldType}
    (hown : s.vm.findClass own = some m.cls) (hlink : (Cond.methodLink own index y).before args s = true) (hinst : (Cond.instanceMethod y).before args s = true) (hsel : (Cond.selects C y y).before args s = true)
    (hcode : (Cond.code y bytes maxL ret).before args s = true) (hy : y.cls ≠ "java/lang/invoke/MethodHandle" ∧ y.cls ≠ "java/lang/invoke/VarHandle")
    {W9 : Nat} {Pre : Pt → Array Value → Prop} {Post : Pt → Array Value → Option Value → Pt → Prop} {PostX : Pt → Array Value → Addr → Pt → Prop} (hK : vx_Back l R p e below s args y 3 W9 Pre Post PostX)
    {b : Addr} {cellB : Cell} (hcell : T.heap[b]? = some cellB) (hobj : cellB.vm.isStatics = false) (hcls : s.vm.findClass C = some cellB.cls)
    {g : JFrame} (hg : g.method = m) (hsize : g.locals.size = c.maxLocals) {argsL rest : List Value} (hlen : ∀ sig, parseMethodDescriptor y.desc = some sig → argsL.length = sig.parameters.length)
    (hstack : g.stack = argsL.reverse ++ .ref b :: rest) (hW : 2 * g.monitorRoom + (rest.map fun v => v.category).sum ≤ W9) (hdg : decode c.code g.pc = .ok (.invokevirtual index, 3))
    (hpre : ∀ vm₁, s.WarmedH vm₁ → Pre ⟨T.setVm vm₁, locs, cells, slots⟩ (Value.ref b :: argsL).toArray) :
    (∃ (v : Option Value) (vm₁ : Vm) (B : Pt), s.WarmedH vm₁ ∧ Stand p l e R s m args below meth c B.U B.locs B.cells B.slots ∧ Post ⟨T.setVm vm₁, locs, cells, slots⟩ (Value.ref b :: argsL).toArray v B ∧
      ∀ target, Steps p.tables e below (B.U.setTop { g with pc := g.pc + 3, stack := v.toList ++ rest }) target → Steps p.tables e below (T.setTop g) target) ∨
    (∃ (q : Addr) (vm₁ : Vm) (B : Pt), s.WarmedH vm₁ ∧ Stand p l e R s m args below meth c B.U B.locs B.cells B.slots ∧ PostX ⟨T.setVm vm₁, locs, cells, slots⟩ (Value.ref b :: argsL).toArray q B ∧
      Steps p.tables e below (T.setTop g) ((B.U.setTop { g with stack := rest }).pushFrame (.throwing q))) := by
  obtain ⟨mk, methM, hnamed, hmethM, hstM, habM⟩ := Cond.instanceMethod_spec hinst
  obtain ⟨methM', cM, hmethM', -, -, -, -, -, -, hsigM⟩ := Cond.code_spec hnamed hcode
  cases hmethM.symm.trans hmethM'
  obtain ⟨c2, r2, m2, q1, q2, q3, q4, kP, hkP, hkPi⟩ := Cond.selects_spec hsel
  cases hcls.symm.trans q1
  cases (State.methodFound?_of_named hnamed hy).symm.trans q2
  cases hnamed.symm.trans q3
  have hselP : selectMethod e.platform s.vm cellB.cls mk = .method mk := by rw [Launch.admits_selectMethod X.admits]; exact q4
  obtain ⟨vm₁, X₁, hstep₁⟩ := X.invokevirtual hexec hown hlink hnamed hmethM hstM hkP hkPi hy (a := b) (cell := cellB) hcell
    (fun z h => by rw [h] at hobj; cases hobj) hselP hmethM habM hkP hkPi (g := g) hg (argsL := argsL) (rest := rest) (hlen _ hsigM) hstack hdg
  rcases hK m meth c ⟨T.setVm vm₁, locs, cells, slots⟩ { g with stack := rest } (.invokevirtual index) mk (Value.ref b :: argsL).toArray X₁ hg hsize hdg hW (X₁.named hnamed) (hpre vm₁ X₁.warmed) with ⟨v, B, X', hpost, hsteps⟩ | ⟨q, B, X', hpost, hsteps⟩
  · exact Or.inl ⟨v, vm₁, B, X₁.warmed, X', hpost, fun target h => hstep₁ _ fun acts => by rw [doInvoke_state]; exact hsteps.trans h⟩
  · exact Or.inr ⟨q, vm₁, B, X₁.warmed, X', hpost, hstep₁ _ fun acts => by rw [doInvoke_state]; exact hsteps⟩
theorem vx_callS (X : Stand p l e R s m args below meth c T locs cells slots) (hexec : p.tables.exec = Jvm.exec) {own : String} {index : Nat} {y : MethodName} {bytes : ByteArray} {maxL : Nat} {ret : Option FieldType}
    (hown : s.vm.findClass own = some m.cls) (hlink : (Cond.methodLink own index y).before args s = true) (hstat : (Cond.static y).before args s = true) (hinit : (Cond.initialized y.cls).before args s = true)
    (hcode : (Cond.code y bytes maxL ret).before args s = true) (hy : y.cls ≠ "java/lang/invoke/MethodHandle" ∧ y.cls ≠ "java/lang/invoke/VarHandle")
    {W9 : Nat} {Pre : Pt → Array Value → Prop} {Post : Pt → Array Value → Option Value → Pt → Prop} {PostX : Pt → Array Value → Addr → Pt → Prop} (hK : vx_Back l R p e below s args y 3 W9 Pre Post PostX)
    {g : JFrame} (hg : g.method = m) (hsize : g.locals.size = c.maxLocals) {argsL rest : List Value} (hlen : ∀ sig, parseMethodDescriptor y.desc = some sig → argsL.length = sig.parameters.length)
    (hstack : g.stack = argsL.reverse ++ rest) (hW : 2 * g.monitorRoom + (rest.map fun v => v.category).sum ≤ W9) (hdg : decode c.code g.pc = .ok (.invokestatic index, 3))
    (hpre : ∀ vm₁, s.WarmedH vm₁ → Pre ⟨T.setVm vm₁, locs, cells, slots⟩ argsL.toArray) :
    (∃ (v : Option Value) (vm₁ : Vm) (B : Pt), s.WarmedH vm₁ ∧ Stand p l e R s m args below meth c B.U B.locs B.cells B.slots ∧ Post ⟨T.setVm vm₁, locs, cells, slots⟩ argsL.toArray v B ∧
      ∀ target, Steps p.tables e below (B.U.setTop { g with pc := g.pc + 3, stack := v.toList ++ rest }) target → Steps p.tables e below (T.setTop g) target) ∨
    (∃ (q : Addr) (vm₁ : Vm) (B : Pt), s.WarmedH vm₁ ∧ Stand p l e R s m args below meth c B.U B.locs B.cells B.slots ∧ PostX ⟨T.setVm vm₁, locs, cells, slots⟩ argsL.toArray q B ∧
      Steps p.tables e below (T.setTop g) ((B.U.setTop { g with stack := rest }).pushFrame (.throwing q))) := by
  obtain ⟨mk, hnamed⟩ := Cond.code_named hcode
  obtain ⟨methM, cM, hmethM, -, -, -, -, -, -, hsigM⟩ := Cond.code_spec hnamed hcode
  have hstatic : methM.isStatic = true := Cond.static_spec hnamed hmethM hstat
  obtain ⟨kP, hkP, -⟩ := className_of_methodNamed hnamed
  have hinitP : kP.init = .initialized := Cond.initialized_spec (findClass_of_methodNamed hnamed) hkP hinit
  obtain ⟨vm₁, X₁, hstep₁⟩ := X.invokestatic hexec hown hlink hnamed hmethM hstatic hkP hinitP hy (g := g) hg (argsL := argsL) (rest := rest) (hlen _ hsigM) hstack hdg
  rcases hK m meth c ⟨T.setVm vm₁, locs, cells, slots⟩ { g with stack := rest } (.invokestatic index) mk argsL.toArray X₁ hg hsize hdg hW (X₁.named hnamed) (hpre vm₁ X₁.warmed) with ⟨v, B, X', hpost, hsteps⟩ | ⟨q, B, X', hpost, hsteps⟩
  · exact Or.inl ⟨v, vm₁, B, X₁.warmed, X', hpost, fun target h => hstep₁ _ fun acts => by rw [doInvoke_state]; exact hsteps.trans h⟩
  · exact Or.inr ⟨q, vm₁, B, X₁.warmed, X', hpost, hstep₁ _ fun acts => by rw [doInvoke_state]; exact hsteps⟩
end Calls
theorem vx_cls {s : State} {T : State} {vm₁ : Vm} {E : String} {k : ClassId} (hW : s.WarmedH vm₁) (h : (T.setVm vm₁).vm.findClass E = some k) : s.vm.findClass E = some k := by
  have h1 : vm₁.findClass E = some k := h
  rw [hW.alike.findClass] at h1
  exact h1
/-- the method's frame g, with q thrown over it -/
def vx_W (p : Program) (l : Launch) (e : Env) (R : Room) (s : State) (m : MethodId) (args : Array Value) (below : List Frame) (meth : Method) (c : Code) (H : Heap) (locs : List Loc) (cells slots : Nat) (Q : State → Prop) (g : JFrame) (q : Addr) : Prop :=
  ∀ T : State, T.heap = H → Stand p l e R s m args below meth c T locs cells slots → ∃ t, Steps p.tables e below ((T.setTop g).pushFrame (.throwing q)) t ∧ Q t
def vx_Run (p : Program) (l : Launch) (e : Env) (R : Room) (s : State) (m : MethodId) (args : Array Value) (below : List Frame) (meth : Method) (c : Code) (H : Heap) (locs : List Loc) (cells slots mc ms : Nat) (g : JFrame) (rest : List Value) (Qa : State → Outcome → State → Prop) (XC : String → State → State → Prop) (free : Addr → Prop) : Prop :=
  ∀ T : State, T.heap = H → Stand p l e R s m args below meth c T locs cells slots →
    (∃ (v : Option Value) (st₀ t T' : State) (L : List Loc), st₀.heap = H ∧ Stand p l e R s m args below meth c T' (locs ++ L) (cells + mc) (slots + ms) ∧ (∀ q ∈ L, free q.base) ∧ T'.heap = t.heap ∧ T'.vm = t.vm ∧ Qa st₀ (.returned v) t ∧
      Goes p e below T g T' { g with pc := g.pc + 3, stack := v.toList ++ rest }) ∨
    (∃ (q : Addr) (st₀ t T' : State) (L : List Loc) (E : String) (ce : Cell), st₀.heap = H ∧ Stand p l e R s m args below meth c T' (locs ++ L) (cells + mc) (slots + ms) ∧ (∀ z ∈ L, free z.base) ∧ T'.heap = t.heap ∧ T'.vm = t.vm ∧ XC E st₀ t ∧ t.heap[q]? = some ce ∧ ce.vm = .none ∧ s.vm.findClass E = some ce.cls ∧
      Steps p.tables e below (T.setTop g) ((T'.setTop { g with stack := rest }).pushFrame (.throwing q)))
def vx_X {S : Type} (px : S → Prop) (B : String → S → State → Prop) (A : Nat → Prop) : String → State → State → Prop := fun E st t => ∃ u : S, px u ∧ B E u t ∧ va_F A st t
section Runs
variable {p : Program} {l : Launch} {e : Env} {R : Room} {s : State} {m : MethodId} {args : Array Value} {below : List Frame} {meth : Method} {c : Code} {H : Heap} {locs : List Loc} {cells slots : Nat}
variable {y : MethodName} {bytes cc : ByteArray} {maxL nL mc ms n index : Nat} {ret : Option FieldType} {ws : List Cond} {rm : Room} {Pc : Array Value → State → Prop} {Qc : Array Value → State → Outcome → State → Prop} {XC : String → State → State → Prop} {free : Addr → Prop} {Ts : List Cond} {own C : String} {b : Addr} {As rest : List Value} {g : JFrame}
theorem vx_callBack (cb : CallB R s args own index y bytes maxL ret ws rm mc ms n) (hM : vx_Met l y ws rm Pc Qc XC mc ms free) (hbl : FrameBlind Pc) : vx_Back l R p e below s args y 3 8 (PreOf R mc ms Pc) (PostOf Qc mc ms free) (vx_Post XC mc ms free) := by
  obtain ⟨hrc, hrs, hfr, hlo, hws, hcw, -, hini, -⟩ := cb
  exact vx_back (bytes := bytes) (maxL := maxL) (ret := ret) hM hbl hrc hrs hfr hlo hws hcw (fun a' U hW => word_at hW (Or.inl (by first | rfl | simp [Cond.onTables, Cond.keeps, Cond.steady])) hini)
theorem vx_runV (S : CallFix p m c cc nL s args Ts own) (hM : vx_Met l y ws rm Pc Qc XC mc ms free) (cw : CallW R s args own C index y bytes maxL ret ws rm mc ms n) (hp : PreV s H C b Pc As)
    (hg : g.method = m) (hn : As.length = n) (hsize : g.locals.size = nL) (hstack : g.stack = As.reverse ++ .ref b :: rest) (hW : 2 * g.monitorRoom + (rest.map fun v => v.category).sum ≤ 8) (hdg : decode cc g.pc = .ok (.invokevirtual index, 3)) (hf : cells + mc ≤ R.cells ∧ slots + ms ≤ R.slots) :
    vx_Run p l e R s m args below meth c H locs cells slots mc ms g rest (Qc (Value.ref b :: As).toArray) XC free := by
  have hK : vx_Back l R p e below s args y 3 8 (PreOf R mc ms Pc) (PostOf Qc mc ms free) (vx_Post XC mc ms free) := vx_callBack cw.1 hM hp.1
  obtain ⟨⟨-, -, -, -, -, -, hcode, -, hy, hlen, hl⟩, hin, hse⟩ := cw
  obtain ⟨hx, hb, hml, ho, -⟩ := S
  obtain ⟨-, ⟨cellB, hcB, hoB, hclB⟩, hPc⟩ := hp
  intro T hT X
  rcases vx_callV X hx (C := C) (bytes := bytes) (maxL := maxL) (ret := ret) ho hl hin hse hcode hy hK (by rw [hT]; exact hcB) hoB hclB hg (hsize.trans hml.symm) (argsL := As) (rest := rest) (fun sig h => hn.trans (hlen sig h)) hstack hW (by rw [hb]; exact hdg)
    (fun vm₁ hW₁ => ⟨hf.1, hf.2, hPc (T.setVm vm₁) hT hW₁⟩) with ⟨v, vm₁, ⟨U', l2, c2, s2⟩, hW₁, X', ⟨g', mk, t, L, e1, e2, hq, h1, hL, h2, h3⟩, st⟩ | ⟨q, vm₁, ⟨U', l2, c2, s2⟩, hW₁, X', ⟨g', mk, t, L, E, ce, e1, e2, hq, hce, hcv, hcl, h1, hL, h2, h3⟩, st⟩
  · dsimp only [Pt.U, Pt.locs, Pt.cells, Pt.slots] at X' e1 e2 h1 h2 h3 st
    subst h1; subst h2; subst h3
    exact Or.inl ⟨v, (T.setVm vm₁).calling g' mk (Value.ref b :: As).toArray, t, U', L, hT, X', hL, e1, e2, hq, st⟩
  · dsimp only [Pt.U, Pt.locs, Pt.cells, Pt.slots] at X' e1 e2 h1 h2 h3 st hcl
    subst h1; subst h2; subst h3
    exact Or.inr ⟨q, (T.setVm vm₁).calling g' mk (Value.ref b :: As).toArray, t, U', L, E, ce, hT, X', hL, e1, e2, hq, hce, hcv, vx_cls hW₁ hcl, st⟩
theorem vx_runS (S : CallFix p m c cc nL s args Ts own) (hM : vx_Met l y ws rm Pc Qc XC mc ms free) (cw : CallB R s args own index y bytes maxL ret ws rm mc ms n ∧ (Cond.static y).before args s = true) (hp : PreS s H Pc As)
    (hg : g.method = m) (hn : As.length = n) (hsize : g.locals.size = nL) (hstack : g.stack = As.reverse ++ rest) (hW : 2 * g.monitorRoom + (rest.map fun v => v.category).sum ≤ 8) (hdg : decode cc g.pc = .ok (.invokestatic index, 3)) (hf : cells + mc ≤ R.cells ∧ slots + ms ≤ R.slots) :
    vx_Run p l e R s m args below meth c H locs cells slots mc ms g rest (Qc As.toArray) XC free := by
  have hK : vx_Back l R p e below s args y 3 8 (PreOf R mc ms Pc) (PostOf Qc mc ms free) (vx_Post XC mc ms free) := vx_callBack cw.1 hM hp.1
  obtain ⟨⟨-, -, -, -, -, -, hcode, hini, hy, hlen, hl⟩, hstt⟩ := cw
  obtain ⟨hx, hb, hml, ho, -⟩ := S
  intro T hT X
  rcases vx_callS X hx (bytes := bytes) (maxL := maxL) (ret := ret) ho hl hstt hini hcode hy hK hg (hsize.trans hml.symm) (argsL := As) (rest := rest) (fun sig h => hn.trans (hlen sig h)) hstack hW (by rw [hb]; exact hdg)
    (fun vm₁ hW₁ => ⟨hf.1, hf.2, hp.2 (T.setVm vm₁) hT hW₁⟩) with ⟨v, vm₁, ⟨U', l2, c2, s2⟩, hW₁, X', ⟨g', mk, t, L, e1, e2, hq, h1, hL, h2, h3⟩, st⟩ | ⟨q, vm₁, ⟨U', l2, c2, s2⟩, hW₁, X', ⟨g', mk, t, L, E, ce, e1, e2, hq, hce, hcv, hcl, h1, hL, h2, h3⟩, st⟩
  · dsimp only [Pt.U, Pt.locs, Pt.cells, Pt.slots] at X' e1 e2 h1 h2 h3 st
    subst h1; subst h2; subst h3
    exact Or.inl ⟨v, (T.setVm vm₁).calling g' mk As.toArray, t, U', L, hT, X', hL, e1, e2, hq, st⟩
  · dsimp only [Pt.U, Pt.locs, Pt.cells, Pt.slots] at X' e1 e2 h1 h2 h3 st hcl
    subst h1; subst h2; subst h3
    exact Or.inr ⟨q, (T.setVm vm₁).calling g' mk As.toArray, t, U', L, E, ce, hT, X', hL, e1, e2, hq, hce, hcv, vx_cls hW₁ hcl, st⟩
end Runs
section Rows
variable {p : Program} {l : Launch} {e : Env} {R : Room} {s : State} {m : MethodId} {args : Array Value} {below : List Frame} {meth : Method} {c : Code} {H : Heap} {locs : List Loc} {cells slots : Nat} {Q : State → Prop}
variable {mc ms : Nat} {free : Addr → Prop} {A0 A1 : Nat → Prop} {H0 : Heap} {a : Array Value} {pc : Nat} {ls : Array Slot} {st0 rest : List Value}
theorem vx_keep {st₀ t T' : State} {L : List Loc} (h0 : st₀.heap = H) (e1 : T'.heap = t.heap) (hS : va_S A0 H0 H locs) (hA : ∀ q, q < H.size → A1 q → A0 q) (hf : ∀ q, free q → A0 q) (hL : ∀ q ∈ L, free q.base) (hF : va_F A1 st₀ t) :
    H.size ≤ T'.heap.size ∧ (∀ q : Nat, q < H.size → ¬ A1 q → T'.heap[q]? = H[q]?) ∧ va_S A0 H0 T'.heap (locs ++ L) := by
  obtain ⟨hz, hk⟩ := hF
  rw [h0] at hz hk
  exact ⟨by rw [e1]; exact hz, fun q h1 h2 => by rw [e1]; exact hk q h1 h2,
    ⟨Nat.le_trans hS.1 (by rw [e1]; exact hz), fun q h1 h2 => by rw [e1, hk q (Nat.lt_of_lt_of_le h1 hS.1) (fun z => h2 (hA q (Nat.lt_of_lt_of_le h1 hS.1) z))]; exact hS.2.1 q h1 h2, fun q hq => by
      rcases List.mem_append.mp hq with h | h
      · exact hS.2.2 q h
      · exact hf _ (hL q h)⟩⟩
theorem vx_calli {S SX : Type} {post : Int32 → S → Prop} {px : SX → Prop} {B : S → State → Prop} {BX : String → SX → State → Prop} {AX : Nat → Prop} (hr : vx_Run p l e R s m args below meth c H locs cells slots mc ms (F0 m pc ls st0) rest (va_Qi post B A1 a) (vx_X px BX AX) free) (hS : va_S A0 H0 H locs) (hA : ∀ q, q < H.size → A1 q → A0 q) (hf : ∀ q, free q → A0 q) (hAX : ∀ q, q < H.size → AX q → A0 q)
    (kx : ∀ (E : String) (ce : Cell) (q9 : Addr) (u : SX) (t : State) (H1 : Heap) (locs1 : List Loc), t.heap = H1 → s.vm.Alike t.vm → px u → BX E u t → H.size ≤ H1.size → (∀ q : Nat, q < H.size → ¬ AX q → H1[q]? = H[q]?) → va_S A0 H0 H1 locs1 → H1[q9]? = some ce → ce.vm = .none → s.vm.findClass E = some ce.cls → vx_W p l e R s m args below meth c H1 locs1 (cells + mc) (slots + ms) Q (F0 m pc ls rest) q9)
    (kk : ∀ (r : Int32) (u : S) (t : State) (H1 : Heap) (locs1 : List Loc), t.heap = H1 → s.vm.Alike t.vm → post r u → B u t → H.size ≤ H1.size → (∀ q : Nat, q < H.size → ¬ A1 q → H1[q]? = H[q]?) → va_S A0 H0 H1 locs1 → W p l e R s m args below meth c H1 locs1 (cells + mc) (slots + ms) Q (F0 m (pc + 3) ls (.int r :: rest))) : W p l e R s m args below meth c H locs cells slots Q (F0 m pc ls st0) := by
  intro T hT X
  rcases hr T hT X with ⟨v, st₀, t, T', L, h0, X', hL, e1, e2, ⟨⟨r, u, hv, hp, hb⟩, hF⟩, st⟩ | ⟨q, st₀, t, T', L, E, ce, h0, X', hL, e1, e2, ⟨u, hp, hb, hF⟩, hce, hcv, hcl, st⟩
  · cases hv
    obtain ⟨k1, k2, k3⟩ := vx_keep h0 e1 hS hA hf hL hF
    obtain ⟨t2, a1, b1⟩ := kk r u t T'.heap (locs ++ L) e1.symm (by rw [← e2]; exact X'.warmed.alike) hp hb k1 k2 k3 T' rfl X'
    exact ⟨t2, st t2 a1, b1⟩
  · obtain ⟨k1, k2, k3⟩ := vx_keep h0 e1 hS hAX hf hL hF
    obtain ⟨t2, a1, b1⟩ := kx E ce q u t T'.heap (locs ++ L) e1.symm (by rw [← e2]; exact X'.warmed.alike) hp hb k1 k2 k3 (by rw [e1]; exact hce) hcv hcl T' rfl X'
    exact ⟨t2, st.trans a1, b1⟩
theorem vx_calll {S SX : Type} {post : Int64 → S → Prop} {px : SX → Prop} {B : S → State → Prop} {BX : String → SX → State → Prop} {AX : Nat → Prop} (hr : vx_Run p l e R s m args below meth c H locs cells slots mc ms (F0 m pc ls st0) rest (va_Ql post B A1 a) (vx_X px BX AX) free) (hS : va_S A0 H0 H locs) (hA : ∀ q, q < H.size → A1 q → A0 q) (hf : ∀ q, free q → A0 q) (hAX : ∀ q, q < H.size → AX q → A0 q)
    (kx : ∀ (E : String) (ce : Cell) (q9 : Addr) (u : SX) (t : State) (H1 : Heap) (locs1 : List Loc), t.heap = H1 → s.vm.Alike t.vm → px u → BX E u t → H.size ≤ H1.size → (∀ q : Nat, q < H.size → ¬ AX q → H1[q]? = H[q]?) → va_S A0 H0 H1 locs1 → H1[q9]? = some ce → ce.vm = .none → s.vm.findClass E = some ce.cls → vx_W p l e R s m args below meth c H1 locs1 (cells + mc) (slots + ms) Q (F0 m pc ls rest) q9)
    (kk : ∀ (r : Int64) (u : S) (t : State) (H1 : Heap) (locs1 : List Loc), t.heap = H1 → s.vm.Alike t.vm → post r u → B u t → H.size ≤ H1.size → (∀ q : Nat, q < H.size → ¬ A1 q → H1[q]? = H[q]?) → va_S A0 H0 H1 locs1 → W p l e R s m args below meth c H1 locs1 (cells + mc) (slots + ms) Q (F0 m (pc + 3) ls (.long r :: rest))) : W p l e R s m args below meth c H locs cells slots Q (F0 m pc ls st0) := by
  intro T hT X
  rcases hr T hT X with ⟨v, st₀, t, T', L, h0, X', hL, e1, e2, ⟨⟨r, u, hv, hp, hb⟩, hF⟩, st⟩ | ⟨q, st₀, t, T', L, E, ce, h0, X', hL, e1, e2, ⟨u, hp, hb, hF⟩, hce, hcv, hcl, st⟩
  · cases hv
    obtain ⟨k1, k2, k3⟩ := vx_keep h0 e1 hS hA hf hL hF
    obtain ⟨t2, a1, b1⟩ := kk r u t T'.heap (locs ++ L) e1.symm (by rw [← e2]; exact X'.warmed.alike) hp hb k1 k2 k3 T' rfl X'
    exact ⟨t2, st t2 a1, b1⟩
  · obtain ⟨k1, k2, k3⟩ := vx_keep h0 e1 hS hAX hf hL hF
    obtain ⟨t2, a1, b1⟩ := kx E ce q u t T'.heap (locs ++ L) e1.symm (by rw [← e2]; exact X'.warmed.alike) hp hb k1 k2 k3 (by rw [e1]; exact hce) hcv hcl T' rfl X'
    exact ⟨t2, st.trans a1, b1⟩
theorem vx_callf {S SX : Type} {post : UInt32 → S → Prop} {px : SX → Prop} {B : S → State → Prop} {BX : String → SX → State → Prop} {AX : Nat → Prop} (hr : vx_Run p l e R s m args below meth c H locs cells slots mc ms (F0 m pc ls st0) rest (va_Qf post B A1 a) (vx_X px BX AX) free) (hS : va_S A0 H0 H locs) (hA : ∀ q, q < H.size → A1 q → A0 q) (hf : ∀ q, free q → A0 q) (hAX : ∀ q, q < H.size → AX q → A0 q)
    (kx : ∀ (E : String) (ce : Cell) (q9 : Addr) (u : SX) (t : State) (H1 : Heap) (locs1 : List Loc), t.heap = H1 → s.vm.Alike t.vm → px u → BX E u t → H.size ≤ H1.size → (∀ q : Nat, q < H.size → ¬ AX q → H1[q]? = H[q]?) → va_S A0 H0 H1 locs1 → H1[q9]? = some ce → ce.vm = .none → s.vm.findClass E = some ce.cls → vx_W p l e R s m args below meth c H1 locs1 (cells + mc) (slots + ms) Q (F0 m pc ls rest) q9)
    (kk : ∀ (r : UInt32) (u : S) (t : State) (H1 : Heap) (locs1 : List Loc), t.heap = H1 → s.vm.Alike t.vm → post r u → B u t → H.size ≤ H1.size → (∀ q : Nat, q < H.size → ¬ A1 q → H1[q]? = H[q]?) → va_S A0 H0 H1 locs1 → W p l e R s m args below meth c H1 locs1 (cells + mc) (slots + ms) Q (F0 m (pc + 3) ls (.float r :: rest))) : W p l e R s m args below meth c H locs cells slots Q (F0 m pc ls st0) := by
  intro T hT X
  rcases hr T hT X with ⟨v, st₀, t, T', L, h0, X', hL, e1, e2, ⟨⟨r, u, hv, hp, hb⟩, hF⟩, st⟩ | ⟨q, st₀, t, T', L, E, ce, h0, X', hL, e1, e2, ⟨u, hp, hb, hF⟩, hce, hcv, hcl, st⟩
  · cases hv
    obtain ⟨k1, k2, k3⟩ := vx_keep h0 e1 hS hA hf hL hF
    obtain ⟨t2, a1, b1⟩ := kk r u t T'.heap (locs ++ L) e1.symm (by rw [← e2]; exact X'.warmed.alike) hp hb k1 k2 k3 T' rfl X'
    exact ⟨t2, st t2 a1, b1⟩
  · obtain ⟨k1, k2, k3⟩ := vx_keep h0 e1 hS hAX hf hL hF
    obtain ⟨t2, a1, b1⟩ := kx E ce q u t T'.heap (locs ++ L) e1.symm (by rw [← e2]; exact X'.warmed.alike) hp hb k1 k2 k3 (by rw [e1]; exact hce) hcv hcl T' rfl X'
    exact ⟨t2, st.trans a1, b1⟩
theorem vx_calld {S SX : Type} {post : UInt64 → S → Prop} {px : SX → Prop} {B : S → State → Prop} {BX : String → SX → State → Prop} {AX : Nat → Prop} (hr : vx_Run p l e R s m args below meth c H locs cells slots mc ms (F0 m pc ls st0) rest (va_Qd post B A1 a) (vx_X px BX AX) free) (hS : va_S A0 H0 H locs) (hA : ∀ q, q < H.size → A1 q → A0 q) (hf : ∀ q, free q → A0 q) (hAX : ∀ q, q < H.size → AX q → A0 q)
    (kx : ∀ (E : String) (ce : Cell) (q9 : Addr) (u : SX) (t : State) (H1 : Heap) (locs1 : List Loc), t.heap = H1 → s.vm.Alike t.vm → px u → BX E u t → H.size ≤ H1.size → (∀ q : Nat, q < H.size → ¬ AX q → H1[q]? = H[q]?) → va_S A0 H0 H1 locs1 → H1[q9]? = some ce → ce.vm = .none → s.vm.findClass E = some ce.cls → vx_W p l e R s m args below meth c H1 locs1 (cells + mc) (slots + ms) Q (F0 m pc ls rest) q9)
    (kk : ∀ (r : UInt64) (u : S) (t : State) (H1 : Heap) (locs1 : List Loc), t.heap = H1 → s.vm.Alike t.vm → post r u → B u t → H.size ≤ H1.size → (∀ q : Nat, q < H.size → ¬ A1 q → H1[q]? = H[q]?) → va_S A0 H0 H1 locs1 → W p l e R s m args below meth c H1 locs1 (cells + mc) (slots + ms) Q (F0 m (pc + 3) ls (.double r :: rest))) : W p l e R s m args below meth c H locs cells slots Q (F0 m pc ls st0) := by
  intro T hT X
  rcases hr T hT X with ⟨v, st₀, t, T', L, h0, X', hL, e1, e2, ⟨⟨r, u, hv, hp, hb⟩, hF⟩, st⟩ | ⟨q, st₀, t, T', L, E, ce, h0, X', hL, e1, e2, ⟨u, hp, hb, hF⟩, hce, hcv, hcl, st⟩
  · cases hv
    obtain ⟨k1, k2, k3⟩ := vx_keep h0 e1 hS hA hf hL hF
    obtain ⟨t2, a1, b1⟩ := kk r u t T'.heap (locs ++ L) e1.symm (by rw [← e2]; exact X'.warmed.alike) hp hb k1 k2 k3 T' rfl X'
    exact ⟨t2, st t2 a1, b1⟩
  · obtain ⟨k1, k2, k3⟩ := vx_keep h0 e1 hS hAX hf hL hF
    obtain ⟨t2, a1, b1⟩ := kx E ce q u t T'.heap (locs ++ L) e1.symm (by rw [← e2]; exact X'.warmed.alike) hp hb k1 k2 k3 (by rw [e1]; exact hce) hcv hcl T' rfl X'
    exact ⟨t2, st.trans a1, b1⟩
theorem vx_callv {S SX : Type} {post : S → Prop} {px : SX → Prop} {B : S → State → Prop} {BX : String → SX → State → Prop} {AX : Nat → Prop} (hr : vx_Run p l e R s m args below meth c H locs cells slots mc ms (F0 m pc ls st0) rest (va_Qv post B A1 a) (vx_X px BX AX) free) (hS : va_S A0 H0 H locs) (hA : ∀ q, q < H.size → A1 q → A0 q) (hf : ∀ q, free q → A0 q) (hAX : ∀ q, q < H.size → AX q → A0 q)
    (kx : ∀ (E : String) (ce : Cell) (q9 : Addr) (u : SX) (t : State) (H1 : Heap) (locs1 : List Loc), t.heap = H1 → s.vm.Alike t.vm → px u → BX E u t → H.size ≤ H1.size → (∀ q : Nat, q < H.size → ¬ AX q → H1[q]? = H[q]?) → va_S A0 H0 H1 locs1 → H1[q9]? = some ce → ce.vm = .none → s.vm.findClass E = some ce.cls → vx_W p l e R s m args below meth c H1 locs1 (cells + mc) (slots + ms) Q (F0 m pc ls rest) q9)
    (kk : ∀ (u : S) (t : State) (H1 : Heap) (locs1 : List Loc), t.heap = H1 → s.vm.Alike t.vm → post u → B u t → H.size ≤ H1.size → (∀ q : Nat, q < H.size → ¬ A1 q → H1[q]? = H[q]?) → va_S A0 H0 H1 locs1 → W p l e R s m args below meth c H1 locs1 (cells + mc) (slots + ms) Q (F0 m (pc + 3) ls (rest))) : W p l e R s m args below meth c H locs cells slots Q (F0 m pc ls st0) := by
  intro T hT X
  rcases hr T hT X with ⟨v, st₀, t, T', L, h0, X', hL, e1, e2, ⟨⟨u, hv, hp, hb⟩, hF⟩, st⟩ | ⟨q, st₀, t, T', L, E, ce, h0, X', hL, e1, e2, ⟨u, hp, hb, hF⟩, hce, hcv, hcl, st⟩
  · cases hv
    obtain ⟨k1, k2, k3⟩ := vx_keep h0 e1 hS hA hf hL hF
    obtain ⟨t2, a1, b1⟩ := kk u t T'.heap (locs ++ L) e1.symm (by rw [← e2]; exact X'.warmed.alike) hp hb k1 k2 k3 T' rfl X'
    exact ⟨t2, st t2 a1, b1⟩
  · obtain ⟨k1, k2, k3⟩ := vx_keep h0 e1 hS hAX hf hL hF
    obtain ⟨t2, a1, b1⟩ := kx E ce q u t T'.heap (locs ++ L) e1.symm (by rw [← e2]; exact X'.warmed.alike) hp hb k1 k2 k3 (by rw [e1]; exact hce) hcv hcl T' rfl X'
    exact ⟨t2, st.trans a1, b1⟩
/-- caught by the row x of this method's table; the rows ahead don't take it -/
theorem vx_catch {own name : String} {E : String} {ce : Cell} {q : Addr} (hown : s.vm.findClass own = some m.cls) (pre : List ExceptionTableEntry) (x : ExceptionTableEntry) (suf : List ExceptionTableEntry) (hsplit : c.exceptionTable.toList = pre ++ x :: suf)
    (hpass : ∀ z ∈ pre, covers z pc = false ∨ (z.catchType ≠ 0 ∧ ∃ nm : String, (Cond.classLink own z.catchType nm).before args s = true ∧ va_Nc E nm s)) (hx : covers x pc = true) (h0 : x.catchType ≠ 0)
    (hlink : (Cond.classLink own x.catchType name).before args s = true) (hcast : (Cond.castable E name).before args s = true) (hcell : H[q]? = some ce) (hv : ce.vm = .none) (hcl : s.vm.findClass E = some ce.cls)
    (kk : W p l e R s m args below meth c H locs cells slots Q (F0 m x.handlerPc ls [.ref q])) : vx_W p l e R s m args below meth c H locs cells slots Q (F0 m pc ls rest) q := by
  intro T hT X
  have hpl : e.platform.magicAccessors = ({} : Platform).magicAccessors := by rw [X.admits.platform]
  obtain ⟨c3, c4, hc3, hc4, hasg⟩ := Cond.castable_spec hcast
  cases Option.some.inj (hc3.symm.trans hcl)
  obtain ⟨c5, hc5, hcl5⟩ := Cond.classLink_spec hown hlink e.platform hpl
  cases Option.some.inj (hc4.symm.trans hc5)
  obtain ⟨vm', X', st⟩ := X.thenCaughtThrough q (g := F0 m pc ls rest) rfl (Steps.refl _) (by rw [hT]; exact hcell) (by rw [hv]; rfl) (by obtain ⟨k9, h9, -⟩ := Vm.findClass_spec hcl; exact ⟨k9, h9⟩) pre x suf hsplit
    (fun z hz => by
      rcases hpass z hz with h | ⟨hz0, nm, hl1, hn1⟩
      · exact Or.inl h
      · obtain ⟨c6, hc6, hcl6⟩ := Cond.classLink_spec hown hl1 e.platform hpl
        obtain ⟨a8, b8, h1, h2, h3⟩ := hn1
        cases Option.some.inj (h1.symm.trans hcl)
        cases Option.some.inj (h2.symm.trans hc6)
        exact Or.inr ⟨hz0, _, hcl6, h3⟩) hx (Or.inr ⟨h0, c4, hcl5, hasg⟩)
  obtain ⟨t, a1, b1⟩ := kk (T.setVm vm') hT X'
  exact ⟨t, st.trans a1, b1⟩
end Rows
section Ends
variable {p : Program} {l : Launch} {e : Env} {R : Room} {s : State} {m : MethodId} {args : Array Value} {below : List Frame} {meth : Method} {c : Code} {H : Heap} {locs : List Loc} {cells slots : Nat} {Q : State → Prop}
variable {mc ms : Nat} {free : Addr → Prop} {A0 A1 : Nat → Prop} {H0 : Heap} {a : Array Value} {ls : Array Slot} {st0 rest : List Value}
variable {Qc : Array Value → State → Outcome → State → Prop} {XC : String → State → State → Prop}
/-- what a body that may throw owes at its end -/
def vx_MQ (below : List Frame) (Qc : Array Value → State → Outcome → State → Prop) (XC : String → State → State → Prop) (a : Array Value) (s : State) (mc ms : Nat) (free : Addr → Prop) : State → Prop := fun t =>
  ∃ o, t.status = .running ∧ Ended t below o ∧ vx_Q Qc XC mc ms free a s o t
theorem vx_ret {g : JFrame} {mc ms : Nat} (k : W p l e R s m args below meth c H locs cells slots (MQ below Qc args s mc ms free) g) : W p l e R s m args below meth c H locs cells slots (vx_MQ below Qc XC args s mc ms free) g := by
  intro T hT X
  obtain ⟨t, a1, o, b1, b2, b3, b4⟩ := k T hT X
  exact ⟨t, a1, o, b1, b2, Or.inl ⟨b3, b4⟩⟩
/-- not caught here: it goes on to the caller -/
theorem vx_widen {g : JFrame} {q : Addr} {k n : Nat} (h1 : cells ≤ k) (h2 : slots ≤ n) (kk : vx_W p l e R s m args below meth c H locs k n Q g q) : vx_W p l e R s m args below meth c H locs cells slots Q g q := fun T hT X => kk T hT (stand_widen X h1 h2)
theorem vx_out {pc : Nat} {E : String} {ce : Cell} {q : Addr} {mc ms : Nat} (hout : ∀ x ∈ c.exceptionTable.toList, covers x pc = false) (hlocks : meth.locks = false) (hcell : H[q]? = some ce) (hv : ce.vm = .none) (hcl : s.vm.findClass E = some ce.cls)
    (hx : ∀ t : State, t.heap = H → s.vm.Alike t.vm → XC E s t) (hf : ∀ z ∈ locs, free z.base) (hc : cells ≤ mc) (hs : slots ≤ ms) :
    vx_W p l e R s m args below meth c H locs cells slots (vx_MQ below Qc XC args s mc ms free) (F0 m pc ls rest) q := by
  intro T hT X
  obtain ⟨st1, hrun, hend, hW, hsm⟩ := X.leaveThrown q (g := F0 m pc ls rest) rfl rfl rfl hout hlocks
  have hcell9 : (T.setFrames (.throwing q :: below)).heap[q]? = some ce := by
    show T.heap[q]? = some ce
    rw [hT]; exact hcell
  exact ⟨_, st1, .threw q, hrun, hend, Or.inr ⟨q, rfl, E, ce, locs, hx _ hT hW.alike, hcell9, hv, hcl, hW, hsm.mono hc hs, hf⟩⟩
theorem vx_frame {U : State} {k n : Nat} (h : s.sameButNew ({ U with vm := s.vm } : State) locs k n) : s.heap.size ≤ U.heap.size ∧ ∀ q : Nat, q < s.heap.size → (∀ z ∈ locs, z.base ≠ q) → U.heap[q]? = s.heap[q]? := by
  obtain ⟨-, h2, -, -, -, h6⟩ := h
  refine ⟨h2, fun q hq hz => ?_⟩
  obtain ⟨c9, e1, e2, e3, e4⟩ := h6 q _ (Array.getElem?_eq_getElem hq)
  have hs : c9.slots = (s.heap[q]).slots := Array.ext_getElem? fun i => e4 i fun hm => hz _ hm rfl
  have h9 : c9 = s.heap[q] := by
    rw [hs] at e2
    exact e2
  have e5 : U.heap[q]? = some c9 := e1
  rw [e5, h9, Array.getElem?_eq_getElem hq]
/-- the words of a throw but the four that speak of the heap -/
def vx_no (w : Cond) : Bool := decide (w ≠ .isRef (.static Bundle.tN "UNASSIGNED_STACK" Bundle.steD)) && decide (w ≠ .isRef (.static Bundle.tN "SUPPRESSED_SENTINEL" Bundle.listD)) && decide (w ≠ .laysStatic Bundle.tN "UNASSIGNED_STACK" Bundle.steD) && decide (w ≠ .laysStatic Bundle.tN "SUPPRESSED_SENTINEL" Bundle.listD)
def vx_at0 (own : String) (ic : Nat) (X : String) (names : List String) : List Cond := (Bundle.ownAtoms0 own ic X names).filter vx_no
def vx_atS (own : String) (ic : Nat) (X : String) (names : List String) : List Cond := (Bundle.ownAtoms own ic X names).filter vx_no
/-- a word that the tables alone decide, or a good one -/
def vx_ot (w : Cond) : Bool := w.onTables || goodWord w
theorem vx_ot_at {args a' : Array Value} {s U : State} {w : Cond} (hW : s.WarmedH U.vm) (hvm : s.vm = U.vm) (hg : vx_ot w = true) (h : w.before args s = true) : w.before a' U = true := by
  simp only [vx_ot, Bool.or_eq_true] at hg
  rcases hg with hg | hg
  · exact va_tabs hg hvm h
  · exact word_at hW (good_of_word hg) h
/-- a list's words: the good ones out of the method's own list, the others by premises of their own -/
theorem vx_hat {args : Array Value} {s : State} {L B : List Cond} (h1 : ∀ w ∈ L.filter goodWord, w.before args s = true) (h2 : ∀ w ∈ L.filter (fun w => !goodWord w), w ∈ B) (h3 : ∀ w ∈ B, w.before args s = true) : ∀ w ∈ L, w.before args s = true := by
  intro w hw
  by_cases g : goodWord w = true
  · exact h1 w (List.mem_filter.mpr ⟨hw, g⟩)
  · refine h3 w (h2 w (List.mem_filter.mpr ⟨hw, ?_⟩))
    show (!goodWord w) = true
    cases hgw : goodWord w
    · rfl
    · exact absurd hgw g
theorem vx_c {args : Array Value} {s : State} {w : Cond} {B : List Cond} (h : w.before args s = true) (t : ∀ w ∈ B, w.before args s = true) : ∀ w' ∈ w :: B, w'.before args s = true := fun w' h' => (List.mem_cons.mp h').elim (fun e => by rw [e]; exact h) (t w')
theorem vx_n {args : Array Value} {s : State} : ∀ w ∈ ([] : List Cond), w.before args s = true := fun _ h => nomatch h
theorem vx_own {args : Array Value} {s : State} {L : List Cond} (h1 : ∀ w ∈ L.filter vx_no, w.before args s = true)
    (hU : (Cond.isRef (.static Bundle.tN "UNASSIGNED_STACK" Bundle.steD)).before args s = true) (hN : (Cond.isRef (.static Bundle.tN "SUPPRESSED_SENTINEL" Bundle.listD)).before args s = true)
    (lU : (Cond.laysStatic Bundle.tN "UNASSIGNED_STACK" Bundle.steD).before args s = true) (lN : (Cond.laysStatic Bundle.tN "SUPPRESSED_SENTINEL" Bundle.listD).before args s = true) : ∀ w ∈ L, w.before args s = true := by
  intro w hw
  by_cases e1 : w = .isRef (.static Bundle.tN "UNASSIGNED_STACK" Bundle.steD)
  · rw [e1]; exact hU
  · by_cases e2 : w = .isRef (.static Bundle.tN "SUPPRESSED_SENTINEL" Bundle.listD)
    · rw [e2]; exact hN
    · by_cases e3 : w = .laysStatic Bundle.tN "UNASSIGNED_STACK" Bundle.steD
      · rw [e3]; exact lU
      · by_cases e4 : w = .laysStatic Bundle.tN "SUPPRESSED_SENTINEL" Bundle.listD
        · rw [e4]; exact lN
        · exact h1 w (List.mem_filter.mpr ⟨hw, by unfold vx_no; rw [decide_eq_true e1, decide_eq_true e2, decide_eq_true e3, decide_eq_true e4]; rfl⟩)
/-- where a static field lies, its class's statics cell in H -/
def vx_L (C n d : String) (A : Nat → Prop) (U : State) (H : Heap) : Prop := ∃ (c : ClassId) (k : Class) (i : Nat) (f : Field) (a : Nat) (cell : Cell), U.vm.findClass C = some c ∧ U.fieldFound? C n d = some (c, k, i, f) ∧ f.isStatic = true ∧ k.statics = some a ∧ H[a]? = some cell ∧ cell.vm.isStatics = true ∧ cell.cls = c ∧ f.slot < cell.slots.size ∧ k.staticTypes[f.slot]? = some f.type ∧ ¬ A a
theorem vx_L.moved {C n d : String} {A : Nat → Prop} {u U : State} {H : Heap} (hvm : u.vm.Alike U.vm) (h : vx_L C n d A u H) : vx_L C n d A U H := by
  obtain ⟨c, k, i, f, a, cell, h1, h2, h3, h4, h5, h6, h7, h8, h9, h10⟩ := h
  obtain ⟨k', hi', he⟩ := State.fieldFound?_setVm hvm h2
  exact ⟨c, k', i, f, a, cell, by rw [hvm.findClass]; exact h1, hi', h3, by rw [he]; exact h4, h5, h6, h7, h8, by rw [he]; exact h9, h10⟩
theorem vx_L.kept {C n d : String} {A : Nat → Prop} {U : State} {H H1 : Heap} (h : vx_L C n d A U H) (hq : ∀ a : Nat, a < H.size → ¬ A a → H1[a]? = H[a]?) : vx_L C n d A U H1 := by
  obtain ⟨c, k, i, f, a, cell, h1, h2, h3, h4, h5, h6, h7, h8, h9, h10⟩ := h
  exact ⟨c, k, i, f, a, cell, h1, h2, h3, h4, by rw [hq a (Array.getElem?_eq_some_iff.mp h5).1 h10]; exact h5, h6, h7, h8, h9, h10⟩
theorem vx_L.narrow {C n d : String} {A B : Nat → Prop} {U : State} {H : Heap} (h : vx_L C n d A U H) (hAB : ∀ q, B q → A q) : vx_L C n d B U H := by
  obtain ⟨c, k, i, f, a, cell, h1, h2, h3, h4, h5, h6, h7, h8, h9, h10⟩ := h
  exact ⟨c, k, i, f, a, cell, h1, h2, h3, h4, h5, h6, h7, h8, h9, fun z => h10 (hAB _ z)⟩
theorem vx_L.word {C n d : String} {A : Nat → Prop} {s : State} {args : Array Value} (h : vx_L C n d A s s.heap) : (Cond.laysStatic C n d).before args s = true := by
  obtain ⟨c, k, i, f, a, cell, h1, h2, h3, h4, h5, h6, h7, h8, h9, -⟩ := h
  show (Cond.laysStatic C n d).holds args s none s [] = true
  exact Cond.laysStatic_of h1 h2 h3 h4 h5 h6 h7 h8 h9
/-- .. and what it holds: null or some reference -/
def vx_Zq (C n d : String) (A : Nat → Prop) (U : State) (H : Heap) : Prop := va_Zq C n d A U H ∧ vx_L C n d A U H
theorem vx_Zq.moved {C n d : String} {A : Nat → Prop} {u U : State} {H : Heap} (hvm : u.vm.Alike U.vm) (h : vx_Zq C n d A u H) : vx_Zq C n d A U H := ⟨va_Zq.moved hvm h.1, vx_L.moved hvm h.2⟩
theorem vx_Zq.kept {C n d : String} {A : Nat → Prop} {U : State} {H H1 : Heap} (h : vx_Zq C n d A U H) (hq : ∀ a : Nat, a < H.size → ¬ A a → H1[a]? = H[a]?) : vx_Zq C n d A U H1 := ⟨va_Zq.kept h.1 hq, vx_L.kept h.2 hq⟩
theorem vx_Zq.narrow {C n d : String} {A B : Nat → Prop} {U : State} {H : Heap} (h : vx_Zq C n d A U H) (hAB : ∀ q, B q → A q) : vx_Zq C n d B U H := ⟨va_Zq.narrow h.1 hAB, vx_L.narrow h.2 hAB⟩
theorem vx_Zqof {args : Array Value} {s : State} {C n d : String} {A : Nat → Prop} (hl : (Cond.laysStatic C n d).before args s = true) (hini : (Cond.initialized C).before args s = true) (h : (Cond.isRef (.static C n d)).before args s = true) (hA : ∀ a : Nat, a < s.heap.size → ¬ A a) : vx_Zq C n d A s s.heap := by
  refine ⟨va_Zqof hl hini h hA, ?_⟩
  obtain ⟨c, k, i, f, a, cell, h1, h2, h3, h4, h5, h6, h7, h8, h9⟩ := Cond.laysStatic_spec hl
  exact ⟨c, k, i, f, a, cell, h1, h2, h3, h4, h5, h6, h7, h8, h9, hA a (Array.getElem?_eq_some_iff.mp h5).1⟩
theorem vx_isRef {C n d : String} {v : Value} {A : Nat → Prop} {s : State} {args : Array Value} (h : va_Z C n d v A s s.heap) (hv : v.isRef = true) : (Cond.isRef (.static C n d)).before args s = true := by
  obtain ⟨cf, kf, fi, f, a, cell, h1, h2, h3, h4, h5, h6, h7, -⟩ := h
  have he : (Term.static C n d).eval args s none [] s = some v := by
    simp [Term.eval, State.fieldNamed?, h1, h2, h4, h5, h6, h7]
  simp only [Cond.before, Cond.holds, Cond.value, he]
  cases v <;> simp_all [Value.isRef]
theorem vx_isRefq {C n d : String} {A : Nat → Prop} {s : State} {args : Array Value} (h : va_Zq C n d A s s.heap) : (Cond.isRef (.static C n d)).before args s = true := by
  rcases h with h | ⟨t, h⟩
  · exact vx_isRef h rfl
  · exact vx_isRef h rfl
/-- the same frame, seen from here: as if the method were called anew in this heap -/
theorem vx_rebase {T : State} (X : Stand p l e R s m args below meth c T locs cells slots) {R' : Room} (hf : R'.frames ≤ R.frames) (hl : R'.locals ≤ R.locals) (hc : cells + R'.cells ≤ R.cells) (hs : slots + R'.slots ≤ R.slots) :
    Stand p l e R' ((T.setVm s.vm).setFrames (.invoking m args :: below)) m args below meth c T [] 0 0 := by
  have htop : (T.setVm s.vm).topJava?.isSome := X.here.top
  have hF : ((T.setVm s.vm).setFrames (.invoking m args :: below)).frames = .invoking m args :: below := State.frames_setFrames _ (State.cur_lt_of_top htop)
  obtain ⟨g₀, hg0⟩ := Option.isSome_iff_exists.mp htop
  obtain ⟨r, hr⟩ := State.topJava?_eq_some.mp hg0
  have hl9 : e.platform.stackLimits (T.setVm s.vm).me = e.platform.stackLimits s.me := X.limits
  have hb9 : (T.setVm s.vm).me.stackBytes = s.me.stackBytes := X.bytes
  refine ⟨X.admits, X.cas, X.clock, hF, ?_, X.hears, X.method, X.code, X.here, X.tail, X.warmed, ?_, ?_, ?_⟩
  · have h := X.room
    have hU : ((T.setVm s.vm).setFrames (.invoking m args :: below)).localsInUse = s.localsInUse := by
      rw [State.localsInUse_invoking hF (meth := meth) (c := c) X.method X.code, State.localsInUse_invoking X.frames X.method X.code]
    simp only [State.hasRoom, Bool.and_eq_true, decide_eq_true_eq] at h ⊢
    obtain ⟨⟨⟨⟨h1, h2, h3, h4, h5, h6⟩, h7⟩, h8⟩, h9⟩ := h
    rw [X.frames, List.length_cons] at h2 h3
    have q1 := X.heapSize
    have q2 := X.used
    simp only [hF, hU, List.length_cons, State.stackLimits_setFrames, State.stackBytes_setFrames, hl9, hb9]
    refine ⟨⟨⟨⟨by omega, by omega, by omega, by omega, by omega, h6⟩, ?_⟩, ?_⟩, X.book⟩
    · show T.heap.size + R'.cells ≤ e.platform.maxCells
      omega
    · show T.slotsUsed + R'.slots ≤ e.platform.maxSlots
      omega
  · rw [State.stackLimits_setFrames]; rfl
  · rw [State.stackBytes_setFrames]; rfl
  · refine ⟨?_, Nat.le_refl _, Nat.le_refl _, ?_, ?_, fun a c9 h9 => ⟨c9, h9, rfl, rfl, fun _ _ => rfl⟩⟩
    · obtain ⟨t, ht, -⟩ := State.frames_cons hr
      show T.setVm s.vm = { ((T.setVm s.vm).setFrames (.invoking m args :: below)).setFrames (T.setVm s.vm).frames with heap := T.heap, slotsUsed := T.slotsUsed }
      rw [State.setFrames_setFrames, State.setFrames_self ht]
      rfl
    · show T.slotsUsed = T.slotsUsed + ((T.heap.toList.drop T.heap.size).map (·.slots.size)).sum
      rw [List.drop_eq_nil_of_le (Nat.le_of_eq Array.length_toList)]
      rfl
    · show ((T.heap.toList.drop T.heap.size).map (·.slots.size)).sum ≤ 0
      rw [List.drop_eq_nil_of_le (Nat.le_of_eq Array.length_toList)]
      exact Nat.le_refl _
/-- 'throw new E()': new; dup; invokespecial; athrow -/
theorem vx_throw0 {cc : ByteArray} {pc : Nat} (hexec : p.tables.exec = Jvm.exec) (hb : c.code = cc) (hl : l.stackTraces = false) {own cls : String} {names : List String} {ik ic mc ms : Nat} {A : Nat → Prop}
    (hown : s.vm.findClass own = some m.cls) (hcls : Bundle.fit cls = true) (hnames : ∀ n ∈ names, Bundle.fit n = true)
    (hk : (Cond.classLink own ik cls).before args s = true) (hini : (Cond.initialized cls).before args s = true) (hat : ∀ w ∈ vx_at0 own ic cls names, w.before args s = true)
    (hgood : ∀ w ∈ Cond.classLink own ik cls :: Cond.initialized cls :: vx_at0 own ic cls names, vx_ot w = true)
    (hU : vx_Zq Bundle.tN "UNASSIGNED_STACK" Bundle.steD A s s.heap) (hN : vx_Zq Bundle.tN "SUPPRESSED_SENTINEL" Bundle.listD A s s.heap) (hS : va_S A s.heap H locs) (hsize : ls.size = c.maxLocals)
    (d0 : decode cc pc = .ok (.new ik, 3)) (d3 : decode cc (pc + 3) = .ok (.dup, 1)) (d4 : decode cc (pc + 4) = .ok (.invokespecial ic, 3)) (d7 : decode cc (pc + 7) = .ok (.athrow, 1))
    (hout : ∀ x ∈ c.exceptionTable.toList, covers x (pc + 7) = false)
    (hRframes : names.length + 3 < R.frames) (hRlocals : (rest.map fun v => v.category).sum + (13 * (names.length + 1) + 42) ≤ R.locals) (hRcells : cells + 1 ≤ R.cells) (hRslots : slots + 6 ≤ R.slots) (hlocks : meth.locks = false)
    (hx : ∀ t : State, s.vm.Alike t.vm → H.size ≤ t.heap.size → (∀ q : Nat, q < H.size → t.heap[q]? = H[q]?) → XC cls s t)
    (hf : ∀ z ∈ locs, free z.base) (hc : cells + 1 ≤ mc) (hs : slots + 6 ≤ ms) :
    W p l e R s m args below meth c H locs cells slots (vx_MQ below Qc XC args s mc ms free) (F0 m pc ls rest) := by
  intro T hT X
  have htr : e.platform.stackTraces = false := (show e.platform.stackTraces = l.stackTraces by rw [X.admits.platform]).trans hl
  have Y := vx_rebase X (R' := { frames := R.frames, locals := R.locals, cells := 1, slots := 6 }) (Nat.le_refl _) (Nat.le_refl _) hRcells hRslots
  obtain ⟨s', hA⟩ : ∃ z, z = (T.setVm s.vm).setFrames (.invoking m args :: below) := ⟨_, rfl⟩
  rw [← hA] at Y
  have hvm : s'.vm = s.vm := by rw [hA]; rfl
  have hhp : s'.heap = H := by rw [hA]; exact hT
  have hW0 : s.WarmedH s'.vm := by rw [hvm]; exact State.WarmedH.refl s
  have hat' : ∀ w ∈ vx_at0 own ic cls names, w.before args s' = true := fun w hw => vx_ot_at hW0 hvm.symm (hgood w (List.mem_cons_of_mem _ (List.mem_cons_of_mem _ hw))) (hat w hw)
  have hk' : (Cond.classLink own ik cls).before args s' = true := vx_ot_at hW0 hvm.symm (hgood _ List.mem_cons_self) hk
  have hini' : (Cond.initialized cls).before args s' = true := vx_ot_at hW0 hvm.symm (hgood _ (List.mem_cons_of_mem _ List.mem_cons_self)) hini
  have hU' : vx_Zq Bundle.tN "UNASSIGNED_STACK" Bundle.steD A s' s'.heap := by rw [hhp]; exact vx_Zq.moved hW0.alike (hU.kept hS.2.1)
  have hN' : vx_Zq Bundle.tN "SUPPRESSED_SENTINEL" Bundle.listD A s' s'.heap := by rw [hhp]; exact vx_Zq.moved hW0.alike (hN.kept hS.2.1)
  have h : ∀ w ∈ Bundle.ownAtoms0 own ic cls names, w.before args s' = true := vx_own hat' (vx_isRefq hU'.1) (vx_isRefq hN'.1) hU'.2.word hN'.2.word
  have hown' : s'.vm.findClass own = some m.cls := by rw [hvm]; exact hown
  have hins : (Cond.instantiable cls 6).before args s' = true := h _ (by simp [Bundle.ownAtoms0])
  obtain ⟨vm₁, cX, kX, hfX, hkX, -, -, X₁, st1⟩ := Y.newCold hexec (own := own) (C := cls) (index := ik) (n := 6) hown' hk' hins hini'
    (g := F0 m pc ls rest) rfl (by rw [hb]; exact d0) (Nat.le_refl _) (Nat.le_refl _)
  generalize hT1 : (T.setVm vm₁).pushCell { cls := cX, slots := kX.instanceTypes.map defaultValue, vm := .none } = T1 at X₁ st1
  have hcat : (Value.ref T.heap.size).category = 1 := rfl
  have hcellA : T1.heap[T.heap.size]? = some (freshCell cX kX) := by rw [← hT1]; exact State.heap_pushCell_size _ _
  have d3' : decode c.code (pc + 3) = .ok (.dup, 1) := by rw [hb]; exact d3
  obtain ⟨U, hsteps, hrun, hend, hW, hsame, ce, hce, hO⟩ := X₁.ctorThrow0 hexec htr (own := own) (cls := cls) (names := names) (ic := ic) hown' hcls hnames h (fun x hx => nomatch hx) hfX hkX hcellA (by rw [hhp, hT]; exact Nat.le_refl _)
    (g := { method := m, pc := pc + 4, locals := ls, stack := .ref T.heap.size :: .ref T.heap.size :: rest, locked := none }) rfl hsize rfl rfl (rest := rest) rfl
    (by rw [hb]; exact d4) (by rw [hb]; exact d7) hout hRframes (by simp only [List.map_cons, List.sum_cons, hcat]; omega) hlocks
  obtain ⟨f1, f2⟩ := vx_frame hsame
  rw [hhp] at f1 f2
  have hWs : s.WarmedH U.vm := State.WarmedH.trans hW0 hW
  have hcl : s.vm.findClass cls = some ce.cls := by
    have h9 := hO.cls
    rw [hvm] at h9
    exact h9
  have hall : s.sameButNew ({ U with vm := s.vm } : State) locs mc ms := by
    subst hA
    obtain ⟨e1, e2⟩ := hsame
    rw [State.setFrames_setFrames] at e1
    have h2 : (T.setVm s.vm).sameButNew ({ U with vm := s.vm } : State) [] (0 + 1) (0 + 6) := ⟨e1, e2⟩
    have h3 := X.same.trans h2
    rw [List.append_nil] at h3
    exact h3.mono hc hs
  refine ⟨U, ?_, .threw T.heap.size, hrun, hend, Or.inr ⟨T.heap.size, rfl, cls, ce, locs, hx U hWs.alike f1 (fun q hq => f2 q hq (fun z hz => nomatch hz)), hce, hO.vm, hcl, hWs, hall, hf⟩⟩
  refine st1 _ ?_
  show Steps p.tables e below (T1.setTop { method := m, pc := pc + 3, locals := ls, stack := .ref T.heap.size :: rest, locked := none }) _
  jvm_step X₁.here [X₁.here.top, hexec, d3', Value.category]
  exact hsteps
/-- 'throw new E("text")': new; dup; ldc; invokespecial; athrow -/
theorem vx_throwS {cc : ByteArray} {pc : Nat} (hexec : p.tables.exec = Jvm.exec) (hb : c.code = cc) (hl : l.stackTraces = false) {own cls text : String} {names : List String} {ik is ic mc ms sa : Nat} {A : Nat → Prop}
    (hown : s.vm.findClass own = some m.cls) (hcls : Bundle.fit cls = true) (hnames : ∀ n ∈ names, Bundle.fit n = true)
    (hk : (Cond.classLink own ik cls).before args s = true) (hini : (Cond.initialized cls).before args s = true) (hstr : vk_R own is text sa s) (hat : ∀ w ∈ vx_atS own ic cls names, w.before args s = true)
    (hgood : ∀ w ∈ Cond.classLink own ik cls :: Cond.initialized cls :: vx_atS own ic cls names, vx_ot w = true)
    (hU : vx_Zq Bundle.tN "UNASSIGNED_STACK" Bundle.steD A s s.heap) (hN : vx_Zq Bundle.tN "SUPPRESSED_SENTINEL" Bundle.listD A s s.heap) (hS : va_S A s.heap H locs) (hsize : ls.size = c.maxLocals)
    (d0 : decode cc pc = .ok (.new ik, 3)) (d3 : decode cc (pc + 3) = .ok (.dup, 1)) (d4 : decode cc (pc + 4) = .ok (.ldc is, 2)) (d6 : decode cc (pc + 6) = .ok (.invokespecial ic, 3)) (d9 : decode cc (pc + 9) = .ok (.athrow, 1))
    (hout : ∀ x ∈ c.exceptionTable.toList, covers x (pc + 9) = false)
    (hRframes : names.length + 3 < R.frames) (hRlocals : (rest.map fun v => v.category).sum + (13 * (names.length + 1) + 43) ≤ R.locals) (hRcells : cells + 1 ≤ R.cells) (hRslots : slots + 6 ≤ R.slots) (hlocks : meth.locks = false)
    (hx : ∀ t : State, s.vm.Alike t.vm → H.size ≤ t.heap.size → (∀ q : Nat, q < H.size → t.heap[q]? = H[q]?) → XC cls s t)
    (hf : ∀ z ∈ locs, free z.base) (hc : cells + 1 ≤ mc) (hs : slots + 6 ≤ ms) :
    W p l e R s m args below meth c H locs cells slots (vx_MQ below Qc XC args s mc ms free) (F0 m pc ls rest) := by
  intro T hT X
  have htr : e.platform.stackTraces = false := (show e.platform.stackTraces = l.stackTraces by rw [X.admits.platform]).trans hl
  have Y := vx_rebase X (R' := { frames := R.frames, locals := R.locals, cells := 1, slots := 6 }) (Nat.le_refl _) (Nat.le_refl _) hRcells hRslots
  obtain ⟨s', hA⟩ : ∃ z, z = (T.setVm s.vm).setFrames (.invoking m args :: below) := ⟨_, rfl⟩
  rw [← hA] at Y
  have hvm : s'.vm = s.vm := by rw [hA]; rfl
  have hhp : s'.heap = H := by rw [hA]; exact hT
  have hW0 : s.WarmedH s'.vm := by rw [hvm]; exact State.WarmedH.refl s
  have hat' : ∀ w ∈ vx_atS own ic cls names, w.before args s' = true := fun w hw => vx_ot_at hW0 hvm.symm (hgood w (List.mem_cons_of_mem _ (List.mem_cons_of_mem _ hw))) (hat w hw)
  have hk' : (Cond.classLink own ik cls).before args s' = true := vx_ot_at hW0 hvm.symm (hgood _ List.mem_cons_self) hk
  have hini' : (Cond.initialized cls).before args s' = true := vx_ot_at hW0 hvm.symm (hgood _ (List.mem_cons_of_mem _ List.mem_cons_self)) hini
  have hU' : vx_Zq Bundle.tN "UNASSIGNED_STACK" Bundle.steD A s' s'.heap := by rw [hhp]; exact vx_Zq.moved hW0.alike (hU.kept hS.2.1)
  have hN' : vx_Zq Bundle.tN "SUPPRESSED_SENTINEL" Bundle.listD A s' s'.heap := by rw [hhp]; exact vx_Zq.moved hW0.alike (hN.kept hS.2.1)
  have h : ∀ w ∈ Bundle.ownAtoms own ic cls names, w.before args s' = true := vx_own hat' (vx_isRefq hU'.1) (vx_isRefq hN'.1) hU'.2.word hN'.2.word
  have hown' : s'.vm.findClass own = some m.cls := by rw [hvm]; exact hown
  have hins : (Cond.instantiable cls 6).before args s' = true := h _ (by simp [Bundle.ownAtoms])
  obtain ⟨vm₁, cX, kX, hfX, hkX, -, -, X₁, st1⟩ := Y.newCold hexec (own := own) (C := cls) (index := ik) (n := 6) hown' hk' hins hini'
    (g := F0 m pc ls rest) rfl (by rw [hb]; exact d0) (Nat.le_refl _) (Nat.le_refl _)
  generalize hT1 : (T.setVm vm₁).pushCell { cls := cX, slots := kX.instanceTypes.map defaultValue, vm := .none } = T1 at X₁ st1
  have hcat : (Value.ref T.heap.size).category = 1 := rfl
  have hcellA : T1.heap[T.heap.size]? = some (freshCell cX kX) := by rw [← hT1]; exact State.heap_pushCell_size _ _
  have d3' : decode c.code (pc + 3) = .ok (.dup, 1) := by rw [hb]; exact d3
  have d4' : decode c.code (pc + 4) = .ok (.ldc is, 2) := by rw [hb]; exact d4
  have hstr' : vk_R own is text sa s' := vk_R.warm hW0 hstr
  obtain ⟨U, hsteps, hrun, hend, hW, hsame, ce, hce, hO⟩ := X₁.ctorThrowS hexec htr (own := own) (cls := cls) (names := names) (ic := ic) hown' hcls hnames h (fun x hx => nomatch hx) hfX hkX hcellA (by rw [hhp, hT]; exact Nat.le_refl _) (msg := .ref sa) rfl
    (g := { method := m, pc := pc + 6, locals := ls, stack := .ref sa :: .ref T.heap.size :: .ref T.heap.size :: rest, locked := none }) rfl hsize rfl rfl (rest := rest) rfl
    (by rw [hb]; exact d6) (by rw [hb]; exact d9) hout hRframes (by simp only [List.map_cons, List.sum_cons, hcat]; omega) hlocks
  obtain ⟨f1, f2⟩ := vx_frame hsame
  rw [hhp] at f1 f2
  have hWs : s.WarmedH U.vm := State.WarmedH.trans hW0 hW
  have hcl : s.vm.findClass cls = some ce.cls := by
    have h9 := hO.cls
    rw [hvm] at h9
    exact h9
  have hall : s.sameButNew ({ U with vm := s.vm } : State) locs mc ms := by
    subst hA
    obtain ⟨e1, e2⟩ := hsame
    rw [State.setFrames_setFrames] at e1
    have h2 : (T.setVm s.vm).sameButNew ({ U with vm := s.vm } : State) [] (0 + 1) (0 + 6) := ⟨e1, e2⟩
    have h3 := X.same.trans h2
    rw [List.append_nil] at h3
    exact h3.mono hc hs
  refine ⟨U, ?_, .threw T.heap.size, hrun, hend, Or.inr ⟨T.heap.size, rfl, cls, ce, locs, hx U hWs.alike f1 (fun q hq => f2 q hq (fun z hz => nomatch hz)), hce, hO.vm, hcl, hWs, hall, hf⟩⟩
  refine st1 _ ?_
  show Steps p.tables e below (T1.setTop { method := m, pc := pc + 3, locals := ls, stack := .ref T.heap.size :: rest, locked := none }) _
  jvm_step X₁.here [X₁.here.top, hexec, d3', Value.category]
  exact X₁.ldcString hexec (own := own) (text := text) (index := is) (a := sa) hown' hstr'.1 hstr'.2
    (g := { method := m, pc := pc + 4, locals := ls, stack := .ref T.heap.size :: .ref T.heap.size :: rest, locked := none }) rfl d4' _ hsteps
/-- 'throw new E("text")', the text by a wide index -/
theorem vx_throwSW {cc : ByteArray} {pc : Nat} (hexec : p.tables.exec = Jvm.exec) (hb : c.code = cc) (hl : l.stackTraces = false) {own cls text : String} {names : List String} {ik is ic mc ms sa : Nat} {A : Nat → Prop}
    (hown : s.vm.findClass own = some m.cls) (hcls : Bundle.fit cls = true) (hnames : ∀ n ∈ names, Bundle.fit n = true)
    (hk : (Cond.classLink own ik cls).before args s = true) (hini : (Cond.initialized cls).before args s = true) (hstr : vk_R own is text sa s) (hat : ∀ w ∈ vx_atS own ic cls names, w.before args s = true)
    (hgood : ∀ w ∈ Cond.classLink own ik cls :: Cond.initialized cls :: vx_atS own ic cls names, vx_ot w = true)
    (hU : vx_Zq Bundle.tN "UNASSIGNED_STACK" Bundle.steD A s s.heap) (hN : vx_Zq Bundle.tN "SUPPRESSED_SENTINEL" Bundle.listD A s s.heap) (hS : va_S A s.heap H locs) (hsize : ls.size = c.maxLocals)
    (d0 : decode cc pc = .ok (.new ik, 3)) (d3 : decode cc (pc + 3) = .ok (.dup, 1)) (d4 : decode cc (pc + 4) = .ok (.ldc_w is, 3)) (d7 : decode cc (pc + 7) = .ok (.invokespecial ic, 3)) (d10 : decode cc (pc + 10) = .ok (.athrow, 1))
    (hout : ∀ x ∈ c.exceptionTable.toList, covers x (pc + 10) = false)
    (hRframes : names.length + 3 < R.frames) (hRlocals : (rest.map fun v => v.category).sum + (13 * (names.length + 1) + 43) ≤ R.locals) (hRcells : cells + 1 ≤ R.cells) (hRslots : slots + 6 ≤ R.slots) (hlocks : meth.locks = false)
    (hx : ∀ t : State, s.vm.Alike t.vm → H.size ≤ t.heap.size → (∀ q : Nat, q < H.size → t.heap[q]? = H[q]?) → XC cls s t)
    (hf : ∀ z ∈ locs, free z.base) (hc : cells + 1 ≤ mc) (hs : slots + 6 ≤ ms) :
    W p l e R s m args below meth c H locs cells slots (vx_MQ below Qc XC args s mc ms free) (F0 m pc ls rest) := by
  intro T hT X
  have htr : e.platform.stackTraces = false := (show e.platform.stackTraces = l.stackTraces by rw [X.admits.platform]).trans hl
  have Y := vx_rebase X (R' := { frames := R.frames, locals := R.locals, cells := 1, slots := 6 }) (Nat.le_refl _) (Nat.le_refl _) hRcells hRslots
  obtain ⟨s', hA⟩ : ∃ z, z = (T.setVm s.vm).setFrames (.invoking m args :: below) := ⟨_, rfl⟩
  rw [← hA] at Y
  have hvm : s'.vm = s.vm := by rw [hA]; rfl
  have hhp : s'.heap = H := by rw [hA]; exact hT
  have hW0 : s.WarmedH s'.vm := by rw [hvm]; exact State.WarmedH.refl s
  have hat' : ∀ w ∈ vx_atS own ic cls names, w.before args s' = true := fun w hw => vx_ot_at hW0 hvm.symm (hgood w (List.mem_cons_of_mem _ (List.mem_cons_of_mem _ hw))) (hat w hw)
  have hk' : (Cond.classLink own ik cls).before args s' = true := vx_ot_at hW0 hvm.symm (hgood _ List.mem_cons_self) hk
  have hini' : (Cond.initialized cls).before args s' = true := vx_ot_at hW0 hvm.symm (hgood _ (List.mem_cons_of_mem _ List.mem_cons_self)) hini
  have hU' : vx_Zq Bundle.tN "UNASSIGNED_STACK" Bundle.steD A s' s'.heap := by rw [hhp]; exact vx_Zq.moved hW0.alike (hU.kept hS.2.1)
  have hN' : vx_Zq Bundle.tN "SUPPRESSED_SENTINEL" Bundle.listD A s' s'.heap := by rw [hhp]; exact vx_Zq.moved hW0.alike (hN.kept hS.2.1)
  have h : ∀ w ∈ Bundle.ownAtoms own ic cls names, w.before args s' = true := vx_own hat' (vx_isRefq hU'.1) (vx_isRefq hN'.1) hU'.2.word hN'.2.word
  have hown' : s'.vm.findClass own = some m.cls := by rw [hvm]; exact hown
  have hins : (Cond.instantiable cls 6).before args s' = true := h _ (by simp [Bundle.ownAtoms])
  obtain ⟨vm₁, cX, kX, hfX, hkX, -, -, X₁, st1⟩ := Y.newCold hexec (own := own) (C := cls) (index := ik) (n := 6) hown' hk' hins hini'
    (g := F0 m pc ls rest) rfl (by rw [hb]; exact d0) (Nat.le_refl _) (Nat.le_refl _)
  generalize hT1 : (T.setVm vm₁).pushCell { cls := cX, slots := kX.instanceTypes.map defaultValue, vm := .none } = T1 at X₁ st1
  have hcat : (Value.ref T.heap.size).category = 1 := rfl
  have hcellA : T1.heap[T.heap.size]? = some (freshCell cX kX) := by rw [← hT1]; exact State.heap_pushCell_size _ _
  have d3' : decode c.code (pc + 3) = .ok (.dup, 1) := by rw [hb]; exact d3
  have d4' : decode c.code (pc + 4) = .ok (.ldc_w is, 3) := by rw [hb]; exact d4
  have hstr' : vk_R own is text sa s' := vk_R.warm hW0 hstr
  obtain ⟨U, hsteps, hrun, hend, hW, hsame, ce, hce, hO⟩ := X₁.ctorThrowS hexec htr (own := own) (cls := cls) (names := names) (ic := ic) hown' hcls hnames h (fun x hx => nomatch hx) hfX hkX hcellA (by rw [hhp, hT]; exact Nat.le_refl _) (msg := .ref sa) rfl
    (g := { method := m, pc := pc + 7, locals := ls, stack := .ref sa :: .ref T.heap.size :: .ref T.heap.size :: rest, locked := none }) rfl hsize rfl rfl (rest := rest) rfl
    (by rw [hb]; exact d7) (by rw [hb]; exact d10) hout hRframes (by simp only [List.map_cons, List.sum_cons, hcat]; omega) hlocks
  obtain ⟨f1, f2⟩ := vx_frame hsame
  rw [hhp] at f1 f2
  have hWs : s.WarmedH U.vm := State.WarmedH.trans hW0 hW
  have hcl : s.vm.findClass cls = some ce.cls := by
    have h9 := hO.cls
    rw [hvm] at h9
    exact h9
  have hall : s.sameButNew ({ U with vm := s.vm } : State) locs mc ms := by
    subst hA
    obtain ⟨e1, e2⟩ := hsame
    rw [State.setFrames_setFrames] at e1
    have h2 : (T.setVm s.vm).sameButNew ({ U with vm := s.vm } : State) [] (0 + 1) (0 + 6) := ⟨e1, e2⟩
    have h3 := X.same.trans h2
    rw [List.append_nil] at h3
    exact h3.mono hc hs
  refine ⟨U, ?_, .threw T.heap.size, hrun, hend, Or.inr ⟨T.heap.size, rfl, cls, ce, locs, hx U hWs.alike f1 (fun q hq => f2 q hq (fun z hz => nomatch hz)), hce, hO.vm, hcl, hWs, hall, hf⟩⟩
  refine st1 _ ?_
  show Steps p.tables e below (T1.setTop { method := m, pc := pc + 3, locals := ls, stack := .ref T.heap.size :: rest, locked := none }) _
  jvm_step X₁.here [X₁.here.top, hexec, d3', Value.category]
  exact X₁.ldcStringW hexec (own := own) (text := text) (index := is) (a := sa) hown' hstr'.1 hstr'.2
    (g := { method := m, pc := pc + 4, locals := ls, stack := .ref T.heap.size :: .ref T.heap.size :: rest, locked := none }) rfl d4' _ hsteps
end Ends
section Bodies
variable {l : Launch}
theorem vx_ofW {y : MethodName} {ws ws' : List Cond} {rm : Room} {Pc : Array Value → State → Prop} {Qc : Array Value → State → Outcome → State → Prop} {XC : String → State → State → Prop} {mc ms : Nat} {free : Addr → Prop} {cc : ByteArray} {maxL : Nat} {ret : Option FieldType}
    (hy : plainName y.cls = true) (hw : ws = Cond.code y cc maxL ret :: ws')
    (body : ∀ p e s m args below meth c s₁, BodyLoose p l y (headSpec ws rm) cc maxL ret e s m args below meth c s₁ → c.maxLocals = maxL → (∀ x ∈ c.exceptionTable.toList, False) → Pc args s →
      W p l e (headSpec ws rm).room s m args below meth c s.heap [] 0 0 (vx_MQ below Qc XC args s mc ms free) (entryFrame m args maxL)) : vx_Met l y ws rm Pc Qc XC mc ms free := by
  refine MetFree.of_bodyS (code := cc) (maxLocals := maxL) (ret := ret) hy ?_ ?_
  · intro args s m h hn
    obtain ⟨meth, c, h1, h2, h3, h4, h5, h6, -, -⟩ := Cond.code_spec hn (atoms_spec (ws := ws) h _ (by rw [hw]; exact List.mem_cons_self))
    exact ⟨meth, c, h1, h2, h3, h4, h5, h6⟩
  · intro p e s m args below meth c s₁ B hml hP _
    have hh0 : s₁.heap = s.heap := by rw [B.state]; rfl
    have ht : ∀ x ∈ c.exceptionTable.toList, False := by
      obtain ⟨meth9, c9, h1, h2, -, -, -, -, h7, -⟩ := Cond.code_spec B.named (atoms_spec (ws := ws) B.pre _ (by rw [hw]; exact List.mem_cons_self))
      cases Option.some.inj (h1.symm.trans B.method)
      cases Option.some.inj (h2.symm.trans (Stand.of_body B).code)
      intro x hx
      rw [Array.isEmpty_iff.mp h7] at hx
      cases hx
    obtain ⟨t, a1, o, b1, b2, b3⟩ := body p e s m args below meth c s₁ B hml ht hP s₁ hh0 (Stand.of_body B)
    exact ⟨t, o, a1, b1, b2, b3⟩
/-- the table of a body with handlers -/
theorem vx_table {p : Program} {x y : MethodName} {S : Spec} {cc bytes : ByteArray} {maxL maxL' : Nat} {ret ret' : Option FieldType} {e : Env} {s s₁ : State} {m : MethodId} {args : Array Value} {below : List Frame} {meth : Method} {c : Code} {hh : List (Nat × Nat × Nat × Nat)}
    (B : BodyLoose p l y S cc maxL ret e s m args below meth c s₁) (h : (Cond.codeWith y bytes maxL' ret' hh).before args s = true) : c.exceptionTable.toList = tableOf hh := by
  obtain ⟨m9, meth9, c9, hn9, h1, h2, -, -, h6, -⟩ := Cond.codeWith_spec h
  cases Option.some.inj (hn9.symm.trans B.named)
  cases Option.some.inj (h1.symm.trans B.method)
  cases Option.some.inj (h2.symm.trans (Stand.of_body B).code)
  rw [← h6, table_eq]
end Bodies
end VXA
/-! ===== END ===== -/
/-! ===== BEGIN a static call of a method with an exception table ===== -/
section VXS
variable {p : Program} {l : Launch} {e : Env} {R : Room} {s : State} {m : MethodId} {args : Array Value} {below : List Frame} {meth : Method} {c : Code} {T : State} {H : Heap} {locs : List Loc} {cells slots : Nat}
abbrev vx_CSW (R : Room) (s : State) (args : Array Value) (own : String) (index : Nat) (y : MethodName) (bytes : ByteArray) (maxL : Nat) (ret : Option FieldType) (hh : List (Nat × Nat × Nat × Nat)) (ws : List Cond) (rm : Room) (mc ms n : Nat) : Prop :=
  (rm.cells = mc ∧ rm.slots = ms ∧ rm.frames + 1 ≤ R.frames ∧ 8 + (maxL + 11) + rm.locals ≤ R.locals ∧ (∀ w ∈ ws, ∀ (a' : Array Value) (U : State), s.WarmedH U.vm → w.before a' U = true) ∧ Cond.codeWith y bytes maxL ret hh ∈ ws) ∧
  (Cond.codeWith y bytes maxL ret hh).before args s = true ∧ (Cond.initialized y.cls).before args s = true ∧ (y.cls ≠ "java/lang/invoke/MethodHandle" ∧ y.cls ≠ "java/lang/invoke/VarHandle") ∧
  (∀ sig, parseMethodDescriptor y.desc = some sig → n = sig.parameters.length) ∧ (Cond.methodLink own index y).before args s = true ∧ (Cond.static y).before args s = true
theorem vx_cwSW {own : String} {index maxL mc ms : Nat} {y : MethodName} {bytes : ByteArray} {ret : Option FieldType} {hh : List (Nat × Nat × Nat × Nat)} {Ts ws ws' : List Cond} {rm : Room} (n : Nat) (ht : ∀ w ∈ Ts, w.before args s = true) (hT : GoodIn Ts (va_wsS own index y ws)) (hw : ws = Cond.codeWith y bytes maxL ret hh :: ws') (hrc : rm.cells = mc) (hrs : rm.slots = ms)
    (hd : y.cls ≠ "java/lang/invoke/MethodHandle" ∧ y.cls ≠ "java/lang/invoke/VarHandle" ∧ (parseMethodDescriptor y.desc).map (fun d => d.parameters.length) = some n) (hR : rm.frames + 1 ≤ R.frames ∧ 8 + (maxL + 11) + rm.locals ≤ R.locals) :
    vx_CSW R s args own index y bytes maxL ret hh ws rm mc ms n := by
  have ok : ∀ w ∈ va_wsS own index y ws, w.before args s = true := fun w h => ht w (hT w h).1
  have hG : GoodIn Ts ws := fun w h => hT w (by unfold va_wsS; exact List.mem_append_right _ h)
  have hc : Cond.codeWith y bytes maxL ret hh ∈ ws := by rw [hw]; exact List.mem_cons_self
  refine ⟨⟨hrc, hrs, hR.1, hR.2, pay_in ht hG, hc⟩, ht _ (hG _ hc).1, ok _ (by simp [va_wsS]), ⟨hd.1, hd.2.1⟩, fun sig h => ?_, ok _ (by simp [va_wsS]), ok _ (by simp [va_wsS])⟩
  have h2 := hd.2.2
  rw [h] at h2
  exact (Option.some.inj h2).symm
theorem vx_callSW (X : Stand p l e R s m args below meth c T locs cells slots) (hexec : p.tables.exec = Jvm.exec) {own : String} {index : Nat} {y : MethodName} {bytes : ByteArray} {maxL : Nat} {ret : Option FieldType} {hh : List (Nat × Nat × Nat × Nat)}
    (hown : s.vm.findClass own = some m.cls) (hlink : (Cond.methodLink own index y).before args s = true) (hstat : (Cond.static y).before args s = true) (hinit : (Cond.initialized y.cls).before args s = true)
    (hcode : (Cond.codeWith y bytes maxL ret hh).before args s = true) (hy : y.cls ≠ "java/lang/invoke/MethodHandle" ∧ y.cls ≠ "java/lang/invoke/VarHandle")
    {W9 : Nat} {Pre : Pt → Array Value → Prop} {Post : Pt → Array Value → Option Value → Pt → Prop} (hK : Back l R p e below s args y 3 W9 Pre Post)
    {g : JFrame} (hg : g.method = m) (hsize : g.locals.size = c.maxLocals) {argsL rest : List Value} (hlen : ∀ sig, parseMethodDescriptor y.desc = some sig → argsL.length = sig.parameters.length)
    (hstack : g.stack = argsL.reverse ++ rest) (hW : 2 * g.monitorRoom + (rest.map fun v => v.category).sum ≤ W9) (hdg : decode c.code g.pc = .ok (.invokestatic index, 3))
    (hpre : ∀ vm₁, s.WarmedH vm₁ → Pre ⟨T.setVm vm₁, locs, cells, slots⟩ argsL.toArray) :
    ∃ (v : Option Value) (vm₁ : Vm) (B : Pt), s.WarmedH vm₁ ∧ Stand p l e R s m args below meth c B.U B.locs B.cells B.slots ∧ Post ⟨T.setVm vm₁, locs, cells, slots⟩ argsL.toArray v B ∧
      ∀ target, Steps p.tables e below (B.U.setTop { g with pc := g.pc + 3, stack := v.toList ++ rest }) target → Steps p.tables e below (T.setTop g) target := by
  obtain ⟨mk, methM, cM, hnamed, hmethM, -, -, -, -, -, -, hsigM⟩ := Cond.codeWith_spec hcode
  have hstatic : methM.isStatic = true := Cond.static_spec hnamed hmethM hstat
  obtain ⟨kP, hkP, -⟩ := className_of_methodNamed hnamed
  have hinitP : kP.init = .initialized := Cond.initialized_spec (findClass_of_methodNamed hnamed) hkP hinit
  obtain ⟨vm₁, X₁, hstep₁⟩ := X.invokestatic hexec hown hlink hnamed hmethM hstatic hkP hinitP hy (g := g) hg (argsL := argsL) (rest := rest) (hlen _ hsigM) hstack hdg
  obtain ⟨v, B, X', hpost, hsteps⟩ := hK m meth c ⟨T.setVm vm₁, locs, cells, slots⟩ { g with stack := rest } (.invokestatic index) mk argsL.toArray X₁ hg hsize hdg hW (X₁.named hnamed) (hpre vm₁ X₁.warmed)
  exact ⟨v, vm₁, B, X₁.warmed, X', hpost, fun target h => hstep₁ _ fun acts => by rw [doInvoke_state]; exact hsteps.trans h⟩
theorem vx_runSW {y : MethodName} {bytes cc : ByteArray} {maxL nL mc ms n index : Nat} {ret : Option FieldType} {hh : List (Nat × Nat × Nat × Nat)} {ws : List Cond} {rm : Room} {Pc : Array Value → State → Prop} {Qc : Array Value → State → Outcome → State → Prop} {free : Addr → Prop} {Ts : List Cond} {own : String} {As rest : List Value} {g : JFrame}
    (S : CallFix p m c cc nL s args Ts own) (hM : Met l y ws rm Pc Qc mc ms free) (cw : vx_CSW R s args own index y bytes maxL ret hh ws rm mc ms n) (hp : PreS s H Pc As)
    (hg : g.method = m) (hn : As.length = n) (hsize : g.locals.size = nL) (hstack : g.stack = As.reverse ++ rest) (hW : 2 * g.monitorRoom + (rest.map fun v => v.category).sum ≤ 8) (hdg : decode cc g.pc = .ok (.invokestatic index, 3)) (hf : cells + mc ≤ R.cells ∧ slots + ms ≤ R.slots) :
    va_Run p l e R s m args below meth c H locs cells slots mc ms g rest (Qc As.toArray) (free) := by
  obtain ⟨⟨hrc, hrs, hfr, hlo, hws, hcw⟩, hcode, hini, hy, hlen, hl, hstt⟩ := cw
  have hK : Back l R p e below s args y 3 8 (PreOf R mc ms Pc) (PostOf Qc mc ms free) := va_backW (hh := hh) (bytes := bytes) (maxL := maxL) (ret := ret) hM hp.1 hrc hrs hfr hlo hws hcw (fun a' U hW => word_at hW (Or.inl (by first | rfl | simp [Cond.onTables, Cond.keeps, Cond.steady])) hini)
  obtain ⟨hx, hb, hml, ho, -⟩ := S
  intro T hT X
  obtain ⟨v, vm₁, ⟨U', l2, c2, s2⟩, hW₁, X', ⟨g', mk, t, L, e1, e2, hq, h1, hL, h2, h3⟩, st⟩ := vx_callSW X hx (hh := hh) (bytes := bytes) (maxL := maxL) (ret := ret) ho hl hstt hini hcode hy hK hg (hsize.trans hml.symm) (argsL := As) (rest := rest) (fun sig h => hn.trans (hlen sig h)) hstack hW (by rw [hb]; exact hdg)
    (fun vm₁ hW₁ => ⟨hf.1, hf.2, hp.2 (T.setVm vm₁) hT hW₁⟩)
  dsimp only [Pt.U, Pt.locs, Pt.cells, Pt.slots] at X' e1 e2 h1 h2 h3 st
  subst h1; subst h2; subst h3
  exact ⟨v, (T.setVm vm₁).calling g' mk As.toArray, t, U', L, hT, X', hL, e1, e2, hq, st⟩
/-- not caught here, past rows that name other classes: it goes on to the caller -/
theorem vx_outP {p : Program} {l : Launch} {e : Env} {R : Room} {s : State} {m : MethodId} {args : Array Value} {below : List Frame} {meth : Method} {c : Code} {H : Heap} {locs : List Loc} {cells slots : Nat} {free : Addr → Prop} {ls : Array Slot} {rest : List Value} {Qc : Array Value → State → Outcome → State → Prop} {XC : String → State → State → Prop}
    {pc : Nat} {own E : String} {ce : Cell} {q : Addr} {mc ms : Nat} (hown : s.vm.findClass own = some m.cls) (hlocks : meth.locks = false)
    (hpass : ∀ z ∈ c.exceptionTable.toList, covers z pc = false ∨ (z.catchType ≠ 0 ∧ ∃ nm : String, (Cond.classLink own z.catchType nm).before args s = true ∧ va_Nc E nm s)) (hcell : H[q]? = some ce) (hv : ce.vm = .none) (hcl : s.vm.findClass E = some ce.cls)
    (hx : ∀ t : State, t.heap = H → s.vm.Alike t.vm → XC E s t) (hf : ∀ z ∈ locs, free z.base) (hc : cells ≤ mc) (hs : slots ≤ ms) :
    vx_W p l e R s m args below meth c H locs cells slots (vx_MQ below Qc XC args s mc ms free) (F0 m pc ls rest) q := by
  intro T hT X
  have hpl : e.platform.magicAccessors = ({} : Platform).magicAccessors := by rw [X.admits.platform]
  obtain ⟨vm', hW', X', st⟩ := X.outThrough hlocks q (g := F0 m pc ls rest) rfl rfl rfl (cell := ce) (by rw [hT]; exact hcell) (by rw [hv]; rfl)
    (by obtain ⟨k9, h9, -⟩ := Vm.findClass_spec hcl; exact ⟨k9, h9⟩) (fun z hz => by
      rcases hpass z hz with h | ⟨hz0, nm, hl1, hn1⟩
      · exact Or.inl h
      · obtain ⟨c6, hc6, hcl6⟩ := Cond.classLink_spec hown hl1 e.platform hpl
        obtain ⟨a8, b8, h1, h2, h3⟩ := hn1
        cases Option.some.inj (h1.symm.trans hcl)
        cases Option.some.inj (h2.symm.trans hc6)
        exact Or.inr ⟨hz0, _, hcl6, h3⟩)
  obtain ⟨g₀, hfr⟩ := X'.frames_eq
  have hcell9 : ((T.setVm vm').setFrames (.throwing q :: below)).heap[q]? = some ce := by
    show T.heap[q]? = some ce
    rw [hT]; exact hcell
  have hend : Ended ((T.setVm vm').setFrames (.throwing q :: below)) below (.threw q) := State.frames_setFrames _ (State.cur_lt_of_frames hfr)
  refine ⟨(T.setVm vm').setFrames (.throwing q :: below), ?_, .threw q, X'.here.running, hend, Or.inr ⟨q, rfl, E, ce, locs, hx _ hT (X'.ends _).1.alike, hcell9, hv, hcl, (X'.ends _).1, (X'.ends _).2.mono hc hs, hf⟩⟩
  rw [X.pushThrowing_eq]
  exact st
/-- a thing of a world lies in the heap -/
theorem vx_lt {D : va_G} {cl : List vw_C} {ws : va_W} {H1 : Heap} (h : va_P D cl ws H1) {k : Nat} {q : Nat × va_E} (hk : ws[k]? = some q) : q.1 < H1.size := (h k q hk).lt
end VXS
/-! ===== END ===== -/
/-! ===== BEGIN methods with a table of their own: called by a name, returning or throwing ===== -/
section VXH
/-! vx_backW, vx_callVX, vx_callSX, vx_callVW, vx_runVW, vx_runVX, vx_runSX, vx_ofWH follow the same proofs as their sisters above (Free/Laws.lean, Shelf42/LK1.lean); vx_outP calls Shelf42/NT130.lean (outThrough). -/
section
variable {l : Launch} {R : Room} {p : Program} {e : Env} {below : List Frame} {s : State} {sargs : Array Value} {y : MethodName} {len W9 : Nat}
theorem vx_backW {ws : List Cond} {rm : Room} {Pc : Array Value → State → Prop} {Qc : Array Value → State → Outcome → State → Prop} {XC : String → State → State → Prop} {mc ms : Nat} {free : Addr → Prop} {bytes : ByteArray} {maxL : Nat} {ret : Option FieldType} {hh : List (Nat × Nat × Nat × Nat)}
    (hM : vx_Met l y ws rm Pc Qc XC mc ms free) (hblind : FrameBlind Pc) (hrc : rm.cells = mc) (hrs : rm.slots = ms)
    (hframes : rm.frames + 1 ≤ R.frames) (hlocals : W9 + (maxL + 11) + rm.locals ≤ R.locals)
    (hws : ∀ w ∈ ws, ∀ a' U, s.WarmedH U.vm → w.before a' U = true) (hcode : Cond.codeWith y bytes maxL ret hh ∈ ws) (hinit : ∀ a' U, s.WarmedH U.vm → (Cond.initialized y.cls).before a' U = true) :
    vx_Back l R p e below s sargs y len W9 (PreOf R mc ms Pc) (PostOf Qc mc ms free) (vx_Post XC mc ms free) := by
  intro m meth c A g ig mk a X hg hsize hdg hW hn hp
  have h1 : (headSpec ws rm).pre.before a A.U = true := atoms_intro fun w hw => hws w hw _ _ X.warmed
  have h2 : (Cond.codeWith y bytes maxL ret hh).before a A.U = true := hws _ hcode _ _ X.warmed
  have h3 : (Cond.initialized y.cls).before a A.U = true := hinit _ _ X.warmed
  have h4 : A.cells + (headSpec ws rm).room.cells ≤ R.cells := by rw [show (headSpec ws rm).room.cells = mc from hrc]; exact hp.1
  have h5 : A.slots + (headSpec ws rm).room.slots ≤ R.slots := by rw [show (headSpec ws rm).room.slots = ms from hrs]; exact hp.2.1
  have hPc : Pc a (A.U.calling g mk a) := hblind _ _ _ _ hp.2.2
  obtain ⟨U, Ls, c0, s0⟩ := A
  dsimp only [Pt.U, Pt.locs, Pt.cells, Pt.slots] at h1 h2 h3 h4 h5 X hn hPc ⊢
  obtain ⟨m9, methY, cY, hn9, hmY, hcY, -, hlY, -⟩ := Cond.codeWith_spec h2
  cases Option.some.inj (hn9.symm.trans hn)
  obtain ⟨kY, hkY, -⟩ := className_of_methodNamed hn
  have hinitY : kY.init = .initialized := Cond.initialized_spec (findClass_of_methodNamed hn) hkY h3
  have h : At U g.method c below := by rw [hg]; exact X.here
  have hlocals9 : W9 + (maxL + 11) + (headSpec ws rm).room.locals ≤ R.locals := hlocals
  have happ : (headSpec ws rm).appliesLoose y e.platform (U.calling g mk a) = true :=
    Spec.appliesLoose_calling (g := g) h hdg hn hkY hinitY
      (X.room_calling (g := g) (R' := (headSpec ws rm).room) hsize hmY hcY hframes (by rw [hlY]; omega) h4 h5) h1
  obtain ⟨mid, hmid⟩ := h.above
  have hfr : (U.setTop g).frames = (.java g :: mid) ++ below := by rw [State.frames_setTop' g h.top, hmid]; rfl
  obtain ⟨o, s₂, hsteps, -, hend, hq⟩ := Steps.callFree hM p X.admits X.cas X.clock (acts := []) hfr happ hPc trivial
  have hq' : vx_Q Qc XC mc ms free a (U.calling g mk a) o s₂ := hq
  rw [State.frames_setTop' g h.top] at hend
  obtain ⟨g₀, hg0⟩ := Option.isSome_iff_exists.mp h.top
  obtain ⟨r, hr⟩ := State.topJava?_eq_some.mp hg0
  have hr' : (({ U with heap := s₂.heap, slotsUsed := s₂.slotsUsed } : State).setVm s₂.vm).frames = .java g₀ :: r := hr
  rcases hq' with ⟨hqc, L, hfe, hL⟩ | ⟨q, rfl, E, ce, L, hx, hce, hcv, hcl, hW₂, hsm, hL⟩
  · obtain ⟨⟨v, rfl⟩, hW₂, e2, q2, q3, q4, q5, q6⟩ := id hfe
    have e3 : s₂ = ({ (U.calling g mk a).setFrames s₂.frames with heap := s₂.heap, slotsUsed := s₂.slotsUsed } : State).setVm s₂.vm := by
      have : s₂ = ({ s₂ with vm := (U.calling g mk a).vm } : State).setVm s₂.vm := rfl
      rw [e2] at this
      exact this
    obtain ⟨c₂, i₂, len₂, hc₂, hd₂, hf₂⟩ := hend
    have hW' : U.WarmedH s₂.vm := hW₂
    have hcc : c₂ = c := by
      have h1 : s₂.code? g.method = U.code? g.method := by
        rw [State.code?_eq, State.code?_eq, hW'.alike.method?]
      exact Option.some.inj (hc₂.symm.trans (h1.trans h.code))
    subst hcc
    have hlen : len₂ = len := by rw [hdg] at hd₂; cases hd₂; rfl
    subst hlen
    have hs₂ : s₂ = (({ U with heap := s₂.heap, slotsUsed := s₂.slotsUsed } : State).setVm s₂.vm).setTop { g with pc := g.pc + len₂, stack := v.toList ++ g.stack } := by
      refine e3.trans ?_
      rw [hf₂, State.calling_eq h.top, State.setFrames_setFrames, State.setTop_of_frames _ hr', hr]
      rfl
    have hsame : U.sameButNew ({ U with heap := s₂.heap, slotsUsed := s₂.slotsUsed } : State) L mc ms := by
      refine ⟨?_, q2, q3, q4, q5, q6⟩
      obtain ⟨t, ht, -⟩ := State.frames_cons hr
      show ({ U with heap := s₂.heap, slotsUsed := s₂.slotsUsed } : State) = { U.setFrames U.frames with heap := s₂.heap, slotsUsed := s₂.slotsUsed }
      rw [State.setFrames_self ht]
    subst hg
    refine Or.inl ⟨v, ⟨(({ U with heap := s₂.heap, slotsUsed := s₂.slotsUsed } : State).setVm s₂.vm), Ls ++ L, c0 + mc, s0 + ms⟩,
      ⟨X.admits, X.cas, X.clock, X.frames, X.room, X.hears, X.method, X.code, (X.here.setHeapUsed s₂.heap s₂.slotsUsed).setVm hW'.alike, X.tail, State.WarmedH.trans X.warmed hW', X.limits, X.bytes, X.same.trans (hsame.setVm s.vm)⟩,
      ⟨g, mk, s₂, L, rfl, rfl, hqc, rfl, hL, rfl, rfl⟩, ?_⟩
    show Steps p.tables e below _ ((({ U with heap := s₂.heap, slotsUsed := s₂.slotsUsed } : State).setVm s₂.vm).setTop { g with pc := g.pc + len₂, stack := v.toList ++ g.stack })
    rw [← hs₂]
    exact hsteps
  · obtain ⟨e2, q2, q3, q4, q5, q6⟩ := id hsm
    have e3 : s₂ = ({ (U.calling g mk a).setFrames s₂.frames with heap := s₂.heap, slotsUsed := s₂.slotsUsed } : State).setVm s₂.vm := by
      have : s₂ = ({ s₂ with vm := (U.calling g mk a).vm } : State).setVm s₂.vm := rfl
      rw [e2] at this
      exact this
    have hf₂ : s₂.frames = .throwing q :: .java g :: U.frames.tail := hend
    have hW' : U.WarmedH s₂.vm := hW₂
    have hs₂ : s₂ = ((({ U with heap := s₂.heap, slotsUsed := s₂.slotsUsed } : State).setVm s₂.vm).setTop g).pushFrame (.throwing q) := by
      refine e3.trans ?_
      rw [hf₂, State.calling_eq h.top, State.setFrames_setFrames, State.pushFrame, State.frames_setTop _ hr', State.setTop_of_frames _ hr', State.setFrames_setFrames, hr]
      rfl
    have hsame : U.sameButNew ({ U with heap := s₂.heap, slotsUsed := s₂.slotsUsed } : State) L mc ms := by
      refine ⟨?_, q2, q3, q4, q5, q6⟩
      obtain ⟨t, ht, -⟩ := State.frames_cons hr
      show ({ U with heap := s₂.heap, slotsUsed := s₂.slotsUsed } : State) = { U.setFrames U.frames with heap := s₂.heap, slotsUsed := s₂.slotsUsed }
      rw [State.setFrames_self ht]
    subst hg
    refine Or.inr ⟨q, ⟨(({ U with heap := s₂.heap, slotsUsed := s₂.slotsUsed } : State).setVm s₂.vm), Ls ++ L, c0 + mc, s0 + ms⟩,
      ⟨X.admits, X.cas, X.clock, X.frames, X.room, X.hears, X.method, X.code, (X.here.setHeapUsed s₂.heap s₂.slotsUsed).setVm hW'.alike, X.tail, State.WarmedH.trans X.warmed hW', X.limits, X.bytes, X.same.trans (hsame.setVm s.vm)⟩,
      ⟨g, mk, s₂, L, E, ce, rfl, rfl, hx, hce, hcv, hcl, rfl, hL, rfl, rfl⟩, ?_⟩
    show Steps p.tables e below _ (((({ U with heap := s₂.heap, slotsUsed := s₂.slotsUsed } : State).setVm s₂.vm).setTop g).pushFrame (.throwing q))
    rw [← hs₂]
    exact hsteps
end
variable {p : Program} {l : Launch} {e : Env} {R : Room} {s : State} {m : MethodId} {args : Array Value} {below : List Frame} {meth : Method} {c : Code} {T : State} {H : Heap} {locs : List Loc} {cells slots : Nat}
theorem vx_callVX (X : Stand p l e R s m args below meth c T locs cells slots) (hexec : p.tables.exec = Jvm.exec) {own C : String} {index : Nat} {y : MethodName} {bytes : ByteArray} {maxL : Nat} {ret : Option FieldType} {hh : List (Nat × Nat × Nat × Nat)}
    (hown : s.vm.findClass own = some m.cls) (hlink : (Cond.methodLink own index y).before args s = true) (hinst : (Cond.instanceMethod y).before args s = true) (hsel : (Cond.selects C y y).before args s = true)
    (hcode : (Cond.codeWith y bytes maxL ret hh).before args s = true) (hy : y.cls ≠ "java/lang/invoke/MethodHandle" ∧ y.cls ≠ "java/lang/invoke/VarHandle")
    {W9 : Nat} {Pre : Pt → Array Value → Prop} {Post : Pt → Array Value → Option Value → Pt → Prop} {PostX : Pt → Array Value → Addr → Pt → Prop} (hK : vx_Back l R p e below s args y 3 W9 Pre Post PostX)
    {b : Addr} {cellB : Cell} (hcell : T.heap[b]? = some cellB) (hobj : cellB.vm.isStatics = false) (hcls : s.vm.findClass C = some cellB.cls)
    {g : JFrame} (hg : g.method = m) (hsize : g.locals.size = c.maxLocals) {argsL rest : List Value} (hlen : ∀ sig, parseMethodDescriptor y.desc = some sig → argsL.length = sig.parameters.length)
    (hstack : g.stack = argsL.reverse ++ .ref b :: rest) (hW : 2 * g.monitorRoom + (rest.map fun v => v.category).sum ≤ W9) (hdg : decode c.code g.pc = .ok (.invokevirtual index, 3))
    (hpre : ∀ vm₁, s.WarmedH vm₁ → Pre ⟨T.setVm vm₁, locs, cells, slots⟩ (Value.ref b :: argsL).toArray) :
    (∃ (v : Option Value) (vm₁ : Vm) (B : Pt), s.WarmedH vm₁ ∧ Stand p l e R s m args below meth c B.U B.locs B.cells B.slots ∧ Post ⟨T.setVm vm₁, locs, cells, slots⟩ (Value.ref b :: argsL).toArray v B ∧
      ∀ target, Steps p.tables e below (B.U.setTop { g with pc := g.pc + 3, stack := v.toList ++ rest }) target → Steps p.tables e below (T.setTop g) target) ∨
    (∃ (q : Addr) (vm₁ : Vm) (B : Pt), s.WarmedH vm₁ ∧ Stand p l e R s m args below meth c B.U B.locs B.cells B.slots ∧ PostX ⟨T.setVm vm₁, locs, cells, slots⟩ (Value.ref b :: argsL).toArray q B ∧
      Steps p.tables e below (T.setTop g) ((B.U.setTop { g with stack := rest }).pushFrame (.throwing q))) := by
  obtain ⟨mk, methM, hnamed, hmethM, hstM, habM⟩ := Cond.instanceMethod_spec hinst
  obtain ⟨m8, methM', cM, hn8, hmethM', -, -, -, -, -, -, hsigM⟩ := Cond.codeWith_spec hcode
  cases Option.some.inj (hn8.symm.trans hnamed)
  cases hmethM.symm.trans hmethM'
  obtain ⟨c2, r2, m2, q1, q2, q3, q4, kP, hkP, hkPi⟩ := Cond.selects_spec hsel
  cases hcls.symm.trans q1
  cases (State.methodFound?_of_named hnamed hy).symm.trans q2
  cases hnamed.symm.trans q3
  have hselP : selectMethod e.platform s.vm cellB.cls mk = .method mk := by rw [Launch.admits_selectMethod X.admits]; exact q4
  obtain ⟨vm₁, X₁, hstep₁⟩ := X.invokevirtual hexec hown hlink hnamed hmethM hstM hkP hkPi hy (a := b) (cell := cellB) hcell
    (fun z h => by rw [h] at hobj; cases hobj) hselP hmethM habM hkP hkPi (g := g) hg (argsL := argsL) (rest := rest) (hlen _ hsigM) hstack hdg
  rcases hK m meth c ⟨T.setVm vm₁, locs, cells, slots⟩ { g with stack := rest } (.invokevirtual index) mk (Value.ref b :: argsL).toArray X₁ hg hsize hdg hW (X₁.named hnamed) (hpre vm₁ X₁.warmed) with ⟨v, B, X', hpost, hsteps⟩ | ⟨q, B, X', hpost, hsteps⟩
  · exact Or.inl ⟨v, vm₁, B, X₁.warmed, X', hpost, fun target h => hstep₁ _ fun acts => by rw [doInvoke_state]; exact hsteps.trans h⟩
  · exact Or.inr ⟨q, vm₁, B, X₁.warmed, X', hpost, hstep₁ _ fun acts => by rw [doInvoke_state]; exact hsteps⟩
theorem vx_callSX (X : Stand p l e R s m args below meth c T locs cells slots) (hexec : p.tables.exec = Jvm.exec) {own : String} {index : Nat} {y : MethodName} {bytes : ByteArray} {maxL : Nat} {ret : Option FieldType} {hh : List (Nat × Nat × Nat × Nat)}
    (hown : s.vm.findClass own = some m.cls) (hlink : (Cond.methodLink own index y).before args s = true) (hstat : (Cond.static y).before args s = true) (hinit : (Cond.initialized y.cls).before args s = true)
    (hcode : (Cond.codeWith y bytes maxL ret hh).before args s = true) (hy : y.cls ≠ "java/lang/invoke/MethodHandle" ∧ y.cls ≠ "java/lang/invoke/VarHandle")
    {W9 : Nat} {Pre : Pt → Array Value → Prop} {Post : Pt → Array Value → Option Value → Pt → Prop} {PostX : Pt → Array Value → Addr → Pt → Prop} (hK : vx_Back l R p e below s args y 3 W9 Pre Post PostX)
    {g : JFrame} (hg : g.method = m) (hsize : g.locals.size = c.maxLocals) {argsL rest : List Value} (hlen : ∀ sig, parseMethodDescriptor y.desc = some sig → argsL.length = sig.parameters.length)
    (hstack : g.stack = argsL.reverse ++ rest) (hW : 2 * g.monitorRoom + (rest.map fun v => v.category).sum ≤ W9) (hdg : decode c.code g.pc = .ok (.invokestatic index, 3))
    (hpre : ∀ vm₁, s.WarmedH vm₁ → Pre ⟨T.setVm vm₁, locs, cells, slots⟩ argsL.toArray) :
    (∃ (v : Option Value) (vm₁ : Vm) (B : Pt), s.WarmedH vm₁ ∧ Stand p l e R s m args below meth c B.U B.locs B.cells B.slots ∧ Post ⟨T.setVm vm₁, locs, cells, slots⟩ argsL.toArray v B ∧
      ∀ target, Steps p.tables e below (B.U.setTop { g with pc := g.pc + 3, stack := v.toList ++ rest }) target → Steps p.tables e below (T.setTop g) target) ∨
    (∃ (q : Addr) (vm₁ : Vm) (B : Pt), s.WarmedH vm₁ ∧ Stand p l e R s m args below meth c B.U B.locs B.cells B.slots ∧ PostX ⟨T.setVm vm₁, locs, cells, slots⟩ argsL.toArray q B ∧
      Steps p.tables e below (T.setTop g) ((B.U.setTop { g with stack := rest }).pushFrame (.throwing q))) := by
  obtain ⟨mk, methM, cM, hnamed, hmethM, -, -, -, -, -, -, hsigM⟩ := Cond.codeWith_spec hcode
  have hstatic : methM.isStatic = true := Cond.static_spec hnamed hmethM hstat
  obtain ⟨kP, hkP, -⟩ := className_of_methodNamed hnamed
  have hinitP : kP.init = .initialized := Cond.initialized_spec (findClass_of_methodNamed hnamed) hkP hinit
  obtain ⟨vm₁, X₁, hstep₁⟩ := X.invokestatic hexec hown hlink hnamed hmethM hstatic hkP hinitP hy (g := g) hg (argsL := argsL) (rest := rest) (hlen _ hsigM) hstack hdg
  rcases hK m meth c ⟨T.setVm vm₁, locs, cells, slots⟩ { g with stack := rest } (.invokestatic index) mk argsL.toArray X₁ hg hsize hdg hW (X₁.named hnamed) (hpre vm₁ X₁.warmed) with ⟨v, B, X', hpost, hsteps⟩ | ⟨q, B, X', hpost, hsteps⟩
  · exact Or.inl ⟨v, vm₁, B, X₁.warmed, X', hpost, fun target h => hstep₁ _ fun acts => by rw [doInvoke_state]; exact hsteps.trans h⟩
  · exact Or.inr ⟨q, vm₁, B, X₁.warmed, X', hpost, hstep₁ _ fun acts => by rw [doInvoke_state]; exact hsteps⟩
theorem vx_callVW (X : Stand p l e R s m args below meth c T locs cells slots) (hexec : p.tables.exec = Jvm.exec) {own C : String} {index : Nat} {y : MethodName} {bytes : ByteArray} {maxL : Nat} {ret : Option FieldType} {hh : List (Nat × Nat × Nat × Nat)}
    (hown : s.vm.findClass own = some m.cls) (hlink : (Cond.methodLink own index y).before args s = true) (hinst : (Cond.instanceMethod y).before args s = true) (hsel : (Cond.selects C y y).before args s = true)
    (hcode : (Cond.codeWith y bytes maxL ret hh).before args s = true) (hy : y.cls ≠ "java/lang/invoke/MethodHandle" ∧ y.cls ≠ "java/lang/invoke/VarHandle")
    {W9 : Nat} {Pre : Pt → Array Value → Prop} {Post : Pt → Array Value → Option Value → Pt → Prop} (hK : Back l R p e below s args y 3 W9 Pre Post)
    {b : Addr} {cellB : Cell} (hcell : T.heap[b]? = some cellB) (hobj : cellB.vm.isStatics = false) (hcls : s.vm.findClass C = some cellB.cls)
    {g : JFrame} (hg : g.method = m) (hsize : g.locals.size = c.maxLocals) {argsL rest : List Value} (hlen : ∀ sig, parseMethodDescriptor y.desc = some sig → argsL.length = sig.parameters.length)
    (hstack : g.stack = argsL.reverse ++ .ref b :: rest) (hW : 2 * g.monitorRoom + (rest.map fun v => v.category).sum ≤ W9) (hdg : decode c.code g.pc = .ok (.invokevirtual index, 3))
    (hpre : ∀ vm₁, s.WarmedH vm₁ → Pre ⟨T.setVm vm₁, locs, cells, slots⟩ (Value.ref b :: argsL).toArray) :
    ∃ (v : Option Value) (vm₁ : Vm) (B : Pt), s.WarmedH vm₁ ∧ Stand p l e R s m args below meth c B.U B.locs B.cells B.slots ∧ Post ⟨T.setVm vm₁, locs, cells, slots⟩ (Value.ref b :: argsL).toArray v B ∧
      ∀ target, Steps p.tables e below (B.U.setTop { g with pc := g.pc + 3, stack := v.toList ++ rest }) target → Steps p.tables e below (T.setTop g) target := by
  obtain ⟨mk, methM, hnamed, hmethM, hstM, habM⟩ := Cond.instanceMethod_spec hinst
  obtain ⟨m8, methM', cM, hn8, hmethM', -, -, -, -, -, -, hsigM⟩ := Cond.codeWith_spec hcode
  cases Option.some.inj (hn8.symm.trans hnamed)
  cases hmethM.symm.trans hmethM'
  obtain ⟨c2, r2, m2, q1, q2, q3, q4, kP, hkP, hkPi⟩ := Cond.selects_spec hsel
  cases hcls.symm.trans q1
  cases (State.methodFound?_of_named hnamed hy).symm.trans q2
  cases hnamed.symm.trans q3
  have hselP : selectMethod e.platform s.vm cellB.cls mk = .method mk := by rw [Launch.admits_selectMethod X.admits]; exact q4
  obtain ⟨vm₁, X₁, hstep₁⟩ := X.invokevirtual hexec hown hlink hnamed hmethM hstM hkP hkPi hy (a := b) (cell := cellB) hcell
    (fun z h => by rw [h] at hobj; cases hobj) hselP hmethM habM hkP hkPi (g := g) hg (argsL := argsL) (rest := rest) (hlen _ hsigM) hstack hdg
  obtain ⟨v, B, X', hpost, hsteps⟩ := hK m meth c ⟨T.setVm vm₁, locs, cells, slots⟩ { g with stack := rest } (.invokevirtual index) mk (Value.ref b :: argsL).toArray X₁ hg hsize hdg hW (X₁.named hnamed) (hpre vm₁ X₁.warmed)
  exact ⟨v, vm₁, B, X₁.warmed, X', hpost, fun target h => hstep₁ _ fun acts => by rw [doInvoke_state]; exact hsteps.trans h⟩
abbrev vx_CVW (R : Room) (s : State) (args : Array Value) (own C : String) (index : Nat) (y : MethodName) (bytes : ByteArray) (maxL : Nat) (ret : Option FieldType) (hh : List (Nat × Nat × Nat × Nat)) (ws : List Cond) (rm : Room) (mc ms n : Nat) : Prop :=
  (rm.cells = mc ∧ rm.slots = ms ∧ rm.frames + 1 ≤ R.frames ∧ 8 + (maxL + 11) + rm.locals ≤ R.locals ∧ (∀ w ∈ ws, ∀ (a' : Array Value) (U : State), s.WarmedH U.vm → w.before a' U = true) ∧ Cond.codeWith y bytes maxL ret hh ∈ ws) ∧
  (Cond.codeWith y bytes maxL ret hh).before args s = true ∧ (Cond.initialized y.cls).before args s = true ∧ (y.cls ≠ "java/lang/invoke/MethodHandle" ∧ y.cls ≠ "java/lang/invoke/VarHandle") ∧
  (∀ sig, parseMethodDescriptor y.desc = some sig → n = sig.parameters.length) ∧ (Cond.methodLink own index y).before args s = true ∧ (Cond.instanceMethod y).before args s = true ∧ (Cond.selects C y y).before args s = true
theorem vx_cwVW {own C : String} {index maxL mc ms : Nat} {y : MethodName} {bytes : ByteArray} {ret : Option FieldType} {hh : List (Nat × Nat × Nat × Nat)} {Ts ws ws' : List Cond} {rm : Room} (n : Nat) (ht : ∀ w ∈ Ts, w.before args s = true) (hT : GoodIn Ts (wsV own index C y ws)) (hw : ws = Cond.codeWith y bytes maxL ret hh :: ws') (hrc : rm.cells = mc) (hrs : rm.slots = ms)
    (hd : y.cls = C ∧ y.cls ≠ "java/lang/invoke/MethodHandle" ∧ y.cls ≠ "java/lang/invoke/VarHandle" ∧ (parseMethodDescriptor y.desc).map (fun d => d.parameters.length) = some n) (hR : rm.frames + 1 ≤ R.frames ∧ 8 + (maxL + 11) + rm.locals ≤ R.locals) :
    vx_CVW R s args own C index y bytes maxL ret hh ws rm mc ms n := by
  obtain ⟨hC, hd⟩ := hd
  subst hC
  have ok : ∀ w ∈ wsV own index y.cls y ws, w.before args s = true := fun w h => ht w (hT w h).1
  have hG : GoodIn Ts ws := fun w h => hT w (by unfold wsV; exact List.mem_append_right _ h)
  have hc : Cond.codeWith y bytes maxL ret hh ∈ ws := by rw [hw]; exact List.mem_cons_self
  refine ⟨⟨hrc, hrs, hR.1, hR.2, pay_in ht hG, hc⟩, ht _ (hG _ hc).1, ok _ (by simp [wsV]), ⟨hd.1, hd.2.1⟩, fun sig h => ?_, ok _ (by simp [wsV]), ok _ (by simp [wsV]), ok _ (by simp [wsV])⟩
  have h2 := hd.2.2
  rw [h] at h2
  exact (Option.some.inj h2).symm
theorem vx_runVW {y : MethodName} {bytes cc : ByteArray} {maxL nL mc ms n index : Nat} {ret : Option FieldType} {hh : List (Nat × Nat × Nat × Nat)} {ws : List Cond} {rm : Room} {Pc : Array Value → State → Prop} {Qc : Array Value → State → Outcome → State → Prop} {free : Addr → Prop} {Ts : List Cond} {own C : String} {b : Addr} {As rest : List Value} {g : JFrame}
    (S : CallFix p m c cc nL s args Ts own) (hM : Met l y ws rm Pc Qc mc ms free) (cw : vx_CVW R s args own C index y bytes maxL ret hh ws rm mc ms n) (hp : PreV s H C b Pc As)
    (hg : g.method = m) (hn : As.length = n) (hsize : g.locals.size = nL) (hstack : g.stack = As.reverse ++ .ref b :: rest) (hW : 2 * g.monitorRoom + (rest.map fun v => v.category).sum ≤ 8) (hdg : decode cc g.pc = .ok (.invokevirtual index, 3)) (hf : cells + mc ≤ R.cells ∧ slots + ms ≤ R.slots) :
    va_Run p l e R s m args below meth c H locs cells slots mc ms g rest (Qc (Value.ref b :: As).toArray) free := by
  obtain ⟨⟨hrc, hrs, hfr, hlo, hws, hcw⟩, hcode, hini, hy, hlen, hl, hin, hse⟩ := cw
  have hK : Back l R p e below s args y 3 8 (PreOf R mc ms Pc) (PostOf Qc mc ms free) := va_backW (hh := hh) (bytes := bytes) (maxL := maxL) (ret := ret) hM hp.1 hrc hrs hfr hlo hws hcw (fun a' U hW => word_at hW (Or.inl (by first | rfl | simp [Cond.onTables, Cond.keeps, Cond.steady])) hini)
  obtain ⟨hx, hb, hml, ho, -⟩ := S
  obtain ⟨-, ⟨cellB, hcB, hoB, hclB⟩, hPc⟩ := hp
  intro T hT X
  obtain ⟨v, vm₁, ⟨U', l2, c2, s2⟩, hW₁, X', ⟨g', mk, t, L, e1, e2, hq, h1, hL, h2, h3⟩, st⟩ := vx_callVW X hx (C := C) (hh := hh) (bytes := bytes) (maxL := maxL) (ret := ret) ho hl hin hse hcode hy hK (by rw [hT]; exact hcB) hoB hclB hg (hsize.trans hml.symm) (argsL := As) (rest := rest) (fun sig h => hn.trans (hlen sig h)) hstack hW (by rw [hb]; exact hdg)
    (fun vm₁ hW₁ => ⟨hf.1, hf.2, hPc (T.setVm vm₁) hT hW₁⟩)
  dsimp only [Pt.U, Pt.locs, Pt.cells, Pt.slots] at X' e1 e2 h1 h2 h3 st
  subst h1; subst h2; subst h3
  exact ⟨v, (T.setVm vm₁).calling g' mk (Value.ref b :: As).toArray, t, U', L, hT, X', hL, e1, e2, hq, st⟩
section
variable {y : MethodName} {bytes cc : ByteArray} {maxL nL mc ms n index : Nat} {ret : Option FieldType} {ws : List Cond} {rm : Room} {Pc : Array Value → State → Prop} {Qc : Array Value → State → Outcome → State → Prop} {XC : String → State → State → Prop} {free : Addr → Prop} {Ts : List Cond} {own C : String} {b : Addr} {As rest : List Value} {g : JFrame}
theorem vx_runVX {hh : List (Nat × Nat × Nat × Nat)} (S : CallFix p m c cc nL s args Ts own) (hM : vx_Met l y ws rm Pc Qc XC mc ms free) (cw : vx_CVW R s args own C index y bytes maxL ret hh ws rm mc ms n) (hp : PreV s H C b Pc As)
    (hg : g.method = m) (hn : As.length = n) (hsize : g.locals.size = nL) (hstack : g.stack = As.reverse ++ .ref b :: rest) (hW : 2 * g.monitorRoom + (rest.map fun v => v.category).sum ≤ 8) (hdg : decode cc g.pc = .ok (.invokevirtual index, 3)) (hf : cells + mc ≤ R.cells ∧ slots + ms ≤ R.slots) :
    vx_Run p l e R s m args below meth c H locs cells slots mc ms g rest (Qc (Value.ref b :: As).toArray) XC free := by
  obtain ⟨⟨hrc, hrs, hfr, hlo, hws, hcw⟩, hcode, hini, hy, hlen, hl, hin, hse⟩ := cw
  have hK : vx_Back l R p e below s args y 3 8 (PreOf R mc ms Pc) (PostOf Qc mc ms free) (vx_Post XC mc ms free) := vx_backW (hh := hh) (bytes := bytes) (maxL := maxL) (ret := ret) hM hp.1 hrc hrs hfr hlo hws hcw (fun a' U hW => word_at hW (Or.inl (by first | rfl | simp [Cond.onTables, Cond.keeps, Cond.steady])) hini)
  obtain ⟨hx, hb, hml, ho, -⟩ := S
  obtain ⟨-, ⟨cellB, hcB, hoB, hclB⟩, hPc⟩ := hp
  intro T hT X
  rcases vx_callVX X hx (C := C) (hh := hh) (bytes := bytes) (maxL := maxL) (ret := ret) ho hl hin hse hcode hy hK (by rw [hT]; exact hcB) hoB hclB hg (hsize.trans hml.symm) (argsL := As) (rest := rest) (fun sig h => hn.trans (hlen sig h)) hstack hW (by rw [hb]; exact hdg)
    (fun vm₁ hW₁ => ⟨hf.1, hf.2, hPc (T.setVm vm₁) hT hW₁⟩) with ⟨v, vm₁, ⟨U', l2, c2, s2⟩, hW₁, X', ⟨g', mk, t, L, e1, e2, hq, h1, hL, h2, h3⟩, st⟩ | ⟨q, vm₁, ⟨U', l2, c2, s2⟩, hW₁, X', ⟨g', mk, t, L, E, ce, e1, e2, hq, hce, hcv, hcl, h1, hL, h2, h3⟩, st⟩
  · dsimp only [Pt.U, Pt.locs, Pt.cells, Pt.slots] at X' e1 e2 h1 h2 h3 st
    subst h1; subst h2; subst h3
    exact Or.inl ⟨v, (T.setVm vm₁).calling g' mk (Value.ref b :: As).toArray, t, U', L, hT, X', hL, e1, e2, hq, st⟩
  · dsimp only [Pt.U, Pt.locs, Pt.cells, Pt.slots] at X' e1 e2 h1 h2 h3 st hcl
    subst h1; subst h2; subst h3
    exact Or.inr ⟨q, (T.setVm vm₁).calling g' mk (Value.ref b :: As).toArray, t, U', L, E, ce, hT, X', hL, e1, e2, hq, hce, hcv, vx_cls hW₁ hcl, st⟩
theorem vx_runSX {hh : List (Nat × Nat × Nat × Nat)} (S : CallFix p m c cc nL s args Ts own) (hM : vx_Met l y ws rm Pc Qc XC mc ms free) (cw : vx_CSW R s args own index y bytes maxL ret hh ws rm mc ms n) (hp : PreS s H Pc As)
    (hg : g.method = m) (hn : As.length = n) (hsize : g.locals.size = nL) (hstack : g.stack = As.reverse ++ rest) (hW : 2 * g.monitorRoom + (rest.map fun v => v.category).sum ≤ 8) (hdg : decode cc g.pc = .ok (.invokestatic index, 3)) (hf : cells + mc ≤ R.cells ∧ slots + ms ≤ R.slots) :
    vx_Run p l e R s m args below meth c H locs cells slots mc ms g rest (Qc As.toArray) XC free := by
  obtain ⟨⟨hrc, hrs, hfr, hlo, hws, hcw⟩, hcode, hini, hy, hlen, hl, hstt⟩ := cw
  have hK : vx_Back l R p e below s args y 3 8 (PreOf R mc ms Pc) (PostOf Qc mc ms free) (vx_Post XC mc ms free) := vx_backW (hh := hh) (bytes := bytes) (maxL := maxL) (ret := ret) hM hp.1 hrc hrs hfr hlo hws hcw (fun a' U hW => word_at hW (Or.inl (by first | rfl | simp [Cond.onTables, Cond.keeps, Cond.steady])) hini)
  obtain ⟨hx, hb, hml, ho, -⟩ := S
  intro T hT X
  rcases vx_callSX X hx (hh := hh) (bytes := bytes) (maxL := maxL) (ret := ret) ho hl hstt hini hcode hy hK hg (hsize.trans hml.symm) (argsL := As) (rest := rest) (fun sig h => hn.trans (hlen sig h)) hstack hW (by rw [hb]; exact hdg)
    (fun vm₁ hW₁ => ⟨hf.1, hf.2, hp.2 (T.setVm vm₁) hT hW₁⟩) with ⟨v, vm₁, ⟨U', l2, c2, s2⟩, hW₁, X', ⟨g', mk, t, L, e1, e2, hq, h1, hL, h2, h3⟩, st⟩ | ⟨q, vm₁, ⟨U', l2, c2, s2⟩, hW₁, X', ⟨g', mk, t, L, E, ce, e1, e2, hq, hce, hcv, hcl, h1, hL, h2, h3⟩, st⟩
  · dsimp only [Pt.U, Pt.locs, Pt.cells, Pt.slots] at X' e1 e2 h1 h2 h3 st
    subst h1; subst h2; subst h3
    exact Or.inl ⟨v, (T.setVm vm₁).calling g' mk As.toArray, t, U', L, hT, X', hL, e1, e2, hq, st⟩
  · dsimp only [Pt.U, Pt.locs, Pt.cells, Pt.slots] at X' e1 e2 h1 h2 h3 st hcl
    subst h1; subst h2; subst h3
    exact Or.inr ⟨q, (T.setVm vm₁).calling g' mk As.toArray, t, U', L, E, ce, hT, X', hL, e1, e2, hq, hce, hcv, vx_cls hW₁ hcl, st⟩
end
end VXH
theorem vx_ofWH {l : Launch} {y : MethodName} {ws ws' : List Cond} {rm : Room} {Pc : Array Value → State → Prop} {Qc : Array Value → State → Outcome → State → Prop} {XC : String → State → State → Prop} {mc ms : Nat} {free : Addr → Prop} {cc : ByteArray} {maxL : Nat} {ret : Option FieldType} {hh : List (Nat × Nat × Nat × Nat)}
    (hy : plainName y.cls = true) (hw : ws = Cond.codeWith y cc maxL ret hh :: ws')
    (body : ∀ p e s m args below meth c s₁, BodyLoose p l y (headSpec ws rm) cc maxL ret e s m args below meth c s₁ → c.maxLocals = maxL → Pc args s →
      W p l e (headSpec ws rm).room s m args below meth c s.heap [] 0 0 (vx_MQ below Qc XC args s mc ms free) (entryFrame m args maxL)) : vx_Met l y ws rm Pc Qc XC mc ms free := by
  refine MetFree.of_bodyS (code := cc) (maxLocals := maxL) (ret := ret) hy ?_ ?_
  · intro args s m h hn
    obtain ⟨m9, meth, c, hn9, h1, h2, h3, h4, -, h5, h6, -⟩ := Cond.codeWith_spec (atoms_spec (ws := ws) h _ (by rw [hw]; exact List.mem_cons_self))
    cases hn.symm.trans hn9
    exact ⟨meth, c, h1, h2, h3, h4, h5, h6⟩
  · intro p e s m args below meth c s₁ B hml hP _
    have hh0 : s₁.heap = s.heap := by rw [B.state]; rfl
    obtain ⟨t, a1, o, b1, b2, b3⟩ := body p e s m args below meth c s₁ B hml hP s₁ hh0 (Stand.of_body B)
    exact ⟨t, o, a1, b1, b2, b3⟩
/-! ===== END ===== -/

/-- the words of 'throw new NoSuchElementException(text)' as this JDK's class file has them: its constructor's link to the one above it is entry 13 -/
def zAt : List Cond := Bundle.throwableAtoms ++ Bundle.throwableSAtoms ++ Bundle.passSAtoms "java/util/NoSuchElementException" "java/lang/RuntimeException" 13 prog_30_method_4_code ++ Bundle.chainSAtoms "java/lang/RuntimeException" ["java/lang/Exception"] ++
  [.methodLink "DreamGuard" 198 (Bundle.initS "java/util/NoSuchElementException"), .instantiable "java/util/NoSuchElementException" 6, .castable "java/util/NoSuchElementException" "java/util/NoSuchElementException", .selects "java/util/NoSuchElementException" Bundle.tFill0 Bundle.tFill0, .selects "java/util/NoSuchElementException" Bundle.tFill Bundle.tFill,
   .lays "java/util/NoSuchElementException" Bundle.tN "cause" "Ljava/lang/Throwable;", .lays "java/util/NoSuchElementException" Bundle.tN "stackTrace" Bundle.steD, .lays "java/util/NoSuchElementException" Bundle.tN "suppressedExceptions" Bundle.listD, .lays "java/util/NoSuchElementException" Bundle.tN "detailMessage" "Ljava/lang/String;",
   .isRef (.static Bundle.tN "UNASSIGNED_STACK" Bundle.steD), .isRef (.static Bundle.tN "SUPPRESSED_SENTINEL" Bundle.listD),
   .fieldLink Bundle.tN 198 Bundle.tN "backtrace" "Ljava/lang/Object;", .lays Bundle.tN Bundle.tN "backtrace" "Ljava/lang/Object;", .lays "java/util/NoSuchElementException" Bundle.tN "backtrace" "Ljava/lang/Object;"]
def zAtS : List Cond := zAt.filter vx_no
end
section
def RX0 : String := "DreamGuard$Acts"
def TX0 : u_T := fun k => match k with
  | 0 => ("DreamGuard$Acts", "before", "[LDreamGuard$State;", true)
  | 1 => ("DreamGuard$Acts", "next", "I", false)
  | _ => ("DreamGuard$Acts", "count", "I", false)
def tyX0 : Nat → FieldType := fun k => match k with
  | 0 => .array (.object "DreamGuard$State")
  | 1 => .int
  | _ => .int
abbrev wsX00 : List Cond := u_ws RX0 TX0 3
theorem nmX0 : ∀ a, a < 3 → ∀ b, b < 3 → a ≠ b → (TX0 a).2.1 ≠ (TX0 b).2.1 := by decide +kernel
theorem tyX0_ok : ∀ k, k < 3 → parseFieldDescriptor (TX0 k).2.2.1 = some (tyX0 k) := by decide +kernel
abbrev cX0_init : ByteArray := prog_2_method_1_code
def yX0_init : MethodName := ⟨RX0, "<init>", "()V"⟩
abbrev cX0_remember : ByteArray := prog_2_method_2_code
def yX0_remember : MethodName := ⟨RX0, "remember", "(LDreamGuard$State;)V"⟩
abbrev cX0_takeBack : ByteArray := prog_2_method_3_code
def yX0_takeBack : MethodName := ⟨RX0, "takeBack", "(LDreamGuard$State;)V"⟩
def RX1 : String := "DreamGuard$Fort"
def TX1 : u_T := fun k => match k with
  | 0 => ("DreamGuard$Fort", "men", "I", false)
  | 1 => ("DreamGuard$Fort", "hours", "I", false)
  | 2 => ("DreamGuard$Fort", "nightmare", "I", false)
  | 3 => ("DreamGuard$Fort", "needs", "[I", true)
  | _ => ("DreamGuard$Fort", "told", "LDreamGuard$State;", true)
def tyX1 : Nat → FieldType := fun k => match k with
  | 0 => .int
  | 1 => .int
  | 2 => .int
  | 3 => .array .int
  | _ => .object "DreamGuard$State"
abbrev wsX10 : List Cond := u_ws RX1 TX1 5
theorem nmX1 : ∀ a, a < 5 → ∀ b, b < 5 → a ≠ b → (TX1 a).2.1 ≠ (TX1 b).2.1 := by decide +kernel
theorem tyX1_ok : ∀ k, k < 5 → parseFieldDescriptor (TX1 k).2.2.1 = some (tyX1 k) := by decide +kernel
abbrev cX1_init : ByteArray := prog_3_method_1_code
def yX1_init : MethodName := ⟨RX1, "<init>", "()V"⟩
abbrev cX1_hasMan : ByteArray := prog_3_method_2_code
def yX1_hasMan : MethodName := ⟨RX1, "hasMan", "(I)Z"⟩
abbrev cX1_hasHour : ByteArray := prog_3_method_3_code
def yX1_hasHour : MethodName := ⟨RX1, "hasHour", "(I)Z"⟩
def RX2 : String := "DreamGuard$FortReader"
def TX2 : u_T := fun k => match k with
  | 0 => ("DreamGuard$FortReader", "tape", "LDreamGuard$Tape;", true)
  | 1 => ("DreamGuard$FortReader", "rules", "[I", true)
  | 2 => ("DreamGuard$FortReader", "rows", "[[I", true)
  | 3 => ("DreamGuard$FortReader", "given", "[Z", true)
  | 4 => ("DreamGuard$FortReader", "men", "I", false)
  | _ => ("DreamGuard$FortReader", "hasRules", "Z", false)
def tyX2 : Nat → FieldType := fun k => match k with
  | 0 => .object "DreamGuard$Tape"
  | 1 => .array .int
  | 2 => .array (.array .int)
  | 3 => .array .boolean
  | 4 => .int
  | _ => .boolean
abbrev wsX20 : List Cond := u_ws RX2 TX2 6
theorem nmX2 : ∀ a, a < 6 → ∀ b, b < 6 → a ≠ b → (TX2 a).2.1 ≠ (TX2 b).2.1 := by decide +kernel
theorem tyX2_ok : ∀ k, k < 6 → parseFieldDescriptor (TX2 k).2.2.1 = some (tyX2 k) := by decide +kernel
abbrev cX2_init : ByteArray := prog_4_method_1_code
def yX2_init : MethodName := ⟨RX2, "<init>", "(LDreamGuard$Tape;)V"⟩
abbrev cX2_readFort : ByteArray := prog_4_method_2_code
def yX2_readFort : MethodName := ⟨RX2, "readFort", "()Z"⟩
abbrev cX2_readClause : ByteArray := prog_4_method_3_code
def yX2_readClause : MethodName := ⟨RX2, "readClause", "()Z"⟩
abbrev cX2_readItems : ByteArray := prog_4_method_4_code
def yX2_readItems : MethodName := ⟨RX2, "readItems", "(Ljava/lang/String;[I[I[I)Z"⟩
abbrev cX2_isWhole : ByteArray := prog_4_method_5_code
def yX2_isWhole : MethodName := ⟨RX2, "isWhole", "()Z"⟩
abbrev cX2_settle : ByteArray := prog_4_method_6_code
def yX2_settle : MethodName := ⟨RX2, "settle", "(LDreamGuard$Fort;)V"⟩
def RX3 : String := "DreamGuard$LawBook"
def TX3 : u_T := fun k => match k with
  | 0 => ("DreamGuard$LawBook", "codes", "[[I", true)
  | 1 => ("DreamGuard$LawBook", "sizes", "[I", true)
  | 2 => ("DreamGuard$LawBook", "stack", "[I", true)
  | 3 => ("DreamGuard$LawBook", "letters", "[I", true)
  | 4 => ("DreamGuard$LawBook", "count", "I", false)
  | _ => ("DreamGuard$LawBook", "holding", "I", false)
def tyX3 : Nat → FieldType := fun k => match k with
  | 0 => .array (.array .int)
  | 1 => .array .int
  | 2 => .array .int
  | 3 => .array .int
  | 4 => .int
  | _ => .int
abbrev wsX30 : List Cond := u_ws RX3 TX3 6
theorem nmX3 : ∀ a, a < 6 → ∀ b, b < 6 → a ≠ b → (TX3 a).2.1 ≠ (TX3 b).2.1 := by decide +kernel
theorem tyX3_ok : ∀ k, k < 6 → parseFieldDescriptor (TX3 k).2.2.1 = some (tyX3 k) := by decide +kernel
abbrev cX3_init : ByteArray := prog_5_method_1_code
def yX3_init : MethodName := ⟨RX3, "<init>", "()V"⟩
abbrev cX3_add : ByteArray := prog_5_method_2_code
def yX3_add : MethodName := ⟨RX3, "add", "([II)I"⟩
abbrev cX3_worth : ByteArray := prog_5_method_3_code
def yX3_worth : MethodName := ⟨RX3, "worth", "()I"⟩
abbrev cX3_valueOf : ByteArray := prog_5_method_4_code
def yX3_valueOf : MethodName := ⟨RX3, "valueOf", "(I)I"⟩
abbrev cX3_reckon : ByteArray := prog_5_method_5_code
def yX3_reckon : MethodName := ⟨RX3, "reckon", "(IJJ)J"⟩
abbrev cX3_held : ByteArray := prog_5_method_6_code
def yX3_held : MethodName := ⟨RX3, "held", "(J)I"⟩
def RX4 : String := "DreamGuard$LawReader"
def TX4 : u_T := fun k => match k with
  | 0 => ("DreamGuard$LawReader", "tape", "LDreamGuard$Tape;", true)
  | 1 => ("DreamGuard$LawReader", "code", "[I", true)
  | _ => ("DreamGuard$LawReader", "size", "I", false)
def tyX4 : Nat → FieldType := fun k => match k with
  | 0 => .object "DreamGuard$Tape"
  | 1 => .array .int
  | _ => .int
abbrev wsX40 : List Cond := u_ws RX4 TX4 3
theorem nmX4 : ∀ a, a < 3 → ∀ b, b < 3 → a ≠ b → (TX4 a).2.1 ≠ (TX4 b).2.1 := by decide +kernel
theorem tyX4_ok : ∀ k, k < 3 → parseFieldDescriptor (TX4 k).2.2.1 = some (tyX4 k) := by decide +kernel
abbrev cX4_init : ByteArray := prog_6_method_1_code
def yX4_init : MethodName := ⟨RX4, "<init>", "(LDreamGuard$Tape;)V"⟩
abbrev cX4_readLaw : ByteArray := prog_6_method_2_code
def yX4_readLaw : MethodName := ⟨RX4, "readLaw", "()Z"⟩
abbrev cX4_readClause : ByteArray := prog_6_method_3_code
def yX4_readClause : MethodName := ⟨RX4, "readClause", "()Z"⟩
abbrev cX4_readCondition : ByteArray := prog_6_method_4_code
def yX4_readCondition : MethodName := ⟨RX4, "readCondition", "(IZ)Z"⟩
abbrev cX4_readTruth : ByteArray := prog_6_method_5_code
def yX4_readTruth : MethodName := ⟨RX4, "readTruth", "(IZ)Z"⟩
abbrev cX4_readUnit : ByteArray := prog_6_method_6_code
def yX4_readUnit : MethodName := ⟨RX4, "readUnit", "(IZ)Z"⟩
abbrev cX4_readNested : ByteArray := prog_6_method_7_code
def yX4_readNested : MethodName := ⟨RX4, "readNested", "(II)Z"⟩
abbrev cX4_readSum : ByteArray := prog_6_method_8_code
def yX4_readSum : MethodName := ⟨RX4, "readSum", "(I)Z"⟩
abbrev cX4_readTerm : ByteArray := prog_6_method_9_code
def yX4_readTerm : MethodName := ⟨RX4, "readTerm", "(I)Z"⟩
abbrev cX4_readAtom : ByteArray := prog_6_method_10_code
def yX4_readAtom : MethodName := ⟨RX4, "readAtom", "(I)Z"⟩
abbrev cX4_isComparison : ByteArray := prog_6_method_11_code
def yX4_isComparison : MethodName := ⟨RX4, "isComparison", "(I)Z"⟩
abbrev cX4_emit : ByteArray := prog_6_method_12_code
def yX4_emit : MethodName := ⟨RX4, "emit", "(I)V"⟩
def RX5 : String := "DreamGuard$Night"
def TX5 : u_T := fun k => match k with
  | 0 => ("DreamGuard$Night", "fort", "LDreamGuard$Fort;", true)
  | 1 => ("DreamGuard$Night", "laws", "LDreamGuard$LawBook;", true)
  | 2 => ("DreamGuard$Night", "watcher", "[I", true)
  | 3 => ("DreamGuard$Night", "slept", "[I", true)
  | 4 => ("DreamGuard$Night", "wokenAt", "[I", true)
  | 5 => ("DreamGuard$Night", "dreamt", "[I", true)
  | 6 => ("DreamGuard$Night", "nightmares", "[I", true)
  | 7 => ("DreamGuard$Night", "sort", "[I", true)
  | 8 => ("DreamGuard$Night", "dream", "[I", true)
  | 9 => ("DreamGuard$Night", "unwatched", "I", false)
  | 10 => ("DreamGuard$Night", "gate", "I", false)
  | _ => ("DreamGuard$Night", "calmHours", "I", false)
def tyX5 : Nat → FieldType := fun k => match k with
  | 0 => .object "DreamGuard$Fort"
  | 1 => .object "DreamGuard$LawBook"
  | 2 => .array .int
  | 3 => .array .int
  | 4 => .array .int
  | 5 => .array .int
  | 6 => .array .int
  | 7 => .array .int
  | 8 => .array .int
  | 9 => .int
  | 10 => .int
  | _ => .int
abbrev wsX50 : List Cond := u_ws RX5 TX5 12
theorem nmX5 : ∀ a, a < 12 → ∀ b, b < 12 → a ≠ b → (TX5 a).2.1 ≠ (TX5 b).2.1 := by decide +kernel
theorem tyX5_ok : ∀ k, k < 12 → parseFieldDescriptor (TX5 k).2.2.1 = some (tyX5 k) := by decide +kernel
abbrev cX5_init : ByteArray := prog_7_method_1_code
def yX5_init : MethodName := ⟨RX5, "<init>", "(LDreamGuard$Fort;LDreamGuard$LawBook;)V"⟩
abbrev cX5_run : ByteArray := prog_7_method_2_code
def yX5_run : MethodName := ⟨RX5, "run", "(LDreamGuard$State;)V"⟩
abbrev cX5_clear : ByteArray := prog_7_method_3_code
def yX5_clear : MethodName := ⟨RX5, "clear", "(LDreamGuard$State;)V"⟩
abbrev cX5_lieDown : ByteArray := prog_7_method_4_code
def yX5_lieDown : MethodName := ⟨RX5, "lieDown", "(LDreamGuard$State;I)V"⟩
abbrev cX5_sleepOn : ByteArray := prog_7_method_5_code
def yX5_sleepOn : MethodName := ⟨RX5, "sleepOn", "(LDreamGuard$State;III)V"⟩
abbrev cX5_dreamOf : ByteArray := prog_7_method_6_code
def yX5_dreamOf : MethodName := ⟨RX5, "dreamOf", "(LDreamGuard$State;III)I"⟩
abbrev cX5_pass : ByteArray := prog_7_method_7_code
def yX5_pass : MethodName := ⟨RX5, "pass", "(LDreamGuard$State;)V"⟩
abbrev cX5_allNightmares : ByteArray := prog_7_method_8_code
def yX5_allNightmares : MethodName := ⟨RX5, "allNightmares", "()I"⟩
abbrev cX5_wokenBits : ByteArray := prog_7_method_9_code
def yX5_wokenBits : MethodName := ⟨RX5, "wokenBits", "()I"⟩
abbrev cX5_awakeBits : ByteArray := prog_7_method_10_code
def yX5_awakeBits : MethodName := ⟨RX5, "awakeBits", "(I)I"⟩
abbrev cX5_hourOfFewest : ByteArray := prog_7_method_11_code
def yX5_hourOfFewest : MethodName := ⟨RX5, "hourOfFewest", "()I"⟩
def RX6 : String := "DreamGuard$Notes"
def TX6 : u_T := fun k => match k with
  | 0 => ("DreamGuard$Notes", "man", "[I", true)
  | 1 => ("DreamGuard$Notes", "thing", "[I", true)
  | 2 => ("DreamGuard$Notes", "claim", "[Z", true)
  | _ => ("DreamGuard$Notes", "count", "I", false)
def tyX6 : Nat → FieldType := fun k => match k with
  | 0 => .array .int
  | 1 => .array .int
  | 2 => .array .boolean
  | _ => .int
abbrev wsX60 : List Cond := u_ws RX6 TX6 4
theorem nmX6 : ∀ a, a < 4 → ∀ b, b < 4 → a ≠ b → (TX6 a).2.1 ≠ (TX6 b).2.1 := by decide +kernel
theorem tyX6_ok : ∀ k, k < 4 → parseFieldDescriptor (TX6 k).2.2.1 = some (tyX6 k) := by decide +kernel
abbrev cX6_init : ByteArray := prog_8_method_1_code
def yX6_init : MethodName := ⟨RX6, "<init>", "()V"⟩
abbrev cX6_add : ByteArray := prog_8_method_2_code
def yX6_add : MethodName := ⟨RX6, "add", "(IIZ)I"⟩
def RX7 : String := "DreamGuard$Stagger"
def TX7 : u_T := fun k => match k with
  | 0 => ("DreamGuard$Stagger", "fort", "LDreamGuard$Fort;", true)
  | 1 => ("DreamGuard$Stagger", "now", "LDreamGuard$State;", true)
  | 2 => ("DreamGuard$Stagger", "manAt", "[I", true)
  | 3 => ("DreamGuard$Stagger", "fixed", "[I", true)
  | 4 => ("DreamGuard$Stagger", "changes", "[I", true)
  | _ => ("DreamGuard$Stagger", "nextChanges", "[I", true)
def tyX7 : Nat → FieldType := fun k => match k with
  | 0 => .object "DreamGuard$Fort"
  | 1 => .object "DreamGuard$State"
  | 2 => .array .int
  | 3 => .array .int
  | 4 => .array .int
  | _ => .array .int
abbrev wsX70 : List Cond := u_ws RX7 TX7 6
theorem nmX7 : ∀ a, a < 6 → ∀ b, b < 6 → a ≠ b → (TX7 a).2.1 ≠ (TX7 b).2.1 := by decide +kernel
theorem tyX7_ok : ∀ k, k < 6 → parseFieldDescriptor (TX7 k).2.2.1 = some (tyX7 k) := by decide +kernel
abbrev cX7_init : ByteArray := prog_9_method_1_code
def yX7_init : MethodName := ⟨RX7, "<init>", "(LDreamGuard$Fort;LDreamGuard$State;)V"⟩
abbrev cX7_fewestChanges : ByteArray := prog_9_method_2_code
def yX7_fewestChanges : MethodName := ⟨RX7, "fewestChanges", "()I"⟩
abbrev cX7_leastRow : ByteArray := prog_9_method_3_code
def yX7_leastRow : MethodName := ⟨RX7, "leastRow", "()I"⟩
abbrev cX7_begin : ByteArray := prog_9_method_4_code
def yX7_begin : MethodName := ⟨RX7, "begin", "()V"⟩
abbrev cX7_fixLeastBed : ByteArray := prog_9_method_5_code
def yX7_fixLeastBed : MethodName := ⟨RX7, "fixLeastBed", "(II)I"⟩
abbrev cX7_goRound : ByteArray := prog_9_method_6_code
def yX7_goRound : MethodName := ⟨RX7, "goRound", "()I"⟩
abbrev cX7_goRoundFrom : ByteArray := prog_9_method_7_code
def yX7_goRoundFrom : MethodName := ⟨RX7, "goRoundFrom", "(I)I"⟩
abbrev cX7_goOn : ByteArray := prog_9_method_8_code
def yX7_goOn : MethodName := ⟨RX7, "goOn", "(II)V"⟩
abbrev cX7_mayHave : ByteArray := prog_9_method_9_code
def yX7_mayHave : MethodName := ⟨RX7, "mayHave", "(II)Z"⟩
abbrev cX7_changesBy : ByteArray := prog_9_method_10_code
def yX7_changesBy : MethodName := ⟨RX7, "changesBy", "(II)I"⟩
abbrev cX7_areApart : ByteArray := prog_9_method_11_code
def yX7_areApart : MethodName := ⟨RX7, "areApart", "(IIII)Z"⟩
def RX8 : String := "DreamGuard$State"
def TX8 : u_T := fun k => match k with
  | 0 => ("DreamGuard$State", "bed", "[I", true)
  | 1 => ("DreamGuard$State", "eyes", "[I", true)
  | 2 => ("DreamGuard$State", "dreams", "[I", true)
  | 3 => ("DreamGuard$State", "tired", "[I", true)
  | 4 => ("DreamGuard$State", "dreamt", "[I", true)
  | 5 => ("DreamGuard$State", "place", "[I", true)
  | 6 => ("DreamGuard$State", "log", "[I", true)
  | 7 => ("DreamGuard$State", "coins", "I", false)
  | 8 => ("DreamGuard$State", "gate", "I", false)
  | _ => ("DreamGuard$State", "night", "I", false)
def tyX8 : Nat → FieldType := fun k => match k with
  | 0 => .array .int
  | 1 => .array .int
  | 2 => .array .int
  | 3 => .array .int
  | 4 => .array .int
  | 5 => .array .int
  | 6 => .array .int
  | 7 => .int
  | 8 => .int
  | _ => .int
abbrev wsX80 : List Cond := u_ws RX8 TX8 10
theorem nmX8 : ∀ a, a < 10 → ∀ b, b < 10 → a ≠ b → (TX8 a).2.1 ≠ (TX8 b).2.1 := by decide +kernel
theorem tyX8_ok : ∀ k, k < 10 → parseFieldDescriptor (TX8 k).2.2.1 = some (tyX8 k) := by decide +kernel
abbrev cX8_init : ByteArray := prog_10_method_1_code
def yX8_init : MethodName := ⟨RX8, "<init>", "()V"⟩
abbrev cX8_copyFrom : ByteArray := prog_10_method_2_code
def yX8_copyFrom : MethodName := ⟨RX8, "copyFrom", "(LDreamGuard$State;)V"⟩
abbrev cX8_logLength : ByteArray := prog_10_method_3_code
def yX8_logLength : MethodName := ⟨RX8, "logLength", "()I"⟩
abbrev cX8_watcherOf : ByteArray := prog_10_method_4_code
def yX8_watcherOf : MethodName := ⟨RX8, "watcherOf", "(II)I"⟩
def RX9 : String := "DreamGuard$Suspects"
def TX9 : u_T := fun k => match k with
  | 0 => ("DreamGuard$Suspects", "fort", "LDreamGuard$Fort;", true)
  | 1 => ("DreamGuard$Suspects", "first", "LDreamGuard$Night;", true)
  | 2 => ("DreamGuard$Suspects", "sightings", "LDreamGuard$Notes;", true)
  | 3 => ("DreamGuard$Suspects", "trial", "LDreamGuard$State;", true)
  | 4 => ("DreamGuard$Suspects", "fitting", "[I", true)
  | 5 => ("DreamGuard$Suspects", "woken", "[I", true)
  | _ => ("DreamGuard$Suspects", "count", "I", false)
def tyX9 : Nat → FieldType := fun k => match k with
  | 0 => .object "DreamGuard$Fort"
  | 1 => .object "DreamGuard$Night"
  | 2 => .object "DreamGuard$Notes"
  | 3 => .object "DreamGuard$State"
  | 4 => .array .int
  | 5 => .array .int
  | _ => .int
abbrev wsX90 : List Cond := u_ws RX9 TX9 7
theorem nmX9 : ∀ a, a < 7 → ∀ b, b < 7 → a ≠ b → (TX9 a).2.1 ≠ (TX9 b).2.1 := by decide +kernel
theorem tyX9_ok : ∀ k, k < 7 → parseFieldDescriptor (TX9 k).2.2.1 = some (tyX9 k) := by decide +kernel
abbrev cX9_init : ByteArray := prog_11_method_1_code
def yX9_init : MethodName := ⟨RX9, "<init>", "(LDreamGuard$Fort;LDreamGuard$Night;LDreamGuard$Notes;LDreamGuard$State;)V"⟩
abbrev cX9_find : ByteArray := prog_11_method_2_code
def yX9_find : MethodName := ⟨RX9, "find", "(I)V"⟩
abbrev cX9_consider : ByteArray := prog_11_method_3_code
def yX9_consider : MethodName := ⟨RX9, "consider", "(I)V"⟩
abbrev cX9_isAsSeen : ByteArray := prog_11_method_4_code
def yX9_isAsSeen : MethodName := ⟨RX9, "isAsSeen", "()Z"⟩
abbrev cX9_hourThatParts : ByteArray := prog_11_method_5_code
def yX9_hourThatParts : MethodName := ⟨RX9, "hourThatParts", "()I"⟩
def RX10 : String := "DreamGuard$Tape"
def TX10 : u_T := fun k => match k with
  | 0 => ("DreamGuard$Tape", "signs", "[I", true)
  | 1 => ("DreamGuard$Tape", "length", "I", false)
  | _ => ("DreamGuard$Tape", "position", "I", false)
def tyX10 : Nat → FieldType := fun k => match k with
  | 0 => .array .int
  | 1 => .int
  | _ => .int
abbrev wsX100 : List Cond := u_ws RX10 TX10 3
theorem nmX10 : ∀ a, a < 3 → ∀ b, b < 3 → a ≠ b → (TX10 a).2.1 ≠ (TX10 b).2.1 := by decide +kernel
theorem tyX10_ok : ∀ k, k < 3 → parseFieldDescriptor (TX10 k).2.2.1 = some (tyX10 k) := by decide +kernel
abbrev cX10_init : ByteArray := prog_12_method_1_code
def yX10_init : MethodName := ⟨RX10, "<init>", "()V"⟩
abbrev cX10_signsIn : ByteArray := prog_12_method_2_code
def yX10_signsIn : MethodName := ⟨RX10, "signsIn", "(I)I"⟩
abbrev cX10_append : ByteArray := prog_12_method_3_code
def yX10_append : MethodName := ⟨RX10, "append", "(I)V"⟩
abbrev cX10_here : ByteArray := prog_12_method_4_code
def yX10_here : MethodName := ⟨RX10, "here", "()I"⟩
abbrev cX10_peek : ByteArray := prog_12_method_5_code
def yX10_peek : MethodName := ⟨RX10, "peek", "()I"⟩
abbrev cX10_take : ByteArray := prog_12_method_6_code
def yX10_take : MethodName := ⟨RX10, "take", "(I)Z"⟩
abbrev cX10_takeNumber : ByteArray := prog_12_method_7_code
def yX10_takeNumber : MethodName := ⟨RX10, "takeNumber", "(I)I"⟩
abbrev cX10_isDigit : ByteArray := prog_12_method_8_code
def yX10_isDigit : MethodName := ⟨RX10, "isDigit", "(I)Z"⟩
def RX11 : String := "DreamGuard"
def TX11 : u_T := fun k => match k with
  | 0 => ("DreamGuard", "tape", "LDreamGuard$Tape;", true)
  | 1 => ("DreamGuard", "fortReader", "LDreamGuard$FortReader;", true)
  | 2 => ("DreamGuard", "lawReader", "LDreamGuard$LawReader;", true)
  | 3 => ("DreamGuard", "laws", "LDreamGuard$LawBook;", true)
  | 4 => ("DreamGuard", "fort", "LDreamGuard$Fort;", true)
  | 5 => ("DreamGuard", "now", "LDreamGuard$State;", true)
  | 6 => ("DreamGuard", "trial", "LDreamGuard$State;", true)
  | 7 => ("DreamGuard", "kept", "LDreamGuard$State;", true)
  | 8 => ("DreamGuard", "hasImage", "Z", false)
  | 9 => ("DreamGuard", "acts", "LDreamGuard$Acts;", true)
  | 10 => ("DreamGuard", "tonight", "LDreamGuard$Night;", true)
  | 11 => ("DreamGuard", "sightings", "LDreamGuard$Notes;", true)
  | 12 => ("DreamGuard", "sayings", "LDreamGuard$Notes;", true)
  | 13 => ("DreamGuard", "suspects", "LDreamGuard$Suspects;", true)
  | 14 => ("DreamGuard", "staggering", "LDreamGuard$Stagger;", true)
  | 15 => ("DreamGuard", "refused", "[I", true)
  | 16 => ("DreamGuard", "ringRow", "[I", true)
  | 17 => ("DreamGuard", "gains", "[I", true)
  | 18 => ("DreamGuard", "snowing", "I", false)
  | _ => ("DreamGuard", "seedling", "J", false)
def tyX11 : Nat → FieldType := fun k => match k with
  | 0 => .object "DreamGuard$Tape"
  | 1 => .object "DreamGuard$FortReader"
  | 2 => .object "DreamGuard$LawReader"
  | 3 => .object "DreamGuard$LawBook"
  | 4 => .object "DreamGuard$Fort"
  | 5 => .object "DreamGuard$State"
  | 6 => .object "DreamGuard$State"
  | 7 => .object "DreamGuard$State"
  | 8 => .boolean
  | 9 => .object "DreamGuard$Acts"
  | 10 => .object "DreamGuard$Night"
  | 11 => .object "DreamGuard$Notes"
  | 12 => .object "DreamGuard$Notes"
  | 13 => .object "DreamGuard$Suspects"
  | 14 => .object "DreamGuard$Stagger"
  | 15 => .array .int
  | 16 => .array .int
  | 17 => .array .int
  | 18 => .int
  | _ => .long
abbrev wsX110 : List Cond := u_ws RX11 TX11 20
theorem nmX11 : ∀ a, a < 20 → ∀ b, b < 20 → a ≠ b → (TX11 a).2.1 ≠ (TX11 b).2.1 := by decide +kernel
theorem tyX11_ok : ∀ k, k < 20 → parseFieldDescriptor (TX11 k).2.2.1 = some (tyX11 k) := by decide +kernel
abbrev cX11_init : ByteArray := prog_1_method_1_code
def yX11_init : MethodName := ⟨RX11, "<init>", "()V"⟩
abbrev cX11_feed : ByteArray := prog_1_method_2_code
def yX11_feed : MethodName := ⟨RX11, "feed", "(IIIII)I"⟩
abbrev cX11_end : ByteArray := prog_1_method_3_code
def yX11_end : MethodName := ⟨RX11, "end", "(I)Z"⟩
abbrev cX11_fault : ByteArray := prog_1_method_4_code
def yX11_fault : MethodName := ⟨RX11, "fault", "(I)I"⟩
abbrev cX11_text : ByteArray := prog_1_method_5_code
def yX11_text : MethodName := ⟨RX11, "text", "(I)I"⟩
abbrev cX11_beginFort : ByteArray := prog_1_method_6_code
def yX11_beginFort : MethodName := ⟨RX11, "beginFort", "()V"⟩
abbrev cX11_rule : ByteArray := prog_1_method_7_code
def yX11_rule : MethodName := ⟨RX11, "rule", "(I)I"⟩
abbrev cX11_man : ByteArray := prog_1_method_8_code
def yX11_man : MethodName := ⟨RX11, "man", "(II)I"⟩
abbrev cX11_law : ByteArray := prog_1_method_9_code
def yX11_law : MethodName := ⟨RX11, "law", "(I)Z"⟩
abbrev cX11_bed : ByteArray := prog_1_method_10_code
def yX11_bed : MethodName := ⟨RX11, "bed", "(II)I"⟩
abbrev cX11_train : ByteArray := prog_1_method_11_code
def yX11_train : MethodName := ⟨RX11, "train", "(I)I"⟩
abbrev cX11_dull : ByteArray := prog_1_method_12_code
def yX11_dull : MethodName := ⟨RX11, "dull", "(I)I"⟩
abbrev cX11_swap : ByteArray := prog_1_method_13_code
def yX11_swap : MethodName := ⟨RX11, "swap", "(II)I"⟩
abbrev cX11_nights : ByteArray := prog_1_method_14_code
def yX11_nights : MethodName := ⟨RX11, "nights", "(I)I"⟩
abbrev cX11_snow : ByteArray := prog_1_method_15_code
def yX11_snow : MethodName := ⟨RX11, "snow", "(I)Z"⟩
abbrev cX11_years : ByteArray := prog_1_method_16_code
def yX11_years : MethodName := ⟨RX11, "years", "(IJ)I"⟩
abbrev cX11_drawBed : ByteArray := prog_1_method_17_code
def yX11_drawBed : MethodName := ⟨RX11, "drawBed", "()V"⟩
abbrev cX11_drawPlaces : ByteArray := prog_1_method_18_code
def yX11_drawPlaces : MethodName := ⟨RX11, "drawPlaces", "()V"⟩
abbrev cX11_draw : ByteArray := prog_1_method_19_code
def yX11_draw : MethodName := ⟨RX11, "draw", "(I)I"⟩
abbrev cX11_changePlaces : ByteArray := prog_1_method_20_code
def yX11_changePlaces : MethodName := ⟨RX11, "changePlaces", "(II)V"⟩
abbrev cX11_refuse : ByteArray := prog_1_method_21_code
def yX11_refuse : MethodName := ⟨RX11, "refuse", "(I)I"⟩
abbrev cX11_status : ByteArray := prog_1_method_22_code
def yX11_status : MethodName := ⟨RX11, "status", "(I)I"⟩
abbrev cX11_undo : ByteArray := prog_1_method_23_code
def yX11_undo : MethodName := ⟨RX11, "undo", "()I"⟩
abbrev cX11_log : ByteArray := prog_1_method_24_code
def yX11_log : MethodName := ⟨RX11, "log", "(II)I"⟩
abbrev cX11_sleeps : ByteArray := prog_1_method_25_code
def yX11_sleeps : MethodName := ⟨RX11, "sleeps", "(II)I"⟩
abbrev cX11_dream : ByteArray := prog_1_method_26_code
def yX11_dream : MethodName := ⟨RX11, "dream", "(II)I"⟩
abbrev cX11_slept : ByteArray := prog_1_method_27_code
def yX11_slept : MethodName := ⟨RX11, "slept", "(II)I"⟩
abbrev cX11_night : ByteArray := prog_1_method_28_code
def yX11_night : MethodName := ⟨RX11, "night", "(I)I"⟩
abbrev cX11_awake : ByteArray := prog_1_method_29_code
def yX11_awake : MethodName := ⟨RX11, "awake", "(I)I"⟩
abbrev cX11_odds : ByteArray := prog_1_method_30_code
def yX11_odds : MethodName := ⟨RX11, "odds", "(I)I"⟩
abbrev cX11_stagger : ByteArray := prog_1_method_31_code
def yX11_stagger : MethodName := ⟨RX11, "stagger", "(I)I"⟩
abbrev cX11_ring : ByteArray := prog_1_method_32_code
def yX11_ring : MethodName := ⟨RX11, "ring", "(I)I"⟩
abbrev cX11_layFirstRow : ByteArray := prog_1_method_33_code
def yX11_layFirstRow : MethodName := ⟨RX11, "layFirstRow", "()V"⟩
abbrev cX11_nightmaresByRow : ByteArray := prog_1_method_34_code
def yX11_nightmaresByRow : MethodName := ⟨RX11, "nightmaresByRow", "()I"⟩
abbrev cX11_digitsOfRow : ByteArray := prog_1_method_35_code
def yX11_digitsOfRow : MethodName := ⟨RX11, "digitsOfRow", "()I"⟩
abbrev cX11_layNextRow : ByteArray := prog_1_method_36_code
def yX11_layNextRow : MethodName := ⟨RX11, "layNextRow", "()Z"⟩
abbrev cX11_exchangeInRow : ByteArray := prog_1_method_37_code
def yX11_exchangeInRow : MethodName := ⟨RX11, "exchangeInRow", "(II)V"⟩
abbrev cX11_best : ByteArray := prog_1_method_38_code
def yX11_best : MethodName := ⟨RX11, "best", "(II)I"⟩
abbrev cX11_seen : ByteArray := prog_1_method_39_code
def yX11_seen : MethodName := ⟨RX11, "seen", "(IIZ)I"⟩
abbrev cX11_who : ByteArray := prog_1_method_40_code
def yX11_who : MethodName := ⟨RX11, "who", "(II)I"⟩
abbrev cX11_hourToAsk : ByteArray := prog_1_method_41_code
def yX11_hourToAsk : MethodName := ⟨RX11, "hourToAsk", "(I)I"⟩
abbrev cX11_isGrowth : ByteArray := prog_1_method_42_code
def yX11_isGrowth : MethodName := ⟨RX11, "isGrowth", "(I)Z"⟩
abbrev cX11_said : ByteArray := prog_1_method_43_code
def yX11_said : MethodName := ⟨RX11, "said", "(IIZ)I"⟩
abbrev cX11_liars : ByteArray := prog_1_method_44_code
def yX11_liars : MethodName := ⟨RX11, "liars", "()I"⟩
abbrev cX11_game : ByteArray := prog_1_method_45_code
def yX11_game : MethodName := ⟨RX11, "game", "(IIIII)I"⟩
abbrev cX11_rests : ByteArray := prog_1_method_46_code
def yX11_rests : MethodName := ⟨RX11, "rests", "(III)I"⟩
abbrev cX11_isMove : ByteArray := prog_1_method_47_code
def yX11_isMove : MethodName := ⟨RX11, "isMove", "(I)Z"⟩
abbrev cX11_play : ByteArray := prog_1_method_48_code
def yX11_play : MethodName := ⟨RX11, "play", "(IIII)V"⟩
abbrev cX11_gainOf : ByteArray := prog_1_method_49_code
def yX11_gainOf : MethodName := ⟨RX11, "gainOf", "(II)I"⟩
abbrev cX11_playAll : ByteArray := prog_1_method_50_code
def yX11_playAll : MethodName := ⟨RX11, "playAll", "(II)V"⟩
abbrev cX11_restsAt : ByteArray := prog_1_method_51_code
def yX11_restsAt : MethodName := ⟨RX11, "restsAt", "(II)Z"⟩
abbrev cX11_shares : ByteArray := prog_1_method_52_code
def yX11_shares : MethodName := ⟨RX11, "shares", "(II)I"⟩
abbrev cX11_watcher : ByteArray := prog_1_method_53_code
def yX11_watcher : MethodName := ⟨RX11, "watcher", "(I)I"⟩
abbrev cX11_most : ByteArray := prog_1_method_54_code
def yX11_most : MethodName := ⟨RX11, "most", "(I)I"⟩
abbrev cX11_manWith : ByteArray := prog_1_method_55_code
def yX11_manWith : MethodName := ⟨RX11, "manWith", "([II)I"⟩
abbrev cX11_nightsUntilRested : ByteArray := prog_1_method_56_code
def yX11_nightsUntilRested : MethodName := ⟨RX11, "nightsUntilRested", "()I"⟩
abbrev cX11_sumOfMen : ByteArray := prog_1_method_57_code
def yX11_sumOfMen : MethodName := ⟨RX11, "sumOfMen", "([I)I"⟩
abbrev cX11_spare : ByteArray := prog_1_method_58_code
def yX11_spare : MethodName := ⟨RX11, "spare", "(I)I"⟩
abbrev cX11_image : ByteArray := prog_1_method_59_code
def yX11_image : MethodName := ⟨RX11, "image", "()I"⟩
abbrev cX11_back : ByteArray := prog_1_method_60_code
def yX11_back : MethodName := ⟨RX11, "back", "()I"⟩
abbrev cX11_count : ByteArray := prog_1_method_61_code
def yX11_count : MethodName := ⟨RX11, "count", "(I)I"⟩
abbrev cX11_hasFort : ByteArray := prog_1_method_62_code
def yX11_hasFort : MethodName := ⟨RX11, "hasFort", "()Z"⟩
abbrev cX11_areTwo : ByteArray := prog_1_method_63_code
def yX11_areTwo : MethodName := ⟨RX11, "areTwo", "(II)Z"⟩
def RX12 : String := "DreamGuardModel"
def TX12 : u_T := fun k => match k with
  | 0 => ("DreamGuardModel", "thrown", "I", false)
  | 1 => ("DreamGuardModel", "tape", "[I", true)
  | 2 => ("DreamGuardModel", "size", "I", false)
  | 3 => ("DreamGuardModel", "at", "I", false)
  | 4 => ("DreamGuardModel", "wrong", "I", false)
  | 5 => ("DreamGuardModel", "deep", "I", false)
  | 6 => ("DreamGuardModel", "code", "[I", true)
  | 7 => ("DreamGuardModel", "value", "[I", true)
  | 8 => ("DreamGuardModel", "codes", "[I", true)
  | 9 => ("DreamGuardModel", "clauses", "[I", true)
  | 10 => ("DreamGuardModel", "testFrom", "[I", true)
  | 11 => ("DreamGuardModel", "sumFrom", "[I", true)
  | 12 => ("DreamGuardModel", "sumTo", "[I", true)
  | 13 => ("DreamGuardModel", "laws", "I", false)
  | 14 => ("DreamGuardModel", "text", "I", false)
  | 15 => ("DreamGuardModel", "letters", "[I", true)
  | 16 => ("DreamGuardModel", "stack", "[I", true)
  | 17 => ("DreamGuardModel", "readRule", "[I", true)
  | 18 => ("DreamGuardModel", "readMan", "[I", true)
  | 19 => ("DreamGuardModel", "readMen", "I", false)
  | 20 => ("DreamGuardModel", "rule", "[I", true)
  | 21 => ("DreamGuardModel", "man", "[I", true)
  | 22 => ("DreamGuardModel", "men", "I", false)
  | 23 => ("DreamGuardModel", "now", "[I", true)
  | 24 => ("DreamGuardModel", "refused", "[I", true)
  | 25 => ("DreamGuardModel", "holding", "I", false)
  | 26 => ("DreamGuardModel", "snowy", "I", false)
  | 27 => ("DreamGuardModel", "dreamIn", "[I", true)
  | 28 => ("DreamGuardModel", "watchedIn", "[I", true)
  | 29 => ("DreamGuardModel", "sleptBy", "[I", true)
  | 30 => ("DreamGuardModel", "dreamtBy", "[I", true)
  | 31 => ("DreamGuardModel", "maresOf", "[I", true)
  | 32 => ("DreamGuardModel", "wokenAt", "[I", true)
  | 33 => ("DreamGuardModel", "unwatched", "I", false)
  | 34 => ("DreamGuardModel", "opened", "I", false)
  | 35 => ("DreamGuardModel", "mares", "I", false)
  | 36 => ("DreamGuardModel", "wokenAll", "I", false)
  | 37 => ("DreamGuardModel", "quiet", "I", false)
  | 38 => ("DreamGuardModel", "kept", "[I", true)
  | 39 => ("DreamGuardModel", "acts", "I", false)
  | 40 => ("DreamGuardModel", "draws", "J", false)
  | 41 => ("DreamGuardModel", "bestRow", "I", false)
  | 42 => ("DreamGuardModel", "bestMany", "I", false)
  | 43 => ("DreamGuardModel", "spots", "[I", true)
  | 44 => ("DreamGuardModel", "noteMan", "[I", true)
  | 45 => ("DreamGuardModel", "noteHour", "[I", true)
  | 46 => ("DreamGuardModel", "noteIs", "[Z", true)
  | 47 => ("DreamGuardModel", "noted", "I", false)
  | 48 => ("DreamGuardModel", "aside", "[I", true)
  | 49 => ("DreamGuardModel", "told", "[I", true)
  | 50 => ("DreamGuardModel", "saidBy", "[I", true)
  | 51 => ("DreamGuardModel", "saidOf", "[I", true)
  | 52 => ("DreamGuardModel", "saidWoken", "[Z", true)
  | 53 => ("DreamGuardModel", "saids", "I", false)
  | 54 => ("DreamGuardModel", "image", "[I", true)
  | _ => ("DreamGuardModel", "hasImage", "Z", false)
def tyX12 : Nat → FieldType := fun k => match k with
  | 0 => .int
  | 1 => .array .int
  | 2 => .int
  | 3 => .int
  | 4 => .int
  | 5 => .int
  | 6 => .array .int
  | 7 => .array .int
  | 8 => .array .int
  | 9 => .array .int
  | 10 => .array .int
  | 11 => .array .int
  | 12 => .array .int
  | 13 => .int
  | 14 => .int
  | 15 => .array .int
  | 16 => .array .int
  | 17 => .array .int
  | 18 => .array .int
  | 19 => .int
  | 20 => .array .int
  | 21 => .array .int
  | 22 => .int
  | 23 => .array .int
  | 24 => .array .int
  | 25 => .int
  | 26 => .int
  | 27 => .array .int
  | 28 => .array .int
  | 29 => .array .int
  | 30 => .array .int
  | 31 => .array .int
  | 32 => .array .int
  | 33 => .int
  | 34 => .int
  | 35 => .int
  | 36 => .int
  | 37 => .int
  | 38 => .array .int
  | 39 => .int
  | 40 => .long
  | 41 => .int
  | 42 => .int
  | 43 => .array .int
  | 44 => .array .int
  | 45 => .array .int
  | 46 => .array .boolean
  | 47 => .int
  | 48 => .array .int
  | 49 => .array .int
  | 50 => .array .int
  | 51 => .array .int
  | 52 => .array .boolean
  | 53 => .int
  | 54 => .array .int
  | _ => .boolean
abbrev wsX120 : List Cond := u_ws RX12 TX12 56
theorem nmX12 : ∀ a, a < 56 → ∀ b, b < 56 → a ≠ b → (TX12 a).2.1 ≠ (TX12 b).2.1 := by decide +kernel
theorem tyX12_ok : ∀ k, k < 56 → parseFieldDescriptor (TX12 k).2.2.1 = some (tyX12 k) := by decide +kernel
abbrev cX12_in : ByteArray := prog_14_method_1_code
def yX12_in : MethodName := ⟨RX12, "in", "(III)Z"⟩
abbrev cX12_has : ByteArray := prog_14_method_2_code
def yX12_has : MethodName := ⟨RX12, "has", "(II)Z"⟩
abbrev cX12_init : ByteArray := prog_14_method_3_code
def yX12_init : MethodName := ⟨RX12, "<init>", "()V"⟩
abbrev cX12_byteOf : ByteArray := prog_14_method_5_code
def yX12_byteOf : MethodName := ⟨RX12, "byteOf", "(IIIIII)I"⟩
abbrev cX12_feed : ByteArray := prog_14_method_6_code
def yX12_feed : MethodName := ⟨RX12, "feed", "(IIIII)I"⟩
abbrev cX12_end : ByteArray := prog_14_method_7_code
def yX12_end : MethodName := ⟨RX12, "end", "(I)Z"⟩
abbrev cX12_here : ByteArray := prog_14_method_8_code
def yX12_here : MethodName := ⟨RX12, "here", "()I"⟩
abbrev cX12_look : ByteArray := prog_14_method_9_code
def yX12_look : MethodName := ⟨RX12, "look", "()I"⟩
abbrev cX12_bad : ByteArray := prog_14_method_10_code
def yX12_bad : MethodName := ⟨RX12, "bad", "()V"⟩
abbrev cX12_isDigit : ByteArray := prog_14_method_11_code
def yX12_isDigit : MethodName := ⟨RX12, "isDigit", "(I)Z"⟩
abbrev cX12_put : ByteArray := prog_14_method_12_code
def yX12_put : MethodName := ⟨RX12, "put", "(II)V"⟩
abbrev cX12_letterOf : ByteArray := prog_14_method_13_code
def yX12_letterOf : MethodName := ⟨RX12, "letterOf", "(I)I"⟩
abbrev cX12_opens : ByteArray := prog_14_method_14_code
def yX12_opens : MethodName := ⟨RX12, "opens", "()V"⟩
abbrev cX12_closes : ByteArray := prog_14_method_15_code
def yX12_closes : MethodName := ⟨RX12, "closes", "(I)V"⟩
abbrev cX12_plainNumber : ByteArray := prog_14_method_16_code
def yX12_plainNumber : MethodName := ⟨RX12, "plainNumber", "()I"⟩
abbrev cX12_atom : ByteArray := prog_14_method_17_code
def yX12_atom : MethodName := ⟨RX12, "atom", "()V"⟩
abbrev cX12_term : ByteArray := prog_14_method_18_code
def yX12_term : MethodName := ⟨RX12, "term", "()V"⟩
abbrev cX12_sum : ByteArray := prog_14_method_19_code
def yX12_sum : MethodName := ⟨RX12, "sum", "()V"⟩
abbrev cX12_isSign : ByteArray := prog_14_method_20_code
def yX12_isSign : MethodName := ⟨RX12, "isSign", "(I)Z"⟩
abbrev cX12_compare : ByteArray := prog_14_method_21_code
def yX12_compare : MethodName := ⟨RX12, "compare", "()V"⟩
abbrev cX12_unit : ByteArray := prog_14_method_22_code
def yX12_unit : MethodName := ⟨RX12, "unit", "()V"⟩
abbrev cX12_goOnAnd : ByteArray := prog_14_method_23_code
def yX12_goOnAnd : MethodName := ⟨RX12, "goOnAnd", "()V"⟩
abbrev cX12_goOnOr : ByteArray := prog_14_method_24_code
def yX12_goOnOr : MethodName := ⟨RX12, "goOnOr", "()V"⟩
abbrev cX12_condition : ByteArray := prog_14_method_25_code
def yX12_condition : MethodName := ⟨RX12, "condition", "()V"⟩
abbrev cX12_clause : ByteArray := prog_14_method_26_code
def yX12_clause : MethodName := ⟨RX12, "clause", "()V"⟩
abbrev cX12_open : ByteArray := prog_14_method_27_code
def yX12_open : MethodName := ⟨RX12, "open", "(I)V"⟩
abbrev cX12_atEnd : ByteArray := prog_14_method_28_code
def yX12_atEnd : MethodName := ⟨RX12, "atEnd", "()I"⟩
abbrev cX12_readLaw : ByteArray := prog_14_method_29_code
def yX12_readLaw : MethodName := ⟨RX12, "readLaw", "(I)I"⟩
abbrev cX12_bounded : ByteArray := prog_14_method_30_code
def yX12_bounded : MethodName := ⟨RX12, "bounded", "(J)I"⟩
abbrev cX12_worked : ByteArray := prog_14_method_31_code
def yX12_worked : MethodName := ⟨RX12, "worked", "(IJJ)I"⟩
abbrev cX12_workOut : ByteArray := prog_14_method_32_code
def yX12_workOut : MethodName := ⟨RX12, "workOut", "(III)I"⟩
abbrev cX12_worthOf : ByteArray := prog_14_method_33_code
def yX12_worthOf : MethodName := ⟨RX12, "worthOf", "(I)I"⟩
abbrev cX12_number : ByteArray := prog_14_method_34_code
def yX12_number : MethodName := ⟨RX12, "number", "(II)I"⟩
abbrev cX12_itemOf : ByteArray := prog_14_method_35_code
def yX12_itemOf : MethodName := ⟨RX12, "itemOf", "(II)I"⟩
abbrev cX12_lowest : ByteArray := prog_14_method_36_code
def yX12_lowest : MethodName := ⟨RX12, "lowest", "(II)I"⟩
abbrev cX12_highest : ByteArray := prog_14_method_37_code
def yX12_highest : MethodName := ⟨RX12, "highest", "(II)I"⟩
abbrev cX12_usual : ByteArray := prog_14_method_38_code
def yX12_usual : MethodName := ⟨RX12, "usual", "(II)I"⟩
abbrev cX12_items : ByteArray := prog_14_method_39_code
def yX12_items : MethodName := ⟨RX12, "items", "(I[III)V"⟩
abbrev cX12_isWhole : ByteArray := prog_14_method_40_code
def yX12_isWhole : MethodName := ⟨RX12, "isWhole", "()Z"⟩
abbrev cX12_readFort : ByteArray := prog_14_method_41_code
def yX12_readFort : MethodName := ⟨RX12, "readFort", "()I"⟩
abbrev cX12_fault : ByteArray := prog_14_method_42_code
def yX12_fault : MethodName := ⟨RX12, "fault", "(I)I"⟩
abbrev cX12_begin : ByteArray := prog_14_method_43_code
def yX12_begin : MethodName := ⟨RX12, "begin", "()V"⟩
abbrev cX12_takeFort : ByteArray := prog_14_method_44_code
def yX12_takeFort : MethodName := ⟨RX12, "takeFort", "()I"⟩
abbrev cX12_text : ByteArray := prog_14_method_45_code
def yX12_text : MethodName := ⟨RX12, "text", "(I)I"⟩
abbrev cX12_of : ByteArray := prog_14_method_46_code
def yX12_of : MethodName := ⟨RX12, "of", "(II)I"⟩
abbrev cX12_isMan : ByteArray := prog_14_method_47_code
def yX12_isMan : MethodName := ⟨RX12, "isMan", "(I)Z"⟩
abbrev cX12_isHour : ByteArray := prog_14_method_48_code
def yX12_isHour : MethodName := ⟨RX12, "isHour", "(I)Z"⟩
abbrev cX12_manAt : ByteArray := prog_14_method_49_code
def yX12_manAt : MethodName := ⟨RX12, "manAt", "(I)I"⟩
abbrev cX12_watcherOf : ByteArray := prog_14_method_50_code
def yX12_watcherOf : MethodName := ⟨RX12, "watcherOf", "(I)I"⟩
abbrev cX12_isInBed : ByteArray := prog_14_method_51_code
def yX12_isInBed : MethodName := ⟨RX12, "isInBed", "(II)Z"⟩
abbrev cX12_dreamOf : ByteArray := prog_14_method_52_code
def yX12_dreamOf : MethodName := ⟨RX12, "dreamOf", "(IIZ)I"⟩
abbrev cX12_layHour : ByteArray := prog_14_method_53_code
def yX12_layHour : MethodName := ⟨RX12, "layHour", "(I)V"⟩
abbrev cX12_layNight : ByteArray := prog_14_method_54_code
def yX12_layNight : MethodName := ⟨RX12, "layNight", "()V"⟩
abbrev cX12_live : ByteArray := prog_14_method_55_code
def yX12_live : MethodName := ⟨RX12, "live", "()V"⟩
abbrev cX12_passNight : ByteArray := prog_14_method_56_code
def yX12_passNight : MethodName := ⟨RX12, "passNight", "()V"⟩
abbrev cX12_rule : ByteArray := prog_14_method_57_code
def yX12_rule : MethodName := ⟨RX12, "rule", "(I)I"⟩
abbrev cX12_man : ByteArray := prog_14_method_58_code
def yX12_man : MethodName := ⟨RX12, "man", "(II)I"⟩
abbrev cX12_law : ByteArray := prog_14_method_59_code
def yX12_law : MethodName := ⟨RX12, "law", "(I)Z"⟩
abbrev cX12_keep : ByteArray := prog_14_method_60_code
def yX12_keep : MethodName := ⟨RX12, "keep", "()V"⟩
abbrev cX12_isRefused : ByteArray := prog_14_method_61_code
def yX12_isRefused : MethodName := ⟨RX12, "isRefused", "(I)Z"⟩
abbrev cX12_bed : ByteArray := prog_14_method_62_code
def yX12_bed : MethodName := ⟨RX12, "bed", "(II)I"⟩
abbrev cX12_train : ByteArray := prog_14_method_63_code
def yX12_train : MethodName := ⟨RX12, "train", "(I)I"⟩
abbrev cX12_dull : ByteArray := prog_14_method_64_code
def yX12_dull : MethodName := ⟨RX12, "dull", "(I)I"⟩
abbrev cX12_swapNow : ByteArray := prog_14_method_65_code
def yX12_swapNow : MethodName := ⟨RX12, "swapNow", "(II)V"⟩
abbrev cX12_swap : ByteArray := prog_14_method_66_code
def yX12_swap : MethodName := ⟨RX12, "swap", "(II)I"⟩
abbrev cX12_areNights : ByteArray := prog_14_method_67_code
def yX12_areNights : MethodName := ⟨RX12, "areNights", "(I)Z"⟩
abbrev cX12_nights : ByteArray := prog_14_method_68_code
def yX12_nights : MethodName := ⟨RX12, "nights", "(I)I"⟩
abbrev cX12_snow : ByteArray := prog_14_method_69_code
def yX12_snow : MethodName := ⟨RX12, "snow", "(I)Z"⟩
abbrev cX12_draw : ByteArray := prog_14_method_70_code
def yX12_draw : MethodName := ⟨RX12, "draw", "(I)I"⟩
abbrev cX12_years : ByteArray := prog_14_method_71_code
def yX12_years : MethodName := ⟨RX12, "years", "(IJ)I"⟩
abbrev cX12_status : ByteArray := prog_14_method_72_code
def yX12_status : MethodName := ⟨RX12, "status", "(I)I"⟩
abbrev cX12_undo : ByteArray := prog_14_method_73_code
def yX12_undo : MethodName := ⟨RX12, "undo", "()I"⟩
abbrev cX12_log : ByteArray := prog_14_method_74_code
def yX12_log : MethodName := ⟨RX12, "log", "(II)I"⟩
abbrev cX12_dream : ByteArray := prog_14_method_75_code
def yX12_dream : MethodName := ⟨RX12, "dream", "(II)I"⟩
abbrev cX12_sleeps : ByteArray := prog_14_method_76_code
def yX12_sleeps : MethodName := ⟨RX12, "sleeps", "(II)I"⟩
abbrev cX12_slept : ByteArray := prog_14_method_77_code
def yX12_slept : MethodName := ⟨RX12, "slept", "(II)I"⟩
abbrev cX12_awakeIn : ByteArray := prog_14_method_78_code
def yX12_awakeIn : MethodName := ⟨RX12, "awakeIn", "(I)I"⟩
abbrev cX12_awake : ByteArray := prog_14_method_79_code
def yX12_awake : MethodName := ⟨RX12, "awake", "(I)I"⟩
abbrev cX12_fewest : ByteArray := prog_14_method_80_code
def yX12_fewest : MethodName := ⟨RX12, "fewest", "()I"⟩
abbrev cX12_night : ByteArray := prog_14_method_81_code
def yX12_night : MethodName := ⟨RX12, "night", "(I)I"⟩
abbrev cX12_tryRow : ByteArray := prog_14_method_82_code
def yX12_tryRow : MethodName := ⟨RX12, "tryRow", "(II)V"⟩
abbrev cX12_areApart : ByteArray := prog_14_method_83_code
def yX12_areApart : MethodName := ⟨RX12, "areApart", "(II)Z"⟩
abbrev cX12_isGuarded : ByteArray := prog_14_method_84_code
def yX12_isGuarded : MethodName := ⟨RX12, "isGuarded", "(I)Z"⟩
abbrev cX12_tryBeds : ByteArray := prog_14_method_85_code
def yX12_tryBeds : MethodName := ⟨RX12, "tryBeds", "(III)V"⟩
abbrev cX12_stagger : ByteArray := prog_14_method_86_code
def yX12_stagger : MethodName := ⟨RX12, "stagger", "(I)I"⟩
abbrev cX12_tryRings : ByteArray := prog_14_method_87_code
def yX12_tryRings : MethodName := ⟨RX12, "tryRings", "(III)V"⟩
abbrev cX12_ring : ByteArray := prog_14_method_88_code
def yX12_ring : MethodName := ⟨RX12, "ring", "(I)I"⟩
abbrev cX12_tryRingsFrom : ByteArray := prog_14_method_89_code
def yX12_tryRingsFrom : MethodName := ⟨RX12, "tryRingsFrom", "(I)V"⟩
abbrev cX12_best : ByteArray := prog_14_method_90_code
def yX12_best : MethodName := ⟨RX12, "best", "(II)I"⟩
abbrev cX12_seen : ByteArray := prog_14_method_91_code
def yX12_seen : MethodName := ⟨RX12, "seen", "(IIZ)I"⟩
abbrev cX12_isWho : ByteArray := prog_14_method_92_code
def yX12_isWho : MethodName := ⟨RX12, "isWho", "(I)Z"⟩
abbrev cX12_layTold : ByteArray := prog_14_method_93_code
def yX12_layTold : MethodName := ⟨RX12, "layTold", "(I)V"⟩
abbrev cX12_isSo : ByteArray := prog_14_method_94_code
def yX12_isSo : MethodName := ⟨RX12, "isSo", "(I)Z"⟩
abbrev cX12_isMore : ByteArray := prog_14_method_95_code
def yX12_isMore : MethodName := ⟨RX12, "isMore", "(I)Z"⟩
abbrev cX12_who : ByteArray := prog_14_method_96_code
def yX12_who : MethodName := ⟨RX12, "who", "(II)I"⟩
abbrev cX12_hourToAsk : ByteArray := prog_14_method_97_code
def yX12_hourToAsk : MethodName := ⟨RX12, "hourToAsk", "(I)I"⟩
abbrev cX12_said : ByteArray := prog_14_method_98_code
def yX12_said : MethodName := ⟨RX12, "said", "(IIZ)I"⟩
abbrev cX12_liars : ByteArray := prog_14_method_99_code
def yX12_liars : MethodName := ⟨RX12, "liars", "()I"⟩
abbrev cX12_gameOf : ByteArray := prog_14_method_100_code
def yX12_gameOf : MethodName := ⟨RX12, "gameOf", "(IIII)I"⟩
abbrev cX12_areTwo : ByteArray := prog_14_method_101_code
def yX12_areTwo : MethodName := ⟨RX12, "areTwo", "(II)Z"⟩
abbrev cX12_game : ByteArray := prog_14_method_102_code
def yX12_game : MethodName := ⟨RX12, "game", "(IIIII)I"⟩
abbrev cX12_isRest : ByteArray := prog_14_method_103_code
def yX12_isRest : MethodName := ⟨RX12, "isRest", "(IIII)Z"⟩
abbrev cX12_rests : ByteArray := prog_14_method_104_code
def yX12_rests : MethodName := ⟨RX12, "rests", "(III)I"⟩
abbrev cX12_odds : ByteArray := prog_14_method_105_code
def yX12_odds : MethodName := ⟨RX12, "odds", "(I)I"⟩
abbrev cX12_sumOf : ByteArray := prog_14_method_106_code
def yX12_sumOf : MethodName := ⟨RX12, "sumOf", "(I)I"⟩
abbrev cX12_shares : ByteArray := prog_14_method_107_code
def yX12_shares : MethodName := ⟨RX12, "shares", "(II)I"⟩
abbrev cX12_watcher : ByteArray := prog_14_method_108_code
def yX12_watcher : MethodName := ⟨RX12, "watcher", "(I)I"⟩
abbrev cX12_mostBy : ByteArray := prog_14_method_109_code
def yX12_mostBy : MethodName := ⟨RX12, "mostBy", "(II)I"⟩
abbrev cX12_rested : ByteArray := prog_14_method_110_code
def yX12_rested : MethodName := ⟨RX12, "rested", "()I"⟩
abbrev cX12_most : ByteArray := prog_14_method_111_code
def yX12_most : MethodName := ⟨RX12, "most", "(I)I"⟩
abbrev cX12_spare : ByteArray := prog_14_method_112_code
def yX12_spare : MethodName := ⟨RX12, "spare", "(I)I"⟩
abbrev cX12_image : ByteArray := prog_14_method_113_code
def yX12_image : MethodName := ⟨RX12, "image", "()I"⟩
abbrev cX12_back : ByteArray := prog_14_method_114_code
def yX12_back : MethodName := ⟨RX12, "back", "()I"⟩
abbrev cX12_count : ByteArray := prog_14_method_115_code
def yX12_count : MethodName := ⟨RX12, "count", "(I)I"⟩
def RJx145de : String := "java/io/Serializable"
def TJx145de : u_T := fun k => match k with
  | _ => ("", "", "", false)
def tyJx145de : Nat → FieldType := fun k => match k with
  | _ => .int
theorem nmJx145de : ∀ a, a < 0 → ∀ b, b < 0 → a ≠ b → (TJx145de a).2.1 ≠ (TJx145de b).2.1 := by decide +kernel
theorem tyJx145de_ok : ∀ k, k < 0 → parseFieldDescriptor (TJx145de k).2.2.1 = some (tyJx145de k) := by decide +kernel
def RJx9f9b0 : String := "java/lang/CharSequence"
def TJx9f9b0 : u_T := fun k => match k with
  | _ => ("", "", "", false)
def tyJx9f9b0 : Nat → FieldType := fun k => match k with
  | _ => .int
theorem nmJx9f9b0 : ∀ a, a < 0 → ∀ b, b < 0 → a ≠ b → (TJx9f9b0 a).2.1 ≠ (TJx9f9b0 b).2.1 := by decide +kernel
theorem tyJx9f9b0_ok : ∀ k, k < 0 → parseFieldDescriptor (TJx9f9b0 k).2.2.1 = some (tyJx9f9b0 k) := by decide +kernel
def RJ11 : String := "java/lang/Character"
def TJ11 : u_T := fun k => match k with
  | _ => ("", "", "", false)
def tyJ11 : Nat → FieldType := fun k => match k with
  | _ => .int
theorem nmJ11 : ∀ a, a < 0 → ∀ b, b < 0 → a ≠ b → (TJ11 a).2.1 ≠ (TJ11 b).2.1 := by decide +kernel
theorem tyJ11_ok : ∀ k, k < 0 → parseFieldDescriptor (TJ11 k).2.2.1 = some (tyJ11 k) := by decide +kernel
abbrev cJ11_isValidCodePoint_9a6ad : ByteArray := prog_17_method_11_code
def yJ11_isValidCodePoint_9a6ad : MethodName := ⟨RJ11, "isValidCodePoint", "(I)Z"⟩
abbrev cJ11_highSurrogate_5068e : ByteArray := prog_17_method_28_code
def yJ11_highSurrogate_5068e : MethodName := ⟨RJ11, "highSurrogate", "(I)C"⟩
abbrev cJ11_lowSurrogate_5068e : ByteArray := prog_17_method_29_code
def yJ11_lowSurrogate_5068e : MethodName := ⟨RJ11, "lowSurrogate", "(I)C"⟩
def RJxb160c : String := "java/lang/Comparable"
def TJxb160c : u_T := fun k => match k with
  | _ => ("", "", "", false)
def tyJxb160c : Nat → FieldType := fun k => match k with
  | _ => .int
theorem nmJxb160c : ∀ a, a < 0 → ∀ b, b < 0 → a ≠ b → (TJxb160c a).2.1 ≠ (TJxb160c b).2.1 := by decide +kernel
theorem tyJxb160c_ok : ∀ k, k < 0 → parseFieldDescriptor (TJxb160c k).2.2.1 = some (tyJxb160c k) := by decide +kernel
def RJ6 : String := "java/lang/Integer"
def TJ6 : u_T := fun k => match k with
  | _ => ("", "", "", false)
def tyJ6 : Nat → FieldType := fun k => match k with
  | _ => .int
theorem nmJ6 : ∀ a, a < 0 → ∀ b, b < 0 → a ≠ b → (TJ6 a).2.1 ≠ (TJ6 b).2.1 := by decide +kernel
theorem tyJ6_ok : ∀ k, k < 0 → parseFieldDescriptor (TJ6 k).2.2.1 = some (tyJ6 k) := by decide +kernel
abbrev cJ6_bitCount_0f7a4 : ByteArray := prog_20_method_49_code
def yJ6_bitCount_0f7a4 : MethodName := ⟨RJ6, "bitCount", "(I)I"⟩
def RJ9 : String := "java/lang/Math"
def TJ9 : u_T := fun k => match k with
  | _ => ("", "", "", false)
def tyJ9 : Nat → FieldType := fun k => match k with
  | _ => .int
theorem nmJ9 : ∀ a, a < 0 → ∀ b, b < 0 → a ≠ b → (TJ9 a).2.1 ≠ (TJ9 b).2.1 := by decide +kernel
theorem tyJ9_ok : ∀ k, k < 0 → parseFieldDescriptor (TJ9 k).2.2.1 = some (tyJ9 k) := by decide +kernel
abbrev cJ9_abs_0f7a4 : ByteArray := prog_21_method_59_code
def yJ9_abs_0f7a4 : MethodName := ⟨RJ9, "abs", "(I)I"⟩
abbrev cJ9_max_7cf53 : ByteArray := prog_21_method_65_code
def yJ9_max_7cf53 : MethodName := ⟨RJ9, "max", "(II)I"⟩
abbrev cJ9_max_f86c9 : ByteArray := prog_21_method_66_code
def yJ9_max_f86c9 : MethodName := ⟨RJ9, "max", "(JJ)J"⟩
abbrev cJ9_min_7cf53 : ByteArray := prog_21_method_69_code
def yJ9_min_7cf53 : MethodName := ⟨RJ9, "min", "(II)I"⟩
abbrev cJ9_min_f86c9 : ByteArray := prog_21_method_70_code
def yJ9_min_f86c9 : MethodName := ⟨RJ9, "min", "(JJ)J"⟩
def RJ0 : String := "java/lang/String"
def TJ0 : u_T := fun k => match k with
  | _ => ("", "", "", false)
def tyJ0 : Nat → FieldType := fun k => match k with
  | _ => .int
theorem nmJ0 : ∀ a, a < 0 → ∀ b, b < 0 → a ≠ b → (TJ0 a).2.1 ≠ (TJ0 b).2.1 := by decide +kernel
theorem tyJ0_ok : ∀ k, k < 0 → parseFieldDescriptor (TJ0 k).2.2.1 = some (tyJ0 k) := by decide +kernel
abbrev cJ0_length_8abf5 : ByteArray := prog_23_method_54_code
def yJ0_length_8abf5 : MethodName := ⟨RJ0, "length", "()I"⟩
abbrev cJ0_indexOf_0f7a4 : ByteArray := prog_23_method_79_code
def yJ0_indexOf_0f7a4 : MethodName := ⟨RJ0, "indexOf", "(I)I"⟩
abbrev cJ0_indexOf_7cf53 : ByteArray := prog_23_method_80_code
def yJ0_indexOf_7cf53 : MethodName := ⟨RJ0, "indexOf", "(II)I"⟩
abbrev cJ0_coder_7d493 : ByteArray := prog_23_method_152_code
def yJ0_coder_7d493 : MethodName := ⟨RJ0, "coder", "()B"⟩
abbrev cJ0_isLatin1_aae02 : ByteArray := prog_23_method_154_code
def yJ0_isLatin1_aae02 : MethodName := ⟨RJ0, "isLatin1", "()Z"⟩
abbrev cJ0_checkBoundsBeginEnd_23922 : ByteArray := prog_23_method_158_code
def yJ0_checkBoundsBeginEnd_23922 : MethodName := ⟨RJ0, "checkBoundsBeginEnd", "(III)V"⟩
def RJ1 : String := "java/lang/StringLatin1"
def TJ1 : u_T := fun k => match k with
  | _ => ("", "", "", false)
def tyJ1 : Nat → FieldType := fun k => match k with
  | _ => .int
theorem nmJ1 : ∀ a, a < 0 → ∀ b, b < 0 → a ≠ b → (TJ1 a).2.1 ≠ (TJ1 b).2.1 := by decide +kernel
theorem tyJ1_ok : ∀ k, k < 0 → parseFieldDescriptor (TJ1 k).2.2.1 = some (tyJ1 k) := by decide +kernel
abbrev cJ1_canEncode_9a6ad : ByteArray := prog_24_method_4_code
def yJ1_canEncode_9a6ad : MethodName := ⟨RJ1, "canEncode", "(I)Z"⟩
abbrev cJ1_indexOf_4cfef : ByteArray := prog_24_method_22_code
def yJ1_indexOf_4cfef : MethodName := ⟨RJ1, "indexOf", "([BIII)I"⟩
abbrev cJ1_indexOfChar_4cfef : ByteArray := prog_24_method_23_code
def yJ1_indexOfChar_4cfef : MethodName := ⟨RJ1, "indexOfChar", "([BIII)I"⟩
def RJ2 : String := "java/lang/StringUTF16"
def TJ2 : u_T := fun k => match k with
  | _ => ("", "", "", false)
def tyJ2 : Nat → FieldType := fun k => match k with
  | _ => .int
theorem nmJ2 : ∀ a, a < 0 → ∀ b, b < 0 → a ≠ b → (TJ2 a).2.1 ≠ (TJ2 b).2.1 := by decide +kernel
theorem tyJ2_ok : ∀ k, k < 0 → parseFieldDescriptor (TJ2 k).2.2.1 = some (tyJ2 k) := by decide +kernel
abbrev cJ2_getChar_3b067 : ByteArray := prog_25_method_5_code
def yJ2_getChar_3b067 : MethodName := ⟨RJ2, "getChar", "([BI)C"⟩
abbrev cJ2_length_9d52b : ByteArray := prog_25_method_6_code
def yJ2_length_9d52b : MethodName := ⟨RJ2, "length", "([B)I"⟩
abbrev cJ2_indexOf_4cfef : ByteArray := prog_25_method_40_code
def yJ2_indexOf_4cfef : MethodName := ⟨RJ2, "indexOf", "([BIII)I"⟩
abbrev cJ2_indexOfChar_4cfef : ByteArray := prog_25_method_47_code
def yJ2_indexOfChar_4cfef : MethodName := ⟨RJ2, "indexOfChar", "([BIII)I"⟩
abbrev cJ2_indexOfCharUnsafe_4cfef : ByteArray := prog_25_method_48_code
def yJ2_indexOfCharUnsafe_4cfef : MethodName := ⟨RJ2, "indexOfCharUnsafe", "([BIII)I"⟩
abbrev cJ2_indexOfSupplementary_4cfef : ByteArray := prog_25_method_49_code
def yJ2_indexOfSupplementary_4cfef : MethodName := ⟨RJ2, "indexOfSupplementary", "([BIII)I"⟩
abbrev cJ2_checkBoundsBeginEnd_d044e : ByteArray := prog_25_method_93_code
def yJ2_checkBoundsBeginEnd_d044e : MethodName := ⟨RJ2, "checkBoundsBeginEnd", "(II[B)V"⟩
def RJ10 : String := "java/lang/System"
def TJ10 : u_T := fun k => match k with
  | _ => ("", "", "", false)
def tyJ10 : Nat → FieldType := fun k => match k with
  | _ => .int
theorem nmJ10 : ∀ a, a < 0 → ∀ b, b < 0 → a ≠ b → (TJ10 a).2.1 ≠ (TJ10 b).2.1 := by decide +kernel
theorem tyJ10_ok : ∀ k, k < 0 → parseFieldDescriptor (TJ10 k).2.2.1 = some (tyJ10 k) := by decide +kernel
def RJxfd54e : String := "java/lang/constant/Constable"
def TJxfd54e : u_T := fun k => match k with
  | _ => ("", "", "", false)
def tyJxfd54e : Nat → FieldType := fun k => match k with
  | _ => .int
theorem nmJxfd54e : ∀ a, a < 0 → ∀ b, b < 0 → a ≠ b → (TJxfd54e a).2.1 ≠ (TJxfd54e b).2.1 := by decide +kernel
theorem tyJxfd54e_ok : ∀ k, k < 0 → parseFieldDescriptor (TJxfd54e k).2.2.1 = some (tyJxfd54e k) := by decide +kernel
def RJx3cf43 : String := "java/lang/constant/ConstantDesc"
def TJx3cf43 : u_T := fun k => match k with
  | _ => ("", "", "", false)
def tyJx3cf43 : Nat → FieldType := fun k => match k with
  | _ => .int
theorem nmJx3cf43 : ∀ a, a < 0 → ∀ b, b < 0 → a ≠ b → (TJx3cf43 a).2.1 ≠ (TJx3cf43 b).2.1 := by decide +kernel
theorem tyJx3cf43_ok : ∀ k, k < 0 → parseFieldDescriptor (TJx3cf43 k).2.2.1 = some (tyJx3cf43 k) := by decide +kernel
def RJ3 : String := "jdk/internal/util/Preconditions"
def TJ3 : u_T := fun k => match k with
  | _ => ("", "", "", false)
def tyJ3 : Nat → FieldType := fun k => match k with
  | _ => .int
theorem nmJ3 : ∀ a, a < 0 → ∀ b, b < 0 → a ≠ b → (TJ3 a).2.1 ≠ (TJ3 b).2.1 := by decide +kernel
theorem tyJ3_ok : ∀ k, k < 0 → parseFieldDescriptor (TJ3 k).2.2.1 = some (tyJ3 k) := by decide +kernel
abbrev cJ3_checkFromToIndex_8c36e : ByteArray := prog_31_method_12_code
def yJ3_checkFromToIndex_8c36e : MethodName := ⟨RJ3, "checkFromToIndex", "(IIILjava/util/function/BiFunction;)I"⟩
def RL : String := "DreamGuardLaw"
abbrev cL_man : ByteArray := method_3_code
def yL_man : MethodName := ⟨RL, "man", "(LDreamGuard;II[J)I"⟩
abbrev cL_law : ByteArray := code
def yL_law : MethodName := ⟨RL, "law", "([I)Z"⟩
abbrev vwCl : List vw_C := [(RX0, TX0, 3), (RX1, TX1, 5), (RX2, TX2, 6), (RX3, TX3, 6), (RX4, TX4, 3), (RX5, TX5, 12), (RX6, TX6, 4), (RX7, TX7, 6), (RX8, TX8, 10), (RX9, TX9, 7), (RX10, TX10, 3), (RX11, TX11, 20), (RX12, TX12, 56)]
end
section
/-! A MACHINE OF ITS OWN: values, a state of numbers in cells that never move, a step as a predicate transformer -/
/-- a value: an int, a long, a reference (a cell's number) -/
abbrev zV : Type := Int32 ⊕ (Int64 ⊕ Nat)
/-- the state: ints by cell and place (fields and rows), a long by cell -/
abbrev zH : Type := (Nat → Nat → Int32) × (Nat → Int64)
abbrev zL : Type := List (Nat × zV)
def zcat : zV → Nat
  | .inr (.inl _) => 2
  | _ => 1
def zv (ad : Nat → Nat) : zV → Value
  | .inl x => .int x
  | .inr (.inl y) => .long y
  | .inr (.inr k) => .ref (ad k)
theorem zv_cat (ad : Nat → Nat) (v : zV) : (zv ad v).category = zcat v := by
  rcases v with x | x | k <;> rfl
def zc (ad : Nat → Nat) (loc : zL) : List (Nat × Value) := loc.map (fun q => (q.1, zv ad q.2))
def zget (loc : zL) (i : Nat) : Option zV := (loc.find? (fun q => q.1 == i)).map (·.2)
def zput1 (loc : zL) (i : Nat) (v : zV) : zL := (i, v) :: loc.filter (fun q => !(q.1 == i) && !(q.1 + 1 == i && zcat q.2 == 2))
def zput2 (loc : zL) (i : Nat) (v : zV) : zL := (i, v) :: loc.filter (fun q => !(q.1 == i) && (!(q.1 == i + 1) && !(q.1 + 1 == i && zcat q.2 == 2)))
theorem zput1_c (ad : Nat → Nat) (loc : zL) (i : Nat) (v : zV) : (i, zv ad v) :: (zc ad loc).filter (fun q => !(q.1 == i) && !(q.1 + 1 == i && q.2.category == 2)) = zc ad (zput1 loc i v) := by
  unfold zput1 zc
  rw [List.map_cons, List.filter_map]
  refine congrArg (fun l => (i, zv ad v) :: List.map _ l) (List.filter_congr (fun q _ => ?_))
  show (!(q.1 == i) && !(q.1 + 1 == i && (zv ad q.2).category == 2)) = _
  rw [zv_cat]
theorem zput2_c (ad : Nat → Nat) (loc : zL) (i : Nat) (v : zV) : (i, zv ad v) :: (zc ad loc).filter (fun q => !(q.1 == i) && (!(q.1 == i + 1) && !(q.1 + 1 == i && q.2.category == 2))) = zc ad (zput2 loc i v) := by
  unfold zput2 zc
  rw [List.map_cons, List.filter_map]
  refine congrArg (fun l => (i, zv ad v) :: List.map _ l) (List.filter_congr (fun q _ => ?_))
  show (!(q.1 == i) && (!(q.1 == i + 1) && !(q.1 + 1 == i && (zv ad q.2).category == 2))) = _
  rw [zv_cat]
theorem zget_c {ad : Nat → Nat} {loc : zL} {i : Nat} {v : zV} {ls : Array Slot} {nL : Nat} (hl : lv_has ls nL (zc ad loc)) (h : zget loc i = some v) : ls[i]? = some (.val (zv ad v)) := by
  unfold zget at h
  cases hf : loc.find? (fun q => q.1 == i) with
  | none => rw [hf] at h; cases h
  | some q =>
    rw [hf] at h
    have hv : q.2 = v := Option.some.inj h
    have hi : q.1 = i := by have := List.find?_some hf; simpa using this
    have hm : q ∈ loc := List.mem_of_find?_eq_some hf
    have := hl.2.2 (q.1, zv ad q.2) (List.mem_map.mpr ⟨q, hm, rfl⟩)
    rw [hi, hv] at this
    exact this
theorem zget_pos {ad : Nat → Nat} {loc : zL} {i : Nat} {v : zV} (h : zget loc i = some v) : ∃ k : Nat, (zc ad loc)[k]? = some (i, zv ad v) := by
  unfold zget at h
  cases hf : loc.find? (fun q => q.1 == i) with
  | none => rw [hf] at h; cases h
  | some q =>
    rw [hf] at h
    have hv : q.2 = v := Option.some.inj h
    have hi : q.1 = i := by have := List.find?_some hf; simpa using this
    obtain ⟨k, hk⟩ := List.mem_iff_getElem?.mp (List.mem_of_find?_eq_some hf)
    refine ⟨k, ?_⟩
    unfold zc
    rw [List.getElem?_map, hk, ← hi, ← hv]
    rfl
/-- an int's place gets a value -/
def zs (h : zH) (c i : Nat) (v : Int32) : zH := (fun a j => if a = c then (if j = i then v else h.1 a j) else h.1 a j, h.2)
def zsl (h : zH) (c : Nat) (v : Int64) : zH := (h.1, fun a => if a = c then v else h.2 a)
section ZTAB
variable (tab : Nat → (Nat × List Nat) ⊕ (Nat × Nat × List Nat)) (cI cZ cQ cG : ClassId) (ad : Nat → Nat)
/-- a field's value: 0 an int, 1 the long, k + 2 the cell k -/
def zfv (h : zH) (id fi : Nat) : Nat → Value
  | 0 => .int (h.1 id fi)
  | 1 => .long (h.2 id)
  | k + 2 => .ref (ad k)
def zfs (h : zH) (id : Nat) (fk : List Nat) : List Value := (List.range fk.length).map (fun fi => zfv ad h id fi (fk.getD fi 0))
def zce (h : zH) (id : Nat) : va_E := match tab id with
  | .inl (ci, fk) => .inr (ci, zfs ad h id fk)
  | .inr (0, n, _) => .inl (cI, n, .inl (h.1 id))
  | .inr (1, n, _) => .inl (cZ, n, .inl (h.1 id))
  | .inr (2, n, r) => .inl (cQ, n, .inr (.inr (.inr (.inr (fun i => (r[i]?).map ad)))))
  | .inr (_, n, r) => .inl (cG, n, .inr (.inr (.inr (.inr (fun i => (r[i]?).map ad)))))
def zW (N : Nat) (h : zH) : va_W := (List.range N).map (fun id => (ad id, zce tab cI cZ cQ cG ad h id))
end ZTAB
section ZWL
variable {tab : Nat → (Nat × List Nat) ⊕ (Nat × Nat × List Nat)} {cI cZ cQ cG : ClassId} {ad : Nat → Nat} {N : Nat}
theorem zW_at {h : zH} {id : Nat} (hi : id < N) : (zW tab cI cZ cQ cG ad N h)[id]? = some (ad id, zce tab cI cZ cQ cG ad h id) := by
  unfold zW
  rw [List.getElem?_map, List.getElem?_range hi]
  rfl
theorem zce_congr {h h' : zH} {id : Nat} (e1 : h.1 id = h'.1 id) (e2 : h.2 id = h'.2 id) : zce tab cI cZ cQ cG ad h id = zce tab cI cZ cQ cG ad h' id := by
  have e3 : ∀ fi k, zfv ad h id fi k = zfv ad h' id fi k := fun fi k => by
    match k with
    | 0 => show Value.int _ = Value.int _; rw [e1]
    | 1 => show Value.long _ = Value.long _; rw [e2]
    | k + 2 => rfl
  unfold zce zfs
  simp only [e1, e3]
theorem zW_set {h h' : zH} {id : Nat} {x : va_E} (hi : id < N) (hx : zce tab cI cZ cQ cG ad h' id = x) (ho : ∀ a, a ≠ id → h'.1 a = h.1 a ∧ h'.2 a = h.2 a) : (zW tab cI cZ cQ cG ad N h).set id (ad id, x) = zW tab cI cZ cQ cG ad N h' := by
  apply List.ext_getElem?
  intro k
  rw [List.getElem?_set]
  by_cases hk : id = k
  · subst hk
    rw [if_pos rfl, zW_at hi, hx]
    simp [zW, hi]
  · rw [if_neg hk]
    by_cases hN : k < N
    · obtain ⟨e1, e2⟩ := ho k (fun e => hk e.symm)
      rw [zW_at hN, zW_at hN, zce_congr e1 e2]
    · unfold zW
      rw [List.getElem?_map, List.getElem?_map, List.getElem?_eq_none (by simp; omega)]
      rfl
theorem zs_other {h : zH} {c i a : Nat} {v : Int32} (ha : a ≠ c) : (zs h c i v).1 a = h.1 a ∧ (zs h c i v).2 a = h.2 a := by
  refine ⟨?_, rfl⟩
  funext j
  show (if a = c then _ else _) = _
  rw [if_neg ha]
theorem zs_row {h : zH} {c i : Nat} {v : Int32} : (zs h c i v).1 c = upd (h.1 c) i v := by
  funext j
  show (if c = c then (if j = i then v else h.1 c j) else _) = (if j = i then v else h.1 c j)
  rw [if_pos rfl]
theorem zfs_at {h : zH} {id fi k : Nat} {fk : List Nat} (hk : fk[fi]? = some k) : (zfs ad h id fk)[fi]? = some (zfv ad h id fi k) := by
  have hlt : fi < fk.length := (List.getElem?_eq_some_iff.mp hk).1
  unfold zfs
  rw [List.getElem?_map, List.getElem?_range hlt]
  show some (zfv ad h id fi (fk.getD fi 0)) = _
  rw [List.getD_eq_getElem?_getD, hk]
  rfl
theorem zfs_set {h : zH} {id fi : Nat} {v : Int32} {fk : List Nat} (hk : fk[fi]? = some 0) : (zfs ad h id fk).set fi (.int v) = zfs ad (zs h id fi v) id fk := by
  have hlt : fi < fk.length := (List.getElem?_eq_some_iff.mp hk).1
  apply List.ext_getElem?
  intro j
  rw [List.getElem?_set]
  by_cases hj : fi = j
  · subst hj
    rw [if_pos rfl, zfs_at hk]
    have : fi < (zfs ad h id fk).length := by unfold zfs; simp; exact hlt
    rw [if_pos this]
    show some (Value.int v) = some (Value.int (if id = id then (if fi = fi then v else _) else _))
    rw [if_pos rfl, if_pos rfl]
  · rw [if_neg hj]
    cases hf : fk[j]? with
    | none =>
      have hn : fk.length ≤ j := List.getElem?_eq_none_iff.mp hf
      unfold zfs
      rw [List.getElem?_eq_none (by simp; exact hn), List.getElem?_eq_none (by simp; exact hn)]
    | some k =>
      rw [zfs_at hf, zfs_at hf]
      match k with
      | 0 =>
        show some (Value.int _) = some (Value.int (if id = id then (if j = fi then v else _) else _))
        rw [if_pos rfl, if_neg (fun e => hj e.symm)]
      | 1 => rfl
      | k + 2 => rfl
end ZWL
/-- a branch's word -/
def zif (c : Prop) (a b : Prop) : Prop := (c → a) ∧ (¬ c → b)
def zI1 (stk : List zV) (f : Int32 → List zV → Prop) : Prop := match stk with
  | .inl x :: r => f x r
  | _ => False
def zI2 (stk : List zV) (f : Int32 → Int32 → List zV → Prop) : Prop := match stk with
  | .inl y :: .inl x :: r => f x y r
  | _ => False
def zL1 (stk : List zV) (f : Int64 → List zV → Prop) : Prop := match stk with
  | .inr (.inl x) :: r => f x r
  | _ => False
def zL2 (stk : List zV) (f : Int64 → Int64 → List zV → Prop) : Prop := match stk with
  | .inr (.inl y) :: .inr (.inl x) :: r => f x y r
  | _ => False
def zR1 (stk : List zV) (f : Nat → List zV → Prop) : Prop := match stk with
  | .inr (.inr k) :: r => f k r
  | _ => False
def zG1 (loc : zL) (i : Nat) (f : zV → Prop) : Prop := match zget loc i with
  | some v => f v
  | none => False
def zisI : zV → Prop
  | .inl _ => True
  | _ => False
def zisL : zV → Prop
  | .inr (.inl _) => True
  | _ => False
def zisR : zV → Prop
  | .inr (.inr _) => True
  | _ => False
def ztgt (pc : Nat) (off : Int) : Nat := ((pc : Int) + off).toNat
def zcond1 (c : ClassFile.Cond) (x : Int32) : Prop := match c with
  | .eq => x = 0
  | .ne => ¬ x = 0
  | .lt => x < 0
  | .ge => 0 ≤ x
  | .gt => 0 < x
  | .le => x ≤ 0
def zcond2 (c : ClassFile.Cond) (x y : Int32) : Prop := match c with
  | .eq => x = y
  | .ne => ¬ x = y
  | .lt => x < y
  | .ge => y ≤ x
  | .gt => y < x
  | .le => x ≤ y
def zush (x y : Int32) : Int32 := (x.toUInt32 >>> (y.toUInt32 &&& Int32.toUInt32 31)).toInt32
/-- what a field's place holds, as a value -/
def zfa (h : zH) (k fi : Nat) : Nat → zV
  | 0 => .inl (h.1 k fi)
  | 1 => .inr (.inl (h.2 k))
  | j + 2 => .inr (.inr j)
theorem zfa_c (ad : Nat → Nat) (h : zH) (k fi t : Nat) : zv ad (zfa h k fi t) = zfv ad h k fi t := by
  match t with
  | 0 => rfl
  | 1 => rfl
  | j + 2 => rfl
/-- the instructions that touch neither cells nor other methods -/
def zst1 (i : Instr) (pc : Nat) (loc : zL) (stk : List zV) (K : Nat → zL → List zV → Prop) : Prop := match i with
  | .iconst n => K (pc + 1) loc (.inl (Int32.ofInt n) :: stk)
  | .bipush n => K (pc + 2) loc (.inl (Int8.ofInt n).toInt32 :: stk)
  | .sipush n => K (pc + 3) loc (.inl (Int16.ofInt n).toInt32 :: stk)
  | .lconst n => K (pc + 1) loc (.inr (.inl (Int64.ofNat n.val)) :: stk)
  | .iload_n k => zG1 loc k.val (fun v => zisI v ∧ K (pc + 1) loc (v :: stk))
  | .iload k => zG1 loc k (fun v => zisI v ∧ K (pc + 2) loc (v :: stk))
  | .lload_n k => zG1 loc k.val (fun v => zisL v ∧ K (pc + 1) loc (v :: stk))
  | .lload k => zG1 loc k (fun v => zisL v ∧ K (pc + 2) loc (v :: stk))
  | .aload_n k => zG1 loc k.val (fun v => zisR v ∧ K (pc + 1) loc (v :: stk))
  | .aload k => zG1 loc k (fun v => zisR v ∧ K (pc + 2) loc (v :: stk))
  | .iadd => zI2 stk (fun x y r => K (pc + 1) loc (.inl (x + y) :: r))
  | .isub => zI2 stk (fun x y r => K (pc + 1) loc (.inl (x - y) :: r))
  | .imul => zI2 stk (fun x y r => K (pc + 1) loc (.inl (x * y) :: r))
  | .iand => zI2 stk (fun x y r => K (pc + 1) loc (.inl (x &&& y) :: r))
  | .ior => zI2 stk (fun x y r => K (pc + 1) loc (.inl (x ||| y) :: r))
  | .ixor => zI2 stk (fun x y r => K (pc + 1) loc (.inl (x ^^^ y) :: r))
  | .idiv => zI2 stk (fun x y r => ¬ y = 0 ∧ K (pc + 1) loc (.inl (x / y) :: r))
  | .irem => zI2 stk (fun x y r => ¬ y = 0 ∧ K (pc + 1) loc (.inl (x - x / y * y) :: r))
  | .ishl => zI2 stk (fun x y r => K (pc + 1) loc (.inl (x <<< (y &&& 31)) :: r))
  | .ishr => zI2 stk (fun x y r => K (pc + 1) loc (.inl (x >>> (y &&& 31)) :: r))
  | .iushr => zI2 stk (fun x y r => K (pc + 1) loc (.inl (zush x y) :: r))
  | .ineg => zI1 stk (fun x r => K (pc + 1) loc (.inl (-x) :: r))
  | .i2l => zI1 stk (fun x r => K (pc + 1) loc (.inr (.inl x.toInt64) :: r))
  | .l2i => zL1 stk (fun x r => K (pc + 1) loc (.inl x.toInt32 :: r))
  | .i2c => zI1 stk (fun x r => K (pc + 1) loc (.inl (x.toUInt32 % 65536).toInt32 :: r))
  | .ladd => zL2 stk (fun x y r => K (pc + 1) loc (.inr (.inl (x + y)) :: r))
  | .lsub => zL2 stk (fun x y r => K (pc + 1) loc (.inr (.inl (x - y)) :: r))
  | .lmul => zL2 stk (fun x y r => K (pc + 1) loc (.inr (.inl (x * y)) :: r))
  | .land => zL2 stk (fun x y r => K (pc + 1) loc (.inr (.inl (x &&& y)) :: r))
  | .lor => zL2 stk (fun x y r => K (pc + 1) loc (.inr (.inl (x ||| y)) :: r))
  | .dup => match stk with
    | v :: r => zcat v = 1 ∧ K (pc + 1) loc (v :: v :: r)
    | _ => False
  | .pop => match stk with
    | v :: r => zcat v = 1 ∧ K (pc + 1) loc r
    | _ => False
  | .dup2 => match stk with
    | v :: w :: r => zcat v = 1 ∧ zcat w = 1 ∧ K (pc + 1) loc (v :: w :: v :: w :: r)
    | _ => False
  | .goto off => 0 ≤ (pc : Int) + off ∧ K (ztgt pc off) loc stk
  | .ifCond c off => zI1 stk (fun x r => 0 ≤ (pc : Int) + off ∧ zif (zcond1 c x) (K (ztgt pc off) loc r) (K (pc + 3) loc r))
  | .if_icmp c off => zI2 stk (fun x y r => 0 ≤ (pc : Int) + off ∧ zif (zcond2 c x y) (K (ztgt pc off) loc r) (K (pc + 3) loc r))
  | .tableswitch dflt lo hi offs => zI1 stk (fun x r => ∀ off : Int, off = (if x.toInt < lo ∨ hi < x.toInt then dflt else (offs[(x.toInt - lo).toNat]?).getD dflt) → 0 ≤ (pc : Int) + off ∧ K (ztgt pc off) loc r)
  | .istore_n k => zI1 stk (fun x r => K (pc + 1) (zput1 loc k.val (.inl x)) r)
  | .istore k => zI1 stk (fun x r => K (pc + 2) (zput1 loc k (.inl x)) r)
  | .astore_n k => zR1 stk (fun x r => K (pc + 1) (zput1 loc k.val (.inr (.inr x))) r)
  | .astore k => zR1 stk (fun x r => K (pc + 2) (zput1 loc k (.inr (.inr x))) r)
  | .lstore_n k => zL1 stk (fun x r => K (pc + 1) (zput2 loc k.val (.inr (.inl x))) r)
  | .lstore k => zL1 stk (fun x r => K (pc + 2) (zput2 loc k (.inr (.inl x))) r)
  | .iinc k n => match zget loc k with
    | some (.inl x) => K (pc + 3) (zput1 loc k (.inl (x + Int32.ofInt n))) stk
    | _ => False
  | _ => False
/-- an instruction's length; its local within the frame -/
def zlen : Instr → Nat
  | .bipush _ => 2
  | .sipush _ => 3
  | .iload _ => 2
  | .lload _ => 2
  | .aload _ => 2
  | .istore _ => 2
  | .lstore _ => 2
  | .astore _ => 2
  | .iinc _ _ => 3
  | .goto _ => 3
  | .ifCond _ _ => 3
  | .if_icmp _ _ => 3
  | .getfield _ => 3
  | .putfield _ => 3
  | .getstatic _ => 3
  | .invokevirtual _ => 3
  | .invokespecial _ => 3
  | .invokestatic _ => 3
  | .ldc _ => 2
  | .ldc_w _ => 3
  | .ldc2_w _ => 3
  | _ => 1
def zok (nL : Nat) : Instr → Bool
  | .istore_n k => decide (k.val < nL)
  | .astore_n k => decide (k.val < nL)
  | .lstore_n k => decide (k.val + 1 < nL)
  | .istore k => decide (k < nL)
  | .astore k => decide (k < nL)
  | .lstore k => decide (k + 1 < nL)
  | .iinc k _ => decide (k < nL)
  | _ => true
theorem zI1_el {stk : List zV} {f : Int32 → List zV → Prop} (h : zI1 stk f) : ∃ x r, stk = .inl x :: r ∧ f x r := by
  match stk, h with
  | .inl x :: r, h => exact ⟨x, r, rfl, h⟩
theorem zI2_el {stk : List zV} {f : Int32 → Int32 → List zV → Prop} (h : zI2 stk f) : ∃ x y r, stk = .inl y :: .inl x :: r ∧ f x y r := by
  match stk, h with
  | .inl y :: .inl x :: r, h => exact ⟨x, y, r, rfl, h⟩
theorem zL1_el {stk : List zV} {f : Int64 → List zV → Prop} (h : zL1 stk f) : ∃ x r, stk = .inr (.inl x) :: r ∧ f x r := by
  match stk, h with
  | .inr (.inl x) :: r, h => exact ⟨x, r, rfl, h⟩
theorem zL2_el {stk : List zV} {f : Int64 → Int64 → List zV → Prop} (h : zL2 stk f) : ∃ x y r, stk = .inr (.inl y) :: .inr (.inl x) :: r ∧ f x y r := by
  match stk, h with
  | .inr (.inl y) :: .inr (.inl x) :: r, h => exact ⟨x, y, r, rfl, h⟩
theorem zR1_el {stk : List zV} {f : Nat → List zV → Prop} (h : zR1 stk f) : ∃ x r, stk = .inr (.inr x) :: r ∧ f x r := by
  match stk, h with
  | .inr (.inr x) :: r, h => exact ⟨x, r, rfl, h⟩
theorem zG1_el {loc : zL} {i : Nat} {f : zV → Prop} (h : zG1 loc i f) : ∃ v, zget loc i = some v ∧ f v := by
  unfold zG1 at h
  cases hv : zget loc i with
  | none => rw [hv] at h; exact h.elim
  | some v => rw [hv] at h; exact ⟨v, rfl, h⟩
theorem zisI_el {v : zV} (h : zisI v) : ∃ x, v = .inl x := by
  match v, h with
  | .inl x, _ => exact ⟨x, rfl⟩
theorem zisL_el {v : zV} (h : zisL v) : ∃ x, v = .inr (.inl x) := by
  match v, h with
  | .inr (.inl x), _ => exact ⟨x, rfl⟩
theorem zisR_el {v : zV} (h : zisR v) : ∃ x, v = .inr (.inr x) := by
  match v, h with
  | .inr (.inr x), _ => exact ⟨x, rfl⟩
section ZS1
variable {p : Program} {l : Launch} {e : Env} {R : Room} {s : State} {m : MethodId} {args : Array Value} {below : List Frame} {meth : Method} {c : Code} {H : Heap} {locs : List Loc} {cells slots : Nat} {Q : State → Prop} {cc : ByteArray} {ad : Nat → Nat} {nL : Nat}
theorem ztgt_eq {pc : Nat} {off : Int} (h : 0 ≤ (pc : Int) + off) : (pc : Int) + off = (ztgt pc off : Int) := by
  unfold ztgt
  omega
set_option maxHeartbeats 8000000 in
/-- soundness, an instruction that touches neither cells nor methods -/
theorem zst1_sound (hx : p.tables.exec = Jvm.exec) (hb : c.code = cc) {i : Instr} {pc : Nat} {loc : zL} {stk : List zV} {ls : Array Slot} {K : Nat → zL → List zV → Prop} (hdg : decode cc pc = .ok (i, zlen i)) (hok : zok nL i = true) (hts : ∀ d lo hi (o : Array Int), i ≠ .tableswitch d lo hi o) (hl : lv_has ls nL (zc ad loc)) (hw : zst1 i pc loc stk K)
    (kk : ∀ (pc' : Nat) (loc' : zL) (stk' : List zV) (ls' : Array Slot), lv_has ls' nL (zc ad loc') → K pc' loc' stk' → W p l e R s m args below meth c H locs cells slots Q (F0 m pc' ls' (stk'.map (zv ad)))) : W p l e R s m args below meth c H locs cells slots Q (F0 m pc ls (stk.map (zv ad))) := by
  cases i
  case iconst n =>
    have k9 := kk _ _ _ _ hl hw
    exact lv_iconst hx hb hdg rfl k9
  case bipush n =>
    have k9 := kk _ _ _ _ hl hw
    exact lv_bipush hx hb hdg rfl k9
  case sipush n =>
    have k9 := kk _ _ _ _ hl hw
    exact lv_sipush hx hb hdg rfl k9
  case lconst n =>
    have k9 := kk _ _ _ _ hl hw
    exact lv_lconst hx hb hdg rfl k9
  case iload_n k =>
    obtain ⟨v, hv, hi, hw⟩ := zG1_el hw
    obtain ⟨x, rfl⟩ := zisI_el hi
    have k9 := kk _ _ _ _ hl hw
    exact lv_iload_n hx hb hdg rfl (zget_c hl hv) k9
  case iload k =>
    obtain ⟨v, hv, hi, hw⟩ := zG1_el hw
    obtain ⟨x, rfl⟩ := zisI_el hi
    have k9 := kk _ _ _ _ hl hw
    exact lv_iload hx hb hdg (zget_c hl hv) k9
  case lload_n k =>
    obtain ⟨v, hv, hi, hw⟩ := zG1_el hw
    obtain ⟨x, rfl⟩ := zisL_el hi
    have k9 := kk _ _ _ _ hl hw
    exact lv_lload_n hx hb hdg rfl (zget_c hl hv) k9
  case lload k =>
    obtain ⟨v, hv, hi, hw⟩ := zG1_el hw
    obtain ⟨x, rfl⟩ := zisL_el hi
    have k9 := kk _ _ _ _ hl hw
    exact lv_lload hx hb hdg (zget_c hl hv) k9
  case aload_n k =>
    obtain ⟨v, hv, hi, hw⟩ := zG1_el hw
    obtain ⟨x, rfl⟩ := zisR_el hi
    have k9 := kk _ _ _ _ hl hw
    exact lv_aload_n hx hb hdg rfl (zget_c hl hv) k9
  case aload k =>
    obtain ⟨v, hv, hi, hw⟩ := zG1_el hw
    obtain ⟨x, rfl⟩ := zisR_el hi
    have k9 := kk _ _ _ _ hl hw
    exact lv_aload hx hb hdg (zget_c hl hv) k9
  case iadd =>
    obtain ⟨x, y, r, rfl, hw⟩ := zI2_el hw
    have k9 := kk _ _ _ _ hl hw
    exact lv_iadd hx hb hdg k9
  case isub =>
    obtain ⟨x, y, r, rfl, hw⟩ := zI2_el hw
    have k9 := kk _ _ _ _ hl hw
    exact lv_isub hx hb hdg k9
  case imul =>
    obtain ⟨x, y, r, rfl, hw⟩ := zI2_el hw
    have k9 := kk _ _ _ _ hl hw
    exact lv_imul hx hb hdg k9
  case iand =>
    obtain ⟨x, y, r, rfl, hw⟩ := zI2_el hw
    have k9 := kk _ _ _ _ hl hw
    exact lv_iand hx hb hdg k9
  case ior =>
    obtain ⟨x, y, r, rfl, hw⟩ := zI2_el hw
    have k9 := kk _ _ _ _ hl hw
    exact lv_ior hx hb hdg k9
  case ixor =>
    obtain ⟨x, y, r, rfl, hw⟩ := zI2_el hw
    have k9 := kk _ _ _ _ hl hw
    exact lv_ixor hx hb hdg k9
  case ishl =>
    obtain ⟨x, y, r, rfl, hw⟩ := zI2_el hw
    have k9 := kk _ _ _ _ hl hw
    exact lv_ishl hx hb hdg k9
  case ishr =>
    obtain ⟨x, y, r, rfl, hw⟩ := zI2_el hw
    have k9 := kk _ _ _ _ hl hw
    exact lv_ishr hx hb hdg k9
  case iushr =>
    obtain ⟨x, y, r, rfl, hw⟩ := zI2_el hw
    have k9 := kk _ _ _ _ hl hw
    exact lv_iushr hx hb hdg rfl k9
  case idiv =>
    obtain ⟨x, y, r, rfl, hy, hw⟩ := zI2_el hw
    have k9 := kk _ _ _ _ hl hw
    exact lv_idiv hx hb hdg hy k9
  case irem =>
    obtain ⟨x, y, r, rfl, hy, hw⟩ := zI2_el hw
    have k9 := kk _ _ _ _ hl hw
    exact lv_irem hx hb hdg hy k9
  case ineg =>
    obtain ⟨x, r, rfl, hw⟩ := zI1_el hw
    have k9 := kk _ _ _ _ hl hw
    exact lv_ineg hx hb hdg k9
  case i2l =>
    obtain ⟨x, r, rfl, hw⟩ := zI1_el hw
    have k9 := kk _ _ _ _ hl hw
    exact lv_i2l hx hb hdg rfl k9
  case i2c =>
    obtain ⟨x, r, rfl, hw⟩ := zI1_el hw
    have k9 := kk _ _ _ _ hl hw
    exact lv_i2c hx hb hdg rfl k9
  case l2i =>
    obtain ⟨x, r, rfl, hw⟩ := zL1_el hw
    have k9 := kk _ _ _ _ hl hw
    exact lv_l2i hx hb hdg rfl k9
  case ladd =>
    obtain ⟨x, y, r, rfl, hw⟩ := zL2_el hw
    have k9 := kk _ _ _ _ hl hw
    exact lv_ladd hx hb hdg k9
  case lsub =>
    obtain ⟨x, y, r, rfl, hw⟩ := zL2_el hw
    have k9 := kk _ _ _ _ hl hw
    exact lv_lsub hx hb hdg k9
  case lmul =>
    obtain ⟨x, y, r, rfl, hw⟩ := zL2_el hw
    have k9 := kk _ _ _ _ hl hw
    exact lv_lmul hx hb hdg k9
  case land =>
    obtain ⟨x, y, r, rfl, hw⟩ := zL2_el hw
    have k9 := kk _ _ _ _ hl hw
    exact lv_land hx hb hdg k9
  case lor =>
    obtain ⟨x, y, r, rfl, hw⟩ := zL2_el hw
    have k9 := kk _ _ _ _ hl hw
    exact lv_lor hx hb hdg k9
  case dup =>
    match stk, hw with
    | v :: r, hw =>
      have k9 := kk _ _ _ _ hl hw.2
      exact lv_dup hx hb hdg ((zv_cat ad v).trans hw.1) k9
  case pop =>
    match stk, hw with
    | v :: r, hw =>
      have k9 := kk _ _ _ _ hl hw.2
      exact lv_pop hx hb hdg ((zv_cat ad v).trans hw.1) k9
  case dup2 =>
    match stk, hw with
    | v :: w :: r, hw =>
      have k9 := kk _ _ _ _ hl hw.2.2
      exact lv_dup2_11 hx hb hdg ((zv_cat ad v).trans hw.1) ((zv_cat ad w).trans hw.2.1) k9
  case goto off =>
    have k9 := kk _ _ _ _ hl hw.2
    exact lv_goto hx hb hdg (ztgt_eq hw.1) k9
  case ifCond cd off =>
    obtain ⟨x, r, rfl, ho, hw⟩ := zI1_el hw
    cases cd
    · exact lv_if_eq hx hb hdg (ztgt_eq ho) (fun q => kk _ _ _ _ hl (hw.1 q)) (fun q => kk _ _ _ _ hl (hw.2 q))
    · exact lv_if_ne hx hb hdg (ztgt_eq ho) (fun q => kk _ _ _ _ hl (hw.1 q)) (fun q => kk _ _ _ _ hl (hw.2 (fun z => z q)))
    · exact lv_if_lt hx hb hdg (ztgt_eq ho) (fun q => kk _ _ _ _ hl (hw.1 q)) (fun q => kk _ _ _ _ hl (hw.2 q))
    · exact lv_if_ge hx hb hdg (ztgt_eq ho) (fun q => kk _ _ _ _ hl (hw.1 q)) (fun q => kk _ _ _ _ hl (hw.2 q))
    · exact lv_if_gt hx hb hdg (ztgt_eq ho) (fun q => kk _ _ _ _ hl (hw.1 q)) (fun q => kk _ _ _ _ hl (hw.2 q))
    · exact lv_if_le hx hb hdg (ztgt_eq ho) (fun q => kk _ _ _ _ hl (hw.1 q)) (fun q => kk _ _ _ _ hl (hw.2 q))
  case if_icmp cd off =>
    obtain ⟨x, y, r, rfl, ho, hw⟩ := zI2_el hw
    cases cd
    · exact lv_icmp_eq hx hb hdg (ztgt_eq ho) (fun q => kk _ _ _ _ hl (hw.1 q)) (fun q => kk _ _ _ _ hl (hw.2 q))
    · exact lv_icmp_ne hx hb hdg (ztgt_eq ho) (fun q => kk _ _ _ _ hl (hw.1 q)) (fun q => kk _ _ _ _ hl (hw.2 (fun z => z q)))
    · exact lv_icmp_lt hx hb hdg (ztgt_eq ho) (fun q => kk _ _ _ _ hl (hw.1 q)) (fun q => kk _ _ _ _ hl (hw.2 q))
    · exact lv_icmp_ge hx hb hdg (ztgt_eq ho) (fun q => kk _ _ _ _ hl (hw.1 q)) (fun q => kk _ _ _ _ hl (hw.2 q))
    · exact lv_icmp_gt hx hb hdg (ztgt_eq ho) (fun q => kk _ _ _ _ hl (hw.1 q)) (fun q => kk _ _ _ _ hl (hw.2 q))
    · exact lv_icmp_le hx hb hdg (ztgt_eq ho) (fun q => kk _ _ _ _ hl (hw.1 q)) (fun q => kk _ _ _ _ hl (hw.2 q))
  case tableswitch d lo hi o =>
    exact absurd rfl (hts d lo hi o)
  case istore_n k =>
    obtain ⟨x, r, rfl, hw⟩ := zI1_el hw
    exact lv_istore_n hx hb hdg rfl hl (of_decide_eq_true hok) (zput1_c ad loc k.val (.inl x)) (fun ls2 hl2 => kk _ _ _ _ hl2 hw)
  case istore k =>
    obtain ⟨x, r, rfl, hw⟩ := zI1_el hw
    exact lv_istore hx hb hdg hl (of_decide_eq_true hok) (zput1_c ad loc k (.inl x)) (fun ls2 hl2 => kk _ _ _ _ hl2 hw)
  case astore_n k =>
    obtain ⟨x, r, rfl, hw⟩ := zR1_el hw
    exact lv_astore_n hx hb hdg rfl hl (of_decide_eq_true hok) (zput1_c ad loc k.val (.inr (.inr x))) (fun ls2 hl2 => kk _ _ _ _ hl2 hw)
  case astore k =>
    obtain ⟨x, r, rfl, hw⟩ := zR1_el hw
    exact lv_astore hx hb hdg hl (of_decide_eq_true hok) (zput1_c ad loc k (.inr (.inr x))) (fun ls2 hl2 => kk _ _ _ _ hl2 hw)
  case lstore_n k =>
    obtain ⟨x, r, rfl, hw⟩ := zL1_el hw
    exact lv_lstore_n hx hb hdg rfl hl (of_decide_eq_true hok) (zput2_c ad loc k.val (.inr (.inl x))) (fun ls2 hl2 => kk _ _ _ _ hl2 hw)
  case lstore k =>
    obtain ⟨x, r, rfl, hw⟩ := zL1_el hw
    exact lv_lstore hx hb hdg hl (of_decide_eq_true hok) (zput2_c ad loc k (.inr (.inl x))) (fun ls2 hl2 => kk _ _ _ _ hl2 hw)
  case iinc k n =>
    cases hv : zget loc k with
    | none => simp only [zst1, hv] at hw
    | some v =>
      match v, hv with
      | .inl x, hv =>
        simp only [zst1, hv] at hw
        obtain ⟨k9, hk9⟩ := zget_pos (ad := ad) hv
        exact lv_iinc hx hb hdg hl hk9 rfl (of_decide_eq_true hok) (zput1_c ad loc k (.inl (x + Int32.ofInt n))) (fun ls2 hl2 => kk _ _ _ _ hl2 hw)
      | .inr x, hv => simp only [zst1, hv] at hw
  all_goals exact False.elim hw
end ZS1
end
section
/-! the instructions that read and write cells -/
/-- fld: a link's number gives the class's number, the field's place, and its kind: 0 an int, 1 a boolean, 2 a long, 3 a reference -/
def zst2 (tab : Nat → (Nat × List Nat) ⊕ (Nat × Nat × List Nat)) (fld : Nat → Option (Nat × Nat × Nat)) (i : Instr) (pc : Nat) (loc : zL) (stk : List zV) (h : zH) (K : Nat → zL → List zV → zH → Prop) : Prop := match i with
  | .getfield idx => zR1 stk (fun k r => match tab k, fld idx with
    | .inl (ci, fk), some (cj, fi, _) => ci = cj ∧ (match fk[fi]? with
      | some t => K (pc + 3) loc (zfa h k fi t :: r) h
      | none => False)
    | _, _ => False)
  | .putfield idx => match stk with
    | .inl x :: .inr (.inr k) :: r => (match tab k, fld idx with
      | .inl (ci, fk), some (cj, fi, b) => ci = cj ∧ fk[fi]? = some 0 ∧ b ≤ 1 ∧ (b = 1 → x = 0 ∨ x = 1) ∧ K (pc + 3) loc r (zs h k fi x)
      | _, _ => False)
    | .inr (.inl x) :: .inr (.inr k) :: r => (match tab k, fld idx with
      | .inl (ci, fk), some (cj, fi, b) => ci = cj ∧ fk[fi]? = some 1 ∧ b = 2 ∧ K (pc + 3) loc r (zsl h k x)
      | _, _ => False)
    | _ => False
  | .iaload => match stk with
    | .inl x :: .inr (.inr k) :: r => (match tab k with
      | .inr (0, n, _) => vp_in x n ∧ K (pc + 1) loc (.inl (h.1 k x.toNatClampNeg) :: r) h
      | _ => False)
    | _ => False
  | .baload => match stk with
    | .inl x :: .inr (.inr k) :: r => (match tab k with
      | .inr (1, n, _) => vp_in x n ∧ K (pc + 1) loc (.inl (h.1 k x.toNatClampNeg) :: r) h
      | _ => False)
    | _ => False
  | .aaload => match stk with
    | .inl x :: .inr (.inr k) :: r => (match tab k with
      | .inr (t, n, q) => (t = 2 ∨ t = 3) ∧ vp_in x n ∧ ∃ z, q[x.toNatClampNeg]? = some z ∧ K (pc + 1) loc (.inr (.inr z) :: r) h
      | _ => False)
    | _ => False
  | .iastore => match stk with
    | .inl v :: .inl x :: .inr (.inr k) :: r => (match tab k with
      | .inr (0, n, _) => vp_in x n ∧ K (pc + 1) loc r (zs h k x.toNatClampNeg v)
      | _ => False)
    | _ => False
  | .bastore => match stk with
    | .inl v :: .inl x :: .inr (.inr k) :: r => (match tab k with
      | .inr (1, n, _) => vp_in x n ∧ (v = 0 ∨ v = 1) ∧ K (pc + 1) loc r (zs h k x.toNatClampNeg v)
      | _ => False)
    | _ => False
  | .arraylength => zR1 stk (fun k r => match tab k with
    | .inr (t, n, _) => t ≤ 3 ∧ K (pc + 1) loc (.inl (Int32.ofNat n) :: r) h
    | _ => False)
  | _ => False
def zCls (Ts : List Cond) (ci : Nat) (C : String) (T : u_T) (Nf : Nat) (ty0 : Nat → FieldType) : Prop := vwCl[ci]? = some (C, T, Nf) ∧ (∀ w ∈ u_ws C T Nf, w ∈ Ts) ∧ (∀ k, k < Nf → parseFieldDescriptor (T k).2.2.1 = some (ty0 k)) ∧ (∀ a, a < Nf → ∀ b, b < Nf → a ≠ b → (T a).2.1 ≠ (T b).2.1)
def zFT (b : Nat) : FieldType := match b with
  | 0 => .int
  | 1 => .boolean
  | _ => .long
def zFldOk (Ts : List Cond) (own : String) (fld : Nat → Option (Nat × Nat × Nat)) : Prop := ∀ idx cj fi b, fld idx = some (cj, fi, b) → ∃ (C : String) (T : u_T) (Nf : Nat) (ty0 : Nat → FieldType), zCls Ts cj C T Nf ty0 ∧ fi < Nf ∧ Cond.fieldLink own idx (T fi).1 (T fi).2.1 (T fi).2.2.1 ∈ Ts ∧ (b ≤ 2 → (T fi).2.2.2 = false ∧ parseFieldDescriptor (T fi).2.2.1 = some (zFT b))
section ZALD
variable {p : Program} {l : Launch} {e : Env} {R : Room} {s : State} {m : MethodId} {args : Array Value} {below : List Frame} {meth : Method} {c : Code} {H : Heap} {locs : List Loc} {cells slots : Nat} {Q : State → Prop} {cc : ByteArray} {pc : Nat} {ls : Array Slot} {rest : List Value} {D : va_G} {cl : List vw_C} {a : Nat} {tys : List (ClassId × FieldType)} {ws : va_W}
/-- a row of rows is read -/
theorem z_aldg (hexec : p.tables.exec = Jvm.exec) (hb : c.code = cc) (hK : va_K D cl tys s) (hP : va_P D cl ws H) (q0 t0 : Nat) {cA : ClassId} {n : Nat} {f : Nat → Option Nat} (ha : ws[q0]? = some (a, .inl (cA, n, .inr (.inr (.inr (.inr f)))))) (ht : tys[t0]? = some (cA, .array .int)) {i : Int32} (hin : vp_in i n) (hdg : decode cc pc = .ok (.aaload, 1))
    (kk : W p l e R s m args below meth c H locs cells slots Q (F0 m (pc + 1) ls (va_rf (f i.toNatClampNeg) :: rest))) : W p l e R s m args below meth c H locs cells slots Q (F0 m pc ls (.int i :: .ref a :: rest)) := by
  have hlt : i.toNatClampNeg < n := Nat.not_le.mp fun q => hin (Or.inr q)
  exact W.aald (v := va_rf (f i.toNatClampNeg)) (ty := .array .int) hexec hb (hP q0 _ ha) ((hK.2 t0 _ ht).1 n (fun j => va_rf (f j))) rfl (fun q => by cases q) (by show ¬ (i < 0 ∨ (arrV _ _ _).slots.size ≤ _); rw [arrV_size]; exact hin) (by show (arrV _ _ _).slots[_]? = _; rw [arrV_read _ _ hlt]) rfl rfl hdg kk
end ZALD
section ZS2
variable {p : Program} {l : Launch} {e : Env} {R : Room} {s : State} {m : MethodId} {args : Array Value} {below : List Frame} {meth : Method} {c : Code} {cells slots : Nat} {Q : State → Prop} {cc : ByteArray} {ad : Nat → Nat} {nL N : Nat} {A : Nat → Prop}
variable {tab : Nat → (Nat × List Nat) ⊕ (Nat × Nat × List Nat)} {fld : Nat → Option (Nat × Nat × Nat)} {cI cZ cQ cG : ClassId} {dC : Nat → ClassId} {dI : Nat → Nat → Nat} {Ts : List Cond} {own : String}
abbrev zTy (cI cZ cQ cG : ClassId) : List (ClassId × FieldType) := [(cI, .int), (cZ, .boolean), (cQ, .object RX8), (cG, .array .int)]
theorem zce_obj {h : zH} {k ci : Nat} {fk : List Nat} (ht : tab k = .inl (ci, fk)) : zce tab cI cZ cQ cG ad h k = .inr (ci, zfs ad h k fk) := by
  unfold zce
  rw [ht]
theorem zce_i {h : zH} {k n : Nat} {r : List Nat} (ht : tab k = .inr (0, n, r)) : zce tab cI cZ cQ cG ad h k = .inl (cI, n, .inl (h.1 k)) := by
  unfold zce
  rw [ht]
  rfl
theorem zce_z {h : zH} {k n : Nat} {r : List Nat} (ht : tab k = .inr (1, n, r)) : zce tab cI cZ cQ cG ad h k = .inl (cZ, n, .inl (h.1 k)) := by
  unfold zce
  rw [ht]
  rfl
theorem zce_q {h : zH} {k n : Nat} {r : List Nat} (ht : tab k = .inr (2, n, r)) : zce tab cI cZ cQ cG ad h k = .inl (cQ, n, .inr (.inr (.inr (.inr (fun i => (r[i]?).map ad))))) := by
  unfold zce
  rw [ht]
  rfl
theorem zce_g {h : zH} {k n : Nat} {r : List Nat} (ht : tab k = .inr (3, n, r)) : zce tab cI cZ cQ cG ad h k = .inl (cG, n, .inr (.inr (.inr (.inr (fun i => (r[i]?).map ad))))) := by
  unfold zce
  rw [ht]
  rfl
theorem zfs_setl {h : zH} {id fi : Nat} {v : Int64} {fk : List Nat} (hk : fk[fi]? = some 1) (h1 : ∀ j, fk[j]? = some 1 → j = fi) : (zfs ad h id fk).set fi (.long v) = zfs ad (zsl h id v) id fk := by
  have hlt : fi < fk.length := (List.getElem?_eq_some_iff.mp hk).1
  apply List.ext_getElem?
  intro j
  rw [List.getElem?_set]
  by_cases hj : fi = j
  · subst hj
    rw [if_pos rfl, zfs_at hk]
    have : fi < (zfs ad h id fk).length := by unfold zfs; simp; exact hlt
    rw [if_pos this]
    show some (Value.long v) = some (Value.long (if id = id then v else _))
    rw [if_pos rfl]
  · rw [if_neg hj]
    cases hf : fk[j]? with
    | none =>
      have hn : fk.length ≤ j := List.getElem?_eq_none_iff.mp hf
      unfold zfs
      rw [List.getElem?_eq_none (by simp; exact hn), List.getElem?_eq_none (by simp; exact hn)]
    | some k =>
      rw [zfs_at hf, zfs_at hf]
      match k, hf with
      | 0, _ => rfl
      | 1, hf => exact absurd (h1 j hf).symm hj
      | k + 2, _ => rfl
set_option maxHeartbeats 8000000 in
/-- soundness, an instruction that reads or writes a cell -/
theorem zst2_sound (hx : p.tables.exec = Jvm.exec) (hb : c.code = cc) (hts : ∀ w ∈ Ts, w.before args s = true) (hown : s.vm.findClass own = some m.cls) (hK : va_K (dC, dI) vwCl (zTy cI cZ cQ cG) s) (hF : zFldOk Ts own fld) (hN : ∀ k, N ≤ k → ∃ t n r, 4 ≤ t ∧ tab k = .inr (t, n, r)) (hlong : ∀ (k ci : Nat) (fk : List Nat) (fi j : Nat), tab k = .inl (ci, fk) → fk[fi]? = some 1 → fk[j]? = some 1 → j = fi)
    {i : Instr} {pc : Nat} {loc : zL} {stk : List zV} {h : zH} {H : Heap} {locs : List Loc} {ls : Array Slot} {K : Nat → zL → List zV → zH → Prop} (hdg : decode cc pc = .ok (i, zlen i)) (hl : lv_has ls nL (zc ad loc)) (hP : va_P (dC, dI) vwCl (zW tab cI cZ cQ cG ad N h) H) (hD : va_D A (zW tab cI cZ cQ cG ad N h)) (hS : va_S A s.heap H locs) (hw : zst2 tab fld i pc loc stk h K)
    (kk : ∀ (pc' : Nat) (loc' : zL) (stk' : List zV) (h' : zH) (H' : Heap) (locs' : List Loc) (ls' : Array Slot), lv_has ls' nL (zc ad loc') → va_P (dC, dI) vwCl (zW tab cI cZ cQ cG ad N h') H' → va_D A (zW tab cI cZ cQ cG ad N h') → va_S A s.heap H' locs' → K pc' loc' stk' h' → W p l e R s m args below meth c H' locs' cells slots Q (F0 m pc' ls' (stk'.map (zv ad)))) : W p l e R s m args below meth c H locs cells slots Q (F0 m pc ls (stk.map (zv ad))) := by
  have hlt : ∀ {k : Nat} {x}, tab k = x → (∀ t n r, 4 ≤ t → x ≠ .inr (t, n, r)) → k < N := fun {k x} e1 e2 => by
    rcases Nat.lt_or_ge k N with q | q
    · exact q
    · obtain ⟨t, n, r, h4, e3⟩ := hN k q
      exact absurd (e1.symm.trans e3) (e2 t n r h4)
  have hno : ∀ {a : Nat × List Nat}, ∀ t n r, 4 ≤ t → (Sum.inl a : (Nat × List Nat) ⊕ (Nat × Nat × List Nat)) ≠ .inr (t, n, r) := fun t n r _ e => by cases e
  have hnr : ∀ {t0 n0 : Nat} {r0 : List Nat}, t0 ≤ 3 → ∀ t n r, 4 ≤ t → (Sum.inr (t0, n0, r0) : (Nat × List Nat) ⊕ (Nat × Nat × List Nat)) ≠ .inr (t, n, r) := fun h3 t n r h4 e => by cases e; omega
  cases i
  case getfield idx =>
    simp only [zst2] at hw
    obtain ⟨k, r, e9, hw2⟩ := zR1_el hw
    clear hw
    subst e9
    have hw := hw2
    clear hw2
    cases ht : tab k with
    | inr z => simp only [ht] at hw
    | inl z =>
      obtain ⟨ci, fk⟩ := z
      cases hf : fld idx with
      | none => simp only [ht, hf] at hw
      | some z =>
        obtain ⟨cj, fi, b⟩ := z
        simp only [ht, hf] at hw
        obtain ⟨rfl, hw⟩ := hw
        cases hk : fk[fi]? with
        | none => simp only [hk] at hw
        | some t =>
          simp only [hk] at hw
          obtain ⟨C, T, Nf, ty0, hC, hfi, hlk, -⟩ := hF idx ci fi b hf
          have k9 := kk _ _ _ _ _ _ _ hl hP hD hS hw
          have he : (zW tab cI cZ cQ cG ad N h)[k]? = some (ad k, .inr (ci, zfs ad h k fk)) := by
            rw [zW_at (hlt ht hno), zce_obj ht]
          refine va_get (D := (dC, dI)) (ci := ci) (v := zfv ad h k fi t) (C := C) (T := T) (N := Nf) hx hb hts hC.2.1 hown hK hP k he hC.1 fi hfi (hts _ hlk) (fun _ h9 => h9) (zfs_at hk) hdg ?_
          rw [List.map_cons, zfa_c] at k9
          exact k9
  case putfield idx =>
    match stk, hw with
    | .inl x :: .inr (.inr k) :: r, hw =>
      simp only [zst2] at hw
      cases ht : tab k with
      | inr z => simp only [ht] at hw
      | inl z =>
        obtain ⟨ci, fk⟩ := z
        cases hf : fld idx with
        | none => simp only [ht, hf] at hw
        | some z =>
          obtain ⟨cj, fi, b⟩ := z
          simp only [ht, hf] at hw
          obtain ⟨rfl, hk, hb1, hz, hw⟩ := hw
          obtain ⟨C, T, Nf, ty0, hC, hfi, hlk, hty⟩ := hF idx ci fi b hf
          obtain ⟨hfin, hpt⟩ := hty (by omega)
          have he : (zW tab cI cZ cQ cG ad N h)[k]? = some (ad k, .inr (ci, zfs ad h k fk)) := by
            rw [zW_at (hlt ht hno), zce_obj ht]
          have hlen : fi < (zfs ad h k fk).length := by unfold zfs; simp; exact (List.getElem?_eq_some_iff.mp hk).1
          have hnar : narrow (zFT b) (.int x) = .int x ∧ fits (zFT b) (.int x) = true := by
            match b, hb1, hz with
            | 0, _, _ => exact ⟨rfl, rfl⟩
            | 1, _, hz => rcases hz rfl with rfl | rfl <;> exact ⟨rfl, rfl⟩
          refine va_put (D := (dC, dI)) (ci := ci) (v := .int x) (ty := zFT b) (C := C) (T := T) (N := Nf) hx hb hts hC.2.1 ty0 hC.2.2.1 hC.2.2.2 hown hK hP hD hS k he hC.1 fi hfi (hts _ hlk) (fun _ h9 => h9) hfin hpt hnar.1 hnar.2 hlen hdg (fun H1 locs1 hP1 hD1 hS1 => ?_)
          have es : (zW tab cI cZ cQ cG ad N h).set k (ad k, .inr (ci, (zfs ad h k fk).set fi (.int x))) = zW tab cI cZ cQ cG ad N (zs h k fi x) :=
            zW_set (hlt ht hno) (by rw [zce_obj ht, zfs_set hk]) (fun a ha => zs_other ha)
          rw [es] at hP1 hD1
          exact kk _ _ _ _ _ _ _ hl hP1 hD1 hS1 hw
    | .inr (.inl x) :: .inr (.inr k) :: r, hw =>
      simp only [zst2] at hw
      cases ht : tab k with
      | inr z => simp only [ht] at hw
      | inl z =>
        obtain ⟨ci, fk⟩ := z
        cases hf : fld idx with
        | none => simp only [ht, hf] at hw
        | some z =>
          obtain ⟨cj, fi, b⟩ := z
          simp only [ht, hf] at hw
          obtain ⟨rfl, hk, rfl, hw⟩ := hw
          obtain ⟨C, T, Nf, ty0, hC, hfi, hlk, hty⟩ := hF idx ci fi 2 hf
          obtain ⟨hfin, hpt⟩ := hty (Nat.le_refl 2)
          have he : (zW tab cI cZ cQ cG ad N h)[k]? = some (ad k, .inr (ci, zfs ad h k fk)) := by
            rw [zW_at (hlt ht hno), zce_obj ht]
          have hlen : fi < (zfs ad h k fk).length := by unfold zfs; simp; exact (List.getElem?_eq_some_iff.mp hk).1
          refine va_put (D := (dC, dI)) (ci := ci) (v := .long x) (ty := .long) (C := C) (T := T) (N := Nf) hx hb hts hC.2.1 ty0 hC.2.2.1 hC.2.2.2 hown hK hP hD hS k he hC.1 fi hfi (hts _ hlk) (fun _ h9 => h9) hfin hpt rfl rfl hlen hdg (fun H1 locs1 hP1 hD1 hS1 => ?_)
          have es : (zW tab cI cZ cQ cG ad N h).set k (ad k, .inr (ci, (zfs ad h k fk).set fi (.long x))) = zW tab cI cZ cQ cG ad N (zsl h k x) :=
            zW_set (hlt ht hno) (by rw [zce_obj ht, zfs_setl hk (fun j hj => hlong k ci fk fi j ht hk hj)]) (fun a ha => ⟨rfl, by show (if a = k then x else h.2 a) = _; rw [if_neg ha]⟩)
          rw [es] at hP1 hD1
          exact kk _ _ _ _ _ _ _ hl hP1 hD1 hS1 hw
  case iaload =>
    match stk, hw with
    | .inl x :: .inr (.inr k) :: r, hw =>
      simp only [zst2] at hw
      cases ht : tab k with
      | inl z => rw [ht] at hw; exact False.elim hw
      | inr z =>
        obtain ⟨t, n, q⟩ := z
        match t, ht with
        | 0, ht =>
          rw [ht] at hw
          have he : (zW tab cI cZ cQ cG ad N h)[k]? = some (ad k, .inl (cI, n, .inl (h.1 k))) := by rw [zW_at (hlt ht (hnr (by decide))), zce_i ht]
          have k9 := kk _ _ _ _ _ _ _ hl hP hD hS hw.2
          exact va_iald (i := x) hx hb hK hP k 0 he rfl hw.1 hdg k9
        | t + 1, ht => rw [ht] at hw; exact False.elim hw
  case baload =>
    match stk, hw with
    | .inl x :: .inr (.inr k) :: r, hw =>
      simp only [zst2] at hw
      cases ht : tab k with
      | inl z => rw [ht] at hw; exact False.elim hw
      | inr z =>
        obtain ⟨t, n, q⟩ := z
        match t, ht with
        | 0, ht => rw [ht] at hw; exact False.elim hw
        | 1, ht =>
          rw [ht] at hw
          have he : (zW tab cI cZ cQ cG ad N h)[k]? = some (ad k, .inl (cZ, n, .inl (h.1 k))) := by rw [zW_at (hlt ht (hnr (by decide))), zce_z ht]
          have k9 := kk _ _ _ _ _ _ _ hl hP hD hS hw.2
          exact va_zald (i := x) hx hb hK hP k 1 he rfl hw.1 hdg k9
        | t + 2, ht => rw [ht] at hw; exact False.elim hw
  case iastore =>
    match stk, hw with
    | .inl v :: .inl x :: .inr (.inr k) :: r, hw =>
      simp only [zst2] at hw
      cases ht : tab k with
      | inl z => rw [ht] at hw; exact False.elim hw
      | inr z =>
        obtain ⟨t, n, q⟩ := z
        match t, ht with
        | 0, ht =>
          rw [ht] at hw
          have he : (zW tab cI cZ cQ cG ad N h)[k]? = some (ad k, .inl (cI, n, .inl (h.1 k))) := by rw [zW_at (hlt ht (hnr (by decide))), zce_i ht]
          refine va_iast (i := x) hx hb hK hP hD hS k 0 he rfl hw.1 hdg (fun H1 locs1 hP1 hD1 hS1 => ?_)
          have es : (zW tab cI cZ cQ cG ad N h).set k (ad k, .inl (cI, n, .inl (upd (h.1 k) x.toNatClampNeg v))) = zW tab cI cZ cQ cG ad N (zs h k x.toNatClampNeg v) := zW_set (hlt ht (hnr (by decide))) (by rw [zce_i ht, zs_row]) (fun a ha => zs_other ha)
          rw [es] at hP1 hD1
          exact kk _ _ _ _ _ _ _ hl hP1 hD1 hS1 hw.2
        | t + 1, ht => rw [ht] at hw; exact False.elim hw
  case bastore =>
    match stk, hw with
    | .inl v :: .inl x :: .inr (.inr k) :: r, hw =>
      simp only [zst2] at hw
      cases ht : tab k with
      | inl z => rw [ht] at hw; exact False.elim hw
      | inr z =>
        obtain ⟨t, n, q⟩ := z
        match t, ht with
        | 0, ht => rw [ht] at hw; exact False.elim hw
        | 1, ht =>
          rw [ht] at hw
          have he : (zW tab cI cZ cQ cG ad N h)[k]? = some (ad k, .inl (cZ, n, .inl (h.1 k))) := by rw [zW_at (hlt ht (hnr (by decide))), zce_z ht]
          refine va_zast (i := x) hx hb hK hP hD hS k 1 he rfl hw.1 hdg (fun H1 locs1 hP1 hD1 hS1 => ?_)
          have hv9 : vp_nar .boolean v = v := by rcases hw.2.1 with rfl | rfl <;> rfl
          rw [hv9] at hP1 hD1
          have es : (zW tab cI cZ cQ cG ad N h).set k (ad k, .inl (cZ, n, .inl (upd (h.1 k) x.toNatClampNeg v))) = zW tab cI cZ cQ cG ad N (zs h k x.toNatClampNeg v) := zW_set (hlt ht (hnr (by decide))) (by rw [zce_z ht, zs_row]) (fun a ha => zs_other ha)
          rw [es] at hP1 hD1
          exact kk _ _ _ _ _ _ _ hl hP1 hD1 hS1 hw.2.2
        | t + 2, ht => rw [ht] at hw; exact False.elim hw
  case arraylength =>
    simp only [zst2] at hw
    obtain ⟨k, r, e9, hw2⟩ := zR1_el hw
    clear hw
    subst e9
    have hw := hw2
    clear hw2
    cases ht : tab k with
    | inl z => simp only [ht] at hw
    | inr z =>
      obtain ⟨t, n, q⟩ := z
      simp only [ht] at hw
      obtain ⟨h3, hw⟩ := hw
      have k9 := kk _ _ _ _ _ _ _ hl hP hD hS hw
      match t, ht, h3 with
      | 0, ht, _ => exact va_alen hx hb hK hP k 0 (show (zW tab cI cZ cQ cG ad N h)[k]? = some (ad k, .inl (cI, n, .inl (h.1 k))) by rw [zW_at (hlt ht (hnr (by decide))), zce_i ht]) rfl rfl hdg k9
      | 1, ht, _ => exact va_alen hx hb hK hP k 1 (show (zW tab cI cZ cQ cG ad N h)[k]? = some (ad k, .inl (cZ, n, .inl (h.1 k))) by rw [zW_at (hlt ht (hnr (by decide))), zce_z ht]) rfl rfl hdg k9
      | 2, ht, _ => exact va_alen hx hb hK hP k 2 (show (zW tab cI cZ cQ cG ad N h)[k]? = some (ad k, .inl (cQ, n, .inr (.inr (.inr (.inr (fun i => (q[i]?).map ad)))))) by rw [zW_at (hlt ht (hnr (by decide))), zce_q ht]) rfl rfl hdg k9
      | 3, ht, _ => exact va_alen hx hb hK hP k 3 (show (zW tab cI cZ cQ cG ad N h)[k]? = some (ad k, .inl (cG, n, .inr (.inr (.inr (.inr (fun i => (q[i]?).map ad)))))) by rw [zW_at (hlt ht (hnr (by decide))), zce_g ht]) rfl rfl hdg k9
  case aaload =>
    match stk, hw with
    | .inl x :: .inr (.inr k) :: r, hw =>
      simp only [zst2] at hw
      cases ht : tab k with
      | inl z => rw [ht] at hw; exact False.elim hw
      | inr z =>
        obtain ⟨t, n, q⟩ := z
        rw [ht] at hw
        obtain ⟨h3, hin, z, hz, hw⟩ := hw
        have k9 := kk _ _ _ _ _ _ _ hl hP hD hS hw
        have ez : va_rf ((q[x.toNatClampNeg]?).map ad) = .ref (ad z) := by rw [hz]; rfl
        rcases h3 with rfl | rfl
        · refine va_aldq (i := x) (f := fun i => (q[i]?).map ad) (C := RX8) hx hb hK hP k 2 (show (zW tab cI cZ cQ cG ad N h)[k]? = some (ad k, .inl (cQ, n, .inr (.inr (.inr (.inr (fun i => (q[i]?).map ad)))))) by rw [zW_at (hlt ht (hnr (by decide))), zce_q ht]) rfl hin hdg ?_
          show W p l e R s m args below meth c H locs cells slots Q (F0 m (pc + 1) ls (va_rf ((q[x.toNatClampNeg]?).map ad) :: _))
          rw [ez]
          exact k9
        · refine z_aldg (i := x) (f := fun i => (q[i]?).map ad) hx hb hK hP k 3 (show (zW tab cI cZ cQ cG ad N h)[k]? = some (ad k, .inl (cG, n, .inr (.inr (.inr (.inr (fun i => (q[i]?).map ad)))))) by rw [zW_at (hlt ht (hnr (by decide))), zce_g ht]) rfl hin hdg ?_
          show W p l e R s m args below meth c H locs cells slots Q (F0 m (pc + 1) ls (va_rf ((q[x.toNatClampNeg]?).map ad) :: _))
          rw [ez]
          exact k9
  all_goals exact False.elim hw
end ZS2
end
section
/-! calls, returns, and the run -/
/-- the addresses of the N cells, and all that comes -/
def zA (ad : Nat → Nat) (N sz : Nat) : Nat → Prop := fun q => (∃ id, id < N ∧ q = ad id) ∨ sz ≤ q
section ZS3
variable {tab : Nat → (Nat × List Nat) ⊕ (Nat × Nat × List Nat)} {cI cZ cQ cG : ClassId} {dC : Nat → ClassId} {dI : Nat → Nat → Nat} {ad : Nat → Nat} {N : Nat}
def zInj (ad : Nat → Nat) (N : Nat) : Prop := ∀ i j, i < N → j < N → ad i = ad j → i = j
theorem zW_mem {h : zH} {k : Nat} {q : Nat × va_E} (hk : (zW tab cI cZ cQ cG ad N h)[k]? = some q) : k < N ∧ q.1 = ad k := by
  have hl : k < (zW tab cI cZ cQ cG ad N h).length := (List.getElem?_eq_some_iff.mp hk).1
  have hN : k < N := by unfold zW at hl; simpa using hl
  rw [zW_at hN] at hk
  exact ⟨hN, by rw [← Option.some.inj hk]⟩
theorem zD_of {A : Nat → Prop} {h : zH} (hi : zInj ad N) (hA : ∀ id, id < N → A (ad id)) : va_D A (zW tab cI cZ cQ cG ad N h) := by
  refine ⟨fun i j p q hp hq e => ?_, fun k q hq => ?_⟩
  · obtain ⟨h1, e1⟩ := zW_mem hp
    obtain ⟨h2, e2⟩ := zW_mem hq
    exact hi i j h1 h2 (by rw [← e1, ← e2]; exact e)
  · obtain ⟨h1, e1⟩ := zW_mem hq
    rw [e1]
    exact hA k h1
/-- a method's end -/
def zQ (tab : Nat → (Nat × List Nat) ⊕ (Nat × Nat × List Nat)) (cI cZ cQ cG : ClassId) (dC : Nat → ClassId) (dI : Nat → Nat → Nat) (ad : Nat → Nat) (N : Nat) (A : Nat → Prop) (Q : Option zV → zH → Prop) : Array Value → State → Outcome → State → Prop := fun _ st oc t => (∃ (r : Option zV) (h' : zH), oc = .returned (r.map (zv ad)) ∧ Q r h' ∧ va_P (dC, dI) vwCl (zW tab cI cZ cQ cG ad N h') t.heap) ∧ va_F A st t
variable {p : Program} {l : Launch} {e : Env} {R : Room} {s : State} {m : MethodId} {args : Array Value} {below : List Frame} {meth : Method} {c : Code} {H : Heap} {locs : List Loc} {cells slots : Nat} {Q : State → Prop}
variable {pc : Nat} {ls : Array Slot} {rest st0 : List Value} {a : Array Value} {A0 A1 : Nat → Prop} {free : Addr → Prop}
theorem z_call {Q1 : Option zV → zH → Prop} (hr : va_Run p l e R s m args below meth c H locs cells slots 0 0 (F0 m pc ls st0) rest (zQ tab cI cZ cQ cG dC dI ad N A1 Q1 a) free) (hS : va_S A0 s.heap H locs) (hA : ∀ q, A1 q → A0 q) (hf : ∀ q, free q → A0 q)
    (kk : ∀ (r : Option zV) (h' : zH) (H1 : Heap) (locs1 : List Loc), Q1 r h' → va_P (dC, dI) vwCl (zW tab cI cZ cQ cG ad N h') H1 → va_S A0 s.heap H1 locs1 → W p l e R s m args below meth c H1 locs1 cells slots Q (F0 m (pc + 3) ls ((r.map (zv ad)).toList ++ rest))) : W p l e R s m args below meth c H locs cells slots Q (F0 m pc ls st0) := by
  intro T hT X
  obtain ⟨v, st₀, t, T', L, h0, X', hL, e1, e2, ⟨⟨r, h', hv, hq, hp⟩, hz, hk⟩, st⟩ := hr T hT X
  cases hv
  rw [h0] at hz hk
  obtain ⟨t2, a1, b1⟩ := kk r h' T'.heap (locs ++ L) hq (by rw [e1]; exact hp)
    ⟨Nat.le_trans hS.1 (by rw [e1]; exact hz), fun q h1 h2 => by rw [e1, hk q (Nat.lt_of_lt_of_le h1 hS.1) (fun z => h2 (hA q z))]; exact hS.2.1 q h1 h2, fun q hq => by
      rcases List.mem_append.mp hq with h | h
      · exact hS.2.2 q h
      · exact hf _ (hL q h)⟩ T' rfl X'
  exact ⟨t2, st t2 a1, b1⟩
end ZS3
end
section
/-! longs, switches, constants -/
def zst4 (i : Instr) (pc : Nat) (loc : zL) (stk : List zV) (K : Nat → zL → List zV → Prop) : Prop := match i with
  | .lcmp => zL2 stk (fun x y r => K (pc + 1) loc (.inl (lg_cmp x y) :: r))
  | .ldiv => zL2 stk (fun x y r => ¬ y = 0 ∧ K (pc + 1) loc (.inr (.inl (x / y)) :: r))
  | .lrem => zL2 stk (fun x y r => ¬ y = 0 ∧ K (pc + 1) loc (.inr (.inl (x - x / y * y)) :: r))
  | .lushr => match stk with
    | .inl y :: .inr (.inl x) :: r => K (pc + 1) loc (.inr (.inl (x.toUInt64 >>> (y.toInt64.toUInt64 &&& Int64.toUInt64 63)).toInt64) :: r)
    | _ => False
  | .lshl => match stk with
    | .inl y :: .inr (.inl x) :: r => K (pc + 1) loc (.inr (.inl (x <<< (y.toInt64 &&& 63))) :: r)
    | _ => False
  | .tableswitch d lo hi offs => zI1 stk (fun x r => zif (x.toInt < lo ∨ hi < x.toInt) (0 ≤ (pc : Int) + d ∧ K (ztgt pc d) loc r) (match offs[(x.toInt - lo).toNat]? with
    | some off => 0 ≤ (pc : Int) + off ∧ K (ztgt pc off) loc r
    | none => False))
  | .lookupswitch d ps => zI1 stk (fun x r => (ps.toList.zip (ps.toList.drop 1)).all (fun (a, next) => a.1 < next.1) = true ∧ 0 ≤ (pc : Int) + Op.lookupswitch.offset ps.toList d x.toInt ∧ K (ztgt pc (Op.lookupswitch.offset ps.toList d x.toInt)) loc r)
  | _ => False
section ZS4
variable {p : Program} {l : Launch} {e : Env} {R : Room} {s : State} {m : MethodId} {args : Array Value} {below : List Frame} {meth : Method} {c : Code} {H : Heap} {locs : List Loc} {cells slots : Nat} {Q : State → Prop} {cc : ByteArray} {ad : Nat → Nat} {nL : Nat}
set_option maxHeartbeats 8000000 in
theorem zst4_sound (hx : p.tables.exec = Jvm.exec) (hb : c.code = cc) {i : Instr} {n pc : Nat} {loc : zL} {stk : List zV} {ls : Array Slot} {K : Nat → zL → List zV → Prop} (hdg : decode cc pc = .ok (i, n)) (hn : (match i with | .tableswitch .. => True | .lookupswitch .. => True | _ => n = 1)) (hl : lv_has ls nL (zc ad loc)) (hw : zst4 i pc loc stk K)
    (kk : ∀ (pc' : Nat) (loc' : zL) (stk' : List zV) (ls' : Array Slot), lv_has ls' nL (zc ad loc') → K pc' loc' stk' → W p l e R s m args below meth c H locs cells slots Q (F0 m pc' ls' (stk'.map (zv ad)))) : W p l e R s m args below meth c H locs cells slots Q (F0 m pc ls (stk.map (zv ad))) := by
  cases i
  case lcmp =>
    obtain rfl : n = 1 := hn
    obtain ⟨x, y, r, rfl, hw⟩ := zL2_el hw
    have k9 := kk _ _ _ _ hl hw
    exact W.lcmp hx hb hdg k9
  case ldiv =>
    obtain rfl : n = 1 := hn
    obtain ⟨x, y, r, rfl, hy, hw⟩ := zL2_el hw
    have k9 := kk _ _ _ _ hl hw
    exact lv_ldiv hx hb hdg hy k9
  case lrem =>
    obtain rfl : n = 1 := hn
    obtain ⟨x, y, r, rfl, hy, hw⟩ := zL2_el hw
    have k9 := kk _ _ _ _ hl hw
    exact lv_lrem hx hb hdg hy k9
  case lushr =>
    obtain rfl : n = 1 := hn
    match stk, hw with
    | .inl y :: .inr (.inl x) :: r, hw =>
      have k9 := kk _ _ _ _ hl hw
      exact lv_lushr hx hb hdg rfl k9
  case lshl =>
    obtain rfl : n = 1 := hn
    match stk, hw with
    | .inl y :: .inr (.inl x) :: r, hw =>
      have k9 := kk _ _ _ _ hl hw
      exact lv_lshl hx hb hdg rfl k9
  case tableswitch d lo hi offs =>
    obtain ⟨x, r, rfl, hw⟩ := zI1_el hw
    by_cases h : x.toInt < lo ∨ hi < x.toInt
    · obtain ⟨h1, h2⟩ := hw.1 h
      have k9 := kk _ _ _ _ hl h2
      exact lv_tableOut hx hb hdg h (ztgt_eq h1) k9
    · have h3 := hw.2 h
      cases ho : offs[(x.toInt - lo).toNat]? with
      | none => rw [ho] at h3; exact h3.elim
      | some off =>
        rw [ho] at h3
        have k9 := kk _ _ _ _ hl h3.2
        exact lv_tableIn hx hb hdg (fun q => h (Or.inl q)) (fun q => h (Or.inr q)) ho (ztgt_eq h3.1) k9
  case lookupswitch d ps =>
    obtain ⟨x, r, rfl, h0, h1, hw⟩ := zI1_el hw
    have k9 := kk _ _ _ _ hl hw
    exact lv_lookup hx hb hdg h0 rfl (ztgt_eq h1) k9
  all_goals exact False.elim hw
end ZS4
/-- constants: kI, kL by the link's number -/
def zst5 (kI : Nat → Option Int32) (kL : Nat → Option Int64) (i : Instr) (pc : Nat) (loc : zL) (stk : List zV) (K : Nat → zL → List zV → Prop) : Prop := match i with
  | .ldc x => (match kI x with
    | some v => K (pc + 2) loc (.inl v :: stk)
    | none => False)
  | .ldc_w x => (match kI x with
    | some v => K (pc + 3) loc (.inl v :: stk)
    | none => False)
  | .ldc2_w x => (match kL x with
    | some v => K (pc + 3) loc (.inr (.inl v) :: stk)
    | none => False)
  | _ => False
section ZS5
variable {p : Program} {l : Launch} {e : Env} {R : Room} {s : State} {m : MethodId} {args : Array Value} {below : List Frame} {meth : Method} {c : Code} {H : Heap} {locs : List Loc} {cells slots : Nat} {Q : State → Prop} {cc : ByteArray} {ad : Nat → Nat} {nL : Nat} {Ts : List Cond} {own : String}
set_option maxHeartbeats 8000000 in
theorem zst5_sound (hx : p.tables.exec = Jvm.exec) (hb : c.code = cc) (hts : ∀ w ∈ Ts, w.before args s = true) (hown : s.vm.findClass own = some m.cls) {kI : Nat → Option Int32} {kL : Nat → Option Int64} (hkI : ∀ x v, kI x = some v → Cond.constant own x v ∈ Ts) (hkL : ∀ x v, kL x = some v → Cond.constantLong own x v ∈ Ts)
    {i : Instr} {pc : Nat} {loc : zL} {stk : List zV} {ls : Array Slot} {K : Nat → zL → List zV → Prop} (hdg : decode cc pc = .ok (i, zlen i)) (hl : lv_has ls nL (zc ad loc)) (hw : zst5 kI kL i pc loc stk K)
    (kk : ∀ (pc' : Nat) (loc' : zL) (stk' : List zV) (ls' : Array Slot), lv_has ls' nL (zc ad loc') → K pc' loc' stk' → W p l e R s m args below meth c H locs cells slots Q (F0 m pc' ls' (stk'.map (zv ad)))) : W p l e R s m args below meth c H locs cells slots Q (F0 m pc ls (stk.map (zv ad))) := by
  cases i
  case ldc x =>
    simp only [zst5] at hw
    cases hv : kI x with
    | none => rw [hv] at hw; exact False.elim hw
    | some v =>
      rw [hv] at hw
      have k9 := kk _ _ _ _ hl hw
      exact lv_ldc hx hb hown (hts _ (hkI x v hv)) hdg k9
  case ldc_w x =>
    simp only [zst5] at hw
    cases hv : kI x with
    | none => rw [hv] at hw; exact False.elim hw
    | some v =>
      rw [hv] at hw
      have k9 := kk _ _ _ _ hl hw
      exact lv_ldcw hx hb hown (hts _ (hkI x v hv)) hdg k9
  case ldc2_w x =>
    simp only [zst5] at hw
    cases hv : kL x with
    | none => rw [hv] at hw; exact False.elim hw
    | some v =>
      rw [hv] at hw
      have k9 := kk _ _ _ _ hl hw
      exact lv_ldc2 hx hb hown (hts _ (hkL x v hv)) hdg k9
  all_goals exact False.elim hw
end ZS5
end
section
/-! the machine as a function: one step -/
abbrev zN : Type := Nat × zL × List zV × zH
def zo1 (stk : List zV) (f : Int32 → List zV → Option zN) : Option zN := match stk with
  | .inl x :: r => f x r
  | _ => none
def zo2 (stk : List zV) (f : Int32 → Int32 → List zV → Option zN) : Option zN := match stk with
  | .inl y :: .inl x :: r => f x y r
  | _ => none
def zoL1 (stk : List zV) (f : Int64 → List zV → Option zN) : Option zN := match stk with
  | .inr (.inl x) :: r => f x r
  | _ => none
def zoL2 (stk : List zV) (f : Int64 → Int64 → List zV → Option zN) : Option zN := match stk with
  | .inr (.inl y) :: .inr (.inl x) :: r => f x y r
  | _ => none
def zoR1 (stk : List zV) (f : Nat → List zV → Option zN) : Option zN := match stk with
  | .inr (.inr k) :: r => f k r
  | _ => none
def zoLI (stk : List zV) (f : Int64 → Int32 → List zV → Option zN) : Option zN := match stk with
  | .inl y :: .inr (.inl x) :: r => f x y r
  | _ => none
def zoRI (stk : List zV) (f : Nat → Int32 → List zV → Option zN) : Option zN := match stk with
  | .inl x :: .inr (.inr k) :: r => f k x r
  | _ => none
def zoRII (stk : List zV) (f : Nat → Int32 → Int32 → List zV → Option zN) : Option zN := match stk with
  | .inl v :: .inl x :: .inr (.inr k) :: r => f k x v r
  | _ => none
def zog (loc : zL) (i : Nat) (f : zV → Option zN) : Option zN := match zget loc i with
  | some v => f v
  | none => none
def zbI : zV → Bool
  | .inl _ => true
  | _ => false
def zbL : zV → Bool
  | .inr (.inl _) => true
  | _ => false
def zbR : zV → Bool
  | .inr (.inr _) => true
  | _ => false
def zk1 (c : ClassFile.Cond) (x : Int32) : Bool := match c with
  | .eq => decide (x = 0)
  | .ne => decide (¬ x = 0)
  | .lt => decide (x < 0)
  | .ge => decide (0 ≤ x)
  | .gt => decide (0 < x)
  | .le => decide (x ≤ 0)
def zk2 (c : ClassFile.Cond) (x y : Int32) : Bool := match c with
  | .eq => decide (x = y)
  | .ne => decide (¬ x = y)
  | .lt => decide (x < y)
  | .ge => decide (y ≤ x)
  | .gt => decide (y < x)
  | .le => decide (x ≤ y)
theorem zk1_iff {c : ClassFile.Cond} {x : Int32} : zk1 c x = true ↔ zcond1 c x := by
  cases c <;> simp [zk1, zcond1]
theorem zk2_iff {c : ClassFile.Cond} {x y : Int32} : zk2 c x y = true ↔ zcond2 c x y := by
  cases c <;> simp [zk2, zcond2]
/-- a jump -/
def zj (pc : Nat) (off : Int) (loc : zL) (r : List zV) (h : zH) : Option zN := if 0 ≤ (pc : Int) + off then some (ztgt pc off, loc, r, h) else none
/-- a guard -/
def zgd (b : Bool) (o : Option zN) : Option zN := if b = true then o else none
/-- the first kind: neither cells nor methods -/
def zf1 (i : Instr) (pc : Nat) (loc : zL) (stk : List zV) (h : zH) : Option zN := match i with
  | .iconst n => some (pc + 1, loc, .inl (Int32.ofInt n) :: stk, h)
  | .bipush n => some (pc + 2, loc, .inl (Int8.ofInt n).toInt32 :: stk, h)
  | .sipush n => some (pc + 3, loc, .inl (Int16.ofInt n).toInt32 :: stk, h)
  | .lconst n => some (pc + 1, loc, .inr (.inl (Int64.ofNat n.val)) :: stk, h)
  | .iload_n k => zog loc k.val (fun v => zgd (zbI v) (some (pc + 1, loc, v :: stk, h)))
  | .iload k => zog loc k (fun v => zgd (zbI v) (some (pc + 2, loc, v :: stk, h)))
  | .lload_n k => zog loc k.val (fun v => zgd (zbL v) (some (pc + 1, loc, v :: stk, h)))
  | .lload k => zog loc k (fun v => zgd (zbL v) (some (pc + 2, loc, v :: stk, h)))
  | .aload_n k => zog loc k.val (fun v => zgd (zbR v) (some (pc + 1, loc, v :: stk, h)))
  | .aload k => zog loc k (fun v => zgd (zbR v) (some (pc + 2, loc, v :: stk, h)))
  | .iadd => zo2 stk (fun x y r => some (pc + 1, loc, .inl (x + y) :: r, h))
  | .isub => zo2 stk (fun x y r => some (pc + 1, loc, .inl (x - y) :: r, h))
  | .imul => zo2 stk (fun x y r => some (pc + 1, loc, .inl (x * y) :: r, h))
  | .iand => zo2 stk (fun x y r => some (pc + 1, loc, .inl (x &&& y) :: r, h))
  | .ior => zo2 stk (fun x y r => some (pc + 1, loc, .inl (x ||| y) :: r, h))
  | .ixor => zo2 stk (fun x y r => some (pc + 1, loc, .inl (x ^^^ y) :: r, h))
  | .idiv => zo2 stk (fun x y r => zgd (decide (¬ y = 0)) (some (pc + 1, loc, .inl (x / y) :: r, h)))
  | .irem => zo2 stk (fun x y r => zgd (decide (¬ y = 0)) (some (pc + 1, loc, .inl (x - x / y * y) :: r, h)))
  | .ishl => zo2 stk (fun x y r => some (pc + 1, loc, .inl (x <<< (y &&& 31)) :: r, h))
  | .ishr => zo2 stk (fun x y r => some (pc + 1, loc, .inl (x >>> (y &&& 31)) :: r, h))
  | .iushr => zo2 stk (fun x y r => some (pc + 1, loc, .inl (zush x y) :: r, h))
  | .ineg => zo1 stk (fun x r => some (pc + 1, loc, .inl (-x) :: r, h))
  | .i2l => zo1 stk (fun x r => some (pc + 1, loc, .inr (.inl x.toInt64) :: r, h))
  | .l2i => zoL1 stk (fun x r => some (pc + 1, loc, .inl x.toInt32 :: r, h))
  | .i2c => zo1 stk (fun x r => some (pc + 1, loc, .inl (x.toUInt32 % 65536).toInt32 :: r, h))
  | .ladd => zoL2 stk (fun x y r => some (pc + 1, loc, .inr (.inl (x + y)) :: r, h))
  | .lsub => zoL2 stk (fun x y r => some (pc + 1, loc, .inr (.inl (x - y)) :: r, h))
  | .lmul => zoL2 stk (fun x y r => some (pc + 1, loc, .inr (.inl (x * y)) :: r, h))
  | .land => zoL2 stk (fun x y r => some (pc + 1, loc, .inr (.inl (x &&& y)) :: r, h))
  | .lor => zoL2 stk (fun x y r => some (pc + 1, loc, .inr (.inl (x ||| y)) :: r, h))
  | .dup => match stk with
    | v :: r => zgd (decide (zcat v = 1)) (some (pc + 1, loc, v :: v :: r, h))
    | _ => none
  | .pop => match stk with
    | v :: r => zgd (decide (zcat v = 1)) (some (pc + 1, loc, r, h))
    | _ => none
  | .dup2 => match stk with
    | v :: w :: r => zgd (decide (zcat v = 1 ∧ zcat w = 1)) (some (pc + 1, loc, v :: w :: v :: w :: r, h))
    | _ => none
  | .goto off => zj pc off loc stk h
  | .ifCond c off => zo1 stk (fun x r => zgd (decide (0 ≤ (pc : Int) + off)) (if zk1 c x = true then some (ztgt pc off, loc, r, h) else some (pc + 3, loc, r, h)))
  | .if_icmp c off => zo2 stk (fun x y r => zgd (decide (0 ≤ (pc : Int) + off)) (if zk2 c x y = true then some (ztgt pc off, loc, r, h) else some (pc + 3, loc, r, h)))
  | .istore_n k => zo1 stk (fun x r => some (pc + 1, zput1 loc k.val (.inl x), r, h))
  | .istore k => zo1 stk (fun x r => some (pc + 2, zput1 loc k (.inl x), r, h))
  | .astore_n k => zoR1 stk (fun x r => some (pc + 1, zput1 loc k.val (.inr (.inr x)), r, h))
  | .astore k => zoR1 stk (fun x r => some (pc + 2, zput1 loc k (.inr (.inr x)), r, h))
  | .lstore_n k => zoL1 stk (fun x r => some (pc + 1, zput2 loc k.val (.inr (.inl x)), r, h))
  | .lstore k => zoL1 stk (fun x r => some (pc + 2, zput2 loc k (.inr (.inl x)), r, h))
  | .iinc k n => match zget loc k with
    | some (.inl x) => some (pc + 3, zput1 loc k (.inl (x + Int32.ofInt n)), stk, h)
    | _ => none
  | _ => none
theorem zo1_el {stk : List zV} {f : Int32 → List zV → Option zN} {q : zN} (h : zo1 stk f = some q) : ∃ x r, stk = .inl x :: r ∧ f x r = some q := by
  match stk, h with
  | .inl x :: r, h => exact ⟨x, r, rfl, h⟩
theorem zo2_el {stk : List zV} {f : Int32 → Int32 → List zV → Option zN} {q : zN} (h : zo2 stk f = some q) : ∃ x y r, stk = .inl y :: .inl x :: r ∧ f x y r = some q := by
  match stk, h with
  | .inl y :: .inl x :: r, h => exact ⟨x, y, r, rfl, h⟩
theorem zoL1_el {stk : List zV} {f : Int64 → List zV → Option zN} {q : zN} (h : zoL1 stk f = some q) : ∃ x r, stk = .inr (.inl x) :: r ∧ f x r = some q := by
  match stk, h with
  | .inr (.inl x) :: r, h => exact ⟨x, r, rfl, h⟩
theorem zoL2_el {stk : List zV} {f : Int64 → Int64 → List zV → Option zN} {q : zN} (h : zoL2 stk f = some q) : ∃ x y r, stk = .inr (.inl y) :: .inr (.inl x) :: r ∧ f x y r = some q := by
  match stk, h with
  | .inr (.inl y) :: .inr (.inl x) :: r, h => exact ⟨x, y, r, rfl, h⟩
theorem zoR1_el {stk : List zV} {f : Nat → List zV → Option zN} {q : zN} (h : zoR1 stk f = some q) : ∃ x r, stk = .inr (.inr x) :: r ∧ f x r = some q := by
  match stk, h with
  | .inr (.inr x) :: r, h => exact ⟨x, r, rfl, h⟩
theorem zoLI_el {stk : List zV} {f : Int64 → Int32 → List zV → Option zN} {q : zN} (h : zoLI stk f = some q) : ∃ x y r, stk = .inl y :: .inr (.inl x) :: r ∧ f x y r = some q := by
  match stk, h with
  | .inl y :: .inr (.inl x) :: r, h => exact ⟨x, y, r, rfl, h⟩
theorem zoRI_el {stk : List zV} {f : Nat → Int32 → List zV → Option zN} {q : zN} (h : zoRI stk f = some q) : ∃ k x r, stk = .inl x :: .inr (.inr k) :: r ∧ f k x r = some q := by
  match stk, h with
  | .inl x :: .inr (.inr k) :: r, h => exact ⟨k, x, r, rfl, h⟩
theorem zoRII_el {stk : List zV} {f : Nat → Int32 → Int32 → List zV → Option zN} {q : zN} (h : zoRII stk f = some q) : ∃ k x v r, stk = .inl v :: .inl x :: .inr (.inr k) :: r ∧ f k x v r = some q := by
  match stk, h with
  | .inl v :: .inl x :: .inr (.inr k) :: r, h => exact ⟨k, x, v, r, rfl, h⟩
theorem zog_el {loc : zL} {i : Nat} {f : zV → Option zN} {q : zN} (h : zog loc i f = some q) : ∃ v, zget loc i = some v ∧ f v = some q := by
  unfold zog at h
  cases hv : zget loc i with
  | none => rw [hv] at h; cases h
  | some v => rw [hv] at h; exact ⟨v, rfl, h⟩
theorem zgd_el {b : Bool} {o : Option zN} {q : zN} (h : zgd b o = some q) : b = true ∧ o = some q := by
  unfold zgd at h
  by_cases hb : b = true
  · rw [if_pos hb] at h; exact ⟨hb, h⟩
  · rw [if_neg hb] at h; cases h
theorem zj_el {pc : Nat} {off : Int} {loc : zL} {r : List zV} {h : zH} {q : zN} (e : zj pc off loc r h = some q) : 0 ≤ (pc : Int) + off ∧ (ztgt pc off, loc, r, h) = q := by
  unfold zj at e
  by_cases hb : 0 ≤ (pc : Int) + off
  · rw [if_pos hb] at e; exact ⟨hb, Option.some.inj e⟩
  · rw [if_neg hb] at e; cases e
theorem zG1_in {loc : zL} {i : Nat} {f : zV → Prop} {v : zV} (h : zget loc i = some v) (hf : f v) : zG1 loc i f := by
  unfold zG1
  rw [h]
  exact hf
theorem zbI_t {v : zV} (h : zbI v = true) : zisI v := by
  match v, h with
  | .inl _, _ => exact trivial
theorem zbL_t {v : zV} (h : zbL v = true) : zisL v := by
  match v, h with
  | .inr (.inl _), _ => exact trivial
theorem zbR_t {v : zV} (h : zbR v = true) : zisR v := by
  match v, h with
  | .inr (.inr _), _ => exact trivial
set_option maxHeartbeats 8000000 in
/-- the function's step is the transformer's -/
theorem zf1_st {i : Instr} {pc : Nat} {loc : zL} {stk : List zV} {h : zH} {q : zN} (e : zf1 i pc loc stk h = some q) (K : Nat → zL → List zV → zH → Prop) (hK : K q.1 q.2.1 q.2.2.1 q.2.2.2) : zst1 i pc loc stk (fun a b c => K a b c h) := by
  cases i
  case iconst n => cases e; exact hK
  case bipush n => cases e; exact hK
  case sipush n => cases e; exact hK
  case lconst n => cases e; exact hK
  case iload_n k => obtain ⟨v, hv, e⟩ := zog_el e; obtain ⟨hb, e⟩ := zgd_el e; cases e; exact zG1_in hv ⟨zbI_t hb, hK⟩
  case iload k => obtain ⟨v, hv, e⟩ := zog_el e; obtain ⟨hb, e⟩ := zgd_el e; cases e; exact zG1_in hv ⟨zbI_t hb, hK⟩
  case lload_n k => obtain ⟨v, hv, e⟩ := zog_el e; obtain ⟨hb, e⟩ := zgd_el e; cases e; exact zG1_in hv ⟨zbL_t hb, hK⟩
  case lload k => obtain ⟨v, hv, e⟩ := zog_el e; obtain ⟨hb, e⟩ := zgd_el e; cases e; exact zG1_in hv ⟨zbL_t hb, hK⟩
  case aload_n k => obtain ⟨v, hv, e⟩ := zog_el e; obtain ⟨hb, e⟩ := zgd_el e; cases e; exact zG1_in hv ⟨zbR_t hb, hK⟩
  case aload k => obtain ⟨v, hv, e⟩ := zog_el e; obtain ⟨hb, e⟩ := zgd_el e; cases e; exact zG1_in hv ⟨zbR_t hb, hK⟩
  case iadd => obtain ⟨x, y, r, rfl, e⟩ := zo2_el e; cases e; exact hK
  case isub => obtain ⟨x, y, r, rfl, e⟩ := zo2_el e; cases e; exact hK
  case imul => obtain ⟨x, y, r, rfl, e⟩ := zo2_el e; cases e; exact hK
  case iand => obtain ⟨x, y, r, rfl, e⟩ := zo2_el e; cases e; exact hK
  case ior => obtain ⟨x, y, r, rfl, e⟩ := zo2_el e; cases e; exact hK
  case ixor => obtain ⟨x, y, r, rfl, e⟩ := zo2_el e; cases e; exact hK
  case idiv => obtain ⟨x, y, r, rfl, e⟩ := zo2_el e; obtain ⟨hb, e⟩ := zgd_el e; cases e; exact ⟨of_decide_eq_true hb, hK⟩
  case irem => obtain ⟨x, y, r, rfl, e⟩ := zo2_el e; obtain ⟨hb, e⟩ := zgd_el e; cases e; exact ⟨of_decide_eq_true hb, hK⟩
  case ishl => obtain ⟨x, y, r, rfl, e⟩ := zo2_el e; cases e; exact hK
  case ishr => obtain ⟨x, y, r, rfl, e⟩ := zo2_el e; cases e; exact hK
  case iushr => obtain ⟨x, y, r, rfl, e⟩ := zo2_el e; cases e; exact hK
  case ineg => obtain ⟨x, r, rfl, e⟩ := zo1_el e; cases e; exact hK
  case i2l => obtain ⟨x, r, rfl, e⟩ := zo1_el e; cases e; exact hK
  case l2i => obtain ⟨x, r, rfl, e⟩ := zoL1_el e; cases e; exact hK
  case i2c => obtain ⟨x, r, rfl, e⟩ := zo1_el e; cases e; exact hK
  case ladd => obtain ⟨x, y, r, rfl, e⟩ := zoL2_el e; cases e; exact hK
  case lsub => obtain ⟨x, y, r, rfl, e⟩ := zoL2_el e; cases e; exact hK
  case lmul => obtain ⟨x, y, r, rfl, e⟩ := zoL2_el e; cases e; exact hK
  case land => obtain ⟨x, y, r, rfl, e⟩ := zoL2_el e; cases e; exact hK
  case lor => obtain ⟨x, y, r, rfl, e⟩ := zoL2_el e; cases e; exact hK
  case dup =>
    match stk, e with
    | v :: r, e => obtain ⟨hb, e⟩ := zgd_el e; cases e; exact ⟨of_decide_eq_true hb, hK⟩
  case pop =>
    match stk, e with
    | v :: r, e => obtain ⟨hb, e⟩ := zgd_el e; cases e; exact ⟨of_decide_eq_true hb, hK⟩
  case dup2 =>
    match stk, e with
    | v :: w :: r, e => obtain ⟨hb, e⟩ := zgd_el e; cases e; exact ⟨(of_decide_eq_true hb).1, (of_decide_eq_true hb).2, hK⟩
  case goto off => obtain ⟨h0, e⟩ := zj_el e; cases e; exact ⟨h0, hK⟩
  case ifCond c off =>
    obtain ⟨x, r, rfl, e⟩ := zo1_el e
    obtain ⟨hb, e⟩ := zgd_el e
    refine ⟨of_decide_eq_true hb, fun hc => ?_, fun hc => ?_⟩
    · rw [if_pos (zk1_iff.mpr hc)] at e; cases e; exact hK
    · rw [if_neg (fun z => hc (zk1_iff.mp z))] at e; cases e; exact hK
  case if_icmp c off =>
    obtain ⟨x, y, r, rfl, e⟩ := zo2_el e
    obtain ⟨hb, e⟩ := zgd_el e
    refine ⟨of_decide_eq_true hb, fun hc => ?_, fun hc => ?_⟩
    · rw [if_pos (zk2_iff.mpr hc)] at e; cases e; exact hK
    · rw [if_neg (fun z => hc (zk2_iff.mp z))] at e; cases e; exact hK
  case istore_n k => obtain ⟨x, r, rfl, e⟩ := zo1_el e; cases e; exact hK
  case istore k => obtain ⟨x, r, rfl, e⟩ := zo1_el e; cases e; exact hK
  case astore_n k => obtain ⟨x, r, rfl, e⟩ := zoR1_el e; cases e; exact hK
  case astore k => obtain ⟨x, r, rfl, e⟩ := zoR1_el e; cases e; exact hK
  case lstore_n k => obtain ⟨x, r, rfl, e⟩ := zoL1_el e; cases e; exact hK
  case lstore k => obtain ⟨x, r, rfl, e⟩ := zoL1_el e; cases e; exact hK
  case iinc k n =>
    have e2 : (match zget loc k with | some (.inl x) => (some (pc + 3, zput1 loc k (.inl (x + Int32.ofInt n)), stk, h) : Option zN) | _ => none) = some q := e
    show (match zget loc k with | some (.inl x) => K (pc + 3) (zput1 loc k (.inl (x + Int32.ofInt n))) stk h | _ => False)
    cases hg : zget loc k with
    | none => rw [hg] at e2; cases e2
    | some v =>
      rw [hg] at e2
      rcases v with x | v
      · cases e2; exact hK
      · cases e2
  all_goals cases e
/-- what the first kind leaves alone -/
theorem zf1_h {i : Instr} {pc : Nat} {loc : zL} {stk : List zV} {h : zH} {q : zN} (e : zf1 i pc loc stk h = some q) : ∀ d lo hi (o : Array Int), i ≠ .tableswitch d lo hi o := by
  rintro d lo hi o rfl
  cases e
end
section
/-! the function: cells, longs, switches, constants -/
def zin (x : Int32) (n : Nat) : Bool := decide (0 ≤ x.toInt ∧ x.toInt < (n : Int))
theorem zin_in {x : Int32} {n : Nat} (h : zin x n = true) : vp_in x n := by
  have h := of_decide_eq_true h
  rintro (q | q)
  · have := Int32.lt_iff_toInt_lt.mp q
    simp at this
    omega
  · have e : x.toNatClampNeg = x.toInt.toNat := rfl
    omega
/-- the place of a field: its number, its kind in the cell, its kind by the link -/
def zfo (tab : Nat → (Nat × List Nat) ⊕ (Nat × Nat × List Nat)) (fld : Nat → Option (Nat × Nat × Nat)) (k idx : Nat) : Option (Nat × Nat × Nat) := match tab k, fld idx with
  | .inl (ci, fk), some (cj, fi, b) => if ci = cj then (match fk[fi]? with
    | some t => some (fi, t, b)
    | none => none) else none
  | _, _ => none
theorem zfo_el {tab : Nat → (Nat × List Nat) ⊕ (Nat × Nat × List Nat)} {fld : Nat → Option (Nat × Nat × Nat)} {k idx fi t b : Nat} (h : zfo tab fld k idx = some (fi, t, b)) : ∃ ci fk, tab k = .inl (ci, fk) ∧ fld idx = some (ci, fi, b) ∧ fk[fi]? = some t := by
  unfold zfo at h
  cases ht : tab k with
  | inr z => rw [ht] at h; cases h
  | inl z =>
    obtain ⟨ci, fk⟩ := z
    cases hf : fld idx with
    | none => rw [ht, hf] at h; cases h
    | some z =>
      obtain ⟨cj, fj, b2⟩ := z
      simp only [ht, hf] at h
      by_cases e : ci = cj
      · rw [if_pos e] at h
        subst e
        cases hk : fk[fj]? with
        | none => rw [hk] at h; cases h
        | some t2 => rw [hk] at h; cases h; exact ⟨ci, fk, rfl, rfl, hk⟩
      · rw [if_neg e] at h; cases h
/-- a row of kind t0: its length, what it is made of -/
def zar (tab : Nat → (Nat × List Nat) ⊕ (Nat × Nat × List Nat)) (k t0 : Nat) : Option (Nat × List Nat) := match tab k with
  | .inr (t, n, q) => if t = t0 then some (n, q) else none
  | _ => none
theorem zar_el {tab : Nat → (Nat × List Nat) ⊕ (Nat × Nat × List Nat)} {k t0 n : Nat} {q : List Nat} (h : zar tab k t0 = some (n, q)) : tab k = .inr (t0, n, q) := by
  unfold zar at h
  cases ht : tab k with
  | inl z => rw [ht] at h; cases h
  | inr z =>
    obtain ⟨t, n2, q2⟩ := z
    simp only [ht] at h
    by_cases e : t = t0
    · rw [if_pos e] at h; cases h; rw [e]
    · rw [if_neg e] at h; cases h
def zoA (o : Option (Nat × List Nat)) (f : Nat → List Nat → Option zN) : Option zN := match o with
  | some (n, q) => f n q
  | none => none
theorem zoA_el {o : Option (Nat × List Nat)} {f : Nat → List Nat → Option zN} {z : zN} (h : zoA o f = some z) : ∃ n q, o = some (n, q) ∧ f n q = some z := by
  match o, h with
  | some (n, q), h => exact ⟨n, q, rfl, h⟩
def zoF (o : Option (Nat × Nat × Nat)) (f : Nat → Nat → Nat → Option zN) : Option zN := match o with
  | some (n, t, b) => f n t b
  | none => none
theorem zoF_el {o : Option (Nat × Nat × Nat)} {f : Nat → Nat → Nat → Option zN} {z : zN} (h : zoF o f = some z) : ∃ n t b, o = some (n, t, b) ∧ f n t b = some z := by
  match o, h with
  | some (n, t, b), h => exact ⟨n, t, b, rfl, h⟩
def zbit (b : Nat) (x : Int32) : Bool := decide (b ≤ 1) && (decide (b = 0) || decide (x = 0 ∨ x = 1))
theorem zbit_el {b : Nat} {x : Int32} (h : zbit b x = true) : b ≤ 1 ∧ (b = 1 → x = 0 ∨ x = 1) := by
  unfold zbit at h
  simp only [Bool.and_eq_true, Bool.or_eq_true, decide_eq_true_eq] at h
  refine ⟨h.1, fun e => ?_⟩
  rcases h.2 with q | q
  · omega
  · exact q
def zf2 (tab : Nat → (Nat × List Nat) ⊕ (Nat × Nat × List Nat)) (fld : Nat → Option (Nat × Nat × Nat)) (i : Instr) (pc : Nat) (loc : zL) (stk : List zV) (h : zH) : Option zN := match i with
  | .getfield idx => zoR1 stk (fun k r => zoF (zfo tab fld k idx) (fun fi t _ => some (pc + 3, loc, zfa h k fi t :: r, h)))
  | .putfield idx => match stk with
    | .inl x :: .inr (.inr k) :: r => zoF (zfo tab fld k idx) (fun fi t b => zgd (decide (t = 0)) (zgd (zbit b x) (some (pc + 3, loc, r, zs h k fi x))))
    | .inr (.inl x) :: .inr (.inr k) :: r => zoF (zfo tab fld k idx) (fun _ t b => zgd (decide (t = 1)) (zgd (decide (b = 2)) (some (pc + 3, loc, r, zsl h k x))))
    | _ => none
  | .iaload => zoRI stk (fun k x r => zoA (zar tab k 0) (fun n _ => zgd (zin x n) (some (pc + 1, loc, .inl (h.1 k x.toNatClampNeg) :: r, h))))
  | .baload => zoRI stk (fun k x r => zoA (zar tab k 1) (fun n _ => zgd (zin x n) (some (pc + 1, loc, .inl (h.1 k x.toNatClampNeg) :: r, h))))
  | .aaload => zoRI stk (fun k x r => match tab k with
    | .inr (t, n, q) => zgd (decide (t = 2 ∨ t = 3)) (zgd (zin x n) (match q[x.toNatClampNeg]? with
      | some z => some (pc + 1, loc, .inr (.inr z) :: r, h)
      | none => none))
    | _ => none)
  | .iastore => zoRII stk (fun k x v r => zoA (zar tab k 0) (fun n _ => zgd (zin x n) (some (pc + 1, loc, r, zs h k x.toNatClampNeg v))))
  | .bastore => zoRII stk (fun k x v r => zoA (zar tab k 1) (fun n _ => zgd (zin x n) (zgd (decide (v = 0 ∨ v = 1)) (some (pc + 1, loc, r, zs h k x.toNatClampNeg v)))))
  | .arraylength => zoR1 stk (fun k r => match tab k with
    | .inr (t, n, _) => zgd (decide (t ≤ 3)) (some (pc + 1, loc, .inl (Int32.ofNat n) :: r, h))
    | _ => none)
  | _ => none
set_option maxHeartbeats 8000000 in
theorem zf2_st {tab : Nat → (Nat × List Nat) ⊕ (Nat × Nat × List Nat)} {fld : Nat → Option (Nat × Nat × Nat)} {i : Instr} {pc : Nat} {loc : zL} {stk : List zV} {h : zH} {q : zN} (e : zf2 tab fld i pc loc stk h = some q) (K : Nat → zL → List zV → zH → Prop) (hK : K q.1 q.2.1 q.2.2.1 q.2.2.2) : zst2 tab fld i pc loc stk h K := by
  cases i
  case getfield idx =>
    obtain ⟨k, r, rfl, e⟩ := zoR1_el e
    obtain ⟨fi, t, b, e1, e⟩ := zoF_el e
    obtain ⟨ci, fk, h1, h2, h3⟩ := zfo_el e1
    cases e
    simp only [zst2, zR1, h1, h2, h3]
    exact ⟨trivial, hK⟩
  case putfield idx =>
    match stk, e with
    | .inl x :: .inr (.inr k) :: r, e =>
      obtain ⟨fi, t, b, e1, e⟩ := zoF_el e
      obtain ⟨ci, fk, h1, h2, h3⟩ := zfo_el e1
      obtain ⟨g1, e⟩ := zgd_el e
      obtain ⟨g2, e⟩ := zgd_el e
      cases e
      obtain ⟨b1, b2⟩ := zbit_el g2
      rw [of_decide_eq_true g1] at h3
      simp only [zst2, h1, h2]
      exact ⟨trivial, h3, b1, b2, hK⟩
    | .inr (.inl x) :: .inr (.inr k) :: r, e =>
      obtain ⟨fi, t, b, e1, e⟩ := zoF_el e
      obtain ⟨ci, fk, h1, h2, h3⟩ := zfo_el e1
      obtain ⟨g1, e⟩ := zgd_el e
      obtain ⟨g2, e⟩ := zgd_el e
      cases e
      rw [of_decide_eq_true g1] at h3
      simp only [zst2, h1, h2]
      exact ⟨trivial, h3, of_decide_eq_true g2, hK⟩
  case iaload =>
    obtain ⟨k, x, r, rfl, e⟩ := zoRI_el e
    obtain ⟨n, z, e1, e⟩ := zoA_el e
    have h1 := zar_el e1
    obtain ⟨g1, e⟩ := zgd_el e
    cases e
    simp only [zst2, h1]
    exact ⟨zin_in g1, hK⟩
  case baload =>
    obtain ⟨k, x, r, rfl, e⟩ := zoRI_el e
    obtain ⟨n, z, e1, e⟩ := zoA_el e
    have h1 := zar_el e1
    obtain ⟨g1, e⟩ := zgd_el e
    cases e
    simp only [zst2, h1]
    exact ⟨zin_in g1, hK⟩
  case aaload =>
    obtain ⟨k, x, r, e9, f9⟩ := zoRI_el e
    clear e
    subst e9
    have e := f9
    clear f9
    cases h1 : tab k with
    | inl z => rw [h1] at e; cases e
    | inr z =>
      obtain ⟨t, n, w⟩ := z
      simp only [h1] at e
      obtain ⟨g1, e⟩ := zgd_el e
      obtain ⟨g2, e⟩ := zgd_el e
      cases h2 : w[x.toNatClampNeg]? with
      | none => rw [h2] at e; cases e
      | some z =>
        rw [h2] at e
        cases e
        simp only [zst2, h1]
        exact ⟨of_decide_eq_true g1, zin_in g2, z, h2, hK⟩
  case iastore =>
    obtain ⟨k, x, v, r, rfl, e⟩ := zoRII_el e
    obtain ⟨n, z, e1, e⟩ := zoA_el e
    have h1 := zar_el e1
    obtain ⟨g1, e⟩ := zgd_el e
    cases e
    simp only [zst2, h1]
    exact ⟨zin_in g1, hK⟩
  case bastore =>
    obtain ⟨k, x, v, r, rfl, e⟩ := zoRII_el e
    obtain ⟨n, z, e1, e⟩ := zoA_el e
    have h1 := zar_el e1
    obtain ⟨g1, e⟩ := zgd_el e
    obtain ⟨g2, e⟩ := zgd_el e
    cases e
    simp only [zst2, h1]
    exact ⟨zin_in g1, of_decide_eq_true g2, hK⟩
  case arraylength =>
    obtain ⟨k, r, e9, f9⟩ := zoR1_el e
    clear e
    subst e9
    have e := f9
    clear f9
    cases h1 : tab k with
    | inl z => rw [h1] at e; cases e
    | inr z =>
      obtain ⟨t, n, w⟩ := z
      simp only [h1] at e
      obtain ⟨g1, e⟩ := zgd_el e
      cases e
      simp only [zst2, zR1, h1]
      exact ⟨of_decide_eq_true g1, hK⟩
  all_goals cases e
def zf4 (i : Instr) (pc : Nat) (loc : zL) (stk : List zV) (h : zH) : Option zN := match i with
  | .lcmp => zoL2 stk (fun x y r => some (pc + 1, loc, .inl (lg_cmp x y) :: r, h))
  | .ldiv => zoL2 stk (fun x y r => zgd (decide (¬ y = 0)) (some (pc + 1, loc, .inr (.inl (x / y)) :: r, h)))
  | .lrem => zoL2 stk (fun x y r => zgd (decide (¬ y = 0)) (some (pc + 1, loc, .inr (.inl (x - x / y * y)) :: r, h)))
  | .lushr => zoLI stk (fun x y r => some (pc + 1, loc, .inr (.inl (x.toUInt64 >>> (y.toInt64.toUInt64 &&& Int64.toUInt64 63)).toInt64) :: r, h))
  | .lshl => zoLI stk (fun x y r => some (pc + 1, loc, .inr (.inl (x <<< (y.toInt64 &&& 63))) :: r, h))
  | .tableswitch d lo hi offs => zo1 stk (fun x r => if x.toInt < lo ∨ hi < x.toInt then zj pc d loc r h else (match offs[(x.toInt - lo).toNat]? with
    | some off => zj pc off loc r h
    | none => none))
  | .lookupswitch d ps => zo1 stk (fun x r => zgd ((ps.toList.zip (ps.toList.drop 1)).all (fun (a, next) => a.1 < next.1)) (zj pc (Op.lookupswitch.offset ps.toList d x.toInt) loc r h))
  | _ => none
set_option maxHeartbeats 8000000 in
theorem zf4_st {i : Instr} {pc : Nat} {loc : zL} {stk : List zV} {h : zH} {q : zN} (e : zf4 i pc loc stk h = some q) (K : Nat → zL → List zV → zH → Prop) (hK : K q.1 q.2.1 q.2.2.1 q.2.2.2) : zst4 i pc loc stk (fun a b c => K a b c h) := by
  cases i
  case lcmp => obtain ⟨x, y, r, rfl, e⟩ := zoL2_el e; cases e; exact hK
  case ldiv => obtain ⟨x, y, r, rfl, e⟩ := zoL2_el e; obtain ⟨hb, e⟩ := zgd_el e; cases e; exact ⟨of_decide_eq_true hb, hK⟩
  case lrem => obtain ⟨x, y, r, rfl, e⟩ := zoL2_el e; obtain ⟨hb, e⟩ := zgd_el e; cases e; exact ⟨of_decide_eq_true hb, hK⟩
  case lushr => obtain ⟨x, y, r, rfl, e⟩ := zoLI_el e; cases e; exact hK
  case lshl => obtain ⟨x, y, r, rfl, e⟩ := zoLI_el e; cases e; exact hK
  case tableswitch d lo hi offs =>
    obtain ⟨x, r, e9, f9⟩ := zo1_el e
    clear e
    subst e9
    have e := f9
    clear f9
    refine ⟨fun hc => ?_, fun hc => ?_⟩
    · rw [if_pos hc] at e
      obtain ⟨h0, e⟩ := zj_el e
      cases e
      exact ⟨h0, hK⟩
    · rw [if_neg hc] at e
      cases ho : offs[(x.toInt - lo).toNat]? with
      | none => rw [ho] at e; cases e
      | some off =>
        rw [ho] at e
        obtain ⟨h0, e⟩ := zj_el e
        cases e
        exact ⟨h0, hK⟩
  case lookupswitch d ps =>
    obtain ⟨x, r, rfl, e⟩ := zo1_el e
    obtain ⟨hb, e⟩ := zgd_el e
    obtain ⟨h0, e⟩ := zj_el e
    cases e
    exact ⟨hb, h0, hK⟩
  all_goals cases e
def zf5 (kI : Nat → Option Int32) (kL : Nat → Option Int64) (i : Instr) (pc : Nat) (loc : zL) (stk : List zV) (h : zH) : Option zN := match i with
  | .ldc x => (match kI x with
    | some v => some (pc + 2, loc, .inl v :: stk, h)
    | none => none)
  | .ldc_w x => (match kI x with
    | some v => some (pc + 3, loc, .inl v :: stk, h)
    | none => none)
  | .ldc2_w x => (match kL x with
    | some v => some (pc + 3, loc, .inr (.inl v) :: stk, h)
    | none => none)
  | _ => none
theorem zf5_st {kI : Nat → Option Int32} {kL : Nat → Option Int64} {i : Instr} {pc : Nat} {loc : zL} {stk : List zV} {h : zH} {q : zN} (e : zf5 kI kL i pc loc stk h = some q) (K : Nat → zL → List zV → zH → Prop) (hK : K q.1 q.2.1 q.2.2.1 q.2.2.2) : zst5 kI kL i pc loc stk (fun a b c => K a b c h) := by
  cases i
  case ldc x =>
    simp only [zf5] at e
    cases hv : kI x with
    | none => rw [hv] at e; cases e
    | some v => rw [hv] at e; cases e; simp only [zst5, hv]; exact hK
  case ldc_w x =>
    simp only [zf5] at e
    cases hv : kI x with
    | none => rw [hv] at e; cases e
    | some v => rw [hv] at e; cases e; simp only [zst5, hv]; exact hK
  case ldc2_w x =>
    simp only [zf5] at e
    cases hv : kL x with
    | none => rw [hv] at e; cases e
    | some v => rw [hv] at e; cases e; simp only [zst5, hv]; exact hK
  all_goals cases e
end
section
/-! statics, constant texts, arraycopy -/
section ZCOPY
variable {p : Program} {l : Launch} {e : Env} {R : Room} {s : State} {m : MethodId} {args : Array Value} {below : List Frame} {meth : Method} {c : Code} {H : Heap} {locs : List Loc} {cells slots : Nat} {Q : State → Prop}
variable {cc : ByteArray} {pc : Nat} {ls : Array Slot} {rest : List Value} {D : va_G} {cl : List vw_C} {A : Nat → Prop} {a : Nat} {tys : List (ClassId × FieldType)} {ws : va_W}
/-- System.arraycopy out of a static table of ints into a row of the world -/
theorem z_copyt (hexec : p.tables.exec = Jvm.exec) (hb : c.code = cc) (hml : c.maxLocals = ls.size) {own : String} {index : Nat} (hown : s.vm.findClass own = some m.cls) (hlink : (Cond.methodLink own index arraycopyName).before args s = true) (hnat : (Cond.native arraycopyName).before args s = true) (hstat : (Cond.static arraycopyName).before args s = true) (hini : (Cond.initialized "java/lang/System").before args s = true)
    (hK : va_K D cl tys s) (hP : va_P D cl ws H) (hD : va_D A ws) (hS : va_S A s.heap H locs) {b0 n0 : Nat} {f : Nat → Int32} (hX : va_T .int b0 n0 (fun j => .int (f j)) A s s.heap) (q1 t1 : Nat) {c1 : ClassId} {n1 : Nat} {g : Nat → Int32} (ha1 : ws[q1]? = some (a, .inl (c1, n1, .inl g))) (ht1 : tys[t1]? = some (c1, .int))
    {sp dp n : Int32} (h1 : ¬ sp < 0) (h2 : ¬ dp < 0) (h3 : ¬ n < 0) (h4 : sp.toNatClampNeg + n.toNatClampNeg ≤ n0) (h5 : dp.toNatClampNeg + n.toNatClampNeg ≤ n1) (hfit : ∀ i : Nat, i < n.toNatClampNeg → fits .int (.int (f (sp.toNatClampNeg + i))) = true)
    (hframes : 1 ≤ R.frames) (hlocals : (rest.map fun v => v.category).sum + (nativeFrameWords "java/lang/System" "arraycopy" 5 + 11) ≤ R.locals) (hdg : decode cc pc = .ok (.invokestatic index, 3))
    (kk : ∀ (H1 : Heap) (locs1 : List Loc), va_P D cl (ws.set q1 (a, .inl (c1, n1, .inl (va_cpy f g sp.toNatClampNeg dp.toNatClampNeg n.toNatClampNeg)))) H1 → va_D A (ws.set q1 (a, .inl (c1, n1, .inl (va_cpy f g sp.toNatClampNeg dp.toNatClampNeg n.toNatClampNeg)))) → va_S A s.heap H1 locs1 → W p l e R s m args below meth c H1 locs1 cells slots Q (F0 m (pc + 3) ls rest)) : W p l e R s m args below meth c H locs cells slots Q (F0 m pc ls (.int n :: .int dp :: .ref a :: .int sp :: .ref b0 :: rest)) := by
  have nn : ∀ z : Int32, ¬ z < 0 → z.toInt = (z.toNatClampNeg : Int) := by
    intro z hz
    have hz0 : (0 : Int) ≤ z.toInt := by
      have := Int32.not_lt.mp hz
      simpa using Int32.le_iff_toInt_le.mp this
    show z.toInt = ((z.toInt.toNat : Nat) : Int)
    omega
  intro T hT X
  obtain ⟨scr, hs1, hs2, hs3, hs4, -, hs5, hs7⟩ := hX
  have hc0 : H[b0]? = some scr := by rw [hS.2.1 b0 (Array.getElem?_eq_some_iff.mp hs1).1 hs7]; exact hs1
  have hc1 : H[a]? = some (vp_cell c1 (n1, .inl g)) := hP q1 _ ha1
  obtain ⟨hs6, k0, hk0, cm0, hkk0⟩ := hs2
  obtain ⟨-, k1, hk1, cm1, hkk1⟩ := (hK.2 t1 _ ht1).1 n1 (fun j => .int (g j))
  obtain ⟨vm', X', step⟩ := X.arraycopy hexec hown hlink hnat hstat hini (src := b0) (dst := a) (cs := scr) (cd := vp_cell c1 (n1, .inl g)) (srcPos := sp) (destPos := dp) (n := n) (by rw [hT]; exact hc0) (by rw [hT]; exact hc1)
    hs6 (fun _ h => by cases h) hs3 (fun h => by cases h) hk0 hk1 hkk0 hkk1 (by simp [refKind]) h1 h2 h3
    (by rw [nn sp h1, nn n h3]; omega)
    (by rw [nn dp h2, nn n h3]; show ¬ _ > ((arrV c1 n1 (fun j => .int (g j))).slots.size : Int); rw [arrV_size]; omega)
    (fun vm₁ _ i hi => by
      have e : scr.slots.getD (sp.toNatClampNeg + i) .null = .int (f (sp.toNatClampNeg + i)) := by
        rw [Array.getD_eq_getD_getElem?, hs5 _ (by omega)]
        rfl
      refine ⟨?_, ?_⟩
      · rw [e]
        exact hfit i hi
      · rw [e]
        exact trivial)
    (g := F0 m pc ls (.int n :: .int dp :: .ref a :: .int sp :: .ref b0 :: rest)) rfl (by rw [hml]) (rest := rest) rfl (by rw [hb]; exact hdg) hframes (by show 2 * 0 + _ + _ ≤ _; omega)
  have e1 : copied scr (vp_cell c1 (n1, .inl g)) sp dp n = vp_cell c1 (n1, .inl (va_cpy f g sp.toNatClampNeg dp.toNatClampNeg n.toNatClampNeg)) := va_copiedX (fun z => .int z) scr c1 f g hs5 h4
  rw [e1] at X' step
  have hl : a < H.size := (Array.getElem?_eq_some_iff.mp hc1).1
  obtain ⟨N, hN⟩ : ∃ N, N = vp_cell c1 (n1, .inl (va_cpy f g sp.toNatClampNeg dp.toNatClampNeg n.toNatClampNeg)) := ⟨_, rfl⟩
  rw [← hN] at X' step
  have hheap : ((T.setVm vm').setCell a N).heap = H.setIfInBounds a N := by rw [← hT]; rfl
  have oq : ∀ q : Nat, q ≠ a → (H.setIfInBounds a N)[q]? = H[q]? := fun q hq => by simp [Array.getElem?_setIfInBounds, Ne.symm hq]
  have oa : (H.setIfInBounds a N)[a]? = some N := by simp [Array.getElem?_setIfInBounds, hl]
  have hin : A a := hD.2 q1 _ ha1
  have hS' : ∀ L : List Loc, (∀ z ∈ L, z.base = a) → va_S A s.heap (H.setIfInBounds a N) (locs ++ L) := fun L hL => by
    refine ⟨by simp; exact hS.1, fun q g1 g2 => ?_, fun q hq => ?_⟩
    · rw [oq q (fun e => g2 (by rw [e]; exact hin))]
      exact hS.2.1 q g1 g2
    · rcases List.mem_append.mp hq with h | h
      · exact hS.2.2 q h
      · rw [hL q h]
        exact hin
  obtain ⟨t, a1, b1⟩ := kk _ _ (hP.set hD ha1 (show (H.setIfInBounds a N)[a]? = some (vp_cell _ _) by rw [oa, hN]) oq) (hD.set ha1) (hS' _ (fun z hz => by
      obtain ⟨y, -, hy⟩ := List.mem_map.mp hz
      rw [← hy])) _ hheap X'
  exact ⟨t, step t a1, b1⟩
end ZCOPY

/-- a row anew -/
def zsr (h : zH) (a : Nat) (g : Nat → Int32) : zH := (fun c => if c = a then g else h.1 c, h.2)
/-- gst: a static field's value; ldS: a text's cell; fldS: a text's field, 0 its bytes, else its coder; acp: System.arraycopy -/
def zf6 (tab : Nat → (Nat × List Nat) ⊕ (Nat × Nat × List Nat)) (gst : Nat → Option zV) (ldS fldS : Nat → Option Nat) (acp : Nat → Bool) (i : Instr) (pc : Nat) (loc : zL) (stk : List zV) (h : zH) : Option zN := match i with
  | .getstatic idx => match gst idx with
    | some v => some (pc + 3, loc, v :: stk, h)
    | none => none
  | .ldc idx => match ldS idx with
    | some k => some (pc + 2, loc, .inr (.inr k) :: stk, h)
    | none => none
  | .getfield idx => zoR1 stk (fun k r => zoA (zar tab k 5) (fun v _ => match fldS idx with
    | some 0 => some (pc + 3, loc, .inr (.inr v) :: r, h)
    | some _ => some (pc + 3, loc, .inl 0 :: r, h)
    | none => none))
  | .iaload => zoRI stk (fun k x r => zoA (zar tab k 4) (fun n q => zgd (zin x n) (some (pc + 1, loc, .inl (Int32.ofNat (q.getD x.toNatClampNeg 0)) :: r, h))))
  | .baload => zoRI stk (fun k x r => zoA (zar tab k 6) (fun n q => zgd (zin x n) (some (pc + 1, loc, .inl (Int32.ofNat (q.getD x.toNatClampNeg 0)) :: r, h))))
  | .arraylength => zoR1 stk (fun k r => match tab k with
    | .inr (t, n, _) => zgd (decide (t = 4 ∨ t = 6)) (some (pc + 1, loc, .inl (Int32.ofNat n) :: r, h))
    | _ => none)
  | .i2b => zo1 stk (fun x r => some (pc + 1, loc, .inl x.toInt8.toInt32 :: r, h))
  | .invokestatic idx => zgd (acp idx) (match stk with
    | .inl n :: .inl dp :: .inr (.inr a) :: .inl sp :: .inr (.inr b) :: r => zgd (decide ((r.map zcat).sum ≤ 8)) (zoA (zar tab a 0) (fun n1 _ => match tab b with
      | .inr (t, n0, q) => zgd (decide (t = 0 ∨ t = 4)) (zgd (decide (0 ≤ sp.toInt ∧ 0 ≤ dp.toInt ∧ 0 ≤ n.toInt ∧ sp.toInt + n.toInt ≤ (n0 : Int) ∧ dp.toInt + n.toInt ≤ (n1 : Int))) (some (pc + 3, loc, r, zsr h a (va_cpy (if t = 0 then h.1 b else fun j => Int32.ofNat (q.getD j 0)) (h.1 a) sp.toNatClampNeg dp.toNatClampNeg n.toNatClampNeg))))
      | _ => none))
    | _ => none)
  | _ => none
/-- what stands beside the world: static fields (class, name, type, value), rows and texts that nobody writes, the texts' links -/
def zTT (tab : Nat → (Nat × List Nat) ⊕ (Nat × Nat × List Nat)) (gl : List (String × String × String × zV)) (sl : List (String × Nat × String × Nat)) (ad : Nat → Nat) (A : Nat → Prop) (U : State) (H : Heap) : Prop :=
  (∀ k n q, tab k = .inr (4, n, q) → va_T .int (ad k) n (fun j => .int (Int32.ofNat (q.getD j 0))) A U H) ∧
  (∀ k n q, tab k = .inr (6, n, q) → va_T .byte (ad k) n (fun j => .int (Int32.ofNat (q.getD j 0))) A U H) ∧
  (∀ k v q, tab k = .inr (5, v, q) → va_O "java/lang/String" (ad k) A U H ∧ va_OF "java/lang/String" "coder" "B" (.int 0) (ad k) A U H ∧ va_OF "java/lang/String" "value" "[B" (.ref (ad v)) (ad k) A U H) ∧
  (∀ z ∈ gl, va_Z z.1 z.2.1 z.2.2.1 (zv ad z.2.2.2) A U H) ∧
  (∀ z ∈ sl, vk_R z.1 z.2.1 z.2.2.1 (ad z.2.2.2) U)
theorem zTT.call {tab : Nat → (Nat × List Nat) ⊕ (Nat × Nat × List Nat)} {gl : List (String × String × String × zV)} {sl : List (String × Nat × String × Nat)} {ad : Nat → Nat} {A B : Nat → Prop} {s U : State} {H : Heap} {locs : List Loc} (h : zTT tab gl sl ad A s s.heap) (hS : va_S A s.heap H locs) (hAB : ∀ q, B q → A q) (hU : U.heap = H) (hW : s.WarmedH U.vm) : zTT tab gl sl ad B U U.heap := by
  obtain ⟨h1, h2, h3, h4, h5⟩ := h
  rw [hU]
  refine ⟨fun k n q e => ?_, fun k n q e => ?_, fun k v q e => ?_, fun z hz => ?_, fun z hz => vk_R.warm hW (h5 z hz)⟩
  · exact va_T.moved hW.alike (va_T.narrow (va_T.kept (h1 k n q e) hS.2.1) hAB)
  · exact va_T.moved hW.alike (va_T.narrow (va_T.kept (h2 k n q e) hS.2.1) hAB)
  · obtain ⟨a1, a2, a3⟩ := h3 k v q e
    exact ⟨va_O.moved hW.alike (va_O.narrow (va_O.kept a1 hS.2.1) hAB), va_OF.moved hW.alike (va_OF.narrow (va_OF.kept a2 hS.2.1) hAB), va_OF.moved hW.alike (va_OF.narrow (va_OF.kept a3 hS.2.1) hAB)⟩
  · exact va_Z.moved hW.alike (va_Z.narrow (va_Z.kept (h4 z hz) hS.2.1) hAB)
theorem zTT.same {tab : Nat → (Nat × List Nat) ⊕ (Nat × Nat × List Nat)} {gl : List (String × String × String × zV)} {sl : List (String × Nat × String × Nat)} {ad : Nat → Nat} {A : Nat → Prop} {u U : State} {H : Heap} (hv : U.vm = u.vm) (h : zTT tab gl sl ad A u H) : zTT tab gl sl ad A U H := by
  have ha : u.vm.Alike U.vm := by rw [hv]; exact Vm.Alike.refl _
  obtain ⟨h1, h2, h3, h4, h5⟩ := h
  exact ⟨fun k n q e => va_T.moved ha (h1 k n q e), fun k n q e => va_T.moved ha (h2 k n q e), fun k v q e => ⟨va_O.moved ha (h3 k v q e).1, va_OF.moved ha (h3 k v q e).2.1, va_OF.moved ha (h3 k v q e).2.2⟩, fun z hz => va_Z.moved ha (h4 z hz), fun z hz => vk_R.same hv (h5 z hz)⟩
theorem znn {z : Int32} (h : 0 ≤ z.toInt) : ¬ z < 0 ∧ z.toInt = (z.toNatClampNeg : Int) := by
  refine ⟨fun q => ?_, ?_⟩
  · have := Int32.lt_iff_toInt_lt.mp q
    simp at this
    omega
  · show z.toInt = ((z.toInt.toNat : Nat) : Int)
    omega
theorem zcat_map (ad : Nat → Nat) (r : List zV) : (r.map (zv ad)).map (fun v => v.category) = r.map zcat := by
  rw [List.map_map]
  exact List.map_congr_left (fun v _ => zv_cat ad v)
section ZS6
variable {p : Program} {l : Launch} {e : Env} {R : Room} {s : State} {m : MethodId} {args : Array Value} {below : List Frame} {meth : Method} {c : Code} {cells slots : Nat} {Q : State → Prop} {cc : ByteArray} {ad : Nat → Nat} {nL N : Nat} {A : Nat → Prop}
variable {tab : Nat → (Nat × List Nat) ⊕ (Nat × Nat × List Nat)} {cI cZ cQ cG : ClassId} {dC : Nat → ClassId} {dI : Nat → Nat → Nat} {Ts : List Cond} {own : String} {gl : List (String × String × String × zV)} {sl : List (String × Nat × String × Nat)} {gst : Nat → Option zV} {ldS fldS : Nat → Option Nat} {acp : Nat → Bool}
theorem zsr_other {h : zH} {c a : Nat} {g : Nat → Int32} (ha : a ≠ c) : (zsr h c g).1 a = h.1 a ∧ (zsr h c g).2 a = h.2 a := ⟨if_neg ha, rfl⟩
theorem zsr_row {h : zH} {c : Nat} {g : Nat → Int32} : (zsr h c g).1 c = g := if_pos rfl
set_option maxHeartbeats 8000000 in
theorem zf6_sound (hx : p.tables.exec = Jvm.exec) (hb : c.code = cc) (hml : c.maxLocals = nL) (hts : ∀ w ∈ Ts, w.before args s = true) (hown : s.vm.findClass own = some m.cls) (hK : va_K (dC, dI) vwCl (zTy cI cZ cQ cG) s) (hN : ∀ k, N ≤ k → ∃ t n r, 4 ≤ t ∧ tab k = .inr (t, n, r)) (hZ : zTT tab gl sl ad A s s.heap)
    (hgst : ∀ idx v, gst idx = some v → ∃ z ∈ gl, z.2.2.2 = v ∧ Cond.fieldLink own idx z.1 z.2.1 z.2.2.1 ∈ Ts) (hldS : ∀ idx k, ldS idx = some k → ∃ tx, (own, idx, tx, k) ∈ sl) (hfldS : ∀ idx t, fldS idx = some t → Cond.fieldLink own idx "java/lang/String" (if t = 0 then "value" else "coder") (if t = 0 then "[B" else "B") ∈ Ts)
    (hacp : ∀ idx, acp idx = true → Cond.methodLink own idx arraycopyName ∈ Ts ∧ Cond.native arraycopyName ∈ Ts ∧ Cond.static arraycopyName ∈ Ts ∧ Cond.initialized "java/lang/System" ∈ Ts) (hR : 1 ≤ R.frames ∧ 8 + (nativeFrameWords "java/lang/System" "arraycopy" 5 + 11) ≤ R.locals)
    {i : Instr} {pc : Nat} {loc : zL} {stk : List zV} {h : zH} {H : Heap} {locs : List Loc} {ls : Array Slot} {q : zN} (hdg : decode cc pc = .ok (i, zlen i)) (hl : lv_has ls nL (zc ad loc)) (hP : va_P (dC, dI) vwCl (zW tab cI cZ cQ cG ad N h) H) (hD : va_D A (zW tab cI cZ cQ cG ad N h)) (hS : va_S A s.heap H locs) (hw : zf6 tab gst ldS fldS acp i pc loc stk h = some q)
    (kk : ∀ (H' : Heap) (locs' : List Loc) (ls' : Array Slot), lv_has ls' nL (zc ad q.2.1) → va_P (dC, dI) vwCl (zW tab cI cZ cQ cG ad N q.2.2.2) H' → va_D A (zW tab cI cZ cQ cG ad N q.2.2.2) → va_S A s.heap H' locs' → W p l e R s m args below meth c H' locs' cells slots Q (F0 m q.1 ls' (q.2.2.1.map (zv ad)))) : W p l e R s m args below meth c H locs cells slots Q (F0 m pc ls (stk.map (zv ad))) := by
  have hlt : ∀ {k n : Nat} {r : List Nat}, tab k = .inr (0, n, r) → k < N := fun {k n r} e1 => by
    rcases Nat.lt_or_ge k N with q | q
    · exact q
    · obtain ⟨t, n2, r2, h4, e3⟩ := hN k q
      rw [e1] at e3
      cases e3
      omega
  cases i
  case getstatic idx =>
    simp only [zf6] at hw
    cases hv : gst idx with
    | none => rw [hv] at hw; cases hw
    | some v =>
      rw [hv] at hw
      cases hw
      obtain ⟨z, hz, e1, e2⟩ := hgst idx v hv
      have k9 := kk H locs ls hl hP hD hS
      refine va_gets hx hb (hZ.2.2.2.1 z hz) hS hown (hts _ e2) (fun _ h9 => h9) hdg ?_
      rw [e1]
      exact k9
  case ldc idx =>
    simp only [zf6] at hw
    cases hv : ldS idx with
    | none => rw [hv] at hw; cases hw
    | some k =>
      rw [hv] at hw
      cases hw
      obtain ⟨tx, hz⟩ := hldS idx k hv
      have k9 := kk H locs ls hl hP hD hS
      exact va_ldcS hx hb hown (hZ.2.2.2.2 _ hz) hdg k9
  case getfield idx =>
    obtain ⟨k, r, e9, f9⟩ := zoR1_el hw
    clear hw
    subst e9
    obtain ⟨v, q2, e1, f9⟩ := zoA_el f9
    obtain ⟨-, a2, a3⟩ := hZ.2.2.1 k v q2 (zar_el e1)
    cases hv : fldS idx with
    | none => rw [hv] at f9; cases f9
    | some t =>
      have e2 := hfldS idx t hv
      rw [hv] at f9
      match t, f9, e2 with
      | 0, f9, e2 =>
        cases f9
        have k9 := kk H locs ls hl hP hD hS
        exact vk_getf hx hb a3 hS hown (hts _ e2) (fun _ h9 => h9) hdg k9
      | t + 1, f9, e2 =>
        cases f9
        have k9 := kk H locs ls hl hP hD hS
        rw [if_neg (Nat.succ_ne_zero t), if_neg (Nat.succ_ne_zero t)] at e2
        exact vk_getf hx hb a2 hS hown (hts _ e2) (fun _ h9 => h9) hdg k9
  case iaload =>
    obtain ⟨k, x, r, e9, f9⟩ := zoRI_el hw
    clear hw
    subst e9
    obtain ⟨n, q2, e1, f9⟩ := zoA_el f9
    obtain ⟨g1, f9⟩ := zgd_el f9
    cases f9
    have k9 := kk H locs ls hl hP hD hS
    exact va_ti hx hb (hZ.1 k n q2 (zar_el e1)) hS (zin_in g1) rfl hdg k9
  case baload =>
    obtain ⟨k, x, r, e9, f9⟩ := zoRI_el hw
    clear hw
    subst e9
    obtain ⟨n, q2, e1, f9⟩ := zoA_el f9
    obtain ⟨g1, f9⟩ := zgd_el f9
    cases f9
    have k9 := kk H locs ls hl hP hD hS
    exact va_tb hx hb (hZ.2.1 k n q2 (zar_el e1)) hS (zin_in g1) rfl hdg k9
  case arraylength =>
    obtain ⟨k, r, e9, f9⟩ := zoR1_el hw
    clear hw
    subst e9
    cases h1 : tab k with
    | inl z => rw [h1] at f9; cases f9
    | inr z =>
      obtain ⟨t, n, w⟩ := z
      simp only [h1] at f9
      obtain ⟨g1, f9⟩ := zgd_el f9
      cases f9
      have k9 := kk H locs ls hl hP hD hS
      rcases of_decide_eq_true g1 with rfl | rfl
      · exact va_tlen hx hb (hZ.1 k n w h1) hS rfl hdg k9
      · exact va_tlen hx hb (hZ.2.1 k n w h1) hS rfl hdg k9
  case i2b =>
    obtain ⟨x, r, e9, f9⟩ := zo1_el hw
    clear hw
    subst e9
    cases f9
    have k9 := kk H locs ls hl hP hD hS
    exact lv_i2b hx hb hdg rfl k9
  case invokestatic idx =>
    obtain ⟨g0, f9⟩ := zgd_el hw
    clear hw
    obtain ⟨w1, w2, w3, w4⟩ := hacp idx g0
    match stk, f9 with
    | .inl n :: .inl dp :: .inr (.inr a) :: .inl sp :: .inr (.inr b) :: r, f9 =>
      obtain ⟨g1, f9⟩ := zgd_el f9
      obtain ⟨n1, q1, e1, f9⟩ := zoA_el f9
      have h1 := zar_el e1
      cases h0 : tab b with
      | inl z => rw [h0] at f9; cases f9
      | inr z =>
        obtain ⟨t, n0, w⟩ := z
        simp only [h0] at f9
        obtain ⟨g2, f9⟩ := zgd_el f9
        obtain ⟨g3, f9⟩ := zgd_el f9
        cases f9
        obtain ⟨b1, b2, b3, b4, b5⟩ := of_decide_eq_true g3
        obtain ⟨c1, d1⟩ := znn b1
        obtain ⟨c2, d2⟩ := znn b2
        obtain ⟨c3, d3⟩ := znn b3
        have hsum : ((r.map (zv ad)).map fun v => v.category).sum + (nativeFrameWords "java/lang/System" "arraycopy" 5 + 11) ≤ R.locals := by
          rw [zcat_map]
          have := of_decide_eq_true g1
          omega
        have ha1 : (zW tab cI cZ cQ cG ad N h)[a]? = some (ad a, .inl (cI, n1, .inl (h.1 a))) := by rw [zW_at (hlt h1), zce_i h1]
        have hset : ∀ f : Nat → Int32, (zW tab cI cZ cQ cG ad N h).set a (ad a, .inl (cI, n1, .inl (va_cpy f (h.1 a) sp.toNatClampNeg dp.toNatClampNeg n.toNatClampNeg))) = zW tab cI cZ cQ cG ad N (zsr h a (va_cpy f (h.1 a) sp.toNatClampNeg dp.toNatClampNeg n.toNatClampNeg)) := fun f =>
          zW_set (hlt h1) (by rw [zce_i h1, zsr_row]) (fun k hk => zsr_other hk)
        rcases of_decide_eq_true g2 with rfl | rfl
        · refine va_copyi hx hb (by rw [hml]; exact hl.1.symm) hown (hts _ w1) (hts _ w2) (hts _ w3) (hts _ w4) hK hP hD hS b a 0 0 (ty := .int) (show (zW tab cI cZ cQ cG ad N h)[b]? = some (ad b, .inl (cI, n0, .inl (h.1 b))) by rw [zW_at (hlt h0), zce_i h0]) ha1 rfl rfl rfl c1 c2 c3 (by omega) (by omega) (fun _ _ => rfl) hR.1 hsum hdg (fun H1 locs1 hP1 hD1 hS1 => ?_)
          rw [hset] at hP1 hD1
          exact kk H1 locs1 ls hl hP1 hD1 hS1
        · refine z_copyt hx hb (by rw [hml]; exact hl.1.symm) hown (hts _ w1) (hts _ w2) (hts _ w3) (hts _ w4) hK hP hD hS (hZ.1 b n0 w h0) a 0 ha1 rfl c1 c2 c3 (by omega) (by omega) (fun _ _ => rfl) hR.1 hsum hdg (fun H1 locs1 hP1 hD1 hS1 => ?_)
          rw [hset] at hP1 hD1
          exact kk H1 locs1 ls hl hP1 hD1 hS1
  all_goals cases hw
end ZS6
end
section
/-! the run: a method's instructions, its calls, its end -/
/-- a method's locals at its start -/
def zent : Nat → List zV → zL
  | _, [] => []
  | k, v :: vs => (k, v) :: zent (if zcat v = 2 then k + 2 else k + 1) vs
theorem zent_c (ad : Nat → Nat) : ∀ (vs : List zV) (k : Nat), lv_args k (vs.map (zv ad)) = zc ad (zent k vs)
  | [], _ => rfl
  | v :: vs, k => by
    show (k, zv ad v) :: lv_args (if (zv ad v).category = 2 then k + 2 else k + 1) (vs.map (zv ad)) = (k, zv ad v) :: zc ad (zent (if zcat v = 2 then k + 2 else k + 1) vs)
    rw [zv_cat, zent_c ad vs]
theorem zcat_or (v : zV) : zcat v = 1 ∨ zcat v = 2 := by
  rcases v with x | x | k
  · exact Or.inl rfl
  · exact Or.inr rfl
  · exact Or.inl rfl
theorem zlgsl (ad : Nat → Nat) : ∀ (vs : List zV), (lg_sl (vs.map (zv ad))).length = (vs.map zcat).sum
  | [] => rfl
  | v :: vs => by
    have ih := zlgsl ad vs
    unfold lg_sl at ih ⊢
    rw [List.map_cons, List.flatMap_cons, List.length_append, ih, List.map_cons, List.sum_cons, zv_cat]
    rcases zcat_or v with q | q <;> rw [q] <;> rfl
/-- a method's end -/
def zend (ret : Option FieldType) (i : Instr) (stk : List zV) : Option (Option zV) := match i, stk, ret with
  | .ireturn, [.inl x], some .int => some (some (.inl x))
  | .ireturn, [.inl x], some .boolean => if x = 0 ∨ x = 1 then some (some (.inl x)) else none
  | .ireturn, [.inl x], some .byte => if x = 0 then some (some (.inl x)) else none
  | .lreturn, [.inr (.inl x)], some .long => some (some (.inr (.inl x)))
  | .return_, [], none => some none
  | _, _, _ => none
/-- the receiver's class: kc its number; 99 a text -/
def zrcv (tab : Nat → (Nat × List Nat) ⊕ (Nat × Nat × List Nat)) (kc : Nat) (args : List zV) : Bool := match args with
  | .inr (.inr k) :: _ => (match tab k with
    | .inl (ci, _) => ci == kc
    | .inr (t, _, _) => t == 5 && kc == 99)
  | _ => false
section ZRUN
variable (tab : Nat → (Nat × List Nat) ⊕ (Nat × Nat × List Nat)) (pI : Nat → Nat → Option Instr) (mL : Nat → Nat) (mR : Nat → Option FieldType) (fld : Nat → Nat → Option (Nat × Nat × Nat)) (kI : Nat → Nat → Option Int32) (kL : Nat → Nat → Option Int64) (gst : Nat → Nat → Option zV) (ldS fldS : Nat → Nat → Option Nat) (acp : Nat → Nat → Bool) (cal : Nat → Nat → Option (Nat × Nat × Nat))
def zst (mid : Nat) (i : Instr) (pc : Nat) (loc : zL) (stk : List zV) (h : zH) : Option zN := match zf1 i pc loc stk h with
  | some q => some q
  | none => match zf2 tab (fld mid) i pc loc stk h with
    | some q => some q
    | none => match zf4 i pc loc stk h with
      | some q => some q
      | none => match zf5 (kI mid) (kL mid) i pc loc stk h with
        | some q => some q
        | none => zf6 tab (gst mid) (ldS mid) (fldS mid) (acp mid) i pc loc stk h
def zcl (mid : Nat) (i : Instr) (stk : List zV) : Option (Nat × List zV × List zV) := match i with
  | .invokevirtual idx => (match cal mid idx with
    | some (callee, na, kc) => if (decide (kc < 100) && decide (na ≤ stk.length) && decide (((stk.drop na).map zcat).sum ≤ 8) && decide (((stk.take na).reverse.map zcat).sum ≤ mL callee) && zrcv tab kc (stk.take na).reverse) = true then some (callee, (stk.take na).reverse, stk.drop na) else none
    | none => none)
  | .invokestatic idx => (match cal mid idx with
    | some (callee, na, kc) => if (decide (kc = 100) && decide (na ≤ stk.length) && decide (((stk.drop na).map zcat).sum ≤ 8) && decide (((stk.take na).reverse.map zcat).sum ≤ mL callee)) = true then some (callee, (stk.take na).reverse, stk.drop na) else none
    | none => none)
  | _ => none
def zrun : Nat → Nat → Nat → Nat → zL → List zV → zH → Option (Option zV × zH)
  | 0, _, _, _, _, _, _ => none
  | n + 1, d, mid, pc, loc, stk, h => match pI mid pc with
    | none => none
    | some i => match zcl tab mL cal mid i stk with
      | some (callee, args, rest) => (match d with
        | 0 => none
        | d' + 1 => match zrun n d' callee 0 (zent 0 args) [] h with
          | some (r, h1) => zrun n (d' + 1) mid (pc + 3) loc (r.toList ++ rest) h1
          | none => none)
      | none => match zend (mR mid) i stk with
        | some r => some (r, h)
        | none => match zst tab fld kI kL gst ldS fldS acp mid i pc loc stk h with
          | some q => zrun n d mid q.1 q.2.1 q.2.2.1 q.2.2.2
          | none => none
end ZRUN
section ZSND
variable {tab : Nat → (Nat × List Nat) ⊕ (Nat × Nat × List Nat)} {pI : Nat → Nat → Option Instr} {mY : Nat → MethodName} {mC : Nat → ByteArray} {mL : Nat → Nat} {mR : Nat → Option FieldType} {fld : Nat → Nat → Option (Nat × Nat × Nat)} {kI : Nat → Nat → Option Int32} {kL : Nat → Nat → Option Int64} {gst : Nat → Nat → Option zV} {ldS fldS : Nat → Nat → Option Nat} {acp : Nat → Nat → Bool} {cal : Nat → Nat → Option (Nat × Nat × Nat)}
variable {cI cZ cQ cG : ClassId} {dC : Nat → ClassId} {dI : Nat → Nat → Nat} {ad : Nat → Nat} {N : Nat} {ALL : List Cond} {gl : List (String × String × String × zV)} {sl : List (String × Nat × String × Nat)}
def zrm (d : Nat) : Room := { frames := d + 1, cells := 0, slots := 0, locals := 40 * d + 200 }
def zwsM (mY : Nat → MethodName) (mC : Nat → ByteArray) (mL : Nat → Nat) (mR : Nat → Option FieldType) (ALL : List Cond) (mid : Nat) : List Cond := Cond.code (mY mid) (mC mid) (mL mid) (mR mid) :: ALL
/-- what the program's tables must keep to -/
def zSwi : Instr → Bool
  | .tableswitch .. => true
  | .lookupswitch .. => true
  | _ => false
def zOkI (pI : Nat → Nat → Option Instr) (mC : Nat → ByteArray) (mL : Nat → Nat) : Prop := ∀ mid pc i, pI mid pc = some i → zok (mL mid) i = true ∧ ∃ n, decode (mC mid) pc = .ok (i, n) ∧ (zSwi i = true ∨ n = zlen i)
def zOkL (mY : Nat → MethodName) (fld : Nat → Nat → Option (Nat × Nat × Nat)) (kI : Nat → Nat → Option Int32) (kL : Nat → Nat → Option Int64) (gst : Nat → Nat → Option zV) (ldS fldS : Nat → Nat → Option Nat) (acp : Nat → Nat → Bool) (ALL : List Cond) (gl : List (String × String × String × zV)) (sl : List (String × Nat × String × Nat)) : Prop := ∀ mid,
  zFldOk ALL (mY mid).cls (fld mid) ∧ (∀ x v, kI mid x = some v → Cond.constant (mY mid).cls x v ∈ ALL) ∧ (∀ x v, kL mid x = some v → Cond.constantLong (mY mid).cls x v ∈ ALL) ∧
  (∀ idx v, gst mid idx = some v → ∃ z ∈ gl, z.2.2.2 = v ∧ Cond.fieldLink (mY mid).cls idx z.1 z.2.1 z.2.2.1 ∈ ALL) ∧ (∀ idx k, ldS mid idx = some k → ∃ tx, ((mY mid).cls, idx, tx, k) ∈ sl) ∧
  (∀ idx t, fldS mid idx = some t → Cond.fieldLink (mY mid).cls idx "java/lang/String" (if t = 0 then "value" else "coder") (if t = 0 then "[B" else "B") ∈ ALL) ∧
  (∀ idx, acp mid idx = true → Cond.methodLink (mY mid).cls idx arraycopyName ∈ ALL ∧ Cond.native arraycopyName ∈ ALL ∧ Cond.static arraycopyName ∈ ALL ∧ Cond.initialized "java/lang/System" ∈ ALL)
def zOkC (mY : Nat → MethodName) (mC : Nat → ByteArray) (mL : Nat → Nat) (mR : Nat → Option FieldType) (cal : Nat → Nat → Option (Nat × Nat × Nat)) (ALL : List Cond) : Prop := ∀ mid idx callee na kc, cal mid idx = some (callee, na, kc) →
  Cond.code (mY callee) (mC callee) (mL callee) (mR callee) ∈ ALL ∧ plainName (mY callee).cls = true ∧ mL callee ≤ 21 ∧ Cond.methodLink (mY mid).cls idx (mY callee) ∈ ALL ∧ Cond.initialized (mY callee).cls ∈ ALL ∧ (mY callee).cls ≠ "java/lang/invoke/MethodHandle" ∧ (mY callee).cls ≠ "java/lang/invoke/VarHandle" ∧
  (kc = 100 → Cond.static (mY callee) ∈ ALL ∧ (parseMethodDescriptor (mY callee).desc).map (fun d => d.parameters.length) = some na) ∧
  (kc < 100 → 0 < na ∧ Cond.instanceMethod (mY callee) ∈ ALL ∧ Cond.selects (mY callee).cls (mY callee) (mY callee) ∈ ALL ∧ (parseMethodDescriptor (mY callee).desc).map (fun d => d.parameters.length) = some (na - 1) ∧
    ((kc = 99 ∧ (mY callee).cls = "java/lang/String") ∨ (kc < 99 ∧ ∃ q : vw_C, vwCl[kc]? = some q ∧ q.1 = (mY callee).cls)))
def zPreM (tab : Nat → (Nat × List Nat) ⊕ (Nat × Nat × List Nat)) (gl : List (String × String × String × zV)) (sl : List (String × Nat × String × Nat)) (cI cZ cQ cG : ClassId) (dC : Nat → ClassId) (dI : Nat → Nat → Nat) (ad : Nat → Nat) (N sz : Nat) (h : zH) (U : State) : Prop := U.heap.size = sz ∧ va_P (dC, dI) vwCl (zW tab cI cZ cQ cG ad N h) U.heap ∧ va_K (dC, dI) vwCl (zTy cI cZ cQ cG) U ∧ zTT tab gl sl ad (zA ad N sz) U U.heap
theorem zBlindM {av : List Value} {sz : Nat} {h : zH} : FrameBlind (va_Pc av (zPreM tab gl sl cI cZ cQ cG dC dI ad N sz h)) := fun a U g mk q => by
  obtain ⟨q0, q1, qP, qK, qT⟩ := q
  exact ⟨q0, q1, qP, va_K.moved (u := U) (U := U.calling g mk a) (Vm.Alike.refl U.vm) qK, zTT.same (u := U) (U := U.calling g mk a) rfl qT⟩
theorem zA_mono {a b : Nat} (hab : a ≤ b) : ∀ q, zA ad N b q → zA ad N a q := fun q h => by
  rcases h with h | h
  · exact Or.inl h
  · exact Or.inr (Nat.le_trans hab h)
theorem zst_or {mid : Nat} {i : Instr} {pc : Nat} {loc : zL} {stk : List zV} {h : zH} {q : zN} (e : zst tab fld kI kL gst ldS fldS acp mid i pc loc stk h = some q) : zf1 i pc loc stk h = some q ∨ zf2 tab (fld mid) i pc loc stk h = some q ∨ zf4 i pc loc stk h = some q ∨ zf5 (kI mid) (kL mid) i pc loc stk h = some q ∨ zf6 tab (gst mid) (ldS mid) (fldS mid) (acp mid) i pc loc stk h = some q := by
  unfold zst at e
  cases h1 : zf1 i pc loc stk h with
  | some q1 => rw [h1] at e; exact Or.inl e
  | none =>
    rw [h1] at e
    cases h2 : zf2 tab (fld mid) i pc loc stk h with
    | some q1 => rw [h2] at e; exact Or.inr (Or.inl e)
    | none =>
      rw [h2] at e
      cases h3 : zf4 i pc loc stk h with
      | some q1 => rw [h3] at e; exact Or.inr (Or.inr (Or.inl e))
      | none =>
        rw [h3] at e
        cases h4 : zf5 (kI mid) (kL mid) i pc loc stk h with
        | some q1 => rw [h4] at e; exact Or.inr (Or.inr (Or.inr (Or.inl e)))
        | none => rw [h4] at e; exact Or.inr (Or.inr (Or.inr (Or.inr e)))
theorem zf1_ns {i : Instr} {pc : Nat} {loc : zL} {stk : List zV} {h : zH} {q : zN} (e : zf1 i pc loc stk h = some q) : zSwi i = false := by
  cases i <;> first | rfl | cases e
theorem zf2_ns {f : Nat → Option (Nat × Nat × Nat)} {i : Instr} {pc : Nat} {loc : zL} {stk : List zV} {h : zH} {q : zN} (e : zf2 tab f i pc loc stk h = some q) : zSwi i = false := by
  cases i <;> first | rfl | cases e
theorem zf5_ns {a : Nat → Option Int32} {b : Nat → Option Int64} {i : Instr} {pc : Nat} {loc : zL} {stk : List zV} {h : zH} {q : zN} (e : zf5 a b i pc loc stk h = some q) : zSwi i = false := by
  cases i <;> first | rfl | cases e
theorem zf6_ns {a : Nat → Option zV} {b b2 : Nat → Option Nat} {b3 : Nat → Bool} {i : Instr} {pc : Nat} {loc : zL} {stk : List zV} {h : zH} {q : zN} (e : zf6 tab a b b2 b3 i pc loc stk h = some q) : zSwi i = false := by
  cases i <;> first | rfl | cases e
theorem zf4_len {i : Instr} {n pc : Nat} {loc : zL} {stk : List zV} {h : zH} {q : zN} (e : zf4 i pc loc stk h = some q) (hn : zSwi i = true ∨ n = zlen i) : (match i with | .tableswitch .. => True | .lookupswitch .. => True | _ => n = 1) := by
  cases i <;> first | exact trivial | (cases e; done) | (rcases hn with q | q <;> first | exact q | cases q)
end ZSND
end
section
/-! soundness of the run -/
section ZSND2
variable {tab : Nat → (Nat × List Nat) ⊕ (Nat × Nat × List Nat)} {pI : Nat → Nat → Option Instr} {mY : Nat → MethodName} {mC : Nat → ByteArray} {mL : Nat → Nat} {mR : Nat → Option FieldType} {fld : Nat → Nat → Option (Nat × Nat × Nat)} {kI : Nat → Nat → Option Int32} {kL : Nat → Nat → Option Int64} {gst : Nat → Nat → Option zV} {ldS fldS : Nat → Nat → Option Nat} {acp : Nat → Nat → Bool} {cal : Nat → Nat → Option (Nat × Nat × Nat)}
variable {cI cZ cQ cG : ClassId} {dC : Nat → ClassId} {dI : Nat → Nat → Nat} {ad : Nat → Nat} {N : Nat} {ALL : List Cond} {gl : List (String × String × String × zV)} {sl : List (String × Nat × String × Nat)} {l : Launch}
/-- the run's words for the machine below, n steps -/
def zWn (l : Launch) (tab : Nat → (Nat × List Nat) ⊕ (Nat × Nat × List Nat)) (pI : Nat → Nat → Option Instr) (mY : Nat → MethodName) (mC : Nat → ByteArray) (mL : Nat → Nat) (mR : Nat → Option FieldType) (fld : Nat → Nat → Option (Nat × Nat × Nat)) (kI : Nat → Nat → Option Int32) (kL : Nat → Nat → Option Int64) (gst : Nat → Nat → Option zV) (ldS fldS : Nat → Nat → Option Nat) (acp : Nat → Nat → Bool) (cal : Nat → Nat → Option (Nat × Nat × Nat)) (cI cZ cQ cG : ClassId) (dC : Nat → ClassId) (dI : Nat → Nat → Nat) (ad : Nat → Nat) (N : Nat) (ALL : List Cond) (gl : List (String × String × String × zV)) (sl : List (String × Nat × String × Nat)) (n : Nat) : Prop :=
  ∀ (d mid pc : Nat) (loc : zL) (stk : List zV) (h : zH) (r : Option zV) (h' : zH), zrun tab pI mL mR fld kI kL gst ldS fldS acp cal n d mid pc loc stk h = some (r, h') →
  ∀ {p : Program} {e : Env} {R : Room} {s : State} {m : MethodId} {args : Array Value} {below : List Frame} {meth : Method} {c : Code} {H : Heap} {locs : List Loc} {ls : Array Slot}, p.tables.exec = Jvm.exec → c.code = mC mid → c.maxLocals = mL mid → meth.sig.returnType = mR mid → (∀ w ∈ ALL, w.before args s = true) → s.vm.findClass (mY mid).cls = some m.cls → va_K (dC, dI) vwCl (zTy cI cZ cQ cG) s → zTT tab gl sl ad (zA ad N s.heap.size) s s.heap → meth.locks = false → d + 1 ≤ R.frames ∧ 40 * d + 200 ≤ R.locals →
    lv_has ls (mL mid) (zc ad loc) → va_P (dC, dI) vwCl (zW tab cI cZ cQ cG ad N h) H → va_S (zA ad N s.heap.size) s.heap H locs →
    W p l e R s m args below meth c H locs 0 0 (MQ below (zQ tab cI cZ cQ cG dC dI ad N (zA ad N s.heap.size) (fun r2 h2 => r2 = r ∧ h2 = h')) args s 0 0 (zA ad N s.heap.size)) (F0 m pc ls (stk.map (zv ad)))
theorem zMet_of {n : Nat} (hW : zWn l tab pI mY mC mL mR fld kI kL gst ldS fldS acp cal cI cZ cQ cG dC dI ad N ALL gl sl n) {d mid : Nat} {av : List zV} {h : zH} {r : Option zV} {h' : zH} (e : zrun tab pI mL mR fld kI kL gst ldS fldS acp cal n d mid 0 (zent 0 av) [] h = some (r, h')) (hpl : plainName (mY mid).cls = true) (hsum : (av.map zcat).sum ≤ mL mid) (sz : Nat) :
    Met l (mY mid) (zwsM mY mC mL mR ALL mid) (zrm d) (va_Pc (av.map (zv ad)) (zPreM tab gl sl cI cZ cQ cG dC dI ad N sz h)) (zQ tab cI cZ cQ cG dC dI ad N (zA ad N sz) (fun r2 h2 => r2 = r ∧ h2 = h')) 0 0 (zA ad N sz) := by
  refine Met.ofW (cc := mC mid) (maxL := mL mid) (ret := mR mid) hpl rfl ?_
  intro p e9 s m args below meth c s₁ B hml hv
  obtain ⟨rfl, hsz, hP, hK, hT⟩ := hv
  subst hsz
  have hts := atoms_spec (ws := zwsM mY mC mL mR ALL mid) B.pre
  have hl := lv_entry (av.map (zv ad)) (n := mL mid) (by rw [zlgsl]; exact hsum)
  rw [lg_entry_eq]
  generalize (lg_sl (av.map (zv ad)) ++ List.replicate (mL mid - (lg_sl (av.map (zv ad))).length) Slot.unset).toArray = ls at hl ⊢
  rw [zent_c] at hl
  exact hW d mid 0 (zent 0 av) [] h r h' e B.exec B.bytes hml B.returns (fun w hw => hts w (List.mem_cons_of_mem _ hw)) (findClass_of_methodNamed B.named) hK hT B.notSynchronized ⟨Nat.le_refl _, Nat.le_refl _⟩ hl hP va_S.rf
theorem zgood {big : List Cond} {y : MethodName} {cd : ByteArray} {mx : Nat} {rt : Option FieldType} (hALL : ∀ w ∈ big, goodWord w = true) (hc : Cond.code y cd mx rt ∈ big) (pre : List Cond) (hp : ∀ w ∈ pre, w ∈ big) : GoodIn big (pre ++ (Cond.code y cd mx rt :: big)) := by
  intro w hw
  have hm : w ∈ big := by
    rcases List.mem_append.mp hw with h | h
    · exact hp w h
    · rcases List.mem_cons.mp h with h | h
      · rw [h]; exact hc
      · exact h
  exact ⟨hm, good_of_word (hALL w hm)⟩
theorem zend_el {ret : Option FieldType} {i : Instr} {stk : List zV} {r : Option zV} (e : zend ret i stk = some r) : (∃ x, i = .ireturn ∧ stk = [.inl x] ∧ ret = some .int ∧ r = some (.inl x)) ∨ (∃ x, i = .ireturn ∧ stk = [.inl x] ∧ ret = some .boolean ∧ (x = 0 ∨ x = 1) ∧ r = some (.inl x)) ∨ (∃ x, i = .ireturn ∧ stk = [.inl x] ∧ ret = some .byte ∧ x = 0 ∧ r = some (.inl x)) ∨ (∃ x, i = .lreturn ∧ stk = [.inr (.inl x)] ∧ ret = some .long ∧ r = some (.inr (.inl x))) ∨ (i = .return_ ∧ stk = [] ∧ ret = none ∧ r = none) := by
  unfold zend at e
  split at e
  · exact Or.inl ⟨_, rfl, rfl, rfl, (Option.some.inj e).symm⟩
  · split at e
    · exact Or.inr (Or.inl ⟨_, rfl, rfl, rfl, by assumption, (Option.some.inj e).symm⟩)
    · cases e
  · split at e
    · exact Or.inr (Or.inr (Or.inl ⟨_, rfl, rfl, rfl, by assumption, (Option.some.inj e).symm⟩))
    · cases e
  · exact Or.inr (Or.inr (Or.inr (Or.inl ⟨_, rfl, rfl, rfl, (Option.some.inj e).symm⟩)))
  · exact Or.inr (Or.inr (Or.inr (Or.inr ⟨rfl, rfl, rfl, (Option.some.inj e).symm⟩)))
  · cases e
set_option maxHeartbeats 4000000 in
theorem zWn_all (hI : zOkI pI mC mL) (hL : zOkL mY fld kI kL gst ldS fldS acp ALL gl sl) (hC : zOkC mY mC mL mR cal ALL) (hALL : ∀ w ∈ ALL, goodWord w = true) (hN : ∀ k, N ≤ k → ∃ t n r, 4 ≤ t ∧ tab k = .inr (t, n, r)) (hlong : ∀ (k ci : Nat) (fk : List Nat) (fi j : Nat), tab k = .inl (ci, fk) → fk[fi]? = some 1 → fk[j]? = some 1 → j = fi) (hinj : zInj ad N) (h99 : ∀ k fk, tab k ≠ .inl (99, fk)) (hnat : 8 + (nativeFrameWords "java/lang/System" "arraycopy" 5 + 11) ≤ 200) : ∀ n : Nat, zWn l tab pI mY mC mL mR fld kI kL gst ldS fldS acp cal cI cZ cQ cG dC dI ad N ALL gl sl n := by
  intro n
  induction n with
  | zero => intro d mid pc loc stk h r h' e; cases e
  | succ n ih =>
    intro d mid pc loc stk h r h' e p e9 R s m args below meth c H locs ls hx hb hml hr hts hown hK hT hlocks hR hl hP hS
    have hD : ∀ h2 : zH, va_D (zA ad N s.heap.size) (zW tab cI cZ cQ cG ad N h2) := fun h2 => zD_of hinj (fun id hid => Or.inl ⟨id, hid, rfl⟩)
    obtain ⟨o1, o2, o3, o4, o5, o6, o7⟩ := hL mid
    unfold zrun at e
    cases hi : pI mid pc with
    | none => rw [hi] at e; cases e
    | some i =>
      obtain ⟨hok, ln, hdec, hln⟩ := hI mid pc i hi
      simp only [hi] at e
      cases hc : zcl tab mL cal mid i stk with
      | some z =>
        obtain ⟨callee, av, rest⟩ := z
        simp only [hc] at e
        cases d with
        | zero => cases e
        | succ d' =>
          simp only at e
          cases hr1 : zrun tab pI mL mR fld kI kL gst ldS fldS acp cal n d' callee 0 (zent 0 av) [] h with
          | none => rw [hr1] at e; cases e
          | some z =>
            obtain ⟨r1, h1⟩ := z
            rw [hr1] at e
            simp only at e
            have hfree : ∀ q, zA ad N H.size q → zA ad N s.heap.size q := zA_mono hS.1
            have fin : ∀ (r2 : Option zV) (h2 : zH) (H1 : Heap) (locs1 : List Loc), (r2 = r1 ∧ h2 = h1) → va_P (dC, dI) vwCl (zW tab cI cZ cQ cG ad N h2) H1 → va_S (zA ad N s.heap.size) s.heap H1 locs1 → W p l e9 R s m args below meth c H1 locs1 0 0 (MQ below (zQ tab cI cZ cQ cG dC dI ad N (zA ad N s.heap.size) (fun r2 h2 => r2 = r ∧ h2 = h')) args s 0 0 (zA ad N s.heap.size)) (F0 m (pc + 3) ls ((r2.map (zv ad)).toList ++ rest.map (zv ad))) := by
              rintro r2 h2 H1 locs1 ⟨rfl, rfl⟩ hP1 hS1
              have k9 := ih (d' + 1) mid (pc + 3) loc (r2.toList ++ rest) h2 r h' e (e := e9) (below := below) hx hb hml hr hts hown hK hT hlocks hR hl hP1 hS1
              have es : (r2.toList ++ rest).map (zv ad) = (r2.map (zv ad)).toList ++ rest.map (zv ad) := by
                rw [List.map_append]
                cases r2 <;> rfl
              rw [es] at k9
              exact k9
            have hpreS : ∀ U : State, U.heap = H → s.WarmedH U.vm → va_Pc (av.map (zv ad)) (zPreM tab gl sl cI cZ cQ cG dC dI ad N H.size h) (av.map (zv ad)).toArray U := fun U hU hWm => ⟨rfl, by rw [hU], by rw [hU]; exact hP, va_K.moved hWm.alike hK, hT.call hS hfree hU hWm⟩
            have hroom : ∀ mx : Nat, mx ≤ 21 → (zrm d').frames + 1 ≤ R.frames ∧ 8 + (mx + 11) + (zrm d').locals ≤ R.locals := fun mx hmx => by
              obtain ⟨a1, a2⟩ := hR
              refine ⟨a1, ?_⟩
              show 8 + (mx + 11) + (40 * d' + 200) ≤ _
              omega
            cases i
            case invokevirtual idx =>
              simp only [zcl] at hc
              cases hcal : cal mid idx with
              | none => rw [hcal] at hc; cases hc
              | some z =>
                obtain ⟨ce, na, kc⟩ := z
                simp only [hcal] at hc
                split at hc
                case isFalse => cases hc
                case isTrue hg =>
                  cases hc
                  simp only [Bool.and_eq_true, decide_eq_true_eq] at hg
                  obtain ⟨⟨⟨⟨g1, g2⟩, g3⟩, g4⟩, g5⟩ := hg
                  obtain ⟨w1, w2, w3, w4, w5, w6, w7, -, w9⟩ := hC mid idx callee na kc hcal
                  obtain ⟨v0, v1, v2, v3, v4⟩ := w9 g1
                  have hM := zMet_of ih hr1 w2 g4 H.size
                  have hdec : decode (mC mid) pc = .ok (.invokevirtual idx, 3) := by
                    rcases hln with q | q
                    · cases q
                    · rw [q] at hdec; exact hdec
                  match hav : (stk.take na).reverse, g5 with
                  | .inr (.inr k) :: as, g5 =>
                    have hstk : stk.map (zv ad) = (as.map (zv ad)).reverse ++ .ref (ad k) :: (stk.drop na).map (zv ad) := by
                      have e1 : stk.take na = (.inr (.inr k) :: as : List zV).reverse := by rw [← hav, List.reverse_reverse]
                      conv => lhs; rw [← List.take_append_drop na stk, e1]
                      rw [List.map_append, List.map_reverse, List.map_cons, List.reverse_cons, List.append_assoc]
                      rfl
                    have hlen : (as.map (zv ad)).length = na - 1 := by
                      have := congrArg List.length hav
                      rw [List.length_reverse, List.length_take, List.length_cons] at this
                      rw [List.length_map]
                      omega
                    rw [hav] at hM hpreS
                    have hrecv : ∃ cell : Cell, H[ad k]? = some cell ∧ cell.vm.isStatics = false ∧ s.vm.findClass (mY callee).cls = some cell.cls := by
                      cases ht : tab k with
                      | inl z =>
                        obtain ⟨ci, fk⟩ := z
                        simp only [zrcv, ht, beq_iff_eq] at g5
                        subst g5
                        have hk : k < N := by
                          rcases Nat.lt_or_ge k N with q | q
                          · exact q
                          · obtain ⟨t, n2, r2, -, e3⟩ := hN k q
                            rw [ht] at e3
                            cases e3
                        rcases v4 with ⟨rfl, -⟩ | ⟨-, q, hq, hq1⟩
                        · exact absurd ht (h99 k fk)
                        · have := va_recv hK hP hq (show (zW tab cI cZ cQ cG ad N h)[k]? = some (ad k, .inr (ci, zfs ad h k fk)) by rw [zW_at hk, zce_obj ht])
                          rw [hq1] at this
                          exact this
                      | inr z =>
                        obtain ⟨t, n2, r2⟩ := z
                        simp only [zrcv, ht, Bool.and_eq_true, beq_iff_eq] at g5
                        obtain ⟨rfl, rfl⟩ := g5
                        rcases v4 with ⟨-, hs⟩ | ⟨q, -⟩
                        · obtain ⟨cell, c1, c2, c3, -⟩ := (hT.2.2.1 k n2 r2 ht).1.kept hS.2.1
                          rw [hs]
                          exact ⟨cell, c1, c2, c3⟩
                        · omega
                    have hrun := va_runV (l := l) (e := e9) (R := R) (below := below) (meth := meth) (locs := locs) (cells := 0) (slots := 0) (nL := mL mid) (As := as.map (zv ad)) (rest := (stk.drop na).map (zv ad)) (g := F0 m pc ls (stk.map (zv ad))) ⟨hx, hb, hml, hown, hts⟩ hM (cwV (na - 1) hts (zgood hALL w1 [.methodLink (mY mid).cls idx (mY callee), .instanceMethod (mY callee), .selects (mY callee).cls (mY callee) (mY callee), .initialized (mY callee).cls] (by
                        intro w hw
                        simp only [List.mem_cons, List.not_mem_nil, or_false] at hw
                        rcases hw with rfl | rfl | rfl | rfl
                        · exact w4
                        · exact v1
                        · exact v2
                        · exact w5)) rfl rfl rfl ⟨rfl, w6, w7, v3⟩ (hroom _ w3)) ⟨zBlindM, hrecv, hpreS⟩ rfl hlen hl.1 hstk (lv_room (by rw [zcat_map]; exact g3)) hdec ⟨Nat.zero_le _, Nat.zero_le _⟩
                    exact z_call hrun hS hfree hfree fin
            case invokestatic idx =>
              simp only [zcl] at hc
              cases hcal : cal mid idx with
              | none => rw [hcal] at hc; cases hc
              | some z =>
                obtain ⟨ce, na, kc⟩ := z
                simp only [hcal] at hc
                split at hc
                case isFalse => cases hc
                case isTrue hg =>
                  cases hc
                  simp only [Bool.and_eq_true, decide_eq_true_eq] at hg
                  obtain ⟨⟨⟨g1, g2⟩, g3⟩, g4⟩ := hg
                  obtain ⟨w1, w2, w3, w4, w5, w6, w7, w8, -⟩ := hC mid idx callee na kc hcal
                  obtain ⟨v1, v2⟩ := w8 g1
                  have hM := zMet_of ih hr1 w2 g4 H.size
                  have hdec : decode (mC mid) pc = .ok (.invokestatic idx, 3) := by
                    rcases hln with q | q
                    · cases q
                    · rw [q] at hdec; exact hdec
                  have hstk : stk.map (zv ad) = (((stk.take na).reverse).map (zv ad)).reverse ++ (stk.drop na).map (zv ad) := by
                    rw [← List.map_reverse, List.reverse_reverse, ← List.map_append, List.take_append_drop]
                  have hlen : (((stk.take na).reverse).map (zv ad)).length = na := by
                    rw [List.length_map, List.length_reverse, List.length_take]
                    omega
                  have hrun := va_runS (l := l) (e := e9) (R := R) (below := below) (meth := meth) (locs := locs) (cells := 0) (slots := 0) (nL := mL mid) (As := ((stk.take na).reverse).map (zv ad)) (rest := (stk.drop na).map (zv ad)) (g := F0 m pc ls (stk.map (zv ad))) ⟨hx, hb, hml, hown, hts⟩ hM (va_cwS na hts (zgood hALL w1 [.methodLink (mY mid).cls idx (mY callee), .static (mY callee), .initialized (mY callee).cls] (by
                      intro w hw
                      simp only [List.mem_cons, List.not_mem_nil, or_false] at hw
                      rcases hw with rfl | rfl | rfl
                      · exact w4
                      · exact v1
                      · exact w5)) rfl rfl rfl ⟨w6, w7, v2⟩ (hroom _ w3)) ⟨zBlindM, hpreS⟩ rfl hlen hl.1 hstk (lv_room (by rw [zcat_map]; exact g3)) hdec ⟨Nat.zero_le _, Nat.zero_le _⟩
                  exact z_call hrun hS hfree hfree fin
            all_goals cases hc
      | none =>
        simp only [hc] at e
        cases hz : zend (mR mid) i stk with
        | some r1 =>
          rw [hz] at e
          cases e
          have hdec1 : zlen i = 1 → zSwi i = false → decode (mC mid) pc = .ok (i, 1) := fun q1 q2 => by
            rcases hln with q | q
            · rw [q2] at q; cases q
            · rw [q, q1] at hdec; exact hdec
          rcases zend_el hz with ⟨x, rfl, rfl, hret, rfl⟩ | ⟨x, rfl, rfl, hret, hb01, rfl⟩ | ⟨x, rfl, rfl, hret, hb0, rfl⟩ | ⟨x, rfl, rfl, hret, rfl⟩ | ⟨rfl, rfl, hret, rfl⟩
          · exact W.iret (v := x) hx hb (hr.trans hret) (fun t ht _ => ⟨⟨_, _, rfl, ⟨rfl, rfl⟩, by rw [ht]; exact hP⟩, hS.F ht⟩) hS.2.2 (hdec1 rfl rfl) hlocks
          · exact W.zret (v := x) (ty := .boolean) hx hb (hr.trans hret) (by rcases hb01 with rfl | rfl <;> rfl) (fun t ht _ => ⟨⟨_, _, rfl, ⟨rfl, rfl⟩, by rw [ht]; exact hP⟩, hS.F ht⟩) hS.2.2 (hdec1 rfl rfl) hlocks
          · exact W.zret (v := x) (ty := .byte) hx hb (hr.trans hret) (by rw [hb0]; rfl) (fun t ht _ => ⟨⟨_, _, rfl, ⟨rfl, rfl⟩, by rw [ht]; exact hP⟩, hS.F ht⟩) hS.2.2 (hdec1 rfl rfl) hlocks
          · exact W.lret (v := x) hx hb (hr.trans hret) (fun t ht _ => ⟨⟨_, _, rfl, ⟨rfl, rfl⟩, by rw [ht]; exact hP⟩, hS.F ht⟩) hS.2.2 (hdec1 rfl rfl) hlocks
          · exact W.vret hx hb (hr.trans hret) (fun t ht _ => ⟨⟨_, _, rfl, ⟨rfl, rfl⟩, by rw [ht]; exact hP⟩, hS.F ht⟩) hS.2.2 (hdec1 rfl rfl) hlocks
        | none =>
          rw [hz] at e
          simp only at e
          cases hs : zst tab fld kI kL gst ldS fldS acp mid i pc loc stk h with
          | none => rw [hs] at e; cases e
          | some q =>
            rw [hs] at e
            simp only at e
            have kk : ∀ (pc' : Nat) (loc' : zL) (stk' : List zV) (h2 : zH) (H' : Heap) (locs' : List Loc) (ls' : Array Slot), lv_has ls' (mL mid) (zc ad loc') → va_P (dC, dI) vwCl (zW tab cI cZ cQ cG ad N h2) H' → va_S (zA ad N s.heap.size) s.heap H' locs' → (pc' = q.1 ∧ loc' = q.2.1 ∧ stk' = q.2.2.1 ∧ h2 = q.2.2.2) → W p l e9 R s m args below meth c H' locs' 0 0 (MQ below (zQ tab cI cZ cQ cG dC dI ad N (zA ad N s.heap.size) (fun r2 h2 => r2 = r ∧ h2 = h')) args s 0 0 (zA ad N s.heap.size)) (F0 m pc' ls' (stk'.map (zv ad))) := by
              rintro pc' loc' stk' h2 H' locs' ls' hl' hP' hS' ⟨rfl, rfl, rfl, rfl⟩
              exact ih d mid _ _ _ _ r h' e hx hb hml hr hts hown hK hT hlocks hR hl' hP' hS'
            have hlen : zSwi i = false → decode (mC mid) pc = .ok (i, zlen i) := fun hsw => by
              rcases hln with q9 | q9
              · rw [hsw] at q9; cases q9
              · rw [q9] at hdec; exact hdec
            rcases zst_or hs with f | f | f | f | f
            · exact zst1_sound hx hb (hlen (zf1_ns f)) hok (zf1_h f) hl (zf1_st f (fun a b c d => a = q.1 ∧ b = q.2.1 ∧ c = q.2.2.1 ∧ d = q.2.2.2) ⟨rfl, rfl, rfl, rfl⟩) (fun pc' loc' stk' ls' hl' hk => kk pc' loc' stk' h H locs ls' hl' hP hS hk)
            · exact zst2_sound hx hb hts hown hK o1 hN hlong (hlen (zf2_ns f)) hl hP (hD h) hS (zf2_st f (fun a b c d => a = q.1 ∧ b = q.2.1 ∧ c = q.2.2.1 ∧ d = q.2.2.2) ⟨rfl, rfl, rfl, rfl⟩) (fun pc' loc' stk' h2 H' locs' ls' hl' hP' _ hS' hk => kk pc' loc' stk' h2 H' locs' ls' hl' hP' hS' hk)
            · exact zst4_sound hx hb hdec (by have k9 := zf4_len f hln; clear kk; cases i <;> exact k9) hl (zf4_st f (fun a b c d => a = q.1 ∧ b = q.2.1 ∧ c = q.2.2.1 ∧ d = q.2.2.2) ⟨rfl, rfl, rfl, rfl⟩) (fun pc' loc' stk' ls' hl' hk => kk pc' loc' stk' h H locs ls' hl' hP hS hk)
            · exact zst5_sound hx hb hts hown o2 o3 (hlen (zf5_ns f)) hl (zf5_st f (fun a b c d => a = q.1 ∧ b = q.2.1 ∧ c = q.2.2.1 ∧ d = q.2.2.2) ⟨rfl, rfl, rfl, rfl⟩) (fun pc' loc' stk' ls' hl' hk => kk pc' loc' stk' h H locs ls' hl' hP hS hk)
            · exact zf6_sound hx hb hml hts hown hK hN hT o4 o5 o6 o7 ⟨by omega, by omega⟩ (hlen (zf6_ns f)) hl hP (hD h) hS f (fun H' locs' ls' hl' hP' _ hS' => kk _ _ _ _ H' locs' ls' hl' hP' hS' ⟨rfl, rfl, rfl, rfl⟩)
end ZSND2
end
section
/-! linear expressions over signs, their bounds, what follows from them -/
abbrev sE : Type := Int × List (Nat × Int)
abbrev sB : Type := List (Int × Int)
def sT (ρ : Nat → Int) : List (Nat × Int) → Int
  | [] => 0
  | p :: l => p.2 * ρ p.1 + sT ρ l
def sv (ρ : Nat → Int) (e : sE) : Int := e.1 + sT ρ e.2
def sins (s : Nat) (q : Int) : List (Nat × Int) → List (Nat × Int)
  | [] => [(s, q)]
  | p :: l => if s = p.1 then (if p.2 + q = 0 then l else (p.1, p.2 + q) :: l) else p :: sins s q l
theorem sins_v (ρ : Nat → Int) (s : Nat) (q : Int) : ∀ l, sT ρ (sins s q l) = q * ρ s + sT ρ l
  | [] => rfl
  | p :: l => by
    unfold sins
    by_cases h : s = p.1
    · rw [if_pos h]
      by_cases h2 : p.2 + q = 0
      · rw [if_pos h2]
        have e : q = -p.2 := by omega
        show sT ρ l = q * ρ s + (p.2 * ρ p.1 + sT ρ l)
        rw [h, e, Int.neg_mul]
        omega
      · rw [if_neg h2]
        show (p.2 + q) * ρ p.1 + sT ρ l = q * ρ s + (p.2 * ρ p.1 + sT ρ l)
        rw [h, Int.add_mul]
        omega
    · rw [if_neg h]
      show p.2 * ρ p.1 + sT ρ (sins s q l) = q * ρ s + (p.2 * ρ p.1 + sT ρ l)
      rw [sins_v ρ s q l]
      omega
def saddl (k : Int) : List (Nat × Int) → List (Nat × Int) → List (Nat × Int)
  | a, [] => a
  | a, p :: l => saddl k (sins p.1 (k * p.2) a) l
theorem saddl_v (ρ : Nat → Int) (k : Int) : ∀ b a, sT ρ (saddl k a b) = sT ρ a + k * sT ρ b
  | [], a => by show sT ρ a = sT ρ a + k * 0; omega
  | p :: l, a => by
    show sT ρ (saddl k (sins p.1 (k * p.2) a) l) = sT ρ a + k * (p.2 * ρ p.1 + sT ρ l)
    rw [saddl_v ρ k l, sins_v, Int.mul_add, Int.mul_assoc]
    omega
def sadd (a b : sE) (k : Int) : sE := (a.1 + k * b.1, saddl k a.2 b.2)
theorem sadd_v (ρ : Nat → Int) (a b : sE) (k : Int) : sv ρ (sadd a b k) = sv ρ a + k * sv ρ b := by
  show a.1 + k * b.1 + sT ρ (saddl k a.2 b.2) = a.1 + sT ρ a.2 + k * (b.1 + sT ρ b.2)
  rw [saddl_v, Int.mul_add]
  omega
def sK (c : Int) : sE := (c, [])
def sY (s : Nat) : sE := (0, [(s, 1)])
def sac (e : sE) (c : Int) : sE := (e.1 + c, e.2)
def sng (e : sE) : sE := sadd (sK 0) e (-1)
theorem sK_v (ρ : Nat → Int) (c : Int) : sv ρ (sK c) = c := by show c + 0 = c; omega
theorem sY_v (ρ : Nat → Int) (s : Nat) : sv ρ (sY s) = ρ s := by show 0 + (1 * ρ s + 0) = ρ s; omega
theorem sac_v (ρ : Nat → Int) (e : sE) (c : Int) : sv ρ (sac e c) = sv ρ e + c := by show e.1 + c + sT ρ e.2 = e.1 + sT ρ e.2 + c; omega
theorem sng_v (ρ : Nat → Int) (e : sE) : sv ρ (sng e) = - sv ρ e := by
  unfold sng
  rw [sadd_v, sK_v]
  omega
/-- bounds hold -/
def sOk (B : sB) (ρ : Nat → Int) : Prop := ∀ j b, B[j]? = some b → b.1 ≤ ρ j ∧ ρ j ≤ b.2
def sup (B : sB) : List (Nat × Int) → Option Int
  | [] => some 0
  | p :: l => match B[p.1]?, sup B l with
    | some b, some u => some ((if 0 ≤ p.2 then p.2 * b.2 else p.2 * b.1) + u)
    | _, _ => none
def slw (B : sB) : List (Nat × Int) → Option Int
  | [] => some 0
  | p :: l => match B[p.1]?, slw B l with
    | some b, some u => some ((if 0 ≤ p.2 then p.2 * b.1 else p.2 * b.2) + u)
    | _, _ => none
theorem sup_le {B : sB} {ρ : Nat → Int} (hB : sOk B ρ) : ∀ {l : List (Nat × Int)} {u : Int}, sup B l = some u → sT ρ l ≤ u
  | [], u, e => by cases e; exact Int.le_refl 0
  | p :: l, u, e => by
    unfold sup at e
    cases hb : B[p.1]? with
    | none => rw [hb] at e; cases e
    | some b =>
      cases hs : sup B l with
      | none => rw [hb, hs] at e; cases e
      | some v =>
        rw [hb, hs] at e
        have e := Option.some.inj e
        have ih := sup_le hB hs
        obtain ⟨h1, h2⟩ := hB _ _ hb
        show p.2 * ρ p.1 + sT ρ l ≤ u
        by_cases hq : 0 ≤ p.2
        · rw [if_pos hq] at e
          have := Int.mul_le_mul_of_nonneg_left h2 hq
          omega
        · rw [if_neg hq] at e
          have := Int.mul_le_mul_of_nonpos_left (a := p.2) (by omega) h1
          omega
theorem slw_le {B : sB} {ρ : Nat → Int} (hB : sOk B ρ) : ∀ {l : List (Nat × Int)} {u : Int}, slw B l = some u → u ≤ sT ρ l
  | [], u, e => by cases e; exact Int.le_refl 0
  | p :: l, u, e => by
    unfold slw at e
    cases hb : B[p.1]? with
    | none => rw [hb] at e; cases e
    | some b =>
      cases hs : slw B l with
      | none => rw [hb, hs] at e; cases e
      | some v =>
        rw [hb, hs] at e
        have e := Option.some.inj e
        have ih := slw_le hB hs
        obtain ⟨h1, h2⟩ := hB _ _ hb
        show u ≤ p.2 * ρ p.1 + sT ρ l
        by_cases hq : 0 ≤ p.2
        · rw [if_pos hq] at e
          have := Int.mul_le_mul_of_nonneg_left h1 hq
          omega
        · rw [if_neg hq] at e
          have := Int.mul_le_mul_of_nonpos_left (a := p.2) (by omega) h2
          omega
/-- an expression's bounds -/
def sUb (B : sB) (e : sE) : Option Int := (sup B e.2).map (fun u => e.1 + u)
def sLb (B : sB) (e : sE) : Option Int := (slw B e.2).map (fun u => e.1 + u)
theorem sUb_le {B : sB} {ρ : Nat → Int} (hB : sOk B ρ) {e : sE} {u : Int} (h : sUb B e = some u) : sv ρ e ≤ u := by
  unfold sUb at h
  cases hs : sup B e.2 with
  | none => rw [hs] at h; cases h
  | some v =>
    rw [hs] at h
    have h := Option.some.inj h
    have := sup_le hB hs
    show e.1 + sT ρ e.2 ≤ u
    have : e.1 + v = u := h
    omega
theorem sLb_le {B : sB} {ρ : Nat → Int} (hB : sOk B ρ) {e : sE} {u : Int} (h : sLb B e = some u) : u ≤ sv ρ e := by
  unfold sLb at h
  cases hs : slw B e.2 with
  | none => rw [hs] at h; cases h
  | some v =>
    rw [hs] at h
    have h := Option.some.inj h
    have := slw_le hB hs
    show u ≤ e.1 + sT ρ e.2
    have : e.1 + v = u := h
    omega
/-- c is at most 0 by the bounds alone -/
def sl0 (B : sB) (c : sE) : Bool := match sup B c.2 with
  | some u => decide (c.1 + u ≤ 0)
  | none => false
theorem sl0_le {B : sB} {ρ : Nat → Int} (hB : sOk B ρ) {c : sE} (h : sl0 B c = true) : sv ρ c ≤ 0 := by
  unfold sl0 at h
  cases hs : sup B c.2 with
  | none => rw [hs] at h; cases h
  | some v =>
    rw [hs] at h
    have h := of_decide_eq_true h
    have := sup_le hB hs
    show c.1 + sT ρ c.2 ≤ 0
    omega
def scf (s : Nat) : List (Nat × Int) → Int
  | [] => 0
  | p :: l => if p.1 = s then p.2 else scf s l
/-- how often a may be taken from c -/
def slam (c : List (Nat × Int)) : List (Nat × Int) → Nat
  | [] => 0
  | p :: l => if (if 0 < p.2 then decide (p.2 ≤ scf p.1 c) else (decide (p.2 < 0) && decide (scf p.1 c ≤ p.2))) = true then (scf p.1 c / p.2).toNat else slam c l
/-- c less a, as often as it goes -/
def stk1 (c a : sE) : sE := sadd c a (-(slam c.2 a.2 : Int))
/-- c is at most 0 by bounds and two of the constraints at most -/
def sp0 (B : sB) (C : List sE) (c : sE) : Bool := sl0 B c || (C.any (fun a => sl0 B (sadd c a (-1)) || sl0 B (stk1 c a)) || C.any (fun a => C.any (fun b => sl0 B (sadd (sadd c a (-1)) b (-1)) || sl0 B (stk1 (stk1 c a) b))))
theorem stk1_v {ρ : Nat → Int} {c a : sE} (ha : sv ρ a ≤ 0) : sv ρ c ≤ sv ρ (stk1 c a) := by
  unfold stk1
  rw [sadd_v]
  have : (slam c.2 a.2 : Int) * sv ρ a ≤ 0 := Int.mul_nonpos_of_nonneg_of_nonpos (by omega) ha
  rw [Int.neg_mul]
  omega
theorem sp0_le {B : sB} {C : List sE} {ρ : Nat → Int} (hB : sOk B ρ) (hC : ∀ c ∈ C, sv ρ c ≤ 0) {c : sE} (h : sp0 B C c = true) : sv ρ c ≤ 0 := by
  unfold sp0 at h
  rcases Bool.or_eq_true_iff.mp h with h | h
  · exact sl0_le hB h
  · rcases Bool.or_eq_true_iff.mp h with h | h
    · obtain ⟨a, ha, h⟩ := List.any_eq_true.mp h
      rcases Bool.or_eq_true_iff.mp h with h | h
      · have h1 := sl0_le hB h
        have h2 := hC a ha
        rw [sadd_v] at h1
        omega
      · exact Int.le_trans (stk1_v (hC a ha)) (sl0_le hB h)
    · obtain ⟨a, ha, h⟩ := List.any_eq_true.mp h
      obtain ⟨b, hb, h⟩ := List.any_eq_true.mp h
      rcases Bool.or_eq_true_iff.mp h with h | h
      · have h1 := sl0_le hB h
        have h2 := hC a ha
        have h3 := hC b hb
        rw [sadd_v, sadd_v] at h1
        omega
      · exact Int.le_trans (stk1_v (hC a ha)) (Int.le_trans (stk1_v (hC b hb)) (sl0_le hB h))
/-- e is 0 by the bounds and one constraint at most -/
def sq1 (B : sB) (C : List sE) (c : sE) : Bool := sl0 B c || C.any (fun a => sl0 B (sadd c a (-1)))
def sq0 (B : sB) (C : List sE) (e : sE) : Bool := if e.2.isEmpty = true then decide (e.1 = 0) else (sq1 B C e && sq1 B C (sng e))
theorem sq1_le {B : sB} {C : List sE} {ρ : Nat → Int} (hB : sOk B ρ) (hC : ∀ c ∈ C, sv ρ c ≤ 0) {c : sE} (h : sq1 B C c = true) : sv ρ c ≤ 0 := by
  unfold sq1 at h
  rcases Bool.or_eq_true_iff.mp h with h | h
  · exact sl0_le hB h
  · obtain ⟨a, ha, h⟩ := List.any_eq_true.mp h
    have h1 := sl0_le hB h
    have h2 := hC a ha
    rw [sadd_v] at h1
    omega
theorem sq0_v {B : sB} {C : List sE} {ρ : Nat → Int} (hB : sOk B ρ) (hC : ∀ c ∈ C, sv ρ c ≤ 0) {e : sE} (h : sq0 B C e = true) : sv ρ e = 0 := by
  unfold sq0 at h
  split at h
  case isTrue q =>
    rw [List.isEmpty_iff] at q
    have h := of_decide_eq_true h
    show e.1 + sT ρ e.2 = 0
    rw [q, h]
    rfl
  case isFalse =>
    rw [Bool.and_eq_true] at h
    have h1 := sq1_le hB hC h.1
    have h2 := sq1_le hB hC h.2
    rw [sng_v] at h2
    omega
/-- one sign's bounds by c at most 0; none: there is no such value -/
def sref1 (B : sB) (c : sE) (p : Nat × Int) : Option sB := match slw B (sins p.1 (-p.2) c.2), B[p.1]? with
  | some r, some b =>
    if 0 < p.2 then (if b.1 ≤ min b.2 ((-(c.1 + r)) / p.2) then some (B.set p.1 (b.1, min b.2 ((-(c.1 + r)) / p.2))) else none)
    else if p.2 < 0 then (if max b.1 (-((-(c.1 + r)) / (-p.2))) ≤ b.2 then some (B.set p.1 (max b.1 (-((-(c.1 + r)) / (-p.2))), b.2)) else none)
    else some B
  | _, _ => some B
theorem sset_ok {B : sB} {ρ : Nat → Int} (hB : sOk B ρ) {s : Nat} {b : Int × Int} (h : b.1 ≤ ρ s ∧ ρ s ≤ b.2) : sOk (B.set s b) ρ := by
  intro j b2 e
  rw [List.getElem?_set] at e
  by_cases hj : s = j
  · rw [if_pos hj] at e
    split at e
    · cases e; subst hj; exact h
    · cases e
  · rw [if_neg hj] at e
    exact hB j b2 e
theorem sref1_ok {B : sB} {ρ : Nat → Int} (hB : sOk B ρ) {c : sE} (hc : sv ρ c ≤ 0) (p : Nat × Int) : ∃ B', sref1 B c p = some B' ∧ sOk B' ρ ∧ B'.length = B.length := by
  unfold sref1
  cases hr : slw B (sins p.1 (-p.2) c.2) with
  | none => exact ⟨B, rfl, hB, rfl⟩
  | some r =>
    cases hb : B[p.1]? with
    | none => exact ⟨B, rfl, hB, rfl⟩
    | some b =>
      have h1 := slw_le hB hr
      rw [sins_v, Int.neg_mul] at h1
      have h2 : c.1 + sT ρ c.2 ≤ 0 := hc
      obtain ⟨b1, b2⟩ := hB _ _ hb
      by_cases hp : 0 < p.2
      · have h3 : ρ p.1 ≤ (-(c.1 + r)) / p.2 := by
          rw [Int.le_ediv_iff_mul_le hp, Int.mul_comm]
          omega
        have h4 : ρ p.1 ≤ min b.2 ((-(c.1 + r)) / p.2) := Int.le_min.mpr ⟨b2, h3⟩
        simp only [if_pos hp]
        rw [if_pos (Int.le_trans b1 h4)]
        exact ⟨_, rfl, sset_ok hB ⟨b1, h4⟩, List.length_set ..⟩
      · by_cases hn : p.2 < 0
        · have h3 : -(ρ p.1) ≤ (-(c.1 + r)) / (-p.2) := by
            rw [Int.le_ediv_iff_mul_le (by omega), Int.mul_comm, Int.neg_mul_neg]
            omega
          have h4 : max b.1 (-((-(c.1 + r)) / (-p.2))) ≤ ρ p.1 := Int.max_le.mpr ⟨b1, by omega⟩
          simp only [if_neg hp, if_pos hn]
          rw [if_pos (Int.le_trans h4 b2)]
          exact ⟨_, rfl, sset_ok hB ⟨h4, b2⟩, List.length_set ..⟩
        · simp only [if_neg hp, if_neg hn]
          exact ⟨B, rfl, hB, rfl⟩
def srefs (c : sE) : List (Nat × Int) → sB → Option sB
  | [], B => some B
  | p :: l, B => match sref1 B c p with
    | some B' => srefs c l B'
    | none => none
theorem srefs_ok {ρ : Nat → Int} {c : sE} (hc : sv ρ c ≤ 0) : ∀ (l : List (Nat × Int)) {B : sB}, sOk B ρ → ∃ B', srefs c l B = some B' ∧ sOk B' ρ ∧ B'.length = B.length
  | [], B, hB => ⟨B, rfl, hB, rfl⟩
  | p :: l, B, hB => by
    obtain ⟨B1, e1, h1, l1⟩ := sref1_ok hB hc p
    obtain ⟨B2, e2, h2, l2⟩ := srefs_ok hc l h1
    refine ⟨B2, ?_, h2, l2.trans l1⟩
    unfold srefs
    rw [e1]
    exact e2
/-- c at most 0 is assumed; none: it can't be -/
def sasm (B : sB) (C : List sE) (c : sE) : Option (sB × List sE) :=
  if sl0 B c = true then some (B, C)
  else match srefs c c.2 B with
    | none => none
    | some B' => if c.2.length = 0 then none else some (B', if c.2.length ≤ 1 then C else c :: C)
theorem sasm_ok {B : sB} {C : List sE} {ρ : Nat → Int} (hB : sOk B ρ) (hC : ∀ c ∈ C, sv ρ c ≤ 0) {c : sE} (hc : sv ρ c ≤ 0) : ∃ B' C', sasm B C c = some (B', C') ∧ sOk B' ρ ∧ (∀ c ∈ C', sv ρ c ≤ 0) ∧ B'.length = B.length := by
  unfold sasm
  by_cases h0 : sl0 B c = true
  · rw [if_pos h0]
    exact ⟨B, C, rfl, hB, hC, rfl⟩
  · rw [if_neg h0]
    obtain ⟨B1, e1, h1, l1⟩ := srefs_ok hc c.2 hB
    rw [e1]
    have hne : ¬ c.2.length = 0 := fun hz => by
      have hz := List.eq_nil_of_length_eq_zero hz
      apply h0
      unfold sl0
      have h2 : c.1 + sT ρ c.2 ≤ 0 := hc
      rw [hz] at h2 ⊢
      have h3 : c.1 + 0 ≤ 0 := h2
      exact decide_eq_true h3
    simp only [if_neg hne]
    refine ⟨B1, _, rfl, h1, ?_, l1⟩
    split
    · exact hC
    · intro x hx
      rcases List.mem_cons.mp hx with rfl | hx
      · exact hc
      · exact hC x hx
end
section
/-! a state told by linear expressions -/
abbrev sV : Type := sE ⊕ (sE ⊕ Nat)
abbrev sS : Type := List (Nat × sV) × List sV × List (Nat × sE × sE) × sB × List sE × List (Nat × sE)
abbrev sD : Type := List (Nat × Int × Int)
section SYM
variable (reg : Nat → Nat) (gv : Nat → zH → Int) (ρ : Nat → Int)
def sm : zV → sV → Prop
  | .inl x, .inl e => x.toInt = sv ρ e
  | .inr (.inl y), .inr (.inl e) => y.toInt = sv ρ e
  | .inr (.inr k), .inr (.inr r) => reg k = r
  | _, _ => False
def sms : List zV → List sV → Prop
  | [], [] => True
  | v :: l, s :: t => sm reg ρ v s ∧ sms l t
  | _, _ => False
def smm (h : zH) (m : Nat × sE × sE) : Prop := if m.1 < 1000 then (0 ≤ sv ρ m.2.1 ∧ ∀ k, reg k = m.1 → (h.1 k (sv ρ m.2.1).toNat).toInt = sv ρ m.2.2) else gv (m.1 - 1000) h = sv ρ m.2.2
def sMt (ρ0 : Nat → Int) (S : sS) (loc : zL) (stk : List zV) (h : zH) : Prop :=
  (∀ p ∈ S.1, ∃ v, zget loc p.1 = some v ∧ sm reg ρ v p.2) ∧ sms reg ρ stk S.2.1 ∧ (∀ m ∈ S.2.2.1, smm reg gv ρ h m) ∧ sOk S.2.2.2.1 ρ ∧ (∀ c ∈ S.2.2.2.2.1, sv ρ c ≤ 0) ∧ (∀ p ∈ S.2.2.2.2.2, ρ0 p.1 = sv ρ p.2)
end SYM
def swE (n : Nat) (e : sE) : Bool := e.2.all (fun p => decide (p.1 < n))
def swV (n : Nat) : sV → Bool
  | .inl e => swE n e
  | .inr (.inl e) => swE n e
  | .inr (.inr _) => true
def sw (S : sS) : Bool := S.1.all (fun p => swV S.2.2.2.1.length p.2) && (S.2.1.all (swV S.2.2.2.1.length) && (S.2.2.1.all (fun m => swE S.2.2.2.1.length m.2.1 && swE S.2.2.2.1.length m.2.2) && (S.2.2.2.2.1.all (swE S.2.2.2.1.length) && S.2.2.2.2.2.all (fun p => swE S.2.2.2.1.length p.2))))
theorem swE_v {n : Nat} {e : sE} (h : swE n e = true) (ρ : Nat → Int) (x : Int) : sv (fun j => if j = n then x else ρ j) e = sv ρ e := by
  have key : ∀ l : List (Nat × Int), l.all (fun p => decide (p.1 < n)) = true → sT (fun j => if j = n then x else ρ j) l = sT ρ l := by
    intro l
    induction l with
    | nil => intro _; rfl
    | cons p l ih =>
      intro hl
      rw [List.all_cons, Bool.and_eq_true, decide_eq_true_eq] at hl
      show p.2 * (if p.1 = n then x else ρ p.1) + _ = p.2 * ρ p.1 + _
      rw [if_neg (by omega), ih hl.2]
  show e.1 + _ = e.1 + _
  rw [key e.2 h]
theorem swV_m {reg : Nat → Nat} {n : Nat} {s : sV} (h : swV n s = true) {ρ : Nat → Int} (x : Int) {v : zV} (hm : sm reg ρ v s) : sm reg (fun j => if j = n then x else ρ j) v s := by
  match v, s, hm with
  | .inl a, .inl e, hm => show a.toInt = _; rw [swE_v h]; exact hm
  | .inr (.inl a), .inr (.inl e), hm => show a.toInt = _; rw [swE_v h]; exact hm
  | .inr (.inr k), .inr (.inr r), hm => exact hm
theorem sws_m {reg : Nat → Nat} {n : Nat} {ρ : Nat → Int} (x : Int) : ∀ {l : List zV} {t : List sV}, t.all (swV n) = true → sms reg ρ l t → sms reg (fun j => if j = n then x else ρ j) l t
  | [], [], _, _ => trivial
  | v :: l, s :: t, h, hm => by
    rw [List.all_cons, Bool.and_eq_true] at h
    exact ⟨swV_m h.1 x hm.1, sws_m x h.2 hm.2⟩
/-- a fresh sign between lo and hi -/
def sfr (lo hi : Int) (S : sS) (es : List sE) : Option (sE × sS) := if (sw S && es.all (swE S.2.2.2.1.length)) = true then some (sY S.2.2.2.1.length, (S.1, S.2.1, S.2.2.1, S.2.2.2.1 ++ [(lo, hi)], S.2.2.2.2.1, S.2.2.2.2.2)) else none
section SYM2
variable {reg : Nat → Nat} {gv : Nat → zH → Int} {ρ ρ0 : Nat → Int} {S S' : sS} {loc : zL} {stk : List zV} {h : zH}
theorem sfr_ok {lo hi : Int} {es : List sE} {e : sE} (hf : sfr lo hi S es = some (e, S')) (hM : sMt reg gv ρ ρ0 S loc stk h) {x : Int} (h1 : lo ≤ x) (h2 : x ≤ hi) : ∃ ρ', sMt reg gv ρ' ρ0 S' loc stk h ∧ sv ρ' e = x ∧ (∀ c ∈ es, sv ρ' c = sv ρ c) ∧ S'.1 = S.1 ∧ S'.2.1 = S.2.1 ∧ S'.2.2.1 = S.2.2.1 := by
  unfold sfr at hf
  split at hf
  case isFalse => cases hf
  case isTrue hw =>
    cases hf
    unfold sw at hw
    simp only [Bool.and_eq_true, List.all_eq_true] at hw
    obtain ⟨⟨w1, w2, w3, w4, w5⟩, w6⟩ := hw
    obtain ⟨m1, m2, m3, m4, m5, m6⟩ := hM
    refine ⟨fun j => if j = S.2.2.2.1.length then x else ρ j, ⟨?_, ?_, ?_, ?_, ?_, ?_⟩, ?_, ?_, rfl, rfl, rfl⟩
    · intro p hp
      obtain ⟨v, e1, e2⟩ := m1 p hp
      exact ⟨v, e1, swV_m (w1 p hp) x e2⟩
    · exact sws_m x (List.all_eq_true.mpr w2) m2
    · intro m hm
      have q := m3 m hm
      unfold smm at q ⊢
      rw [swE_v (w3 m hm).1, swE_v (w3 m hm).2]
      exact q
    · intro j b hb
      show b.1 ≤ (if j = _ then x else ρ j) ∧ (if j = _ then x else ρ j) ≤ b.2
      by_cases hj : j = S.2.2.2.1.length
      · rw [if_pos hj]
        have hb : (S.2.2.2.1 ++ [(lo, hi)])[j]? = some b := hb
        rw [hj, List.getElem?_append_right (Nat.le_refl _), Nat.sub_self] at hb
        cases hb
        exact ⟨h1, h2⟩
      · rw [if_neg hj]
        have hb : (S.2.2.2.1 ++ [(lo, hi)])[j]? = some b := hb
        by_cases hl : j < S.2.2.2.1.length
        · rw [List.getElem?_append_left hl] at hb
          exact m4 j b hb
        · rw [List.getElem?_eq_none (by rw [List.length_append, List.length_singleton]; omega)] at hb
          cases hb
    · intro c hc
      rw [swE_v (w4 c hc)]
      exact m5 c hc
    · intro p hp
      rw [swE_v (w5 p hp)]
      exact m6 p hp
    · rw [sY_v]
      exact if_pos rfl
    · intro c hc
      exact swE_v (w6 c hc) ρ x
/-- constraints assumed -/
def sas (S : sS) (c : sE) : Option sS := match sasm S.2.2.2.1 S.2.2.2.2.1 c with
  | some (B, C) => some (S.1, S.2.1, S.2.2.1, B, C, S.2.2.2.2.2)
  | none => none
theorem sas_ok (hM : sMt reg gv ρ ρ0 S loc stk h) {c : sE} (hc : sv ρ c ≤ 0) : ∃ S', sas S c = some S' ∧ sMt reg gv ρ ρ0 S' loc stk h ∧ S'.2.1 = S.2.1 := by
  obtain ⟨m1, m2, m3, m4, m5, m6⟩ := hM
  obtain ⟨B, C, e, hB, hC, -⟩ := sasm_ok m4 m5 hc
  refine ⟨(S.1, S.2.1, S.2.2.1, B, C, S.2.2.2.2.2), ?_, ⟨m1, m2, m3, hB, hC, m6⟩, rfl⟩
  unfold sas
  rw [e]
def spr (S : sS) (c : sE) : Bool := sp0 S.2.2.2.1 S.2.2.2.2.1 c
theorem spr_le (hM : sMt reg gv ρ ρ0 S loc stk h) {c : sE} (hc : spr S c = true) : sv ρ c ≤ 0 := sp0_le hM.2.2.2.1 hM.2.2.2.2.1 hc
def sceq (S : sS) (d : sE) : Option sS := match sas S d with
  | some T => sas T (sng d)
  | none => none
def scne (S : sS) (d : sE) : Option sS := if spr S (sng d) = true then sas S (sac (sng d) 1) else if spr S d = true then sas S (sac d 1) else some S
theorem sceq_ok (hM : sMt reg gv ρ ρ0 S loc stk h) {d : sE} (hd : sv ρ d = 0) : ∃ S', sceq S d = some S' ∧ sMt reg gv ρ ρ0 S' loc stk h ∧ S'.2.1 = S.2.1 := by
  obtain ⟨S1, e1, h1, k1⟩ := sas_ok hM (c := d) (by omega)
  obtain ⟨S2, e2, h2, k2⟩ := sas_ok h1 (c := sng d) (by rw [sng_v]; omega)
  refine ⟨S2, ?_, h2, k2.trans k1⟩
  unfold sceq
  rw [e1]
  exact e2
theorem scne_ok (hM : sMt reg gv ρ ρ0 S loc stk h) {d : sE} (hd : sv ρ d ≠ 0) : ∃ S', scne S d = some S' ∧ sMt reg gv ρ ρ0 S' loc stk h ∧ S'.2.1 = S.2.1 := by
  unfold scne
  by_cases h1 : spr S (sng d) = true
  · rw [if_pos h1]
    have := spr_le hM h1
    rw [sng_v] at this
    exact sas_ok hM (by rw [sac_v, sng_v]; omega)
  · rw [if_neg h1]
    by_cases h2 : spr S d = true
    · rw [if_pos h2]
      have := spr_le hM h2
      exact sas_ok hM (by rw [sac_v]; omega)
    · rw [if_neg h2]
      exact ⟨S, rfl, hM, rfl⟩
/-- d against 0 -/
def scnd (c : ClassFile.Cond) (S : sS) (d : sE) : Option sS := match c with
  | .eq => sceq S d
  | .ne => scne S d
  | .lt => sas S (sac d 1)
  | .ge => sas S (sng d)
  | .gt => sas S (sac (sng d) 1)
  | .le => sas S d
def scT (c : ClassFile.Cond) (x : Int) : Prop := match c with
  | .eq => x = 0
  | .ne => x ≠ 0
  | .lt => x < 0
  | .ge => 0 ≤ x
  | .gt => 0 < x
  | .le => x ≤ 0
theorem scnd_ok (c : ClassFile.Cond) (hM : sMt reg gv ρ ρ0 S loc stk h) {d : sE} (hd : scT c (sv ρ d)) : ∃ S', scnd c S d = some S' ∧ sMt reg gv ρ ρ0 S' loc stk h ∧ S'.2.1 = S.2.1 := by
  cases c
  case eq => exact sceq_ok hM hd
  case ne => exact scne_ok hM hd
  case lt => exact sas_ok hM (by rw [sac_v]; have : sv ρ d < 0 := hd; omega)
  case ge => exact sas_ok hM (by rw [sng_v]; have : 0 ≤ sv ρ d := hd; omega)
  case gt => exact sas_ok hM (by rw [sac_v, sng_v]; have : 0 < sv ρ d := hd; omega)
  case le => exact sas_ok hM hd
def scn : ClassFile.Cond → ClassFile.Cond
  | .eq => .ne
  | .ne => .eq
  | .lt => .ge
  | .ge => .lt
  | .gt => .le
  | .le => .gt
theorem scn_ok {c : ClassFile.Cond} {x : Int} (hx : ¬ scT c x) : scT (scn c) x := by
  cases c
  case eq => exact hx
  case ne =>
    have hx : ¬ (x ≠ 0) := hx
    show x = 0
    omega
  case lt => exact Int.not_lt.mp hx
  case ge => exact Int.not_le.mp hx
  case gt => exact Int.not_lt.mp hx
  case le => exact Int.not_le.mp hx
def sap (S : sS) (a b : sE) : Bool := spr S (sac (sadd a b (-1)) 1) || spr S (sac (sng (sadd a b (-1))) 1)
theorem sap_ne (hM : sMt reg gv ρ ρ0 S loc stk h) {a b : sE} (hc : sap S a b = true) : sv ρ a ≠ sv ρ b := by
  unfold sap at hc
  rcases Bool.or_eq_true_iff.mp hc with q | q
  · have := spr_le hM q
    rw [sac_v, sadd_v] at this
    omega
  · have := spr_le hM q
    rw [sac_v, sng_v, sadd_v] at this
    omega
end SYM2
end
section
/-! the state's places: what is read, what is written, what stays -/
section SMEM
variable (reg : Nat → Nat) (sing : Nat → Bool) (gG : Nat → List (Nat × Nat × Int × Int)) (gu : Nat → sD)
/-- the bounds that every place keeps -/
def sG (h : zH) : Prop := ∀ (k : Nat), ∀ z ∈ gG (reg k), ∀ i : Nat, z.1 ≤ i → i ≤ z.2.1 → z.2.2.1 ≤ (h.1 k i).toInt ∧ (h.1 k i).toInt ≤ z.2.2.2
/-- only the places of md may differ -/
def sF (md : sD) (h0 h : zH) : Prop := ∀ k i, h.1 k i ≠ h0.1 k i → ∃ z ∈ md, reg k = z.1 ∧ z.2.1 ≤ (i : Int) ∧ (i : Int) ≤ z.2.2
/-- a told quantity hangs on its places alone -/
def sGv (gv : Nat → zH → Int) : Prop := ∀ (a : Nat) (h h' : zH), (∀ k i : Nat, (∃ z ∈ gu a, reg k = z.1 ∧ z.2.1 ≤ (i : Int) ∧ (i : Int) ≤ z.2.2) → h.1 k i = h'.1 k i) → gv a h = gv a h'
def sgb (r : Nat) (a b : Int) : Int × Int := match (gG r).find? (fun z => decide ((z.1 : Int) ≤ a) && decide (b ≤ (z.2.1 : Int))) with
  | some z => (z.2.2.1, z.2.2.2)
  | none => (-2147483648, 2147483647)
def sz0 (e : sE) : Bool := decide (e.1 = 0) && e.2.isEmpty
theorem sz0_v {ρ : Nat → Int} {e : sE} (h : sz0 e = true) : sv ρ e = 0 := by
  unfold sz0 at h
  rw [Bool.and_eq_true, decide_eq_true_eq, List.isEmpty_iff] at h
  show e.1 + sT ρ e.2 = 0
  rw [h.1, h.2]
  rfl
def sldE (S : sS) (r : Nat) (e : sE) (es : List sE) : Option (sE × sS) := match S.2.2.1.find? (fun m => decide (m.1 = r) && sq0 S.2.2.2.1 S.2.2.2.2.1 (sadd m.2.1 e (-1))) with
  | some m => some (m.2.2, S)
  | none => match sLb S.2.2.2.1 e, sUb S.2.2.2.1 e with
    | some a, some b => match sfr (sgb gG r a b).1 (sgb gG r a b).2 S (e :: es) with
      | some (v, T) => some (v, if sing r = true then (T.1, T.2.1, (r, e, v) :: T.2.2.1, T.2.2.2) else T)
      | none => none
    | _, _ => none
def sld (S : sS) (r : Nat) (e : sE) : Option (sE × sS) := sldE sing gG S r e []
def sov (d : sD) (r : Nat) (a b : Int) : Bool := d.any (fun z => decide (z.1 = r) && (decide (z.2.1 ≤ b) && decide (a ≤ z.2.2)))
/-- what a write at e of region r (places a to b) leaves -/
def sk1 (S : sS) (r : Nat) (e : sE) (a b : Int) : List (Nat × sE × sE) := S.2.2.1.filter (fun m => if m.1 < 1000 then (!decide (m.1 = r) || sap S m.2.1 e) else !sov (gu (m.1 - 1000)) r a b)
def sstr (md : sD) (S : sS) (r : Nat) (e v : sE) : Option sS := match sLb S.2.2.2.1 e, sUb S.2.2.2.1 e with
  | some a, some b => if ((gG r).all (fun z => decide (b < (z.1 : Int)) || (decide ((z.2.1 : Int) < a) || (spr S (sac v (-z.2.2.2)) && spr S (sac (sng v) z.2.2.1)))) && md.any (fun z => decide (z.1 = r) && (decide (z.2.1 ≤ a) && decide (b ≤ z.2.2)))) = true then
      some (S.1, S.2.1, if sing r = true then (r, e, v) :: sk1 gu S r e a b else sk1 gu S r e a b, S.2.2.2) else none
  | _, _ => none
/-- what a change of the places md leaves -/
def skl (md : sD) (S : sS) : sS := (S.1, S.2.1, S.2.2.1.filter (fun m => md.all (fun z => if m.1 < 1000 then (!decide (m.1 = z.1) || (match sLb S.2.2.2.1 m.2.1, sUb S.2.2.2.1 m.2.1 with
  | some a, some b => decide (b < z.2.1) || decide (z.2.2 < a)
  | _, _ => false)) else !sov (gu (m.1 - 1000)) z.1 z.2.1 z.2.2)), S.2.2.2)
end SMEM
section SMEM2
variable {reg : Nat → Nat} {sing : Nat → Bool} {gG : Nat → List (Nat × Nat × Int × Int)} {gu : Nat → sD} {gv : Nat → zH → Int} {ρ ρ0 : Nat → Int} {S S' : sS} {loc : zL} {stk : List zV} {h : zH}
theorem sldE_ok (hsing : ∀ k k', sing (reg k) = true → reg k' = reg k → k' = k) (hG : sG reg gG h) (hM : sMt reg gv ρ ρ0 S loc stk h) {k : Nat} (hk : reg k < 1000) {e v : sE} (he : 0 ≤ sv ρ e) {es : List sE} (hl : sldE sing gG S (reg k) e es = some (v, S')) : ∃ ρ', sMt reg gv ρ' ρ0 S' loc stk h ∧ (h.1 k (sv ρ e).toNat).toInt = sv ρ' v ∧ S'.2.1 = S.2.1 ∧ sv ρ' e = sv ρ e ∧ (∀ c ∈ es, sv ρ' c = sv ρ c) := by
  unfold sldE at hl
  cases hf : S.2.2.1.find? (fun m => decide (m.1 = reg k) && sq0 S.2.2.2.1 S.2.2.2.2.1 (sadd m.2.1 e (-1))) with
  | some m =>
    rw [hf] at hl
    cases hl
    have hm := hM.2.2.1 m (List.mem_of_find?_eq_some hf)
    have hp := List.find?_some hf
    simp only [Bool.and_eq_true, decide_eq_true_eq] at hp
    have hz := sq0_v hM.2.2.2.1 hM.2.2.2.2.1 hp.2
    rw [sadd_v] at hz
    unfold smm at hm
    rw [if_pos (by omega)] at hm
    refine ⟨ρ, hM, ?_, rfl, rfl, fun _ _ => rfl⟩
    have := hm.2 k hp.1.symm
    rw [show sv ρ m.2.1 = sv ρ e by omega] at this
    exact this
  | none =>
    rw [hf] at hl
    cases ha : sLb S.2.2.2.1 e with
    | none => rw [ha] at hl; cases hl
    | some a =>
      cases hb : sUb S.2.2.2.1 e with
      | none => rw [ha, hb] at hl; cases hl
      | some b =>
        rw [ha, hb] at hl
        simp only at hl
        cases hfr : sfr (sgb gG (reg k) a b).1 (sgb gG (reg k) a b).2 S (e :: es) with
        | none => rw [hfr] at hl; cases hl
        | some q =>
          obtain ⟨w, T⟩ := q
          rw [hfr] at hl
          simp only at hl
          have h1 := sLb_le hM.2.2.2.1 ha
          have h2 := sUb_le hM.2.2.2.1 hb
          have hbd : (sgb gG (reg k) a b).1 ≤ (h.1 k (sv ρ e).toNat).toInt ∧ (h.1 k (sv ρ e).toNat).toInt ≤ (sgb gG (reg k) a b).2 := by
            unfold sgb
            cases hg : (gG (reg k)).find? (fun z => decide ((z.1 : Int) ≤ a) && decide (b ≤ (z.2.1 : Int))) with
            | none => exact ⟨Int32.le_toInt _, by have := Int32.toInt_lt (h.1 k (sv ρ e).toNat); simp at this ⊢; omega⟩
            | some z =>
              have hz := List.find?_some hg
              simp only [Bool.and_eq_true, decide_eq_true_eq] at hz
              exact hG k z (List.mem_of_find?_eq_some hg) _ (by omega) (by omega)
          obtain ⟨ρ', hM', hv, hes, e1, e2, e3⟩ := sfr_ok hfr hM hbd.1 hbd.2
          have hee := hes e (List.mem_cons_self ..)
          cases hl
          refine ⟨ρ', ?_, hv.symm, ?_, hee, fun c hc => hes c (List.mem_cons_of_mem _ hc)⟩
          · split
            case isFalse => exact hM'
            case isTrue hs =>
              obtain ⟨m1, m2, m3, m4, m5, m6⟩ := hM'
              refine ⟨m1, m2, ?_, m4, m5, m6⟩
              intro m hm
              rcases List.mem_cons.mp hm with rfl | hm
              · unfold smm
                rw [if_pos hk]
                simp only
                refine ⟨by omega, fun k2 hk2 => ?_⟩
                rw [hsing k k2 hs hk2, hee]
                exact hv.symm
              · exact m3 m hm
          · split <;> exact e2
theorem sld_ok (hsing : ∀ k k', sing (reg k) = true → reg k' = reg k → k' = k) (hG : sG reg gG h) (hM : sMt reg gv ρ ρ0 S loc stk h) {k : Nat} (hk : reg k < 1000) {e v : sE} (he : 0 ≤ sv ρ e) (hl : sld sing gG S (reg k) e = some (v, S')) : ∃ ρ', sMt reg gv ρ' ρ0 S' loc stk h ∧ (h.1 k (sv ρ e).toNat).toInt = sv ρ' v ∧ S'.2.1 = S.2.1 := by
  obtain ⟨ρ', a, b, c, -⟩ := sldE_ok hsing hG hM hk he hl
  exact ⟨ρ', a, b, c⟩
theorem sov_no {d : sD} {r : Nat} {a b : Int} (hn : sov d r a b = false) {z : Nat × Int × Int} (hz : z ∈ d) (h1 : z.1 = r) {i : Int} (ha : a ≤ i) (hb : i ≤ b) : ¬ (z.2.1 ≤ i ∧ i ≤ z.2.2) := by
  intro q
  have : sov d r a b = true := by
    unfold sov
    refine List.any_eq_true.mpr ⟨z, hz, ?_⟩
    simp only [Bool.and_eq_true, decide_eq_true_eq]
    exact ⟨h1, by omega, by omega⟩
  rw [hn] at this
  cases this
theorem sstr_ok (hsing : ∀ k k', sing (reg k) = true → reg k' = reg k → k' = k) (hgv : sGv reg gu gv) {md : sD} {h0 : zH} (hG : sG reg gG h) (hF : sF reg md h0 h) (hM : sMt reg gv ρ ρ0 S loc stk h) {k : Nat} (hk : reg k < 1000) {e v : sE} {x : Int32} (he : 0 ≤ sv ρ e) (hx : x.toInt = sv ρ v) (hl : sstr sing gG gu md S (reg k) e v = some S') : sMt reg gv ρ ρ0 S' loc stk (zs h k (sv ρ e).toNat x) ∧ sG reg gG (zs h k (sv ρ e).toNat x) ∧ sF reg md h0 (zs h k (sv ρ e).toNat x) ∧ S'.2.1 = S.2.1 := by
  unfold sstr at hl
  cases ha : sLb S.2.2.2.1 e with
  | none => rw [ha] at hl; cases hl
  | some a =>
    cases hb : sUb S.2.2.2.1 e with
    | none => rw [ha, hb] at hl; cases hl
    | some b =>
      rw [ha, hb] at hl
      simp only at hl
      split at hl
      case isFalse => cases hl
      case isTrue hc =>
        cases hl
        rw [Bool.and_eq_true, List.all_eq_true, List.any_eq_true] at hc
        obtain ⟨c1, z0, hz0, c2⟩ := hc
        simp only [Bool.and_eq_true, decide_eq_true_eq] at c2
        have h1 := sLb_le hM.2.2.2.1 ha
        have h2 := sUb_le hM.2.2.2.1 hb
        have hval : ∀ k2 i, (zs h k (sv ρ e).toNat x).1 k2 i = if k2 = k then (if i = (sv ρ e).toNat then x else h.1 k2 i) else h.1 k2 i := fun _ _ => rfl
        refine ⟨?_, ?_, ?_, rfl⟩
        · obtain ⟨m1, m2, m3, m4, m5, m6⟩ := hM
          refine ⟨m1, m2, ?_, m4, m5, m6⟩
          have hold : ∀ m ∈ sk1 gu S (reg k) e a b, smm reg gv ρ (zs h k (sv ρ e).toNat x) m := by
            intro m hm
            unfold sk1 at hm
            rw [List.mem_filter] at hm
            obtain ⟨hm, hp⟩ := hm
            have q := m3 m hm
            unfold smm at q ⊢
            by_cases hr : m.1 < 1000
            · rw [if_pos hr] at q hp ⊢
              refine ⟨q.1, fun k2 hk2 => ?_⟩
              rw [hval]
              by_cases hkk : k2 = k
              · rw [if_pos hkk]
                subst hkk
                rcases Bool.or_eq_true_iff.mp hp with hp | hp
                · simp only [Bool.not_eq_true', decide_eq_false_iff_not] at hp
                  exact absurd hk2.symm hp
                · have := sap_ne (reg := reg) (gv := gv) (ρ := ρ) (ρ0 := ρ0) (S := S) (loc := loc) (stk := stk) (h := h) ⟨m1, m2, m3, m4, m5, m6⟩ hp
                  rw [if_neg (by have := q.1; omega)]
                  exact q.2 k2 hk2
              · rw [if_neg hkk]
                exact q.2 k2 hk2
            · rw [if_neg hr] at q hp ⊢
              simp only [Bool.not_eq_true'] at hp
              rw [← q]
              refine hgv _ _ _ (fun k2 i hz => ?_)
              obtain ⟨z, hz, hz1, hz2⟩ := hz
              rw [hval]
              by_cases hkk : k2 = k
              · rw [if_pos hkk]
                subst hkk
                by_cases hi : i = (sv ρ e).toNat
                · exact absurd hz2 (sov_no hp hz hz1.symm (by omega) (by omega))
                · rw [if_neg hi]
              · rw [if_neg hkk]
          show ∀ m ∈ (if sing (reg k) = true then _ else _), _
          split
          case isFalse => exact hold
          case isTrue hs =>
            intro m hm
            rcases List.mem_cons.mp hm with rfl | hm
            · unfold smm
              rw [if_pos hk]
              simp only
              refine ⟨he, fun k2 hk2 => ?_⟩
              rw [hval, if_pos (hsing k k2 hs hk2), if_pos rfl]
              exact hx
            · exact hold m hm
        · intro k2 z hz i hi1 hi2
          rw [hval]
          by_cases hkk : k2 = k
          · rw [if_pos hkk]
            subst hkk
            by_cases hi : i = (sv ρ e).toNat
            · rw [if_pos hi]
              have := c1 z hz
              simp only [Bool.or_eq_true, Bool.and_eq_true, decide_eq_true_eq] at this
              rcases this with q | q | ⟨q1, q2⟩
              · omega
              · omega
              · have p1 := spr_le hM q1
                have p2 := spr_le hM q2
                rw [sac_v] at p1
                rw [sac_v, sng_v] at p2
                omega
            · rw [if_neg hi]
              exact hG k2 z hz i hi1 hi2
          · rw [if_neg hkk]
            exact hG k2 z hz i hi1 hi2
        · intro k2 i hne
          rw [hval] at hne
          by_cases hkk : k2 = k
          · rw [if_pos hkk] at hne
            by_cases hi : i = (sv ρ e).toNat
            · exact ⟨z0, hz0, by rw [hkk]; exact c2.1.symm, by omega, by omega⟩
            · rw [if_neg hi] at hne
              exact hF k2 i hne
          · rw [if_neg hkk] at hne
            exact hF k2 i hne
theorem skl_ok (hgv : sGv reg gu gv) {md : sD} {h' : zH} (hF : sF reg md h h') (hM : sMt reg gv ρ ρ0 S loc stk h) : sMt reg gv ρ ρ0 (skl gu md S) loc stk h' := by
  obtain ⟨m1, m2, m3, m4, m5, m6⟩ := hM
  refine ⟨m1, m2, ?_, m4, m5, m6⟩
  intro m hm
  have hm : m ∈ S.2.2.1.filter _ := hm
  rw [List.mem_filter] at hm
  obtain ⟨hm, hp⟩ := hm
  rw [List.all_eq_true] at hp
  have q := m3 m hm
  unfold smm at q ⊢
  by_cases hr : m.1 < 1000
  · rw [if_pos hr] at q ⊢
    refine ⟨q.1, fun k2 hk2 => ?_⟩
    have e1 : h'.1 k2 (sv ρ m.2.1).toNat = h.1 k2 (sv ρ m.2.1).toNat := by
      apply Decidable.byContradiction
      intro hne
      obtain ⟨z, hz, z1, z2, z3⟩ := hF k2 _ hne
      have := hp z hz
      rw [if_pos hr, Bool.or_eq_true_iff] at this
      rcases this with this | this
      · simp only [Bool.not_eq_true', decide_eq_false_iff_not] at this
        exact this (hk2.symm.trans z1)
      · cases ha : sLb S.2.2.2.1 m.2.1 with
        | none => rw [ha] at this; cases this
        | some a =>
          cases hb : sUb S.2.2.2.1 m.2.1 with
          | none => rw [ha, hb] at this; cases this
          | some b =>
            rw [ha, hb] at this
            simp only [Bool.or_eq_true, decide_eq_true_eq] at this
            have l1 := sLb_le m4 ha
            have l2 := sUb_le m4 hb
            have := q.1
            omega
    rw [e1]
    exact q.2 k2 hk2
  · rw [if_neg hr] at q ⊢
    rw [← q]
    refine hgv _ _ _ (fun k2 i hz => ?_)
    obtain ⟨z, hz, hz1, hz2⟩ := hz
    apply Decidable.byContradiction
    intro hne
    obtain ⟨y, hy, y1, y2, y3⟩ := hF k2 i hne
    have := hp y hy
    rw [if_neg hr] at this
    simp only [Bool.not_eq_true'] at this
    exact sov_no this hz (hz1.symm.trans y1) y2 y3 hz2
end SMEM2
end
section
/-! values: what an operation gives -/
theorem sw32 {z : Int} (h1 : -2147483648 ≤ z) (h2 : z ≤ 2147483647) : z.bmod (2 ^ 32) = z := by
  simp only [Int.bmod]
  omega
theorem sw64 {z : Int} (h1 : -9223372036854775808 ≤ z) (h2 : z ≤ 9223372036854775807) : z.bmod (2 ^ 64) = z := by
  simp only [Int.bmod]
  omega
theorem si32 (x : Int32) : -2147483648 ≤ x.toInt ∧ x.toInt ≤ 2147483647 := by
  have h1 := Int32.le_toInt x
  have h2 := Int32.toInt_lt x
  simp at h1 h2
  omega
theorem si64 (x : Int64) : -9223372036854775808 ≤ x.toInt ∧ x.toInt ≤ 9223372036854775807 := by
  have h1 := Int64.le_toInt x
  have h2 := Int64.toInt_lt x
  simp at h1 h2
  omega
theorem so32 {n : Int} (h1 : -2147483648 ≤ n) (h2 : n ≤ 2147483647) : (Int32.ofInt n).toInt = n := by
  rw [Int32.toInt_ofInt]
  exact sw32 h1 h2
theorem so8 {n : Int} (h1 : -128 ≤ n) (h2 : n ≤ 127) : ((Int8.ofInt n).toInt32).toInt = n := by
  rw [Int8.toInt_toInt32, Int8.toInt_ofInt]
  show n.bmod 256 = n
  simp only [Int.bmod]
  omega
theorem so16 {n : Int} (h1 : -32768 ≤ n) (h2 : n ≤ 32767) : ((Int16.ofInt n).toInt32).toInt = n := by
  rw [Int16.toInt_toInt32, Int16.toInt_ofInt]
  show n.bmod 65536 = n
  simp only [Int.bmod]
  omega
theorem sadd32 (x y : Int32) (h1 : -2147483648 ≤ x.toInt + y.toInt) (h2 : x.toInt + y.toInt ≤ 2147483647) : (x + y).toInt = x.toInt + y.toInt := by
  rw [Int32.toInt_add]; exact sw32 h1 h2
theorem ssub32 (x y : Int32) (h1 : -2147483648 ≤ x.toInt - y.toInt) (h2 : x.toInt - y.toInt ≤ 2147483647) : (x - y).toInt = x.toInt - y.toInt := by
  rw [Int32.toInt_sub]; exact sw32 h1 h2
theorem smul32 (x y : Int32) (h1 : -2147483648 ≤ x.toInt * y.toInt) (h2 : x.toInt * y.toInt ≤ 2147483647) : (x * y).toInt = x.toInt * y.toInt := by
  rw [Int32.toInt_mul]; exact sw32 h1 h2
theorem sneg32 (x : Int32) (h1 : -2147483648 ≤ -x.toInt) (h2 : -x.toInt ≤ 2147483647) : (-x).toInt = -x.toInt := by
  rw [Int32.toInt_neg]; exact sw32 h1 h2
theorem sadd64 (x y : Int64) (h1 : -9223372036854775808 ≤ x.toInt + y.toInt) (h2 : x.toInt + y.toInt ≤ 9223372036854775807) : (x + y).toInt = x.toInt + y.toInt := by
  rw [Int64.toInt_add]; exact sw64 h1 h2
theorem ssub64 (x y : Int64) (h1 : -9223372036854775808 ≤ x.toInt - y.toInt) (h2 : x.toInt - y.toInt ≤ 9223372036854775807) : (x - y).toInt = x.toInt - y.toInt := by
  rw [Int64.toInt_sub]; exact sw64 h1 h2
theorem smul64 (x y : Int64) (h1 : -9223372036854775808 ≤ x.toInt * y.toInt) (h2 : x.toInt * y.toInt ≤ 9223372036854775807) : (x * y).toInt = x.toInt * y.toInt := by
  rw [Int64.toInt_mul]; exact sw64 h1 h2
theorem stdv {x y : Int} (hx : 0 ≤ x) (hy : 1 ≤ y) : x.tdiv y = x / y := Int.tdiv_eq_ediv_of_nonneg hx
theorem sdivb {x y : Int} (hx : 0 ≤ x) (hy : 1 ≤ y) : 0 ≤ x / y ∧ x / y ≤ x := ⟨Int.ediv_nonneg hx (by omega), Int.ediv_le_self _ hx⟩
theorem sdiv32 (x y : Int32) (hx : 0 ≤ x.toInt) (hy : 1 ≤ y.toInt) : (x / y).toInt = x.toInt / y.toInt := by
  rw [Int32.toInt_div, stdv hx hy]
  have := sdivb hx hy
  have := si32 x
  exact sw32 (by omega) (by omega)
theorem sdiv64 (x y : Int64) (hx : 0 ≤ x.toInt) (hy : 1 ≤ y.toInt) : (x / y).toInt = x.toInt / y.toInt := by
  rw [Int64.toInt_div, stdv hx hy]
  have := sdivb hx hy
  have := si64 x
  exact sw64 (by omega) (by omega)
theorem sremb {x y : Int} (hx : 0 ≤ x) (hy : 1 ≤ y) : 0 ≤ x / y * y ∧ x / y * y ≤ x ∧ x - x / y * y = x % y := by
  have h1 := Int.emod_add_mul_ediv x y
  have h2 := Int.emod_nonneg x (show y ≠ 0 by omega)
  rw [Int.mul_comm] at h1
  have h3 : 0 ≤ x / y * y := Int.mul_nonneg (sdivb hx hy).1 (by omega)
  refine ⟨h3, by omega, by omega⟩
theorem srem32 (x y : Int32) (hx : 0 ≤ x.toInt) (hy : 1 ≤ y.toInt) : (x - x / y * y).toInt = x.toInt % y.toInt := by
  have h0 := si32 x
  obtain ⟨h1, h2, h3⟩ := sremb hx hy
  have e1 : (x / y * y).toInt = x.toInt / y.toInt * y.toInt := by
    rw [smul32 (x / y) y (by rw [sdiv32 x y hx hy]; omega) (by rw [sdiv32 x y hx hy]; omega), sdiv32 x y hx hy]
  rw [ssub32 _ _ (by rw [e1]; omega) (by rw [e1]; omega), e1, h3]
theorem srem64 (x y : Int64) (hx : 0 ≤ x.toInt) (hy : 1 ≤ y.toInt) : (x - x / y * y).toInt = x.toInt % y.toInt := by
  have h0 := si64 x
  obtain ⟨h1, h2, h3⟩ := sremb hx hy
  have e1 : (x / y * y).toInt = x.toInt / y.toInt * y.toInt := by
    rw [smul64 (x / y) y (by rw [sdiv64 x y hx hy]; omega) (by rw [sdiv64 x y hx hy]; omega), sdiv64 x y hx hy]
  rw [ssub64 _ _ (by rw [e1]; omega) (by rw [e1]; omega), e1, h3]
theorem sand32 (x y : Int32) (hy : 0 ≤ y.toInt) : 0 ≤ (x &&& y).toInt ∧ (x &&& y).toInt ≤ y.toInt := by
  have e1 : (x &&& y).toInt = (x.toBitVec &&& y.toBitVec).toInt := rfl
  have e2 : y.toInt = y.toBitVec.toInt := rfl
  rw [e2] at hy ⊢
  rw [e1]
  have h1 : (x.toBitVec &&& y.toBitVec).toNat ≤ y.toBitVec.toNat := by
    rw [BitVec.toNat_and]
    exact Nat.and_le_right
  have h2 := y.toBitVec.isLt
  rw [BitVec.toInt_eq_toNat_cond] at hy ⊢
  rw [BitVec.toInt_eq_toNat_cond]
  split at hy
  · rw [if_pos (by omega), if_pos (by omega)]
    omega
  · omega
theorem sshr33 (x : Int64) : 0 ≤ ((x.toUInt64 >>> ((33 : Int32).toInt64.toUInt64 &&& Int64.toUInt64 63)).toInt64).toInt ∧ ((x.toUInt64 >>> ((33 : Int32).toInt64.toUInt64 &&& Int64.toUInt64 63)).toInt64).toInt ≤ 2147483647 := by
  have e0 : ((33 : Int32).toInt64.toUInt64 &&& Int64.toUInt64 63) = 33 := rfl
  rw [e0]
  have e1 : ((x.toUInt64 >>> 33).toInt64).toInt = (x.toUInt64 >>> 33).toBitVec.toInt := rfl
  have e2 : (x.toUInt64 >>> 33).toBitVec.toNat = x.toUInt64.toNat / 2 ^ 33 := by
    show (x.toUInt64 >>> 33).toNat = _
    rw [UInt64.toNat_shiftRight]
    rw [Nat.shiftRight_eq_div_pow]
    rfl
  have h := x.toUInt64.toNat_lt
  rw [e1, BitVec.toInt_eq_toNat_cond, e2]
  rw [if_pos (by omega)]
  omega
theorem scmp64 (x y : Int64) : (lg_cmp x y).toInt = if x.toInt < y.toInt then -1 else if x.toInt = y.toInt then 0 else 1 := by
  unfold lg_cmp
  by_cases h1 : x > y
  · have := Int64.lt_iff_toInt_lt.mp h1
    rw [if_pos h1, if_neg (by omega), if_neg (by omega)]
    rfl
  · have q : ¬ y.toInt < x.toInt := fun q => h1 (Int64.lt_iff_toInt_lt.mpr q)
    rw [if_neg h1]
    by_cases h2 : x = y
    · subst h2
      rw [if_pos rfl, if_neg (Int.lt_irrefl _), if_pos rfl]
      rfl
    · have : x.toInt ≠ y.toInt := fun q => h2 (Int64.toInt_inj.mp q)
      rw [if_neg h2, if_pos (by omega)]
      rfl
theorem sshr0 (x : Int32) : x >>> ((0 : Int32) &&& 31) = x := by
  have e : ((0 : Int32) &&& 31) = 0 := rfl
  rw [e]
  simp

theorem si2c (x : Int32) (h1 : 0 ≤ x.toInt) (h2 : x.toInt ≤ 65535) : ((x.toUInt32 % 65536).toInt32).toInt = x.toInt := by
  have e1 : ((x.toUInt32 % 65536).toInt32).toInt = (x.toUInt32 % 65536).toBitVec.toInt := rfl
  have e2 : (x.toUInt32 % 65536).toBitVec.toNat = x.toUInt32.toNat % 65536 := by
    show (x.toUInt32 % 65536).toNat = _
    rw [UInt32.toNat_mod]
    rfl
  have e3 : x.toInt = x.toBitVec.toInt := rfl
  have e4 : x.toUInt32.toNat = x.toBitVec.toNat := rfl
  have hl := x.toBitVec.isLt
  rw [e3, BitVec.toInt_eq_toNat_cond] at h1 h2 ⊢
  rw [e1, BitVec.toInt_eq_toNat_cond, e2, e4]
  split at h1
  · rw [if_pos (by omega)] at h2
    rw [if_pos (by omega), if_pos (by omega)]
    omega
  · omega
theorem si2b (x : Int32) (h1 : -128 ≤ x.toInt) (h2 : x.toInt ≤ 127) : (x.toInt8.toInt32).toInt = x.toInt := by
  rw [Int8.toInt_toInt32, Int32.toInt_toInt8]
  simp only [Int.bmod]
  omega
/-! operations on expressions -/
def sCo (e : sE) : Option Int := if e.2.isEmpty = true then some e.1 else none
theorem sCo_v {ρ : Nat → Int} {e : sE} {c : Int} (h : sCo e = some c) : sv ρ e = c := by
  unfold sCo at h
  split at h
  case isFalse => cases h
  case isTrue q =>
    have h := Option.some.inj h
    rw [List.isEmpty_iff] at q
    show e.1 + sT ρ e.2 = c
    rw [q, h]
    show c + 0 = c
    omega
def sfi (S : sS) : Option (sE × sS) := sfr (-2147483648) 2147483647 S []
def sfl (S : sS) : Option (sE × sS) := sfr (-9223372036854775808) 9223372036854775807 S []
def swr (S : sS) (e : sE) : Option (sE × sS) := if (spr S (sac e (-2147483647)) && spr S (sac (sng e) (-2147483648))) = true then some (e, S) else sfi S
def swl (S : sS) (e : sE) : Option (sE × sS) := if (spr S (sac e (-9223372036854775807)) && spr S (sac (sng e) (-9223372036854775808))) = true then some (e, S) else sfl S
def snz (S : sS) (y : sE) : Bool := spr S (sac (sng y) 1) || spr S (sac y 1)
def sdv (S : sS) (x y : sE) (lo hi : Int) : Option (sE × sS) := if (spr S (sac (sng y) 1) && spr S (sng x)) = true then (match sCo y, sUb S.2.2.2.1 x with
    | some c, some u => sfr 0 (u / c) S []
    | _, _ => sfr lo hi S []) else sfr lo hi S []
def srm (S : sS) (x y : sE) (lo hi : Int) : Option (sE × sS) := if (spr S (sac (sng y) 1) && spr S (sng x)) = true then
    (if spr S (sac (sadd x y (-1)) 1) = true then some (x, S) else match sUb S.2.2.2.1 y with
    | some u => (match sfr 0 (u - 1) S [y] with
      | some (r, T) => some (r, (T.1, T.2.1, T.2.2.1, T.2.2.2.1, sac (sadd r y (-1)) 1 :: T.2.2.2.2.1, T.2.2.2.2.2))
      | none => none)
    | none => sfr lo hi S []) else sfr lo hi S []
def srg (S : sS) (e : sE) (lo hi : Int) : Option (sE × sS) := if (spr S (sac e (-hi)) && spr S (sac (sng e) lo)) = true then some (e, S) else sfi S
section SOPS
variable {reg : Nat → Nat} {gv : Nat → zH → Int} {ρ ρ0 : Nat → Int} {S T : sS} {loc : zL} {stk : List zV} {h : zH} {e : sE}
theorem sfi_ok (hf : sfi S = some (e, T)) (hM : sMt reg gv ρ ρ0 S loc stk h) (z : Int32) : ∃ ρ', sMt reg gv ρ' ρ0 T loc stk h ∧ z.toInt = sv ρ' e ∧ T.2.1 = S.2.1 := by
  obtain ⟨ρ', a, b, -, -, c, -⟩ := sfr_ok hf hM (si32 z).1 (si32 z).2
  exact ⟨ρ', a, b.symm, c⟩
theorem sfl_ok (hf : sfl S = some (e, T)) (hM : sMt reg gv ρ ρ0 S loc stk h) (z : Int64) : ∃ ρ', sMt reg gv ρ' ρ0 T loc stk h ∧ z.toInt = sv ρ' e ∧ T.2.1 = S.2.1 := by
  obtain ⟨ρ', a, b, -, -, c, -⟩ := sfr_ok hf hM (si64 z).1 (si64 z).2
  exact ⟨ρ', a, b.symm, c⟩
theorem swr_ok {e0 : sE} (hf : swr S e0 = some (e, T)) (hM : sMt reg gv ρ ρ0 S loc stk h) (z : Int32) (hz : -2147483648 ≤ sv ρ e0 → sv ρ e0 ≤ 2147483647 → z.toInt = sv ρ e0) : ∃ ρ', sMt reg gv ρ' ρ0 T loc stk h ∧ z.toInt = sv ρ' e ∧ T.2.1 = S.2.1 := by
  unfold swr at hf
  split at hf
  case isTrue q =>
    cases hf
    rw [Bool.and_eq_true] at q
    have h1 := spr_le hM q.1
    have h2 := spr_le hM q.2
    rw [sac_v] at h1
    rw [sac_v, sng_v] at h2
    exact ⟨ρ, hM, hz (by omega) (by omega), rfl⟩
  case isFalse => exact sfi_ok hf hM z
theorem srg_ok {e0 : sE} {lo hi : Int} (hf : srg S e0 lo hi = some (e, T)) (hM : sMt reg gv ρ ρ0 S loc stk h) (z : Int32) (hz : lo ≤ sv ρ e0 → sv ρ e0 ≤ hi → z.toInt = sv ρ e0) : ∃ ρ', sMt reg gv ρ' ρ0 T loc stk h ∧ z.toInt = sv ρ' e ∧ T.2.1 = S.2.1 := by
  unfold srg at hf
  split at hf
  case isTrue q =>
    cases hf
    rw [Bool.and_eq_true] at q
    have h1 := spr_le hM q.1
    have h2 := spr_le hM q.2
    rw [sac_v] at h1
    rw [sac_v, sng_v] at h2
    exact ⟨ρ, hM, hz (by omega) (by omega), rfl⟩
  case isFalse => exact sfi_ok hf hM z
theorem swl_ok {e0 : sE} (hf : swl S e0 = some (e, T)) (hM : sMt reg gv ρ ρ0 S loc stk h) (z : Int64) (hz : -9223372036854775808 ≤ sv ρ e0 → sv ρ e0 ≤ 9223372036854775807 → z.toInt = sv ρ e0) : ∃ ρ', sMt reg gv ρ' ρ0 T loc stk h ∧ z.toInt = sv ρ' e ∧ T.2.1 = S.2.1 := by
  unfold swl at hf
  split at hf
  case isTrue q =>
    cases hf
    rw [Bool.and_eq_true] at q
    have h1 := spr_le hM q.1
    have h2 := spr_le hM q.2
    rw [sac_v] at h1
    rw [sac_v, sng_v] at h2
    exact ⟨ρ, hM, hz (by omega) (by omega), rfl⟩
  case isFalse => exact sfl_ok hf hM z
theorem snz_ok (hM : sMt reg gv ρ ρ0 S loc stk h) {y : sE} (hn : snz S y = true) : sv ρ y ≠ 0 := by
  unfold snz at hn
  rcases Bool.or_eq_true_iff.mp hn with q | q
  · have := spr_le hM q
    rw [sac_v, sng_v] at this
    omega
  · have := spr_le hM q
    rw [sac_v] at this
    omega
theorem sdv_ok {x y : sE} {lo hi z : Int} (hf : sdv S x y lo hi = some (e, T)) (hM : sMt reg gv ρ ρ0 S loc stk h) (h1 : lo ≤ z) (h2 : z ≤ hi) (hz : 0 ≤ sv ρ x → 1 ≤ sv ρ y → z = sv ρ x / sv ρ y) : ∃ ρ', sMt reg gv ρ' ρ0 T loc stk h ∧ z = sv ρ' e ∧ T.2.1 = S.2.1 := by
  have full : ∀ {e T}, sfr lo hi S [] = some (e, T) → ∃ ρ', sMt reg gv ρ' ρ0 T loc stk h ∧ z = sv ρ' e ∧ T.2.1 = S.2.1 := fun hf => by
    obtain ⟨ρ', a, b, -, -, c, -⟩ := sfr_ok hf hM h1 h2
    exact ⟨ρ', a, b.symm, c⟩
  unfold sdv at hf
  split at hf
  case isFalse => exact full hf
  case isTrue q =>
    rw [Bool.and_eq_true] at q
    have p1 := spr_le hM q.1
    have p2 := spr_le hM q.2
    rw [sac_v, sng_v] at p1
    rw [sng_v] at p2
    have hz := hz (by omega) (by omega)
    cases hc : sCo y with
    | none => rw [hc] at hf; exact full hf
    | some c =>
      cases hu : sUb S.2.2.2.1 x with
      | none => rw [hc, hu] at hf; exact full hf
      | some u =>
        rw [hc, hu] at hf
        have hc := sCo_v (ρ := ρ) hc
        have hu := sUb_le hM.2.2.2.1 hu
        have b1 : 0 ≤ z := by rw [hz]; exact Int.ediv_nonneg (by omega) (by omega)
        have b2 : z ≤ u / c := by rw [hz, hc]; exact Int.ediv_le_ediv (by omega) hu
        obtain ⟨ρ', a, b, -, -, c, -⟩ := sfr_ok hf hM b1 b2
        exact ⟨ρ', a, b.symm, c⟩
theorem srm_ok {x y : sE} {lo hi z : Int} (hf : srm S x y lo hi = some (e, T)) (hM : sMt reg gv ρ ρ0 S loc stk h) (h1 : lo ≤ z) (h2 : z ≤ hi) (hz : 0 ≤ sv ρ x → 1 ≤ sv ρ y → z = sv ρ x % sv ρ y) : ∃ ρ', sMt reg gv ρ' ρ0 T loc stk h ∧ z = sv ρ' e ∧ T.2.1 = S.2.1 := by
  have full : ∀ {e T}, sfr lo hi S [] = some (e, T) → ∃ ρ', sMt reg gv ρ' ρ0 T loc stk h ∧ z = sv ρ' e ∧ T.2.1 = S.2.1 := fun hf => by
    obtain ⟨ρ', a, b, -, -, c, -⟩ := sfr_ok hf hM h1 h2
    exact ⟨ρ', a, b.symm, c⟩
  unfold srm at hf
  split at hf
  case isFalse => exact full hf
  case isTrue q =>
    rw [Bool.and_eq_true] at q
    have p1 := spr_le hM q.1
    have p2 := spr_le hM q.2
    rw [sac_v, sng_v] at p1
    rw [sng_v] at p2
    have hz := hz (by omega) (by omega)
    split at hf
    case isTrue q3 =>
      cases hf
      have p3 := spr_le hM q3
      rw [sac_v, sadd_v] at p3
      refine ⟨ρ, hM, ?_, rfl⟩
      rw [hz]
      exact Int.emod_eq_of_lt (by omega) (by omega)
    case isFalse =>
      cases hu : sUb S.2.2.2.1 y with
      | none => rw [hu] at hf; exact full hf
      | some u =>
        rw [hu] at hf
        simp only at hf
        cases hr : sfr 0 (u - 1) S [y] with
        | none => rw [hr] at hf; cases hf
        | some q =>
          obtain ⟨r, T1⟩ := q
          rw [hr] at hf
          cases hf
          have hu := sUb_le hM.2.2.2.1 hu
          have b1 : 0 ≤ z := by rw [hz]; exact Int.emod_nonneg _ (by omega)
          have b2 : z < sv ρ y := by rw [hz]; exact Int.emod_lt_of_pos _ (by omega)
          obtain ⟨ρ', a, b, hy, -, c, -⟩ := sfr_ok hr hM b1 (by omega)
          have hy := hy y (List.mem_singleton.mpr rfl)
          refine ⟨ρ', ?_, b.symm, c⟩
          obtain ⟨m1, m2, m3, m4, m5, m6⟩ := a
          refine ⟨m1, m2, m3, m4, ?_, m6⟩
          intro c hc
          rcases List.mem_cons.mp hc with rfl | hc
          · rw [sac_v, sadd_v, b, hy]
            omega
          · exact m5 c hc
end SOPS
end
section
/-! a step on expressions: neither places nor methods -/
def spu (k n : Nat) (o : Option (sE × sS)) : Option (List (Nat × sS)) := match o with
  | some (e, T) => some [(n, (T.1, .inl e :: T.2.1.drop k, T.2.2))]
  | none => none
def spl (k n : Nat) (o : Option (sE × sS)) : Option (List (Nat × sS)) := match o with
  | some (e, T) => some [(n, (T.1, .inr (.inl e) :: T.2.1.drop k, T.2.2))]
  | none => none
/-- where a step goes -/
def sgo (reg : Nat → Nat) (gv : Nat → zH → Int) (ρ0 : Nat → Int) (L : List (Nat × sS)) (q : zN) : Prop := ∃ z ∈ L, ∃ ρ', q.1 = z.1 ∧ sMt reg gv ρ' ρ0 z.2 q.2.1 q.2.2.1 q.2.2.2
/-- a constant, by its bounds -/
def sCv (S : sS) (e : sE) : Option Int := match sLb S.2.2.2.1 e, sUb S.2.2.2.1 e with
  | some a, some b => if a = b then some a else none
  | _, _ => none
/-- two constants by f, else any int -/
def sfo (f : Int32 → Int32 → Int32) (S : sS) (x y : sE) : Option (sE × sS) := match sCv S x, sCv S y with
  | some a, some b => some (sK (f (Int32.ofInt a) (Int32.ofInt b)).toInt, S)
  | _, _ => sfi S
def so2 (i : Instr) (S : sS) (x y : sE) : Option (sE × sS) := match i with
  | .iadd => swr S (sadd x y 1)
  | .isub => swr S (sadd x y (-1))
  | .imul => (match sCv S y with
    | some c => swr S (sadd (sK 0) x c)
    | none => match sCv S x with
      | some c => swr S (sadd (sK 0) y c)
      | none => sfi S)
  | .iand => (match sCv S x, sCv S y with
    | none, some c => if 0 ≤ c then sfr 0 c S [] else sfi S
    | _, _ => sfo (fun a b => a &&& b) S x y)
  | .ior => sfo (fun a b => a ||| b) S x y
  | .ixor => sfo (fun a b => a ^^^ b) S x y
  | .ishl => sfo (fun a b => a <<< (b &&& 31)) S x y
  | .iushr => sfo zush S x y
  | .ishr => if sCv S y = some 0 then some (x, S) else sfo (fun a b => a >>> (b &&& 31)) S x y
  | .idiv => if snz S y = true then sdv S x y (-2147483648) 2147483647 else none
  | .irem => if snz S y = true then srm S x y (-2147483648) 2147483647 else none
  | _ => none
def so2L (i : Instr) (S : sS) (x y : sE) : Option (sE × sS) := match i with
  | .ladd => swl S (sadd x y 1)
  | .lsub => swl S (sadd x y (-1))
  | .lmul => sfl S
  | .land => sfl S
  | .lor => sfl S
  | _ => none
section S1OK
variable {reg : Nat → Nat} {gv : Nat → zH → Int} {ρ ρ0 : Nat → Int} {S T : sS} {loc : zL} {stk : List zV} {h : zH} {e : sE}
theorem sms_drop {reg : Nat → Nat} {ρ : Nat → Int} : ∀ (k : Nat) {l : List zV} {t : List sV}, sms reg ρ l t → sms reg ρ (l.drop k) (t.drop k)
  | 0, _, _, hm => hm
  | _ + 1, [], [], _ => trivial
  | k + 1, _ :: _, _ :: _, hm => sms_drop k hm.2
theorem sms_i {reg : Nat → Nat} {ρ : Nat → Int} {l : List zV} {e : sE} {t : List sV} (hm : sms reg ρ l (.inl e :: t)) : ∃ x r, l = .inl x :: r ∧ x.toInt = sv ρ e ∧ sms reg ρ r t := by
  match l, hm with
  | .inl x :: r, hm => exact ⟨x, r, rfl, hm.1, hm.2⟩
theorem sms_l {reg : Nat → Nat} {ρ : Nat → Int} {l : List zV} {e : sE} {t : List sV} (hm : sms reg ρ l (.inr (.inl e) :: t)) : ∃ x r, l = .inr (.inl x) :: r ∧ x.toInt = sv ρ e ∧ sms reg ρ r t := by
  match l, hm with
  | .inr (.inl x) :: r, hm => exact ⟨x, r, rfl, hm.1, hm.2⟩
theorem sms_r {reg : Nat → Nat} {ρ : Nat → Int} {l : List zV} {g : Nat} {t : List sV} (hm : sms reg ρ l (.inr (.inr g) :: t)) : ∃ k r, l = .inr (.inr k) :: r ∧ reg k = g ∧ sms reg ρ r t := by
  match l, hm with
  | .inr (.inr x) :: r, hm => exact ⟨x, r, rfl, hm.1, hm.2⟩
theorem sMt_stk {stk' : List zV} {st' : List sV} (hM : sMt reg gv ρ ρ0 S loc stk h) (hs : sms reg ρ stk' st') : sMt reg gv ρ ρ0 (S.1, st', S.2.2) loc stk' h := ⟨hM.1, hs, hM.2.2⟩
theorem spu_go {z : Int32} {k n : Nat} {L : List (Nat × sS)} {o : Option (sE × sS)} (hL : spu k n o = some L) (ho : ∀ e T, o = some (e, T) → ∃ ρ', sMt reg gv ρ' ρ0 T loc stk h ∧ z.toInt = sv ρ' e) : sgo reg gv ρ0 L (n, loc, .inl z :: stk.drop k, h) := by
  match o, hL, ho with
  | some (e, T), hL, ho =>
    cases hL
    obtain ⟨ρ', hM, hz⟩ := ho e T rfl
    exact ⟨_, List.mem_singleton.mpr rfl, ρ', rfl, sMt_stk hM ⟨hz, sms_drop k hM.2.1⟩⟩
theorem spl_go {z : Int64} {k n : Nat} {L : List (Nat × sS)} {o : Option (sE × sS)} (hL : spl k n o = some L) (ho : ∀ e T, o = some (e, T) → ∃ ρ', sMt reg gv ρ' ρ0 T loc stk h ∧ z.toInt = sv ρ' e) : sgo reg gv ρ0 L (n, loc, .inr (.inl z) :: stk.drop k, h) := by
  match o, hL, ho with
  | some (e, T), hL, ho =>
    cases hL
    obtain ⟨ρ', hM, hz⟩ := ho e T rfl
    exact ⟨_, List.mem_singleton.mpr rfl, ρ', rfl, sMt_stk hM ⟨hz, sms_drop k hM.2.1⟩⟩
theorem sk2 {α : Type} {p : (Nat → Int) → Prop} {q : (Nat → Int) → Prop} {r : Prop} (hx : ∃ ρ', p ρ' ∧ q ρ' ∧ r) : ∃ ρ', p ρ' ∧ q ρ' := by
  obtain ⟨ρ', a, b, _⟩ := hx
  exact ⟨ρ', a, b⟩
theorem sn0 {y : Int32} (hy : y.toInt ≠ 0) : ¬ y = 0 := fun e => hy (by rw [e]; rfl)
theorem sn0L {y : Int64} (hy : y.toInt ≠ 0) : ¬ y = 0 := fun e => hy (by rw [e]; rfl)
theorem sCv_v (hM : sMt reg gv ρ ρ0 S loc stk h) {e : sE} {c : Int} (hc : sCv S e = some c) : sv ρ e = c := by
  unfold sCv at hc
  cases ha : sLb S.2.2.2.1 e with
  | none => rw [ha] at hc; cases hc
  | some a =>
    cases hb : sUb S.2.2.2.1 e with
    | none => rw [ha, hb] at hc; cases hc
    | some b =>
      rw [ha, hb] at hc
      simp only at hc
      split at hc
      case isFalse => cases hc
      case isTrue q =>
        have hc := Option.some.inj hc
        have h1 := sLb_le hM.2.2.2.1 ha
        have h2 := sUb_le hM.2.2.2.1 hb
        omega
theorem sfo_v {f : Int32 → Int32 → Int32} {x y : Int32} {ex ey : sE} (hM : sMt reg gv ρ ρ0 S loc stk h) (hx : x.toInt = sv ρ ex) (hy : y.toInt = sv ρ ey) (ho : sfo f S ex ey = some (e, T)) : ∃ ρ', sMt reg gv ρ' ρ0 T loc stk h ∧ (f x y).toInt = sv ρ' e ∧ T.2.1 = S.2.1 := by
  unfold sfo at ho
  cases hc : sCv S ex with
  | none => rw [hc] at ho; exact sfi_ok ho hM _
  | some a =>
    cases hd : sCv S ey with
    | none => rw [hc, hd] at ho; exact sfi_ok ho hM _
    | some b =>
      rw [hc, hd] at ho
      cases ho
      have h1 := sCv_v hM hc
      have h2 := sCv_v hM hd
      have ex : x = Int32.ofInt a := by rw [← h1, ← hx, Int32.ofInt_toInt]
      have ey : y = Int32.ofInt b := by rw [← h2, ← hy, Int32.ofInt_toInt]
      refine ⟨ρ, hM, ?_, rfl⟩
      rw [sK_v, ex, ey]
theorem so2_ok {i : Instr} {pc : Nat} {x y : Int32} {r : List zV} {ex ey : sE} {L : List (Nat × sS)} (hM : sMt reg gv ρ ρ0 S loc (.inl y :: .inl x :: r) h) (hx : x.toInt = sv ρ ex) (hy : y.toInt = sv ρ ey) (hL : spu 2 (pc + 1) (so2 i S ex ey) = some L) : ∃ q, zf1 i pc loc (.inl y :: .inl x :: r) h = some q ∧ q.2.2.2 = h ∧ sgo reg gv ρ0 L q := by
  cases i
  case iadd => exact ⟨_, rfl, rfl, spu_go hL (fun e T ho => sk2 (α := Nat) (swr_ok ho hM (x + y) (fun h1 h2 => by rw [sadd_v] at h1 h2 ⊢; rw [sadd32 _ _ (by omega) (by omega)]; omega)))⟩
  case isub => exact ⟨_, rfl, rfl, spu_go hL (fun e T ho => sk2 (α := Nat) (swr_ok ho hM (x - y) (fun h1 h2 => by rw [sadd_v] at h1 h2 ⊢; rw [ssub32 _ _ (by omega) (by omega)]; omega)))⟩
  case imul =>
    refine ⟨_, rfl, rfl, spu_go (stk := .inl y :: .inl x :: r) hL (fun e T ho => sk2 (α := Nat) (?_ : ∃ ρ', _ ∧ (x * y).toInt = _ ∧ T.2.1 = S.2.1))⟩
    simp only [so2] at ho
    cases hc : sCv S ey with
    | some c =>
      rw [hc] at ho
      have hc := sCv_v hM hc
      exact swr_ok ho hM (x * y) (fun h1 h2 => by
        rw [sadd_v, sK_v] at h1 h2 ⊢
        have e1 : x.toInt * y.toInt = c * sv ρ ex := by rw [hx, hy, hc, Int.mul_comm]
        rw [smul32 _ _ (by omega) (by omega)]
        omega)
    | none =>
      rw [hc] at ho
      simp only at ho
      cases hc2 : sCv S ex with
      | some c =>
        rw [hc2] at ho
        have hc2 := sCv_v hM hc2
        exact swr_ok ho hM (x * y) (fun h1 h2 => by
          rw [sadd_v, sK_v] at h1 h2 ⊢
          have e1 : x.toInt * y.toInt = c * sv ρ ey := by rw [hx, hy, hc2]
          rw [smul32 _ _ (by omega) (by omega)]
          omega)
      | none =>
        rw [hc2] at ho
        exact sfi_ok ho hM _
  case iand =>
    refine ⟨_, rfl, rfl, spu_go (stk := .inl y :: .inl x :: r) hL (fun e T ho => sk2 (α := Nat) (?_ : ∃ ρ', _ ∧ (x &&& y).toInt = _ ∧ T.2.1 = S.2.1))⟩
    simp only [so2] at ho
    split at ho
    case h_1 c hcx hcy =>
      have hc := sCv_v hM hcy
      split at ho
      · have := sand32 x y (by omega)
        obtain ⟨ρ', a, b, -, -, c2, -⟩ := sfr_ok ho hM this.1 (show _ ≤ c by omega)
        exact ⟨ρ', a, b.symm, c2⟩
      · exact sfi_ok ho hM _
    case h_2 => exact sfo_v hM hx hy ho
  case ior => exact ⟨_, rfl, rfl, spu_go (stk := .inl y :: .inl x :: r) hL (fun e T ho => sk2 (α := Nat) (sfo_v hM hx hy ho))⟩
  case ixor => exact ⟨_, rfl, rfl, spu_go (stk := .inl y :: .inl x :: r) hL (fun e T ho => sk2 (α := Nat) (sfo_v hM hx hy ho))⟩
  case ishl => exact ⟨_, rfl, rfl, spu_go (stk := .inl y :: .inl x :: r) hL (fun e T ho => sk2 (α := Nat) (sfo_v (f := fun a b => a <<< (b &&& 31)) hM hx hy ho))⟩
  case iushr => exact ⟨_, rfl, rfl, spu_go (stk := .inl y :: .inl x :: r) hL (fun e T ho => sk2 (α := Nat) (sfo_v (f := zush) hM hx hy ho))⟩
  case ishr =>
    refine ⟨_, rfl, rfl, spu_go (stk := .inl y :: .inl x :: r) hL (fun e T ho => sk2 (α := Nat) (?_ : ∃ ρ', _ ∧ (x >>> (y &&& 31)).toInt = _ ∧ T.2.1 = S.2.1))⟩
    simp only [so2] at ho
    split at ho
    case isTrue q =>
      cases ho
      have q := sCv_v hM q
      have e0 : y = 0 := Int32.toInt_inj.mp (by rw [hy, q]; rfl)
      have e1 : x >>> (y &&& 31) = x := by rw [e0, sshr0]
      rw [e1]
      exact ⟨ρ, hM, hx, rfl⟩
    case isFalse => exact sfo_v (f := fun a b => a >>> (b &&& 31)) hM hx hy ho
  case idiv =>
    simp only [so2] at hL
    by_cases hn : snz S ey = true
    · rw [if_pos hn] at hL
      have hnz := snz_ok hM hn
      rw [← hy] at hnz
      refine ⟨(pc + 1, loc, .inl (x / y) :: r, h), ?_, rfl, spu_go hL (fun e T ho => sk2 (α := Nat) (sdv_ok ho hM (si32 (x / y)).1 (si32 (x / y)).2 (fun h1 h2 => by rw [sdiv32 x y (by omega) (by omega), hx, hy])))⟩
      simp only [zf1, zo2, zgd]
      rw [if_pos (decide_eq_true (sn0 hnz))]
    · rw [if_neg hn] at hL; cases hL
  case irem =>
    simp only [so2] at hL
    by_cases hn : snz S ey = true
    · rw [if_pos hn] at hL
      have hnz := snz_ok hM hn
      rw [← hy] at hnz
      refine ⟨(pc + 1, loc, .inl (x - x / y * y) :: r, h), ?_, rfl, spu_go hL (fun e T ho => sk2 (α := Nat) (srm_ok ho hM (si32 (x - x / y * y)).1 (si32 (x - x / y * y)).2 (fun h1 h2 => by rw [srem32 x y (by omega) (by omega), hx, hy])))⟩
      simp only [zf1, zo2, zgd]
      rw [if_pos (decide_eq_true (sn0 hnz))]
    · rw [if_neg hn] at hL; cases hL
  all_goals cases hL
theorem so2L_ok {i : Instr} {pc : Nat} {x y : Int64} {r : List zV} {ex ey : sE} {L : List (Nat × sS)} (hM : sMt reg gv ρ ρ0 S loc (.inr (.inl y) :: .inr (.inl x) :: r) h) (hx : x.toInt = sv ρ ex) (hy : y.toInt = sv ρ ey) (hL : spl 2 (pc + 1) (so2L i S ex ey) = some L) : ∃ q, zf1 i pc loc (.inr (.inl y) :: .inr (.inl x) :: r) h = some q ∧ q.2.2.2 = h ∧ sgo reg gv ρ0 L q := by
  cases i
  case ladd => exact ⟨_, rfl, rfl, spl_go hL (fun e T ho => sk2 (α := Nat) (swl_ok ho hM (x + y) (fun h1 h2 => by rw [sadd_v] at h1 h2 ⊢; rw [sadd64 _ _ (by omega) (by omega)]; omega)))⟩
  case lsub => exact ⟨_, rfl, rfl, spl_go hL (fun e T ho => sk2 (α := Nat) (swl_ok ho hM (x - y) (fun h1 h2 => by rw [sadd_v] at h1 h2 ⊢; rw [ssub64 _ _ (by omega) (by omega)]; omega)))⟩
  case lmul => exact ⟨_, rfl, rfl, spl_go hL (fun e T ho => sk2 (α := Nat) (sfl_ok ho hM _))⟩
  case land => exact ⟨_, rfl, rfl, spl_go hL (fun e T ho => sk2 (α := Nat) (sfl_ok ho hM _))⟩
  case lor => exact ⟨_, rfl, rfl, spl_go hL (fun e T ho => sk2 (α := Nat) (sfl_ok ho hM _))⟩
  all_goals cases hL
end S1OK
end
section
/-! a step on expressions: all that touches neither places nor methods -/
def sgl (S : sS) (k : Nat) : Option sV := (S.1.find? (fun p => p.1 == k)).map (·.2)
def slg : sV → Bool
  | .inr (.inl _) => true
  | _ => false
def spt1 (S : sS) (k : Nat) (v : sV) : List (Nat × sV) := (k, v) :: S.1.filter (fun p => !(p.1 == k) && !(p.1 + 1 == k && slg p.2))
def spt2 (S : sS) (k : Nat) (v : sV) : List (Nat × sV) := (k, v) :: S.1.filter (fun p => !(p.1 == k) && (!(p.1 == k + 1) && !(p.1 + 1 == k && slg p.2)))
def sli (S : sS) (k n : Nat) : Option (List (Nat × sS)) := match sgl S k with
  | some (.inl e) => some [(n, (S.1, .inl e :: S.2.1, S.2.2))]
  | _ => none
def sll (S : sS) (k n : Nat) : Option (List (Nat × sS)) := match sgl S k with
  | some (.inr (.inl e)) => some [(n, (S.1, .inr (.inl e) :: S.2.1, S.2.2))]
  | _ => none
def slr (S : sS) (k n : Nat) : Option (List (Nat × sS)) := match sgl S k with
  | some (.inr (.inr e)) => some [(n, (S.1, .inr (.inr e) :: S.2.1, S.2.2))]
  | _ => none
def ssi (S : sS) (k n : Nat) : Option (List (Nat × sS)) := match S.2.1 with
  | .inl e :: r => some [(n, (spt1 S k (.inl e), r, S.2.2))]
  | _ => none
def ssr (S : sS) (k n : Nat) : Option (List (Nat × sS)) := match S.2.1 with
  | .inr (.inr e) :: r => some [(n, (spt1 S k (.inr (.inr e)), r, S.2.2))]
  | _ => none
def ssl (S : sS) (k n : Nat) : Option (List (Nat × sS)) := match S.2.1 with
  | .inr (.inl e) :: r => some [(n, (spt2 S k (.inr (.inl e)), r, S.2.2))]
  | _ => none
def sbr (S : sS) (c : ClassFile.Cond) (d : sE) (t n : Nat) : List (Nat × sS) := ((scnd c S d).toList.map (fun T => (t, T))) ++ ((scnd (scn c) S d).toList.map (fun T => (n, T)))
def s1 (i : Instr) (pc : Nat) (S : sS) : Option (List (Nat × sS)) := match i with
  | .iconst n => if -2147483648 ≤ n ∧ n ≤ 2147483647 then some [(pc + 1, (S.1, .inl (sK n) :: S.2.1, S.2.2))] else none
  | .bipush n => if -128 ≤ n ∧ n ≤ 127 then some [(pc + 2, (S.1, .inl (sK n) :: S.2.1, S.2.2))] else none
  | .sipush n => if -32768 ≤ n ∧ n ≤ 32767 then some [(pc + 3, (S.1, .inl (sK n) :: S.2.1, S.2.2))] else none
  | .lconst n => if n.val ≤ 1 then some [(pc + 1, (S.1, .inr (.inl (sK n.val)) :: S.2.1, S.2.2))] else none
  | .iload_n k => sli S k.val (pc + 1)
  | .iload k => sli S k (pc + 2)
  | .lload_n k => sll S k.val (pc + 1)
  | .lload k => sll S k (pc + 2)
  | .aload_n k => slr S k.val (pc + 1)
  | .aload k => slr S k (pc + 2)
  | .ineg => (match S.2.1 with
    | .inl x :: _ => spu 1 (pc + 1) (swr S (sng x))
    | _ => none)
  | .i2l => (match S.2.1 with
    | .inl x :: r => some [(pc + 1, (S.1, .inr (.inl x) :: r, S.2.2))]
    | _ => none)
  | .l2i => (match S.2.1 with
    | .inr (.inl x) :: _ => spu 1 (pc + 1) (swr S x)
    | _ => none)
  | .i2c => (match S.2.1 with
    | .inl x :: _ => spu 1 (pc + 1) (srg S x 0 65535)
    | _ => none)
  | .dup => (match S.2.1 with
    | v :: r => if slg v = true then none else some [(pc + 1, (S.1, v :: v :: r, S.2.2))]
    | _ => none)
  | .pop => (match S.2.1 with
    | v :: r => if slg v = true then none else some [(pc + 1, (S.1, r, S.2.2))]
    | _ => none)
  | .dup2 => (match S.2.1 with
    | v :: w :: r => if (slg v || slg w) = true then none else some [(pc + 1, (S.1, v :: w :: v :: w :: r, S.2.2))]
    | _ => none)
  | .goto off => if 0 ≤ (pc : Int) + off then some [(ztgt pc off, S)] else none
  | .ifCond c off => (match S.2.1 with
    | .inl x :: r => if 0 ≤ (pc : Int) + off then some (sbr (S.1, r, S.2.2) c x (ztgt pc off) (pc + 3)) else none
    | _ => none)
  | .if_icmp c off => (match S.2.1 with
    | .inl y :: .inl x :: r => if 0 ≤ (pc : Int) + off then some (sbr (S.1, r, S.2.2) c (sadd x y (-1)) (ztgt pc off) (pc + 3)) else none
    | _ => none)
  | .istore_n k => ssi S k.val (pc + 1)
  | .istore k => ssi S k (pc + 2)
  | .astore_n k => ssr S k.val (pc + 1)
  | .astore k => ssr S k (pc + 2)
  | .lstore_n k => ssl S k.val (pc + 1)
  | .lstore k => ssl S k (pc + 2)
  | .iinc k n => (match sgl S k with
    | some (.inl e) => if -2147483648 ≤ n ∧ n ≤ 2147483647 then (match swr S (sac e n) with
      | some (v, T) => some [(pc + 3, (spt1 T k (.inl v), T.2.1, T.2.2))]
      | none => none) else none
    | _ => none)
  | i => (match S.2.1 with
    | .inl y :: .inl x :: _ => spu 2 (pc + 1) (so2 i S x y)
    | .inr (.inl y) :: .inr (.inl x) :: _ => spl 2 (pc + 1) (so2L i S x y)
    | _ => none)
section S1OK2
variable {reg : Nat → Nat} {gv : Nat → zH → Int} {ρ ρ0 : Nat → Int} {S T : sS} {loc : zL} {stk : List zV} {h : zH} {e : sE}
theorem zget_put1 {loc : zL} {k : Nat} {v : zV} : zget (zput1 loc k v) k = some v := by
  unfold zget zput1
  rw [List.find?_cons_of_pos (by simp)]
  rfl
theorem zget_put2 {loc : zL} {k : Nat} {v : zV} : zget (zput2 loc k v) k = some v := by
  unfold zget zput2
  rw [List.find?_cons_of_pos (by simp)]
  rfl
theorem zfind_f {f : Nat × zV → Bool} {j : Nat} {w : zV} : ∀ {loc : zL}, zget loc j = some w → f (j, w) = true → (loc.filter f).find? (fun q => q.1 == j) = some (j, w)
  | [], e, _ => by cases e
  | q :: l, e, hf => by
    by_cases hq : q.1 = j
    · have : zget (q :: l) j = some q.2 := by
        unfold zget
        rw [List.find?_cons_of_pos (by simp [hq])]
        rfl
      rw [this] at e
      have e2 : q = (j, w) := by
        cases e
        rw [← hq]
      rw [e2, List.filter_cons_of_pos hf, List.find?_cons_of_pos (by simp)]
    · have e2 : zget l j = some w := by
        unfold zget at e ⊢
        rw [List.find?_cons_of_neg (by simp [hq])] at e
        exact e
      have ih := zfind_f e2 hf
      by_cases hfq : f q = true
      · rw [List.filter_cons_of_pos hfq, List.find?_cons_of_neg (by simp [hq])]
        exact ih
      · rw [List.filter_cons_of_neg hfq]
        exact ih
theorem zget_put1o {loc : zL} {k j : Nat} {v w : zV} (e : zget loc j = some w) (hj : j ≠ k) (hc : ¬ (j + 1 = k ∧ zcat w = 2)) : zget (zput1 loc k v) j = some w := by
  unfold zget zput1
  rw [List.find?_cons_of_neg (by simp; exact fun q => hj q.symm), zfind_f e]
  · rfl
  · simp only [Bool.and_eq_true, Bool.not_eq_true', beq_eq_false_iff_ne, ne_eq, Bool.and_eq_false_iff]
    refine ⟨hj, ?_⟩
    by_cases h1 : j + 1 = k
    · exact Or.inr (fun q => hc ⟨h1, q⟩)
    · exact Or.inl h1
theorem zget_put2o {loc : zL} {k j : Nat} {v w : zV} (e : zget loc j = some w) (hj : j ≠ k) (hj2 : j ≠ k + 1) (hc : ¬ (j + 1 = k ∧ zcat w = 2)) : zget (zput2 loc k v) j = some w := by
  unfold zget zput2
  rw [List.find?_cons_of_neg (by simp; exact fun q => hj q.symm), zfind_f e]
  · rfl
  · simp only [Bool.and_eq_true, Bool.not_eq_true', beq_eq_false_iff_ne, ne_eq, Bool.and_eq_false_iff]
    refine ⟨hj, hj2, ?_⟩
    by_cases h1 : j + 1 = k
    · exact Or.inr (fun q => hc ⟨h1, q⟩)
    · exact Or.inl h1
theorem sm_cat {v : zV} {s : sV} (hm : sm reg ρ v s) : (slg s = true ↔ zcat v = 2) ∧ (slg s = false ↔ zcat v = 1) := by
  match v, s, hm with
  | .inl _, .inl _, _ => exact ⟨⟨(fun q => (by cases q)), (fun q => (by cases q))⟩, ⟨fun _ => rfl, fun _ => rfl⟩⟩
  | .inr (.inl _), .inr (.inl _), _ => exact ⟨⟨fun _ => rfl, fun _ => rfl⟩, ⟨(fun q => (by cases q)), (fun q => (by cases q))⟩⟩
  | .inr (.inr _), .inr (.inr _), _ => exact ⟨⟨(fun q => (by cases q)), (fun q => (by cases q))⟩, ⟨fun _ => rfl, fun _ => rfl⟩⟩
theorem spt1_ok {k : Nat} {v : zV} {s : sV} (hl : ∀ p ∈ S.1, ∃ v, zget loc p.1 = some v ∧ sm reg ρ v p.2) (hv : sm reg ρ v s) : ∀ p ∈ spt1 S k s, ∃ w, zget (zput1 loc k v) p.1 = some w ∧ sm reg ρ w p.2 := by
  intro p hp
  unfold spt1 at hp
  rcases List.mem_cons.mp hp with rfl | hp
  · exact ⟨v, zget_put1, hv⟩
  · obtain ⟨hp, hf⟩ := List.mem_filter.mp hp
    obtain ⟨w, e1, e2⟩ := hl p hp
    simp only [Bool.and_eq_true, Bool.not_eq_true', beq_eq_false_iff_ne, ne_eq, Bool.and_eq_false_iff] at hf
    refine ⟨w, zget_put1o e1 hf.1 (fun q => ?_), e2⟩
    rcases hf.2 with f | f
    · exact f q.1
    · rw [(sm_cat e2).1.mpr q.2] at f
      cases f
theorem spt2_ok {k : Nat} {v : zV} {s : sV} (hl : ∀ p ∈ S.1, ∃ v, zget loc p.1 = some v ∧ sm reg ρ v p.2) (hv : sm reg ρ v s) : ∀ p ∈ spt2 S k s, ∃ w, zget (zput2 loc k v) p.1 = some w ∧ sm reg ρ w p.2 := by
  intro p hp
  unfold spt2 at hp
  rcases List.mem_cons.mp hp with rfl | hp
  · exact ⟨v, zget_put2, hv⟩
  · obtain ⟨hp, hf⟩ := List.mem_filter.mp hp
    obtain ⟨w, e1, e2⟩ := hl p hp
    simp only [Bool.and_eq_true, Bool.not_eq_true', beq_eq_false_iff_ne, ne_eq, Bool.and_eq_false_iff] at hf
    refine ⟨w, zget_put2o e1 hf.1 hf.2.1 (fun q => ?_), e2⟩
    rcases hf.2.2 with f | f
    · exact f q.1
    · rw [(sm_cat e2).1.mpr q.2] at f
      cases f
theorem sgl_ok {k : Nat} {s : sV} (hM : sMt reg gv ρ ρ0 S loc stk h) (e : sgl S k = some s) : ∃ v, zget loc k = some v ∧ sm reg ρ v s := by
  unfold sgl at e
  cases hf : S.1.find? (fun p => p.1 == k) with
  | none => rw [hf] at e; cases e
  | some p =>
    rw [hf] at e
    cases e
    have h1 : p.1 = k := by have := List.find?_some hf; simpa using this
    obtain ⟨v, e1, e2⟩ := hM.1 p (List.mem_of_find?_eq_some hf)
    rw [h1] at e1
    exact ⟨v, e1, e2⟩
theorem sbr_ok {c : ClassFile.Cond} {d : sE} {t n : Nat} (hM : sMt reg gv ρ ρ0 S loc stk h) : (scT c (sv ρ d) → sgo reg gv ρ0 (sbr S c d t n) (t, loc, stk, h)) ∧ (¬ scT c (sv ρ d) → sgo reg gv ρ0 (sbr S c d t n) (n, loc, stk, h)) := by
  constructor
  · intro hc
    obtain ⟨S', e1, e2, -⟩ := scnd_ok c hM hc
    refine ⟨(t, S'), ?_, ρ, rfl, e2⟩
    unfold sbr
    rw [e1]
    exact List.mem_append_left _ (List.mem_singleton.mpr rfl)
  · intro hc
    obtain ⟨S', e1, e2, -⟩ := scnd_ok (scn c) hM (scn_ok hc)
    refine ⟨(n, S'), ?_, ρ, rfl, e2⟩
    unfold sbr
    rw [e1]
    exact List.mem_append_right _ (List.mem_singleton.mpr rfl)
theorem zk1_T {c : ClassFile.Cond} {x : Int32} : zk1 c x = true ↔ scT c x.toInt := by
  have h0 : (0 : Int32).toInt = 0 := rfl
  cases c <;> simp only [zk1, scT, decide_eq_true_eq]
  · rw [← Int32.toInt_inj, h0]
  · rw [← Int32.toInt_inj, h0]
  · rw [Int32.lt_iff_toInt_lt, h0]
  · rw [Int32.le_iff_toInt_le, h0]
  · rw [Int32.lt_iff_toInt_lt, h0]
  · rw [Int32.le_iff_toInt_le, h0]
theorem zk2_T {c : ClassFile.Cond} {x y : Int32} : zk2 c x y = true ↔ scT c (x.toInt - y.toInt) := by
  cases c <;> simp only [zk2, scT, decide_eq_true_eq]
  · rw [← Int32.toInt_inj]; omega
  · rw [← Int32.toInt_inj]; omega
  · rw [Int32.lt_iff_toInt_lt]; omega
  · rw [Int32.le_iff_toInt_le]; omega
  · rw [Int32.lt_iff_toInt_lt]; omega
  · rw [Int32.le_iff_toInt_le]; omega
theorem sli_ok {k n : Nat} {L : List (Nat × sS)} (hM : sMt reg gv ρ ρ0 S loc stk h) (hL : sli S k n = some L) : ∃ q, zog loc k (fun v => zgd (zbI v) (some (n, loc, v :: stk, h))) = some q ∧ q.2.2.2 = h ∧ sgo reg gv ρ0 L q := by
  unfold sli at hL
  cases hg : sgl S k with
  | none => rw [hg] at hL; cases hL
  | some s =>
    obtain ⟨v, e1, e2⟩ := sgl_ok hM hg
    match s, v, e2, hg with
    | .inl e, .inl x, e2, hg =>
      rw [hg] at hL
      cases hL
      refine ⟨(n, loc, .inl x :: stk, h), ?_, rfl, _, List.mem_singleton.mpr rfl, ρ, rfl, sMt_stk hM ⟨e2, hM.2.1⟩⟩
      unfold zog
      rw [e1]
      rfl
    | .inr (.inl e), _, _, hg => rw [hg] at hL; cases hL
    | .inr (.inr e), _, _, hg => rw [hg] at hL; cases hL
theorem sll_ok {k n : Nat} {L : List (Nat × sS)} (hM : sMt reg gv ρ ρ0 S loc stk h) (hL : sll S k n = some L) : ∃ q, zog loc k (fun v => zgd (zbL v) (some (n, loc, v :: stk, h))) = some q ∧ q.2.2.2 = h ∧ sgo reg gv ρ0 L q := by
  unfold sll at hL
  cases hg : sgl S k with
  | none => rw [hg] at hL; cases hL
  | some s =>
    obtain ⟨v, e1, e2⟩ := sgl_ok hM hg
    match s, v, e2, hg with
    | .inr (.inl e), .inr (.inl x), e2, hg =>
      rw [hg] at hL
      cases hL
      refine ⟨(n, loc, .inr (.inl x) :: stk, h), ?_, rfl, _, List.mem_singleton.mpr rfl, ρ, rfl, sMt_stk hM ⟨e2, hM.2.1⟩⟩
      unfold zog
      rw [e1]
      rfl
    | .inl e, _, _, hg => rw [hg] at hL; cases hL
    | .inr (.inr e), _, _, hg => rw [hg] at hL; cases hL
theorem slr_ok {k n : Nat} {L : List (Nat × sS)} (hM : sMt reg gv ρ ρ0 S loc stk h) (hL : slr S k n = some L) : ∃ q, zog loc k (fun v => zgd (zbR v) (some (n, loc, v :: stk, h))) = some q ∧ q.2.2.2 = h ∧ sgo reg gv ρ0 L q := by
  unfold slr at hL
  cases hg : sgl S k with
  | none => rw [hg] at hL; cases hL
  | some s =>
    obtain ⟨v, e1, e2⟩ := sgl_ok hM hg
    match s, v, e2, hg with
    | .inr (.inr e), .inr (.inr x), e2, hg =>
      rw [hg] at hL
      cases hL
      refine ⟨(n, loc, .inr (.inr x) :: stk, h), ?_, rfl, _, List.mem_singleton.mpr rfl, ρ, rfl, sMt_stk hM ⟨e2, hM.2.1⟩⟩
      unfold zog
      rw [e1]
      rfl
    | .inl e, _, _, hg => rw [hg] at hL; cases hL
    | .inr (.inl e), _, _, hg => rw [hg] at hL; cases hL
theorem ssi_ok {k n : Nat} {L : List (Nat × sS)} (hM : sMt reg gv ρ ρ0 S loc stk h) (hL : ssi S k n = some L) : ∃ q, zo1 stk (fun x r => some (n, zput1 loc k (.inl x), r, h)) = some q ∧ q.2.2.2 = h ∧ sgo reg gv ρ0 L q := by
  unfold ssi at hL
  have hs := hM.2.1
  match hst : S.2.1, hL, hs with
  | .inl e :: r, hL, hs =>
    cases hL
    obtain ⟨x, r', rfl, e1, e2⟩ := sms_i hs
    exact ⟨_, rfl, rfl, _, List.mem_singleton.mpr rfl, ρ, rfl, spt1_ok hM.1 e1, e2, hM.2.2⟩
theorem ssr_ok {k n : Nat} {L : List (Nat × sS)} (hM : sMt reg gv ρ ρ0 S loc stk h) (hL : ssr S k n = some L) : ∃ q, zoR1 stk (fun x r => some (n, zput1 loc k (.inr (.inr x)), r, h)) = some q ∧ q.2.2.2 = h ∧ sgo reg gv ρ0 L q := by
  unfold ssr at hL
  have hs := hM.2.1
  match hst : S.2.1, hL, hs with
  | .inr (.inr e) :: r, hL, hs =>
    cases hL
    obtain ⟨x, r', rfl, e1, e2⟩ := sms_r hs
    exact ⟨_, rfl, rfl, _, List.mem_singleton.mpr rfl, ρ, rfl, spt1_ok hM.1 e1, e2, hM.2.2⟩
theorem ssl_ok {k n : Nat} {L : List (Nat × sS)} (hM : sMt reg gv ρ ρ0 S loc stk h) (hL : ssl S k n = some L) : ∃ q, zoL1 stk (fun x r => some (n, zput2 loc k (.inr (.inl x)), r, h)) = some q ∧ q.2.2.2 = h ∧ sgo reg gv ρ0 L q := by
  unfold ssl at hL
  have hs := hM.2.1
  match hst : S.2.1, hL, hs with
  | .inr (.inl e) :: r, hL, hs =>
    cases hL
    obtain ⟨x, r', rfl, e1, e2⟩ := sms_l hs
    exact ⟨_, rfl, rfl, _, List.mem_singleton.mpr rfl, ρ, rfl, spt2_ok hM.1 e1, e2, hM.2.2⟩
theorem sbin_ok {i : Instr} {pc : Nat} {L : List (Nat × sS)} (hM : sMt reg gv ρ ρ0 S loc stk h) (hL : (match S.2.1 with
    | .inl y :: .inl x :: _ => spu 2 (pc + 1) (so2 i S x y)
    | .inr (.inl y) :: .inr (.inl x) :: _ => spl 2 (pc + 1) (so2L i S x y)
    | _ => none) = some L) : ∃ q, zf1 i pc loc stk h = some q ∧ q.2.2.2 = h ∧ sgo reg gv ρ0 L q := by
  have hs := hM.2.1
  match hst : S.2.1, hL, hs with
  | .inl y :: .inl x :: r, hL, hs =>
    obtain ⟨y', r1, rfl, e1, e2⟩ := sms_i hs
    obtain ⟨x', r2, rfl, e3, e4⟩ := sms_i e2
    exact so2_ok hM e3 e1 hL
  | .inr (.inl y) :: .inr (.inl x) :: r, hL, hs =>
    obtain ⟨y', r1, rfl, e1, e2⟩ := sms_l hs
    obtain ⟨x', r2, rfl, e3, e4⟩ := sms_l e2
    exact so2L_ok hM e3 e1 hL
set_option maxHeartbeats 2000000 in
theorem s1_ok {i : Instr} {pc : Nat} {L : List (Nat × sS)} (hM : sMt reg gv ρ ρ0 S loc stk h) (hL : s1 i pc S = some L) : ∃ q, zf1 i pc loc stk h = some q ∧ q.2.2.2 = h ∧ sgo reg gv ρ0 L q := by
  have hs := hM.2.1
  cases i
  case iconst n =>
    simp only [s1] at hL
    split at hL
    case isFalse => cases hL
    case isTrue q =>
      cases hL
      exact ⟨_, rfl, rfl, _, List.mem_singleton.mpr rfl, ρ, rfl, sMt_stk hM ⟨by show (Int32.ofInt n).toInt = _; rw [sK_v]; exact so32 q.1 q.2, hs⟩⟩
  case bipush n =>
    simp only [s1] at hL
    split at hL
    case isFalse => cases hL
    case isTrue q =>
      cases hL
      exact ⟨_, rfl, rfl, _, List.mem_singleton.mpr rfl, ρ, rfl, sMt_stk hM ⟨by show ((Int8.ofInt n).toInt32).toInt = _; rw [sK_v]; exact so8 q.1 q.2, hs⟩⟩
  case sipush n =>
    simp only [s1] at hL
    split at hL
    case isFalse => cases hL
    case isTrue q =>
      cases hL
      exact ⟨_, rfl, rfl, _, List.mem_singleton.mpr rfl, ρ, rfl, sMt_stk hM ⟨by show ((Int16.ofInt n).toInt32).toInt = _; rw [sK_v]; exact so16 q.1 q.2, hs⟩⟩
  case lconst n =>
    simp only [s1] at hL
    split at hL
    case isFalse => cases hL
    case isTrue q =>
      cases hL
      refine ⟨_, rfl, rfl, _, List.mem_singleton.mpr rfl, ρ, rfl, sMt_stk hM ⟨?_, hs⟩⟩
      show (Int64.ofNat n.val).toInt = _
      rw [sK_v]
      have : n.val = 0 ∨ n.val = 1 := by omega
      rcases this with q | q <;> rw [q] <;> rfl
  case iload_n k => exact sli_ok hM hL
  case iload k => exact sli_ok hM hL
  case lload_n k => exact sll_ok hM hL
  case lload k => exact sll_ok hM hL
  case aload_n k => exact slr_ok hM hL
  case aload k => exact slr_ok hM hL
  case istore_n k => exact ssi_ok hM hL
  case istore k => exact ssi_ok hM hL
  case lstore_n k => exact ssl_ok hM hL
  case lstore k => exact ssl_ok hM hL
  case astore_n k => exact ssr_ok hM hL
  case astore k => exact ssr_ok hM hL
  case ineg =>
    simp only [s1] at hL
    match hst : S.2.1, hL, hs with
    | .inl x :: r, hL, hs =>
      obtain ⟨x', r1, rfl, e1, e2⟩ := sms_i hs
      exact ⟨_, rfl, rfl, spu_go (stk := .inl x' :: r1) hL (fun e T ho => sk2 (α := Nat) (swr_ok ho hM (-x') (fun h1 h2 => by rw [sng_v] at h1 h2 ⊢; rw [sneg32 _ (by omega) (by omega)]; omega)))⟩
  case i2l =>
    simp only [s1] at hL
    match hst : S.2.1, hL, hs with
    | .inl x :: r, hL, hs =>
      obtain ⟨x', r1, rfl, e1, e2⟩ := sms_i hs
      cases hL
      exact ⟨_, rfl, rfl, _, List.mem_singleton.mpr rfl, ρ, rfl, sMt_stk hM ⟨by show (x'.toInt64).toInt = _; rw [Int32.toInt_toInt64]; exact e1, e2⟩⟩
  case l2i =>
    simp only [s1] at hL
    match hst : S.2.1, hL, hs with
    | .inr (.inl x) :: r, hL, hs =>
      obtain ⟨x', r1, rfl, e1, e2⟩ := sms_l hs
      exact ⟨_, rfl, rfl, spu_go (stk := .inr (.inl x') :: r1) hL (fun e T ho => sk2 (α := Nat) (swr_ok ho hM (x'.toInt32) (fun h1 h2 => by rw [Int64.toInt_toInt32, e1]; exact sw32 h1 h2)))⟩
  case i2c =>
    simp only [s1] at hL
    match hst : S.2.1, hL, hs with
    | .inl x :: r, hL, hs =>
      obtain ⟨x', r1, rfl, e1, e2⟩ := sms_i hs
      exact ⟨_, rfl, rfl, spu_go (stk := .inl x' :: r1) hL (fun e T ho => sk2 (α := Nat) (srg_ok ho hM _ (fun h1 h2 => by rw [← e1]; exact si2c x' (by omega) (by omega))))⟩
  case dup =>
    simp only [s1] at hL
    match hst : S.2.1, stk, hL, hs with
    | v :: r, w :: r1, hL, hs =>
      simp only at hL
      split at hL
      case isTrue => cases hL
      case isFalse q =>
        cases hL
        have hc := (sm_cat hs.1).2.mp (by simpa using q)
        refine ⟨(pc + 1, loc, w :: w :: r1, h), ?_, rfl, _, List.mem_singleton.mpr rfl, ρ, rfl, sMt_stk hM ⟨hs.1, hs.1, hs.2⟩⟩
        simp only [zf1, zgd, hc]
        rfl
  case pop =>
    simp only [s1] at hL
    match hst : S.2.1, stk, hL, hs with
    | v :: r, w :: r1, hL, hs =>
      simp only at hL
      split at hL
      case isTrue => cases hL
      case isFalse q =>
        cases hL
        have hc := (sm_cat hs.1).2.mp (by simpa using q)
        refine ⟨(pc + 1, loc, r1, h), ?_, rfl, _, List.mem_singleton.mpr rfl, ρ, rfl, sMt_stk hM hs.2⟩
        simp only [zf1, zgd, hc]
        rfl
  case dup2 =>
    simp only [s1] at hL
    match hst : S.2.1, stk, hL, hs with
    | v :: v2 :: r, w :: w2 :: r1, hL, hs =>
      simp only at hL
      split at hL
      case isTrue => cases hL
      case isFalse q =>
        cases hL
        simp only [Bool.or_eq_true, not_or, Bool.not_eq_true] at q
        have hc := (sm_cat hs.1).2.mp q.1
        have hc2 := (sm_cat hs.2.1).2.mp q.2
        refine ⟨(pc + 1, loc, w :: w2 :: w :: w2 :: r1, h), ?_, rfl, _, List.mem_singleton.mpr rfl, ρ, rfl, sMt_stk hM ⟨hs.1, hs.2.1, hs.1, hs.2.1, hs.2.2⟩⟩
        simp only [zf1, zgd, hc, hc2]
        rfl
  case goto off =>
    simp only [s1] at hL
    split at hL
    case isFalse => cases hL
    case isTrue q =>
      cases hL
      refine ⟨(ztgt pc off, loc, stk, h), ?_, rfl, _, List.mem_singleton.mpr rfl, ρ, rfl, hM⟩
      simp only [zf1, zj]
      rw [if_pos q]
  case ifCond c off =>
    simp only [s1] at hL
    match hst : S.2.1, hL, hs with
    | .inl x :: r, hL, hs =>
      simp only at hL
      split at hL
      case isFalse => cases hL
      case isTrue q =>
        cases hL
        obtain ⟨x', r1, rfl, e1, e2⟩ := sms_i hs
        have hM2 : sMt reg gv ρ ρ0 (S.1, r, S.2.2) loc r1 h := sMt_stk hM e2
        have hb := sbr_ok (c := c) (d := x) (t := ztgt pc off) (n := pc + 3) hM2
        by_cases hk : zk1 c x' = true
        · refine ⟨(ztgt pc off, loc, r1, h), ?_, rfl, hb.1 (by rw [← e1]; exact zk1_T.mp hk)⟩
          simp only [zf1, zo1, zgd]
          rw [if_pos (decide_eq_true q), if_pos hk]
        · refine ⟨(pc + 3, loc, r1, h), ?_, rfl, hb.2 (by rw [← e1]; exact fun q => hk (zk1_T.mpr q))⟩
          simp only [zf1, zo1, zgd]
          rw [if_pos (decide_eq_true q), if_neg hk]
  case if_icmp c off =>
    simp only [s1] at hL
    match hst : S.2.1, hL, hs with
    | .inl y :: .inl x :: r, hL, hs =>
      simp only at hL
      split at hL
      case isFalse => cases hL
      case isTrue q =>
        cases hL
        obtain ⟨y', r1, rfl, e1, e2⟩ := sms_i hs
        obtain ⟨x', r2, rfl, e3, e4⟩ := sms_i e2
        have hM2 : sMt reg gv ρ ρ0 (S.1, r, S.2.2) loc r2 h := sMt_stk hM e4
        have hb := sbr_ok (c := c) (d := sadd x y (-1)) (t := ztgt pc off) (n := pc + 3) hM2
        have he : sv ρ (sadd x y (-1)) = x'.toInt - y'.toInt := by rw [sadd_v, e1, e3]; omega
        rw [he] at hb
        by_cases hk : zk2 c x' y' = true
        · refine ⟨(ztgt pc off, loc, r2, h), ?_, rfl, hb.1 (zk2_T.mp hk)⟩
          simp only [zf1, zo2, zgd]
          rw [if_pos (decide_eq_true q), if_pos hk]
        · refine ⟨(pc + 3, loc, r2, h), ?_, rfl, hb.2 (fun q => hk (zk2_T.mpr q))⟩
          simp only [zf1, zo2, zgd]
          rw [if_pos (decide_eq_true q), if_neg hk]
  case iinc k n =>
    simp only [s1] at hL
    cases hg : sgl S k with
    | none => rw [hg] at hL; cases hL
    | some s =>
      obtain ⟨v, e1, e2⟩ := sgl_ok hM hg
      match s, v, e2, hg, e1 with
      | .inl e, .inl x, e2, hg, e1 =>
        rw [hg] at hL
        simp only at hL
        split at hL
        case isFalse => cases hL
        case isTrue q =>
          cases hw : swr S (sac e n) with
          | none => rw [hw] at hL; cases hL
          | some z =>
            obtain ⟨v, T⟩ := z
            rw [hw] at hL
            cases hL
            have e2 : x.toInt = sv ρ e := e2
            obtain ⟨ρ', hM', hv, -⟩ := swr_ok hw hM (x + Int32.ofInt n) (fun h1 h2 => by rw [sac_v] at h1 h2 ⊢; rw [sadd32 _ _ (by rw [so32 q.1 q.2]; omega) (by rw [so32 q.1 q.2]; omega), so32 q.1 q.2]; omega)
            refine ⟨(pc + 3, zput1 loc k (.inl (x + Int32.ofInt n)), stk, h), ?_, rfl, _, List.mem_singleton.mpr rfl, ρ', rfl, spt1_ok hM'.1 hv, hM'.2⟩
            simp only [zf1, e1]
      | .inr (.inl e), _, _, hg, _ => rw [hg] at hL; cases hL
      | .inr (.inr e), _, _, hg, _ => rw [hg] at hL; cases hL
  all_goals exact sbin_ok hM hL
end S1OK2
end
section
/-! a step on expressions: places, switches, longs, constants -/
def smT (reg : Nat → Nat) : (Nat × List Nat) ⊕ (Nat × Nat × List Nat) → (Nat × List Nat) ⊕ (Nat × Nat × List Nat)
  | .inl (ci, fk) => .inl (ci, fk.map (fun t => if t < 2 then t else reg (t - 2) + 2))
  | .inr (t, n, q) => .inr (t, if t = 5 then reg n else n, if t = 2 ∨ t = 3 then q.map reg else q)
def sin (S : sS) (e : sE) (n : Nat) : Bool := spr S (sng e) && spr S (sac e (1 - (n : Int)))
def sb01 (S : sS) (e : sE) : Bool := spr S (sng e) && spr S (sac e (-1))
section S2D
variable (rin : Nat → (Nat × List Nat) ⊕ (Nat × Nat × List Nat)) (sing : Nat → Bool) (gG : Nat → List (Nat × Nat × Int × Int)) (gu : Nat → sD) (md : sD) (fld : Nat → Option (Nat × Nat × Nat))
def sst (S : sS) (r : Nat) (e v : sE) (rest : List sV) (n : Nat) : Option (List (Nat × sS)) := match sstr sing gG gu md S r e v with
  | some T => some [(n, (T.1, rest, T.2.2))]
  | none => none
def s2 (i : Instr) (pc : Nat) (S : sS) : Option (List (Nat × sS)) := match i with
  | .getfield idx => (match S.2.1 with
    | .inr (.inr r) :: rest => (match zfo rin fld r idx with
      | some (fi, 0, _) => spu 1 (pc + 3) (sld sing gG S r (sK fi))
      | some (_, 1, _) => spl 1 (pc + 3) (sfl S)
      | some (_, t + 2, _) => some [(pc + 3, (S.1, .inr (.inr t) :: rest, S.2.2))]
      | none => none)
    | _ => none)
  | .putfield idx => (match S.2.1 with
    | .inl x :: .inr (.inr r) :: rest => (match zfo rin fld r idx with
      | some (fi, 0, b) => if (decide (b = 0) || (decide (b = 1) && sb01 S x)) = true then sst sing gG gu md S r (sK fi) x rest (pc + 3) else none
      | _ => none)
    | .inr (.inl _) :: .inr (.inr r) :: rest => (match zfo rin fld r idx with
      | some (_, 1, b) => if b = 2 then some [(pc + 3, (S.1, rest, S.2.2))] else none
      | _ => none)
    | _ => none)
  | .iaload => (match S.2.1 with
    | .inl e :: .inr (.inr r) :: _ => (match zar rin r 0 with
      | some (n, _) => if sin S e n = true then spu 2 (pc + 1) (sld sing gG S r e) else none
      | none => none)
    | _ => none)
  | .baload => (match S.2.1 with
    | .inl e :: .inr (.inr r) :: _ => (match zar rin r 1 with
      | some (n, _) => if sin S e n = true then spu 2 (pc + 1) (sld sing gG S r e) else none
      | none => none)
    | _ => none)
  | .aaload => (match S.2.1 with
    | .inl e :: .inr (.inr r) :: rest => (match rin r with
      | .inr (t, n, q) => if (decide (t = 2 ∨ t = 3) && (decide (q.length = n) && (sin S e n && q.all (fun g => g == q.headD 0)))) = true then some [(pc + 1, (S.1, .inr (.inr (q.headD 0)) :: rest, S.2.2))] else none
      | _ => none)
    | _ => none)
  | .iastore => (match S.2.1 with
    | .inl v :: .inl e :: .inr (.inr r) :: rest => (match zar rin r 0 with
      | some (n, _) => if sin S e n = true then sst sing gG gu md S r e v rest (pc + 1) else none
      | none => none)
    | _ => none)
  | .bastore => (match S.2.1 with
    | .inl v :: .inl e :: .inr (.inr r) :: rest => (match zar rin r 1 with
      | some (n, _) => if (sin S e n && sb01 S v) = true then sst sing gG gu md S r e v rest (pc + 1) else none
      | none => none)
    | _ => none)
  | .arraylength => (match S.2.1 with
    | .inr (.inr r) :: rest => (match rin r with
      | .inr (t, n, _) => if t ≤ 3 ∧ n ≤ 2147483647 then some [(pc + 1, (S.1, .inl (sK n) :: rest, S.2.2))] else none
      | _ => none)
    | _ => none)
  | _ => none
end S2D
def slk (S : sS) (x : sE) (pc : Nat) (d : Int) : List (Int × Int) → Option (List (Nat × sS))
  | [] => if 0 ≤ (pc : Int) + d then some [(ztgt pc d, S)] else none
  | p :: r => if 0 ≤ (pc : Int) + p.2 then (match scne S (sac x (-p.1)) with
    | some T => (match slk T x pc d r with
      | some L => some ((sceq S (sac x (-p.1))).toList.map (fun T => (ztgt pc p.2, T)) ++ L)
      | none => none)
    | none => some ((sceq S (sac x (-p.1))).toList.map (fun T => (ztgt pc p.2, T)))) else none
def stb (S : sS) (x : sE) (pc : Nat) : Int → List Int → Option (List (Nat × sS))
  | _, [] => some []
  | k, o :: r => if 0 ≤ (pc : Int) + o then (match stb S x pc (k + 1) r with
    | some L => some ((sceq S (sac x (-k))).toList.map (fun T => (ztgt pc o, T)) ++ L)
    | none => none) else none
def s4 (i : Instr) (pc : Nat) (S : sS) : Option (List (Nat × sS)) := match i with
  | .lcmp => (match S.2.1 with
    | .inr (.inl y) :: .inr (.inl x) :: r => some (((scnd .lt (S.1, r, S.2.2) (sadd x y (-1))).toList.map (fun T => (pc + 1, (T.1, .inl (sK (-1)) :: T.2.1, T.2.2)))) ++ (((scnd .eq (S.1, r, S.2.2) (sadd x y (-1))).toList.map (fun T => (pc + 1, (T.1, .inl (sK 0) :: T.2.1, T.2.2)))) ++ ((scnd .gt (S.1, r, S.2.2) (sadd x y (-1))).toList.map (fun T => (pc + 1, (T.1, .inl (sK 1) :: T.2.1, T.2.2))))))
    | _ => none)
  | .ldiv => (match S.2.1 with
    | .inr (.inl y) :: .inr (.inl x) :: _ => if snz S y = true then spl 2 (pc + 1) (sdv S x y (-9223372036854775808) 9223372036854775807) else none
    | _ => none)
  | .lrem => (match S.2.1 with
    | .inr (.inl y) :: .inr (.inl x) :: _ => if snz S y = true then spl 2 (pc + 1) (srm S x y (-9223372036854775808) 9223372036854775807) else none
    | _ => none)
  | .lushr => (match S.2.1 with
    | .inl y :: .inr (.inl _) :: _ => if sCo y = some 33 then spl 2 (pc + 1) (sfr 0 2147483647 S []) else none
    | _ => none)
  | .lshl => (match S.2.1 with
    | .inl _ :: .inr (.inl _) :: _ => spl 2 (pc + 1) (sfl S)
    | _ => none)
  | .tableswitch d lo hi offs => (match S.2.1 with
    | .inl x :: r => if 0 ≤ (pc : Int) + d ∧ hi - lo + 1 ≤ (offs.size : Int) then (match stb (S.1, r, S.2.2) x pc lo offs.toList with
      | some L => some (((sas (S.1, r, S.2.2) (sac x (1 - lo))).toList.map (fun T => (ztgt pc d, T))) ++ (((sas (S.1, r, S.2.2) (sac (sng x) (hi + 1))).toList.map (fun T => (ztgt pc d, T))) ++ L))
      | none => none) else none
    | _ => none)
  | .lookupswitch d ps => (match S.2.1 with
    | .inl x :: r => if ((ps.toList.zip (ps.toList.drop 1)).all (fun (a, next) => a.1 < next.1)) = true then slk (S.1, r, S.2.2) x pc d ps.toList else none
    | _ => none)
  | _ => none
def s5 (kI : Nat → Option Int32) (kL : Nat → Option Int64) (i : Instr) (pc : Nat) (S : sS) : Option (List (Nat × sS)) := match i with
  | .ldc x => (match kI x with
    | some v => some [(pc + 2, (S.1, .inl (sK v.toInt) :: S.2.1, S.2.2))]
    | none => none)
  | .ldc_w x => (match kI x with
    | some v => some [(pc + 3, (S.1, .inl (sK v.toInt) :: S.2.1, S.2.2))]
    | none => none)
  | .ldc2_w x => (match kL x with
    | some v => some [(pc + 3, (S.1, .inr (.inl (sK v.toInt)) :: S.2.1, S.2.2))]
    | none => none)
  | _ => none
section S2OK
variable {tab rin : Nat → (Nat × List Nat) ⊕ (Nat × Nat × List Nat)} {reg : Nat → Nat} {sing : Nat → Bool} {gG : Nat → List (Nat × Nat × Int × Int)} {gu : Nat → sD} {md : sD} {fld : Nat → Option (Nat × Nat × Nat)} {gv : Nat → zH → Int} {ρ ρ0 : Nat → Int} {S T : sS} {loc : zL} {stk : List zV} {h h0 : zH} {e : sE}
theorem sfo_ok (hcomp : ∀ k, rin (reg k) = smT reg (tab k)) {k idx fi t' b : Nat} (hf : zfo rin fld (reg k) idx = some (fi, t', b)) : ∃ t, zfo tab fld k idx = some (fi, t, b) ∧ t' = (if t < 2 then t else reg (t - 2) + 2) := by
  obtain ⟨ci, fk, h1, h2, h3⟩ := zfo_el hf
  rw [hcomp k] at h1
  cases ht : tab k with
  | inr z => obtain ⟨a, b2, c⟩ := z; rw [ht] at h1; cases h1
  | inl z =>
    obtain ⟨cj, fk2⟩ := z
    rw [ht] at h1
    cases h1
    rw [List.getElem?_map] at h3
    cases hk : fk2[fi]? with
    | none => rw [hk] at h3; cases h3
    | some t =>
      rw [hk] at h3
      refine ⟨t, ?_, (Option.some.inj h3).symm⟩
      unfold zfo
      rw [ht, h2]
      simp only [if_true, hk]
theorem sar_ok (hcomp : ∀ k, rin (reg k) = smT reg (tab k)) {k t0 n : Nat} {q : List Nat} (h5 : t0 ≠ 5) (h2 : t0 ≠ 2) (h3 : t0 ≠ 3) (hf : zar rin (reg k) t0 = some (n, q)) : zar tab k t0 = some (n, q) ∧ tab k = .inr (t0, n, q) := by
  have h1 := zar_el hf
  rw [hcomp k] at h1
  cases ht : tab k with
  | inl z => obtain ⟨a, b⟩ := z; rw [ht] at h1; cases h1
  | inr z =>
    obtain ⟨t, n2, q2⟩ := z
    rw [ht] at h1
    have h1 := Sum.inr.inj h1
    have e1 : t = t0 := congrArg (·.1) h1
    have e2 := congrArg (·.2.1) h1
    have e3 := congrArg (·.2.2) h1
    simp only at e2 e3
    subst e1
    rw [if_neg h5] at e2
    rw [if_neg (by omega)] at e3
    subst e2 e3
    refine ⟨?_, rfl⟩
    unfold zar
    rw [ht]
    simp
theorem sin_ok {n : Nat} {x : Int32} (hM : sMt reg gv ρ ρ0 S loc stk h) (hi : sin S e n = true) (hx : x.toInt = sv ρ e) : zin x n = true ∧ 0 ≤ sv ρ e ∧ x.toNatClampNeg = (sv ρ e).toNat := by
  unfold sin at hi
  rw [Bool.and_eq_true] at hi
  have h1 := spr_le hM hi.1
  have h2 := spr_le hM hi.2
  rw [sng_v] at h1
  rw [sac_v] at h2
  refine ⟨decide_eq_true ⟨by omega, by omega⟩, by omega, ?_⟩
  show x.toInt.toNat = _
  rw [hx]
theorem sb01_ok {x : Int32} (hM : sMt reg gv ρ ρ0 S loc stk h) (hi : sb01 S e = true) (hx : x.toInt = sv ρ e) : x = 0 ∨ x = 1 := by
  unfold sb01 at hi
  rw [Bool.and_eq_true] at hi
  have h1 := spr_le hM hi.1
  have h2 := spr_le hM hi.2
  rw [sng_v] at h1
  rw [sac_v] at h2
  have : x.toInt = 0 ∨ x.toInt = 1 := by omega
  rcases this with q | q
  · exact Or.inl (Int32.toInt_inj.mp q)
  · exact Or.inr (Int32.toInt_inj.mp q)
theorem sst_ok (hsing : ∀ k k', sing (reg k) = true → reg k' = reg k → k' = k) (hr : ∀ k, reg k < 1000) (hgv : sGv reg gu gv) (hG : sG reg gG h) (hF : sF reg md h0 h) (hM : sMt reg gv ρ ρ0 S loc stk h) {k n : Nat} {v : sE} {x : Int32} {rest : List sV} {stk' : List zV} {L : List (Nat × sS)} (he : 0 ≤ sv ρ e) (hx : x.toInt = sv ρ v) (hs : sms reg ρ stk' rest) (hL : sst sing gG gu md S (reg k) e v rest n = some L) : sG reg gG (zs h k (sv ρ e).toNat x) ∧ sF reg md h0 (zs h k (sv ρ e).toNat x) ∧ sgo reg gv ρ0 L (n, loc, stk', zs h k (sv ρ e).toNat x) := by
  unfold sst at hL
  cases hq : sstr sing gG gu md S (reg k) e v with
  | none => rw [hq] at hL; cases hL
  | some T =>
    rw [hq] at hL
    cases hL
    obtain ⟨a, b, c, -⟩ := sstr_ok hsing hgv hG hF hM (hr k) he hx hq
    exact ⟨b, c, _, List.mem_singleton.mpr rfl, ρ, rfl, sMt_stk a hs⟩
theorem szsl {x : Int64} {k : Nat} (hgv : sGv reg gu gv) (hG : sG reg gG h) (hF : sF reg md h0 h) (hM : sMt reg gv ρ ρ0 S loc stk h) : sG reg gG (zsl h k x) ∧ sF reg md h0 (zsl h k x) ∧ sMt reg gv ρ ρ0 S loc stk (zsl h k x) := by
  refine ⟨hG, hF, hM.1, hM.2.1, ?_, hM.2.2.2⟩
  intro m hm
  have q := hM.2.2.1 m hm
  unfold smm at q ⊢
  by_cases hr : m.1 < 1000
  · rw [if_pos hr] at q ⊢
    exact q
  · rw [if_neg hr] at q ⊢
    rw [← q]
    exact hgv _ _ _ (fun _ _ _ => rfl)
set_option maxHeartbeats 2000000 in
theorem s2_ok (hcomp : ∀ k, rin (reg k) = smT reg (tab k)) (hsing : ∀ k k', sing (reg k) = true → reg k' = reg k → k' = k) (hr : ∀ k, reg k < 1000) (hgv : sGv reg gu gv) (hG : sG reg gG h) (hF : sF reg md h0 h) {i : Instr} {pc : Nat} {L : List (Nat × sS)} (hM : sMt reg gv ρ ρ0 S loc stk h) (hL : s2 rin sing gG gu md fld i pc S = some L) : ∃ q, zf2 tab fld i pc loc stk h = some q ∧ sG reg gG q.2.2.2 ∧ sF reg md h0 q.2.2.2 ∧ sgo reg gv ρ0 L q := by
  have hs := hM.2.1
  cases i
  case getfield idx =>
    simp only [s2] at hL
    match hst : S.2.1, hL, hs with
    | .inr (.inr r) :: rest, hL, hs =>
      obtain ⟨k, r1, rfl, rfl, e2⟩ := sms_r hs
      simp only at hL
      cases hfo : zfo rin fld (reg k) idx with
      | none => rw [hfo] at hL; cases hL
      | some z =>
        obtain ⟨fi, t', b⟩ := z
        obtain ⟨t, ht, htt⟩ := sfo_ok hcomp hfo
        rw [hfo] at hL
        have hz : zf2 tab fld (.getfield idx) pc loc (.inr (.inr k) :: r1) h = some (pc + 3, loc, zfa h k fi t :: r1, h) := by
          simp only [zf2, zoR1, ht, zoF]
        match t, htt with
        | 0, htt =>
          subst htt
          refine ⟨_, hz, hG, hF, ?_⟩
          exact spu_go (stk := .inr (.inr k) :: r1) (z := h.1 k fi) hL (fun e T ho => by
            obtain ⟨ρ', a, b, -⟩ := sld_ok hsing hG hM (hr k) (e := sK fi) (by rw [sK_v]; omega) ho
            rw [sK_v] at b
            exact ⟨ρ', a, b⟩)
        | 1, htt =>
          subst htt
          exact ⟨_, hz, hG, hF, spl_go (stk := .inr (.inr k) :: r1) (z := h.2 k) hL (fun e T ho => sk2 (α := Nat) (sfl_ok ho hM _))⟩
        | j + 2, htt =>
          rw [if_neg (by omega)] at htt
          subst htt
          cases hL
          exact ⟨_, hz, hG, hF, _, List.mem_singleton.mpr rfl, ρ, rfl, sMt_stk hM ⟨rfl, e2⟩⟩
  case putfield idx =>
    simp only [s2] at hL
    match hst : S.2.1, hL, hs with
    | .inl x :: .inr (.inr r) :: rest, hL, hs =>
      obtain ⟨x', r1, rfl, e1, e2⟩ := sms_i hs
      obtain ⟨k, r2, rfl, rfl, e3⟩ := sms_r e2
      simp only at hL
      cases hfo : zfo rin fld (reg k) idx with
      | none => rw [hfo] at hL; cases hL
      | some z =>
        obtain ⟨fi, t', b⟩ := z
        obtain ⟨t, ht, htt⟩ := sfo_ok hcomp hfo
        rw [hfo] at hL
        match t', hL, htt with
        | 0, hL, htt =>
          have ht0 : t = 0 := by
            by_cases h2 : t < 2
            · rw [if_pos h2] at htt; exact htt.symm
            · rw [if_neg h2] at htt; cases htt
          subst ht0
          simp only at hL
          split at hL
          case isFalse => cases hL
          case isTrue q =>
            simp only [Bool.or_eq_true, Bool.and_eq_true, decide_eq_true_eq] at q
            have hb : zbit b x' = true := by
              unfold zbit
              simp only [Bool.or_eq_true, Bool.and_eq_true, decide_eq_true_eq]
              rcases q with q | q
              · exact ⟨by omega, Or.inl q⟩
              · exact ⟨by omega, Or.inr (sb01_ok hM q.2 e1)⟩
            have hh := sst_ok hsing hr hgv hG hF hM (e := sK fi) (by rw [sK_v]; omega) e1 e3 hL
            rw [sK_v] at hh
            refine ⟨(pc + 3, loc, r2, zs h k fi x'), ?_, hh.1, hh.2.1, hh.2.2⟩
            simp only [zf2, ht, zoF, zgd, hb]
            rfl
    | .inr (.inl x) :: .inr (.inr r) :: rest, hL, hs =>
      obtain ⟨x', r1, rfl, e1, e2⟩ := sms_l hs
      obtain ⟨k, r2, rfl, rfl, e3⟩ := sms_r e2
      simp only at hL
      cases hfo : zfo rin fld (reg k) idx with
      | none => rw [hfo] at hL; cases hL
      | some z =>
        obtain ⟨fi, t', b⟩ := z
        obtain ⟨t, ht, htt⟩ := sfo_ok hcomp hfo
        rw [hfo] at hL
        match t', hL, htt with
        | 1, hL, htt =>
          have ht0 : t = 1 := by
            by_cases h2 : t < 2
            · rw [if_pos h2] at htt; exact htt.symm
            · rw [if_neg h2] at htt; omega
          subst ht0
          simp only at hL
          split at hL
          case isFalse => cases hL
          case isTrue q =>
            cases hL
            obtain ⟨a, b2, c⟩ := szsl (k := k) (x := x') hgv hG hF hM
            refine ⟨(pc + 3, loc, r2, zsl h k x'), ?_, a, b2, _, List.mem_singleton.mpr rfl, ρ, rfl, sMt_stk c e3⟩
            simp only [zf2, ht, zoF, zgd, q]
            rfl
  case iaload =>
    simp only [s2] at hL
    match hst : S.2.1, hL, hs with
    | .inl e :: .inr (.inr r) :: rest, hL, hs =>
      obtain ⟨x', r1, rfl, e1, e2⟩ := sms_i hs
      obtain ⟨k, r2, rfl, rfl, e3⟩ := sms_r e2
      simp only at hL
      cases hz : zar rin (reg k) 0 with
      | none => rw [hz] at hL; cases hL
      | some z =>
        obtain ⟨n, q⟩ := z
        rw [hz] at hL
        obtain ⟨hz2, -⟩ := sar_ok hcomp (by decide) (by decide) (by decide) hz
        simp only at hL
        split at hL
        case isFalse => cases hL
        case isTrue hi =>
          obtain ⟨i1, i2, i3⟩ := sin_ok hM hi e1
          refine ⟨(pc + 1, loc, .inl (h.1 k x'.toNatClampNeg) :: r2, h), ?_, hG, hF, ?_⟩
          · simp only [zf2, zoRI, hz2, zoA, zgd, i1]
            rfl
          · exact spu_go (stk := .inl x' :: .inr (.inr k) :: r2) hL (fun e T ho => by
              obtain ⟨ρ', a, b, -⟩ := sld_ok hsing hG hM (hr k) i2 ho
              rw [i3]
              exact ⟨ρ', a, b⟩)
  case baload =>
    simp only [s2] at hL
    match hst : S.2.1, hL, hs with
    | .inl e :: .inr (.inr r) :: rest, hL, hs =>
      obtain ⟨x', r1, rfl, e1, e2⟩ := sms_i hs
      obtain ⟨k, r2, rfl, rfl, e3⟩ := sms_r e2
      simp only at hL
      cases hz : zar rin (reg k) 1 with
      | none => rw [hz] at hL; cases hL
      | some z =>
        obtain ⟨n, q⟩ := z
        rw [hz] at hL
        obtain ⟨hz2, -⟩ := sar_ok hcomp (by decide) (by decide) (by decide) hz
        simp only at hL
        split at hL
        case isFalse => cases hL
        case isTrue hi =>
          obtain ⟨i1, i2, i3⟩ := sin_ok hM hi e1
          refine ⟨(pc + 1, loc, .inl (h.1 k x'.toNatClampNeg) :: r2, h), ?_, hG, hF, ?_⟩
          · simp only [zf2, zoRI, hz2, zoA, zgd, i1]
            rfl
          · exact spu_go (stk := .inl x' :: .inr (.inr k) :: r2) hL (fun e T ho => by
              obtain ⟨ρ', a, b, -⟩ := sld_ok hsing hG hM (hr k) i2 ho
              rw [i3]
              exact ⟨ρ', a, b⟩)
  case aaload =>
    simp only [s2] at hL
    match hst : S.2.1, hL, hs with
    | .inl e :: .inr (.inr r) :: rest, hL, hs =>
      obtain ⟨x', r1, rfl, e1, e2⟩ := sms_i hs
      obtain ⟨k, r2, rfl, rfl, e3⟩ := sms_r e2
      simp only at hL
      cases ht : tab k with
      | inl z => obtain ⟨a, b⟩ := z; rw [hcomp k, ht] at hL; cases hL
      | inr z =>
        obtain ⟨t, n, q⟩ := z
        rw [hcomp k, ht] at hL
        simp only [smT] at hL
        by_cases c0 : t = 2 ∨ t = 3
        case neg =>
          rw [decide_eq_false c0, Bool.false_and] at hL
          cases hL
        case pos =>
        have h5 : ¬ t = 5 := by omega
        simp only [if_neg h5, if_pos c0] at hL
        split at hL
        case isFalse => cases hL
        case isTrue hc =>
          simp only [Bool.and_eq_true, decide_eq_true_eq] at hc
          obtain ⟨c1, c2, c3, c4⟩ := hc
          cases hL
          obtain ⟨i1, i2, i3⟩ := sin_ok hM c3 e1
          have hlt : x'.toNatClampNeg < q.length := by
            have := of_decide_eq_true i1
            rw [List.length_map] at c2
            rw [c2]
            show x'.toInt.toNat < n
            omega
          have hget : q[x'.toNatClampNeg]? = some q[x'.toNatClampNeg] := List.getElem?_eq_getElem hlt
          refine ⟨(pc + 1, loc, .inr (.inr q[x'.toNatClampNeg]) :: r2, h), ?_, hG, hF, _, List.mem_singleton.mpr rfl, ρ, rfl, sMt_stk hM ⟨?_, e3⟩⟩
          · simp only [zf2, zoRI, ht, zgd, i1, decide_eq_true c1, hget]
            rfl
          · rw [List.all_eq_true] at c4
            have := c4 (reg q[x'.toNatClampNeg]) (List.mem_map.mpr ⟨_, List.getElem_mem hlt, rfl⟩)
            exact eq_of_beq this
  case iastore =>
    simp only [s2] at hL
    match hst : S.2.1, hL, hs with
    | .inl v :: .inl e :: .inr (.inr r) :: rest, hL, hs =>
      obtain ⟨v', r0, rfl, e0, ev⟩ := sms_i hs
      obtain ⟨x', r1, rfl, e1, e2⟩ := sms_i ev
      obtain ⟨k, r2, rfl, rfl, e3⟩ := sms_r e2
      simp only at hL
      cases hz : zar rin (reg k) 0 with
      | none => rw [hz] at hL; cases hL
      | some z =>
        obtain ⟨n, q⟩ := z
        rw [hz] at hL
        obtain ⟨hz2, -⟩ := sar_ok hcomp (by decide) (by decide) (by decide) hz
        simp only at hL
        split at hL
        case isFalse => cases hL
        case isTrue hi =>
          obtain ⟨i1, i2, i3⟩ := sin_ok hM hi e1
          have hh := sst_ok hsing hr hgv hG hF hM i2 e0 e3 hL
          rw [← i3] at hh
          refine ⟨(pc + 1, loc, r2, zs h k x'.toNatClampNeg v'), ?_, hh.1, hh.2.1, hh.2.2⟩
          simp only [zf2, zoRII, hz2, zoA, zgd, i1]
          rfl
  case bastore =>
    simp only [s2] at hL
    match hst : S.2.1, hL, hs with
    | .inl v :: .inl e :: .inr (.inr r) :: rest, hL, hs =>
      obtain ⟨v', r0, rfl, e0, ev⟩ := sms_i hs
      obtain ⟨x', r1, rfl, e1, e2⟩ := sms_i ev
      obtain ⟨k, r2, rfl, rfl, e3⟩ := sms_r e2
      simp only at hL
      cases hz : zar rin (reg k) 1 with
      | none => rw [hz] at hL; cases hL
      | some z =>
        obtain ⟨n, q⟩ := z
        rw [hz] at hL
        obtain ⟨hz2, -⟩ := sar_ok hcomp (by decide) (by decide) (by decide) hz
        simp only at hL
        split at hL
        case isFalse => cases hL
        case isTrue hi =>
          rw [Bool.and_eq_true] at hi
          obtain ⟨i1, i2, i3⟩ := sin_ok hM hi.1 e1
          have hv := sb01_ok hM hi.2 e0
          have hh := sst_ok hsing hr hgv hG hF hM i2 e0 e3 hL
          rw [← i3] at hh
          refine ⟨(pc + 1, loc, r2, zs h k x'.toNatClampNeg v'), ?_, hh.1, hh.2.1, hh.2.2⟩
          simp only [zf2, zoRII, hz2, zoA, zgd, i1, decide_eq_true hv]
          rfl
  case arraylength =>
    simp only [s2] at hL
    match hst : S.2.1, hL, hs with
    | .inr (.inr r) :: rest, hL, hs =>
      obtain ⟨k, r2, rfl, rfl, e3⟩ := sms_r hs
      simp only at hL
      cases ht : tab k with
      | inl z => obtain ⟨a, b⟩ := z; rw [hcomp k, ht] at hL; cases hL
      | inr z =>
        obtain ⟨t, n, q⟩ := z
        rw [hcomp k, ht] at hL
        simp only [smT] at hL
        by_cases h5 : t = 5
        case pos =>
          rw [if_neg (by omega)] at hL
          cases hL
        case neg =>
        simp only [if_neg h5] at hL
        split at hL
        case isFalse => cases hL
        case isTrue hc =>
          cases hL
          refine ⟨(pc + 1, loc, .inl (Int32.ofNat n) :: r2, h), ?_, hG, hF, _, List.mem_singleton.mpr rfl, ρ, rfl, sMt_stk hM ⟨?_, e3⟩⟩
          · simp only [zf2, zoR1, ht, zgd, decide_eq_true hc.1]
            rfl
          · show (Int32.ofNat n).toInt = _
            rw [sK_v]
            exact so32 (n := (n : Int)) (by omega) (by omega)
  all_goals cases hL
theorem slk_ok {x : sE} {pc : Nat} {d : Int} : ∀ {l : List (Int × Int)} {S : sS} {L : List (Nat × sS)}, sMt reg gv ρ ρ0 S loc stk h → slk S x pc d l = some L → 0 ≤ (pc : Int) + Op.lookupswitch.offset l d (sv ρ x) ∧ sgo reg gv ρ0 L (ztgt pc (Op.lookupswitch.offset l d (sv ρ x)), loc, stk, h)
  | [], S, L, hM, hL => by
    simp only [slk] at hL
    split at hL
    case isFalse => cases hL
    case isTrue q =>
      cases hL
      exact ⟨q, _, List.mem_singleton.mpr rfl, ρ, rfl, hM⟩
  | p :: r, S, L, hM, hL => by
    simp only [slk] at hL
    split at hL
    case isFalse => cases hL
    case isTrue q =>
      obtain ⟨a, o⟩ := p
      rw [Op.lookupswitch.offset_cons]
      by_cases ha : a = sv ρ x
      · rw [if_pos ha]
        refine ⟨q, ?_⟩
        obtain ⟨S', e1, e2, -⟩ := sceq_ok hM (d := sac x (-a)) (by rw [sac_v]; omega)
        have hin : (ztgt pc o, S') ∈ L := by
          simp only [e1] at hL
          split at hL
          · split at hL
            · cases hL
              exact List.mem_append_left _ (List.mem_singleton.mpr rfl)
            · cases hL
          · cases hL
            exact List.mem_singleton.mpr rfl
        exact ⟨_, hin, ρ, rfl, e2⟩
      · rw [if_neg ha]
        obtain ⟨S', e1, e2, -⟩ := scne_ok hM (d := sac x (-a)) (by rw [sac_v]; omega)
        rw [e1] at hL
        simp only at hL
        cases hk : slk S' x pc d r with
        | none => rw [hk] at hL; cases hL
        | some L2 =>
          rw [hk] at hL
          cases hL
          obtain ⟨a1, z, hz, b1⟩ := slk_ok e2 hk
          exact ⟨a1, z, List.mem_append_right _ hz, b1⟩
theorem stb_ok {x : sE} {pc : Nat} (hM : sMt reg gv ρ ρ0 S loc stk h) : ∀ {l : List Int} {k : Int} {L : List (Nat × sS)} {j : Nat} {o : Int}, stb S x pc k l = some L → l[j]? = some o → sv ρ x = k + j → 0 ≤ (pc : Int) + o ∧ sgo reg gv ρ0 L (ztgt pc o, loc, stk, h)
  | [], _, _, j, _, _, ho, _ => by cases ho
  | o1 :: r, k, L, j, o, hL, ho, hx => by
    simp only [stb] at hL
    split at hL
    case isFalse => cases hL
    case isTrue q =>
      cases hk : stb S x pc (k + 1) r with
      | none => rw [hk] at hL; cases hL
      | some L2 =>
        rw [hk] at hL
        cases hL
        match j, ho, hx with
        | 0, ho, hx =>
          cases ho
          obtain ⟨S', e1, e2, -⟩ := sceq_ok hM (d := sac x (-k)) (by rw [sac_v]; omega)
          refine ⟨q, (ztgt pc o1, S'), ?_, ρ, rfl, e2⟩
          rw [e1]
          exact List.mem_append_left _ (List.mem_singleton.mpr rfl)
        | j + 1, ho, hx =>
          obtain ⟨a1, z, hz, b1⟩ := stb_ok hM hk (show r[j]? = some o from ho) (by omega)
          exact ⟨a1, z, List.mem_append_right _ hz, b1⟩
set_option maxHeartbeats 2000000 in
theorem s4_ok {i : Instr} {pc : Nat} {L : List (Nat × sS)} (hM : sMt reg gv ρ ρ0 S loc stk h) (hL : s4 i pc S = some L) : ∃ q, zf4 i pc loc stk h = some q ∧ q.2.2.2 = h ∧ sgo reg gv ρ0 L q := by
  have hs := hM.2.1
  cases i
  case lcmp =>
    simp only [s4] at hL
    match hst : S.2.1, hL, hs with
    | .inr (.inl y) :: .inr (.inl x) :: r, hL, hs =>
      obtain ⟨y', r1, rfl, e1, e2⟩ := sms_l hs
      obtain ⟨x', r2, rfl, e3, e4⟩ := sms_l e2
      cases hL
      refine ⟨_, rfl, rfl, ?_⟩
      have hM2 : sMt reg gv ρ ρ0 (S.1, r, S.2.2) loc r2 h := sMt_stk hM e4
      have he : sv ρ (sadd x y (-1)) = x'.toInt - y'.toInt := by rw [sadd_v, e1, e3]; omega
      have hc := scmp64 x' y'
      by_cases h1 : x'.toInt < y'.toInt
      · rw [if_pos h1] at hc
        obtain ⟨S', q1, q2, q3⟩ := scnd_ok .lt hM2 (d := sadd x y (-1)) (by rw [he]; show _ < _; omega)
        refine ⟨(pc + 1, (S'.1, .inl (sK (-1)) :: S'.2.1, S'.2.2)), ?_, ρ, rfl, sMt_stk q2 ⟨by show (lg_cmp x' y').toInt = _; rw [hc, sK_v], q2.2.1⟩⟩
        rw [q1]
        exact List.mem_append_left _ (List.mem_singleton.mpr rfl)
      · rw [if_neg h1] at hc
        by_cases h2 : x'.toInt = y'.toInt
        · rw [if_pos h2] at hc
          obtain ⟨S', q1, q2, q3⟩ := scnd_ok .eq hM2 (d := sadd x y (-1)) (by rw [he]; show _ = _; omega)
          refine ⟨(pc + 1, (S'.1, .inl (sK 0) :: S'.2.1, S'.2.2)), ?_, ρ, rfl, sMt_stk q2 ⟨by show (lg_cmp x' y').toInt = _; rw [hc, sK_v], q2.2.1⟩⟩
          rw [q1]
          exact List.mem_append_right _ (List.mem_append_left _ (List.mem_singleton.mpr rfl))
        · rw [if_neg h2] at hc
          obtain ⟨S', q1, q2, q3⟩ := scnd_ok .gt hM2 (d := sadd x y (-1)) (by rw [he]; show _ < _; omega)
          refine ⟨(pc + 1, (S'.1, .inl (sK 1) :: S'.2.1, S'.2.2)), ?_, ρ, rfl, sMt_stk q2 ⟨by show (lg_cmp x' y').toInt = _; rw [hc, sK_v], q2.2.1⟩⟩
          rw [q1]
          exact List.mem_append_right _ (List.mem_append_right _ (List.mem_singleton.mpr rfl))
  case ldiv =>
    simp only [s4] at hL
    match hst : S.2.1, hL, hs with
    | .inr (.inl ey) :: .inr (.inl ex) :: r, hL, hs =>
      obtain ⟨y, r1, rfl, e1, e2⟩ := sms_l hs
      obtain ⟨x, r2, rfl, e3, e4⟩ := sms_l e2
      simp only at hL
      split at hL
      case isFalse => cases hL
      case isTrue hn =>
        have hnz := snz_ok hM hn
        rw [← e1] at hnz
        refine ⟨(pc + 1, loc, .inr (.inl (x / y)) :: r2, h), ?_, rfl, spl_go (stk := .inr (.inl y) :: .inr (.inl x) :: r2) hL (fun e T ho => sk2 (α := Nat) (sdv_ok ho hM (si64 (x / y)).1 (si64 (x / y)).2 (fun h1 h2 => by rw [sdiv64 x y (by omega) (by omega), e3, e1])))⟩
        simp only [zf4, zoL2, zgd]
        rw [if_pos (decide_eq_true (sn0L hnz))]
  case lrem =>
    simp only [s4] at hL
    match hst : S.2.1, hL, hs with
    | .inr (.inl ey) :: .inr (.inl ex) :: r, hL, hs =>
      obtain ⟨y, r1, rfl, e1, e2⟩ := sms_l hs
      obtain ⟨x, r2, rfl, e3, e4⟩ := sms_l e2
      simp only at hL
      split at hL
      case isFalse => cases hL
      case isTrue hn =>
        have hnz := snz_ok hM hn
        rw [← e1] at hnz
        refine ⟨(pc + 1, loc, .inr (.inl (x - x / y * y)) :: r2, h), ?_, rfl, spl_go (stk := .inr (.inl y) :: .inr (.inl x) :: r2) hL (fun e T ho => sk2 (α := Nat) (srm_ok ho hM (si64 (x - x / y * y)).1 (si64 (x - x / y * y)).2 (fun h1 h2 => by rw [srem64 x y (by omega) (by omega), e3, e1])))⟩
        simp only [zf4, zoL2, zgd]
        rw [if_pos (decide_eq_true (sn0L hnz))]
  case lushr =>
    simp only [s4] at hL
    match hst : S.2.1, hL, hs with
    | .inl ey :: .inr (.inl ex) :: r, hL, hs =>
      obtain ⟨y, r1, rfl, e1, e2⟩ := sms_i hs
      obtain ⟨x, r2, rfl, e3, e4⟩ := sms_l e2
      simp only at hL
      split at hL
      case isFalse => cases hL
      case isTrue hn =>
        have hn := sCo_v (ρ := ρ) hn
        have hy : y = 33 := Int32.toInt_inj.mp (by rw [e1, hn]; rfl)
        subst hy
        refine ⟨_, rfl, rfl, spl_go (stk := .inl 33 :: .inr (.inl x) :: r2) hL (fun e T ho => ?_)⟩
        have hb := sshr33 x
        obtain ⟨ρ', a, b, -⟩ := sfr_ok ho hM hb.1 hb.2
        exact ⟨ρ', a, b.symm⟩
  case lshl =>
    simp only [s4] at hL
    match hst : S.2.1, hL, hs with
    | .inl ey :: .inr (.inl ex) :: r, hL, hs =>
      obtain ⟨y, r1, rfl, e1, e2⟩ := sms_i hs
      obtain ⟨x, r2, rfl, e3, e4⟩ := sms_l e2
      exact ⟨_, rfl, rfl, spl_go (stk := .inl y :: .inr (.inl x) :: r2) hL (fun e T ho => sk2 (α := Nat) (sfl_ok ho hM _))⟩
  case tableswitch d lo hi offs =>
    simp only [s4] at hL
    match hst : S.2.1, hL, hs with
    | .inl x :: r, hL, hs =>
      obtain ⟨x', r1, rfl, e1, e2⟩ := sms_i hs
      simp only at hL
      split at hL
      case isFalse => cases hL
      case isTrue hn =>
        have hM2 : sMt reg gv ρ ρ0 (S.1, r, S.2.2) loc r1 h := sMt_stk hM e2
        cases hb : stb (S.1, r, S.2.2) x pc lo offs.toList with
        | none => rw [hb] at hL; cases hL
        | some L2 =>
          rw [hb] at hL
          cases hL
          by_cases hc : x'.toInt < lo ∨ hi < x'.toInt
          · refine ⟨(ztgt pc d, loc, r1, h), ?_, rfl, ?_⟩
            · simp only [zf4, zo1]
              rw [if_pos hc]
              unfold zj
              rw [if_pos hn.1]
            · rcases hc with hc | hc
              · obtain ⟨S', q1, q2, -⟩ := sas_ok hM2 (c := sac x (1 - lo)) (by rw [sac_v]; omega)
                refine ⟨(ztgt pc d, S'), ?_, ρ, rfl, q2⟩
                rw [q1]
                exact List.mem_append_left _ (List.mem_singleton.mpr rfl)
              · obtain ⟨S', q1, q2, -⟩ := sas_ok hM2 (c := sac (sng x) (hi + 1)) (by rw [sac_v, sng_v]; omega)
                refine ⟨(ztgt pc d, S'), ?_, ρ, rfl, q2⟩
                rw [q1]
                exact List.mem_append_right _ (List.mem_append_left _ (List.mem_singleton.mpr rfl))
          · have hlt : (x'.toInt - lo).toNat < offs.size := by omega
            have hget : offs[(x'.toInt - lo).toNat]? = some offs[(x'.toInt - lo).toNat] := Array.getElem?_eq_getElem hlt
            obtain ⟨q1, z, q2, q3⟩ := stb_ok (j := (x'.toInt - lo).toNat) hM2 hb (by rw [Array.getElem?_toList]; exact hget) (by omega)
            refine ⟨(ztgt pc offs[(x'.toInt - lo).toNat], loc, r1, h), ?_, rfl, z, List.mem_append_right _ (List.mem_append_right _ q2), q3⟩
            simp only [zf4, zo1]
            rw [if_neg hc, hget]
            simp only [zj]
            rw [if_pos q1]
  case lookupswitch d ps =>
    simp only [s4] at hL
    match hst : S.2.1, hL, hs with
    | .inl x :: r, hL, hs =>
      obtain ⟨x', r1, rfl, e1, e2⟩ := sms_i hs
      simp only at hL
      split at hL
      case isFalse => cases hL
      case isTrue hn =>
        have hM2 : sMt reg gv ρ ρ0 (S.1, r, S.2.2) loc r1 h := sMt_stk hM e2
        obtain ⟨q1, q2⟩ := slk_ok hM2 hL
        rw [← e1] at q1 q2
        refine ⟨(ztgt pc (Op.lookupswitch.offset ps.toList d x'.toInt), loc, r1, h), ?_, rfl, q2⟩
        simp only [zf4, zo1, zgd, hn, zj]
        rw [if_pos q1]
        rfl
  all_goals cases hL
theorem s5_ok {kI : Nat → Option Int32} {kL : Nat → Option Int64} {i : Instr} {pc : Nat} {L : List (Nat × sS)} (hM : sMt reg gv ρ ρ0 S loc stk h) (hL : s5 kI kL i pc S = some L) : ∃ q, zf5 kI kL i pc loc stk h = some q ∧ q.2.2.2 = h ∧ sgo reg gv ρ0 L q := by
  have hs := hM.2.1
  cases i
  case ldc x =>
    simp only [s5] at hL
    cases hv : kI x with
    | none => rw [hv] at hL; cases hL
    | some v =>
      rw [hv] at hL
      cases hL
      refine ⟨(pc + 2, loc, .inl v :: stk, h), ?_, rfl, _, List.mem_singleton.mpr rfl, ρ, rfl, sMt_stk hM ⟨(sK_v ..).symm, hs⟩⟩
      simp only [zf5, hv]
  case ldc_w x =>
    simp only [s5] at hL
    cases hv : kI x with
    | none => rw [hv] at hL; cases hL
    | some v =>
      rw [hv] at hL
      cases hL
      refine ⟨(pc + 3, loc, .inl v :: stk, h), ?_, rfl, _, List.mem_singleton.mpr rfl, ρ, rfl, sMt_stk hM ⟨(sK_v ..).symm, hs⟩⟩
      simp only [zf5, hv]
  case ldc2_w x =>
    simp only [s5] at hL
    cases hv : kL x with
    | none => rw [hv] at hL; cases hL
    | some v =>
      rw [hv] at hL
      cases hL
      refine ⟨(pc + 3, loc, .inr (.inl v) :: stk, h), ?_, rfl, _, List.mem_singleton.mpr rfl, ρ, rfl, sMt_stk hM ⟨(sK_v ..).symm, hs⟩⟩
      simp only [zf5, hv]
  all_goals cases hL
end S2OK
end
section
/-! a step on expressions: what is static, texts, rows copied -/
def sct : sV → Nat
  | .inr (.inl _) => 2
  | _ => 1
section S6D
variable (reg : Nat → Nat) (rin : Nat → (Nat × List Nat) ⊕ (Nat × Nat × List Nat)) (gG : Nat → List (Nat × Nat × Int × Int)) (gu : Nat → sD) (md : sD) (gst : Nat → Option zV) (kI : Nat → Option Int32) (ldS fldS : Nat → Option Nat) (acp : Nat → Bool)
/-- the source's values at lo .. hi lie between u and w -/
def scv (b t n0 : Nat) (q : List Nat) (lo hi u w : Int) : Bool := if t = 0 then (decide (u ≤ (sgb gG b lo hi).1) && decide ((sgb gG b lo hi).2 ≤ w)) else (List.range n0).all (fun j => decide ((j : Int) < lo) || (decide (hi < (j : Int)) || (decide (q.getD j 0 ≤ 2147483647) && (decide (u ≤ (q.getD j 0 : Int)) && decide ((q.getD j 0 : Int) ≤ w)))))
def sac6 (S : sS) (pc : Nat) (n dp : sE) (a : Nat) (sp : sE) (b : Nat) (rest : List sV) : Option (List (Nat × sS)) := match rin a, rin b, sCo sp, sCo dp, sUb S.2.2.2.1 n with
  | .inr (t1, n1, _), .inr (t, n0, q), some s, some d, some u =>
    if (decide (t1 = 0) && (decide (t = 0 ∨ t = 4) && (decide ((rest.map sct).sum ≤ 8) && (decide (0 ≤ s) && (decide (0 ≤ d) && (spr S (sng n) && (spr S (sac n (s - n0)) && (spr S (sac n (d - n1)) && ((gG a).all (fun z => decide (d + u ≤ (z.1 : Int)) || (decide ((z.2.1 : Int) < d) || scv gG b t n0 q (max (z.1 : Int) d - d + s) (min (z.2.1 : Int) (d + u - 1) - d + s) z.2.2.1 z.2.2.2)) && md.any (fun z => decide (z.1 = a) && (decide (z.2.1 ≤ d) && decide (d + u - 1 ≤ z.2.2)))))))))))) = true then
      some [(pc + 3, ((skl gu [(a, d, d + u - 1)] S).1, rest, (skl gu [(a, d, d + u - 1)] S).2.2))] else none
  | _, _, _, _, _ => none
def s6 (i : Instr) (pc : Nat) (S : sS) : Option (List (Nat × sS)) := match i with
  | .getstatic idx => (match gst idx with
    | some (.inl x) => some [(pc + 3, (S.1, .inl (sK x.toInt) :: S.2.1, S.2.2))]
    | some (.inr (.inr k)) => some [(pc + 3, (S.1, .inr (.inr (reg k)) :: S.2.1, S.2.2))]
    | _ => none)
  | .ldc idx => (match kI idx, ldS idx with
    | none, some k => some [(pc + 2, (S.1, .inr (.inr (reg k)) :: S.2.1, S.2.2))]
    | _, _ => none)
  | .getfield idx => (match S.2.1 with
    | .inr (.inr r) :: rest => (match rin r, fldS idx with
      | .inr (5, v, _), some 0 => some [(pc + 3, (S.1, .inr (.inr v) :: rest, S.2.2))]
      | .inr (5, _, _), some (_ + 1) => some [(pc + 3, (S.1, .inl (sK 0) :: rest, S.2.2))]
      | _, _ => none)
    | _ => none)
  | .iaload => (match S.2.1 with
    | .inl e :: .inr (.inr r) :: rest => (match rin r with
      | .inr (4, n, q) => if (sin S e n && q.all (fun x => decide (x ≤ 2147483647))) = true then some ((List.range n).flatMap (fun (j : Nat) => (sceq (S.1, rest, S.2.2) (sac e (-(j : Int)))).toList.map (fun T => (pc + 1, (T.1, .inl (sK (q.getD j 0)) :: T.2.1, T.2.2))))) else none
      | _ => none)
    | _ => none)
  | .baload => (match S.2.1 with
    | .inl e :: .inr (.inr r) :: _ => (match rin r with
      | .inr (6, n, q) => if (sin S e n && (decide (q.length = n) && q.all (fun x => decide (1 ≤ x ∧ x ≤ 127)))) = true then spu 2 (pc + 1) (sfr 1 127 S []) else none
      | _ => none)
    | _ => none)
  | .arraylength => (match S.2.1 with
    | .inr (.inr r) :: rest => (match rin r with
      | .inr (t, n, _) => if (t = 4 ∨ t = 6) ∧ n ≤ 2147483647 then some [(pc + 1, (S.1, .inl (sK n) :: rest, S.2.2))] else none
      | _ => none)
    | _ => none)
  | .i2b => (match S.2.1 with
    | .inl x :: _ => spu 1 (pc + 1) (srg S x (-128) 127)
    | _ => none)
  | .invokestatic idx => if acp idx = true then (match S.2.1 with
    | .inl n :: .inl dp :: .inr (.inr a) :: .inl sp :: .inr (.inr b) :: rest => sac6 rin gG gu md S pc n dp a sp b rest
    | _ => none) else none
  | _ => none
end S6D
section S6OK
variable {tab rin : Nat → (Nat × List Nat) ⊕ (Nat × Nat × List Nat)} {reg : Nat → Nat} {sing : Nat → Bool} {gG : Nat → List (Nat × Nat × Int × Int)} {gu : Nat → sD} {md : sD} {fld : Nat → Option (Nat × Nat × Nat)} {gst : Nat → Option zV} {kI : Nat → Option Int32} {kL : Nat → Option Int64} {ldS fldS : Nat → Option Nat} {acp : Nat → Bool} {gv : Nat → zH → Int} {ρ ρ0 : Nat → Int} {S T : sS} {loc : zL} {stk : List zV} {h h0 : zH} {e : sE}
theorem srow (hcomp : ∀ k, rin (reg k) = smT reg (tab k)) {k t n : Nat} {q : List Nat} (ht : rin (reg k) = .inr (t, n, q)) (h5 : t ≠ 5) (h23 : ¬ (t = 2 ∨ t = 3)) : tab k = .inr (t, n, q) := by
  rw [hcomp k] at ht
  cases hk : tab k with
  | inl z => obtain ⟨a, b⟩ := z; rw [hk] at ht; cases ht
  | inr z =>
    obtain ⟨t2, n2, q2⟩ := z
    rw [hk] at ht
    have ht := Sum.inr.inj ht
    have e1 : t2 = t := congrArg (·.1) ht
    have e2 := congrArg (·.2.1) ht
    have e3 := congrArg (·.2.2) ht
    simp only at e2 e3
    subst e1
    rw [if_neg h5] at e2
    rw [if_neg h23] at e3
    rw [e2, e3]
theorem scat_sum : ∀ {l : List zV} {t : List sV}, sms reg ρ l t → (l.map zcat).sum = (t.map sct).sum
  | [], [], _ => rfl
  | v :: l, s :: t, hm => by
    rw [List.map_cons, List.map_cons, List.sum_cons, List.sum_cons, scat_sum hm.2]
    congr 1
    match v, s, hm.1 with
    | .inl _, .inl _, _ => rfl
    | .inr (.inl _), .inr (.inl _), _ => rfl
    | .inr (.inr _), .inr (.inr _), _ => rfl
theorem sac6_ok (hcomp : ∀ k, rin (reg k) = smT reg (tab k)) (hgv : sGv reg gu gv) (hG : sG reg gG h) (hF : sF reg md h0 h) {idx pc : Nat} {L : List (Nat × sS)} {n dp sp : Int32} {ka kb : Nat} {r : List zV} {en ed es : sE} {rest : List sV} (ha : acp idx = true) (hM : sMt reg gv ρ ρ0 S loc (.inl n :: .inl dp :: .inr (.inr ka) :: .inl sp :: .inr (.inr kb) :: r) h) (hn : n.toInt = sv ρ en) (hd : dp.toInt = sv ρ ed) (hs : sp.toInt = sv ρ es) (hr : sms reg ρ r rest) (hL : sac6 rin gG gu md S pc en ed (reg ka) es (reg kb) rest = some L) : ∃ q, zf6 tab gst ldS fldS acp (.invokestatic idx) pc loc (.inl n :: .inl dp :: .inr (.inr ka) :: .inl sp :: .inr (.inr kb) :: r) h = some q ∧ sG reg gG q.2.2.2 ∧ sF reg md h0 q.2.2.2 ∧ sgo reg gv ρ0 L q := by
  unfold sac6 at hL
  cases hra : rin (reg ka) with
  | inl z => rw [hra] at hL; cases hL
  | inr z =>
    obtain ⟨t1, n1, q1⟩ := z
    cases hrb : rin (reg kb) with
    | inl z => rw [hra, hrb] at hL; cases hL
    | inr z =>
      obtain ⟨t, n0, q⟩ := z
      cases hcs : sCo es with
      | none => rw [hra, hrb, hcs] at hL; cases hL
      | some s =>
        cases hcd : sCo ed with
        | none => rw [hra, hrb, hcs, hcd] at hL; cases hL
        | some d =>
          cases hcu : sUb S.2.2.2.1 en with
          | none => rw [hra, hrb, hcs, hcd, hcu] at hL; cases hL
          | some u =>
            rw [hra, hrb, hcs, hcd, hcu] at hL
            simp only at hL
            split at hL
            case isFalse => cases hL
            case isTrue hc =>
              cases hL
              simp only [Bool.and_eq_true, decide_eq_true_eq] at hc
              obtain ⟨c1, c2, c3, c4, c5, c6, c7, c8, c9, c10⟩ := hc
              subst c1
              have hta := srow hcomp hra (by omega) (by omega)
              have htb := srow hcomp hrb (by omega) (by omega)
              have hs := hs.trans (sCo_v hcs)
              have hd := hd.trans (sCo_v hcd)
              have hu := sUb_le hM.2.2.2.1 hcu
              have p6 := spr_le hM c6
              have p7 := spr_le hM c7
              have p8 := spr_le hM c8
              rw [sng_v] at p6
              rw [sac_v] at p7 p8
              have nn : n.toNatClampNeg = n.toInt.toNat := rfl
              have nd : dp.toNatClampNeg = dp.toInt.toNat := rfl
              have ns : sp.toNatClampNeg = sp.toInt.toNat := rfl
              have hsum : (r.map zcat).sum ≤ 8 := by rw [scat_sum hr]; exact c3
              generalize hh2 : zsr h ka (va_cpy (if t = 0 then h.1 kb else fun j => Int32.ofNat (q.getD j 0)) (h.1 ka) sp.toNatClampNeg dp.toNatClampNeg n.toNatClampNeg) = h2
              have hv1 : ∀ k, k ≠ ka → h2.1 k = h.1 k := fun k hk => by
                rw [← hh2]
                show (if k = ka then _ else _) = _
                rw [if_neg hk]
              have hv2 : h2.1 ka = va_cpy (if t = 0 then h.1 kb else fun j => Int32.ofNat (q.getD j 0)) (h.1 ka) sp.toNatClampNeg dp.toNatClampNeg n.toNatClampNeg := by
                rw [← hh2]
                show (if ka = ka then _ else _) = _
                rw [if_pos rfl]
              have hF1 : sF reg [(reg ka, d, d + u - 1)] h h2 := by
                intro k j hne
                by_cases hk : k = ka
                · subst hk
                  refine ⟨_, List.mem_singleton.mpr rfl, rfl, ?_⟩
                  rw [hv2] at hne
                  by_cases hj : dp.toNatClampNeg ≤ j ∧ j < dp.toNatClampNeg + n.toNatClampNeg
                  · simp only
                    omega
                  · rw [pk_cpy_out (by omega)] at hne
                    exact absurd rfl hne
                · rw [hv1 k hk] at hne
                  exact absurd rfl hne
              refine ⟨(pc + 3, loc, r, h2), ?_, ?_, ?_, ?_⟩
              · simp only [zf6, ha, hta, htb, zar, zoA, zgd, decide_eq_true hsum, decide_eq_true c2, if_true]
                rw [if_pos (by apply decide_eq_true; omega), hh2]
              · intro k z hz j hj1 hj2
                by_cases hk : k = ka
                · subst hk
                  by_cases hj : dp.toNatClampNeg ≤ j ∧ j < dp.toNatClampNeg + n.toNatClampNeg
                  · rw [hv2, pk_cpy_in hj.1 hj.2]
                    have hgz := (List.all_eq_true.mp c9) z hz
                    simp only [Bool.or_eq_true, decide_eq_true_eq] at hgz
                    rcases hgz with g | g | g
                    · omega
                    · omega
                    · unfold scv at g
                      by_cases ht : t = 0
                      · rw [if_pos ht, Bool.and_eq_true, decide_eq_true_eq, decide_eq_true_eq] at g
                        rw [if_pos ht]
                        have hb : (sgb gG (reg kb) (max (z.1 : Int) d - d + s) (min (z.2.1 : Int) (d + u - 1) - d + s)).1 ≤ (h.1 kb (sp.toNatClampNeg + (j - dp.toNatClampNeg))).toInt ∧ (h.1 kb (sp.toNatClampNeg + (j - dp.toNatClampNeg))).toInt ≤ (sgb gG (reg kb) (max (z.1 : Int) d - d + s) (min (z.2.1 : Int) (d + u - 1) - d + s)).2 := by
                          unfold sgb
                          cases hg : (gG (reg kb)).find? (fun y => decide ((y.1 : Int) ≤ max (z.1 : Int) d - d + s) && decide (min (z.2.1 : Int) (d + u - 1) - d + s ≤ (y.2.1 : Int))) with
                          | none => exact si32 _
                          | some y =>
                            have hy := List.find?_some hg
                            simp only [Bool.and_eq_true, decide_eq_true_eq] at hy
                            exact hG kb y (List.mem_of_find?_eq_some hg) _ (by omega) (by omega)
                        omega
                      · rw [if_neg ht, List.all_eq_true] at g
                        rw [if_neg ht]
                        have g1 := g (sp.toNatClampNeg + (j - dp.toNatClampNeg)) (List.mem_range.mpr (by omega))
                        simp only [Bool.or_eq_true, Bool.and_eq_true, decide_eq_true_eq] at g1
                        rcases g1 with g1 | g1 | ⟨g1, g2, g3⟩
                        · omega
                        · omega
                        · have e0 : (Int32.ofNat (q.getD (sp.toNatClampNeg + (j - dp.toNatClampNeg)) 0)).toInt = ((q.getD (sp.toNatClampNeg + (j - dp.toNatClampNeg)) 0 : Nat) : Int) := so32 (n := ((q.getD (sp.toNatClampNeg + (j - dp.toNatClampNeg)) 0 : Nat) : Int)) (by omega) (by omega)
                          rw [e0]
                          exact ⟨g2, g3⟩
                  · rw [hv2, pk_cpy_out (by omega)]
                    exact hG k z hz j hj1 hj2
                · rw [hv1 k hk]
                  exact hG k z hz j hj1 hj2
              · intro k j hne
                by_cases hne2 : h2.1 k j = h.1 k j
                · rw [hne2] at hne
                  exact hF k j hne
                · obtain ⟨z1, hz1, a1, a2, a3⟩ := hF1 k j hne2
                  rw [List.mem_singleton] at hz1
                  subst hz1
                  obtain ⟨z, hz, hz2⟩ := List.any_eq_true.mp c10
                  simp only [Bool.and_eq_true, decide_eq_true_eq] at hz2
                  simp only at a1 a2 a3
                  exact ⟨z, hz, a1.trans hz2.1.symm, by omega, by omega⟩
              · exact ⟨_, List.mem_singleton.mpr rfl, ρ, rfl, sMt_stk (skl_ok hgv hF1 hM) hr⟩
theorem zf1_g {i : Instr} {pc : Nat} {loc : zL} {stk : List zV} {h : zH} (hi : (match i with | .getstatic _ => true | .ldc _ => true | .getfield _ => true | .iaload => true | .baload => true | .arraylength => true | .i2b => true | .invokestatic _ => true | _ => false) = true) : zf1 i pc loc stk h = none ∧ zf4 i pc loc stk h = none := by
  cases i <;> first | exact ⟨rfl, rfl⟩ | cases hi
set_option maxHeartbeats 2000000 in
theorem s6_ok (hcomp : ∀ k, rin (reg k) = smT reg (tab k)) (hgv : sGv reg gu gv) (hG : sG reg gG h) (hF : sF reg md h0 h) {i : Instr} {pc : Nat} {L : List (Nat × sS)} (hM : sMt reg gv ρ ρ0 S loc stk h) (hL : s6 reg rin gG gu md gst kI ldS fldS acp i pc S = some L) : zf1 i pc loc stk h = none ∧ zf2 tab fld i pc loc stk h = none ∧ zf4 i pc loc stk h = none ∧ zf5 kI kL i pc loc stk h = none ∧ ∃ q, zf6 tab gst ldS fldS acp i pc loc stk h = some q ∧ sG reg gG q.2.2.2 ∧ sF reg md h0 q.2.2.2 ∧ sgo reg gv ρ0 L q := by
  have hs := hM.2.1
  cases i
  case getstatic idx =>
    refine ⟨rfl, rfl, rfl, rfl, ?_⟩
    simp only [s6] at hL
    cases hg : gst idx with
    | none => rw [hg] at hL; cases hL
    | some v =>
      rw [hg] at hL
      match v, hL, hg with
      | .inl x, hL, hg =>
        cases hL
        refine ⟨(pc + 3, loc, .inl x :: stk, h), ?_, hG, hF, _, List.mem_singleton.mpr rfl, ρ, rfl, sMt_stk hM ⟨(sK_v ..).symm, hs⟩⟩
        simp only [zf6, hg]
      | .inr (.inr k), hL, hg =>
        cases hL
        refine ⟨(pc + 3, loc, .inr (.inr k) :: stk, h), ?_, hG, hF, _, List.mem_singleton.mpr rfl, ρ, rfl, sMt_stk hM ⟨rfl, hs⟩⟩
        simp only [zf6, hg]
  case ldc idx =>
    simp only [s6] at hL
    cases hk : kI idx with
    | some v => rw [hk] at hL; cases hL
    | none =>
      cases hg : ldS idx with
      | none => rw [hk, hg] at hL; cases hL
      | some k =>
        rw [hk, hg] at hL
        cases hL
        refine ⟨rfl, rfl, rfl, ?_, (pc + 2, loc, .inr (.inr k) :: stk, h), ?_, hG, hF, _, List.mem_singleton.mpr rfl, ρ, rfl, sMt_stk hM ⟨rfl, hs⟩⟩
        · simp only [zf5, hk]
        · simp only [zf6, hg]
  case getfield idx =>
    simp only [s6] at hL
    match hst : S.2.1, hL, hs with
    | .inr (.inr r) :: rest, hL, hs =>
      obtain ⟨k, r1, rfl, rfl, e2⟩ := sms_r hs
      simp only at hL
      have hcase : ∃ v q, rin (reg k) = .inr (5, v, q) := by
        cases hrk : rin (reg k) with
        | inl z => rw [hrk] at hL; cases hL
        | inr z =>
          obtain ⟨t, v, q⟩ := z
          by_cases ht : t = 5
          · exact ⟨v, q, by rw [ht]⟩
          · rw [hrk] at hL
            exfalso
            revert hL
            split
            · rename_i h1 h2
              simp only [Sum.inr.injEq, Prod.mk.injEq] at h1
              omega
            · rename_i h1 h2
              simp only [Sum.inr.injEq, Prod.mk.injEq] at h1
              omega
            · intro hL; cases hL
      obtain ⟨v, q, hv⟩ := hcase
      have htab : ∃ v0, tab k = .inr (5, v0, q) ∧ v = reg v0 := by
        have hc := hcomp k
        rw [hv] at hc
        cases hk : tab k with
        | inl z => obtain ⟨a, b⟩ := z; rw [hk] at hc; cases hc
        | inr z =>
          obtain ⟨t, v0, q0⟩ := z
          rw [hk] at hc
          have hc := Sum.inr.inj hc
          have e1 : 5 = t := congrArg (·.1) hc
          have e2 := congrArg (·.2.1) hc
          have e3 := congrArg (·.2.2) hc
          simp only at e2 e3
          subst e1
          rw [if_pos rfl] at e2
          rw [if_neg (by omega)] at e3
          exact ⟨v0, by rw [e3], e2⟩
      obtain ⟨v0, ht, rfl⟩ := htab
      have hzar : zar tab k 5 = some (v0, q) := by
        unfold zar
        rw [ht]
        rfl
      refine ⟨rfl, ?_, rfl, rfl, ?_⟩
      · simp only [zf2, zoR1, zfo, ht, zoF]
      · rw [hv] at hL
        cases hf : fldS idx with
        | none => rw [hf] at hL; cases hL
        | some t =>
          rw [hf] at hL
          match t, hL, hf with
          | 0, hL, hf =>
            cases hL
            refine ⟨(pc + 3, loc, .inr (.inr v0) :: r1, h), ?_, hG, hF, _, List.mem_singleton.mpr rfl, ρ, rfl, sMt_stk hM ⟨rfl, e2⟩⟩
            simp only [zf6, zoR1, hzar, zoA, hf]
          | t + 1, hL, hf =>
            cases hL
            refine ⟨(pc + 3, loc, .inl 0 :: r1, h), ?_, hG, hF, _, List.mem_singleton.mpr rfl, ρ, rfl, sMt_stk hM ⟨(sK_v ..).symm, e2⟩⟩
            simp only [zf6, zoR1, hzar, zoA, hf]
  case iaload =>
    simp only [s6] at hL
    match hst : S.2.1, hL, hs with
    | .inl e :: .inr (.inr r) :: rest, hL, hs =>
      obtain ⟨x', r1, rfl, e1, e2⟩ := sms_i hs
      obtain ⟨k, r2, rfl, rfl, e3⟩ := sms_r e2
      simp only at hL
      cases hrk : rin (reg k) with
      | inl z => rw [hrk] at hL; cases hL
      | inr z =>
        obtain ⟨t, n, q⟩ := z
        rw [hrk] at hL
        split at hL
        case h_2 => cases hL
        case h_1 heq =>
          simp only [Sum.inr.injEq, Prod.mk.injEq] at heq
          obtain ⟨rfl, rfl, rfl⟩ := heq
          have ht := srow hcomp hrk (by omega) (by omega)
          split at hL
          case isFalse => cases hL
          case isTrue hc =>
            cases hL
            rw [Bool.and_eq_true] at hc
            obtain ⟨i1, i2, i3⟩ := sin_ok hM hc.1 e1
            have hlt : x'.toNatClampNeg < n := by
              have := of_decide_eq_true i1
              show x'.toInt.toNat < n
              omega
            refine ⟨rfl, ?_, rfl, rfl, (pc + 1, loc, .inl (Int32.ofNat (q.getD x'.toNatClampNeg 0)) :: r2, h), ?_, hG, hF, ?_⟩
            · simp only [zf2, zoRI, zar, ht, zoA]
              rfl
            · simp only [zf6, zoRI, zar, ht, zoA, zgd, i1, if_true]
            · have hM2 : sMt reg gv ρ ρ0 (S.1, rest, S.2.2) loc r2 h := sMt_stk hM e3
              obtain ⟨T, q1, q2, -⟩ := sceq_ok hM2 (d := sac e (-((x'.toNatClampNeg : Nat) : Int))) (by rw [sac_v, i3]; omega)
              refine ⟨(pc + 1, (T.1, .inl (sK (q.getD x'.toNatClampNeg 0)) :: T.2.1, T.2.2)), ?_, ρ, rfl, sMt_stk q2 ⟨?_, q2.2.1⟩⟩
              · refine List.mem_flatMap.mpr ⟨x'.toNatClampNeg, List.mem_range.mpr hlt, ?_⟩
                rw [q1]
                exact List.mem_singleton.mpr rfl
              · show (Int32.ofNat (q.getD x'.toNatClampNeg 0)).toInt = _
                rw [sK_v]
                have hle : q.getD x'.toNatClampNeg 0 ≤ 2147483647 := by
                  rw [List.getD_eq_getElem?_getD]
                  cases hq : q[x'.toNatClampNeg]? with
                  | none => exact Nat.zero_le _
                  | some y => exact of_decide_eq_true ((List.all_eq_true.mp hc.2) y (List.mem_of_getElem? hq))
                exact so32 (n := ((q.getD x'.toNatClampNeg 0 : Nat) : Int)) (by omega) (by omega)
  case baload =>
    simp only [s6] at hL
    match hst : S.2.1, hL, hs with
    | .inl e :: .inr (.inr r) :: rest, hL, hs =>
      obtain ⟨x', r1, rfl, e1, e2⟩ := sms_i hs
      obtain ⟨k, r2, rfl, rfl, e3⟩ := sms_r e2
      simp only at hL
      cases hrk : rin (reg k) with
      | inl z => rw [hrk] at hL; cases hL
      | inr z =>
        obtain ⟨t, n, q⟩ := z
        rw [hrk] at hL
        split at hL
        case h_2 => cases hL
        case h_1 heq =>
          simp only [Sum.inr.injEq, Prod.mk.injEq] at heq
          obtain ⟨rfl, rfl, rfl⟩ := heq
          have ht := srow hcomp hrk (by omega) (by omega)
          split at hL
          case isFalse => cases hL
          case isTrue hc =>
            simp only [Bool.and_eq_true, decide_eq_true_eq] at hc
            obtain ⟨hc1, hc2, hc3⟩ := hc
            obtain ⟨i1, i2, i3⟩ := sin_ok hM hc1 e1
            have hlt : x'.toNatClampNeg < q.length := by
              have := of_decide_eq_true i1
              rw [hc2]
              show x'.toInt.toNat < n
              omega
            have hb := of_decide_eq_true ((List.all_eq_true.mp hc3) q[x'.toNatClampNeg] (List.getElem_mem hlt))
            have hg : q.getD x'.toNatClampNeg 0 = q[x'.toNatClampNeg] := by
              rw [List.getD_eq_getElem?_getD, List.getElem?_eq_getElem hlt]
              rfl
            refine ⟨rfl, ?_, rfl, rfl, (pc + 1, loc, .inl (Int32.ofNat (q.getD x'.toNatClampNeg 0)) :: r2, h), ?_, hG, hF, ?_⟩
            · simp only [zf2, zoRI, zar, ht, zoA]
              rfl
            · simp only [zf6, zoRI, zar, ht, zoA, zgd, i1, if_true]
            · refine spu_go (stk := .inl x' :: .inr (.inr k) :: r2) hL (fun e T ho => ?_)
              have e0 : (Int32.ofNat (q.getD x'.toNatClampNeg 0)).toInt = ((q.getD x'.toNatClampNeg 0 : Nat) : Int) := so32 (n := ((q.getD x'.toNatClampNeg 0 : Nat) : Int)) (by omega) (by omega)
              obtain ⟨ρ', a, b, -⟩ := sfr_ok (x := (Int32.ofNat (q.getD x'.toNatClampNeg 0)).toInt) ho hM (by rw [e0]; omega) (by rw [e0]; omega)
              exact ⟨ρ', a, b.symm⟩
  case arraylength =>
    simp only [s6] at hL
    match hst : S.2.1, hL, hs with
    | .inr (.inr r) :: rest, hL, hs =>
      obtain ⟨k, r2, rfl, rfl, e3⟩ := sms_r hs
      simp only at hL
      cases hrk : rin (reg k) with
      | inl z => rw [hrk] at hL; cases hL
      | inr z =>
        obtain ⟨t, n, q⟩ := z
        rw [hrk] at hL
        simp only at hL
        split at hL
        case isFalse => cases hL
        case isTrue hc =>
          cases hL
          have ht := srow hcomp hrk (by omega) (by omega)
          refine ⟨rfl, ?_, rfl, rfl, (pc + 1, loc, .inl (Int32.ofNat n) :: r2, h), ?_, hG, hF, _, List.mem_singleton.mpr rfl, ρ, rfl, sMt_stk hM ⟨?_, e3⟩⟩
          · simp only [zf2, zoR1, ht, zgd]
            rw [if_neg (by rw [decide_eq_true_eq]; omega)]
          · simp only [zf6, zoR1, ht, zgd, decide_eq_true hc.1, if_true]
          · show (Int32.ofNat n).toInt = _
            rw [sK_v]
            exact so32 (n := (n : Int)) (by omega) (by omega)
  case i2b =>
    refine ⟨rfl, rfl, rfl, rfl, ?_⟩
    simp only [s6] at hL
    match hst : S.2.1, hL, hs with
    | .inl x :: r, hL, hs =>
      obtain ⟨x', r1, rfl, e1, e2⟩ := sms_i hs
      exact ⟨_, rfl, hG, hF, spu_go (stk := .inl x' :: r1) hL (fun e T ho => sk2 (α := Nat) (srg_ok ho hM _ (fun h1 h2 => by rw [← e1]; exact si2b x' (by omega) (by omega))))⟩
  case invokestatic idx =>
    refine ⟨rfl, rfl, rfl, rfl, ?_⟩
    simp only [s6] at hL
    split at hL
    case isFalse => cases hL
    case isTrue ha =>
      match hst : S.2.1, hL, hs with
      | .inl n :: .inl dp :: .inr (.inr a) :: .inl sp :: .inr (.inr b) :: rest, hL, hs =>
        obtain ⟨n', r1, rfl, e1, f1⟩ := sms_i hs
        obtain ⟨d', r2, rfl, e2, f2⟩ := sms_i f1
        obtain ⟨ka, r3, rfl, rfl, f3⟩ := sms_r f2
        obtain ⟨s', r4, rfl, e4, f4⟩ := sms_i f3
        obtain ⟨kb, r5, rfl, rfl, f5⟩ := sms_r f4
        exact sac6_ok hcomp hgv hG hF ha hM e1 e2 e4 f5 hL
  all_goals cases hL
end S6OK
end
section
/-! what is told of a place in a method: its variables, their bounds, and how a state comes there -/
def ssb (σ : Nat → Option sE) : List (Nat × Int) → Option sE
  | [] => some (sK 0)
  | p :: l => match σ p.1, ssb σ l with
    | some e, some f => some (sadd f e p.2)
    | _, _ => none
def ssu (σ : Nat → Option sE) (e : sE) : Option sE := match ssb σ e.2 with
  | some f => some (sac f e.1)
  | none => none
theorem ssb_v {σ : Nat → Option sE} {ρ ρ' : Nat → Int} (hσ : ∀ s f, σ s = some f → ρ' s = sv ρ f) : ∀ {l : List (Nat × Int)} {f : sE}, ssb σ l = some f → sT ρ' l = sv ρ f
  | [], f, e => by cases e; rw [sK_v]; rfl
  | p :: l, f, e => by
    unfold ssb at e
    cases h1 : σ p.1 with
    | none => rw [h1] at e; cases e
    | some g =>
      cases h2 : ssb σ l with
      | none => rw [h1, h2] at e; cases e
      | some f2 =>
        rw [h1, h2] at e
        cases e
        show p.2 * ρ' p.1 + sT ρ' l = _
        rw [sadd_v, hσ _ _ h1, ssb_v hσ h2]
        omega
theorem ssu_v {σ : Nat → Option sE} {ρ ρ' : Nat → Int} (hσ : ∀ s f, σ s = some f → ρ' s = sv ρ f) {e f : sE} (h : ssu σ e = some f) : sv ρ' e = sv ρ f := by
  unfold ssu at h
  cases h2 : ssb σ e.2 with
  | none => rw [h2] at h; cases h
  | some g =>
    rw [h2] at h
    cases h
    show e.1 + sT ρ' e.2 = _
    rw [sac_v, ssb_v hσ h2]
    omega
/-- references, variables (0 an int's local, 1 a long's, 2 a place, 3 told alone), bounds, constraints, what was at the start, the measure -/
abbrev sA : Type := List (Nat × Nat) × List (Nat × Nat × sE) × sB × List sE × List (Nat × Nat) × sE
def svl : Nat → List (Nat × Nat × sE) → List (Nat × sV)
  | _, [] => []
  | j, v :: l => if v.1 = 0 then (v.2.1, .inl (sY j)) :: svl (j + 1) l else if v.1 = 1 then (v.2.1, .inr (.inl (sY j))) :: svl (j + 1) l else svl (j + 1) l
def svp : Nat → List (Nat × Nat × sE) → List (Nat × sE × sE)
  | _, [] => []
  | j, v :: l => if v.1 = 2 then (v.2.1, v.2.2, sY j) :: svp (j + 1) l else svp (j + 1) l
def sAs (A : sA) : sS := (A.1.map (fun p => (p.1, .inr (.inr p.2))) ++ svl 0 A.2.1, [], svp 0 A.2.1, A.2.2.1, A.2.2.2.1, (0, A.2.2.2.2.2) :: A.2.2.2.2.1.map (fun p => (p.1 + 1, sY p.2)))
section SARR
variable (sing : Nat → Bool) (gG : Nat → List (Nat × Nat × Int × Int))
/-- the variables' values -/
def sva (ent : List (Nat × Nat)) : List (Nat × Nat × sE) → List sE → sS → Option (List sE × sS)
  | [], σ, S => some (σ, S)
  | v :: vs, σ, S =>
    if v.1 = 0 then (match sgl S v.2.1 with
      | some (.inl e) => sva ent vs (σ ++ [e]) S
      | _ => none)
    else if v.1 = 1 then (match sgl S v.2.1 with
      | some (.inr (.inl e)) => sva ent vs (σ ++ [e]) S
      | _ => none)
    else if v.1 = 2 then (match ssu (fun s => σ[s]?) v.2.2 with
      | some i => if v.2.1 < 1000 then (if (sing v.2.1 && spr S (sng i)) = true then (match sldE sing gG S v.2.1 i σ with
          | some (e, T) => sva ent vs (σ ++ [e]) T
          | none => none) else none)
        else (match S.2.2.1.find? (fun m => m.1 == v.2.1) with
          | some m => sva ent vs (σ ++ [m.2.2]) S
          | none => none)
      | none => none)
    else (match ent.find? (fun p => p.2 == σ.length) with
      | some p => (match S.2.2.2.2.2.find? (fun q => q.1 == p.1 + 1) with
        | some q => sva ent vs (σ ++ [q.2]) S
        | none => none)
      | none => none)
def sbs (S : sS) : sB → List sE → Bool
  | [], _ => true
  | b :: l, e :: σ => spr S (sac e (-b.2)) && (spr S (sac (sng e) b.1) && sbs S l σ)
  | _, _ => false
def srf (S : sS) (p : Nat × Nat) : Bool := match sgl S p.1 with
  | some (.inr (.inr r)) => r == p.2
  | _ => false
def scs (S : sS) (σ : List sE) (c : sE) : Bool := match ssu (fun s => σ[s]?) c with
  | some d => spr S d
  | none => false
/-- the values and the state, if all that A says holds -/
def sar0 (A : sA) (S : sS) : Option (List sE × sS) := match sva sing gG A.2.2.2.2.1 A.2.1 [] S with
  | some (σ, T) => if (A.1.all (srf T) && (sbs T A.2.2.1 σ && A.2.2.2.1.all (scs T σ))) = true then some (σ, T) else none
  | none => none
/-- a state comes to A, and the measure falls -/
def sarr (A : sA) (S : sS) : Bool := match sar0 sing gG A S with
  | some (σ, T) => A.2.2.2.2.1.all (fun p => match T.2.2.2.2.2.find? (fun q => q.1 == p.1 + 1), σ[p.2]? with
      | some q, some e => sz0 (sadd q.2 e (-1))
      | _, _ => false) && (match T.2.2.2.2.2.find? (fun q => q.1 == 0), ssu (fun s => σ[s]?) A.2.2.2.2.2 with
      | some q, some m => spr T (sac (sadd m q.2 (-1)) 1) && spr T (sng m)
      | _, _ => false)
  | none => false
end SARR
section SARRO
variable {reg : Nat → Nat} {sing : Nat → Bool} {gG : Nat → List (Nat × Nat × Int × Int)} {gv : Nat → zH → Int} {ρ ρ0 : Nat → Int} {S T : sS} {loc : zL} {stk : List zV} {h : zH}
/-- a variable's value is e -/
def svm (reg : Nat → Nat) (gv : Nat → zH → Int) (ρ : Nat → Int) (loc : zL) (h : zH) (σ : List sE) (v : Nat × Nat × sE) (e : sE) : Prop :=
  (v.1 = 0 → ∃ x, zget loc v.2.1 = some (.inl x) ∧ x.toInt = sv ρ e) ∧ (v.1 = 1 → ∃ x, zget loc v.2.1 = some (.inr (.inl x)) ∧ x.toInt = sv ρ e) ∧ (v.1 = 2 → ∃ i, ssu (fun s => σ[s]?) v.2.2 = some i ∧ smm reg gv ρ h (v.2.1, i, e))
theorem ssb_mono {σ τ : Nat → Option sE} (hσ : ∀ s f, σ s = some f → τ s = some f) : ∀ {l : List (Nat × Int)} {f : sE}, ssb σ l = some f → ssb τ l = some f
  | [], f, e => e
  | p :: l, f, e => by
    unfold ssb at e ⊢
    cases h1 : σ p.1 with
    | none => rw [h1] at e; cases e
    | some g =>
      cases h2 : ssb σ l with
      | none => rw [h1, h2] at e; cases e
      | some f2 =>
        rw [h1, h2] at e
        rw [hσ _ _ h1, ssb_mono hσ h2]
        exact e
theorem ssu_mono {σ τ : Nat → Option sE} (hσ : ∀ s f, σ s = some f → τ s = some f) {e f : sE} (h : ssu σ e = some f) : ssu τ e = some f := by
  unfold ssu at h ⊢
  cases h2 : ssb σ e.2 with
  | none => rw [h2] at h; cases h
  | some g =>
    rw [h2] at h
    rw [ssb_mono hσ h2]
    exact h
theorem sva_ok (hsing : ∀ k k', sing (reg k) = true → reg k' = reg k → k' = k) (hcell : ∀ r, sing r = true → ∃ k, reg k = r) (hG : sG reg gG h) (ent : List (Nat × Nat)) : ∀ (vs : List (Nat × Nat × sE)) (σ σ' : List sE) (S T : sS) (ρ : Nat → Int), sMt reg gv ρ ρ0 S loc stk h → sva sing gG ent vs σ S = some (σ', T) → ∃ ρ', sMt reg gv ρ' ρ0 T loc stk h ∧ (∀ c ∈ σ, sv ρ' c = sv ρ c) ∧ (∃ τ, σ' = σ ++ τ ∧ τ.length = vs.length) ∧ (∀ i v, vs[i]? = some v → ∃ e, σ'[σ.length + i]? = some e ∧ svm reg gv ρ' loc h σ' v e) ∧ T.2.1 = S.2.1
  | [], σ, σ', S, T, ρ, hM, e => by
    cases e
    exact ⟨ρ, hM, fun _ _ => rfl, ⟨[], (List.append_nil _).symm, rfl⟩, (fun i v hv => (by cases hv)), rfl⟩
  | v :: vs, σ, σ', S, T, ρ, hM, e => by
    have step : ∀ (e1 : sE) (S1 : sS) (ρ1 : Nat → Int), sMt reg gv ρ1 ρ0 S1 loc stk h → (∀ c ∈ σ, sv ρ1 c = sv ρ c) → sva sing gG ent vs (σ ++ [e1]) S1 = some (σ', T) → S1.2.1 = S.2.1 → (∀ (ρ' : Nat → Int), (∀ c ∈ σ ++ [e1], sv ρ' c = sv ρ1 c) → (∀ (s : Nat) (f : sE), σ[s]? = some f → σ'[s]? = some f) → svm reg gv ρ' loc h σ' v e1) → ∃ ρ', sMt reg gv ρ' ρ0 T loc stk h ∧ (∀ c ∈ σ, sv ρ' c = sv ρ c) ∧ (∃ τ, σ' = σ ++ τ ∧ τ.length = (v :: vs).length) ∧ (∀ i w, (v :: vs)[i]? = some w → ∃ e, σ'[σ.length + i]? = some e ∧ svm reg gv ρ' loc h σ' w e) ∧ T.2.1 = S.2.1 := by
      intro e1 S1 ρ1 hM1 hσ1 hs hstk hv
      obtain ⟨ρ', a, b, ⟨τ, c1, c2⟩, d, d2⟩ := sva_ok hsing hcell hG ent vs (σ ++ [e1]) σ' S1 T ρ1 hM1 hs
      have hpre : ∀ (s : Nat) (f : sE), σ[s]? = some f → σ'[s]? = some f := fun s f hf => by
        rw [c1, List.append_assoc, List.getElem?_append_left (List.getElem?_eq_some_iff.mp hf).1]
        exact hf
      refine ⟨ρ', a, fun c hc => (b c (List.mem_append_left _ hc)).trans (hσ1 c hc), ⟨e1 :: τ, by rw [c1, List.append_assoc]; rfl, by rw [List.length_cons, List.length_cons, c2]⟩, ?_, d2.trans hstk⟩
      intro i w hw
      match i, hw with
      | 0, hw =>
        cases hw
        refine ⟨e1, ?_, hv ρ' b hpre⟩
        rw [c1, List.append_assoc, List.getElem?_append_right (by omega)]
        simp
      | i + 1, hw =>
        obtain ⟨e2, p1, p2⟩ := d i w hw
        refine ⟨e2, ?_, p2⟩
        rw [← p1, List.length_append, List.length_singleton]
        congr 1
        omega
    unfold sva at e
    by_cases k0 : v.1 = 0
    · rw [if_pos k0] at e
      cases hg : sgl S v.2.1 with
      | none => rw [hg] at e; cases e
      | some s =>
        rw [hg] at e
        obtain ⟨w, w1, w2⟩ := sgl_ok hM hg
        match s, w, e, w2, w1 with
        | .inl e1, .inl x, e, w2, w1 =>
          refine step e1 S ρ hM (fun _ _ => rfl) e rfl (fun ρ' h1 _ => ⟨fun _ => ⟨x, w1, ?_⟩, (fun q => (by omega)), (fun q => (by omega))⟩)
          rw [h1 e1 (List.mem_append_right _ (List.mem_singleton.mpr rfl))]
          exact w2
    · rw [if_neg k0] at e
      by_cases k1 : v.1 = 1
      · rw [if_pos k1] at e
        cases hg : sgl S v.2.1 with
        | none => rw [hg] at e; cases e
        | some s =>
          rw [hg] at e
          obtain ⟨w, w1, w2⟩ := sgl_ok hM hg
          match s, w, e, w2, w1 with
          | .inr (.inl e1), .inr (.inl x), e, w2, w1 =>
            refine step e1 S ρ hM (fun _ _ => rfl) e rfl (fun ρ' h1 _ => ⟨(fun q => (by omega)), fun _ => ⟨x, w1, ?_⟩, (fun q => (by omega))⟩)
            rw [h1 e1 (List.mem_append_right _ (List.mem_singleton.mpr rfl))]
            exact w2
      · rw [if_neg k1] at e
        by_cases k2 : v.1 = 2
        · rw [if_pos k2] at e
          cases hi : ssu (fun s => σ[s]?) v.2.2 with
          | none => rw [hi] at e; cases e
          | some ix =>
            rw [hi] at e
            simp only at e
            by_cases hr : v.2.1 < 1000
            · rw [if_pos hr] at e
              split at e
              case isFalse => cases e
              case isTrue hc =>
                rw [Bool.and_eq_true] at hc
                have hp := spr_le hM hc.2
                rw [sng_v] at hp
                cases hl : sldE sing gG S v.2.1 ix σ with
                | none => rw [hl] at e; cases e
                | some z =>
                  obtain ⟨e1, S1⟩ := z
                  rw [hl] at e
                  obtain ⟨k, hk⟩ := hcell _ hc.1
                  rw [← hk] at hl
                  obtain ⟨ρ1, m1, m2, m5, m3, m4⟩ := sldE_ok hsing hG hM (by rw [hk]; exact hr) (by omega) hl
                  refine step e1 S1 ρ1 m1 m4 e m5 (fun ρ' h1 h2 => ⟨(fun q => (by omega)), (fun q => (by omega)), fun _ => ⟨ix, ssu_mono h2 hi, ?_⟩⟩)
                  have hix : sv ρ' ix = sv ρ ix := by
                    have q1 := ssu_v (σ := fun s => σ[s]?) (ρ := ρ) (ρ' := fun s => match σ[s]? with | some f => sv ρ f | none => 0) (fun s f hf => by simp only [hf]) hi
                    have q2 := ssu_v (σ := fun s => σ[s]?) (ρ := ρ') (ρ' := fun s => match σ[s]? with | some f => sv ρ f | none => 0) (fun s f hf => by
                      simp only [hf]
                      have hm := List.mem_of_getElem? hf
                      rw [h1 f (List.mem_append_left _ hm), m4 f hm]) hi
                    rw [← q1, ← q2]
                  unfold smm
                  rw [if_pos hr]
                  simp only
                  rw [hix, h1 e1 (List.mem_append_right _ (List.mem_singleton.mpr rfl))]
                  refine ⟨by omega, fun k2 hk2 => ?_⟩
                  rw [hsing k k2 (by rw [hk]; exact hc.1) (hk2.trans hk.symm)]
                  exact m2
            · rw [if_neg hr] at e
              cases hf : S.2.2.1.find? (fun m => m.1 == v.2.1) with
              | none => rw [hf] at e; cases e
              | some m =>
                rw [hf] at e
                have hm := hM.2.2.1 m (List.mem_of_find?_eq_some hf)
                have hm1 : m.1 = v.2.1 := by have := List.find?_some hf; simpa using this
                refine step m.2.2 S ρ hM (fun _ _ => rfl) e rfl (fun ρ' h1 h2 => ⟨(fun q => (by omega)), (fun q => (by omega)), fun _ => ⟨ix, ssu_mono h2 hi, ?_⟩⟩)
                unfold smm at hm ⊢
                rw [if_neg (by omega)] at hm
                rw [if_neg hr]
                simp only
                rw [h1 m.2.2 (List.mem_append_right _ (List.mem_singleton.mpr rfl)), ← hm1]
                exact hm
        · rw [if_neg k2] at e
          cases hf : ent.find? (fun p => p.2 == σ.length) with
          | none => rw [hf] at e; cases e
          | some p =>
            rw [hf] at e
            simp only at e
            cases hf2 : S.2.2.2.2.2.find? (fun q => q.1 == p.1 + 1) with
            | none => rw [hf2] at e; cases e
            | some q =>
              rw [hf2] at e
              exact step q.2 S ρ hM (fun _ _ => rfl) e rfl (fun ρ' h1 h2 => ⟨(fun q => (by omega)), (fun q => (by omega)), (fun q => (by omega))⟩)
/-- the values as a valuation -/
def sval (ρ : Nat → Int) (σ : List sE) : Nat → Int := fun s => match σ[s]? with
  | some f => sv ρ f
  | none => 0
theorem sval_h {ρ : Nat → Int} {σ : List sE} : ∀ s f, (fun s => σ[s]?) s = some f → sval ρ σ s = sv ρ f := fun s f hf => by
  unfold sval
  have hf : σ[s]? = some f := hf
  rw [hf]
theorem svl_ok {ρ : Nat → Int} {σ : List sE} : ∀ (vs : List (Nat × Nat × sE)) (j : Nat), (∀ i v, vs[i]? = some v → ∃ e, σ[j + i]? = some e ∧ svm reg gv ρ loc h σ v e) → (∀ p ∈ svl j vs, ∃ w, zget loc p.1 = some w ∧ sm reg (sval ρ σ) w p.2) ∧ (∀ m ∈ svp j vs, smm reg gv (sval ρ σ) h m)
  | [], j, _ => ⟨(fun p hp => (by cases hp)), (fun p hp => (by cases hp))⟩
  | v :: vs, j, hv => by
    obtain ⟨e, e1, e2⟩ := hv 0 v rfl
    have ih := svl_ok vs (j + 1) (fun i w hw => by
      obtain ⟨e, a, b⟩ := hv (i + 1) w hw
      refine ⟨e, ?_, b⟩
      rw [← a]
      congr 1
      omega)
    have hj : sval ρ σ j = sv ρ e := sval_h j e e1
    constructor
    · intro p hp
      unfold svl at hp
      by_cases k0 : v.1 = 0
      · rw [if_pos k0] at hp
        rcases List.mem_cons.mp hp with rfl | hp
        · obtain ⟨x, x1, x2⟩ := e2.1 k0
          exact ⟨_, x1, by show x.toInt = _; rw [sY_v, hj]; exact x2⟩
        · exact ih.1 p hp
      · rw [if_neg k0] at hp
        by_cases k1 : v.1 = 1
        · rw [if_pos k1] at hp
          rcases List.mem_cons.mp hp with rfl | hp
          · obtain ⟨x, x1, x2⟩ := e2.2.1 k1
            exact ⟨_, x1, by show x.toInt = _; rw [sY_v, hj]; exact x2⟩
          · exact ih.1 p hp
        · rw [if_neg k1] at hp
          exact ih.1 p hp
    · intro p hp
      unfold svp at hp
      by_cases k2 : v.1 = 2
      · rw [if_pos k2] at hp
        rcases List.mem_cons.mp hp with rfl | hp
        · obtain ⟨i, i1, i2⟩ := e2.2.2 k2
          unfold smm at i2 ⊢
          simp only at i2 ⊢
          rw [sY_v, hj, ssu_v (ρ := ρ) sval_h i1]
          exact i2
        · exact ih.2 p hp
      · rw [if_neg k2] at hp
        exact ih.2 p hp
theorem sbs_ok (hM : sMt reg gv ρ ρ0 S loc stk h) : ∀ {l : sB} {σ : List sE}, sbs S l σ = true → ∀ j b, l[j]? = some b → b.1 ≤ sval ρ σ j ∧ sval ρ σ j ≤ b.2
  | [], _, _, j, b, hb => by cases hb
  | b0 :: l, e :: σ, hs, j, b, hb => by
    unfold sbs at hs
    simp only [Bool.and_eq_true] at hs
    obtain ⟨s1, s2, s3⟩ := hs
    match j, hb with
    | 0, hb =>
      cases hb
      have p1 := spr_le hM s1
      have p2 := spr_le hM s2
      rw [sac_v] at p1
      rw [sac_v, sng_v] at p2
      show b0.1 ≤ sv ρ e ∧ sv ρ e ≤ b0.2
      omega
    | j + 1, hb => exact sbs_ok hM s3 j b hb
/-- all but what was at the start -/
theorem sar0_ok (hsing : ∀ k k', sing (reg k) = true → reg k' = reg k → k' = k) (hcell : ∀ r, sing r = true → ∃ k, reg k = r) (hG : sG reg gG h) {A : sA} {σ : List sE} (hM : sMt reg gv ρ ρ0 S loc stk h) (ha : sar0 sing gG A S = some (σ, T)) : ∃ ρ1, sMt reg gv ρ1 ρ0 T loc stk h ∧ (∀ p ∈ (sAs A).1, ∃ v, zget loc p.1 = some v ∧ sm reg (sval ρ1 σ) v p.2) ∧ (∀ m ∈ (sAs A).2.2.1, smm reg gv (sval ρ1 σ) h m) ∧ sOk A.2.2.1 (sval ρ1 σ) ∧ (∀ c ∈ A.2.2.2.1, sv (sval ρ1 σ) c ≤ 0) ∧ T.2.1 = S.2.1 ∧ σ.length = A.2.1.length := by
  unfold sar0 at ha
  cases hv : sva sing gG A.2.2.2.2.1 A.2.1 [] S with
  | none => rw [hv] at ha; cases ha
  | some z =>
    obtain ⟨σ1, T1⟩ := z
    rw [hv] at ha
    simp only at ha
    split at ha
    case isFalse => cases ha
    case isTrue hc =>
      cases ha
      simp only [Bool.and_eq_true, List.all_eq_true] at hc
      obtain ⟨c1, c2, c3⟩ := hc
      obtain ⟨ρ1, m, -, ⟨τ, t1, t2⟩, d, d2⟩ := sva_ok hsing hcell hG A.2.2.2.2.1 A.2.1 [] σ S T ρ hM hv
      have hvl := svl_ok A.2.1 0 (fun i v hi => by
        obtain ⟨e, a, b⟩ := d i v hi
        exact ⟨e, a, b⟩)
      refine ⟨ρ1, m, ?_, hvl.2, sbs_ok m c2, ?_, d2, by rw [t1]; exact t2⟩
      · intro p hp
        rcases List.mem_append.mp hp with hp | hp
        · obtain ⟨q, hq, rfl⟩ := List.mem_map.mp hp
          have hr := c1 q hq
          unfold srf at hr
          cases hg : sgl T q.1 with
          | none => rw [hg] at hr; cases hr
          | some s =>
            rw [hg] at hr
            obtain ⟨w, w1, w2⟩ := sgl_ok m hg
            match s, w, hr, w2, w1 with
            | .inr (.inr r), .inr (.inr k), hr, w2, w1 => exact ⟨_, w1, w2.trans (eq_of_beq hr)⟩
        · exact hvl.1 p hp
      · intro c hcc
        have q := c3 c hcc
        unfold scs at q
        cases hs : ssu (fun s => σ[s]?) c with
        | none => rw [hs] at q; cases q
        | some d =>
          rw [hs] at q
          rw [ssu_v (ρ := ρ1) sval_h hs]
          exact spr_le m q
theorem sarr_ok (hsing : ∀ k k', sing (reg k) = true → reg k' = reg k → k' = k) (hcell : ∀ r, sing r = true → ∃ k, reg k = r) (hG : sG reg gG h) {A : sA} (hM : sMt reg gv ρ ρ0 S loc stk h) (ha : sarr sing gG A S = true) : ∃ ρ' ρ0', (∀ j, ρ0' (j + 1) = ρ0 (j + 1)) ∧ 0 ≤ ρ0' 0 ∧ ρ0' 0 < ρ0 0 ∧ sMt reg gv ρ' ρ0' (sAs A) loc [] h := by
  unfold sarr at ha
  cases hs : sar0 sing gG A S with
  | none => rw [hs] at ha; cases ha
  | some z =>
    obtain ⟨σ, T⟩ := z
    rw [hs] at ha
    simp only [Bool.and_eq_true, List.all_eq_true] at ha
    obtain ⟨a1, a2⟩ := ha
    obtain ⟨ρ1, m, l1, l2, l3, l4, -⟩ := sar0_ok hsing hcell hG hM hs
    cases hq : T.2.2.2.2.2.find? (fun q => q.1 == 0) with
    | none => rw [hq] at a2; cases a2
    | some q =>
      cases hm : ssu (fun s => σ[s]?) A.2.2.2.2.2 with
      | none => rw [hq, hm] at a2; cases a2
      | some mm =>
        rw [hq, hm] at a2
        simp only [Bool.and_eq_true] at a2
        have p1 := spr_le m a2.1
        have p2 := spr_le m a2.2
        rw [sac_v, sadd_v] at p1
        rw [sng_v] at p2
        have hq0 : q.1 = 0 := by have := List.find?_some hq; simpa using this
        have hq1 := m.2.2.2.2.2 q (List.mem_of_find?_eq_some hq)
        rw [hq0] at hq1
        have hmm := ssu_v (ρ := ρ1) sval_h hm
        refine ⟨sval ρ1 σ, fun j => match j with | 0 => sv ρ1 mm | j + 1 => ρ0 (j + 1), fun j => rfl, by show 0 ≤ sv ρ1 mm; omega, by show sv ρ1 mm < ρ0 0; omega, l1, trivial, l2, l3, l4, ?_⟩
        intro p hp
        rcases List.mem_cons.mp hp with rfl | hp
        · exact hmm.symm
        · obtain ⟨y, hy, rfl⟩ := List.mem_map.mp hp
          have hh := a1 y hy
          cases hf : T.2.2.2.2.2.find? (fun q => q.1 == y.1 + 1) with
          | none => rw [hf] at hh; cases hh
          | some z =>
            cases he : σ[y.2]? with
            | none => rw [hf, he] at hh; cases hh
            | some e =>
              rw [hf, he] at hh
              have hz := sz0_v (ρ := ρ1) hh
              rw [sadd_v] at hz
              have hz0 : z.1 = y.1 + 1 := by have := List.find?_some hf; simpa using this
              have hz1 := m.2.2.2.2.2 z (List.mem_of_find?_eq_some hf)
              rw [hz0] at hz1
              show ρ0 (y.1 + 1) = sv (sval ρ1 σ) (sY y.2)
              rw [sY_v, sval_h y.2 e he]
              omega
end SARRO
end
section
/-! what a method's end says; a call by what is told of the method -/
/-- an end: its result, places, bounds of new signs, constraints, where the new signs come from -/
abbrev sX : Type := Option (Nat × sE) × List (Nat × sE × sE) × sB × List sE × List Nat
abbrev sQ : Type := Nat × sA × List sX × sD × Nat
def srt (reg : Nat → Nat) (ρ : Nat → Int) : Option (Nat × sE) → Option zV → Prop
  | none, none => True
  | some (0, e), some v => sm reg ρ v (.inl e)
  | some (_ + 1, e), some v => sm reg ρ v (.inr (.inl e))
  | _, _ => False
def sEx (reg : Nat → Nat) (gv : Nat → zH → Int) (n : Nat) (X : sX) (ρ0 : Nat → Int) (r : Option zV) (h : zH) : Prop := ∃ ρx : Nat → Int, (∀ j, j < n → ρx j = ρ0 (j + 1)) ∧ (∀ k b, X.2.2.1[k]? = some b → b.1 ≤ ρx (n + k) ∧ ρx (n + k) ≤ b.2) ∧ (∀ c ∈ X.2.2.2.1, sv ρx c ≤ 0) ∧ (∀ m ∈ X.2.1, smm reg gv ρx h m) ∧ srt reg ρx X.1 r
section SXD
variable (sing : Nat → Bool) (gG : Nat → List (Nat × Nat × Int × Int)) (gu : Nat → sD) (rin : Nat → (Nat × List Nat) ⊕ (Nat × Nat × List Nat)) (mL : Nat → Nat)
def sen (S : sS) (n s : Nat) : Option sE := if s < n then (match S.2.2.2.2.2.find? (fun q => q.1 == s + 1) with
  | some q => some q.2
  | none => none) else none
/-- the values of an end's places -/
def srv (n : Nat) : List (Nat × sE × sE) → sS → List sE → Option (List sE × sS)
  | [], S, es => some (es, S)
  | m :: l, S, es => if m.1 < 1000 then (match ssu (sen S n) m.2.1 with
      | some i => if (sing m.1 && spr S (sng i)) = true then (match sldE sing gG S m.1 i es with
        | some (e, T) => srv n l T (es ++ [e])
        | none => none) else none
      | none => none)
    else (match S.2.2.1.find? (fun q => q.1 == m.1) with
      | some q => srv n l S (es ++ [q.2.2])
      | none => none)
def sxs (T : sS) (n : Nat) (src : List Nat) (es : List sE) (s : Nat) : Option sE := if s < n then sen T n s else (match src[s - n]? with
  | some k => es[k]?
  | none => none)
def sxe (T : sS) (σ : Nat → Option sE) (val : sE) (o : Option sE) : Bool := match ssu σ val, o with
  | some d, some e => sz0 (sadd d e (-1))
  | _, _ => false
def sxb (T : sS) (σ : Nat → Option sE) (n : Nat) : Nat → sB → Bool
  | _, [] => true
  | k, b :: l => (match σ (n + k) with
    | some e => spr T (sac e (-b.2)) && spr T (sac (sng e) b.1)
    | none => false) && sxb T σ n (k + 1) l
def sxh (T : sS) (σ : Nat → Option sE) (es : List sE) : Nat → List (Nat × sE × sE) → Bool
  | _, [] => true
  | k, m :: l => sxe T σ m.2.2 es[k]? && sxh T σ es (k + 1) l
def sxc (T : sS) (σ : Nat → Option sE) (c : sE) : Bool := match ssu σ c with
  | some d => spr T d
  | none => false
/-- the state may end so -/
def sxr (n : Nat) (X : sX) (S : sS) : Bool := match S.2.1, X.1 with
  | [.inl e], some (0, v) => (match srv sing gG n X.2.1 S [e] with
    | some (es, T) => sxe T (sxs T n X.2.2.2.2 es) v es[0]? && (sxh T (sxs T n X.2.2.2.2 es) es 1 X.2.1 && (sxb T (sxs T n X.2.2.2.2 es) n 0 X.2.2.1 && X.2.2.2.1.all (sxc T (sxs T n X.2.2.2.2 es))))
    | none => false)
  | [.inr (.inl e)], some (_ + 1, v) => (match srv sing gG n X.2.1 S [e] with
    | some (es, T) => sxe T (sxs T n X.2.2.2.2 es) v es[0]? && (sxh T (sxs T n X.2.2.2.2 es) es 1 X.2.1 && (sxb T (sxs T n X.2.2.2.2 es) n 0 X.2.2.1 && X.2.2.2.1.all (sxc T (sxs T n X.2.2.2.2 es))))
    | none => false)
  | [], none => (match srv sing gG n X.2.1 S [] with
    | some (es, T) => sxh T (sxs T n X.2.2.2.2 es) es 0 X.2.1 && (sxb T (sxs T n X.2.2.2.2 es) n 0 X.2.2.1 && X.2.2.2.1.all (sxc T (sxs T n X.2.2.2.2 es)))
    | none => false)
  | _, _ => false
def sent : Nat → List sV → List (Nat × sV)
  | _, [] => []
  | k, v :: vs => (k, v) :: sent (if slg v = true then k + 2 else k + 1) vs
def sfn : sB → List sE → sS → Option (List sE × sS)
  | [], σ, S => some (σ, S)
  | b :: l, σ, S => match sfr b.1 b.2 S σ with
    | some (e, T) => sfn l (σ ++ [e]) T
    | none => none
/-- constraints assumed; none: they can't be; some none: this can't come -/
def scas (σ : List sE) : List sE → sS → Option (Option sS)
  | [], S => some (some S)
  | c :: l, S => match ssu (fun s => σ[s]?) c with
    | some d => (match sas S d with
      | some T => scas σ l T
      | none => some none)
    | none => none
def shm (σ : List sE) : List (Nat × sE × sE) → Option (List (Nat × sE × sE))
  | [] => some []
  | m :: l => match ssu (fun s => σ[s]?) m.2.1, ssu (fun s => σ[s]?) m.2.2, shm σ l with
    | some i, some v, some r => some ((m.1, i, v) :: r)
    | _, _, _ => none
def srp (σ : List sE) : Option (Nat × sE) → Option (List sV)
  | none => some []
  | some (0, e) => (match ssu (fun s => σ[s]?) e with
    | some d => some [.inl d]
    | none => none)
  | some (_ + 1, e) => (match ssu (fun s => σ[s]?) e with
    | some d => some [.inr (.inl d)]
    | none => none)
/-- the state behind a call that ends by X -/
def sap1 (loc : List (Nat × sV)) (rest : List sV) (md : sD) (σ : List sE) (T : sS) (X : sX) : Option (Option sS) := match sfn X.2.2.1 σ (skl gu md T) with
  | some (σ', T1) => (match scas σ' X.2.2.2.1 T1 with
    | some (some T2) => (match shm σ' X.2.1, srp σ' X.1 with
      | some ms, some rv => some (some (loc, rv ++ rest, ms ++ T2.2.2.1, T2.2.2.2))
      | _, _ => none)
    | some none => some none
    | none => none)
  | none => none
def sap2 (loc : List (Nat × sV)) (rest : List sV) (md : sD) (σ : List sE) (T : sS) : List sX → Option (List sS)
  | [] => some []
  | X :: l => match sap1 gu loc rest md σ T X, sap2 loc rest md σ T l with
    | some (some S), some L => some (S :: L)
    | some none, some L => some L
    | _, _ => none
def src0 (kc : Nat) : List sV → Bool
  | .inr (.inr r) :: _ => (match rin r with
    | .inl (ci, _) => ci == kc
    | .inr (t, _, _) => t == 5 && kc == 99)
  | _ => false
def scal (S : sS) (callee na kc : Nat) (Q : sQ) : Option (List sS) :=
  if (decide (Q.1 = callee) && (decide (na ≤ S.2.1.length) && (decide (((S.2.1.drop na).map sct).sum ≤ 8) && (decide (((S.2.1.take na).reverse.map sct).sum ≤ mL callee) && (Q.2.1.2.2.2.2.1.all (fun p => p.1 == p.2) && (decide (kc = 100) || (decide (kc < 100) && src0 rin kc (S.2.1.take na).reverse))))))) = true then
    (match sar0 sing gG Q.2.1 (sent 0 (S.2.1.take na).reverse, S.2.1 ++ S.1.map (·.2), S.2.2) with
    | some (σ, T) => sap2 gu S.1 (S.2.1.drop na) Q.2.2.2.1 σ T Q.2.2.1
    | none => none) else none
end SXD
end
section
/-! calls and ends hold -/
section SXO
variable {tab rin : Nat → (Nat × List Nat) ⊕ (Nat × Nat × List Nat)} {reg : Nat → Nat} {sing : Nat → Bool} {gG : Nat → List (Nat × Nat × Int × Int)} {gu : Nat → sD} {mL : Nat → Nat} {gv : Nat → zH → Int} {ρ ρ0 : Nat → Int} {S T : sS} {loc : zL} {stk : List zV} {h : zH}
theorem sms_len : ∀ {l : List zV} {t : List sV}, sms reg ρ l t → l.length = t.length
  | [], [], _ => rfl
  | _ :: _, _ :: _, hm => by rw [List.length_cons, List.length_cons, sms_len hm.2]
theorem sms_app : ∀ {l l2 : List zV} {t t2 : List sV}, sms reg ρ l t → sms reg ρ l2 t2 → sms reg ρ (l ++ l2) (t ++ t2)
  | [], _, [], _, _, h2 => h2
  | _ :: _, _, _ :: _, _, h1, h2 => ⟨h1.1, sms_app h1.2 h2⟩
theorem sms_split : ∀ {l l2 : List zV} {t t2 : List sV}, l.length = t.length → sms reg ρ (l ++ l2) (t ++ t2) → sms reg ρ l t ∧ sms reg ρ l2 t2
  | [], _, [], _, _, hm => ⟨trivial, hm⟩
  | _ :: _, _, [], _, hl, _ => by cases hl
  | [], _, _ :: _, _, hl, _ => by cases hl
  | v :: l, l2, s :: t, t2, hl, hm => by
    have hm : sm reg ρ v s ∧ sms reg ρ (l ++ l2) (t ++ t2) := hm
    have := sms_split (by simpa using hl) hm.2
    exact ⟨⟨hm.1, this.1⟩, this.2⟩
theorem sms_take : ∀ (k : Nat) {l : List zV} {t : List sV}, sms reg ρ l t → sms reg ρ (l.take k) (t.take k)
  | 0, _, _, _ => trivial
  | _ + 1, [], [], _ => trivial
  | k + 1, _ :: _, _ :: _, hm => ⟨hm.1, sms_take k hm.2⟩
theorem sms_rev : ∀ {l : List zV} {t : List sV}, sms reg ρ l t → sms reg ρ l.reverse t.reverse
  | [], [], _ => trivial
  | v :: l, s :: t, hm => by
    rw [List.reverse_cons, List.reverse_cons]
    exact sms_app (sms_rev hm.2) ⟨hm.1, trivial⟩
theorem slv : ∀ {l : List (Nat × sV)}, (∀ p ∈ l, ∃ v, zget loc p.1 = some v ∧ sm reg ρ v p.2) → ∃ lv, sms reg ρ lv (l.map (·.2)) ∧ ∀ ρ', sms reg ρ' lv (l.map (·.2)) → ∀ p ∈ l, ∃ v, zget loc p.1 = some v ∧ sm reg ρ' v p.2
  | [], _ => ⟨[], trivial, fun _ _ p hp => by cases hp⟩
  | p :: l, hl => by
    obtain ⟨v, e1, e2⟩ := hl p (List.mem_cons_self ..)
    obtain ⟨lv, a, b⟩ := slv (fun q hq => hl q (List.mem_cons_of_mem _ hq))
    refine ⟨v :: lv, ⟨e2, a⟩, fun ρ' hs q hq => ?_⟩
    have hs : sm reg ρ' v p.2 ∧ sms reg ρ' lv (l.map (·.2)) := hs
    rcases List.mem_cons.mp hq with rfl | hq
    · exact ⟨v, e1, hs.1⟩
    · exact b ρ' hs.2 q hq
theorem sent_lo : ∀ {t : List sV} {k : Nat}, ∀ p ∈ sent k t, k ≤ p.1
  | [], _, p, hp => by cases hp
  | v :: t, k, p, hp => by
    unfold sent at hp
    rcases List.mem_cons.mp hp with rfl | hp
    · exact Nat.le_refl _
    · have := sent_lo p hp
      split at this <;> omega
theorem sent_ok : ∀ {l : List zV} {t : List sV} {k : Nat}, sms reg ρ l t → ∀ p ∈ sent k t, ∃ v, zget (zent k l) p.1 = some v ∧ sm reg ρ v p.2
  | [], [], _, _, p, hp => by cases hp
  | v :: l, s :: t, k, hm, p, hp => by
    unfold sent at hp
    rcases List.mem_cons.mp hp with rfl | hp
    · refine ⟨v, ?_, hm.1⟩
      unfold zget zent
      rw [List.find?_cons_of_pos (by simp)]
      rfl
    · have hk : (if slg s = true then k + 2 else k + 1) = (if zcat v = 2 then k + 2 else k + 1) := by
        by_cases hs : slg s = true
        · rw [if_pos hs, if_pos ((sm_cat hm.1).1.mp hs)]
        · rw [if_neg hs, if_neg (fun q => hs ((sm_cat hm.1).1.mpr q))]
      rw [hk] at hp
      obtain ⟨w, w1, w2⟩ := sent_ok hm.2 p hp
      refine ⟨w, ?_, w2⟩
      have hlo := sent_lo p hp
      have hne : ¬ k = p.1 := by split at hlo <;> omega
      unfold zget zent
      rw [List.find?_cons_of_neg (by simpa using hne)]
      exact w1
theorem sen_ok (hM : sMt reg gv ρ ρ0 S loc stk h) {n s : Nat} {f : sE} (hs : sen S n s = some f) : s < n ∧ ρ0 (s + 1) = sv ρ f := by
  unfold sen at hs
  split at hs
  case isFalse => cases hs
  case isTrue hn =>
    cases hf : S.2.2.2.2.2.find? (fun q => q.1 == s + 1) with
    | none => rw [hf] at hs; cases hs
    | some q =>
      rw [hf] at hs
      cases hs
      have h1 : q.1 = s + 1 := by have := List.find?_some hf; simpa using this
      have h2 := hM.2.2.2.2.2 q (List.mem_of_find?_eq_some hf)
      rw [h1] at h2
      exact ⟨hn, h2⟩
theorem srv_ok (hsing : ∀ k k', sing (reg k) = true → reg k' = reg k → k' = k) (hcell : ∀ r, sing r = true → ∃ k, reg k = r) (hG : sG reg gG h) (n : Nat) : ∀ (hv : List (Nat × sE × sE)) (S : sS) (es es' : List sE) (T : sS) (ρ : Nat → Int), sMt reg gv ρ ρ0 S loc stk h → srv sing gG n hv S es = some (es', T) → ∃ ρ', sMt reg gv ρ' ρ0 T loc stk h ∧ (∀ c ∈ es, sv ρ' c = sv ρ c) ∧ (∃ τ, es' = es ++ τ) ∧ (∀ i m, hv[i]? = some m → ∃ e, es'[es.length + i]? = some e ∧ ∀ ρx : Nat → Int, (∀ j, j < n → ρx j = ρ0 (j + 1)) → sv ρx m.2.2 = sv ρ' e → smm reg gv ρx h m)
  | [], S, es, es', T, ρ, hM, e => by
    cases e
    exact ⟨ρ, hM, fun _ _ => rfl, ⟨[], (List.append_nil _).symm⟩, fun i m hm => by cases hm⟩
  | m :: l, S, es, es', T, ρ, hM, e => by
    have step : ∀ (e1 : sE) (S1 : sS) (ρ1 : Nat → Int), sMt reg gv ρ1 ρ0 S1 loc stk h → (∀ c ∈ es, sv ρ1 c = sv ρ c) → srv sing gG n l S1 (es ++ [e1]) = some (es', T) → (∀ ρx : Nat → Int, (∀ j, j < n → ρx j = ρ0 (j + 1)) → sv ρx m.2.2 = sv ρ1 e1 → smm reg gv ρx h m) → ∃ ρ', sMt reg gv ρ' ρ0 T loc stk h ∧ (∀ c ∈ es, sv ρ' c = sv ρ c) ∧ (∃ τ, es' = es ++ τ) ∧ (∀ i w, (m :: l)[i]? = some w → ∃ e, es'[es.length + i]? = some e ∧ ∀ ρx : Nat → Int, (∀ j, j < n → ρx j = ρ0 (j + 1)) → sv ρx w.2.2 = sv ρ' e → smm reg gv ρx h w) := by
      intro e1 S1 ρ1 hM1 hes1 hs hv1
      obtain ⟨ρ', a, b, ⟨τ, c1⟩, d⟩ := srv_ok hsing hcell hG n l S1 (es ++ [e1]) es' T ρ1 hM1 hs
      refine ⟨ρ', a, fun c hc => (b c (List.mem_append_left _ hc)).trans (hes1 c hc), ⟨e1 :: τ, by rw [c1, List.append_assoc]; rfl⟩, ?_⟩
      intro i w hw
      match i, hw with
      | 0, hw =>
        cases hw
        refine ⟨e1, ?_, fun ρx h1 h2 => hv1 ρx h1 (by rw [h2, b e1 (List.mem_append_right _ (List.mem_singleton.mpr rfl))])⟩
        rw [c1, List.append_assoc, List.getElem?_append_right (by omega)]
        simp
      | i + 1, hw =>
        obtain ⟨e2, p1, p2⟩ := d i w hw
        refine ⟨e2, ?_, p2⟩
        rw [← p1, List.length_append, List.length_singleton]
        congr 1
        omega
    unfold srv at e
    by_cases hr : m.1 < 1000
    · rw [if_pos hr] at e
      cases hi : ssu (sen S n) m.2.1 with
      | none => rw [hi] at e; cases e
      | some ix =>
        rw [hi] at e
        simp only at e
        split at e
        case isFalse => cases e
        case isTrue hc =>
          rw [Bool.and_eq_true] at hc
          have hp := spr_le hM hc.2
          rw [sng_v] at hp
          cases hl : sldE sing gG S m.1 ix es with
          | none => rw [hl] at e; cases e
          | some z =>
            obtain ⟨e1, S1⟩ := z
            rw [hl] at e
            obtain ⟨k, hk⟩ := hcell _ hc.1
            rw [← hk] at hl
            obtain ⟨ρ1, m1, m2, -, m3, m4⟩ := sldE_ok hsing hG hM (by rw [hk]; exact hr) (by omega) hl
            refine step e1 S1 ρ1 m1 m4 e (fun ρx h1 h2 => ?_)
            have hix : sv ρx m.2.1 = sv ρ ix := ssu_v (fun s f hf => by
              have := sen_ok hM hf
              rw [h1 s this.1]
              exact this.2) hi
            unfold smm
            rw [if_pos hr, hix, h2]
            refine ⟨by omega, fun k2 hk2 => ?_⟩
            rw [hsing k k2 (by rw [hk]; exact hc.1) (hk2.trans hk.symm)]
            exact m2
    · rw [if_neg hr] at e
      cases hf : S.2.2.1.find? (fun q => q.1 == m.1) with
      | none => rw [hf] at e; cases e
      | some q =>
        rw [hf] at e
        have hm := hM.2.2.1 q (List.mem_of_find?_eq_some hf)
        have hm1 : q.1 = m.1 := by have := List.find?_some hf; simpa using this
        refine step q.2.2 S ρ hM (fun _ _ => rfl) e (fun ρx h1 h2 => ?_)
        unfold smm at hm ⊢
        rw [if_neg (by omega)] at hm
        rw [if_neg hr, h2, ← hm1]
        exact hm
theorem sxb_ok {σ : Nat → Option sE} {n : Nat} {ρx : Nat → Int} (hM : sMt reg gv ρ ρ0 T loc stk h) (hσ : ∀ s f, σ s = some f → ρx s = sv ρ f) : ∀ {l : sB} {k : Nat}, sxb T σ n k l = true → ∀ i b, l[i]? = some b → b.1 ≤ ρx (n + (k + i)) ∧ ρx (n + (k + i)) ≤ b.2
  | [], _, _, i, b, hb => by cases hb
  | b0 :: l, k, hs, i, b, hb => by
    unfold sxb at hs
    rw [Bool.and_eq_true] at hs
    match i, hb with
    | 0, hb =>
      cases hb
      cases he : σ (n + k) with
      | none => rw [he] at hs; cases hs.1
      | some e =>
        rw [he] at hs
        have q := hs.1
        simp only [Bool.and_eq_true] at q
        have p1 := spr_le hM q.1
        have p2 := spr_le hM q.2
        rw [sac_v] at p1
        rw [sac_v, sng_v] at p2
        have := hσ _ _ he
        show b0.1 ≤ ρx (n + k) ∧ ρx (n + k) ≤ b0.2
        omega
    | i + 1, hb =>
      have := sxb_ok hM hσ hs.2 i b hb
      rw [show k + (i + 1) = k + 1 + i by omega]
      exact this
theorem sxe_ok {σ : Nat → Option sE} {ρx : Nat → Int} {val : sE} {o : Option sE} (hσ : ∀ s f, σ s = some f → ρx s = sv ρ f) (hs : sxe T σ val o = true) : ∃ e, o = some e ∧ sv ρx val = sv ρ e := by
  unfold sxe at hs
  cases h1 : ssu σ val with
  | none => rw [h1] at hs; cases hs
  | some d =>
    cases o with
    | none => rw [h1] at hs; cases hs
    | some e =>
      rw [h1] at hs
      have hz := sz0_v (ρ := ρ) hs
      rw [sadd_v] at hz
      refine ⟨e, rfl, ?_⟩
      rw [ssu_v hσ h1]
      omega
theorem sxh_ok {σ : Nat → Option sE} {ρx : Nat → Int} {es : List sE} (hσ : ∀ s f, σ s = some f → ρx s = sv ρ f) : ∀ {l : List (Nat × sE × sE)} {k : Nat}, sxh T σ es k l = true → ∀ i m, l[i]? = some m → ∃ e, es[k + i]? = some e ∧ sv ρx m.2.2 = sv ρ e
  | [], _, _, i, m, hm => by cases hm
  | m0 :: l, k, hs, i, m, hm => by
    unfold sxh at hs
    rw [Bool.and_eq_true] at hs
    match i, hm with
    | 0, hm =>
      cases hm
      exact sxe_ok hσ hs.1
    | i + 1, hm =>
      have := sxh_ok hσ hs.2 i m hm
      rw [show k + (i + 1) = k + 1 + i by omega]
      exact this
theorem sxcore (hsing : ∀ k k', sing (reg k) = true → reg k' = reg k → k' = k) (hcell : ∀ r, sing r = true → ∃ k, reg k = r) (hG : sG reg gG h) {n : Nat} {X : sX} (hM : sMt reg gv ρ ρ0 S loc stk h) {es0 es : List sE} (hs : srv sing gG n X.2.1 S es0 = some (es, T)) (hh : sxh T (sxs T n X.2.2.2.2 es) es es0.length X.2.1 = true) (hb : sxb T (sxs T n X.2.2.2.2 es) n 0 X.2.2.1 = true) (hc : X.2.2.2.1.all (sxc T (sxs T n X.2.2.2.2 es)) = true) : ∃ (ρ1 ρx : Nat → Int), sMt reg gv ρ1 ρ0 T loc stk h ∧ (∀ c ∈ es0, sv ρ1 c = sv ρ c) ∧ (∃ τ, es = es0 ++ τ) ∧ (∀ s f, sxs T n X.2.2.2.2 es s = some f → ρx s = sv ρ1 f) ∧ (∀ j, j < n → ρx j = ρ0 (j + 1)) ∧ (∀ k b, X.2.2.1[k]? = some b → b.1 ≤ ρx (n + k) ∧ ρx (n + k) ≤ b.2) ∧ (∀ c ∈ X.2.2.2.1, sv ρx c ≤ 0) ∧ (∀ m ∈ X.2.1, smm reg gv ρx h m) := by
  obtain ⟨ρ1, a, b, c, d⟩ := srv_ok hsing hcell hG n X.2.1 S es0 es T ρ hM hs
  have hσ : ∀ s f, sxs T n X.2.2.2.2 es s = some f → (fun s => if s < n then ρ0 (s + 1) else match sxs T n X.2.2.2.2 es s with | some f => sv ρ1 f | none => 0) s = sv ρ1 f := fun s f hf => by
    show (if s < n then ρ0 (s + 1) else match sxs T n X.2.2.2.2 es s with | some f => sv ρ1 f | none => 0) = sv ρ1 f
    by_cases hn : s < n
    · rw [if_pos hn]
      unfold sxs at hf
      rw [if_pos hn] at hf
      exact (sen_ok a hf).2
    · rw [if_neg hn, hf]
  have hj : ∀ j, j < n → (fun s => if s < n then ρ0 (s + 1) else match sxs T n X.2.2.2.2 es s with | some f => sv ρ1 f | none => 0) j = ρ0 (j + 1) := fun j hj => if_pos hj
  generalize (fun s => if s < n then ρ0 (s + 1) else match sxs T n X.2.2.2.2 es s with | some f => sv ρ1 f | none => 0) = ρx at hσ hj
  refine ⟨ρ1, ρx, a, b, c, hσ, hj, fun k bb hk => ?_, ?_, ?_⟩
  · have := sxb_ok a hσ hb k bb hk
    rw [Nat.zero_add] at this
    exact this
  · intro cc hcc
    have q := (List.all_eq_true.mp hc) cc hcc
    unfold sxc at q
    cases hd : ssu (sxs T n X.2.2.2.2 es) cc with
    | none => rw [hd] at q; cases q
    | some dd =>
      rw [hd] at q
      rw [ssu_v hσ hd]
      exact spr_le a q
  · intro m hm
    obtain ⟨i, hi⟩ := List.mem_iff_getElem?.mp hm
    obtain ⟨e, e1, e2⟩ := d i m hi
    obtain ⟨e', f1, f2⟩ := sxh_ok hσ hh i m hi
    rw [e1] at f1
    cases f1
    exact e2 ρx hj f2
theorem sxr_ok (hsing : ∀ k k', sing (reg k) = true → reg k' = reg k → k' = k) (hcell : ∀ r, sing r = true → ∃ k, reg k = r) (hG : sG reg gG h) {n : Nat} {X : sX} (hM : sMt reg gv ρ ρ0 S loc stk h) (hx : sxr sing gG n X S = true) : sEx reg gv n X ρ0 stk.head? h ∧ ((∃ x e, stk = [.inl x] ∧ S.2.1 = [.inl e] ∧ x.toInt = sv ρ e) ∨ (∃ y e, stk = [.inr (.inl y)] ∧ S.2.1 = [.inr (.inl e)]) ∨ (stk = [] ∧ S.2.1 = [])) := by
  unfold sxr at hx
  have hs := hM.2.1
  split at hx
  case h_1 e v hst hX =>
    rw [hst] at hs
    obtain ⟨x, r, rfl, e1, e2⟩ := sms_i hs
    have hr : r = [] := List.eq_nil_of_length_eq_zero (by have := sms_len e2; simpa using this)
    subst hr
    cases hsr : srv sing gG n X.2.1 S [e] with
    | none => rw [hsr] at hx; cases hx
    | some z =>
      obtain ⟨es, T⟩ := z
      rw [hsr] at hx
      simp only [Bool.and_eq_true] at hx
      obtain ⟨x1, x2, x3, x4⟩ := hx
      obtain ⟨ρ1, ρx, a1, a2, ⟨τ, a3⟩, a4, a5, a6, a7, a8⟩ := sxcore hsing hcell hG hM hsr x2 x3 x4
      obtain ⟨e', f1, f2⟩ := sxe_ok a4 x1
      rw [a3] at f1
      cases f1
      refine ⟨⟨ρx, a5, a6, a7, a8, ?_⟩, Or.inl ⟨x, e, rfl, hst, e1⟩⟩
      rw [hX]
      show x.toInt = sv ρx v
      rw [f2, a2 e (List.mem_singleton.mpr rfl)]
      exact e1
  case h_2 e t v hst hX =>
    rw [hst] at hs
    obtain ⟨x, r, rfl, e1, e2⟩ := sms_l hs
    have hr : r = [] := List.eq_nil_of_length_eq_zero (by have := sms_len e2; simpa using this)
    subst hr
    cases hsr : srv sing gG n X.2.1 S [e] with
    | none => rw [hsr] at hx; cases hx
    | some z =>
      obtain ⟨es, T⟩ := z
      rw [hsr] at hx
      simp only [Bool.and_eq_true] at hx
      obtain ⟨x1, x2, x3, x4⟩ := hx
      obtain ⟨ρ1, ρx, a1, a2, ⟨τ, a3⟩, a4, a5, a6, a7, a8⟩ := sxcore hsing hcell hG hM hsr x2 x3 x4
      obtain ⟨e', f1, f2⟩ := sxe_ok a4 x1
      rw [a3] at f1
      cases f1
      refine ⟨⟨ρx, a5, a6, a7, a8, ?_⟩, Or.inr (Or.inl ⟨x, e, rfl, hst⟩)⟩
      rw [hX]
      show x.toInt = sv ρx v
      rw [f2, a2 e (List.mem_singleton.mpr rfl)]
      exact e1
  case h_3 hst hX =>
    rw [hst] at hs
    have hr : stk = [] := List.eq_nil_of_length_eq_zero (by have := sms_len hs; simpa using this)
    subst hr
    cases hsr : srv sing gG n X.2.1 S [] with
    | none => rw [hsr] at hx; cases hx
    | some z =>
      obtain ⟨es, T⟩ := z
      rw [hsr] at hx
      simp only [Bool.and_eq_true] at hx
      obtain ⟨x2, x3, x4⟩ := hx
      obtain ⟨ρ1, ρx, a1, a2, ⟨τ, a3⟩, a4, a5, a6, a7, a8⟩ := sxcore hsing hcell hG hM hsr x2 x3 x4
      refine ⟨⟨ρx, a5, a6, a7, a8, ?_⟩, Or.inr (Or.inr ⟨rfl, hst⟩)⟩
      rw [hX]
      trivial
  case h_4 => cases hx
theorem sfn_ok : ∀ (l : sB) (σ σ' : List sE) (S T : sS) (ρ : Nat → Int) (f : Nat → Int), sMt reg gv ρ ρ0 S loc stk h → sfn l σ S = some (σ', T) → (∀ k b, l[k]? = some b → b.1 ≤ f k ∧ f k ≤ b.2) → ∃ ρ', sMt reg gv ρ' ρ0 T loc stk h ∧ (∀ c ∈ σ, sv ρ' c = sv ρ c) ∧ (∃ τ, σ' = σ ++ τ ∧ τ.length = l.length ∧ ∀ k e, τ[k]? = some e → sv ρ' e = f k) ∧ T.2.1 = S.2.1
  | [], σ, σ', S, T, ρ, f, hM, e, hf => by
    cases e
    exact ⟨ρ, hM, fun _ _ => rfl, ⟨[], (List.append_nil _).symm, rfl, fun k e he => by cases he⟩, rfl⟩
  | b :: l, σ, σ', S, T, ρ, f, hM, e, hf => by
    unfold sfn at e
    cases hs : sfr b.1 b.2 S σ with
    | none => rw [hs] at e; cases e
    | some z =>
      obtain ⟨e1, S1⟩ := z
      rw [hs] at e
      have hb := hf 0 b rfl
      obtain ⟨ρ1, a1, a2, a3, -, a4, -⟩ := sfr_ok hs hM hb.1 hb.2
      obtain ⟨ρ', b1, b2, ⟨τ, b3, b4, b5⟩, b6⟩ := sfn_ok l (σ ++ [e1]) σ' S1 T ρ1 (fun k => f (k + 1)) a1 e (fun k bb hk => hf (k + 1) bb hk)
      refine ⟨ρ', b1, fun c hc => (b2 c (List.mem_append_left _ hc)).trans (a3 c hc), ⟨e1 :: τ, by rw [b3, List.append_assoc]; rfl, by rw [List.length_cons, List.length_cons, b4], ?_⟩, b6.trans a4⟩
      intro k ee hk
      match k, hk with
      | 0, hk =>
        cases hk
        rw [b2 e1 (List.mem_append_right _ (List.mem_singleton.mpr rfl))]
        exact a2
      | k + 1, hk => exact b5 k ee hk
theorem scas_ok {σ : List sE} {ρx : Nat → Int} : ∀ (l : List sE) (S : sS) (o : Option sS), sMt reg gv ρ ρ0 S loc stk h → (∀ s f, σ[s]? = some f → ρx s = sv ρ f) → (∀ c ∈ l, sv ρx c ≤ 0) → scas σ l S = some o → ∃ T, o = some T ∧ sMt reg gv ρ ρ0 T loc stk h ∧ T.2.1 = S.2.1
  | [], S, o, hM, _, _, e => by
    cases e
    exact ⟨S, rfl, hM, rfl⟩
  | c :: l, S, o, hM, hσ, hl, e => by
    unfold scas at e
    cases hs : ssu (fun s => σ[s]?) c with
    | none => rw [hs] at e; cases e
    | some d =>
      rw [hs] at e
      have hc := hl c (List.mem_cons_self ..)
      rw [ssu_v (σ := fun s => σ[s]?) (ρ := ρ) hσ hs] at hc
      obtain ⟨S1, e1, e2, e3⟩ := sas_ok hM hc
      simp only [e1] at e
      obtain ⟨T, t1, t2, t3⟩ := scas_ok l S1 o e2 hσ (fun c hc => hl c (List.mem_cons_of_mem _ hc)) e
      exact ⟨T, t1, t2, t3.trans e3⟩
theorem shm_ok {σ : List sE} {ρx : Nat → Int} (hσ : ∀ s f, σ[s]? = some f → ρx s = sv ρ f) : ∀ {l r : List (Nat × sE × sE)}, shm σ l = some r → (∀ m ∈ l, smm reg gv ρx h m) → ∀ m ∈ r, smm reg gv ρ h m
  | [], r, e, _, m, hm => by
    cases e
    cases hm
  | m0 :: l, r, e, hl, m, hm => by
    unfold shm at e
    cases h1 : ssu (fun s => σ[s]?) m0.2.1 with
    | none => rw [h1] at e; cases e
    | some i =>
      cases h2 : ssu (fun s => σ[s]?) m0.2.2 with
      | none => rw [h1, h2] at e; cases e
      | some v =>
        cases h3 : shm σ l with
        | none => rw [h1, h2, h3] at e; cases e
        | some r1 =>
          rw [h1, h2, h3] at e
          cases e
          rcases List.mem_cons.mp hm with rfl | hm
          · have q := hl m0 (List.mem_cons_self ..)
            unfold smm at q ⊢
            rw [ssu_v (σ := fun s => σ[s]?) (ρ := ρ) hσ h1, ssu_v (σ := fun s => σ[s]?) (ρ := ρ) hσ h2] at q
            exact q
          · exact shm_ok hσ h3 (fun m hm => hl m (List.mem_cons_of_mem _ hm)) m hm
theorem srp_ok {σ : List sE} {ρx : Nat → Int} (hσ : ∀ s f, σ[s]? = some f → ρx s = sv ρ f) {o : Option (Nat × sE)} {rv : List sV} {r : Option zV} (e : srp σ o = some rv) (hr : srt reg ρx o r) : sms reg ρ r.toList rv := by
  match o, r, hr with
  | none, none, _ => cases e; trivial
  | some (0, v), some w, hr =>
    unfold srp at e
    simp only at e
    cases h1 : ssu (fun s => σ[s]?) v with
    | none => rw [h1] at e; cases e
    | some d =>
      rw [h1] at e
      cases e
      match w, hr with
      | .inl x, hr =>
        have hr : x.toInt = sv ρx v := hr
        exact ⟨by show x.toInt = _; rw [hr, ssu_v (σ := fun s => σ[s]?) (ρ := ρ) hσ h1], trivial⟩
  | some (t + 1, v), some w, hr =>
    unfold srp at e
    simp only at e
    cases h1 : ssu (fun s => σ[s]?) v with
    | none => rw [h1] at e; cases e
    | some d =>
      rw [h1] at e
      cases e
      match w, hr with
      | .inr (.inl x), hr =>
        have hr : x.toInt = sv ρx v := hr
        exact ⟨by show x.toInt = _; rw [hr, ssu_v (σ := fun s => σ[s]?) (ρ := ρ) hσ h1], trivial⟩
theorem sap2_mem {loc1 : List (Nat × sV)} {rest : List sV} {md : sD} {σ : List sE} {T : sS} : ∀ {Xs : List sX} {L : List sS}, sap2 gu loc1 rest md σ T Xs = some L → ∀ X ∈ Xs, ∃ o, sap1 gu loc1 rest md σ T X = some o ∧ ∀ S', o = some S' → S' ∈ L
  | [], _, _, X, hX => by cases hX
  | X0 :: l, L, e, X, hX => by
    unfold sap2 at e
    cases h1 : sap1 gu loc1 rest md σ T X0 with
    | none => rw [h1] at e; cases e
    | some o =>
      cases h2 : sap2 gu loc1 rest md σ T l with
      | none => rw [h1, h2] at e; cases o <;> cases e
      | some L1 =>
        rw [h1, h2] at e
        match o, e, h1 with
        | some S0, e, h1 =>
          cases e
          rcases List.mem_cons.mp hX with rfl | hX
          · exact ⟨some S0, h1, fun S' hS' => by cases hS'; exact List.mem_cons_self ..⟩
          · obtain ⟨o, o1, o2⟩ := sap2_mem h2 X hX
            exact ⟨o, o1, fun S' hS' => List.mem_cons_of_mem _ (o2 S' hS')⟩
        | none, e, h1 =>
          cases e
          rcases List.mem_cons.mp hX with rfl | hX
          · exact ⟨none, h1, fun S' hS' => by cases hS'⟩
          · exact sap2_mem h2 X hX
end SXO
end
section
/-! a method's ways from place to place; what is told of a method holds -/
section SSEG
variable (tab : Nat → (Nat × List Nat) ⊕ (Nat × Nat × List Nat)) (pI : Nat → Nat → Option Instr) (mL : Nat → Nat) (mR : Nat → Option FieldType) (fld : Nat → Nat → Option (Nat × Nat × Nat)) (kI : Nat → Nat → Option Int32) (kL : Nat → Nat → Option Int64) (gst : Nat → Nat → Option zV) (ldS fldS : Nat → Nat → Option Nat) (acp : Nat → Nat → Bool) (cal : Nat → Nat → Option (Nat × Nat × Nat))
variable (reg : Nat → Nat) (rin : Nat → (Nat × List Nat) ⊕ (Nat × Nat × List Nat)) (sing : Nat → Bool) (gG : Nat → List (Nat × Nat × Int × Int)) (gu : Nat → sD) (gv : Nat → zH → Int)
def sSum (Q : sQ) : Prop := ∀ (args : List zV) (h : zH) (ρ ρ0 : Nat → Int), sG reg gG h → sMt reg gv ρ ρ0 (sAs Q.2.1) (zent 0 args) [] h → ∀ d, Q.2.2.2.2 ≤ d → ∃ m r h', zrun tab pI mL mR fld kI kL gst ldS fldS acp cal m d Q.1 0 (zent 0 args) [] h = some (r, h') ∧ sG reg gG h' ∧ sF reg Q.2.2.2.1 h h' ∧ ∃ X ∈ Q.2.2.1, sEx reg gv Q.2.1.2.1.length X ρ0 r h'
def sstp (mid : Nat) (md : sD) (i : Instr) (pc : Nat) (S : sS) : Option (List (Nat × sS)) := match s1 i pc S with
  | some L => some L
  | none => match s2 rin sing gG gu md (fld mid) i pc S with
    | some L => some L
    | none => match s4 i pc S with
      | some L => some L
      | none => match s5 (kI mid) (kL mid) i pc S with
        | some L => some L
        | none => s6 reg rin gG gu md (gst mid) (kI mid) (ldS mid) (fldS mid) (acp mid) i pc S
def scl (mid : Nat) : Instr → Option (Nat × Nat × Nat)
  | .invokevirtual idx => (match cal mid idx with
    | some z => if z.2.2 < 100 then some z else none
    | none => none)
  | .invokestatic idx => (match cal mid idx with
    | some z => if z.2.2 = 100 then some z else none
    | none => none)
  | _ => none
/-- 0: neither a call nor an end; 1: a call; 2: an end -/
def skd (mid : Nat) : Instr → Nat
  | .invokevirtual _ => 1
  | .invokestatic idx => if (cal mid idx).isSome = true then 1 else 0
  | .ireturn => 2
  | .lreturn => 2
  | .return_ => 2
  | _ => 0
def srk (ret : Option FieldType) (i : Instr) (S : sS) : Bool := match i, ret, S.2.1 with
  | .ireturn, some .int, [.inl _] => true
  | .ireturn, some .boolean, [.inl e] => sb01 S e
  | .ireturn, some .byte, [.inl e] => spr S e && spr S (sng e)
  | .lreturn, some .long, [.inr (.inl _)] => true
  | .return_, none, [] => true
  | _, _, _ => false
def smo (md d : sD) : Bool := d.all (fun z => md.any (fun y => decide (y.1 = z.1) && (decide (y.2.1 ≤ z.2.1) && decide (z.2.2 ≤ y.2.2))))
def sseg (labs : Nat → List sA) (Qs : List sQ) (md : sD) (dep n : Nat) (Xs : List sX) (mid : Nat) : Nat → Nat → Bool → sS → Bool
  | 0, _, _, _ => false
  | f + 1, pc, first, S =>
    if (!first && !(labs pc).isEmpty) = true then (S.2.1.isEmpty && (labs pc).any (fun A => sarr sing gG A S))
    else match pI mid pc with
      | none => false
      | some i => match skd cal mid i with
        | 0 => (match sstp fld kI kL gst ldS fldS acp reg rin sing gG gu mid md i pc S with
          | some L => L.all (fun z => sseg labs Qs md dep n Xs mid f z.1 false z.2)
          | none => false)
        | 1 => (match scl cal mid i with
          | some z => (match Qs.findSome? (fun Q => if (smo md Q.2.2.2.1 && decide (Q.2.2.2.2 < dep)) = true then scal sing gG gu rin mL S z.1 z.2.1 z.2.2 Q else none) with
            | some L => L.all (fun T => sseg labs Qs md dep n Xs mid f (pc + 3) false T)
            | none => false)
          | none => false)
        | _ => srk (mR mid) i S && Xs.any (fun X => sxr sing gG n X S)
end SSEG
section SSEGO
variable {tab : Nat → (Nat × List Nat) ⊕ (Nat × Nat × List Nat)} {pI : Nat → Nat → Option Instr} {mL : Nat → Nat} {mR : Nat → Option FieldType} {fld : Nat → Nat → Option (Nat × Nat × Nat)} {kI : Nat → Nat → Option Int32} {kL : Nat → Nat → Option Int64} {gst : Nat → Nat → Option zV} {ldS fldS : Nat → Nat → Option Nat} {acp : Nat → Nat → Bool} {cal : Nat → Nat → Option (Nat × Nat × Nat)}
variable {reg : Nat → Nat} {rin : Nat → (Nat × List Nat) ⊕ (Nat × Nat × List Nat)} {sing : Nat → Bool} {gG : Nat → List (Nat × Nat × Int × Int)} {gu : Nat → sD} {gv : Nat → zH → Int} {ρ ρ0 : Nat → Int} {S : sS} {loc : zL} {stk : List zV} {h h0 : zH}
theorem zrun_S : ∀ (n d mid pc : Nat) (loc : zL) (stk : List zV) (h : zH) (x : Option zV × zH), zrun tab pI mL mR fld kI kL gst ldS fldS acp cal n d mid pc loc stk h = some x → zrun tab pI mL mR fld kI kL gst ldS fldS acp cal (n + 1) d mid pc loc stk h = some x
  | 0, _, _, _, _, _, _, _, e => by cases e
  | n + 1, d, mid, pc, loc, stk, h, x, e => by
    rw [zrun] at e ⊢
    cases hi : pI mid pc with
    | none => simp only [hi] at e; cases e
    | some i =>
      simp only [hi] at e ⊢
      cases hc : zcl tab mL cal mid i stk with
      | some z =>
        obtain ⟨callee, av, rest⟩ := z
        simp only [hc] at e ⊢
        cases d with
        | zero => cases e
        | succ d' =>
          simp only at e ⊢
          cases hr : zrun tab pI mL mR fld kI kL gst ldS fldS acp cal n d' callee 0 (zent 0 av) [] h with
          | none => simp only [hr] at e; cases e
          | some z =>
            obtain ⟨r, h1⟩ := z
            simp only [hr] at e
            rw [zrun_S n d' callee 0 (zent 0 av) [] h (r, h1) hr]
            exact zrun_S n _ _ _ _ _ _ _ e
      | none =>
        simp only [hc] at e ⊢
        cases hz : zend (mR mid) i stk with
        | some r => simp only [hz] at e ⊢; exact e
        | none =>
          simp only [hz] at e ⊢
          cases hs : zst tab fld kI kL gst ldS fldS acp mid i pc loc stk h with
          | none => simp only [hs] at e; cases e
          | some q =>
            simp only [hs] at e ⊢
            exact zrun_S n _ _ _ _ _ _ _ e
theorem zrun_le {n m d mid pc : Nat} {loc : zL} {stk : List zV} {h : zH} {x : Option zV × zH} (hnm : n ≤ m) (e : zrun tab pI mL mR fld kI kL gst ldS fldS acp cal n d mid pc loc stk h = some x) : zrun tab pI mL mR fld kI kL gst ldS fldS acp cal m d mid pc loc stk h = some x := by
  obtain ⟨k, rfl⟩ := Nat.le.dest hnm
  clear hnm
  induction k with
  | zero => exact e
  | succ k ih => exact zrun_S _ _ _ _ _ _ _ _ ih
theorem zf2_f1 {f : Nat → Option (Nat × Nat × Nat)} {i : Instr} {pc : Nat} {loc : zL} {stk : List zV} {h : zH} {q : zN} (e : zf2 tab f i pc loc stk h = some q) : zf1 i pc loc stk h = none := by
  cases i <;> first | rfl | cases e
theorem zf4_f1 {f : Nat → Option (Nat × Nat × Nat)} {i : Instr} {pc : Nat} {loc : zL} {stk : List zV} {h : zH} {q : zN} (e : zf4 i pc loc stk h = some q) : zf1 i pc loc stk h = none ∧ zf2 tab f i pc loc stk h = none := by
  cases i <;> first | exact ⟨rfl, rfl⟩ | cases e
theorem zf5_f1 {f : Nat → Option (Nat × Nat × Nat)} {a : Nat → Option Int32} {b : Nat → Option Int64} {i : Instr} {pc : Nat} {loc : zL} {stk : List zV} {h : zH} {q : zN} (e : zf5 a b i pc loc stk h = some q) : zf1 i pc loc stk h = none ∧ zf2 tab f i pc loc stk h = none ∧ zf4 i pc loc stk h = none := by
  cases i <;> first | exact ⟨rfl, rfl, rfl⟩ | cases e
theorem sstp_ok (hcomp : ∀ k, rin (reg k) = smT reg (tab k)) (hsing : ∀ k k', sing (reg k) = true → reg k' = reg k → k' = k) (hr : ∀ k, reg k < 1000) (hgv : sGv reg gu gv) {mid : Nat} {md : sD} (hG : sG reg gG h) (hF : sF reg md h0 h) {i : Instr} {pc : Nat} {L : List (Nat × sS)} (hM : sMt reg gv ρ ρ0 S loc stk h) (hL : sstp fld kI kL gst ldS fldS acp reg rin sing gG gu mid md i pc S = some L) : ∃ q, zst tab fld kI kL gst ldS fldS acp mid i pc loc stk h = some q ∧ sG reg gG q.2.2.2 ∧ sF reg md h0 q.2.2.2 ∧ sgo reg gv ρ0 L q := by
  unfold sstp at hL
  cases h1 : s1 i pc S with
  | some L1 =>
    rw [h1] at hL
    cases hL
    obtain ⟨q, a, b, c⟩ := s1_ok hM h1
    refine ⟨q, ?_, by rw [b]; exact hG, by rw [b]; exact hF, c⟩
    unfold zst
    rw [a]
  | none =>
    rw [h1] at hL
    simp only at hL
    cases h2 : s2 rin sing gG gu md (fld mid) i pc S with
    | some L1 =>
      rw [h2] at hL
      cases hL
      obtain ⟨q, a, b, c, d⟩ := s2_ok hcomp hsing hr hgv hG hF hM h2
      refine ⟨q, ?_, b, c, d⟩
      unfold zst
      rw [zf2_f1 a, a]
    | none =>
      rw [h2] at hL
      simp only at hL
      cases h4 : s4 i pc S with
      | some L1 =>
        rw [h4] at hL
        cases hL
        obtain ⟨q, a, b, c⟩ := s4_ok hM h4
        refine ⟨q, ?_, by rw [b]; exact hG, by rw [b]; exact hF, c⟩
        have := zf4_f1 (tab := tab) (f := fld mid) a
        unfold zst
        rw [this.1, this.2, a]
      | none =>
        rw [h4] at hL
        simp only at hL
        cases h5 : s5 (kI mid) (kL mid) i pc S with
        | some L1 =>
          rw [h5] at hL
          cases hL
          obtain ⟨q, a, b, c⟩ := s5_ok hM h5
          refine ⟨q, ?_, by rw [b]; exact hG, by rw [b]; exact hF, c⟩
          have := zf5_f1 (tab := tab) (f := fld mid) a
          unfold zst
          rw [this.1, this.2.1, this.2.2, a]
        | none =>
          rw [h5] at hL
          simp only at hL
          obtain ⟨a1, a2, a3, a4, q, a, b, c, d⟩ := s6_ok (tab := tab) (fld := fld mid) (kL := kL mid) hcomp hgv hG hF hM hL
          refine ⟨q, ?_, b, c, d⟩
          unfold zst
          rw [a1, a2, a3, a4, a]
theorem smo_ok {md d : sD} {h1 : zH} (hm : smo md d = true) (hF : sF reg md h0 h) (hF2 : sF reg d h h1) : sF reg md h0 h1 := by
  intro k i hne
  by_cases hq : h1.1 k i = h.1 k i
  · rw [hq] at hne
    exact hF k i hne
  · obtain ⟨z, hz, z1, z2, z3⟩ := hF2 k i hq
    have := (List.all_eq_true.mp hm) z hz
    obtain ⟨y, hy, hy2⟩ := List.any_eq_true.mp this
    simp only [Bool.and_eq_true, decide_eq_true_eq] at hy2
    exact ⟨y, hy, z1.trans hy2.1.symm, by omega, by omega⟩
theorem src0_ok (hcomp : ∀ k, rin (reg k) = smT reg (tab k)) {kc : Nat} {l : List zV} {t : List sV} (hm : sms reg ρ l t) (hq : src0 rin kc t = true) : zrcv tab kc l = true := by
  match t, hm, hq with
  | .inr (.inr r) :: _, hm, hq =>
    obtain ⟨k, r1, rfl, hk, -⟩ := sms_r hm
    simp only [src0] at hq
    rw [← hk, hcomp k] at hq
    simp only [zrcv]
    cases ht : tab k with
    | inl z => obtain ⟨ci, fk⟩ := z; rw [ht] at hq; exact hq
    | inr z => obtain ⟨t, n, q⟩ := z; rw [ht] at hq; exact hq
theorem srk_el {ret : Option FieldType} {i : Instr} {S : sS} (hk : srk ret i S = true) : (i = .ireturn ∧ ret = some .int ∧ ∃ e, S.2.1 = [.inl e]) ∨ (i = .ireturn ∧ ret = some .boolean ∧ ∃ e, S.2.1 = [.inl e] ∧ sb01 S e = true) ∨ (i = .ireturn ∧ ret = some .byte ∧ ∃ e, S.2.1 = [.inl e] ∧ (spr S e && spr S (sng e)) = true) ∨ (i = .lreturn ∧ ret = some .long ∧ ∃ e, S.2.1 = [.inr (.inl e)]) ∨ (i = .return_ ∧ ret = none ∧ S.2.1 = []) := by
  unfold srk at hk
  split at hk
  · exact Or.inl ⟨rfl, rfl, _, by assumption⟩
  · exact Or.inr (Or.inl ⟨rfl, rfl, _, by assumption, hk⟩)
  · exact Or.inr (Or.inr (Or.inl ⟨rfl, rfl, _, by assumption, hk⟩))
  · exact Or.inr (Or.inr (Or.inr (Or.inl ⟨rfl, rfl, _, by assumption⟩)))
  · exact Or.inr (Or.inr (Or.inr (Or.inr ⟨rfl, rfl, by assumption⟩)))
  · cases hk
theorem scal_ok (hcomp : ∀ k, rin (reg k) = smT reg (tab k)) (hsing : ∀ k k', sing (reg k) = true → reg k' = reg k → k' = k) (hcell : ∀ r, sing r = true → ∃ k, reg k = r) (hgv : sGv reg gu gv) (hG : sG reg gG h) (hM : sMt reg gv ρ ρ0 S loc stk h) {callee na kc d : Nat} {Q : sQ} {L : List sS} (hQ : sSum tab pI mL mR fld kI kL gst ldS fldS acp cal reg gG gv Q) (hd : Q.2.2.2.2 ≤ d) (hL : scal sing gG gu rin mL S callee na kc Q = some L) :
    na ≤ stk.length ∧ ((stk.drop na).map zcat).sum ≤ 8 ∧ ((stk.take na).reverse.map zcat).sum ≤ mL callee ∧ (kc = 100 ∨ (kc < 100 ∧ zrcv tab kc (stk.take na).reverse = true)) ∧ ∃ m r h', zrun tab pI mL mR fld kI kL gst ldS fldS acp cal m d callee 0 (zent 0 (stk.take na).reverse) [] h = some (r, h') ∧ sG reg gG h' ∧ sF reg Q.2.2.2.1 h h' ∧ ∃ T ∈ L, ∃ ρ', sMt reg gv ρ' ρ0 T loc (r.toList ++ stk.drop na) h' := by
  unfold scal at hL
  split at hL
  case isFalse => cases hL
  case isTrue hc =>
    simp only [Bool.and_eq_true, Bool.or_eq_true, decide_eq_true_eq] at hc
    obtain ⟨c1, c2, c3, c4, c5, c6⟩ := hc
    have hs := hM.2.1
    have hsa := sms_rev (sms_take na hs)
    have hsd := sms_drop na hs
    refine ⟨by rw [sms_len hs]; exact c2, by rw [scat_sum hsd]; exact c3, by rw [scat_sum hsa]; exact c4, ?_, ?_⟩
    · rcases c6 with c6 | c6
      · exact Or.inl c6
      · refine Or.inr ⟨c6.1, ?_⟩
        exact src0_ok hcomp hsa c6.2
    · cases hs0 : sar0 sing gG Q.2.1 (sent 0 (S.2.1.take na).reverse, S.2.1 ++ S.1.map (·.2), S.2.2) with
      | none => rw [hs0] at hL; cases hL
      | some z =>
        obtain ⟨σ, T⟩ := z
        rw [hs0] at hL
        simp only at hL
        obtain ⟨lv, lv1, lv2⟩ := slv hM.1
        have hM1 : sMt reg gv ρ ρ0 (sent 0 (S.2.1.take na).reverse, S.2.1 ++ S.1.map (·.2), S.2.2) (zent 0 (stk.take na).reverse) (stk ++ lv) h := ⟨sent_ok hsa, sms_app hs lv1, hM.2.2⟩
        obtain ⟨ρ1, m1, l1, l2, l3, l4, l5, l6⟩ := sar0_ok hsing hcell hG hM1 hs0
        have hent : sMt reg gv (sval ρ1 σ) (fun j => match j with | 0 => sv (sval ρ1 σ) Q.2.1.2.2.2.2.2 | j + 1 => sval ρ1 σ j) (sAs Q.2.1) (zent 0 (stk.take na).reverse) [] h := by
          refine ⟨l1, trivial, l2, l3, l4, ?_⟩
          intro p hp
          rcases List.mem_cons.mp hp with rfl | hp
          · rfl
          · obtain ⟨y, hy, rfl⟩ := List.mem_map.mp hp
            have := eq_of_beq ((List.all_eq_true.mp c5) y hy)
            show sval ρ1 σ y.1 = sv (sval ρ1 σ) (sY y.2)
            rw [sY_v, this]
        obtain ⟨m, r, h', r1, r2, r3, X, hX, ρx, x1, x2, x3, x4, x5⟩ := hQ _ h _ _ hG hent d hd
        rw [c1] at r1
        refine ⟨m, r, h', r1, r2, r3, ?_⟩
        obtain ⟨o, o1, o2⟩ := sap2_mem hL X hX
        unfold sap1 at o1
        cases hf : sfn X.2.2.1 σ (skl gu Q.2.2.2.1 T) with
        | none => rw [hf] at o1; cases o1
        | some z =>
          obtain ⟨σ', T1⟩ := z
          rw [hf] at o1
          simp only at o1
          have hk := skl_ok hgv r3 m1
          obtain ⟨ρ2, n1, n2, ⟨τ, n3, n4, n5⟩, n6⟩ := sfn_ok X.2.2.1 σ σ' _ T1 ρ1 (fun k => ρx (Q.2.1.2.1.length + k)) hk hf x2
          have hσ' : ∀ (s : Nat) (f : sE), σ'[s]? = some f → ρx s = sv ρ2 f := by
            intro s f hf
            rw [n3] at hf
            by_cases hlt : s < σ.length
            · rw [List.getElem?_append_left hlt] at hf
              rw [n2 f (List.mem_of_getElem? hf), x1 s (by omega)]
              exact sval_h s f hf
            · rw [List.getElem?_append_right (by omega)] at hf
              have := n5 _ f hf
              rw [this, ← l6]
              congr 1
              omega
          cases hcs : scas σ' X.2.2.2.1 T1 with
          | none => rw [hcs] at o1; cases o1
          | some oo =>
            obtain ⟨T2, t1, t2, t3⟩ := scas_ok X.2.2.2.1 T1 oo n1 hσ' x3 hcs
            subst t1
            rw [hcs] at o1
            simp only at o1
            cases hsh : shm σ' X.2.1 with
            | none => rw [hsh] at o1; cases o1
            | some ms =>
              cases hsr : srp σ' X.1 with
              | none => rw [hsh, hsr] at o1; cases o1
              | some rv =>
                rw [hsh, hsr] at o1
                cases o1
                refine ⟨_, o2 _ rfl, ρ2, ?_⟩
                have hst : T2.2.1 = S.2.1 ++ S.1.map (·.2) := (t3.trans n6).trans l5
                have hss := t2.2.1
                rw [hst] at hss
                obtain ⟨ss1, ss2⟩ := sms_split (sms_len hs) hss
                refine ⟨lv2 ρ2 ss2, sms_app (srp_ok hσ' hsr x5) (sms_drop na ss1), ?_, t2.2.2.2⟩
                intro mm hmm
                rcases List.mem_append.mp hmm with hmm | hmm
                · exact shm_ok hσ' hsh x4 mm hmm
                · exact t2.2.2.1 mm hmm
theorem sEx_congr {n : Nat} {X : sX} {ρ0' : Nat → Int} {r : Option zV} (he : ∀ j, ρ0' (j + 1) = ρ0 (j + 1)) (hx : sEx reg gv n X ρ0' r h) : sEx reg gv n X ρ0 r h := by
  obtain ⟨ρx, a, b⟩ := hx
  exact ⟨ρx, fun j hj => (a j hj).trans (he j), b⟩
theorem skd0 {mid : Nat} {i : Instr} {stk : List zV} (hk : skd cal mid i = 0) : zcl tab mL cal mid i stk = none ∧ zend (mR mid) i stk = none := by
  cases i
  case invokestatic idx =>
    simp only [skd] at hk
    cases hc : cal mid idx with
    | some z => rw [hc] at hk; cases hk
    | none =>
      refine ⟨?_, rfl⟩
      simp only [zcl, hc]
  case ireturn => cases hk
  case lreturn => cases hk
  case return_ => cases hk
  case invokevirtual idx => cases hk
  all_goals exact ⟨rfl, rfl⟩
theorem sseg_ok (hcomp : ∀ k, rin (reg k) = smT reg (tab k)) (hsing : ∀ k k', sing (reg k) = true → reg k' = reg k → k' = k) (hcell : ∀ r, sing r = true → ∃ k, reg k = r) (hr : ∀ k, reg k < 1000) (hgv : sGv reg gu gv) {labs : Nat → List sA} {Qs : List sQ} {md : sD} {dep n : Nat} {Xs : List sX} {mid d : Nat} (hd : dep ≤ d) (hQs : ∀ Q ∈ Qs, sSum tab pI mL mR fld kI kL gst ldS fldS acp cal reg gG gv Q) {h0 : zH} :
    ∀ (f pc : Nat) (first : Bool) (S : sS) (loc : zL) (stk : List zV) (h : zH) (ρ ρ0 : Nat → Int), sseg pI mL mR fld kI kL gst ldS fldS acp cal reg rin sing gG gu labs Qs md dep n Xs mid f pc first S = true → sMt reg gv ρ ρ0 S loc stk h → sG reg gG h → sF reg md h0 h →
    (∀ pc A, A ∈ labs pc → ∀ (loc : zL) (h : zH) (ρ ρ0' : Nat → Int), (∀ j, ρ0' (j + 1) = ρ0 (j + 1)) → 0 ≤ ρ0' 0 → ρ0' 0 < ρ0 0 → sMt reg gv ρ ρ0' (sAs A) loc [] h → sG reg gG h → sF reg md h0 h → ∃ m r h', zrun tab pI mL mR fld kI kL gst ldS fldS acp cal m d mid pc loc [] h = some (r, h') ∧ sG reg gG h' ∧ sF reg md h0 h' ∧ ∃ X ∈ Xs, sEx reg gv n X ρ0 r h') →
    ∃ m r h', zrun tab pI mL mR fld kI kL gst ldS fldS acp cal m d mid pc loc stk h = some (r, h') ∧ sG reg gG h' ∧ sF reg md h0 h' ∧ ∃ X ∈ Xs, sEx reg gv n X ρ0 r h'
  | 0, _, _, _, _, _, _, _, _, hs, _, _, _, _ => by cases hs
  | f + 1, pc, first, S, loc, stk, h, ρ, ρ0, hs, hM, hG, hF, IH => by
    unfold sseg at hs
    split at hs
    case isTrue hlab =>
      rw [Bool.and_eq_true, List.isEmpty_iff] at hs
      obtain ⟨A, hA, hA2⟩ := List.any_eq_true.mp hs.2
      have hst := hM.2.1
      rw [hs.1] at hst
      have hstk : stk = [] := List.eq_nil_of_length_eq_zero (by have := sms_len hst; simpa using this)
      subst hstk
      obtain ⟨ρ', ρ0', a1, a2, a3, a4⟩ := sarr_ok hsing hcell hG hM hA2
      exact IH pc A hA loc h ρ' ρ0' a1 a2 a3 a4 hG hF
    case isFalse =>
      cases hi : pI mid pc with
      | none => simp only [hi] at hs; cases hs
      | some i =>
        simp only [hi] at hs
        split at hs
        case h_1 hk =>
          cases hst : sstp fld kI kL gst ldS fldS acp reg rin sing gG gu mid md i pc S with
          | none => simp only [hst] at hs; cases hs
          | some L =>
            simp only [hst] at hs
            obtain ⟨q, q1, q2, q3, z, hz, ρ', q4, q5⟩ := sstp_ok hcomp hsing hr hgv hG hF hM hst
            have hz2 := (List.all_eq_true.mp hs) z hz
            rw [← q4] at hz2
            obtain ⟨m, r, h', r1, r2⟩ := sseg_ok hcomp hsing hcell hr hgv hd hQs f q.1 false z.2 q.2.1 q.2.2.1 q.2.2.2 ρ' ρ0 hz2 q5 q2 q3 IH
            refine ⟨m + 1, r, h', ?_, r2⟩
            obtain ⟨k1, k2⟩ := skd0 (tab := tab) (mL := mL) (mR := mR) (stk := stk) hk
            rw [zrun]
            simp only [hi, k1, k2, q1]
            exact r1
        case h_2 hk =>
          cases hc : scl cal mid i with
          | none => simp only [hc] at hs; cases hs
          | some z =>
            simp only [hc] at hs
            cases hfs : Qs.findSome? (fun Q => if (smo md Q.2.2.2.1 && decide (Q.2.2.2.2 < dep)) = true then scal sing gG gu rin mL S z.1 z.2.1 z.2.2 Q else none) with
            | none => simp only [hfs] at hs; cases hs
            | some L =>
              simp only [hfs] at hs
              obtain ⟨Q, hQ, hQ2⟩ := List.exists_of_findSome?_eq_some hfs
              split at hQ2
              case isFalse => cases hQ2
              case isTrue hmo =>
                rw [Bool.and_eq_true, decide_eq_true_eq] at hmo
                obtain ⟨d', rfl⟩ : ∃ d', d = d' + 1 := ⟨d - 1, by omega⟩
                obtain ⟨p1, p2, p3, p4, m1, r1, h1, u1, u2, u3, T, hT, ρ', u4⟩ := scal_ok hcomp hsing hcell hgv hG hM (d := d') (hQs Q hQ) (by omega) hQ2
                have hT2 := (List.all_eq_true.mp hs) T hT
                obtain ⟨m, r, h', v1, v2⟩ := sseg_ok hcomp hsing hcell hr hgv hd hQs f (pc + 3) false T loc (r1.toList ++ stk.drop z.2.1) h1 ρ' ρ0 hT2 u4 u2 (smo_ok hmo.1 hF u3) IH
                have hcl : zcl tab mL cal mid i stk = some (z.1, (stk.take z.2.1).reverse, stk.drop z.2.1) := by
                  cases i
                  case invokevirtual idx =>
                    simp only [scl] at hc
                    cases hca : cal mid idx with
                    | none => simp only [hca] at hc; cases hc
                    | some y =>
                      simp only [hca] at hc
                      split at hc
                      case isFalse => cases hc
                      case isTrue hlt =>
                        cases hc
                        obtain ⟨callee, na, kc⟩ := z
                        simp only [zcl, hca]
                        rw [if_pos]
                        simp only [Bool.and_eq_true, decide_eq_true_eq]
                        simp only at p1 p2 p3 p4 hlt
                        rcases p4 with p4 | p4
                        · omega
                        · exact ⟨⟨⟨⟨hlt, p1⟩, p2⟩, p3⟩, p4.2⟩
                  case invokestatic idx =>
                    simp only [scl] at hc
                    cases hca : cal mid idx with
                    | none => simp only [hca] at hc; cases hc
                    | some y =>
                      simp only [hca] at hc
                      split at hc
                      case isFalse => cases hc
                      case isTrue hlt =>
                        cases hc
                        obtain ⟨callee, na, kc⟩ := z
                        simp only [zcl, hca]
                        rw [if_pos]
                        simp only [Bool.and_eq_true, decide_eq_true_eq]
                        exact ⟨⟨⟨hlt, p1⟩, p2⟩, p3⟩
                  all_goals cases hc
                refine ⟨max m m1 + 1, r, h', ?_, v2⟩
                rw [zrun]
                simp only [hi, hcl]
                rw [zrun_le (Nat.le_max_right m m1) u1]
                exact zrun_le (Nat.le_max_left m m1) v1
        case h_3 =>
          rw [Bool.and_eq_true] at hs
          obtain ⟨X, hX, hX2⟩ := List.any_eq_true.mp hs.2
          obtain ⟨x1, x2⟩ := sxr_ok hsing hcell hG hM hX2
          have hrk := hs.1
          have hze : zcl tab mL cal mid i stk = none ∧ zend (mR mid) i stk = some stk.head? := by
            rcases srk_el hrk with ⟨rfl, hret, e, hst⟩ | ⟨rfl, hret, e, hst, hq⟩ | ⟨rfl, hret, e, hst, hq⟩ | ⟨rfl, hret, e, hst⟩ | ⟨rfl, hret, hst⟩
            · rcases x2 with ⟨x, e', rfl, q1, q2⟩ | ⟨y, e', rfl, q1⟩ | ⟨rfl, q1⟩
              · exact ⟨rfl, by rw [hret]; rfl⟩
              · rw [q1] at hst; cases hst
              · rw [q1] at hst; cases hst
            · rcases x2 with ⟨x, e', rfl, q1, q2⟩ | ⟨y, e', rfl, q1⟩ | ⟨rfl, q1⟩
              · rw [q1] at hst
                cases hst
                have := sb01_ok hM hq q2
                refine ⟨rfl, ?_⟩
                rw [hret]
                show (if x = 0 ∨ x = 1 then _ else _) = _
                rw [if_pos this]
                rfl
              · rw [q1] at hst; cases hst
              · rw [q1] at hst; cases hst
            · rcases x2 with ⟨x, e', rfl, q1, q2⟩ | ⟨y, e', rfl, q1⟩ | ⟨rfl, q1⟩
              · rw [q1] at hst
                cases hst
                rw [Bool.and_eq_true] at hq
                have p1 := spr_le hM hq.1
                have p2 := spr_le hM hq.2
                rw [sng_v] at p2
                have : x = 0 := Int32.toInt_inj.mp (by rw [q2]; show _ = (0 : Int); omega)
                refine ⟨rfl, ?_⟩
                rw [hret]
                show (if x = 0 then _ else _) = _
                rw [if_pos this]
                rfl
              · rw [q1] at hst; cases hst
              · rw [q1] at hst; cases hst
            · rcases x2 with ⟨x, e', rfl, q1, q2⟩ | ⟨y, e', rfl, q1⟩ | ⟨rfl, q1⟩
              · rw [q1] at hst; cases hst
              · exact ⟨rfl, by rw [hret]; rfl⟩
              · rw [q1] at hst; cases hst
            · rcases x2 with ⟨x, e', rfl, q1, q2⟩ | ⟨y, e', rfl, q1⟩ | ⟨rfl, q1⟩
              · rw [q1] at hst; cases hst
              · rw [q1] at hst; cases hst
              · exact ⟨rfl, by rw [hret]; rfl⟩
          refine ⟨1, stk.head?, h, ?_, hG, hF, X, hX, x1⟩
          rw [zrun]
          simp only [hi, hze.1, hze.2]
/-- all the places' ways are well: what is told of the method holds -/
theorem smeth (hcomp : ∀ k, rin (reg k) = smT reg (tab k)) (hsing : ∀ k k', sing (reg k) = true → reg k' = reg k → k' = k) (hcell : ∀ r, sing r = true → ∃ k, reg k = r) (hr : ∀ k, reg k < 1000) (hgv : sGv reg gu gv) {labs : Nat → List sA} {Qs : List sQ} {Q : sQ} (hQs : ∀ Q ∈ Qs, sSum tab pI mL mR fld kI kL gst ldS fldS acp cal reg gG gv Q) {F : Nat} (h0 : Q.2.1 ∈ labs 0)
    (hl : ∀ pc A, A ∈ labs pc → sseg pI mL mR fld kI kL gst ldS fldS acp cal reg rin sing gG gu labs Qs Q.2.2.2.1 Q.2.2.2.2 Q.2.1.2.1.length Q.2.2.1 Q.1 F pc true (sAs A) = true) : sSum tab pI mL mR fld kI kL gst ldS fldS acp cal reg gG gv Q := by
  intro args h ρ ρ0 hG hM d hd
  have key : ∀ (k : Nat) (pc : Nat) (A : sA), A ∈ labs pc → ∀ (loc : zL) (h1 : zH) (ρ ρ0 : Nat → Int), (ρ0 0).toNat ≤ k → sMt reg gv ρ ρ0 (sAs A) loc [] h1 → sG reg gG h1 → sF reg Q.2.2.2.1 h h1 → ∃ m r h', zrun tab pI mL mR fld kI kL gst ldS fldS acp cal m d Q.1 pc loc [] h1 = some (r, h') ∧ sG reg gG h' ∧ sF reg Q.2.2.2.1 h h' ∧ ∃ X ∈ Q.2.2.1, sEx reg gv Q.2.1.2.1.length X ρ0 r h' := by
    intro k
    induction k with
    | zero =>
      intro pc A hA loc h1 ρ ρ0 hk hM hG hF
      refine sseg_ok hcomp hsing hcell hr hgv hd hQs F pc true (sAs A) loc [] h1 ρ ρ0 (hl pc A hA) hM hG hF ?_
      intro pc2 A2 hA2 loc2 h2 ρ2 ρ0' e1 e2 e3
      omega
    | succ k ih =>
      intro pc A hA loc h1 ρ ρ0 hk hM hG hF
      refine sseg_ok hcomp hsing hcell hr hgv hd hQs F pc true (sAs A) loc [] h1 ρ ρ0 (hl pc A hA) hM hG hF ?_
      intro pc2 A2 hA2 loc2 h2 ρ2 ρ0' e1 e2 e3 hM2 hG2 hF2
      obtain ⟨m, r, h', r1, r2, r3, X, hX, r4⟩ := ih pc2 A2 hA2 loc2 h2 ρ2 ρ0' (by omega) hM2 hG2 hF2
      exact ⟨m, r, h', r1, r2, r3, X, hX, sEx_congr e1 r4⟩
  exact key _ 0 Q.2.1 h0 (zent 0 args) h ρ ρ0 (Nat.le_refl _) hM hG (fun _ _ hne => absurd rfl hne)
end SSEGO
end
section
/-! the program as tables: cells, regions, links -/
def yTabL : List ((Nat × List Nat) ⊕ (Nat × Nat × List Nat)) := [.inr (0, 6, []), .inr (0, 6, []), .inr (0, 6, []), .inr (0, 6, []), .inr (0, 6, []), .inr (0, 6, []), .inr (0, 60, []), .inl (8, [2, 3, 4, 5, 6, 7, 8, 0, 0, 0]), .inr (0, 6, []), .inr (0, 6, []), .inr (0, 6, []), .inr (0, 6, []), .inr (0, 6, []), .inr (0, 6, []), .inr (0, 60, []), .inl (8, [10, 11, 12, 13, 14, 15, 16, 0, 0, 0]), .inr (0, 6, []), .inr (0, 6, []), .inr (0, 6, []), .inr (0, 6, []), .inr (0, 6, []), .inr (0, 6, []), .inr (0, 60, []), .inl (8, [18, 19, 20, 21, 22, 23, 24, 0, 0, 0]), .inr (0, 6, []), .inr (0, 6, []), .inr (0, 6, []), .inr (0, 6, []), .inr (0, 6, []), .inr (0, 6, []), .inr (0, 60, []), .inl (8, [26, 27, 28, 29, 30, 31, 32, 0, 0, 0]), .inr (0, 6, []), .inr (0, 6, []), .inr (0, 6, []), .inr (0, 6, []), .inr (0, 6, []), .inr (0, 6, []), .inr (0, 6, []), .inr (0, 6, []), .inr (0, 6, []), .inr (0, 6, []), .inr (0, 6, []), .inr (0, 6, []), .inr (0, 6, []), .inr (0, 6, []), .inr (0, 6, []), .inr (0, 6, []), .inr (0, 6, []), .inr (0, 6, []), .inr (0, 6, []), .inr (0, 6, []), .inr (0, 6, []), .inr (0, 6, []), .inr (0, 6, []), .inr (0, 6, []), .inr (0, 6, []), .inr (0, 6, []), .inr (0, 6, []), .inr (0, 6, []), .inr (0, 6, []), .inr (0, 6, []), .inr (0, 6, []), .inr (0, 6, []), .inr (0, 6, []), .inr (0, 6, []), .inr (0, 6, []), .inr (0, 6, []), .inr (0, 6, []), .inr (0, 6, []), .inr (0, 6, []), .inr (0, 6, []), .inr (0, 6, []), .inr (0, 6, []), .inr (0, 6, []), .inr (0, 6, []), .inr (0, 6, []), .inr (0, 6, []), .inr (0, 6, []), .inr (0, 6, []), .inr (0, 6, []), .inr (0, 6, []), .inr (0, 6, []), .inr (0, 6, []), .inr (0, 6, []), .inr (0, 6, []), .inr (0, 6, []), .inr (0, 6, []), .inr (0, 6, []), .inr (0, 6, []), .inr (0, 6, []), .inr (0, 6, []), .inr (0, 6, []), .inr (0, 6, []), .inr (0, 6, []), .inr (0, 6, []), .inr (0, 6, []), .inr (0, 6, []), .inr (0, 6, []), .inr (0, 6, []), .inr (0, 6, []), .inr (0, 6, []), .inr (0, 6, []), .inr (0, 6, []), .inr (0, 6, []), .inr (0, 6, []), .inr (0, 6, []), .inr (0, 6, []), .inr (0, 6, []), .inr (0, 6, []), .inr (0, 6, []), .inr (0, 6, []), .inr (0, 6, []), .inr (0, 6, []), .inr (0, 6, []), .inr (0, 6, []), .inr (0, 6, []), .inr (0, 6, []), .inr (0, 6, []), .inr (0, 6, []), .inr (0, 6, []), .inr (0, 6, []), .inr (0, 6, []), .inr (0, 6, []), .inr (0, 6, []), .inr (0, 6, []), .inr (0, 6, []), .inr (0, 6, []), .inr (0, 6, []), .inr (0, 6, []), .inr (0, 6, []), .inr (0, 6, []), .inr (0, 6, []), .inr (0, 6, []), .inr (0, 6, []), .inr (0, 6, []), .inr (0, 6, []), .inr (0, 6, []), .inr (0, 6, []), .inr (0, 6, []), .inr (0, 6, []), .inr (0, 6, []), .inr (0, 6, []), .inr (0, 6, []), .inr (0, 6, []), .inr (0, 6, []), .inr (0, 6, []), .inr (0, 6, []), .inr (0, 6, []), .inr (0, 6, []), .inr (0, 6, []), .inr (0, 6, []), .inr (0, 6, []), .inr (0, 6, []), .inr (0, 6, []), .inr (0, 6, []), .inr (0, 6, []), .inr (0, 6, []), .inr (0, 6, []), .inr (0, 6, []), .inr (0, 6, []), .inr (0, 6, []), .inr (0, 6, []), .inr (0, 6, []), .inr (0, 6, []), .inr (0, 6, []), .inr (0, 6, []), .inr (0, 6, []), .inr (0, 6, []), .inr (0, 6, []), .inr (0, 6, []), .inr (0, 6, []), .inr (0, 6, []), .inr (0, 6, []), .inr (0, 6, []), .inr (0, 6, []), .inr (0, 6, []), .inr (0, 6, []), .inr (0, 6, []), .inr (0, 6, []), .inr (0, 6, []), .inr (0, 6, []), .inr (0, 6, []), .inr (0, 6, []), .inr (0, 6, []), .inr (0, 6, []), .inr (0, 6, []), .inr (0, 6, []), .inr (0, 6, []), .inr (0, 6, []), .inr (0, 6, []), .inr (0, 6, []), .inr (0, 6, []), .inr (0, 6, []), .inr (0, 6, []), .inr (0, 6, []), .inr (0, 6, []), .inr (0, 6, []), .inr (0, 6, []), .inr (0, 6, []), .inr (0, 6, []), .inr (0, 6, []), .inr (0, 6, []), .inr (0, 6, []), .inr (0, 6, []), .inr (0, 6, []), .inr (0, 6, []), .inr (0, 6, []), .inr (0, 6, []), .inr (0, 6, []), .inr (0, 6, []), .inr (0, 6, []), .inr (0, 6, []), .inr (0, 6, []), .inr (0, 6, []), .inr (0, 6, []), .inr (0, 6, []), .inr (0, 6, []), .inr (0, 6, []), .inr (0, 6, []), .inr (0, 6, []), .inr (0, 6, []), .inr (0, 6, []), .inr (0, 6, []), .inr (0, 6, []), .inr (0, 6, []), .inr (0, 6, []), .inr (0, 6, []), .inr (0, 6, []), .inr (0, 6, []), .inr (0, 6, []), .inr (0, 6, []), .inr (0, 6, []), .inr (0, 6, []), .inr (0, 6, []), .inr (0, 6, []), .inr (0, 6, []), .inr (0, 6, []), .inr (0, 6, []), .inr (0, 6, []), .inr (0, 6, []), .inr (0, 6, []), .inr (0, 6, []), .inr (0, 6, []), .inr (0, 6, []), .inr (0, 6, []), .inr (0, 6, []), .inr (0, 6, []), .inr (0, 6, []), .inr (0, 6, []), .inr (0, 6, []), .inr (0, 6, []), .inr (0, 6, []), .inr (0, 6, []), .inr (0, 6, []), .inr (0, 6, []), .inr (0, 6, []), .inr (0, 6, []), .inr (0, 6, []), .inr (0, 6, []), .inr (0, 6, []), .inr (0, 6, []), .inr (0, 6, []), .inr (0, 6, []), .inr (0, 6, []), .inr (0, 6, []), .inr (0, 6, []), .inr (0, 6, []), .inr (0, 6, []), .inr (0, 6, []), .inr (0, 6, []), .inr (0, 6, []), .inr (0, 60, []), .inr (0, 60, []), .inr (0, 60, []), .inr (0, 60, []), .inr (0, 60, []), .inr (0, 60, []), .inr (0, 60, []), .inr (0, 60, []), .inr (0, 60, []), .inr (0, 60, []), .inr (0, 60, []), .inr (0, 60, []), .inr (0, 60, []), .inr (0, 60, []), .inr (0, 60, []), .inr (0, 60, []), .inr (0, 60, []), .inr (0, 60, []), .inr (0, 60, []), .inr (0, 60, []), .inr (0, 60, []), .inr (0, 60, []), .inr (0, 60, []), .inr (0, 60, []), .inr (0, 60, []), .inr (0, 60, []), .inr (0, 60, []), .inr (0, 60, []), .inr (0, 60, []), .inr (0, 60, []), .inr (0, 60, []), .inr (0, 60, []), .inr (0, 60, []), .inr (0, 60, []), .inr (0, 60, []), .inr (0, 60, []), .inr (0, 60, []), .inr (0, 60, []), .inr (0, 60, []), .inr (0, 60, []), .inl (8, [34, 74, 114, 154, 194, 234, 274, 0, 0, 0]), .inl (8, [35, 75, 115, 155, 195, 235, 275, 0, 0, 0]), .inl (8, [36, 76, 116, 156, 196, 236, 276, 0, 0, 0]), .inl (8, [37, 77, 117, 157, 197, 237, 277, 0, 0, 0]), .inl (8, [38, 78, 118, 158, 198, 238, 278, 0, 0, 0]), .inl (8, [39, 79, 119, 159, 199, 239, 279, 0, 0, 0]), .inl (8, [40, 80, 120, 160, 200, 240, 280, 0, 0, 0]), .inl (8, [41, 81, 121, 161, 201, 241, 281, 0, 0, 0]), .inl (8, [42, 82, 122, 162, 202, 242, 282, 0, 0, 0]), .inl (8, [43, 83, 123, 163, 203, 243, 283, 0, 0, 0]), .inl (8, [44, 84, 124, 164, 204, 244, 284, 0, 0, 0]), .inl (8, [45, 85, 125, 165, 205, 245, 285, 0, 0, 0]), .inl (8, [46, 86, 126, 166, 206, 246, 286, 0, 0, 0]), .inl (8, [47, 87, 127, 167, 207, 247, 287, 0, 0, 0]), .inl (8, [48, 88, 128, 168, 208, 248, 288, 0, 0, 0]), .inl (8, [49, 89, 129, 169, 209, 249, 289, 0, 0, 0]), .inl (8, [50, 90, 130, 170, 210, 250, 290, 0, 0, 0]), .inl (8, [51, 91, 131, 171, 211, 251, 291, 0, 0, 0]), .inl (8, [52, 92, 132, 172, 212, 252, 292, 0, 0, 0]), .inl (8, [53, 93, 133, 173, 213, 253, 293, 0, 0, 0]), .inl (8, [54, 94, 134, 174, 214, 254, 294, 0, 0, 0]), .inl (8, [55, 95, 135, 175, 215, 255, 295, 0, 0, 0]), .inl (8, [56, 96, 136, 176, 216, 256, 296, 0, 0, 0]), .inl (8, [57, 97, 137, 177, 217, 257, 297, 0, 0, 0]), .inl (8, [58, 98, 138, 178, 218, 258, 298, 0, 0, 0]), .inl (8, [59, 99, 139, 179, 219, 259, 299, 0, 0, 0]), .inl (8, [60, 100, 140, 180, 220, 260, 300, 0, 0, 0]), .inl (8, [61, 101, 141, 181, 221, 261, 301, 0, 0, 0]), .inl (8, [62, 102, 142, 182, 222, 262, 302, 0, 0, 0]), .inl (8, [63, 103, 143, 183, 223, 263, 303, 0, 0, 0]), .inl (8, [64, 104, 144, 184, 224, 264, 304, 0, 0, 0]), .inl (8, [65, 105, 145, 185, 225, 265, 305, 0, 0, 0]), .inl (8, [66, 106, 146, 186, 226, 266, 306, 0, 0, 0]), .inl (8, [67, 107, 147, 187, 227, 267, 307, 0, 0, 0]), .inl (8, [68, 108, 148, 188, 228, 268, 308, 0, 0, 0]), .inl (8, [69, 109, 149, 189, 229, 269, 309, 0, 0, 0]), .inl (8, [70, 110, 150, 190, 230, 270, 310, 0, 0, 0]), .inl (8, [71, 111, 151, 191, 231, 271, 311, 0, 0, 0]), .inl (8, [72, 112, 152, 192, 232, 272, 312, 0, 0, 0]), .inl (8, [73, 113, 153, 193, 233, 273, 313, 0, 0, 0]), .inr (0, 240, []), .inl (10, [354, 0, 0]), .inr (0, 4, []), .inr (0, 4, []), .inr (0, 4, []), .inr (0, 4, []), .inr (0, 4, []), .inr (0, 4, []), .inr (0, 4, []), .inr (3, 6, [355, 356, 357, 358, 359, 360]), .inr (1, 4, []), .inl (2, [355, 356, 363, 364, 0, 0]), .inr (0, 242, []), .inl (4, [355, 366, 0]), .inr (0, 242, []), .inr (0, 242, []), .inr (0, 242, []), .inr (0, 242, []), .inr (3, 4, [366, 367, 368, 369]), .inr (0, 4, []), .inr (0, 64, []), .inr (0, 6, []), .inl (3, [372, 373, 374, 375, 0, 0]), .inr (0, 6, []), .inl (1, [0, 0, 0, 377, 33]), .inr (2, 40, [312, 313, 314, 315, 316, 317, 318, 319, 320, 321, 322, 323, 324, 325, 326, 327, 328, 329, 330, 331, 332, 333, 334, 335, 336, 337, 338, 339, 340, 341, 342, 343, 344, 345, 346, 347, 348, 349, 350, 351]), .inl (0, [379, 0, 0]), .inr (0, 6, []), .inr (0, 6, []), .inr (0, 6, []), .inr (0, 6, []), .inr (0, 6, []), .inr (0, 60, []), .inr (0, 60, []), .inl (5, [378, 376, 381, 382, 383, 384, 385, 386, 387, 0, 0, 0]), .inr (0, 10, []), .inr (0, 10, []), .inr (1, 10, []), .inl (6, [389, 390, 391, 0]), .inr (0, 10, []), .inr (0, 10, []), .inr (1, 10, []), .inl (6, [393, 394, 395, 0]), .inr (0, 7, []), .inr (0, 60, []), .inl (9, [378, 388, 392, 17, 397, 398, 0]), .inr (0, 6, []), .inr (0, 6, []), .inr (0, 10, []), .inr (0, 10, []), .inl (7, [378, 9, 400, 401, 402, 403]), .inr (0, 5, []), .inr (0, 6, []), .inr (0, 32, []), .inl (11, [355, 365, 367, 376, 378, 9, 17, 25, 0, 380, 388, 392, 396, 399, 404, 405, 406, 407, 0, 1]), .inr (0, 240, []), .inr (0, 2600, []), .inr (0, 2600, []), .inr (0, 5, []), .inr (0, 5, []), .inr (0, 700, []), .inr (0, 700, []), .inr (0, 700, []), .inr (0, 6, []), .inr (0, 80, []), .inr (0, 3, []), .inr (0, 24, []), .inr (0, 3, []), .inr (0, 24, []), .inr (0, 220, []), .inr (0, 5, []), .inr (0, 60, []), .inr (0, 10, []), .inr (0, 6, []), .inr (0, 6, []), .inr (0, 6, []), .inr (0, 6, []), .inr (0, 8800, []), .inr (0, 6, []), .inr (0, 10, []), .inr (0, 10, []), .inr (1, 10, []), .inr (0, 39, []), .inr (0, 60, []), .inr (0, 10, []), .inr (0, 10, []), .inr (1, 10, []), .inr (0, 220, []), .inl (12, [0, 409, 0, 0, 0, 0, 410, 411, 412, 413, 414, 415, 416, 0, 0, 417, 418, 419, 420, 0, 421, 422, 0, 423, 424, 0, 0, 425, 426, 427, 428, 429, 430, 0, 0, 0, 0, 0, 431, 0, 1, 0, 0, 432, 433, 434, 435, 0, 436, 437, 438, 439, 440, 0, 441, 0]), .inr (4, 3, [4, 1, 0]), .inr (4, 3, [10, 20, 99]), .inr (4, 3, [8, 7, 20]), .inr (4, 4, [0, 0, 0, 0]), .inr (4, 4, [10, 9, 9, 9]), .inr (4, 4, [3, 3, 5, 0]), .inr (6, 3, [104, 110, 99]), .inr (5, 447, []), .inr (6, 4, [110, 100, 101, 98]), .inr (5, 449, []), .inr (6, 6, [100, 105, 101, 104, 119, 110]), .inr (5, 451, [])]
def yTab (k : Nat) : (Nat × List Nat) ⊕ (Nat × Nat × List Nat) := yTabL.getD k (.inr (4, 0, []))
def yRegL : List Nat := [0, 1, 2, 3, 4, 5, 6, 7, 8, 9, 10, 11, 12, 13, 14, 15, 16, 17, 18, 19, 20, 21, 22, 23, 24, 25, 26, 27, 28, 29, 30, 31, 32, 32, 32, 32, 32, 32, 32, 32, 32, 32, 32, 32, 32, 32, 32, 32, 32, 32, 32, 32, 32, 32, 32, 32, 32, 32, 32, 32, 32, 32, 32, 32, 32, 32, 32, 32, 32, 32, 32, 32, 33, 33, 33, 33, 33, 33, 33, 33, 33, 33, 33, 33, 33, 33, 33, 33, 33, 33, 33, 33, 33, 33, 33, 33, 33, 33, 33, 33, 33, 33, 33, 33, 33, 33, 33, 33, 33, 33, 33, 33, 34, 34, 34, 34, 34, 34, 34, 34, 34, 34, 34, 34, 34, 34, 34, 34, 34, 34, 34, 34, 34, 34, 34, 34, 34, 34, 34, 34, 34, 34, 34, 34, 34, 34, 34, 34, 34, 34, 34, 34, 35, 35, 35, 35, 35, 35, 35, 35, 35, 35, 35, 35, 35, 35, 35, 35, 35, 35, 35, 35, 35, 35, 35, 35, 35, 35, 35, 35, 35, 35, 35, 35, 35, 35, 35, 35, 35, 35, 35, 35, 36, 36, 36, 36, 36, 36, 36, 36, 36, 36, 36, 36, 36, 36, 36, 36, 36, 36, 36, 36, 36, 36, 36, 36, 36, 36, 36, 36, 36, 36, 36, 36, 36, 36, 36, 36, 36, 36, 36, 36, 37, 37, 37, 37, 37, 37, 37, 37, 37, 37, 37, 37, 37, 37, 37, 37, 37, 37, 37, 37, 37, 37, 37, 37, 37, 37, 37, 37, 37, 37, 37, 37, 37, 37, 37, 37, 37, 37, 37, 37, 38, 38, 38, 38, 38, 38, 38, 38, 38, 38, 38, 38, 38, 38, 38, 38, 38, 38, 38, 38, 38, 38, 38, 38, 38, 38, 38, 38, 38, 38, 38, 38, 38, 38, 38, 38, 38, 38, 38, 38, 39, 39, 39, 39, 39, 39, 39, 39, 39, 39, 39, 39, 39, 39, 39, 39, 39, 39, 39, 39, 39, 39, 39, 39, 39, 39, 39, 39, 39, 39, 39, 39, 39, 39, 39, 39, 39, 39, 39, 39, 40, 41, 42, 43, 43, 43, 43, 43, 43, 44, 45, 46, 47, 48, 49, 49, 49, 49, 50, 51, 52, 53, 54, 55, 56, 57, 58, 59, 60, 61, 62, 63, 64, 65, 66, 67, 68, 69, 70, 71, 72, 73, 74, 75, 76, 77, 78, 79, 80, 81, 82, 83, 84, 85, 86, 87, 88, 89, 90, 91, 92, 93, 94, 95, 96, 97, 98, 99, 100, 101, 102, 103, 104, 105, 106, 107, 108, 109, 110, 111, 112, 113, 114, 115, 116, 117, 118, 119, 120, 121, 122, 123, 124, 125, 126, 127, 128, 129, 130, 131, 132]
def yReg (k : Nat) : Nat := yRegL.getD k 999
def yRinL : List ((Nat × List Nat) ⊕ (Nat × Nat × List Nat)) := [.inr (0, 6, []), .inr (0, 6, []), .inr (0, 6, []), .inr (0, 6, []), .inr (0, 6, []), .inr (0, 6, []), .inr (0, 60, []), .inl (8, [2, 3, 4, 5, 6, 7, 8, 0, 0, 0]), .inr (0, 6, []), .inr (0, 6, []), .inr (0, 6, []), .inr (0, 6, []), .inr (0, 6, []), .inr (0, 6, []), .inr (0, 60, []), .inl (8, [10, 11, 12, 13, 14, 15, 16, 0, 0, 0]), .inr (0, 6, []), .inr (0, 6, []), .inr (0, 6, []), .inr (0, 6, []), .inr (0, 6, []), .inr (0, 6, []), .inr (0, 60, []), .inl (8, [18, 19, 20, 21, 22, 23, 24, 0, 0, 0]), .inr (0, 6, []), .inr (0, 6, []), .inr (0, 6, []), .inr (0, 6, []), .inr (0, 6, []), .inr (0, 6, []), .inr (0, 60, []), .inl (8, [26, 27, 28, 29, 30, 31, 32, 0, 0, 0]), .inr (0, 6, []), .inr (0, 6, []), .inr (0, 6, []), .inr (0, 6, []), .inr (0, 6, []), .inr (0, 6, []), .inr (0, 60, []), .inl (8, [34, 35, 36, 37, 38, 39, 40, 0, 0, 0]), .inr (0, 240, []), .inl (10, [42, 0, 0]), .inr (0, 4, []), .inr (0, 4, []), .inr (3, 6, [43, 43, 43, 43, 43, 43]), .inr (1, 4, []), .inl (2, [43, 44, 46, 47, 0, 0]), .inr (0, 242, []), .inl (4, [43, 49, 0]), .inr (0, 242, []), .inr (3, 4, [49, 49, 49, 49]), .inr (0, 4, []), .inr (0, 64, []), .inr (0, 6, []), .inl (3, [52, 53, 54, 55, 0, 0]), .inr (0, 6, []), .inl (1, [0, 0, 0, 57, 33]), .inr (2, 40, [39, 39, 39, 39, 39, 39, 39, 39, 39, 39, 39, 39, 39, 39, 39, 39, 39, 39, 39, 39, 39, 39, 39, 39, 39, 39, 39, 39, 39, 39, 39, 39, 39, 39, 39, 39, 39, 39, 39, 39]), .inl (0, [59, 0, 0]), .inr (0, 6, []), .inr (0, 6, []), .inr (0, 6, []), .inr (0, 6, []), .inr (0, 6, []), .inr (0, 60, []), .inr (0, 60, []), .inl (5, [58, 56, 61, 62, 63, 64, 65, 66, 67, 0, 0, 0]), .inr (0, 10, []), .inr (0, 10, []), .inr (1, 10, []), .inl (6, [69, 70, 71, 0]), .inr (0, 10, []), .inr (0, 10, []), .inr (1, 10, []), .inl (6, [73, 74, 75, 0]), .inr (0, 7, []), .inr (0, 60, []), .inl (9, [58, 68, 72, 17, 77, 78, 0]), .inr (0, 6, []), .inr (0, 6, []), .inr (0, 10, []), .inr (0, 10, []), .inl (7, [58, 9, 80, 81, 82, 83]), .inr (0, 5, []), .inr (0, 6, []), .inr (0, 32, []), .inl (11, [43, 48, 50, 56, 58, 9, 17, 25, 0, 60, 68, 72, 76, 79, 84, 85, 86, 87, 0, 1]), .inr (0, 240, []), .inr (0, 2600, []), .inr (0, 2600, []), .inr (0, 5, []), .inr (0, 5, []), .inr (0, 700, []), .inr (0, 700, []), .inr (0, 700, []), .inr (0, 6, []), .inr (0, 80, []), .inr (0, 3, []), .inr (0, 24, []), .inr (0, 3, []), .inr (0, 24, []), .inr (0, 220, []), .inr (0, 5, []), .inr (0, 60, []), .inr (0, 10, []), .inr (0, 6, []), .inr (0, 6, []), .inr (0, 6, []), .inr (0, 6, []), .inr (0, 8800, []), .inr (0, 6, []), .inr (0, 10, []), .inr (0, 10, []), .inr (1, 10, []), .inr (0, 39, []), .inr (0, 60, []), .inr (0, 10, []), .inr (0, 10, []), .inr (1, 10, []), .inr (0, 220, []), .inl (12, [0, 89, 0, 0, 0, 0, 90, 91, 92, 93, 94, 95, 96, 0, 0, 97, 98, 99, 100, 0, 101, 102, 0, 103, 104, 0, 0, 105, 106, 107, 108, 109, 110, 0, 0, 0, 0, 0, 111, 0, 1, 0, 0, 112, 113, 114, 115, 0, 116, 117, 118, 119, 120, 0, 121, 0]), .inr (4, 3, [4, 1, 0]), .inr (4, 3, [10, 20, 99]), .inr (4, 3, [8, 7, 20]), .inr (4, 4, [0, 0, 0, 0]), .inr (4, 4, [10, 9, 9, 9]), .inr (4, 4, [3, 3, 5, 0]), .inr (6, 3, [104, 110, 99]), .inr (5, 127, []), .inr (6, 4, [110, 100, 101, 98]), .inr (5, 129, []), .inr (6, 6, [100, 105, 101, 104, 119, 110]), .inr (5, 131, [])]
def yRin (r : Nat) : (Nat × List Nat) ⊕ (Nat × Nat × List Nat) := yRinL.getD r (.inr (4, 0, []))
def ySinL : List Bool := [true, true, true, true, true, true, true, true, true, true, true, true, true, true, true, true, true, true, true, true, true, true, true, true, true, true, true, true, true, true, true, true, false, false, false, false, false, false, false, false, true, true, true, false, true, true, true, true, true, false, true, true, true, true, true, true, true, true, true, true, true, true, true, true, true, true, true, true, true, true, true, true, true, true, true, true, true, true, true, true, true, true, true, true, true, true, true, true, true, true, true, true, true, true, true, true, true, true, true, true, true, true, true, true, true, true, true, true, true, true, true, true, true, true, true, true, true, true, true, true, true, true, true, true, true, true, true, true, true, true, true, true, true]
def ySin (r : Nat) : Bool := ySinL.getD r false
def yCelL : List Nat := [0, 1, 2, 3, 4, 5, 6, 7, 8, 9, 10, 11, 12, 13, 14, 15, 16, 17, 18, 19, 20, 21, 22, 23, 24, 25, 26, 27, 28, 29, 30, 31, 32, 72, 112, 152, 192, 232, 272, 312, 352, 353, 354, 355, 361, 362, 363, 364, 365, 366, 370, 371, 372, 373, 374, 375, 376, 377, 378, 379, 380, 381, 382, 383, 384, 385, 386, 387, 388, 389, 390, 391, 392, 393, 394, 395, 396, 397, 398, 399, 400, 401, 402, 403, 404, 405, 406, 407, 408, 409, 410, 411, 412, 413, 414, 415, 416, 417, 418, 419, 420, 421, 422, 423, 424, 425, 426, 427, 428, 429, 430, 431, 432, 433, 434, 435, 436, 437, 438, 439, 440, 441, 442, 443, 444, 445, 446, 447, 448, 449, 450, 451, 452]
def yCel (r : Nat) : Nat := yCelL.getD r 0
def yGL : List (List (Nat × Nat × Int × Int)) := [[], [], [], [], [], [], [], [], [], [], [], [], [], [], [], [], [], [], [], [], [], [], [], [], [], [], [], [], [], [], [], [], [], [], [], [], [], [], [], [], [], [(1, 1, 0, 240), (2, 2, 0, 240)], [(0, 0, 0, 10)], [], [], [(0, 3, 0, 1)], [(5, 5, 0, 1), (4, 4, 0, 6)], [], [(2, 2, 0, 242)], [], [], [(0, 3, 0, 242)], [], [], [(4, 4, 0, 4)], [], [(0, 0, 0, 6), (1, 1, 0, 10)], [], [(1, 1, 0, 39)], [], [], [], [], [], [], [], [], [], [], [(0, 9, 0, 1)], [(3, 3, 0, 10)], [], [], [(0, 9, 0, 1)], [(3, 3, 0, 10)], [], [], [(6, 6, 0, 7)], [(0, 5, 0, 5)], [], [], [], [], [], [], [], [(8, 8, 0, 1)], [(0, 239, 0, 255)], [], [], [], [], [], [], [], [], [], [], [], [(0, 0, 0, 10)], [], [(39, 39, 0, 60)], [], [], [], [], [], [], [], [], [], [(0, 9, 0, 5)], [], [(0, 9, 0, 1)], [], [], [], [], [(0, 9, 0, 1)], [], [(55, 55, 0, 1), (2, 2, 0, 240), (3, 3, 0, 260), (13, 13, 0, 4), (14, 14, 0, 4), (25, 25, (-1), 3), (19, 19, 0, 6), (22, 22, 0, 6), (47, 47, 0, 10), (53, 53, 0, 10), (39, 39, 0, 40), (5, 5, 0, 10)], [], [], [], [], [], [], [], [], [], [], [], []]
def yG (r : Nat) : List (Nat × Nat × Int × Int) := yGL.getD r []
theorem yReg_d {k : Nat} (hk : 453 ≤ k) : yReg k = 999 ∧ yTab k = .inr (4, 0, []) := by
  unfold yReg yTab
  rw [List.getD_eq_getElem?_getD, List.getD_eq_getElem?_getD, List.getElem?_eq_none (by rw [show yRegL.length = 453 by decide +kernel]; exact hk), List.getElem?_eq_none (by rw [show yTabL.length = 453 by decide +kernel]; exact hk)]
  exact ⟨rfl, rfl⟩
def yE1 (a b : (Nat × List Nat) ⊕ (Nat × Nat × List Nat)) : Bool := match a, b with
  | .inl x, .inl y => decide (x = y)
  | .inr x, .inr y => decide (x = y)
  | _, _ => false
theorem yE1_eq {a b : (Nat × List Nat) ⊕ (Nat × Nat × List Nat)} (h : yE1 a b = true) : a = b := by
  match a, b, h with
  | .inl x, .inl y, h => rw [of_decide_eq_true h]
  | .inr x, .inr y, h => rw [of_decide_eq_true h]
theorem yAll {f : Nat → Bool} {n : Nat} (h : (List.range n).all f = true) {k : Nat} (hk : k < n) : f k = true := (List.all_eq_true.mp h) k (List.mem_range.mpr hk)
theorem yComp : ∀ k, yRin (yReg k) = smT yReg (yTab k) := by
  intro k
  by_cases hk : k < 453
  · exact yE1_eq (yAll (f := fun k => yE1 (yRin (yReg k)) (smT yReg (yTab k))) (n := 453) (by decide +kernel) hk)
  · obtain ⟨e1, e2⟩ := yReg_d (k := k) (by omega)
    rw [e1, e2]
    rfl
theorem yR1000 : ∀ k, yReg k < 1000 := by
  intro k
  by_cases hk : k < 453
  · exact of_decide_eq_true (yAll (f := fun k => decide (yReg k < 1000)) (n := 453) (by decide +kernel) hk)
  · rw [(yReg_d (k := k) (by omega)).1]
    decide
theorem ySing : ∀ k k', ySin (yReg k) = true → yReg k' = yReg k → k' = k := by
  have key : ∀ k, ySin (yReg k) = true → k = yCel (yReg k) := by
    intro k hs
    by_cases hk : k < 453
    · have := yAll (f := fun k => !ySin (yReg k) || decide (k = yCel (yReg k))) (n := 453) (by decide +kernel) hk
      rw [hs] at this
      exact of_decide_eq_true this
    · rw [(yReg_d (k := k) (by omega)).1] at hs
      exact absurd hs (by decide +kernel)
  intro k k' hs he
  rw [key k hs, key k' (by rw [he]; exact hs), he]
theorem yCell : ∀ r, ySin r = true → ∃ k, yReg k = r := by
  intro r hs
  by_cases hr : r < 133
  · have := yAll (f := fun r => !ySin r || decide (yReg (yCel r) = r)) (n := 133) (by decide +kernel) hr
    rw [hs] at this
    exact ⟨yCel r, of_decide_eq_true this⟩
  · unfold ySin at hs
    rw [List.getD_eq_getElem?_getD, List.getElem?_eq_none (by rw [show ySinL.length = 133 by decide +kernel]; omega)] at hs
    cases hs
def yMcL : List Nat := [0, 0, 0, 1, 1, 6, 6, 1, 0, 0, 5, 6, 18, 7, 7, 9, 9, 9, 9, 9, 9, 9, 8, 10, 8, 15, 18, 15, 15, 13, 13, 13, 13, 15, 15, 15, 10, 10, 10, 10, 10, 10, 10, 18, 10, 10, 10, 10, 10, 10, 10, 10, 10, 10, 10, 10, 10, 10, 10, 19, 19, 19, 19, 10, 10, 10, 10, 15, 10, 10, 10, 15, 10, 10, 15, 15, 10, 10, 10, 10, 10, 10, 10, 10, 16, 10, 10, 10, 10, 10, 10, 10, 10, 10, 10, 10, 10, 10, 10, 11, 11, 11, 11, 11, 11, 11, 11, 11, 11, 11, 11, 11, 11, 11, 11, 11, 11, 11, 11, 11, 11, 11, 11, 11, 11, 11, 11, 11, 11, 11, 11, 11, 11, 11, 14, 17, 17, 17, 0, 2, 2, 2, 3, 3, 3, 3, 3, 3, 3, 4, 6, 6, 10, 10, 10, 10, 10, 10, 10, 10, 11, 11, 11, 11, 11, 11, 11, 11, 11, 11, 11, 11, 11, 11, 11, 11, 11, 11, 11, 11, 11, 11, 11, 11, 11, 11, 11, 11, 11, 11, 11, 11, 11, 11, 11, 11, 11, 11, 11, 11, 11, 11, 11, 11, 11, 11, 11, 11, 11, 11, 11, 11, 11, 11, 11, 11, 11, 11, 11, 11, 11, 11, 11, 11, 11, 11, 11, 11, 11, 11, 11, 11, 11, 11, 11, 11, 11, 11, 12, 12, 12, 12, 12, 13, 14, 14, 14, 14, 14, 14, 14, 14, 14, 14, 17, 17, 17, 17, 17, 17, 17]
def yMc (m : Nat) : Nat := yMcL.getD m 999
def yFlL : List (List (Nat × Nat × Nat × Nat)) := [[], [], [], [], [], [], [], [(11, (0, 0, 3)), (17, (0, 1, 0)), (21, (0, 2, 0))], [(9, (1, 0, 0)), (15, (1, 1, 0))], [(9, (10, 0, 3)), (15, (10, 1, 0)), (19, (10, 2, 0))], [(10, (11, 0, 3)), (21, (11, 1, 3)), (28, (11, 2, 3)), (35, (11, 3, 3)), (42, (11, 4, 3)), (49, (11, 5, 3)), (53, (11, 6, 3)), (56, (11, 7, 3)), (59, (11, 8, 1)), (66, (11, 9, 3)), (75, (11, 10, 3)), (82, (11, 11, 3)), (86, (11, 12, 3)), (94, (11, 13, 3)), (103, (11, 14, 3)), (107, (11, 15, 3)), (111, (11, 16, 3)), (114, (11, 17, 3)), (117, (11, 18, 0)), (121, (11, 19, 2)), (129, (10, 1, 0)), (143, (10, 2, 0)), (153, (1, 0, 0)), (156, (3, 4, 0)), (159, (4, 1, 3)), (162, (4, 2, 0)), (169, (1, 4, 3)), (176, (0, 2, 0)), (177, (6, 3, 0)), (181, (1, 1, 0)), (184, (1, 2, 0)), (187, (8, 7, 0)), (201, (1, 3, 3)), (204, (8, 2, 3)), (207, (8, 1, 3)), (210, (8, 0, 3)), (213, (8, 3, 3)), (216, (8, 4, 3)), (219, (8, 5, 3)), (222, (3, 5, 0)), (238, (8, 9, 0)), (264, (8, 6, 3)), (270, (5, 7, 3)), (273, (5, 8, 3)), (277, (5, 3, 3)), (280, (5, 4, 3)), (283, (5, 9, 0)), (286, (5, 10, 0)), (326, (5, 5, 3)), (336, (9, 6, 0)), (337, (9, 4, 3)), (347, (6, 1, 3)), (350, (6, 2, 3)), (354, (6, 0, 3)), (374, (5, 2, 3)), (377, (5, 6, 3)), (393, (8, 8, 0))], [(9, (12, 1, 3)), (13, (12, 6, 3)), (16, (12, 7, 3)), (19, (12, 8, 3)), (22, (12, 9, 3)), (25, (12, 10, 3)), (28, (12, 11, 3)), (31, (12, 12, 3)), (34, (12, 15, 3)), (37, (12, 16, 3)), (40, (12, 17, 3)), (43, (12, 18, 3)), (46, (12, 20, 3)), (49, (12, 21, 3)), (52, (12, 23, 3)), (55, (12, 24, 3)), (58, (12, 25, 0)), (62, (12, 27, 3)), (65, (12, 28, 3)), (68, (12, 29, 3)), (71, (12, 30, 3)), (74, (12, 31, 3)), (77, (12, 32, 3)), (80, (12, 38, 3)), (83, (12, 43, 3)), (86, (12, 44, 3)), (89, (12, 45, 3)), (92, (12, 46, 3)), (96, (12, 48, 3)), (99, (12, 49, 3)), (102, (12, 50, 3)), (105, (12, 51, 3)), (108, (12, 52, 3)), (111, (12, 54, 3)), (114, (12, 0, 0)), (121, (12, 2, 0)), (124, (12, 3, 0)), (131, (12, 4, 0)), (134, (12, 14, 0)), (137, (12, 5, 0)), (253, (12, 19, 0)), (270, (12, 22, 0)), (279, (12, 47, 0)), (282, (12, 53, 0)), (285, (12, 39, 0)), (288, (12, 55, 1)), (295, (12, 13, 0)), (318, (12, 33, 0)), (321, (12, 35, 0)), (324, (12, 34, 0)), (327, (12, 37, 0)), (330, (12, 36, 0)), (363, (12, 26, 0)), (366, (12, 40, 2)), (389, (12, 41, 0)), (392, (12, 42, 0))], [(11, (2, 1, 3)), (17, (2, 2, 3)), (20, (2, 3, 3)), (24, (2, 4, 0)), (28, (2, 5, 1)), (32, (2, 0, 3)), (36, (10, 2, 0)), (97, (1, 0, 0)), (100, (1, 1, 0)), (103, (1, 2, 0)), (106, (1, 4, 3)), (110, (8, 7, 0)), (115, (1, 3, 3)), (118, (8, 2, 3)), (121, (8, 1, 3)), (124, (8, 0, 3)), (127, (8, 5, 3))], [(13, (3, 0, 3)), (18, (3, 1, 3)), (22, (3, 2, 3)), (25, (3, 3, 3)), (28, (3, 4, 0)), (32, (3, 5, 0))], [(11, (4, 1, 3)), (15, (4, 2, 0)), (19, (4, 0, 3)), (23, (10, 2, 0))], [(9, (5, 2, 3)), (15, (5, 3, 3)), (18, (5, 4, 3)), (21, (5, 5, 3)), (24, (5, 6, 3)), (27, (5, 7, 3)), (30, (5, 8, 3)), (33, (5, 9, 0)), (37, (5, 10, 0)), (40, (5, 11, 0)), (43, (5, 0, 3)), (47, (5, 1, 3)), (55, (1, 1, 0)), (64, (1, 0, 0)), (77, (8, 0, 3)), (80, (1, 3, 3)), (91, (1, 2, 0)), (94, (8, 1, 3)), (97, (3, 5, 0)), (102, (8, 2, 3)), (105, (3, 3, 3)), (108, (8, 9, 0)), (118, (8, 4, 3)), (124, (8, 3, 3)), (130, (8, 7, 0)), (133, (8, 8, 0)), (134, (8, 6, 3))], [(9, (6, 0, 3)), (15, (6, 1, 3)), (18, (6, 2, 3)), (22, (6, 3, 0))], [(9, (7, 2, 3)), (15, (7, 3, 3)), (18, (7, 4, 3)), (21, (7, 5, 3)), (24, (7, 0, 3)), (28, (7, 1, 3)), (39, (1, 0, 0)), (49, (8, 5, 3)), (54, (1, 1, 0)), (87, (1, 3, 3)), (90, (8, 0, 3))], [(9, (8, 0, 3)), (15, (8, 1, 3)), (18, (8, 2, 3)), (21, (8, 3, 3)), (24, (8, 4, 3)), (27, (8, 5, 3)), (30, (8, 6, 3)), (33, (8, 7, 0)), (37, (8, 8, 0)), (40, (8, 9, 0))], [(9, (9, 4, 3)), (15, (9, 5, 3)), (18, (9, 6, 0)), (22, (9, 0, 3)), (26, (9, 1, 3)), (30, (9, 2, 3)), (34, (9, 3, 3)), (38, (1, 0, 0)), (43, (1, 4, 3)), (52, (8, 2, 3)), (68, (5, 4, 3)), (75, (6, 3, 0)), (78, (6, 0, 3)), (84, (6, 1, 3)), (87, (6, 2, 3)), (91, (1, 1, 0))]]
def yFlC (c i : Nat) : Option (Nat × Nat × Nat) := match (yFlL.getD c []).find? (fun p => p.1 == i) with
  | some p => some p.2
  | none => none
def yFld (m i : Nat) : Option (Nat × Nat × Nat) := yFlC (yMc m) i
def yKiL : List (List (Nat × Int32)) := [[], [], [(76, 56320), (110, 55232)], [(227, 65536)], [], [(265, 1431655765), (266, 858993459), (267, 252645135)], [], [], [], [], [(276, (-1000000))], [(377, (-1000000))], [], [(55, 1000000), (58, (-1000000))], [], [], [], [], [], []]
def yKiC (c i : Nat) : Option (Int32) := match (yKiL.getD c []).find? (fun p => p.1 == i) with
  | some p => some p.2
  | none => none
def yKI (m i : Nat) : Option Int32 := yKiC (yMc m) i
def yKlL : List (List (Nat × Int64)) := [[], [], [], [], [], [], [], [], [], [], [(253, 6364136223846793005), (255, 1442695040888963407), (301, 1000000000), (303, 100)], [(204, (-1000000)), (206, 1000000), (370, 6364136223846793005), (372, 1442695040888963407), (443, 1000000000), (445, 100)], [], [(53, 1000000), (56, (-1000000))], [], [], [], [], [], []]
def yKlC (c i : Nat) : Option (Int64) := match (yKlL.getD c []).find? (fun p => p.1 == i) with
  | some p => some p.2
  | none => none
def yKL (m i : Nat) : Option Int64 := yKlC (yMc m) i
def yGsL : List (List (Nat × zV)) := [[(38, .inl 1)], [], [], [], [], [], [], [], [], [], [], [], [(41, .inr (.inr 443)), (67, .inr (.inr 441)), (70, .inr (.inr 442)), (77, .inr (.inr 446)), (82, .inr (.inr 444)), (85, .inr (.inr 445))], [], [], [], [], [], [], []]
def yGsC (c i : Nat) : Option (zV) := match (yGsL.getD c []).find? (fun p => p.1 == i) with
  | some p => some p.2
  | none => none
def yGst (m i : Nat) : Option zV := yGsC (yMc m) i
def yLsL : List (List (Nat × Nat)) := [[], [], [], [], [], [], [], [], [], [], [], [], [(65, 448), (80, 450)], [], [(70, 452)], [], [], [], [], []]
def yLsC (c i : Nat) : Option (Nat) := match (yLsL.getD c []).find? (fun p => p.1 == i) with
  | some p => some p.2
  | none => none
def yLdS (m i : Nat) : Option Nat := yLsC (yMc m) i
def yFsL : List (List (Nat × Nat)) := [[(9, 0), (15, 1)], [], [], [], [], [], [], [], [], [], [], [], [], [], [], [], [], [], [], []]
def yFsC (c i : Nat) : Option (Nat) := match (yFsL.getD c []).find? (fun p => p.1 == i) with
  | some p => some p.2
  | none => none
def yFldS (m i : Nat) : Option Nat := yFsC (yMc m) i
def yAcL : List (List (Nat × Nat)) := [[], [], [], [], [], [], [], [], [], [], [], [], [(44, 0)], [(35, 0)], [], [], [], [(81, 0)], [(43, 0)], []]
def yAcC (c i : Nat) : Option (Nat) := match (yAcL.getD c []).find? (fun p => p.1 == i) with
  | some p => some p.2
  | none => none
def yAcp (m i : Nat) : Bool := (yAcC (yMc m) i).isSome
def yCaL : List (List (Nat × Nat × Nat × Nat)) := [[(335, (0, 1, 99)), (492, (1, 1, 99)), (505, (2, 1, 99)), (633, (8, 3, 99)), (637, (7, 4, 100)), (640, (147, 4, 100)), (1062, (149, 4, 100))], [(38, (6, 2, 100)), (88, (3, 1, 100)), (92, (5, 2, 100)), (95, (4, 4, 100))], [], [(48, (148, 1, 100)), (71, (143, 2, 100)), (96, (142, 3, 100)), (157, (139, 1, 100)), (161, (141, 1, 100)), (164, (140, 1, 100)), (228, (145, 4, 100)), (232, (146, 4, 100)), (241, (138, 3, 100)), (244, (144, 4, 100))], [], [], [], [(25, (12, 2, 8))], [], [(22, (18, 1, 10)), (26, (17, 1, 100)), (30, (16, 1, 10))], [(125, (19, 1, 100)), (132, (15, 2, 10)), (136, (240, 1, 2)), (140, (248, 1, 4)), (146, (242, 2, 2)), (150, (152, 1, 11)), (165, (243, 3, 3)), (172, (12, 2, 8)), (178, (57, 1, 11)), (190, (22, 2, 1)), (225, (38, 2, 11)), (228, (24, 2, 1)), (231, (13, 2, 0)), (234, (41, 3, 11)), (241, (71, 2, 5)), (244, (47, 1, 11)), (247, (48, 1, 11)), (250, (46, 2, 11)), (257, (14, 2, 0)), (260, (43, 1, 8)), (267, (35, 2, 5)), (289, (74, 1, 5)), (292, (67, 1, 5)), (295, (75, 1, 5)), (298, (25, 2, 5)), (305, (255, 1, 7)), (308, (260, 1, 7)), (311, (66, 1, 11)), (314, (77, 1, 11)), (317, (45, 1, 11)), (320, (155, 1, 11)), (323, (153, 3, 11)), (327, (84, 4, 6)), (330, (58, 1, 100)), (333, (61, 2, 9)), (340, (62, 1, 9)), (343, (23, 3, 11)), (357, (54, 1, 100)), (360, (55, 5, 11)), (364, (53, 3, 11)), (368, (80, 3, 11)), (371, (81, 3, 11)), (380, (42, 2, 11)), (384, (26, 3, 8)), (387, (70, 3, 11)), (390, (72, 1, 11))], [(117, (109, 6, 100)), (127, (183, 1, 12)), (140, (166, 1, 12)), (143, (200, 1, 12)), (146, (186, 1, 100)), (150, (209, 1, 12)), (153, (210, 3, 12)), (157, (196, 1, 100)), (161, (207, 1, 12)), (164, (220, 1, 12)), (167, (170, 2, 12)), (171, (162, 1, 12)), (174, (222, 1, 12)), (177, (188, 1, 100)), (180, (229, 1, 12)), (183, (172, 1, 12)), (186, (171, 1, 12)), (189, (181, 1, 12)), (192, (182, 1, 12)), (195, (124, 2, 12)), (198, (169, 1, 12)), (201, (161, 1, 12)), (208, (151, 2, 100)), (214, (150, 2, 100)), (217, (168, 1, 100)), (221, (235, 3, 100)), (225, (234, 4, 12)), (229, (99, 3, 100)), (233, (230, 2, 100)), (237, (191, 2, 100)), (240, (114, 2, 100)), (244, (201, 2, 100)), (247, (184, 2, 100)), (250, (205, 3, 12)), (256, (192, 5, 12)), (260, (190, 1, 12)), (264, (211, 1, 12)), (267, (212, 2, 12)), (273, (107, 3, 12)), (276, (108, 1, 12)), (292, (221, 1, 12)), (298, (122, 2, 12)), (301, (232, 2, 12)), (304, (236, 2, 12)), (307, (6, 2, 100)), (309, (5, 2, 100)), (311, (117, 3, 12)), (314, (175, 4, 12)), (333, (193, 2, 12)), (336, (194, 1, 12)), (339, (198, 1, 12)), (342, (101, 2, 12)), (345, (103, 2, 12)), (348, (104, 2, 12)), (351, (105, 1, 12)), (354, (131, 3, 12)), (357, (100, 2, 12)), (360, (208, 1, 12)), (374, (173, 2, 12)), (378, (164, 2, 12)), (381, (10, 1, 100)), (386, (178, 1, 12)), (395, (160, 3, 12)), (398, (227, 3, 12)), (401, (116, 2, 12)), (404, (224, 4, 12)), (408, (225, 4, 12)), (411, (226, 2, 12)), (414, (119, 2, 12)), (417, (118, 2, 12)), (420, (195, 2, 12)), (423, (189, 2, 12)), (426, (233, 3, 12)), (429, (11, 1, 100)), (432, (102, 3, 12)), (435, (180, 5, 12)), (439, (187, 5, 12)), (447, (110, 2, 12)), (450, (123, 3, 12)), (453, (213, 1, 12))], [(50, (239, 1, 2)), (54, (20, 2, 10)), (58, (18, 1, 10)), (62, (238, 1, 2)), (73, (241, 5, 2)), (88, (9, 2, 99)), (94, (21, 2, 10))], [(41, (31, 2, 3)), (45, (30, 3, 100)), (49, (29, 1, 100))], [(28, (246, 1, 4)), (32, (134, 2, 4)), (36, (20, 2, 10)), (40, (18, 1, 10)), (44, (250, 2, 4)), (47, (244, 1, 100)), (50, (247, 3, 4)), (54, (252, 3, 4)), (57, (253, 3, 4)), (60, (249, 3, 4)), (64, (251, 2, 4)), (67, (245, 2, 4)), (72, (9, 2, 99)), (78, (21, 2, 10))], [(51, (27, 2, 5)), (60, (28, 3, 5)), (67, (34, 5, 5)), (71, (26, 3, 8)), (83, (22, 2, 1)), (87, (33, 5, 5)), (111, (32, 1, 3)), (115, (35, 2, 5)), (119, (6, 2, 100)), (127, (5, 2, 100)), (137, (67, 1, 5)), (140, (25, 2, 5)), (144, (10, 1, 100))], [], [(32, (135, 1, 7)), (35, (258, 1, 7)), (45, (256, 3, 7)), (57, (137, 3, 7)), (61, (259, 2, 7)), (65, (6, 2, 100)), (70, (136, 3, 7)), (73, (257, 3, 7)), (77, (254, 5, 7))], [], [(46, (12, 2, 8)), (55, (60, 2, 9)), (59, (35, 2, 5)), (64, (59, 1, 9)), (71, (24, 2, 1)), (81, (22, 2, 1)), (94, (11, 1, 100))]]
def yCaC (c i : Nat) : Option (Nat × Nat × Nat) := match (yCaL.getD c []).find? (fun p => p.1 == i) with
  | some p => some p.2
  | none => none
def yCal (m i : Nat) : Option (Nat × Nat × Nat) := yCaC (yMc m) i
def yMlL : List Nat := [1, 1, 1, 1, 6, 2, 2, 4, 3, 2, 1, 1, 2, 2, 2, 4, 1, 1, 1, 3, 2, 4, 2, 3, 2, 4, 5, 3, 7, 2, 5, 3, 6, 9, 6, 7, 2, 1, 2, 4, 6, 4, 4, 1, 2, 3, 2, 3, 3, 3, 2, 2, 7, 5, 1, 5, 6, 1, 1, 4, 4, 3, 6, 2, 1, 2, 3, 3, 5, 4, 5, 5, 2, 2, 3, 5, 2, 3, 3, 5, 6, 5, 8, 2, 4, 4, 4, 4, 3, 3, 2, 2, 2, 3, 2, 1, 2, 3, 5, 3, 2, 2, 3, 2, 2, 2, 4, 3, 2, 7, 4, 2, 2, 2, 2, 2, 5, 3, 2, 2, 2, 3, 3, 5, 2, 2, 4, 4, 2, 2, 2, 4, 3, 2, 2, 3, 3, 3, 3, 1, 2, 1, 3, 2, 5, 4, 7, 4, 1, 4, 4, 4, 1, 4, 3, 5, 3, 6, 2, 2, 5, 1, 2, 2, 4, 2, 1, 7, 2, 3, 2, 2, 1, 2, 3, 6, 2, 9, 3, 6, 5, 1, 1, 1, 2, 8, 1, 6, 1, 4, 3, 2, 7, 6, 2, 4, 1, 3, 3, 3, 1, 2, 2, 2, 3, 4, 5, 1, 2, 3, 3, 4, 2, 4, 6, 4, 3, 3, 3, 2, 2, 2, 2, 2, 6, 5, 2, 3, 2, 2, 2, 2, 2, 5, 6, 5, 3, 7, 2, 3, 2, 8, 4, 3, 1, 5, 3, 4, 2, 3, 4, 4, 4, 5, 7, 2, 4, 6, 3, 5, 4]
def yMl (m : Nat) : Nat := yMlL.getD m 0
def yMrL : List (Option FieldType) := [some .byte, some .boolean, some .int, some .boolean, some .int, some .int, some .int, some .int, some .int, some .int, some .int, some .int, none, none, none, none, some .int, some .boolean, some .int, some .int, some .boolean, some .int, some .boolean, some .boolean, some .boolean, some .int, some .int, none, none, some .int, some .long, some .int, some .int, some .int, none, none, some .int, some .int, some .int, some .int, some .int, none, some .int, some .int, some .int, some .int, some .int, none, none, some .int, some .int, some .boolean, some .int, some .int, some .boolean, none, some .int, some .boolean, some .boolean, some .boolean, none, none, some .int, some .int, some .int, some .boolean, none, some .int, some .int, some .int, some .int, none, some .int, some .int, some .int, some .int, some .int, some .int, some .int, some .int, none, some .boolean, some .int, some .int, some .int, some .int, some .int, some .int, some .int, some .int, some .boolean, some .int, some .int, some .int, some .int, some .int, some .int, some .int, some .int, some .boolean, some .boolean, some .boolean, some .boolean, some .boolean, some .boolean, none, some .int, some .int, none, some .int, some .int, some .int, some .int, some .boolean, some .boolean, some .int, some .boolean, some .boolean, some .boolean, some .boolean, some .boolean, some .int, some .int, some .int, none, some .int, some .int, some .int, some .boolean, some .int, some .int, none, some .int, some .int, none, none, some .int, some .boolean, none, some .char, some .boolean, some .char, none, some .char, some .int, some .int, some .int, some .int, some .int, some .int, some .long, some .long, none, none, some .int, some .boolean, some .int, some .int, some .int, some .int, some .boolean, some .int, none, some .int, some .int, some .int, none, some .int, some .int, none, none, none, none, some .int, some .int, some .int, some .int, some .int, some .int, some .int, some .int, none, none, some .int, some .int, some .int, some .boolean, some .boolean, some .boolean, some .boolean, some .boolean, some .int, none, none, none, none, some .int, some .int, none, some .int, some .int, some .int, some .int, some .int, some .int, some .int, some .int, none, none, some .int, none, some .int, some .int, some .int, some .int, some .int, some .int, some .int, some .int, some .int, none, some .int, none, some .int, none, none, none, none, some .int, none, some .int, some .int, some .int, some .int, some .int, some .int, some .int, some .int, some .boolean, some .boolean, some .boolean, some .boolean, none, some .int, some .boolean, some .boolean, some .boolean, some .boolean, some .boolean, some .boolean, some .boolean, some .boolean, some .boolean, some .boolean, some .boolean, some .int, some .int, none, some .int, some .int, some .int]
def yMr (m : Nat) : Option FieldType := yMrL.getD m none
end
section
/-! the methods' instructions -/
def yI0 : List (Nat × List (Nat × Instr)) := [(0, [(0, .getstatic 38), (3, .ifCond .eq 10), (6, .aload_n 0), (7, .getfield 15), (10, .goto 4), (13, .iconst 1), (14, .ireturn)])]
def yI1 : List (Nat × List (Nat × Instr)) := [(0, [(0, .getstatic 38), (3, .ifCond .eq 14), (6, .aload_n 0), (7, .getfield 15), (10, .ifCond .ne 7), (13, .iconst 1), (14, .goto 4), (17, .iconst 0), (18, .ireturn)])]
def yI2 : List (Nat × List (Nat × Instr)) := [(0, [(0, .aload_n 0), (1, .getfield 9), (4, .arraylength), (5, .aload_n 0), (6, .invokevirtual 335), (9, .ishr), (10, .ireturn)])]
def yI3 : List (Nat × List (Nat × Instr)) := [(0, [(0, .iload_n 0), (1, .ifCond .lt 14), (4, .iload_n 0), (5, .sipush 255), (8, .if_icmp .gt 7), (11, .iconst 1), (12, .goto 4), (15, .iconst 0), (16, .ireturn)])]
def yI4 : List (Nat × List (Nat × Instr)) := [(0, [(0, .iload_n 1), (1, .i2b), (2, .istore 4), (4, .iload_n 2), (5, .istore 5), (7, .iload 5), (9, .iload_n 3), (10, .if_icmp .ge 21), (13, .aload_n 0), (14, .iload 5), (16, .baload), (17, .iload 4), (19, .if_icmp .ne 6), (22, .iload 5), (24, .ireturn), (25, .iinc 5 1), (28, .goto (-21)), (31, .iconst (-1))]), (1, [(32, .ireturn)])]
def yI5 : List (Nat × List (Nat × Instr)) := [(0, [(0, .iload_n 0), (1, .iload_n 1), (2, .if_icmp .lt 7), (5, .iload_n 0), (6, .goto 4), (9, .iload_n 1), (10, .ireturn)])]
def yI6 : List (Nat × List (Nat × Instr)) := [(0, [(0, .iload_n 0), (1, .iload_n 1), (2, .if_icmp .gt 7), (5, .iload_n 0), (6, .goto 4), (9, .iload_n 1), (10, .ireturn)])]
def yI7 : List (Nat × List (Nat × Instr)) := [(0, [(0, .iload_n 1), (1, .invokestatic 88), (4, .ifCond .ne 5), (7, .iconst (-1)), (8, .ireturn), (9, .iload_n 2), (10, .iconst 0), (11, .invokestatic 92), (14, .istore_n 2), (15, .iload_n 3), (16, .aload_n 0), (17, .arraylength), (18, .invokestatic 38), (21, .istore_n 3), (22, .iload_n 2), (23, .iload_n 3), (24, .if_icmp .lt 5), (27, .iconst (-1)), (28, .ireturn), (29, .aload_n 0), (30, .iload_n 1), (31, .iload_n 2)]), (1, [(32, .iload_n 3), (33, .invokestatic 95), (36, .ireturn)])]
def yI8 : List (Nat × List (Nat × Instr)) := [(0, [(0, .aload_n 0), (1, .invokevirtual 492), (4, .ifCond .eq 19), (7, .aload_n 0), (8, .getfield 9), (11, .iload_n 1), (12, .iload_n 2), (13, .aload_n 0), (14, .invokevirtual 505), (17, .invokestatic 637), (20, .goto 16), (23, .aload_n 0), (24, .getfield 9), (27, .iload_n 1), (28, .iload_n 2), (29, .aload_n 0), (30, .invokevirtual 505)]), (1, [(33, .invokestatic 640), (36, .ireturn)])]
def yI9 : List (Nat × List (Nat × Instr)) := [(0, [(0, .aload_n 0), (1, .iload_n 1), (2, .iconst 0), (3, .invokevirtual 633), (6, .ireturn)])]
def yI10 : List (Nat × List (Nat × Instr)) := [(0, [(0, .iload_n 0), (1, .iload_n 0), (2, .iconst 1), (3, .iushr), (4, .ldc_w 265), (7, .iand), (8, .isub), (9, .istore_n 0), (10, .iload_n 0), (11, .ldc_w 266), (14, .iand), (15, .iload_n 0), (16, .iconst 2), (17, .iushr), (18, .ldc_w 266), (21, .iand), (22, .iadd), (23, .istore_n 0), (24, .iload_n 0), (25, .iload_n 0), (26, .iconst 4), (27, .iushr), (28, .iadd), (29, .ldc_w 267)]), (1, [(32, .iand), (33, .istore_n 0), (34, .iload_n 0), (35, .iload_n 0), (36, .bipush 8), (38, .iushr), (39, .iadd), (40, .istore_n 0), (41, .iload_n 0), (42, .iload_n 0), (43, .bipush 16), (45, .iushr), (46, .iadd), (47, .istore_n 0), (48, .iload_n 0), (49, .bipush 63), (51, .iand), (52, .ireturn)])]
def yI11 : List (Nat × List (Nat × Instr)) := [(0, [(0, .iload_n 0), (1, .ifCond .ge 8), (4, .iload_n 0), (5, .ineg), (6, .goto 4), (9, .iload_n 0), (10, .ireturn)])]
def yI12 : List (Nat × List (Nat × Instr)) := [(0, [(0, .aload_n 1), (1, .getfield 9), (4, .iconst 0), (5, .aload_n 0), (6, .getfield 9), (9, .iconst 0), (10, .bipush 6), (12, .invokestatic 43), (15, .aload_n 1), (16, .getfield 15), (19, .iconst 0), (20, .aload_n 0), (21, .getfield 15), (24, .iconst 0), (25, .bipush 6), (27, .invokestatic 43), (30, .aload_n 1), (31, .getfield 18)]), (1, [(34, .iconst 0), (35, .aload_n 0), (36, .getfield 18), (39, .iconst 0), (40, .bipush 6), (42, .invokestatic 43), (45, .aload_n 1), (46, .getfield 21), (49, .iconst 0), (50, .aload_n 0), (51, .getfield 21), (54, .iconst 0), (55, .bipush 6), (57, .invokestatic 43), (60, .aload_n 1), (61, .getfield 24)]), (2, [(64, .iconst 0), (65, .aload_n 0), (66, .getfield 24), (69, .iconst 0), (70, .bipush 6), (72, .invokestatic 43), (75, .aload_n 1), (76, .getfield 27), (79, .iconst 0), (80, .aload_n 0), (81, .getfield 27), (84, .iconst 0), (85, .bipush 6), (87, .invokestatic 43), (90, .aload_n 1), (91, .getfield 30), (94, .iconst 0), (95, .aload_n 0)]), (3, [(96, .getfield 30), (99, .iconst 0), (100, .bipush 60), (102, .invokestatic 43), (105, .aload_n 0), (106, .aload_n 1), (107, .getfield 33), (110, .putfield 33), (113, .aload_n 0), (114, .aload_n 1), (115, .getfield 37), (118, .putfield 37), (121, .aload_n 0), (122, .aload_n 1), (123, .getfield 40), (126, .putfield 40)]), (4, [(129, .return_)])]
def yI13 : List (Nat × List (Nat × Instr)) := [(0, [(0, .aload_n 0), (1, .getfield 11), (4, .aload_n 0), (5, .getfield 17), (8, .aaload), (9, .aload_n 1), (10, .invokevirtual 25), (13, .aload_n 0), (14, .aload_n 0), (15, .getfield 17), (18, .iconst 1), (19, .iadd), (20, .bipush 40), (22, .irem), (23, .putfield 17), (26, .aload_n 0), (27, .getfield 21), (30, .bipush 40)]), (1, [(32, .if_icmp .ge 13), (35, .aload_n 0), (36, .dup), (37, .getfield 21), (40, .iconst 1), (41, .iadd), (42, .putfield 21), (45, .return_)])]
def yI14 : List (Nat × List (Nat × Instr)) := [(0, [(0, .aload_n 0), (1, .aload_n 0), (2, .getfield 17), (5, .bipush 40), (7, .iadd), (8, .iconst 1), (9, .isub), (10, .bipush 40), (12, .irem), (13, .putfield 17), (16, .aload_n 1), (17, .aload_n 0), (18, .getfield 11), (21, .aload_n 0), (22, .getfield 17), (25, .aaload), (26, .invokevirtual 25), (29, .aload_n 0), (30, .dup), (31, .getfield 21)]), (1, [(34, .iconst 1), (35, .isub), (36, .putfield 21), (39, .return_)])]
def yI15 : List (Nat × List (Nat × Instr)) := [(0, [(0, .bipush 24), (2, .istore_n 2), (3, .iload_n 2), (4, .ifCond .lt 51), (7, .iload_n 1), (8, .iload_n 2), (9, .iushr), (10, .sipush 255), (13, .iand), (14, .istore_n 3), (15, .iload_n 3), (16, .ifCond .eq 33), (19, .aload_n 0), (20, .getfield 15), (23, .sipush 240), (26, .if_icmp .ge 23), (29, .aload_n 0), (30, .getfield 9)]), (1, [(33, .aload_n 0), (34, .getfield 15), (37, .iload_n 3), (38, .iastore), (39, .aload_n 0), (40, .dup), (41, .getfield 15), (44, .iconst 1), (45, .iadd), (46, .putfield 15), (49, .iinc 2 (-8)), (52, .goto (-49)), (55, .return_)])]
def yI16 : List (Nat × List (Nat × Instr)) := [(0, [(0, .aload_n 0), (1, .getfield 19), (4, .aload_n 0), (5, .getfield 15), (8, .if_icmp .ge 15), (11, .aload_n 0), (12, .getfield 9), (15, .aload_n 0), (16, .getfield 19), (19, .iaload), (20, .goto 4), (23, .iconst 0), (24, .ireturn)])]
def yI17 : List (Nat × List (Nat × Instr)) := [(0, [(0, .iload_n 0), (1, .bipush 48), (3, .if_icmp .lt 13), (6, .iload_n 0), (7, .bipush 57), (9, .if_icmp .gt 7), (12, .iconst 1), (13, .goto 4), (16, .iconst 0), (17, .ireturn)])]
def yI18 : List (Nat × List (Nat × Instr)) := [(0, [(0, .aload_n 0), (1, .getfield 19), (4, .aload_n 0), (5, .getfield 15), (8, .if_icmp .ge 30), (11, .aload_n 0), (12, .getfield 9), (15, .aload_n 0), (16, .getfield 19), (19, .iaload), (20, .bipush 32), (22, .if_icmp .ne 16), (25, .aload_n 0), (26, .dup), (27, .getfield 19), (30, .iconst 1), (31, .iadd)]), (1, [(32, .putfield 19), (35, .goto (-35)), (38, .aload_n 0), (39, .getfield 19), (42, .aload_n 0), (43, .getfield 15), (46, .if_icmp .ge 15), (49, .aload_n 0), (50, .getfield 9), (53, .aload_n 0), (54, .getfield 19), (57, .iaload), (58, .goto 4), (61, .iconst 0), (62, .ireturn)])]
def yI19 : List (Nat × List (Nat × Instr)) := [(0, [(0, .iconst 0), (1, .istore_n 1), (2, .bipush 24), (4, .istore_n 2), (5, .iload_n 2), (6, .ifCond .lt 22), (9, .iload_n 0), (10, .iload_n 2), (11, .iushr), (12, .sipush 255), (15, .iand), (16, .ifCond .eq 6), (19, .iinc 1 1), (22, .iinc 2 (-8)), (25, .goto (-20)), (28, .iload_n 1), (29, .ireturn)])]
def yI20 : List (Nat × List (Nat × Instr)) := [(0, [(0, .aload_n 0), (1, .invokevirtual 22), (4, .iload_n 1), (5, .if_icmp .eq 5), (8, .iconst 0), (9, .ireturn), (10, .aload_n 0), (11, .dup), (12, .getfield 19), (15, .iconst 1), (16, .iadd), (17, .putfield 19), (20, .iconst 1), (21, .ireturn)])]
def yI21 : List (Nat × List (Nat × Instr)) := [(0, [(0, .aload_n 0), (1, .invokevirtual 22), (4, .invokestatic 26), (7, .ifCond .ne 5), (10, .iconst (-1)), (11, .ireturn), (12, .iconst 0), (13, .istore_n 2), (14, .iconst 0), (15, .istore_n 3), (16, .iload_n 3), (17, .iload_n 1), (18, .if_icmp .ge 42), (21, .aload_n 0), (22, .invokevirtual 30), (25, .invokestatic 26), (28, .ifCond .eq 32), (31, .iload_n 2)]), (1, [(32, .bipush 10), (34, .imul), (35, .aload_n 0), (36, .invokevirtual 30), (39, .iadd), (40, .bipush 48), (42, .isub), (43, .istore_n 2), (44, .aload_n 0), (45, .dup), (46, .getfield 19), (49, .iconst 1), (50, .iadd), (51, .putfield 19), (54, .iinc 3 1), (57, .goto (-41)), (60, .aload_n 0), (61, .invokevirtual 30)]), (2, [(64, .invokestatic 26), (67, .ifCond .eq 7), (70, .iconst (-1)), (71, .goto 4), (74, .iload_n 2), (75, .ireturn)])]
def yI22 : List (Nat × List (Nat × Instr)) := [(0, [(0, .iload_n 1), (1, .ifCond .lt 15), (4, .iload_n 1), (5, .aload_n 0), (6, .getfield 9), (9, .if_icmp .ge 7), (12, .iconst 1), (13, .goto 4), (16, .iconst 0), (17, .ireturn)])]
def yI23 : List (Nat × List (Nat × Instr)) := [(0, [(0, .aload_n 0), (1, .getfield 42), (4, .iload_n 1), (5, .invokevirtual 190), (8, .ifCond .eq 23), (11, .aload_n 0), (12, .getfield 42), (15, .iload_n 2), (16, .invokevirtual 190), (19, .ifCond .eq 12), (22, .iload_n 1), (23, .iload_n 2), (24, .if_icmp .eq 7), (27, .iconst 1), (28, .goto 4), (31, .iconst 0)]), (1, [(32, .ireturn)])]
def yI24 : List (Nat × List (Nat × Instr)) := [(0, [(0, .iload_n 1), (1, .ifCond .lt 15), (4, .iload_n 1), (5, .aload_n 0), (6, .getfield 15), (9, .if_icmp .ge 7), (12, .iconst 1), (13, .goto 4), (16, .iconst 0), (17, .ireturn)])]
def yI25 : List (Nat × List (Nat × Instr)) := [(0, [(0, .iconst 0), (1, .istore_n 2), (2, .iconst 0), (3, .istore_n 3), (4, .iload_n 3), (5, .aload_n 0), (6, .getfield 43), (9, .getfield 64), (12, .if_icmp .ge 29), (15, .aload_n 0), (16, .getfield 27), (19, .iload_n 1), (20, .bipush 6), (22, .imul), (23, .iload_n 3), (24, .iadd), (25, .iaload), (26, .ifCond .ne 9), (29, .iload_n 2), (30, .iconst 1), (31, .iload_n 3)]), (1, [(32, .ishl), (33, .ior), (34, .istore_n 2), (35, .iinc 3 1), (38, .goto (-34)), (41, .iload_n 2), (42, .ireturn)])]
def yI26 : List (Nat × List (Nat × Instr)) := [(0, [(0, .aload_n 0), (1, .getfield 27), (4, .iload_n 1), (5, .iaload), (6, .ifCond .ne 9), (9, .iload_n 2), (10, .iconst 1), (11, .isub), (12, .goto 11), (15, .aload_n 0), (16, .getfield 27), (19, .iload_n 1), (20, .iaload), (21, .iconst 1), (22, .isub), (23, .istore_n 3), (24, .iconst 0), (25, .istore 4), (27, .iload 4), (29, .iload_n 2), (30, .if_icmp .ge 23)]), (1, [(33, .aload_n 0), (34, .getfield 27), (37, .iload 4), (39, .iaload), (40, .iload_n 3), (41, .if_icmp .ne 6), (44, .iload 4), (46, .ireturn), (47, .iinc 4 1), (50, .goto (-23)), (53, .iconst (-1)), (54, .ireturn)])]
def yI27 : List (Nat × List (Nat × Instr)) := [(0, [(0, .aload_n 0), (1, .iconst 0), (2, .putfield 33), (5, .aload_n 0), (6, .iconst 0), (7, .putfield 37), (10, .aload_n 0), (11, .iconst 0), (12, .putfield 40), (15, .iconst 0), (16, .istore_n 2), (17, .iload_n 2), (18, .aload_n 0), (19, .getfield 43), (22, .getfield 64), (25, .if_icmp .ge 55), (28, .aload_n 0), (29, .getfield 9)]), (1, [(32, .iload_n 2), (33, .aload_n 1), (34, .iload_n 2), (35, .aload_n 0), (36, .getfield 43), (39, .getfield 64), (42, .invokevirtual 71), (45, .iastore), (46, .aload_n 0), (47, .getfield 15), (50, .iload_n 2), (51, .iconst 0), (52, .iastore), (53, .aload_n 0), (54, .getfield 18), (57, .iload_n 2), (58, .iconst (-1)), (59, .iastore), (60, .aload_n 0), (61, .getfield 21)]), (2, [(64, .iload_n 2), (65, .iconst 0), (66, .iastore), (67, .aload_n 0), (68, .getfield 24), (71, .iload_n 2), (72, .iconst 0), (73, .iastore), (74, .iinc 2 1), (77, .goto (-60)), (80, .return_)])]
def yI28 : List (Nat × List (Nat × Instr)) := [(0, [(0, .iload_n 2), (1, .bipush 6), (3, .imul), (4, .istore_n 3), (5, .iconst 0), (6, .istore 4), (8, .iload 4), (10, .aload_n 0), (11, .getfield 43), (14, .getfield 64), (17, .if_icmp .ge 87), (20, .iload_n 2), (21, .aload_n 1), (22, .getfield 77), (25, .iload 4), (27, .iaload), (28, .isub), (29, .istore 5), (31, .iload 5)]), (1, [(33, .ifCond .lt 22), (36, .iload 5), (38, .aload_n 0), (39, .getfield 43), (42, .getfield 80), (45, .iload 4), (47, .iaload), (48, .if_icmp .ge 7), (51, .iconst 1), (52, .goto 4), (55, .iconst 0), (56, .istore 6), (58, .aload_n 0), (59, .getfield 27), (62, .iload_n 3), (63, .iload 4)]), (2, [(65, .iadd), (66, .iload 6), (68, .ifCond .eq 18), (71, .aload_n 0), (72, .getfield 18), (75, .iload 4), (77, .iaload), (78, .iconst (-1)), (79, .if_icmp .ne 7), (82, .iconst 1), (83, .goto 4), (86, .iconst 0), (87, .iastore), (88, .aload_n 0), (89, .getfield 30), (92, .iload_n 3), (93, .iload 4), (95, .iadd)]), (3, [(96, .iconst (-1)), (97, .iastore), (98, .iinc 4 1), (101, .goto (-93)), (104, .iconst 0), (105, .istore 4), (107, .iload 4), (109, .aload_n 0), (110, .getfield 43), (113, .getfield 64), (116, .if_icmp .ge 64), (119, .aload_n 0), (120, .getfield 9), (123, .iload 4), (125, .iaload), (126, .istore 5)]), (4, [(128, .aload_n 0), (129, .getfield 27), (132, .iload_n 3), (133, .iload 4), (135, .iadd), (136, .iaload), (137, .ifCond .eq 37), (140, .aload_n 0), (141, .getfield 43), (144, .iload 5), (146, .invokevirtual 83), (149, .ifCond .eq 25), (152, .aload_n 0), (153, .getfield 27), (156, .iload_n 3), (157, .iload 5), (159, .iadd)]), (5, [(160, .iaload), (161, .ifCond .ne 13), (164, .aload_n 0), (165, .getfield 27), (168, .iload_n 3), (169, .iload 4), (171, .iadd), (172, .iconst 2), (173, .iastore), (174, .iinc 4 1), (177, .goto (-70)), (180, .return_)])]
def yI29 : List (Nat × List (Nat × Instr)) := [(0, [(0, .lload_n 0), (1, .ldc2_w 53), (4, .lcmp), (5, .ifCond .le 6), (8, .ldc 55), (10, .ireturn), (11, .lload_n 0), (12, .ldc2_w 56), (15, .lcmp), (16, .ifCond .ge 8), (19, .ldc 58), (21, .goto 5), (24, .lload_n 0), (25, .l2i), (26, .ireturn)])]
def yI30 : List (Nat × List (Nat × Instr)) := [(0, [(0, .iload_n 0), (1, .lookupswitch 181 #[(38, 145), (42, 91), (43, 83), (45, 87), (47, 95), (60, 121), (61, 109), (62, 133), (124, 163)])]), (2, [(84, .lload_n 1), (85, .lload_n 3), (86, .ladd), (87, .lreturn), (88, .lload_n 1), (89, .lload_n 3), (90, .lsub), (91, .lreturn), (92, .lload_n 1), (93, .lload_n 3), (94, .lmul), (95, .lreturn)]), (3, [(96, .lload_n 3), (97, .lconst 0), (98, .lcmp), (99, .ifCond .ne 7), (102, .lconst 0), (103, .goto 6), (106, .lload_n 1), (107, .lload_n 3), (108, .ldiv), (109, .lreturn), (110, .lload_n 1), (111, .lload_n 3), (112, .lcmp), (113, .ifCond .ne 7), (116, .lconst 1), (117, .goto 4), (120, .lconst 0), (121, .lreturn), (122, .lload_n 1), (123, .lload_n 3), (124, .lcmp), (125, .ifCond .ge 7)]), (4, [(128, .lconst 1), (129, .goto 4), (132, .lconst 0), (133, .lreturn), (134, .lload_n 1), (135, .lload_n 3), (136, .lcmp), (137, .ifCond .le 7), (140, .lconst 1), (141, .goto 4), (144, .lconst 0), (145, .lreturn), (146, .lload_n 1), (147, .lconst 0), (148, .lcmp), (149, .ifCond .eq 13), (152, .lload_n 3), (153, .lconst 0), (154, .lcmp), (155, .ifCond .eq 7), (158, .lconst 1), (159, .goto 4)]), (5, [(162, .lconst 0), (163, .lreturn), (164, .lload_n 1), (165, .lconst 0), (166, .lcmp), (167, .ifCond .ne 9), (170, .lload_n 3), (171, .lconst 0), (172, .lcmp), (173, .ifCond .eq 7), (176, .lconst 1), (177, .goto 4), (180, .lconst 0), (181, .lreturn), (182, .lconst 0), (183, .lreturn)])]
def yI31 : List (Nat × List (Nat × Instr)) := [(0, [(0, .iload_n 1), (1, .sipush 10000), (4, .isub), (5, .istore_n 2), (6, .iload_n 2), (7, .ifCond .lt 18), (10, .iload_n 2), (11, .bipush 6), (13, .if_icmp .ge 12), (16, .aload_n 0), (17, .getfield 25), (20, .iload_n 2), (21, .iaload), (22, .goto 4), (25, .iload_n 1), (26, .ireturn)])]
def yI32 : List (Nat × List (Nat × Instr)) := [(0, [(0, .aload_n 0), (1, .getfield 32), (4, .ifCond .lt 14), (7, .aload_n 0), (8, .getfield 32), (11, .aload_n 0), (12, .getfield 28), (15, .if_icmp .lt 5), (18, .iconst 0), (19, .ireturn), (20, .aload_n 0), (21, .getfield 13), (24, .aload_n 0), (25, .getfield 32), (28, .aaload), (29, .astore_n 1), (30, .iconst 0), (31, .istore_n 2)]), (1, [(32, .iconst 0), (33, .istore_n 3), (34, .iconst 0), (35, .istore 4), (37, .iload 4), (39, .aload_n 0), (40, .getfield 18), (43, .aload_n 0), (44, .getfield 32), (47, .iaload), (48, .if_icmp .ge 190), (51, .aload_n 1), (52, .iload 4), (54, .iaload), (55, .istore 5), (57, .iload_n 3), (58, .ifCond .eq 19), (61, .iload 5), (63, .bipush (-59))]), (2, [(65, .if_icmp .eq 7), (68, .iconst 1), (69, .goto 4), (72, .iconst 0), (73, .istore_n 3), (74, .goto 158), (77, .iload 5), (79, .ifCond .lt 27), (82, .iload_n 2), (83, .bipush 64), (85, .if_icmp .ge 147), (88, .aload_n 0), (89, .getfield 22), (92, .iload_n 2), (93, .aload_n 0), (94, .iload 5)]), (3, [(96, .invokevirtual 41), (99, .iastore), (100, .iinc 2 1), (103, .goto 129), (106, .iload_n 2), (107, .iconst 1), (108, .if_icmp .ge 5), (111, .iconst 0), (112, .ireturn), (113, .iload 5), (115, .bipush (-59)), (117, .if_icmp .ne 12), (120, .aload_n 0), (121, .getfield 22), (124, .iload_n 2), (125, .iconst 1), (126, .isub), (127, .iaload)]), (4, [(128, .ireturn), (129, .iload 5), (131, .bipush (-63)), (133, .if_icmp .ne 24), (136, .iinc 2 (-1)), (139, .aload_n 0), (140, .getfield 22), (143, .iload_n 2), (144, .iaload), (145, .ifCond .ne 7), (148, .iconst 1), (149, .goto 4), (152, .iconst 0), (153, .istore_n 3), (154, .goto 78), (157, .iload 5), (159, .bipush (-33))]), (5, [(161, .if_icmp .ne 30), (164, .aload_n 0), (165, .getfield 22), (168, .iload_n 2), (169, .iconst 1), (170, .isub), (171, .aload_n 0), (172, .getfield 22), (175, .iload_n 2), (176, .iconst 1), (177, .isub), (178, .iaload), (179, .ifCond .ne 7), (182, .iconst 1), (183, .goto 4), (186, .iconst 0), (187, .iastore), (188, .goto 44), (191, .iload_n 2)]), (6, [(192, .iconst 2), (193, .if_icmp .lt 39), (196, .iinc 2 (-1)), (199, .aload_n 0), (200, .getfield 22), (203, .iload_n 2), (204, .iconst 1), (205, .isub), (206, .iload 5), (208, .ineg), (209, .aload_n 0), (210, .getfield 22), (213, .iload_n 2), (214, .iconst 1), (215, .isub), (216, .iaload), (217, .i2l), (218, .aload_n 0), (219, .getfield 22), (222, .iload_n 2), (223, .iaload)]), (7, [(224, .i2l), (225, .invokestatic 45), (228, .invokestatic 49), (231, .iastore), (232, .iinc 4 1), (235, .goto (-198)), (238, .iconst 0), (239, .ireturn)])]
def yI33 : List (Nat × List (Nat × Instr)) := [(0, [(0, .aload_n 0), (1, .getfield 9), (4, .iload_n 2), (5, .iaload), (6, .istore 5), (8, .aload_n 0), (9, .getfield 43), (12, .iload 5), (14, .invokevirtual 83), (17, .ifCond .eq 13), (20, .aload_n 1), (21, .getfield 94), (24, .iload 5), (26, .iaload), (27, .goto 4), (30, .iconst 0), (31, .istore 6)]), (1, [(33, .aload_n 0), (34, .getfield 47), (37, .getfield 97), (40, .iconst (-1)), (41, .if_icmp .ne 36), (44, .aload_n 1), (45, .getfield 102), (48, .iload_n 2), (49, .iaload), (50, .aload_n 0), (51, .getfield 15), (54, .iload_n 2), (55, .iaload), (56, .iadd), (57, .iload 4), (59, .iconst 2), (60, .if_icmp .ne 10), (63, .iload 6)]), (2, [(65, .iconst 2), (66, .idiv), (67, .goto 4), (70, .iconst 0), (71, .isub), (72, .istore 7), (74, .goto 75), (77, .aload_n 0), (78, .getfield 47), (81, .getfield 105), (84, .astore 8), (86, .aload 8), (88, .iconst 0), (89, .aload_n 1), (90, .getfield 102), (93, .iload_n 2), (94, .iaload), (95, .iastore)]), (3, [(96, .aload 8), (98, .iconst 1), (99, .aload_n 0), (100, .getfield 15), (103, .iload_n 2), (104, .iaload), (105, .iastore), (106, .aload 8), (108, .iconst 2), (109, .iload 6), (111, .iastore), (112, .aload 8), (114, .iconst 3), (115, .iload_n 3), (116, .iastore), (117, .aload 8), (119, .iconst 4), (120, .iload 4), (122, .iconst 2), (123, .if_icmp .ne 7), (126, .iconst 1), (127, .goto 4)]), (4, [(130, .iconst 0), (131, .iastore), (132, .aload 8), (134, .iconst 5), (135, .aload_n 1), (136, .getfield 108), (139, .iastore), (140, .aload_n 0), (141, .getfield 47), (144, .invokevirtual 111), (147, .istore 7), (149, .iload 7), (151, .ifCond .ge 5), (154, .iconst 0), (155, .ireturn), (156, .iload 7), (158, .bipush 20)]), (5, [(160, .if_icmp .le 8), (163, .bipush 20), (165, .goto 5), (168, .iload 7), (170, .ireturn)])]
def yI34 : List (Nat × List (Nat × Instr)) := [(0, [(0, .aload_n 0), (1, .aload_n 1), (2, .iload_n 2), (3, .iload_n 3), (4, .iload 4), (6, .invokevirtual 87), (9, .istore 5), (11, .aload_n 0), (12, .getfield 30), (15, .iload_n 3), (16, .bipush 6), (18, .imul), (19, .iload_n 2), (20, .iadd), (21, .iload 5), (23, .iastore), (24, .aload_n 0), (25, .getfield 15), (28, .iload_n 2), (29, .dup2), (30, .iaload), (31, .iconst 1)]), (1, [(32, .iadd), (33, .iastore), (34, .aload_n 0), (35, .getfield 21), (38, .iload_n 2), (39, .dup2), (40, .iaload), (41, .iload 5), (43, .iadd), (44, .iastore), (45, .iload 4), (47, .iconst 1), (48, .if_icmp .ne 13), (51, .aload_n 0), (52, .dup), (53, .getfield 33), (56, .iconst 1), (57, .iadd), (58, .putfield 33), (61, .iload 5), (63, .aload_n 0)]), (2, [(64, .getfield 43), (67, .getfield 91), (70, .if_icmp .ge 4), (73, .return_), (74, .aload_n 0), (75, .getfield 24), (78, .iload_n 2), (79, .dup2), (80, .iaload), (81, .iconst 1), (82, .iadd), (83, .iastore), (84, .iload 4), (86, .iconst 2), (87, .if_icmp .ne 13), (90, .aload_n 0), (91, .getfield 18), (94, .iload_n 2), (95, .iload_n 3)]), (3, [(96, .iastore), (97, .goto 13), (100, .aload_n 0), (101, .dup), (102, .getfield 37), (105, .iconst 1), (106, .iadd), (107, .putfield 37), (110, .return_)])]
def yI35 : List (Nat × List (Nat × Instr)) := [(0, [(0, .aload_n 0), (1, .aload_n 1), (2, .invokevirtual 51), (5, .iconst 0), (6, .istore_n 2), (7, .iload_n 2), (8, .aload_n 0), (9, .getfield 43), (12, .getfield 55), (15, .if_icmp .ge 112), (18, .aload_n 0), (19, .aload_n 1), (20, .iload_n 2), (21, .invokevirtual 60), (24, .aload_n 0), (25, .getfield 33), (28, .istore_n 3), (29, .iconst 0), (30, .istore 4)]), (1, [(32, .iconst 0), (33, .istore 5), (35, .iload 5), (37, .aload_n 0), (38, .getfield 43), (41, .getfield 64), (44, .if_icmp .ge 54), (47, .aload_n 0), (48, .getfield 27), (51, .iload_n 2), (52, .bipush 6), (54, .imul), (55, .iload 5), (57, .iadd), (58, .iaload), (59, .istore 6), (61, .iload 6), (63, .ifCond .eq 29)]), (2, [(66, .aload_n 0), (67, .aload_n 1), (68, .iload 5), (70, .iload_n 2), (71, .iload 6), (73, .invokevirtual 67), (76, .iload 4), (78, .iload 6), (80, .iconst 2), (81, .if_icmp .ne 7), (84, .iconst 1), (85, .goto 4), (88, .iconst 0), (89, .ior), (90, .istore 4), (92, .iinc 5 1), (95, .goto (-60))]), (3, [(98, .iload 4), (100, .ifCond .eq 21), (103, .aload_n 0), (104, .getfield 33), (107, .iload_n 3), (108, .if_icmp .ne 13), (111, .aload_n 0), (112, .dup), (113, .getfield 40), (116, .iconst 1), (117, .iadd), (118, .putfield 40), (121, .iinc 2 1), (124, .goto (-117)), (127, .return_)])]
def yI36 : List (Nat × List (Nat × Instr)) := [(0, [(0, .aload_n 0), (1, .getfield 42), (4, .iload_n 1), (5, .invokevirtual 228), (8, .ifCond .ne 5), (11, .iconst (-1)), (12, .ireturn), (13, .aload_n 0), (14, .getfield 75), (17, .aload_n 0), (18, .getfield 49), (21, .invokevirtual 267), (24, .aload_n 0), (25, .getfield 75), (28, .iload_n 1), (29, .invokevirtual 298)]), (1, [(32, .ireturn)])]
def yI37 : List (Nat × List (Nat × Instr)) := [(0, [(0, .aload_n 0), (1, .getfield 59), (4, .ifCond .ne 5), (7, .iconst (-1)), (8, .ireturn), (9, .aload_n 0), (10, .getfield 49), (13, .aload_n 0), (14, .getfield 56), (17, .invokevirtual 172), (20, .aload_n 0), (21, .getfield 66), (24, .iconst 0), (25, .putfield 176), (28, .aload_n 0), (29, .getfield 49)]), (1, [(32, .getfield 238), (35, .ireturn)])]
def yI38 : List (Nat × List (Nat × Instr)) := [(0, [(0, .aload_n 0), (1, .getfield 107), (4, .iload_n 1), (5, .dup2), (6, .iaload), (7, .iconst 1), (8, .iadd), (9, .iastore), (10, .iconst (-1)), (11, .ireturn)])]
def yI39 : List (Nat × List (Nat × Instr)) := [(0, [(0, .aload_n 0), (1, .getfield 42), (4, .iload_n 1), (5, .invokevirtual 190), (8, .ifCond .ne 9), (11, .aload_n 0), (12, .iconst 0), (13, .invokevirtual 225), (16, .ireturn), (17, .aload_n 0), (18, .getfield 42), (21, .iload_n 2), (22, .invokevirtual 228), (25, .ifCond .ne 9), (28, .aload_n 0), (29, .iconst 1), (30, .invokevirtual 225)]), (1, [(33, .ireturn), (34, .aload_n 0), (35, .getfield 49), (38, .getfield 210), (41, .iload_n 1), (42, .iaload), (43, .istore_n 3), (44, .iload_n 3), (45, .iload_n 2), (46, .if_icmp .ne 9), (49, .aload_n 0), (50, .iconst 2), (51, .invokevirtual 225), (54, .ireturn), (55, .aload_n 0), (56, .getfield 66), (59, .aload_n 0), (60, .getfield 49), (63, .invokevirtual 231)]), (2, [(66, .aload_n 0), (67, .getfield 49), (70, .getfield 210), (73, .iload_n 1), (74, .iload_n 2), (75, .iastore), (76, .iload_n 3), (77, .ireturn)])]
def yI40 : List (Nat × List (Nat × Instr)) := [(0, [(0, .aload_n 0), (1, .getfield 42), (4, .iload_n 1), (5, .invokevirtual 190), (8, .ifCond .eq 12), (11, .iload_n 2), (12, .ifCond .lt 8), (15, .iload_n 2), (16, .iconst 1), (17, .if_icmp .le 5), (20, .iconst (-1)), (21, .ireturn), (22, .aload_n 0), (23, .getfield 53), (26, .aload_n 0), (27, .getfield 49), (30, .invokevirtual 172)]), (1, [(33, .iconst (-1)), (34, .istore_n 3), (35, .iconst (-1)), (36, .istore 4), (38, .iconst 0), (39, .istore 5), (41, .iload 5), (43, .aload_n 0), (44, .getfield 42), (47, .getfield 181), (50, .if_icmp .ge 65), (53, .aload_n 0), (54, .getfield 53), (57, .getfield 210), (60, .iload_n 1), (61, .iload 5), (63, .iastore)]), (2, [(64, .aload_n 0), (65, .getfield 75), (68, .aload_n 0), (69, .getfield 53), (72, .invokevirtual 267), (75, .iload 4), (77, .iconst (-1)), (78, .if_icmp .eq 17), (81, .aload_n 0), (82, .getfield 75), (85, .getfield 326), (88, .iload_n 1), (89, .iaload), (90, .iload 4), (92, .if_icmp .ge 17), (95, .aload_n 0)]), (3, [(96, .getfield 75), (99, .getfield 326), (102, .iload_n 1), (103, .iaload), (104, .istore 4), (106, .iload 5), (108, .istore_n 3), (109, .iinc 5 1), (112, .goto (-71)), (115, .iload_n 2), (116, .ifCond .ne 7), (119, .iload_n 3), (120, .goto 5), (123, .iload 4), (125, .ireturn)])]
def yI41 : List (Nat × List (Nat × Instr)) := [(0, [(0, .aload_n 0), (1, .getfield 49), (4, .getfield 219), (7, .iload_n 1), (8, .iaload), (9, .istore_n 3), (10, .aload_n 0), (11, .getfield 49), (14, .getfield 219), (17, .iload_n 1), (18, .aload_n 0), (19, .getfield 49), (22, .getfield 219), (25, .iload_n 2), (26, .iaload), (27, .iastore), (28, .aload_n 0), (29, .getfield 49)]), (1, [(32, .getfield 219), (35, .iload_n 2), (36, .iload_n 3), (37, .iastore), (38, .return_)])]
def yI42 : List (Nat × List (Nat × Instr)) := [(0, [(0, .iconst 0), (1, .istore_n 2), (2, .iconst 0), (3, .istore_n 3), (4, .iload_n 3), (5, .aload_n 0), (6, .getfield 42), (9, .getfield 153), (12, .if_icmp .ge 15), (15, .iload_n 2), (16, .aload_n 1), (17, .iload_n 3), (18, .iaload), (19, .iadd), (20, .istore_n 2), (21, .iinc 3 1), (24, .goto (-20)), (27, .iload_n 2), (28, .ireturn)])]
def yI43 : List (Nat × List (Nat × Instr)) := [(0, [(0, .aload_n 0), (1, .getfield 40), (4, .bipush 60), (6, .if_icmp .ge 10), (9, .aload_n 0), (10, .getfield 40), (13, .goto 5), (16, .bipush 60), (18, .ireturn)])]
def yI44 : List (Nat × List (Nat × Instr)) := [(0, [(0, .iload_n 1), (1, .tableswitch 164 0 11 #[63, 71, 79, 87, 95, 103, 115, 127, 132, 140, 148, 156])]), (2, [(64, .aload_n 0), (65, .getfield 42), (68, .getfield 153), (71, .ireturn), (72, .aload_n 0), (73, .getfield 35), (76, .getfield 156), (79, .ireturn), (80, .aload_n 0), (81, .getfield 10), (84, .getfield 129), (87, .ireturn), (88, .aload_n 0), (89, .getfield 35), (92, .getfield 222), (95, .ireturn)]), (3, [(96, .aload_n 0), (97, .getfield 49), (100, .getfield 238), (103, .ireturn), (104, .aload_n 0), (105, .aload_n 0), (106, .getfield 49), (109, .getfield 213), (112, .invokevirtual 380), (115, .ireturn), (116, .aload_n 0), (117, .aload_n 0), (118, .getfield 49), (121, .getfield 216), (124, .invokevirtual 380), (127, .ireturn)]), (4, [(128, .aload_n 0), (129, .getfield 117), (132, .ireturn), (133, .aload_n 0), (134, .getfield 82), (137, .getfield 177), (140, .ireturn), (141, .aload_n 0), (142, .getfield 86), (145, .getfield 177), (148, .ireturn), (149, .aload_n 0), (150, .getfield 49), (153, .invokevirtual 260), (156, .ireturn), (157, .aload_n 0), (158, .getfield 66)]), (5, [(161, .getfield 176), (164, .ireturn), (165, .ldc_w 276), (168, .ireturn)])]
def yI45 : List (Nat × List (Nat × Instr)) := [(0, [(0, .iconst 0), (1, .istore_n 1), (2, .iconst 0), (3, .istore_n 2), (4, .iload_n 2), (5, .aload_n 0), (6, .getfield 42), (9, .getfield 153), (12, .if_icmp .ge 21), (15, .iload_n 1), (16, .bipush 10), (18, .imul), (19, .aload_n 0), (20, .getfield 111), (23, .iload_n 2), (24, .iaload), (25, .iadd), (26, .istore_n 1), (27, .iinc 2 1), (30, .goto (-26))]), (1, [(33, .iload_n 1), (34, .ireturn)])]
def yI46 : List (Nat × List (Nat × Instr)) := [(0, [(0, .aload_n 0), (1, .aload_n 0), (2, .getfield 121), (5, .ldc2_w 253), (8, .lmul), (9, .ldc2_w 255), (12, .ladd), (13, .putfield 121), (16, .iload_n 1), (17, .ifCond .le 17), (20, .aload_n 0), (21, .getfield 121), (24, .bipush 33), (26, .lushr), (27, .iload_n 1), (28, .i2l), (29, .lrem), (30, .l2i), (31, .goto 4)]), (1, [(34, .iconst 0), (35, .ireturn)])]
def yI47 : List (Nat × List (Nat × Instr)) := [(0, [(0, .aload_n 0), (1, .aload_n 0), (2, .getfield 42), (5, .getfield 153), (8, .invokevirtual 250), (11, .istore_n 1), (12, .aload_n 0), (13, .aload_n 0), (14, .getfield 42), (17, .getfield 181), (20, .invokevirtual 250), (23, .istore_n 2), (24, .aload_n 0), (25, .getfield 42), (28, .iload_n 1), (29, .invokevirtual 190)]), (1, [(32, .ifCond .eq 13), (35, .aload_n 0), (36, .getfield 49), (39, .getfield 210), (42, .iload_n 1), (43, .iload_n 2), (44, .iastore), (45, .return_)])]
def yI48 : List (Nat × List (Nat × Instr)) := [(0, [(0, .aload_n 0), (1, .bipush 10), (3, .invokevirtual 250), (6, .aload_n 0), (7, .getfield 117), (10, .if_icmp .lt 4), (13, .return_), (14, .aload_n 0), (15, .aload_n 0), (16, .getfield 42), (19, .getfield 153), (22, .invokevirtual 250), (25, .istore_n 1), (26, .aload_n 0), (27, .aload_n 0), (28, .getfield 42), (31, .getfield 153)]), (1, [(34, .invokevirtual 250), (37, .istore_n 2), (38, .iload_n 1), (39, .iload_n 2), (40, .if_icmp .eq 31), (43, .aload_n 0), (44, .getfield 42), (47, .iload_n 1), (48, .invokevirtual 190), (51, .ifCond .eq 20), (54, .aload_n 0), (55, .getfield 42), (58, .iload_n 2), (59, .invokevirtual 190), (62, .ifCond .eq 9)]), (2, [(65, .aload_n 0), (66, .iload_n 1), (67, .iload_n 2), (68, .invokevirtual 234), (71, .return_)])]
def yI49 : List (Nat × List (Nat × Instr)) := [(0, [(0, .aload_n 0), (1, .getfield 42), (4, .iload_n 1), (5, .invokevirtual 190), (8, .ifCond .eq 14), (11, .aload_n 0), (12, .getfield 42), (15, .iload_n 2), (16, .invokevirtual 228), (19, .ifCond .ne 5), (22, .iconst (-1)), (23, .ireturn), (24, .aload_n 0), (25, .getfield 75), (28, .aload_n 0), (29, .getfield 49)]), (1, [(32, .invokevirtual 267), (35, .aload_n 0), (36, .getfield 75), (39, .getfield 273), (42, .iload_n 2), (43, .bipush 6), (45, .imul), (46, .iload_n 1), (47, .iadd), (48, .iaload), (49, .ireturn)])]
def yI50 : List (Nat × List (Nat × Instr)) := [(0, [(0, .aload_n 0), (1, .getfield 42), (4, .iload_n 1), (5, .invokevirtual 190), (8, .ifCond .ne 9), (11, .aload_n 0), (12, .iconst 0), (13, .invokevirtual 225), (16, .ireturn), (17, .aload_n 0), (18, .getfield 49), (21, .getfield 204), (24, .iload_n 1), (25, .iaload), (26, .ifCond .gt 9), (29, .aload_n 0), (30, .iconst 2), (31, .invokevirtual 225)]), (1, [(34, .ireturn), (35, .aload_n 0), (36, .getfield 49), (39, .getfield 187), (42, .iconst 3), (43, .if_icmp .ge 9), (46, .aload_n 0), (47, .iconst 3), (48, .invokevirtual 225), (51, .ireturn), (52, .aload_n 0), (53, .getfield 66), (56, .aload_n 0), (57, .getfield 49), (60, .invokevirtual 231), (63, .aload_n 0)]), (2, [(64, .getfield 49), (67, .dup), (68, .getfield 187), (71, .iconst 3), (72, .isub), (73, .putfield 187), (76, .aload_n 0), (77, .getfield 49), (80, .getfield 204), (83, .iload_n 1), (84, .dup2), (85, .iaload), (86, .iconst 1), (87, .isub), (88, .iastore), (89, .aload_n 0), (90, .getfield 49), (93, .getfield 204)]), (3, [(96, .iload_n 1), (97, .iaload), (98, .ireturn)])]
def yI51 : List (Nat × List (Nat × Instr)) := [(0, [(0, .iload_n 1), (1, .ifCond .lt 14), (4, .iload_n 1), (5, .aload_n 0), (6, .getfield 10), (9, .getfield 129), (12, .if_icmp .le 5), (15, .iconst 0), (16, .ireturn), (17, .aload_n 0), (18, .getfield 10), (21, .iload_n 1), (22, .putfield 129), (25, .iconst 1), (26, .ireturn)])]
def yI52 : List (Nat × List (Nat × Instr)) := [(0, [(0, .iload_n 1), (1, .invokestatic 125), (4, .iload_n 2), (5, .invokestatic 125), (8, .iadd), (9, .iload_n 3), (10, .invokestatic 125), (13, .iadd), (14, .iload 4), (16, .invokestatic 125), (19, .iadd), (20, .iload 5), (22, .invokestatic 125), (25, .iadd), (26, .istore 6), (28, .aload_n 0), (29, .getfield 10)]), (1, [(32, .getfield 129), (35, .iload 6), (37, .iadd), (38, .sipush 240), (41, .if_icmp .le 5), (44, .iconst (-1)), (45, .ireturn), (46, .aload_n 0), (47, .getfield 10), (50, .iload_n 1), (51, .invokevirtual 132), (54, .aload_n 0), (55, .getfield 10), (58, .iload_n 2), (59, .invokevirtual 132), (62, .aload_n 0), (63, .getfield 10)]), (2, [(66, .iload_n 3), (67, .invokevirtual 132), (70, .aload_n 0), (71, .getfield 10), (74, .iload 4), (76, .invokevirtual 132), (79, .aload_n 0), (80, .getfield 10), (83, .iload 5), (85, .invokevirtual 132), (88, .aload_n 0), (89, .getfield 10), (92, .getfield 129), (95, .ireturn)])]
def yI53 : List (Nat × List (Nat × Instr)) := [(0, [(0, .bipush 8), (2, .iload_n 2), (3, .isub), (4, .istore_n 3), (5, .iconst 0), (6, .istore 4), (8, .iload 4), (10, .aload_n 0), (11, .getfield 42), (14, .getfield 153), (17, .if_icmp .ge 38), (20, .aload_n 0), (21, .getfield 75), (24, .getfield 374), (27, .iload 4), (29, .iaload), (30, .iload_n 1), (31, .if_icmp .ne 18)]), (1, [(34, .iload_n 3), (35, .iconst 2), (36, .aload_n 0), (37, .getfield 75), (40, .getfield 377), (43, .iload 4), (45, .iaload), (46, .imul), (47, .isub), (48, .istore_n 3), (49, .iinc 4 1), (52, .goto (-44)), (55, .iload_n 3), (56, .ireturn)])]
def yI54 : List (Nat × List (Nat × Instr)) := [(0, [(0, .iload_n 0), (1, .ifCond .lt 12), (4, .iload_n 0), (5, .iconst 4), (6, .if_icmp .ge 7), (9, .iconst 1), (10, .goto 4), (13, .iconst 0), (14, .ireturn)])]
def yI55 : List (Nat × List (Nat × Instr)) := [(0, [(0, .aload_n 0), (1, .getfield 53), (4, .aload_n 0), (5, .getfield 49), (8, .invokevirtual 172), (11, .aload_n 0), (12, .getfield 53), (15, .getfield 207), (18, .iload_n 1), (19, .dup2), (20, .iaload), (21, .iload_n 3), (22, .iadd), (23, .iastore), (24, .aload_n 0), (25, .getfield 53), (28, .getfield 207), (31, .iload_n 2)]), (1, [(32, .dup2), (33, .iaload), (34, .iload 4), (36, .iadd), (37, .iastore), (38, .aload_n 0), (39, .getfield 75), (42, .aload_n 0), (43, .getfield 53), (46, .invokevirtual 267), (49, .return_)])]
def yI56 : List (Nat × List (Nat × Instr)) := [(0, [(0, .aload_n 0), (1, .iload_n 1), (2, .iload_n 2), (3, .invokevirtual 343), (6, .ifCond .eq 29), (9, .iload_n 3), (10, .invokestatic 357), (13, .ifCond .eq 22), (16, .iload 4), (18, .invokestatic 357), (21, .ifCond .eq 14), (24, .iload 5), (26, .ifCond .lt 9), (29, .iload 5), (31, .iconst 1)]), (1, [(32, .if_icmp .le 7), (35, .ldc_w 276), (38, .ireturn), (39, .aload_n 0), (40, .iload_n 1), (41, .iload_n 2), (42, .iload_n 3), (43, .iload 4), (45, .invokevirtual 360), (48, .iload 5), (50, .ifCond .ne 12), (53, .aload_n 0), (54, .iload_n 1), (55, .iload_n 3), (56, .invokevirtual 364), (59, .goto 10), (62, .aload_n 0), (63, .iload_n 2)]), (2, [(64, .iload 4), (66, .invokevirtual 364), (69, .ireturn)])]
def yI57 : List (Nat × List (Nat × Instr)) := [(0, [(0, .aload_n 0), (1, .getfield 42), (4, .getfield 153), (7, .ifCond .le 7), (10, .iconst 1), (11, .goto 4), (14, .iconst 0), (15, .ireturn)])]
def yI58 : List (Nat × List (Nat × Instr)) := [(0, [(0, .iload_n 0), (1, .iconst 1), (2, .if_icmp .lt 13), (5, .iload_n 0), (6, .bipush 9), (8, .if_icmp .gt 7), (11, .iconst 1), (12, .goto 4), (15, .iconst 0), (16, .ireturn)])]
def yI59 : List (Nat × List (Nat × Instr)) := [(0, [(0, .iconst 0), (1, .istore_n 1), (2, .iload_n 1), (3, .aload_n 0), (4, .getfield 30), (7, .getfield 75), (10, .if_icmp .ge 72), (13, .aload_n 0), (14, .getfield 30), (17, .getfield 78), (20, .iload_n 1), (21, .iaload), (22, .istore_n 2), (23, .aload_n 0), (24, .getfield 22), (27, .iload_n 2), (28, .invokevirtual 81), (31, .ifCond .eq 28)]), (1, [(34, .aload_n 0), (35, .getfield 26), (38, .getfield 68), (41, .iload_n 2), (42, .iaload), (43, .aload_n 0), (44, .getfield 30), (47, .getfield 84), (50, .iload_n 1), (51, .iaload), (52, .if_icmp .ne 7), (55, .iconst 1), (56, .goto 4), (59, .iconst 0), (60, .istore_n 3), (61, .iload_n 3), (62, .aload_n 0), (63, .getfield 30)]), (2, [(66, .getfield 87), (69, .iload_n 1), (70, .baload), (71, .if_icmp .eq 5), (74, .iconst 0), (75, .ireturn), (76, .iinc 1 1), (79, .goto (-77)), (82, .iconst 1), (83, .ireturn)])]
def yI60 : List (Nat × List (Nat × Instr)) := [(0, [(0, .aload_n 0), (1, .getfield 26), (4, .aload_n 0), (5, .getfield 34), (8, .invokevirtual 59), (11, .aload_n 0), (12, .invokevirtual 64), (15, .ifCond .eq 15), (18, .aload_n 0), (19, .getfield 18), (22, .aload_n 0), (23, .getfield 9), (26, .arraylength), (27, .if_icmp .lt 4), (30, .return_), (31, .aload_n 0)]), (1, [(32, .getfield 9), (35, .aload_n 0), (36, .getfield 18), (39, .iload_n 1), (40, .iastore), (41, .aload_n 0), (42, .dup), (43, .getfield 18), (46, .iconst 1), (47, .iadd), (48, .putfield 18), (51, .iconst 0), (52, .istore_n 2), (53, .iload_n 2), (54, .aload_n 0), (55, .getfield 22), (58, .getfield 38), (61, .if_icmp .ge 45)]), (2, [(64, .aload_n 0), (65, .getfield 26), (68, .getfield 68), (71, .iload_n 2), (72, .iaload), (73, .istore_n 3), (74, .aload_n 0), (75, .getfield 22), (78, .iload_n 3), (79, .invokevirtual 71), (82, .ifCond .eq 18), (85, .aload_n 0), (86, .getfield 15), (89, .iload_n 2), (90, .bipush 10), (92, .imul), (93, .iload_n 3), (94, .iadd), (95, .dup2)]), (3, [(96, .iaload), (97, .iconst 1), (98, .iadd), (99, .iastore), (100, .iinc 2 1), (103, .goto (-50)), (106, .return_)])]
def yI61 : List (Nat × List (Nat × Instr)) := [(0, [(0, .aload_n 0), (1, .iconst 0), (2, .putfield 18), (5, .iconst 0), (6, .istore_n 2), (7, .iload_n 2), (8, .aload_n 0), (9, .getfield 15), (12, .arraylength), (13, .if_icmp .ge 16), (16, .aload_n 0), (17, .getfield 15), (20, .iload_n 2), (21, .iconst 0), (22, .iastore), (23, .iinc 2 1), (26, .goto (-19)), (29, .iconst 0), (30, .istore_n 2), (31, .iload_n 2)]), (1, [(32, .aload_n 0), (33, .getfield 22), (36, .getfield 38), (39, .if_icmp .ge 41), (42, .aload_n 0), (43, .getfield 34), (46, .aload_n 0), (47, .getfield 22), (50, .getfield 43), (53, .invokevirtual 46), (56, .aload_n 0), (57, .getfield 34), (60, .getfield 52), (63, .iload_n 2)]), (2, [(64, .dup2), (65, .iaload), (66, .iload_n 1), (67, .iadd), (68, .iastore), (69, .aload_n 0), (70, .iload_n 2), (71, .invokevirtual 55), (74, .iinc 2 1), (77, .goto (-46)), (80, .aload_n 0), (81, .getfield 34), (84, .aload_n 0), (85, .getfield 22), (88, .getfield 43), (91, .invokevirtual 46), (94, .aload_n 0), (95, .bipush 9)]), (3, [(97, .invokevirtual 55), (100, .return_)])]
def yI62 : List (Nat × List (Nat × Instr)) := [(0, [(0, .aload_n 0), (1, .getfield 18), (4, .ifCond .ne 5), (7, .iconst (-1)), (8, .ireturn), (9, .iconst (-1)), (10, .istore_n 1), (11, .aload_n 0), (12, .getfield 18), (15, .iconst 1), (16, .iadd), (17, .istore_n 2), (18, .iconst 0), (19, .istore_n 3), (20, .iload_n 3), (21, .aload_n 0), (22, .getfield 22), (25, .getfield 38), (28, .if_icmp .ge 71), (31, .iconst 0)]), (1, [(32, .istore 4), (34, .iload 4), (36, .aload_n 0), (37, .getfield 22), (40, .getfield 91), (43, .if_icmp .ge 50), (46, .aload_n 0), (47, .getfield 18), (50, .iconst 2), (51, .aload_n 0), (52, .getfield 15), (55, .iload_n 3), (56, .bipush 10), (58, .imul), (59, .iload 4), (61, .iadd), (62, .iaload), (63, .imul)]), (2, [(64, .isub), (65, .invokestatic 94), (68, .istore 5), (70, .iload 5), (72, .iload_n 2), (73, .if_icmp .ge 14), (76, .iload 5), (78, .istore_n 2), (79, .bipush 10), (81, .iload_n 3), (82, .imul), (83, .iload 4), (85, .iadd), (86, .istore_n 1), (87, .iinc 4 1), (90, .goto (-56)), (93, .iinc 3 1)]), (3, [(96, .goto (-76)), (99, .iload_n 1), (100, .ireturn)])]
def yI63 : List (Nat × List (Nat × Instr)) := [(0, [(0, .aload_n 0), (1, .invokevirtual 178), (4, .ifCond .eq 10), (7, .iload_n 1), (8, .invokestatic 330), (11, .ifCond .ne 5), (14, .iconst (-1)), (15, .ireturn), (16, .aload_n 0), (17, .getfield 94), (20, .iload_n 1), (21, .invokevirtual 333), (24, .aload_n 0), (25, .getfield 94), (28, .invokevirtual 340), (31, .ireturn)])]
def yI64 : List (Nat × List (Nat × Instr)) := [(0, [(0, .aload_n 0), (1, .invokevirtual 178), (4, .ifCond .ne 5), (7, .iconst (-1)), (8, .ireturn), (9, .aload_n 0), (10, .getfield 56), (13, .aload_n 0), (14, .getfield 49), (17, .invokevirtual 172), (20, .aload_n 0), (21, .iconst 1), (22, .putfield 59), (25, .aload_n 0), (26, .getfield 49), (29, .getfield 238)]), (1, [(32, .ireturn)])]
def yI65 : List (Nat × List (Nat × Instr)) := [(0, [(0, .iload_n 1), (1, .iconst (-1)), (2, .if_icmp .lt 14), (5, .iload_n 1), (6, .aload_n 0), (7, .getfield 35), (10, .getfield 156), (13, .if_icmp .lt 5), (16, .iconst 0), (17, .ireturn), (18, .aload_n 0), (19, .getfield 35), (22, .iload_n 1), (23, .putfield 222), (26, .iconst 1), (27, .ireturn)])]
def yI66 : List (Nat × List (Nat × Instr)) := [(0, [(0, .iconst 1), (1, .istore_n 1), (2, .iconst 0), (3, .istore_n 2), (4, .iload_n 2), (5, .aload_n 0), (6, .getfield 42), (9, .getfield 153), (12, .if_icmp .ge 47), (15, .aload_n 0), (16, .getfield 49), (19, .getfield 219), (22, .iload_n 2), (23, .iaload), (24, .ifCond .ne 13), (27, .aload_n 0), (28, .getfield 111), (31, .iconst 0)]), (1, [(32, .iload_n 2), (33, .iastore), (34, .goto 19), (37, .iload_n 1), (38, .bipush 6), (40, .if_icmp .ge 13), (43, .aload_n 0), (44, .getfield 111), (47, .iload_n 1), (48, .iload_n 2), (49, .iastore), (50, .iinc 1 1), (53, .iinc 2 1), (56, .goto (-52)), (59, .return_)])]
def yI67 : List (Nat × List (Nat × Instr)) := [(0, [(0, .iconst 0), (1, .istore_n 1), (2, .iconst 0), (3, .istore_n 2), (4, .iload_n 2), (5, .aload_n 0), (6, .getfield 43), (9, .getfield 64), (12, .if_icmp .ge 25), (15, .aload_n 0), (16, .getfield 18), (19, .iload_n 2), (20, .iaload), (21, .iconst (-1)), (22, .if_icmp .eq 9), (25, .iload_n 1), (26, .iconst 1), (27, .iload_n 2), (28, .ishl), (29, .ior), (30, .istore_n 1), (31, .iinc 2 1)]), (1, [(34, .goto (-30)), (37, .iload_n 1), (38, .ireturn)])]
def yI68 : List (Nat × List (Nat × Instr)) := [(0, [(0, .aload_n 0), (1, .invokevirtual 178), (4, .ifCond .ne 5), (7, .iconst (-1)), (8, .ireturn), (9, .aload_n 0), (10, .getfield 75), (13, .aload_n 0), (14, .getfield 49), (17, .invokevirtual 267), (20, .aload_n 0), (21, .getfield 75), (24, .invokevirtual 292), (27, .istore_n 1), (28, .iconst 0), (29, .istore_n 2), (30, .iconst 0), (31, .istore_n 3)]), (1, [(32, .iload_n 3), (33, .aload_n 0), (34, .getfield 86), (37, .getfield 177), (40, .if_icmp .ge 61), (43, .iload_n 1), (44, .aload_n 0), (45, .getfield 86), (48, .getfield 347), (51, .iload_n 3), (52, .iaload), (53, .ishr), (54, .iconst 1), (55, .iand), (56, .iconst 1), (57, .if_icmp .ne 7), (60, .iconst 1), (61, .goto 4)]), (2, [(64, .iconst 0), (65, .istore 4), (67, .iload 4), (69, .aload_n 0), (70, .getfield 86), (73, .getfield 350), (76, .iload_n 3), (77, .baload), (78, .if_icmp .eq 17), (81, .iload_n 2), (82, .iconst 1), (83, .aload_n 0), (84, .getfield 86), (87, .getfield 354), (90, .iload_n 3), (91, .iaload), (92, .ishl), (93, .ior), (94, .istore_n 2), (95, .iinc 3 1)]), (3, [(98, .goto (-66)), (101, .iload_n 2), (102, .ireturn)])]
def yI69 : List (Nat × List (Nat × Instr)) := [(0, [(0, .iload_n 1), (1, .ifCond .lt 14), (4, .iload_n 1), (5, .aload_n 0), (6, .getfield 49), (9, .invokevirtual 260), (12, .if_icmp .lt 5), (15, .iconst (-1)), (16, .ireturn), (17, .aload_n 0), (18, .getfield 49), (21, .getfield 264), (24, .aload_n 0), (25, .getfield 49), (28, .getfield 238), (31, .iconst 1)]), (1, [(32, .isub), (33, .iload_n 1), (34, .isub), (35, .bipush 60), (37, .irem), (38, .iaload), (39, .istore_n 3), (40, .iload_n 2), (41, .tableswitch 46 0 2 #[27, 32, 40])]), (2, [(68, .iload_n 3), (69, .bipush 100), (71, .irem), (72, .ireturn), (73, .iload_n 3), (74, .bipush 100), (76, .idiv), (77, .bipush 100), (79, .irem), (80, .ireturn), (81, .iload_n 3), (82, .sipush 10000), (85, .idiv), (86, .ireturn), (87, .iconst (-1)), (88, .ireturn)])]
def yI70 : List (Nat × List (Nat × Instr)) := [(0, [(0, .iconst 0), (1, .istore_n 3), (2, .iconst 1), (3, .istore 4), (5, .iload 4), (7, .aload_n 0), (8, .getfield 42), (11, .getfield 153), (14, .if_icmp .ge 26), (17, .iload_n 2), (18, .aload_n 1), (19, .iload 4), (21, .iaload), (22, .imul), (23, .iload_n 2), (24, .aload_n 1), (25, .iload_n 3), (26, .iaload), (27, .imul), (28, .if_icmp .le 6), (31, .iload 4)]), (1, [(33, .istore_n 3), (34, .iinc 4 1), (37, .goto (-32)), (40, .iload_n 3), (41, .ireturn)])]
def yI71 : List (Nat × List (Nat × Instr)) := [(0, [(0, .aload_n 0), (1, .aload_n 1), (2, .invokevirtual 115), (5, .iconst 0), (6, .istore_n 2), (7, .iload_n 2), (8, .aload_n 0), (9, .getfield 43), (12, .getfield 64), (15, .if_icmp .ge 93), (18, .aload_n 1), (19, .getfield 118), (22, .iload_n 2), (23, .sipush 9999), (26, .aload_n 1), (27, .getfield 118), (30, .iload_n 2), (31, .iaload)]), (1, [(32, .aload_n 0), (33, .getfield 21), (36, .iload_n 2), (37, .iaload), (38, .iadd), (39, .invokestatic 119), (42, .iastore), (43, .aload_n 0), (44, .getfield 43), (47, .getfield 80), (50, .iload_n 2), (51, .iaload), (52, .aload_n 0), (53, .getfield 15), (56, .iload_n 2), (57, .iaload), (58, .isub), (59, .istore_n 3), (60, .iload_n 3), (61, .ifCond .le 14)]), (2, [(64, .aload_n 1), (65, .getfield 124), (68, .iload_n 2), (69, .iaload), (70, .iload_n 3), (71, .iadd), (72, .goto 11), (75, .aload_n 1), (76, .getfield 124), (79, .iload_n 2), (80, .iaload), (81, .iconst 1), (82, .isub), (83, .istore 4), (85, .aload_n 1), (86, .getfield 124), (89, .iload_n 2), (90, .iconst 0), (91, .bipush 99), (93, .iload 4), (95, .invokestatic 119)]), (3, [(98, .invokestatic 127), (101, .iastore), (102, .iinc 2 1), (105, .goto (-98)), (108, .aload_n 1), (109, .sipush 999), (112, .aload_n 1), (113, .getfield 130), (116, .aload_n 0), (117, .getfield 40), (120, .iadd), (121, .invokestatic 119), (124, .putfield 130), (127, .aload_n 1)]), (4, [(128, .dup), (129, .getfield 133), (132, .aload_n 0), (133, .getfield 37), (136, .iadd), (137, .putfield 133), (140, .iconst 0), (141, .aload_n 1), (142, .getfield 108), (145, .invokestatic 127), (148, .bipush 60), (150, .irem), (151, .istore_n 2), (152, .aload_n 1), (153, .getfield 134), (156, .iload_n 2), (157, .aload_n 0), (158, .getfield 33)]), (5, [(161, .bipush 100), (163, .aload_n 0), (164, .invokevirtual 137), (167, .imul), (168, .iadd), (169, .sipush 10000), (172, .aload_n 0), (173, .getfield 37), (176, .imul), (177, .iadd), (178, .iastore), (179, .aload_n 1), (180, .dup), (181, .getfield 108), (184, .iconst 1), (185, .iadd), (186, .putfield 108), (189, .return_)])]
def yI72 : List (Nat × List (Nat × Instr)) := [(0, [(0, .aload_n 0), (1, .getfield 53), (4, .aload_n 0), (5, .getfield 49), (8, .invokevirtual 172), (11, .iconst 0), (12, .istore_n 1), (13, .iload_n 1), (14, .bipush 60), (16, .if_icmp .gt 51), (19, .aload_n 0), (20, .aload_n 0), (21, .getfield 53), (24, .getfield 213), (27, .invokevirtual 380), (30, .ifCond .ne 5)]), (1, [(33, .iload_n 1), (34, .ireturn), (35, .aload_n 0), (36, .getfield 53), (39, .getfield 238), (42, .sipush 999), (45, .if_icmp .lt 5), (48, .iconst (-1)), (49, .ireturn), (50, .aload_n 0), (51, .getfield 75), (54, .aload_n 0), (55, .getfield 53), (58, .invokevirtual 241), (61, .iinc 1 1)]), (2, [(64, .goto (-51)), (67, .iconst (-1)), (68, .ireturn)])]
def yI73 : List (Nat × List (Nat × Instr)) := [(0, [(0, .aload_n 0), (1, .invokevirtual 178), (4, .ifCond .ne 5), (7, .iconst (-1)), (8, .ireturn), (9, .iload_n 1), (10, .tableswitch 86 0 4 #[34, 47, 60, 73, 78])]), (1, [(44, .aload_n 0), (45, .aload_n 0), (46, .getfield 49), (49, .getfield 213), (52, .iconst 1), (53, .invokevirtual 387), (56, .ireturn), (57, .aload_n 0), (58, .aload_n 0), (59, .getfield 49), (62, .getfield 216)]), (2, [(65, .iconst (-1)), (66, .invokevirtual 387), (69, .ireturn), (70, .aload_n 0), (71, .aload_n 0), (72, .getfield 49), (75, .getfield 207), (78, .iconst 1), (79, .invokevirtual 387), (82, .ireturn), (83, .aload_n 0), (84, .invokevirtual 390), (87, .ireturn), (88, .aload_n 0), (89, .getfield 49), (92, .getfield 393), (95, .ireturn)]), (3, [(96, .iconst (-1)), (97, .ireturn)])]
def yI74 : List (Nat × List (Nat × Instr)) := [(0, [(0, .iconst 0), (1, .istore_n 1), (2, .iconst 0), (3, .istore_n 2), (4, .iload_n 2), (5, .aload_n 0), (6, .getfield 43), (9, .getfield 64), (12, .if_icmp .ge 18), (15, .iload_n 1), (16, .aload_n 0), (17, .getfield 24), (20, .iload_n 2), (21, .iaload), (22, .iadd), (23, .istore_n 1), (24, .iinc 2 1), (27, .goto (-23)), (30, .iload_n 1), (31, .ireturn)])]
def yI75 : List (Nat × List (Nat × Instr)) := [(0, [(0, .iconst 0), (1, .istore_n 1), (2, .bipush 7), (4, .istore_n 2), (5, .iconst 0), (6, .istore_n 3), (7, .iload_n 3), (8, .aload_n 0), (9, .getfield 43), (12, .getfield 55), (15, .if_icmp .ge 30), (18, .aload_n 0), (19, .iload_n 3), (20, .invokevirtual 140), (23, .invokestatic 144), (26, .istore 4), (28, .iload 4), (30, .iload_n 2), (31, .if_icmp .ge 8)]), (1, [(34, .iload 4), (36, .istore_n 2), (37, .iload_n 3), (38, .istore_n 1), (39, .iinc 3 1), (42, .goto (-35)), (45, .iload_n 1), (46, .ireturn)])]
def yI76 : List (Nat × List (Nat × Instr)) := [(0, [(0, .aload_n 0), (1, .invokevirtual 178), (4, .ifCond .ne 5), (7, .iconst (-1)), (8, .ireturn), (9, .aload_n 0), (10, .getfield 75), (13, .aload_n 0), (14, .getfield 49), (17, .invokevirtual 267), (20, .iload_n 1), (21, .tableswitch 75 0 4 #[35, 43, 51, 59, 67])]), (1, [(56, .aload_n 0), (57, .getfield 75), (60, .getfield 283), (63, .ireturn)]), (2, [(64, .aload_n 0), (65, .getfield 75), (68, .getfield 286), (71, .ireturn), (72, .aload_n 0), (73, .getfield 75), (76, .invokevirtual 289), (79, .ireturn), (80, .aload_n 0), (81, .getfield 75), (84, .invokevirtual 292), (87, .ireturn), (88, .aload_n 0), (89, .getfield 75), (92, .invokevirtual 295), (95, .ireturn)]), (3, [(96, .iconst (-1)), (97, .ireturn)])]
def yI77 : List (Nat × List (Nat × Instr)) := [(0, [(0, .iconst 0), (1, .istore_n 1), (2, .iload_n 1), (3, .aload_n 0), (4, .getfield 42), (7, .getfield 153), (10, .if_icmp .ge 37), (13, .aload_n 0), (14, .getfield 111), (17, .iload_n 1), (18, .iaload), (19, .istore_n 2), (20, .aload_n 0), (21, .getfield 42), (24, .iload_n 2), (25, .invokevirtual 190), (28, .ifCond .eq 13), (31, .aload_n 0)]), (1, [(32, .getfield 53), (35, .getfield 219), (38, .iload_n 2), (39, .iload_n 1), (40, .iastore), (41, .iinc 1 1), (44, .goto (-42)), (47, .aload_n 0), (48, .getfield 75), (51, .aload_n 0), (52, .getfield 53), (55, .invokevirtual 267), (58, .aload_n 0), (59, .getfield 75), (62, .invokevirtual 289)]), (2, [(65, .ireturn)])]
def yI78 : List (Nat × List (Nat × Instr)) := [(0, [(0, .aload_n 0), (1, .invokevirtual 178), (4, .ifCond .ne 9), (7, .aload_n 0), (8, .iconst 0), (9, .invokevirtual 225), (12, .ireturn), (13, .iload_n 1), (14, .iconst 1), (15, .if_icmp .lt 9), (18, .iload_n 1), (19, .bipush 60), (21, .if_icmp .le 9), (24, .aload_n 0), (25, .iconst 1), (26, .invokevirtual 225), (29, .ireturn), (30, .aload_n 0), (31, .getfield 49)]), (1, [(34, .getfield 238), (37, .iload_n 1), (38, .iadd), (39, .sipush 999), (42, .if_icmp .le 9), (45, .aload_n 0), (46, .iconst 4), (47, .invokevirtual 225), (50, .ireturn), (51, .iconst 0), (52, .istore_n 2), (53, .iload_n 2), (54, .iload_n 1), (55, .if_icmp .ge 31), (58, .aload_n 0), (59, .getfield 66), (62, .aload_n 0), (63, .getfield 49)]), (2, [(66, .invokevirtual 231), (69, .aload_n 0), (70, .getfield 75), (73, .aload_n 0), (74, .getfield 49), (77, .invokevirtual 241), (80, .iinc 2 1), (83, .goto (-30)), (86, .aload_n 0), (87, .getfield 49), (90, .getfield 238), (93, .ireturn)])]
def yI79 : List (Nat × List (Nat × Instr)) := [(0, [(0, .aload_n 0), (1, .invokevirtual 178), (4, .ifCond .eq 13), (7, .iload_n 1), (8, .ifCond .lt 9), (11, .iload_n 1), (12, .bipush 100), (14, .if_icmp .le 5), (17, .iconst (-1)), (18, .ireturn), (19, .aload_n 0), (20, .getfield 75), (23, .aload_n 0), (24, .getfield 49), (27, .invokevirtual 267), (30, .ldc2_w 301)]), (1, [(33, .lstore_n 2), (34, .iconst 0), (35, .istore 4), (37, .iload 4), (39, .aload_n 0), (40, .getfield 75), (43, .getfield 286), (46, .if_icmp .ge 20), (49, .lload_n 2), (50, .lload_n 2), (51, .iload_n 1), (52, .i2l), (53, .lmul), (54, .ldc2_w 303), (57, .ldiv), (58, .lsub), (59, .lstore_n 2), (60, .iinc 4 1), (63, .goto (-26))]), (2, [(66, .lload_n 2), (67, .l2i), (68, .ireturn)])]
def yI80 : List (Nat × List (Nat × Instr)) := [(0, [(0, .iconst 0), (1, .istore_n 3), (2, .iload_n 3), (3, .bipush 16), (5, .if_icmp .ge 61), (8, .iload_n 3), (9, .iconst 4), (10, .idiv), (11, .istore 4), (13, .iload_n 3), (14, .iconst 4), (15, .irem), (16, .istore 5), (18, .aload_n 0), (19, .iload_n 1), (20, .iload_n 2), (21, .iload 4), (23, .iload 5), (25, .invokevirtual 360), (28, .aload_n 0), (29, .getfield 114)]), (1, [(32, .iconst 2), (33, .iload_n 3), (34, .imul), (35, .aload_n 0), (36, .iload_n 1), (37, .iload 4), (39, .invokevirtual 364), (42, .iastore), (43, .aload_n 0), (44, .getfield 114), (47, .iconst 2), (48, .iload_n 3), (49, .imul), (50, .iconst 1), (51, .iadd), (52, .aload_n 0), (53, .iload_n 2), (54, .iload 5), (56, .invokevirtual 364), (59, .iastore), (60, .iinc 3 1), (63, .goto (-61))]), (2, [(66, .return_)])]
def yI81 : List (Nat × List (Nat × Instr)) := [(0, [(0, .iconst 2), (1, .iconst 4), (2, .iload_n 1), (3, .imul), (4, .iload_n 2), (5, .iadd), (6, .imul), (7, .istore_n 3), (8, .iconst 0), (9, .istore 4), (11, .iload 4), (13, .iconst 4), (14, .if_icmp .ge 61), (17, .aload_n 0), (18, .getfield 114), (21, .iconst 2), (22, .iconst 4), (23, .iload 4), (25, .imul), (26, .iload_n 2), (27, .iadd), (28, .imul), (29, .iaload), (30, .aload_n 0), (31, .getfield 114)]), (1, [(34, .iload_n 3), (35, .iaload), (36, .if_icmp .le 5), (39, .iconst 0), (40, .ireturn), (41, .aload_n 0), (42, .getfield 114), (45, .iconst 2), (46, .iconst 4), (47, .iload_n 1), (48, .imul), (49, .iload 4), (51, .iadd), (52, .imul), (53, .iconst 1), (54, .iadd), (55, .iaload), (56, .aload_n 0), (57, .getfield 114), (60, .iload_n 3), (61, .iconst 1), (62, .iadd), (63, .iaload)]), (2, [(64, .if_icmp .le 5), (67, .iconst 0), (68, .ireturn), (69, .iinc 4 1), (72, .goto (-61)), (75, .iconst 1), (76, .ireturn)])]
def yI82 : List (Nat × List (Nat × Instr)) := [(0, [(0, .aload_n 0), (1, .iload_n 1), (2, .iload_n 2), (3, .invokevirtual 343), (6, .ifCond .eq 8), (9, .iload_n 3), (10, .iconst (-1)), (11, .if_icmp .ge 5), (14, .iconst (-1)), (15, .ireturn), (16, .aload_n 0), (17, .iload_n 1), (18, .iload_n 2), (19, .invokevirtual 368), (22, .iconst 0), (23, .istore 4), (25, .iconst 0), (26, .istore 5), (28, .iload 5), (30, .bipush 16)]), (1, [(32, .if_icmp .ge 50), (35, .iload 5), (37, .iconst 4), (38, .idiv), (39, .istore 6), (41, .iload 5), (43, .iconst 4), (44, .irem), (45, .istore 7), (47, .aload_n 0), (48, .iload 6), (50, .iload 7), (52, .invokevirtual 371), (55, .ifCond .eq 21), (58, .iload 4), (60, .iload_n 3), (61, .if_icmp .ne 12)]), (2, [(64, .bipush 10), (66, .iload 6), (68, .imul), (69, .iload 7), (71, .iadd), (72, .ireturn), (73, .iinc 4 1), (76, .iinc 5 1), (79, .goto (-51)), (82, .iload_n 3), (83, .iconst (-1)), (84, .if_icmp .ne 8), (87, .iload 4), (89, .goto 4), (92, .iconst (-1)), (93, .ireturn)])]
def yI83 : List (Nat × List (Nat × Instr)) := [(0, [(0, .aload_n 0), (1, .invokevirtual 178), (4, .ifCond .ne 5), (7, .iconst (-1)), (8, .ireturn), (9, .iload_n 1), (10, .tableswitch 50 0 2 #[26, 34, 42])]), (1, [(36, .aload_n 0), (37, .getfield 42), (40, .getfield 181), (43, .ireturn), (44, .aload_n 0), (45, .getfield 42), (48, .getfield 184), (51, .ireturn), (52, .aload_n 0), (53, .getfield 49), (56, .getfield 187), (59, .ireturn), (60, .iconst (-1)), (61, .ireturn)])]
def yI84 : List (Nat × List (Nat × Instr)) := [(0, [(0, .aload_n 0), (1, .getfield 22), (4, .bipush 10), (6, .if_icmp .lt 5), (9, .iconst (-1)), (10, .ireturn), (11, .aload_n 0), (12, .getfield 9), (15, .aload_n 0), (16, .getfield 22), (19, .iload_n 1), (20, .iastore), (21, .aload_n 0), (22, .getfield 15), (25, .aload_n 0), (26, .getfield 22), (29, .iload_n 2), (30, .iastore), (31, .aload_n 0)]), (1, [(32, .getfield 18), (35, .aload_n 0), (36, .getfield 22), (39, .iload_n 3), (40, .bastore), (41, .aload_n 0), (42, .dup), (43, .getfield 22), (46, .iconst 1), (47, .iadd), (48, .putfield 22), (51, .aload_n 0), (52, .getfield 22), (55, .ireturn)])]
def yI85 : List (Nat × List (Nat × Instr)) := [(0, [(0, .aload_n 0), (1, .iload_n 1), (2, .iload_n 2), (3, .invokevirtual 343), (6, .ifCond .ne 5), (9, .iconst (-1)), (10, .ireturn), (11, .aload_n 0), (12, .getfield 86), (15, .iload_n 1), (16, .iload_n 2), (17, .iload_n 3), (18, .invokevirtual 327), (21, .ireturn)])]
def yI86 : List (Nat × List (Nat × Instr)) := [(0, [(0, .aload_n 0), (1, .getfield 42), (4, .iload_n 1), (5, .invokevirtual 190), (8, .ifCond .eq 13), (11, .iload_n 2), (12, .ifCond .lt 9), (15, .iload_n 2), (16, .bipush 10), (18, .if_icmp .lt 5), (21, .iconst (-1)), (22, .ireturn), (23, .aload_n 0), (24, .getfield 82), (27, .iload_n 1), (28, .iload_n 2), (29, .iload_n 3), (30, .invokevirtual 327)]), (1, [(33, .ireturn)])]
def yI87 : List (Nat × List (Nat × Instr)) := [(0, [(0, .aload_n 0), (1, .getfield 42), (4, .iload_n 1), (5, .invokevirtual 190), (8, .ifCond .eq 14), (11, .iload_n 2), (12, .ifCond .lt 10), (15, .iload_n 2), (16, .sipush 999), (19, .if_icmp .le 5), (22, .iconst (-1)), (23, .ireturn), (24, .aload_n 0), (25, .aload_n 0), (26, .getfield 49), (29, .getfield 207)]), (1, [(32, .invokevirtual 380), (35, .istore_n 3), (36, .iload_n 3), (37, .ifCond .gt 7), (40, .iconst 0), (41, .goto 16), (44, .iload_n 2), (45, .aload_n 0), (46, .getfield 49), (49, .getfield 207), (52, .iload_n 1), (53, .iaload), (54, .imul), (55, .iload_n 3), (56, .idiv), (57, .ireturn)])]
def yI88 : List (Nat × List (Nat × Instr)) := [(0, [(0, .aload_n 0), (1, .getfield 42), (4, .iload_n 1), (5, .invokevirtual 190), (8, .ifCond .eq 14), (11, .aload_n 0), (12, .getfield 42), (15, .iload_n 2), (16, .invokevirtual 228), (19, .ifCond .ne 5), (22, .iconst (-1)), (23, .ireturn), (24, .aload_n 0), (25, .getfield 75), (28, .aload_n 0), (29, .getfield 49)]), (1, [(32, .invokevirtual 267), (35, .aload_n 0), (36, .getfield 75), (39, .getfield 270), (42, .iload_n 2), (43, .bipush 6), (45, .imul), (46, .iload_n 1), (47, .iadd), (48, .iaload), (49, .ireturn)])]
def yI89 : List (Nat × List (Nat × Instr)) := [(0, [(0, .aload_n 0), (1, .getfield 42), (4, .iload_n 1), (5, .invokevirtual 190), (8, .ifCond .eq 12), (11, .iload_n 2), (12, .ifCond .lt 8), (15, .iload_n 2), (16, .iconst 1), (17, .if_icmp .le 7), (20, .ldc_w 276), (23, .ireturn), (24, .aload_n 0), (25, .getfield 75), (28, .aload_n 0), (29, .getfield 49)]), (1, [(32, .invokevirtual 267), (35, .iload_n 2), (36, .ifCond .ne 15), (39, .aload_n 0), (40, .getfield 75), (43, .getfield 277), (46, .iload_n 1), (47, .iaload), (48, .goto 12), (51, .aload_n 0), (52, .getfield 75), (55, .getfield 280), (58, .iload_n 1), (59, .iaload), (60, .ireturn)])]
def yI90 : List (Nat × List (Nat × Instr)) := [(0, [(0, .iload_n 1), (1, .ifCond .lt 17), (4, .iload_n 1), (5, .bipush 9), (7, .if_icmp .gt 11), (10, .iload_n 1), (11, .aload_n 0), (12, .getfield 117), (15, .if_icmp .ne 5), (18, .iconst 0), (19, .ireturn), (20, .aload_n 0), (21, .iload_n 1), (22, .putfield 117), (25, .iconst 1), (26, .ireturn)])]
def yI91 : List (Nat × List (Nat × Instr)) := [(0, [(0, .aload_n 0), (1, .getfield 42), (4, .iload_n 1), (5, .invokevirtual 190), (8, .ifCond .eq 23), (11, .aload_n 0), (12, .getfield 42), (15, .getfield 181), (18, .aload_n 0), (19, .getfield 42), (22, .getfield 201), (25, .iload_n 1), (26, .iaload), (27, .isub), (28, .goto 4), (31, .iconst (-1))]), (1, [(32, .ireturn)])]
def yI92 : List (Nat × List (Nat × Instr)) := [(0, [(0, .iload_n 1), (1, .ifCond .lt 12), (4, .iload_n 1), (5, .aload_n 0), (6, .getfield 107), (9, .arraylength), (10, .if_icmp .lt 7), (13, .iconst (-1)), (14, .goto 9), (17, .aload_n 0), (18, .getfield 107), (21, .iload_n 1), (22, .iaload), (23, .ireturn)])]
def yI93 : List (Nat × List (Nat × Instr)) := [(0, [(0, .aload_n 0), (1, .getfield 42), (4, .iload_n 1), (5, .invokevirtual 190), (8, .ifCond .eq 14), (11, .aload_n 0), (12, .getfield 42), (15, .iload_n 2), (16, .invokevirtual 190), (19, .ifCond .ne 9), (22, .aload_n 0), (23, .iconst 0), (24, .invokevirtual 225), (27, .ireturn), (28, .iload_n 1), (29, .iload_n 2), (30, .if_icmp .ne 9)]), (1, [(33, .aload_n 0), (34, .iconst 1), (35, .invokevirtual 225), (38, .ireturn), (39, .aload_n 0), (40, .getfield 49), (43, .getfield 187), (46, .iconst 1), (47, .if_icmp .ge 9), (50, .aload_n 0), (51, .iconst 3), (52, .invokevirtual 225), (55, .ireturn), (56, .aload_n 0), (57, .getfield 66), (60, .aload_n 0), (61, .getfield 49)]), (2, [(64, .invokevirtual 231), (67, .aload_n 0), (68, .getfield 49), (71, .dup), (72, .getfield 187), (75, .iconst 1), (76, .isub), (77, .putfield 187), (80, .aload_n 0), (81, .iload_n 1), (82, .iload_n 2), (83, .invokevirtual 234), (86, .aload_n 0), (87, .getfield 49), (90, .getfield 219), (93, .iload_n 1), (94, .iaload), (95, .ireturn)])]
def yI94 : List (Nat × List (Nat × Instr)) := [(0, [(0, .aload_n 0), (1, .getfield 42), (4, .iload_n 1), (5, .invokevirtual 190), (8, .ifCond .ne 9), (11, .aload_n 0), (12, .iconst 0), (13, .invokevirtual 225), (16, .ireturn), (17, .aload_n 0), (18, .getfield 49), (21, .getfield 207), (24, .iload_n 1), (25, .iaload), (26, .bipush 9), (28, .if_icmp .lt 9), (31, .aload_n 0)]), (1, [(32, .iconst 2), (33, .invokevirtual 225), (36, .ireturn), (37, .aload_n 0), (38, .getfield 49), (41, .getfield 187), (44, .iconst 2), (45, .if_icmp .ge 9), (48, .aload_n 0), (49, .iconst 3), (50, .invokevirtual 225), (53, .ireturn), (54, .aload_n 0), (55, .getfield 66), (58, .aload_n 0), (59, .getfield 49), (62, .invokevirtual 231)]), (2, [(65, .aload_n 0), (66, .getfield 49), (69, .dup), (70, .getfield 187), (73, .iconst 2), (74, .isub), (75, .putfield 187), (78, .aload_n 0), (79, .getfield 49), (82, .getfield 207), (85, .iload_n 1), (86, .dup2), (87, .iaload), (88, .iconst 1), (89, .iadd), (90, .iastore), (91, .aload_n 0), (92, .getfield 49), (95, .getfield 207)]), (3, [(98, .iload_n 1), (99, .iaload), (100, .ireturn)])]
def yI95 : List (Nat × List (Nat × Instr)) := [(0, [(0, .aload_n 0), (1, .getfield 66), (4, .getfield 176), (7, .ifCond .ne 5), (10, .iconst (-1)), (11, .ireturn), (12, .aload_n 0), (13, .getfield 66), (16, .aload_n 0), (17, .getfield 49), (20, .invokevirtual 257), (23, .aload_n 0), (24, .getfield 66), (27, .getfield 176), (30, .ireturn)])]
def yI96 : List (Nat × List (Nat × Instr)) := [(0, [(0, .aload_n 0), (1, .getfield 42), (4, .iload_n 1), (5, .invokevirtual 190), (8, .ifCond .ne 5), (11, .iconst (-1)), (12, .ireturn), (13, .aload_n 0), (14, .getfield 49), (17, .iload_n 1), (18, .aload_n 0), (19, .getfield 42), (22, .getfield 153), (25, .invokevirtual 384), (28, .ireturn)])]
def yI97 : List (Nat × List (Nat × Instr)) := [(0, [(0, .aload_n 0), (1, .invokevirtual 178), (4, .ifCond .eq 15), (7, .iload_n 1), (8, .invokestatic 330), (11, .ifCond .eq 8), (14, .iload_n 2), (15, .iconst (-1)), (16, .if_icmp .ge 5), (19, .iconst (-1)), (20, .ireturn), (21, .aload_n 0), (22, .getfield 94), (25, .iload_n 1), (26, .invokevirtual 333), (29, .iload_n 2), (30, .iconst (-1)), (31, .if_icmp .ne 11)]), (1, [(34, .aload_n 0), (35, .getfield 94), (38, .getfield 336), (41, .ireturn), (42, .iload_n 2), (43, .aload_n 0), (44, .getfield 94), (47, .getfield 336), (50, .if_icmp .ge 15), (53, .aload_n 0), (54, .getfield 94), (57, .getfield 337), (60, .iload_n 2), (61, .iaload), (62, .goto 4)]), (2, [(65, .iconst (-1)), (66, .ireturn)])]
def yI98 : List (Nat × List (Nat × Instr)) := [(0, [(0, .aload_n 0), (1, .invokevirtual 178), (4, .ifCond .eq 29), (7, .iload_n 1), (8, .iconst 1), (9, .if_icmp .lt 24), (12, .iload_n 1), (13, .bipush 60), (15, .if_icmp .gt 18), (18, .aload_n 0), (19, .getfield 49), (22, .getfield 238), (25, .iload_n 1), (26, .iadd), (27, .sipush 999), (30, .if_icmp .le 5)]), (1, [(33, .iconst (-1)), (34, .ireturn), (35, .aload_n 0), (36, .lload_n 2), (37, .putfield 121), (40, .iconst 0), (41, .istore 4), (43, .iload 4), (45, .iload_n 1), (46, .if_icmp .ge 39), (49, .aload_n 0), (50, .getfield 66), (53, .aload_n 0), (54, .getfield 49), (57, .invokevirtual 231), (60, .aload_n 0), (61, .invokevirtual 244)]), (2, [(64, .aload_n 0), (65, .invokevirtual 247), (68, .aload_n 0), (69, .getfield 75), (72, .aload_n 0), (73, .getfield 49), (76, .invokevirtual 241), (79, .iinc 4 1), (82, .goto (-39)), (85, .aload_n 0), (86, .getfield 49), (89, .getfield 238), (92, .ireturn)])]
def yI99 : List (Nat × List (Nat × Instr)) := [(0, [(0, .iload_n 0), (1, .iload_n 1), (2, .if_icmp .lt 12), (5, .iload_n 0), (6, .iload_n 2), (7, .if_icmp .gt 7), (10, .iconst 1), (11, .goto 4), (14, .iconst 0), (15, .ireturn)])]
def yI100 : List (Nat × List (Nat × Instr)) := [(0, [(0, .iload_n 1), (1, .iconst 1), (2, .bipush 60), (4, .invokestatic 229), (7, .ifCond .eq 22), (10, .aload_n 0), (11, .getfield 52), (14, .bipush 38), (16, .iaload), (17, .iload_n 1), (18, .iadd), (19, .sipush 999), (22, .if_icmp .gt 7), (25, .iconst 1), (26, .goto 4), (29, .iconst 0), (30, .ireturn)])]
def yI101 : List (Nat × List (Nat × Instr)) := [(0, [(0, .iload_n 1), (1, .iconst 0), (2, .aload_n 0), (3, .getfield 270), (6, .iconst 1), (7, .isub), (8, .invokestatic 229), (11, .ireturn)])]
def yI102 : List (Nat × List (Nat × Instr)) := [(0, [(0, .aload_n 0), (1, .iload_n 1), (2, .invokevirtual 342), (5, .ifCond .eq 20), (8, .aload_n 0), (9, .iload_n 2), (10, .invokevirtual 342), (13, .ifCond .eq 12), (16, .iload_n 1), (17, .iload_n 2), (18, .if_icmp .eq 7), (21, .iconst 1), (22, .goto 4), (25, .iconst 0), (26, .ireturn)])]
def yI103 : List (Nat × List (Nat × Instr)) := [(0, [(0, .aload_n 0), (1, .getfield 270), (4, .ifCond .le 23), (7, .iload_n 1), (8, .iconst 0), (9, .aload_n 0), (10, .getfield 46), (13, .iconst 0), (14, .iaload), (15, .iconst 1), (16, .isub), (17, .invokestatic 229), (20, .ifCond .eq 7), (23, .iconst 1), (24, .goto 4), (27, .iconst 0), (28, .ireturn)])]
def yI104 : List (Nat × List (Nat × Instr)) := [(0, [(0, .iload_n 1), (1, .iconst (-1)), (2, .if_icmp .eq 13), (5, .aload_n 0), (6, .getfield 55), (9, .iload_n 1), (10, .dup2), (11, .iaload), (12, .iconst 1), (13, .iadd), (14, .iastore), (15, .iload_n 1), (16, .iconst (-1)), (17, .if_icmp .eq 7), (20, .iconst 1), (21, .goto 4), (24, .iconst 0), (25, .ireturn)])]
def yI105 : List (Nat × List (Nat × Instr)) := [(0, [(0, .aload_n 0), (1, .getfield 285), (4, .bipush 40), (6, .if_icmp .ne 46), (9, .sipush 220), (12, .istore_n 1), (13, .iload_n 1), (14, .sipush 8800), (17, .if_icmp .ge 25), (20, .aload_n 0), (21, .getfield 80), (24, .iload_n 1), (25, .sipush 220), (28, .isub), (29, .aload_n 0), (30, .getfield 80)]), (1, [(33, .iload_n 1), (34, .iaload), (35, .iastore), (36, .iinc 1 1), (39, .goto (-26)), (42, .aload_n 0), (43, .dup), (44, .getfield 285), (47, .iconst 1), (48, .isub), (49, .putfield 285), (52, .iconst 0), (53, .istore_n 1), (54, .iload_n 1), (55, .sipush 220), (58, .if_icmp .ge 30), (61, .aload_n 0), (62, .getfield 80)]), (2, [(65, .sipush 220), (68, .aload_n 0), (69, .getfield 285), (72, .imul), (73, .iload_n 1), (74, .iadd), (75, .aload_n 0), (76, .getfield 52), (79, .iload_n 1), (80, .iaload), (81, .iastore), (82, .iinc 1 1), (85, .goto (-31)), (88, .aload_n 0), (89, .dup), (90, .getfield 285), (93, .iconst 1), (94, .iadd), (95, .putfield 285)]), (3, [(98, .return_)])]
def yI106 : List (Nat × List (Nat × Instr)) := [(0, [(0, .aload_n 0), (1, .aload_n 0), (2, .iload_n 1), (3, .invokevirtual 342), (6, .ifCond .ne 7), (9, .iconst 0), (10, .goto 32), (13, .aload_n 0), (14, .iload_n 2), (15, .invokevirtual 345), (18, .ifCond .ne 7), (21, .iconst 1), (22, .goto 20), (25, .aload_n 0), (26, .getfield 52), (29, .iconst 0), (30, .iload_n 1), (31, .iadd)]), (1, [(32, .iaload), (33, .iload_n 2), (34, .if_icmp .ne 7), (37, .iconst 2), (38, .goto 4), (41, .iconst (-1)), (42, .invokevirtual 348), (45, .ifCond .eq 5), (48, .iconst (-1)), (49, .ireturn), (50, .aload_n 0), (51, .invokevirtual 351), (54, .aload_n 0), (55, .getfield 52), (58, .iconst 0), (59, .iload_n 1), (60, .iadd), (61, .iaload), (62, .istore_n 3), (63, .aload_n 0)]), (2, [(64, .getfield 52), (67, .iconst 0), (68, .iload_n 1), (69, .iadd), (70, .iload_n 2), (71, .iastore), (72, .iload_n 3), (73, .ireturn)])]
def yI107 : List (Nat × List (Nat × Instr)) := [(0, [(0, .aload_n 0), (1, .getfield 49), (4, .iconst 4), (5, .iload_n 1), (6, .imul), (7, .iload_n 2), (8, .iadd), (9, .iaload), (10, .ireturn)])]
def yI108 : List (Nat × List (Nat × Instr)) := [(0, [(0, .iconst 0), (1, .istore_n 1), (2, .iload_n 1), (3, .bipush 39), (5, .if_icmp .ge 16), (8, .aload_n 0), (9, .getfield 52), (12, .iload_n 1), (13, .iconst 0), (14, .iastore), (15, .iinc 1 1), (18, .goto (-16)), (21, .iconst 0), (22, .istore_n 1), (23, .iload_n 1), (24, .aload_n 0), (25, .getfield 270), (28, .if_icmp .ge 63), (31, .aload_n 0)]), (1, [(32, .getfield 52), (35, .iconst 0), (36, .iload_n 1), (37, .iadd), (38, .aload_n 0), (39, .iload_n 1), (40, .iconst 3), (41, .invokevirtual 273), (44, .iastore), (45, .aload_n 0), (46, .getfield 52), (49, .bipush 6), (51, .iload_n 1), (52, .iadd), (53, .aload_n 0), (54, .iload_n 1), (55, .iconst 2), (56, .invokevirtual 273), (59, .iastore), (60, .aload_n 0), (61, .getfield 52)]), (2, [(64, .bipush 12), (66, .iload_n 1), (67, .iadd), (68, .aload_n 0), (69, .iload_n 1), (70, .iconst 1), (71, .invokevirtual 273), (74, .iastore), (75, .aload_n 0), (76, .getfield 52), (79, .bipush 30), (81, .iload_n 1), (82, .iadd), (83, .iload_n 1), (84, .iastore), (85, .iinc 1 1), (88, .goto (-65)), (91, .aload_n 0), (92, .getfield 52), (95, .bipush 36)]), (3, [(97, .aload_n 0), (98, .getfield 46), (101, .iconst 2), (102, .iaload), (103, .iastore), (104, .return_)])]
def yI109 : List (Nat × List (Nat × Instr)) := [(0, [(0, .iload 5), (2, .iconst 4), (3, .if_icmp .ge 7), (6, .iload_n 0), (7, .goto 38), (10, .iload 5), (12, .bipush 8), (14, .if_icmp .ge 7), (17, .iload_n 1), (18, .goto 27), (21, .iload 5), (23, .bipush 12), (25, .if_icmp .ge 7), (28, .iload_n 2), (29, .goto 16)]), (1, [(32, .iload 5), (34, .bipush 16), (36, .if_icmp .ge 7), (39, .iload_n 3), (40, .goto 5), (43, .iload 4), (45, .istore 6), (47, .iload 6), (49, .bipush 24), (51, .bipush 8), (53, .iload 5), (55, .iconst 4), (56, .irem), (57, .imul), (58, .isub), (59, .ishr), (60, .sipush 255), (63, .iand)]), (2, [(64, .ireturn)])]
def yI110 : List (Nat × List (Nat × Instr)) := [(0, [(0, .iconst 0), (1, .istore_n 2), (2, .iconst 0), (3, .istore_n 3), (4, .iload_n 3), (5, .aload_n 0), (6, .getfield 270), (9, .if_icmp .ge 20), (12, .iload_n 2), (13, .aload_n 0), (14, .getfield 52), (17, .iload_n 1), (18, .iload_n 3), (19, .iadd), (20, .iaload), (21, .iadd), (22, .istore_n 2), (23, .iinc 3 1), (26, .goto (-22)), (29, .iload_n 2), (30, .ireturn)])]
def yI111 : List (Nat × List (Nat × Instr)) := [(0, [(0, .iload_n 1), (1, .tableswitch 133 0 11 #[63, 68, 73, 78, 83, 91, 98, 105, 110, 115, 120, 128])]), (2, [(64, .aload_n 0), (65, .getfield 270), (68, .ireturn), (69, .aload_n 0), (70, .getfield 295), (73, .ireturn), (74, .aload_n 0), (75, .getfield 121), (78, .ireturn), (79, .aload_n 0), (80, .getfield 58), (83, .ireturn), (84, .aload_n 0), (85, .getfield 52), (88, .bipush 38), (90, .iaload), (91, .ireturn), (92, .aload_n 0), (93, .bipush 18), (95, .invokevirtual 447)]), (3, [(98, .ireturn), (99, .aload_n 0), (100, .bipush 24), (102, .invokevirtual 447), (105, .ireturn), (106, .aload_n 0), (107, .getfield 363), (110, .ireturn), (111, .aload_n 0), (112, .getfield 279), (115, .ireturn), (116, .aload_n 0), (117, .getfield 282), (120, .ireturn), (121, .aload_n 0), (122, .getfield 52), (125, .bipush 39), (127, .iaload)]), (4, [(128, .ireturn), (129, .aload_n 0), (130, .getfield 285), (133, .ireturn), (134, .ldc_w 377), (137, .ireturn)])]
def yI112 : List (Nat × List (Nat × Instr)) := [(0, [(0, .aload_n 0), (1, .aload_n 0), (2, .iload_n 1), (3, .invokevirtual 342), (6, .ifCond .ne 7), (9, .iconst 0), (10, .goto 35), (13, .aload_n 0), (14, .getfield 52), (17, .bipush 12), (19, .iload_n 1), (20, .iadd), (21, .iaload), (22, .ifCond .ne 7), (25, .iconst 2), (26, .goto 19), (29, .aload_n 0), (30, .getfield 52)]), (1, [(33, .bipush 36), (35, .iaload), (36, .iconst 3), (37, .if_icmp .ge 7), (40, .iconst 3), (41, .goto 4), (44, .iconst (-1)), (45, .invokevirtual 348), (48, .ifCond .eq 5), (51, .iconst (-1)), (52, .ireturn), (53, .aload_n 0), (54, .invokevirtual 351), (57, .aload_n 0), (58, .getfield 52), (61, .bipush 12), (63, .iload_n 1)]), (2, [(64, .iadd), (65, .dup2), (66, .iaload), (67, .iconst 1), (68, .isub), (69, .iastore), (70, .aload_n 0), (71, .getfield 52), (74, .bipush 36), (76, .dup2), (77, .iaload), (78, .iconst 3), (79, .isub), (80, .iastore), (81, .aload_n 0), (82, .getfield 52), (85, .bipush 12), (87, .iload_n 1), (88, .iadd), (89, .iaload), (90, .ireturn)])]
def yI113 : List (Nat × List (Nat × Instr)) := [(0, [(0, .iload_n 1), (1, .ifCond .lt 11), (4, .iload_n 1), (5, .aload_n 0), (6, .getfield 121), (9, .if_icmp .le 5), (12, .iconst 0), (13, .ireturn), (14, .aload_n 0), (15, .iload_n 1), (16, .putfield 121), (19, .iconst 1), (20, .ireturn)])]
def yI114 : List (Nat × List (Nat × Instr)) := [(0, [(0, .iload_n 0), (1, .iload_n 1), (2, .ishr), (3, .iconst 1), (4, .iand), (5, .iconst 1), (6, .if_icmp .ne 7), (9, .iconst 1), (10, .goto 4), (13, .iconst 0), (14, .ireturn)])]
def yI115 : List (Nat × List (Nat × Instr)) := [(0, [(0, .aload_n 0), (1, .getfield 270), (4, .ifCond .ne 5), (7, .iconst (-1)), (8, .ireturn), (9, .iconst 0), (10, .istore_n 1), (11, .iload_n 1), (12, .sipush 220), (15, .if_icmp .ge 21), (18, .aload_n 0), (19, .getfield 111), (22, .iload_n 1), (23, .aload_n 0), (24, .getfield 52), (27, .iload_n 1), (28, .iaload), (29, .iastore), (30, .iinc 1 1)]), (1, [(33, .goto (-22)), (36, .aload_n 0), (37, .iconst 1), (38, .putfield 288), (41, .aload_n 0), (42, .getfield 52), (45, .bipush 38), (47, .iaload), (48, .ireturn)])]
def yI116 : List (Nat × List (Nat × Instr)) := [(0, [(0, .iconst 1), (1, .istore_n 2), (2, .iconst 0), (3, .istore_n 3), (4, .iload_n 3), (5, .iload_n 1), (6, .if_icmp .ge 58), (9, .aload_n 0), (10, .iload_n 1), (11, .invokevirtual 301), (14, .iload_n 3), (15, .if_icmp .eq 12), (18, .aload_n 0), (19, .iload_n 3), (20, .invokevirtual 301), (23, .iload_n 1), (24, .if_icmp .ne 7), (27, .iconst 1), (28, .goto 4), (31, .iconst 0)]), (1, [(32, .istore 4), (34, .iload_n 2), (35, .ifCond .eq 21), (38, .iload 4), (40, .ifCond .eq 12), (43, .aload_n 0), (44, .iload_n 1), (45, .iload_n 3), (46, .invokevirtual 395), (49, .ifCond .eq 7), (52, .iconst 1), (53, .goto 4), (56, .iconst 0), (57, .istore_n 2), (58, .iinc 3 1), (61, .goto (-57))]), (2, [(64, .iload_n 2), (65, .ireturn)])]
def yI117 : List (Nat × List (Nat × Instr)) := [(0, [(0, .iload_n 2), (1, .aload_n 0), (2, .getfield 52), (5, .iconst 0), (6, .iload_n 1), (7, .iadd), (8, .iaload), (9, .aload_n 0), (10, .getfield 52), (13, .iconst 0), (14, .iload_n 1), (15, .iadd), (16, .iaload), (17, .aload_n 0), (18, .iload_n 1), (19, .iconst 0), (20, .invokevirtual 273), (23, .iadd), (24, .iconst 1), (25, .isub), (26, .invokestatic 229), (29, .ireturn)])]
def yI118 : List (Nat × List (Nat × Instr)) := [(0, [(0, .aload_n 0), (1, .getfield 270), (4, .ifCond .le 17), (7, .iload_n 1), (8, .iconst 1), (9, .bipush 9), (11, .invokestatic 229), (14, .ifCond .eq 7), (17, .iconst 1), (18, .goto 4), (21, .iconst 0), (22, .ireturn)])]
def yI119 : List (Nat × List (Nat × Instr)) := [(0, [(0, .iload_n 1), (1, .bipush 9), (3, .if_icmp .eq 11), (6, .aload_n 0), (7, .iload_n 1), (8, .invokevirtual 342), (11, .ifCond .eq 7), (14, .iconst 1), (15, .goto 4), (18, .iconst 0), (19, .ireturn)])]
def yI120 : List (Nat × List (Nat × Instr)) := [(0, [(0, .iload_n 1), (1, .iconst (-1)), (2, .aload_n 0), (3, .getfield 295), (6, .iconst 1), (7, .isub), (8, .invokestatic 229), (11, .ifCond .ne 5), (14, .iconst 0), (15, .ireturn), (16, .aload_n 0), (17, .iload_n 1), (18, .putfield 58), (21, .iconst 1), (22, .ireturn)])]
def yI121 : List (Nat × List (Nat × Instr)) := [(0, [(0, .aload_n 0), (1, .aload_n 0), (2, .iload_n 1), (3, .invokevirtual 342), (6, .ifCond .eq 17), (9, .iload_n 2), (10, .iconst 0), (11, .bipush 6), (13, .invokestatic 229), (16, .ifCond .eq 7), (19, .iconst 0), (20, .goto 4), (23, .iconst 1), (24, .putfield 114), (27, .aload_n 0), (28, .getfield 114), (31, .iconst 1)]), (1, [(32, .if_icmp .ne 5), (35, .iconst 0), (36, .ireturn), (37, .iload_n 2), (38, .tableswitch 94 0 5 #[38, 45, 55, 65, 74, 84])]), (2, [(76, .aload_n 0), (77, .iload_n 1), (78, .iconst 0), (79, .invokevirtual 273), (82, .ireturn), (83, .aload_n 0), (84, .getfield 52), (87, .bipush 12), (89, .iload_n 1), (90, .iadd), (91, .iaload), (92, .ireturn), (93, .aload_n 0), (94, .getfield 52)]), (3, [(97, .bipush 6), (99, .iload_n 1), (100, .iadd), (101, .iaload), (102, .ireturn), (103, .aload_n 0), (104, .getfield 52), (107, .iconst 0), (108, .iload_n 1), (109, .iadd), (110, .iaload), (111, .ireturn), (112, .aload_n 0), (113, .getfield 52), (116, .bipush 18), (118, .iload_n 1), (119, .iadd), (120, .iaload), (121, .ireturn), (122, .aload_n 0), (123, .getfield 52), (126, .bipush 24)]), (4, [(128, .iload_n 1), (129, .iadd), (130, .iaload), (131, .ireturn), (132, .aload_n 0), (133, .getfield 52), (136, .bipush 30), (138, .iload_n 1), (139, .iadd), (140, .iaload), (141, .ireturn)])]
def yI122 : List (Nat × List (Nat × Instr)) := [(0, [(0, .iconst 0), (1, .istore_n 2), (2, .iload_n 2), (3, .aload_n 0), (4, .getfield 270), (7, .if_icmp .ge 24), (10, .aload_n 0), (11, .getfield 52), (14, .bipush 30), (16, .iload_n 2), (17, .iadd), (18, .iaload), (19, .iload_n 1), (20, .if_icmp .ne 5), (23, .iload_n 2), (24, .ireturn), (25, .iinc 2 1), (28, .goto (-26)), (31, .iconst (-1))]), (1, [(32, .ireturn)])]
def yI123 : List (Nat × List (Nat × Instr)) := [(0, [(0, .iconst 0), (1, .istore_n 3), (2, .iconst 1), (3, .istore 4), (5, .iload 4), (7, .aload_n 0), (8, .getfield 270), (11, .if_icmp .ge 40), (14, .iload_n 2), (15, .aload_n 0), (16, .getfield 52), (19, .iload_n 1), (20, .iload 4), (22, .iadd), (23, .iaload), (24, .imul), (25, .iload_n 2), (26, .aload_n 0), (27, .getfield 52), (30, .iload_n 1), (31, .iload_n 3)]), (1, [(32, .iadd), (33, .iaload), (34, .imul), (35, .if_icmp .le 8), (38, .iload 4), (40, .goto 4), (43, .iload_n 3), (44, .istore_n 3), (45, .iinc 4 1), (48, .goto (-43)), (51, .iload_n 3), (52, .ireturn)])]
def yI124 : List (Nat × List (Nat × Instr)) := [(0, [(0, .aload_n 0), (1, .iload_n 1), (2, .putfield 134), (5, .aload_n 0), (6, .iconst 0), (7, .putfield 124), (10, .aload_n 0), (11, .iconst (-1)), (12, .putfield 131), (15, .aload_n 0), (16, .iconst 0), (17, .putfield 137), (20, .aload_n 0), (21, .getfield 19), (24, .iload_n 1), (25, .iconst 0), (26, .iastore), (27, .aload_n 0), (28, .getfield 22), (31, .iload_n 1)]), (1, [(32, .iconst 0), (33, .iastore), (34, .return_)])]
def yI125 : List (Nat × List (Nat × Instr)) := [(0, [(0, .aload_n 0), (1, .getfield 270), (4, .ifCond .eq 12), (7, .iload_n 1), (8, .iconst 0), (9, .iconst 2), (10, .invokestatic 229), (13, .ifCond .ne 7), (16, .iconst (-1)), (17, .goto 24), (20, .iload_n 1), (21, .iconst 2), (22, .if_icmp .ne 13), (25, .aload_n 0), (26, .getfield 52), (29, .bipush 36), (31, .iaload)]), (1, [(32, .goto 9), (35, .aload_n 0), (36, .getfield 46), (39, .iload_n 1), (40, .iaload), (41, .ireturn)])]
def yI126 : List (Nat × List (Nat × Instr)) := [(0, [(0, .aload_n 0), (1, .iload_n 1), (2, .iload_n 2), (3, .invokevirtual 432), (6, .ifCond .eq 12), (9, .aload_n 0), (10, .getfield 282), (13, .bipush 10), (15, .if_icmp .ne 5), (18, .iconst (-1)), (19, .ireturn), (20, .aload_n 0), (21, .getfield 102), (24, .aload_n 0), (25, .getfield 282), (28, .iload_n 1), (29, .iastore), (30, .aload_n 0), (31, .getfield 105)]), (1, [(34, .aload_n 0), (35, .getfield 282), (38, .iload_n 2), (39, .iastore), (40, .aload_n 0), (41, .getfield 108), (44, .aload_n 0), (45, .getfield 282), (48, .iload_n 3), (49, .bastore), (50, .aload_n 0), (51, .dup), (52, .getfield 282), (55, .iconst 1), (56, .iadd), (57, .putfield 282), (60, .aload_n 0), (61, .getfield 282)]), (2, [(64, .ireturn)])]
def yI127 : List (Nat × List (Nat × Instr)) := [(0, [(0, .aload_n 0), (1, .iload_n 1), (2, .invokevirtual 342), (5, .ifCond .eq 22), (8, .iload_n 2), (9, .iconst 0), (10, .bipush 9), (12, .invokestatic 229), (15, .ifCond .eq 12), (18, .aload_n 0), (19, .getfield 279), (22, .bipush 10), (24, .if_icmp .ne 5), (27, .iconst (-1)), (28, .ireturn), (29, .aload_n 0), (30, .getfield 86)]), (1, [(33, .aload_n 0), (34, .getfield 279), (37, .iload_n 1), (38, .iastore), (39, .aload_n 0), (40, .getfield 89), (43, .aload_n 0), (44, .getfield 279), (47, .iload_n 2), (48, .iastore), (49, .aload_n 0), (50, .getfield 92), (53, .aload_n 0), (54, .getfield 279), (57, .iload_n 3), (58, .bastore), (59, .aload_n 0), (60, .dup), (61, .getfield 279)]), (2, [(64, .iconst 1), (65, .iadd), (66, .putfield 279), (69, .aload_n 0), (70, .getfield 279), (73, .ireturn)])]
def yI128 : List (Nat × List (Nat × Instr)) := [(0, [(0, .iload_n 1), (1, .iconst 0), (2, .bipush 9), (4, .invokestatic 229), (7, .ifCond .eq 11), (10, .iload_n 1), (11, .aload_n 0), (12, .getfield 363), (15, .if_icmp .ne 5), (18, .iconst 0), (19, .ireturn), (20, .aload_n 0), (21, .iload_n 1), (22, .putfield 363), (25, .iconst 1), (26, .ireturn)])]
def yI129 : List (Nat × List (Nat × Instr)) := [(0, [(0, .aload_n 0), (1, .iload_n 1), (2, .invokevirtual 342), (5, .ifCond .eq 19), (8, .aload_n 0), (9, .getfield 46), (12, .iconst 0), (13, .iaload), (14, .aload_n 0), (15, .iload_n 1), (16, .iconst 0), (17, .invokevirtual 273), (20, .isub), (21, .goto 4), (24, .iconst (-1)), (25, .ireturn)])]
def yI130 : List (Nat × List (Nat × Instr)) := [(0, [(0, .iload_n 1), (1, .iconst 0), (2, .iconst 4), (3, .invokestatic 229), (6, .ifCond .eq 12), (9, .aload_n 0), (10, .getfield 55), (13, .iload_n 1), (14, .iaload), (15, .goto 4), (18, .iconst (-1)), (19, .ireturn)])]
def yI131 : List (Nat × List (Nat × Instr)) := [(0, [(0, .aload_n 0), (1, .getfield 52), (4, .bipush 30), (6, .iload_n 1), (7, .iadd), (8, .iaload), (9, .istore_n 3), (10, .aload_n 0), (11, .getfield 52), (14, .bipush 30), (16, .iload_n 1), (17, .iadd), (18, .aload_n 0), (19, .getfield 52), (22, .bipush 30), (24, .iload_n 2), (25, .iadd), (26, .iaload), (27, .iastore), (28, .aload_n 0), (29, .getfield 52)]), (1, [(32, .bipush 30), (34, .iload_n 2), (35, .iadd), (36, .iload_n 3), (37, .iastore), (38, .return_)])]
def yI132 : List (Nat × List (Nat × Instr)) := [(0, [(0, .aload_n 0), (1, .aload_n 0), (2, .iload_n 1), (3, .invokevirtual 342), (6, .ifCond .eq 11), (9, .aload_n 0), (10, .iload_n 2), (11, .invokevirtual 342), (14, .ifCond .ne 7), (17, .iconst 0), (18, .goto 28), (21, .iload_n 1), (22, .iload_n 2), (23, .if_icmp .ne 7), (26, .iconst 1), (27, .goto 19), (30, .aload_n 0), (31, .getfield 52)]), (1, [(34, .bipush 36), (36, .iaload), (37, .iconst 1), (38, .if_icmp .ge 7), (41, .iconst 3), (42, .goto 4), (45, .iconst (-1)), (46, .invokevirtual 348), (49, .ifCond .eq 5), (52, .iconst (-1)), (53, .ireturn), (54, .aload_n 0), (55, .invokevirtual 351), (58, .aload_n 0), (59, .iload_n 1), (60, .iload_n 2), (61, .invokevirtual 354)]), (2, [(64, .aload_n 0), (65, .getfield 52), (68, .bipush 36), (70, .dup2), (71, .iaload), (72, .iconst 1), (73, .isub), (74, .iastore), (75, .aload_n 0), (76, .getfield 52), (79, .bipush 30), (81, .iload_n 1), (82, .iadd), (83, .iaload), (84, .ireturn)])]
def yI133 : List (Nat × List (Nat × Instr)) := [(0, [(0, .aload_n 0), (1, .aload_n 0), (2, .iload_n 1), (3, .invokevirtual 342), (6, .ifCond .ne 7), (9, .iconst 0), (10, .goto 37), (13, .aload_n 0), (14, .getfield 52), (17, .bipush 6), (19, .iload_n 1), (20, .iadd), (21, .iaload), (22, .bipush 9), (24, .if_icmp .ne 7), (27, .iconst 2), (28, .goto 19), (31, .aload_n 0)]), (1, [(32, .getfield 52), (35, .bipush 36), (37, .iaload), (38, .iconst 2), (39, .if_icmp .ge 7), (42, .iconst 3), (43, .goto 4), (46, .iconst (-1)), (47, .invokevirtual 348), (50, .ifCond .eq 5), (53, .iconst (-1)), (54, .ireturn), (55, .aload_n 0), (56, .invokevirtual 351), (59, .aload_n 0), (60, .getfield 52), (63, .bipush 6)]), (2, [(65, .iload_n 1), (66, .iadd), (67, .dup2), (68, .iaload), (69, .iconst 1), (70, .iadd), (71, .iastore), (72, .aload_n 0), (73, .getfield 52), (76, .bipush 36), (78, .dup2), (79, .iaload), (80, .iconst 2), (81, .isub), (82, .iastore), (83, .aload_n 0), (84, .getfield 52), (87, .bipush 6), (89, .iload_n 1), (90, .iadd), (91, .iaload), (92, .ireturn)])]
def yI134 : List (Nat × List (Nat × Instr)) := [(0, [(0, .aload_n 0), (1, .getfield 15), (4, .sipush 242), (7, .if_icmp .ge 23), (10, .aload_n 0), (11, .getfield 11), (14, .aload_n 0), (15, .getfield 15), (18, .iload_n 1), (19, .iastore), (20, .aload_n 0), (21, .dup), (22, .getfield 15), (25, .iconst 1), (26, .iadd), (27, .putfield 15), (30, .return_)])]
def yI135 : List (Nat × List (Nat × Instr)) := [(0, [(0, .iconst 0), (1, .istore_n 1), (2, .iload_n 1), (3, .aload_n 0), (4, .getfield 24), (7, .getfield 39), (10, .if_icmp .ge 43), (13, .aload_n 0), (14, .getfield 15), (17, .iload_n 1), (18, .iconst (-1)), (19, .iastore), (20, .aload_n 0), (21, .getfield 28), (24, .getfield 49), (27, .iload_n 1), (28, .iaload), (29, .istore_n 2), (30, .iload_n 2), (31, .ifCond .lt 16)]), (1, [(34, .iload_n 2), (35, .bipush 6), (37, .if_icmp .ge 10), (40, .aload_n 0), (41, .getfield 9), (44, .iload_n 2), (45, .iload_n 1), (46, .iastore), (47, .iinc 1 1), (50, .goto (-48)), (53, .return_)])]
def yI136 : List (Nat × List (Nat × Instr)) := [(0, [(0, .aload_n 0), (1, .getfield 28), (4, .getfield 90), (7, .iload_n 1), (8, .iaload), (9, .iload_n 2), (10, .if_icmp .ne 7), (13, .iconst 0), (14, .goto 4), (17, .iconst 1), (18, .ireturn)])]
def yI137 : List (Nat × List (Nat × Instr)) := [(0, [(0, .iload_n 2), (1, .aload_n 0), (2, .getfield 24), (5, .getfield 87), (8, .iload_n 1), (9, .iaload), (10, .iadd), (11, .aload_n 0), (12, .getfield 24), (15, .getfield 54), (18, .if_icmp .gt 27), (21, .aload_n 0), (22, .getfield 15), (25, .iload_n 1), (26, .iaload), (27, .iconst (-1)), (28, .if_icmp .eq 13), (31, .aload_n 0)]), (1, [(32, .getfield 15), (35, .iload_n 1), (36, .iaload), (37, .iload_n 2), (38, .if_icmp .ne 7), (41, .iconst 1), (42, .goto 4), (45, .iconst 0), (46, .ireturn)])]
def yI138 : List (Nat × List (Nat × Instr)) := [(0, [(0, .iload_n 0), (1, .iload_n 1), (2, .iload_n 2), (3, .getstatic 1053), (6, .invokestatic 1062), (9, .pop), (10, .return_)])]
def yI139 : List (Nat × List (Nat × Instr)) := [(0, [(0, .iload_n 0), (1, .bipush 10), (3, .iushr), (4, .ldc 110), (6, .iadd), (7, .i2c), (8, .ireturn)])]
def yI140 : List (Nat × List (Nat × Instr)) := [(0, [(0, .iload_n 0), (1, .bipush 16), (3, .iushr), (4, .istore_n 1), (5, .iload_n 1), (6, .bipush 17), (8, .if_icmp .ge 7), (11, .iconst 1), (12, .goto 4), (15, .iconst 0), (16, .ireturn)])]
def yI141 : List (Nat × List (Nat × Instr)) := [(0, [(0, .iload_n 0), (1, .sipush 1023), (4, .iand), (5, .ldc 76), (7, .iadd), (8, .i2c), (9, .ireturn)])]
def yI142 : List (Nat × List (Nat × Instr)) := [(0, [(0, .iload_n 0), (1, .iload_n 1), (2, .aload_n 2), (3, .invokestatic 48), (6, .invokestatic 241), (9, .return_)])]
def yI143 : List (Nat × List (Nat × Instr)) := [(0, [(0, .getstatic 44), (3, .ifCond .ne 25), (6, .iload_n 1), (7, .ifCond .lt 11), (10, .iload_n 1), (11, .aload_n 0), (12, .invokestatic 48), (15, .if_icmp .lt 13), (18, .new 52), (21, .dup), (22, .ldc 54), (24, .invokespecial 56), (27, .athrow), (28, .iload_n 1), (29, .iconst 1), (30, .ishl), (31, .istore_n 1)]), (1, [(32, .aload_n 0), (33, .iload_n 1), (34, .iinc 1 1), (37, .baload), (38, .sipush 255), (41, .iand), (42, .getstatic 59), (45, .ishl), (46, .aload_n 0), (47, .iload_n 1), (48, .baload), (49, .sipush 255), (52, .iand), (53, .getstatic 63), (56, .ishl), (57, .ior), (58, .i2c), (59, .ireturn)])]
def yI144 : List (Nat × List (Nat × Instr)) := [(0, [(0, .iload_n 2), (1, .istore 4), (3, .iload 4), (5, .iload_n 3), (6, .if_icmp .ge 22), (9, .aload_n 0), (10, .iload 4), (12, .invokestatic 71), (15, .iload_n 1), (16, .if_icmp .ne 6), (19, .iload 4), (21, .ireturn), (22, .iinc 4 1), (25, .goto (-22)), (28, .iconst (-1)), (29, .ireturn)])]
def yI145 : List (Nat × List (Nat × Instr)) := [(0, [(0, .iload_n 2), (1, .iload_n 3), (2, .aload_n 0), (3, .invokestatic 96), (6, .aload_n 0), (7, .iload_n 1), (8, .iload_n 2), (9, .iload_n 3), (10, .invokestatic 244), (13, .ireturn)])]
def yI146 : List (Nat × List (Nat × Instr)) := [(0, [(0, .iload_n 1), (1, .invokestatic 164), (4, .ifCond .eq 65), (7, .iload_n 1), (8, .invokestatic 157), (11, .istore 4), (13, .iload_n 1), (14, .invokestatic 161), (17, .istore 5), (19, .iload_n 2), (20, .iload_n 3), (21, .aload_n 0), (22, .invokestatic 96), (25, .iload_n 2), (26, .istore 6), (28, .iload 6), (30, .iload_n 3), (31, .iconst 1)]), (1, [(32, .isub), (33, .if_icmp .ge 36), (36, .aload_n 0), (37, .iload 6), (39, .invokestatic 71), (42, .iload 4), (44, .if_icmp .ne 19), (47, .aload_n 0), (48, .iload 6), (50, .iconst 1), (51, .iadd), (52, .invokestatic 71), (55, .iload 5), (57, .if_icmp .ne 6), (60, .iload 6), (62, .ireturn), (63, .iinc 6 1)]), (2, [(66, .goto (-38)), (69, .iconst (-1)), (70, .ireturn)])]
def yI147 : List (Nat × List (Nat × Instr)) := [(0, [(0, .iload_n 2), (1, .iconst 0), (2, .invokestatic 224), (5, .istore_n 2), (6, .iload_n 3), (7, .aload_n 0), (8, .arraylength), (9, .iconst 1), (10, .ishr), (11, .invokestatic 183), (14, .istore_n 3), (15, .iload_n 2), (16, .iload_n 3), (17, .if_icmp .lt 5), (20, .iconst (-1)), (21, .ireturn), (22, .iload_n 1), (23, .ldc 227), (25, .if_icmp .ge 11), (28, .aload_n 0), (29, .iload_n 1), (30, .iload_n 2), (31, .iload_n 3)]), (1, [(32, .invokestatic 228), (35, .ireturn), (36, .aload_n 0), (37, .iload_n 1), (38, .iload_n 2), (39, .iload_n 3), (40, .invokestatic 232), (43, .ireturn)])]
def yI148 : List (Nat × List (Nat × Instr)) := [(0, [(0, .aload_n 0), (1, .arraylength), (2, .iconst 1), (3, .ishr), (4, .ireturn)])]
def yI149 : List (Nat × List (Nat × Instr)) := [(0, [(0, .iload_n 0), (1, .ifCond .lt 13), (4, .iload_n 0), (5, .iload_n 1), (6, .if_icmp .gt 8), (9, .iload_n 1), (10, .iload_n 2), (11, .if_icmp .le 11), (14, .aload_n 3), (15, .iload_n 0), (16, .iload_n 1), (17, .iload_n 2), (18, .invokestatic 99), (21, .athrow), (22, .iload_n 0), (23, .ireturn)])]
def yI150 : List (Nat × List (Nat × Instr)) := [(0, [(0, .lload_n 0), (1, .lload_n 2), (2, .lcmp), (3, .ifCond .lt 7), (6, .lload_n 0), (7, .goto 4), (10, .lload_n 2), (11, .lreturn)])]
def yI151 : List (Nat × List (Nat × Instr)) := [(0, [(0, .lload_n 0), (1, .lload_n 2), (2, .lcmp), (3, .ifCond .gt 7), (6, .lload_n 0), (7, .goto 4), (10, .lload_n 2), (11, .lreturn)])]
def yI152 : List (Nat × List (Nat × Instr)) := [(0, [(0, .aload_n 0), (1, .getfield 49), (4, .aload_n 0), (5, .getfield 42), (8, .getfield 169), (11, .invokevirtual 172), (14, .aload_n 0), (15, .iconst 0), (16, .putfield 59), (19, .aload_n 0), (20, .getfield 66), (23, .iconst 0), (24, .putfield 176), (27, .aload_n 0), (28, .getfield 82), (31, .iconst 0)]), (1, [(32, .putfield 177), (35, .aload_n 0), (36, .getfield 86), (39, .iconst 0), (40, .putfield 177), (43, .return_)])]
def yI153 : List (Nat × List (Nat × Instr)) := [(0, [(0, .aload_n 0), (1, .getfield 111), (4, .iload_n 1), (5, .iaload), (6, .istore_n 3), (7, .aload_n 0), (8, .getfield 111), (11, .iload_n 1), (12, .aload_n 0), (13, .getfield 111), (16, .iload_n 2), (17, .iaload), (18, .iastore), (19, .aload_n 0), (20, .getfield 111), (23, .iload_n 2), (24, .iload_n 3), (25, .iastore), (26, .return_)])]
def yI154 : List (Nat × List (Nat × Instr)) := [(0, [(0, .iload_n 1), (1, .ifCond .eq 11), (4, .iload_n 1), (5, .iconst 1), (6, .if_icmp .eq 6), (9, .bipush (-2)), (11, .ireturn), (12, .iload_n 1), (13, .ifCond .ne 13), (16, .aload_n 0), (17, .getfield 21), (20, .invokevirtual 136), (23, .goto 10), (26, .aload_n 0), (27, .getfield 28), (30, .invokevirtual 140)]), (1, [(33, .istore_n 2), (34, .iload_n 2), (35, .ifCond .eq 7), (38, .iconst (-1)), (39, .goto 10), (42, .aload_n 0), (43, .getfield 10), (46, .getfield 143), (49, .ireturn)])]
def yI155 : List (Nat × List (Nat × Instr)) := [(0, [(0, .aload_n 0), (1, .getfield 42), (4, .getfield 153), (7, .iconst 2), (8, .isub), (9, .istore_n 1), (10, .iload_n 1), (11, .ifCond .le 26), (14, .aload_n 0), (15, .getfield 111), (18, .iload_n 1), (19, .iaload), (20, .aload_n 0), (21, .getfield 111), (24, .iload_n 1), (25, .iconst 1), (26, .iadd), (27, .iaload), (28, .if_icmp .le 9), (31, .iinc 1 (-1))]), (1, [(34, .goto (-24)), (37, .iload_n 1), (38, .ifCond .gt 5), (41, .iconst 0), (42, .ireturn), (43, .aload_n 0), (44, .getfield 42), (47, .getfield 153), (50, .iconst 1), (51, .isub), (52, .istore_n 2), (53, .iload_n 2), (54, .iload_n 1), (55, .if_icmp .le 24), (58, .aload_n 0), (59, .getfield 111), (62, .iload_n 2), (63, .iaload)]), (2, [(64, .aload_n 0), (65, .getfield 111), (68, .iload_n 1), (69, .iaload), (70, .if_icmp .ge 9), (73, .iinc 2 (-1)), (76, .goto (-23)), (79, .aload_n 0), (80, .iload_n 1), (81, .iload_n 2), (82, .invokevirtual 323), (85, .aload_n 0), (86, .getfield 42), (89, .getfield 153), (92, .iconst 1), (93, .isub), (94, .istore_n 3), (95, .iload_n 1)]), (3, [(96, .iconst 1), (97, .iadd), (98, .istore 4), (100, .iload 4), (102, .iload_n 3), (103, .if_icmp .ge 19), (106, .aload_n 0), (107, .iload 4), (109, .iload_n 3), (110, .invokevirtual 323), (113, .iinc 3 (-1)), (116, .iinc 4 1), (119, .goto (-19)), (122, .iconst 1), (123, .ireturn)])]
def yI156 : List (Nat × List (Nat × Instr)) := [(0, [(0, .aload_n 0), (1, .getfield 42), (4, .iload_n 1), (5, .invokevirtual 190), (8, .ifCond .eq 13), (11, .iload_n 2), (12, .ifCond .lt 9), (15, .iload_n 2), (16, .bipush 6), (18, .if_icmp .le 13), (21, .new 194), (24, .dup), (25, .ldc 196), (27, .invokespecial 198), (30, .athrow), (31, .iload_n 2)]), (1, [(32, .tableswitch 100 0 5 #[40, 50, 60, 70, 80, 90])]), (2, [(72, .aload_n 0), (73, .getfield 42), (76, .getfield 201), (79, .iload_n 1), (80, .iaload), (81, .ireturn), (82, .aload_n 0), (83, .getfield 49), (86, .getfield 204), (89, .iload_n 1), (90, .iaload), (91, .ireturn), (92, .aload_n 0), (93, .getfield 49)]), (3, [(96, .getfield 207), (99, .iload_n 1), (100, .iaload), (101, .ireturn), (102, .aload_n 0), (103, .getfield 49), (106, .getfield 210), (109, .iload_n 1), (110, .iaload), (111, .ireturn), (112, .aload_n 0), (113, .getfield 49), (116, .getfield 213), (119, .iload_n 1), (120, .iaload), (121, .ireturn), (122, .aload_n 0), (123, .getfield 49), (126, .getfield 216)]), (4, [(129, .iload_n 1), (130, .iaload), (131, .ireturn), (132, .aload_n 0), (133, .getfield 49), (136, .getfield 219), (139, .iload_n 1), (140, .iaload), (141, .ireturn)])]
def yI157 : List (Nat × List (Nat × Instr)) := [(0, [(0, .aload_n 0), (1, .invokevirtual 178), (4, .ifCond .eq 12), (7, .iload_n 1), (8, .ifCond .lt 8), (11, .iload_n 1), (12, .iconst 1), (13, .if_icmp .le 5), (16, .iconst (-1)), (17, .ireturn), (18, .aload_n 0), (19, .getfield 53), (22, .aload_n 0), (23, .getfield 49), (26, .invokevirtual 172), (29, .aload_n 0), (30, .invokevirtual 311)]), (1, [(33, .iconst (-1)), (34, .istore_n 2), (35, .iconst (-1)), (36, .istore_n 3), (37, .iconst 0), (38, .istore 4), (40, .iload 4), (42, .bipush 120), (44, .if_icmp .ge 48), (47, .aload_n 0), (48, .invokevirtual 314), (51, .istore 5), (53, .iload_n 3), (54, .iconst (-1)), (55, .if_icmp .eq 9), (58, .iload 5), (60, .iload_n 3), (61, .if_icmp .ge 11)]), (2, [(64, .iload 5), (66, .istore_n 3), (67, .aload_n 0), (68, .invokevirtual 317), (71, .istore_n 2), (72, .iload_n 3), (73, .ifCond .eq 19), (76, .aload_n 0), (77, .invokevirtual 320), (80, .ifCond .ne 6), (83, .goto 9), (86, .iinc 4 1), (89, .goto (-49)), (92, .iload_n 1), (93, .ifCond .ne 7)]), (3, [(96, .iload_n 2), (97, .goto 4), (100, .iload_n 3), (101, .ireturn)])]
def yI158 : List (Nat × List (Nat × Instr)) := [(0, [(0, .aload_n 0), (1, .invokevirtual 178), (4, .ifCond .eq 12), (7, .iload_n 1), (8, .ifCond .lt 8), (11, .iload_n 1), (12, .iconst 1), (13, .if_icmp .le 5), (16, .iconst (-1)), (17, .ireturn), (18, .iload_n 1), (19, .ifCond .ne 13), (22, .aload_n 0), (23, .getfield 103), (26, .invokevirtual 305), (29, .goto 10)]), (1, [(32, .aload_n 0), (33, .getfield 103), (36, .invokevirtual 308), (39, .ireturn)])]
def yI159 : List (Nat × List (Nat × Instr)) := [(0, [(0, .iload_n 1), (1, .ifCond .ne 44), (4, .aload_n 0), (5, .getfield 21), (8, .invokevirtual 136), (11, .ifCond .eq 34), (14, .aload_n 0), (15, .getfield 21), (18, .aload_n 0), (19, .getfield 42), (22, .invokevirtual 146), (25, .aload_n 0), (26, .invokevirtual 150), (29, .aload_n 0), (30, .getfield 10)]), (1, [(33, .iconst 0), (34, .putfield 129), (37, .aload_n 0), (38, .getfield 42), (41, .getfield 153), (44, .ireturn), (45, .iload_n 1), (46, .iconst 1), (47, .if_icmp .ne 54), (50, .aload_n 0), (51, .getfield 35), (54, .getfield 156), (57, .iconst 4), (58, .if_icmp .ge 43), (61, .aload_n 0), (62, .getfield 28)]), (2, [(65, .invokevirtual 140), (68, .ifCond .eq 33), (71, .aload_n 0), (72, .getfield 10), (75, .iconst 0), (76, .putfield 129), (79, .aload_n 0), (80, .getfield 35), (83, .aload_n 0), (84, .getfield 28), (87, .getfield 159), (90, .aload_n 0), (91, .getfield 28), (94, .getfield 162)]), (3, [(97, .invokevirtual 165), (100, .ireturn), (101, .iconst (-1)), (102, .ireturn)])]
def yI160 : List (Nat × List (Nat × Instr)) := [(0, [(0, .iconst 1), (1, .istore_n 3), (2, .iconst 0), (3, .istore 4), (5, .iload 4), (7, .aload_n 0), (8, .getfield 46), (11, .iconst 0), (12, .iaload), (13, .if_icmp .ge 39), (16, .iload_n 3), (17, .ifCond .eq 27), (20, .aload_n 0), (21, .iload_n 1), (22, .iload 4), (24, .invokevirtual 311), (27, .ifCond .eq 13), (30, .aload_n 0), (31, .iload_n 2)]), (1, [(32, .iload 4), (34, .invokevirtual 311), (37, .ifCond .ne 7), (40, .iconst 1), (41, .goto 4), (44, .iconst 0), (45, .istore_n 3), (46, .iinc 4 1), (49, .goto (-44)), (52, .iload_n 3), (53, .ireturn)])]
def yI161 : List (Nat × List (Nat × Instr)) := [(0, [(0, .aload_n 0), (1, .getfield 131), (4, .iconst (-1)), (5, .if_icmp .ne 15), (8, .aload_n 0), (9, .invokevirtual 143), (12, .iconst (-1)), (13, .if_icmp .eq 7), (16, .aload_n 0), (17, .invokevirtual 140), (20, .aload_n 0), (21, .getfield 131), (24, .ireturn)])]
def yI162 : List (Nat × List (Nat × Instr)) := [(0, [(0, .aload_n 0), (1, .invokevirtual 143), (4, .istore_n 1), (5, .iload_n 1), (6, .invokestatic 146), (9, .ifCond .eq 15), (12, .aload_n 0), (13, .iconst 0), (14, .aload_n 0), (15, .invokevirtual 150), (18, .invokevirtual 153), (21, .goto 68), (24, .iload_n 1), (25, .invokestatic 157), (28, .iconst (-1)), (29, .if_icmp .eq 25)]), (1, [(32, .aload_n 0), (33, .dup), (34, .getfield 124), (37, .iconst 1), (38, .iadd), (39, .putfield 124), (42, .aload_n 0), (43, .iconst 1), (44, .iload_n 1), (45, .invokestatic 157), (48, .invokevirtual 153), (51, .goto 38), (54, .iload_n 1), (55, .bipush 91), (57, .if_icmp .ne 28), (60, .aload_n 0), (61, .invokevirtual 161)]), (2, [(64, .aload_n 0), (65, .getfield 131), (68, .iconst (-1)), (69, .if_icmp .ne 20), (72, .aload_n 0), (73, .invokevirtual 164), (76, .aload_n 0), (77, .bipush 93), (79, .invokevirtual 167), (82, .goto 7), (85, .aload_n 0), (86, .invokevirtual 140), (89, .return_)])]
def yI163 : List (Nat × List (Nat × Instr)) := [(0, [(0, .aload_n 0), (1, .iload_n 1), (2, .invokevirtual 345), (5, .ifCond .ne 5), (8, .iconst (-1)), (9, .ireturn), (10, .aload_n 0), (11, .invokevirtual 336), (14, .aload_n 0), (15, .iload_n 1), (16, .invokevirtual 378), (19, .ireturn)])]
def yI164 : List (Nat × List (Nat × Instr)) := [(0, [(0, .iconst 0), (1, .istore_n 2), (2, .iconst 0), (3, .istore_n 3), (4, .iload_n 3), (5, .aload_n 0), (6, .getfield 270), (9, .if_icmp .ge 34), (12, .iload_n 2), (13, .aload_n 0), (14, .getfield 62), (17, .bipush 10), (19, .iload_n 3), (20, .imul), (21, .iload_n 1), (22, .iadd), (23, .iaload), (24, .iconst (-1)), (25, .if_icmp .ne 9), (28, .iconst 1), (29, .iload_n 3), (30, .ishl), (31, .goto 4)]), (1, [(34, .iconst 0), (35, .ior), (36, .istore_n 2), (37, .iinc 3 1), (40, .goto (-36)), (43, .iload_n 2), (44, .ireturn)])]
def yI165 : List (Nat × List (Nat × Instr)) := [(0, [(0, .aload_n 0), (1, .getfield 288), (4, .ifCond .ne 5), (7, .iconst (-1)), (8, .ireturn), (9, .iconst 0), (10, .istore_n 1), (11, .iload_n 1), (12, .sipush 220), (15, .if_icmp .ge 21), (18, .aload_n 0), (19, .getfield 52), (22, .iload_n 1), (23, .aload_n 0), (24, .getfield 111), (27, .iload_n 1), (28, .iaload), (29, .iastore), (30, .iinc 1 1)]), (1, [(33, .goto (-22)), (36, .aload_n 0), (37, .iconst 0), (38, .putfield 285), (41, .aload_n 0), (42, .getfield 52), (45, .bipush 38), (47, .iaload), (48, .ireturn)])]
def yI166 : List (Nat × List (Nat × Instr)) := [(0, [(0, .aload_n 0), (1, .aload_n 0), (2, .getfield 131), (5, .iconst (-1)), (6, .if_icmp .ne 10), (9, .aload_n 0), (10, .getfield 124), (13, .goto 7), (16, .aload_n 0), (17, .getfield 131), (20, .putfield 131), (23, .return_)])]
def yI167 : List (Nat × List (Nat × Instr)) := [(0, [(0, .aload_n 0), (1, .iload_n 1), (2, .invokevirtual 342), (5, .ifCond .eq 12), (8, .iload_n 2), (9, .iconst 0), (10, .iconst 1), (11, .invokestatic 229), (14, .ifCond .ne 5), (17, .iconst (-1)), (18, .ireturn), (19, .aload_n 0), (20, .getfield 52), (23, .iconst 0), (24, .iload_n 1), (25, .iadd), (26, .iaload), (27, .istore_n 3), (28, .iconst (-1)), (29, .istore 4), (31, .iconst 0)]), (1, [(32, .istore 5), (34, .iconst 0), (35, .istore 6), (37, .iload 6), (39, .aload_n 0), (40, .getfield 46), (43, .iconst 0), (44, .iaload), (45, .if_icmp .ge 52), (48, .aload_n 0), (49, .getfield 52), (52, .iconst 0), (53, .iload_n 1), (54, .iadd), (55, .iload 6), (57, .iastore), (58, .aload_n 0), (59, .invokevirtual 336), (62, .iload 4)]), (2, [(64, .iconst (-1)), (65, .if_icmp .eq 14), (68, .aload_n 0), (69, .getfield 71), (72, .iload_n 1), (73, .iaload), (74, .iload 5), (76, .if_icmp .ge 15), (79, .iload 6), (81, .istore 4), (83, .aload_n 0), (84, .getfield 71), (87, .iload_n 1), (88, .iaload), (89, .istore 5), (91, .iinc 6 1), (94, .goto (-57))]), (3, [(97, .aload_n 0), (98, .getfield 52), (101, .iconst 0), (102, .iload_n 1), (103, .iadd), (104, .iload_n 3), (105, .iastore), (106, .iload_n 2), (107, .ifCond .ne 8), (110, .iload 4), (112, .goto 5), (115, .iload 5), (117, .ireturn)])]
def yI168 : List (Nat × List (Nat × Instr)) := [(0, [(0, .ldc2_w 204), (3, .ldc2_w 206), (6, .lload_n 0), (7, .invokestatic 208), (10, .invokestatic 214), (13, .l2i), (14, .ireturn)])]
def yI169 : List (Nat × List (Nat × Instr)) := [(0, [(0, .sipush 140), (3, .aload_n 0), (4, .getfield 134), (7, .imul), (8, .aload_n 0), (9, .getfield 22), (12, .aload_n 0), (13, .getfield 134), (16, .iaload), (17, .iadd), (18, .istore_n 1), (19, .aload_n 0), (20, .getfield 131), (23, .iconst (-1)), (24, .if_icmp .ne 16), (27, .aload_n 0), (28, .invokevirtual 143), (31, .bipush 121)]), (1, [(33, .if_icmp .eq 7), (36, .aload_n 0), (37, .invokevirtual 140), (40, .aload_n 0), (41, .dup), (42, .getfield 124), (45, .iconst 1), (46, .iadd), (47, .putfield 124), (50, .aload_n 0), (51, .getfield 131), (54, .iconst (-1)), (55, .if_icmp .ne 16), (58, .aload_n 0), (59, .invokevirtual 143), (62, .bipush 58)]), (2, [(64, .if_icmp .eq 7), (67, .aload_n 0), (68, .invokevirtual 140), (71, .aload_n 0), (72, .dup), (73, .getfield 124), (76, .iconst 1), (77, .iadd), (78, .putfield 124), (81, .aload_n 0), (82, .getfield 131), (85, .iconst (-1)), (86, .if_icmp .eq 4), (89, .return_), (90, .aload_n 0), (91, .getfield 25), (94, .iload_n 1), (95, .aload_n 0)]), (3, [(96, .getfield 19), (99, .aload_n 0), (100, .getfield 134), (103, .iaload), (104, .iastore), (105, .aload_n 0), (106, .invokevirtual 143), (109, .bipush 33), (111, .if_icmp .eq 12), (114, .aload_n 0), (115, .invokevirtual 143), (118, .bipush 40), (120, .if_icmp .ne 7), (123, .iconst 1), (124, .goto 4), (127, .iconst 0)]), (4, [(128, .istore_n 2), (129, .iload_n 2), (130, .ifCond .eq 10), (133, .aload_n 0), (134, .invokevirtual 183), (137, .goto 47), (140, .aload_n 0), (141, .invokevirtual 164), (144, .aload_n 0), (145, .getfield 131), (148, .iconst (-1)), (149, .if_icmp .ne 17), (152, .aload_n 0), (153, .invokevirtual 143), (156, .invokestatic 177), (159, .ifCond .eq 7)]), (5, [(162, .iconst 1), (163, .goto 4), (166, .iconst 0), (167, .istore_n 2), (168, .iload_n 2), (169, .ifCond .eq 15), (172, .aload_n 0), (173, .invokevirtual 186), (176, .aload_n 0), (177, .invokevirtual 189), (180, .aload_n 0), (181, .invokevirtual 192), (184, .aload_n 0), (185, .getfield 28), (188, .iload_n 1), (189, .aload_n 0), (190, .getfield 25)]), (6, [(193, .iload_n 1), (194, .iaload), (195, .iastore), (196, .iload_n 2), (197, .ifCond .eq 54), (200, .aload_n 0), (201, .getfield 131), (204, .iconst (-1)), (205, .if_icmp .ne 46), (208, .aload_n 0), (209, .invokevirtual 143), (212, .bipush 63), (214, .if_icmp .eq 8), (217, .aload_n 0), (218, .invokevirtual 140), (221, .return_), (222, .aload_n 0), (223, .dup)]), (7, [(224, .getfield 124), (227, .iconst 1), (228, .iadd), (229, .putfield 124), (232, .aload_n 0), (233, .getfield 28), (236, .iload_n 1), (237, .aload_n 0), (238, .getfield 19), (241, .aload_n 0), (242, .getfield 134), (245, .iaload), (246, .iastore), (247, .aload_n 0), (248, .invokevirtual 164), (251, .aload_n 0), (252, .getfield 31), (255, .iload_n 1)]), (8, [(256, .aload_n 0), (257, .getfield 19), (260, .aload_n 0), (261, .getfield 134), (264, .iaload), (265, .iastore), (266, .aload_n 0), (267, .getfield 22), (270, .aload_n 0), (271, .getfield 134), (274, .dup2), (275, .iaload), (276, .iconst 1), (277, .iadd), (278, .iastore), (279, .return_)])]
def yI170 : List (Nat × List (Nat × Instr)) := [(0, [(0, .aload_n 0), (1, .getfield 131), (4, .iconst (-1)), (5, .if_icmp .ne 15), (8, .aload_n 0), (9, .invokevirtual 143), (12, .iload_n 1), (13, .if_icmp .eq 7), (16, .aload_n 0), (17, .invokevirtual 140), (20, .aload_n 0), (21, .dup), (22, .getfield 124), (25, .iconst 1), (26, .iadd), (27, .putfield 124), (30, .aload_n 0), (31, .dup)]), (1, [(32, .getfield 137), (35, .iconst 1), (36, .isub), (37, .putfield 137), (40, .return_)])]
def yI171 : List (Nat × List (Nat × Instr)) := [(0, [(0, .aload_n 0), (1, .getfield 131), (4, .iconst (-1)), (5, .if_icmp .ne 10), (8, .aload_n 0), (9, .invokevirtual 143), (12, .goto 4), (15, .iconst (-1)), (16, .istore_n 1), (17, .iload_n 1), (18, .invokestatic 177), (21, .ifCond .ne 8), (24, .aload_n 0), (25, .invokevirtual 140), (28, .return_), (29, .aload_n 0), (30, .dup), (31, .getfield 124)]), (1, [(34, .iconst 1), (35, .iadd), (36, .putfield 124), (39, .aload_n 0), (40, .invokevirtual 164), (43, .aload_n 0), (44, .iload_n 1), (45, .bipush 61), (47, .if_icmp .ne 8), (50, .bipush 6), (52, .goto 16), (55, .iload_n 1), (56, .bipush 60), (58, .if_icmp .ne 8), (61, .bipush 7), (63, .goto 5)]), (2, [(66, .bipush 8), (68, .iconst 0), (69, .invokevirtual 153), (72, .return_)])]
def yI172 : List (Nat × List (Nat × Instr)) := [(0, [(0, .aload_n 0), (1, .invokevirtual 180), (4, .aload_n 0), (5, .invokevirtual 189), (8, .aload_n 0), (9, .invokevirtual 192), (12, .return_)])]
def yI173 : List (Nat × List (Nat × Instr)) := [(0, [(0, .aload_n 0), (1, .aload_n 0), (2, .getfield 366), (5, .ldc2_w 370), (8, .lmul), (9, .ldc2_w 372), (12, .ladd), (13, .putfield 366), (16, .aload_n 0), (17, .getfield 366), (20, .bipush 33), (22, .lushr), (23, .iload_n 1), (24, .i2l), (25, .lrem), (26, .l2i), (27, .ireturn)])]
def yI174 : List (Nat × List (Nat × Instr)) := [(0, [(0, .aload_n 0), (1, .iload_n 1), (2, .invokevirtual 342), (5, .ifCond .eq 11), (8, .aload_n 0), (9, .iload_n 2), (10, .invokevirtual 345), (13, .ifCond .ne 5), (16, .iconst (-1)), (17, .ireturn), (18, .aload_n 0), (19, .invokevirtual 336), (22, .aload_n 0), (23, .getfield 62), (26, .bipush 10), (28, .iload_n 1), (29, .imul), (30, .iload_n 2), (31, .iadd)]), (1, [(32, .iaload), (33, .ireturn)])]
def yI175 : List (Nat × List (Nat × Instr)) := [(0, [(0, .aload_n 0), (1, .getfield 52), (4, .bipush 6), (6, .aload_n 0), (7, .iload_n 1), (8, .invokevirtual 301), (11, .iadd), (12, .iaload), (13, .istore 4), (15, .aload_n 0), (16, .getfield 52), (19, .bipush 12), (21, .iload_n 1), (22, .iadd), (23, .iaload), (24, .aload_n 0), (25, .getfield 68), (28, .iload_n 1), (29, .iaload), (30, .iadd), (31, .iload_n 3)]), (1, [(32, .ifCond .eq 10), (35, .iload 4), (37, .iconst 2), (38, .idiv), (39, .goto 4), (42, .iconst 0), (43, .isub), (44, .istore 5), (46, .aload_n 0), (47, .getfield 58), (50, .iconst (-1)), (51, .if_icmp .eq 83), (54, .aload_n 0), (55, .getfield 34), (58, .iconst 0), (59, .aload_n 0), (60, .getfield 52), (63, .bipush 12)]), (2, [(65, .iload_n 1), (66, .iadd), (67, .iaload), (68, .iastore), (69, .aload_n 0), (70, .getfield 34), (73, .iconst 1), (74, .aload_n 0), (75, .getfield 68), (78, .iload_n 1), (79, .iaload), (80, .iastore), (81, .aload_n 0), (82, .getfield 34), (85, .iconst 2), (86, .iload 4), (88, .iastore), (89, .aload_n 0), (90, .getfield 34), (93, .iconst 3), (94, .iload_n 2), (95, .iastore)]), (3, [(96, .aload_n 0), (97, .getfield 34), (100, .iconst 4), (101, .iload_n 3), (102, .ifCond .eq 7), (105, .iconst 1), (106, .goto 4), (109, .iconst 0), (110, .iastore), (111, .aload_n 0), (112, .getfield 34), (115, .iconst 5), (116, .aload_n 0), (117, .getfield 52), (120, .bipush 38), (122, .iaload), (123, .iastore), (124, .aload_n 0), (125, .aload_n 0), (126, .getfield 58)]), (4, [(129, .invokevirtual 304), (132, .istore 5), (134, .iconst 0), (135, .bipush 20), (137, .iload 5), (139, .invokestatic 307), (142, .invokestatic 309), (145, .ireturn)])]
def yI176 : List (Nat × List (Nat × Instr)) := [(0, [(0, .iload_n 1), (1, .ifCond .ne 10), (4, .aload_n 0), (5, .invokevirtual 264), (8, .goto 18), (11, .iload_n 1), (12, .iconst 1), (13, .if_icmp .ne 11), (16, .aload_n 0), (17, .iconst 4), (18, .invokevirtual 267), (21, .goto 5), (24, .bipush (-2)), (26, .ireturn)])]
def yI177 : List (Nat × List (Nat × Instr)) := [(0, [(0, .iconst 0), (1, .istore 6), (3, .iconst 0), (4, .istore 7), (6, .iload 7), (8, .bipush 20), (10, .if_icmp .ge 34), (13, .iload 6), (15, .iload_n 1), (16, .iload_n 2), (17, .iload_n 3), (18, .iload 4), (20, .iload 5), (22, .iload 7), (24, .invokestatic 117), (27, .ifCond .eq 7), (30, .iconst 1), (31, .goto 4)]), (1, [(34, .iconst 0), (35, .iadd), (36, .istore 6), (38, .iinc 7 1), (41, .goto (-35)), (44, .aload_n 0), (45, .getfield 121), (48, .iload 6), (50, .iadd), (51, .sipush 240), (54, .if_icmp .le 5), (57, .iconst (-1)), (58, .ireturn), (59, .iconst 0), (60, .istore 7), (62, .iload 7)]), (2, [(64, .bipush 20), (66, .if_icmp .ge 49), (69, .iload_n 1), (70, .iload_n 2), (71, .iload_n 3), (72, .iload 4), (74, .iload 5), (76, .iload 7), (78, .invokestatic 117), (81, .istore 8), (83, .iload 8), (85, .ifCond .eq 24), (88, .aload_n 0), (89, .getfield 9), (92, .aload_n 0), (93, .getfield 121)]), (3, [(96, .iload 8), (98, .iastore), (99, .aload_n 0), (100, .dup), (101, .getfield 121), (104, .iconst 1), (105, .iadd), (106, .putfield 121), (109, .iinc 7 1), (112, .goto (-50)), (115, .aload_n 0), (116, .getfield 121), (119, .ireturn)])]
def yI178 : List (Nat × List (Nat × Instr)) := [(0, [(0, .iconst 0), (1, .istore_n 1), (2, .iconst 1), (3, .istore_n 2), (4, .iload_n 2), (5, .aload_n 0), (6, .getfield 46), (9, .iconst 0), (10, .iaload), (11, .if_icmp .ge 34), (14, .aload_n 0), (15, .iload_n 2), (16, .invokevirtual 378), (19, .invokestatic 381), (22, .aload_n 0), (23, .iload_n 1), (24, .invokevirtual 378), (27, .invokestatic 381), (30, .if_icmp .ge 7)]), (1, [(33, .iload_n 2), (34, .goto 4), (37, .iload_n 1), (38, .istore_n 1), (39, .iinc 2 1), (42, .goto (-38)), (45, .iload_n 1), (46, .ireturn)])]
def yI179 : List (Nat × List (Nat × Instr)) := [(0, [(0, .aload_n 0), (1, .iload_n 1), (2, .iload_n 2), (3, .invokevirtual 432), (6, .ifCond .eq 32), (9, .iload_n 3), (10, .iconst 0), (11, .iconst 3), (12, .invokestatic 229), (15, .ifCond .eq 23), (18, .iload 4), (20, .iconst 0), (21, .iconst 3), (22, .invokestatic 229), (25, .ifCond .eq 13), (28, .iload 5), (30, .iconst 0), (31, .iconst 1)]), (1, [(32, .invokestatic 229), (35, .ifCond .ne 7), (38, .ldc_w 377), (41, .ireturn), (42, .iload 5), (44, .ifCond .ne 15), (47, .aload_n 0), (48, .iload_n 1), (49, .iload_n 2), (50, .iload_n 3), (51, .iload 4), (53, .invokevirtual 435), (56, .goto 12), (59, .aload_n 0), (60, .iload_n 2), (61, .iload_n 1), (62, .iload 4)]), (2, [(64, .iload_n 3), (65, .invokevirtual 435), (68, .ireturn)])]
def yI180 : List (Nat × List (Nat × Instr)) := [(0, [(0, .aload_n 0), (1, .getfield 52), (4, .bipush 6), (6, .iload_n 1), (7, .iadd), (8, .dup2), (9, .iaload), (10, .iload_n 3), (11, .iadd), (12, .iastore), (13, .aload_n 0), (14, .getfield 52), (17, .bipush 6), (19, .iload_n 2), (20, .iadd), (21, .dup2), (22, .iaload), (23, .iload 4), (25, .iadd), (26, .iastore), (27, .aload_n 0), (28, .invokevirtual 336), (31, .aload_n 0)]), (1, [(32, .getfield 52), (35, .bipush 6), (37, .iload_n 1), (38, .iadd), (39, .dup2), (40, .iaload), (41, .iload_n 3), (42, .isub), (43, .iastore), (44, .aload_n 0), (45, .getfield 52), (48, .bipush 6), (50, .iload_n 2), (51, .iadd), (52, .dup2), (53, .iaload), (54, .iload 4), (56, .isub), (57, .iastore), (58, .bipush 8), (60, .iconst 2), (61, .aload_n 0), (62, .getfield 74)]), (2, [(65, .aload_n 0), (66, .aload_n 0), (67, .getfield 52), (70, .bipush 30), (72, .iload_n 1), (73, .iadd), (74, .iaload), (75, .iconst 1), (76, .iadd), (77, .aload_n 0), (78, .getfield 270), (81, .irem), (82, .invokevirtual 298), (85, .iaload), (86, .imul), (87, .isub), (88, .iload_n 3), (89, .isub), (90, .ireturn)])]
def yI181 : List (Nat × List (Nat × Instr)) := [(0, [(0, .aload_n 0), (1, .getfield 131), (4, .iconst (-1)), (5, .if_icmp .ne 36), (8, .aload_n 0), (9, .invokevirtual 143), (12, .bipush 38), (14, .if_icmp .ne 27), (17, .aload_n 0), (18, .dup), (19, .getfield 124), (22, .iconst 1), (23, .iadd), (24, .putfield 124), (27, .aload_n 0), (28, .invokevirtual 180), (31, .aload_n 0)]), (1, [(32, .bipush 10), (34, .iconst 0), (35, .invokevirtual 153), (38, .goto (-38)), (41, .return_)])]
def yI182 : List (Nat × List (Nat × Instr)) := [(0, [(0, .aload_n 0), (1, .getfield 131), (4, .iconst (-1)), (5, .if_icmp .ne 40), (8, .aload_n 0), (9, .invokevirtual 143), (12, .bipush 124), (14, .if_icmp .ne 31), (17, .aload_n 0), (18, .dup), (19, .getfield 124), (22, .iconst 1), (23, .iadd), (24, .putfield 124), (27, .aload_n 0), (28, .invokevirtual 180), (31, .aload_n 0)]), (1, [(32, .invokevirtual 189), (35, .aload_n 0), (36, .bipush 11), (38, .iconst 0), (39, .invokevirtual 153), (42, .goto (-42)), (45, .return_)])]
def yI183 : List (Nat × List (Nat × Instr)) := [(0, [(0, .aload_n 0), (1, .getfield 124), (4, .aload_n 0), (5, .getfield 121), (8, .if_icmp .ge 15), (11, .aload_n 0), (12, .getfield 9), (15, .aload_n 0), (16, .getfield 124), (19, .iaload), (20, .goto 4), (23, .iconst (-1)), (24, .ireturn)])]
def yI184 : List (Nat × List (Nat × Instr)) := [(0, [(0, .iload_n 0), (1, .bipush 115), (3, .if_icmp .ne 25), (6, .iload_n 1), (7, .ifCond .ne 8), (10, .bipush 10), (12, .goto 15), (15, .iload_n 1), (16, .iconst 1), (17, .if_icmp .ne 8), (20, .bipush 20), (22, .goto 5), (25, .bipush 99), (27, .ireturn), (28, .iload_n 1), (29, .ifCond .ne 8)]), (1, [(32, .bipush 10), (34, .goto 5), (37, .bipush 9), (39, .ireturn)])]
def yI185 : List (Nat × List (Nat × Instr)) := [(0, [(0, .aload_n 0), (1, .iload_n 1), (2, .invokevirtual 417), (5, .ifCond .eq 13), (8, .aload_n 0), (9, .iload_n 1), (10, .iconst 0), (11, .invokevirtual 426), (14, .iconst (-1)), (15, .if_icmp .ne 5), (18, .iconst (-1)), (19, .ireturn), (20, .iconst (-1)), (21, .istore_n 2), (22, .iconst 0), (23, .istore_n 3), (24, .iconst 0), (25, .istore 4), (27, .iload 4), (29, .aload_n 0), (30, .getfield 270)]), (1, [(33, .if_icmp .ge 118), (36, .iconst 0), (37, .istore 5), (39, .iload 5), (41, .aload_n 0), (42, .getfield 46), (45, .iconst 0), (46, .iaload), (47, .if_icmp .ge 98), (50, .iconst 0), (51, .istore 6), (53, .iconst 0), (54, .istore 7), (56, .iload 7), (58, .bipush 9), (60, .if_icmp .gt 50), (63, .iload 6)]), (2, [(65, .aload_n 0), (66, .iload 7), (68, .invokevirtual 423), (71, .ifCond .ne 7), (74, .iconst 0), (75, .goto 26), (78, .aload_n 0), (79, .getfield 99), (82, .bipush 6), (84, .iload 7), (86, .imul), (87, .iload 4), (89, .iadd), (90, .iaload), (91, .iload 5), (93, .if_icmp .ne 7)]), (3, [(96, .iconst 1), (97, .goto 4), (100, .iconst (-1)), (101, .iadd), (102, .istore 6), (104, .iinc 7 1), (107, .goto (-51)), (110, .iload_n 2), (111, .iconst (-1)), (112, .if_icmp .eq 12), (115, .iload 6), (117, .invokestatic 429), (120, .iload_n 3), (121, .if_icmp .ge 18), (124, .bipush 10), (126, .iload 4)]), (4, [(128, .imul), (129, .iload 5), (131, .iadd), (132, .istore_n 2), (133, .iload 6), (135, .invokestatic 429), (138, .istore_n 3), (139, .iinc 5 1), (142, .goto (-103)), (145, .iinc 4 1), (148, .goto (-121)), (151, .iload_n 2), (152, .ireturn)])]
def yI186 : List (Nat × List (Nat × Instr)) := [(0, [(0, .iload_n 0), (1, .bipush 48), (3, .if_icmp .lt 13), (6, .iload_n 0), (7, .bipush 57), (9, .if_icmp .gt 7), (12, .iconst 1), (13, .goto 4), (16, .iconst 0), (17, .ireturn)])]
def yI187 : List (Nat × List (Nat × Instr)) := [(0, [(0, .iconst 0), (1, .istore 5), (3, .iload 5), (5, .iconst 4), (6, .if_icmp .ge 54), (9, .aload_n 0), (10, .iload_n 1), (11, .iload_n 2), (12, .iload 5), (14, .iload 4), (16, .invokevirtual 435), (19, .aload_n 0), (20, .iload_n 1), (21, .iload_n 2), (22, .iload_n 3), (23, .iload 4), (25, .invokevirtual 435), (28, .if_icmp .gt 24), (31, .aload_n 0)]), (1, [(32, .iload_n 2), (33, .iload_n 1), (34, .iload 5), (36, .iload_n 3), (37, .invokevirtual 435), (40, .aload_n 0), (41, .iload_n 2), (42, .iload_n 1), (43, .iload 4), (45, .iload_n 3), (46, .invokevirtual 435), (49, .if_icmp .le 5), (52, .iconst 0), (53, .ireturn), (54, .iinc 5 1), (57, .goto (-54)), (60, .iconst 1), (61, .ireturn)])]
def yI188 : List (Nat × List (Nat × Instr)) := [(0, [(0, .iload_n 0), (1, .bipush 61), (3, .if_icmp .eq 15), (6, .iload_n 0), (7, .bipush 60), (9, .if_icmp .eq 9), (12, .iload_n 0), (13, .bipush 62), (15, .if_icmp .ne 7), (18, .iconst 1), (19, .goto 4), (22, .iconst 0), (23, .ireturn)])]
def yI189 : List (Nat × List (Nat × Instr)) := [(0, [(0, .aload_n 0), (1, .iload_n 1), (2, .invokevirtual 414), (5, .istore_n 2), (6, .iconst 0), (7, .istore_n 3), (8, .iload_n 3), (9, .aload_n 0), (10, .getfield 279), (13, .if_icmp .ge 58), (16, .iload_n 2), (17, .ifCond .eq 54), (20, .aload_n 0), (21, .getfield 99), (24, .bipush 6), (26, .iload_n 1), (27, .imul), (28, .aload_n 0), (29, .getfield 86)]), (1, [(32, .iload_n 3), (33, .iaload), (34, .iadd), (35, .iaload), (36, .aload_n 0), (37, .getfield 89), (40, .iload_n 3), (41, .iaload), (42, .if_icmp .ne 7), (45, .iconst 1), (46, .goto 4), (49, .iconst 0), (50, .aload_n 0), (51, .getfield 92), (54, .iload_n 3), (55, .baload), (56, .if_icmp .ne 7), (59, .iconst 1), (60, .goto 4), (63, .iconst 0)]), (2, [(64, .istore_n 2), (65, .iinc 3 1), (68, .goto (-60)), (71, .iload_n 2), (72, .ireturn)])]
def yI190 : List (Nat × List (Nat × Instr)) := [(0, [(0, .aload_n 0), (1, .getfield 253), (4, .iconst 1), (5, .if_icmp .le 7), (8, .iconst 1), (9, .goto 4), (12, .iconst 0), (13, .istore_n 1), (14, .iconst 0), (15, .istore_n 2), (16, .iload_n 2), (17, .aload_n 0), (18, .getfield 253), (21, .if_icmp .ge 57), (24, .iload_n 1), (25, .ifCond .eq 45), (28, .aload_n 0), (29, .getfield 43)]), (1, [(32, .iconst 4), (33, .iload_n 2), (34, .imul), (35, .iconst 0), (36, .iadd), (37, .iaload), (38, .aload_n 0), (39, .getfield 40), (42, .iconst 0), (43, .iaload), (44, .if_icmp .gt 26), (47, .aload_n 0), (48, .getfield 43), (51, .iconst 4), (52, .iload_n 2), (53, .imul), (54, .iconst 3), (55, .iadd), (56, .iaload), (57, .aload_n 0), (58, .getfield 40), (61, .iconst 0), (62, .iaload), (63, .if_icmp .ge 7)]), (2, [(66, .iconst 1), (67, .goto 4), (70, .iconst 0), (71, .istore_n 1), (72, .iinc 2 1), (75, .goto (-59)), (78, .iload_n 1), (79, .ireturn)])]
def yI191 : List (Nat × List (Nat × Instr)) := [(0, [(0, .iload_n 0), (1, .bipush 115), (3, .if_icmp .ne 35), (6, .iload_n 1), (7, .bipush 104), (9, .if_icmp .ne 7), (12, .iconst 0), (13, .goto 24), (16, .iload_n 1), (17, .bipush 110), (19, .if_icmp .ne 7), (22, .iconst 1), (23, .goto 14), (26, .iload_n 1), (27, .bipush 99), (29, .if_icmp .ne 7)]), (1, [(32, .iconst 2), (33, .goto 4), (36, .iconst (-1)), (37, .ireturn), (38, .iload_n 1), (39, .bipush 110), (41, .if_icmp .ne 7), (44, .iconst 0), (45, .goto 34), (48, .iload_n 1), (49, .bipush 100), (51, .if_icmp .ne 7), (54, .iconst 1), (55, .goto 24), (58, .iload_n 1), (59, .bipush 101), (61, .if_icmp .ne 7)]), (2, [(64, .iconst 2), (65, .goto 14), (68, .iload_n 1), (69, .bipush 98), (71, .if_icmp .ne 7), (74, .iconst 3), (75, .goto 4), (78, .iconst (-1)), (79, .ireturn)])]
def yI192 : List (Nat × List (Nat × Instr)) := [(0, [(0, .iconst 0), (1, .istore 5), (3, .iload 5), (5, .iload 4), (7, .if_icmp .ge 21), (10, .aload_n 2), (11, .iload_n 3), (12, .iload 5), (14, .iadd), (15, .iload_n 1), (16, .iload 5), (18, .invokestatic 233), (21, .iastore), (22, .iinc 5 1), (25, .goto (-22)), (28, .iconst 0), (29, .istore 5), (31, .iload_n 1)]), (1, [(32, .aload_n 0), (33, .invokevirtual 143), (36, .invokestatic 237), (39, .istore 6), (41, .aload_n 0), (42, .getfield 131), (45, .iconst (-1)), (46, .if_icmp .ne 85), (49, .iload 6), (51, .iconst (-1)), (52, .if_icmp .eq 79), (55, .iload 5), (57, .iload 6), (59, .invokestatic 240), (62, .ifCond .ne 69)]), (2, [(65, .iload 5), (67, .iconst 1), (68, .iload 6), (70, .ishl), (71, .ior), (72, .istore 5), (74, .aload_n 0), (75, .dup), (76, .getfield 124), (79, .iconst 1), (80, .iadd), (81, .putfield 124), (84, .aload_n 2), (85, .iload_n 3), (86, .iload 6), (88, .iadd), (89, .aload_n 0), (90, .iload_n 1), (91, .iload 6), (93, .invokestatic 244)]), (3, [(96, .iload_n 1), (97, .iload 6), (99, .invokestatic 247), (102, .invokevirtual 250), (105, .iastore), (106, .aload_n 0), (107, .getfield 131), (110, .iconst (-1)), (111, .if_icmp .ne 14), (114, .iload_n 1), (115, .aload_n 0), (116, .invokevirtual 143), (119, .invokestatic 237), (122, .goto 4), (125, .iconst (-1)), (126, .istore 6)]), (4, [(128, .goto (-87)), (131, .return_)])]
def yI193 : List (Nat × List (Nat × Instr)) := [(0, [(0, .iconst 0), (1, .istore_n 2), (2, .iconst 0), (3, .istore_n 3), (4, .iload_n 3), (5, .aload_n 0), (6, .getfield 270), (9, .if_icmp .ge 38), (12, .iload_n 2), (13, .aload_n 0), (14, .iload_n 3), (15, .iload_n 1), (16, .invokevirtual 311), (19, .ifCond .eq 19), (22, .aload_n 0), (23, .getfield 77), (26, .iload_n 3), (27, .iaload), (28, .iconst (-1)), (29, .if_icmp .ne 9)]), (1, [(32, .iconst 1), (33, .iload_n 3), (34, .ishl), (35, .goto 4), (38, .iconst 0), (39, .ior), (40, .istore_n 2), (41, .iinc 3 1), (44, .goto (-40)), (47, .aload_n 0), (48, .getfield 65), (51, .iload_n 1), (52, .iconst 0), (53, .iastore), (54, .iconst 0), (55, .istore_n 3), (56, .iload_n 3), (57, .aload_n 0), (58, .getfield 270), (61, .if_icmp .ge 198)]), (2, [(64, .aload_n 0), (65, .getfield 62), (68, .bipush 10), (70, .iload_n 3), (71, .imul), (72, .iload_n 1), (73, .iadd), (74, .iconst (-1)), (75, .iastore), (76, .iload_n 2), (77, .iload_n 3), (78, .invokestatic 240), (81, .ifCond .eq 172), (84, .iload_n 2), (85, .aload_n 0), (86, .iload_n 3), (87, .invokevirtual 301), (90, .invokestatic 240), (93, .ifCond .ne 7)]), (3, [(96, .iconst 1), (97, .goto 4), (100, .iconst 0), (101, .istore 4), (103, .aload_n 0), (104, .getfield 65), (107, .iload_n 1), (108, .dup2), (109, .iaload), (110, .iload 4), (112, .ifCond .eq 9), (115, .iconst 1), (116, .iload_n 3), (117, .ishl), (118, .goto 4), (121, .iconst 0), (122, .ior), (123, .iastore), (124, .aload_n 0), (125, .iload_n 3), (126, .iload_n 1), (127, .iload 4)]), (4, [(129, .invokevirtual 314), (132, .istore 5), (134, .aload_n 0), (135, .getfield 62), (138, .bipush 10), (140, .iload_n 3), (141, .imul), (142, .iload_n 1), (143, .iadd), (144, .iload 5), (146, .iastore), (147, .aload_n 0), (148, .getfield 68), (151, .iload_n 3), (152, .dup2), (153, .iaload), (154, .iconst 1), (155, .iadd), (156, .iastore), (157, .aload_n 0), (158, .getfield 71)]), (5, [(161, .iload_n 3), (162, .dup2), (163, .iaload), (164, .iload 5), (166, .iadd), (167, .iastore), (168, .aload_n 0), (169, .dup), (170, .getfield 318), (173, .iload 4), (175, .ifCond .eq 7), (178, .iconst 0), (179, .goto 4), (182, .iconst 1), (183, .iadd), (184, .putfield 318), (187, .iload 5), (189, .aload_n 0), (190, .getfield 46)]), (6, [(193, .iconst 1), (194, .iaload), (195, .if_icmp .lt 58), (198, .aload_n 0), (199, .dup), (200, .getfield 321), (203, .iconst 1), (204, .iadd), (205, .putfield 321), (208, .aload_n 0), (209, .getfield 74), (212, .iload_n 3), (213, .dup2), (214, .iaload), (215, .iconst 1), (216, .iadd), (217, .iastore), (218, .aload_n 0), (219, .dup), (220, .getfield 324), (223, .iload 4)]), (7, [(225, .ifCond .eq 7), (228, .iconst 0), (229, .goto 4), (232, .iconst 1), (233, .iadd), (234, .putfield 324), (237, .aload_n 0), (238, .getfield 77), (241, .iload_n 3), (242, .iload 4), (244, .ifCond .eq 7), (247, .iload_n 1), (248, .goto 4), (251, .iconst (-1)), (252, .iastore), (253, .iinc 3 1)]), (8, [(256, .goto (-200)), (259, .aload_n 0), (260, .dup), (261, .getfield 327), (264, .iload_n 2), (265, .ifCond .eq 17), (268, .aload_n 0), (269, .getfield 65), (272, .iload_n 1), (273, .iaload), (274, .iload_n 2), (275, .if_icmp .ne 7), (278, .iconst 1), (279, .goto 4), (282, .iconst 0), (283, .iadd), (284, .putfield 327), (287, .return_)])]
def yI194 : List (Nat × List (Nat × Instr)) := [(0, [(0, .aload_n 0), (1, .iconst 0), (2, .putfield 318), (5, .aload_n 0), (6, .iconst 0), (7, .putfield 324), (10, .aload_n 0), (11, .iconst 0), (12, .putfield 321), (15, .aload_n 0), (16, .iconst 0), (17, .putfield 327), (20, .aload_n 0), (21, .iconst 0), (22, .putfield 330), (25, .iconst 0), (26, .istore_n 1), (27, .iload_n 1), (28, .bipush 6), (30, .if_icmp .ge 37)]), (1, [(33, .aload_n 0), (34, .getfield 68), (37, .iload_n 1), (38, .iconst 0), (39, .iastore), (40, .aload_n 0), (41, .getfield 71), (44, .iload_n 1), (45, .iconst 0), (46, .iastore), (47, .aload_n 0), (48, .getfield 74), (51, .iload_n 1), (52, .iconst 0), (53, .iastore), (54, .aload_n 0), (55, .getfield 77), (58, .iload_n 1), (59, .iconst (-1)), (60, .iastore), (61, .iinc 1 1)]), (2, [(64, .goto (-37)), (67, .iconst 0), (68, .istore_n 1), (69, .iload_n 1), (70, .aload_n 0), (71, .getfield 46), (74, .iconst 0), (75, .iaload), (76, .if_icmp .ge 14), (79, .aload_n 0), (80, .iload_n 1), (81, .invokevirtual 333), (84, .iinc 1 1), (87, .goto (-18)), (90, .iconst 0), (91, .istore_n 1), (92, .iload_n 1), (93, .aload_n 0), (94, .getfield 270)]), (3, [(97, .if_icmp .ge 35), (100, .aload_n 0), (101, .dup), (102, .getfield 330), (105, .aload_n 0), (106, .getfield 77), (109, .iload_n 1), (110, .iaload), (111, .iconst (-1)), (112, .if_icmp .ne 7), (115, .iconst 0), (116, .goto 6), (119, .iconst 1), (120, .iload_n 1), (121, .ishl), (122, .ior), (123, .putfield 330), (126, .iinc 1 1)]), (4, [(129, .goto (-37)), (132, .return_)])]
def yI195 : List (Nat × List (Nat × Instr)) := [(0, [(0, .iconst 0), (1, .istore_n 2), (2, .iload_n 2), (3, .bipush 39), (5, .if_icmp .ge 21), (8, .aload_n 0), (9, .getfield 96), (12, .iload_n 2), (13, .aload_n 0), (14, .getfield 52), (17, .iload_n 2), (18, .iaload), (19, .iastore), (20, .iinc 2 1), (23, .goto (-21)), (26, .iconst 0), (27, .istore_n 2), (28, .iload_n 2), (29, .bipush 9), (31, .if_icmp .gt 77)]), (1, [(34, .aload_n 0), (35, .iload_n 2), (36, .invokevirtual 414), (39, .ifCond .eq 63), (42, .aload_n 0), (43, .invokevirtual 276), (46, .iload_n 2), (47, .bipush 9), (49, .if_icmp .eq 16), (52, .aload_n 0), (53, .getfield 52), (56, .bipush 12), (58, .iload_n 2), (59, .iadd), (60, .dup2), (61, .iaload), (62, .iload_n 1), (63, .iadd)]), (2, [(64, .iastore), (65, .aload_n 0), (66, .invokevirtual 336), (69, .iconst 0), (70, .istore_n 3), (71, .iload_n 3), (72, .aload_n 0), (73, .getfield 270), (76, .if_icmp .ge 26), (79, .aload_n 0), (80, .getfield 99), (83, .bipush 6), (85, .iload_n 2), (86, .imul), (87, .iload_n 3), (88, .iadd), (89, .aload_n 0), (90, .getfield 77), (93, .iload_n 3), (94, .iaload), (95, .iastore)]), (3, [(96, .iinc 3 1), (99, .goto (-28)), (102, .iinc 2 1), (105, .goto (-77)), (108, .iconst 0), (109, .istore_n 2), (110, .iload_n 2), (111, .bipush 39), (113, .if_icmp .ge 21), (116, .aload_n 0), (117, .getfield 52), (120, .iload_n 2), (121, .aload_n 0), (122, .getfield 96), (125, .iload_n 2), (126, .iaload), (127, .iastore)]), (4, [(128, .iinc 2 1), (131, .goto (-21)), (134, .return_)])]
def yI196 : List (Nat × List (Nat × Instr)) := [(0, [(0, .iload_n 0), (1, .bipush 100), (3, .if_icmp .ne 7), (6, .iconst 0), (7, .goto 54), (10, .iload_n 0), (11, .bipush 105), (13, .if_icmp .ne 7), (16, .iconst 1), (17, .goto 44), (20, .iload_n 0), (21, .bipush 101), (23, .if_icmp .ne 7), (26, .iconst 2), (27, .goto 34), (30, .iload_n 0), (31, .bipush 104)]), (1, [(33, .if_icmp .ne 7), (36, .iconst 3), (37, .goto 24), (40, .iload_n 0), (41, .bipush 119), (43, .if_icmp .ne 7), (46, .iconst 4), (47, .goto 14), (50, .iload_n 0), (51, .bipush 110), (53, .if_icmp .ne 7), (56, .iconst 5), (57, .goto 4), (60, .iconst (-1)), (61, .ireturn)])]
def yI197 : List (Nat × List (Nat × Instr)) := [(0, [(0, .aload_n 0), (1, .getfield 270), (4, .ifCond .ne 5), (7, .iconst (-1)), (8, .ireturn), (9, .aload_n 0), (10, .invokevirtual 336), (13, .iconst 0), (14, .istore_n 1), (15, .iconst 0), (16, .istore_n 2), (17, .iload_n 2), (18, .aload_n 0), (19, .getfield 282), (22, .if_icmp .ge 46), (25, .iload_n 1), (26, .aload_n 0), (27, .getfield 330), (30, .aload_n 0), (31, .getfield 105)]), (1, [(34, .iload_n 2), (35, .iaload), (36, .invokestatic 240), (39, .aload_n 0), (40, .getfield 108), (43, .iload_n 2), (44, .baload), (45, .if_icmp .ne 7), (48, .iconst 0), (49, .goto 11), (52, .iconst 1), (53, .aload_n 0), (54, .getfield 102), (57, .iload_n 2), (58, .iaload), (59, .ishl), (60, .ior), (61, .istore_n 1), (62, .iinc 2 1)]), (2, [(65, .goto (-48)), (68, .iload_n 1), (69, .ireturn)])]
def yI198 : List (Nat × List (Nat × Instr)) := [(0, [(0, .aload_n 0), (1, .invokevirtual 336), (4, .iconst 0), (5, .istore_n 1), (6, .iload_n 1), (7, .aload_n 0), (8, .getfield 270), (11, .if_icmp .ge 101), (14, .aload_n 0), (15, .iload_n 1), (16, .iconst 0), (17, .invokevirtual 273), (20, .aload_n 0), (21, .getfield 68), (24, .iload_n 1), (25, .iaload), (26, .isub), (27, .istore_n 2), (28, .aload_n 0), (29, .getfield 52)]), (1, [(32, .bipush 18), (34, .iload_n 1), (35, .iadd), (36, .iload_n 2), (37, .ifCond .le 22), (40, .bipush 99), (42, .aload_n 0), (43, .getfield 52), (46, .bipush 18), (48, .iload_n 1), (49, .iadd), (50, .iaload), (51, .iload_n 2), (52, .iadd), (53, .invokestatic 307), (56, .goto 18), (59, .iconst 0), (60, .aload_n 0), (61, .getfield 52)]), (2, [(64, .bipush 18), (66, .iload_n 1), (67, .iadd), (68, .iaload), (69, .iconst 1), (70, .isub), (71, .invokestatic 309), (74, .iastore), (75, .aload_n 0), (76, .getfield 52), (79, .bipush 24), (81, .iload_n 1), (82, .iadd), (83, .sipush 9999), (86, .aload_n 0), (87, .getfield 52), (90, .bipush 24), (92, .iload_n 1), (93, .iadd), (94, .iaload), (95, .aload_n 0)]), (3, [(96, .getfield 71), (99, .iload_n 1), (100, .iaload), (101, .iadd), (102, .invokestatic 307), (105, .iastore), (106, .iinc 1 1), (109, .goto (-103)), (112, .aload_n 0), (113, .getfield 52), (116, .bipush 36), (118, .sipush 999), (121, .aload_n 0), (122, .getfield 52), (125, .bipush 36), (127, .iaload)]), (4, [(128, .aload_n 0), (129, .getfield 327), (132, .iadd), (133, .invokestatic 307), (136, .iastore), (137, .aload_n 0), (138, .getfield 52), (141, .bipush 37), (143, .dup2), (144, .iaload), (145, .aload_n 0), (146, .getfield 324), (149, .iadd), (150, .iastore), (151, .aload_n 0), (152, .getfield 52), (155, .bipush 38), (157, .dup2), (158, .iaload), (159, .iconst 1)]), (5, [(160, .iadd), (161, .iastore), (162, .return_)])]
def yI199 : List (Nat × List (Nat × Instr)) := [(0, [(0, .iload_n 1), (1, .iconst 0), (2, .aload_n 0), (3, .getfield 52), (6, .bipush 39), (8, .iaload), (9, .iconst 1), (10, .isub), (11, .invokestatic 229), (14, .ifCond .eq 38), (17, .iload_n 2), (18, .iconst 0), (19, .iconst 2), (20, .invokestatic 229), (23, .ifCond .eq 29), (26, .aload_n 0), (27, .getfield 52), (30, .bipush 40)]), (1, [(32, .iconst 3), (33, .aload_n 0), (34, .getfield 52), (37, .bipush 39), (39, .iaload), (40, .iconst 1), (41, .isub), (42, .iload_n 1), (43, .isub), (44, .imul), (45, .iadd), (46, .iload_n 2), (47, .iadd), (48, .iaload), (49, .goto 4), (52, .iconst (-1)), (53, .ireturn)])]
def yI200 : List (Nat × List (Nat × Instr)) := [(0, [(0, .aload_n 0), (1, .invokevirtual 127), (4, .bipush 32), (6, .if_icmp .ne 16), (9, .aload_n 0), (10, .dup), (11, .getfield 124), (14, .iconst 1), (15, .iadd), (16, .putfield 124), (19, .goto (-19)), (22, .aload_n 0), (23, .invokevirtual 127), (26, .ireturn)])]
def yI201 : List (Nat × List (Nat × Instr)) := [(0, [(0, .iload_n 0), (1, .bipush 115), (3, .if_icmp .eq 7), (6, .iconst 0), (7, .goto 21), (10, .iload_n 1), (11, .ifCond .ne 7), (14, .iconst 4), (15, .goto 13), (18, .iload_n 1), (19, .iconst 1), (20, .if_icmp .ne 7), (23, .iconst 1), (24, .goto 4), (27, .iconst 0), (28, .ireturn)])]
def yI202 : List (Nat × List (Nat × Instr)) := [(0, [(0, .aload_n 0), (1, .getfield 270), (4, .ifCond .ne 5), (7, .iconst (-1)), (8, .ireturn), (9, .iload_n 1), (10, .tableswitch 71 0 4 #[34, 42, 50, 58, 63])]), (1, [(44, .aload_n 0), (45, .bipush 18), (47, .iconst 1), (48, .invokevirtual 450), (51, .ireturn), (52, .aload_n 0), (53, .bipush 24), (55, .iconst (-1)), (56, .invokevirtual 450), (59, .ireturn), (60, .aload_n 0), (61, .bipush 6), (63, .iconst 1)]), (2, [(64, .invokevirtual 450), (67, .ireturn), (68, .aload_n 0), (69, .invokevirtual 453), (72, .ireturn), (73, .aload_n 0), (74, .getfield 52), (77, .bipush 37), (79, .iaload), (80, .ireturn), (81, .iconst (-1)), (82, .ireturn)])]
def yI203 : List (Nat × List (Nat × Instr)) := [(0, [(0, .aload_n 0), (1, .getfield 270), (4, .ifCond .ne 5), (7, .iconst (-1)), (8, .ireturn), (9, .aload_n 0), (10, .invokevirtual 336), (13, .iload_n 1), (14, .tableswitch 59 0 4 #[34, 39, 44, 49, 54])]), (1, [(48, .aload_n 0), (49, .getfield 318), (52, .ireturn), (53, .aload_n 0), (54, .getfield 324), (57, .ireturn), (58, .aload_n 0), (59, .getfield 321), (62, .ireturn), (63, .aload_n 0)]), (2, [(64, .getfield 330), (67, .ireturn), (68, .aload_n 0), (69, .invokevirtual 386), (72, .ireturn), (73, .iconst (-1)), (74, .ireturn)])]
def yI204 : List (Nat × List (Nat × Instr)) := [(0, [(0, .aload_n 0), (1, .aload_n 0), (2, .getfield 270), (5, .ifCond .ne 7), (8, .iconst 0), (9, .goto 30), (12, .iload_n 1), (13, .iconst 1), (14, .bipush 60), (16, .invokestatic 229), (19, .ifCond .ne 7), (22, .iconst 1), (23, .goto 16), (26, .aload_n 0), (27, .iload_n 1), (28, .invokevirtual 357), (31, .ifCond .ne 7)]), (1, [(34, .iconst 4), (35, .goto 4), (38, .iconst (-1)), (39, .invokevirtual 348), (42, .ifCond .eq 5), (45, .iconst (-1)), (46, .ireturn), (47, .iconst 0), (48, .istore_n 2), (49, .iload_n 2), (50, .iload_n 1), (51, .if_icmp .ge 17), (54, .aload_n 0), (55, .invokevirtual 351), (58, .aload_n 0), (59, .invokevirtual 360), (62, .iinc 2 1)]), (2, [(65, .goto (-16)), (68, .aload_n 0), (69, .getfield 52), (72, .bipush 38), (74, .iaload), (75, .ireturn)])]
def yI205 : List (Nat × List (Nat × Instr)) := [(0, [(0, .aload_n 0), (1, .invokevirtual 143), (4, .invokestatic 146), (7, .ifCond .ne 9), (10, .aload_n 0), (11, .invokevirtual 140), (14, .iload_n 1), (15, .ireturn), (16, .aload_n 0), (17, .invokevirtual 127), (20, .bipush 48), (22, .isub), (23, .istore_n 3), (24, .aload_n 0), (25, .dup), (26, .getfield 124), (29, .iconst 1), (30, .iadd), (31, .putfield 124)]), (1, [(34, .aload_n 0), (35, .invokevirtual 127), (38, .invokestatic 146), (41, .ifCond .eq 26), (44, .bipush 10), (46, .iload_n 3), (47, .imul), (48, .aload_n 0), (49, .invokevirtual 127), (52, .iadd), (53, .bipush 48), (55, .isub), (56, .istore_n 3), (57, .aload_n 0), (58, .dup), (59, .getfield 124), (62, .iconst 1), (63, .iadd)]), (2, [(64, .putfield 124), (67, .aload_n 0), (68, .invokevirtual 127), (71, .invokestatic 146), (74, .ifCond .eq 10), (77, .aload_n 0), (78, .invokevirtual 140), (81, .goto 26), (84, .iload_n 3), (85, .iload_n 1), (86, .iload_n 2), (87, .invokestatic 229), (90, .ifCond .ne 17), (93, .aload_n 0), (94, .dup), (95, .getfield 124)]), (3, [(98, .iconst 1), (99, .isub), (100, .putfield 124), (103, .aload_n 0), (104, .invokevirtual 140), (107, .iload_n 3), (108, .ireturn)])]
def yI206 : List (Nat × List (Nat × Instr)) := [(0, [(0, .aload_n 0), (1, .getfield 270), (4, .ifCond .eq 13), (7, .iload_n 1), (8, .iconst 0), (9, .bipush 100), (11, .invokestatic 229), (14, .ifCond .ne 5), (17, .iconst (-1)), (18, .ireturn), (19, .aload_n 0), (20, .invokevirtual 336), (23, .ldc2_w 443), (26, .lstore_n 2), (27, .iconst 0), (28, .istore 4), (30, .iload 4)]), (1, [(32, .aload_n 0), (33, .getfield 324), (36, .if_icmp .ge 20), (39, .lload_n 2), (40, .lload_n 2), (41, .iload_n 1), (42, .i2l), (43, .lmul), (44, .ldc2_w 445), (47, .ldiv), (48, .lsub), (49, .lstore_n 2), (50, .iinc 4 1), (53, .goto (-23)), (56, .lload_n 2), (57, .l2i), (58, .ireturn)])]
def yI207 : List (Nat × List (Nat × Instr)) := [(0, [(0, .aload_n 0), (1, .getfield 137), (4, .bipush 6), (6, .if_icmp .ne 7), (9, .aload_n 0), (10, .invokevirtual 140), (13, .aload_n 0), (14, .dup), (15, .getfield 137), (18, .iconst 1), (19, .iadd), (20, .putfield 137), (23, .aload_n 0), (24, .dup), (25, .getfield 124), (28, .iconst 1), (29, .iadd), (30, .putfield 124)]), (1, [(33, .return_)])]
def yI208 : List (Nat × List (Nat × Instr)) := [(0, [(0, .aload_n 0), (1, .invokevirtual 339), (4, .aload_n 0), (5, .getfield 52), (8, .bipush 39), (10, .iaload), (11, .bipush 60), (13, .if_icmp .ne 49), (16, .iconst 3), (17, .istore_n 1), (18, .iload_n 1), (19, .sipush 180), (22, .if_icmp .ge 29), (25, .aload_n 0), (26, .getfield 52), (29, .bipush 40), (31, .iload_n 1)]), (1, [(32, .iadd), (33, .iconst 3), (34, .isub), (35, .aload_n 0), (36, .getfield 52), (39, .bipush 40), (41, .iload_n 1), (42, .iadd), (43, .iaload), (44, .iastore), (45, .iinc 1 1), (48, .goto (-30)), (51, .aload_n 0), (52, .getfield 52), (55, .bipush 39), (57, .dup2), (58, .iaload), (59, .iconst 1), (60, .isub), (61, .iastore), (62, .bipush 40)]), (2, [(64, .iconst 3), (65, .aload_n 0), (66, .getfield 52), (69, .bipush 39), (71, .iaload), (72, .imul), (73, .iadd), (74, .istore_n 1), (75, .aload_n 0), (76, .getfield 52), (79, .iload_n 1), (80, .aload_n 0), (81, .getfield 318), (84, .iastore), (85, .aload_n 0), (86, .getfield 52), (89, .iload_n 1), (90, .iconst 1), (91, .iadd), (92, .aload_n 0), (93, .getfield 330)]), (3, [(96, .iastore), (97, .aload_n 0), (98, .getfield 52), (101, .iload_n 1), (102, .iconst 2), (103, .iadd), (104, .aload_n 0), (105, .getfield 324), (108, .iastore), (109, .aload_n 0), (110, .getfield 52), (113, .bipush 39), (115, .dup2), (116, .iaload), (117, .iconst 1), (118, .iadd), (119, .iastore), (120, .return_)])]
def yI209 : List (Nat × List (Nat × Instr)) := [(0, [(0, .iconst 0), (1, .istore_n 1), (2, .iconst 0), (3, .istore_n 2), (4, .iload_n 2), (5, .iconst 4), (6, .if_icmp .ge 42), (9, .aload_n 0), (10, .invokevirtual 127), (13, .invokestatic 146), (16, .ifCond .eq 32), (19, .bipush 10), (21, .iload_n 1), (22, .imul), (23, .aload_n 0), (24, .invokevirtual 127), (27, .iadd), (28, .bipush 48), (30, .isub), (31, .istore_n 1)]), (1, [(32, .aload_n 0), (33, .dup), (34, .getfield 124), (37, .iconst 1), (38, .iadd), (39, .putfield 124), (42, .iinc 2 1), (45, .goto (-41)), (48, .aload_n 0), (49, .invokevirtual 127), (52, .invokestatic 146), (55, .ifCond .eq 7), (58, .aload_n 0), (59, .invokevirtual 140), (62, .iload_n 1), (63, .ireturn)])]
def yI210 : List (Nat × List (Nat × Instr)) := [(0, [(0, .aload_n 0), (1, .getfield 13), (4, .sipush 520), (7, .aload_n 0), (8, .getfield 134), (11, .imul), (12, .aload_n 0), (13, .getfield 19), (16, .aload_n 0), (17, .getfield 134), (20, .iaload), (21, .iadd), (22, .iload_n 1), (23, .iastore), (24, .aload_n 0), (25, .getfield 16), (28, .sipush 520), (31, .aload_n 0)]), (1, [(32, .getfield 134), (35, .imul), (36, .aload_n 0), (37, .getfield 19), (40, .aload_n 0), (41, .getfield 134), (44, .iaload), (45, .iadd), (46, .iload_n 2), (47, .iastore), (48, .aload_n 0), (49, .getfield 19), (52, .aload_n 0), (53, .getfield 134), (56, .dup2), (57, .iaload), (58, .iconst 1), (59, .iadd), (60, .iastore), (61, .return_)])]
def yI211 : List (Nat × List (Nat × Instr)) := [(0, [(0, .aload_n 0), (1, .iconst 0), (2, .putfield 124), (5, .aload_n 0), (6, .iconst (-1)), (7, .putfield 131), (10, .aload_n 0), (11, .iconst 0), (12, .putfield 253), (15, .iconst 0), (16, .istore_n 1), (17, .iconst 0), (18, .istore_n 2), (19, .iload_n 2), (20, .iconst 3), (21, .if_icmp .ge 21), (24, .aload_n 0), (25, .getfield 40), (28, .iload_n 2), (29, .bipush 115), (31, .iload_n 2)]), (1, [(32, .invokestatic 233), (35, .iastore), (36, .iinc 2 1), (39, .goto (-20)), (42, .iconst 1), (43, .istore_n 2), (44, .iload_n 2), (45, .ifCond .eq 154), (48, .aload_n 0), (49, .getfield 131), (52, .iconst (-1)), (53, .if_icmp .ne 146), (56, .aload_n 0), (57, .invokevirtual 143), (60, .istore_n 3), (61, .iload_n 3), (62, .bipush 115)]), (2, [(64, .if_icmp .ne 33), (67, .iload_n 1), (68, .ifCond .ne 29), (71, .iconst 1), (72, .istore_n 1), (73, .aload_n 0), (74, .dup), (75, .getfield 124), (78, .iconst 1), (79, .iadd), (80, .putfield 124), (83, .aload_n 0), (84, .iload_n 3), (85, .aload_n 0), (86, .getfield 40), (89, .iconst 0), (90, .iconst 3), (91, .invokevirtual 256), (94, .goto 61)]), (3, [(97, .iload_n 3), (98, .bipush 109), (100, .if_icmp .ne 51), (103, .aload_n 0), (104, .getfield 253), (107, .bipush 6), (109, .if_icmp .ge 42), (112, .aload_n 0), (113, .dup), (114, .getfield 124), (117, .iconst 1), (118, .iadd), (119, .putfield 124), (122, .aload_n 0), (123, .iload_n 3), (124, .aload_n 0), (125, .getfield 43)]), (4, [(128, .iconst 4), (129, .aload_n 0), (130, .getfield 253), (133, .imul), (134, .iconst 4), (135, .invokevirtual 256), (138, .aload_n 0), (139, .dup), (140, .getfield 253), (143, .iconst 1), (144, .iadd), (145, .putfield 253), (148, .goto 7), (151, .aload_n 0), (152, .invokevirtual 140), (155, .aload_n 0), (156, .getfield 131), (159, .iconst (-1))]), (5, [(160, .if_icmp .ne 16), (163, .aload_n 0), (164, .invokevirtual 143), (167, .bipush 59), (169, .if_icmp .ne 7), (172, .iconst 1), (173, .goto 4), (176, .iconst 0), (177, .istore_n 2), (178, .aload_n 0), (179, .dup), (180, .getfield 124), (183, .iload_n 2), (184, .ifCond .eq 7), (187, .iconst 1), (188, .goto 4), (191, .iconst 0)]), (6, [(192, .iadd), (193, .putfield 124), (196, .goto (-152)), (199, .aload_n 0), (200, .getfield 131), (203, .iconst (-1)), (204, .if_icmp .ne 22), (207, .aload_n 0), (208, .invokevirtual 143), (211, .iconst (-1)), (212, .if_icmp .ne 10), (215, .aload_n 0), (216, .invokevirtual 260), (219, .ifCond .ne 7), (222, .aload_n 0), (223, .invokevirtual 140)]), (7, [(226, .aload_n 0), (227, .getfield 131), (230, .ireturn)])]
def yI212 : List (Nat × List (Nat × Instr)) := [(0, [(0, .aload_n 0), (1, .iload_n 1), (2, .invokevirtual 195), (5, .aload_n 0), (6, .invokevirtual 198), (9, .aload_n 0), (10, .getfield 131), (13, .iconst (-1)), (14, .if_icmp .ne 29), (17, .aload_n 0), (18, .invokevirtual 143), (21, .bipush 59), (23, .if_icmp .ne 20), (26, .aload_n 0), (27, .dup), (28, .getfield 124), (31, .iconst 1)]), (1, [(32, .iadd), (33, .putfield 124), (36, .aload_n 0), (37, .invokevirtual 198), (40, .goto (-31)), (43, .aload_n 0), (44, .invokevirtual 201), (47, .ireturn)])]
def yI213 : List (Nat × List (Nat × Instr)) := [(0, [(0, .iconst 0), (1, .istore_n 1), (2, .iload_n 1), (3, .bipush 39), (5, .if_icmp .ge 21), (8, .aload_n 0), (9, .getfield 96), (12, .iload_n 1), (13, .aload_n 0), (14, .getfield 52), (17, .iload_n 1), (18, .iaload), (19, .iastore), (20, .iinc 1 1), (23, .goto (-21)), (26, .iconst 0), (27, .istore_n 1), (28, .iload_n 1), (29, .bipush 60), (31, .if_icmp .ge 22)]), (1, [(34, .aload_n 0), (35, .bipush 18), (37, .invokevirtual 447), (40, .ifCond .le 13), (43, .aload_n 0), (44, .invokevirtual 339), (47, .iinc 1 1), (50, .goto (-22)), (53, .aload_n 0), (54, .bipush 18), (56, .invokevirtual 447), (59, .ifCond .ne 7), (62, .iconst 1), (63, .goto 4)]), (2, [(66, .iconst 0), (67, .istore_n 2), (68, .iconst 0), (69, .istore_n 3), (70, .iload_n 3), (71, .bipush 39), (73, .if_icmp .ge 21), (76, .aload_n 0), (77, .getfield 52), (80, .iload_n 3), (81, .aload_n 0), (82, .getfield 96), (85, .iload_n 3), (86, .iaload), (87, .iastore), (88, .iinc 3 1), (91, .goto (-21)), (94, .iload_n 2), (95, .ifCond .eq 7)]), (3, [(98, .iload_n 1), (99, .goto 4), (102, .iconst (-1)), (103, .ireturn)])]
def yI214 : List (Nat × List (Nat × Instr)) := [(0, [(0, .aload_n 0), (1, .iload_n 1), (2, .iload_n 2), (3, .invokevirtual 432), (6, .ifCond .eq 8), (9, .iload_n 3), (10, .iconst (-1)), (11, .if_icmp .ge 5), (14, .iconst (-1)), (15, .ireturn), (16, .iconst 0), (17, .istore 4), (19, .iconst 0), (20, .istore 5), (22, .iload 5), (24, .bipush 16), (26, .if_icmp .ge 48), (29, .aload_n 0), (30, .iload_n 1), (31, .iload_n 2)]), (1, [(32, .iload 5), (34, .iconst 4), (35, .idiv), (36, .iload 5), (38, .iconst 4), (39, .irem), (40, .invokevirtual 439), (43, .ifCond .eq 25), (46, .iload 4), (48, .iload_n 3), (49, .if_icmp .ne 16), (52, .bipush 10), (54, .iload 5), (56, .iconst 4), (57, .idiv), (58, .imul), (59, .iload 5), (61, .iconst 4), (62, .irem), (63, .iadd)]), (2, [(64, .ireturn), (65, .iinc 4 1), (68, .iinc 5 1), (71, .goto (-49)), (74, .iload_n 3), (75, .iconst (-1)), (76, .if_icmp .ne 8), (79, .iload 4), (81, .goto 4), (84, .iconst (-1)), (85, .ireturn)])]
def yI215 : List (Nat × List (Nat × Instr)) := [(0, [(0, .aload_n 0), (1, .getfield 270), (4, .ifCond .eq 12), (7, .iload_n 1), (8, .iconst 0), (9, .iconst 1), (10, .invokestatic 229), (13, .ifCond .ne 5), (16, .iconst (-1)), (17, .ireturn), (18, .iconst 0), (19, .istore_n 2), (20, .iload_n 2), (21, .aload_n 0), (22, .getfield 270), (25, .if_icmp .ge 24), (28, .aload_n 0), (29, .getfield 83)]), (1, [(32, .iload_n 2), (33, .aload_n 0), (34, .getfield 52), (37, .bipush 30), (39, .iload_n 2), (40, .iadd), (41, .iaload), (42, .iastore), (43, .iinc 2 1), (46, .goto (-26)), (49, .aload_n 0), (50, .iconst 0), (51, .invokevirtual 298), (54, .istore_n 2), (55, .aload_n 0), (56, .iconst (-1)), (57, .putfield 389), (60, .aload_n 0), (61, .iload_n 2), (62, .invokevirtual 411)]), (2, [(65, .iconst 0), (66, .istore_n 3), (67, .iload_n 3), (68, .aload_n 0), (69, .getfield 270), (72, .if_icmp .ge 24), (75, .aload_n 0), (76, .getfield 52), (79, .bipush 30), (81, .iload_n 3), (82, .iadd), (83, .aload_n 0), (84, .getfield 83), (87, .iload_n 3), (88, .iaload), (89, .iastore), (90, .iinc 3 1), (93, .goto (-26))]), (3, [(96, .iload_n 1), (97, .ifCond .ne 10), (100, .aload_n 0), (101, .getfield 389), (104, .goto 7), (107, .aload_n 0), (108, .getfield 392), (111, .ireturn)])]
def yI216 : List (Nat × List (Nat × Instr)) := [(0, [(0, .aload_n 0), (1, .iload_n 1), (2, .invokevirtual 342), (5, .ifCond .eq 14), (8, .iload_n 2), (9, .iconst 0), (10, .sipush 999), (13, .invokestatic 229), (16, .ifCond .ne 5), (19, .iconst (-1)), (20, .ireturn), (21, .aload_n 0), (22, .bipush 6), (24, .invokevirtual 447), (27, .ifCond .ne 7), (30, .iconst 0), (31, .goto 21)]), (1, [(34, .iload_n 2), (35, .aload_n 0), (36, .getfield 52), (39, .bipush 6), (41, .iload_n 1), (42, .iadd), (43, .iaload), (44, .imul), (45, .aload_n 0), (46, .bipush 6), (48, .invokevirtual 447), (51, .idiv), (52, .ireturn)])]
def yI217 : List (Nat × List (Nat × Instr)) := [(0, [(0, .aload_n 0), (1, .iload_n 1), (2, .invokevirtual 342), (5, .ifCond .eq 11), (8, .aload_n 0), (9, .iload_n 2), (10, .invokevirtual 345), (13, .ifCond .ne 5), (16, .iconst (-1)), (17, .ireturn), (18, .aload_n 0), (19, .invokevirtual 336), (22, .aload_n 0), (23, .getfield 62), (26, .bipush 10), (28, .iload_n 1), (29, .imul), (30, .iload_n 2), (31, .iadd)]), (1, [(32, .iaload), (33, .iconst (-1)), (34, .if_icmp .ne 7), (37, .iconst 0), (38, .goto 21), (41, .aload_n 0), (42, .getfield 65), (45, .iload_n 2), (46, .iaload), (47, .iload_n 1), (48, .invokestatic 240), (51, .ifCond .eq 7), (54, .iconst 2), (55, .goto 4), (58, .iconst 1), (59, .ireturn)])]
def yI218 : List (Nat × List (Nat × Instr)) := [(0, [(0, .aload_n 0), (1, .iload_n 1), (2, .invokevirtual 342), (5, .ifCond .eq 12), (8, .iload_n 2), (9, .iconst 0), (10, .iconst 1), (11, .invokestatic 229), (14, .ifCond .ne 7), (17, .ldc_w 377), (20, .ireturn), (21, .aload_n 0), (22, .invokevirtual 336), (25, .iload_n 2), (26, .ifCond .ne 12), (29, .aload_n 0), (30, .getfield 68)]), (1, [(33, .iload_n 1), (34, .iaload), (35, .goto 9), (38, .aload_n 0), (39, .getfield 77), (42, .iload_n 1), (43, .iaload), (44, .ireturn)])]
def yI219 : List (Nat × List (Nat × Instr)) := [(0, [(0, .aload_n 0), (1, .getfield 270), (4, .ifCond .eq 12), (7, .iload_n 1), (8, .iconst 0), (9, .iconst 1), (10, .invokestatic 229), (13, .ifCond .ne 5), (16, .iconst (-1)), (17, .ireturn), (18, .aload_n 0), (19, .iconst (-1)), (20, .putfield 389), (23, .aload_n 0), (24, .iconst 0), (25, .iconst 0), (26, .iconst 0), (27, .invokevirtual 404), (30, .aload_n 0), (31, .getfield 389)]), (1, [(34, .iconst (-1)), (35, .if_icmp .eq 8), (38, .iload_n 1), (39, .iconst 1), (40, .if_icmp .ne 10), (43, .aload_n 0), (44, .getfield 389), (47, .goto 7), (50, .aload_n 0), (51, .getfield 392), (54, .ireturn)])]
def yI220 : List (Nat × List (Nat × Instr)) := [(0, [(0, .aload_n 0), (1, .invokevirtual 174), (4, .aload_n 0), (5, .getfield 131), (8, .iconst (-1)), (9, .if_icmp .ne 10), (12, .aload_n 0), (13, .invokevirtual 143), (16, .goto 4), (19, .iconst (-1)), (20, .istore_n 1), (21, .iload_n 1), (22, .bipush 43), (24, .if_icmp .eq 9), (27, .iload_n 1), (28, .bipush 45), (30, .if_icmp .ne 53)]), (1, [(33, .aload_n 0), (34, .dup), (35, .getfield 124), (38, .iconst 1), (39, .iadd), (40, .putfield 124), (43, .aload_n 0), (44, .invokevirtual 174), (47, .aload_n 0), (48, .iload_n 1), (49, .bipush 43), (51, .if_icmp .ne 7), (54, .iconst 2), (55, .goto 4), (58, .iconst 3), (59, .iconst 0), (60, .invokevirtual 153), (63, .aload_n 0)]), (2, [(64, .getfield 131), (67, .iconst (-1)), (68, .if_icmp .ne 10), (71, .aload_n 0), (72, .invokevirtual 143), (75, .goto 4), (78, .iconst (-1)), (79, .istore_n 1), (80, .goto (-59)), (83, .return_)])]
def yI221 : List (Nat × List (Nat × Instr)) := [(0, [(0, .aload_n 0), (1, .aload_n 0), (2, .getfield 253), (5, .putfield 270), (8, .iconst 0), (9, .istore_n 1), (10, .iload_n 1), (11, .iconst 3), (12, .if_icmp .ge 21), (15, .aload_n 0), (16, .getfield 46), (19, .iload_n 1), (20, .aload_n 0), (21, .getfield 40), (24, .iload_n 1), (25, .iaload), (26, .iastore), (27, .iinc 1 1), (30, .goto (-20))]), (1, [(33, .iconst 0), (34, .istore_n 1), (35, .iload_n 1), (36, .bipush 24), (38, .if_icmp .ge 21), (41, .aload_n 0), (42, .getfield 49), (45, .iload_n 1), (46, .aload_n 0), (47, .getfield 43), (50, .iload_n 1), (51, .iaload), (52, .iastore), (53, .iinc 1 1), (56, .goto (-21)), (59, .aload_n 0), (60, .invokevirtual 276), (63, .aload_n 0)]), (2, [(64, .getfield 52), (67, .bipush 39), (69, .iconst 0), (70, .iastore), (71, .aload_n 0), (72, .iconst 0), (73, .putfield 279), (76, .aload_n 0), (77, .iconst 0), (78, .putfield 282), (81, .aload_n 0), (82, .iconst 0), (83, .putfield 285), (86, .aload_n 0), (87, .iconst 0), (88, .putfield 288), (91, .aload_n 0), (92, .getfield 270), (95, .ireturn)])]
def yI222 : List (Nat × List (Nat × Instr)) := [(0, [(0, .aload_n 0), (1, .invokevirtual 171), (4, .aload_n 0), (5, .getfield 131), (8, .iconst (-1)), (9, .if_icmp .ne 10), (12, .aload_n 0), (13, .invokevirtual 143), (16, .goto 4), (19, .iconst (-1)), (20, .istore_n 1), (21, .iload_n 1), (22, .bipush 42), (24, .if_icmp .eq 9), (27, .iload_n 1), (28, .bipush 47), (30, .if_icmp .ne 53)]), (1, [(33, .aload_n 0), (34, .dup), (35, .getfield 124), (38, .iconst 1), (39, .iadd), (40, .putfield 124), (43, .aload_n 0), (44, .invokevirtual 171), (47, .aload_n 0), (48, .iload_n 1), (49, .bipush 42), (51, .if_icmp .ne 7), (54, .iconst 4), (55, .goto 4), (58, .iconst 5), (59, .iconst 0), (60, .invokevirtual 153), (63, .aload_n 0)]), (2, [(64, .getfield 131), (67, .iconst (-1)), (68, .if_icmp .ne 10), (71, .aload_n 0), (72, .invokevirtual 143), (75, .goto 4), (78, .iconst (-1)), (79, .istore_n 1), (80, .goto (-59)), (83, .return_)])]
def yI223 : List (Nat × List (Nat × Instr)) := [(0, [(0, .iload_n 1), (1, .ifCond .ne 21), (4, .aload_n 0), (5, .invokevirtual 264), (8, .iconst (-1)), (9, .if_icmp .ne 13), (12, .aload_n 0), (13, .iconst 0), (14, .putfield 121), (17, .aload_n 0), (18, .invokevirtual 292), (21, .ireturn), (22, .iload_n 1), (23, .iconst 1), (24, .if_icmp .ne 45), (27, .aload_n 0), (28, .getfield 295), (31, .iconst 4)]), (1, [(32, .if_icmp .ge 37), (35, .aload_n 0), (36, .aload_n 0), (37, .getfield 295), (40, .invokevirtual 267), (43, .iconst (-1)), (44, .if_icmp .ne 25), (47, .aload_n 0), (48, .iconst 0), (49, .putfield 121), (52, .aload_n 0), (53, .dup), (54, .getfield 295), (57, .iconst 1), (58, .iadd), (59, .putfield 295), (62, .aload_n 0), (63, .getfield 295)]), (2, [(66, .iconst 1), (67, .isub), (68, .ireturn), (69, .iconst (-1)), (70, .ireturn)])]
def yI224 : List (Nat × List (Nat × Instr)) := [(0, [(0, .aload_n 0), (1, .getfield 389), (4, .iconst (-1)), (5, .if_icmp .eq 12), (8, .iload_n 3), (9, .aload_n 0), (10, .getfield 392), (13, .if_icmp .le 4), (16, .return_), (17, .iload_n 1), (18, .aload_n 0), (19, .getfield 270), (22, .if_icmp .ne 10), (25, .aload_n 0), (26, .iload_n 2), (27, .iload_n 3), (28, .invokevirtual 398), (31, .return_)]), (1, [(32, .aload_n 0), (33, .getfield 52), (36, .iconst 0), (37, .iload_n 1), (38, .iadd), (39, .iaload), (40, .istore 4), (42, .iconst 0), (43, .istore 5), (45, .iload 5), (47, .aload_n 0), (48, .getfield 46), (51, .iconst 0), (52, .iaload), (53, .if_icmp .ge 73), (56, .iload 5), (58, .aload_n 0), (59, .iload_n 1), (60, .iconst 0), (61, .invokevirtual 273)]), (2, [(64, .iadd), (65, .aload_n 0), (66, .getfield 46), (69, .iconst 0), (70, .iaload), (71, .if_icmp .gt 55), (74, .aload_n 0), (75, .getfield 52), (78, .iconst 0), (79, .iload_n 1), (80, .iadd), (81, .iload 5), (83, .iastore), (84, .aload_n 0), (85, .iload_n 1), (86, .invokevirtual 401), (89, .ifCond .eq 31), (92, .aload_n 0), (93, .iload_n 1), (94, .iconst 1), (95, .iadd)]), (3, [(96, .bipush 10), (98, .iload_n 2), (99, .imul), (100, .iload 5), (102, .iadd), (103, .iload 5), (105, .iload 4), (107, .if_icmp .ne 7), (110, .iload_n 3), (111, .goto 6), (114, .iload_n 3), (115, .iconst 1), (116, .iadd), (117, .invokevirtual 404), (120, .iinc 5 1), (123, .goto (-78)), (126, .aload_n 0), (127, .getfield 52)]), (4, [(130, .iconst 0), (131, .iload_n 1), (132, .iadd), (133, .iload 4), (135, .iastore), (136, .return_)])]
def yI225 : List (Nat × List (Nat × Instr)) := [(0, [(0, .iload_n 2), (1, .ifCond .ne 17), (4, .aload_n 0), (5, .invokevirtual 336), (8, .aload_n 0), (9, .iload_n 3), (10, .aload_n 0), (11, .getfield 321), (14, .invokevirtual 398), (17, .return_), (18, .iconst 0), (19, .istore 4), (21, .iload 4), (23, .aload_n 0), (24, .getfield 270), (27, .if_icmp .ge 51), (30, .iload_n 2), (31, .iload 4)]), (1, [(33, .invokestatic 240), (36, .ifCond .eq 36), (39, .aload_n 0), (40, .getfield 52), (43, .bipush 30), (45, .iload 4), (47, .iadd), (48, .iload_n 1), (49, .iastore), (50, .aload_n 0), (51, .iload_n 1), (52, .iconst 1), (53, .iadd), (54, .iload_n 2), (55, .iconst 1), (56, .iload 4), (58, .ishl), (59, .iconst (-1)), (60, .ixor), (61, .iand), (62, .bipush 10)]), (2, [(64, .iload_n 3), (65, .imul), (66, .iload 4), (68, .iadd), (69, .invokevirtual 408), (72, .iinc 4 1), (75, .goto (-54)), (78, .return_)])]
def yI226 : List (Nat × List (Nat × Instr)) := [(0, [(0, .aload_n 0), (1, .iconst 1), (2, .iconst 1), (3, .aload_n 0), (4, .getfield 270), (7, .ishl), (8, .iconst 1), (9, .isub), (10, .iconst 1), (11, .iload_n 1), (12, .ishl), (13, .iconst (-1)), (14, .ixor), (15, .iand), (16, .iload_n 1), (17, .invokevirtual 408), (20, .return_)])]
def yI227 : List (Nat × List (Nat × Instr)) := [(0, [(0, .aload_n 0), (1, .getfield 389), (4, .iconst (-1)), (5, .if_icmp .eq 27), (8, .iload_n 2), (9, .aload_n 0), (10, .getfield 392), (13, .if_icmp .lt 19), (16, .iload_n 2), (17, .aload_n 0), (18, .getfield 392), (21, .if_icmp .ne 21), (24, .iload_n 1), (25, .aload_n 0), (26, .getfield 389), (29, .if_icmp .ge 13)]), (1, [(32, .aload_n 0), (33, .iload_n 1), (34, .putfield 389), (37, .aload_n 0), (38, .iload_n 2), (39, .putfield 392), (42, .return_)])]
def yI228 : List (Nat × List (Nat × Instr)) := [(0, [(0, .aload_n 0), (1, .getfield 285), (4, .ifCond .ne 5), (7, .iconst (-1)), (8, .ireturn), (9, .aload_n 0), (10, .dup), (11, .getfield 285), (14, .iconst 1), (15, .isub), (16, .putfield 285), (19, .iconst 0), (20, .istore_n 1), (21, .iload_n 1), (22, .sipush 220), (25, .if_icmp .ge 30), (28, .aload_n 0), (29, .getfield 52)]), (1, [(32, .iload_n 1), (33, .aload_n 0), (34, .getfield 80), (37, .sipush 220), (40, .aload_n 0), (41, .getfield 285), (44, .imul), (45, .iload_n 1), (46, .iadd), (47, .iaload), (48, .iastore), (49, .iinc 1 1), (52, .goto (-31)), (55, .aload_n 0), (56, .getfield 285), (59, .ireturn)])]
def yI229 : List (Nat × List (Nat × Instr)) := [(0, [(0, .aload_n 0), (1, .invokevirtual 143), (4, .istore_n 1), (5, .iload_n 1), (6, .bipush 33), (8, .if_icmp .ne 39), (11, .aload_n 0), (12, .invokevirtual 161), (15, .aload_n 0), (16, .getfield 131), (19, .iconst (-1)), (20, .if_icmp .ne 74), (23, .aload_n 0), (24, .invokevirtual 180), (27, .aload_n 0), (28, .bipush 9), (30, .iconst 0), (31, .invokevirtual 153)]), (1, [(34, .aload_n 0), (35, .dup), (36, .getfield 137), (39, .iconst 1), (40, .isub), (41, .putfield 137), (44, .goto 50), (47, .iload_n 1), (48, .bipush 40), (50, .if_icmp .ne 28), (53, .aload_n 0), (54, .invokevirtual 161), (57, .aload_n 0), (58, .getfield 131), (61, .iconst (-1)), (62, .if_icmp .ne 32)]), (2, [(65, .aload_n 0), (66, .invokevirtual 183), (69, .aload_n 0), (70, .bipush 41), (72, .invokevirtual 167), (75, .goto 19), (78, .aload_n 0), (79, .invokevirtual 164), (82, .aload_n 0), (83, .getfield 131), (86, .iconst (-1)), (87, .if_icmp .ne 7), (90, .aload_n 0), (91, .invokevirtual 186), (94, .return_)])]
def yI230 : List (Nat × List (Nat × Instr)) := [(0, [(0, .iload_n 0), (1, .bipush 115), (3, .if_icmp .ne 25), (6, .iload_n 1), (7, .ifCond .ne 8), (10, .bipush 8), (12, .goto 15), (15, .iload_n 1), (16, .iconst 1), (17, .if_icmp .ne 8), (20, .bipush 7), (22, .goto 5), (25, .bipush 20), (27, .ireturn), (28, .iload_n 1), (29, .iconst 2), (30, .if_icmp .ne 7)]), (1, [(33, .iconst 5), (34, .goto 13), (37, .iload_n 1), (38, .iconst 3), (39, .if_icmp .ne 7), (42, .iconst 0), (43, .goto 4), (46, .iconst 3), (47, .ireturn)])]
def yI231 : List (Nat × List (Nat × Instr)) := [(0, [(0, .aload_n 0), (1, .iload_n 1), (2, .invokevirtual 342), (5, .ifCond .eq 11), (8, .aload_n 0), (9, .iload_n 1), (10, .invokevirtual 301), (13, .goto 4), (16, .iconst (-1)), (17, .ireturn)])]
def yI232 : List (Nat × List (Nat × Instr)) := [(0, [(0, .aload_n 0), (1, .aload_n 0), (2, .getfield 52), (5, .bipush 30), (7, .iload_n 1), (8, .iadd), (9, .iaload), (10, .aload_n 0), (11, .getfield 270), (14, .iadd), (15, .iconst 1), (16, .isub), (17, .aload_n 0), (18, .getfield 270), (21, .irem), (22, .invokevirtual 298), (25, .ireturn)])]
def yI233 : List (Nat × List (Nat × Instr)) := [(0, [(0, .aload_n 0), (1, .iload_n 1), (2, .invokevirtual 417), (5, .ifCond .eq 8), (8, .iload_n 2), (9, .iconst (-1)), (10, .if_icmp .ge 5), (13, .iconst (-1)), (14, .ireturn), (15, .aload_n 0), (16, .iload_n 1), (17, .invokevirtual 420), (20, .iconst 0), (21, .istore_n 3), (22, .iconst 0), (23, .istore 4), (25, .iload 4), (27, .bipush 9), (29, .if_icmp .gt 29)]), (1, [(32, .aload_n 0), (33, .iload 4), (35, .invokevirtual 423), (38, .ifCond .eq 14), (41, .iload_n 3), (42, .iload_n 2), (43, .if_icmp .ne 6), (46, .iload 4), (48, .ireturn), (49, .iinc 3 1), (52, .iinc 4 1), (55, .goto (-30)), (58, .iload_n 2), (59, .iconst (-1)), (60, .if_icmp .ne 7), (63, .iload_n 3)]), (2, [(64, .goto 4), (67, .iconst (-1)), (68, .ireturn)])]
def yI234 : List (Nat × List (Nat × Instr)) := [(0, [(0, .iconst 0), (1, .istore 4), (3, .sipush 520), (6, .iload_n 1), (7, .imul), (8, .iload_n 2), (9, .iadd), (10, .istore 5), (12, .iload 5), (14, .sipush 520), (17, .iload_n 1), (18, .imul), (19, .iload_n 3), (20, .iadd), (21, .if_icmp .ge 150), (24, .aload_n 0), (25, .getfield 13), (28, .iload 5), (30, .iaload), (31, .ifCond .eq 14)]), (1, [(34, .aload_n 0), (35, .getfield 13), (38, .iload 5), (40, .iaload), (41, .iconst 1), (42, .if_icmp .ne 48), (45, .aload_n 0), (46, .getfield 37), (49, .iload 4), (51, .aload_n 0), (52, .getfield 13), (55, .iload 5), (57, .iaload), (58, .ifCond .ne 13), (61, .aload_n 0), (62, .getfield 16)]), (2, [(65, .iload 5), (67, .iaload), (68, .goto 15), (71, .aload_n 0), (72, .getfield 34), (75, .aload_n 0), (76, .getfield 16), (79, .iload 5), (81, .iaload), (82, .iaload), (83, .iastore), (84, .iinc 4 1), (87, .goto 78), (90, .aload_n 0), (91, .getfield 13), (94, .iload 5)]), (3, [(96, .iaload), (97, .bipush 9), (99, .if_icmp .ne 26), (102, .aload_n 0), (103, .getfield 37), (106, .iload 4), (108, .iconst 1), (109, .isub), (110, .iconst 1), (111, .aload_n 0), (112, .getfield 37), (115, .iload 4), (117, .iconst 1), (118, .isub), (119, .iaload), (120, .isub), (121, .iastore), (122, .goto 43), (125, .iinc 4 (-1))]), (4, [(128, .aload_n 0), (129, .getfield 37), (132, .iload 4), (134, .iconst 1), (135, .isub), (136, .aload_n 0), (137, .getfield 13), (140, .iload 5), (142, .iaload), (143, .aload_n 0), (144, .getfield 37), (147, .iload 4), (149, .iconst 1), (150, .isub), (151, .iaload), (152, .i2l), (153, .aload_n 0), (154, .getfield 37), (157, .iload 4), (159, .iaload)]), (5, [(160, .i2l), (161, .invokestatic 221), (164, .iastore), (165, .iinc 5 1), (168, .goto (-156)), (171, .aload_n 0), (172, .getfield 37), (175, .iconst 0), (176, .iaload), (177, .ireturn)])]
def yI235 : List (Nat × List (Nat × Instr)) := [(0, [(0, .iload_n 0), (1, .tableswitch 143 2 10 #[51, 58, 65, 72, 89, 101, 113, 143, 125])]), (1, [(52, .lload_n 1), (53, .lload_n 3), (54, .ladd), (55, .invokestatic 217), (58, .ireturn), (59, .lload_n 1), (60, .lload_n 3), (61, .lsub), (62, .invokestatic 217)]), (2, [(65, .ireturn), (66, .lload_n 1), (67, .lload_n 3), (68, .lmul), (69, .invokestatic 217), (72, .ireturn), (73, .lload_n 3), (74, .lconst 0), (75, .lcmp), (76, .ifCond .ne 7), (79, .iconst 0), (80, .goto 9), (83, .lload_n 1), (84, .lload_n 3), (85, .ldiv), (86, .invokestatic 217), (89, .ireturn), (90, .lload_n 1), (91, .lload_n 3), (92, .lcmp), (93, .ifCond .ne 7)]), (3, [(96, .iconst 1), (97, .goto 4), (100, .iconst 0), (101, .ireturn), (102, .lload_n 1), (103, .lload_n 3), (104, .lcmp), (105, .ifCond .ge 7), (108, .iconst 1), (109, .goto 4), (112, .iconst 0), (113, .ireturn), (114, .lload_n 1), (115, .lload_n 3), (116, .lcmp), (117, .ifCond .le 7), (120, .iconst 1), (121, .goto 4), (124, .iconst 0), (125, .ireturn), (126, .lload_n 1), (127, .lconst 0)]), (4, [(128, .lcmp), (129, .ifCond .eq 13), (132, .lload_n 3), (133, .lconst 0), (134, .lcmp), (135, .ifCond .eq 7), (138, .iconst 1), (139, .goto 4), (142, .iconst 0), (143, .ireturn), (144, .lload_n 1), (145, .lconst 0), (146, .lcmp), (147, .ifCond .ne 9), (150, .lload_n 3), (151, .lconst 0), (152, .lcmp), (153, .ifCond .eq 7), (156, .iconst 1), (157, .goto 4)]), (5, [(160, .iconst 0), (161, .ireturn)])]
def yI236 : List (Nat × List (Nat × Instr)) := [(0, [(0, .sipush 140), (3, .iload_n 1), (4, .imul), (5, .istore_n 2), (6, .iload_n 2), (7, .sipush 140), (10, .iload_n 1), (11, .imul), (12, .aload_n 0), (13, .getfield 22), (16, .iload_n 1), (17, .iaload), (18, .iadd), (19, .if_icmp .ge 62), (22, .aload_n 0), (23, .getfield 25), (26, .iload_n 2), (27, .iaload), (28, .aload_n 0), (29, .getfield 28)]), (1, [(32, .iload_n 2), (33, .iaload), (34, .if_icmp .eq 23), (37, .aload_n 0), (38, .iload_n 1), (39, .aload_n 0), (40, .getfield 25), (43, .iload_n 2), (44, .iaload), (45, .aload_n 0), (46, .getfield 28), (49, .iload_n 2), (50, .iaload), (51, .invokevirtual 225), (54, .ifCond .eq 21), (57, .aload_n 0), (58, .iload_n 1), (59, .aload_n 0), (60, .getfield 28), (63, .iload_n 2)]), (2, [(64, .iaload), (65, .aload_n 0), (66, .getfield 31), (69, .iload_n 2), (70, .iaload), (71, .invokevirtual 225), (74, .ireturn), (75, .iinc 2 1), (78, .goto (-72)), (81, .iconst 0), (82, .ireturn)])]
def yI237 : List (Nat × List (Nat × Instr)) := [(0, [(0, .aload_n 0), (1, .getfield 270), (4, .ifCond .eq 11), (7, .aload_n 0), (8, .iload_n 1), (9, .invokevirtual 357), (12, .ifCond .ne 5), (15, .iconst (-1)), (16, .ireturn), (17, .aload_n 0), (18, .lload_n 2), (19, .putfield 366), (22, .iconst 0), (23, .istore 4), (25, .iload 4), (27, .iload_n 1), (28, .if_icmp .ge 83), (31, .aload_n 0)]), (1, [(32, .invokevirtual 351), (35, .aload_n 0), (36, .aload_n 0), (37, .getfield 270), (40, .invokevirtual 374), (43, .istore 5), (45, .aload_n 0), (46, .getfield 52), (49, .iconst 0), (50, .iload 5), (52, .iadd), (53, .aload_n 0), (54, .aload_n 0), (55, .getfield 46), (58, .iconst 0), (59, .iaload), (60, .invokevirtual 374), (63, .iastore)]), (2, [(64, .aload_n 0), (65, .bipush 10), (67, .invokevirtual 374), (70, .aload_n 0), (71, .getfield 363), (74, .if_icmp .ge 27), (77, .aload_n 0), (78, .aload_n 0), (79, .getfield 270), (82, .invokevirtual 374), (85, .istore 6), (87, .aload_n 0), (88, .iload 6), (90, .aload_n 0), (91, .aload_n 0), (92, .getfield 270), (95, .invokevirtual 374)]), (3, [(98, .invokevirtual 354), (101, .aload_n 0), (102, .invokevirtual 360), (105, .iinc 4 1), (108, .goto (-83)), (111, .aload_n 0), (112, .getfield 52), (115, .bipush 38), (117, .iaload), (118, .ireturn)])]
def yI238 : List (Nat × List (Nat × Instr)) := [(0, [(0, .iconst 0), (1, .istore_n 1), (2, .iload_n 1), (3, .aload_n 0), (4, .getfield 24), (7, .if_icmp .ge 45), (10, .aload_n 0), (11, .getfield 17), (14, .iload_n 1), (15, .aaload), (16, .iconst 0), (17, .iaload), (18, .aload_n 0), (19, .getfield 11), (22, .iconst 0), (23, .iaload), (24, .if_icmp .gt 20), (27, .aload_n 0), (28, .getfield 17), (31, .iload_n 1)]), (1, [(32, .aaload), (33, .iconst 3), (34, .iaload), (35, .aload_n 0), (36, .getfield 11), (39, .iconst 0), (40, .iaload), (41, .if_icmp .lt 5), (44, .iconst 0), (45, .ireturn), (46, .iinc 1 1), (49, .goto (-47)), (52, .aload_n 0), (53, .getfield 24), (56, .iconst 2), (57, .if_icmp .lt 7), (60, .iconst 1), (61, .goto 4)]), (2, [(64, .iconst 0), (65, .ireturn)])]
def yI239 : List (Nat × List (Nat × Instr)) := [(0, [(0, .aload_n 0), (1, .getfield 32), (4, .invokevirtual 58), (7, .istore_n 1), (8, .iload_n 1), (9, .bipush 115), (11, .if_icmp .ne 45), (14, .aload_n 0), (15, .getfield 28), (18, .ifCond .ne 38), (21, .aload_n 0), (22, .iconst 1), (23, .putfield 28), (26, .aload_n 0), (27, .getfield 32), (30, .dup), (31, .getfield 36)]), (1, [(34, .iconst 1), (35, .iadd), (36, .putfield 36), (39, .aload_n 0), (40, .ldc 65), (42, .getstatic 67), (45, .getstatic 70), (48, .aload_n 0), (49, .getfield 11), (52, .invokevirtual 73), (55, .ireturn), (56, .iload_n 1), (57, .bipush 109), (59, .if_icmp .ne 69), (62, .aload_n 0), (63, .getfield 24)]), (2, [(66, .bipush 6), (68, .if_icmp .ge 60), (71, .aload_n 0), (72, .getfield 17), (75, .aload_n 0), (76, .getfield 24), (79, .aaload), (80, .astore_n 2), (81, .aload_n 0), (82, .dup), (83, .getfield 24), (86, .iconst 1), (87, .iadd), (88, .putfield 24), (91, .aload_n 0), (92, .getfield 32), (95, .dup)]), (3, [(96, .getfield 36), (99, .iconst 1), (100, .iadd), (101, .putfield 36), (104, .getstatic 77), (107, .iconst 0), (108, .aload_n 2), (109, .iconst 0), (110, .iconst 4), (111, .invokestatic 44), (114, .aload_n 0), (115, .ldc 80), (117, .getstatic 82), (120, .getstatic 85), (123, .aload_n 2), (124, .invokevirtual 73), (127, .ireturn)]), (4, [(128, .iconst 0), (129, .ireturn)])]
def yI240 : List (Nat × List (Nat × Instr)) := [(0, [(0, .aload_n 0), (1, .getfield 32), (4, .iconst 0), (5, .putfield 36), (8, .aload_n 0), (9, .iconst 0), (10, .putfield 24), (13, .aload_n 0), (14, .iconst 0), (15, .putfield 28), (18, .getstatic 41), (21, .iconst 0), (22, .aload_n 0), (23, .getfield 11), (26, .iconst 0), (27, .getstatic 41), (30, .arraylength), (31, .invokestatic 44)]), (1, [(34, .iconst 0), (35, .istore_n 1), (36, .iload_n 1), (37, .sipush 240), (40, .if_icmp .ge 33), (43, .aload_n 0), (44, .invokevirtual 50), (47, .ifCond .ne 5), (50, .iconst 0), (51, .ireturn), (52, .aload_n 0), (53, .getfield 32), (56, .bipush 59), (58, .invokevirtual 54), (61, .ifCond .ne 6)]), (2, [(64, .goto 9), (67, .iinc 1 1), (70, .goto (-34)), (73, .aload_n 0), (74, .getfield 32), (77, .invokevirtual 58), (80, .ifCond .ne 14), (83, .aload_n 0), (84, .invokevirtual 62), (87, .ifCond .eq 7), (90, .iconst 1), (91, .goto 4), (94, .iconst 0), (95, .ireturn)])]
def yI241 : List (Nat × List (Nat × Instr)) := [(0, [(0, .iconst 0), (1, .istore 5), (3, .iload 5), (5, .iconst 4), (6, .if_icmp .ge 17), (9, .aload_n 0), (10, .getfield 20), (13, .iload 5), (15, .iconst 0), (16, .bastore), (17, .iinc 5 1), (20, .goto (-17)), (23, .iconst 0), (24, .istore 5), (26, .iload 5), (28, .iconst 4), (29, .if_icmp .gt 127)]), (1, [(32, .aload_n 1), (33, .aload_n 0), (34, .getfield 32), (37, .invokevirtual 58), (40, .i2c), (41, .invokevirtual 88), (44, .istore 6), (46, .iload 6), (48, .ifCond .lt 9), (51, .iload 6), (53, .iconst 4), (54, .if_icmp .lt 5), (57, .iconst 1), (58, .ireturn), (59, .aload_n 0), (60, .getfield 20), (63, .iload 6)]), (2, [(65, .baload), (66, .ifCond .eq 5), (69, .iconst 0), (70, .ireturn), (71, .aload_n 0), (72, .getfield 20), (75, .iload 6), (77, .iconst 1), (78, .bastore), (79, .aload_n 0), (80, .getfield 32), (83, .dup), (84, .getfield 36), (87, .iconst 1), (88, .iadd), (89, .putfield 36), (92, .aload_n 0), (93, .getfield 32)]), (3, [(96, .iconst 2), (97, .invokevirtual 94), (100, .istore 7), (102, .iload 7), (104, .iconst (-1)), (105, .if_icmp .ne 5), (108, .iconst 0), (109, .ireturn), (110, .iload 7), (112, .aload_n 2), (113, .iload 6), (115, .iaload), (116, .if_icmp .lt 12), (119, .iload 7), (121, .aload_n 3), (122, .iload 6), (124, .iaload), (125, .if_icmp .le 18)]), (4, [(128, .aload_n 0), (129, .getfield 32), (132, .dup), (133, .getfield 36), (136, .iconst 1), (137, .isub), (138, .putfield 36), (141, .iconst 0), (142, .ireturn), (143, .aload 4), (145, .iload 6), (147, .iload 7), (149, .iastore), (150, .iinc 5 1), (153, .goto (-127)), (156, .iconst 1), (157, .ireturn)])]
def yI242 : List (Nat × List (Nat × Instr)) := [(0, [(0, .aload_n 1), (1, .aload_n 0), (2, .getfield 24), (5, .putfield 97), (8, .aload_n 1), (9, .aload_n 0), (10, .getfield 11), (13, .iconst 0), (14, .iaload), (15, .putfield 100), (18, .aload_n 1), (19, .aload_n 0), (20, .getfield 11), (23, .iconst 1), (24, .iaload), (25, .putfield 103), (28, .aload_n 1), (29, .getfield 106)]), (1, [(32, .astore_n 2), (33, .aload_n 2), (34, .aload_n 0), (35, .getfield 11), (38, .iconst 2), (39, .iaload), (40, .putfield 110), (43, .iconst 0), (44, .istore_n 3), (45, .iload_n 3), (46, .aload_n 0), (47, .getfield 24), (50, .if_icmp .ge 72), (53, .aload_n 1), (54, .getfield 115), (57, .iload_n 3), (58, .aload_n 0), (59, .getfield 17), (62, .iload_n 3), (63, .aaload)]), (2, [(64, .iconst 0), (65, .iaload), (66, .iastore), (67, .aload_n 2), (68, .getfield 118), (71, .iload_n 3), (72, .aload_n 0), (73, .getfield 17), (76, .iload_n 3), (77, .aaload), (78, .iconst 1), (79, .iaload), (80, .iastore), (81, .aload_n 2), (82, .getfield 121), (85, .iload_n 3), (86, .aload_n 0), (87, .getfield 17), (90, .iload_n 3), (91, .aaload), (92, .iconst 2), (93, .iaload), (94, .iastore), (95, .aload_n 2)]), (3, [(96, .getfield 124), (99, .iload_n 3), (100, .aload_n 0), (101, .getfield 17), (104, .iload_n 3), (105, .aaload), (106, .iconst 3), (107, .iaload), (108, .iastore), (109, .aload_n 2), (110, .getfield 127), (113, .iload_n 3), (114, .iload_n 3), (115, .iastore), (116, .iinc 3 1), (119, .goto (-74)), (122, .return_)])]
def yI243 : List (Nat × List (Nat × Instr)) := [(0, [(0, .aload_n 0), (1, .getfield 28), (4, .iconst 4), (5, .if_icmp .ge 20), (8, .iload_n 2), (9, .ifCond .lt 16), (12, .iload_n 2), (13, .aload_n 1), (14, .arraylength), (15, .if_icmp .gt 10), (18, .iload_n 2), (19, .sipush 242), (22, .if_icmp .le 5), (25, .iconst (-1)), (26, .ireturn), (27, .aload_n 1), (28, .iconst 0), (29, .aload_n 0), (30, .getfield 13)]), (1, [(33, .aload_n 0), (34, .getfield 28), (37, .aaload), (38, .iconst 0), (39, .iload_n 2), (40, .invokestatic 35), (43, .aload_n 0), (44, .getfield 18), (47, .aload_n 0), (48, .getfield 28), (51, .iload_n 2), (52, .iastore), (53, .aload_n 0), (54, .dup), (55, .getfield 28), (58, .iconst 1), (59, .iadd), (60, .putfield 28), (63, .aload_n 0)]), (2, [(64, .getfield 28), (67, .iconst 1), (68, .isub), (69, .ireturn)])]
def yI244 : List (Nat × List (Nat × Instr)) := [(0, [(0, .iload_n 0), (1, .bipush 61), (3, .if_icmp .eq 15), (6, .iload_n 0), (7, .bipush 60), (9, .if_icmp .eq 9), (12, .iload_n 0), (13, .bipush 62), (15, .if_icmp .ne 7), (18, .iconst 1), (19, .goto 4), (22, .iconst 0), (23, .ireturn)])]
def yI245 : List (Nat × List (Nat × Instr)) := [(0, [(0, .aload_n 0), (1, .getfield 19), (4, .invokevirtual 40), (7, .istore_n 2), (8, .iload_n 2), (9, .bipush 91), (11, .if_icmp .ne 52), (14, .iload_n 1), (15, .bipush 6), (17, .if_icmp .lt 5), (20, .iconst 0), (21, .ireturn), (22, .aload_n 0), (23, .getfield 19), (26, .dup), (27, .getfield 23), (30, .iconst 1), (31, .iadd)]), (1, [(32, .putfield 23), (35, .aload_n 0), (36, .iload_n 1), (37, .iconst 1), (38, .iadd), (39, .invokevirtual 44), (42, .ifCond .eq 19), (45, .aload_n 0), (46, .getfield 19), (49, .bipush 93), (51, .invokevirtual 36), (54, .ifCond .eq 7), (57, .iconst 1), (58, .goto 4), (61, .iconst 0), (62, .ireturn), (63, .ldc 70)]), (2, [(65, .iload_n 2), (66, .i2c), (67, .invokevirtual 72), (70, .istore_n 3), (71, .iload_n 3), (72, .ifCond .lt 27), (75, .aload_n 0), (76, .getfield 19), (79, .dup), (80, .getfield 23), (83, .iconst 1), (84, .iadd), (85, .putfield 23), (88, .aload_n 0), (89, .sipush 10000), (92, .iload_n 3), (93, .iadd), (94, .invokevirtual 32)]), (3, [(97, .iconst 1), (98, .ireturn), (99, .aload_n 0), (100, .getfield 19), (103, .iconst 4), (104, .invokevirtual 78), (107, .istore 4), (109, .iload 4), (111, .iconst (-1)), (112, .if_icmp .ne 5), (115, .iconst 0), (116, .ireturn), (117, .aload_n 0), (118, .iload 4), (120, .invokevirtual 32), (123, .iconst 1), (124, .ireturn)])]
def yI246 : List (Nat × List (Nat × Instr)) := [(0, [(0, .aload_n 0), (1, .getfield 19), (4, .bipush 121), (6, .invokevirtual 36), (9, .ifCond .eq 15), (12, .aload_n 0), (13, .getfield 19), (16, .bipush 58), (18, .invokevirtual 36), (21, .ifCond .ne 5), (24, .iconst 0), (25, .ireturn), (26, .aload_n 0), (27, .getfield 19), (30, .invokevirtual 40)]), (1, [(33, .istore_n 1), (34, .iload_n 1), (35, .bipush 33), (37, .if_icmp .eq 13), (40, .iload_n 1), (41, .bipush 40), (43, .if_icmp .eq 7), (46, .iconst 1), (47, .goto 4), (50, .iconst 0), (51, .istore_n 2), (52, .iload_n 2), (53, .ifCond .eq 28), (56, .aload_n 0), (57, .iconst 0), (58, .invokevirtual 44), (61, .ifCond .ne 5)]), (2, [(64, .iconst 0), (65, .ireturn), (66, .aload_n 0), (67, .getfield 19), (70, .invokevirtual 40), (73, .invokestatic 47), (76, .ifCond .ne 5), (79, .iconst 1), (80, .ireturn), (81, .aload_n 0), (82, .iconst 0), (83, .iload_n 2), (84, .invokevirtual 50), (87, .ifCond .eq 15), (90, .aload_n 0), (91, .getfield 19), (94, .bipush 63)]), (3, [(96, .invokevirtual 36), (99, .ifCond .ne 5), (102, .iconst 0), (103, .ireturn), (104, .aload_n 0), (105, .bipush (-63)), (107, .invokevirtual 32), (110, .aload_n 0), (111, .iconst 0), (112, .invokevirtual 44), (115, .ireturn)])]
def yI247 : List (Nat × List (Nat × Instr)) := [(0, [(0, .aload_n 0), (1, .iload_n 1), (2, .iload_n 2), (3, .invokevirtual 54), (6, .ifCond .ne 5), (9, .iconst 0), (10, .ireturn), (11, .iconst 0), (12, .istore_n 3), (13, .iload_n 3), (14, .sipush 240), (17, .if_icmp .ge 38), (20, .aload_n 0), (21, .getfield 19), (24, .bipush 124), (26, .invokevirtual 36), (29, .ifCond .eq 26)]), (1, [(32, .aload_n 0), (33, .iload_n 1), (34, .iconst 0), (35, .invokevirtual 54), (38, .ifCond .ne 5), (41, .iconst 0), (42, .ireturn), (43, .aload_n 0), (44, .bipush (-124)), (46, .invokevirtual 32), (49, .iinc 3 1), (52, .goto (-39)), (55, .iconst 1), (56, .ireturn)])]
def yI248 : List (Nat × List (Nat × Instr)) := [(0, [(0, .aload_n 0), (1, .getfield 19), (4, .iconst 0), (5, .putfield 23), (8, .aload_n 0), (9, .iconst 0), (10, .putfield 15), (13, .iconst 0), (14, .istore_n 1), (15, .iload_n 1), (16, .sipush 240), (19, .if_icmp .ge 39), (22, .aload_n 0), (23, .invokevirtual 28), (26, .ifCond .ne 5), (29, .iconst 0), (30, .ireturn), (31, .aload_n 0)]), (1, [(32, .bipush (-59)), (34, .invokevirtual 32), (37, .aload_n 0), (38, .getfield 19), (41, .bipush 59), (43, .invokevirtual 36), (46, .ifCond .ne 6), (49, .goto 9), (52, .iinc 1 1), (55, .goto (-40)), (58, .aload_n 0), (59, .getfield 19), (62, .invokevirtual 40)]), (2, [(65, .ifCond .ne 7), (68, .iconst 1), (69, .goto 4), (72, .iconst 0), (73, .ireturn)])]
def yI249 : List (Nat × List (Nat × Instr)) := [(0, [(0, .iload_n 2), (1, .bipush 6), (3, .if_icmp .lt 5), (6, .iconst 0), (7, .ireturn), (8, .aload_n 0), (9, .getfield 19), (12, .dup), (13, .getfield 23), (16, .iconst 1), (17, .iadd), (18, .putfield 23), (21, .iload_n 1), (22, .bipush 40), (24, .if_icmp .ne 32), (27, .aload_n 0), (28, .iload_n 2), (29, .iconst 1), (30, .iadd), (31, .iconst 0)]), (1, [(32, .invokevirtual 50), (35, .ifCond .eq 19), (38, .aload_n 0), (39, .getfield 19), (42, .bipush 41), (44, .invokevirtual 36), (47, .ifCond .eq 7), (50, .iconst 1), (51, .goto 4), (54, .iconst 0), (55, .ireturn), (56, .aload_n 0), (57, .iload_n 2), (58, .iconst 1), (59, .iadd), (60, .iconst 0), (61, .invokevirtual 57)]), (2, [(64, .ifCond .ne 5), (67, .iconst 0), (68, .ireturn), (69, .aload_n 0), (70, .bipush (-33)), (72, .invokevirtual 32), (75, .iconst 1), (76, .ireturn)])]
def yI250 : List (Nat × List (Nat × Instr)) := [(0, [(0, .aload_n 0), (1, .iload_n 1), (2, .invokevirtual 64), (5, .ifCond .ne 5), (8, .iconst 0), (9, .ireturn), (10, .iconst 0), (11, .istore_n 2), (12, .iload_n 2), (13, .sipush 240), (16, .if_icmp .ge 61), (19, .aload_n 0), (20, .getfield 19), (23, .invokevirtual 40), (26, .istore_n 3), (27, .iload_n 3), (28, .bipush 43), (30, .if_icmp .eq 12)]), (1, [(33, .iload_n 3), (34, .bipush 45), (36, .if_icmp .eq 6), (39, .goto 38), (42, .aload_n 0), (43, .getfield 19), (46, .dup), (47, .getfield 23), (50, .iconst 1), (51, .iadd), (52, .putfield 23), (55, .aload_n 0), (56, .iload_n 1), (57, .invokevirtual 64), (60, .ifCond .ne 5), (63, .iconst 0)]), (2, [(64, .ireturn), (65, .aload_n 0), (66, .iload_n 3), (67, .ineg), (68, .invokevirtual 32), (71, .iinc 2 1), (74, .goto (-62)), (77, .iconst 1), (78, .ireturn)])]
def yI251 : List (Nat × List (Nat × Instr)) := [(0, [(0, .aload_n 0), (1, .iload_n 1), (2, .invokevirtual 67), (5, .ifCond .ne 5), (8, .iconst 0), (9, .ireturn), (10, .iconst 0), (11, .istore_n 2), (12, .iload_n 2), (13, .sipush 240), (16, .if_icmp .ge 61), (19, .aload_n 0), (20, .getfield 19), (23, .invokevirtual 40), (26, .istore_n 3), (27, .iload_n 3), (28, .bipush 42), (30, .if_icmp .eq 12)]), (1, [(33, .iload_n 3), (34, .bipush 47), (36, .if_icmp .eq 6), (39, .goto 38), (42, .aload_n 0), (43, .getfield 19), (46, .dup), (47, .getfield 23), (50, .iconst 1), (51, .iadd), (52, .putfield 23), (55, .aload_n 0), (56, .iload_n 1), (57, .invokevirtual 67), (60, .ifCond .ne 5), (63, .iconst 0)]), (2, [(64, .ireturn), (65, .aload_n 0), (66, .iload_n 3), (67, .ineg), (68, .invokevirtual 32), (71, .iinc 2 1), (74, .goto (-62)), (77, .iconst 1), (78, .ireturn)])]
def yI252 : List (Nat × List (Nat × Instr)) := [(0, [(0, .aload_n 0), (1, .iload_n 1), (2, .iload_n 2), (3, .invokevirtual 57), (6, .ifCond .ne 5), (9, .iconst 0), (10, .ireturn), (11, .iconst 0), (12, .istore_n 3), (13, .iload_n 3), (14, .sipush 240), (17, .if_icmp .ge 38), (20, .aload_n 0), (21, .getfield 19), (24, .bipush 38), (26, .invokevirtual 36), (29, .ifCond .eq 26)]), (1, [(32, .aload_n 0), (33, .iload_n 1), (34, .iconst 0), (35, .invokevirtual 57), (38, .ifCond .ne 5), (41, .iconst 0), (42, .ireturn), (43, .aload_n 0), (44, .bipush (-38)), (46, .invokevirtual 32), (49, .iinc 3 1), (52, .goto (-39)), (55, .iconst 1), (56, .ireturn)])]
def yI253 : List (Nat × List (Nat × Instr)) := [(0, [(0, .aload_n 0), (1, .getfield 19), (4, .invokevirtual 40), (7, .istore_n 3), (8, .iload_n 2), (9, .ifCond .ne 22), (12, .iload_n 3), (13, .bipush 33), (15, .if_icmp .eq 9), (18, .iload_n 3), (19, .bipush 40), (21, .if_icmp .ne 10), (24, .aload_n 0), (25, .iload_n 3), (26, .iload_n 1), (27, .invokevirtual 60), (30, .ireturn), (31, .iload_n 2)]), (1, [(32, .ifCond .ne 13), (35, .aload_n 0), (36, .iload_n 1), (37, .invokevirtual 44), (40, .ifCond .ne 5), (43, .iconst 0), (44, .ireturn), (45, .aload_n 0), (46, .getfield 19), (49, .invokevirtual 40), (52, .istore 4), (54, .iload 4), (56, .invokestatic 47), (59, .ifCond .ne 5), (62, .iconst 0), (63, .ireturn)]), (2, [(64, .aload_n 0), (65, .getfield 19), (68, .dup), (69, .getfield 23), (72, .iconst 1), (73, .iadd), (74, .putfield 23), (77, .aload_n 0), (78, .iload_n 1), (79, .invokevirtual 44), (82, .ifCond .ne 5), (85, .iconst 0), (86, .ireturn), (87, .aload_n 0), (88, .iload 4), (90, .ineg), (91, .invokevirtual 32), (94, .iconst 1), (95, .ireturn)])]
def yI254 : List (Nat × List (Nat × Instr)) := [(0, [(0, .aload_n 0), (1, .getfield 24), (4, .getfield 87), (7, .iload_n 1), (8, .iaload), (9, .istore 5), (11, .aload_n 0), (12, .getfield 24), (15, .getfield 87), (18, .iload_n 3), (19, .iaload), (20, .istore 6), (22, .iload 5), (24, .ifCond .eq 26), (27, .iload 6), (29, .ifCond .eq 21)]), (1, [(32, .iload_n 2), (33, .iload 5), (35, .iadd), (36, .iload 4), (38, .if_icmp .le 12), (41, .iload 4), (43, .iload 6), (45, .iadd), (46, .iload_n 2), (47, .if_icmp .gt 7), (50, .iconst 1), (51, .goto 4), (54, .iconst 0), (55, .ireturn)])]
def yI255 : List (Nat × List (Nat × Instr)) := [(0, [(0, .aload_n 0), (1, .invokevirtual 32), (4, .aload_n 0), (5, .invokevirtual 35), (8, .istore_n 1), (9, .iload_n 1), (10, .bipush 100), (12, .if_icmp .ge 7), (15, .iload_n 1), (16, .goto 4), (19, .iconst (-1)), (20, .ireturn)])]
def yI256 : List (Nat × List (Nat × Instr)) := [(0, [(0, .iconst 0), (1, .istore_n 3), (2, .iload_n 3), (3, .aload_n 0), (4, .getfield 24), (7, .getfield 54), (10, .if_icmp .ge 26), (13, .aload_n 0), (14, .getfield 15), (17, .iload_n 1), (18, .iload_n 3), (19, .iastore), (20, .aload_n 0), (21, .invokevirtual 35), (24, .iload_n 2), (25, .if_icmp .ne 5), (28, .iload_n 3), (29, .ireturn), (30, .iinc 3 1)]), (1, [(33, .goto (-31)), (36, .iconst 0), (37, .ireturn)])]
def yI257 : List (Nat × List (Nat × Instr)) := [(0, [(0, .iconst 0), (1, .istore_n 3), (2, .iload_n 3), (3, .aload_n 0), (4, .getfield 24), (7, .getfield 54), (10, .if_icmp .ge 103), (13, .bipush 100), (15, .istore 4), (17, .aload_n 0), (18, .iload_n 2), (19, .iload_n 3), (20, .invokevirtual 57), (23, .ifCond .eq 57), (26, .iconst 0), (27, .istore 5), (29, .iload 5), (31, .aload_n 0)]), (1, [(32, .getfield 24), (35, .getfield 54), (38, .if_icmp .ge 42), (41, .aload_n 0), (42, .getfield 18), (45, .iload 5), (47, .iaload), (48, .iload 4), (50, .if_icmp .ge 24), (53, .aload_n 0), (54, .iload_n 1), (55, .iload 5), (57, .iload_n 2), (58, .iload_n 3), (59, .invokevirtual 77), (62, .ifCond .eq 12)]), (2, [(65, .aload_n 0), (66, .getfield 18), (69, .iload 5), (71, .iaload), (72, .istore 4), (74, .iinc 5 1), (77, .goto (-48)), (80, .aload_n 0), (81, .getfield 21), (84, .iload_n 3), (85, .iload 4), (87, .bipush 100), (89, .if_icmp .ge 15), (92, .iload 4), (94, .aload_n 0), (95, .iload_n 2)]), (3, [(96, .iload_n 3), (97, .invokevirtual 70), (100, .iadd), (101, .goto 5), (104, .bipush 100), (106, .iastore), (107, .iinc 3 1), (110, .goto (-108)), (113, .aload_n 0), (114, .getfield 21), (117, .iconst 0), (118, .aload_n 0), (119, .getfield 18), (122, .iconst 0), (123, .bipush 10), (125, .invokestatic 81)]), (4, [(128, .return_)])]
def yI258 : List (Nat × List (Nat × Instr)) := [(0, [(0, .bipush 100), (2, .istore_n 1), (3, .iconst 0), (4, .istore_n 2), (5, .iload_n 2), (6, .aload_n 0), (7, .getfield 24), (10, .getfield 54), (13, .if_icmp .ge 33), (16, .aload_n 0), (17, .aload_n 0), (18, .getfield 9), (21, .iconst 0), (22, .iaload), (23, .iload_n 2), (24, .invokevirtual 57), (27, .ifCond .eq 13), (30, .iload_n 1), (31, .aload_n 0)]), (1, [(32, .iload_n 2), (33, .invokevirtual 61), (36, .invokestatic 65), (39, .istore_n 1), (40, .iinc 2 1), (43, .goto (-38)), (46, .iload_n 1), (47, .ireturn)])]
def yI259 : List (Nat × List (Nat × Instr)) := [(0, [(0, .iconst 0), (1, .istore_n 2), (2, .iload_n 2), (3, .aload_n 0), (4, .getfield 24), (7, .getfield 54), (10, .if_icmp .ge 36), (13, .aload_n 0), (14, .getfield 18), (17, .iload_n 2), (18, .iload_n 2), (19, .iload_n 1), (20, .if_icmp .ne 17), (23, .aload_n 0), (24, .aload_n 0), (25, .getfield 9), (28, .iconst 0), (29, .iaload), (30, .iload_n 2), (31, .invokevirtual 70)]), (1, [(34, .goto 5), (37, .bipush 100), (39, .iastore), (40, .iinc 2 1), (43, .goto (-41)), (46, .iconst 1), (47, .istore_n 2), (48, .iload_n 2), (49, .aload_n 0), (50, .getfield 24), (53, .getfield 39), (56, .if_icmp .ge 27), (59, .aload_n 0), (60, .aload_n 0), (61, .getfield 9)]), (2, [(64, .iload_n 2), (65, .iconst 1), (66, .isub), (67, .iaload), (68, .aload_n 0), (69, .getfield 9), (72, .iload_n 2), (73, .iaload), (74, .invokevirtual 73), (77, .iinc 2 1), (80, .goto (-32)), (83, .aload_n 0), (84, .getfield 9), (87, .aload_n 0), (88, .getfield 24), (91, .getfield 39), (94, .iconst 1), (95, .isub)]), (3, [(96, .iaload), (97, .istore_n 2), (98, .bipush 100), (100, .istore_n 3), (101, .iconst 0), (102, .istore 4), (104, .iload 4), (106, .aload_n 0), (107, .getfield 24), (110, .getfield 54), (113, .if_icmp .ge 45), (116, .aload_n 0), (117, .getfield 18), (120, .iload 4), (122, .iaload), (123, .iload_n 3), (124, .if_icmp .ge 28), (127, .aload_n 0)]), (4, [(128, .iload_n 2), (129, .iload 4), (131, .aload_n 0), (132, .getfield 9), (135, .iconst 0), (136, .iaload), (137, .iload_n 1), (138, .invokevirtual 77), (141, .ifCond .eq 11), (144, .aload_n 0), (145, .getfield 18), (148, .iload 4), (150, .iaload), (151, .istore_n 3), (152, .iinc 4 1), (155, .goto (-51)), (158, .iload_n 3), (159, .ireturn)])]
def yI260 : List (Nat × List (Nat × Instr)) := [(0, [(0, .aload_n 0), (1, .invokevirtual 32), (4, .aload_n 0), (5, .invokevirtual 35), (8, .istore_n 1), (9, .iload_n 1), (10, .bipush 100), (12, .if_icmp .lt 5), (15, .iconst (-1)), (16, .ireturn), (17, .iconst 0), (18, .istore_n 2), (19, .iconst 0), (20, .istore_n 3), (21, .iload_n 3), (22, .aload_n 0), (23, .getfield 24), (26, .getfield 39), (29, .if_icmp .ge 21)]), (1, [(32, .iload_n 2), (33, .bipush 10), (35, .imul), (36, .aload_n 0), (37, .iload_n 3), (38, .iload_n 1), (39, .invokevirtual 45), (42, .iadd), (43, .istore_n 2), (44, .iinc 3 1), (47, .goto (-26)), (50, .iload_n 2), (51, .ireturn)])]
def yIL : List (List (List (Nat × List (Nat × Instr)))) := [[yI0, yI1, yI2, yI3, yI4, yI5, yI6, yI7, yI8, yI9, yI10, yI11, yI12, yI13, yI14, yI15], [yI16, yI17, yI18, yI19, yI20, yI21, yI22, yI23, yI24, yI25, yI26, yI27, yI28, yI29, yI30, yI31], [yI32, yI33, yI34, yI35, yI36, yI37, yI38, yI39, yI40, yI41, yI42, yI43, yI44, yI45, yI46, yI47], [yI48, yI49, yI50, yI51, yI52, yI53, yI54, yI55, yI56, yI57, yI58, yI59, yI60, yI61, yI62, yI63], [yI64, yI65, yI66, yI67, yI68, yI69, yI70, yI71, yI72, yI73, yI74, yI75, yI76, yI77, yI78, yI79], [yI80, yI81, yI82, yI83, yI84, yI85, yI86, yI87, yI88, yI89, yI90, yI91, yI92, yI93, yI94, yI95], [yI96, yI97, yI98, yI99, yI100, yI101, yI102, yI103, yI104, yI105, yI106, yI107, yI108, yI109, yI110, yI111], [yI112, yI113, yI114, yI115, yI116, yI117, yI118, yI119, yI120, yI121, yI122, yI123, yI124, yI125, yI126, yI127], [yI128, yI129, yI130, yI131, yI132, yI133, yI134, yI135, yI136, yI137, yI138, yI139, yI140, yI141, yI142, yI143], [yI144, yI145, yI146, yI147, yI148, yI149, yI150, yI151, yI152, yI153, yI154, yI155, yI156, yI157, yI158, yI159], [yI160, yI161, yI162, yI163, yI164, yI165, yI166, yI167, yI168, yI169, yI170, yI171, yI172, yI173, yI174, yI175], [yI176, yI177, yI178, yI179, yI180, yI181, yI182, yI183, yI184, yI185, yI186, yI187, yI188, yI189, yI190, yI191], [yI192, yI193, yI194, yI195, yI196, yI197, yI198, yI199, yI200, yI201, yI202, yI203, yI204, yI205, yI206, yI207], [yI208, yI209, yI210, yI211, yI212, yI213, yI214, yI215, yI216, yI217, yI218, yI219, yI220, yI221, yI222, yI223], [yI224, yI225, yI226, yI227, yI228, yI229, yI230, yI231, yI232, yI233, yI234, yI235, yI236, yI237, yI238, yI239], [yI240, yI241, yI242, yI243, yI244, yI245, yI246, yI247, yI248, yI249, yI250, yI251, yI252, yI253, yI254, yI255], [yI256, yI257, yI258, yI259, yI260]]
def yIm (m : Nat) : List (Nat × List (Nat × Instr)) := (yIL.getD (m / 16) []).getD (m % 16) []
def yPI (m pc : Nat) : Option Instr := match (yIm m).find? (fun c => c.1 == pc / 32) with
  | some c => (match c.2.find? (fun p => p.1 == pc) with
    | some p => some p.2
    | none => none)
  | none => none
end
section
/-! what is told of the methods, and that it holds -/
def yGu : Nat → sD := fun _ => []
def yGv : Nat → zH → Int := fun _ _ => 0
theorem yGvOk : sGv yReg yGu yGv := fun _ _ _ _ => rfl
abbrev ySum (Q : sQ) : Prop := sSum yTab yPI yMl yMr yFld yKI yKL yGst yLdS yFldS yAcp yCal yReg yG yGv Q
def slab (Q : sQ) (L : List (Nat × List sA)) (pc : Nat) : List sA := if pc = 0 then Q.2.1 :: (match L.find? (fun p => p.1 == 0) with
  | some p => p.2
  | none => []) else (match L.find? (fun p => p.1 == pc) with
  | some p => p.2
  | none => [])
def yChk (F : Nat) (Q : sQ) (L : List (Nat × List sA)) (Qs : List sQ) : Bool := sseg yPI yMl yMr yFld yKI yKL yGst yLdS yFldS yAcp yCal yReg yRin ySin yG yGu (slab Q L) Qs Q.2.2.2.1 Q.2.2.2.2 Q.2.1.2.1.length Q.2.2.1 Q.1 F 0 true (sAs Q.2.1) && L.all (fun p => p.2.all (fun A => sseg yPI yMl yMr yFld yKI yKL yGst yLdS yFldS yAcp yCal yReg yRin ySin yG yGu (slab Q L) Qs Q.2.2.2.1 Q.2.2.2.2 Q.2.1.2.1.length Q.2.2.1 Q.1 F p.1 true (sAs A)))
theorem yOk {F : Nat} {Q : sQ} {L : List (Nat × List sA)} {Qs : List sQ} (hc : yChk F Q L Qs = true) (hQ : ∀ Q ∈ Qs, ySum Q) : ySum Q := by
  unfold yChk at hc
  rw [Bool.and_eq_true] at hc
  have hf : ∀ (pc : Nat) (A : sA), A ∈ (match L.find? (fun p => p.1 == pc) with | some p => p.2 | none => []) → sseg yPI yMl yMr yFld yKI yKL yGst yLdS yFldS yAcp yCal yReg yRin ySin yG yGu (slab Q L) Qs Q.2.2.2.1 Q.2.2.2.2 Q.2.1.2.1.length Q.2.2.1 Q.1 F pc true (sAs A) = true := by
    intro pc A hA
    cases hl : L.find? (fun p => p.1 == pc) with
    | none => rw [hl] at hA; cases hA
    | some p =>
      rw [hl] at hA
      have h1 : p.1 = pc := by have := List.find?_some hl; simpa using this
      have := (List.all_eq_true.mp ((List.all_eq_true.mp hc.2) p (List.mem_of_find?_eq_some hl))) A hA
      rw [h1] at this
      exact this
  refine smeth (labs := slab Q L) (F := F) yComp ySing yCell yR1000 yGvOk hQ (List.mem_cons_self ..) ?_
  intro pc A hA
  unfold slab at hA
  by_cases h0 : pc = 0
  · rw [if_pos h0] at hA
    rcases List.mem_cons.mp hA with rfl | hA
    · rw [h0]
      exact hc.1
    · rw [h0]
      exact hf 0 A hA
  · rw [if_neg h0] at hA
    exact hf pc A hA
theorem yNil : ∀ Q ∈ ([] : List sQ), ySum Q := fun Q hQ => by cases hQ
theorem yCons {Q : sQ} {l : List sQ} (h : ySum Q) (hl : ∀ Q ∈ l, ySum Q) : ∀ P ∈ Q :: l, ySum P := List.forall_mem_cons.mpr ⟨h, hl⟩
end
