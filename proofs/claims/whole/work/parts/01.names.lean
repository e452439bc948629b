-- ===== PART A: goes FIRST, ahead of the names: the tables' words, and 'selects' of the private methods out of them =====
/-- a private method of a class that the tables say can be made, by its rows of tables_1 -/
def lw_okq (q : MethodName × Nat) : Prop := (q.1.cls ≠ "java/lang/invoke/MethodHandle" ∧ q.1.cls ≠ "java/lang/invoke/VarHandle") ∧ Cond.instantiable q.1.cls q.2 ∈ tables_1 ∧ Cond.privateMethod q.1 ∈ tables_1 ∧ Cond.instanceMethod q.1 ∈ tables_1
theorem lw_p0 : lw_okq (⟨"FamilyReducer", "putInt", "(I)V"⟩, 18) := ⟨⟨by decide +kernel, by decide +kernel⟩, List.mem_of_getElem? (i := 16) (by decide +kernel), List.mem_of_getElem? (i := 544) (by decide +kernel), List.mem_of_getElem? (i := 545) (by decide +kernel)⟩
theorem lw_p1 : lw_okq (⟨"FamilyReducer", "refuse", "(I)I"⟩, 18) := ⟨⟨by decide +kernel, by decide +kernel⟩, List.mem_of_getElem? (i := 16) (by decide +kernel), List.mem_of_getElem? (i := 552) (by decide +kernel), List.mem_of_getElem? (i := 553) (by decide +kernel)⟩
theorem lw_p2 : lw_okq (⟨"FamilyReducer$Reader", "begin", "([IILFamilyReducer$Told;)V"⟩, 15) := ⟨⟨by decide +kernel, by decide +kernel⟩, List.mem_of_getElem? (i := 199) (by decide +kernel), List.mem_of_getElem? (i := 564) (by decide +kernel), List.mem_of_getElem? (i := 565) (by decide +kernel)⟩
theorem lw_p3 : lw_okq (⟨"FamilyReducer$Lexer", "add", "(III)V"⟩, 4) := ⟨⟨by decide +kernel, by decide +kernel⟩, List.mem_of_getElem? (i := 205) (by decide +kernel), List.mem_of_getElem? (i := 590) (by decide +kernel), List.mem_of_getElem? (i := 591) (by decide +kernel)⟩
theorem lw_p4 : lw_okq (⟨"FamilyReducer$Reader", "next", "()V"⟩, 15) := ⟨⟨by decide +kernel, by decide +kernel⟩, List.mem_of_getElem? (i := 199) (by decide +kernel), List.mem_of_getElem? (i := 601) (by decide +kernel), List.mem_of_getElem? (i := 602) (by decide +kernel)⟩
theorem lw_p5 : lw_okq (⟨"FamilyReducer$Reader", "isWord", "(I)Z"⟩, 15) := ⟨⟨by decide +kernel, by decide +kernel⟩, List.mem_of_getElem? (i := 199) (by decide +kernel), List.mem_of_getElem? (i := 605) (by decide +kernel), List.mem_of_getElem? (i := 606) (by decide +kernel)⟩
theorem lw_p6 : lw_okq (⟨"FamilyReducer$Reader", "readHead", "(IZ)Z"⟩, 15) := ⟨⟨by decide +kernel, by decide +kernel⟩, List.mem_of_getElem? (i := 199) (by decide +kernel), List.mem_of_getElem? (i := 609) (by decide +kernel), List.mem_of_getElem? (i := 610) (by decide +kernel)⟩
theorem lw_p7 : lw_okq (⟨"FamilyReducer$Reader", "fail", "(I)Z"⟩, 15) := ⟨⟨by decide +kernel, by decide +kernel⟩, List.mem_of_getElem? (i := 199) (by decide +kernel), List.mem_of_getElem? (i := 613) (by decide +kernel), List.mem_of_getElem? (i := 614) (by decide +kernel)⟩
theorem lw_p8 : lw_okq (⟨"FamilyReducer$Reader", "readEquation", "(I)Z"⟩, 15) := ⟨⟨by decide +kernel, by decide +kernel⟩, List.mem_of_getElem? (i := 199) (by decide +kernel), List.mem_of_getElem? (i := 635) (by decide +kernel), List.mem_of_getElem? (i := 636) (by decide +kernel)⟩
theorem lw_p9 : lw_okq (⟨"FamilyReducer$Reader", "forgetWords", "(I)V"⟩, 15) := ⟨⟨by decide +kernel, by decide +kernel⟩, List.mem_of_getElem? (i := 199) (by decide +kernel), List.mem_of_getElem? (i := 639) (by decide +kernel), List.mem_of_getElem? (i := 640) (by decide +kernel)⟩
theorem lw_p10 : lw_okq (⟨"FamilyReducer$Reader", "readBoth", "(LFamilyReducer$Row;LFamilyReducer$Row;II)Z"⟩, 15) := ⟨⟨by decide +kernel, by decide +kernel⟩, List.mem_of_getElem? (i := 199) (by decide +kernel), List.mem_of_getElem? (i := 643) (by decide +kernel), List.mem_of_getElem? (i := 644) (by decide +kernel)⟩
theorem lw_p11 : lw_okq (⟨"FamilyReducer$Reader", "readSide", "(LFamilyReducer$Row;I)Z"⟩, 15) := ⟨⟨by decide +kernel, by decide +kernel⟩, List.mem_of_getElem? (i := 199) (by decide +kernel), List.mem_of_getElem? (i := 647) (by decide +kernel), List.mem_of_getElem? (i := 648) (by decide +kernel)⟩
theorem lw_p12 : lw_okq (⟨"FamilyReducer$Reader", "readNode", "(LFamilyReducer$Row;)Z"⟩, 15) := ⟨⟨by decide +kernel, by decide +kernel⟩, List.mem_of_getElem? (i := 199) (by decide +kernel), List.mem_of_getElem? (i := 651) (by decide +kernel), List.mem_of_getElem? (i := 652) (by decide +kernel)⟩
theorem lw_p13 : lw_okq (⟨"FamilyReducer$Reader", "readUnknown", "(LFamilyReducer$Row;)Z"⟩, 15) := ⟨⟨by decide +kernel, by decide +kernel⟩, List.mem_of_getElem? (i := 199) (by decide +kernel), List.mem_of_getElem? (i := 655) (by decide +kernel), List.mem_of_getElem? (i := 656) (by decide +kernel)⟩
theorem lw_p14 : lw_okq (⟨"FamilyReducer$Reader", "isVariable", "()Z"⟩, 15) := ⟨⟨by decide +kernel, by decide +kernel⟩, List.mem_of_getElem? (i := 199) (by decide +kernel), List.mem_of_getElem? (i := 668) (by decide +kernel), List.mem_of_getElem? (i := 669) (by decide +kernel)⟩
theorem lw_p15 : lw_okq (⟨"FamilyReducer$Reader", "indexOfWord", "(I)I"⟩, 15) := ⟨⟨by decide +kernel, by decide +kernel⟩, List.mem_of_getElem? (i := 199) (by decide +kernel), List.mem_of_getElem? (i := 674) (by decide +kernel), List.mem_of_getElem? (i := 675) (by decide +kernel)⟩
def lw_privs_1 : List (MethodName × Nat) := [(⟨"FamilyReducer", "putInt", "(I)V"⟩, 18), (⟨"FamilyReducer", "refuse", "(I)I"⟩, 18), (⟨"FamilyReducer$Reader", "begin", "([IILFamilyReducer$Told;)V"⟩, 15), (⟨"FamilyReducer$Lexer", "add", "(III)V"⟩, 4), (⟨"FamilyReducer$Reader", "next", "()V"⟩, 15), (⟨"FamilyReducer$Reader", "isWord", "(I)Z"⟩, 15), (⟨"FamilyReducer$Reader", "readHead", "(IZ)Z"⟩, 15), (⟨"FamilyReducer$Reader", "fail", "(I)Z"⟩, 15), (⟨"FamilyReducer$Reader", "readEquation", "(I)Z"⟩, 15), (⟨"FamilyReducer$Reader", "forgetWords", "(I)V"⟩, 15), (⟨"FamilyReducer$Reader", "readBoth", "(LFamilyReducer$Row;LFamilyReducer$Row;II)Z"⟩, 15), (⟨"FamilyReducer$Reader", "readSide", "(LFamilyReducer$Row;I)Z"⟩, 15), (⟨"FamilyReducer$Reader", "readNode", "(LFamilyReducer$Row;)Z"⟩, 15), (⟨"FamilyReducer$Reader", "readUnknown", "(LFamilyReducer$Row;)Z"⟩, 15), (⟨"FamilyReducer$Reader", "isVariable", "()Z"⟩, 15), (⟨"FamilyReducer$Reader", "indexOfWord", "(I)I"⟩, 15)]
theorem lw_r1 : ∀ q ∈ lw_privs_1, lw_okq q := List.forall_mem_cons.mpr ⟨lw_p0, List.forall_mem_cons.mpr ⟨lw_p1, List.forall_mem_cons.mpr ⟨lw_p2, List.forall_mem_cons.mpr ⟨lw_p3, List.forall_mem_cons.mpr ⟨lw_p4, List.forall_mem_cons.mpr ⟨lw_p5, List.forall_mem_cons.mpr ⟨lw_p6, List.forall_mem_cons.mpr ⟨lw_p7, List.forall_mem_cons.mpr ⟨lw_p8, List.forall_mem_cons.mpr ⟨lw_p9, List.forall_mem_cons.mpr ⟨lw_p10, List.forall_mem_cons.mpr ⟨lw_p11, List.forall_mem_cons.mpr ⟨lw_p12, List.forall_mem_cons.mpr ⟨lw_p13, List.forall_mem_cons.mpr ⟨lw_p14, List.forall_mem_cons.mpr ⟨lw_p15, fun _ h => absurd h List.not_mem_nil⟩⟩⟩⟩⟩⟩⟩⟩⟩⟩⟩⟩⟩⟩⟩⟩
theorem lw_p16 : lw_okq (⟨"FamilyReducer$Reader", "endsTerm", "(I)Z"⟩, 15) := ⟨⟨by decide +kernel, by decide +kernel⟩, List.mem_of_getElem? (i := 199) (by decide +kernel), List.mem_of_getElem? (i := 684) (by decide +kernel), List.mem_of_getElem? (i := 685) (by decide +kernel)⟩
theorem lw_p17 : lw_okq (⟨"FamilyReducer$Reader", "closeFrames", "(I)I"⟩, 15) := ⟨⟨by decide +kernel, by decide +kernel⟩, List.mem_of_getElem? (i := 199) (by decide +kernel), List.mem_of_getElem? (i := 688) (by decide +kernel), List.mem_of_getElem? (i := 689) (by decide +kernel)⟩
theorem lw_p18 : lw_okq (⟨"FamilyReducer", "takeTape", "(Z)Z"⟩, 18) := ⟨⟨by decide +kernel, by decide +kernel⟩, List.mem_of_getElem? (i := 16) (by decide +kernel), List.mem_of_getElem? (i := 699) (by decide +kernel), List.mem_of_getElem? (i := 700) (by decide +kernel)⟩
theorem lw_p19 : lw_okq (⟨"FamilyReducer$Judge", "rightsAgree", "(LFamilyReducer$Told;II)Z"⟩, 2) := ⟨⟨by decide +kernel, by decide +kernel⟩, List.mem_of_getElem? (i := 317) (by decide +kernel), List.mem_of_getElem? (i := 707) (by decide +kernel), List.mem_of_getElem? (i := 708) (by decide +kernel)⟩
theorem lw_p20 : lw_okq (⟨"FamilyReducer$Joiner", "top", "(I)I"⟩, 11) := ⟨⟨by decide +kernel, by decide +kernel⟩, List.mem_of_getElem? (i := 277) (by decide +kernel), List.mem_of_getElem? (i := 740) (by decide +kernel), List.mem_of_getElem? (i := 741) (by decide +kernel)⟩
theorem lw_p21 : lw_okq (⟨"FamilyReducer$Joiner", "isVariable", "(I)Z"⟩, 11) := ⟨⟨by decide +kernel, by decide +kernel⟩, List.mem_of_getElem? (i := 277) (by decide +kernel), List.mem_of_getElem? (i := 744) (by decide +kernel), List.mem_of_getElem? (i := 745) (by decide +kernel)⟩
theorem lw_p22 : lw_okq (⟨"FamilyReducer$Joiner", "kidsAreMarked", "(I)Z"⟩, 11) := ⟨⟨by decide +kernel, by decide +kernel⟩, List.mem_of_getElem? (i := 277) (by decide +kernel), List.mem_of_getElem? (i := 752) (by decide +kernel), List.mem_of_getElem? (i := 753) (by decide +kernel)⟩
theorem lw_p23 : lw_okq (⟨"FamilyReducer$Judge", "judgeBackwards", "(LFamilyReducer$Told;I)V"⟩, 2) := ⟨⟨by decide +kernel, by decide +kernel⟩, List.mem_of_getElem? (i := 317) (by decide +kernel), List.mem_of_getElem? (i := 756) (by decide +kernel), List.mem_of_getElem? (i := 757) (by decide +kernel)⟩
theorem lw_p24 : lw_okq (⟨"FamilyReducer$Judge", "badAlone", "(LFamilyReducer$Told;I)I"⟩, 2) := ⟨⟨by decide +kernel, by decide +kernel⟩, List.mem_of_getElem? (i := 317) (by decide +kernel), List.mem_of_getElem? (i := 760) (by decide +kernel), List.mem_of_getElem? (i := 761) (by decide +kernel)⟩
theorem lw_p25 : lw_okq (⟨"FamilyReducer$Judge", "badTogether", "(LFamilyReducer$Told;II)Z"⟩, 2) := ⟨⟨by decide +kernel, by decide +kernel⟩, List.mem_of_getElem? (i := 317) (by decide +kernel), List.mem_of_getElem? (i := 775) (by decide +kernel), List.mem_of_getElem? (i := 776) (by decide +kernel)⟩
theorem lw_p26 : lw_okq (⟨"FamilyReducer", "give", "(I)I"⟩, 18) := ⟨⟨by decide +kernel, by decide +kernel⟩, List.mem_of_getElem? (i := 16) (by decide +kernel), List.mem_of_getElem? (i := 783) (by decide +kernel), List.mem_of_getElem? (i := 784) (by decide +kernel)⟩
theorem lw_p27 : lw_okq (⟨"FamilyReducer", "isEquation", "(I)Z"⟩, 18) := ⟨⟨by decide +kernel, by decide +kernel⟩, List.mem_of_getElem? (i := 16) (by decide +kernel), List.mem_of_getElem? (i := 827) (by decide +kernel), List.mem_of_getElem? (i := 828) (by decide +kernel)⟩
theorem lw_p28 : lw_okq (⟨"FamilyReducer$Told", "unboundedAt", "(III)I"⟩, 17) := ⟨⟨by decide +kernel, by decide +kernel⟩, List.mem_of_getElem? (i := 24) (by decide +kernel), List.mem_of_getElem? (i := 840) (by decide +kernel), List.mem_of_getElem? (i := 841) (by decide +kernel)⟩
theorem lw_p29 : lw_okq (⟨"FamilyReducer$Printer", "put", "(I)V"⟩, 3) := ⟨⟨by decide +kernel, by decide +kernel⟩, List.mem_of_getElem? (i := 463) (by decide +kernel), List.mem_of_getElem? (i := 872) (by decide +kernel), List.mem_of_getElem? (i := 873) (by decide +kernel)⟩
theorem lw_p30 : lw_okq (⟨"FamilyReducer$Printer", "putLetters", "(II)V"⟩, 3) := ⟨⟨by decide +kernel, by decide +kernel⟩, List.mem_of_getElem? (i := 463) (by decide +kernel), List.mem_of_getElem? (i := 887) (by decide +kernel), List.mem_of_getElem? (i := 888) (by decide +kernel)⟩
theorem lw_p31 : lw_okq (⟨"FamilyReducer", "deepest", "()I"⟩, 18) := ⟨⟨by decide +kernel, by decide +kernel⟩, List.mem_of_getElem? (i := 16) (by decide +kernel), List.mem_of_getElem? (i := 927) (by decide +kernel), List.mem_of_getElem? (i := 928) (by decide +kernel)⟩
def lw_privs_2 : List (MethodName × Nat) := [(⟨"FamilyReducer$Reader", "endsTerm", "(I)Z"⟩, 15), (⟨"FamilyReducer$Reader", "closeFrames", "(I)I"⟩, 15), (⟨"FamilyReducer", "takeTape", "(Z)Z"⟩, 18), (⟨"FamilyReducer$Judge", "rightsAgree", "(LFamilyReducer$Told;II)Z"⟩, 2), (⟨"FamilyReducer$Joiner", "top", "(I)I"⟩, 11), (⟨"FamilyReducer$Joiner", "isVariable", "(I)Z"⟩, 11), (⟨"FamilyReducer$Joiner", "kidsAreMarked", "(I)Z"⟩, 11), (⟨"FamilyReducer$Judge", "judgeBackwards", "(LFamilyReducer$Told;I)V"⟩, 2), (⟨"FamilyReducer$Judge", "badAlone", "(LFamilyReducer$Told;I)I"⟩, 2), (⟨"FamilyReducer$Judge", "badTogether", "(LFamilyReducer$Told;II)Z"⟩, 2), (⟨"FamilyReducer", "give", "(I)I"⟩, 18), (⟨"FamilyReducer", "isEquation", "(I)Z"⟩, 18), (⟨"FamilyReducer$Told", "unboundedAt", "(III)I"⟩, 17), (⟨"FamilyReducer$Printer", "put", "(I)V"⟩, 3), (⟨"FamilyReducer$Printer", "putLetters", "(II)V"⟩, 3), (⟨"FamilyReducer", "deepest", "()I"⟩, 18)]
theorem lw_r2 : ∀ q ∈ lw_privs_2, lw_okq q := List.forall_mem_cons.mpr ⟨lw_p16, List.forall_mem_cons.mpr ⟨lw_p17, List.forall_mem_cons.mpr ⟨lw_p18, List.forall_mem_cons.mpr ⟨lw_p19, List.forall_mem_cons.mpr ⟨lw_p20, List.forall_mem_cons.mpr ⟨lw_p21, List.forall_mem_cons.mpr ⟨lw_p22, List.forall_mem_cons.mpr ⟨lw_p23, List.forall_mem_cons.mpr ⟨lw_p24, List.forall_mem_cons.mpr ⟨lw_p25, List.forall_mem_cons.mpr ⟨lw_p26, List.forall_mem_cons.mpr ⟨lw_p27, List.forall_mem_cons.mpr ⟨lw_p28, List.forall_mem_cons.mpr ⟨lw_p29, List.forall_mem_cons.mpr ⟨lw_p30, List.forall_mem_cons.mpr ⟨lw_p31, fun _ h => absurd h List.not_mem_nil⟩⟩⟩⟩⟩⟩⟩⟩⟩⟩⟩⟩⟩⟩⟩⟩
theorem lw_p32 : lw_okq (⟨"FamilyReducer", "termVariable", "(I)I"⟩, 18) := ⟨⟨by decide +kernel, by decide +kernel⟩, List.mem_of_getElem? (i := 16) (by decide +kernel), List.mem_of_getElem? (i := 967) (by decide +kernel), List.mem_of_getElem? (i := 968) (by decide +kernel)⟩
theorem lw_p33 : lw_okq (⟨"FamilyReducer$Reducer", "orderPlaces", "(I)V"⟩, 16) := ⟨⟨by decide +kernel, by decide +kernel⟩, List.mem_of_getElem? (i := 331) (by decide +kernel), List.mem_of_getElem? (i := 995) (by decide +kernel), List.mem_of_getElem? (i := 996) (by decide +kernel)⟩
theorem lw_p34 : lw_okq (⟨"FamilyReducer$Reducer", "givenAt", "(I)I"⟩, 16) := ⟨⟨by decide +kernel, by decide +kernel⟩, List.mem_of_getElem? (i := 331) (by decide +kernel), List.mem_of_getElem? (i := 1001) (by decide +kernel), List.mem_of_getElem? (i := 1002) (by decide +kernel)⟩
theorem lw_p35 : lw_okq (⟨"FamilyReducer$Printer", "putCode", "(ILFamilyReducer$Told;[I)V"⟩, 3) := ⟨⟨by decide +kernel, by decide +kernel⟩, List.mem_of_getElem? (i := 463) (by decide +kernel), List.mem_of_getElem? (i := 1044) (by decide +kernel), List.mem_of_getElem? (i := 1045) (by decide +kernel)⟩
theorem lw_p36 : lw_okq (⟨"FamilyReducer$Reader", "readGiven", "(I)Z"⟩, 15) := ⟨⟨by decide +kernel, by decide +kernel⟩, List.mem_of_getElem? (i := 199) (by decide +kernel), List.mem_of_getElem? (i := 1066) (by decide +kernel), List.mem_of_getElem? (i := 1067) (by decide +kernel)⟩
theorem lw_p37 : lw_okq (⟨"FamilyReducer$Reader", "readWant", "(I)Z"⟩, 15) := ⟨⟨by decide +kernel, by decide +kernel⟩, List.mem_of_getElem? (i := 199) (by decide +kernel), List.mem_of_getElem? (i := 1070) (by decide +kernel), List.mem_of_getElem? (i := 1071) (by decide +kernel)⟩
theorem lw_p38 : lw_okq (⟨"FamilyReducer$Solver", "settle", "(LFamilyReducer$Told;I)I"⟩, 16) := ⟨⟨by decide +kernel, by decide +kernel⟩, List.mem_of_getElem? (i := 397) (by decide +kernel), List.mem_of_getElem? (i := 1101) (by decide +kernel), List.mem_of_getElem? (i := 1102) (by decide +kernel)⟩
theorem lw_p39 : lw_okq (⟨"FamilyReducer$Solver", "become", "(ILFamilyReducer$Row;)I"⟩, 16) := ⟨⟨by decide +kernel, by decide +kernel⟩, List.mem_of_getElem? (i := 397) (by decide +kernel), List.mem_of_getElem? (i := 1106) (by decide +kernel), List.mem_of_getElem? (i := 1107) (by decide +kernel)⟩
theorem lw_p40 : lw_okq (⟨"FamilyReducer$Solver", "takeApart", "(I)I"⟩, 16) := ⟨⟨by decide +kernel, by decide +kernel⟩, List.mem_of_getElem? (i := 397) (by decide +kernel), List.mem_of_getElem? (i := 1112) (by decide +kernel), List.mem_of_getElem? (i := 1113) (by decide +kernel)⟩
theorem lw_p41 : lw_okq (⟨"FamilyReducer$Solver", "remove", "(I)V"⟩, 16) := ⟨⟨by decide +kernel, by decide +kernel⟩, List.mem_of_getElem? (i := 397) (by decide +kernel), List.mem_of_getElem? (i := 1123) (by decide +kernel), List.mem_of_getElem? (i := 1124) (by decide +kernel)⟩
theorem lw_p42 : lw_okq (⟨"FamilyReducerModel", "come", "(I)V"⟩, 116) := ⟨⟨by decide +kernel, by decide +kernel⟩, List.mem_of_getElem? (i := 1137) (by decide +kernel), List.mem_of_getElem? (i := 1503) (by decide +kernel), List.mem_of_getElem? (i := 1504) (by decide +kernel)⟩
theorem lw_p43 : lw_okq (⟨"FamilyReducerModel", "refuse", "(I)I"⟩, 116) := ⟨⟨by decide +kernel, by decide +kernel⟩, List.mem_of_getElem? (i := 1137) (by decide +kernel), List.mem_of_getElem? (i := 1514) (by decide +kernel), List.mem_of_getElem? (i := 1515) (by decide +kernel)⟩
theorem lw_p44 : lw_okq (⟨"FamilyReducerModel", "begins", "(I)V"⟩, 116) := ⟨⟨by decide +kernel, by decide +kernel⟩, List.mem_of_getElem? (i := 1137) (by decide +kernel), List.mem_of_getElem? (i := 1518) (by decide +kernel), List.mem_of_getElem? (i := 1519) (by decide +kernel)⟩
theorem lw_p45 : lw_okq (⟨"FamilyReducerModel", "go", "()V"⟩, 116) := ⟨⟨by decide +kernel, by decide +kernel⟩, List.mem_of_getElem? (i := 1137) (by decide +kernel), List.mem_of_getElem? (i := 1522) (by decide +kernel), List.mem_of_getElem? (i := 1523) (by decide +kernel)⟩
theorem lw_p46 : lw_okq (⟨"FamilyReducerModel", "byteAt", "(I)I"⟩, 116) := ⟨⟨by decide +kernel, by decide +kernel⟩, List.mem_of_getElem? (i := 1137) (by decide +kernel), List.mem_of_getElem? (i := 1526) (by decide +kernel), List.mem_of_getElem? (i := 1527) (by decide +kernel)⟩
theorem lw_p47 : lw_okq (⟨"FamilyReducerModel", "readLine", "()Z"⟩, 116) := ⟨⟨by decide +kernel, by decide +kernel⟩, List.mem_of_getElem? (i := 1137) (by decide +kernel), List.mem_of_getElem? (i := 1539) (by decide +kernel), List.mem_of_getElem? (i := 1540) (by decide +kernel)⟩
def lw_privs_3 : List (MethodName × Nat) := [(⟨"FamilyReducer", "termVariable", "(I)I"⟩, 18), (⟨"FamilyReducer$Reducer", "orderPlaces", "(I)V"⟩, 16), (⟨"FamilyReducer$Reducer", "givenAt", "(I)I"⟩, 16), (⟨"FamilyReducer$Printer", "putCode", "(ILFamilyReducer$Told;[I)V"⟩, 3), (⟨"FamilyReducer$Reader", "readGiven", "(I)Z"⟩, 15), (⟨"FamilyReducer$Reader", "readWant", "(I)Z"⟩, 15), (⟨"FamilyReducer$Solver", "settle", "(LFamilyReducer$Told;I)I"⟩, 16), (⟨"FamilyReducer$Solver", "become", "(ILFamilyReducer$Row;)I"⟩, 16), (⟨"FamilyReducer$Solver", "takeApart", "(I)I"⟩, 16), (⟨"FamilyReducer$Solver", "remove", "(I)V"⟩, 16), (⟨"FamilyReducerModel", "come", "(I)V"⟩, 116), (⟨"FamilyReducerModel", "refuse", "(I)I"⟩, 116), (⟨"FamilyReducerModel", "begins", "(I)V"⟩, 116), (⟨"FamilyReducerModel", "go", "()V"⟩, 116), (⟨"FamilyReducerModel", "byteAt", "(I)I"⟩, 116), (⟨"FamilyReducerModel", "readLine", "()Z"⟩, 116)]
theorem lw_r3 : ∀ q ∈ lw_privs_3, lw_okq q := List.forall_mem_cons.mpr ⟨lw_p32, List.forall_mem_cons.mpr ⟨lw_p33, List.forall_mem_cons.mpr ⟨lw_p34, List.forall_mem_cons.mpr ⟨lw_p35, List.forall_mem_cons.mpr ⟨lw_p36, List.forall_mem_cons.mpr ⟨lw_p37, List.forall_mem_cons.mpr ⟨lw_p38, List.forall_mem_cons.mpr ⟨lw_p39, List.forall_mem_cons.mpr ⟨lw_p40, List.forall_mem_cons.mpr ⟨lw_p41, List.forall_mem_cons.mpr ⟨lw_p42, List.forall_mem_cons.mpr ⟨lw_p43, List.forall_mem_cons.mpr ⟨lw_p44, List.forall_mem_cons.mpr ⟨lw_p45, List.forall_mem_cons.mpr ⟨lw_p46, List.forall_mem_cons.mpr ⟨lw_p47, fun _ h => absurd h List.not_mem_nil⟩⟩⟩⟩⟩⟩⟩⟩⟩⟩⟩⟩⟩⟩⟩⟩
theorem lw_p48 : lw_okq (⟨"FamilyReducerModel", "isWord", "(I)Z"⟩, 116) := ⟨⟨by decide +kernel, by decide +kernel⟩, List.mem_of_getElem? (i := 1137) (by decide +kernel), List.mem_of_getElem? (i := 1543) (by decide +kernel), List.mem_of_getElem? (i := 1544) (by decide +kernel)⟩
theorem lw_p49 : lw_okq (⟨"FamilyReducerModel", "readTold", "(ZZ)Z"⟩, 116) := ⟨⟨by decide +kernel, by decide +kernel⟩, List.mem_of_getElem? (i := 1137) (by decide +kernel), List.mem_of_getElem? (i := 1553) (by decide +kernel), List.mem_of_getElem? (i := 1554) (by decide +kernel)⟩
theorem lw_p50 : lw_okq (⟨"FamilyReducerModel", "bad", "(I)Z"⟩, 116) := ⟨⟨by decide +kernel, by decide +kernel⟩, List.mem_of_getElem? (i := 1137) (by decide +kernel), List.mem_of_getElem? (i := 1557) (by decide +kernel), List.mem_of_getElem? (i := 1558) (by decide +kernel)⟩
theorem lw_p51 : lw_okq (⟨"FamilyReducerModel", "famOf", "(J)I"⟩, 116) := ⟨⟨by decide +kernel, by decide +kernel⟩, List.mem_of_getElem? (i := 1137) (by decide +kernel), List.mem_of_getElem? (i := 1561) (by decide +kernel), List.mem_of_getElem? (i := 1562) (by decide +kernel)⟩
theorem lw_p52 : lw_okq (⟨"FamilyReducerModel", "conOf", "(J)I"⟩, 116) := ⟨⟨by decide +kernel, by decide +kernel⟩, List.mem_of_getElem? (i := 1137) (by decide +kernel), List.mem_of_getElem? (i := 1565) (by decide +kernel), List.mem_of_getElem? (i := 1566) (by decide +kernel)⟩
theorem lw_p53 : lw_okq (⟨"FamilyReducerModel", "eats", "(I)Z"⟩, 116) := ⟨⟨by decide +kernel, by decide +kernel⟩, List.mem_of_getElem? (i := 1137) (by decide +kernel), List.mem_of_getElem? (i := 1569) (by decide +kernel), List.mem_of_getElem? (i := 1570) (by decide +kernel)⟩
theorem lw_p54 : lw_okq (⟨"FamilyReducerModel", "isSign", "(I)Z"⟩, 116) := ⟨⟨by decide +kernel, by decide +kernel⟩, List.mem_of_getElem? (i := 1137) (by decide +kernel), List.mem_of_getElem? (i := 1573) (by decide +kernel), List.mem_of_getElem? (i := 1574) (by decide +kernel)⟩
theorem lw_p55 : lw_okq (⟨"FamilyReducerModel", "readEquation", "()Z"⟩, 116) := ⟨⟨by decide +kernel, by decide +kernel⟩, List.mem_of_getElem? (i := 1137) (by decide +kernel), List.mem_of_getElem? (i := 1577) (by decide +kernel), List.mem_of_getElem? (i := 1578) (by decide +kernel)⟩
theorem lw_p56 : lw_okq (⟨"FamilyReducerModel", "eqAt", "(I)I"⟩, 116) := ⟨⟨by decide +kernel, by decide +kernel⟩, List.mem_of_getElem? (i := 1137) (by decide +kernel), List.mem_of_getElem? (i := 1581) (by decide +kernel), List.mem_of_getElem? (i := 1582) (by decide +kernel)⟩
theorem lw_p57 : lw_okq (⟨"FamilyReducerModel", "readWhole", "(IIIZ[II)I"⟩, 116) := ⟨⟨by decide +kernel, by decide +kernel⟩, List.mem_of_getElem? (i := 1137) (by decide +kernel), List.mem_of_getElem? (i := 1585) (by decide +kernel), List.mem_of_getElem? (i := 1586) (by decide +kernel)⟩
theorem lw_p58 : lw_okq (⟨"FamilyReducerModel", "readTerm", "(IZZ)Z"⟩, 116) := ⟨⟨by decide +kernel, by decide +kernel⟩, List.mem_of_getElem? (i := 1137) (by decide +kernel), List.mem_of_getElem? (i := 1589) (by decide +kernel), List.mem_of_getElem? (i := 1590) (by decide +kernel)⟩
theorem lw_p59 : lw_okq (⟨"FamilyReducerModel", "isVariable", "()Z"⟩, 116) := ⟨⟨by decide +kernel, by decide +kernel⟩, List.mem_of_getElem? (i := 1137) (by decide +kernel), List.mem_of_getElem? (i := 1593) (by decide +kernel), List.mem_of_getElem? (i := 1594) (by decide +kernel)⟩
theorem lw_p60 : lw_okq (⟨"FamilyReducerModel", "readVariable", "()Z"⟩, 116) := ⟨⟨by decide +kernel, by decide +kernel⟩, List.mem_of_getElem? (i := 1137) (by decide +kernel), List.mem_of_getElem? (i := 1597) (by decide +kernel), List.mem_of_getElem? (i := 1598) (by decide +kernel)⟩
theorem lw_p61 : lw_okq (⟨"FamilyReducerModel", "puts", "(I)Z"⟩, 116) := ⟨⟨by decide +kernel, by decide +kernel⟩, List.mem_of_getElem? (i := 1137) (by decide +kernel), List.mem_of_getElem? (i := 1604) (by decide +kernel), List.mem_of_getElem? (i := 1605) (by decide +kernel)⟩
theorem lw_p62 : lw_okq (⟨"FamilyReducerModel", "readUnknown", "()Z"⟩, 116) := ⟨⟨by decide +kernel, by decide +kernel⟩, List.mem_of_getElem? (i := 1137) (by decide +kernel), List.mem_of_getElem? (i := 1608) (by decide +kernel), List.mem_of_getElem? (i := 1609) (by decide +kernel)⟩
theorem lw_p63 : lw_okq (⟨"FamilyReducerModel", "takes", "(I)I"⟩, 116) := ⟨⟨by decide +kernel, by decide +kernel⟩, List.mem_of_getElem? (i := 1137) (by decide +kernel), List.mem_of_getElem? (i := 1612) (by decide +kernel), List.mem_of_getElem? (i := 1613) (by decide +kernel)⟩
def lw_privs_4 : List (MethodName × Nat) := [(⟨"FamilyReducerModel", "isWord", "(I)Z"⟩, 116), (⟨"FamilyReducerModel", "readTold", "(ZZ)Z"⟩, 116), (⟨"FamilyReducerModel", "bad", "(I)Z"⟩, 116), (⟨"FamilyReducerModel", "famOf", "(J)I"⟩, 116), (⟨"FamilyReducerModel", "conOf", "(J)I"⟩, 116), (⟨"FamilyReducerModel", "eats", "(I)Z"⟩, 116), (⟨"FamilyReducerModel", "isSign", "(I)Z"⟩, 116), (⟨"FamilyReducerModel", "readEquation", "()Z"⟩, 116), (⟨"FamilyReducerModel", "eqAt", "(I)I"⟩, 116), (⟨"FamilyReducerModel", "readWhole", "(IIIZ[II)I"⟩, 116), (⟨"FamilyReducerModel", "readTerm", "(IZZ)Z"⟩, 116), (⟨"FamilyReducerModel", "isVariable", "()Z"⟩, 116), (⟨"FamilyReducerModel", "readVariable", "()Z"⟩, 116), (⟨"FamilyReducerModel", "puts", "(I)Z"⟩, 116), (⟨"FamilyReducerModel", "readUnknown", "()Z"⟩, 116), (⟨"FamilyReducerModel", "takes", "(I)I"⟩, 116)]
theorem lw_r4 : ∀ q ∈ lw_privs_4, lw_okq q := List.forall_mem_cons.mpr ⟨lw_p48, List.forall_mem_cons.mpr ⟨lw_p49, List.forall_mem_cons.mpr ⟨lw_p50, List.forall_mem_cons.mpr ⟨lw_p51, List.forall_mem_cons.mpr ⟨lw_p52, List.forall_mem_cons.mpr ⟨lw_p53, List.forall_mem_cons.mpr ⟨lw_p54, List.forall_mem_cons.mpr ⟨lw_p55, List.forall_mem_cons.mpr ⟨lw_p56, List.forall_mem_cons.mpr ⟨lw_p57, List.forall_mem_cons.mpr ⟨lw_p58, List.forall_mem_cons.mpr ⟨lw_p59, List.forall_mem_cons.mpr ⟨lw_p60, List.forall_mem_cons.mpr ⟨lw_p61, List.forall_mem_cons.mpr ⟨lw_p62, List.forall_mem_cons.mpr ⟨lw_p63, fun _ h => absurd h List.not_mem_nil⟩⟩⟩⟩⟩⟩⟩⟩⟩⟩⟩⟩⟩⟩⟩⟩
theorem lw_p64 : lw_okq (⟨"FamilyReducerModel", "readArguments", "(IIZ)Z"⟩, 116) := ⟨⟨by decide +kernel, by decide +kernel⟩, List.mem_of_getElem? (i := 1137) (by decide +kernel), List.mem_of_getElem? (i := 1622) (by decide +kernel), List.mem_of_getElem? (i := 1623) (by decide +kernel)⟩
theorem lw_p65 : lw_okq (⟨"FamilyReducerModel", "mayEnd", "(IZ)Z"⟩, 116) := ⟨⟨by decide +kernel, by decide +kernel⟩, List.mem_of_getElem? (i := 1137) (by decide +kernel), List.mem_of_getElem? (i := 1626) (by decide +kernel), List.mem_of_getElem? (i := 1627) (by decide +kernel)⟩
theorem lw_p66 : lw_okq (⟨"FamilyReducerModel", "ends", "(Z)Z"⟩, 116) := ⟨⟨by decide +kernel, by decide +kernel⟩, List.mem_of_getElem? (i := 1137) (by decide +kernel), List.mem_of_getElem? (i := 1630) (by decide +kernel), List.mem_of_getElem? (i := 1631) (by decide +kernel)⟩
theorem lw_p67 : lw_okq (⟨"FamilyReducerModel", "laysCompatible", "()V"⟩, 116) := ⟨⟨by decide +kernel, by decide +kernel⟩, List.mem_of_getElem? (i := 1137) (by decide +kernel), List.mem_of_getElem? (i := 1634) (by decide +kernel), List.mem_of_getElem? (i := 1635) (by decide +kernel)⟩
theorem lw_p68 : lw_okq (⟨"FamilyReducerModel", "meeting", "(II)I"⟩, 116) := ⟨⟨by decide +kernel, by decide +kernel⟩, List.mem_of_getElem? (i := 1137) (by decide +kernel), List.mem_of_getElem? (i := 1638) (by decide +kernel), List.mem_of_getElem? (i := 1639) (by decide +kernel)⟩
theorem lw_p69 : lw_okq (⟨"FamilyReducerModel", "clears", "()V"⟩, 116) := ⟨⟨by decide +kernel, by decide +kernel⟩, List.mem_of_getElem? (i := 1137) (by decide +kernel), List.mem_of_getElem? (i := 1642) (by decide +kernel), List.mem_of_getElem? (i := 1643) (by decide +kernel)⟩
theorem lw_p70 : lw_okq (⟨"FamilyReducerModel", "leftNode", "(II)I"⟩, 116) := ⟨⟨by decide +kernel, by decide +kernel⟩, List.mem_of_getElem? (i := 1137) (by decide +kernel), List.mem_of_getElem? (i := 1646) (by decide +kernel), List.mem_of_getElem? (i := 1647) (by decide +kernel)⟩
theorem lw_p71 : lw_okq (⟨"FamilyReducerModel", "builtFrom", "([IIIZ)I"⟩, 116) := ⟨⟨by decide +kernel, by decide +kernel⟩, List.mem_of_getElem? (i := 1137) (by decide +kernel), List.mem_of_getElem? (i := 1650) (by decide +kernel), List.mem_of_getElem? (i := 1651) (by decide +kernel)⟩
theorem lw_p72 : lw_okq (⟨"FamilyReducerModel", "builds", "([IIZ)I"⟩, 116) := ⟨⟨by decide +kernel, by decide +kernel⟩, List.mem_of_getElem? (i := 1137) (by decide +kernel), List.mem_of_getElem? (i := 1654) (by decide +kernel), List.mem_of_getElem? (i := 1655) (by decide +kernel)⟩
theorem lw_p73 : lw_okq (⟨"FamilyReducerModel", "flatNodeAt", "([II)I"⟩, 116) := ⟨⟨by decide +kernel, by decide +kernel⟩, List.mem_of_getElem? (i := 1137) (by decide +kernel), List.mem_of_getElem? (i := 1658) (by decide +kernel), List.mem_of_getElem? (i := 1659) (by decide +kernel)⟩
theorem lw_p74 : lw_okq (⟨"FamilyReducerModel", "sizeAt", "([II)I"⟩, 116) := ⟨⟨by decide +kernel, by decide +kernel⟩, List.mem_of_getElem? (i := 1137) (by decide +kernel), List.mem_of_getElem? (i := 1662) (by decide +kernel), List.mem_of_getElem? (i := 1663) (by decide +kernel)⟩
theorem lw_p75 : lw_okq (⟨"FamilyReducerModel", "adds", "(I)I"⟩, 116) := ⟨⟨by decide +kernel, by decide +kernel⟩, List.mem_of_getElem? (i := 1137) (by decide +kernel), List.mem_of_getElem? (i := 1669) (by decide +kernel), List.mem_of_getElem? (i := 1670) (by decide +kernel)⟩
theorem lw_p76 : lw_okq (⟨"FamilyReducerModel", "variableNode", "(II)I"⟩, 116) := ⟨⟨by decide +kernel, by decide +kernel⟩, List.mem_of_getElem? (i := 1137) (by decide +kernel), List.mem_of_getElem? (i := 1673) (by decide +kernel), List.mem_of_getElem? (i := 1674) (by decide +kernel)⟩
theorem lw_p77 : lw_okq (⟨"FamilyReducerModel", "rightNode", "(IIZ)I"⟩, 116) := ⟨⟨by decide +kernel, by decide +kernel⟩, List.mem_of_getElem? (i := 1137) (by decide +kernel), List.mem_of_getElem? (i := 1677) (by decide +kernel), List.mem_of_getElem? (i := 1678) (by decide +kernel)⟩
theorem lw_p78 : lw_okq (⟨"FamilyReducerModel", "joins", "(II)Z"⟩, 116) := ⟨⟨by decide +kernel, by decide +kernel⟩, List.mem_of_getElem? (i := 1137) (by decide +kernel), List.mem_of_getElem? (i := 1681) (by decide +kernel), List.mem_of_getElem? (i := 1682) (by decide +kernel)⟩
theorem lw_p79 : lw_okq (⟨"FamilyReducerModel", "find", "(I)I"⟩, 116) := ⟨⟨by decide +kernel, by decide +kernel⟩, List.mem_of_getElem? (i := 1137) (by decide +kernel), List.mem_of_getElem? (i := 1685) (by decide +kernel), List.mem_of_getElem? (i := 1686) (by decide +kernel)⟩
def lw_privs_5 : List (MethodName × Nat) := [(⟨"FamilyReducerModel", "readArguments", "(IIZ)Z"⟩, 116), (⟨"FamilyReducerModel", "mayEnd", "(IZ)Z"⟩, 116), (⟨"FamilyReducerModel", "ends", "(Z)Z"⟩, 116), (⟨"FamilyReducerModel", "laysCompatible", "()V"⟩, 116), (⟨"FamilyReducerModel", "meeting", "(II)I"⟩, 116), (⟨"FamilyReducerModel", "clears", "()V"⟩, 116), (⟨"FamilyReducerModel", "leftNode", "(II)I"⟩, 116), (⟨"FamilyReducerModel", "builtFrom", "([IIIZ)I"⟩, 116), (⟨"FamilyReducerModel", "builds", "([IIZ)I"⟩, 116), (⟨"FamilyReducerModel", "flatNodeAt", "([II)I"⟩, 116), (⟨"FamilyReducerModel", "sizeAt", "([II)I"⟩, 116), (⟨"FamilyReducerModel", "adds", "(I)I"⟩, 116), (⟨"FamilyReducerModel", "variableNode", "(II)I"⟩, 116), (⟨"FamilyReducerModel", "rightNode", "(IIZ)I"⟩, 116), (⟨"FamilyReducerModel", "joins", "(II)Z"⟩, 116), (⟨"FamilyReducerModel", "find", "(I)I"⟩, 116)]
theorem lw_r5 : ∀ q ∈ lw_privs_5, lw_okq q := List.forall_mem_cons.mpr ⟨lw_p64, List.forall_mem_cons.mpr ⟨lw_p65, List.forall_mem_cons.mpr ⟨lw_p66, List.forall_mem_cons.mpr ⟨lw_p67, List.forall_mem_cons.mpr ⟨lw_p68, List.forall_mem_cons.mpr ⟨lw_p69, List.forall_mem_cons.mpr ⟨lw_p70, List.forall_mem_cons.mpr ⟨lw_p71, List.forall_mem_cons.mpr ⟨lw_p72, List.forall_mem_cons.mpr ⟨lw_p73, List.forall_mem_cons.mpr ⟨lw_p74, List.forall_mem_cons.mpr ⟨lw_p75, List.forall_mem_cons.mpr ⟨lw_p76, List.forall_mem_cons.mpr ⟨lw_p77, List.forall_mem_cons.mpr ⟨lw_p78, List.forall_mem_cons.mpr ⟨lw_p79, fun _ h => absurd h List.not_mem_nil⟩⟩⟩⟩⟩⟩⟩⟩⟩⟩⟩⟩⟩⟩⟩⟩
theorem lw_p80 : lw_okq (⟨"FamilyReducerModel", "hasCircle", "(I)Z"⟩, 116) := ⟨⟨by decide +kernel, by decide +kernel⟩, List.mem_of_getElem? (i := 1137) (by decide +kernel), List.mem_of_getElem? (i := 1689) (by decide +kernel), List.mem_of_getElem? (i := 1690) (by decide +kernel)⟩
theorem lw_p81 : lw_okq (⟨"FamilyReducerModel", "isRound", "(I)Z"⟩, 116) := ⟨⟨by decide +kernel, by decide +kernel⟩, List.mem_of_getElem? (i := 1137) (by decide +kernel), List.mem_of_getElem? (i := 1693) (by decide +kernel), List.mem_of_getElem? (i := 1694) (by decide +kernel)⟩
theorem lw_p82 : lw_okq (⟨"FamilyReducerModel", "areSame", "(II)Z"⟩, 116) := ⟨⟨by decide +kernel, by decide +kernel⟩, List.mem_of_getElem? (i := 1137) (by decide +kernel), List.mem_of_getElem? (i := 1697) (by decide +kernel), List.mem_of_getElem? (i := 1698) (by decide +kernel)⟩
theorem lw_p83 : lw_okq (⟨"FamilyReducerModel", "gives", "(I)I"⟩, 116) := ⟨⟨by decide +kernel, by decide +kernel⟩, List.mem_of_getElem? (i := 1137) (by decide +kernel), List.mem_of_getElem? (i := 1701) (by decide +kernel), List.mem_of_getElem? (i := 1702) (by decide +kernel)⟩
theorem lw_p84 : lw_okq (⟨"FamilyReducerModel", "isEquation", "(I)Z"⟩, 116) := ⟨⟨by decide +kernel, by decide +kernel⟩, List.mem_of_getElem? (i := 1137) (by decide +kernel), List.mem_of_getElem? (i := 1713) (by decide +kernel), List.mem_of_getElem? (i := 1714) (by decide +kernel)⟩
theorem lw_p85 : lw_okq (⟨"FamilyReducerModel", "familyOf", "(I)I"⟩, 116) := ⟨⟨by decide +kernel, by decide +kernel⟩, List.mem_of_getElem? (i := 1137) (by decide +kernel), List.mem_of_getElem? (i := 1721) (by decide +kernel), List.mem_of_getElem? (i := 1722) (by decide +kernel)⟩
theorem lw_p86 : lw_okq (⟨"FamilyReducerModel", "lettersIn", "(I)V"⟩, 116) := ⟨⟨by decide +kernel, by decide +kernel⟩, List.mem_of_getElem? (i := 1137) (by decide +kernel), List.mem_of_getElem? (i := 1729) (by decide +kernel), List.mem_of_getElem? (i := 1730) (by decide +kernel)⟩
theorem lw_p87 : lw_okq (⟨"FamilyReducerModel", "letterOf", "(I)I"⟩, 116) := ⟨⟨by decide +kernel, by decide +kernel⟩, List.mem_of_getElem? (i := 1137) (by decide +kernel), List.mem_of_getElem? (i := 1733) (by decide +kernel), List.mem_of_getElem? (i := 1734) (by decide +kernel)⟩
theorem lw_p88 : lw_okq (⟨"FamilyReducerModel", "tellsNode", "(I)V"⟩, 116) := ⟨⟨by decide +kernel, by decide +kernel⟩, List.mem_of_getElem? (i := 1137) (by decide +kernel), List.mem_of_getElem? (i := 1737) (by decide +kernel), List.mem_of_getElem? (i := 1738) (by decide +kernel)⟩
theorem lw_p89 : lw_okq (⟨"FamilyReducerModel", "tellsByte", "(I)V"⟩, 116) := ⟨⟨by decide +kernel, by decide +kernel⟩, List.mem_of_getElem? (i := 1137) (by decide +kernel), List.mem_of_getElem? (i := 1741) (by decide +kernel), List.mem_of_getElem? (i := 1742) (by decide +kernel)⟩
theorem lw_p90 : lw_okq (⟨"FamilyReducerModel", "nameOf", "(I)J"⟩, 116) := ⟨⟨by decide +kernel, by decide +kernel⟩, List.mem_of_getElem? (i := 1137) (by decide +kernel), List.mem_of_getElem? (i := 1745) (by decide +kernel), List.mem_of_getElem? (i := 1746) (by decide +kernel)⟩
theorem lw_p91 : lw_okq (⟨"FamilyReducerModel", "tells", "(J)V"⟩, 116) := ⟨⟨by decide +kernel, by decide +kernel⟩, List.mem_of_getElem? (i := 1137) (by decide +kernel), List.mem_of_getElem? (i := 1749) (by decide +kernel), List.mem_of_getElem? (i := 1750) (by decide +kernel)⟩
theorem lw_p92 : lw_okq (⟨"FamilyReducerModel", "isFamily", "(I)Z"⟩, 116) := ⟨⟨by decide +kernel, by decide +kernel⟩, List.mem_of_getElem? (i := 1137) (by decide +kernel), List.mem_of_getElem? (i := 1765) (by decide +kernel), List.mem_of_getElem? (i := 1766) (by decide +kernel)⟩
theorem lw_p93 : lw_okq (⟨"FamilyReducerModel", "equationsOf", "(I)I"⟩, 116) := ⟨⟨by decide +kernel, by decide +kernel⟩, List.mem_of_getElem? (i := 1137) (by decide +kernel), List.mem_of_getElem? (i := 1769) (by decide +kernel), List.mem_of_getElem? (i := 1770) (by decide +kernel)⟩
theorem lw_p94 : lw_okq (⟨"FamilyReducerModel", "onRight", "(I)I"⟩, 116) := ⟨⟨by decide +kernel, by decide +kernel⟩, List.mem_of_getElem? (i := 1137) (by decide +kernel), List.mem_of_getElem? (i := 1773) (by decide +kernel), List.mem_of_getElem? (i := 1774) (by decide +kernel)⟩
theorem lw_p95 : lw_okq (⟨"FamilyReducerModel", "onRightAgain", "(I)I"⟩, 116) := ⟨⟨by decide +kernel, by decide +kernel⟩, List.mem_of_getElem? (i := 1137) (by decide +kernel), List.mem_of_getElem? (i := 1777) (by decide +kernel), List.mem_of_getElem? (i := 1778) (by decide +kernel)⟩
def lw_privs_6 : List (MethodName × Nat) := [(⟨"FamilyReducerModel", "hasCircle", "(I)Z"⟩, 116), (⟨"FamilyReducerModel", "isRound", "(I)Z"⟩, 116), (⟨"FamilyReducerModel", "areSame", "(II)Z"⟩, 116), (⟨"FamilyReducerModel", "gives", "(I)I"⟩, 116), (⟨"FamilyReducerModel", "isEquation", "(I)Z"⟩, 116), (⟨"FamilyReducerModel", "familyOf", "(I)I"⟩, 116), (⟨"FamilyReducerModel", "lettersIn", "(I)V"⟩, 116), (⟨"FamilyReducerModel", "letterOf", "(I)I"⟩, 116), (⟨"FamilyReducerModel", "tellsNode", "(I)V"⟩, 116), (⟨"FamilyReducerModel", "tellsByte", "(I)V"⟩, 116), (⟨"FamilyReducerModel", "nameOf", "(I)J"⟩, 116), (⟨"FamilyReducerModel", "tells", "(J)V"⟩, 116), (⟨"FamilyReducerModel", "isFamily", "(I)Z"⟩, 116), (⟨"FamilyReducerModel", "equationsOf", "(I)I"⟩, 116), (⟨"FamilyReducerModel", "onRight", "(I)I"⟩, 116), (⟨"FamilyReducerModel", "onRightAgain", "(I)I"⟩, 116)]
theorem lw_r6 : ∀ q ∈ lw_privs_6, lw_okq q := List.forall_mem_cons.mpr ⟨lw_p80, List.forall_mem_cons.mpr ⟨lw_p81, List.forall_mem_cons.mpr ⟨lw_p82, List.forall_mem_cons.mpr ⟨lw_p83, List.forall_mem_cons.mpr ⟨lw_p84, List.forall_mem_cons.mpr ⟨lw_p85, List.forall_mem_cons.mpr ⟨lw_p86, List.forall_mem_cons.mpr ⟨lw_p87, List.forall_mem_cons.mpr ⟨lw_p88, List.forall_mem_cons.mpr ⟨lw_p89, List.forall_mem_cons.mpr ⟨lw_p90, List.forall_mem_cons.mpr ⟨lw_p91, List.forall_mem_cons.mpr ⟨lw_p92, List.forall_mem_cons.mpr ⟨lw_p93, List.forall_mem_cons.mpr ⟨lw_p94, List.forall_mem_cons.mpr ⟨lw_p95, fun _ h => absurd h List.not_mem_nil⟩⟩⟩⟩⟩⟩⟩⟩⟩⟩⟩⟩⟩⟩⟩⟩
theorem lw_p96 : lw_okq (⟨"FamilyReducerModel", "isParted", "(I)Z"⟩, 116) := ⟨⟨by decide +kernel, by decide +kernel⟩, List.mem_of_getElem? (i := 1137) (by decide +kernel), List.mem_of_getElem? (i := 1781) (by decide +kernel), List.mem_of_getElem? (i := 1782) (by decide +kernel)⟩
theorem lw_p97 : lw_okq (⟨"FamilyReducerModel", "canBack", "(I)Z"⟩, 116) := ⟨⟨by decide +kernel, by decide +kernel⟩, List.mem_of_getElem? (i := 1137) (by decide +kernel), List.mem_of_getElem? (i := 1785) (by decide +kernel), List.mem_of_getElem? (i := 1786) (by decide +kernel)⟩
theorem lw_p98 : lw_okq (⟨"FamilyReducerModel", "isBad", "(I)Z"⟩, 116) := ⟨⟨by decide +kernel, by decide +kernel⟩, List.mem_of_getElem? (i := 1137) (by decide +kernel), List.mem_of_getElem? (i := 1789) (by decide +kernel), List.mem_of_getElem? (i := 1790) (by decide +kernel)⟩
theorem lw_p99 : lw_okq (⟨"FamilyReducerModel", "badAlone", "(I)I"⟩, 116) := ⟨⟨by decide +kernel, by decide +kernel⟩, List.mem_of_getElem? (i := 1137) (by decide +kernel), List.mem_of_getElem? (i := 1793) (by decide +kernel), List.mem_of_getElem? (i := 1794) (by decide +kernel)⟩
theorem lw_p100 : lw_okq (⟨"FamilyReducerModel", "standsOut", "(II)Z"⟩, 116) := ⟨⟨by decide +kernel, by decide +kernel⟩, List.mem_of_getElem? (i := 1137) (by decide +kernel), List.mem_of_getElem? (i := 1797) (by decide +kernel), List.mem_of_getElem? (i := 1798) (by decide +kernel)⟩
theorem lw_p101 : lw_okq (⟨"FamilyReducerModel", "areBad", "(II)Z"⟩, 116) := ⟨⟨by decide +kernel, by decide +kernel⟩, List.mem_of_getElem? (i := 1137) (by decide +kernel), List.mem_of_getElem? (i := 1801) (by decide +kernel), List.mem_of_getElem? (i := 1802) (by decide +kernel)⟩
theorem lw_p102 : lw_okq (⟨"FamilyReducerModel", "unbound", "(I)I"⟩, 116) := ⟨⟨by decide +kernel, by decide +kernel⟩, List.mem_of_getElem? (i := 1137) (by decide +kernel), List.mem_of_getElem? (i := 1817) (by decide +kernel), List.mem_of_getElem? (i := 1818) (by decide +kernel)⟩
theorem lw_p103 : lw_okq (⟨"FamilyReducerModel", "unboundBy", "(II)I"⟩, 116) := ⟨⟨by decide +kernel, by decide +kernel⟩, List.mem_of_getElem? (i := 1137) (by decide +kernel), List.mem_of_getElem? (i := 1821) (by decide +kernel), List.mem_of_getElem? (i := 1822) (by decide +kernel)⟩
theorem lw_p104 : lw_okq (⟨"FamilyReducerModel", "deepOf", "(I)I"⟩, 116) := ⟨⟨by decide +kernel, by decide +kernel⟩, List.mem_of_getElem? (i := 1137) (by decide +kernel), List.mem_of_getElem? (i := 1837) (by decide +kernel), List.mem_of_getElem? (i := 1838) (by decide +kernel)⟩
theorem lw_p105 : lw_okq (⟨"FamilyReducerModel", "firing", "([II)I"⟩, 116) := ⟨⟨by decide +kernel, by decide +kernel⟩, List.mem_of_getElem? (i := 1137) (by decide +kernel), List.mem_of_getElem? (i := 1842) (by decide +kernel), List.mem_of_getElem? (i := 1843) (by decide +kernel)⟩
theorem lw_p106 : lw_okq (⟨"FamilyReducerModel", "whyNot", "(I[II)I"⟩, 116) := ⟨⟨by decide +kernel, by decide +kernel⟩, List.mem_of_getElem? (i := 1137) (by decide +kernel), List.mem_of_getElem? (i := 1846) (by decide +kernel), List.mem_of_getElem? (i := 1847) (by decide +kernel)⟩
theorem lw_p107 : lw_okq (⟨"FamilyReducerModel", "fits", "(I[II)Z"⟩, 116) := ⟨⟨by decide +kernel, by decide +kernel⟩, List.mem_of_getElem? (i := 1137) (by decide +kernel), List.mem_of_getElem? (i := 1850) (by decide +kernel), List.mem_of_getElem? (i := 1851) (by decide +kernel)⟩
theorem lw_p108 : lw_okq (⟨"FamilyReducerModel", "mayStill", "(I[II)I"⟩, 116) := ⟨⟨by decide +kernel, by decide +kernel⟩, List.mem_of_getElem? (i := 1137) (by decide +kernel), List.mem_of_getElem? (i := 1854) (by decide +kernel), List.mem_of_getElem? (i := 1855) (by decide +kernel)⟩
theorem lw_p109 : lw_okq (⟨"FamilyReducerModel", "isApart", "(I[II)Z"⟩, 116) := ⟨⟨by decide +kernel, by decide +kernel⟩, List.mem_of_getElem? (i := 1137) (by decide +kernel), List.mem_of_getElem? (i := 1858) (by decide +kernel), List.mem_of_getElem? (i := 1859) (by decide +kernel)⟩
theorem lw_p110 : lw_okq (⟨"FamilyReducerModel", "builtFlat", "([III)I"⟩, 116) := ⟨⟨by decide +kernel, by decide +kernel⟩, List.mem_of_getElem? (i := 1137) (by decide +kernel), List.mem_of_getElem? (i := 1862) (by decide +kernel), List.mem_of_getElem? (i := 1863) (by decide +kernel)⟩
theorem lw_p111 : lw_okq (⟨"FamilyReducerModel", "isNode", "(I)Z"⟩, 116) := ⟨⟨by decide +kernel, by decide +kernel⟩, List.mem_of_getElem? (i := 1137) (by decide +kernel), List.mem_of_getElem? (i := 1870) (by decide +kernel), List.mem_of_getElem? (i := 1871) (by decide +kernel)⟩
def lw_privs_7 : List (MethodName × Nat) := [(⟨"FamilyReducerModel", "isParted", "(I)Z"⟩, 116), (⟨"FamilyReducerModel", "canBack", "(I)Z"⟩, 116), (⟨"FamilyReducerModel", "isBad", "(I)Z"⟩, 116), (⟨"FamilyReducerModel", "badAlone", "(I)I"⟩, 116), (⟨"FamilyReducerModel", "standsOut", "(II)Z"⟩, 116), (⟨"FamilyReducerModel", "areBad", "(II)Z"⟩, 116), (⟨"FamilyReducerModel", "unbound", "(I)I"⟩, 116), (⟨"FamilyReducerModel", "unboundBy", "(II)I"⟩, 116), (⟨"FamilyReducerModel", "deepOf", "(I)I"⟩, 116), (⟨"FamilyReducerModel", "firing", "([II)I"⟩, 116), (⟨"FamilyReducerModel", "whyNot", "(I[II)I"⟩, 116), (⟨"FamilyReducerModel", "fits", "(I[II)Z"⟩, 116), (⟨"FamilyReducerModel", "mayStill", "(I[II)I"⟩, 116), (⟨"FamilyReducerModel", "isApart", "(I[II)Z"⟩, 116), (⟨"FamilyReducerModel", "builtFlat", "([III)I"⟩, 116), (⟨"FamilyReducerModel", "isNode", "(I)Z"⟩, 116)]
theorem lw_r7 : ∀ q ∈ lw_privs_7, lw_okq q := List.forall_mem_cons.mpr ⟨lw_p96, List.forall_mem_cons.mpr ⟨lw_p97, List.forall_mem_cons.mpr ⟨lw_p98, List.forall_mem_cons.mpr ⟨lw_p99, List.forall_mem_cons.mpr ⟨lw_p100, List.forall_mem_cons.mpr ⟨lw_p101, List.forall_mem_cons.mpr ⟨lw_p102, List.forall_mem_cons.mpr ⟨lw_p103, List.forall_mem_cons.mpr ⟨lw_p104, List.forall_mem_cons.mpr ⟨lw_p105, List.forall_mem_cons.mpr ⟨lw_p106, List.forall_mem_cons.mpr ⟨lw_p107, List.forall_mem_cons.mpr ⟨lw_p108, List.forall_mem_cons.mpr ⟨lw_p109, List.forall_mem_cons.mpr ⟨lw_p110, List.forall_mem_cons.mpr ⟨lw_p111, fun _ h => absurd h List.not_mem_nil⟩⟩⟩⟩⟩⟩⟩⟩⟩⟩⟩⟩⟩⟩⟩⟩
theorem lw_p112 : lw_okq (⟨"FamilyReducerModel", "laysTerm", "()V"⟩, 116) := ⟨⟨by decide +kernel, by decide +kernel⟩, List.mem_of_getElem? (i := 1137) (by decide +kernel), List.mem_of_getElem? (i := 1889) (by decide +kernel), List.mem_of_getElem? (i := 1890) (by decide +kernel)⟩
theorem lw_p113 : lw_okq (⟨"FamilyReducerModel", "steps", "(I)I"⟩, 116) := ⟨⟨by decide +kernel, by decide +kernel⟩, List.mem_of_getElem? (i := 1137) (by decide +kernel), List.mem_of_getElem? (i := 1893) (by decide +kernel), List.mem_of_getElem? (i := 1894) (by decide +kernel)⟩
theorem lw_p114 : lw_okq (⟨"FamilyReducerModel", "firstWithin", "(I)I"⟩, 116) := ⟨⟨by decide +kernel, by decide +kernel⟩, List.mem_of_getElem? (i := 1137) (by decide +kernel), List.mem_of_getElem? (i := 1897) (by decide +kernel), List.mem_of_getElem? (i := 1898) (by decide +kernel)⟩
theorem lw_p115 : lw_okq (⟨"FamilyReducerModel", "doneAt", "(I)I"⟩, 116) := ⟨⟨by decide +kernel, by decide +kernel⟩, List.mem_of_getElem? (i := 1137) (by decide +kernel), List.mem_of_getElem? (i := 1901) (by decide +kernel), List.mem_of_getElem? (i := 1902) (by decide +kernel)⟩
theorem lw_p116 : lw_okq (⟨"FamilyReducerModel", "firstWithout", "()I"⟩, 116) := ⟨⟨by decide +kernel, by decide +kernel⟩, List.mem_of_getElem? (i := 1137) (by decide +kernel), List.mem_of_getElem? (i := 1905) (by decide +kernel), List.mem_of_getElem? (i := 1906) (by decide +kernel)⟩
theorem lw_p117 : lw_okq (⟨"FamilyReducerModel", "makes", "(I)Z"⟩, 116) := ⟨⟨by decide +kernel, by decide +kernel⟩, List.mem_of_getElem? (i := 1137) (by decide +kernel), List.mem_of_getElem? (i := 1909) (by decide +kernel), List.mem_of_getElem? (i := 1910) (by decide +kernel)⟩
theorem lw_p118 : lw_okq (⟨"FamilyReducerModel", "follows", "([III)V"⟩, 116) := ⟨⟨by decide +kernel, by decide +kernel⟩, List.mem_of_getElem? (i := 1137) (by decide +kernel), List.mem_of_getElem? (i := 1913) (by decide +kernel), List.mem_of_getElem? (i := 1914) (by decide +kernel)⟩
theorem lw_p119 : lw_okq (⟨"FamilyReducerModel", "becomesNext", "()V"⟩, 116) := ⟨⟨by decide +kernel, by decide +kernel⟩, List.mem_of_getElem? (i := 1137) (by decide +kernel), List.mem_of_getElem? (i := 1917) (by decide +kernel), List.mem_of_getElem? (i := 1918) (by decide +kernel)⟩
theorem lw_p120 : lw_okq (⟨"FamilyReducerModel", "keepsTerm", "()V"⟩, 116) := ⟨⟨by decide +kernel, by decide +kernel⟩, List.mem_of_getElem? (i := 1137) (by decide +kernel), List.mem_of_getElem? (i := 1921) (by decide +kernel), List.mem_of_getElem? (i := 1922) (by decide +kernel)⟩
theorem lw_p121 : lw_okq (⟨"FamilyReducerModel", "reduces", "(I)I"⟩, 116) := ⟨⟨by decide +kernel, by decide +kernel⟩, List.mem_of_getElem? (i := 1137) (by decide +kernel), List.mem_of_getElem? (i := 1929) (by decide +kernel), List.mem_of_getElem? (i := 1930) (by decide +kernel)⟩
theorem lw_p122 : lw_okq (⟨"FamilyReducerModel", "keepsPast", "(I)V"⟩, 116) := ⟨⟨by decide +kernel, by decide +kernel⟩, List.mem_of_getElem? (i := 1137) (by decide +kernel), List.mem_of_getElem? (i := 1933) (by decide +kernel), List.mem_of_getElem? (i := 1934) (by decide +kernel)⟩
theorem lw_p123 : lw_okq (⟨"FamilyReducerModel", "tellsRow", "([II[J)V"⟩, 116) := ⟨⟨by decide +kernel, by decide +kernel⟩, List.mem_of_getElem? (i := 1137) (by decide +kernel), List.mem_of_getElem? (i := 1949) (by decide +kernel), List.mem_of_getElem? (i := 1950) (by decide +kernel)⟩
theorem lw_p124 : lw_okq (⟨"FamilyReducerModel", "readWanted", "()Z"⟩, 116) := ⟨⟨by decide +kernel, by decide +kernel⟩, List.mem_of_getElem? (i := 1137) (by decide +kernel), List.mem_of_getElem? (i := 1957) (by decide +kernel), List.mem_of_getElem? (i := 1958) (by decide +kernel)⟩
theorem lw_p125 : lw_okq (⟨"FamilyReducerModel", "takesWanted", "()V"⟩, 116) := ⟨⟨by decide +kernel, by decide +kernel⟩, List.mem_of_getElem? (i := 1137) (by decide +kernel), List.mem_of_getElem? (i := 1961) (by decide +kernel), List.mem_of_getElem? (i := 1962) (by decide +kernel)⟩
theorem lw_p126 : lw_okq (⟨"FamilyReducerModel", "solves", "()V"⟩, 116) := ⟨⟨by decide +kernel, by decide +kernel⟩, List.mem_of_getElem? (i := 1137) (by decide +kernel), List.mem_of_getElem? (i := 1965) (by decide +kernel), List.mem_of_getElem? (i := 1966) (by decide +kernel)⟩
theorem lw_p127 : lw_okq (⟨"FamilyReducerModel", "round", "()Z"⟩, 116) := ⟨⟨by decide +kernel, by decide +kernel⟩, List.mem_of_getElem? (i := 1137) (by decide +kernel), List.mem_of_getElem? (i := 1969) (by decide +kernel), List.mem_of_getElem? (i := 1970) (by decide +kernel)⟩
def lw_privs_8 : List (MethodName × Nat) := [(⟨"FamilyReducerModel", "laysTerm", "()V"⟩, 116), (⟨"FamilyReducerModel", "steps", "(I)I"⟩, 116), (⟨"FamilyReducerModel", "firstWithin", "(I)I"⟩, 116), (⟨"FamilyReducerModel", "doneAt", "(I)I"⟩, 116), (⟨"FamilyReducerModel", "firstWithout", "()I"⟩, 116), (⟨"FamilyReducerModel", "makes", "(I)Z"⟩, 116), (⟨"FamilyReducerModel", "follows", "([III)V"⟩, 116), (⟨"FamilyReducerModel", "becomesNext", "()V"⟩, 116), (⟨"FamilyReducerModel", "keepsTerm", "()V"⟩, 116), (⟨"FamilyReducerModel", "reduces", "(I)I"⟩, 116), (⟨"FamilyReducerModel", "keepsPast", "(I)V"⟩, 116), (⟨"FamilyReducerModel", "tellsRow", "([II[J)V"⟩, 116), (⟨"FamilyReducerModel", "readWanted", "()Z"⟩, 116), (⟨"FamilyReducerModel", "takesWanted", "()V"⟩, 116), (⟨"FamilyReducerModel", "solves", "()V"⟩, 116), (⟨"FamilyReducerModel", "round", "()Z"⟩, 116)]
theorem lw_r8 : ∀ q ∈ lw_privs_8, lw_okq q := List.forall_mem_cons.mpr ⟨lw_p112, List.forall_mem_cons.mpr ⟨lw_p113, List.forall_mem_cons.mpr ⟨lw_p114, List.forall_mem_cons.mpr ⟨lw_p115, List.forall_mem_cons.mpr ⟨lw_p116, List.forall_mem_cons.mpr ⟨lw_p117, List.forall_mem_cons.mpr ⟨lw_p118, List.forall_mem_cons.mpr ⟨lw_p119, List.forall_mem_cons.mpr ⟨lw_p120, List.forall_mem_cons.mpr ⟨lw_p121, List.forall_mem_cons.mpr ⟨lw_p122, List.forall_mem_cons.mpr ⟨lw_p123, List.forall_mem_cons.mpr ⟨lw_p124, List.forall_mem_cons.mpr ⟨lw_p125, List.forall_mem_cons.mpr ⟨lw_p126, List.forall_mem_cons.mpr ⟨lw_p127, fun _ h => absurd h List.not_mem_nil⟩⟩⟩⟩⟩⟩⟩⟩⟩⟩⟩⟩⟩⟩⟩⟩
theorem lw_p128 : lw_okq (⟨"FamilyReducerModel", "asks", "(I)I"⟩, 116) := ⟨⟨by decide +kernel, by decide +kernel⟩, List.mem_of_getElem? (i := 1137) (by decide +kernel), List.mem_of_getElem? (i := 1973) (by decide +kernel), List.mem_of_getElem? (i := 1974) (by decide +kernel)⟩
theorem lw_p129 : lw_okq (⟨"FamilyReducerModel", "reducesSide", "(II)Z"⟩, 116) := ⟨⟨by decide +kernel, by decide +kernel⟩, List.mem_of_getElem? (i := 1137) (by decide +kernel), List.mem_of_getElem? (i := 1977) (by decide +kernel), List.mem_of_getElem? (i := 1978) (by decide +kernel)⟩
theorem lw_p130 : lw_okq (⟨"FamilyReducerModel", "expands", "([III)Z"⟩, 116) := ⟨⟨by decide +kernel, by decide +kernel⟩, List.mem_of_getElem? (i := 1137) (by decide +kernel), List.mem_of_getElem? (i := 1981) (by decide +kernel), List.mem_of_getElem? (i := 1982) (by decide +kernel)⟩
theorem lw_p131 : lw_okq (⟨"FamilyReducerModel", "comes", "([III)Z"⟩, 116) := ⟨⟨by decide +kernel, by decide +kernel⟩, List.mem_of_getElem? (i := 1137) (by decide +kernel), List.mem_of_getElem? (i := 1985) (by decide +kernel), List.mem_of_getElem? (i := 1986) (by decide +kernel)⟩
theorem lw_p132 : lw_okq (⟨"FamilyReducerModel", "isUnknown", "([I)Z"⟩, 116) := ⟨⟨by decide +kernel, by decide +kernel⟩, List.mem_of_getElem? (i := 1137) (by decide +kernel), List.mem_of_getElem? (i := 1989) (by decide +kernel), List.mem_of_getElem? (i := 1990) (by decide +kernel)⟩
theorem lw_p133 : lw_okq (⟨"FamilyReducerModel", "unknownBy", "(I[II)I"⟩, 116) := ⟨⟨by decide +kernel, by decide +kernel⟩, List.mem_of_getElem? (i := 1137) (by decide +kernel), List.mem_of_getElem? (i := 1993) (by decide +kernel), List.mem_of_getElem? (i := 1994) (by decide +kernel)⟩
theorem lw_p134 : lw_okq (⟨"FamilyReducerModel", "hasOutside", "([III)Z"⟩, 116) := ⟨⟨by decide +kernel, by decide +kernel⟩, List.mem_of_getElem? (i := 1137) (by decide +kernel), List.mem_of_getElem? (i := 2000) (by decide +kernel), List.mem_of_getElem? (i := 2001) (by decide +kernel)⟩
theorem lw_p135 : lw_okq (⟨"FamilyReducerModel", "splits", "(I)I"⟩, 116) := ⟨⟨by decide +kernel, by decide +kernel⟩, List.mem_of_getElem? (i := 1137) (by decide +kernel), List.mem_of_getElem? (i := 2004) (by decide +kernel), List.mem_of_getElem? (i := 2005) (by decide +kernel)⟩
theorem lw_p136 : lw_okq (⟨"FamilyReducerModel", "length", "()I"⟩, 116) := ⟨⟨by decide +kernel, by decide +kernel⟩, List.mem_of_getElem? (i := 1137) (by decide +kernel), List.mem_of_getElem? (i := 2008) (by decide +kernel), List.mem_of_getElem? (i := 2009) (by decide +kernel)⟩
theorem lw_p137 : lw_okq (⟨"FamilyReducerModel", "putsSide", "(II[III)V"⟩, 116) := ⟨⟨by decide +kernel, by decide +kernel⟩, List.mem_of_getElem? (i := 1137) (by decide +kernel), List.mem_of_getElem? (i := 2012) (by decide +kernel), List.mem_of_getElem? (i := 2013) (by decide +kernel)⟩
theorem lw_p138 : lw_okq (⟨"FamilyReducerModel", "closesUp", "()V"⟩, 116) := ⟨⟨by decide +kernel, by decide +kernel⟩, List.mem_of_getElem? (i := 1137) (by decide +kernel), List.mem_of_getElem? (i := 2016) (by decide +kernel), List.mem_of_getElem? (i := 2017) (by decide +kernel)⟩
theorem lw_p139 : lw_okq (⟨"FamilyReducerModel", "known", "()I"⟩, 116) := ⟨⟨by decide +kernel, by decide +kernel⟩, List.mem_of_getElem? (i := 1137) (by decide +kernel), List.mem_of_getElem? (i := 2024) (by decide +kernel), List.mem_of_getElem? (i := 2025) (by decide +kernel)⟩
def lw_privs_9 : List (MethodName × Nat) := [(⟨"FamilyReducerModel", "asks", "(I)I"⟩, 116), (⟨"FamilyReducerModel", "reducesSide", "(II)Z"⟩, 116), (⟨"FamilyReducerModel", "expands", "([III)Z"⟩, 116), (⟨"FamilyReducerModel", "comes", "([III)Z"⟩, 116), (⟨"FamilyReducerModel", "isUnknown", "([I)Z"⟩, 116), (⟨"FamilyReducerModel", "unknownBy", "(I[II)I"⟩, 116), (⟨"FamilyReducerModel", "hasOutside", "([III)Z"⟩, 116), (⟨"FamilyReducerModel", "splits", "(I)I"⟩, 116), (⟨"FamilyReducerModel", "length", "()I"⟩, 116), (⟨"FamilyReducerModel", "putsSide", "(II[III)V"⟩, 116), (⟨"FamilyReducerModel", "closesUp", "()V"⟩, 116), (⟨"FamilyReducerModel", "known", "()I"⟩, 116)]
theorem lw_r9 : ∀ q ∈ lw_privs_9, lw_okq q := List.forall_mem_cons.mpr ⟨lw_p128, List.forall_mem_cons.mpr ⟨lw_p129, List.forall_mem_cons.mpr ⟨lw_p130, List.forall_mem_cons.mpr ⟨lw_p131, List.forall_mem_cons.mpr ⟨lw_p132, List.forall_mem_cons.mpr ⟨lw_p133, List.forall_mem_cons.mpr ⟨lw_p134, List.forall_mem_cons.mpr ⟨lw_p135, List.forall_mem_cons.mpr ⟨lw_p136, List.forall_mem_cons.mpr ⟨lw_p137, List.forall_mem_cons.mpr ⟨lw_p138, List.forall_mem_cons.mpr ⟨lw_p139, fun _ h => absurd h List.not_mem_nil⟩⟩⟩⟩⟩⟩⟩⟩⟩⟩⟩⟩
def lw_privs : List (MethodName × Nat) := lw_privs_1 ++ (lw_privs_2 ++ (lw_privs_3 ++ (lw_privs_4 ++ (lw_privs_5 ++ (lw_privs_6 ++ (lw_privs_7 ++ (lw_privs_8 ++ (lw_privs_9))))))))
def lw_tbl : List Cond := k2_sels lw_privs ++ tables_1
theorem lw_privs_ok : ∀ q ∈ lw_privs, lw_okq q := by
  show ∀ q ∈ lw_privs_1 ++ (lw_privs_2 ++ (lw_privs_3 ++ (lw_privs_4 ++ (lw_privs_5 ++ (lw_privs_6 ++ (lw_privs_7 ++ (lw_privs_8 ++ (lw_privs_9)))))))), lw_okq q
  exact List.forall_mem_append.mpr ⟨lw_r1, List.forall_mem_append.mpr ⟨lw_r2, List.forall_mem_append.mpr ⟨lw_r3, List.forall_mem_append.mpr ⟨lw_r4, List.forall_mem_append.mpr ⟨lw_r5, List.forall_mem_append.mpr ⟨lw_r6, List.forall_mem_append.mpr ⟨lw_r7, List.forall_mem_append.mpr ⟨lw_r8, lw_r9⟩⟩⟩⟩⟩⟩⟩⟩

def RX0 : String := "FamilyReducer$Joiner"
def TX0 : u_T := fun k => match k with
  | 0 => ("FamilyReducer$Joiner", "count", "I", false)
  | 1 => ("FamilyReducer$Joiner", "sym", "[I", true)
  | 2 => ("FamilyReducer$Joiner", "whose", "[I", true)
  | 3 => ("FamilyReducer$Joiner", "from", "[I", true)
  | 4 => ("FamilyReducer$Joiner", "up", "[I", true)
  | 5 => ("FamilyReducer$Joiner", "name", "[I", true)
  | 6 => ("FamilyReducer$Joiner", "mark", "[Z", true)
  | 7 => ("FamilyReducer$Joiner", "kid", "[I", true)
  | 8 => ("FamilyReducer$Joiner", "stack", "[I", true)
  | 9 => ("FamilyReducer$Joiner", "frame", "[I", true)
  | _ => ("FamilyReducer$Joiner", "filled", "[I", true)
def tyX0 : Nat → FieldType := fun k => match k with
  | 0 => .int
  | 1 => .array .int
  | 2 => .array .int
  | 3 => .array .int
  | 4 => .array .int
  | 5 => .array .int
  | 6 => .array .boolean
  | 7 => .array .int
  | 8 => .array .int
  | 9 => .array .int
  | _ => .array .int
abbrev wsX00 : List Cond := u_ws RX0 TX0 11
theorem nmX0 : ∀ a, a < 11 → ∀ b, b < 11 → a ≠ b → (TX0 a).2.1 ≠ (TX0 b).2.1 := by decide +kernel
theorem tyX0_ok : ∀ k, k < 11 → parseFieldDescriptor (TX0 k).2.2.1 = some (tyX0 k) := by decide +kernel
abbrev cX0_init : ByteArray := prog_2_method_1_code
def yX0_init : MethodName := ⟨RX0, "<init>", "()V"⟩
abbrev cX0_clear : ByteArray := prog_2_method_2_code
def yX0_clear : MethodName := ⟨RX0, "clear", "()V"⟩
abbrev cX0_lay : ByteArray := prog_2_method_3_code
def yX0_lay : MethodName := ⟨RX0, "lay", "(LFamilyReducer$Row;IIZ)I"⟩
abbrev cX0_isVariable : ByteArray := prog_2_method_4_code
def yX0_isVariable : MethodName := ⟨RX0, "isVariable", "(I)Z"⟩
abbrev cX0_top : ByteArray := prog_2_method_5_code
def yX0_top : MethodName := ⟨RX0, "top", "(I)I"⟩
abbrev cX0_join : ByteArray := prog_2_method_6_code
def yX0_join : MethodName := ⟨RX0, "join", "(IIZ)Z"⟩
abbrev cX0_hasCircle : ByteArray := prog_2_method_7_code
def yX0_hasCircle : MethodName := ⟨RX0, "hasCircle", "()Z"⟩
abbrev cX0_kidsAreMarked : ByteArray := prog_2_method_8_code
def yX0_kidsAreMarked : MethodName := ⟨RX0, "kidsAreMarked", "(I)Z"⟩
abbrev cX0_nameVariables : ByteArray := prog_2_method_9_code
def yX0_nameVariables : MethodName := ⟨RX0, "nameVariables", "(I)V"⟩
abbrev cX0_joinedCode : ByteArray := prog_2_method_10_code
def yX0_joinedCode : MethodName := ⟨RX0, "joinedCode", "(I)I"⟩
abbrev cX0_joinedKid : ByteArray := prog_2_method_11_code
def yX0_joinedKid : MethodName := ⟨RX0, "joinedKid", "(II)I"⟩
def RX1 : String := "FamilyReducer$Judge"
def TX1 : u_T := fun k => match k with
  | 0 => ("FamilyReducer$Judge", "joiner", "LFamilyReducer$Joiner;", true)
  | _ => ("FamilyReducer$Judge", "leftRoot", "I", false)
def tyX1 : Nat → FieldType := fun k => match k with
  | 0 => .object "FamilyReducer$Joiner"
  | _ => .int
abbrev wsX10 : List Cond := u_ws RX1 TX1 2
theorem nmX1 : ∀ a, a < 2 → ∀ b, b < 2 → a ≠ b → (TX1 a).2.1 ≠ (TX1 b).2.1 := by decide +kernel
theorem tyX1_ok : ∀ k, k < 2 → parseFieldDescriptor (TX1 k).2.2.1 = some (tyX1 k) := by decide +kernel
abbrev cX1_init : ByteArray := prog_3_method_1_code
def yX1_init : MethodName := ⟨RX1, "<init>", "(LFamilyReducer$Joiner;)V"⟩
abbrev cX1_judgeAll : ByteArray := prog_3_method_2_code
def yX1_judgeAll : MethodName := ⟨RX1, "judgeAll", "(LFamilyReducer$Told;)V"⟩
abbrev cX1_meetLefts : ByteArray := prog_3_method_3_code
def yX1_meetLefts : MethodName := ⟨RX1, "meetLefts", "(LFamilyReducer$Told;II)I"⟩
abbrev cX1_rightsAgree : ByteArray := prog_3_method_4_code
def yX1_rightsAgree : MethodName := ⟨RX1, "rightsAgree", "(LFamilyReducer$Told;II)Z"⟩
abbrev cX1_judgeBackwards : ByteArray := prog_3_method_5_code
def yX1_judgeBackwards : MethodName := ⟨RX1, "judgeBackwards", "(LFamilyReducer$Told;I)V"⟩
abbrev cX1_badAlone : ByteArray := prog_3_method_6_code
def yX1_badAlone : MethodName := ⟨RX1, "badAlone", "(LFamilyReducer$Told;I)I"⟩
abbrev cX1_badTogether : ByteArray := prog_3_method_7_code
def yX1_badTogether : MethodName := ⟨RX1, "badTogether", "(LFamilyReducer$Told;II)Z"⟩
def RX2 : String := "FamilyReducer$Lexer"
def TX2 : u_T := fun k => match k with
  | 0 => ("FamilyReducer$Lexer", "kinds", "[I", true)
  | 1 => ("FamilyReducer$Lexer", "values", "[I", true)
  | 2 => ("FamilyReducer$Lexer", "places", "[I", true)
  | _ => ("FamilyReducer$Lexer", "count", "I", false)
def tyX2 : Nat → FieldType := fun k => match k with
  | 0 => .array .int
  | 1 => .array .int
  | 2 => .array .int
  | _ => .int
abbrev wsX20 : List Cond := u_ws RX2 TX2 4
theorem nmX2 : ∀ a, a < 4 → ∀ b, b < 4 → a ≠ b → (TX2 a).2.1 ≠ (TX2 b).2.1 := by decide +kernel
theorem tyX2_ok : ∀ k, k < 4 → parseFieldDescriptor (TX2 k).2.2.1 = some (tyX2 k) := by decide +kernel
abbrev cX2_init : ByteArray := prog_4_method_1_code
def yX2_init : MethodName := ⟨RX2, "<init>", "()V"⟩
abbrev cX2_scan : ByteArray := prog_4_method_2_code
def yX2_scan : MethodName := ⟨RX2, "scan", "([II)V"⟩
abbrev cX2_add : ByteArray := prog_4_method_3_code
def yX2_add : MethodName := ⟨RX2, "add", "(III)V"⟩
abbrev cX2_endOfLetters : ByteArray := prog_4_method_4_code
def yX2_endOfLetters : MethodName := ⟨RX2, "endOfLetters", "([III)I"⟩
abbrev cX2_kindOfLetters : ByteArray := prog_4_method_5_code
def yX2_kindOfLetters : MethodName := ⟨RX2, "kindOfLetters", "([III)I"⟩
abbrev cX2_valueOfLetters : ByteArray := prog_4_method_6_code
def yX2_valueOfLetters : MethodName := ⟨RX2, "valueOfLetters", "([III)I"⟩
abbrev cX2_isSign : ByteArray := prog_4_method_7_code
def yX2_isSign : MethodName := ⟨RX2, "isSign", "(I)Z"⟩
abbrev cX2_isLower : ByteArray := prog_4_method_8_code
def yX2_isLower : MethodName := ⟨RX2, "isLower", "(I)Z"⟩
abbrev cX2_isLetter : ByteArray := prog_4_method_9_code
def yX2_isLetter : MethodName := ⟨RX2, "isLetter", "(I)Z"⟩
abbrev cX2_isDigit : ByteArray := prog_4_method_10_code
def yX2_isDigit : MethodName := ⟨RX2, "isDigit", "(I)Z"⟩
def RX3 : String := "FamilyReducer$Printer"
def TX3 : u_T := fun k => match k with
  | 0 => ("FamilyReducer$Printer", "size", "I", false)
  | 1 => ("FamilyReducer$Printer", "bytes", "[I", false)
  | _ => ("FamilyReducer$Printer", "stack", "[I", true)
def tyX3 : Nat → FieldType := fun k => match k with
  | 0 => .int
  | 1 => .array .int
  | _ => .array .int
abbrev wsX30 : List Cond := u_ws RX3 TX3 3
theorem nmX3 : ∀ a, a < 3 → ∀ b, b < 3 → a ≠ b → (TX3 a).2.1 ≠ (TX3 b).2.1 := by decide +kernel
theorem tyX3_ok : ∀ k, k < 3 → parseFieldDescriptor (TX3 k).2.2.1 = some (tyX3 k) := by decide +kernel
abbrev cX3_init : ByteArray := prog_5_method_1_code
def yX3_init : MethodName := ⟨RX3, "<init>", "()V"⟩
abbrev cX3_put : ByteArray := prog_5_method_2_code
def yX3_put : MethodName := ⟨RX3, "put", "(I)V"⟩
abbrev cX3_putLetters : ByteArray := prog_5_method_3_code
def yX3_putLetters : MethodName := ⟨RX3, "putLetters", "(II)V"⟩
abbrev cX3_putRow : ByteArray := prog_5_method_4_code
def yX3_putRow : MethodName := ⟨RX3, "putRow", "(LFamilyReducer$Row;LFamilyReducer$Told;[I)V"⟩
abbrev cX3_putCode : ByteArray := prog_5_method_5_code
def yX3_putCode : MethodName := ⟨RX3, "putCode", "(ILFamilyReducer$Told;[I)V"⟩
abbrev cX3_putJoined : ByteArray := prog_5_method_6_code
def yX3_putJoined : MethodName := ⟨RX3, "putJoined", "(LFamilyReducer$Joiner;ILFamilyReducer$Told;)V"⟩
def RX4 : String := "FamilyReducer$Reader"
def TX4 : u_T := fun k => match k with
  | 0 => ("FamilyReducer$Reader", "faultKind", "I", false)
  | 1 => ("FamilyReducer$Reader", "faultPlace", "I", false)
  | 2 => ("FamilyReducer$Reader", "words", "[I", true)
  | 3 => ("FamilyReducer$Reader", "wordCount", "I", false)
  | 4 => ("FamilyReducer$Reader", "wordRoom", "I", false)
  | 5 => ("FamilyReducer$Reader", "mode", "I", false)
  | 6 => ("FamilyReducer$Reader", "lexer", "LFamilyReducer$Lexer;", true)
  | 7 => ("FamilyReducer$Reader", "index", "I", false)
  | 8 => ("FamilyReducer$Reader", "token", "I", false)
  | 9 => ("FamilyReducer$Reader", "value", "I", false)
  | 10 => ("FamilyReducer$Reader", "place", "I", false)
  | 11 => ("FamilyReducer$Reader", "told", "LFamilyReducer$Told;", false)
  | 12 => ("FamilyReducer$Reader", "request", "LFamilyReducer$Request;", true)
  | 13 => ("FamilyReducer$Reader", "frameWants", "[I", true)
  | _ => ("FamilyReducer$Reader", "frameHas", "[I", true)
def tyX4 : Nat → FieldType := fun k => match k with
  | 0 => .int
  | 1 => .int
  | 2 => .array .int
  | 3 => .int
  | 4 => .int
  | 5 => .int
  | 6 => .object "FamilyReducer$Lexer"
  | 7 => .int
  | 8 => .int
  | 9 => .int
  | 10 => .int
  | 11 => .object "FamilyReducer$Told"
  | 12 => .object "FamilyReducer$Request"
  | 13 => .array .int
  | _ => .array .int
abbrev wsX40 : List Cond := u_ws RX4 TX4 15
theorem nmX4 : ∀ a, a < 15 → ∀ b, b < 15 → a ≠ b → (TX4 a).2.1 ≠ (TX4 b).2.1 := by decide +kernel
theorem tyX4_ok : ∀ k, k < 15 → parseFieldDescriptor (TX4 k).2.2.1 = some (tyX4 k) := by decide +kernel
abbrev cX4_init : ByteArray := prog_6_method_1_code
def yX4_init : MethodName := ⟨RX4, "<init>", "(LFamilyReducer$Told;LFamilyReducer$Request;)V"⟩
abbrev cX4_readTold : ByteArray := prog_6_method_2_code
def yX4_readTold : MethodName := ⟨RX4, "readTold", "([IILFamilyReducer$Told;)Z"⟩
abbrev cX4_readWhole : ByteArray := prog_6_method_3_code
def yX4_readWhole : MethodName := ⟨RX4, "readWhole", "([IILFamilyReducer$Told;LFamilyReducer$Row;)Z"⟩
abbrev cX4_readRequest : ByteArray := prog_6_method_4_code
def yX4_readRequest : MethodName := ⟨RX4, "readRequest", "([IILFamilyReducer$Told;)Z"⟩
abbrev cX4_begin : ByteArray := prog_6_method_5_code
def yX4_begin : MethodName := ⟨RX4, "begin", "([IILFamilyReducer$Told;)V"⟩
abbrev cX4_forgetWords : ByteArray := prog_6_method_6_code
def yX4_forgetWords : MethodName := ⟨RX4, "forgetWords", "(I)V"⟩
abbrev cX4_fail : ByteArray := prog_6_method_7_code
def yX4_fail : MethodName := ⟨RX4, "fail", "(I)Z"⟩
abbrev cX4_isWord : ByteArray := prog_6_method_8_code
def yX4_isWord : MethodName := ⟨RX4, "isWord", "(I)Z"⟩
abbrev cX4_readHead : ByteArray := prog_6_method_9_code
def yX4_readHead : MethodName := ⟨RX4, "readHead", "(IZ)Z"⟩
abbrev cX4_readEquation : ByteArray := prog_6_method_10_code
def yX4_readEquation : MethodName := ⟨RX4, "readEquation", "(I)Z"⟩
abbrev cX4_readGiven : ByteArray := prog_6_method_11_code
def yX4_readGiven : MethodName := ⟨RX4, "readGiven", "(I)Z"⟩
abbrev cX4_readWant : ByteArray := prog_6_method_12_code
def yX4_readWant : MethodName := ⟨RX4, "readWant", "(I)Z"⟩
abbrev cX4_readBoth : ByteArray := prog_6_method_13_code
def yX4_readBoth : MethodName := ⟨RX4, "readBoth", "(LFamilyReducer$Row;LFamilyReducer$Row;II)Z"⟩
abbrev cX4_readSide : ByteArray := prog_6_method_14_code
def yX4_readSide : MethodName := ⟨RX4, "readSide", "(LFamilyReducer$Row;I)Z"⟩
abbrev cX4_closeFrames : ByteArray := prog_6_method_15_code
def yX4_closeFrames : MethodName := ⟨RX4, "closeFrames", "(I)I"⟩
abbrev cX4_endsTerm : ByteArray := prog_6_method_16_code
def yX4_endsTerm : MethodName := ⟨RX4, "endsTerm", "(I)Z"⟩
abbrev cX4_isVariable : ByteArray := prog_6_method_17_code
def yX4_isVariable : MethodName := ⟨RX4, "isVariable", "()Z"⟩
abbrev cX4_readNode : ByteArray := prog_6_method_18_code
def yX4_readNode : MethodName := ⟨RX4, "readNode", "(LFamilyReducer$Row;)Z"⟩
abbrev cX4_readUnknown : ByteArray := prog_6_method_19_code
def yX4_readUnknown : MethodName := ⟨RX4, "readUnknown", "(LFamilyReducer$Row;)Z"⟩
abbrev cX4_indexOfWord : ByteArray := prog_6_method_20_code
def yX4_indexOfWord : MethodName := ⟨RX4, "indexOfWord", "(I)I"⟩
abbrev cX4_next : ByteArray := prog_6_method_21_code
def yX4_next : MethodName := ⟨RX4, "next", "()V"⟩
def RX5 : String := "FamilyReducer$Reducer"
def TX5 : u_T := fun k => match k with
  | 0 => ("FamilyReducer$Reducer", "joiner", "LFamilyReducer$Joiner;", true)
  | 1 => ("FamilyReducer$Reducer", "request", "LFamilyReducer$Request;", true)
  | 2 => ("FamilyReducer$Reducer", "told", "LFamilyReducer$Told;", false)
  | 3 => ("FamilyReducer$Reducer", "work", "LFamilyReducer$Row;", true)
  | 4 => ("FamilyReducer$Reducer", "byGivens", "Z", false)
  | 5 => ("FamilyReducer$Reducer", "foundEquation", "I", false)
  | 6 => ("FamilyReducer$Reducer", "steps", "I", false)
  | 7 => ("FamilyReducer$Reducer", "circle", "I", false)
  | 8 => ("FamilyReducer$Reducer", "foundAt", "I", false)
  | 9 => ("FamilyReducer$Reducer", "foundGiven", "I", false)
  | 10 => ("FamilyReducer$Reducer", "spare", "LFamilyReducer$Row;", true)
  | 11 => ("FamilyReducer$Reducer", "past", "[LFamilyReducer$Row;", true)
  | 12 => ("FamilyReducer$Reducer", "order", "[I", true)
  | 13 => ("FamilyReducer$Reducer", "frame", "[I", true)
  | 14 => ("FamilyReducer$Reducer", "missing", "[I", true)
  | _ => ("FamilyReducer$Reducer", "boundAt", "[I", true)
def tyX5 : Nat → FieldType := fun k => match k with
  | 0 => .object "FamilyReducer$Joiner"
  | 1 => .object "FamilyReducer$Request"
  | 2 => .object "FamilyReducer$Told"
  | 3 => .object "FamilyReducer$Row"
  | 4 => .boolean
  | 5 => .int
  | 6 => .int
  | 7 => .int
  | 8 => .int
  | 9 => .int
  | 10 => .object "FamilyReducer$Row"
  | 11 => .array (.object "FamilyReducer$Row")
  | 12 => .array .int
  | 13 => .array .int
  | 14 => .array .int
  | _ => .array .int
abbrev wsX50 : List Cond := u_ws RX5 TX5 16
theorem nmX5 : ∀ a, a < 16 → ∀ b, b < 16 → a ≠ b → (TX5 a).2.1 ≠ (TX5 b).2.1 := by decide +kernel
theorem tyX5_ok : ∀ k, k < 16 → parseFieldDescriptor (TX5 k).2.2.1 = some (tyX5 k) := by decide +kernel
abbrev cX5_init : ByteArray := prog_7_method_1_code
def yX5_init : MethodName := ⟨RX5, "<init>", "(LFamilyReducer$Joiner;LFamilyReducer$Told;LFamilyReducer$Request;)V"⟩
abbrev cX5_fits : ByteArray := prog_7_method_2_code
def yX5_fits : MethodName := ⟨RX5, "fits", "(ILFamilyReducer$Row;I)Z"⟩
abbrev cX5_firstStill : ByteArray := prog_7_method_3_code
def yX5_firstStill : MethodName := ⟨RX5, "firstStill", "(ILFamilyReducer$Row;I)I"⟩
abbrev cX5_reason : ByteArray := prog_7_method_4_code
def yX5_reason : MethodName := ⟨RX5, "reason", "(ILFamilyReducer$Row;I)I"⟩
abbrev cX5_firingAt : ByteArray := prog_7_method_5_code
def yX5_firingAt : MethodName := ⟨RX5, "firingAt", "(LFamilyReducer$Row;I)I"⟩
abbrev cX5_firingPlaces : ByteArray := prog_7_method_6_code
def yX5_firingPlaces : MethodName := ⟨RX5, "firingPlaces", "(LFamilyReducer$Row;)I"⟩
abbrev cX5_findPlace : ByteArray := prog_7_method_7_code
def yX5_findPlace : MethodName := ⟨RX5, "findPlace", "(I)Z"⟩
abbrev cX5_givenAt : ByteArray := prog_7_method_8_code
def yX5_givenAt : MethodName := ⟨RX5, "givenAt", "(I)I"⟩
abbrev cX5_orderPlaces : ByteArray := prog_7_method_9_code
def yX5_orderPlaces : MethodName := ⟨RX5, "orderPlaces", "(I)V"⟩
abbrev cX5_rewrite : ByteArray := prog_7_method_10_code
def yX5_rewrite : MethodName := ⟨RX5, "rewrite", "()Z"⟩
abbrev cX5_reduceAll : ByteArray := prog_7_method_11_code
def yX5_reduceAll : MethodName := ⟨RX5, "reduceAll", "(I)I"⟩
def RX6 : String := "FamilyReducer$Request"
def TX6 : u_T := fun k => match k with
  | 0 => ("FamilyReducer$Request", "givens", "I", false)
  | 1 => ("FamilyReducer$Request", "wants", "I", false)
  | 2 => ("FamilyReducer$Request", "unknowns", "I", false)
  | 3 => ("FamilyReducer$Request", "givenLeft", "[LFamilyReducer$Row;", true)
  | 4 => ("FamilyReducer$Request", "givenRight", "[LFamilyReducer$Row;", true)
  | 5 => ("FamilyReducer$Request", "wantLeft", "[LFamilyReducer$Row;", true)
  | 6 => ("FamilyReducer$Request", "wantRight", "[LFamilyReducer$Row;", true)
  | _ => ("FamilyReducer$Request", "words", "[I", true)
def tyX6 : Nat → FieldType := fun k => match k with
  | 0 => .int
  | 1 => .int
  | 2 => .int
  | 3 => .array (.object "FamilyReducer$Row")
  | 4 => .array (.object "FamilyReducer$Row")
  | 5 => .array (.object "FamilyReducer$Row")
  | 6 => .array (.object "FamilyReducer$Row")
  | _ => .array .int
abbrev wsX60 : List Cond := u_ws RX6 TX6 8
theorem nmX6 : ∀ a, a < 8 → ∀ b, b < 8 → a ≠ b → (TX6 a).2.1 ≠ (TX6 b).2.1 := by decide +kernel
theorem tyX6_ok : ∀ k, k < 8 → parseFieldDescriptor (TX6 k).2.2.1 = some (tyX6 k) := by decide +kernel
abbrev cX6_init : ByteArray := prog_8_method_1_code
def yX6_init : MethodName := ⟨RX6, "<init>", "()V"⟩
abbrev cX6_clear : ByteArray := prog_8_method_2_code
def yX6_clear : MethodName := ⟨RX6, "clear", "()V"⟩
abbrev cX6_unknownOf : ByteArray := prog_8_method_3_code
def yX6_unknownOf : MethodName := ⟨RX6, "unknownOf", "(I)I"⟩
def RX7 : String := "FamilyReducer$Row"
def TX7 : u_T := fun k => match k with
  | 0 => ("FamilyReducer$Row", "code", "[I", true)
  | _ => ("FamilyReducer$Row", "size", "I", false)
def tyX7 : Nat → FieldType := fun k => match k with
  | 0 => .array .int
  | _ => .int
abbrev wsX70 : List Cond := u_ws RX7 TX7 2
theorem nmX7 : ∀ a, a < 2 → ∀ b, b < 2 → a ≠ b → (TX7 a).2.1 ≠ (TX7 b).2.1 := by decide +kernel
theorem tyX7_ok : ∀ k, k < 2 → parseFieldDescriptor (TX7 k).2.2.1 = some (tyX7 k) := by decide +kernel
abbrev cX7_init : ByteArray := prog_9_method_1_code
def yX7_init : MethodName := ⟨RX7, "<init>", "(I)V"⟩
abbrev cX7_make : ByteArray := prog_9_method_2_code
def yX7_make : MethodName := ⟨RX7, "make", "(III)I"⟩
abbrev cX7_kind : ByteArray := prog_9_method_3_code
def yX7_kind : MethodName := ⟨RX7, "kind", "(I)I"⟩
abbrev cX7_arity : ByteArray := prog_9_method_4_code
def yX7_arity : MethodName := ⟨RX7, "arity", "(I)I"⟩
abbrev cX7_number : ByteArray := prog_9_method_5_code
def yX7_number : MethodName := ⟨RX7, "number", "(I)I"⟩
abbrev cX7_add : ByteArray := prog_9_method_6_code
def yX7_add : MethodName := ⟨RX7, "add", "(I)Z"⟩
abbrev cX7_addPart : ByteArray := prog_9_method_7_code
def yX7_addPart : MethodName := ⟨RX7, "addPart", "(LFamilyReducer$Row;II)Z"⟩
abbrev cX7_take : ByteArray := prog_9_method_8_code
def yX7_take : MethodName := ⟨RX7, "take", "(LFamilyReducer$Row;)V"⟩
abbrev cX7_takePart : ByteArray := prog_9_method_9_code
def yX7_takePart : MethodName := ⟨RX7, "takePart", "(LFamilyReducer$Row;I)V"⟩
abbrev cX7_end : ByteArray := prog_9_method_10_code
def yX7_end : MethodName := ⟨RX7, "end", "(I)I"⟩
abbrev cX7_same : ByteArray := prog_9_method_11_code
def yX7_same : MethodName := ⟨RX7, "same", "(LFamilyReducer$Row;)Z"⟩
abbrev cX7_samePart : ByteArray := prog_9_method_12_code
def yX7_samePart : MethodName := ⟨RX7, "samePart", "(ILFamilyReducer$Row;I)Z"⟩
abbrev cX7_depth : ByteArray := prog_9_method_13_code
def yX7_depth : MethodName := ⟨RX7, "depth", "(I)I"⟩
abbrev cX7_families : ByteArray := prog_9_method_14_code
def yX7_families : MethodName := ⟨RX7, "families", "()I"⟩
abbrev cX7_times : ByteArray := prog_9_method_15_code
def yX7_times : MethodName := ⟨RX7, "times", "(III)I"⟩
abbrev cX7_standsOutsideFamilies : ByteArray := prog_9_method_16_code
def yX7_standsOutsideFamilies : MethodName := ⟨RX7, "standsOutsideFamilies", "(I)Z"⟩
def RX8 : String := "FamilyReducer$Solver"
def TX8 : u_T := fun k => match k with
  | 0 => ("FamilyReducer$Solver", "asked", "Z", false)
  | 1 => ("FamilyReducer$Solver", "size", "I", false)
  | 2 => ("FamilyReducer$Solver", "wrong", "I", false)
  | 3 => ("FamilyReducer$Solver", "wrongOrigin", "I", false)
  | 4 => ("FamilyReducer$Solver", "rounds", "I", false)
  | 5 => ("FamilyReducer$Solver", "unknowns", "I", false)
  | 6 => ("FamilyReducer$Solver", "bound", "I", false)
  | 7 => ("FamilyReducer$Solver", "words", "[I", true)
  | 8 => ("FamilyReducer$Solver", "values", "[LFamilyReducer$Row;", true)
  | 9 => ("FamilyReducer$Solver", "changed", "Z", false)
  | 10 => ("FamilyReducer$Solver", "slots", "[I", true)
  | 11 => ("FamilyReducer$Solver", "origin", "[I", true)
  | 12 => ("FamilyReducer$Solver", "left", "[LFamilyReducer$Row;", true)
  | 13 => ("FamilyReducer$Solver", "right", "[LFamilyReducer$Row;", true)
  | 14 => ("FamilyReducer$Solver", "openRow", "[LFamilyReducer$Row;", true)
  | _ => ("FamilyReducer$Solver", "openAt", "[I", true)
def tyX8 : Nat → FieldType := fun k => match k with
  | 0 => .boolean
  | 1 => .int
  | 2 => .int
  | 3 => .int
  | 4 => .int
  | 5 => .int
  | 6 => .int
  | 7 => .array .int
  | 8 => .array (.object "FamilyReducer$Row")
  | 9 => .boolean
  | 10 => .array .int
  | 11 => .array .int
  | 12 => .array (.object "FamilyReducer$Row")
  | 13 => .array (.object "FamilyReducer$Row")
  | 14 => .array (.object "FamilyReducer$Row")
  | _ => .array .int
abbrev wsX80 : List Cond := u_ws RX8 TX8 16
theorem nmX8 : ∀ a, a < 16 → ∀ b, b < 16 → a ≠ b → (TX8 a).2.1 ≠ (TX8 b).2.1 := by decide +kernel
theorem tyX8_ok : ∀ k, k < 16 → parseFieldDescriptor (TX8 k).2.2.1 = some (tyX8 k) := by decide +kernel
abbrev cX8_init : ByteArray := prog_10_method_1_code
def yX8_init : MethodName := ⟨RX8, "<init>", "()V"⟩
abbrev cX8_forget : ByteArray := prog_10_method_2_code
def yX8_forget : MethodName := ⟨RX8, "forget", "()V"⟩
abbrev cX8_begin : ByteArray := prog_10_method_3_code
def yX8_begin : MethodName := ⟨RX8, "begin", "(LFamilyReducer$Request;)V"⟩
abbrev cX8_goesOn : ByteArray := prog_10_method_4_code
def yX8_goesOn : MethodName := ⟨RX8, "goesOn", "()Z"⟩
abbrev cX8_isBound : ByteArray := prog_10_method_5_code
def yX8_isBound : MethodName := ⟨RX8, "isBound", "(I)Z"⟩
abbrev cX8_oneRound : ByteArray := prog_10_method_6_code
def yX8_oneRound : MethodName := ⟨RX8, "oneRound", "(LFamilyReducer$Told;LFamilyReducer$Reducer;)V"⟩
abbrev cX8_remove : ByteArray := prog_10_method_7_code
def yX8_remove : MethodName := ⟨RX8, "remove", "(I)V"⟩
abbrev cX8_settle : ByteArray := prog_10_method_8_code
def yX8_settle : MethodName := ⟨RX8, "settle", "(LFamilyReducer$Told;I)I"⟩
abbrev cX8_become : ByteArray := prog_10_method_9_code
def yX8_become : MethodName := ⟨RX8, "become", "(ILFamilyReducer$Row;)I"⟩
abbrev cX8_takeApart : ByteArray := prog_10_method_10_code
def yX8_takeApart : MethodName := ⟨RX8, "takeApart", "(I)I"⟩
abbrev cX8_expand : ByteArray := prog_10_method_11_code
def yX8_expand : MethodName := ⟨RX8, "expand", "(LFamilyReducer$Row;LFamilyReducer$Row;)Z"⟩
def RX9 : String := "FamilyReducer$Told"
def TX9 : u_T := fun k => match k with
  | 0 => ("FamilyReducer$Told", "cons", "I", false)
  | 1 => ("FamilyReducer$Told", "fams", "I", false)
  | 2 => ("FamilyReducer$Told", "eqs", "I", false)
  | 3 => ("FamilyReducer$Told", "conName", "[I", true)
  | 4 => ("FamilyReducer$Told", "conCode", "[I", true)
  | 5 => ("FamilyReducer$Told", "famName", "[I", true)
  | 6 => ("FamilyReducer$Told", "famCode", "[I", true)
  | 7 => ("FamilyReducer$Told", "closed", "[Z", true)
  | 8 => ("FamilyReducer$Told", "back", "[Z", true)
  | 9 => ("FamilyReducer$Told", "owner", "[I", true)
  | 10 => ("FamilyReducer$Told", "vars", "[I", true)
  | 11 => ("FamilyReducer$Told", "left", "[LFamilyReducer$Row;", true)
  | 12 => ("FamilyReducer$Told", "right", "[LFamilyReducer$Row;", true)
  | 13 => ("FamilyReducer$Told", "agreeing", "[Z", true)
  | 14 => ("FamilyReducer$Told", "badKind", "[I", true)
  | 15 => ("FamilyReducer$Told", "badFirst", "[I", true)
  | _ => ("FamilyReducer$Told", "badOther", "[I", true)
def tyX9 : Nat → FieldType := fun k => match k with
  | 0 => .int
  | 1 => .int
  | 2 => .int
  | 3 => .array .int
  | 4 => .array .int
  | 5 => .array .int
  | 6 => .array .int
  | 7 => .array .boolean
  | 8 => .array .boolean
  | 9 => .array .int
  | 10 => .array .int
  | 11 => .array (.object "FamilyReducer$Row")
  | 12 => .array (.object "FamilyReducer$Row")
  | 13 => .array .boolean
  | 14 => .array .int
  | 15 => .array .int
  | _ => .array .int
abbrev wsX90 : List Cond := u_ws RX9 TX9 17
theorem nmX9 : ∀ a, a < 17 → ∀ b, b < 17 → a ≠ b → (TX9 a).2.1 ≠ (TX9 b).2.1 := by decide +kernel
theorem tyX9_ok : ∀ k, k < 17 → parseFieldDescriptor (TX9 k).2.2.1 = some (tyX9 k) := by decide +kernel
abbrev cX9_init : ByteArray := prog_11_method_1_code
def yX9_init : MethodName := ⟨RX9, "<init>", "()V"⟩
abbrev cX9_clear : ByteArray := prog_11_method_2_code
def yX9_clear : MethodName := ⟨RX9, "clear", "()V"⟩
abbrev cX9_codeOf : ByteArray := prog_11_method_3_code
def yX9_codeOf : MethodName := ⟨RX9, "codeOf", "(I)I"⟩
abbrev cX9_nameOf : ByteArray := prog_11_method_4_code
def yX9_nameOf : MethodName := ⟨RX9, "nameOf", "(I)I"⟩
abbrev cX9_addCon : ByteArray := prog_11_method_5_code
def yX9_addCon : MethodName := ⟨RX9, "addCon", "(II)V"⟩
abbrev cX9_addFam : ByteArray := prog_11_method_6_code
def yX9_addFam : MethodName := ⟨RX9, "addFam", "(IIZZ)V"⟩
abbrev cX9_addEquation : ByteArray := prog_11_method_7_code
def yX9_addEquation : MethodName := ⟨RX9, "addEquation", "(I)V"⟩
abbrev cX9_agree : ByteArray := prog_11_method_8_code
def yX9_agree : MethodName := ⟨RX9, "agree", "(II)Z"⟩
abbrev cX9_equationsOf : ByteArray := prog_11_method_9_code
def yX9_equationsOf : MethodName := ⟨RX9, "equationsOf", "(I)I"⟩
abbrev cX9_rank : ByteArray := prog_11_method_10_code
def yX9_rank : MethodName := ⟨RX9, "rank", "(I)I"⟩
abbrev cX9_called : ByteArray := prog_11_method_11_code
def yX9_called : MethodName := ⟨RX9, "called", "(I)I"⟩
abbrev cX9_calledAtLast : ByteArray := prog_11_method_12_code
def yX9_calledAtLast : MethodName := ⟨RX9, "calledAtLast", "(I)I"⟩
abbrev cX9_firstParting : ByteArray := prog_11_method_13_code
def yX9_firstParting : MethodName := ⟨RX9, "firstParting", "(I)I"⟩
abbrev cX9_goesBackwards : ByteArray := prog_11_method_14_code
def yX9_goesBackwards : MethodName := ⟨RX9, "goesBackwards", "(I)Z"⟩
abbrev cX9_unbounded : ByteArray := prog_11_method_15_code
def yX9_unbounded : MethodName := ⟨RX9, "unbounded", "(I)I"⟩
abbrev cX9_unboundedAt : ByteArray := prog_11_method_16_code
def yX9_unboundedAt : MethodName := ⟨RX9, "unboundedAt", "(III)I"⟩
def RX10 : String := "FamilyReducer"
def TX10 : u_T := fun k => match k with
  | 0 => ("FamilyReducer", "tape", "[I", true)
  | 1 => ("FamilyReducer", "tapeSize", "I", false)
  | 2 => ("FamilyReducer", "latest", "I", false)
  | 3 => ("FamilyReducer", "faultKind", "I", false)
  | 4 => ("FamilyReducer", "faultPlace", "I", false)
  | 5 => ("FamilyReducer", "told", "LFamilyReducer$Told;", false)
  | 6 => ("FamilyReducer", "spareTold", "LFamilyReducer$Told;", false)
  | 7 => ("FamilyReducer", "request", "LFamilyReducer$Request;", true)
  | 8 => ("FamilyReducer", "reader", "LFamilyReducer$Reader;", true)
  | 9 => ("FamilyReducer", "joiner", "LFamilyReducer$Joiner;", true)
  | 10 => ("FamilyReducer", "judge", "LFamilyReducer$Judge;", true)
  | 11 => ("FamilyReducer", "reducer", "LFamilyReducer$Reducer;", true)
  | 12 => ("FamilyReducer", "theTerm", "LFamilyReducer$Row;", true)
  | 13 => ("FamilyReducer", "spareTerm", "LFamilyReducer$Row;", true)
  | 14 => ("FamilyReducer", "termWords", "[I", true)
  | 15 => ("FamilyReducer", "latestPeriod", "I", false)
  | 16 => ("FamilyReducer", "solver", "LFamilyReducer$Solver;", true)
  | _ => ("FamilyReducer", "printer", "LFamilyReducer$Printer;", true)
def tyX10 : Nat → FieldType := fun k => match k with
  | 0 => .array .int
  | 1 => .int
  | 2 => .int
  | 3 => .int
  | 4 => .int
  | 5 => .object "FamilyReducer$Told"
  | 6 => .object "FamilyReducer$Told"
  | 7 => .object "FamilyReducer$Request"
  | 8 => .object "FamilyReducer$Reader"
  | 9 => .object "FamilyReducer$Joiner"
  | 10 => .object "FamilyReducer$Judge"
  | 11 => .object "FamilyReducer$Reducer"
  | 12 => .object "FamilyReducer$Row"
  | 13 => .object "FamilyReducer$Row"
  | 14 => .array .int
  | 15 => .int
  | 16 => .object "FamilyReducer$Solver"
  | _ => .object "FamilyReducer$Printer"
abbrev wsX100 : List Cond := u_ws RX10 TX10 18
theorem nmX10 : ∀ a, a < 18 → ∀ b, b < 18 → a ≠ b → (TX10 a).2.1 ≠ (TX10 b).2.1 := by decide +kernel
theorem tyX10_ok : ∀ k, k < 18 → parseFieldDescriptor (TX10 k).2.2.1 = some (tyX10 k) := by decide +kernel
abbrev cX10_init : ByteArray := prog_1_method_1_code
def yX10_init : MethodName := ⟨RX10, "<init>", "()V"⟩
abbrev cX10_status : ByteArray := prog_1_method_2_code
def yX10_status : MethodName := ⟨RX10, "status", "()I"⟩
abbrev cX10_feed : ByteArray := prog_1_method_3_code
def yX10_feed : MethodName := ⟨RX10, "feed", "(IIIII)I"⟩
abbrev cX10_load : ByteArray := prog_1_method_4_code
def yX10_load : MethodName := ⟨RX10, "load", "(I)I"⟩
abbrev cX10_fault : ByteArray := prog_1_method_5_code
def yX10_fault : MethodName := ⟨RX10, "fault", "(I)I"⟩
abbrev cX10_many : ByteArray := prog_1_method_6_code
def yX10_many : MethodName := ⟨RX10, "many", "(I)I"⟩
abbrev cX10_family : ByteArray := prog_1_method_7_code
def yX10_family : MethodName := ⟨RX10, "family", "(II)I"⟩
abbrev cX10_equation : ByteArray := prog_1_method_8_code
def yX10_equation : MethodName := ⟨RX10, "equation", "(II)I"⟩
abbrev cX10_meets : ByteArray := prog_1_method_9_code
def yX10_meets : MethodName := ⟨RX10, "meets", "(II)I"⟩
abbrev cX10_compatible : ByteArray := prog_1_method_10_code
def yX10_compatible : MethodName := ⟨RX10, "compatible", "(II)I"⟩
abbrev cX10_ends : ByteArray := prog_1_method_11_code
def yX10_ends : MethodName := ⟨RX10, "ends", "(III)I"⟩
abbrev cX10_parts : ByteArray := prog_1_method_12_code
def yX10_parts : MethodName := ⟨RX10, "parts", "(II)I"⟩
abbrev cX10_bad : ByteArray := prog_1_method_13_code
def yX10_bad : MethodName := ⟨RX10, "bad", "(II)I"⟩
abbrev cX10_term : ByteArray := prog_1_method_14_code
def yX10_term : MethodName := ⟨RX10, "term", "(I)I"⟩
abbrev cX10_now : ByteArray := prog_1_method_15_code
def yX10_now : MethodName := ⟨RX10, "now", "(I)I"⟩
abbrev cX10_node : ByteArray := prog_1_method_16_code
def yX10_node : MethodName := ⟨RX10, "node", "(II)I"⟩
abbrev cX10_why : ByteArray := prog_1_method_17_code
def yX10_why : MethodName := ⟨RX10, "why", "(II)I"⟩
abbrev cX10_still : ByteArray := prog_1_method_18_code
def yX10_still : MethodName := ⟨RX10, "still", "(II)I"⟩
abbrev cX10_step : ByteArray := prog_1_method_19_code
def yX10_step : MethodName := ⟨RX10, "step", "(I)I"⟩
abbrev cX10_reduce : ByteArray := prog_1_method_20_code
def yX10_reduce : MethodName := ⟨RX10, "reduce", "(I)I"⟩
abbrev cX10_would : ByteArray := prog_1_method_21_code
def yX10_would : MethodName := ⟨RX10, "would", "(II)I"⟩
abbrev cX10_period : ByteArray := prog_1_method_22_code
def yX10_period : MethodName := ⟨RX10, "period", "()I"⟩
abbrev cX10_print : ByteArray := prog_1_method_23_code
def yX10_print : MethodName := ⟨RX10, "print", "()I"⟩
abbrev cX10_out : ByteArray := prog_1_method_24_code
def yX10_out : MethodName := ⟨RX10, "out", "(I)I"⟩
abbrev cX10_want : ByteArray := prog_1_method_25_code
def yX10_want : MethodName := ⟨RX10, "want", "(I)I"⟩
abbrev cX10_wanted : ByteArray := prog_1_method_26_code
def yX10_wanted : MethodName := ⟨RX10, "wanted", "(I)I"⟩
abbrev cX10_unknown : ByteArray := prog_1_method_27_code
def yX10_unknown : MethodName := ⟨RX10, "unknown", "(I)I"⟩
abbrev cX10_give : ByteArray := prog_1_method_28_code
def yX10_give : MethodName := ⟨RX10, "give", "(I)I"⟩
abbrev cX10_refuse : ByteArray := prog_1_method_29_code
def yX10_refuse : MethodName := ⟨RX10, "refuse", "(I)I"⟩
abbrev cX10_putInt : ByteArray := prog_1_method_30_code
def yX10_putInt : MethodName := ⟨RX10, "putInt", "(I)V"⟩
abbrev cX10_takeTape : ByteArray := prog_1_method_31_code
def yX10_takeTape : MethodName := ⟨RX10, "takeTape", "(Z)Z"⟩
abbrev cX10_isEquation : ByteArray := prog_1_method_32_code
def yX10_isEquation : MethodName := ⟨RX10, "isEquation", "(I)Z"⟩
abbrev cX10_deepest : ByteArray := prog_1_method_33_code
def yX10_deepest : MethodName := ⟨RX10, "deepest", "()I"⟩
abbrev cX10_termVariable : ByteArray := prog_1_method_34_code
def yX10_termVariable : MethodName := ⟨RX10, "termVariable", "(I)I"⟩
def RX11 : String := "FamilyReducerModel"
def TX11 : u_T := fun k => match k with
  | 0 => ("FamilyReducerModel", "tape", "[I", true)
  | 1 => ("FamilyReducerModel", "taped", "I", false)
  | 2 => ("FamilyReducerModel", "status", "I", false)
  | 3 => ("FamilyReducerModel", "faultKind", "I", false)
  | 4 => ("FamilyReducerModel", "faultPlace", "I", false)
  | 5 => ("FamilyReducerModel", "size", "I", false)
  | 6 => ("FamilyReducerModel", "from", "I", false)
  | 7 => ("FamilyReducerModel", "to", "I", false)
  | 8 => ("FamilyReducerModel", "kind", "I", false)
  | 9 => ("FamilyReducerModel", "number", "I", false)
  | 10 => ("FamilyReducerModel", "sign", "I", false)
  | 11 => ("FamilyReducerModel", "fault", "I", false)
  | 12 => ("FamilyReducerModel", "place", "I", false)
  | 13 => ("FamilyReducerModel", "word", "J", false)
  | 14 => ("FamilyReducerModel", "live", "I", false)
  | 15 => ("FamilyReducerModel", "side", "I", false)
  | 16 => ("FamilyReducerModel", "conMany", "[I", true)
  | 17 => ("FamilyReducerModel", "famMany", "[I", true)
  | 18 => ("FamilyReducerModel", "eqMany", "[I", true)
  | 19 => ("FamilyReducerModel", "conName", "[J", true)
  | 20 => ("FamilyReducerModel", "famName", "[J", true)
  | 21 => ("FamilyReducerModel", "conTakes", "[I", true)
  | 22 => ("FamilyReducerModel", "famTakes", "[I", true)
  | 23 => ("FamilyReducerModel", "isClosed", "[Z", true)
  | 24 => ("FamilyReducerModel", "isBack", "[Z", true)
  | 25 => ("FamilyReducerModel", "left", "[I", true)
  | 26 => ("FamilyReducerModel", "right", "[I", true)
  | 27 => ("FamilyReducerModel", "leftSize", "[I", true)
  | 28 => ("FamilyReducerModel", "rightSize", "[I", true)
  | 29 => ("FamilyReducerModel", "eqVars", "[I", true)
  | 30 => ("FamilyReducerModel", "made", "[I", true)
  | 31 => ("FamilyReducerModel", "madeSize", "I", false)
  | 32 => ("FamilyReducerModel", "mode", "I", false)
  | 33 => ("FamilyReducerModel", "most", "I", false)
  | 34 => ("FamilyReducerModel", "varMost", "I", false)
  | 35 => ("FamilyReducerModel", "varName", "[J", true)
  | 36 => ("FamilyReducerModel", "unkName", "[J", true)
  | 37 => ("FamilyReducerModel", "varMany", "I", false)
  | 38 => ("FamilyReducerModel", "unkMany", "I", false)
  | 39 => ("FamilyReducerModel", "op", "[I", true)
  | 40 => ("FamilyReducerModel", "kid", "[I", true)
  | 41 => ("FamilyReducerModel", "rep", "[I", true)
  | 42 => ("FamilyReducerModel", "color", "[I", true)
  | 43 => ("FamilyReducerModel", "varSpace", "[I", true)
  | 44 => ("FamilyReducerModel", "varCode", "[I", true)
  | 45 => ("FamilyReducerModel", "varNode", "[I", true)
  | 46 => ("FamilyReducerModel", "flatAt", "[I", true)
  | 47 => ("FamilyReducerModel", "flatSize", "[I", true)
  | 48 => ("FamilyReducerModel", "flatNode", "[I", true)
  | 49 => ("FamilyReducerModel", "nodes", "I", false)
  | 50 => ("FamilyReducerModel", "bound", "I", false)
  | 51 => ("FamilyReducerModel", "flats", "I", false)
  | 52 => ("FamilyReducerModel", "readAt", "I", false)
  | 53 => ("FamilyReducerModel", "roots", "[I", true)
  | 54 => ("FamilyReducerModel", "meets", "[I", true)
  | 55 => ("FamilyReducerModel", "fit", "[Z", true)
  | 56 => ("FamilyReducerModel", "out", "[B", true)
  | 57 => ("FamilyReducerModel", "outMany", "I", false)
  | 58 => ("FamilyReducerModel", "hasOut", "Z", false)
  | 59 => ("FamilyReducerModel", "letterNode", "[I", true)
  | 60 => ("FamilyReducerModel", "letters", "I", false)
  | 61 => ("FamilyReducerModel", "partOne", "I", false)
  | 62 => ("FamilyReducerModel", "partTwo", "I", false)
  | 63 => ("FamilyReducerModel", "badKind", "I", false)
  | 64 => ("FamilyReducerModel", "badOne", "I", false)
  | 65 => ("FamilyReducerModel", "badTwo", "I", false)
  | 66 => ("FamilyReducerModel", "boundAt", "[I", true)
  | 67 => ("FamilyReducerModel", "boundSize", "[I", true)
  | 68 => ("FamilyReducerModel", "now", "[I", true)
  | 69 => ("FamilyReducerModel", "next", "[I", true)
  | 70 => ("FamilyReducerModel", "nowSize", "I", false)
  | 71 => ("FamilyReducerModel", "nextSize", "I", false)
  | 72 => ("FamilyReducerModel", "byGivens", "Z", false)
  | 73 => ("FamilyReducerModel", "foundAt", "I", false)
  | 74 => ("FamilyReducerModel", "isOver", "Z", false)
  | 75 => ("FamilyReducerModel", "past", "[I", true)
  | 76 => ("FamilyReducerModel", "pastSize", "[I", true)
  | 77 => ("FamilyReducerModel", "stepMany", "I", false)
  | 78 => ("FamilyReducerModel", "cameAt", "I", false)
  | 79 => ("FamilyReducerModel", "term", "[I", true)
  | 80 => ("FamilyReducerModel", "termName", "[J", true)
  | 81 => ("FamilyReducerModel", "termSize", "I", false)
  | 82 => ("FamilyReducerModel", "period", "I", false)
  | 83 => ("FamilyReducerModel", "firstWay", "[I", true)
  | 84 => ("FamilyReducerModel", "openLeft", "[I", true)
  | 85 => ("FamilyReducerModel", "givens", "I", false)
  | 86 => ("FamilyReducerModel", "wants", "I", false)
  | 87 => ("FamilyReducerModel", "isWanted", "Z", false)
  | 88 => ("FamilyReducerModel", "givenLeft", "[I", true)
  | 89 => ("FamilyReducerModel", "givenRight", "[I", true)
  | 90 => ("FamilyReducerModel", "givenLeftSize", "[I", true)
  | 91 => ("FamilyReducerModel", "givenRightSize", "[I", true)
  | 92 => ("FamilyReducerModel", "newLeft", "[I", true)
  | 93 => ("FamilyReducerModel", "newRight", "[I", true)
  | 94 => ("FamilyReducerModel", "newLeftSize", "[I", true)
  | 95 => ("FamilyReducerModel", "newRightSize", "[I", true)
  | 96 => ("FamilyReducerModel", "wantRow", "[I", true)
  | 97 => ("FamilyReducerModel", "wantSize", "[I", true)
  | 98 => ("FamilyReducerModel", "wantVar", "[J", true)
  | 99 => ("FamilyReducerModel", "wantUnk", "[J", true)
  | 100 => ("FamilyReducerModel", "newGivens", "I", false)
  | 101 => ("FamilyReducerModel", "unknowns", "I", false)
  | 102 => ("FamilyReducerModel", "list", "[I", true)
  | 103 => ("FamilyReducerModel", "listSize", "[I", true)
  | 104 => ("FamilyReducerModel", "cameOf", "[I", true)
  | 105 => ("FamilyReducerModel", "is", "[I", true)
  | 106 => ("FamilyReducerModel", "isSize", "[I", true)
  | 107 => ("FamilyReducerModel", "isGone", "[Z", true)
  | 108 => ("FamilyReducerModel", "listMany", "I", false)
  | 109 => ("FamilyReducerModel", "wrongBy", "I", false)
  | 110 => ("FamilyReducerModel", "wrongOf", "I", false)
  | 111 => ("FamilyReducerModel", "rounds", "I", false)
  | 112 => ("FamilyReducerModel", "one", "[I", true)
  | 113 => ("FamilyReducerModel", "two", "[I", true)
  | 114 => ("FamilyReducerModel", "oneSize", "I", false)
  | _ => ("FamilyReducerModel", "twoSize", "I", false)
def tyX11 : Nat → FieldType := fun k => match k with
  | 0 => .array .int
  | 1 => .int
  | 2 => .int
  | 3 => .int
  | 4 => .int
  | 5 => .int
  | 6 => .int
  | 7 => .int
  | 8 => .int
  | 9 => .int
  | 10 => .int
  | 11 => .int
  | 12 => .int
  | 13 => .long
  | 14 => .int
  | 15 => .int
  | 16 => .array .int
  | 17 => .array .int
  | 18 => .array .int
  | 19 => .array .long
  | 20 => .array .long
  | 21 => .array .int
  | 22 => .array .int
  | 23 => .array .boolean
  | 24 => .array .boolean
  | 25 => .array .int
  | 26 => .array .int
  | 27 => .array .int
  | 28 => .array .int
  | 29 => .array .int
  | 30 => .array .int
  | 31 => .int
  | 32 => .int
  | 33 => .int
  | 34 => .int
  | 35 => .array .long
  | 36 => .array .long
  | 37 => .int
  | 38 => .int
  | 39 => .array .int
  | 40 => .array .int
  | 41 => .array .int
  | 42 => .array .int
  | 43 => .array .int
  | 44 => .array .int
  | 45 => .array .int
  | 46 => .array .int
  | 47 => .array .int
  | 48 => .array .int
  | 49 => .int
  | 50 => .int
  | 51 => .int
  | 52 => .int
  | 53 => .array .int
  | 54 => .array .int
  | 55 => .array .boolean
  | 56 => .array .byte
  | 57 => .int
  | 58 => .boolean
  | 59 => .array .int
  | 60 => .int
  | 61 => .int
  | 62 => .int
  | 63 => .int
  | 64 => .int
  | 65 => .int
  | 66 => .array .int
  | 67 => .array .int
  | 68 => .array .int
  | 69 => .array .int
  | 70 => .int
  | 71 => .int
  | 72 => .boolean
  | 73 => .int
  | 74 => .boolean
  | 75 => .array .int
  | 76 => .array .int
  | 77 => .int
  | 78 => .int
  | 79 => .array .int
  | 80 => .array .long
  | 81 => .int
  | 82 => .int
  | 83 => .array .int
  | 84 => .array .int
  | 85 => .int
  | 86 => .int
  | 87 => .boolean
  | 88 => .array .int
  | 89 => .array .int
  | 90 => .array .int
  | 91 => .array .int
  | 92 => .array .int
  | 93 => .array .int
  | 94 => .array .int
  | 95 => .array .int
  | 96 => .array .int
  | 97 => .array .int
  | 98 => .array .long
  | 99 => .array .long
  | 100 => .int
  | 101 => .int
  | 102 => .array .int
  | 103 => .array .int
  | 104 => .array .int
  | 105 => .array .int
  | 106 => .array .int
  | 107 => .array .boolean
  | 108 => .int
  | 109 => .int
  | 110 => .int
  | 111 => .int
  | 112 => .array .int
  | 113 => .array .int
  | 114 => .int
  | _ => .int
abbrev wsX110 : List Cond := u_ws RX11 TX11 116
theorem nmX11 : ∀ a, a < 116 → ∀ b, b < 116 → a ≠ b → (TX11 a).2.1 ≠ (TX11 b).2.1 := by decide +kernel
theorem tyX11_ok : ∀ k, k < 116 → parseFieldDescriptor (TX11 k).2.2.1 = some (tyX11 k) := by decide +kernel
abbrev cX11_init : ByteArray := prog_13_method_1_code
def yX11_init : MethodName := ⟨RX11, "<init>", "()V"⟩
abbrev cX11_status : ByteArray := prog_13_method_2_code
def yX11_status : MethodName := ⟨RX11, "status", "()I"⟩
abbrev cX11_refuse : ByteArray := prog_13_method_3_code
def yX11_refuse : MethodName := ⟨RX11, "refuse", "(I)I"⟩
abbrev cX11_gives : ByteArray := prog_13_method_4_code
def yX11_gives : MethodName := ⟨RX11, "gives", "(I)I"⟩
abbrev cX11_isFrom : ByteArray := prog_13_method_5_code
def yX11_isFrom : MethodName := ⟨RX11, "isFrom", "(III)Z"⟩
abbrev cX11_come : ByteArray := prog_13_method_6_code
def yX11_come : MethodName := ⟨RX11, "come", "(I)V"⟩
abbrev cX11_feed : ByteArray := prog_13_method_7_code
def yX11_feed : MethodName := ⟨RX11, "feed", "(IIIII)I"⟩
abbrev cX11_byteAt : ByteArray := prog_13_method_8_code
def yX11_byteAt : MethodName := ⟨RX11, "byteAt", "(I)I"⟩
abbrev cX11_isSmall : ByteArray := prog_13_method_9_code
def yX11_isSmall : MethodName := ⟨RX11, "isSmall", "(I)Z"⟩
abbrev cX11_isGreat : ByteArray := prog_13_method_10_code
def yX11_isGreat : MethodName := ⟨RX11, "isGreat", "(I)Z"⟩
abbrev cX11_isDigit : ByteArray := prog_13_method_11_code
def yX11_isDigit : MethodName := ⟨RX11, "isDigit", "(I)Z"⟩
abbrev cX11_go : ByteArray := prog_13_method_12_code
def yX11_go : MethodName := ⟨RX11, "go", "()V"⟩
abbrev cX11_spelt : ByteArray := prog_13_method_13_code
def yX11_spelt : MethodName := ⟨RX11, "spelt", "(IIIIII)J"⟩
abbrev cX11_wordOf : ByteArray := prog_13_method_14_code
def yX11_wordOf : MethodName := ⟨RX11, "wordOf", "(I)J"⟩
abbrev cX11_isWord : ByteArray := prog_13_method_15_code
def yX11_isWord : MethodName := ⟨RX11, "isWord", "(I)Z"⟩
abbrev cX11_isVariable : ByteArray := prog_13_method_16_code
def yX11_isVariable : MethodName := ⟨RX11, "isVariable", "()Z"⟩
abbrev cX11_isSign : ByteArray := prog_13_method_17_code
def yX11_isSign : MethodName := ⟨RX11, "isSign", "(I)Z"⟩
abbrev cX11_bad : ByteArray := prog_13_method_18_code
def yX11_bad : MethodName := ⟨RX11, "bad", "(I)Z"⟩
abbrev cX11_eats : ByteArray := prog_13_method_19_code
def yX11_eats : MethodName := ⟨RX11, "eats", "(I)Z"⟩
abbrev cX11_findIn : ByteArray := prog_13_method_20_code
def yX11_findIn : MethodName := ⟨RX11, "findIn", "([JIJ)I"⟩
abbrev cX11_eqAt : ByteArray := prog_13_method_21_code
def yX11_eqAt : MethodName := ⟨RX11, "eqAt", "(I)I"⟩
abbrev cX11_conOf : ByteArray := prog_13_method_22_code
def yX11_conOf : MethodName := ⟨RX11, "conOf", "(J)I"⟩
abbrev cX11_famOf : ByteArray := prog_13_method_23_code
def yX11_famOf : MethodName := ⟨RX11, "famOf", "(J)I"⟩
abbrev cX11_isVar : ByteArray := prog_13_method_24_code
def yX11_isVar : MethodName := ⟨RX11, "isVar", "(I)Z"⟩
abbrev cX11_isFam : ByteArray := prog_13_method_25_code
def yX11_isFam : MethodName := ⟨RX11, "isFam", "(I)Z"⟩
abbrev cX11_isCon : ByteArray := prog_13_method_26_code
def yX11_isCon : MethodName := ⟨RX11, "isCon", "(I)Z"⟩
abbrev cX11_takes : ByteArray := prog_13_method_27_code
def yX11_takes : MethodName := ⟨RX11, "takes", "(I)I"⟩
abbrev cX11_puts : ByteArray := prog_13_method_28_code
def yX11_puts : MethodName := ⟨RX11, "puts", "(I)Z"⟩
abbrev cX11_mayEnd : ByteArray := prog_13_method_29_code
def yX11_mayEnd : MethodName := ⟨RX11, "mayEnd", "(IZ)Z"⟩
abbrev cX11_readVariable : ByteArray := prog_13_method_30_code
def yX11_readVariable : MethodName := ⟨RX11, "readVariable", "()Z"⟩
abbrev cX11_readUnknown : ByteArray := prog_13_method_31_code
def yX11_readUnknown : MethodName := ⟨RX11, "readUnknown", "()Z"⟩
abbrev cX11_readTerm : ByteArray := prog_13_method_32_code
def yX11_readTerm : MethodName := ⟨RX11, "readTerm", "(IZZ)Z"⟩
abbrev cX11_readArguments : ByteArray := prog_13_method_33_code
def yX11_readArguments : MethodName := ⟨RX11, "readArguments", "(IIZ)Z"⟩
abbrev cX11_readWhole : ByteArray := prog_13_method_34_code
def yX11_readWhole : MethodName := ⟨RX11, "readWhole", "(IIIZ[II)I"⟩
abbrev cX11_readTold : ByteArray := prog_13_method_35_code
def yX11_readTold : MethodName := ⟨RX11, "readTold", "(ZZ)Z"⟩
abbrev cX11_readEquation : ByteArray := prog_13_method_36_code
def yX11_readEquation : MethodName := ⟨RX11, "readEquation", "()Z"⟩
abbrev cX11_readLine : ByteArray := prog_13_method_37_code
def yX11_readLine : MethodName := ⟨RX11, "readLine", "()Z"⟩
abbrev cX11_begins : ByteArray := prog_13_method_38_code
def yX11_begins : MethodName := ⟨RX11, "begins", "(I)V"⟩
abbrev cX11_ends : ByteArray := prog_13_method_39_code
def yX11_ends : MethodName := ⟨RX11, "ends", "(Z)Z"⟩
abbrev cX11_load : ByteArray := prog_13_method_40_code
def yX11_load : MethodName := ⟨RX11, "load", "(I)I"⟩
abbrev cX11_fault : ByteArray := prog_13_method_41_code
def yX11_fault : MethodName := ⟨RX11, "fault", "(I)I"⟩
abbrev cX11_sizeAt : ByteArray := prog_13_method_42_code
def yX11_sizeAt : MethodName := ⟨RX11, "sizeAt", "([II)I"⟩
abbrev cX11_isSame : ByteArray := prog_13_method_43_code
def yX11_isSame : MethodName := ⟨RX11, "isSame", "([II[III)Z"⟩
abbrev cX11_clears : ByteArray := prog_13_method_44_code
def yX11_clears : MethodName := ⟨RX11, "clears", "()V"⟩
abbrev cX11_adds : ByteArray := prog_13_method_45_code
def yX11_adds : MethodName := ⟨RX11, "adds", "(I)I"⟩
abbrev cX11_variableNode : ByteArray := prog_13_method_46_code
def yX11_variableNode : MethodName := ⟨RX11, "variableNode", "(II)I"⟩
abbrev cX11_flatNodeAt : ByteArray := prog_13_method_47_code
def yX11_flatNodeAt : MethodName := ⟨RX11, "flatNodeAt", "([II)I"⟩
abbrev cX11_builds : ByteArray := prog_13_method_48_code
def yX11_builds : MethodName := ⟨RX11, "builds", "([IIZ)I"⟩
abbrev cX11_builtFrom : ByteArray := prog_13_method_49_code
def yX11_builtFrom : MethodName := ⟨RX11, "builtFrom", "([IIIZ)I"⟩
abbrev cX11_builtFlat : ByteArray := prog_13_method_50_code
def yX11_builtFlat : MethodName := ⟨RX11, "builtFlat", "([III)I"⟩
abbrev cX11_find : ByteArray := prog_13_method_51_code
def yX11_find : MethodName := ⟨RX11, "find", "(I)I"⟩
abbrev cX11_joins : ByteArray := prog_13_method_52_code
def yX11_joins : MethodName := ⟨RX11, "joins", "(II)Z"⟩
abbrev cX11_isRound : ByteArray := prog_13_method_53_code
def yX11_isRound : MethodName := ⟨RX11, "isRound", "(I)Z"⟩
abbrev cX11_hasCircle : ByteArray := prog_13_method_54_code
def yX11_hasCircle : MethodName := ⟨RX11, "hasCircle", "(I)Z"⟩
abbrev cX11_areSame : ByteArray := prog_13_method_55_code
def yX11_areSame : MethodName := ⟨RX11, "areSame", "(II)Z"⟩
abbrev cX11_leftNode : ByteArray := prog_13_method_56_code
def yX11_leftNode : MethodName := ⟨RX11, "leftNode", "(II)I"⟩
abbrev cX11_rightNode : ByteArray := prog_13_method_57_code
def yX11_rightNode : MethodName := ⟨RX11, "rightNode", "(IIZ)I"⟩
abbrev cX11_meeting : ByteArray := prog_13_method_58_code
def yX11_meeting : MethodName := ⟨RX11, "meeting", "(II)I"⟩
abbrev cX11_familyOf : ByteArray := prog_13_method_59_code
def yX11_familyOf : MethodName := ⟨RX11, "familyOf", "(I)I"⟩
abbrev cX11_laysCompatible : ByteArray := prog_13_method_60_code
def yX11_laysCompatible : MethodName := ⟨RX11, "laysCompatible", "()V"⟩
abbrev cX11_isEquation : ByteArray := prog_13_method_61_code
def yX11_isEquation : MethodName := ⟨RX11, "isEquation", "(I)Z"⟩
abbrev cX11_isFamily : ByteArray := prog_13_method_62_code
def yX11_isFamily : MethodName := ⟨RX11, "isFamily", "(I)Z"⟩
abbrev cX11_meets : ByteArray := prog_13_method_63_code
def yX11_meets : MethodName := ⟨RX11, "meets", "(II)I"⟩
abbrev cX11_compatible : ByteArray := prog_13_method_64_code
def yX11_compatible : MethodName := ⟨RX11, "compatible", "(II)I"⟩
abbrev cX11_tells : ByteArray := prog_13_method_65_code
def yX11_tells : MethodName := ⟨RX11, "tells", "(J)V"⟩
abbrev cX11_tellsByte : ByteArray := prog_13_method_66_code
def yX11_tellsByte : MethodName := ⟨RX11, "tellsByte", "(I)V"⟩
abbrev cX11_nameOf : ByteArray := prog_13_method_67_code
def yX11_nameOf : MethodName := ⟨RX11, "nameOf", "(I)J"⟩
abbrev cX11_letterOf : ByteArray := prog_13_method_68_code
def yX11_letterOf : MethodName := ⟨RX11, "letterOf", "(I)I"⟩
abbrev cX11_lettersIn : ByteArray := prog_13_method_69_code
def yX11_lettersIn : MethodName := ⟨RX11, "lettersIn", "(I)V"⟩
abbrev cX11_tellsNode : ByteArray := prog_13_method_70_code
def yX11_tellsNode : MethodName := ⟨RX11, "tellsNode", "(I)V"⟩
abbrev cX11_ends_ : ByteArray := prog_13_method_71_code
def yX11_ends_ : MethodName := ⟨RX11, "ends", "(III)I"⟩
abbrev cX11_out : ByteArray := prog_13_method_72_code
def yX11_out : MethodName := ⟨RX11, "out", "(I)I"⟩
abbrev cX11_many : ByteArray := prog_13_method_73_code
def yX11_many : MethodName := ⟨RX11, "many", "(I)I"⟩
abbrev cX11_onRight : ByteArray := prog_13_method_74_code
def yX11_onRight : MethodName := ⟨RX11, "onRight", "(I)I"⟩
abbrev cX11_onRightAgain : ByteArray := prog_13_method_75_code
def yX11_onRightAgain : MethodName := ⟨RX11, "onRightAgain", "(I)I"⟩
abbrev cX11_equationsOf : ByteArray := prog_13_method_76_code
def yX11_equationsOf : MethodName := ⟨RX11, "equationsOf", "(I)I"⟩
abbrev cX11_isParted : ByteArray := prog_13_method_77_code
def yX11_isParted : MethodName := ⟨RX11, "isParted", "(I)Z"⟩
abbrev cX11_family : ByteArray := prog_13_method_78_code
def yX11_family : MethodName := ⟨RX11, "family", "(II)I"⟩
abbrev cX11_parts : ByteArray := prog_13_method_79_code
def yX11_parts : MethodName := ⟨RX11, "parts", "(II)I"⟩
abbrev cX11_standsOut : ByteArray := prog_13_method_80_code
def yX11_standsOut : MethodName := ⟨RX11, "standsOut", "(II)Z"⟩
abbrev cX11_badAlone : ByteArray := prog_13_method_81_code
def yX11_badAlone : MethodName := ⟨RX11, "badAlone", "(I)I"⟩
abbrev cX11_areBad : ByteArray := prog_13_method_82_code
def yX11_areBad : MethodName := ⟨RX11, "areBad", "(II)Z"⟩
abbrev cX11_isBad : ByteArray := prog_13_method_83_code
def yX11_isBad : MethodName := ⟨RX11, "isBad", "(I)Z"⟩
abbrev cX11_canBack : ByteArray := prog_13_method_84_code
def yX11_canBack : MethodName := ⟨RX11, "canBack", "(I)Z"⟩
abbrev cX11_bad_ : ByteArray := prog_13_method_85_code
def yX11_bad_ : MethodName := ⟨RX11, "bad", "(II)I"⟩
abbrev cX11_often : ByteArray := prog_13_method_86_code
def yX11_often : MethodName := ⟨RX11, "often", "([IIII)I"⟩
abbrev cX11_unboundBy : ByteArray := prog_13_method_87_code
def yX11_unboundBy : MethodName := ⟨RX11, "unboundBy", "(II)I"⟩
abbrev cX11_unbound : ByteArray := prog_13_method_88_code
def yX11_unbound : MethodName := ⟨RX11, "unbound", "(I)I"⟩
abbrev cX11_equation : ByteArray := prog_13_method_89_code
def yX11_equation : MethodName := ⟨RX11, "equation", "(II)I"⟩
abbrev cX11_fits : ByteArray := prog_13_method_90_code
def yX11_fits : MethodName := ⟨RX11, "fits", "(I[II)Z"⟩
abbrev cX11_isApart : ByteArray := prog_13_method_91_code
def yX11_isApart : MethodName := ⟨RX11, "isApart", "(I[II)Z"⟩
abbrev cX11_mayStill : ByteArray := prog_13_method_92_code
def yX11_mayStill : MethodName := ⟨RX11, "mayStill", "(I[II)I"⟩
abbrev cX11_whyNot : ByteArray := prog_13_method_93_code
def yX11_whyNot : MethodName := ⟨RX11, "whyNot", "(I[II)I"⟩
abbrev cX11_firing : ByteArray := prog_13_method_94_code
def yX11_firing : MethodName := ⟨RX11, "firing", "([II)I"⟩
abbrev cX11_doneAt : ByteArray := prog_13_method_95_code
def yX11_doneAt : MethodName := ⟨RX11, "doneAt", "(I)I"⟩
abbrev cX11_firstWithin : ByteArray := prog_13_method_96_code
def yX11_firstWithin : MethodName := ⟨RX11, "firstWithin", "(I)I"⟩
abbrev cX11_firstWithout : ByteArray := prog_13_method_97_code
def yX11_firstWithout : MethodName := ⟨RX11, "firstWithout", "()I"⟩
abbrev cX11_follows : ByteArray := prog_13_method_98_code
def yX11_follows : MethodName := ⟨RX11, "follows", "([III)V"⟩
abbrev cX11_makes : ByteArray := prog_13_method_99_code
def yX11_makes : MethodName := ⟨RX11, "makes", "(I)Z"⟩
abbrev cX11_becomesNext : ByteArray := prog_13_method_100_code
def yX11_becomesNext : MethodName := ⟨RX11, "becomesNext", "()V"⟩
abbrev cX11_steps : ByteArray := prog_13_method_101_code
def yX11_steps : MethodName := ⟨RX11, "steps", "(I)I"⟩
abbrev cX11_keepsPast : ByteArray := prog_13_method_102_code
def yX11_keepsPast : MethodName := ⟨RX11, "keepsPast", "(I)V"⟩
abbrev cX11_reduces : ByteArray := prog_13_method_103_code
def yX11_reduces : MethodName := ⟨RX11, "reduces", "(I)I"⟩
abbrev cX11_term : ByteArray := prog_13_method_104_code
def yX11_term : MethodName := ⟨RX11, "term", "(I)I"⟩
abbrev cX11_laysTerm : ByteArray := prog_13_method_105_code
def yX11_laysTerm : MethodName := ⟨RX11, "laysTerm", "()V"⟩
abbrev cX11_keepsTerm : ByteArray := prog_13_method_106_code
def yX11_keepsTerm : MethodName := ⟨RX11, "keepsTerm", "()V"⟩
abbrev cX11_deepOf : ByteArray := prog_13_method_107_code
def yX11_deepOf : MethodName := ⟨RX11, "deepOf", "(I)I"⟩
abbrev cX11_now : ByteArray := prog_13_method_108_code
def yX11_now : MethodName := ⟨RX11, "now", "(I)I"⟩
abbrev cX11_isNode : ByteArray := prog_13_method_109_code
def yX11_isNode : MethodName := ⟨RX11, "isNode", "(I)Z"⟩
abbrev cX11_node : ByteArray := prog_13_method_110_code
def yX11_node : MethodName := ⟨RX11, "node", "(II)I"⟩
abbrev cX11_why : ByteArray := prog_13_method_111_code
def yX11_why : MethodName := ⟨RX11, "why", "(II)I"⟩
abbrev cX11_still : ByteArray := prog_13_method_112_code
def yX11_still : MethodName := ⟨RX11, "still", "(II)I"⟩
abbrev cX11_step : ByteArray := prog_13_method_113_code
def yX11_step : MethodName := ⟨RX11, "step", "(I)I"⟩
abbrev cX11_reduce : ByteArray := prog_13_method_114_code
def yX11_reduce : MethodName := ⟨RX11, "reduce", "(I)I"⟩
abbrev cX11_would : ByteArray := prog_13_method_115_code
def yX11_would : MethodName := ⟨RX11, "would", "(II)I"⟩
abbrev cX11_period : ByteArray := prog_13_method_116_code
def yX11_period : MethodName := ⟨RX11, "period", "()I"⟩
abbrev cX11_tellsRow : ByteArray := prog_13_method_117_code
def yX11_tellsRow : MethodName := ⟨RX11, "tellsRow", "([II[J)V"⟩
abbrev cX11_print : ByteArray := prog_13_method_118_code
def yX11_print : MethodName := ⟨RX11, "print", "()I"⟩
abbrev cX11_readWanted : ByteArray := prog_13_method_119_code
def yX11_readWanted : MethodName := ⟨RX11, "readWanted", "()Z"⟩
abbrev cX11_want : ByteArray := prog_13_method_120_code
def yX11_want : MethodName := ⟨RX11, "want", "(I)I"⟩
abbrev cX11_takesWanted : ByteArray := prog_13_method_121_code
def yX11_takesWanted : MethodName := ⟨RX11, "takesWanted", "()V"⟩
abbrev cX11_expands : ByteArray := prog_13_method_122_code
def yX11_expands : MethodName := ⟨RX11, "expands", "([III)Z"⟩
abbrev cX11_comes : ByteArray := prog_13_method_123_code
def yX11_comes : MethodName := ⟨RX11, "comes", "([III)Z"⟩
abbrev cX11_reducesSide : ByteArray := prog_13_method_124_code
def yX11_reducesSide : MethodName := ⟨RX11, "reducesSide", "(II)Z"⟩
abbrev cX11_hasCode : ByteArray := prog_13_method_125_code
def yX11_hasCode : MethodName := ⟨RX11, "hasCode", "([III)Z"⟩
abbrev cX11_hasOutside : ByteArray := prog_13_method_126_code
def yX11_hasOutside : MethodName := ⟨RX11, "hasOutside", "([III)Z"⟩
abbrev cX11_unknownBy : ByteArray := prog_13_method_127_code
def yX11_unknownBy : MethodName := ⟨RX11, "unknownBy", "(I[II)I"⟩
abbrev cX11_isUnknown : ByteArray := prog_13_method_128_code
def yX11_isUnknown : MethodName := ⟨RX11, "isUnknown", "([I)Z"⟩
abbrev cX11_splits : ByteArray := prog_13_method_129_code
def yX11_splits : MethodName := ⟨RX11, "splits", "(I)I"⟩
abbrev cX11_putsSide : ByteArray := prog_13_method_130_code
def yX11_putsSide : MethodName := ⟨RX11, "putsSide", "(II[III)V"⟩
abbrev cX11_asks : ByteArray := prog_13_method_131_code
def yX11_asks : MethodName := ⟨RX11, "asks", "(I)I"⟩
abbrev cX11_solves : ByteArray := prog_13_method_132_code
def yX11_solves : MethodName := ⟨RX11, "solves", "()V"⟩
abbrev cX11_length : ByteArray := prog_13_method_133_code
def yX11_length : MethodName := ⟨RX11, "length", "()I"⟩
abbrev cX11_round : ByteArray := prog_13_method_134_code
def yX11_round : MethodName := ⟨RX11, "round", "()Z"⟩
abbrev cX11_closesUp : ByteArray := prog_13_method_135_code
def yX11_closesUp : MethodName := ⟨RX11, "closesUp", "()V"⟩
abbrev cX11_known : ByteArray := prog_13_method_136_code
def yX11_known : MethodName := ⟨RX11, "known", "()I"⟩
abbrev cX11_wanted : ByteArray := prog_13_method_137_code
def yX11_wanted : MethodName := ⟨RX11, "wanted", "(I)I"⟩
abbrev cX11_unknown : ByteArray := prog_13_method_138_code
def yX11_unknown : MethodName := ⟨RX11, "unknown", "(I)I"⟩
def RJ9 : String := "java/lang/Math"
def TJ9 : u_T := fun k => match k with
  | _ => ("", "", "", false)
def tyJ9 : Nat → FieldType := fun k => match k with
  | _ => .int
abbrev wsJ90 : List Cond := u_ws RJ9 TJ9 0
theorem nmJ9 : ∀ a, a < 0 → ∀ b, b < 0 → a ≠ b → (TJ9 a).2.1 ≠ (TJ9 b).2.1 := by decide +kernel
theorem tyJ9_ok : ∀ k, k < 0 → parseFieldDescriptor (TJ9 k).2.2.1 = some (tyJ9 k) := by decide +kernel
abbrev cJ9_max_7cf53 : ByteArray := prog_14_method_65_code
def yJ9_max_7cf53 : MethodName := ⟨RJ9, "max", "(II)I"⟩
abbrev cJ9_min_7cf53 : ByteArray := prog_14_method_69_code
def yJ9_min_7cf53 : MethodName := ⟨RJ9, "min", "(II)I"⟩
def RJ10 : String := "java/lang/System"
def TJ10 : u_T := fun k => match k with
  | _ => ("", "", "", false)
def tyJ10 : Nat → FieldType := fun k => match k with
  | _ => .int
abbrev wsJ100 : List Cond := u_ws RJ10 TJ10 0
theorem nmJ10 : ∀ a, a < 0 → ∀ b, b < 0 → a ≠ b → (TJ10 a).2.1 ≠ (TJ10 b).2.1 := by decide +kernel
theorem tyJ10_ok : ∀ k, k < 0 → parseFieldDescriptor (TJ10 k).2.2.1 = some (tyJ10 k) := by decide +kernel
def RL : String := "FamilyReducerLaw"
abbrev cL_law : ByteArray := code
def yL_law : MethodName := ⟨RL, "law", "([I)Z"⟩
def wsJ9_max_7cf53 : List Cond := .code yJ9_max_7cf53 cJ9_max_7cf53 2 (some .int) :: ([])
def wsJ9_min_7cf53 : List Cond := .code yJ9_min_7cf53 cJ9_min_7cf53 2 (some .int) :: ([])
theorem inJ9 : ∀ w ∈ wsJ90, w ∈ lw_tbl := by decide +kernel
theorem inJ10 : ∀ w ∈ wsJ100, w ∈ lw_tbl := by decide +kernel
theorem dJ9_max_7cf53_0 : decode cJ9_max_7cf53 0 = .ok (.iload_n 0, 1) := by decide +kernel
theorem dJ9_max_7cf53_1 : decode cJ9_max_7cf53 1 = .ok (.iload_n 1, 1) := by decide +kernel
theorem dJ9_max_7cf53_2 : decode cJ9_max_7cf53 2 = .ok (.if_icmp .lt 7, 3) := by decide +kernel
theorem dJ9_max_7cf53_5 : decode cJ9_max_7cf53 5 = .ok (.iload_n 0, 1) := by decide +kernel
theorem dJ9_max_7cf53_6 : decode cJ9_max_7cf53 6 = .ok (.goto 4, 3) := by decide +kernel
theorem dJ9_max_7cf53_9 : decode cJ9_max_7cf53 9 = .ok (.iload_n 1, 1) := by decide +kernel
theorem dJ9_max_7cf53_10 : decode cJ9_max_7cf53 10 = .ok (.ireturn, 1) := by decide +kernel
theorem dJ9_min_7cf53_0 : decode cJ9_min_7cf53 0 = .ok (.iload_n 0, 1) := by decide +kernel
theorem dJ9_min_7cf53_1 : decode cJ9_min_7cf53 1 = .ok (.iload_n 1, 1) := by decide +kernel
theorem dJ9_min_7cf53_2 : decode cJ9_min_7cf53 2 = .ok (.if_icmp .gt 7, 3) := by decide +kernel
theorem dJ9_min_7cf53_5 : decode cJ9_min_7cf53 5 = .ok (.iload_n 0, 1) := by decide +kernel
theorem dJ9_min_7cf53_6 : decode cJ9_min_7cf53 6 = .ok (.goto 4, 3) := by decide +kernel
theorem dJ9_min_7cf53_9 : decode cJ9_min_7cf53 9 = .ok (.iload_n 1, 1) := by decide +kernel
theorem dJ9_min_7cf53_10 : decode cJ9_min_7cf53 10 = .ok (.ireturn, 1) := by decide +kernel
abbrev vwCl : List vw_C := [(RX0, TX0, 11), (RX1, TX1, 2), (RX2, TX2, 4), (RX3, TX3, 3), (RX4, TX4, 15), (RX5, TX5, 16), (RX6, TX6, 8), (RX7, TX7, 2), (RX8, TX8, 16), (RX9, TX9, 17), (RX10, TX10, 18), (RX11, TX11, 116)]
