section
-- ===== PART A: goes FIRST, ahead of the names: the tables' words, and 'selects' of the private methods out of them =====
/-- a private method of a class that the tables say can be made, by its rows of tables_1 -/
def lw_okq (q : MethodName × Nat) : Prop := (q.1.cls ≠ "java/lang/invoke/MethodHandle" ∧ q.1.cls ≠ "java/lang/invoke/VarHandle") ∧ Cond.instantiable q.1.cls q.2 ∈ tables_1 ∧ Cond.privateMethod q.1 ∈ tables_1 ∧ Cond.instanceMethod q.1 ∈ tables_1
theorem lw_p0 : lw_okq (⟨"TypesInside$Counts", "writeByOnes", "([JIII)V"⟩, 5) := ⟨⟨by decide +kernel, by decide +kernel⟩, List.mem_of_getElem? (i := 27) (by decide +kernel), List.mem_of_getElem? (i := 316) (by decide +kernel), List.mem_of_getElem? (i := 317) (by decide +kernel)⟩
theorem lw_p1 : lw_okq (⟨"TypesInside$Counts", "writeAllSubgroups", "([JI)V"⟩, 5) := ⟨⟨by decide +kernel, by decide +kernel⟩, List.mem_of_getElem? (i := 27) (by decide +kernel), List.mem_of_getElem? (i := 336) (by decide +kernel), List.mem_of_getElem? (i := 337) (by decide +kernel)⟩
theorem lw_p2 : lw_okq (⟨"TypesInside$Counts", "writeChains", "([JI)V"⟩, 5) := ⟨⟨by decide +kernel, by decide +kernel⟩, List.mem_of_getElem? (i := 27) (by decide +kernel), List.mem_of_getElem? (i := 347) (by decide +kernel), List.mem_of_getElem? (i := 348) (by decide +kernel)⟩
theorem lw_p3 : lw_okq (⟨"TypesInside$Counts", "learnChains", "()V"⟩, 5) := ⟨⟨by decide +kernel, by decide +kernel⟩, List.mem_of_getElem? (i := 27) (by decide +kernel), List.mem_of_getElem? (i := 351) (by decide +kernel), List.mem_of_getElem? (i := 352) (by decide +kernel)⟩
theorem lw_p4 : lw_okq (⟨"TypesInside$Group", "learnFigures", "()V"⟩, 13) := ⟨⟨by decide +kernel, by decide +kernel⟩, List.mem_of_getElem? (i := 55) (by decide +kernel), List.mem_of_getElem? (i := 382) (by decide +kernel), List.mem_of_getElem? (i := 383) (by decide +kernel)⟩
theorem lw_p5 : lw_okq (⟨"TypesInside$Group", "learnSums", "()V"⟩, 13) := ⟨⟨by decide +kernel, by decide +kernel⟩, List.mem_of_getElem? (i := 55) (by decide +kernel), List.mem_of_getElem? (i := 389) (by decide +kernel), List.mem_of_getElem? (i := 390) (by decide +kernel)⟩
theorem lw_p6 : lw_okq (⟨"TypesInside$Group", "topFigure", "(I)I"⟩, 13) := ⟨⟨by decide +kernel, by decide +kernel⟩, List.mem_of_getElem? (i := 55) (by decide +kernel), List.mem_of_getElem? (i := 393) (by decide +kernel), List.mem_of_getElem? (i := 394) (by decide +kernel)⟩
theorem lw_p7 : lw_okq (⟨"TypesInside$Group", "stepped", "(II)I"⟩, 13) := ⟨⟨by decide +kernel, by decide +kernel⟩, List.mem_of_getElem? (i := 55) (by decide +kernel), List.mem_of_getElem? (i := 400) (by decide +kernel), List.mem_of_getElem? (i := 401) (by decide +kernel)⟩
theorem lw_p8 : lw_okq (⟨"TypesInside$Group", "everything", "()J"⟩, 13) := ⟨⟨by decide +kernel, by decide +kernel⟩, List.mem_of_getElem? (i := 55) (by decide +kernel), List.mem_of_getElem? (i := 462) (by decide +kernel), List.mem_of_getElem? (i := 463) (by decide +kernel)⟩
theorem lw_p9 : lw_okq (⟨"TypesInside$Group", "joined", "(JI)J"⟩, 13) := ⟨⟨by decide +kernel, by decide +kernel⟩, List.mem_of_getElem? (i := 55) (by decide +kernel), List.mem_of_getElem? (i := 474) (by decide +kernel), List.mem_of_getElem? (i := 475) (by decide +kernel)⟩
theorem lw_p10 : lw_okq (⟨"TypesInside$Group", "shifted", "(JI)J"⟩, 13) := ⟨⟨by decide +kernel, by decide +kernel⟩, List.mem_of_getElem? (i := 55) (by decide +kernel), List.mem_of_getElem? (i := 478) (by decide +kernel), List.mem_of_getElem? (i := 479) (by decide +kernel)⟩
theorem lw_p11 : lw_okq (⟨"TypesInside$Group", "typeBetween", "(JJ)I"⟩, 13) := ⟨⟨by decide +kernel, by decide +kernel⟩, List.mem_of_getElem? (i := 55) (by decide +kernel), List.mem_of_getElem? (i := 505) (by decide +kernel), List.mem_of_getElem? (i := 506) (by decide +kernel)⟩
theorem lw_p12 : lw_okq (⟨"TypesInside$Group", "broughtInto", "(J)J"⟩, 13) := ⟨⟨by decide +kernel, by decide +kernel⟩, List.mem_of_getElem? (i := 55) (by decide +kernel), List.mem_of_getElem? (i := 510) (by decide +kernel), List.mem_of_getElem? (i := 511) (by decide +kernel)⟩
theorem lw_p13 : lw_okq (⟨"TypesInside$Group", "exponent", "(I)I"⟩, 13) := ⟨⟨by decide +kernel, by decide +kernel⟩, List.mem_of_getElem? (i := 55) (by decide +kernel), List.mem_of_getElem? (i := 514) (by decide +kernel), List.mem_of_getElem? (i := 515) (by decide +kernel)⟩
theorem lw_p14 : lw_okq (⟨"TypesInside$Group", "learnList", "()V"⟩, 13) := ⟨⟨by decide +kernel, by decide +kernel⟩, List.mem_of_getElem? (i := 55) (by decide +kernel), List.mem_of_getElem? (i := 532) (by decide +kernel), List.mem_of_getElem? (i := 533) (by decide +kernel)⟩
theorem lw_p15 : lw_okq (⟨"TypesInside$Group", "listAbove", "(JI)V"⟩, 13) := ⟨⟨by decide +kernel, by decide +kernel⟩, List.mem_of_getElem? (i := 55) (by decide +kernel), List.mem_of_getElem? (i := 536) (by decide +kernel), List.mem_of_getElem? (i := 537) (by decide +kernel)⟩
def lw_privs_1 : List (MethodName × Nat) := [(⟨"TypesInside$Counts", "writeByOnes", "([JIII)V"⟩, 5), (⟨"TypesInside$Counts", "writeAllSubgroups", "([JI)V"⟩, 5), (⟨"TypesInside$Counts", "writeChains", "([JI)V"⟩, 5), (⟨"TypesInside$Counts", "learnChains", "()V"⟩, 5), (⟨"TypesInside$Group", "learnFigures", "()V"⟩, 13), (⟨"TypesInside$Group", "learnSums", "()V"⟩, 13), (⟨"TypesInside$Group", "topFigure", "(I)I"⟩, 13), (⟨"TypesInside$Group", "stepped", "(II)I"⟩, 13), (⟨"TypesInside$Group", "everything", "()J"⟩, 13), (⟨"TypesInside$Group", "joined", "(JI)J"⟩, 13), (⟨"TypesInside$Group", "shifted", "(JI)J"⟩, 13), (⟨"TypesInside$Group", "typeBetween", "(JJ)I"⟩, 13), (⟨"TypesInside$Group", "broughtInto", "(J)J"⟩, 13), (⟨"TypesInside$Group", "exponent", "(I)I"⟩, 13), (⟨"TypesInside$Group", "learnList", "()V"⟩, 13), (⟨"TypesInside$Group", "listAbove", "(JI)V"⟩, 13)]
theorem lw_r1 : ∀ q ∈ lw_privs_1, lw_okq q := List.forall_mem_cons.mpr ⟨lw_p0, List.forall_mem_cons.mpr ⟨lw_p1, List.forall_mem_cons.mpr ⟨lw_p2, List.forall_mem_cons.mpr ⟨lw_p3, List.forall_mem_cons.mpr ⟨lw_p4, List.forall_mem_cons.mpr ⟨lw_p5, List.forall_mem_cons.mpr ⟨lw_p6, List.forall_mem_cons.mpr ⟨lw_p7, List.forall_mem_cons.mpr ⟨lw_p8, List.forall_mem_cons.mpr ⟨lw_p9, List.forall_mem_cons.mpr ⟨lw_p10, List.forall_mem_cons.mpr ⟨lw_p11, List.forall_mem_cons.mpr ⟨lw_p12, List.forall_mem_cons.mpr ⟨lw_p13, List.forall_mem_cons.mpr ⟨lw_p14, List.forall_mem_cons.mpr ⟨lw_p15, fun _ h => absurd h List.not_mem_nil⟩⟩⟩⟩⟩⟩⟩⟩⟩⟩⟩⟩⟩⟩⟩⟩
theorem lw_p16 : lw_okq (⟨"TypesInside$Group", "insert", "(JI)V"⟩, 13) := ⟨⟨by decide +kernel, by decide +kernel⟩, List.mem_of_getElem? (i := 55) (by decide +kernel), List.mem_of_getElem? (i := 540) (by decide +kernel), List.mem_of_getElem? (i := 541) (by decide +kernel)⟩
theorem lw_p17 : lw_okq (⟨"TypesInside$Group", "learnTypes", "()V"⟩, 13) := ⟨⟨by decide +kernel, by decide +kernel⟩, List.mem_of_getElem? (i := 55) (by decide +kernel), List.mem_of_getElem? (i := 548) (by decide +kernel), List.mem_of_getElem? (i := 549) (by decide +kernel)⟩
theorem lw_p18 : lw_okq (⟨"TypesInside", "shareOf", "(I)F"⟩, 12) := ⟨⟨by decide +kernel, by decide +kernel⟩, List.mem_of_getElem? (i := 19) (by decide +kernel), List.mem_of_getElem? (i := 569) (by decide +kernel), List.mem_of_getElem? (i := 570) (by decide +kernel)⟩
theorem lw_p19 : lw_okq (⟨"TypesInside", "weightOf", "(III)D"⟩, 12) := ⟨⟨by decide +kernel, by decide +kernel⟩, List.mem_of_getElem? (i := 19) (by decide +kernel), List.mem_of_getElem? (i := 594) (by decide +kernel), List.mem_of_getElem? (i := 595) (by decide +kernel)⟩
theorem lw_p20 : lw_okq (⟨"TypesInside$Sums", "signAt", "(I)I"⟩, 9) := ⟨⟨by decide +kernel, by decide +kernel⟩, List.mem_of_getElem? (i := 102) (by decide +kernel), List.mem_of_getElem? (i := 632) (by decide +kernel), List.mem_of_getElem? (i := 633) (by decide +kernel)⟩
theorem lw_p21 : lw_okq (⟨"TypesInside$Sums", "typeBehind", "(I)I"⟩, 9) := ⟨⟨by decide +kernel, by decide +kernel⟩, List.mem_of_getElem? (i := 102) (by decide +kernel), List.mem_of_getElem? (i := 646) (by decide +kernel), List.mem_of_getElem? (i := 647) (by decide +kernel)⟩
theorem lw_p22 : lw_okq (⟨"TypesInside$Sums", "startLevel", "(I)V"⟩, 9) := ⟨⟨by decide +kernel, by decide +kernel⟩, List.mem_of_getElem? (i := 102) (by decide +kernel), List.mem_of_getElem? (i := 655) (by decide +kernel), List.mem_of_getElem? (i := 656) (by decide +kernel)⟩
theorem lw_p23 : lw_okq (⟨"TypesInside$Sums", "endProduct", "(I)V"⟩, 9) := ⟨⟨by decide +kernel, by decide +kernel⟩, List.mem_of_getElem? (i := 102) (by decide +kernel), List.mem_of_getElem? (i := 665) (by decide +kernel), List.mem_of_getElem? (i := 666) (by decide +kernel)⟩
theorem lw_p24 : lw_okq (⟨"TypesInside$Sums", "endsOne", "(I)Z"⟩, 9) := ⟨⟨by decide +kernel, by decide +kernel⟩, List.mem_of_getElem? (i := 102) (by decide +kernel), List.mem_of_getElem? (i := 679) (by decide +kernel), List.mem_of_getElem? (i := 680) (by decide +kernel)⟩
theorem lw_p25 : lw_okq (⟨"TypesInside$Sums", "inBrackets", "(I)Z"⟩, 9) := ⟨⟨by decide +kernel, by decide +kernel⟩, List.mem_of_getElem? (i := 102) (by decide +kernel), List.mem_of_getElem? (i := 683) (by decide +kernel), List.mem_of_getElem? (i := 684) (by decide +kernel)⟩
theorem lw_p26 : lw_okq (⟨"TypesInside$Sums", "writeOne", "(II)I"⟩, 9) := ⟨⟨by decide +kernel, by decide +kernel⟩, List.mem_of_getElem? (i := 102) (by decide +kernel), List.mem_of_getElem? (i := 687) (by decide +kernel), List.mem_of_getElem? (i := 688) (by decide +kernel)⟩
theorem lw_p27 : lw_okq (⟨"TypesInside$Sums", "isTooGreat", "(I)Z"⟩, 9) := ⟨⟨by decide +kernel, by decide +kernel⟩, List.mem_of_getElem? (i := 102) (by decide +kernel), List.mem_of_getElem? (i := 702) (by decide +kernel), List.mem_of_getElem? (i := 703) (by decide +kernel)⟩
theorem lw_p28 : lw_okq (⟨"TypesInside$Sums", "takeOne", "(ILTypesInside$Counts;)V"⟩, 9) := ⟨⟨by decide +kernel, by decide +kernel⟩, List.mem_of_getElem? (i := 102) (by decide +kernel), List.mem_of_getElem? (i := 716) (by decide +kernel), List.mem_of_getElem? (i := 717) (by decide +kernel)⟩
theorem lw_p29 : lw_okq (⟨"TypesInside$Sums", "addProduct", "(LTypesInside$Mix;IILTypesInside$Counts;)V"⟩, 9) := ⟨⟨by decide +kernel, by decide +kernel⟩, List.mem_of_getElem? (i := 102) (by decide +kernel), List.mem_of_getElem? (i := 721) (by decide +kernel), List.mem_of_getElem? (i := 722) (by decide +kernel)⟩
theorem lw_p30 : lw_okq (⟨"TypesInside", "shelfAt", "(I)LTypesInside$Shelf;"⟩, 12) := ⟨⟨by decide +kernel, by decide +kernel⟩, List.mem_of_getElem? (i := 19) (by decide +kernel), List.mem_of_getElem? (i := 761) (by decide +kernel), List.mem_of_getElem? (i := 762) (by decide +kernel)⟩
theorem lw_p31 : lw_okq (⟨"TypesInside", "shelvesHeld", "()I"⟩, 12) := ⟨⟨by decide +kernel, by decide +kernel⟩, List.mem_of_getElem? (i := 19) (by decide +kernel), List.mem_of_getElem? (i := 845) (by decide +kernel), List.mem_of_getElem? (i := 846) (by decide +kernel)⟩
def lw_privs_2 : List (MethodName × Nat) := [(⟨"TypesInside$Group", "insert", "(JI)V"⟩, 13), (⟨"TypesInside$Group", "learnTypes", "()V"⟩, 13), (⟨"TypesInside", "shareOf", "(I)F"⟩, 12), (⟨"TypesInside", "weightOf", "(III)D"⟩, 12), (⟨"TypesInside$Sums", "signAt", "(I)I"⟩, 9), (⟨"TypesInside$Sums", "typeBehind", "(I)I"⟩, 9), (⟨"TypesInside$Sums", "startLevel", "(I)V"⟩, 9), (⟨"TypesInside$Sums", "endProduct", "(I)V"⟩, 9), (⟨"TypesInside$Sums", "endsOne", "(I)Z"⟩, 9), (⟨"TypesInside$Sums", "inBrackets", "(I)Z"⟩, 9), (⟨"TypesInside$Sums", "writeOne", "(II)I"⟩, 9), (⟨"TypesInside$Sums", "isTooGreat", "(I)Z"⟩, 9), (⟨"TypesInside$Sums", "takeOne", "(ILTypesInside$Counts;)V"⟩, 9), (⟨"TypesInside$Sums", "addProduct", "(LTypesInside$Mix;IILTypesInside$Counts;)V"⟩, 9), (⟨"TypesInside", "shelfAt", "(I)LTypesInside$Shelf;"⟩, 12), (⟨"TypesInside", "shelvesHeld", "()I"⟩, 12)]
theorem lw_r2 : ∀ q ∈ lw_privs_2, lw_okq q := List.forall_mem_cons.mpr ⟨lw_p16, List.forall_mem_cons.mpr ⟨lw_p17, List.forall_mem_cons.mpr ⟨lw_p18, List.forall_mem_cons.mpr ⟨lw_p19, List.forall_mem_cons.mpr ⟨lw_p20, List.forall_mem_cons.mpr ⟨lw_p21, List.forall_mem_cons.mpr ⟨lw_p22, List.forall_mem_cons.mpr ⟨lw_p23, List.forall_mem_cons.mpr ⟨lw_p24, List.forall_mem_cons.mpr ⟨lw_p25, List.forall_mem_cons.mpr ⟨lw_p26, List.forall_mem_cons.mpr ⟨lw_p27, List.forall_mem_cons.mpr ⟨lw_p28, List.forall_mem_cons.mpr ⟨lw_p29, List.forall_mem_cons.mpr ⟨lw_p30, List.forall_mem_cons.mpr ⟨lw_p31, fun _ h => absurd h List.not_mem_nil⟩⟩⟩⟩⟩⟩⟩⟩⟩⟩⟩⟩⟩⟩⟩⟩
theorem lw_p32 : lw_okq (⟨"TypesInsideModel", "grows", "(IIII)V"⟩, 44) := ⟨⟨by decide +kernel, by decide +kernel⟩, List.mem_of_getElem? (i := 849) (by decide +kernel), List.mem_of_getElem? (i := 855) (by decide +kernel), List.mem_of_getElem? (i := 856) (by decide +kernel)⟩
theorem lw_p33 : lw_okq (⟨"TypesInsideModel", "rests", "()V"⟩, 44) := ⟨⟨by decide +kernel, by decide +kernel⟩, List.mem_of_getElem? (i := 849) (by decide +kernel), List.mem_of_getElem? (i := 859) (by decide +kernel), List.mem_of_getElem? (i := 860) (by decide +kernel)⟩
theorem lw_p34 : lw_okq (⟨"TypesInsideModel", "numberOf", "(I)I"⟩, 44) := ⟨⟨by decide +kernel, by decide +kernel⟩, List.mem_of_getElem? (i := 849) (by decide +kernel), List.mem_of_getElem? (i := 1008) (by decide +kernel), List.mem_of_getElem? (i := 1009) (by decide +kernel)⟩
theorem lw_p35 : lw_okq (⟨"TypesInsideModel", "parts", "(I)I"⟩, 44) := ⟨⟨by decide +kernel, by decide +kernel⟩, List.mem_of_getElem? (i := 849) (by decide +kernel), List.mem_of_getElem? (i := 1013) (by decide +kernel), List.mem_of_getElem? (i := 1014) (by decide +kernel)⟩
theorem lw_p36 : lw_okq (⟨"TypesInsideModel", "column", "(II)I"⟩, 44) := ⟨⟨by decide +kernel, by decide +kernel⟩, List.mem_of_getElem? (i := 849) (by decide +kernel), List.mem_of_getElem? (i := 1017) (by decide +kernel), List.mem_of_getElem? (i := 1018) (by decide +kernel)⟩
theorem lw_p37 : lw_okq (⟨"TypesInsideModel", "heavy", "(I)I"⟩, 44) := ⟨⟨by decide +kernel, by decide +kernel⟩, List.mem_of_getElem? (i := 849) (by decide +kernel), List.mem_of_getElem? (i := 1021) (by decide +kernel), List.mem_of_getElem? (i := 1022) (by decide +kernel)⟩
theorem lw_p38 : lw_okq (⟨"TypesInsideModel", "kind", "(I)I"⟩, 44) := ⟨⟨by decide +kernel, by decide +kernel⟩, List.mem_of_getElem? (i := 849) (by decide +kernel), List.mem_of_getElem? (i := 1025) (by decide +kernel), List.mem_of_getElem? (i := 1026) (by decide +kernel)⟩
theorem lw_p39 : lw_okq (⟨"TypesInsideModel", "isIn", "(II)Z"⟩, 44) := ⟨⟨by decide +kernel, by decide +kernel⟩, List.mem_of_getElem? (i := 849) (by decide +kernel), List.mem_of_getElem? (i := 1029) (by decide +kernel), List.mem_of_getElem? (i := 1030) (by decide +kernel)⟩
theorem lw_p40 : lw_okq (⟨"TypesInsideModel", "turned", "(I)I"⟩, 44) := ⟨⟨by decide +kernel, by decide +kernel⟩, List.mem_of_getElem? (i := 849) (by decide +kernel), List.mem_of_getElem? (i := 1033) (by decide +kernel), List.mem_of_getElem? (i := 1034) (by decide +kernel)⟩
theorem lw_p41 : lw_okq (⟨"TypesInsideModel", "timesChoices", "(II)V"⟩, 44) := ⟨⟨by decide +kernel, by decide +kernel⟩, List.mem_of_getElem? (i := 849) (by decide +kernel), List.mem_of_getElem? (i := 1055) (by decide +kernel), List.mem_of_getElem? (i := 1056) (by decide +kernel)⟩
theorem lw_p42 : lw_okq (⟨"TypesInsideModel", "makesSubgroups", "(II)V"⟩, 44) := ⟨⟨by decide +kernel, by decide +kernel⟩, List.mem_of_getElem? (i := 849) (by decide +kernel), List.mem_of_getElem? (i := 1069) (by decide +kernel), List.mem_of_getElem? (i := 1070) (by decide +kernel)⟩
theorem lw_p43 : lw_okq (⟨"TypesInsideModel", "shifts", "(I)V"⟩, 44) := ⟨⟨by decide +kernel, by decide +kernel⟩, List.mem_of_getElem? (i := 849) (by decide +kernel), List.mem_of_getElem? (i := 1073) (by decide +kernel), List.mem_of_getElem? (i := 1074) (by decide +kernel)⟩
theorem lw_p44 : lw_okq (⟨"TypesInsideModel", "multiplies", "(I)V"⟩, 44) := ⟨⟨by decide +kernel, by decide +kernel⟩, List.mem_of_getElem? (i := 849) (by decide +kernel), List.mem_of_getElem? (i := 1082) (by decide +kernel), List.mem_of_getElem? (i := 1083) (by decide +kernel)⟩
theorem lw_p45 : lw_okq (⟨"TypesInsideModel", "timesColumns", "(II)V"⟩, 44) := ⟨⟨by decide +kernel, by decide +kernel⟩, List.mem_of_getElem? (i := 849) (by decide +kernel), List.mem_of_getElem? (i := 1086) (by decide +kernel), List.mem_of_getElem? (i := 1087) (by decide +kernel)⟩
theorem lw_p46 : lw_okq (⟨"TypesInsideModel", "timesOnes", "(I)V"⟩, 44) := ⟨⟨by decide +kernel, by decide +kernel⟩, List.mem_of_getElem? (i := 849) (by decide +kernel), List.mem_of_getElem? (i := 1090) (by decide +kernel), List.mem_of_getElem? (i := 1091) (by decide +kernel)⟩
theorem lw_p47 : lw_okq (⟨"TypesInsideModel", "strip", "(II)I"⟩, 44) := ⟨⟨by decide +kernel, by decide +kernel⟩, List.mem_of_getElem? (i := 849) (by decide +kernel), List.mem_of_getElem? (i := 1094) (by decide +kernel), List.mem_of_getElem? (i := 1095) (by decide +kernel)⟩
def lw_privs_3 : List (MethodName × Nat) := [(⟨"TypesInsideModel", "grows", "(IIII)V"⟩, 44), (⟨"TypesInsideModel", "rests", "()V"⟩, 44), (⟨"TypesInsideModel", "numberOf", "(I)I"⟩, 44), (⟨"TypesInsideModel", "parts", "(I)I"⟩, 44), (⟨"TypesInsideModel", "column", "(II)I"⟩, 44), (⟨"TypesInsideModel", "heavy", "(I)I"⟩, 44), (⟨"TypesInsideModel", "kind", "(I)I"⟩, 44), (⟨"TypesInsideModel", "isIn", "(II)Z"⟩, 44), (⟨"TypesInsideModel", "turned", "(I)I"⟩, 44), (⟨"TypesInsideModel", "timesChoices", "(II)V"⟩, 44), (⟨"TypesInsideModel", "makesSubgroups", "(II)V"⟩, 44), (⟨"TypesInsideModel", "shifts", "(I)V"⟩, 44), (⟨"TypesInsideModel", "multiplies", "(I)V"⟩, 44), (⟨"TypesInsideModel", "timesColumns", "(II)V"⟩, 44), (⟨"TypesInsideModel", "timesOnes", "(I)V"⟩, 44), (⟨"TypesInsideModel", "strip", "(II)I"⟩, 44)]
theorem lw_r3 : ∀ q ∈ lw_privs_3, lw_okq q := List.forall_mem_cons.mpr ⟨lw_p32, List.forall_mem_cons.mpr ⟨lw_p33, List.forall_mem_cons.mpr ⟨lw_p34, List.forall_mem_cons.mpr ⟨lw_p35, List.forall_mem_cons.mpr ⟨lw_p36, List.forall_mem_cons.mpr ⟨lw_p37, List.forall_mem_cons.mpr ⟨lw_p38, List.forall_mem_cons.mpr ⟨lw_p39, List.forall_mem_cons.mpr ⟨lw_p40, List.forall_mem_cons.mpr ⟨lw_p41, List.forall_mem_cons.mpr ⟨lw_p42, List.forall_mem_cons.mpr ⟨lw_p43, List.forall_mem_cons.mpr ⟨lw_p44, List.forall_mem_cons.mpr ⟨lw_p45, List.forall_mem_cons.mpr ⟨lw_p46, List.forall_mem_cons.mpr ⟨lw_p47, fun _ h => absurd h List.not_mem_nil⟩⟩⟩⟩⟩⟩⟩⟩⟩⟩⟩⟩⟩⟩⟩⟩
theorem lw_p48 : lw_okq (⟨"TypesInsideModel", "makesStrip", "(III)V"⟩, 44) := ⟨⟨by decide +kernel, by decide +kernel⟩, List.mem_of_getElem? (i := 849) (by decide +kernel), List.mem_of_getElem? (i := 1098) (by decide +kernel), List.mem_of_getElem? (i := 1099) (by decide +kernel)⟩
theorem lw_p49 : lw_okq (⟨"TypesInsideModel", "takesOff", "(II)V"⟩, 44) := ⟨⟨by decide +kernel, by decide +kernel⟩, List.mem_of_getElem? (i := 849) (by decide +kernel), List.mem_of_getElem? (i := 1102) (by decide +kernel), List.mem_of_getElem? (i := 1103) (by decide +kernel)⟩
theorem lw_p50 : lw_okq (⟨"TypesInsideModel", "makesWhole", "(II)V"⟩, 44) := ⟨⟨by decide +kernel, by decide +kernel⟩, List.mem_of_getElem? (i := 849) (by decide +kernel), List.mem_of_getElem? (i := 1111) (by decide +kernel), List.mem_of_getElem? (i := 1112) (by decide +kernel)⟩
theorem lw_p51 : lw_okq (⟨"TypesInsideModel", "makesAll", "(I)V"⟩, 44) := ⟨⟨by decide +kernel, by decide +kernel⟩, List.mem_of_getElem? (i := 849) (by decide +kernel), List.mem_of_getElem? (i := 1115) (by decide +kernel), List.mem_of_getElem? (i := 1116) (by decide +kernel)⟩
theorem lw_p52 : lw_okq (⟨"TypesInsideModel", "makesTurns", "(I)V"⟩, 44) := ⟨⟨by decide +kernel, by decide +kernel⟩, List.mem_of_getElem? (i := 849) (by decide +kernel), List.mem_of_getElem? (i := 1119) (by decide +kernel), List.mem_of_getElem? (i := 1120) (by decide +kernel)⟩
theorem lw_p53 : lw_okq (⟨"TypesInsideModel", "timesLess", "(I)V"⟩, 44) := ⟨⟨by decide +kernel, by decide +kernel⟩, List.mem_of_getElem? (i := 849) (by decide +kernel), List.mem_of_getElem? (i := 1123) (by decide +kernel), List.mem_of_getElem? (i := 1124) (by decide +kernel)⟩
theorem lw_p54 : lw_okq (⟨"TypesInsideModel", "makesChains", "(I)V"⟩, 44) := ⟨⟨by decide +kernel, by decide +kernel⟩, List.mem_of_getElem? (i := 849) (by decide +kernel), List.mem_of_getElem? (i := 1127) (by decide +kernel), List.mem_of_getElem? (i := 1128) (by decide +kernel)⟩
theorem lw_p55 : lw_okq (⟨"TypesInsideModel", "valueOfMade", "(I)J"⟩, 44) := ⟨⟨by decide +kernel, by decide +kernel⟩, List.mem_of_getElem? (i := 849) (by decide +kernel), List.mem_of_getElem? (i := 1138) (by decide +kernel), List.mem_of_getElem? (i := 1139) (by decide +kernel)⟩
theorem lw_p56 : lw_okq (⟨"TypesInsideModel", "takes", "(II)V"⟩, 44) := ⟨⟨by decide +kernel, by decide +kernel⟩, List.mem_of_getElem? (i := 849) (by decide +kernel), List.mem_of_getElem? (i := 1149) (by decide +kernel), List.mem_of_getElem? (i := 1150) (by decide +kernel)⟩
theorem lw_p57 : lw_okq (⟨"TypesInsideModel", "isElement", "(I)Z"⟩, 44) := ⟨⟨by decide +kernel, by decide +kernel⟩, List.mem_of_getElem? (i := 849) (by decide +kernel), List.mem_of_getElem? (i := 1157) (by decide +kernel), List.mem_of_getElem? (i := 1158) (by decide +kernel)⟩
theorem lw_p58 : lw_okq (⟨"TypesInsideModel", "adds", "(III)I"⟩, 44) := ⟨⟨by decide +kernel, by decide +kernel⟩, List.mem_of_getElem? (i := 849) (by decide +kernel), List.mem_of_getElem? (i := 1161) (by decide +kernel), List.mem_of_getElem? (i := 1162) (by decide +kernel)⟩
theorem lw_p59 : lw_okq (⟨"TypesInsideModel", "isSet", "(J)Z"⟩, 44) := ⟨⟨by decide +kernel, by decide +kernel⟩, List.mem_of_getElem? (i := 849) (by decide +kernel), List.mem_of_getElem? (i := 1182) (by decide +kernel), List.mem_of_getElem? (i := 1183) (by decide +kernel)⟩
theorem lw_p60 : lw_okq (⟨"TypesInsideModel", "spans", "(J)J"⟩, 44) := ⟨⟨by decide +kernel, by decide +kernel⟩, List.mem_of_getElem? (i := 849) (by decide +kernel), List.mem_of_getElem? (i := 1186) (by decide +kernel), List.mem_of_getElem? (i := 1187) (by decide +kernel)⟩
theorem lw_p61 : lw_okq (⟨"TypesInsideModel", "widens", "(JI)J"⟩, 44) := ⟨⟨by decide +kernel, by decide +kernel⟩, List.mem_of_getElem? (i := 849) (by decide +kernel), List.mem_of_getElem? (i := 1193) (by decide +kernel), List.mem_of_getElem? (i := 1194) (by decide +kernel)⟩
theorem lw_p62 : lw_okq (⟨"TypesInsideModel", "typeBy", "(JJ)I"⟩, 44) := ⟨⟨by decide +kernel, by decide +kernel⟩, List.mem_of_getElem? (i := 849) (by decide +kernel), List.mem_of_getElem? (i := 1208) (by decide +kernel), List.mem_of_getElem? (i := 1209) (by decide +kernel)⟩
theorem lw_p63 : lw_okq (⟨"TypesInsideModel", "whole", "()J"⟩, 44) := ⟨⟨by decide +kernel, by decide +kernel⟩, List.mem_of_getElem? (i := 849) (by decide +kernel), List.mem_of_getElem? (i := 1212) (by decide +kernel), List.mem_of_getElem? (i := 1213) (by decide +kernel)⟩
def lw_privs_4 : List (MethodName × Nat) := [(⟨"TypesInsideModel", "makesStrip", "(III)V"⟩, 44), (⟨"TypesInsideModel", "takesOff", "(II)V"⟩, 44), (⟨"TypesInsideModel", "makesWhole", "(II)V"⟩, 44), (⟨"TypesInsideModel", "makesAll", "(I)V"⟩, 44), (⟨"TypesInsideModel", "makesTurns", "(I)V"⟩, 44), (⟨"TypesInsideModel", "timesLess", "(I)V"⟩, 44), (⟨"TypesInsideModel", "makesChains", "(I)V"⟩, 44), (⟨"TypesInsideModel", "valueOfMade", "(I)J"⟩, 44), (⟨"TypesInsideModel", "takes", "(II)V"⟩, 44), (⟨"TypesInsideModel", "isElement", "(I)Z"⟩, 44), (⟨"TypesInsideModel", "adds", "(III)I"⟩, 44), (⟨"TypesInsideModel", "isSet", "(J)Z"⟩, 44), (⟨"TypesInsideModel", "spans", "(J)J"⟩, 44), (⟨"TypesInsideModel", "widens", "(JI)J"⟩, 44), (⟨"TypesInsideModel", "typeBy", "(JJ)I"⟩, 44), (⟨"TypesInsideModel", "whole", "()J"⟩, 44)]
theorem lw_r4 : ∀ q ∈ lw_privs_4, lw_okq q := List.forall_mem_cons.mpr ⟨lw_p48, List.forall_mem_cons.mpr ⟨lw_p49, List.forall_mem_cons.mpr ⟨lw_p50, List.forall_mem_cons.mpr ⟨lw_p51, List.forall_mem_cons.mpr ⟨lw_p52, List.forall_mem_cons.mpr ⟨lw_p53, List.forall_mem_cons.mpr ⟨lw_p54, List.forall_mem_cons.mpr ⟨lw_p55, List.forall_mem_cons.mpr ⟨lw_p56, List.forall_mem_cons.mpr ⟨lw_p57, List.forall_mem_cons.mpr ⟨lw_p58, List.forall_mem_cons.mpr ⟨lw_p59, List.forall_mem_cons.mpr ⟨lw_p60, List.forall_mem_cons.mpr ⟨lw_p61, List.forall_mem_cons.mpr ⟨lw_p62, List.forall_mem_cons.mpr ⟨lw_p63, fun _ h => absurd h List.not_mem_nil⟩⟩⟩⟩⟩⟩⟩⟩⟩⟩⟩⟩⟩⟩⟩⟩
theorem lw_p64 : lw_okq (⟨"TypesInsideModel", "lists", "()V"⟩, 44) := ⟨⟨by decide +kernel, by decide +kernel⟩, List.mem_of_getElem? (i := 849) (by decide +kernel), List.mem_of_getElem? (i := 1220) (by decide +kernel), List.mem_of_getElem? (i := 1221) (by decide +kernel)⟩
theorem lw_p65 : lw_okq (⟨"TypesInsideModel", "isListed", "(J)Z"⟩, 44) := ⟨⟨by decide +kernel, by decide +kernel⟩, List.mem_of_getElem? (i := 849) (by decide +kernel), List.mem_of_getElem? (i := 1224) (by decide +kernel), List.mem_of_getElem? (i := 1225) (by decide +kernel)⟩
theorem lw_p66 : lw_okq (⟨"TypesInsideModel", "isAhead", "(JJ)Z"⟩, 44) := ⟨⟨by decide +kernel, by decide +kernel⟩, List.mem_of_getElem? (i := 849) (by decide +kernel), List.mem_of_getElem? (i := 1228) (by decide +kernel), List.mem_of_getElem? (i := 1229) (by decide +kernel)⟩
theorem lw_p67 : lw_okq (⟨"TypesInsideModel", "countOf", "(II)I"⟩, 44) := ⟨⟨by decide +kernel, by decide +kernel⟩, List.mem_of_getElem? (i := 849) (by decide +kernel), List.mem_of_getElem? (i := 1236) (by decide +kernel), List.mem_of_getElem? (i := 1237) (by decide +kernel)⟩
theorem lw_p68 : lw_okq (⟨"TypesInsideModel", "shareOf", "(I)F"⟩, 44) := ⟨⟨by decide +kernel, by decide +kernel⟩, List.mem_of_getElem? (i := 849) (by decide +kernel), List.mem_of_getElem? (i := 1244) (by decide +kernel), List.mem_of_getElem? (i := 1245) (by decide +kernel)⟩
theorem lw_p69 : lw_okq (⟨"TypesInsideModel", "weightOf", "(III)D"⟩, 44) := ⟨⟨by decide +kernel, by decide +kernel⟩, List.mem_of_getElem? (i := 849) (by decide +kernel), List.mem_of_getElem? (i := 1268) (by decide +kernel), List.mem_of_getElem? (i := 1269) (by decide +kernel)⟩
theorem lw_p70 : lw_okq (⟨"TypesInsideModel", "goes", "(Z)V"⟩, 44) := ⟨⟨by decide +kernel, by decide +kernel⟩, List.mem_of_getElem? (i := 849) (by decide +kernel), List.mem_of_getElem? (i := 1299) (by decide +kernel), List.mem_of_getElem? (i := 1300) (by decide +kernel)⟩
theorem lw_p71 : lw_okq (⟨"TypesInsideModel", "sumAt", "(I)V"⟩, 44) := ⟨⟨by decide +kernel, by decide +kernel⟩, List.mem_of_getElem? (i := 849) (by decide +kernel), List.mem_of_getElem? (i := 1303) (by decide +kernel), List.mem_of_getElem? (i := 1304) (by decide +kernel)⟩
theorem lw_p72 : lw_okq (⟨"TypesInsideModel", "productAt", "(I)V"⟩, 44) := ⟨⟨by decide +kernel, by decide +kernel⟩, List.mem_of_getElem? (i := 849) (by decide +kernel), List.mem_of_getElem? (i := 1307) (by decide +kernel), List.mem_of_getElem? (i := 1308) (by decide +kernel)⟩
theorem lw_p73 : lw_okq (⟨"TypesInsideModel", "oneAt", "(I)V"⟩, 44) := ⟨⟨by decide +kernel, by decide +kernel⟩, List.mem_of_getElem? (i := 849) (by decide +kernel), List.mem_of_getElem? (i := 1311) (by decide +kernel), List.mem_of_getElem? (i := 1312) (by decide +kernel)⟩
theorem lw_p74 : lw_okq (⟨"TypesInsideModel", "here", "()I"⟩, 44) := ⟨⟨by decide +kernel, by decide +kernel⟩, List.mem_of_getElem? (i := 849) (by decide +kernel), List.mem_of_getElem? (i := 1315) (by decide +kernel), List.mem_of_getElem? (i := 1316) (by decide +kernel)⟩
theorem lw_p75 : lw_okq (⟨"TypesInsideModel", "isNow", "(IJ)V"⟩, 44) := ⟨⟨by decide +kernel, by decide +kernel⟩, List.mem_of_getElem? (i := 849) (by decide +kernel), List.mem_of_getElem? (i := 1321) (by decide +kernel), List.mem_of_getElem? (i := 1322) (by decide +kernel)⟩
theorem lw_p76 : lw_okq (⟨"TypesInsideModel", "typeHere", "()V"⟩, 44) := ⟨⟨by decide +kernel, by decide +kernel⟩, List.mem_of_getElem? (i := 849) (by decide +kernel), List.mem_of_getElem? (i := 1325) (by decide +kernel), List.mem_of_getElem? (i := 1326) (by decide +kernel)⟩
theorem lw_p77 : lw_okq (⟨"TypesInsideModel", "multipliesBy", "(II)V"⟩, 44) := ⟨⟨by decide +kernel, by decide +kernel⟩, List.mem_of_getElem? (i := 849) (by decide +kernel), List.mem_of_getElem? (i := 1330) (by decide +kernel), List.mem_of_getElem? (i := 1331) (by decide +kernel)⟩
theorem lw_p78 : lw_okq (⟨"TypesInsideModel", "addsProduct", "(III)V"⟩, 44) := ⟨⟨by decide +kernel, by decide +kernel⟩, List.mem_of_getElem? (i := 849) (by decide +kernel), List.mem_of_getElem? (i := 1334) (by decide +kernel), List.mem_of_getElem? (i := 1335) (by decide +kernel)⟩
theorem lw_p79 : lw_okq (⟨"TypesInsideModel", "adds", "(IJJ)V"⟩, 44) := ⟨⟨by decide +kernel, by decide +kernel⟩, List.mem_of_getElem? (i := 849) (by decide +kernel), List.mem_of_getElem? (i := 1338) (by decide +kernel), List.mem_of_getElem? (i := 1339) (by decide +kernel)⟩
def lw_privs_5 : List (MethodName × Nat) := [(⟨"TypesInsideModel", "lists", "()V"⟩, 44), (⟨"TypesInsideModel", "isListed", "(J)Z"⟩, 44), (⟨"TypesInsideModel", "isAhead", "(JJ)Z"⟩, 44), (⟨"TypesInsideModel", "countOf", "(II)I"⟩, 44), (⟨"TypesInsideModel", "shareOf", "(I)F"⟩, 44), (⟨"TypesInsideModel", "weightOf", "(III)D"⟩, 44), (⟨"TypesInsideModel", "goes", "(Z)V"⟩, 44), (⟨"TypesInsideModel", "sumAt", "(I)V"⟩, 44), (⟨"TypesInsideModel", "productAt", "(I)V"⟩, 44), (⟨"TypesInsideModel", "oneAt", "(I)V"⟩, 44), (⟨"TypesInsideModel", "here", "()I"⟩, 44), (⟨"TypesInsideModel", "isNow", "(IJ)V"⟩, 44), (⟨"TypesInsideModel", "typeHere", "()V"⟩, 44), (⟨"TypesInsideModel", "multipliesBy", "(II)V"⟩, 44), (⟨"TypesInsideModel", "addsProduct", "(III)V"⟩, 44), (⟨"TypesInsideModel", "adds", "(IJJ)V"⟩, 44)]
theorem lw_r5 : ∀ q ∈ lw_privs_5, lw_okq q := List.forall_mem_cons.mpr ⟨lw_p64, List.forall_mem_cons.mpr ⟨lw_p65, List.forall_mem_cons.mpr ⟨lw_p66, List.forall_mem_cons.mpr ⟨lw_p67, List.forall_mem_cons.mpr ⟨lw_p68, List.forall_mem_cons.mpr ⟨lw_p69, List.forall_mem_cons.mpr ⟨lw_p70, List.forall_mem_cons.mpr ⟨lw_p71, List.forall_mem_cons.mpr ⟨lw_p72, List.forall_mem_cons.mpr ⟨lw_p73, List.forall_mem_cons.mpr ⟨lw_p74, List.forall_mem_cons.mpr ⟨lw_p75, List.forall_mem_cons.mpr ⟨lw_p76, List.forall_mem_cons.mpr ⟨lw_p77, List.forall_mem_cons.mpr ⟨lw_p78, List.forall_mem_cons.mpr ⟨lw_p79, fun _ h => absurd h List.not_mem_nil⟩⟩⟩⟩⟩⟩⟩⟩⟩⟩⟩⟩⟩⟩⟩⟩
theorem lw_p80 : lw_okq (⟨"TypesInsideModel", "terms", "()I"⟩, 44) := ⟨⟨by decide +kernel, by decide +kernel⟩, List.mem_of_getElem? (i := 849) (by decide +kernel), List.mem_of_getElem? (i := 1342) (by decide +kernel), List.mem_of_getElem? (i := 1343) (by decide +kernel)⟩
theorem lw_p81 : lw_okq (⟨"TypesInsideModel", "typeOf", "(I)I"⟩, 44) := ⟨⟨by decide +kernel, by decide +kernel⟩, List.mem_of_getElem? (i := 849) (by decide +kernel), List.mem_of_getElem? (i := 1350) (by decide +kernel), List.mem_of_getElem? (i := 1351) (by decide +kernel)⟩
theorem lw_p82 : lw_okq (⟨"TypesInsideModel", "holds", "(I)Z"⟩, 44) := ⟨⟨by decide +kernel, by decide +kernel⟩, List.mem_of_getElem? (i := 849) (by decide +kernel), List.mem_of_getElem? (i := 1370) (by decide +kernel), List.mem_of_getElem? (i := 1371) (by decide +kernel)⟩
theorem lw_p83 : lw_okq (⟨"TypesInsideModel", "isTaken", "(II)Z"⟩, 44) := ⟨⟨by decide +kernel, by decide +kernel⟩, List.mem_of_getElem? (i := 849) (by decide +kernel), List.mem_of_getElem? (i := 1374) (by decide +kernel), List.mem_of_getElem? (i := 1375) (by decide +kernel)⟩
def lw_privs_6 : List (MethodName × Nat) := [(⟨"TypesInsideModel", "terms", "()I"⟩, 44), (⟨"TypesInsideModel", "typeOf", "(I)I"⟩, 44), (⟨"TypesInsideModel", "holds", "(I)Z"⟩, 44), (⟨"TypesInsideModel", "isTaken", "(II)Z"⟩, 44)]
theorem lw_r6 : ∀ q ∈ lw_privs_6, lw_okq q := List.forall_mem_cons.mpr ⟨lw_p80, List.forall_mem_cons.mpr ⟨lw_p81, List.forall_mem_cons.mpr ⟨lw_p82, List.forall_mem_cons.mpr ⟨lw_p83, fun _ h => absurd h List.not_mem_nil⟩⟩⟩⟩
def lw_privs : List (MethodName × Nat) := lw_privs_1 ++ (lw_privs_2 ++ (lw_privs_3 ++ (lw_privs_4 ++ (lw_privs_5 ++ (lw_privs_6)))))
def lw_tbl : List Cond := k2_sels lw_privs ++ tables_1
theorem lw_privs_ok : ∀ q ∈ lw_privs, lw_okq q := by
  show ∀ q ∈ lw_privs_1 ++ (lw_privs_2 ++ (lw_privs_3 ++ (lw_privs_4 ++ (lw_privs_5 ++ (lw_privs_6))))), lw_okq q
  exact List.forall_mem_append.mpr ⟨lw_r1, List.forall_mem_append.mpr ⟨lw_r2, List.forall_mem_append.mpr ⟨lw_r3, List.forall_mem_append.mpr ⟨lw_r4, List.forall_mem_append.mpr ⟨lw_r5, lw_r6⟩⟩⟩⟩⟩
/-- the streams that the claim lets the run draw from -/
abbrev lw_cs : List Choice := [Jvm.Choice.named "NaN.bits"]
theorem lw_bits : nanBits ∈ lw_cs := by first | decide | exact List.mem_cons_self | simp [lw_cs, nanBits]
-- one list of words for all methods: those of the tables that last
def LW : List Cond := lw_tbl.filter goodWord
theorem LWm {w : Cond} (i : Nat) (h : lw_tbl[i]? = some w) (g : goodWord w = true) : w ∈ LW := List.mem_filter.mpr ⟨List.mem_of_getElem? h, g⟩
theorem LW_good {w : Cond} (h : w ∈ LW) : (w.onTables && w.keeps) = true ∨ ∃ ty, w = .arrayClass ty := good_of_word (List.mem_filter.mp h).2
abbrev ws_ (y : MethodName) (b : ByteArray) (n : Nat) (ret : Option FieldType) : List Cond := .code y b n ret :: LW
theorem LW_gin {y : MethodName} {b : ByteArray} {n : Nat} {ret : Option FieldType} (h : Cond.code y b n ret ∈ LW) : GoodIn LW (ws_ y b n ret) := fun w hw => by
  rcases List.mem_cons.mp hw with rfl | hw
  · exact ⟨h, LW_good h⟩
  · exact ⟨hw, LW_good hw⟩
end
section
/-! My own layer: one block of cells b .. b+N-1 with a fixed shape; what may change in it are ints and longs alone. -/
abbrev Mm : Type := (Nat → Nat → Int32) × (Nat → Nat → Int64)
def sI (μ : Mm) (k j : Nat) (v : Int32) : Mm := (va_up μ.1 k (upd (μ.1 k) j v), μ.2)
def sL (μ : Mm) (k j : Nat) (v : Int64) : Mm := (μ.1, va_up μ.2 k (vp_updL (μ.2 k) j v))
/-- the shape of a cell: kind (0 ints, 1 longs, 2 booleans, 3 .. 9 references, 10 + class), length, references -/
abbrev Shp : Type := Nat → Nat × Nat × (Nat → Option Nat)
def fl (b n : Nat) (rf : Nat → Option Nat) (f : Nat → Int32) : List Value := (List.range n).map fun j => match rf j with
  | some r => .ref (b + r)
  | none => .int (f j)
theorem fl_len {b n : Nat} {rf : Nat → Option Nat} {f : Nat → Int32} : (fl b n rf f).length = n := by simp [fl]
theorem fl_int {b n j : Nat} {rf : Nat → Option Nat} {f : Nat → Int32} (hj : j < n) (hr : rf j = none) : (fl b n rf f)[j]? = some (.int (f j)) := by
  simp [fl, hj, hr]
theorem fl_ref {b n j r : Nat} {rf : Nat → Option Nat} {f : Nat → Int32} (hj : j < n) (hr : rf j = some r) : (fl b n rf f)[j]? = some (.ref (b + r)) := by
  simp [fl, hj, hr]
theorem fl_set {b n j : Nat} {rf : Nat → Option Nat} {f : Nat → Int32} {x : Int32} (hj : j < n) (hr : rf j = none) : (fl b n rf f).set j (.int x) = fl b n rf (upd f j x) := by
  apply List.ext_getElem?
  intro i
  by_cases hi : i < n
  · by_cases he : i = j
    · subst he
      rw [List.getElem?_set_self (by rw [fl_len]; exact hi), fl_int hi hr]
      simp [upd]
    · rw [List.getElem?_set_ne (Ne.symm he)]
      simp [fl, hi, upd, he]
  · rw [List.getElem?_eq_none (by rw [List.length_set, fl_len]; omega), List.getElem?_eq_none (by rw [fl_len]; omega)]
def cE (AC : Nat → ClassId) (b : Nat) (sh : Shp) (μ : Mm) (k : Nat) : va_E :=
  if (sh k).1 = 0 then .inl (AC 0, (sh k).2.1, .inl (μ.1 k))
  else if (sh k).1 = 1 then .inl (AC 1, (sh k).2.1, .inr (.inl (μ.2 k)))
  else if (sh k).1 = 2 then .inl (AC 2, (sh k).2.1, .inl (μ.1 k))
  else if (sh k).1 < 10 then .inl (AC (sh k).1, (sh k).2.1, .inr (.inr (.inr (.inr fun j => ((sh k).2.2 j).map (b + ·)))))
  else .inr ((sh k).1 - 10, fl b (sh k).2.1 (sh k).2.2 (μ.1 k))
def wl (AC : Nat → ClassId) (b N : Nat) (sh : Shp) (μ : Mm) : va_W := (List.range N).map fun k => (b + k, cE AC b sh μ k)
def Ar (b N : Nat) : Nat → Prop := fun q => b ≤ q ∧ q < b + N
section WLD
variable {AC : Nat → ClassId} {b N : Nat} {sh : Shp} {μ : Mm}
theorem wl_at {k : Nat} (hk : k < N) : (wl AC b N sh μ)[k]? = some (b + k, cE AC b sh μ k) := by
  simp [wl, hk]
theorem wl_len : (wl AC b N sh μ).length = N := by simp [wl]
theorem wl_D : va_D (Ar b N) (wl AC b N sh μ) := by
  have key : ∀ (i : Nat) (p : Nat × va_E), (wl AC b N sh μ)[i]? = some p → i < N ∧ p.1 = b + i := by
    intro i p h
    have hi : i < N := by
      have := (List.getElem?_eq_some_iff.mp h).1
      rwa [wl_len] at this
    rw [wl_at hi] at h
    cases h
    exact ⟨hi, rfl⟩
  refine ⟨fun i j p q hp hq e => ?_, fun k q hq => ?_⟩
  · have h1 := (key i p hp).2
    have h2 := (key j q hq).2
    omega
  · obtain ⟨h1, h2⟩ := key k q hq
    exact ⟨by omega, by omega⟩
theorem wl_set {μ' : Mm} {k : Nat} (hk : k < N) {e : va_E} (he : cE AC b sh μ' k = e) (ho : ∀ j, j ≠ k → cE AC b sh μ' j = cE AC b sh μ j) : (wl AC b N sh μ).set k (b + k, e) = wl AC b N sh μ' := by
  apply List.ext_getElem?
  intro i
  by_cases hi : i < N
  · by_cases e1 : i = k
    · subst e1
      rw [List.getElem?_set_self (by rw [wl_len]; exact hi), wl_at hi, he]
    · rw [List.getElem?_set_ne (Ne.symm e1), wl_at hi, wl_at hi, ho i e1]
  · rw [List.getElem?_eq_none (by rw [List.length_set, wl_len]; omega), List.getElem?_eq_none (by rw [wl_len]; omega)]
theorem cE_i {k : Nat} (h : (sh k).1 = 0) : cE AC b sh μ k = .inl (AC 0, (sh k).2.1, .inl (μ.1 k)) := by simp [cE, h]
theorem cE_l {k : Nat} (h : (sh k).1 = 1) : cE AC b sh μ k = .inl (AC 1, (sh k).2.1, .inr (.inl (μ.2 k))) := by simp [cE, h]
theorem cE_z {k : Nat} (h : (sh k).1 = 2) : cE AC b sh μ k = .inl (AC 2, (sh k).2.1, .inl (μ.1 k)) := by simp [cE, h]
theorem cE_q {k t : Nat} (h : (sh k).1 = t) (h1 : 2 < t) (h2 : t < 10) : cE AC b sh μ k = .inl (AC t, (sh k).2.1, .inr (.inr (.inr (.inr fun j => ((sh k).2.2 j).map (b + ·))))) := by
  subst h
  unfold cE
  rw [if_neg (by omega), if_neg (by omega), if_neg (by omega), if_pos h2]
theorem cE_o {k ci : Nat} (h : (sh k).1 = 10 + ci) : cE AC b sh μ k = .inr (ci, fl b (sh k).2.1 (sh k).2.2 (μ.1 k)) := by
  unfold cE
  rw [if_neg (by omega), if_neg (by omega), if_neg (by omega), if_neg (by omega), h, Nat.add_sub_cancel_left]
theorem cE_sI {k j : Nat} {v : Int32} {i : Nat} (h : i ≠ k) : cE AC b sh (sI μ k j v) i = cE AC b sh μ i := by
  simp [cE, sI, va_up, h]
theorem cE_sL {k j : Nat} {v : Int64} {i : Nat} (h : i ≠ k) : cE AC b sh (sL μ k j v) i = cE AC b sh μ i := by
  simp [cE, sL, va_up, h]
theorem sI_at {k j : Nat} {v : Int32} : (sI μ k j v).1 k = upd (μ.1 k) j v := by simp [sI, va_up]
theorem sL_at {k j : Nat} {v : Int64} : (sL μ k j v).2 k = vp_updL (μ.2 k) j v := by simp [sL, va_up]
end WLD
/-- what a method's walk stands on -/
def Cx (p : Program) (s : State) (m : MethodId) (args : Array Value) (meth : Method) (c : Code) (own : String) (cc : ByteArray) (nL : Nat) (ret : Option FieldType) : Prop :=
  p.tables.exec = Jvm.exec ∧ c.code = cc ∧ c.maxLocals = nL ∧ s.vm.findClass own = some m.cls ∧ (∀ w ∈ LW, w.before args s = true) ∧ meth.sig.returnType = ret ∧ meth.locks = false
/-- the table of the types' numbers, a static array that nobody writes -/
def Nst (A : Nat → Prop) (nums : Nat → Int32) (U : State) (H : Heap) : Prop := ∃ t : Nat, va_Z "TypesInside$Types" "NUMBERS" "[I" (.ref t) A U H ∧ va_T .int t 19 (fun j => .int (nums j)) A U H
theorem Nst.moved {A : Nat → Prop} {nums : Nat → Int32} {u U : State} {H : Heap} (hvm : u.vm.Alike U.vm) (h : Nst A nums u H) : Nst A nums U H := by
  obtain ⟨t, h1, h2⟩ := h
  exact ⟨t, h1.moved hvm, h2.moved hvm⟩
theorem Nst.kept {A : Nat → Prop} {nums : Nat → Int32} {U : State} {H H1 : Heap} (h : Nst A nums U H) (hq : ∀ a : Nat, a < H.size → ¬ A a → H1[a]? = H[a]?) : Nst A nums U H1 := by
  obtain ⟨t, h1, h2⟩ := h
  exact ⟨t, h1.kept hq, h2.kept hq⟩
theorem Nst.narrow {A B : Nat → Prop} {nums : Nat → Int32} {U : State} {H : Heap} (h : Nst A nums U H) (hAB : ∀ q, B q → A q) : Nst B nums U H := by
  obtain ⟨t, h1, h2⟩ := h
  exact ⟨t, h1.narrow hAB, h2.narrow hAB⟩
/-- the world of a block: its cells -/
def Wd (D : va_G) (cl : List vw_C) (AC : Nat → ClassId) (b N : Nat) (sh : Shp) (μ : Mm) (H : Heap) : Prop := va_P D cl (wl AC b N sh μ) H
/-- how a method that may write ends -/
def QM (A : Nat → Prop) (F : State → Heap → Prop) (r : Option Value) : Array Value → State → Outcome → State → Prop := fun _ st o t => o = .returned r ∧ F t t.heap ∧ va_F A st t
/-- how one that only computes ends -/
def QP (r : Option Value) : Array Value → State → Outcome → State → Prop := fun _ st o t => o = .returned r ∧ t.heap = st.heap
def noA : Nat → Prop := fun _ => False
def rmd (d : Nat) : Room := { frames := d, cells := 0, slots := 0, locals := 64 * d }
section ROWS
variable {p : Program} {l : Launch} {e : Env} {R : Room} {s : State} {m : MethodId} {args : Array Value} {below : List Frame} {meth : Method} {c : Code} {H : Heap} {locs : List Loc} {cells slots : Nat} {Q : State → Prop}
variable {own : String} {cc : ByteArray} {nL : Nat} {ret : Option FieldType} {pc : Nat} {ls : Array Slot} {rest st0 : List Value}
variable {D : va_G} {cl : List vw_C} {tys : List (ClassId × FieldType)} {AC : Nat → ClassId} {b N : Nat} {sh : Shp} {nums : Nat → Int32} {μ : Mm} {H0 : Heap}
/-- a row of a block's objects: read a reference -/
theorem r_gr (X : Cx p s m args meth c own cc nL ret) (hK : va_K D cl tys s) (hW : Wd D cl AC b N sh μ H) {k ci r index j M : Nat} {C : String} {T : u_T} (hk : k < N) (hs : (sh k).1 = 10 + ci) (hn : (sh k).2.1 = M) (hc : cl[ci]? = some (C, T, M)) (hin : ∀ w ∈ u_ws C T M, w ∈ LW) (hj : j < M) (hr : (sh k).2.2 j = some r)
    (hlink : Cond.fieldLink own index (T j).1 (T j).2.1 (T j).2.2.1 ∈ LW) (hdg : decode cc pc = .ok (.getfield index, 3))
    (kk : W p l e R s m args below meth c H locs cells slots Q (F0 m (pc + 3) ls (.ref (b + r) :: rest))) : W p l e R s m args below meth c H locs cells slots Q (F0 m pc ls (.ref (b + k) :: rest)) := by
  subst hn
  exact va_get X.1 X.2.1 X.2.2.2.2.1 hin X.2.2.2.1 hK hW k ((wl_at hk).trans (by rw [cE_o hs])) hc j hj (X.2.2.2.2.1 _ hlink) (fun _ h => h) (fl_ref hj hr) hdg kk
/-- .. an int (or boolean) -/
theorem r_gi (X : Cx p s m args meth c own cc nL ret) (hK : va_K D cl tys s) (hW : Wd D cl AC b N sh μ H) {k ci index j M : Nat} {C : String} {T : u_T} (hk : k < N) (hs : (sh k).1 = 10 + ci) (hn : (sh k).2.1 = M) (hc : cl[ci]? = some (C, T, M)) (hin : ∀ w ∈ u_ws C T M, w ∈ LW) (hj : j < M) (hr : (sh k).2.2 j = none)
    (hlink : Cond.fieldLink own index (T j).1 (T j).2.1 (T j).2.2.1 ∈ LW) (hdg : decode cc pc = .ok (.getfield index, 3))
    (kk : W p l e R s m args below meth c H locs cells slots Q (F0 m (pc + 3) ls (.int (μ.1 k j) :: rest))) : W p l e R s m args below meth c H locs cells slots Q (F0 m pc ls (.ref (b + k) :: rest)) := by
  subst hn
  exact va_get X.1 X.2.1 X.2.2.2.2.1 hin X.2.2.2.1 hK hW k ((wl_at hk).trans (by rw [cE_o hs])) hc j hj (X.2.2.2.2.1 _ hlink) (fun _ h => h) (fl_int hj hr) hdg kk
/-- write an int (or boolean) -/
theorem r_pi (X : Cx p s m args meth c own cc nL ret) (hK : va_K D cl tys s) (hW : Wd D cl AC b N sh μ H) (hS : va_S (Ar b N) s.heap H locs) {k ci index j M : Nat} {C : String} {T : u_T} (ty0 : Nat → FieldType) {ty : FieldType} {x : Int32} (hty : ∀ k, k < M → parseFieldDescriptor (T k).2.2.1 = some (ty0 k)) (hnm : ∀ a, a < M → ∀ b, b < M → a ≠ b → (T a).2.1 ≠ (T b).2.1)
    (hk : k < N) (hs : (sh k).1 = 10 + ci) (hn : (sh k).2.1 = M) (hc : cl[ci]? = some (C, T, M)) (hin : ∀ w ∈ u_ws C T M, w ∈ LW) (hj : j < M) (hr : (sh k).2.2 j = none) (hfin : (T j).2.2.2 = false) (hd : parseFieldDescriptor (T j).2.2.1 = some ty) (hnw : narrow ty (.int x) = .int x) (hfit : fits ty (.int x) = true)
    (hlink : Cond.fieldLink own index (T j).1 (T j).2.1 (T j).2.2.1 ∈ LW) (hdg : decode cc pc = .ok (.putfield index, 3))
    (kk : ∀ (H1 : Heap) (locs1 : List Loc), Wd D cl AC b N sh (sI μ k j x) H1 → va_S (Ar b N) s.heap H1 locs1 → W p l e R s m args below meth c H1 locs1 cells slots Q (F0 m (pc + 3) ls rest)) : W p l e R s m args below meth c H locs cells slots Q (F0 m pc ls (.int x :: .ref (b + k) :: rest)) := by
  subst hn
  have he : (wl AC b N sh μ)[k]? = some (b + k, .inr (ci, fl b (sh k).2.1 (sh k).2.2 (μ.1 k))) := (wl_at hk).trans (by rw [cE_o hs])
  refine va_put X.1 X.2.1 X.2.2.2.2.1 hin ty0 hty hnm X.2.2.2.1 hK hW wl_D hS k he hc j hj (X.2.2.2.2.1 _ hlink) (fun _ h => h) hfin hd hnw hfit (by rw [fl_len]; exact hj) hdg (fun H1 locs1 hP _ hS1 => ?_)
  rw [fl_set hj hr, wl_set (μ' := sI μ k j x) hk (by rw [cE_o hs, sI_at]) (fun i hi => cE_sI hi)] at hP
  exact kk H1 locs1 hP hS1
section ARR
variable {k n : Nat} {i : Int32}
/-- arrays: read, write, length -/
theorem r_ia (X : Cx p s m args meth c own cc nL ret) (hK : va_K D cl tys s) (hW : Wd D cl AC b N sh μ H) (ht : tys[0]? = some (AC 0, .int)) (hk : k < N) (hs : (sh k).1 = 0) (hn : (sh k).2.1 = n) (hin : vp_in i n) (hdg : decode cc pc = .ok (.iaload, 1))
    (kk : W p l e R s m args below meth c H locs cells slots Q (F0 m (pc + 1) ls (.int (μ.1 k i.toNatClampNeg) :: rest))) : W p l e R s m args below meth c H locs cells slots Q (F0 m pc ls (.int i :: .ref (b + k) :: rest)) := by
  subst hn
  exact va_iald X.1 X.2.1 hK hW k 0 ((wl_at hk).trans (by rw [cE_i hs])) ht hin hdg kk
theorem r_la (X : Cx p s m args meth c own cc nL ret) (hK : va_K D cl tys s) (hW : Wd D cl AC b N sh μ H) (ht : tys[1]? = some (AC 1, .long)) (hk : k < N) (hs : (sh k).1 = 1) (hn : (sh k).2.1 = n) (hin : vp_in i n) (hdg : decode cc pc = .ok (.laload, 1))
    (kk : W p l e R s m args below meth c H locs cells slots Q (F0 m (pc + 1) ls (.long (μ.2 k i.toNatClampNeg) :: rest))) : W p l e R s m args below meth c H locs cells slots Q (F0 m pc ls (.int i :: .ref (b + k) :: rest)) := by
  subst hn
  exact va_lald X.1 X.2.1 hK hW k 1 ((wl_at hk).trans (by rw [cE_l hs])) ht hin hdg kk
theorem r_za (X : Cx p s m args meth c own cc nL ret) (hK : va_K D cl tys s) (hW : Wd D cl AC b N sh μ H) (ht : tys[2]? = some (AC 2, .boolean)) (hk : k < N) (hs : (sh k).1 = 2) (hn : (sh k).2.1 = n) (hin : vp_in i n) (hdg : decode cc pc = .ok (.baload, 1))
    (kk : W p l e R s m args below meth c H locs cells slots Q (F0 m (pc + 1) ls (.int (μ.1 k i.toNatClampNeg) :: rest))) : W p l e R s m args below meth c H locs cells slots Q (F0 m pc ls (.int i :: .ref (b + k) :: rest)) := by
  subst hn
  exact va_zald X.1 X.2.1 hK hW k 2 ((wl_at hk).trans (by rw [cE_z hs])) ht hin hdg kk
theorem r_qa (X : Cx p s m args meth c own cc nL ret) (hK : va_K D cl tys s) (hW : Wd D cl AC b N sh μ H) {t : Nat} {ty : FieldType} {r : Nat} (hty : ty.isReference = true) (ht : tys[t]? = some (AC t, ty)) (h1 : 2 < t) (h2 : t < 10) (hk : k < N) (hs : (sh k).1 = t) (hn : (sh k).2.1 = n) (hin : vp_in i n) (hr : (sh k).2.2 i.toNatClampNeg = some r) (hdg : decode cc pc = .ok (.aaload, 1))
    (kk : W p l e R s m args below meth c H locs cells slots Q (F0 m (pc + 1) ls (.ref (b + r) :: rest))) : W p l e R s m args below meth c H locs cells slots Q (F0 m pc ls (.int i :: .ref (b + k) :: rest)) := by
  subst hn
  have hlt : i.toNatClampNeg < (sh k).2.1 := Nat.not_le.mp fun q => hin (Or.inr q)
  have ha : (wl AC b N sh μ)[k]? = some (b + k, .inl (AC t, (sh k).2.1, .inr (.inr (.inr (.inr fun j => ((sh k).2.2 j).map (b + ·)))))) := (wl_at hk).trans (by rw [cE_q hs h1 h2])
  exact W.aald (v := .ref (b + r)) (ty := ty) X.1 X.2.1 (hW k _ ha) ((hK.2 t _ ht).1 _ (fun j => va_rf (((sh k).2.2 j).map (b + ·)))) hty (fun q => by cases q) (by show ¬ (i < 0 ∨ (arrV _ _ _).slots.size ≤ _); rw [arrV_size]; exact hin) (by show (arrV _ _ _).slots[_]? = _; rw [arrV_read _ _ hlt]; show some (va_rf (((sh k).2.2 i.toNatClampNeg).map (b + ·))) = _; rw [hr]; rfl) rfl rfl hdg kk
theorem r_is (X : Cx p s m args meth c own cc nL ret) (hK : va_K D cl tys s) (hW : Wd D cl AC b N sh μ H) (hS : va_S (Ar b N) s.heap H locs) {x : Int32} (ht : tys[0]? = some (AC 0, .int)) (hk : k < N) (hs : (sh k).1 = 0) (hn : (sh k).2.1 = n) (hin : vp_in i n) (hdg : decode cc pc = .ok (.iastore, 1))
    (kk : ∀ (H1 : Heap) (locs1 : List Loc), Wd D cl AC b N sh (sI μ k i.toNatClampNeg x) H1 → va_S (Ar b N) s.heap H1 locs1 → W p l e R s m args below meth c H1 locs1 cells slots Q (F0 m (pc + 1) ls rest)) : W p l e R s m args below meth c H locs cells slots Q (F0 m pc ls (.int x :: .int i :: .ref (b + k) :: rest)) := by
  subst hn
  refine va_iast X.1 X.2.1 hK hW wl_D hS k 0 ((wl_at hk).trans (by rw [cE_i hs])) ht hin hdg (fun H1 locs1 hP _ hS1 => ?_)
  rw [wl_set (μ' := sI μ k i.toNatClampNeg x) hk (by rw [cE_i hs, sI_at]) (fun i hi => cE_sI hi)] at hP
  exact kk H1 locs1 hP hS1
theorem r_ls (X : Cx p s m args meth c own cc nL ret) (hK : va_K D cl tys s) (hW : Wd D cl AC b N sh μ H) (hS : va_S (Ar b N) s.heap H locs) {x : Int64} (ht : tys[1]? = some (AC 1, .long)) (hk : k < N) (hs : (sh k).1 = 1) (hn : (sh k).2.1 = n) (hin : vp_in i n) (hdg : decode cc pc = .ok (.lastore, 1))
    (kk : ∀ (H1 : Heap) (locs1 : List Loc), Wd D cl AC b N sh (sL μ k i.toNatClampNeg x) H1 → va_S (Ar b N) s.heap H1 locs1 → W p l e R s m args below meth c H1 locs1 cells slots Q (F0 m (pc + 1) ls rest)) : W p l e R s m args below meth c H locs cells slots Q (F0 m pc ls (.long x :: .int i :: .ref (b + k) :: rest)) := by
  subst hn
  refine va_last X.1 X.2.1 hK hW wl_D hS k 1 ((wl_at hk).trans (by rw [cE_l hs])) ht hin hdg (fun H1 locs1 hP _ hS1 => ?_)
  rw [wl_set (μ' := sL μ k i.toNatClampNeg x) hk (by rw [cE_l hs, sL_at]) (fun i hi => cE_sL hi)] at hP
  exact kk H1 locs1 hP hS1
theorem r_zs (X : Cx p s m args meth c own cc nL ret) (hK : va_K D cl tys s) (hW : Wd D cl AC b N sh μ H) (hS : va_S (Ar b N) s.heap H locs) {x : Int32} (ht : tys[2]? = some (AC 2, .boolean)) (hk : k < N) (hs : (sh k).1 = 2) (hn : (sh k).2.1 = n) (hin : vp_in i n) (hx : vp_nar .boolean x = x) (hdg : decode cc pc = .ok (.bastore, 1))
    (kk : ∀ (H1 : Heap) (locs1 : List Loc), Wd D cl AC b N sh (sI μ k i.toNatClampNeg x) H1 → va_S (Ar b N) s.heap H1 locs1 → W p l e R s m args below meth c H1 locs1 cells slots Q (F0 m (pc + 1) ls rest)) : W p l e R s m args below meth c H locs cells slots Q (F0 m pc ls (.int x :: .int i :: .ref (b + k) :: rest)) := by
  subst hn
  refine va_zast X.1 X.2.1 hK hW wl_D hS k 2 ((wl_at hk).trans (by rw [cE_z hs])) ht hin hdg (fun H1 locs1 hP _ hS1 => ?_)
  rw [hx, wl_set (μ' := sI μ k i.toNatClampNeg x) hk (by rw [cE_z hs, sI_at]) (fun i hi => cE_sI hi)] at hP
  exact kk H1 locs1 hP hS1
theorem r_len0 (X : Cx p s m args meth c own cc nL ret) (hK : va_K D cl tys s) (hW : Wd D cl AC b N sh μ H) {v : Int32} (ht : tys[0]? = some (AC 0, .int)) (hk : k < N) (hs : (sh k).1 = 0) (hn : (sh k).2.1 = n) (hv : Int32.ofNat n = v) (hdg : decode cc pc = .ok (.arraylength, 1))
    (kk : W p l e R s m args below meth c H locs cells slots Q (F0 m (pc + 1) ls (.int v :: rest))) : W p l e R s m args below meth c H locs cells slots Q (F0 m pc ls (.ref (b + k) :: rest)) := by
  subst hn
  exact va_alen X.1 X.2.1 hK hW k 0 ((wl_at hk).trans (by rw [cE_i hs])) ht hv hdg kk
theorem r_len1 (X : Cx p s m args meth c own cc nL ret) (hK : va_K D cl tys s) (hW : Wd D cl AC b N sh μ H) {v : Int32} (ht : tys[1]? = some (AC 1, .long)) (hk : k < N) (hs : (sh k).1 = 1) (hn : (sh k).2.1 = n) (hv : Int32.ofNat n = v) (hdg : decode cc pc = .ok (.arraylength, 1))
    (kk : W p l e R s m args below meth c H locs cells slots Q (F0 m (pc + 1) ls (.int v :: rest))) : W p l e R s m args below meth c H locs cells slots Q (F0 m pc ls (.ref (b + k) :: rest)) := by
  subst hn
  exact va_alen X.1 X.2.1 hK hW k 1 ((wl_at hk).trans (by rw [cE_l hs])) ht hv hdg kk
theorem r_lenq (X : Cx p s m args meth c own cc nL ret) (hK : va_K D cl tys s) (hW : Wd D cl AC b N sh μ H) {v : Int32} {t : Nat} {ty : FieldType} (ht : tys[t]? = some (AC t, ty)) (h1 : 2 < t) (h2 : t < 10) (hk : k < N) (hs : (sh k).1 = t) (hn : (sh k).2.1 = n) (hv : Int32.ofNat n = v) (hdg : decode cc pc = .ok (.arraylength, 1))
    (kk : W p l e R s m args below meth c H locs cells slots Q (F0 m (pc + 1) ls (.int v :: rest))) : W p l e R s m args below meth c H locs cells slots Q (F0 m pc ls (.ref (b + k) :: rest)) := by
  subst hn
  exact va_alen X.1 X.2.1 hK hW k t ((wl_at hk).trans (by rw [cE_q hs h1 h2])) ht hv hdg kk
end ARR
/-! calls -/
section CALLS
variable {y : MethodName} {bytes : ByteArray} {maxL d d' index : Nat} {As : List Value} {F : State → Heap → Prop} {r : Option Value} {k : Nat} {ret' : Option FieldType} {A : Nat → Prop} {B : State → Prop}
theorem cB (X : Cx p s m args meth c own cc nL ret) (n : Nat) (hc : Cond.code y bytes maxL ret' ∈ LW) (hl : Cond.methodLink own index y ∈ LW) (hi : Cond.initialized y.cls ∈ LW) (hd : y.cls ≠ "java/lang/invoke/MethodHandle" ∧ y.cls ≠ "java/lang/invoke/VarHandle" ∧ (parseMethodDescriptor y.desc).map (fun d => d.parameters.length) = some n) (hR : d + 1 ≤ d') (hm : maxL ≤ 45) : CallB (rmd d') s args own index y bytes maxL ret' (ws_ y bytes maxL ret') (rmd d) 0 0 n :=
  callB_of n X.2.2.2.2.1 (LW_gin hc) rfl rfl rfl (X.2.2.2.2.1 _ hi) (X.2.2.2.2.1 _ hl) hd ⟨hR, by show 8 + (maxL + 11) + 64 * d ≤ 64 * d'; omega⟩
/-- behind a call of a method that may write -/
theorem k_m {free : Addr → Prop} (hr : va_Run p l e R s m args below meth c H locs cells slots 0 0 (F0 m pc ls st0) rest (QM A F r As.toArray) free) (hfr : ∀ q, free q → A q) (hS : va_S A s.heap H locs)
    (kk : ∀ (t : State) (locs1 : List Loc), F t t.heap → s.vm.Alike t.vm → va_S A s.heap t.heap locs1 → W p l e R s m args below meth c t.heap locs1 cells slots Q (F0 m (pc + 3) ls (r.toList ++ rest))) : W p l e R s m args below meth c H locs cells slots Q (F0 m pc ls st0) := by
  intro T hT Xs
  obtain ⟨v, st₀, t, T', L, h0, X', hL, e1, e2, ⟨hv, hF, hz, hk⟩, st⟩ := hr T hT Xs
  cases hv
  rw [h0] at hz hk
  obtain ⟨t2, a1, b1⟩ := kk t (locs ++ L) hF (by rw [← e2]; exact X'.warmed.alike) ⟨Nat.le_trans hS.1 hz, fun q h1 h2 => (hk q (Nat.lt_of_lt_of_le h1 hS.1) h2).trans (hS.2.1 q h1 h2), fun q hq => (List.mem_append.mp hq).elim (hS.2.2 q) (fun h => hfr _ (hL q h))⟩ T' e1 X'
  exact ⟨t2, st t2 a1, b1⟩
/-- behind a call of one that only computes -/
theorem k_p (hr : va_Run p l e R s m args below meth c H locs cells slots 0 0 (F0 m pc ls st0) rest (QP r As.toArray) noA)
    (kk : W p l e R s m args below meth c H locs cells slots Q (F0 m (pc + 3) ls (r.toList ++ rest))) : W p l e R s m args below meth c H locs cells slots Q (F0 m pc ls st0) := by
  intro T hT Xs
  obtain ⟨v, st₀, t, T', L, h0, X', hL, e1, e2, ⟨hv, hh⟩, st⟩ := hr T hT Xs
  cases hv
  obtain ⟨t2, a1, b1⟩ := kk T' (by rw [e1, hh, h0]) (Stand.forget X' (fun q h => (hL q h).elim))
  exact ⟨t2, st t2 a1, b1⟩
end CALLS
end ROWS
/-! contracts -/
def PreM (D : va_G) (cl : List vw_C) (tys : List (ClassId × FieldType)) (AC : Nat → ClassId) (b N : Nat) (sh : Shp) (nums : Nat → Int32) (μ : Mm) : State → Prop := fun U => Wd D cl AC b N sh μ U.heap ∧ va_K D cl tys U ∧ Nst (Ar b N) nums U U.heap
def MM (l : Launch) (y : MethodName) (bytes : ByteArray) (maxL : Nat) (ret : Option FieldType) (d : Nat) (D : va_G) (cl : List vw_C) (tys : List (ClassId × FieldType)) (AC : Nat → ClassId) (b N : Nat) (sh : Shp) (nums : Nat → Int32) (As : List Value) (μ : Mm) (r : Option Value) (μ' : Mm) : Prop :=
  Met l y (ws_ y bytes maxL ret) (rmd d) (va_Pc As (PreM D cl tys AC b N sh nums μ)) (QM (Ar b N) (fun _ H => Wd D cl AC b N sh μ' H) r) 0 0 (Ar b N)
def MP (l : Launch) (y : MethodName) (bytes : ByteArray) (maxL : Nat) (ret : Option FieldType) (d : Nat) (nums : Nat → Int32) (As : List Value) (r : Option Value) : Prop :=
  Met l y (ws_ y bytes maxL ret) (rmd d) (va_Pc As (fun U => Nst noA nums U U.heap)) (QP r) 0 0 noA
section MK
variable {l : Launch} {y : MethodName} {bytes : ByteArray} {maxL d d' : Nat} {ret ret' : Option FieldType} {D : va_G} {cl : List vw_C} {tys : List (ClassId × FieldType)} {AC : Nat → ClassId} {b N : Nat} {sh : Shp} {nums : Nat → Int32} {As : List Value} {μ μ' : Mm} {r : Option Value}
theorem mk_M (hy : plainName y.cls = true) (hlen : (lg_sl As).length ≤ maxL)
    (body : ∀ (p : Program) (e : Env) (s : State) (m : MethodId) (below : List Frame) (meth : Method) (c : Code), Cx p s m As.toArray meth c y.cls bytes maxL ret → va_K D cl tys s → Nst (Ar b N) nums s s.heap → ∀ (H : Heap) (locs : List Loc), Wd D cl AC b N sh μ H → va_S (Ar b N) s.heap H locs → ∀ ls : Array Slot, lv_has ls maxL (lv_args 0 As) →
      W p l e (rmd d) s m As.toArray below meth c H locs 0 0 (MQ below (QM (Ar b N) (fun _ H => Wd D cl AC b N sh μ' H) r) As.toArray s 0 0 (Ar b N)) (F0 m 0 ls [])) : MM l y bytes maxL ret d D cl tys AC b N sh nums As μ r μ' := by
  refine Met.ofW (cc := bytes) (maxL := maxL) (ret := ret) hy rfl ?_
  intro p e s m args below meth c s₁ B hml hv
  obtain ⟨rfl, hW, hK, hN⟩ := hv
  have hts := atoms_spec (ws := ws_ y bytes maxL ret) B.pre
  have hl := lv_entry As (n := maxL) hlen
  rw [lg_entry_eq]
  exact body p e s m below meth c ⟨B.exec, B.bytes, hml, findClass_of_methodNamed B.named, fun w hw => hts w (List.mem_cons_of_mem _ hw), B.returns, B.notSynchronized⟩ hK hN s.heap [] hW va_S.rf _ hl
theorem mk_P (hy : plainName y.cls = true) (hlen : (lg_sl As).length ≤ maxL)
    (body : ∀ (p : Program) (e : Env) (s : State) (m : MethodId) (below : List Frame) (meth : Method) (c : Code), Cx p s m As.toArray meth c y.cls bytes maxL ret → Nst noA nums s s.heap → va_S noA s.heap s.heap [] → ∀ ls : Array Slot, lv_has ls maxL (lv_args 0 As) →
      W p l e (rmd d) s m As.toArray below meth c s.heap [] 0 0 (MQ below (QP r) As.toArray s 0 0 noA) (F0 m 0 ls [])) : MP l y bytes maxL ret d nums As r := by
  refine Met.ofW (cc := bytes) (maxL := maxL) (ret := ret) hy rfl ?_
  intro p e s m args below meth c s₁ B hml hv
  obtain ⟨rfl, hN⟩ := hv
  have hts := atoms_spec (ws := ws_ y bytes maxL ret) B.pre
  have hl := lv_entry As (n := maxL) hlen
  rw [lg_entry_eq]
  exact body p e s m below meth c ⟨B.exec, B.bytes, hml, findClass_of_methodNamed B.named, fun w hw => hts w (List.mem_cons_of_mem _ hw), B.returns, B.notSynchronized⟩ hN va_S.rf _ hl
section ENDS
variable {p : Program} {e : Env} {R : Room} {s : State} {m : MethodId} {args : Array Value} {below : List Frame} {meth : Method} {c : Code} {H : Heap} {locs : List Loc} {own : String} {cc : ByteArray} {nL pc : Nat} {ls : Array Slot} {rest st0 : List Value} {Q : State → Prop}
-- ends of methods that may write
theorem em_i {v : Int32} (X : Cx p s m args meth c own cc nL (some .int)) (hW : Wd D cl AC b N sh μ H) (hS : va_S (Ar b N) s.heap H locs) (hdg : decode cc pc = .ok (.ireturn, 1)) : W p l e R s m args below meth c H locs 0 0 (MQ below (QM (Ar b N) (fun _ H => Wd D cl AC b N sh μ H) (some (.int v))) args s 0 0 (Ar b N)) (F0 m pc ls [.int v]) :=
  W.iret X.1 X.2.1 X.2.2.2.2.2.1 (fun t ht _ => ⟨rfl, by rw [ht]; exact hW, hS.F ht⟩) hS.2.2 hdg X.2.2.2.2.2.2
theorem em_z {v : Int32} (X : Cx p s m args meth c own cc nL (some .boolean)) (hW : Wd D cl AC b N sh μ H) (hS : va_S (Ar b N) s.heap H locs) (hv : v = 0 ∨ v = 1) (hdg : decode cc pc = .ok (.ireturn, 1)) : W p l e R s m args below meth c H locs 0 0 (MQ below (QM (Ar b N) (fun _ H => Wd D cl AC b N sh μ H) (some (.int v))) args s 0 0 (Ar b N)) (F0 m pc ls [.int v]) :=
  W.zret X.1 X.2.1 X.2.2.2.2.2.1 (by rcases hv with rfl | rfl <;> rfl) (fun t ht _ => ⟨rfl, by rw [ht]; exact hW, hS.F ht⟩) hS.2.2 hdg X.2.2.2.2.2.2
theorem em_l {v : Int64} (X : Cx p s m args meth c own cc nL (some .long)) (hW : Wd D cl AC b N sh μ H) (hS : va_S (Ar b N) s.heap H locs) (hdg : decode cc pc = .ok (.lreturn, 1)) : W p l e R s m args below meth c H locs 0 0 (MQ below (QM (Ar b N) (fun _ H => Wd D cl AC b N sh μ H) (some (.long v))) args s 0 0 (Ar b N)) (F0 m pc ls [.long v]) :=
  W.lret X.1 X.2.1 X.2.2.2.2.2.1 (fun t ht _ => ⟨rfl, by rw [ht]; exact hW, hS.F ht⟩) hS.2.2 hdg X.2.2.2.2.2.2
theorem em_f {v : UInt32} (X : Cx p s m args meth c own cc nL (some .float)) (hW : Wd D cl AC b N sh μ H) (hS : va_S (Ar b N) s.heap H locs) (hdg : decode cc pc = .ok (.freturn, 1)) : W p l e R s m args below meth c H locs 0 0 (MQ below (QM (Ar b N) (fun _ H => Wd D cl AC b N sh μ H) (some (.float v))) args s 0 0 (Ar b N)) (F0 m pc ls [.float v]) :=
  W.fret X.1 X.2.1 X.2.2.2.2.2.1 (fun t ht _ => ⟨rfl, by rw [ht]; exact hW, hS.F ht⟩) hS.2.2 hdg X.2.2.2.2.2.2
theorem em_d {v : UInt64} (X : Cx p s m args meth c own cc nL (some .double)) (hW : Wd D cl AC b N sh μ H) (hS : va_S (Ar b N) s.heap H locs) (hdg : decode cc pc = .ok (.dreturn, 1)) : W p l e R s m args below meth c H locs 0 0 (MQ below (QM (Ar b N) (fun _ H => Wd D cl AC b N sh μ H) (some (.double v))) args s 0 0 (Ar b N)) (F0 m pc ls [.double v]) :=
  W.dret X.1 X.2.1 X.2.2.2.2.2.1 (fun t ht _ => ⟨rfl, by rw [ht]; exact hW, hS.F ht⟩) hS.2.2 hdg X.2.2.2.2.2.2
theorem em_v (X : Cx p s m args meth c own cc nL none) (hW : Wd D cl AC b N sh μ H) (hS : va_S (Ar b N) s.heap H locs) (hdg : decode cc pc = .ok (.return_, 1)) : W p l e R s m args below meth c H locs 0 0 (MQ below (QM (Ar b N) (fun _ H => Wd D cl AC b N sh μ H) none) args s 0 0 (Ar b N)) (F0 m pc ls []) :=
  W.vret X.1 X.2.1 X.2.2.2.2.2.1 (fun t ht _ => ⟨rfl, by rw [ht]; exact hW, hS.F ht⟩) hS.2.2 hdg X.2.2.2.2.2.2
theorem em_a {v : Value} {rt : FieldType} (X : Cx p s m args meth c own cc nL (some rt)) (hrt : (∃ n, rt = .object n) ∨ ∃ t, rt = .array t) (hv : v = .null ∨ ∃ a, v = .ref a) (hW : Wd D cl AC b N sh μ H) (hS : va_S (Ar b N) s.heap H locs) (hdg : decode cc pc = .ok (.areturn, 1)) : W p l e R s m args below meth c H locs 0 0 (MQ below (QM (Ar b N) (fun _ H => Wd D cl AC b N sh μ H) (some v)) args s 0 0 (Ar b N)) (F0 m pc ls [v]) :=
  W.aret X.1 X.2.1 X.2.2.2.2.2.1 hrt hv (fun t ht _ => ⟨rfl, by rw [ht]; exact hW, hS.F ht⟩) hS.2.2 hdg X.2.2.2.2.2.2
-- of those that compute alone
theorem ep_i {v : Int32} (X : Cx p s m args meth c own cc nL (some .int)) (hdg : decode cc pc = .ok (.ireturn, 1)) : W p l e R s m args below meth c s.heap [] 0 0 (MQ below (QP (some (.int v))) args s 0 0 noA) (F0 m pc ls [.int v]) :=
  W.iret X.1 X.2.1 X.2.2.2.2.2.1 (fun t ht _ => ⟨rfl, ht⟩) (fun _ h => by cases h) hdg X.2.2.2.2.2.2
theorem ep_z {v : Int32} (X : Cx p s m args meth c own cc nL (some .boolean)) (hv : v = 0 ∨ v = 1) (hdg : decode cc pc = .ok (.ireturn, 1)) : W p l e R s m args below meth c s.heap [] 0 0 (MQ below (QP (some (.int v))) args s 0 0 noA) (F0 m pc ls [.int v]) :=
  W.zret X.1 X.2.1 X.2.2.2.2.2.1 (by rcases hv with rfl | rfl <;> rfl) (fun t ht _ => ⟨rfl, ht⟩) (fun _ h => by cases h) hdg X.2.2.2.2.2.2
theorem ep_l {v : Int64} (X : Cx p s m args meth c own cc nL (some .long)) (hdg : decode cc pc = .ok (.lreturn, 1)) : W p l e R s m args below meth c s.heap [] 0 0 (MQ below (QP (some (.long v))) args s 0 0 noA) (F0 m pc ls [.long v]) :=
  W.lret X.1 X.2.1 X.2.2.2.2.2.1 (fun t ht _ => ⟨rfl, ht⟩) (fun _ h => by cases h) hdg X.2.2.2.2.2.2
theorem ep_d {v : UInt64} (X : Cx p s m args meth c own cc nL (some .double)) (hdg : decode cc pc = .ok (.dreturn, 1)) : W p l e R s m args below meth c s.heap [] 0 0 (MQ below (QP (some (.double v))) args s 0 0 noA) (F0 m pc ls [.double v]) :=
  W.dret X.1 X.2.1 X.2.2.2.2.2.1 (fun t ht _ => ⟨rfl, ht⟩) (fun _ h => by cases h) hdg X.2.2.2.2.2.2
-- calls
theorem blindM (As : List Value) : FrameBlind (va_Pc As (PreM D cl tys AC b N sh nums μ)) := fun a U g mk q => ⟨q.1, q.2.1, va_K.moved (u := U) (U := U.calling g mk a) (Vm.Alike.refl U.vm) q.2.2.1, Nst.moved (u := U) (U := U.calling g mk a) (Vm.Alike.refl U.vm) q.2.2.2⟩
theorem blindP (As : List Value) : FrameBlind (va_Pc As (fun U => Nst noA nums U U.heap)) := fun a U g mk q => ⟨q.1, Nst.moved (u := U) (U := U.calling g mk a) (Vm.Alike.refl U.vm) q.2⟩
theorem preM {U : State} (hK : va_K D cl tys s) (hN : Nst (Ar b N) nums s s.heap) (hW : Wd D cl AC b N sh μ H) (hS : va_S (Ar b N) s.heap H locs) (hU : U.heap = H) (hw : s.WarmedH U.vm) : PreM D cl tys AC b N sh nums μ U := by
  refine ⟨by rw [hU]; exact hW, hK.moved hw.alike, ?_⟩
  rw [hU]
  exact (hN.kept hS.2.1).moved hw.alike
/-- a virtual call on an object of the block -/
theorem cMV {index k n ci : Nat} {T : u_T} {M : Nat} {As : List Value} (X : Cx p s m args meth c own cc nL ret) (hK : va_K D cl tys s) (hN : Nst (Ar b N) nums s s.heap) (hW : Wd D cl AC b N sh μ H) (hS : va_S (Ar b N) s.heap H locs) (hM : MM l y bytes maxL ret' d D cl tys AC b N sh nums (.ref (b + k) :: As) μ r μ')
    (hk : k < N) (hs : (sh k).1 = 10 + ci) (hcl : cl[ci]? = some (y.cls, T, M)) (hc : Cond.code y bytes maxL ret' ∈ LW) (hl : Cond.methodLink own index y ∈ LW) (hi : Cond.initialized y.cls ∈ LW) (hin : Cond.instanceMethod y ∈ LW) (hse : Cond.selects y.cls y y ∈ LW)
    (hd : y.cls ≠ "java/lang/invoke/MethodHandle" ∧ y.cls ≠ "java/lang/invoke/VarHandle" ∧ (parseMethodDescriptor y.desc).map (fun d => d.parameters.length) = some n) (hn : As.length = n) (hR : d + 1 ≤ d') (hm : maxL ≤ 45) (hls : ls.size = nL) (hst : st0 = As.reverse ++ .ref (b + k) :: rest) (hcat : (rest.map fun v => v.category).sum ≤ 8) (hdg : decode cc pc = .ok (.invokevirtual index, 3))
    (kk : ∀ (H1 : Heap) (locs1 : List Loc), Wd D cl AC b N sh μ' H1 → va_S (Ar b N) s.heap H1 locs1 → W p l e (rmd d') s m args below meth c H1 locs1 0 0 Q (F0 m (pc + 3) ls (r.toList ++ rest))) : W p l e (rmd d') s m args below meth c H locs 0 0 Q (F0 m pc ls st0) := by
  refine k_m (va_runV (As := As) (rest := rest) (C := y.cls) ⟨X.1, X.2.1, X.2.2.1, X.2.2.2.1, X.2.2.2.2.1⟩ hM ⟨cB X n hc hl hi hd hR hm, X.2.2.2.2.1 _ hin, X.2.2.2.2.1 _ hse⟩ ⟨blindM _, va_recv hK hW hcl ((wl_at hk).trans (by rw [cE_o hs])), fun U hU hw => ⟨rfl, preM hK hN hW hS hU hw⟩⟩ rfl hn hls hst (lv_room hcat) hdg ⟨Nat.le_refl _, Nat.le_refl _⟩) (fun _ h => h) hS (fun t locs1 hF _ hS1 => ?_)
  exact kk t.heap locs1 hF hS1
/-- a static call of a method that may write -/
theorem cMS {index n : Nat} {As : List Value} (X : Cx p s m args meth c own cc nL ret) (hK : va_K D cl tys s) (hN : Nst (Ar b N) nums s s.heap) (hW : Wd D cl AC b N sh μ H) (hS : va_S (Ar b N) s.heap H locs) (hM : MM l y bytes maxL ret' d D cl tys AC b N sh nums As μ r μ')
    (hc : Cond.code y bytes maxL ret' ∈ LW) (hl : Cond.methodLink own index y ∈ LW) (hi : Cond.initialized y.cls ∈ LW) (hstt : Cond.static y ∈ LW)
    (hd : y.cls ≠ "java/lang/invoke/MethodHandle" ∧ y.cls ≠ "java/lang/invoke/VarHandle" ∧ (parseMethodDescriptor y.desc).map (fun d => d.parameters.length) = some n) (hn : As.length = n) (hR : d + 1 ≤ d') (hm : maxL ≤ 45) (hls : ls.size = nL) (hst : st0 = As.reverse ++ rest) (hcat : (rest.map fun v => v.category).sum ≤ 8) (hdg : decode cc pc = .ok (.invokestatic index, 3))
    (kk : ∀ (H1 : Heap) (locs1 : List Loc), Wd D cl AC b N sh μ' H1 → va_S (Ar b N) s.heap H1 locs1 → W p l e (rmd d') s m args below meth c H1 locs1 0 0 Q (F0 m (pc + 3) ls (r.toList ++ rest))) : W p l e (rmd d') s m args below meth c H locs 0 0 Q (F0 m pc ls st0) := by
  refine k_m (va_runS (As := As) (rest := rest) ⟨X.1, X.2.1, X.2.2.1, X.2.2.2.1, X.2.2.2.2.1⟩ hM ⟨cB X n hc hl hi hd hR hm, X.2.2.2.2.1 _ hstt⟩ ⟨blindM _, fun U hU hw => ⟨rfl, preM hK hN hW hS hU hw⟩⟩ rfl hn hls hst (lv_room hcat) hdg ⟨Nat.le_refl _, Nat.le_refl _⟩) (fun _ h => h) hS (fun t locs1 hF _ hS1 => ?_)
  exact kk t.heap locs1 hF hS1
/-- a static call of one that computes alone, out of any method -/
theorem cPS {index n : Nat} {As : List Value} {A : Nat → Prop} (X : Cx p s m args meth c own cc nL ret) (hN : Nst A nums s s.heap) (hS : va_S A s.heap H locs) (hM : MP l y bytes maxL ret' d nums As r)
    (hc : Cond.code y bytes maxL ret' ∈ LW) (hl : Cond.methodLink own index y ∈ LW) (hi : Cond.initialized y.cls ∈ LW) (hstt : Cond.static y ∈ LW)
    (hd : y.cls ≠ "java/lang/invoke/MethodHandle" ∧ y.cls ≠ "java/lang/invoke/VarHandle" ∧ (parseMethodDescriptor y.desc).map (fun d => d.parameters.length) = some n) (hn : As.length = n) (hR : d + 1 ≤ d') (hm : maxL ≤ 45) (hls : ls.size = nL) (hst : st0 = As.reverse ++ rest) (hcat : (rest.map fun v => v.category).sum ≤ 8) (hdg : decode cc pc = .ok (.invokestatic index, 3))
    (kk : W p l e (rmd d') s m args below meth c H locs 0 0 Q (F0 m (pc + 3) ls (r.toList ++ rest))) : W p l e (rmd d') s m args below meth c H locs 0 0 Q (F0 m pc ls st0) := by
  refine k_p (va_runS (As := As) (rest := rest) ⟨X.1, X.2.1, X.2.2.1, X.2.2.2.1, X.2.2.2.2.1⟩ hM ⟨cB X n hc hl hi hd hR hm, X.2.2.2.2.1 _ hstt⟩ ⟨blindP _, fun U hU hw => ⟨rfl, ?_⟩⟩ rfl hn hls hst (lv_room hcat) hdg ⟨Nat.le_refl _, Nat.le_refl _⟩) kk
  show Nst noA nums U U.heap
  rw [hU]
  exact ((hN.kept hS.2.1).narrow (fun _ h => h.elim)).moved hw.alike
end ENDS
end MK
/-! computing with partial answers -/
def bnd {α β : Type} (e : α) (f : α → Option β) : Option β := f e
def grd {β : Type} (q : Bool) (r : Option β) : Option β := match q with
  | true => r
  | false => none
theorem bnd_e {α β : Type} {e : α} {f : α → Option β} {r : Option β} (h : bnd e f = r) : ∃ x, x = e ∧ f x = r := ⟨e, rfl, h⟩
theorem bnd_v {α β : Type} {e x : α} {f : α → Option β} {r : Option β} (hx : x = e) (h : bnd e f = r) : f x = r := by subst hx; exact h
theorem grd_e {β : Type} {q : Bool} {f : Option β} {r : β} (h : grd q f = some r) : q = true ∧ f = some r := by
  cases q with
  | true => exact ⟨rfl, h⟩
  | false => cases h
theorem bind_e {α β : Type} {o : Option α} {f : α → Option β} {r : β} (h : o.bind f = some r) : ∃ x, o = some x ∧ f x = some r := by
  cases o with
  | none => cases h
  | some x => exact ⟨x, rfl, h⟩
theorem ite_t {β : Type} {c : Prop} [Decidable c] {x y r : β} (hc : c) (h : (if c then x else y) = r) : x = r := by rwa [if_pos hc] at h
theorem ite_f {β : Type} {c : Prop} [Decidable c] {x y r : β} (hc : ¬ c) (h : (if c then x else y) = r) : y = r := by rwa [if_neg hc] at h
def inb (i : Int32) (n : Nat) : Bool := !(decide (i < 0) || decide (n ≤ i.toNatClampNeg))
theorem inb_in {i : Int32} {n : Nat} (h : inb i n = true) : vp_in i n := by
  simpa [inb, vp_in] using h
def isb (x : Int32) : Bool := decide (x = 0) || decide (x = 1)
theorem isb_or {x : Int32} (h : isb x = true) : x = 0 ∨ x = 1 := by simpa [isb] using h
theorem isb_n {x : Int32} (h : isb x = true) : narrow .boolean (.int x) = .int x := by rcases isb_or h with rfl | rfl <;> rfl
theorem isb_v {x : Int32} (h : isb x = true) : vp_nar .boolean x = x := by rcases isb_or h with rfl | rfl <;> rfl
theorem isb_f {x : Int32} (h : isb x = true) : fits .boolean (.int x) = true := by rcases isb_or h with rfl | rfl <;> rfl
end
