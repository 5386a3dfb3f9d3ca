section
-- ===== PART A: goes FIRST, ahead of the names: the tables' words, and 'selects' of the private methods out of them =====
/-- a private method of a class that the tables say can be made, by its rows of tables_1 -/
def lw_okq (q : MethodName × Nat) : Prop := (q.1.cls ≠ "java/lang/invoke/MethodHandle" ∧ q.1.cls ≠ "java/lang/invoke/VarHandle") ∧ Cond.instantiable q.1.cls q.2 ∈ tables_1 ∧ Cond.privateMethod q.1 ∈ tables_1 ∧ Cond.instanceMethod q.1 ∈ tables_1
theorem lw_p0 : lw_okq (⟨"ClueLogic$Orders", "fill", "(II)V"⟩, 5) := ⟨⟨by decide +kernel, by decide +kernel⟩, List.mem_of_getElem? (i := 38) (by decide +kernel), List.mem_of_getElem? (i := 44) (by decide +kernel), List.mem_of_getElem? (i := 45) (by decide +kernel)⟩
theorem lw_p1 : lw_okq (⟨"ClueLogic$Orders", "add", "(I)V"⟩, 5) := ⟨⟨by decide +kernel, by decide +kernel⟩, List.mem_of_getElem? (i := 38) (by decide +kernel), List.mem_of_getElem? (i := 48) (by decide +kernel), List.mem_of_getElem? (i := 49) (by decide +kernel)⟩
theorem lw_p2 : lw_okq (⟨"ClueLogic", "begin", "(LClueLogic$Puzzle;)V"⟩, 6) := ⟨⟨by decide +kernel, by decide +kernel⟩, List.mem_of_getElem? (i := 22) (by decide +kernel), List.mem_of_getElem? (i := 94) (by decide +kernel), List.mem_of_getElem? (i := 95) (by decide +kernel)⟩
theorem lw_p3 : lw_okq (⟨"ClueLogic$Crossing", "waysIn", "(I)I"⟩, 10) := ⟨⟨by decide +kernel, by decide +kernel⟩, List.mem_of_getElem? (i := 169) (by decide +kernel), List.mem_of_getElem? (i := 189) (by decide +kernel), List.mem_of_getElem? (i := 190) (by decide +kernel)⟩
theorem lw_p4 : lw_okq (⟨"ClueLogic$Reader", "passHead", "()Z"⟩, 7) := ⟨⟨by decide +kernel, by decide +kernel⟩, List.mem_of_getElem? (i := 257) (by decide +kernel), List.mem_of_getElem? (i := 289) (by decide +kernel), List.mem_of_getElem? (i := 290) (by decide +kernel)⟩
theorem lw_p5 : lw_okq (⟨"ClueLogic$Reader", "take", "(III)I"⟩, 7) := ⟨⟨by decide +kernel, by decide +kernel⟩, List.mem_of_getElem? (i := 257) (by decide +kernel), List.mem_of_getElem? (i := 293) (by decide +kernel), List.mem_of_getElem? (i := 294) (by decide +kernel)⟩
theorem lw_p6 : lw_okq (⟨"ClueLogic$Reader", "passSemicolon", "()Z"⟩, 7) := ⟨⟨by decide +kernel, by decide +kernel⟩, List.mem_of_getElem? (i := 257) (by decide +kernel), List.mem_of_getElem? (i := 297) (by decide +kernel), List.mem_of_getElem? (i := 298) (by decide +kernel)⟩
theorem lw_p7 : lw_okq (⟨"ClueLogic$Reader", "clue", "()LClueLogic$Clue;"⟩, 7) := ⟨⟨by decide +kernel, by decide +kernel⟩, List.mem_of_getElem? (i := 257) (by decide +kernel), List.mem_of_getElem? (i := 303) (by decide +kernel), List.mem_of_getElem? (i := 304) (by decide +kernel)⟩
theorem lw_p8 : lw_okq (⟨"ClueLogic$Reader", "ofPerson", "()LClueLogic$Clue;"⟩, 7) := ⟨⟨by decide +kernel, by decide +kernel⟩, List.mem_of_getElem? (i := 257) (by decide +kernel), List.mem_of_getElem? (i := 394) (by decide +kernel), List.mem_of_getElem? (i := 395) (by decide +kernel)⟩
theorem lw_p9 : lw_okq (⟨"ClueLogic$Reader", "saying", "()LClueLogic$Clue;"⟩, 7) := ⟨⟨by decide +kernel, by decide +kernel⟩, List.mem_of_getElem? (i := 257) (by decide +kernel), List.mem_of_getElem? (i := 410) (by decide +kernel), List.mem_of_getElem? (i := 411) (by decide +kernel)⟩
theorem lw_p10 : lw_okq (⟨"ClueLogic$Reader", "turned", "(I)LClueLogic$Clue;"⟩, 7) := ⟨⟨by decide +kernel, by decide +kernel⟩, List.mem_of_getElem? (i := 257) (by decide +kernel), List.mem_of_getElem? (i := 415) (by decide +kernel), List.mem_of_getElem? (i := 416) (by decide +kernel)⟩
theorem lw_p11 : lw_okq (⟨"ClueLogic$Reader", "joined", "(Z)LClueLogic$Clue;"⟩, 7) := ⟨⟨by decide +kernel, by decide +kernel⟩, List.mem_of_getElem? (i := 257) (by decide +kernel), List.mem_of_getElem? (i := 432) (by decide +kernel), List.mem_of_getElem? (i := 433) (by decide +kernel)⟩
theorem lw_p12 : lw_okq (⟨"ClueLogic$Reader", "ofValues", "(I)LClueLogic$Clue;"⟩, 7) := ⟨⟨by decide +kernel, by decide +kernel⟩, List.mem_of_getElem? (i := 257) (by decide +kernel), List.mem_of_getElem? (i := 452) (by decide +kernel), List.mem_of_getElem? (i := 453) (by decide +kernel)⟩
theorem lw_p13 : lw_okq (⟨"ClueLogic$Reader", "takeValue", "()I"⟩, 7) := ⟨⟨by decide +kernel, by decide +kernel⟩, List.mem_of_getElem? (i := 257) (by decide +kernel), List.mem_of_getElem? (i := 456) (by decide +kernel), List.mem_of_getElem? (i := 457) (by decide +kernel)⟩
theorem lw_p14 : lw_okq (⟨"ClueLogic$Walk", "chooseOrders", "(II)I"⟩, 6) := ⟨⟨by decide +kernel, by decide +kernel⟩, List.mem_of_getElem? (i := 104) (by decide +kernel), List.mem_of_getElem? (i := 515) (by decide +kernel), List.mem_of_getElem? (i := 516) (by decide +kernel)⟩
theorem lw_p15 : lw_okq (⟨"ClueLogic$Walk", "go", "(II)V"⟩, 6) := ⟨⟨by decide +kernel, by decide +kernel⟩, List.mem_of_getElem? (i := 104) (by decide +kernel), List.mem_of_getElem? (i := 531) (by decide +kernel), List.mem_of_getElem? (i := 532) (by decide +kernel)⟩
def lw_privs_1 : List (MethodName × Nat) := [(⟨"ClueLogic$Orders", "fill", "(II)V"⟩, 5), (⟨"ClueLogic$Orders", "add", "(I)V"⟩, 5), (⟨"ClueLogic", "begin", "(LClueLogic$Puzzle;)V"⟩, 6), (⟨"ClueLogic$Crossing", "waysIn", "(I)I"⟩, 10), (⟨"ClueLogic$Reader", "passHead", "()Z"⟩, 7), (⟨"ClueLogic$Reader", "take", "(III)I"⟩, 7), (⟨"ClueLogic$Reader", "passSemicolon", "()Z"⟩, 7), (⟨"ClueLogic$Reader", "clue", "()LClueLogic$Clue;"⟩, 7), (⟨"ClueLogic$Reader", "ofPerson", "()LClueLogic$Clue;"⟩, 7), (⟨"ClueLogic$Reader", "saying", "()LClueLogic$Clue;"⟩, 7), (⟨"ClueLogic$Reader", "turned", "(I)LClueLogic$Clue;"⟩, 7), (⟨"ClueLogic$Reader", "joined", "(Z)LClueLogic$Clue;"⟩, 7), (⟨"ClueLogic$Reader", "ofValues", "(I)LClueLogic$Clue;"⟩, 7), (⟨"ClueLogic$Reader", "takeValue", "()I"⟩, 7), (⟨"ClueLogic$Walk", "chooseOrders", "(II)I"⟩, 6), (⟨"ClueLogic$Walk", "go", "(II)V"⟩, 6)]
theorem lw_r1 : ∀ q ∈ lw_privs_1, lw_okq q := List.forall_mem_cons.mpr ⟨lw_p0, List.forall_mem_cons.mpr ⟨lw_p1, List.forall_mem_cons.mpr ⟨lw_p2, List.forall_mem_cons.mpr ⟨lw_p3, List.forall_mem_cons.mpr ⟨lw_p4, List.forall_mem_cons.mpr ⟨lw_p5, List.forall_mem_cons.mpr ⟨lw_p6, List.forall_mem_cons.mpr ⟨lw_p7, List.forall_mem_cons.mpr ⟨lw_p8, List.forall_mem_cons.mpr ⟨lw_p9, List.forall_mem_cons.mpr ⟨lw_p10, List.forall_mem_cons.mpr ⟨lw_p11, List.forall_mem_cons.mpr ⟨lw_p12, List.forall_mem_cons.mpr ⟨lw_p13, List.forall_mem_cons.mpr ⟨lw_p14, List.forall_mem_cons.mpr ⟨lw_p15, fun _ h => absurd h List.not_mem_nil⟩⟩⟩⟩⟩⟩⟩⟩⟩⟩⟩⟩⟩⟩⟩⟩
theorem lw_p16 : lw_okq (⟨"ClueLogic$Answers", "weigh", "()V"⟩, 10) := ⟨⟨by decide +kernel, by decide +kernel⟩, List.mem_of_getElem? (i := 98) (by decide +kernel), List.mem_of_getElem? (i := 547) (by decide +kernel), List.mem_of_getElem? (i := 548) (by decide +kernel)⟩
theorem lw_p17 : lw_okq (⟨"ClueLogic$OfValues", "relates", "(II)Z"⟩, 3) := ⟨⟨by decide +kernel, by decide +kernel⟩, List.mem_of_getElem? (i := 460) (by decide +kernel), List.mem_of_getElem? (i := 585) (by decide +kernel), List.mem_of_getElem? (i := 586) (by decide +kernel)⟩
theorem lw_p18 : lw_okq (⟨"ClueLogic$Answers", "add", "(I)V"⟩, 10) := ⟨⟨by decide +kernel, by decide +kernel⟩, List.mem_of_getElem? (i := 98) (by decide +kernel), List.mem_of_getElem? (i := 597) (by decide +kernel), List.mem_of_getElem? (i := 598) (by decide +kernel)⟩
theorem lw_p19 : lw_okq (⟨"ClueLogic$Answers", "keep", "(I)V"⟩, 10) := ⟨⟨by decide +kernel, by decide +kernel⟩, List.mem_of_getElem? (i := 98) (by decide +kernel), List.mem_of_getElem? (i := 604) (by decide +kernel), List.mem_of_getElem? (i := 605) (by decide +kernel)⟩
theorem lw_p20 : lw_okq (⟨"ClueLogic$Answers", "need", "(I)V"⟩, 10) := ⟨⟨by decide +kernel, by decide +kernel⟩, List.mem_of_getElem? (i := 98) (by decide +kernel), List.mem_of_getElem? (i := 608) (by decide +kernel), List.mem_of_getElem? (i := 609) (by decide +kernel)⟩
theorem lw_p21 : lw_okq (⟨"ClueLogic", "isKept", "(I)Z"⟩, 6) := ⟨⟨by decide +kernel, by decide +kernel⟩, List.mem_of_getElem? (i := 22) (by decide +kernel), List.mem_of_getElem? (i := 624) (by decide +kernel), List.mem_of_getElem? (i := 625) (by decide +kernel)⟩
theorem lw_p22 : lw_okq (⟨"ClueLogic$Crossing", "takeStep", "()Z"⟩, 10) := ⟨⟨by decide +kernel, by decide +kernel⟩, List.mem_of_getElem? (i := 169) (by decide +kernel), List.mem_of_getElem? (i := 691) (by decide +kernel), List.mem_of_getElem? (i := 692) (by decide +kernel)⟩
theorem lw_p23 : lw_okq (⟨"ClueLogic$Crossing", "look", "(LClueLogic$Clue;I)V"⟩, 10) := ⟨⟨by decide +kernel, by decide +kernel⟩, List.mem_of_getElem? (i := 169) (by decide +kernel), List.mem_of_getElem? (i := 698) (by decide +kernel), List.mem_of_getElem? (i := 699) (by decide +kernel)⟩
theorem lw_p24 : lw_okq (⟨"ClueLogic$Crossing", "openParties", "()I"⟩, 10) := ⟨⟨by decide +kernel, by decide +kernel⟩, List.mem_of_getElem? (i := 169) (by decide +kernel), List.mem_of_getElem? (i := 703) (by decide +kernel), List.mem_of_getElem? (i := 704) (by decide +kernel)⟩
theorem lw_p25 : lw_okq (⟨"ClueLogic$Crossing", "seeLayout", "()V"⟩, 10) := ⟨⟨by decide +kernel, by decide +kernel⟩, List.mem_of_getElem? (i := 169) (by decide +kernel), List.mem_of_getElem? (i := 715) (by decide +kernel), List.mem_of_getElem? (i := 716) (by decide +kernel)⟩
theorem lw_p26 : lw_okq (⟨"ClueLogic$Crossing", "countUnseen", "()I"⟩, 10) := ⟨⟨by decide +kernel, by decide +kernel⟩, List.mem_of_getElem? (i := 169) (by decide +kernel), List.mem_of_getElem? (i := 722) (by decide +kernel), List.mem_of_getElem? (i := 723) (by decide +kernel)⟩
theorem lw_p27 : lw_okq (⟨"ClueLogic$Crossing", "crossOut", "(II)V"⟩, 10) := ⟨⟨by decide +kernel, by decide +kernel⟩, List.mem_of_getElem? (i := 169) (by decide +kernel), List.mem_of_getElem? (i := 727) (by decide +kernel), List.mem_of_getElem? (i := 728) (by decide +kernel)⟩
theorem lw_p28 : lw_okq (⟨"ClueLogicModel", "fresh", "()V"⟩, 36) := ⟨⟨by decide +kernel, by decide +kernel⟩, List.mem_of_getElem? (i := 760) (by decide +kernel), List.mem_of_getElem? (i := 767) (by decide +kernel), List.mem_of_getElem? (i := 768) (by decide +kernel)⟩
theorem lw_p29 : lw_okq (⟨"ClueLogicModel", "all", "()V"⟩, 36) := ⟨⟨by decide +kernel, by decide +kernel⟩, List.mem_of_getElem? (i := 760) (by decide +kernel), List.mem_of_getElem? (i := 771) (by decide +kernel), List.mem_of_getElem? (i := 772) (by decide +kernel)⟩
theorem lw_p30 : lw_okq (⟨"ClueLogicModel", "readAll", "()Z"⟩, 36) := ⟨⟨by decide +kernel, by decide +kernel⟩, List.mem_of_getElem? (i := 760) (by decide +kernel), List.mem_of_getElem? (i := 892) (by decide +kernel), List.mem_of_getElem? (i := 893) (by decide +kernel)⟩
theorem lw_p31 : lw_okq (⟨"ClueLogicModel", "digit", "(II)I"⟩, 36) := ⟨⟨by decide +kernel, by decide +kernel⟩, List.mem_of_getElem? (i := 760) (by decide +kernel), List.mem_of_getElem? (i := 896) (by decide +kernel), List.mem_of_getElem? (i := 897) (by decide +kernel)⟩
def lw_privs_2 : List (MethodName × Nat) := [(⟨"ClueLogic$Answers", "weigh", "()V"⟩, 10), (⟨"ClueLogic$OfValues", "relates", "(II)Z"⟩, 3), (⟨"ClueLogic$Answers", "add", "(I)V"⟩, 10), (⟨"ClueLogic$Answers", "keep", "(I)V"⟩, 10), (⟨"ClueLogic$Answers", "need", "(I)V"⟩, 10), (⟨"ClueLogic", "isKept", "(I)Z"⟩, 6), (⟨"ClueLogic$Crossing", "takeStep", "()Z"⟩, 10), (⟨"ClueLogic$Crossing", "look", "(LClueLogic$Clue;I)V"⟩, 10), (⟨"ClueLogic$Crossing", "openParties", "()I"⟩, 10), (⟨"ClueLogic$Crossing", "seeLayout", "()V"⟩, 10), (⟨"ClueLogic$Crossing", "countUnseen", "()I"⟩, 10), (⟨"ClueLogic$Crossing", "crossOut", "(II)V"⟩, 10), (⟨"ClueLogicModel", "fresh", "()V"⟩, 36), (⟨"ClueLogicModel", "all", "()V"⟩, 36), (⟨"ClueLogicModel", "readAll", "()Z"⟩, 36), (⟨"ClueLogicModel", "digit", "(II)I"⟩, 36)]
theorem lw_r2 : ∀ q ∈ lw_privs_2, lw_okq q := List.forall_mem_cons.mpr ⟨lw_p16, List.forall_mem_cons.mpr ⟨lw_p17, List.forall_mem_cons.mpr ⟨lw_p18, List.forall_mem_cons.mpr ⟨lw_p19, List.forall_mem_cons.mpr ⟨lw_p20, List.forall_mem_cons.mpr ⟨lw_p21, List.forall_mem_cons.mpr ⟨lw_p22, List.forall_mem_cons.mpr ⟨lw_p23, List.forall_mem_cons.mpr ⟨lw_p24, List.forall_mem_cons.mpr ⟨lw_p25, List.forall_mem_cons.mpr ⟨lw_p26, List.forall_mem_cons.mpr ⟨lw_p27, List.forall_mem_cons.mpr ⟨lw_p28, List.forall_mem_cons.mpr ⟨lw_p29, List.forall_mem_cons.mpr ⟨lw_p30, List.forall_mem_cons.mpr ⟨lw_p31, fun _ h => absurd h List.not_mem_nil⟩⟩⟩⟩⟩⟩⟩⟩⟩⟩⟩⟩⟩⟩⟩⟩
theorem lw_p32 : lw_okq (⟨"ClueLogicModel", "byteAt", "(I)I"⟩, 36) := ⟨⟨by decide +kernel, by decide +kernel⟩, List.mem_of_getElem? (i := 760) (by decide +kernel), List.mem_of_getElem? (i := 900) (by decide +kernel), List.mem_of_getElem? (i := 901) (by decide +kernel)⟩
theorem lw_p33 : lw_okq (⟨"ClueLogicModel", "readClue", "()Z"⟩, 36) := ⟨⟨by decide +kernel, by decide +kernel⟩, List.mem_of_getElem? (i := 760) (by decide +kernel), List.mem_of_getElem? (i := 904) (by decide +kernel), List.mem_of_getElem? (i := 905) (by decide +kernel)⟩
theorem lw_p34 : lw_okq (⟨"ClueLogicModel", "value", "()I"⟩, 36) := ⟨⟨by decide +kernel, by decide +kernel⟩, List.mem_of_getElem? (i := 760) (by decide +kernel), List.mem_of_getElem? (i := 911) (by decide +kernel), List.mem_of_getElem? (i := 912) (by decide +kernel)⟩
theorem lw_p35 : lw_okq (⟨"ClueLogicModel", "know", "()V"⟩, 36) := ⟨⟨by decide +kernel, by decide +kernel⟩, List.mem_of_getElem? (i := 760) (by decide +kernel), List.mem_of_getElem? (i := 923) (by decide +kernel), List.mem_of_getElem? (i := 924) (by decide +kernel)⟩
theorem lw_p36 : lw_okq (⟨"ClueLogicModel", "order", "()V"⟩, 36) := ⟨⟨by decide +kernel, by decide +kernel⟩, List.mem_of_getElem? (i := 760) (by decide +kernel), List.mem_of_getElem? (i := 927) (by decide +kernel), List.mem_of_getElem? (i := 928) (by decide +kernel)⟩
theorem lw_p37 : lw_okq (⟨"ClueLogicModel", "states", "()I"⟩, 36) := ⟨⟨by decide +kernel, by decide +kernel⟩, List.mem_of_getElem? (i := 760) (by decide +kernel), List.mem_of_getElem? (i := 931) (by decide +kernel), List.mem_of_getElem? (i := 932) (by decide +kernel)⟩
theorem lw_p38 : lw_okq (⟨"ClueLogicModel", "isSo", "(II)Z"⟩, 36) := ⟨⟨by decide +kernel, by decide +kernel⟩, List.mem_of_getElem? (i := 760) (by decide +kernel), List.mem_of_getElem? (i := 935) (by decide +kernel), List.mem_of_getElem? (i := 936) (by decide +kernel)⟩
theorem lw_p39 : lw_okq (⟨"ClueLogicModel", "seat", "(II)I"⟩, 36) := ⟨⟨by decide +kernel, by decide +kernel⟩, List.mem_of_getElem? (i := 760) (by decide +kernel), List.mem_of_getElem? (i := 939) (by decide +kernel), List.mem_of_getElem? (i := 940) (by decide +kernel)⟩
theorem lw_p40 : lw_okq (⟨"ClueLogicModel", "orderOf", "(II)I"⟩, 36) := ⟨⟨by decide +kernel, by decide +kernel⟩, List.mem_of_getElem? (i := 760) (by decide +kernel), List.mem_of_getElem? (i := 943) (by decide +kernel), List.mem_of_getElem? (i := 944) (by decide +kernel)⟩
theorem lw_p41 : lw_okq (⟨"ClueLogicModel", "isTruthful", "(II)Z"⟩, 36) := ⟨⟨by decide +kernel, by decide +kernel⟩, List.mem_of_getElem? (i := 760) (by decide +kernel), List.mem_of_getElem? (i := 947) (by decide +kernel), List.mem_of_getElem? (i := 948) (by decide +kernel)⟩
theorem lw_p42 : lw_okq (⟨"ClueLogicModel", "isAnswer", "(I)Z"⟩, 36) := ⟨⟨by decide +kernel, by decide +kernel⟩, List.mem_of_getElem? (i := 760) (by decide +kernel), List.mem_of_getElem? (i := 951) (by decide +kernel), List.mem_of_getElem? (i := 952) (by decide +kernel)⟩
theorem lw_p43 : lw_okq (⟨"ClueLogicModel", "isKept", "(I)Z"⟩, 36) := ⟨⟨by decide +kernel, by decide +kernel⟩, List.mem_of_getElem? (i := 760) (by decide +kernel), List.mem_of_getElem? (i := 959) (by decide +kernel), List.mem_of_getElem? (i := 960) (by decide +kernel)⟩
theorem lw_p44 : lw_okq (⟨"ClueLogicModel", "isOf", "(II)Z"⟩, 36) := ⟨⟨by decide +kernel, by decide +kernel⟩, List.mem_of_getElem? (i := 760) (by decide +kernel), List.mem_of_getElem? (i := 963) (by decide +kernel), List.mem_of_getElem? (i := 964) (by decide +kernel)⟩
theorem lw_p45 : lw_okq (⟨"ClueLogicModel", "valueOf", "(III)I"⟩, 36) := ⟨⟨by decide +kernel, by decide +kernel⟩, List.mem_of_getElem? (i := 760) (by decide +kernel), List.mem_of_getElem? (i := 967) (by decide +kernel), List.mem_of_getElem? (i := 968) (by decide +kernel)⟩
theorem lw_p46 : lw_okq (⟨"ClueLogicModel", "isPerson", "(I)Z"⟩, 36) := ⟨⟨by decide +kernel, by decide +kernel⟩, List.mem_of_getElem? (i := 760) (by decide +kernel), List.mem_of_getElem? (i := 975) (by decide +kernel), List.mem_of_getElem? (i := 976) (by decide +kernel)⟩
theorem lw_p47 : lw_okq (⟨"ClueLogicModel", "crossBy", "(I)I"⟩, 36) := ⟨⟨by decide +kernel, by decide +kernel⟩, List.mem_of_getElem? (i := 760) (by decide +kernel), List.mem_of_getElem? (i := 991) (by decide +kernel), List.mem_of_getElem? (i := 992) (by decide +kernel)⟩
def lw_privs_3 : List (MethodName × Nat) := [(⟨"ClueLogicModel", "byteAt", "(I)I"⟩, 36), (⟨"ClueLogicModel", "readClue", "()Z"⟩, 36), (⟨"ClueLogicModel", "value", "()I"⟩, 36), (⟨"ClueLogicModel", "know", "()V"⟩, 36), (⟨"ClueLogicModel", "order", "()V"⟩, 36), (⟨"ClueLogicModel", "states", "()I"⟩, 36), (⟨"ClueLogicModel", "isSo", "(II)Z"⟩, 36), (⟨"ClueLogicModel", "seat", "(II)I"⟩, 36), (⟨"ClueLogicModel", "orderOf", "(II)I"⟩, 36), (⟨"ClueLogicModel", "isTruthful", "(II)Z"⟩, 36), (⟨"ClueLogicModel", "isAnswer", "(I)Z"⟩, 36), (⟨"ClueLogicModel", "isKept", "(I)Z"⟩, 36), (⟨"ClueLogicModel", "isOf", "(II)Z"⟩, 36), (⟨"ClueLogicModel", "valueOf", "(III)I"⟩, 36), (⟨"ClueLogicModel", "isPerson", "(I)Z"⟩, 36), (⟨"ClueLogicModel", "crossBy", "(I)I"⟩, 36)]
theorem lw_r3 : ∀ q ∈ lw_privs_3, lw_okq q := List.forall_mem_cons.mpr ⟨lw_p32, List.forall_mem_cons.mpr ⟨lw_p33, List.forall_mem_cons.mpr ⟨lw_p34, List.forall_mem_cons.mpr ⟨lw_p35, List.forall_mem_cons.mpr ⟨lw_p36, List.forall_mem_cons.mpr ⟨lw_p37, List.forall_mem_cons.mpr ⟨lw_p38, List.forall_mem_cons.mpr ⟨lw_p39, List.forall_mem_cons.mpr ⟨lw_p40, List.forall_mem_cons.mpr ⟨lw_p41, List.forall_mem_cons.mpr ⟨lw_p42, List.forall_mem_cons.mpr ⟨lw_p43, List.forall_mem_cons.mpr ⟨lw_p44, List.forall_mem_cons.mpr ⟨lw_p45, List.forall_mem_cons.mpr ⟨lw_p46, List.forall_mem_cons.mpr ⟨lw_p47, fun _ h => absurd h List.not_mem_nil⟩⟩⟩⟩⟩⟩⟩⟩⟩⟩⟩⟩⟩⟩⟩⟩
theorem lw_p48 : lw_okq (⟨"ClueLogicModel", "isOpen", "(I)Z"⟩, 36) := ⟨⟨by decide +kernel, by decide +kernel⟩, List.mem_of_getElem? (i := 760) (by decide +kernel), List.mem_of_getElem? (i := 995) (by decide +kernel), List.mem_of_getElem? (i := 996) (by decide +kernel)⟩
def lw_privs_4 : List (MethodName × Nat) := [(⟨"ClueLogicModel", "isOpen", "(I)Z"⟩, 36)]
theorem lw_r4 : ∀ q ∈ lw_privs_4, lw_okq q := List.forall_mem_cons.mpr ⟨lw_p48, fun _ h => absurd h List.not_mem_nil⟩
def lw_privs : List (MethodName × Nat) := lw_privs_1 ++ (lw_privs_2 ++ (lw_privs_3 ++ (lw_privs_4)))
def lw_tbl : List Cond := k2_sels lw_privs ++ tables_1
theorem lw_privs_ok : ∀ q ∈ lw_privs, lw_okq q := by
  show ∀ q ∈ lw_privs_1 ++ (lw_privs_2 ++ (lw_privs_3 ++ (lw_privs_4))), lw_okq q
  exact List.forall_mem_append.mpr ⟨lw_r1, List.forall_mem_append.mpr ⟨lw_r2, List.forall_mem_append.mpr ⟨lw_r3, lw_r4⟩⟩⟩
end
section
def GW : List Cond := lw_tbl.filter goodWord
theorem mwT {w : Cond} (i : Nat) (h : tables_1[i]? = some w) (g : goodWord w = true) : w ∈ GW := List.mem_filter.mpr ⟨List.mem_append_right _ (List.mem_of_getElem? h), g⟩
theorem mwS {q : MethodName × Nat} (i : Nat) (h : lw_privs[i]? = some q) : Cond.selects q.1.cls q.1 q.1 ∈ GW := List.mem_filter.mpr ⟨List.mem_append_left _ (List.mem_map.mpr ⟨q, List.mem_of_getElem? h, rfl⟩), rfl⟩
abbrev MI : Type := MethodName × ByteArray × Nat × Option FieldType
def T_C : u_T := fun k => match k with
  | 0 => ("ClueLogic", "text", "[I", true)
  | 1 => ("ClueLogic", "length", "I", false)
  | 2 => ("ClueLogic", "puzzle", "LClueLogic$Puzzle;", false)
  | 3 => ("ClueLogic", "answers", "LClueLogic$Answers;", false)
  | 4 => ("ClueLogic", "crossing", "LClueLogic$Crossing;", false)
  | _ => ("ClueLogic", "ran", "Z", false)
def ty_C : Nat → FieldType := fun k => match k with
  | 0 => .array .int
  | 1 => .int
  | 2 => .object "ClueLogic$Puzzle"
  | 3 => .object "ClueLogic$Answers"
  | 4 => .object "ClueLogic$Crossing"
  | _ => .boolean
def T_An : u_T := fun k => match k with
  | 0 => ("ClueLogic$Answers", "puzzle", "LClueLogic$Puzzle;", true)
  | 1 => ("ClueLogic$Answers", "walk", "LClueLogic$Walk;", true)
  | 2 => ("ClueLogic$Answers", "keptOrder", "[I", true)
  | 3 => ("ClueLogic$Answers", "keptParty", "[I", true)
  | 4 => ("ClueLogic$Answers", "countWithOrder", "[I", true)
  | 5 => ("ClueLogic$Answers", "holding", "[I", true)
  | 6 => ("ClueLogic$Answers", "needed", "[Z", true)
  | 7 => ("ClueLogic$Answers", "count", "I", false)
  | 8 => ("ClueLogic$Answers", "kept", "I", false)
  | _ => ("ClueLogic$Answers", "found", "Z", false)
def ty_An : Nat → FieldType := fun k => match k with
  | 0 => .object "ClueLogic$Puzzle"
  | 1 => .object "ClueLogic$Walk"
  | 2 => .array .int
  | 3 => .array .int
  | 4 => .array .int
  | 5 => .array .int
  | 6 => .array .boolean
  | 7 => .int
  | 8 => .int
  | _ => .boolean
def T_Cr : u_T := fun k => match k with
  | 0 => ("ClueLogic$Crossing", "puzzle", "LClueLogic$Puzzle;", true)
  | 1 => ("ClueLogic$Crossing", "walk", "LClueLogic$Walk;", true)
  | 2 => ("ClueLogic$Crossing", "may", "[I", true)
  | 3 => ("ClueLogic$Crossing", "seen", "[I", true)
  | 4 => ("ClueLogic$Crossing", "mayBe", "I", false)
  | 5 => ("ClueLogic$Crossing", "seenToBe", "I", false)
  | 6 => ("ClueLogic$Crossing", "stepClue", "[I", true)
  | 7 => ("ClueLogic$Crossing", "stepCrossed", "[I", true)
  | 8 => ("ClueLogic$Crossing", "steps", "I", false)
  | _ => ("ClueLogic$Crossing", "finished", "Z", false)
def ty_Cr : Nat → FieldType := fun k => match k with
  | 0 => .object "ClueLogic$Puzzle"
  | 1 => .object "ClueLogic$Walk"
  | 2 => .array .int
  | 3 => .array .int
  | 4 => .int
  | 5 => .int
  | 6 => .array .int
  | 7 => .array .int
  | 8 => .int
  | _ => .boolean
def T_Jo : u_T := fun k => match k with
  | 0 => ("ClueLogic$Joined", "both", "Z", true)
  | 1 => ("ClueLogic$Joined", "first", "LClueLogic$Clue;", true)
  | _ => ("ClueLogic$Joined", "second", "LClueLogic$Clue;", true)
def ty_Jo : Nat → FieldType := fun k => match k with
  | 0 => .boolean
  | 1 => .object "ClueLogic$Clue"
  | _ => .object "ClueLogic$Clue"
def T_Op : u_T := fun k => match k with
  | _ => ("ClueLogic$OfPerson", "parties", "I", true)
def ty_Op : Nat → FieldType := fun k => match k with
  | _ => .int
def T_Ov : u_T := fun k => match k with
  | 0 => ("ClueLogic$OfValues", "sign", "I", true)
  | 1 => ("ClueLogic$OfValues", "v", "I", true)
  | _ => ("ClueLogic$OfValues", "w", "I", true)
def ty_Ov : Nat → FieldType := fun k => match k with
  | 0 => .int
  | 1 => .int
  | _ => .int
def T_Od : u_T := fun k => match k with
  | 0 => ("ClueLogic$Orders", "things", "I", true)
  | 1 => ("ClueLogic$Orders", "ticks", "[I", true)
  | 2 => ("ClueLogic$Orders", "value", "[I", true)
  | 3 => ("ClueLogic$Orders", "count", "I", false)
  | _ => ("ClueLogic$Orders", "allTicks", "I", false)
def ty_Od : Nat → FieldType := fun k => match k with
  | 0 => .int
  | 1 => .array .int
  | 2 => .array .int
  | 3 => .int
  | _ => .int
def T_Pz : u_T := fun k => match k with
  | 0 => ("ClueLogic$Puzzle", "things", "I", true)
  | 1 => ("ClueLogic$Puzzle", "kinds", "I", true)
  | 2 => ("ClueLogic$Puzzle", "persons", "I", true)
  | 3 => ("ClueLogic$Puzzle", "orders", "LClueLogic$Orders;", true)
  | 4 => ("ClueLogic$Puzzle", "clues", "[LClueLogic$Clue;", true)
  | _ => ("ClueLogic$Puzzle", "clueCount", "I", false)
def ty_Pz : Nat → FieldType := fun k => match k with
  | 0 => .int
  | 1 => .int
  | 2 => .int
  | 3 => .object "ClueLogic$Orders"
  | 4 => .array (.object "ClueLogic$Clue")
  | _ => .int
def T_Rd : u_T := fun k => match k with
  | 0 => ("ClueLogic$Reader", "text", "[I", true)
  | 1 => ("ClueLogic$Reader", "length", "I", true)
  | 2 => ("ClueLogic$Reader", "place", "I", false)
  | 3 => ("ClueLogic$Reader", "kinds", "I", false)
  | 4 => ("ClueLogic$Reader", "things", "I", false)
  | 5 => ("ClueLogic$Reader", "persons", "I", false)
  | _ => ("ClueLogic$Reader", "signs", "I", false)
def ty_Rd : Nat → FieldType := fun k => match k with
  | 0 => .array .int
  | 1 => .int
  | 2 => .int
  | 3 => .int
  | 4 => .int
  | 5 => .int
  | _ => .int
def T_Tu : u_T := fun k => match k with
  | 0 => ("ClueLogic$Turned", "turning", "I", true)
  | _ => ("ClueLogic$Turned", "part", "LClueLogic$Clue;", true)
def ty_Tu : Nat → FieldType := fun k => match k with
  | 0 => .int
  | _ => .object "ClueLogic$Clue"
def T_Wk : u_T := fun k => match k with
  | 0 => ("ClueLogic$Walk", "orders", "LClueLogic$Orders;", true)
  | 1 => ("ClueLogic$Walk", "kinds", "I", true)
  | 2 => ("ClueLogic$Walk", "open", "[I", true)
  | 3 => ("ClueLogic$Walk", "openCount", "[I", true)
  | 4 => ("ClueLogic$Walk", "at", "[I", true)
  | _ => ("ClueLogic$Walk", "thing", "[I", true)
def ty_Wk : Nat → FieldType := fun k => match k with
  | 0 => .object "ClueLogic$Orders"
  | 1 => .int
  | 2 => .array .int
  | 3 => .array .int
  | 4 => .array .int
  | _ => .array .int
def T_Md : u_T := fun k => match k with
  | 0 => ("ClueLogicModel", "thrown", "I", false)
  | 1 => ("ClueLogicModel", "size", "I", false)
  | 2 => ("ClueLogicModel", "text", "[I", true)
  | 3 => ("ClueLogicModel", "things", "I", false)
  | 4 => ("ClueLogicModel", "kinds", "I", false)
  | 5 => ("ClueLogicModel", "persons", "I", false)
  | 6 => ("ClueLogicModel", "clues", "I", false)
  | 7 => ("ClueLogicModel", "begins", "[I", true)
  | 8 => ("ClueLogicModel", "signs", "[I", true)
  | 9 => ("ClueLogicModel", "ones", "[I", true)
  | 10 => ("ClueLogicModel", "twos", "[I", true)
  | 11 => ("ClueLogicModel", "newThings", "I", false)
  | 12 => ("ClueLogicModel", "newKinds", "I", false)
  | 13 => ("ClueLogicModel", "newPersons", "I", false)
  | 14 => ("ClueLogicModel", "newClues", "I", false)
  | 15 => ("ClueLogicModel", "at", "I", false)
  | 16 => ("ClueLogicModel", "newBegins", "[I", true)
  | 17 => ("ClueLogicModel", "newSigns", "[I", true)
  | 18 => ("ClueLogicModel", "newOnes", "[I", true)
  | 19 => ("ClueLogicModel", "newTwos", "[I", true)
  | 20 => ("ClueLogicModel", "orders", "I", false)
  | 21 => ("ClueLogicModel", "values", "[I", true)
  | 22 => ("ClueLogicModel", "seats", "[I", true)
  | 23 => ("ClueLogicModel", "isKnown", "Z", false)
  | 24 => ("ClueLogicModel", "isCrossed", "Z", false)
  | 25 => ("ClueLogicModel", "holds", "[I", true)
  | 26 => ("ClueLogicModel", "pile", "[Z", true)
  | 27 => ("ClueLogicModel", "kept", "I", false)
  | 28 => ("ClueLogicModel", "answers", "[I", true)
  | 29 => ("ClueLogicModel", "may", "[I", true)
  | 30 => ("ClueLogicModel", "mayBe", "[I", true)
  | 31 => ("ClueLogicModel", "some", "[I", true)
  | 32 => ("ClueLogicModel", "someBe", "[I", true)
  | 33 => ("ClueLogicModel", "steps", "I", false)
  | 34 => ("ClueLogicModel", "stepClue", "[I", true)
  | _ => ("ClueLogicModel", "stepMuch", "[I", true)
def ty_Md : Nat → FieldType := fun k => match k with
  | 0 => .int
  | 1 => .int
  | 2 => .array .int
  | 3 => .int
  | 4 => .int
  | 5 => .int
  | 6 => .int
  | 7 => .array .int
  | 8 => .array .int
  | 9 => .array .int
  | 10 => .array .int
  | 11 => .int
  | 12 => .int
  | 13 => .int
  | 14 => .int
  | 15 => .int
  | 16 => .array .int
  | 17 => .array .int
  | 18 => .array .int
  | 19 => .array .int
  | 20 => .int
  | 21 => .array .int
  | 22 => .array .int
  | 23 => .boolean
  | 24 => .boolean
  | 25 => .array .int
  | 26 => .array .boolean
  | 27 => .int
  | 28 => .array .int
  | 29 => .array .int
  | 30 => .array .int
  | 31 => .array .int
  | 32 => .array .int
  | 33 => .int
  | 34 => .array .int
  | _ => .array .int
abbrev classes : List vw_C := [("ClueLogic", T_C, 6), ("ClueLogic$Answers", T_An, 10), ("ClueLogic$Crossing", T_Cr, 10), ("ClueLogic$Joined", T_Jo, 3), ("ClueLogic$OfPerson", T_Op, 1), ("ClueLogic$OfValues", T_Ov, 3), ("ClueLogic$Orders", T_Od, 5), ("ClueLogic$Puzzle", T_Pz, 6), ("ClueLogic$Reader", T_Rd, 7), ("ClueLogic$Turned", T_Tu, 2), ("ClueLogic$Walk", T_Wk, 6), ("ClueLogicModel", T_Md, 36)]
abbrev atys : List FieldType := [.int, .boolean, .byte, .object "ClueLogic$Clue"]
abbrev nestF : List (String × Nat × String × String × String × String) := [("ClueLogic$Puzzle", 39, "ClueLogic", "PARTIES_OF", "[I", "ClueLogic"), ("ClueLogic$Crossing", 138, "ClueLogic", "TRUTHFUL", "[I", "ClueLogic"), ("ClueLogic$OfPerson", 7, "ClueLogic", "TRUTHFUL", "[I", "ClueLogic"), ("ClueLogic$Reader", 88, "ClueLogic", "TRUTHFUL", "[I", "ClueLogic"), ("ClueLogic$Answers", 60, "ClueLogic", "TRUTHFUL", "[I", "ClueLogic")]
abbrev xHolds : MethodName := ⟨"ClueLogic$Clue", "holds", "([I)I"⟩
abbrev faceW : List (String × MethodName × MethodName) := [("ClueLogic$Joined", xHolds, ⟨"ClueLogic$Joined", "holds", "([I)I"⟩), ("ClueLogic$OfPerson", xHolds, ⟨"ClueLogic$OfPerson", "holds", "([I)I"⟩), ("ClueLogic$OfValues", xHolds, ⟨"ClueLogic$OfValues", "holds", "([I)I"⟩), ("ClueLogic$Turned", xHolds, ⟨"ClueLogic$Turned", "holds", "([I)I"⟩)]
abbrev castW : List (String × String) := [("ClueLogic$Joined", "ClueLogic$Clue"), ("ClueLogic$OfPerson", "ClueLogic$Clue"), ("ClueLogic$OfValues", "ClueLogic$Clue"), ("ClueLogic$Turned", "ClueLogic$Clue")]
abbrev overW : List String := ["ClueLogic$Clue"]
/-- the statics: class, name, descriptor, value; the two arrays lie at ad 0 and ad 1 -/
abbrev stats (ad : Nat → Nat) : List (String × String × String × Value) := [("ClueLogic", "TRUTHFUL", "[I", .ref (ad 0)), ("ClueLogic", "PARTIES_OF", "[I", .ref (ad 1))]
theorem faceW_ok : ∀ q ∈ faceW, q.2.1.cls ≠ "java/lang/invoke/MethodHandle" ∧ q.2.1.cls ≠ "java/lang/invoke/VarHandle" := by decide +kernel
abbrev m_C_init : MI := (⟨"ClueLogic", "<init>", "()V"⟩, prog_1_method_1_code, 1, none)
abbrev m_Ob_init : MI := (⟨"java/lang/Object", "<init>", "()V"⟩, object_method_1_code, 1, none)
abbrev m_Pz_init : MI := (⟨"ClueLogic$Puzzle", "<init>", "(III)V"⟩, prog_9_method_1_code, 4, none)
abbrev m_Od_init : MI := (⟨"ClueLogic$Orders", "<init>", "(I)V"⟩, prog_8_method_1_code, 2, none)
abbrev m_Od_fill : MI := (⟨"ClueLogic$Orders", "fill", "(II)V"⟩, prog_8_method_7_code, 4, none)
abbrev m_Od_add : MI := (⟨"ClueLogic$Orders", "add", "(I)V"⟩, prog_8_method_8_code, 4, none)
abbrev m_In_bitCount : MI := (⟨"java/lang/Integer", "bitCount", "(I)I"⟩, prog_16_method_49_code, 1, some .int)
abbrev m_C_begin : MI := (⟨"ClueLogic", "begin", "(LClueLogic$Puzzle;)V"⟩, prog_1_method_14_code, 2, none)
abbrev m_An_init : MI := (⟨"ClueLogic$Answers", "<init>", "(LClueLogic$Puzzle;)V"⟩, prog_2_method_1_code, 2, none)
abbrev m_Wk_init : MI := (⟨"ClueLogic$Walk", "<init>", "(LClueLogic$Puzzle;)V"⟩, prog_12_method_1_code, 2, none)
abbrev m_Pz_orders : MI := (⟨"ClueLogic$Puzzle", "orders", "()LClueLogic$Orders;"⟩, prog_9_method_7_code, 1, some (.object "ClueLogic$Orders"))
abbrev m_Pz_kinds : MI := (⟨"ClueLogic$Puzzle", "kinds", "()I"⟩, prog_9_method_4_code, 1, some .int)
abbrev m_Cr_init : MI := (⟨"ClueLogic$Crossing", "<init>", "(LClueLogic$Puzzle;)V"⟩, prog_4_method_1_code, 3, none)
abbrev m_Od_allTicks : MI := (⟨"ClueLogic$Orders", "allTicks", "()I"⟩, prog_8_method_5_code, 1, some .int)
abbrev m_Pz_parties : MI := (⟨"ClueLogic$Puzzle", "parties", "()I"⟩, prog_9_method_14_code, 1, some .int)
abbrev m_Cr_waysIn : MI := (⟨"ClueLogic$Crossing", "waysIn", "(I)I"⟩, prog_4_method_12_code, 6, some .int)
abbrev m_Pz_persons : MI := (⟨"ClueLogic$Puzzle", "persons", "()I"⟩, prog_9_method_5_code, 1, some .int)
abbrev m_C_unit : MI := (⟨"ClueLogic", "unit", "(I)Z"⟩, prog_1_method_2_code, 2, some .boolean)
abbrev m_C_read : MI := (⟨"ClueLogic", "read", "()I"⟩, prog_1_method_3_code, 3, some .int)
abbrev m_Rd_init : MI := (⟨"ClueLogic$Reader", "<init>", "([II)V"⟩, prog_10_method_1_code, 3, none)
abbrev m_Rd_puzzle : MI := (⟨"ClueLogic$Reader", "puzzle", "()LClueLogic$Puzzle;"⟩, prog_10_method_3_code, 4, some (.object "ClueLogic$Puzzle"))
abbrev m_Rd_passHead : MI := (⟨"ClueLogic$Reader", "passHead", "()Z"⟩, prog_10_method_4_code, 1, some .boolean)
abbrev m_Rd_take : MI := (⟨"ClueLogic$Reader", "take", "(III)I"⟩, prog_10_method_13_code, 5, some .int)
abbrev m_Rd_passSemicolon : MI := (⟨"ClueLogic$Reader", "passSemicolon", "()Z"⟩, prog_10_method_12_code, 1, some .boolean)
abbrev m_Rd_clue : MI := (⟨"ClueLogic$Reader", "clue", "()LClueLogic$Clue;"⟩, prog_10_method_5_code, 2, some (.object "ClueLogic$Clue"))
abbrev m_St_indexOf : MI := (⟨"java/lang/String", "indexOf", "(I)I"⟩, prog_18_method_79_code, 2, some .int)
abbrev m_St_indexOf2 : MI := (⟨"java/lang/String", "indexOf", "(II)I"⟩, prog_18_method_80_code, 3, some .int)
abbrev m_St_isLatin1 : MI := (⟨"java/lang/String", "isLatin1", "()Z"⟩, prog_18_method_154_code, 1, some .boolean)
abbrev m_St_length : MI := (⟨"java/lang/String", "length", "()I"⟩, prog_18_method_54_code, 1, some .int)
abbrev m_St_coder : MI := (⟨"java/lang/String", "coder", "()B"⟩, prog_18_method_152_code, 1, some .byte)
abbrev m_Sl_indexOf : MI := (⟨"java/lang/StringLatin1", "indexOf", "([BIII)I"⟩, prog_19_method_22_code, 4, some .int)
abbrev m_Sl_canEncode : MI := (⟨"java/lang/StringLatin1", "canEncode", "(I)Z"⟩, prog_19_method_4_code, 1, some .boolean)
abbrev m_Ma_max : MI := (⟨"java/lang/Math", "max", "(II)I"⟩, prog_17_method_65_code, 2, some .int)
abbrev m_Ma_min : MI := (⟨"java/lang/Math", "min", "(II)I"⟩, prog_17_method_69_code, 2, some .int)
abbrev m_Sl_indexOfChar : MI := (⟨"java/lang/StringLatin1", "indexOfChar", "([BIII)I"⟩, prog_19_method_23_code, 6, some .int)
abbrev m_Su_indexOf : MI := (⟨"java/lang/StringUTF16", "indexOf", "([BIII)I"⟩, prog_20_method_40_code, 4, some .int)
abbrev m_Su_indexOfChar : MI := (⟨"java/lang/StringUTF16", "indexOfChar", "([BIII)I"⟩, prog_20_method_47_code, 4, some .int)
abbrev m_Su_checkBoundsBeginEnd : MI := (⟨"java/lang/StringUTF16", "checkBoundsBeginEnd", "(II[B)V"⟩, prog_20_method_93_code, 3, none)
abbrev m_Su_length : MI := (⟨"java/lang/StringUTF16", "length", "([B)I"⟩, prog_20_method_6_code, 1, some .int)
abbrev m_St_checkBoundsBeginEnd : MI := (⟨"java/lang/String", "checkBoundsBeginEnd", "(III)V"⟩, prog_18_method_158_code, 3, none)
abbrev m_Pr_checkFromToIndex : MI := (⟨"jdk/internal/util/Preconditions", "checkFromToIndex", "(IIILjava/util/function/BiFunction;)I"⟩, prog_22_method_12_code, 4, some .int)
abbrev m_Su_indexOfCharUnsafe : MI := (⟨"java/lang/StringUTF16", "indexOfCharUnsafe", "([BIII)I"⟩, prog_20_method_48_code, 5, some .int)
abbrev m_Su_getChar : MI := (⟨"java/lang/StringUTF16", "getChar", "([BI)C"⟩, prog_20_method_5_code, 2, some .char)
abbrev m_Su_indexOfSupplementary : MI := (⟨"java/lang/StringUTF16", "indexOfSupplementary", "([BIII)I"⟩, prog_20_method_49_code, 7, some .int)
abbrev m_Ch_isValidCodePoint : MI := (⟨"java/lang/Character", "isValidCodePoint", "(I)Z"⟩, prog_15_method_11_code, 2, some .boolean)
abbrev m_Ch_highSurrogate : MI := (⟨"java/lang/Character", "highSurrogate", "(I)C"⟩, prog_15_method_28_code, 1, some .char)
abbrev m_Ch_lowSurrogate : MI := (⟨"java/lang/Character", "lowSurrogate", "(I)C"⟩, prog_15_method_29_code, 1, some .char)
abbrev m_Rd_ofPerson : MI := (⟨"ClueLogic$Reader", "ofPerson", "()LClueLogic$Clue;"⟩, prog_10_method_6_code, 2, some (.object "ClueLogic$Clue"))
abbrev m_Op_init : MI := (⟨"ClueLogic$OfPerson", "<init>", "(I)V"⟩, prog_6_method_1_code, 2, none)
abbrev m_Rd_saying : MI := (⟨"ClueLogic$Reader", "saying", "()LClueLogic$Clue;"⟩, prog_10_method_7_code, 2, some (.object "ClueLogic$Clue"))
abbrev m_Rd_turned : MI := (⟨"ClueLogic$Reader", "turned", "(I)LClueLogic$Clue;"⟩, prog_10_method_8_code, 3, some (.object "ClueLogic$Clue"))
abbrev m_Tu_init : MI := (⟨"ClueLogic$Turned", "<init>", "(ILClueLogic$Clue;)V"⟩, prog_11_method_1_code, 3, none)
abbrev m_Rd_joined : MI := (⟨"ClueLogic$Reader", "joined", "(Z)LClueLogic$Clue;"⟩, prog_10_method_9_code, 4, some (.object "ClueLogic$Clue"))
abbrev m_Jo_init : MI := (⟨"ClueLogic$Joined", "<init>", "(ZLClueLogic$Clue;LClueLogic$Clue;)V"⟩, prog_5_method_1_code, 4, none)
abbrev m_Rd_ofValues : MI := (⟨"ClueLogic$Reader", "ofValues", "(I)LClueLogic$Clue;"⟩, prog_10_method_10_code, 4, some (.object "ClueLogic$Clue"))
abbrev m_Rd_takeValue : MI := (⟨"ClueLogic$Reader", "takeValue", "()I"⟩, prog_10_method_11_code, 3, some .int)
abbrev m_Ov_init : MI := (⟨"ClueLogic$OfValues", "<init>", "(III)V"⟩, prog_7_method_1_code, 4, none)
abbrev m_Pz_add : MI := (⟨"ClueLogic$Puzzle", "add", "(LClueLogic$Clue;)V"⟩, prog_9_method_2_code, 2, none)
abbrev m_Rd_place : MI := (⟨"ClueLogic$Reader", "place", "()I"⟩, prog_10_method_2_code, 1, some .int)
abbrev m_Pz_clueCount : MI := (⟨"ClueLogic$Puzzle", "clueCount", "()I"⟩, prog_9_method_6_code, 1, some .int)
abbrev m_C_told : MI := (⟨"ClueLogic", "told", "(I)I"⟩, prog_1_method_4_code, 2, some .int)
abbrev m_Pz_things : MI := (⟨"ClueLogic$Puzzle", "things", "()I"⟩, prog_9_method_3_code, 1, some .int)
abbrev m_C_run : MI := (⟨"ClueLogic", "run", "()I"⟩, prog_1_method_5_code, 1, some .int)
abbrev m_An_find : MI := (⟨"ClueLogic$Answers", "find", "()V"⟩, prog_2_method_8_code, 4, none)
abbrev m_Ar_fill : MI := (⟨"java/util/Arrays", "fill", "([II)V"⟩, prog_21_method_103_code, 4, none)
abbrev m_Wk_choose : MI := (⟨"ClueLogic$Walk", "choose", "([I)I"⟩, prog_12_method_2_code, 4, some .int)
abbrev m_Wk_chooseOrders : MI := (⟨"ClueLogic$Walk", "chooseOrders", "(II)I"⟩, prog_12_method_3_code, 5, some .int)
abbrev m_Od_count : MI := (⟨"ClueLogic$Orders", "count", "()I"⟩, prog_8_method_3_code, 1, some .int)
abbrev m_Od_ticks : MI := (⟨"ClueLogic$Orders", "ticks", "(I)I"⟩, prog_8_method_4_code, 2, some .int)
abbrev m_Wk_start : MI := (⟨"ClueLogic$Walk", "start", "()V"⟩, prog_12_method_4_code, 2, none)
abbrev m_Wk_go : MI := (⟨"ClueLogic$Walk", "go", "(II)V"⟩, prog_12_method_8_code, 5, none)
abbrev m_Wk_order : MI := (⟨"ClueLogic$Walk", "order", "(I)I"⟩, prog_12_method_6_code, 2, some .int)
abbrev m_Od_things : MI := (⟨"ClueLogic$Orders", "things", "()I"⟩, prog_8_method_2_code, 1, some .int)
abbrev m_Od_value : MI := (⟨"ClueLogic$Orders", "value", "(II)I"⟩, prog_8_method_6_code, 3, some .int)
abbrev m_An_weigh : MI := (⟨"ClueLogic$Answers", "weigh", "()V"⟩, prog_2_method_9_code, 5, none)
abbrev m_Pz_clue : MI := (⟨"ClueLogic$Puzzle", "clue", "(I)LClueLogic$Clue;"⟩, prog_9_method_8_code, 2, some (.object "ClueLogic$Clue"))
abbrev m_Wk_thing : MI := (⟨"ClueLogic$Walk", "thing", "()[I"⟩, prog_12_method_7_code, 1, some (.array .int))
abbrev m_Jo_holds : MI := (⟨"ClueLogic$Joined", "holds", "([I)I"⟩, prog_5_method_2_code, 4, some .int)
abbrev m_Op_holds : MI := (⟨"ClueLogic$OfPerson", "holds", "([I)I"⟩, prog_6_method_2_code, 2, some .int)
abbrev m_Ov_holds : MI := (⟨"ClueLogic$OfValues", "holds", "([I)I"⟩, prog_7_method_2_code, 2, some .int)
abbrev m_Ov_relates : MI := (⟨"ClueLogic$OfValues", "relates", "(II)Z"⟩, prog_7_method_3_code, 3, some .boolean)
abbrev m_Tu_holds : MI := (⟨"ClueLogic$Turned", "holds", "([I)I"⟩, prog_11_method_2_code, 2, some .int)
abbrev m_An_add : MI := (⟨"ClueLogic$Answers", "add", "(I)V"⟩, prog_2_method_10_code, 4, none)
abbrev m_An_keep : MI := (⟨"ClueLogic$Answers", "keep", "(I)V"⟩, prog_2_method_11_code, 3, none)
abbrev m_An_need : MI := (⟨"ClueLogic$Answers", "need", "(I)V"⟩, prog_2_method_12_code, 3, none)
abbrev m_Wk_next : MI := (⟨"ClueLogic$Walk", "next", "()V"⟩, prog_12_method_5_code, 2, none)
abbrev m_An_count : MI := (⟨"ClueLogic$Answers", "count", "()I"⟩, prog_2_method_2_code, 1, some .int)
abbrev m_C_answer : MI := (⟨"ClueLogic", "answer", "(III)I"⟩, prog_1_method_6_code, 4, some .int)
abbrev m_C_isKept : MI := (⟨"ClueLogic", "isKept", "(I)Z"⟩, prog_1_method_15_code, 2, some .boolean)
abbrev m_An_kept : MI := (⟨"ClueLogic$Answers", "kept", "()I"⟩, prog_2_method_3_code, 1, some .int)
abbrev m_Pz_hasThing : MI := (⟨"ClueLogic$Puzzle", "hasThing", "(I)Z"⟩, prog_9_method_9_code, 2, some .boolean)
abbrev m_Pz_hasKind : MI := (⟨"ClueLogic$Puzzle", "hasKind", "(I)Z"⟩, prog_9_method_10_code, 2, some .boolean)
abbrev m_An_value : MI := (⟨"ClueLogic$Answers", "value", "(III)I"⟩, prog_2_method_4_code, 4, some .int)
abbrev m_C_truth : MI := (⟨"ClueLogic", "truth", "(II)I"⟩, prog_1_method_7_code, 3, some .int)
abbrev m_Pz_hasPerson : MI := (⟨"ClueLogic$Puzzle", "hasPerson", "(I)Z"⟩, prog_9_method_12_code, 2, some .boolean)
abbrev m_An_isTruthful : MI := (⟨"ClueLogic$Answers", "isTruthful", "(II)Z"⟩, prog_2_method_5_code, 3, some .boolean)
abbrev m_C_often : MI := (⟨"ClueLogic", "often", "(III)I"⟩, prog_1_method_8_code, 4, some .int)
abbrev m_Pz_hasValue : MI := (⟨"ClueLogic$Puzzle", "hasValue", "(I)Z"⟩, prog_9_method_11_code, 2, some .boolean)
abbrev m_An_countWith : MI := (⟨"ClueLogic$Answers", "countWith", "(III)I"⟩, prog_2_method_6_code, 6, some .int)
abbrev m_C_spare : MI := (⟨"ClueLogic", "spare", "(I)Z"⟩, prog_1_method_9_code, 2, some .boolean)
abbrev m_Pz_hasClue : MI := (⟨"ClueLogic$Puzzle", "hasClue", "(I)Z"⟩, prog_9_method_13_code, 2, some .boolean)
abbrev m_An_isNeeded : MI := (⟨"ClueLogic$Answers", "isNeeded", "(I)Z"⟩, prog_2_method_7_code, 2, some .boolean)
abbrev m_C_cross : MI := (⟨"ClueLogic", "cross", "()I"⟩, prog_1_method_10_code, 1, some .int)
abbrev m_Cr_finish : MI := (⟨"ClueLogic$Crossing", "finish", "()V"⟩, prog_4_method_7_code, 3, none)
abbrev m_Cr_takeStep : MI := (⟨"ClueLogic$Crossing", "takeStep", "()Z"⟩, prog_4_method_8_code, 4, some .boolean)
abbrev m_Cr_look : MI := (⟨"ClueLogic$Crossing", "look", "(LClueLogic$Clue;I)V"⟩, prog_4_method_9_code, 7, none)
abbrev m_Cr_openParties : MI := (⟨"ClueLogic$Crossing", "openParties", "()I"⟩, prog_4_method_11_code, 6, some .int)
abbrev m_Cr_waysLeft : MI := (⟨"ClueLogic$Crossing", "waysLeft", "(I)I"⟩, prog_4_method_6_code, 2, some .int)
abbrev m_Cr_seeLayout : MI := (⟨"ClueLogic$Crossing", "seeLayout", "()V"⟩, prog_4_method_10_code, 2, none)
abbrev m_Cr_countUnseen : MI := (⟨"ClueLogic$Crossing", "countUnseen", "()I"⟩, prog_4_method_13_code, 3, some .int)
abbrev m_Cr_crossOut : MI := (⟨"ClueLogic$Crossing", "crossOut", "(II)V"⟩, prog_4_method_14_code, 4, none)
abbrev m_Cr_steps : MI := (⟨"ClueLogic$Crossing", "steps", "()I"⟩, prog_4_method_2_code, 1, some .int)
abbrev m_C_step : MI := (⟨"ClueLogic", "step", "(II)I"⟩, prog_1_method_11_code, 3, some .int)
abbrev m_Cr_clueOf : MI := (⟨"ClueLogic$Crossing", "clueOf", "(I)I"⟩, prog_4_method_3_code, 2, some .int)
abbrev m_Cr_crossedBy : MI := (⟨"ClueLogic$Crossing", "crossedBy", "(I)I"⟩, prog_4_method_4_code, 2, some .int)
abbrev m_C_may : MI := (⟨"ClueLogic", "may", "(II)I"⟩, prog_1_method_12_code, 3, some .int)
abbrev m_Cr_valuesLeft : MI := (⟨"ClueLogic$Crossing", "valuesLeft", "(II)I"⟩, prog_4_method_5_code, 3, some .int)
abbrev m_C_mayBe : MI := (⟨"ClueLogic", "mayBe", "(I)I"⟩, prog_1_method_13_code, 2, some .int)
abbrev m_Md_init : MI := (⟨"ClueLogicModel", "<init>", "()V"⟩, prog_14_method_1_code, 1, none)
abbrev m_Md_fresh : MI := (⟨"ClueLogicModel", "fresh", "()V"⟩, prog_14_method_3_code, 1, none)
abbrev m_Md_all : MI := (⟨"ClueLogicModel", "all", "()V"⟩, prog_14_method_4_code, 2, none)
abbrev m_Md_unit : MI := (⟨"ClueLogicModel", "unit", "(I)Z"⟩, prog_14_method_5_code, 2, some .boolean)
abbrev m_Md_read : MI := (⟨"ClueLogicModel", "read", "()I"⟩, prog_14_method_12_code, 3, some .int)
abbrev m_Md_readAll : MI := (⟨"ClueLogicModel", "readAll", "()Z"⟩, prog_14_method_11_code, 1, some .boolean)
abbrev m_Md_digit : MI := (⟨"ClueLogicModel", "digit", "(II)I"⟩, prog_14_method_7_code, 4, some .int)
abbrev m_Md_byteAt : MI := (⟨"ClueLogicModel", "byteAt", "(I)I"⟩, prog_14_method_6_code, 2, some .int)
abbrev m_Md_readClue : MI := (⟨"ClueLogicModel", "readClue", "()Z"⟩, prog_14_method_10_code, 4, some .boolean)
abbrev m_Md_signOf : MI := (⟨"ClueLogicModel", "signOf", "(I)I"⟩, prog_14_method_9_code, 1, some .int)
abbrev m_Md_value : MI := (⟨"ClueLogicModel", "value", "()I"⟩, prog_14_method_8_code, 3, some .int)
abbrev m_Md_told : MI := (⟨"ClueLogicModel", "told", "(I)I"⟩, prog_14_method_13_code, 2, some .int)
abbrev m_Md_run : MI := (⟨"ClueLogicModel", "run", "()I"⟩, prog_14_method_23_code, 3, some .int)
abbrev m_Md_know : MI := (⟨"ClueLogicModel", "know", "()V"⟩, prog_14_method_21_code, 3, none)
abbrev m_Md_order : MI := (⟨"ClueLogicModel", "order", "()V"⟩, prog_14_method_14_code, 6, none)
abbrev m_Md_states : MI := (⟨"ClueLogicModel", "states", "()I"⟩, prog_14_method_15_code, 3, some .int)
abbrev m_Md_isSo : MI := (⟨"ClueLogicModel", "isSo", "(II)Z"⟩, prog_14_method_20_code, 8, some .boolean)
abbrev m_Md_seat : MI := (⟨"ClueLogicModel", "seat", "(II)I"⟩, prog_14_method_19_code, 3, some .int)
abbrev m_Md_orderOf : MI := (⟨"ClueLogicModel", "orderOf", "(II)I"⟩, prog_14_method_16_code, 5, some .int)
abbrev m_Md_isTruthful : MI := (⟨"ClueLogicModel", "isTruthful", "(II)Z"⟩, prog_14_method_17_code, 3, some .boolean)
abbrev m_Md_isAnswer : MI := (⟨"ClueLogicModel", "isAnswer", "(I)Z"⟩, prog_14_method_22_code, 2, some .boolean)
abbrev m_Md_answer : MI := (⟨"ClueLogicModel", "answer", "(III)I"⟩, prog_14_method_27_code, 4, some .int)
abbrev m_Md_isKept : MI := (⟨"ClueLogicModel", "isKept", "(I)Z"⟩, prog_14_method_24_code, 2, some .boolean)
abbrev m_Md_isOf : MI := (⟨"ClueLogicModel", "isOf", "(II)Z"⟩, prog_14_method_25_code, 3, some .boolean)
abbrev m_Md_valueOf : MI := (⟨"ClueLogicModel", "valueOf", "(III)I"⟩, prog_14_method_18_code, 4, some .int)
abbrev m_Md_truth : MI := (⟨"ClueLogicModel", "truth", "(II)I"⟩, prog_14_method_28_code, 3, some .int)
abbrev m_Md_isPerson : MI := (⟨"ClueLogicModel", "isPerson", "(I)Z"⟩, prog_14_method_26_code, 2, some .boolean)
abbrev m_Md_often : MI := (⟨"ClueLogicModel", "often", "(III)I"⟩, prog_14_method_29_code, 6, some .int)
abbrev m_Md_spare : MI := (⟨"ClueLogicModel", "spare", "(I)Z"⟩, prog_14_method_30_code, 4, some .boolean)
abbrev m_Md_cross : MI := (⟨"ClueLogicModel", "cross", "()I"⟩, prog_14_method_34_code, 3, some .int)
abbrev m_Md_crossBy : MI := (⟨"ClueLogicModel", "crossBy", "(I)I"⟩, prog_14_method_33_code, 5, some .int)
abbrev m_Md_isOpen : MI := (⟨"ClueLogicModel", "isOpen", "(I)Z"⟩, prog_14_method_31_code, 4, some .boolean)
abbrev m_Md_countOf : MI := (⟨"ClueLogicModel", "countOf", "(I)I"⟩, prog_14_method_32_code, 3, some .int)
abbrev m_Md_step : MI := (⟨"ClueLogicModel", "step", "(II)I"⟩, prog_14_method_35_code, 3, some .int)
abbrev m_Md_may : MI := (⟨"ClueLogicModel", "may", "(II)I"⟩, prog_14_method_36_code, 3, some .int)
abbrev m_Md_mayBe : MI := (⟨"ClueLogicModel", "mayBe", "(I)I"⟩, prog_14_method_37_code, 2, some .int)
end
section
theorem wd_1 : (Jvm.Cond.initialized "ClueLogic") ∈ GW := mwT 1 (by decide +kernel) rfl
theorem wd_2 : (Jvm.Cond.initialized "ClueLogic$Puzzle") ∈ GW := mwT 2 (by decide +kernel) rfl
theorem wd_3 : (Jvm.Cond.initialized "ClueLogic$Orders") ∈ GW := mwT 3 (by decide +kernel) rfl
theorem wd_4 : (Jvm.Cond.initialized "java/lang/Integer") ∈ GW := mwT 4 (by decide +kernel) rfl
theorem wd_5 : (Jvm.Cond.initialized "ClueLogic$Answers") ∈ GW := mwT 5 (by decide +kernel) rfl
theorem wd_6 : (Jvm.Cond.initialized "ClueLogic$Walk") ∈ GW := mwT 6 (by decide +kernel) rfl
theorem wd_7 : (Jvm.Cond.initialized "ClueLogic$Crossing") ∈ GW := mwT 7 (by decide +kernel) rfl
theorem wd_8 : (Jvm.Cond.initialized "ClueLogicModel") ∈ GW := mwT 8 (by decide +kernel) rfl
theorem wd_9 : (Jvm.Cond.initialized "ClueLogic$Reader") ∈ GW := mwT 9 (by decide +kernel) rfl
theorem wd_10 : (Jvm.Cond.initialized "java/lang/String") ∈ GW := mwT 10 (by decide +kernel) rfl
theorem wd_11 : (Jvm.Cond.initialized "java/lang/StringLatin1") ∈ GW := mwT 11 (by decide +kernel) rfl
theorem wd_12 : (Jvm.Cond.initialized "java/lang/Math") ∈ GW := mwT 12 (by decide +kernel) rfl
theorem wd_13 : (Jvm.Cond.initialized "java/lang/StringUTF16") ∈ GW := mwT 13 (by decide +kernel) rfl
theorem wd_14 : (Jvm.Cond.initialized "jdk/internal/util/Preconditions") ∈ GW := mwT 14 (by decide +kernel) rfl
theorem wd_15 : (Jvm.Cond.initialized "java/lang/Character") ∈ GW := mwT 15 (by decide +kernel) rfl
theorem wd_16 : (Jvm.Cond.initialized "ClueLogic$OfPerson") ∈ GW := mwT 16 (by decide +kernel) rfl
theorem wd_17 : (Jvm.Cond.initialized "ClueLogic$Turned") ∈ GW := mwT 17 (by decide +kernel) rfl
theorem wd_18 : (Jvm.Cond.initialized "ClueLogic$Joined") ∈ GW := mwT 18 (by decide +kernel) rfl
theorem wd_19 : (Jvm.Cond.initialized "ClueLogic$OfValues") ∈ GW := mwT 19 (by decide +kernel) rfl
theorem wd_20 : (Jvm.Cond.initialized "java/util/Arrays") ∈ GW := mwT 20 (by decide +kernel) rfl
theorem wd_21 : (Jvm.Cond.classLink "ClueLogicLaw" (7 : Nat) "ClueLogic") ∈ GW := mwT 21 (by decide +kernel) rfl
theorem wd_22 : (Jvm.Cond.instantiable "ClueLogic" (6 : Nat)) ∈ GW := mwT 22 (by decide +kernel) rfl
theorem wd_23 : (Jvm.Cond.methodLink "ClueLogicLaw" (9 : Nat) ({ cls := "ClueLogic", name := "<init>", desc := "()V" } : Jvm.MethodName)) ∈ GW := mwT 23 (by decide +kernel) rfl
theorem wd_24 : (Jvm.Cond.instanceMethod ({ cls := "ClueLogic", name := "<init>", desc := "()V" } : Jvm.MethodName)) ∈ GW := mwT 24 (by decide +kernel) rfl
theorem wd_25 : (Jvm.Cond.code ({ cls := "ClueLogic", name := "<init>", desc := "()V" } : Jvm.MethodName) prog_1_method_1_code (1 : Nat) (Option.none : Option Jvm.ClassFile.FieldType)) ∈ GW := mwT 25 (by decide +kernel) rfl
theorem wd_26 : (Jvm.Cond.methodLink "ClueLogic" (3 : Nat) ({ cls := "java/lang/Object", name := "<init>", desc := "()V" } : Jvm.MethodName)) ∈ GW := mwT 26 (by decide +kernel) rfl
theorem wd_27 : (Jvm.Cond.instanceMethod ({ cls := "java/lang/Object", name := "<init>", desc := "()V" } : Jvm.MethodName)) ∈ GW := mwT 27 (by decide +kernel) rfl
theorem wd_28 : (Jvm.Cond.code ({ cls := "java/lang/Object", name := "<init>", desc := "()V" } : Jvm.MethodName) object_method_1_code (1 : Nat) (Option.none : Option Jvm.ClassFile.FieldType)) ∈ GW := mwT 28 (by decide +kernel) rfl
theorem wd_29 : (Jvm.Cond.classLink "ClueLogic" (13 : Nat) "ClueLogic$Puzzle") ∈ GW := mwT 29 (by decide +kernel) rfl
theorem wd_30 : (Jvm.Cond.instantiable "ClueLogic$Puzzle" (6 : Nat)) ∈ GW := mwT 30 (by decide +kernel) rfl
theorem wd_31 : (Jvm.Cond.methodLink "ClueLogic" (15 : Nat) ({ cls := "ClueLogic$Puzzle", name := "<init>", desc := "(III)V" } : Jvm.MethodName)) ∈ GW := mwT 31 (by decide +kernel) rfl
theorem wd_32 : (Jvm.Cond.instanceMethod ({ cls := "ClueLogic$Puzzle", name := "<init>", desc := "(III)V" } : Jvm.MethodName)) ∈ GW := mwT 32 (by decide +kernel) rfl
theorem wd_33 : (Jvm.Cond.code ({ cls := "ClueLogic$Puzzle", name := "<init>", desc := "(III)V" } : Jvm.MethodName) prog_9_method_1_code (4 : Nat) (Option.none : Option Jvm.ClassFile.FieldType)) ∈ GW := mwT 33 (by decide +kernel) rfl
theorem wd_34 : (Jvm.Cond.methodLink "ClueLogic$Puzzle" (3 : Nat) ({ cls := "java/lang/Object", name := "<init>", desc := "()V" } : Jvm.MethodName)) ∈ GW := mwT 34 (by decide +kernel) rfl
theorem wd_35 : (Jvm.Cond.classLink "ClueLogic$Puzzle" (9 : Nat) "ClueLogic$Clue") ∈ GW := mwT 35 (by decide +kernel) rfl
theorem wd_37 : (Jvm.Cond.classLink "ClueLogic$Puzzle" (27 : Nat) "ClueLogic$Orders") ∈ GW := mwT 37 (by decide +kernel) rfl
theorem wd_38 : (Jvm.Cond.instantiable "ClueLogic$Orders" (5 : Nat)) ∈ GW := mwT 38 (by decide +kernel) rfl
theorem wd_39 : (Jvm.Cond.methodLink "ClueLogic$Puzzle" (29 : Nat) ({ cls := "ClueLogic$Orders", name := "<init>", desc := "(I)V" } : Jvm.MethodName)) ∈ GW := mwT 39 (by decide +kernel) rfl
theorem wd_40 : (Jvm.Cond.instanceMethod ({ cls := "ClueLogic$Orders", name := "<init>", desc := "(I)V" } : Jvm.MethodName)) ∈ GW := mwT 40 (by decide +kernel) rfl
theorem wd_41 : (Jvm.Cond.code ({ cls := "ClueLogic$Orders", name := "<init>", desc := "(I)V" } : Jvm.MethodName) prog_8_method_1_code (2 : Nat) (Option.none : Option Jvm.ClassFile.FieldType)) ∈ GW := mwT 41 (by decide +kernel) rfl
theorem wd_42 : (Jvm.Cond.methodLink "ClueLogic$Orders" (3 : Nat) ({ cls := "java/lang/Object", name := "<init>", desc := "()V" } : Jvm.MethodName)) ∈ GW := mwT 42 (by decide +kernel) rfl
theorem wd_43 : (Jvm.Cond.methodLink "ClueLogic$Orders" (22 : Nat) ({ cls := "ClueLogic$Orders", name := "fill", desc := "(II)V" } : Jvm.MethodName)) ∈ GW := mwT 43 (by decide +kernel) rfl
theorem wd_45 : (Jvm.Cond.instanceMethod ({ cls := "ClueLogic$Orders", name := "fill", desc := "(II)V" } : Jvm.MethodName)) ∈ GW := mwT 45 (by decide +kernel) rfl
theorem wd_46 : (Jvm.Cond.code ({ cls := "ClueLogic$Orders", name := "fill", desc := "(II)V" } : Jvm.MethodName) prog_8_method_7_code (4 : Nat) (Option.none : Option Jvm.ClassFile.FieldType)) ∈ GW := mwT 46 (by decide +kernel) rfl
theorem wd_47 : (Jvm.Cond.methodLink "ClueLogic$Orders" (32 : Nat) ({ cls := "ClueLogic$Orders", name := "add", desc := "(I)V" } : Jvm.MethodName)) ∈ GW := mwT 47 (by decide +kernel) rfl
theorem wd_49 : (Jvm.Cond.instanceMethod ({ cls := "ClueLogic$Orders", name := "add", desc := "(I)V" } : Jvm.MethodName)) ∈ GW := mwT 49 (by decide +kernel) rfl
theorem wd_50 : (Jvm.Cond.code ({ cls := "ClueLogic$Orders", name := "add", desc := "(I)V" } : Jvm.MethodName) prog_8_method_8_code (4 : Nat) (Option.none : Option Jvm.ClassFile.FieldType)) ∈ GW := mwT 50 (by decide +kernel) rfl
theorem wd_51 : (Jvm.Cond.methodLink "ClueLogic$Orders" (36 : Nat) ({ cls := "java/lang/Integer", name := "bitCount", desc := "(I)I" } : Jvm.MethodName)) ∈ GW := mwT 51 (by decide +kernel) rfl
theorem wd_52 : (Jvm.Cond.static ({ cls := "java/lang/Integer", name := "bitCount", desc := "(I)I" } : Jvm.MethodName)) ∈ GW := mwT 52 (by decide +kernel) rfl
theorem wd_53 : (Jvm.Cond.code ({ cls := "java/lang/Integer", name := "bitCount", desc := "(I)I" } : Jvm.MethodName) prog_16_method_49_code (1 : Nat) (Option.some Jvm.ClassFile.FieldType.int)) ∈ GW := mwT 53 (by decide +kernel) rfl
theorem wd_54 : (Jvm.Cond.constant "java/lang/Integer" (265 : Nat) (1431655765 : Int32)) ∈ GW := mwT 54 (by decide +kernel) rfl
theorem wd_55 : (Jvm.Cond.constant "java/lang/Integer" (266 : Nat) (858993459 : Int32)) ∈ GW := mwT 55 (by decide +kernel) rfl
theorem wd_56 : (Jvm.Cond.constant "java/lang/Integer" (267 : Nat) (252645135 : Int32)) ∈ GW := mwT 56 (by decide +kernel) rfl
theorem wd_57 : (Jvm.Cond.fieldLink "ClueLogic$Orders" (18 : Nat) "ClueLogic$Orders" "things" "I") ∈ GW := mwT 57 (by decide +kernel) rfl
theorem wd_58 : (Jvm.Cond.fieldLink "ClueLogic$Orders" (9 : Nat) "ClueLogic$Orders" "ticks" "[I") ∈ GW := mwT 58 (by decide +kernel) rfl
theorem wd_59 : (Jvm.Cond.fieldLink "ClueLogic$Orders" (15 : Nat) "ClueLogic$Orders" "value" "[I") ∈ GW := mwT 59 (by decide +kernel) rfl
theorem wd_60 : (Jvm.Cond.fieldLink "ClueLogic$Orders" (26 : Nat) "ClueLogic$Orders" "count" "I") ∈ GW := mwT 60 (by decide +kernel) rfl
theorem wd_61 : (Jvm.Cond.fieldLink "ClueLogic$Orders" (29 : Nat) "ClueLogic$Orders" "allTicks" "I") ∈ GW := mwT 61 (by decide +kernel) rfl
theorem wd_62 : (Jvm.Cond.laysFinal "ClueLogic$Orders" "ClueLogic$Orders" "things" "I") ∈ GW := mwT 62 (by decide +kernel) rfl
theorem wd_64 : (Jvm.Cond.laysFinal "ClueLogic$Orders" "ClueLogic$Orders" "ticks" "[I") ∈ GW := mwT 64 (by decide +kernel) rfl
theorem wd_66 : (Jvm.Cond.laysFinal "ClueLogic$Orders" "ClueLogic$Orders" "value" "[I") ∈ GW := mwT 66 (by decide +kernel) rfl
theorem wd_68 : (Jvm.Cond.lays "ClueLogic$Orders" "ClueLogic$Orders" "count" "I") ∈ GW := mwT 68 (by decide +kernel) rfl
theorem wd_70 : (Jvm.Cond.lays "ClueLogic$Orders" "ClueLogic$Orders" "allTicks" "I") ∈ GW := mwT 70 (by decide +kernel) rfl
theorem wd_73 : (Jvm.Cond.arrayClass Jvm.ClassFile.FieldType.int) ∈ GW := mwT 73 (by decide +kernel) rfl
theorem wd_74 : (Jvm.Cond.fieldLink "ClueLogic$Puzzle" (17 : Nat) "ClueLogic$Puzzle" "things" "I") ∈ GW := mwT 74 (by decide +kernel) rfl
theorem wd_75 : (Jvm.Cond.fieldLink "ClueLogic$Puzzle" (21 : Nat) "ClueLogic$Puzzle" "kinds" "I") ∈ GW := mwT 75 (by decide +kernel) rfl
theorem wd_76 : (Jvm.Cond.fieldLink "ClueLogic$Puzzle" (24 : Nat) "ClueLogic$Puzzle" "persons" "I") ∈ GW := mwT 76 (by decide +kernel) rfl
theorem wd_77 : (Jvm.Cond.fieldLink "ClueLogic$Puzzle" (32 : Nat) "ClueLogic$Puzzle" "orders" "LClueLogic$Orders;") ∈ GW := mwT 77 (by decide +kernel) rfl
theorem wd_78 : (Jvm.Cond.fieldLink "ClueLogic$Puzzle" (11 : Nat) "ClueLogic$Puzzle" "clues" "[LClueLogic$Clue;") ∈ GW := mwT 78 (by decide +kernel) rfl
theorem wd_79 : (Jvm.Cond.fieldLink "ClueLogic$Puzzle" (36 : Nat) "ClueLogic$Puzzle" "clueCount" "I") ∈ GW := mwT 79 (by decide +kernel) rfl
theorem wd_80 : (Jvm.Cond.laysFinal "ClueLogic$Puzzle" "ClueLogic$Puzzle" "things" "I") ∈ GW := mwT 80 (by decide +kernel) rfl
theorem wd_82 : (Jvm.Cond.laysFinal "ClueLogic$Puzzle" "ClueLogic$Puzzle" "kinds" "I") ∈ GW := mwT 82 (by decide +kernel) rfl
theorem wd_84 : (Jvm.Cond.laysFinal "ClueLogic$Puzzle" "ClueLogic$Puzzle" "persons" "I") ∈ GW := mwT 84 (by decide +kernel) rfl
theorem wd_86 : (Jvm.Cond.laysFinal "ClueLogic$Puzzle" "ClueLogic$Puzzle" "orders" "LClueLogic$Orders;") ∈ GW := mwT 86 (by decide +kernel) rfl
theorem wd_88 : (Jvm.Cond.laysFinal "ClueLogic$Puzzle" "ClueLogic$Puzzle" "clues" "[LClueLogic$Clue;") ∈ GW := mwT 88 (by decide +kernel) rfl
theorem wd_90 : (Jvm.Cond.lays "ClueLogic$Puzzle" "ClueLogic$Puzzle" "clueCount" "I") ∈ GW := mwT 90 (by decide +kernel) rfl
theorem wd_93 : (Jvm.Cond.methodLink "ClueLogic" (18 : Nat) ({ cls := "ClueLogic", name := "begin", desc := "(LClueLogic$Puzzle;)V" } : Jvm.MethodName)) ∈ GW := mwT 93 (by decide +kernel) rfl
theorem wd_95 : (Jvm.Cond.instanceMethod ({ cls := "ClueLogic", name := "begin", desc := "(LClueLogic$Puzzle;)V" } : Jvm.MethodName)) ∈ GW := mwT 95 (by decide +kernel) rfl
theorem wd_96 : (Jvm.Cond.code ({ cls := "ClueLogic", name := "begin", desc := "(LClueLogic$Puzzle;)V" } : Jvm.MethodName) prog_1_method_14_code (2 : Nat) (Option.none : Option Jvm.ClassFile.FieldType)) ∈ GW := mwT 96 (by decide +kernel) rfl
theorem wd_97 : (Jvm.Cond.classLink "ClueLogic" (63 : Nat) "ClueLogic$Answers") ∈ GW := mwT 97 (by decide +kernel) rfl
theorem wd_98 : (Jvm.Cond.instantiable "ClueLogic$Answers" (10 : Nat)) ∈ GW := mwT 98 (by decide +kernel) rfl
theorem wd_99 : (Jvm.Cond.methodLink "ClueLogic" (129 : Nat) ({ cls := "ClueLogic$Answers", name := "<init>", desc := "(LClueLogic$Puzzle;)V" } : Jvm.MethodName)) ∈ GW := mwT 99 (by decide +kernel) rfl
theorem wd_100 : (Jvm.Cond.instanceMethod ({ cls := "ClueLogic$Answers", name := "<init>", desc := "(LClueLogic$Puzzle;)V" } : Jvm.MethodName)) ∈ GW := mwT 100 (by decide +kernel) rfl
theorem wd_101 : (Jvm.Cond.code ({ cls := "ClueLogic$Answers", name := "<init>", desc := "(LClueLogic$Puzzle;)V" } : Jvm.MethodName) prog_2_method_1_code (2 : Nat) (Option.none : Option Jvm.ClassFile.FieldType)) ∈ GW := mwT 101 (by decide +kernel) rfl
theorem wd_102 : (Jvm.Cond.methodLink "ClueLogic$Answers" (3 : Nat) ({ cls := "java/lang/Object", name := "<init>", desc := "()V" } : Jvm.MethodName)) ∈ GW := mwT 102 (by decide +kernel) rfl
theorem wd_103 : (Jvm.Cond.classLink "ClueLogic$Answers" (32 : Nat) "ClueLogic$Walk") ∈ GW := mwT 103 (by decide +kernel) rfl
theorem wd_104 : (Jvm.Cond.instantiable "ClueLogic$Walk" (6 : Nat)) ∈ GW := mwT 104 (by decide +kernel) rfl
theorem wd_105 : (Jvm.Cond.methodLink "ClueLogic$Answers" (34 : Nat) ({ cls := "ClueLogic$Walk", name := "<init>", desc := "(LClueLogic$Puzzle;)V" } : Jvm.MethodName)) ∈ GW := mwT 105 (by decide +kernel) rfl
theorem wd_106 : (Jvm.Cond.instanceMethod ({ cls := "ClueLogic$Walk", name := "<init>", desc := "(LClueLogic$Puzzle;)V" } : Jvm.MethodName)) ∈ GW := mwT 106 (by decide +kernel) rfl
theorem wd_107 : (Jvm.Cond.code ({ cls := "ClueLogic$Walk", name := "<init>", desc := "(LClueLogic$Puzzle;)V" } : Jvm.MethodName) prog_12_method_1_code (2 : Nat) (Option.none : Option Jvm.ClassFile.FieldType)) ∈ GW := mwT 107 (by decide +kernel) rfl
theorem wd_108 : (Jvm.Cond.methodLink "ClueLogic$Walk" (3 : Nat) ({ cls := "java/lang/Object", name := "<init>", desc := "()V" } : Jvm.MethodName)) ∈ GW := mwT 108 (by decide +kernel) rfl
theorem wd_109 : (Jvm.Cond.methodLink "ClueLogic$Walk" (24 : Nat) ({ cls := "ClueLogic$Puzzle", name := "orders", desc := "()LClueLogic$Orders;" } : Jvm.MethodName)) ∈ GW := mwT 109 (by decide +kernel) rfl
theorem wd_110 : (Jvm.Cond.instanceMethod ({ cls := "ClueLogic$Puzzle", name := "orders", desc := "()LClueLogic$Orders;" } : Jvm.MethodName)) ∈ GW := mwT 110 (by decide +kernel) rfl
theorem wd_111 : (Jvm.Cond.selects "ClueLogic$Puzzle" ({ cls := "ClueLogic$Puzzle", name := "orders", desc := "()LClueLogic$Orders;" } : Jvm.MethodName) ({ cls := "ClueLogic$Puzzle", name := "orders", desc := "()LClueLogic$Orders;" } : Jvm.MethodName)) ∈ GW := mwT 111 (by decide +kernel) rfl
theorem wd_112 : (Jvm.Cond.code ({ cls := "ClueLogic$Puzzle", name := "orders", desc := "()LClueLogic$Orders;" } : Jvm.MethodName) prog_9_method_7_code (1 : Nat) (Option.some (Jvm.ClassFile.FieldType.object "ClueLogic$Orders"))) ∈ GW := mwT 112 (by decide +kernel) rfl
theorem wd_113 : (Jvm.Cond.methodLink "ClueLogic$Walk" (33 : Nat) ({ cls := "ClueLogic$Puzzle", name := "kinds", desc := "()I" } : Jvm.MethodName)) ∈ GW := mwT 113 (by decide +kernel) rfl
theorem wd_114 : (Jvm.Cond.instanceMethod ({ cls := "ClueLogic$Puzzle", name := "kinds", desc := "()I" } : Jvm.MethodName)) ∈ GW := mwT 114 (by decide +kernel) rfl
theorem wd_115 : (Jvm.Cond.selects "ClueLogic$Puzzle" ({ cls := "ClueLogic$Puzzle", name := "kinds", desc := "()I" } : Jvm.MethodName) ({ cls := "ClueLogic$Puzzle", name := "kinds", desc := "()I" } : Jvm.MethodName)) ∈ GW := mwT 115 (by decide +kernel) rfl
theorem wd_116 : (Jvm.Cond.code ({ cls := "ClueLogic$Puzzle", name := "kinds", desc := "()I" } : Jvm.MethodName) prog_9_method_4_code (1 : Nat) (Option.some Jvm.ClassFile.FieldType.int)) ∈ GW := mwT 116 (by decide +kernel) rfl
theorem wd_117 : (Jvm.Cond.fieldLink "ClueLogic$Walk" (30 : Nat) "ClueLogic$Walk" "orders" "LClueLogic$Orders;") ∈ GW := mwT 117 (by decide +kernel) rfl
theorem wd_118 : (Jvm.Cond.fieldLink "ClueLogic$Walk" (37 : Nat) "ClueLogic$Walk" "kinds" "I") ∈ GW := mwT 118 (by decide +kernel) rfl
theorem wd_119 : (Jvm.Cond.fieldLink "ClueLogic$Walk" (9 : Nat) "ClueLogic$Walk" "open" "[I") ∈ GW := mwT 119 (by decide +kernel) rfl
theorem wd_120 : (Jvm.Cond.fieldLink "ClueLogic$Walk" (15 : Nat) "ClueLogic$Walk" "openCount" "[I") ∈ GW := mwT 120 (by decide +kernel) rfl
theorem wd_121 : (Jvm.Cond.fieldLink "ClueLogic$Walk" (18 : Nat) "ClueLogic$Walk" "at" "[I") ∈ GW := mwT 121 (by decide +kernel) rfl
theorem wd_122 : (Jvm.Cond.fieldLink "ClueLogic$Walk" (21 : Nat) "ClueLogic$Walk" "thing" "[I") ∈ GW := mwT 122 (by decide +kernel) rfl
theorem wd_123 : (Jvm.Cond.laysFinal "ClueLogic$Walk" "ClueLogic$Walk" "orders" "LClueLogic$Orders;") ∈ GW := mwT 123 (by decide +kernel) rfl
theorem wd_125 : (Jvm.Cond.laysFinal "ClueLogic$Walk" "ClueLogic$Walk" "kinds" "I") ∈ GW := mwT 125 (by decide +kernel) rfl
theorem wd_127 : (Jvm.Cond.laysFinal "ClueLogic$Walk" "ClueLogic$Walk" "open" "[I") ∈ GW := mwT 127 (by decide +kernel) rfl
theorem wd_129 : (Jvm.Cond.laysFinal "ClueLogic$Walk" "ClueLogic$Walk" "openCount" "[I") ∈ GW := mwT 129 (by decide +kernel) rfl
theorem wd_131 : (Jvm.Cond.laysFinal "ClueLogic$Walk" "ClueLogic$Walk" "at" "[I") ∈ GW := mwT 131 (by decide +kernel) rfl
theorem wd_133 : (Jvm.Cond.laysFinal "ClueLogic$Walk" "ClueLogic$Walk" "thing" "[I") ∈ GW := mwT 133 (by decide +kernel) rfl
theorem wd_136 : (Jvm.Cond.arrayClass Jvm.ClassFile.FieldType.boolean) ∈ GW := mwT 136 (by decide +kernel) rfl
theorem wd_137 : (Jvm.Cond.fieldLink "ClueLogic$Answers" (28 : Nat) "ClueLogic$Answers" "puzzle" "LClueLogic$Puzzle;") ∈ GW := mwT 137 (by decide +kernel) rfl
theorem wd_138 : (Jvm.Cond.fieldLink "ClueLogic$Answers" (37 : Nat) "ClueLogic$Answers" "walk" "LClueLogic$Walk;") ∈ GW := mwT 138 (by decide +kernel) rfl
theorem wd_139 : (Jvm.Cond.fieldLink "ClueLogic$Answers" (9 : Nat) "ClueLogic$Answers" "keptOrder" "[I") ∈ GW := mwT 139 (by decide +kernel) rfl
theorem wd_140 : (Jvm.Cond.fieldLink "ClueLogic$Answers" (15 : Nat) "ClueLogic$Answers" "keptParty" "[I") ∈ GW := mwT 140 (by decide +kernel) rfl
theorem wd_141 : (Jvm.Cond.fieldLink "ClueLogic$Answers" (18 : Nat) "ClueLogic$Answers" "countWithOrder" "[I") ∈ GW := mwT 141 (by decide +kernel) rfl
theorem wd_142 : (Jvm.Cond.fieldLink "ClueLogic$Answers" (21 : Nat) "ClueLogic$Answers" "holding" "[I") ∈ GW := mwT 142 (by decide +kernel) rfl
theorem wd_143 : (Jvm.Cond.fieldLink "ClueLogic$Answers" (24 : Nat) "ClueLogic$Answers" "needed" "[Z") ∈ GW := mwT 143 (by decide +kernel) rfl
theorem wd_144 : (Jvm.Cond.fieldLink "ClueLogic$Answers" (41 : Nat) "ClueLogic$Answers" "count" "I") ∈ GW := mwT 144 (by decide +kernel) rfl
theorem wd_145 : (Jvm.Cond.fieldLink "ClueLogic$Answers" (45 : Nat) "ClueLogic$Answers" "kept" "I") ∈ GW := mwT 145 (by decide +kernel) rfl
theorem wd_146 : (Jvm.Cond.fieldLink "ClueLogic$Answers" (66 : Nat) "ClueLogic$Answers" "found" "Z") ∈ GW := mwT 146 (by decide +kernel) rfl
theorem wd_147 : (Jvm.Cond.laysFinal "ClueLogic$Answers" "ClueLogic$Answers" "puzzle" "LClueLogic$Puzzle;") ∈ GW := mwT 147 (by decide +kernel) rfl
theorem wd_149 : (Jvm.Cond.laysFinal "ClueLogic$Answers" "ClueLogic$Answers" "walk" "LClueLogic$Walk;") ∈ GW := mwT 149 (by decide +kernel) rfl
theorem wd_151 : (Jvm.Cond.laysFinal "ClueLogic$Answers" "ClueLogic$Answers" "keptOrder" "[I") ∈ GW := mwT 151 (by decide +kernel) rfl
theorem wd_153 : (Jvm.Cond.laysFinal "ClueLogic$Answers" "ClueLogic$Answers" "keptParty" "[I") ∈ GW := mwT 153 (by decide +kernel) rfl
theorem wd_155 : (Jvm.Cond.laysFinal "ClueLogic$Answers" "ClueLogic$Answers" "countWithOrder" "[I") ∈ GW := mwT 155 (by decide +kernel) rfl
theorem wd_157 : (Jvm.Cond.laysFinal "ClueLogic$Answers" "ClueLogic$Answers" "holding" "[I") ∈ GW := mwT 157 (by decide +kernel) rfl
theorem wd_159 : (Jvm.Cond.laysFinal "ClueLogic$Answers" "ClueLogic$Answers" "needed" "[Z") ∈ GW := mwT 159 (by decide +kernel) rfl
theorem wd_161 : (Jvm.Cond.lays "ClueLogic$Answers" "ClueLogic$Answers" "count" "I") ∈ GW := mwT 161 (by decide +kernel) rfl
theorem wd_163 : (Jvm.Cond.lays "ClueLogic$Answers" "ClueLogic$Answers" "kept" "I") ∈ GW := mwT 163 (by decide +kernel) rfl
theorem wd_165 : (Jvm.Cond.lays "ClueLogic$Answers" "ClueLogic$Answers" "found" "Z") ∈ GW := mwT 165 (by decide +kernel) rfl
theorem wd_168 : (Jvm.Cond.classLink "ClueLogic" (108 : Nat) "ClueLogic$Crossing") ∈ GW := mwT 168 (by decide +kernel) rfl
theorem wd_169 : (Jvm.Cond.instantiable "ClueLogic$Crossing" (10 : Nat)) ∈ GW := mwT 169 (by decide +kernel) rfl
theorem wd_170 : (Jvm.Cond.methodLink "ClueLogic" (131 : Nat) ({ cls := "ClueLogic$Crossing", name := "<init>", desc := "(LClueLogic$Puzzle;)V" } : Jvm.MethodName)) ∈ GW := mwT 170 (by decide +kernel) rfl
theorem wd_171 : (Jvm.Cond.instanceMethod ({ cls := "ClueLogic$Crossing", name := "<init>", desc := "(LClueLogic$Puzzle;)V" } : Jvm.MethodName)) ∈ GW := mwT 171 (by decide +kernel) rfl
theorem wd_172 : (Jvm.Cond.code ({ cls := "ClueLogic$Crossing", name := "<init>", desc := "(LClueLogic$Puzzle;)V" } : Jvm.MethodName) prog_4_method_1_code (3 : Nat) (Option.none : Option Jvm.ClassFile.FieldType)) ∈ GW := mwT 172 (by decide +kernel) rfl
theorem wd_173 : (Jvm.Cond.methodLink "ClueLogic$Crossing" (3 : Nat) ({ cls := "java/lang/Object", name := "<init>", desc := "()V" } : Jvm.MethodName)) ∈ GW := mwT 173 (by decide +kernel) rfl
theorem wd_174 : (Jvm.Cond.classLink "ClueLogic$Crossing" (28 : Nat) "ClueLogic$Walk") ∈ GW := mwT 174 (by decide +kernel) rfl
theorem wd_175 : (Jvm.Cond.methodLink "ClueLogic$Crossing" (30 : Nat) ({ cls := "ClueLogic$Walk", name := "<init>", desc := "(LClueLogic$Puzzle;)V" } : Jvm.MethodName)) ∈ GW := mwT 175 (by decide +kernel) rfl
theorem wd_176 : (Jvm.Cond.methodLink "ClueLogic$Crossing" (37 : Nat) ({ cls := "ClueLogic$Puzzle", name := "kinds", desc := "()I" } : Jvm.MethodName)) ∈ GW := mwT 176 (by decide +kernel) rfl
theorem wd_177 : (Jvm.Cond.methodLink "ClueLogic$Crossing" (43 : Nat) ({ cls := "ClueLogic$Puzzle", name := "orders", desc := "()LClueLogic$Orders;" } : Jvm.MethodName)) ∈ GW := mwT 177 (by decide +kernel) rfl
theorem wd_178 : (Jvm.Cond.methodLink "ClueLogic$Crossing" (47 : Nat) ({ cls := "ClueLogic$Orders", name := "allTicks", desc := "()I" } : Jvm.MethodName)) ∈ GW := mwT 178 (by decide +kernel) rfl
theorem wd_179 : (Jvm.Cond.instanceMethod ({ cls := "ClueLogic$Orders", name := "allTicks", desc := "()I" } : Jvm.MethodName)) ∈ GW := mwT 179 (by decide +kernel) rfl
theorem wd_180 : (Jvm.Cond.selects "ClueLogic$Orders" ({ cls := "ClueLogic$Orders", name := "allTicks", desc := "()I" } : Jvm.MethodName) ({ cls := "ClueLogic$Orders", name := "allTicks", desc := "()I" } : Jvm.MethodName)) ∈ GW := mwT 180 (by decide +kernel) rfl
theorem wd_181 : (Jvm.Cond.code ({ cls := "ClueLogic$Orders", name := "allTicks", desc := "()I" } : Jvm.MethodName) prog_8_method_5_code (1 : Nat) (Option.some Jvm.ClassFile.FieldType.int)) ∈ GW := mwT 181 (by decide +kernel) rfl
theorem wd_182 : (Jvm.Cond.methodLink "ClueLogic$Crossing" (52 : Nat) ({ cls := "ClueLogic$Puzzle", name := "parties", desc := "()I" } : Jvm.MethodName)) ∈ GW := mwT 182 (by decide +kernel) rfl
theorem wd_183 : (Jvm.Cond.instanceMethod ({ cls := "ClueLogic$Puzzle", name := "parties", desc := "()I" } : Jvm.MethodName)) ∈ GW := mwT 183 (by decide +kernel) rfl
theorem wd_184 : (Jvm.Cond.selects "ClueLogic$Puzzle" ({ cls := "ClueLogic$Puzzle", name := "parties", desc := "()I" } : Jvm.MethodName) ({ cls := "ClueLogic$Puzzle", name := "parties", desc := "()I" } : Jvm.MethodName)) ∈ GW := mwT 184 (by decide +kernel) rfl
theorem wd_185 : (Jvm.Cond.code ({ cls := "ClueLogic$Puzzle", name := "parties", desc := "()I" } : Jvm.MethodName) prog_9_method_14_code (1 : Nat) (Option.some Jvm.ClassFile.FieldType.int)) ∈ GW := mwT 185 (by decide +kernel) rfl
theorem wd_188 : (Jvm.Cond.methodLink "ClueLogic$Crossing" (55 : Nat) ({ cls := "ClueLogic$Crossing", name := "waysIn", desc := "(I)I" } : Jvm.MethodName)) ∈ GW := mwT 188 (by decide +kernel) rfl
theorem wd_190 : (Jvm.Cond.instanceMethod ({ cls := "ClueLogic$Crossing", name := "waysIn", desc := "(I)I" } : Jvm.MethodName)) ∈ GW := mwT 190 (by decide +kernel) rfl
theorem wd_191 : (Jvm.Cond.code ({ cls := "ClueLogic$Crossing", name := "waysIn", desc := "(I)I" } : Jvm.MethodName) prog_4_method_12_code (6 : Nat) (Option.some Jvm.ClassFile.FieldType.int)) ∈ GW := mwT 191 (by decide +kernel) rfl
theorem wd_192 : (Jvm.Cond.methodLink "ClueLogic$Crossing" (132 : Nat) ({ cls := "ClueLogic$Puzzle", name := "persons", desc := "()I" } : Jvm.MethodName)) ∈ GW := mwT 192 (by decide +kernel) rfl
theorem wd_193 : (Jvm.Cond.instanceMethod ({ cls := "ClueLogic$Puzzle", name := "persons", desc := "()I" } : Jvm.MethodName)) ∈ GW := mwT 193 (by decide +kernel) rfl
theorem wd_194 : (Jvm.Cond.selects "ClueLogic$Puzzle" ({ cls := "ClueLogic$Puzzle", name := "persons", desc := "()I" } : Jvm.MethodName) ({ cls := "ClueLogic$Puzzle", name := "persons", desc := "()I" } : Jvm.MethodName)) ∈ GW := mwT 194 (by decide +kernel) rfl
theorem wd_195 : (Jvm.Cond.code ({ cls := "ClueLogic$Puzzle", name := "persons", desc := "()I" } : Jvm.MethodName) prog_9_method_5_code (1 : Nat) (Option.some Jvm.ClassFile.FieldType.int)) ∈ GW := mwT 195 (by decide +kernel) rfl
theorem wd_198 : (Jvm.Cond.fieldLink "ClueLogic$Crossing" (24 : Nat) "ClueLogic$Crossing" "puzzle" "LClueLogic$Puzzle;") ∈ GW := mwT 198 (by decide +kernel) rfl
theorem wd_199 : (Jvm.Cond.fieldLink "ClueLogic$Crossing" (33 : Nat) "ClueLogic$Crossing" "walk" "LClueLogic$Walk;") ∈ GW := mwT 199 (by decide +kernel) rfl
theorem wd_200 : (Jvm.Cond.fieldLink "ClueLogic$Crossing" (9 : Nat) "ClueLogic$Crossing" "may" "[I") ∈ GW := mwT 200 (by decide +kernel) rfl
theorem wd_201 : (Jvm.Cond.fieldLink "ClueLogic$Crossing" (15 : Nat) "ClueLogic$Crossing" "seen" "[I") ∈ GW := mwT 201 (by decide +kernel) rfl
theorem wd_202 : (Jvm.Cond.fieldLink "ClueLogic$Crossing" (59 : Nat) "ClueLogic$Crossing" "mayBe" "I") ∈ GW := mwT 202 (by decide +kernel) rfl
theorem wd_203 : (Jvm.Cond.fieldLink "ClueLogic$Crossing" (123 : Nat) "ClueLogic$Crossing" "seenToBe" "I") ∈ GW := mwT 203 (by decide +kernel) rfl
theorem wd_204 : (Jvm.Cond.fieldLink "ClueLogic$Crossing" (18 : Nat) "ClueLogic$Crossing" "stepClue" "[I") ∈ GW := mwT 204 (by decide +kernel) rfl
theorem wd_205 : (Jvm.Cond.fieldLink "ClueLogic$Crossing" (21 : Nat) "ClueLogic$Crossing" "stepCrossed" "[I") ∈ GW := mwT 205 (by decide +kernel) rfl
theorem wd_206 : (Jvm.Cond.fieldLink "ClueLogic$Crossing" (63 : Nat) "ClueLogic$Crossing" "steps" "I") ∈ GW := mwT 206 (by decide +kernel) rfl
theorem wd_207 : (Jvm.Cond.fieldLink "ClueLogic$Crossing" (66 : Nat) "ClueLogic$Crossing" "finished" "Z") ∈ GW := mwT 207 (by decide +kernel) rfl
theorem wd_208 : (Jvm.Cond.laysFinal "ClueLogic$Crossing" "ClueLogic$Crossing" "puzzle" "LClueLogic$Puzzle;") ∈ GW := mwT 208 (by decide +kernel) rfl
theorem wd_210 : (Jvm.Cond.laysFinal "ClueLogic$Crossing" "ClueLogic$Crossing" "walk" "LClueLogic$Walk;") ∈ GW := mwT 210 (by decide +kernel) rfl
theorem wd_212 : (Jvm.Cond.laysFinal "ClueLogic$Crossing" "ClueLogic$Crossing" "may" "[I") ∈ GW := mwT 212 (by decide +kernel) rfl
theorem wd_214 : (Jvm.Cond.laysFinal "ClueLogic$Crossing" "ClueLogic$Crossing" "seen" "[I") ∈ GW := mwT 214 (by decide +kernel) rfl
theorem wd_216 : (Jvm.Cond.lays "ClueLogic$Crossing" "ClueLogic$Crossing" "mayBe" "I") ∈ GW := mwT 216 (by decide +kernel) rfl
theorem wd_218 : (Jvm.Cond.lays "ClueLogic$Crossing" "ClueLogic$Crossing" "seenToBe" "I") ∈ GW := mwT 218 (by decide +kernel) rfl
theorem wd_220 : (Jvm.Cond.laysFinal "ClueLogic$Crossing" "ClueLogic$Crossing" "stepClue" "[I") ∈ GW := mwT 220 (by decide +kernel) rfl
theorem wd_222 : (Jvm.Cond.laysFinal "ClueLogic$Crossing" "ClueLogic$Crossing" "stepCrossed" "[I") ∈ GW := mwT 222 (by decide +kernel) rfl
theorem wd_224 : (Jvm.Cond.lays "ClueLogic$Crossing" "ClueLogic$Crossing" "steps" "I") ∈ GW := mwT 224 (by decide +kernel) rfl
theorem wd_226 : (Jvm.Cond.lays "ClueLogic$Crossing" "ClueLogic$Crossing" "finished" "Z") ∈ GW := mwT 226 (by decide +kernel) rfl
theorem wd_229 : (Jvm.Cond.fieldLink "ClueLogic" (9 : Nat) "ClueLogic" "text" "[I") ∈ GW := mwT 229 (by decide +kernel) rfl
theorem wd_230 : (Jvm.Cond.fieldLink "ClueLogic" (22 : Nat) "ClueLogic" "length" "I") ∈ GW := mwT 230 (by decide +kernel) rfl
theorem wd_231 : (Jvm.Cond.fieldLink "ClueLogic" (42 : Nat) "ClueLogic" "puzzle" "LClueLogic$Puzzle;") ∈ GW := mwT 231 (by decide +kernel) rfl
theorem wd_232 : (Jvm.Cond.fieldLink "ClueLogic" (58 : Nat) "ClueLogic" "answers" "LClueLogic$Answers;") ∈ GW := mwT 232 (by decide +kernel) rfl
theorem wd_233 : (Jvm.Cond.fieldLink "ClueLogic" (103 : Nat) "ClueLogic" "crossing" "LClueLogic$Crossing;") ∈ GW := mwT 233 (by decide +kernel) rfl
theorem wd_234 : (Jvm.Cond.fieldLink "ClueLogic" (54 : Nat) "ClueLogic" "ran" "Z") ∈ GW := mwT 234 (by decide +kernel) rfl
theorem wd_235 : (Jvm.Cond.laysFinal "ClueLogic" "ClueLogic" "text" "[I") ∈ GW := mwT 235 (by decide +kernel) rfl
theorem wd_237 : (Jvm.Cond.lays "ClueLogic" "ClueLogic" "length" "I") ∈ GW := mwT 237 (by decide +kernel) rfl
theorem wd_239 : (Jvm.Cond.lays "ClueLogic" "ClueLogic" "puzzle" "LClueLogic$Puzzle;") ∈ GW := mwT 239 (by decide +kernel) rfl
theorem wd_241 : (Jvm.Cond.lays "ClueLogic" "ClueLogic" "answers" "LClueLogic$Answers;") ∈ GW := mwT 241 (by decide +kernel) rfl
theorem wd_243 : (Jvm.Cond.lays "ClueLogic" "ClueLogic" "crossing" "LClueLogic$Crossing;") ∈ GW := mwT 243 (by decide +kernel) rfl
theorem wd_245 : (Jvm.Cond.lays "ClueLogic" "ClueLogic" "ran" "Z") ∈ GW := mwT 245 (by decide +kernel) rfl
theorem wd_248 : (Jvm.Cond.methodLink "ClueLogicLaw" (13 : Nat) ({ cls := "ClueLogic", name := "unit", desc := "(I)Z" } : Jvm.MethodName)) ∈ GW := mwT 248 (by decide +kernel) rfl
theorem wd_249 : (Jvm.Cond.instanceMethod ({ cls := "ClueLogic", name := "unit", desc := "(I)Z" } : Jvm.MethodName)) ∈ GW := mwT 249 (by decide +kernel) rfl
theorem wd_250 : (Jvm.Cond.selects "ClueLogic" ({ cls := "ClueLogic", name := "unit", desc := "(I)Z" } : Jvm.MethodName) ({ cls := "ClueLogic", name := "unit", desc := "(I)Z" } : Jvm.MethodName)) ∈ GW := mwT 250 (by decide +kernel) rfl
theorem wd_251 : (Jvm.Cond.code ({ cls := "ClueLogic", name := "unit", desc := "(I)Z" } : Jvm.MethodName) prog_1_method_2_code (2 : Nat) (Option.some Jvm.ClassFile.FieldType.boolean)) ∈ GW := mwT 251 (by decide +kernel) rfl
theorem wd_252 : (Jvm.Cond.methodLink "ClueLogicLaw" (18 : Nat) ({ cls := "ClueLogic", name := "read", desc := "()I" } : Jvm.MethodName)) ∈ GW := mwT 252 (by decide +kernel) rfl
theorem wd_253 : (Jvm.Cond.instanceMethod ({ cls := "ClueLogic", name := "read", desc := "()I" } : Jvm.MethodName)) ∈ GW := mwT 253 (by decide +kernel) rfl
theorem wd_254 : (Jvm.Cond.selects "ClueLogic" ({ cls := "ClueLogic", name := "read", desc := "()I" } : Jvm.MethodName) ({ cls := "ClueLogic", name := "read", desc := "()I" } : Jvm.MethodName)) ∈ GW := mwT 254 (by decide +kernel) rfl
theorem wd_255 : (Jvm.Cond.code ({ cls := "ClueLogic", name := "read", desc := "()I" } : Jvm.MethodName) prog_1_method_3_code (3 : Nat) (Option.some Jvm.ClassFile.FieldType.int)) ∈ GW := mwT 255 (by decide +kernel) rfl
theorem wd_256 : (Jvm.Cond.classLink "ClueLogic" (26 : Nat) "ClueLogic$Reader") ∈ GW := mwT 256 (by decide +kernel) rfl
theorem wd_257 : (Jvm.Cond.instantiable "ClueLogic$Reader" (7 : Nat)) ∈ GW := mwT 257 (by decide +kernel) rfl
theorem wd_258 : (Jvm.Cond.methodLink "ClueLogic" (28 : Nat) ({ cls := "ClueLogic$Reader", name := "<init>", desc := "([II)V" } : Jvm.MethodName)) ∈ GW := mwT 258 (by decide +kernel) rfl
theorem wd_259 : (Jvm.Cond.instanceMethod ({ cls := "ClueLogic$Reader", name := "<init>", desc := "([II)V" } : Jvm.MethodName)) ∈ GW := mwT 259 (by decide +kernel) rfl
theorem wd_260 : (Jvm.Cond.code ({ cls := "ClueLogic$Reader", name := "<init>", desc := "([II)V" } : Jvm.MethodName) prog_10_method_1_code (3 : Nat) (Option.none : Option Jvm.ClassFile.FieldType)) ∈ GW := mwT 260 (by decide +kernel) rfl
theorem wd_261 : (Jvm.Cond.methodLink "ClueLogic$Reader" (3 : Nat) ({ cls := "java/lang/Object", name := "<init>", desc := "()V" } : Jvm.MethodName)) ∈ GW := mwT 261 (by decide +kernel) rfl
theorem wd_262 : (Jvm.Cond.fieldLink "ClueLogic$Reader" (9 : Nat) "ClueLogic$Reader" "text" "[I") ∈ GW := mwT 262 (by decide +kernel) rfl
theorem wd_263 : (Jvm.Cond.fieldLink "ClueLogic$Reader" (15 : Nat) "ClueLogic$Reader" "length" "I") ∈ GW := mwT 263 (by decide +kernel) rfl
theorem wd_264 : (Jvm.Cond.fieldLink "ClueLogic$Reader" (19 : Nat) "ClueLogic$Reader" "place" "I") ∈ GW := mwT 264 (by decide +kernel) rfl
theorem wd_265 : (Jvm.Cond.fieldLink "ClueLogic$Reader" (31 : Nat) "ClueLogic$Reader" "kinds" "I") ∈ GW := mwT 265 (by decide +kernel) rfl
theorem wd_266 : (Jvm.Cond.fieldLink "ClueLogic$Reader" (28 : Nat) "ClueLogic$Reader" "things" "I") ∈ GW := mwT 266 (by decide +kernel) rfl
theorem wd_267 : (Jvm.Cond.fieldLink "ClueLogic$Reader" (34 : Nat) "ClueLogic$Reader" "persons" "I") ∈ GW := mwT 267 (by decide +kernel) rfl
theorem wd_268 : (Jvm.Cond.fieldLink "ClueLogic$Reader" (40 : Nat) "ClueLogic$Reader" "signs" "I") ∈ GW := mwT 268 (by decide +kernel) rfl
theorem wd_269 : (Jvm.Cond.laysFinal "ClueLogic$Reader" "ClueLogic$Reader" "text" "[I") ∈ GW := mwT 269 (by decide +kernel) rfl
theorem wd_271 : (Jvm.Cond.laysFinal "ClueLogic$Reader" "ClueLogic$Reader" "length" "I") ∈ GW := mwT 271 (by decide +kernel) rfl
theorem wd_273 : (Jvm.Cond.lays "ClueLogic$Reader" "ClueLogic$Reader" "place" "I") ∈ GW := mwT 273 (by decide +kernel) rfl
theorem wd_275 : (Jvm.Cond.lays "ClueLogic$Reader" "ClueLogic$Reader" "kinds" "I") ∈ GW := mwT 275 (by decide +kernel) rfl
theorem wd_277 : (Jvm.Cond.lays "ClueLogic$Reader" "ClueLogic$Reader" "things" "I") ∈ GW := mwT 277 (by decide +kernel) rfl
theorem wd_279 : (Jvm.Cond.lays "ClueLogic$Reader" "ClueLogic$Reader" "persons" "I") ∈ GW := mwT 279 (by decide +kernel) rfl
theorem wd_281 : (Jvm.Cond.lays "ClueLogic$Reader" "ClueLogic$Reader" "signs" "I") ∈ GW := mwT 281 (by decide +kernel) rfl
theorem wd_284 : (Jvm.Cond.methodLink "ClueLogic" (31 : Nat) ({ cls := "ClueLogic$Reader", name := "puzzle", desc := "()LClueLogic$Puzzle;" } : Jvm.MethodName)) ∈ GW := mwT 284 (by decide +kernel) rfl
theorem wd_285 : (Jvm.Cond.instanceMethod ({ cls := "ClueLogic$Reader", name := "puzzle", desc := "()LClueLogic$Puzzle;" } : Jvm.MethodName)) ∈ GW := mwT 285 (by decide +kernel) rfl
theorem wd_286 : (Jvm.Cond.selects "ClueLogic$Reader" ({ cls := "ClueLogic$Reader", name := "puzzle", desc := "()LClueLogic$Puzzle;" } : Jvm.MethodName) ({ cls := "ClueLogic$Reader", name := "puzzle", desc := "()LClueLogic$Puzzle;" } : Jvm.MethodName)) ∈ GW := mwT 286 (by decide +kernel) rfl
theorem wd_287 : (Jvm.Cond.code ({ cls := "ClueLogic$Reader", name := "puzzle", desc := "()LClueLogic$Puzzle;" } : Jvm.MethodName) prog_10_method_3_code (4 : Nat) (Option.some (Jvm.ClassFile.FieldType.object "ClueLogic$Puzzle"))) ∈ GW := mwT 287 (by decide +kernel) rfl
theorem wd_288 : (Jvm.Cond.methodLink "ClueLogic$Reader" (22 : Nat) ({ cls := "ClueLogic$Reader", name := "passHead", desc := "()Z" } : Jvm.MethodName)) ∈ GW := mwT 288 (by decide +kernel) rfl
theorem wd_290 : (Jvm.Cond.instanceMethod ({ cls := "ClueLogic$Reader", name := "passHead", desc := "()Z" } : Jvm.MethodName)) ∈ GW := mwT 290 (by decide +kernel) rfl
theorem wd_291 : (Jvm.Cond.code ({ cls := "ClueLogic$Reader", name := "passHead", desc := "()Z" } : Jvm.MethodName) prog_10_method_4_code (1 : Nat) (Option.some Jvm.ClassFile.FieldType.boolean)) ∈ GW := mwT 291 (by decide +kernel) rfl
theorem wd_292 : (Jvm.Cond.methodLink "ClueLogic$Reader" (54 : Nat) ({ cls := "ClueLogic$Reader", name := "take", desc := "(III)I" } : Jvm.MethodName)) ∈ GW := mwT 292 (by decide +kernel) rfl
theorem wd_294 : (Jvm.Cond.instanceMethod ({ cls := "ClueLogic$Reader", name := "take", desc := "(III)I" } : Jvm.MethodName)) ∈ GW := mwT 294 (by decide +kernel) rfl
theorem wd_295 : (Jvm.Cond.code ({ cls := "ClueLogic$Reader", name := "take", desc := "(III)I" } : Jvm.MethodName) prog_10_method_13_code (5 : Nat) (Option.some Jvm.ClassFile.FieldType.int)) ∈ GW := mwT 295 (by decide +kernel) rfl
theorem wd_296 : (Jvm.Cond.methodLink "ClueLogic$Reader" (47 : Nat) ({ cls := "ClueLogic$Reader", name := "passSemicolon", desc := "()Z" } : Jvm.MethodName)) ∈ GW := mwT 296 (by decide +kernel) rfl
theorem wd_298 : (Jvm.Cond.instanceMethod ({ cls := "ClueLogic$Reader", name := "passSemicolon", desc := "()Z" } : Jvm.MethodName)) ∈ GW := mwT 298 (by decide +kernel) rfl
theorem wd_299 : (Jvm.Cond.code ({ cls := "ClueLogic$Reader", name := "passSemicolon", desc := "()Z" } : Jvm.MethodName) prog_10_method_12_code (1 : Nat) (Option.some Jvm.ClassFile.FieldType.boolean)) ∈ GW := mwT 299 (by decide +kernel) rfl
theorem wd_300 : (Jvm.Cond.classLink "ClueLogic$Reader" (26 : Nat) "ClueLogic$Puzzle") ∈ GW := mwT 300 (by decide +kernel) rfl
theorem wd_301 : (Jvm.Cond.methodLink "ClueLogic$Reader" (37 : Nat) ({ cls := "ClueLogic$Puzzle", name := "<init>", desc := "(III)V" } : Jvm.MethodName)) ∈ GW := mwT 301 (by decide +kernel) rfl
theorem wd_302 : (Jvm.Cond.methodLink "ClueLogic$Reader" (43 : Nat) ({ cls := "ClueLogic$Reader", name := "clue", desc := "()LClueLogic$Clue;" } : Jvm.MethodName)) ∈ GW := mwT 302 (by decide +kernel) rfl
theorem wd_304 : (Jvm.Cond.instanceMethod ({ cls := "ClueLogic$Reader", name := "clue", desc := "()LClueLogic$Clue;" } : Jvm.MethodName)) ∈ GW := mwT 304 (by decide +kernel) rfl
theorem wd_305 : (Jvm.Cond.code ({ cls := "ClueLogic$Reader", name := "clue", desc := "()LClueLogic$Clue;" } : Jvm.MethodName) prog_10_method_5_code (2 : Nat) (Option.some (Jvm.ClassFile.FieldType.object "ClueLogic$Clue"))) ∈ GW := mwT 305 (by decide +kernel) rfl
theorem wd_307 : (Jvm.Cond.methodLink "ClueLogic$Reader" (60 : Nat) ({ cls := "java/lang/String", name := "indexOf", desc := "(I)I" } : Jvm.MethodName)) ∈ GW := mwT 307 (by decide +kernel) rfl
theorem wd_308 : (Jvm.Cond.instanceMethod ({ cls := "java/lang/String", name := "indexOf", desc := "(I)I" } : Jvm.MethodName)) ∈ GW := mwT 308 (by decide +kernel) rfl
theorem wd_309 : (Jvm.Cond.selects "java/lang/String" ({ cls := "java/lang/String", name := "indexOf", desc := "(I)I" } : Jvm.MethodName) ({ cls := "java/lang/String", name := "indexOf", desc := "(I)I" } : Jvm.MethodName)) ∈ GW := mwT 309 (by decide +kernel) rfl
theorem wd_310 : (Jvm.Cond.code ({ cls := "java/lang/String", name := "indexOf", desc := "(I)I" } : Jvm.MethodName) prog_18_method_79_code (2 : Nat) (Option.some Jvm.ClassFile.FieldType.int)) ∈ GW := mwT 310 (by decide +kernel) rfl
theorem wd_311 : (Jvm.Cond.methodLink "java/lang/String" (633 : Nat) ({ cls := "java/lang/String", name := "indexOf", desc := "(II)I" } : Jvm.MethodName)) ∈ GW := mwT 311 (by decide +kernel) rfl
theorem wd_312 : (Jvm.Cond.instanceMethod ({ cls := "java/lang/String", name := "indexOf", desc := "(II)I" } : Jvm.MethodName)) ∈ GW := mwT 312 (by decide +kernel) rfl
theorem wd_313 : (Jvm.Cond.selects "java/lang/String" ({ cls := "java/lang/String", name := "indexOf", desc := "(II)I" } : Jvm.MethodName) ({ cls := "java/lang/String", name := "indexOf", desc := "(II)I" } : Jvm.MethodName)) ∈ GW := mwT 313 (by decide +kernel) rfl
theorem wd_314 : (Jvm.Cond.code ({ cls := "java/lang/String", name := "indexOf", desc := "(II)I" } : Jvm.MethodName) prog_18_method_80_code (3 : Nat) (Option.some Jvm.ClassFile.FieldType.int)) ∈ GW := mwT 314 (by decide +kernel) rfl
theorem wd_315 : (Jvm.Cond.methodLink "java/lang/String" (492 : Nat) ({ cls := "java/lang/String", name := "isLatin1", desc := "()Z" } : Jvm.MethodName)) ∈ GW := mwT 315 (by decide +kernel) rfl
theorem wd_316 : (Jvm.Cond.instanceMethod ({ cls := "java/lang/String", name := "isLatin1", desc := "()Z" } : Jvm.MethodName)) ∈ GW := mwT 316 (by decide +kernel) rfl
theorem wd_317 : (Jvm.Cond.selects "java/lang/String" ({ cls := "java/lang/String", name := "isLatin1", desc := "()Z" } : Jvm.MethodName) ({ cls := "java/lang/String", name := "isLatin1", desc := "()Z" } : Jvm.MethodName)) ∈ GW := mwT 317 (by decide +kernel) rfl
theorem wd_318 : (Jvm.Cond.code ({ cls := "java/lang/String", name := "isLatin1", desc := "()Z" } : Jvm.MethodName) prog_18_method_154_code (1 : Nat) (Option.some Jvm.ClassFile.FieldType.boolean)) ∈ GW := mwT 318 (by decide +kernel) rfl
theorem wd_321 : (Jvm.Cond.methodLink "java/lang/String" (505 : Nat) ({ cls := "java/lang/String", name := "length", desc := "()I" } : Jvm.MethodName)) ∈ GW := mwT 321 (by decide +kernel) rfl
theorem wd_322 : (Jvm.Cond.instanceMethod ({ cls := "java/lang/String", name := "length", desc := "()I" } : Jvm.MethodName)) ∈ GW := mwT 322 (by decide +kernel) rfl
theorem wd_323 : (Jvm.Cond.selects "java/lang/String" ({ cls := "java/lang/String", name := "length", desc := "()I" } : Jvm.MethodName) ({ cls := "java/lang/String", name := "length", desc := "()I" } : Jvm.MethodName)) ∈ GW := mwT 323 (by decide +kernel) rfl
theorem wd_324 : (Jvm.Cond.code ({ cls := "java/lang/String", name := "length", desc := "()I" } : Jvm.MethodName) prog_18_method_54_code (1 : Nat) (Option.some Jvm.ClassFile.FieldType.int)) ∈ GW := mwT 324 (by decide +kernel) rfl
theorem wd_325 : (Jvm.Cond.methodLink "java/lang/String" (335 : Nat) ({ cls := "java/lang/String", name := "coder", desc := "()B" } : Jvm.MethodName)) ∈ GW := mwT 325 (by decide +kernel) rfl
theorem wd_326 : (Jvm.Cond.instanceMethod ({ cls := "java/lang/String", name := "coder", desc := "()B" } : Jvm.MethodName)) ∈ GW := mwT 326 (by decide +kernel) rfl
theorem wd_327 : (Jvm.Cond.selects "java/lang/String" ({ cls := "java/lang/String", name := "coder", desc := "()B" } : Jvm.MethodName) ({ cls := "java/lang/String", name := "coder", desc := "()B" } : Jvm.MethodName)) ∈ GW := mwT 327 (by decide +kernel) rfl
theorem wd_328 : (Jvm.Cond.code ({ cls := "java/lang/String", name := "coder", desc := "()B" } : Jvm.MethodName) prog_18_method_152_code (1 : Nat) (Option.some Jvm.ClassFile.FieldType.byte)) ∈ GW := mwT 328 (by decide +kernel) rfl
theorem wd_329 : (Jvm.Cond.methodLink "java/lang/String" (637 : Nat) ({ cls := "java/lang/StringLatin1", name := "indexOf", desc := "([BIII)I" } : Jvm.MethodName)) ∈ GW := mwT 329 (by decide +kernel) rfl
theorem wd_330 : (Jvm.Cond.static ({ cls := "java/lang/StringLatin1", name := "indexOf", desc := "([BIII)I" } : Jvm.MethodName)) ∈ GW := mwT 330 (by decide +kernel) rfl
theorem wd_331 : (Jvm.Cond.code ({ cls := "java/lang/StringLatin1", name := "indexOf", desc := "([BIII)I" } : Jvm.MethodName) prog_19_method_22_code (4 : Nat) (Option.some Jvm.ClassFile.FieldType.int)) ∈ GW := mwT 331 (by decide +kernel) rfl
theorem wd_332 : (Jvm.Cond.methodLink "java/lang/StringLatin1" (88 : Nat) ({ cls := "java/lang/StringLatin1", name := "canEncode", desc := "(I)Z" } : Jvm.MethodName)) ∈ GW := mwT 332 (by decide +kernel) rfl
theorem wd_333 : (Jvm.Cond.static ({ cls := "java/lang/StringLatin1", name := "canEncode", desc := "(I)Z" } : Jvm.MethodName)) ∈ GW := mwT 333 (by decide +kernel) rfl
theorem wd_334 : (Jvm.Cond.code ({ cls := "java/lang/StringLatin1", name := "canEncode", desc := "(I)Z" } : Jvm.MethodName) prog_19_method_4_code (1 : Nat) (Option.some Jvm.ClassFile.FieldType.boolean)) ∈ GW := mwT 334 (by decide +kernel) rfl
theorem wd_335 : (Jvm.Cond.methodLink "java/lang/StringLatin1" (92 : Nat) ({ cls := "java/lang/Math", name := "max", desc := "(II)I" } : Jvm.MethodName)) ∈ GW := mwT 335 (by decide +kernel) rfl
theorem wd_336 : (Jvm.Cond.static ({ cls := "java/lang/Math", name := "max", desc := "(II)I" } : Jvm.MethodName)) ∈ GW := mwT 336 (by decide +kernel) rfl
theorem wd_337 : (Jvm.Cond.code ({ cls := "java/lang/Math", name := "max", desc := "(II)I" } : Jvm.MethodName) prog_17_method_65_code (2 : Nat) (Option.some Jvm.ClassFile.FieldType.int)) ∈ GW := mwT 337 (by decide +kernel) rfl
theorem wd_338 : (Jvm.Cond.methodLink "java/lang/StringLatin1" (38 : Nat) ({ cls := "java/lang/Math", name := "min", desc := "(II)I" } : Jvm.MethodName)) ∈ GW := mwT 338 (by decide +kernel) rfl
theorem wd_339 : (Jvm.Cond.static ({ cls := "java/lang/Math", name := "min", desc := "(II)I" } : Jvm.MethodName)) ∈ GW := mwT 339 (by decide +kernel) rfl
theorem wd_340 : (Jvm.Cond.code ({ cls := "java/lang/Math", name := "min", desc := "(II)I" } : Jvm.MethodName) prog_17_method_69_code (2 : Nat) (Option.some Jvm.ClassFile.FieldType.int)) ∈ GW := mwT 340 (by decide +kernel) rfl
theorem wd_341 : (Jvm.Cond.methodLink "java/lang/StringLatin1" (95 : Nat) ({ cls := "java/lang/StringLatin1", name := "indexOfChar", desc := "([BIII)I" } : Jvm.MethodName)) ∈ GW := mwT 341 (by decide +kernel) rfl
theorem wd_342 : (Jvm.Cond.static ({ cls := "java/lang/StringLatin1", name := "indexOfChar", desc := "([BIII)I" } : Jvm.MethodName)) ∈ GW := mwT 342 (by decide +kernel) rfl
theorem wd_343 : (Jvm.Cond.code ({ cls := "java/lang/StringLatin1", name := "indexOfChar", desc := "([BIII)I" } : Jvm.MethodName) prog_19_method_23_code (6 : Nat) (Option.some Jvm.ClassFile.FieldType.int)) ∈ GW := mwT 343 (by decide +kernel) rfl
theorem wd_344 : (Jvm.Cond.methodLink "java/lang/String" (640 : Nat) ({ cls := "java/lang/StringUTF16", name := "indexOf", desc := "([BIII)I" } : Jvm.MethodName)) ∈ GW := mwT 344 (by decide +kernel) rfl
theorem wd_345 : (Jvm.Cond.static ({ cls := "java/lang/StringUTF16", name := "indexOf", desc := "([BIII)I" } : Jvm.MethodName)) ∈ GW := mwT 345 (by decide +kernel) rfl
theorem wd_346 : (Jvm.Cond.code ({ cls := "java/lang/StringUTF16", name := "indexOf", desc := "([BIII)I" } : Jvm.MethodName) prog_20_method_40_code (4 : Nat) (Option.some Jvm.ClassFile.FieldType.int)) ∈ GW := mwT 346 (by decide +kernel) rfl
theorem wd_347 : (Jvm.Cond.methodLink "java/lang/StringUTF16" (224 : Nat) ({ cls := "java/lang/Math", name := "max", desc := "(II)I" } : Jvm.MethodName)) ∈ GW := mwT 347 (by decide +kernel) rfl
theorem wd_348 : (Jvm.Cond.methodLink "java/lang/StringUTF16" (183 : Nat) ({ cls := "java/lang/Math", name := "min", desc := "(II)I" } : Jvm.MethodName)) ∈ GW := mwT 348 (by decide +kernel) rfl
theorem wd_349 : (Jvm.Cond.constant "java/lang/StringUTF16" (227 : Nat) (65536 : Int32)) ∈ GW := mwT 349 (by decide +kernel) rfl
theorem wd_350 : (Jvm.Cond.methodLink "java/lang/StringUTF16" (228 : Nat) ({ cls := "java/lang/StringUTF16", name := "indexOfChar", desc := "([BIII)I" } : Jvm.MethodName)) ∈ GW := mwT 350 (by decide +kernel) rfl
theorem wd_351 : (Jvm.Cond.static ({ cls := "java/lang/StringUTF16", name := "indexOfChar", desc := "([BIII)I" } : Jvm.MethodName)) ∈ GW := mwT 351 (by decide +kernel) rfl
theorem wd_352 : (Jvm.Cond.code ({ cls := "java/lang/StringUTF16", name := "indexOfChar", desc := "([BIII)I" } : Jvm.MethodName) prog_20_method_47_code (4 : Nat) (Option.some Jvm.ClassFile.FieldType.int)) ∈ GW := mwT 352 (by decide +kernel) rfl
theorem wd_353 : (Jvm.Cond.methodLink "java/lang/StringUTF16" (96 : Nat) ({ cls := "java/lang/StringUTF16", name := "checkBoundsBeginEnd", desc := "(II[B)V" } : Jvm.MethodName)) ∈ GW := mwT 353 (by decide +kernel) rfl
theorem wd_354 : (Jvm.Cond.static ({ cls := "java/lang/StringUTF16", name := "checkBoundsBeginEnd", desc := "(II[B)V" } : Jvm.MethodName)) ∈ GW := mwT 354 (by decide +kernel) rfl
theorem wd_355 : (Jvm.Cond.code ({ cls := "java/lang/StringUTF16", name := "checkBoundsBeginEnd", desc := "(II[B)V" } : Jvm.MethodName) prog_20_method_93_code (3 : Nat) (Option.none : Option Jvm.ClassFile.FieldType)) ∈ GW := mwT 355 (by decide +kernel) rfl
theorem wd_356 : (Jvm.Cond.methodLink "java/lang/StringUTF16" (48 : Nat) ({ cls := "java/lang/StringUTF16", name := "length", desc := "([B)I" } : Jvm.MethodName)) ∈ GW := mwT 356 (by decide +kernel) rfl
theorem wd_357 : (Jvm.Cond.static ({ cls := "java/lang/StringUTF16", name := "length", desc := "([B)I" } : Jvm.MethodName)) ∈ GW := mwT 357 (by decide +kernel) rfl
theorem wd_358 : (Jvm.Cond.code ({ cls := "java/lang/StringUTF16", name := "length", desc := "([B)I" } : Jvm.MethodName) prog_20_method_6_code (1 : Nat) (Option.some Jvm.ClassFile.FieldType.int)) ∈ GW := mwT 358 (by decide +kernel) rfl
theorem wd_359 : (Jvm.Cond.methodLink "java/lang/StringUTF16" (241 : Nat) ({ cls := "java/lang/String", name := "checkBoundsBeginEnd", desc := "(III)V" } : Jvm.MethodName)) ∈ GW := mwT 359 (by decide +kernel) rfl
theorem wd_360 : (Jvm.Cond.static ({ cls := "java/lang/String", name := "checkBoundsBeginEnd", desc := "(III)V" } : Jvm.MethodName)) ∈ GW := mwT 360 (by decide +kernel) rfl
theorem wd_361 : (Jvm.Cond.code ({ cls := "java/lang/String", name := "checkBoundsBeginEnd", desc := "(III)V" } : Jvm.MethodName) prog_18_method_158_code (3 : Nat) (Option.none : Option Jvm.ClassFile.FieldType)) ∈ GW := mwT 361 (by decide +kernel) rfl
theorem wd_364 : (Jvm.Cond.methodLink "java/lang/String" (1062 : Nat) ({ cls := "jdk/internal/util/Preconditions", name := "checkFromToIndex", desc := "(IIILjava/util/function/BiFunction;)I" } : Jvm.MethodName)) ∈ GW := mwT 364 (by decide +kernel) rfl
theorem wd_365 : (Jvm.Cond.static ({ cls := "jdk/internal/util/Preconditions", name := "checkFromToIndex", desc := "(IIILjava/util/function/BiFunction;)I" } : Jvm.MethodName)) ∈ GW := mwT 365 (by decide +kernel) rfl
theorem wd_366 : (Jvm.Cond.code ({ cls := "jdk/internal/util/Preconditions", name := "checkFromToIndex", desc := "(IIILjava/util/function/BiFunction;)I" } : Jvm.MethodName) prog_22_method_12_code (4 : Nat) (Option.some Jvm.ClassFile.FieldType.int)) ∈ GW := mwT 366 (by decide +kernel) rfl
theorem wd_367 : (Jvm.Cond.methodLink "java/lang/StringUTF16" (244 : Nat) ({ cls := "java/lang/StringUTF16", name := "indexOfCharUnsafe", desc := "([BIII)I" } : Jvm.MethodName)) ∈ GW := mwT 367 (by decide +kernel) rfl
theorem wd_368 : (Jvm.Cond.static ({ cls := "java/lang/StringUTF16", name := "indexOfCharUnsafe", desc := "([BIII)I" } : Jvm.MethodName)) ∈ GW := mwT 368 (by decide +kernel) rfl
theorem wd_369 : (Jvm.Cond.code ({ cls := "java/lang/StringUTF16", name := "indexOfCharUnsafe", desc := "([BIII)I" } : Jvm.MethodName) prog_20_method_48_code (5 : Nat) (Option.some Jvm.ClassFile.FieldType.int)) ∈ GW := mwT 369 (by decide +kernel) rfl
theorem wd_370 : (Jvm.Cond.methodLink "java/lang/StringUTF16" (71 : Nat) ({ cls := "java/lang/StringUTF16", name := "getChar", desc := "([BI)C" } : Jvm.MethodName)) ∈ GW := mwT 370 (by decide +kernel) rfl
theorem wd_371 : (Jvm.Cond.static ({ cls := "java/lang/StringUTF16", name := "getChar", desc := "([BI)C" } : Jvm.MethodName)) ∈ GW := mwT 371 (by decide +kernel) rfl
theorem wd_372 : (Jvm.Cond.code ({ cls := "java/lang/StringUTF16", name := "getChar", desc := "([BI)C" } : Jvm.MethodName) prog_20_method_5_code (2 : Nat) (Option.some Jvm.ClassFile.FieldType.char)) ∈ GW := mwT 372 (by decide +kernel) rfl
theorem wd_379 : (Jvm.Cond.methodLink "java/lang/StringUTF16" (232 : Nat) ({ cls := "java/lang/StringUTF16", name := "indexOfSupplementary", desc := "([BIII)I" } : Jvm.MethodName)) ∈ GW := mwT 379 (by decide +kernel) rfl
theorem wd_380 : (Jvm.Cond.static ({ cls := "java/lang/StringUTF16", name := "indexOfSupplementary", desc := "([BIII)I" } : Jvm.MethodName)) ∈ GW := mwT 380 (by decide +kernel) rfl
theorem wd_381 : (Jvm.Cond.code ({ cls := "java/lang/StringUTF16", name := "indexOfSupplementary", desc := "([BIII)I" } : Jvm.MethodName) prog_20_method_49_code (7 : Nat) (Option.some Jvm.ClassFile.FieldType.int)) ∈ GW := mwT 381 (by decide +kernel) rfl
theorem wd_382 : (Jvm.Cond.methodLink "java/lang/StringUTF16" (164 : Nat) ({ cls := "java/lang/Character", name := "isValidCodePoint", desc := "(I)Z" } : Jvm.MethodName)) ∈ GW := mwT 382 (by decide +kernel) rfl
theorem wd_383 : (Jvm.Cond.static ({ cls := "java/lang/Character", name := "isValidCodePoint", desc := "(I)Z" } : Jvm.MethodName)) ∈ GW := mwT 383 (by decide +kernel) rfl
theorem wd_384 : (Jvm.Cond.code ({ cls := "java/lang/Character", name := "isValidCodePoint", desc := "(I)Z" } : Jvm.MethodName) prog_15_method_11_code (2 : Nat) (Option.some Jvm.ClassFile.FieldType.boolean)) ∈ GW := mwT 384 (by decide +kernel) rfl
theorem wd_385 : (Jvm.Cond.methodLink "java/lang/StringUTF16" (157 : Nat) ({ cls := "java/lang/Character", name := "highSurrogate", desc := "(I)C" } : Jvm.MethodName)) ∈ GW := mwT 385 (by decide +kernel) rfl
theorem wd_386 : (Jvm.Cond.static ({ cls := "java/lang/Character", name := "highSurrogate", desc := "(I)C" } : Jvm.MethodName)) ∈ GW := mwT 386 (by decide +kernel) rfl
theorem wd_387 : (Jvm.Cond.code ({ cls := "java/lang/Character", name := "highSurrogate", desc := "(I)C" } : Jvm.MethodName) prog_15_method_28_code (1 : Nat) (Option.some Jvm.ClassFile.FieldType.char)) ∈ GW := mwT 387 (by decide +kernel) rfl
theorem wd_388 : (Jvm.Cond.constant "java/lang/Character" (110 : Nat) (55232 : Int32)) ∈ GW := mwT 388 (by decide +kernel) rfl
theorem wd_389 : (Jvm.Cond.methodLink "java/lang/StringUTF16" (161 : Nat) ({ cls := "java/lang/Character", name := "lowSurrogate", desc := "(I)C" } : Jvm.MethodName)) ∈ GW := mwT 389 (by decide +kernel) rfl
theorem wd_390 : (Jvm.Cond.static ({ cls := "java/lang/Character", name := "lowSurrogate", desc := "(I)C" } : Jvm.MethodName)) ∈ GW := mwT 390 (by decide +kernel) rfl
theorem wd_391 : (Jvm.Cond.code ({ cls := "java/lang/Character", name := "lowSurrogate", desc := "(I)C" } : Jvm.MethodName) prog_15_method_29_code (1 : Nat) (Option.some Jvm.ClassFile.FieldType.char)) ∈ GW := mwT 391 (by decide +kernel) rfl
theorem wd_392 : (Jvm.Cond.constant "java/lang/Character" (76 : Nat) (56320 : Int32)) ∈ GW := mwT 392 (by decide +kernel) rfl
theorem wd_393 : (Jvm.Cond.methodLink "ClueLogic$Reader" (66 : Nat) ({ cls := "ClueLogic$Reader", name := "ofPerson", desc := "()LClueLogic$Clue;" } : Jvm.MethodName)) ∈ GW := mwT 393 (by decide +kernel) rfl
theorem wd_395 : (Jvm.Cond.instanceMethod ({ cls := "ClueLogic$Reader", name := "ofPerson", desc := "()LClueLogic$Clue;" } : Jvm.MethodName)) ∈ GW := mwT 395 (by decide +kernel) rfl
theorem wd_396 : (Jvm.Cond.code ({ cls := "ClueLogic$Reader", name := "ofPerson", desc := "()LClueLogic$Clue;" } : Jvm.MethodName) prog_10_method_6_code (2 : Nat) (Option.some (Jvm.ClassFile.FieldType.object "ClueLogic$Clue"))) ∈ GW := mwT 396 (by decide +kernel) rfl
theorem wd_397 : (Jvm.Cond.classLink "ClueLogic$Reader" (83 : Nat) "ClueLogic$OfPerson") ∈ GW := mwT 397 (by decide +kernel) rfl
theorem wd_398 : (Jvm.Cond.instantiable "ClueLogic$OfPerson" (1 : Nat)) ∈ GW := mwT 398 (by decide +kernel) rfl
theorem wd_399 : (Jvm.Cond.methodLink "ClueLogic$Reader" (85 : Nat) ({ cls := "ClueLogic$OfPerson", name := "<init>", desc := "(I)V" } : Jvm.MethodName)) ∈ GW := mwT 399 (by decide +kernel) rfl
theorem wd_400 : (Jvm.Cond.instanceMethod ({ cls := "ClueLogic$OfPerson", name := "<init>", desc := "(I)V" } : Jvm.MethodName)) ∈ GW := mwT 400 (by decide +kernel) rfl
theorem wd_401 : (Jvm.Cond.code ({ cls := "ClueLogic$OfPerson", name := "<init>", desc := "(I)V" } : Jvm.MethodName) prog_6_method_1_code (2 : Nat) (Option.none : Option Jvm.ClassFile.FieldType)) ∈ GW := mwT 401 (by decide +kernel) rfl
theorem wd_402 : (Jvm.Cond.methodLink "ClueLogic$OfPerson" (1 : Nat) ({ cls := "java/lang/Object", name := "<init>", desc := "()V" } : Jvm.MethodName)) ∈ GW := mwT 402 (by decide +kernel) rfl
theorem wd_404 : (Jvm.Cond.fieldLink "ClueLogic$OfPerson" (13 : Nat) "ClueLogic$OfPerson" "parties" "I") ∈ GW := mwT 404 (by decide +kernel) rfl
theorem wd_405 : (Jvm.Cond.laysFinal "ClueLogic$OfPerson" "ClueLogic$OfPerson" "parties" "I") ∈ GW := mwT 405 (by decide +kernel) rfl
theorem wd_408 : (Jvm.Cond.arrayClass Jvm.ClassFile.FieldType.byte) ∈ GW := mwT 408 (by decide +kernel) rfl
theorem wd_409 : (Jvm.Cond.methodLink "ClueLogic$Reader" (69 : Nat) ({ cls := "ClueLogic$Reader", name := "saying", desc := "()LClueLogic$Clue;" } : Jvm.MethodName)) ∈ GW := mwT 409 (by decide +kernel) rfl
theorem wd_411 : (Jvm.Cond.instanceMethod ({ cls := "ClueLogic$Reader", name := "saying", desc := "()LClueLogic$Clue;" } : Jvm.MethodName)) ∈ GW := mwT 411 (by decide +kernel) rfl
theorem wd_412 : (Jvm.Cond.code ({ cls := "ClueLogic$Reader", name := "saying", desc := "()LClueLogic$Clue;" } : Jvm.MethodName) prog_10_method_7_code (2 : Nat) (Option.some (Jvm.ClassFile.FieldType.object "ClueLogic$Clue"))) ∈ GW := mwT 412 (by decide +kernel) rfl
theorem wd_414 : (Jvm.Cond.methodLink "ClueLogic$Reader" (72 : Nat) ({ cls := "ClueLogic$Reader", name := "turned", desc := "(I)LClueLogic$Clue;" } : Jvm.MethodName)) ∈ GW := mwT 414 (by decide +kernel) rfl
theorem wd_416 : (Jvm.Cond.instanceMethod ({ cls := "ClueLogic$Reader", name := "turned", desc := "(I)LClueLogic$Clue;" } : Jvm.MethodName)) ∈ GW := mwT 416 (by decide +kernel) rfl
theorem wd_417 : (Jvm.Cond.code ({ cls := "ClueLogic$Reader", name := "turned", desc := "(I)LClueLogic$Clue;" } : Jvm.MethodName) prog_10_method_8_code (3 : Nat) (Option.some (Jvm.ClassFile.FieldType.object "ClueLogic$Clue"))) ∈ GW := mwT 417 (by decide +kernel) rfl
theorem wd_418 : (Jvm.Cond.classLink "ClueLogic$Reader" (91 : Nat) "ClueLogic$Turned") ∈ GW := mwT 418 (by decide +kernel) rfl
theorem wd_419 : (Jvm.Cond.instantiable "ClueLogic$Turned" (2 : Nat)) ∈ GW := mwT 419 (by decide +kernel) rfl
theorem wd_420 : (Jvm.Cond.methodLink "ClueLogic$Reader" (93 : Nat) ({ cls := "ClueLogic$Turned", name := "<init>", desc := "(ILClueLogic$Clue;)V" } : Jvm.MethodName)) ∈ GW := mwT 420 (by decide +kernel) rfl
theorem wd_421 : (Jvm.Cond.instanceMethod ({ cls := "ClueLogic$Turned", name := "<init>", desc := "(ILClueLogic$Clue;)V" } : Jvm.MethodName)) ∈ GW := mwT 421 (by decide +kernel) rfl
theorem wd_422 : (Jvm.Cond.code ({ cls := "ClueLogic$Turned", name := "<init>", desc := "(ILClueLogic$Clue;)V" } : Jvm.MethodName) prog_11_method_1_code (3 : Nat) (Option.none : Option Jvm.ClassFile.FieldType)) ∈ GW := mwT 422 (by decide +kernel) rfl
theorem wd_423 : (Jvm.Cond.methodLink "ClueLogic$Turned" (1 : Nat) ({ cls := "java/lang/Object", name := "<init>", desc := "()V" } : Jvm.MethodName)) ∈ GW := mwT 423 (by decide +kernel) rfl
theorem wd_424 : (Jvm.Cond.fieldLink "ClueLogic$Turned" (7 : Nat) "ClueLogic$Turned" "turning" "I") ∈ GW := mwT 424 (by decide +kernel) rfl
theorem wd_425 : (Jvm.Cond.fieldLink "ClueLogic$Turned" (13 : Nat) "ClueLogic$Turned" "part" "LClueLogic$Clue;") ∈ GW := mwT 425 (by decide +kernel) rfl
theorem wd_426 : (Jvm.Cond.laysFinal "ClueLogic$Turned" "ClueLogic$Turned" "turning" "I") ∈ GW := mwT 426 (by decide +kernel) rfl
theorem wd_428 : (Jvm.Cond.laysFinal "ClueLogic$Turned" "ClueLogic$Turned" "part" "LClueLogic$Clue;") ∈ GW := mwT 428 (by decide +kernel) rfl
theorem wd_431 : (Jvm.Cond.methodLink "ClueLogic$Reader" (76 : Nat) ({ cls := "ClueLogic$Reader", name := "joined", desc := "(Z)LClueLogic$Clue;" } : Jvm.MethodName)) ∈ GW := mwT 431 (by decide +kernel) rfl
theorem wd_433 : (Jvm.Cond.instanceMethod ({ cls := "ClueLogic$Reader", name := "joined", desc := "(Z)LClueLogic$Clue;" } : Jvm.MethodName)) ∈ GW := mwT 433 (by decide +kernel) rfl
theorem wd_434 : (Jvm.Cond.code ({ cls := "ClueLogic$Reader", name := "joined", desc := "(Z)LClueLogic$Clue;" } : Jvm.MethodName) prog_10_method_9_code (4 : Nat) (Option.some (Jvm.ClassFile.FieldType.object "ClueLogic$Clue"))) ∈ GW := mwT 434 (by decide +kernel) rfl
theorem wd_435 : (Jvm.Cond.classLink "ClueLogic$Reader" (96 : Nat) "ClueLogic$Joined") ∈ GW := mwT 435 (by decide +kernel) rfl
theorem wd_436 : (Jvm.Cond.instantiable "ClueLogic$Joined" (3 : Nat)) ∈ GW := mwT 436 (by decide +kernel) rfl
theorem wd_437 : (Jvm.Cond.methodLink "ClueLogic$Reader" (98 : Nat) ({ cls := "ClueLogic$Joined", name := "<init>", desc := "(ZLClueLogic$Clue;LClueLogic$Clue;)V" } : Jvm.MethodName)) ∈ GW := mwT 437 (by decide +kernel) rfl
theorem wd_438 : (Jvm.Cond.instanceMethod ({ cls := "ClueLogic$Joined", name := "<init>", desc := "(ZLClueLogic$Clue;LClueLogic$Clue;)V" } : Jvm.MethodName)) ∈ GW := mwT 438 (by decide +kernel) rfl
theorem wd_439 : (Jvm.Cond.code ({ cls := "ClueLogic$Joined", name := "<init>", desc := "(ZLClueLogic$Clue;LClueLogic$Clue;)V" } : Jvm.MethodName) prog_5_method_1_code (4 : Nat) (Option.none : Option Jvm.ClassFile.FieldType)) ∈ GW := mwT 439 (by decide +kernel) rfl
theorem wd_440 : (Jvm.Cond.methodLink "ClueLogic$Joined" (1 : Nat) ({ cls := "java/lang/Object", name := "<init>", desc := "()V" } : Jvm.MethodName)) ∈ GW := mwT 440 (by decide +kernel) rfl
theorem wd_441 : (Jvm.Cond.fieldLink "ClueLogic$Joined" (7 : Nat) "ClueLogic$Joined" "both" "Z") ∈ GW := mwT 441 (by decide +kernel) rfl
theorem wd_442 : (Jvm.Cond.fieldLink "ClueLogic$Joined" (13 : Nat) "ClueLogic$Joined" "first" "LClueLogic$Clue;") ∈ GW := mwT 442 (by decide +kernel) rfl
theorem wd_443 : (Jvm.Cond.fieldLink "ClueLogic$Joined" (17 : Nat) "ClueLogic$Joined" "second" "LClueLogic$Clue;") ∈ GW := mwT 443 (by decide +kernel) rfl
theorem wd_444 : (Jvm.Cond.laysFinal "ClueLogic$Joined" "ClueLogic$Joined" "both" "Z") ∈ GW := mwT 444 (by decide +kernel) rfl
theorem wd_446 : (Jvm.Cond.laysFinal "ClueLogic$Joined" "ClueLogic$Joined" "first" "LClueLogic$Clue;") ∈ GW := mwT 446 (by decide +kernel) rfl
theorem wd_448 : (Jvm.Cond.laysFinal "ClueLogic$Joined" "ClueLogic$Joined" "second" "LClueLogic$Clue;") ∈ GW := mwT 448 (by decide +kernel) rfl
theorem wd_451 : (Jvm.Cond.methodLink "ClueLogic$Reader" (80 : Nat) ({ cls := "ClueLogic$Reader", name := "ofValues", desc := "(I)LClueLogic$Clue;" } : Jvm.MethodName)) ∈ GW := mwT 451 (by decide +kernel) rfl
theorem wd_453 : (Jvm.Cond.instanceMethod ({ cls := "ClueLogic$Reader", name := "ofValues", desc := "(I)LClueLogic$Clue;" } : Jvm.MethodName)) ∈ GW := mwT 453 (by decide +kernel) rfl
theorem wd_454 : (Jvm.Cond.code ({ cls := "ClueLogic$Reader", name := "ofValues", desc := "(I)LClueLogic$Clue;" } : Jvm.MethodName) prog_10_method_10_code (4 : Nat) (Option.some (Jvm.ClassFile.FieldType.object "ClueLogic$Clue"))) ∈ GW := mwT 454 (by decide +kernel) rfl
theorem wd_455 : (Jvm.Cond.methodLink "ClueLogic$Reader" (101 : Nat) ({ cls := "ClueLogic$Reader", name := "takeValue", desc := "()I" } : Jvm.MethodName)) ∈ GW := mwT 455 (by decide +kernel) rfl
theorem wd_457 : (Jvm.Cond.instanceMethod ({ cls := "ClueLogic$Reader", name := "takeValue", desc := "()I" } : Jvm.MethodName)) ∈ GW := mwT 457 (by decide +kernel) rfl
theorem wd_458 : (Jvm.Cond.code ({ cls := "ClueLogic$Reader", name := "takeValue", desc := "()I" } : Jvm.MethodName) prog_10_method_11_code (3 : Nat) (Option.some Jvm.ClassFile.FieldType.int)) ∈ GW := mwT 458 (by decide +kernel) rfl
theorem wd_459 : (Jvm.Cond.classLink "ClueLogic$Reader" (105 : Nat) "ClueLogic$OfValues") ∈ GW := mwT 459 (by decide +kernel) rfl
theorem wd_460 : (Jvm.Cond.instantiable "ClueLogic$OfValues" (3 : Nat)) ∈ GW := mwT 460 (by decide +kernel) rfl
theorem wd_461 : (Jvm.Cond.methodLink "ClueLogic$Reader" (107 : Nat) ({ cls := "ClueLogic$OfValues", name := "<init>", desc := "(III)V" } : Jvm.MethodName)) ∈ GW := mwT 461 (by decide +kernel) rfl
theorem wd_462 : (Jvm.Cond.instanceMethod ({ cls := "ClueLogic$OfValues", name := "<init>", desc := "(III)V" } : Jvm.MethodName)) ∈ GW := mwT 462 (by decide +kernel) rfl
theorem wd_463 : (Jvm.Cond.code ({ cls := "ClueLogic$OfValues", name := "<init>", desc := "(III)V" } : Jvm.MethodName) prog_7_method_1_code (4 : Nat) (Option.none : Option Jvm.ClassFile.FieldType)) ∈ GW := mwT 463 (by decide +kernel) rfl
theorem wd_464 : (Jvm.Cond.methodLink "ClueLogic$OfValues" (1 : Nat) ({ cls := "java/lang/Object", name := "<init>", desc := "()V" } : Jvm.MethodName)) ∈ GW := mwT 464 (by decide +kernel) rfl
theorem wd_465 : (Jvm.Cond.fieldLink "ClueLogic$OfValues" (7 : Nat) "ClueLogic$OfValues" "sign" "I") ∈ GW := mwT 465 (by decide +kernel) rfl
theorem wd_466 : (Jvm.Cond.fieldLink "ClueLogic$OfValues" (13 : Nat) "ClueLogic$OfValues" "v" "I") ∈ GW := mwT 466 (by decide +kernel) rfl
theorem wd_467 : (Jvm.Cond.fieldLink "ClueLogic$OfValues" (16 : Nat) "ClueLogic$OfValues" "w" "I") ∈ GW := mwT 467 (by decide +kernel) rfl
theorem wd_468 : (Jvm.Cond.laysFinal "ClueLogic$OfValues" "ClueLogic$OfValues" "sign" "I") ∈ GW := mwT 468 (by decide +kernel) rfl
theorem wd_470 : (Jvm.Cond.laysFinal "ClueLogic$OfValues" "ClueLogic$OfValues" "v" "I") ∈ GW := mwT 470 (by decide +kernel) rfl
theorem wd_472 : (Jvm.Cond.laysFinal "ClueLogic$OfValues" "ClueLogic$OfValues" "w" "I") ∈ GW := mwT 472 (by decide +kernel) rfl
theorem wd_475 : (Jvm.Cond.methodLink "ClueLogic$Reader" (50 : Nat) ({ cls := "ClueLogic$Puzzle", name := "add", desc := "(LClueLogic$Clue;)V" } : Jvm.MethodName)) ∈ GW := mwT 475 (by decide +kernel) rfl
theorem wd_476 : (Jvm.Cond.instanceMethod ({ cls := "ClueLogic$Puzzle", name := "add", desc := "(LClueLogic$Clue;)V" } : Jvm.MethodName)) ∈ GW := mwT 476 (by decide +kernel) rfl
theorem wd_477 : (Jvm.Cond.selects "ClueLogic$Puzzle" ({ cls := "ClueLogic$Puzzle", name := "add", desc := "(LClueLogic$Clue;)V" } : Jvm.MethodName) ({ cls := "ClueLogic$Puzzle", name := "add", desc := "(LClueLogic$Clue;)V" } : Jvm.MethodName)) ∈ GW := mwT 477 (by decide +kernel) rfl
theorem wd_478 : (Jvm.Cond.code ({ cls := "ClueLogic$Puzzle", name := "add", desc := "(LClueLogic$Clue;)V" } : Jvm.MethodName) prog_9_method_2_code (2 : Nat) (Option.none : Option Jvm.ClassFile.FieldType)) ∈ GW := mwT 478 (by decide +kernel) rfl
theorem wd_479 : (Jvm.Cond.methodLink "ClueLogic" (35 : Nat) ({ cls := "ClueLogic$Reader", name := "place", desc := "()I" } : Jvm.MethodName)) ∈ GW := mwT 479 (by decide +kernel) rfl
theorem wd_480 : (Jvm.Cond.instanceMethod ({ cls := "ClueLogic$Reader", name := "place", desc := "()I" } : Jvm.MethodName)) ∈ GW := mwT 480 (by decide +kernel) rfl
theorem wd_481 : (Jvm.Cond.selects "ClueLogic$Reader" ({ cls := "ClueLogic$Reader", name := "place", desc := "()I" } : Jvm.MethodName) ({ cls := "ClueLogic$Reader", name := "place", desc := "()I" } : Jvm.MethodName)) ∈ GW := mwT 481 (by decide +kernel) rfl
theorem wd_482 : (Jvm.Cond.code ({ cls := "ClueLogic$Reader", name := "place", desc := "()I" } : Jvm.MethodName) prog_10_method_2_code (1 : Nat) (Option.some Jvm.ClassFile.FieldType.int)) ∈ GW := mwT 482 (by decide +kernel) rfl
theorem wd_483 : (Jvm.Cond.methodLink "ClueLogic" (39 : Nat) ({ cls := "ClueLogic$Puzzle", name := "clueCount", desc := "()I" } : Jvm.MethodName)) ∈ GW := mwT 483 (by decide +kernel) rfl
theorem wd_484 : (Jvm.Cond.instanceMethod ({ cls := "ClueLogic$Puzzle", name := "clueCount", desc := "()I" } : Jvm.MethodName)) ∈ GW := mwT 484 (by decide +kernel) rfl
theorem wd_485 : (Jvm.Cond.selects "ClueLogic$Puzzle" ({ cls := "ClueLogic$Puzzle", name := "clueCount", desc := "()I" } : Jvm.MethodName) ({ cls := "ClueLogic$Puzzle", name := "clueCount", desc := "()I" } : Jvm.MethodName)) ∈ GW := mwT 485 (by decide +kernel) rfl
theorem wd_486 : (Jvm.Cond.code ({ cls := "ClueLogic$Puzzle", name := "clueCount", desc := "()I" } : Jvm.MethodName) prog_9_method_6_code (1 : Nat) (Option.some Jvm.ClassFile.FieldType.int)) ∈ GW := mwT 486 (by decide +kernel) rfl
theorem wd_487 : (Jvm.Cond.methodLink "ClueLogicLaw" (23 : Nat) ({ cls := "ClueLogic", name := "told", desc := "(I)I" } : Jvm.MethodName)) ∈ GW := mwT 487 (by decide +kernel) rfl
theorem wd_488 : (Jvm.Cond.instanceMethod ({ cls := "ClueLogic", name := "told", desc := "(I)I" } : Jvm.MethodName)) ∈ GW := mwT 488 (by decide +kernel) rfl
theorem wd_489 : (Jvm.Cond.selects "ClueLogic" ({ cls := "ClueLogic", name := "told", desc := "(I)I" } : Jvm.MethodName) ({ cls := "ClueLogic", name := "told", desc := "(I)I" } : Jvm.MethodName)) ∈ GW := mwT 489 (by decide +kernel) rfl
theorem wd_490 : (Jvm.Cond.code ({ cls := "ClueLogic", name := "told", desc := "(I)I" } : Jvm.MethodName) prog_1_method_4_code (2 : Nat) (Option.some Jvm.ClassFile.FieldType.int)) ∈ GW := mwT 490 (by decide +kernel) rfl
theorem wd_491 : (Jvm.Cond.methodLink "ClueLogic" (45 : Nat) ({ cls := "ClueLogic$Puzzle", name := "things", desc := "()I" } : Jvm.MethodName)) ∈ GW := mwT 491 (by decide +kernel) rfl
theorem wd_492 : (Jvm.Cond.instanceMethod ({ cls := "ClueLogic$Puzzle", name := "things", desc := "()I" } : Jvm.MethodName)) ∈ GW := mwT 492 (by decide +kernel) rfl
theorem wd_493 : (Jvm.Cond.selects "ClueLogic$Puzzle" ({ cls := "ClueLogic$Puzzle", name := "things", desc := "()I" } : Jvm.MethodName) ({ cls := "ClueLogic$Puzzle", name := "things", desc := "()I" } : Jvm.MethodName)) ∈ GW := mwT 493 (by decide +kernel) rfl
theorem wd_494 : (Jvm.Cond.code ({ cls := "ClueLogic$Puzzle", name := "things", desc := "()I" } : Jvm.MethodName) prog_9_method_3_code (1 : Nat) (Option.some Jvm.ClassFile.FieldType.int)) ∈ GW := mwT 494 (by decide +kernel) rfl
theorem wd_495 : (Jvm.Cond.methodLink "ClueLogic" (48 : Nat) ({ cls := "ClueLogic$Puzzle", name := "kinds", desc := "()I" } : Jvm.MethodName)) ∈ GW := mwT 495 (by decide +kernel) rfl
theorem wd_496 : (Jvm.Cond.methodLink "ClueLogic" (51 : Nat) ({ cls := "ClueLogic$Puzzle", name := "persons", desc := "()I" } : Jvm.MethodName)) ∈ GW := mwT 496 (by decide +kernel) rfl
theorem wd_497 : (Jvm.Cond.methodLink "ClueLogicLaw" (28 : Nat) ({ cls := "ClueLogic", name := "run", desc := "()I" } : Jvm.MethodName)) ∈ GW := mwT 497 (by decide +kernel) rfl
theorem wd_498 : (Jvm.Cond.instanceMethod ({ cls := "ClueLogic", name := "run", desc := "()I" } : Jvm.MethodName)) ∈ GW := mwT 498 (by decide +kernel) rfl
theorem wd_499 : (Jvm.Cond.selects "ClueLogic" ({ cls := "ClueLogic", name := "run", desc := "()I" } : Jvm.MethodName) ({ cls := "ClueLogic", name := "run", desc := "()I" } : Jvm.MethodName)) ∈ GW := mwT 499 (by decide +kernel) rfl
theorem wd_500 : (Jvm.Cond.code ({ cls := "ClueLogic", name := "run", desc := "()I" } : Jvm.MethodName) prog_1_method_5_code (1 : Nat) (Option.some Jvm.ClassFile.FieldType.int)) ∈ GW := mwT 500 (by decide +kernel) rfl
theorem wd_501 : (Jvm.Cond.methodLink "ClueLogic" (62 : Nat) ({ cls := "ClueLogic$Answers", name := "find", desc := "()V" } : Jvm.MethodName)) ∈ GW := mwT 501 (by decide +kernel) rfl
theorem wd_502 : (Jvm.Cond.instanceMethod ({ cls := "ClueLogic$Answers", name := "find", desc := "()V" } : Jvm.MethodName)) ∈ GW := mwT 502 (by decide +kernel) rfl
theorem wd_503 : (Jvm.Cond.selects "ClueLogic$Answers" ({ cls := "ClueLogic$Answers", name := "find", desc := "()V" } : Jvm.MethodName) ({ cls := "ClueLogic$Answers", name := "find", desc := "()V" } : Jvm.MethodName)) ∈ GW := mwT 503 (by decide +kernel) rfl
theorem wd_504 : (Jvm.Cond.code ({ cls := "ClueLogic$Answers", name := "find", desc := "()V" } : Jvm.MethodName) prog_2_method_8_code (4 : Nat) (Option.none : Option Jvm.ClassFile.FieldType)) ∈ GW := mwT 504 (by decide +kernel) rfl
theorem wd_505 : (Jvm.Cond.methodLink "ClueLogic$Answers" (48 : Nat) ({ cls := "ClueLogic$Puzzle", name := "orders", desc := "()LClueLogic$Orders;" } : Jvm.MethodName)) ∈ GW := mwT 505 (by decide +kernel) rfl
theorem wd_506 : (Jvm.Cond.methodLink "ClueLogic$Answers" (70 : Nat) ({ cls := "ClueLogic$Orders", name := "allTicks", desc := "()I" } : Jvm.MethodName)) ∈ GW := mwT 506 (by decide +kernel) rfl
theorem wd_507 : (Jvm.Cond.methodLink "ClueLogic$Answers" (73 : Nat) ({ cls := "java/util/Arrays", name := "fill", desc := "([II)V" } : Jvm.MethodName)) ∈ GW := mwT 507 (by decide +kernel) rfl
theorem wd_508 : (Jvm.Cond.static ({ cls := "java/util/Arrays", name := "fill", desc := "([II)V" } : Jvm.MethodName)) ∈ GW := mwT 508 (by decide +kernel) rfl
theorem wd_509 : (Jvm.Cond.code ({ cls := "java/util/Arrays", name := "fill", desc := "([II)V" } : Jvm.MethodName) prog_21_method_103_code (4 : Nat) (Option.none : Option Jvm.ClassFile.FieldType)) ∈ GW := mwT 509 (by decide +kernel) rfl
theorem wd_510 : (Jvm.Cond.methodLink "ClueLogic$Answers" (79 : Nat) ({ cls := "ClueLogic$Walk", name := "choose", desc := "([I)I" } : Jvm.MethodName)) ∈ GW := mwT 510 (by decide +kernel) rfl
theorem wd_511 : (Jvm.Cond.instanceMethod ({ cls := "ClueLogic$Walk", name := "choose", desc := "([I)I" } : Jvm.MethodName)) ∈ GW := mwT 511 (by decide +kernel) rfl
theorem wd_512 : (Jvm.Cond.selects "ClueLogic$Walk" ({ cls := "ClueLogic$Walk", name := "choose", desc := "([I)I" } : Jvm.MethodName) ({ cls := "ClueLogic$Walk", name := "choose", desc := "([I)I" } : Jvm.MethodName)) ∈ GW := mwT 512 (by decide +kernel) rfl
theorem wd_513 : (Jvm.Cond.code ({ cls := "ClueLogic$Walk", name := "choose", desc := "([I)I" } : Jvm.MethodName) prog_12_method_2_code (4 : Nat) (Option.some Jvm.ClassFile.FieldType.int)) ∈ GW := mwT 513 (by decide +kernel) rfl
theorem wd_514 : (Jvm.Cond.methodLink "ClueLogic$Walk" (40 : Nat) ({ cls := "ClueLogic$Walk", name := "chooseOrders", desc := "(II)I" } : Jvm.MethodName)) ∈ GW := mwT 514 (by decide +kernel) rfl
theorem wd_516 : (Jvm.Cond.instanceMethod ({ cls := "ClueLogic$Walk", name := "chooseOrders", desc := "(II)I" } : Jvm.MethodName)) ∈ GW := mwT 516 (by decide +kernel) rfl
theorem wd_517 : (Jvm.Cond.code ({ cls := "ClueLogic$Walk", name := "chooseOrders", desc := "(II)I" } : Jvm.MethodName) prog_12_method_3_code (5 : Nat) (Option.some Jvm.ClassFile.FieldType.int)) ∈ GW := mwT 517 (by decide +kernel) rfl
theorem wd_518 : (Jvm.Cond.methodLink "ClueLogic$Walk" (44 : Nat) ({ cls := "ClueLogic$Orders", name := "count", desc := "()I" } : Jvm.MethodName)) ∈ GW := mwT 518 (by decide +kernel) rfl
theorem wd_519 : (Jvm.Cond.instanceMethod ({ cls := "ClueLogic$Orders", name := "count", desc := "()I" } : Jvm.MethodName)) ∈ GW := mwT 519 (by decide +kernel) rfl
theorem wd_520 : (Jvm.Cond.selects "ClueLogic$Orders" ({ cls := "ClueLogic$Orders", name := "count", desc := "()I" } : Jvm.MethodName) ({ cls := "ClueLogic$Orders", name := "count", desc := "()I" } : Jvm.MethodName)) ∈ GW := mwT 520 (by decide +kernel) rfl
theorem wd_521 : (Jvm.Cond.code ({ cls := "ClueLogic$Orders", name := "count", desc := "()I" } : Jvm.MethodName) prog_8_method_3_code (1 : Nat) (Option.some Jvm.ClassFile.FieldType.int)) ∈ GW := mwT 521 (by decide +kernel) rfl
theorem wd_522 : (Jvm.Cond.methodLink "ClueLogic$Walk" (49 : Nat) ({ cls := "ClueLogic$Orders", name := "ticks", desc := "(I)I" } : Jvm.MethodName)) ∈ GW := mwT 522 (by decide +kernel) rfl
theorem wd_523 : (Jvm.Cond.instanceMethod ({ cls := "ClueLogic$Orders", name := "ticks", desc := "(I)I" } : Jvm.MethodName)) ∈ GW := mwT 523 (by decide +kernel) rfl
theorem wd_524 : (Jvm.Cond.selects "ClueLogic$Orders" ({ cls := "ClueLogic$Orders", name := "ticks", desc := "(I)I" } : Jvm.MethodName) ({ cls := "ClueLogic$Orders", name := "ticks", desc := "(I)I" } : Jvm.MethodName)) ∈ GW := mwT 524 (by decide +kernel) rfl
theorem wd_525 : (Jvm.Cond.code ({ cls := "ClueLogic$Orders", name := "ticks", desc := "(I)I" } : Jvm.MethodName) prog_8_method_4_code (2 : Nat) (Option.some Jvm.ClassFile.FieldType.int)) ∈ GW := mwT 525 (by decide +kernel) rfl
theorem wd_526 : (Jvm.Cond.methodLink "ClueLogic$Answers" (83 : Nat) ({ cls := "ClueLogic$Walk", name := "start", desc := "()V" } : Jvm.MethodName)) ∈ GW := mwT 526 (by decide +kernel) rfl
theorem wd_527 : (Jvm.Cond.instanceMethod ({ cls := "ClueLogic$Walk", name := "start", desc := "()V" } : Jvm.MethodName)) ∈ GW := mwT 527 (by decide +kernel) rfl
theorem wd_528 : (Jvm.Cond.selects "ClueLogic$Walk" ({ cls := "ClueLogic$Walk", name := "start", desc := "()V" } : Jvm.MethodName) ({ cls := "ClueLogic$Walk", name := "start", desc := "()V" } : Jvm.MethodName)) ∈ GW := mwT 528 (by decide +kernel) rfl
theorem wd_529 : (Jvm.Cond.code ({ cls := "ClueLogic$Walk", name := "start", desc := "()V" } : Jvm.MethodName) prog_12_method_4_code (2 : Nat) (Option.none : Option Jvm.ClassFile.FieldType)) ∈ GW := mwT 529 (by decide +kernel) rfl
theorem wd_530 : (Jvm.Cond.methodLink "ClueLogic$Walk" (53 : Nat) ({ cls := "ClueLogic$Walk", name := "go", desc := "(II)V" } : Jvm.MethodName)) ∈ GW := mwT 530 (by decide +kernel) rfl
theorem wd_532 : (Jvm.Cond.instanceMethod ({ cls := "ClueLogic$Walk", name := "go", desc := "(II)V" } : Jvm.MethodName)) ∈ GW := mwT 532 (by decide +kernel) rfl
theorem wd_533 : (Jvm.Cond.code ({ cls := "ClueLogic$Walk", name := "go", desc := "(II)V" } : Jvm.MethodName) prog_12_method_8_code (5 : Nat) (Option.none : Option Jvm.ClassFile.FieldType)) ∈ GW := mwT 533 (by decide +kernel) rfl
theorem wd_534 : (Jvm.Cond.methodLink "ClueLogic$Walk" (57 : Nat) ({ cls := "ClueLogic$Walk", name := "order", desc := "(I)I" } : Jvm.MethodName)) ∈ GW := mwT 534 (by decide +kernel) rfl
theorem wd_535 : (Jvm.Cond.instanceMethod ({ cls := "ClueLogic$Walk", name := "order", desc := "(I)I" } : Jvm.MethodName)) ∈ GW := mwT 535 (by decide +kernel) rfl
theorem wd_536 : (Jvm.Cond.selects "ClueLogic$Walk" ({ cls := "ClueLogic$Walk", name := "order", desc := "(I)I" } : Jvm.MethodName) ({ cls := "ClueLogic$Walk", name := "order", desc := "(I)I" } : Jvm.MethodName)) ∈ GW := mwT 536 (by decide +kernel) rfl
theorem wd_537 : (Jvm.Cond.code ({ cls := "ClueLogic$Walk", name := "order", desc := "(I)I" } : Jvm.MethodName) prog_12_method_6_code (2 : Nat) (Option.some Jvm.ClassFile.FieldType.int)) ∈ GW := mwT 537 (by decide +kernel) rfl
theorem wd_538 : (Jvm.Cond.methodLink "ClueLogic$Walk" (60 : Nat) ({ cls := "ClueLogic$Orders", name := "things", desc := "()I" } : Jvm.MethodName)) ∈ GW := mwT 538 (by decide +kernel) rfl
theorem wd_539 : (Jvm.Cond.instanceMethod ({ cls := "ClueLogic$Orders", name := "things", desc := "()I" } : Jvm.MethodName)) ∈ GW := mwT 539 (by decide +kernel) rfl
theorem wd_540 : (Jvm.Cond.selects "ClueLogic$Orders" ({ cls := "ClueLogic$Orders", name := "things", desc := "()I" } : Jvm.MethodName) ({ cls := "ClueLogic$Orders", name := "things", desc := "()I" } : Jvm.MethodName)) ∈ GW := mwT 540 (by decide +kernel) rfl
theorem wd_541 : (Jvm.Cond.code ({ cls := "ClueLogic$Orders", name := "things", desc := "()I" } : Jvm.MethodName) prog_8_method_2_code (1 : Nat) (Option.some Jvm.ClassFile.FieldType.int)) ∈ GW := mwT 541 (by decide +kernel) rfl
theorem wd_542 : (Jvm.Cond.methodLink "ClueLogic$Walk" (63 : Nat) ({ cls := "ClueLogic$Orders", name := "value", desc := "(II)I" } : Jvm.MethodName)) ∈ GW := mwT 542 (by decide +kernel) rfl
theorem wd_543 : (Jvm.Cond.instanceMethod ({ cls := "ClueLogic$Orders", name := "value", desc := "(II)I" } : Jvm.MethodName)) ∈ GW := mwT 543 (by decide +kernel) rfl
theorem wd_544 : (Jvm.Cond.selects "ClueLogic$Orders" ({ cls := "ClueLogic$Orders", name := "value", desc := "(II)I" } : Jvm.MethodName) ({ cls := "ClueLogic$Orders", name := "value", desc := "(II)I" } : Jvm.MethodName)) ∈ GW := mwT 544 (by decide +kernel) rfl
theorem wd_545 : (Jvm.Cond.code ({ cls := "ClueLogic$Orders", name := "value", desc := "(II)I" } : Jvm.MethodName) prog_8_method_6_code (3 : Nat) (Option.some Jvm.ClassFile.FieldType.int)) ∈ GW := mwT 545 (by decide +kernel) rfl
theorem wd_546 : (Jvm.Cond.methodLink "ClueLogic$Answers" (86 : Nat) ({ cls := "ClueLogic$Answers", name := "weigh", desc := "()V" } : Jvm.MethodName)) ∈ GW := mwT 546 (by decide +kernel) rfl
theorem wd_548 : (Jvm.Cond.instanceMethod ({ cls := "ClueLogic$Answers", name := "weigh", desc := "()V" } : Jvm.MethodName)) ∈ GW := mwT 548 (by decide +kernel) rfl
theorem wd_549 : (Jvm.Cond.code ({ cls := "ClueLogic$Answers", name := "weigh", desc := "()V" } : Jvm.MethodName) prog_2_method_9_code (5 : Nat) (Option.none : Option Jvm.ClassFile.FieldType)) ∈ GW := mwT 549 (by decide +kernel) rfl
theorem wd_550 : (Jvm.Cond.methodLink "ClueLogic$Answers" (92 : Nat) ({ cls := "ClueLogic$Puzzle", name := "parties", desc := "()I" } : Jvm.MethodName)) ∈ GW := mwT 550 (by decide +kernel) rfl
theorem wd_551 : (Jvm.Cond.methodLink "ClueLogic$Answers" (95 : Nat) ({ cls := "ClueLogic$Puzzle", name := "clueCount", desc := "()I" } : Jvm.MethodName)) ∈ GW := mwT 551 (by decide +kernel) rfl
theorem wd_552 : (Jvm.Cond.methodLink "ClueLogic$Answers" (98 : Nat) ({ cls := "ClueLogic$Puzzle", name := "clue", desc := "(I)LClueLogic$Clue;" } : Jvm.MethodName)) ∈ GW := mwT 552 (by decide +kernel) rfl
theorem wd_553 : (Jvm.Cond.instanceMethod ({ cls := "ClueLogic$Puzzle", name := "clue", desc := "(I)LClueLogic$Clue;" } : Jvm.MethodName)) ∈ GW := mwT 553 (by decide +kernel) rfl
theorem wd_554 : (Jvm.Cond.selects "ClueLogic$Puzzle" ({ cls := "ClueLogic$Puzzle", name := "clue", desc := "(I)LClueLogic$Clue;" } : Jvm.MethodName) ({ cls := "ClueLogic$Puzzle", name := "clue", desc := "(I)LClueLogic$Clue;" } : Jvm.MethodName)) ∈ GW := mwT 554 (by decide +kernel) rfl
theorem wd_555 : (Jvm.Cond.code ({ cls := "ClueLogic$Puzzle", name := "clue", desc := "(I)LClueLogic$Clue;" } : Jvm.MethodName) prog_9_method_8_code (2 : Nat) (Option.some (Jvm.ClassFile.FieldType.object "ClueLogic$Clue"))) ∈ GW := mwT 555 (by decide +kernel) rfl
theorem wd_556 : (Jvm.Cond.methodLink "ClueLogic$Answers" (102 : Nat) ({ cls := "ClueLogic$Walk", name := "thing", desc := "()[I" } : Jvm.MethodName)) ∈ GW := mwT 556 (by decide +kernel) rfl
theorem wd_557 : (Jvm.Cond.instanceMethod ({ cls := "ClueLogic$Walk", name := "thing", desc := "()[I" } : Jvm.MethodName)) ∈ GW := mwT 557 (by decide +kernel) rfl
theorem wd_558 : (Jvm.Cond.selects "ClueLogic$Walk" ({ cls := "ClueLogic$Walk", name := "thing", desc := "()[I" } : Jvm.MethodName) ({ cls := "ClueLogic$Walk", name := "thing", desc := "()[I" } : Jvm.MethodName)) ∈ GW := mwT 558 (by decide +kernel) rfl
theorem wd_559 : (Jvm.Cond.code ({ cls := "ClueLogic$Walk", name := "thing", desc := "()[I" } : Jvm.MethodName) prog_12_method_7_code (1 : Nat) (Option.some (Jvm.ClassFile.FieldType.array Jvm.ClassFile.FieldType.int))) ∈ GW := mwT 559 (by decide +kernel) rfl
theorem wd_561 : (Jvm.Cond.methodLink "ClueLogic$Answers" (106 : Nat) ({ cls := "ClueLogic$Clue", name := "holds", desc := "([I)I" } : Jvm.MethodName)) ∈ GW := mwT 561 (by decide +kernel) rfl
theorem wd_565 : (Jvm.Cond.selects "ClueLogic$Joined" ({ cls := "ClueLogic$Clue", name := "holds", desc := "([I)I" } : Jvm.MethodName) ({ cls := "ClueLogic$Joined", name := "holds", desc := "([I)I" } : Jvm.MethodName)) ∈ GW := mwT 565 (by decide +kernel) rfl
theorem wd_567 : (Jvm.Cond.instanceMethod ({ cls := "ClueLogic$Joined", name := "holds", desc := "([I)I" } : Jvm.MethodName)) ∈ GW := mwT 567 (by decide +kernel) rfl
theorem wd_571 : (Jvm.Cond.methodLink "ClueLogic$Joined" (20 : Nat) ({ cls := "ClueLogic$Clue", name := "holds", desc := "([I)I" } : Jvm.MethodName)) ∈ GW := mwT 571 (by decide +kernel) rfl
theorem wd_573 : (Jvm.Cond.selects "ClueLogic$OfPerson" ({ cls := "ClueLogic$Clue", name := "holds", desc := "([I)I" } : Jvm.MethodName) ({ cls := "ClueLogic$OfPerson", name := "holds", desc := "([I)I" } : Jvm.MethodName)) ∈ GW := mwT 573 (by decide +kernel) rfl
theorem wd_575 : (Jvm.Cond.instanceMethod ({ cls := "ClueLogic$OfPerson", name := "holds", desc := "([I)I" } : Jvm.MethodName)) ∈ GW := mwT 575 (by decide +kernel) rfl
theorem wd_579 : (Jvm.Cond.selects "ClueLogic$OfValues" ({ cls := "ClueLogic$Clue", name := "holds", desc := "([I)I" } : Jvm.MethodName) ({ cls := "ClueLogic$OfValues", name := "holds", desc := "([I)I" } : Jvm.MethodName)) ∈ GW := mwT 579 (by decide +kernel) rfl
theorem wd_581 : (Jvm.Cond.instanceMethod ({ cls := "ClueLogic$OfValues", name := "holds", desc := "([I)I" } : Jvm.MethodName)) ∈ GW := mwT 581 (by decide +kernel) rfl
theorem wd_584 : (Jvm.Cond.methodLink "ClueLogic$OfValues" (19 : Nat) ({ cls := "ClueLogic$OfValues", name := "relates", desc := "(II)Z" } : Jvm.MethodName)) ∈ GW := mwT 584 (by decide +kernel) rfl
theorem wd_586 : (Jvm.Cond.instanceMethod ({ cls := "ClueLogic$OfValues", name := "relates", desc := "(II)Z" } : Jvm.MethodName)) ∈ GW := mwT 586 (by decide +kernel) rfl
theorem wd_587 : (Jvm.Cond.code ({ cls := "ClueLogic$OfValues", name := "relates", desc := "(II)Z" } : Jvm.MethodName) prog_7_method_3_code (3 : Nat) (Option.some Jvm.ClassFile.FieldType.boolean)) ∈ GW := mwT 587 (by decide +kernel) rfl
theorem wd_589 : (Jvm.Cond.selects "ClueLogic$Turned" ({ cls := "ClueLogic$Clue", name := "holds", desc := "([I)I" } : Jvm.MethodName) ({ cls := "ClueLogic$Turned", name := "holds", desc := "([I)I" } : Jvm.MethodName)) ∈ GW := mwT 589 (by decide +kernel) rfl
theorem wd_591 : (Jvm.Cond.instanceMethod ({ cls := "ClueLogic$Turned", name := "holds", desc := "([I)I" } : Jvm.MethodName)) ∈ GW := mwT 591 (by decide +kernel) rfl
theorem wd_595 : (Jvm.Cond.methodLink "ClueLogic$Turned" (17 : Nat) ({ cls := "ClueLogic$Clue", name := "holds", desc := "([I)I" } : Jvm.MethodName)) ∈ GW := mwT 595 (by decide +kernel) rfl
theorem wd_596 : (Jvm.Cond.methodLink "ClueLogic$Answers" (111 : Nat) ({ cls := "ClueLogic$Answers", name := "add", desc := "(I)V" } : Jvm.MethodName)) ∈ GW := mwT 596 (by decide +kernel) rfl
theorem wd_598 : (Jvm.Cond.instanceMethod ({ cls := "ClueLogic$Answers", name := "add", desc := "(I)V" } : Jvm.MethodName)) ∈ GW := mwT 598 (by decide +kernel) rfl
theorem wd_599 : (Jvm.Cond.code ({ cls := "ClueLogic$Answers", name := "add", desc := "(I)V" } : Jvm.MethodName) prog_2_method_10_code (4 : Nat) (Option.none : Option Jvm.ClassFile.FieldType)) ∈ GW := mwT 599 (by decide +kernel) rfl
theorem wd_600 : (Jvm.Cond.methodLink "ClueLogic$Answers" (118 : Nat) ({ cls := "java/lang/Integer", name := "bitCount", desc := "(I)I" } : Jvm.MethodName)) ∈ GW := mwT 600 (by decide +kernel) rfl
theorem wd_601 : (Jvm.Cond.methodLink "ClueLogic$Answers" (124 : Nat) ({ cls := "ClueLogic$Puzzle", name := "kinds", desc := "()I" } : Jvm.MethodName)) ∈ GW := mwT 601 (by decide +kernel) rfl
theorem wd_602 : (Jvm.Cond.methodLink "ClueLogic$Answers" (127 : Nat) ({ cls := "ClueLogic$Walk", name := "order", desc := "(I)I" } : Jvm.MethodName)) ∈ GW := mwT 602 (by decide +kernel) rfl
theorem wd_603 : (Jvm.Cond.methodLink "ClueLogic$Answers" (130 : Nat) ({ cls := "ClueLogic$Answers", name := "keep", desc := "(I)V" } : Jvm.MethodName)) ∈ GW := mwT 603 (by decide +kernel) rfl
theorem wd_605 : (Jvm.Cond.instanceMethod ({ cls := "ClueLogic$Answers", name := "keep", desc := "(I)V" } : Jvm.MethodName)) ∈ GW := mwT 605 (by decide +kernel) rfl
theorem wd_606 : (Jvm.Cond.code ({ cls := "ClueLogic$Answers", name := "keep", desc := "(I)V" } : Jvm.MethodName) prog_2_method_11_code (3 : Nat) (Option.none : Option Jvm.ClassFile.FieldType)) ∈ GW := mwT 606 (by decide +kernel) rfl
theorem wd_607 : (Jvm.Cond.methodLink "ClueLogic$Answers" (115 : Nat) ({ cls := "ClueLogic$Answers", name := "need", desc := "(I)V" } : Jvm.MethodName)) ∈ GW := mwT 607 (by decide +kernel) rfl
theorem wd_609 : (Jvm.Cond.instanceMethod ({ cls := "ClueLogic$Answers", name := "need", desc := "(I)V" } : Jvm.MethodName)) ∈ GW := mwT 609 (by decide +kernel) rfl
theorem wd_610 : (Jvm.Cond.code ({ cls := "ClueLogic$Answers", name := "need", desc := "(I)V" } : Jvm.MethodName) prog_2_method_12_code (3 : Nat) (Option.none : Option Jvm.ClassFile.FieldType)) ∈ GW := mwT 610 (by decide +kernel) rfl
theorem wd_611 : (Jvm.Cond.methodLink "ClueLogic$Answers" (89 : Nat) ({ cls := "ClueLogic$Walk", name := "next", desc := "()V" } : Jvm.MethodName)) ∈ GW := mwT 611 (by decide +kernel) rfl
theorem wd_612 : (Jvm.Cond.instanceMethod ({ cls := "ClueLogic$Walk", name := "next", desc := "()V" } : Jvm.MethodName)) ∈ GW := mwT 612 (by decide +kernel) rfl
theorem wd_613 : (Jvm.Cond.selects "ClueLogic$Walk" ({ cls := "ClueLogic$Walk", name := "next", desc := "()V" } : Jvm.MethodName) ({ cls := "ClueLogic$Walk", name := "next", desc := "()V" } : Jvm.MethodName)) ∈ GW := mwT 613 (by decide +kernel) rfl
theorem wd_614 : (Jvm.Cond.code ({ cls := "ClueLogic$Walk", name := "next", desc := "()V" } : Jvm.MethodName) prog_12_method_5_code (2 : Nat) (Option.none : Option Jvm.ClassFile.FieldType)) ∈ GW := mwT 614 (by decide +kernel) rfl
theorem wd_615 : (Jvm.Cond.methodLink "ClueLogic" (67 : Nat) ({ cls := "ClueLogic$Answers", name := "count", desc := "()I" } : Jvm.MethodName)) ∈ GW := mwT 615 (by decide +kernel) rfl
theorem wd_616 : (Jvm.Cond.instanceMethod ({ cls := "ClueLogic$Answers", name := "count", desc := "()I" } : Jvm.MethodName)) ∈ GW := mwT 616 (by decide +kernel) rfl
theorem wd_617 : (Jvm.Cond.selects "ClueLogic$Answers" ({ cls := "ClueLogic$Answers", name := "count", desc := "()I" } : Jvm.MethodName) ({ cls := "ClueLogic$Answers", name := "count", desc := "()I" } : Jvm.MethodName)) ∈ GW := mwT 617 (by decide +kernel) rfl
theorem wd_618 : (Jvm.Cond.code ({ cls := "ClueLogic$Answers", name := "count", desc := "()I" } : Jvm.MethodName) prog_2_method_2_code (1 : Nat) (Option.some Jvm.ClassFile.FieldType.int)) ∈ GW := mwT 618 (by decide +kernel) rfl
theorem wd_619 : (Jvm.Cond.methodLink "ClueLogicLaw" (32 : Nat) ({ cls := "ClueLogic", name := "answer", desc := "(III)I" } : Jvm.MethodName)) ∈ GW := mwT 619 (by decide +kernel) rfl
theorem wd_620 : (Jvm.Cond.instanceMethod ({ cls := "ClueLogic", name := "answer", desc := "(III)I" } : Jvm.MethodName)) ∈ GW := mwT 620 (by decide +kernel) rfl
theorem wd_621 : (Jvm.Cond.selects "ClueLogic" ({ cls := "ClueLogic", name := "answer", desc := "(III)I" } : Jvm.MethodName) ({ cls := "ClueLogic", name := "answer", desc := "(III)I" } : Jvm.MethodName)) ∈ GW := mwT 621 (by decide +kernel) rfl
theorem wd_622 : (Jvm.Cond.code ({ cls := "ClueLogic", name := "answer", desc := "(III)I" } : Jvm.MethodName) prog_1_method_6_code (4 : Nat) (Option.some Jvm.ClassFile.FieldType.int)) ∈ GW := mwT 622 (by decide +kernel) rfl
theorem wd_623 : (Jvm.Cond.methodLink "ClueLogic" (70 : Nat) ({ cls := "ClueLogic", name := "isKept", desc := "(I)Z" } : Jvm.MethodName)) ∈ GW := mwT 623 (by decide +kernel) rfl
theorem wd_625 : (Jvm.Cond.instanceMethod ({ cls := "ClueLogic", name := "isKept", desc := "(I)Z" } : Jvm.MethodName)) ∈ GW := mwT 625 (by decide +kernel) rfl
theorem wd_626 : (Jvm.Cond.code ({ cls := "ClueLogic", name := "isKept", desc := "(I)Z" } : Jvm.MethodName) prog_1_method_15_code (2 : Nat) (Option.some Jvm.ClassFile.FieldType.boolean)) ∈ GW := mwT 626 (by decide +kernel) rfl
theorem wd_627 : (Jvm.Cond.methodLink "ClueLogic" (132 : Nat) ({ cls := "ClueLogic$Answers", name := "kept", desc := "()I" } : Jvm.MethodName)) ∈ GW := mwT 627 (by decide +kernel) rfl
theorem wd_628 : (Jvm.Cond.instanceMethod ({ cls := "ClueLogic$Answers", name := "kept", desc := "()I" } : Jvm.MethodName)) ∈ GW := mwT 628 (by decide +kernel) rfl
theorem wd_629 : (Jvm.Cond.selects "ClueLogic$Answers" ({ cls := "ClueLogic$Answers", name := "kept", desc := "()I" } : Jvm.MethodName) ({ cls := "ClueLogic$Answers", name := "kept", desc := "()I" } : Jvm.MethodName)) ∈ GW := mwT 629 (by decide +kernel) rfl
theorem wd_630 : (Jvm.Cond.code ({ cls := "ClueLogic$Answers", name := "kept", desc := "()I" } : Jvm.MethodName) prog_2_method_3_code (1 : Nat) (Option.some Jvm.ClassFile.FieldType.int)) ∈ GW := mwT 630 (by decide +kernel) rfl
theorem wd_631 : (Jvm.Cond.methodLink "ClueLogic" (74 : Nat) ({ cls := "ClueLogic$Puzzle", name := "hasThing", desc := "(I)Z" } : Jvm.MethodName)) ∈ GW := mwT 631 (by decide +kernel) rfl
theorem wd_632 : (Jvm.Cond.instanceMethod ({ cls := "ClueLogic$Puzzle", name := "hasThing", desc := "(I)Z" } : Jvm.MethodName)) ∈ GW := mwT 632 (by decide +kernel) rfl
theorem wd_633 : (Jvm.Cond.selects "ClueLogic$Puzzle" ({ cls := "ClueLogic$Puzzle", name := "hasThing", desc := "(I)Z" } : Jvm.MethodName) ({ cls := "ClueLogic$Puzzle", name := "hasThing", desc := "(I)Z" } : Jvm.MethodName)) ∈ GW := mwT 633 (by decide +kernel) rfl
theorem wd_634 : (Jvm.Cond.code ({ cls := "ClueLogic$Puzzle", name := "hasThing", desc := "(I)Z" } : Jvm.MethodName) prog_9_method_9_code (2 : Nat) (Option.some Jvm.ClassFile.FieldType.boolean)) ∈ GW := mwT 634 (by decide +kernel) rfl
theorem wd_635 : (Jvm.Cond.methodLink "ClueLogic" (77 : Nat) ({ cls := "ClueLogic$Puzzle", name := "hasKind", desc := "(I)Z" } : Jvm.MethodName)) ∈ GW := mwT 635 (by decide +kernel) rfl
theorem wd_636 : (Jvm.Cond.instanceMethod ({ cls := "ClueLogic$Puzzle", name := "hasKind", desc := "(I)Z" } : Jvm.MethodName)) ∈ GW := mwT 636 (by decide +kernel) rfl
theorem wd_637 : (Jvm.Cond.selects "ClueLogic$Puzzle" ({ cls := "ClueLogic$Puzzle", name := "hasKind", desc := "(I)Z" } : Jvm.MethodName) ({ cls := "ClueLogic$Puzzle", name := "hasKind", desc := "(I)Z" } : Jvm.MethodName)) ∈ GW := mwT 637 (by decide +kernel) rfl
theorem wd_638 : (Jvm.Cond.code ({ cls := "ClueLogic$Puzzle", name := "hasKind", desc := "(I)Z" } : Jvm.MethodName) prog_9_method_10_code (2 : Nat) (Option.some Jvm.ClassFile.FieldType.boolean)) ∈ GW := mwT 638 (by decide +kernel) rfl
theorem wd_639 : (Jvm.Cond.methodLink "ClueLogic" (80 : Nat) ({ cls := "ClueLogic$Answers", name := "value", desc := "(III)I" } : Jvm.MethodName)) ∈ GW := mwT 639 (by decide +kernel) rfl
theorem wd_640 : (Jvm.Cond.instanceMethod ({ cls := "ClueLogic$Answers", name := "value", desc := "(III)I" } : Jvm.MethodName)) ∈ GW := mwT 640 (by decide +kernel) rfl
theorem wd_641 : (Jvm.Cond.selects "ClueLogic$Answers" ({ cls := "ClueLogic$Answers", name := "value", desc := "(III)I" } : Jvm.MethodName) ({ cls := "ClueLogic$Answers", name := "value", desc := "(III)I" } : Jvm.MethodName)) ∈ GW := mwT 641 (by decide +kernel) rfl
theorem wd_642 : (Jvm.Cond.code ({ cls := "ClueLogic$Answers", name := "value", desc := "(III)I" } : Jvm.MethodName) prog_2_method_4_code (4 : Nat) (Option.some Jvm.ClassFile.FieldType.int)) ∈ GW := mwT 642 (by decide +kernel) rfl
theorem wd_643 : (Jvm.Cond.methodLink "ClueLogic$Answers" (54 : Nat) ({ cls := "ClueLogic$Orders", name := "value", desc := "(II)I" } : Jvm.MethodName)) ∈ GW := mwT 643 (by decide +kernel) rfl
theorem wd_644 : (Jvm.Cond.methodLink "ClueLogicLaw" (37 : Nat) ({ cls := "ClueLogic", name := "truth", desc := "(II)I" } : Jvm.MethodName)) ∈ GW := mwT 644 (by decide +kernel) rfl
theorem wd_645 : (Jvm.Cond.instanceMethod ({ cls := "ClueLogic", name := "truth", desc := "(II)I" } : Jvm.MethodName)) ∈ GW := mwT 645 (by decide +kernel) rfl
theorem wd_646 : (Jvm.Cond.selects "ClueLogic" ({ cls := "ClueLogic", name := "truth", desc := "(II)I" } : Jvm.MethodName) ({ cls := "ClueLogic", name := "truth", desc := "(II)I" } : Jvm.MethodName)) ∈ GW := mwT 646 (by decide +kernel) rfl
theorem wd_647 : (Jvm.Cond.code ({ cls := "ClueLogic", name := "truth", desc := "(II)I" } : Jvm.MethodName) prog_1_method_7_code (3 : Nat) (Option.some Jvm.ClassFile.FieldType.int)) ∈ GW := mwT 647 (by decide +kernel) rfl
theorem wd_648 : (Jvm.Cond.methodLink "ClueLogic" (84 : Nat) ({ cls := "ClueLogic$Puzzle", name := "hasPerson", desc := "(I)Z" } : Jvm.MethodName)) ∈ GW := mwT 648 (by decide +kernel) rfl
theorem wd_649 : (Jvm.Cond.instanceMethod ({ cls := "ClueLogic$Puzzle", name := "hasPerson", desc := "(I)Z" } : Jvm.MethodName)) ∈ GW := mwT 649 (by decide +kernel) rfl
theorem wd_650 : (Jvm.Cond.selects "ClueLogic$Puzzle" ({ cls := "ClueLogic$Puzzle", name := "hasPerson", desc := "(I)Z" } : Jvm.MethodName) ({ cls := "ClueLogic$Puzzle", name := "hasPerson", desc := "(I)Z" } : Jvm.MethodName)) ∈ GW := mwT 650 (by decide +kernel) rfl
theorem wd_651 : (Jvm.Cond.code ({ cls := "ClueLogic$Puzzle", name := "hasPerson", desc := "(I)Z" } : Jvm.MethodName) prog_9_method_12_code (2 : Nat) (Option.some Jvm.ClassFile.FieldType.boolean)) ∈ GW := mwT 651 (by decide +kernel) rfl
theorem wd_652 : (Jvm.Cond.methodLink "ClueLogic" (87 : Nat) ({ cls := "ClueLogic$Answers", name := "isTruthful", desc := "(II)Z" } : Jvm.MethodName)) ∈ GW := mwT 652 (by decide +kernel) rfl
theorem wd_653 : (Jvm.Cond.instanceMethod ({ cls := "ClueLogic$Answers", name := "isTruthful", desc := "(II)Z" } : Jvm.MethodName)) ∈ GW := mwT 653 (by decide +kernel) rfl
theorem wd_654 : (Jvm.Cond.selects "ClueLogic$Answers" ({ cls := "ClueLogic$Answers", name := "isTruthful", desc := "(II)Z" } : Jvm.MethodName) ({ cls := "ClueLogic$Answers", name := "isTruthful", desc := "(II)Z" } : Jvm.MethodName)) ∈ GW := mwT 654 (by decide +kernel) rfl
theorem wd_655 : (Jvm.Cond.code ({ cls := "ClueLogic$Answers", name := "isTruthful", desc := "(II)Z" } : Jvm.MethodName) prog_2_method_5_code (3 : Nat) (Option.some Jvm.ClassFile.FieldType.boolean)) ∈ GW := mwT 655 (by decide +kernel) rfl
theorem wd_657 : (Jvm.Cond.methodLink "ClueLogicLaw" (42 : Nat) ({ cls := "ClueLogic", name := "often", desc := "(III)I" } : Jvm.MethodName)) ∈ GW := mwT 657 (by decide +kernel) rfl
theorem wd_658 : (Jvm.Cond.instanceMethod ({ cls := "ClueLogic", name := "often", desc := "(III)I" } : Jvm.MethodName)) ∈ GW := mwT 658 (by decide +kernel) rfl
theorem wd_659 : (Jvm.Cond.selects "ClueLogic" ({ cls := "ClueLogic", name := "often", desc := "(III)I" } : Jvm.MethodName) ({ cls := "ClueLogic", name := "often", desc := "(III)I" } : Jvm.MethodName)) ∈ GW := mwT 659 (by decide +kernel) rfl
theorem wd_660 : (Jvm.Cond.code ({ cls := "ClueLogic", name := "often", desc := "(III)I" } : Jvm.MethodName) prog_1_method_8_code (4 : Nat) (Option.some Jvm.ClassFile.FieldType.int)) ∈ GW := mwT 660 (by decide +kernel) rfl
theorem wd_661 : (Jvm.Cond.methodLink "ClueLogic" (91 : Nat) ({ cls := "ClueLogic$Puzzle", name := "hasValue", desc := "(I)Z" } : Jvm.MethodName)) ∈ GW := mwT 661 (by decide +kernel) rfl
theorem wd_662 : (Jvm.Cond.instanceMethod ({ cls := "ClueLogic$Puzzle", name := "hasValue", desc := "(I)Z" } : Jvm.MethodName)) ∈ GW := mwT 662 (by decide +kernel) rfl
theorem wd_663 : (Jvm.Cond.selects "ClueLogic$Puzzle" ({ cls := "ClueLogic$Puzzle", name := "hasValue", desc := "(I)Z" } : Jvm.MethodName) ({ cls := "ClueLogic$Puzzle", name := "hasValue", desc := "(I)Z" } : Jvm.MethodName)) ∈ GW := mwT 663 (by decide +kernel) rfl
theorem wd_664 : (Jvm.Cond.code ({ cls := "ClueLogic$Puzzle", name := "hasValue", desc := "(I)Z" } : Jvm.MethodName) prog_9_method_11_code (2 : Nat) (Option.some Jvm.ClassFile.FieldType.boolean)) ∈ GW := mwT 664 (by decide +kernel) rfl
theorem wd_665 : (Jvm.Cond.methodLink "ClueLogic" (94 : Nat) ({ cls := "ClueLogic$Answers", name := "countWith", desc := "(III)I" } : Jvm.MethodName)) ∈ GW := mwT 665 (by decide +kernel) rfl
theorem wd_666 : (Jvm.Cond.instanceMethod ({ cls := "ClueLogic$Answers", name := "countWith", desc := "(III)I" } : Jvm.MethodName)) ∈ GW := mwT 666 (by decide +kernel) rfl
theorem wd_667 : (Jvm.Cond.selects "ClueLogic$Answers" ({ cls := "ClueLogic$Answers", name := "countWith", desc := "(III)I" } : Jvm.MethodName) ({ cls := "ClueLogic$Answers", name := "countWith", desc := "(III)I" } : Jvm.MethodName)) ∈ GW := mwT 667 (by decide +kernel) rfl
theorem wd_668 : (Jvm.Cond.code ({ cls := "ClueLogic$Answers", name := "countWith", desc := "(III)I" } : Jvm.MethodName) prog_2_method_6_code (6 : Nat) (Option.some Jvm.ClassFile.FieldType.int)) ∈ GW := mwT 668 (by decide +kernel) rfl
theorem wd_669 : (Jvm.Cond.methodLink "ClueLogic$Answers" (63 : Nat) ({ cls := "ClueLogic$Orders", name := "count", desc := "()I" } : Jvm.MethodName)) ∈ GW := mwT 669 (by decide +kernel) rfl
theorem wd_670 : (Jvm.Cond.methodLink "ClueLogicLaw" (46 : Nat) ({ cls := "ClueLogic", name := "spare", desc := "(I)Z" } : Jvm.MethodName)) ∈ GW := mwT 670 (by decide +kernel) rfl
theorem wd_671 : (Jvm.Cond.instanceMethod ({ cls := "ClueLogic", name := "spare", desc := "(I)Z" } : Jvm.MethodName)) ∈ GW := mwT 671 (by decide +kernel) rfl
theorem wd_672 : (Jvm.Cond.selects "ClueLogic" ({ cls := "ClueLogic", name := "spare", desc := "(I)Z" } : Jvm.MethodName) ({ cls := "ClueLogic", name := "spare", desc := "(I)Z" } : Jvm.MethodName)) ∈ GW := mwT 672 (by decide +kernel) rfl
theorem wd_673 : (Jvm.Cond.code ({ cls := "ClueLogic", name := "spare", desc := "(I)Z" } : Jvm.MethodName) prog_1_method_9_code (2 : Nat) (Option.some Jvm.ClassFile.FieldType.boolean)) ∈ GW := mwT 673 (by decide +kernel) rfl
theorem wd_674 : (Jvm.Cond.methodLink "ClueLogic" (97 : Nat) ({ cls := "ClueLogic$Puzzle", name := "hasClue", desc := "(I)Z" } : Jvm.MethodName)) ∈ GW := mwT 674 (by decide +kernel) rfl
theorem wd_675 : (Jvm.Cond.instanceMethod ({ cls := "ClueLogic$Puzzle", name := "hasClue", desc := "(I)Z" } : Jvm.MethodName)) ∈ GW := mwT 675 (by decide +kernel) rfl
theorem wd_676 : (Jvm.Cond.selects "ClueLogic$Puzzle" ({ cls := "ClueLogic$Puzzle", name := "hasClue", desc := "(I)Z" } : Jvm.MethodName) ({ cls := "ClueLogic$Puzzle", name := "hasClue", desc := "(I)Z" } : Jvm.MethodName)) ∈ GW := mwT 676 (by decide +kernel) rfl
theorem wd_677 : (Jvm.Cond.code ({ cls := "ClueLogic$Puzzle", name := "hasClue", desc := "(I)Z" } : Jvm.MethodName) prog_9_method_13_code (2 : Nat) (Option.some Jvm.ClassFile.FieldType.boolean)) ∈ GW := mwT 677 (by decide +kernel) rfl
theorem wd_678 : (Jvm.Cond.methodLink "ClueLogic" (100 : Nat) ({ cls := "ClueLogic$Answers", name := "isNeeded", desc := "(I)Z" } : Jvm.MethodName)) ∈ GW := mwT 678 (by decide +kernel) rfl
theorem wd_679 : (Jvm.Cond.instanceMethod ({ cls := "ClueLogic$Answers", name := "isNeeded", desc := "(I)Z" } : Jvm.MethodName)) ∈ GW := mwT 679 (by decide +kernel) rfl
theorem wd_680 : (Jvm.Cond.selects "ClueLogic$Answers" ({ cls := "ClueLogic$Answers", name := "isNeeded", desc := "(I)Z" } : Jvm.MethodName) ({ cls := "ClueLogic$Answers", name := "isNeeded", desc := "(I)Z" } : Jvm.MethodName)) ∈ GW := mwT 680 (by decide +kernel) rfl
theorem wd_681 : (Jvm.Cond.code ({ cls := "ClueLogic$Answers", name := "isNeeded", desc := "(I)Z" } : Jvm.MethodName) prog_2_method_7_code (2 : Nat) (Option.some Jvm.ClassFile.FieldType.boolean)) ∈ GW := mwT 681 (by decide +kernel) rfl
theorem wd_682 : (Jvm.Cond.methodLink "ClueLogicLaw" (50 : Nat) ({ cls := "ClueLogic", name := "cross", desc := "()I" } : Jvm.MethodName)) ∈ GW := mwT 682 (by decide +kernel) rfl
theorem wd_683 : (Jvm.Cond.instanceMethod ({ cls := "ClueLogic", name := "cross", desc := "()I" } : Jvm.MethodName)) ∈ GW := mwT 683 (by decide +kernel) rfl
theorem wd_684 : (Jvm.Cond.selects "ClueLogic" ({ cls := "ClueLogic", name := "cross", desc := "()I" } : Jvm.MethodName) ({ cls := "ClueLogic", name := "cross", desc := "()I" } : Jvm.MethodName)) ∈ GW := mwT 684 (by decide +kernel) rfl
theorem wd_685 : (Jvm.Cond.code ({ cls := "ClueLogic", name := "cross", desc := "()I" } : Jvm.MethodName) prog_1_method_10_code (1 : Nat) (Option.some Jvm.ClassFile.FieldType.int)) ∈ GW := mwT 685 (by decide +kernel) rfl
theorem wd_686 : (Jvm.Cond.methodLink "ClueLogic" (107 : Nat) ({ cls := "ClueLogic$Crossing", name := "finish", desc := "()V" } : Jvm.MethodName)) ∈ GW := mwT 686 (by decide +kernel) rfl
theorem wd_687 : (Jvm.Cond.instanceMethod ({ cls := "ClueLogic$Crossing", name := "finish", desc := "()V" } : Jvm.MethodName)) ∈ GW := mwT 687 (by decide +kernel) rfl
theorem wd_688 : (Jvm.Cond.selects "ClueLogic$Crossing" ({ cls := "ClueLogic$Crossing", name := "finish", desc := "()V" } : Jvm.MethodName) ({ cls := "ClueLogic$Crossing", name := "finish", desc := "()V" } : Jvm.MethodName)) ∈ GW := mwT 688 (by decide +kernel) rfl
theorem wd_689 : (Jvm.Cond.code ({ cls := "ClueLogic$Crossing", name := "finish", desc := "()V" } : Jvm.MethodName) prog_4_method_7_code (3 : Nat) (Option.none : Option Jvm.ClassFile.FieldType)) ∈ GW := mwT 689 (by decide +kernel) rfl
theorem wd_690 : (Jvm.Cond.methodLink "ClueLogic$Crossing" (70 : Nat) ({ cls := "ClueLogic$Crossing", name := "takeStep", desc := "()Z" } : Jvm.MethodName)) ∈ GW := mwT 690 (by decide +kernel) rfl
theorem wd_692 : (Jvm.Cond.instanceMethod ({ cls := "ClueLogic$Crossing", name := "takeStep", desc := "()Z" } : Jvm.MethodName)) ∈ GW := mwT 692 (by decide +kernel) rfl
theorem wd_693 : (Jvm.Cond.code ({ cls := "ClueLogic$Crossing", name := "takeStep", desc := "()Z" } : Jvm.MethodName) prog_4_method_8_code (4 : Nat) (Option.some Jvm.ClassFile.FieldType.boolean)) ∈ GW := mwT 693 (by decide +kernel) rfl
theorem wd_694 : (Jvm.Cond.methodLink "ClueLogic$Crossing" (74 : Nat) ({ cls := "ClueLogic$Walk", name := "choose", desc := "([I)I" } : Jvm.MethodName)) ∈ GW := mwT 694 (by decide +kernel) rfl
theorem wd_695 : (Jvm.Cond.methodLink "ClueLogic$Crossing" (78 : Nat) ({ cls := "ClueLogic$Puzzle", name := "clueCount", desc := "()I" } : Jvm.MethodName)) ∈ GW := mwT 695 (by decide +kernel) rfl
theorem wd_696 : (Jvm.Cond.methodLink "ClueLogic$Crossing" (81 : Nat) ({ cls := "ClueLogic$Puzzle", name := "clue", desc := "(I)LClueLogic$Clue;" } : Jvm.MethodName)) ∈ GW := mwT 696 (by decide +kernel) rfl
theorem wd_697 : (Jvm.Cond.methodLink "ClueLogic$Crossing" (85 : Nat) ({ cls := "ClueLogic$Crossing", name := "look", desc := "(LClueLogic$Clue;I)V" } : Jvm.MethodName)) ∈ GW := mwT 697 (by decide +kernel) rfl
theorem wd_699 : (Jvm.Cond.instanceMethod ({ cls := "ClueLogic$Crossing", name := "look", desc := "(LClueLogic$Clue;I)V" } : Jvm.MethodName)) ∈ GW := mwT 699 (by decide +kernel) rfl
theorem wd_700 : (Jvm.Cond.code ({ cls := "ClueLogic$Crossing", name := "look", desc := "(LClueLogic$Clue;I)V" } : Jvm.MethodName) prog_4_method_9_code (7 : Nat) (Option.none : Option Jvm.ClassFile.FieldType)) ∈ GW := mwT 700 (by decide +kernel) rfl
theorem wd_701 : (Jvm.Cond.methodLink "ClueLogic$Crossing" (96 : Nat) ({ cls := "java/util/Arrays", name := "fill", desc := "([II)V" } : Jvm.MethodName)) ∈ GW := mwT 701 (by decide +kernel) rfl
theorem wd_702 : (Jvm.Cond.methodLink "ClueLogic$Crossing" (102 : Nat) ({ cls := "ClueLogic$Crossing", name := "openParties", desc := "()I" } : Jvm.MethodName)) ∈ GW := mwT 702 (by decide +kernel) rfl
theorem wd_704 : (Jvm.Cond.instanceMethod ({ cls := "ClueLogic$Crossing", name := "openParties", desc := "()I" } : Jvm.MethodName)) ∈ GW := mwT 704 (by decide +kernel) rfl
theorem wd_705 : (Jvm.Cond.code ({ cls := "ClueLogic$Crossing", name := "openParties", desc := "()I" } : Jvm.MethodName) prog_4_method_11_code (6 : Nat) (Option.some Jvm.ClassFile.FieldType.int)) ∈ GW := mwT 705 (by decide +kernel) rfl
theorem wd_706 : (Jvm.Cond.methodLink "ClueLogic$Crossing" (135 : Nat) ({ cls := "ClueLogic$Crossing", name := "waysLeft", desc := "(I)I" } : Jvm.MethodName)) ∈ GW := mwT 706 (by decide +kernel) rfl
theorem wd_707 : (Jvm.Cond.instanceMethod ({ cls := "ClueLogic$Crossing", name := "waysLeft", desc := "(I)I" } : Jvm.MethodName)) ∈ GW := mwT 707 (by decide +kernel) rfl
theorem wd_708 : (Jvm.Cond.selects "ClueLogic$Crossing" ({ cls := "ClueLogic$Crossing", name := "waysLeft", desc := "(I)I" } : Jvm.MethodName) ({ cls := "ClueLogic$Crossing", name := "waysLeft", desc := "(I)I" } : Jvm.MethodName)) ∈ GW := mwT 708 (by decide +kernel) rfl
theorem wd_709 : (Jvm.Cond.code ({ cls := "ClueLogic$Crossing", name := "waysLeft", desc := "(I)I" } : Jvm.MethodName) prog_4_method_6_code (2 : Nat) (Option.some Jvm.ClassFile.FieldType.int)) ∈ GW := mwT 709 (by decide +kernel) rfl
theorem wd_710 : (Jvm.Cond.methodLink "ClueLogic$Crossing" (105 : Nat) ({ cls := "ClueLogic$Walk", name := "start", desc := "()V" } : Jvm.MethodName)) ∈ GW := mwT 710 (by decide +kernel) rfl
theorem wd_711 : (Jvm.Cond.methodLink "ClueLogic$Crossing" (108 : Nat) ({ cls := "ClueLogic$Walk", name := "thing", desc := "()[I" } : Jvm.MethodName)) ∈ GW := mwT 711 (by decide +kernel) rfl
theorem wd_713 : (Jvm.Cond.methodLink "ClueLogic$Crossing" (112 : Nat) ({ cls := "ClueLogic$Clue", name := "holds", desc := "([I)I" } : Jvm.MethodName)) ∈ GW := mwT 713 (by decide +kernel) rfl
theorem wd_714 : (Jvm.Cond.methodLink "ClueLogic$Crossing" (117 : Nat) ({ cls := "ClueLogic$Crossing", name := "seeLayout", desc := "()V" } : Jvm.MethodName)) ∈ GW := mwT 714 (by decide +kernel) rfl
theorem wd_716 : (Jvm.Cond.instanceMethod ({ cls := "ClueLogic$Crossing", name := "seeLayout", desc := "()V" } : Jvm.MethodName)) ∈ GW := mwT 716 (by decide +kernel) rfl
theorem wd_717 : (Jvm.Cond.code ({ cls := "ClueLogic$Crossing", name := "seeLayout", desc := "()V" } : Jvm.MethodName) prog_4_method_10_code (2 : Nat) (Option.none : Option Jvm.ClassFile.FieldType)) ∈ GW := mwT 717 (by decide +kernel) rfl
theorem wd_718 : (Jvm.Cond.methodLink "ClueLogic$Crossing" (126 : Nat) ({ cls := "ClueLogic$Walk", name := "order", desc := "(I)I" } : Jvm.MethodName)) ∈ GW := mwT 718 (by decide +kernel) rfl
theorem wd_719 : (Jvm.Cond.methodLink "ClueLogic$Crossing" (129 : Nat) ({ cls := "ClueLogic$Orders", name := "ticks", desc := "(I)I" } : Jvm.MethodName)) ∈ GW := mwT 719 (by decide +kernel) rfl
theorem wd_720 : (Jvm.Cond.methodLink "ClueLogic$Crossing" (120 : Nat) ({ cls := "ClueLogic$Walk", name := "next", desc := "()V" } : Jvm.MethodName)) ∈ GW := mwT 720 (by decide +kernel) rfl
theorem wd_721 : (Jvm.Cond.methodLink "ClueLogic$Crossing" (89 : Nat) ({ cls := "ClueLogic$Crossing", name := "countUnseen", desc := "()I" } : Jvm.MethodName)) ∈ GW := mwT 721 (by decide +kernel) rfl
theorem wd_723 : (Jvm.Cond.instanceMethod ({ cls := "ClueLogic$Crossing", name := "countUnseen", desc := "()I" } : Jvm.MethodName)) ∈ GW := mwT 723 (by decide +kernel) rfl
theorem wd_724 : (Jvm.Cond.code ({ cls := "ClueLogic$Crossing", name := "countUnseen", desc := "()I" } : Jvm.MethodName) prog_4_method_13_code (3 : Nat) (Option.some Jvm.ClassFile.FieldType.int)) ∈ GW := mwT 724 (by decide +kernel) rfl
theorem wd_725 : (Jvm.Cond.methodLink "ClueLogic$Crossing" (141 : Nat) ({ cls := "java/lang/Integer", name := "bitCount", desc := "(I)I" } : Jvm.MethodName)) ∈ GW := mwT 725 (by decide +kernel) rfl
theorem wd_726 : (Jvm.Cond.methodLink "ClueLogic$Crossing" (92 : Nat) ({ cls := "ClueLogic$Crossing", name := "crossOut", desc := "(II)V" } : Jvm.MethodName)) ∈ GW := mwT 726 (by decide +kernel) rfl
theorem wd_728 : (Jvm.Cond.instanceMethod ({ cls := "ClueLogic$Crossing", name := "crossOut", desc := "(II)V" } : Jvm.MethodName)) ∈ GW := mwT 728 (by decide +kernel) rfl
theorem wd_729 : (Jvm.Cond.code ({ cls := "ClueLogic$Crossing", name := "crossOut", desc := "(II)V" } : Jvm.MethodName) prog_4_method_14_code (4 : Nat) (Option.none : Option Jvm.ClassFile.FieldType)) ∈ GW := mwT 729 (by decide +kernel) rfl
theorem wd_730 : (Jvm.Cond.methodLink "ClueLogic" (112 : Nat) ({ cls := "ClueLogic$Crossing", name := "steps", desc := "()I" } : Jvm.MethodName)) ∈ GW := mwT 730 (by decide +kernel) rfl
theorem wd_731 : (Jvm.Cond.instanceMethod ({ cls := "ClueLogic$Crossing", name := "steps", desc := "()I" } : Jvm.MethodName)) ∈ GW := mwT 731 (by decide +kernel) rfl
theorem wd_732 : (Jvm.Cond.selects "ClueLogic$Crossing" ({ cls := "ClueLogic$Crossing", name := "steps", desc := "()I" } : Jvm.MethodName) ({ cls := "ClueLogic$Crossing", name := "steps", desc := "()I" } : Jvm.MethodName)) ∈ GW := mwT 732 (by decide +kernel) rfl
theorem wd_733 : (Jvm.Cond.code ({ cls := "ClueLogic$Crossing", name := "steps", desc := "()I" } : Jvm.MethodName) prog_4_method_2_code (1 : Nat) (Option.some Jvm.ClassFile.FieldType.int)) ∈ GW := mwT 733 (by decide +kernel) rfl
theorem wd_734 : (Jvm.Cond.methodLink "ClueLogicLaw" (54 : Nat) ({ cls := "ClueLogic", name := "step", desc := "(II)I" } : Jvm.MethodName)) ∈ GW := mwT 734 (by decide +kernel) rfl
theorem wd_735 : (Jvm.Cond.instanceMethod ({ cls := "ClueLogic", name := "step", desc := "(II)I" } : Jvm.MethodName)) ∈ GW := mwT 735 (by decide +kernel) rfl
theorem wd_736 : (Jvm.Cond.selects "ClueLogic" ({ cls := "ClueLogic", name := "step", desc := "(II)I" } : Jvm.MethodName) ({ cls := "ClueLogic", name := "step", desc := "(II)I" } : Jvm.MethodName)) ∈ GW := mwT 736 (by decide +kernel) rfl
theorem wd_737 : (Jvm.Cond.code ({ cls := "ClueLogic", name := "step", desc := "(II)I" } : Jvm.MethodName) prog_1_method_11_code (3 : Nat) (Option.some Jvm.ClassFile.FieldType.int)) ∈ GW := mwT 737 (by decide +kernel) rfl
theorem wd_738 : (Jvm.Cond.methodLink "ClueLogic" (115 : Nat) ({ cls := "ClueLogic$Crossing", name := "clueOf", desc := "(I)I" } : Jvm.MethodName)) ∈ GW := mwT 738 (by decide +kernel) rfl
theorem wd_739 : (Jvm.Cond.instanceMethod ({ cls := "ClueLogic$Crossing", name := "clueOf", desc := "(I)I" } : Jvm.MethodName)) ∈ GW := mwT 739 (by decide +kernel) rfl
theorem wd_740 : (Jvm.Cond.selects "ClueLogic$Crossing" ({ cls := "ClueLogic$Crossing", name := "clueOf", desc := "(I)I" } : Jvm.MethodName) ({ cls := "ClueLogic$Crossing", name := "clueOf", desc := "(I)I" } : Jvm.MethodName)) ∈ GW := mwT 740 (by decide +kernel) rfl
theorem wd_741 : (Jvm.Cond.code ({ cls := "ClueLogic$Crossing", name := "clueOf", desc := "(I)I" } : Jvm.MethodName) prog_4_method_3_code (2 : Nat) (Option.some Jvm.ClassFile.FieldType.int)) ∈ GW := mwT 741 (by decide +kernel) rfl
theorem wd_742 : (Jvm.Cond.methodLink "ClueLogic" (119 : Nat) ({ cls := "ClueLogic$Crossing", name := "crossedBy", desc := "(I)I" } : Jvm.MethodName)) ∈ GW := mwT 742 (by decide +kernel) rfl
theorem wd_743 : (Jvm.Cond.instanceMethod ({ cls := "ClueLogic$Crossing", name := "crossedBy", desc := "(I)I" } : Jvm.MethodName)) ∈ GW := mwT 743 (by decide +kernel) rfl
theorem wd_744 : (Jvm.Cond.selects "ClueLogic$Crossing" ({ cls := "ClueLogic$Crossing", name := "crossedBy", desc := "(I)I" } : Jvm.MethodName) ({ cls := "ClueLogic$Crossing", name := "crossedBy", desc := "(I)I" } : Jvm.MethodName)) ∈ GW := mwT 744 (by decide +kernel) rfl
theorem wd_745 : (Jvm.Cond.code ({ cls := "ClueLogic$Crossing", name := "crossedBy", desc := "(I)I" } : Jvm.MethodName) prog_4_method_4_code (2 : Nat) (Option.some Jvm.ClassFile.FieldType.int)) ∈ GW := mwT 745 (by decide +kernel) rfl
theorem wd_746 : (Jvm.Cond.methodLink "ClueLogicLaw" (58 : Nat) ({ cls := "ClueLogic", name := "may", desc := "(II)I" } : Jvm.MethodName)) ∈ GW := mwT 746 (by decide +kernel) rfl
theorem wd_747 : (Jvm.Cond.instanceMethod ({ cls := "ClueLogic", name := "may", desc := "(II)I" } : Jvm.MethodName)) ∈ GW := mwT 747 (by decide +kernel) rfl
theorem wd_748 : (Jvm.Cond.selects "ClueLogic" ({ cls := "ClueLogic", name := "may", desc := "(II)I" } : Jvm.MethodName) ({ cls := "ClueLogic", name := "may", desc := "(II)I" } : Jvm.MethodName)) ∈ GW := mwT 748 (by decide +kernel) rfl
theorem wd_749 : (Jvm.Cond.code ({ cls := "ClueLogic", name := "may", desc := "(II)I" } : Jvm.MethodName) prog_1_method_12_code (3 : Nat) (Option.some Jvm.ClassFile.FieldType.int)) ∈ GW := mwT 749 (by decide +kernel) rfl
theorem wd_750 : (Jvm.Cond.methodLink "ClueLogic" (122 : Nat) ({ cls := "ClueLogic$Crossing", name := "valuesLeft", desc := "(II)I" } : Jvm.MethodName)) ∈ GW := mwT 750 (by decide +kernel) rfl
theorem wd_751 : (Jvm.Cond.instanceMethod ({ cls := "ClueLogic$Crossing", name := "valuesLeft", desc := "(II)I" } : Jvm.MethodName)) ∈ GW := mwT 751 (by decide +kernel) rfl
theorem wd_752 : (Jvm.Cond.selects "ClueLogic$Crossing" ({ cls := "ClueLogic$Crossing", name := "valuesLeft", desc := "(II)I" } : Jvm.MethodName) ({ cls := "ClueLogic$Crossing", name := "valuesLeft", desc := "(II)I" } : Jvm.MethodName)) ∈ GW := mwT 752 (by decide +kernel) rfl
theorem wd_753 : (Jvm.Cond.code ({ cls := "ClueLogic$Crossing", name := "valuesLeft", desc := "(II)I" } : Jvm.MethodName) prog_4_method_5_code (3 : Nat) (Option.some Jvm.ClassFile.FieldType.int)) ∈ GW := mwT 753 (by decide +kernel) rfl
theorem wd_754 : (Jvm.Cond.methodLink "ClueLogicLaw" (62 : Nat) ({ cls := "ClueLogic", name := "mayBe", desc := "(I)I" } : Jvm.MethodName)) ∈ GW := mwT 754 (by decide +kernel) rfl
theorem wd_755 : (Jvm.Cond.instanceMethod ({ cls := "ClueLogic", name := "mayBe", desc := "(I)I" } : Jvm.MethodName)) ∈ GW := mwT 755 (by decide +kernel) rfl
theorem wd_756 : (Jvm.Cond.selects "ClueLogic" ({ cls := "ClueLogic", name := "mayBe", desc := "(I)I" } : Jvm.MethodName) ({ cls := "ClueLogic", name := "mayBe", desc := "(I)I" } : Jvm.MethodName)) ∈ GW := mwT 756 (by decide +kernel) rfl
theorem wd_757 : (Jvm.Cond.code ({ cls := "ClueLogic", name := "mayBe", desc := "(I)I" } : Jvm.MethodName) prog_1_method_13_code (2 : Nat) (Option.some Jvm.ClassFile.FieldType.int)) ∈ GW := mwT 757 (by decide +kernel) rfl
theorem wd_758 : (Jvm.Cond.methodLink "ClueLogic" (126 : Nat) ({ cls := "ClueLogic$Crossing", name := "waysLeft", desc := "(I)I" } : Jvm.MethodName)) ∈ GW := mwT 758 (by decide +kernel) rfl
theorem wd_759 : (Jvm.Cond.classLink "ClueLogicLaw" (10 : Nat) "ClueLogicModel") ∈ GW := mwT 759 (by decide +kernel) rfl
theorem wd_760 : (Jvm.Cond.instantiable "ClueLogicModel" (36 : Nat)) ∈ GW := mwT 760 (by decide +kernel) rfl
theorem wd_761 : (Jvm.Cond.methodLink "ClueLogicLaw" (12 : Nat) ({ cls := "ClueLogicModel", name := "<init>", desc := "()V" } : Jvm.MethodName)) ∈ GW := mwT 761 (by decide +kernel) rfl
theorem wd_762 : (Jvm.Cond.instanceMethod ({ cls := "ClueLogicModel", name := "<init>", desc := "()V" } : Jvm.MethodName)) ∈ GW := mwT 762 (by decide +kernel) rfl
theorem wd_763 : (Jvm.Cond.code ({ cls := "ClueLogicModel", name := "<init>", desc := "()V" } : Jvm.MethodName) prog_14_method_1_code (1 : Nat) (Option.none : Option Jvm.ClassFile.FieldType)) ∈ GW := mwT 763 (by decide +kernel) rfl
theorem wd_764 : (Jvm.Cond.methodLink "ClueLogicModel" (1 : Nat) ({ cls := "java/lang/Object", name := "<init>", desc := "()V" } : Jvm.MethodName)) ∈ GW := mwT 764 (by decide +kernel) rfl
theorem wd_765 : (Jvm.Cond.constant "ClueLogicModel" (47 : Nat) (110592 : Int32)) ∈ GW := mwT 765 (by decide +kernel) rfl
theorem wd_766 : (Jvm.Cond.methodLink "ClueLogicModel" (76 : Nat) ({ cls := "ClueLogicModel", name := "fresh", desc := "()V" } : Jvm.MethodName)) ∈ GW := mwT 766 (by decide +kernel) rfl
theorem wd_768 : (Jvm.Cond.instanceMethod ({ cls := "ClueLogicModel", name := "fresh", desc := "()V" } : Jvm.MethodName)) ∈ GW := mwT 768 (by decide +kernel) rfl
theorem wd_769 : (Jvm.Cond.code ({ cls := "ClueLogicModel", name := "fresh", desc := "()V" } : Jvm.MethodName) prog_14_method_3_code (1 : Nat) (Option.none : Option Jvm.ClassFile.FieldType)) ∈ GW := mwT 769 (by decide +kernel) rfl
theorem wd_770 : (Jvm.Cond.methodLink "ClueLogicModel" (95 : Nat) ({ cls := "ClueLogicModel", name := "all", desc := "()V" } : Jvm.MethodName)) ∈ GW := mwT 770 (by decide +kernel) rfl
theorem wd_772 : (Jvm.Cond.instanceMethod ({ cls := "ClueLogicModel", name := "all", desc := "()V" } : Jvm.MethodName)) ∈ GW := mwT 772 (by decide +kernel) rfl
theorem wd_773 : (Jvm.Cond.code ({ cls := "ClueLogicModel", name := "all", desc := "()V" } : Jvm.MethodName) prog_14_method_4_code (2 : Nat) (Option.none : Option Jvm.ClassFile.FieldType)) ∈ GW := mwT 773 (by decide +kernel) rfl
theorem wd_774 : (Jvm.Cond.fieldLink "ClueLogicModel" (79 : Nat) "ClueLogicModel" "thrown" "I") ∈ GW := mwT 774 (by decide +kernel) rfl
theorem wd_775 : (Jvm.Cond.fieldLink "ClueLogicModel" (98 : Nat) "ClueLogicModel" "size" "I") ∈ GW := mwT 775 (by decide +kernel) rfl
theorem wd_776 : (Jvm.Cond.fieldLink "ClueLogicModel" (7 : Nat) "ClueLogicModel" "text" "[I") ∈ GW := mwT 776 (by decide +kernel) rfl
theorem wd_777 : (Jvm.Cond.fieldLink "ClueLogicModel" (13 : Nat) "ClueLogicModel" "things" "I") ∈ GW := mwT 777 (by decide +kernel) rfl
theorem wd_778 : (Jvm.Cond.fieldLink "ClueLogicModel" (138 : Nat) "ClueLogicModel" "kinds" "I") ∈ GW := mwT 778 (by decide +kernel) rfl
theorem wd_779 : (Jvm.Cond.fieldLink "ClueLogicModel" (141 : Nat) "ClueLogicModel" "persons" "I") ∈ GW := mwT 779 (by decide +kernel) rfl
theorem wd_780 : (Jvm.Cond.fieldLink "ClueLogicModel" (144 : Nat) "ClueLogicModel" "clues" "I") ∈ GW := mwT 780 (by decide +kernel) rfl
theorem wd_781 : (Jvm.Cond.fieldLink "ClueLogicModel" (17 : Nat) "ClueLogicModel" "begins" "[I") ∈ GW := mwT 781 (by decide +kernel) rfl
theorem wd_782 : (Jvm.Cond.fieldLink "ClueLogicModel" (20 : Nat) "ClueLogicModel" "signs" "[I") ∈ GW := mwT 782 (by decide +kernel) rfl
theorem wd_783 : (Jvm.Cond.fieldLink "ClueLogicModel" (23 : Nat) "ClueLogicModel" "ones" "[I") ∈ GW := mwT 783 (by decide +kernel) rfl
theorem wd_784 : (Jvm.Cond.fieldLink "ClueLogicModel" (26 : Nat) "ClueLogicModel" "twos" "[I") ∈ GW := mwT 784 (by decide +kernel) rfl
theorem wd_785 : (Jvm.Cond.fieldLink "ClueLogicModel" (111 : Nat) "ClueLogicModel" "newThings" "I") ∈ GW := mwT 785 (by decide +kernel) rfl
theorem wd_786 : (Jvm.Cond.fieldLink "ClueLogicModel" (108 : Nat) "ClueLogicModel" "newKinds" "I") ∈ GW := mwT 786 (by decide +kernel) rfl
theorem wd_787 : (Jvm.Cond.fieldLink "ClueLogicModel" (128 : Nat) "ClueLogicModel" "newPersons" "I") ∈ GW := mwT 787 (by decide +kernel) rfl
theorem wd_788 : (Jvm.Cond.fieldLink "ClueLogicModel" (118 : Nat) "ClueLogicModel" "newClues" "I") ∈ GW := mwT 788 (by decide +kernel) rfl
theorem wd_789 : (Jvm.Cond.fieldLink "ClueLogicModel" (101 : Nat) "ClueLogicModel" "at" "I") ∈ GW := mwT 789 (by decide +kernel) rfl
theorem wd_790 : (Jvm.Cond.fieldLink "ClueLogicModel" (29 : Nat) "ClueLogicModel" "newBegins" "[I") ∈ GW := mwT 790 (by decide +kernel) rfl
theorem wd_791 : (Jvm.Cond.fieldLink "ClueLogicModel" (32 : Nat) "ClueLogicModel" "newSigns" "[I") ∈ GW := mwT 791 (by decide +kernel) rfl
theorem wd_792 : (Jvm.Cond.fieldLink "ClueLogicModel" (35 : Nat) "ClueLogicModel" "newOnes" "[I") ∈ GW := mwT 792 (by decide +kernel) rfl
theorem wd_793 : (Jvm.Cond.fieldLink "ClueLogicModel" (38 : Nat) "ClueLogicModel" "newTwos" "[I") ∈ GW := mwT 793 (by decide +kernel) rfl
theorem wd_794 : (Jvm.Cond.fieldLink "ClueLogicModel" (147 : Nat) "ClueLogicModel" "orders" "I") ∈ GW := mwT 794 (by decide +kernel) rfl
theorem wd_795 : (Jvm.Cond.fieldLink "ClueLogicModel" (41 : Nat) "ClueLogicModel" "values" "[I") ∈ GW := mwT 795 (by decide +kernel) rfl
theorem wd_796 : (Jvm.Cond.fieldLink "ClueLogicModel" (44 : Nat) "ClueLogicModel" "seats" "[I") ∈ GW := mwT 796 (by decide +kernel) rfl
theorem wd_797 : (Jvm.Cond.fieldLink "ClueLogicModel" (82 : Nat) "ClueLogicModel" "isKnown" "Z") ∈ GW := mwT 797 (by decide +kernel) rfl
theorem wd_798 : (Jvm.Cond.fieldLink "ClueLogicModel" (86 : Nat) "ClueLogicModel" "isCrossed" "Z") ∈ GW := mwT 798 (by decide +kernel) rfl
theorem wd_799 : (Jvm.Cond.fieldLink "ClueLogicModel" (48 : Nat) "ClueLogicModel" "holds" "[I") ∈ GW := mwT 799 (by decide +kernel) rfl
theorem wd_800 : (Jvm.Cond.fieldLink "ClueLogicModel" (51 : Nat) "ClueLogicModel" "pile" "[Z") ∈ GW := mwT 800 (by decide +kernel) rfl
theorem wd_801 : (Jvm.Cond.fieldLink "ClueLogicModel" (89 : Nat) "ClueLogicModel" "kept" "I") ∈ GW := mwT 801 (by decide +kernel) rfl
theorem wd_802 : (Jvm.Cond.fieldLink "ClueLogicModel" (55 : Nat) "ClueLogicModel" "answers" "[I") ∈ GW := mwT 802 (by decide +kernel) rfl
theorem wd_803 : (Jvm.Cond.fieldLink "ClueLogicModel" (58 : Nat) "ClueLogicModel" "may" "[I") ∈ GW := mwT 803 (by decide +kernel) rfl
theorem wd_804 : (Jvm.Cond.fieldLink "ClueLogicModel" (61 : Nat) "ClueLogicModel" "mayBe" "[I") ∈ GW := mwT 804 (by decide +kernel) rfl
theorem wd_805 : (Jvm.Cond.fieldLink "ClueLogicModel" (64 : Nat) "ClueLogicModel" "some" "[I") ∈ GW := mwT 805 (by decide +kernel) rfl
theorem wd_806 : (Jvm.Cond.fieldLink "ClueLogicModel" (67 : Nat) "ClueLogicModel" "someBe" "[I") ∈ GW := mwT 806 (by decide +kernel) rfl
theorem wd_807 : (Jvm.Cond.fieldLink "ClueLogicModel" (92 : Nat) "ClueLogicModel" "steps" "I") ∈ GW := mwT 807 (by decide +kernel) rfl
theorem wd_808 : (Jvm.Cond.fieldLink "ClueLogicModel" (70 : Nat) "ClueLogicModel" "stepClue" "[I") ∈ GW := mwT 808 (by decide +kernel) rfl
theorem wd_809 : (Jvm.Cond.fieldLink "ClueLogicModel" (73 : Nat) "ClueLogicModel" "stepMuch" "[I") ∈ GW := mwT 809 (by decide +kernel) rfl
theorem wd_810 : (Jvm.Cond.lays "ClueLogicModel" "ClueLogicModel" "thrown" "I") ∈ GW := mwT 810 (by decide +kernel) rfl
theorem wd_812 : (Jvm.Cond.lays "ClueLogicModel" "ClueLogicModel" "size" "I") ∈ GW := mwT 812 (by decide +kernel) rfl
theorem wd_814 : (Jvm.Cond.laysFinal "ClueLogicModel" "ClueLogicModel" "text" "[I") ∈ GW := mwT 814 (by decide +kernel) rfl
theorem wd_816 : (Jvm.Cond.lays "ClueLogicModel" "ClueLogicModel" "things" "I") ∈ GW := mwT 816 (by decide +kernel) rfl
theorem wd_818 : (Jvm.Cond.lays "ClueLogicModel" "ClueLogicModel" "kinds" "I") ∈ GW := mwT 818 (by decide +kernel) rfl
theorem wd_820 : (Jvm.Cond.lays "ClueLogicModel" "ClueLogicModel" "persons" "I") ∈ GW := mwT 820 (by decide +kernel) rfl
theorem wd_822 : (Jvm.Cond.lays "ClueLogicModel" "ClueLogicModel" "clues" "I") ∈ GW := mwT 822 (by decide +kernel) rfl
theorem wd_824 : (Jvm.Cond.laysFinal "ClueLogicModel" "ClueLogicModel" "begins" "[I") ∈ GW := mwT 824 (by decide +kernel) rfl
theorem wd_826 : (Jvm.Cond.laysFinal "ClueLogicModel" "ClueLogicModel" "signs" "[I") ∈ GW := mwT 826 (by decide +kernel) rfl
theorem wd_828 : (Jvm.Cond.laysFinal "ClueLogicModel" "ClueLogicModel" "ones" "[I") ∈ GW := mwT 828 (by decide +kernel) rfl
theorem wd_830 : (Jvm.Cond.laysFinal "ClueLogicModel" "ClueLogicModel" "twos" "[I") ∈ GW := mwT 830 (by decide +kernel) rfl
theorem wd_832 : (Jvm.Cond.lays "ClueLogicModel" "ClueLogicModel" "newThings" "I") ∈ GW := mwT 832 (by decide +kernel) rfl
theorem wd_834 : (Jvm.Cond.lays "ClueLogicModel" "ClueLogicModel" "newKinds" "I") ∈ GW := mwT 834 (by decide +kernel) rfl
theorem wd_836 : (Jvm.Cond.lays "ClueLogicModel" "ClueLogicModel" "newPersons" "I") ∈ GW := mwT 836 (by decide +kernel) rfl
theorem wd_838 : (Jvm.Cond.lays "ClueLogicModel" "ClueLogicModel" "newClues" "I") ∈ GW := mwT 838 (by decide +kernel) rfl
theorem wd_840 : (Jvm.Cond.lays "ClueLogicModel" "ClueLogicModel" "at" "I") ∈ GW := mwT 840 (by decide +kernel) rfl
theorem wd_842 : (Jvm.Cond.laysFinal "ClueLogicModel" "ClueLogicModel" "newBegins" "[I") ∈ GW := mwT 842 (by decide +kernel) rfl
theorem wd_844 : (Jvm.Cond.laysFinal "ClueLogicModel" "ClueLogicModel" "newSigns" "[I") ∈ GW := mwT 844 (by decide +kernel) rfl
theorem wd_846 : (Jvm.Cond.laysFinal "ClueLogicModel" "ClueLogicModel" "newOnes" "[I") ∈ GW := mwT 846 (by decide +kernel) rfl
theorem wd_848 : (Jvm.Cond.laysFinal "ClueLogicModel" "ClueLogicModel" "newTwos" "[I") ∈ GW := mwT 848 (by decide +kernel) rfl
theorem wd_850 : (Jvm.Cond.lays "ClueLogicModel" "ClueLogicModel" "orders" "I") ∈ GW := mwT 850 (by decide +kernel) rfl
theorem wd_852 : (Jvm.Cond.laysFinal "ClueLogicModel" "ClueLogicModel" "values" "[I") ∈ GW := mwT 852 (by decide +kernel) rfl
theorem wd_854 : (Jvm.Cond.laysFinal "ClueLogicModel" "ClueLogicModel" "seats" "[I") ∈ GW := mwT 854 (by decide +kernel) rfl
theorem wd_856 : (Jvm.Cond.lays "ClueLogicModel" "ClueLogicModel" "isKnown" "Z") ∈ GW := mwT 856 (by decide +kernel) rfl
theorem wd_858 : (Jvm.Cond.lays "ClueLogicModel" "ClueLogicModel" "isCrossed" "Z") ∈ GW := mwT 858 (by decide +kernel) rfl
theorem wd_860 : (Jvm.Cond.laysFinal "ClueLogicModel" "ClueLogicModel" "holds" "[I") ∈ GW := mwT 860 (by decide +kernel) rfl
theorem wd_862 : (Jvm.Cond.laysFinal "ClueLogicModel" "ClueLogicModel" "pile" "[Z") ∈ GW := mwT 862 (by decide +kernel) rfl
theorem wd_864 : (Jvm.Cond.lays "ClueLogicModel" "ClueLogicModel" "kept" "I") ∈ GW := mwT 864 (by decide +kernel) rfl
theorem wd_866 : (Jvm.Cond.laysFinal "ClueLogicModel" "ClueLogicModel" "answers" "[I") ∈ GW := mwT 866 (by decide +kernel) rfl
theorem wd_868 : (Jvm.Cond.laysFinal "ClueLogicModel" "ClueLogicModel" "may" "[I") ∈ GW := mwT 868 (by decide +kernel) rfl
theorem wd_870 : (Jvm.Cond.laysFinal "ClueLogicModel" "ClueLogicModel" "mayBe" "[I") ∈ GW := mwT 870 (by decide +kernel) rfl
theorem wd_872 : (Jvm.Cond.laysFinal "ClueLogicModel" "ClueLogicModel" "some" "[I") ∈ GW := mwT 872 (by decide +kernel) rfl
theorem wd_874 : (Jvm.Cond.laysFinal "ClueLogicModel" "ClueLogicModel" "someBe" "[I") ∈ GW := mwT 874 (by decide +kernel) rfl
theorem wd_876 : (Jvm.Cond.lays "ClueLogicModel" "ClueLogicModel" "steps" "I") ∈ GW := mwT 876 (by decide +kernel) rfl
theorem wd_878 : (Jvm.Cond.laysFinal "ClueLogicModel" "ClueLogicModel" "stepClue" "[I") ∈ GW := mwT 878 (by decide +kernel) rfl
theorem wd_880 : (Jvm.Cond.laysFinal "ClueLogicModel" "ClueLogicModel" "stepMuch" "[I") ∈ GW := mwT 880 (by decide +kernel) rfl
theorem wd_883 : (Jvm.Cond.methodLink "ClueLogicLaw" (17 : Nat) ({ cls := "ClueLogicModel", name := "unit", desc := "(I)Z" } : Jvm.MethodName)) ∈ GW := mwT 883 (by decide +kernel) rfl
theorem wd_884 : (Jvm.Cond.instanceMethod ({ cls := "ClueLogicModel", name := "unit", desc := "(I)Z" } : Jvm.MethodName)) ∈ GW := mwT 884 (by decide +kernel) rfl
theorem wd_885 : (Jvm.Cond.selects "ClueLogicModel" ({ cls := "ClueLogicModel", name := "unit", desc := "(I)Z" } : Jvm.MethodName) ({ cls := "ClueLogicModel", name := "unit", desc := "(I)Z" } : Jvm.MethodName)) ∈ GW := mwT 885 (by decide +kernel) rfl
theorem wd_886 : (Jvm.Cond.code ({ cls := "ClueLogicModel", name := "unit", desc := "(I)Z" } : Jvm.MethodName) prog_14_method_5_code (2 : Nat) (Option.some Jvm.ClassFile.FieldType.boolean)) ∈ GW := mwT 886 (by decide +kernel) rfl
theorem wd_887 : (Jvm.Cond.methodLink "ClueLogicLaw" (22 : Nat) ({ cls := "ClueLogicModel", name := "read", desc := "()I" } : Jvm.MethodName)) ∈ GW := mwT 887 (by decide +kernel) rfl
theorem wd_888 : (Jvm.Cond.instanceMethod ({ cls := "ClueLogicModel", name := "read", desc := "()I" } : Jvm.MethodName)) ∈ GW := mwT 888 (by decide +kernel) rfl
theorem wd_889 : (Jvm.Cond.selects "ClueLogicModel" ({ cls := "ClueLogicModel", name := "read", desc := "()I" } : Jvm.MethodName) ({ cls := "ClueLogicModel", name := "read", desc := "()I" } : Jvm.MethodName)) ∈ GW := mwT 889 (by decide +kernel) rfl
theorem wd_890 : (Jvm.Cond.code ({ cls := "ClueLogicModel", name := "read", desc := "()I" } : Jvm.MethodName) prog_14_method_12_code (3 : Nat) (Option.some Jvm.ClassFile.FieldType.int)) ∈ GW := mwT 890 (by decide +kernel) rfl
theorem wd_891 : (Jvm.Cond.methodLink "ClueLogicModel" (135 : Nat) ({ cls := "ClueLogicModel", name := "readAll", desc := "()Z" } : Jvm.MethodName)) ∈ GW := mwT 891 (by decide +kernel) rfl
theorem wd_893 : (Jvm.Cond.instanceMethod ({ cls := "ClueLogicModel", name := "readAll", desc := "()Z" } : Jvm.MethodName)) ∈ GW := mwT 893 (by decide +kernel) rfl
theorem wd_894 : (Jvm.Cond.code ({ cls := "ClueLogicModel", name := "readAll", desc := "()Z" } : Jvm.MethodName) prog_14_method_11_code (1 : Nat) (Option.some Jvm.ClassFile.FieldType.boolean)) ∈ GW := mwT 894 (by decide +kernel) rfl
theorem wd_895 : (Jvm.Cond.methodLink "ClueLogicModel" (114 : Nat) ({ cls := "ClueLogicModel", name := "digit", desc := "(II)I" } : Jvm.MethodName)) ∈ GW := mwT 895 (by decide +kernel) rfl
theorem wd_897 : (Jvm.Cond.instanceMethod ({ cls := "ClueLogicModel", name := "digit", desc := "(II)I" } : Jvm.MethodName)) ∈ GW := mwT 897 (by decide +kernel) rfl
theorem wd_898 : (Jvm.Cond.code ({ cls := "ClueLogicModel", name := "digit", desc := "(II)I" } : Jvm.MethodName) prog_14_method_7_code (4 : Nat) (Option.some Jvm.ClassFile.FieldType.int)) ∈ GW := mwT 898 (by decide +kernel) rfl
theorem wd_899 : (Jvm.Cond.methodLink "ClueLogicModel" (104 : Nat) ({ cls := "ClueLogicModel", name := "byteAt", desc := "(I)I" } : Jvm.MethodName)) ∈ GW := mwT 899 (by decide +kernel) rfl
theorem wd_901 : (Jvm.Cond.instanceMethod ({ cls := "ClueLogicModel", name := "byteAt", desc := "(I)I" } : Jvm.MethodName)) ∈ GW := mwT 901 (by decide +kernel) rfl
theorem wd_902 : (Jvm.Cond.code ({ cls := "ClueLogicModel", name := "byteAt", desc := "(I)I" } : Jvm.MethodName) prog_14_method_6_code (2 : Nat) (Option.some Jvm.ClassFile.FieldType.int)) ∈ GW := mwT 902 (by decide +kernel) rfl
theorem wd_903 : (Jvm.Cond.methodLink "ClueLogicModel" (131 : Nat) ({ cls := "ClueLogicModel", name := "readClue", desc := "()Z" } : Jvm.MethodName)) ∈ GW := mwT 903 (by decide +kernel) rfl
theorem wd_905 : (Jvm.Cond.instanceMethod ({ cls := "ClueLogicModel", name := "readClue", desc := "()Z" } : Jvm.MethodName)) ∈ GW := mwT 905 (by decide +kernel) rfl
theorem wd_906 : (Jvm.Cond.code ({ cls := "ClueLogicModel", name := "readClue", desc := "()Z" } : Jvm.MethodName) prog_14_method_10_code (4 : Nat) (Option.some Jvm.ClassFile.FieldType.boolean)) ∈ GW := mwT 906 (by decide +kernel) rfl
theorem wd_907 : (Jvm.Cond.methodLink "ClueLogicModel" (121 : Nat) ({ cls := "ClueLogicModel", name := "signOf", desc := "(I)I" } : Jvm.MethodName)) ∈ GW := mwT 907 (by decide +kernel) rfl
theorem wd_908 : (Jvm.Cond.static ({ cls := "ClueLogicModel", name := "signOf", desc := "(I)I" } : Jvm.MethodName)) ∈ GW := mwT 908 (by decide +kernel) rfl
theorem wd_909 : (Jvm.Cond.code ({ cls := "ClueLogicModel", name := "signOf", desc := "(I)I" } : Jvm.MethodName) prog_14_method_9_code (1 : Nat) (Option.some Jvm.ClassFile.FieldType.int)) ∈ GW := mwT 909 (by decide +kernel) rfl
theorem wd_910 : (Jvm.Cond.methodLink "ClueLogicModel" (124 : Nat) ({ cls := "ClueLogicModel", name := "value", desc := "()I" } : Jvm.MethodName)) ∈ GW := mwT 910 (by decide +kernel) rfl
theorem wd_912 : (Jvm.Cond.instanceMethod ({ cls := "ClueLogicModel", name := "value", desc := "()I" } : Jvm.MethodName)) ∈ GW := mwT 912 (by decide +kernel) rfl
theorem wd_913 : (Jvm.Cond.code ({ cls := "ClueLogicModel", name := "value", desc := "()I" } : Jvm.MethodName) prog_14_method_8_code (3 : Nat) (Option.some Jvm.ClassFile.FieldType.int)) ∈ GW := mwT 913 (by decide +kernel) rfl
theorem wd_914 : (Jvm.Cond.methodLink "ClueLogicLaw" (27 : Nat) ({ cls := "ClueLogicModel", name := "told", desc := "(I)I" } : Jvm.MethodName)) ∈ GW := mwT 914 (by decide +kernel) rfl
theorem wd_915 : (Jvm.Cond.instanceMethod ({ cls := "ClueLogicModel", name := "told", desc := "(I)I" } : Jvm.MethodName)) ∈ GW := mwT 915 (by decide +kernel) rfl
theorem wd_916 : (Jvm.Cond.selects "ClueLogicModel" ({ cls := "ClueLogicModel", name := "told", desc := "(I)I" } : Jvm.MethodName) ({ cls := "ClueLogicModel", name := "told", desc := "(I)I" } : Jvm.MethodName)) ∈ GW := mwT 916 (by decide +kernel) rfl
theorem wd_917 : (Jvm.Cond.code ({ cls := "ClueLogicModel", name := "told", desc := "(I)I" } : Jvm.MethodName) prog_14_method_13_code (2 : Nat) (Option.some Jvm.ClassFile.FieldType.int)) ∈ GW := mwT 917 (by decide +kernel) rfl
theorem wd_918 : (Jvm.Cond.methodLink "ClueLogicLaw" (31 : Nat) ({ cls := "ClueLogicModel", name := "run", desc := "()I" } : Jvm.MethodName)) ∈ GW := mwT 918 (by decide +kernel) rfl
theorem wd_919 : (Jvm.Cond.instanceMethod ({ cls := "ClueLogicModel", name := "run", desc := "()I" } : Jvm.MethodName)) ∈ GW := mwT 919 (by decide +kernel) rfl
theorem wd_920 : (Jvm.Cond.selects "ClueLogicModel" ({ cls := "ClueLogicModel", name := "run", desc := "()I" } : Jvm.MethodName) ({ cls := "ClueLogicModel", name := "run", desc := "()I" } : Jvm.MethodName)) ∈ GW := mwT 920 (by decide +kernel) rfl
theorem wd_921 : (Jvm.Cond.code ({ cls := "ClueLogicModel", name := "run", desc := "()I" } : Jvm.MethodName) prog_14_method_23_code (3 : Nat) (Option.some Jvm.ClassFile.FieldType.int)) ∈ GW := mwT 921 (by decide +kernel) rfl
theorem wd_922 : (Jvm.Cond.methodLink "ClueLogicModel" (169 : Nat) ({ cls := "ClueLogicModel", name := "know", desc := "()V" } : Jvm.MethodName)) ∈ GW := mwT 922 (by decide +kernel) rfl
theorem wd_924 : (Jvm.Cond.instanceMethod ({ cls := "ClueLogicModel", name := "know", desc := "()V" } : Jvm.MethodName)) ∈ GW := mwT 924 (by decide +kernel) rfl
theorem wd_925 : (Jvm.Cond.code ({ cls := "ClueLogicModel", name := "know", desc := "()V" } : Jvm.MethodName) prog_14_method_21_code (3 : Nat) (Option.none : Option Jvm.ClassFile.FieldType)) ∈ GW := mwT 925 (by decide +kernel) rfl
theorem wd_926 : (Jvm.Cond.methodLink "ClueLogicModel" (160 : Nat) ({ cls := "ClueLogicModel", name := "order", desc := "()V" } : Jvm.MethodName)) ∈ GW := mwT 926 (by decide +kernel) rfl
theorem wd_928 : (Jvm.Cond.instanceMethod ({ cls := "ClueLogicModel", name := "order", desc := "()V" } : Jvm.MethodName)) ∈ GW := mwT 928 (by decide +kernel) rfl
theorem wd_929 : (Jvm.Cond.code ({ cls := "ClueLogicModel", name := "order", desc := "()V" } : Jvm.MethodName) prog_14_method_14_code (6 : Nat) (Option.none : Option Jvm.ClassFile.FieldType)) ∈ GW := mwT 929 (by decide +kernel) rfl
theorem wd_930 : (Jvm.Cond.methodLink "ClueLogicModel" (163 : Nat) ({ cls := "ClueLogicModel", name := "states", desc := "()I" } : Jvm.MethodName)) ∈ GW := mwT 930 (by decide +kernel) rfl
theorem wd_932 : (Jvm.Cond.instanceMethod ({ cls := "ClueLogicModel", name := "states", desc := "()I" } : Jvm.MethodName)) ∈ GW := mwT 932 (by decide +kernel) rfl
theorem wd_933 : (Jvm.Cond.code ({ cls := "ClueLogicModel", name := "states", desc := "()I" } : Jvm.MethodName) prog_14_method_15_code (3 : Nat) (Option.some Jvm.ClassFile.FieldType.int)) ∈ GW := mwT 933 (by decide +kernel) rfl
theorem wd_934 : (Jvm.Cond.methodLink "ClueLogicModel" (166 : Nat) ({ cls := "ClueLogicModel", name := "isSo", desc := "(II)Z" } : Jvm.MethodName)) ∈ GW := mwT 934 (by decide +kernel) rfl
theorem wd_936 : (Jvm.Cond.instanceMethod ({ cls := "ClueLogicModel", name := "isSo", desc := "(II)Z" } : Jvm.MethodName)) ∈ GW := mwT 936 (by decide +kernel) rfl
theorem wd_937 : (Jvm.Cond.code ({ cls := "ClueLogicModel", name := "isSo", desc := "(II)Z" } : Jvm.MethodName) prog_14_method_20_code (8 : Nat) (Option.some Jvm.ClassFile.FieldType.boolean)) ∈ GW := mwT 937 (by decide +kernel) rfl
theorem wd_938 : (Jvm.Cond.methodLink "ClueLogicModel" (153 : Nat) ({ cls := "ClueLogicModel", name := "seat", desc := "(II)I" } : Jvm.MethodName)) ∈ GW := mwT 938 (by decide +kernel) rfl
theorem wd_940 : (Jvm.Cond.instanceMethod ({ cls := "ClueLogicModel", name := "seat", desc := "(II)I" } : Jvm.MethodName)) ∈ GW := mwT 940 (by decide +kernel) rfl
theorem wd_941 : (Jvm.Cond.code ({ cls := "ClueLogicModel", name := "seat", desc := "(II)I" } : Jvm.MethodName) prog_14_method_19_code (3 : Nat) (Option.some Jvm.ClassFile.FieldType.int)) ∈ GW := mwT 941 (by decide +kernel) rfl
theorem wd_942 : (Jvm.Cond.methodLink "ClueLogicModel" (150 : Nat) ({ cls := "ClueLogicModel", name := "orderOf", desc := "(II)I" } : Jvm.MethodName)) ∈ GW := mwT 942 (by decide +kernel) rfl
theorem wd_944 : (Jvm.Cond.instanceMethod ({ cls := "ClueLogicModel", name := "orderOf", desc := "(II)I" } : Jvm.MethodName)) ∈ GW := mwT 944 (by decide +kernel) rfl
theorem wd_945 : (Jvm.Cond.code ({ cls := "ClueLogicModel", name := "orderOf", desc := "(II)I" } : Jvm.MethodName) prog_14_method_16_code (5 : Nat) (Option.some Jvm.ClassFile.FieldType.int)) ∈ GW := mwT 945 (by decide +kernel) rfl
theorem wd_946 : (Jvm.Cond.methodLink "ClueLogicModel" (156 : Nat) ({ cls := "ClueLogicModel", name := "isTruthful", desc := "(II)Z" } : Jvm.MethodName)) ∈ GW := mwT 946 (by decide +kernel) rfl
theorem wd_948 : (Jvm.Cond.instanceMethod ({ cls := "ClueLogicModel", name := "isTruthful", desc := "(II)Z" } : Jvm.MethodName)) ∈ GW := mwT 948 (by decide +kernel) rfl
theorem wd_949 : (Jvm.Cond.code ({ cls := "ClueLogicModel", name := "isTruthful", desc := "(II)Z" } : Jvm.MethodName) prog_14_method_17_code (3 : Nat) (Option.some Jvm.ClassFile.FieldType.boolean)) ∈ GW := mwT 949 (by decide +kernel) rfl
theorem wd_950 : (Jvm.Cond.methodLink "ClueLogicModel" (172 : Nat) ({ cls := "ClueLogicModel", name := "isAnswer", desc := "(I)Z" } : Jvm.MethodName)) ∈ GW := mwT 950 (by decide +kernel) rfl
theorem wd_952 : (Jvm.Cond.instanceMethod ({ cls := "ClueLogicModel", name := "isAnswer", desc := "(I)Z" } : Jvm.MethodName)) ∈ GW := mwT 952 (by decide +kernel) rfl
theorem wd_953 : (Jvm.Cond.code ({ cls := "ClueLogicModel", name := "isAnswer", desc := "(I)Z" } : Jvm.MethodName) prog_14_method_22_code (2 : Nat) (Option.some Jvm.ClassFile.FieldType.boolean)) ∈ GW := mwT 953 (by decide +kernel) rfl
theorem wd_954 : (Jvm.Cond.methodLink "ClueLogicLaw" (36 : Nat) ({ cls := "ClueLogicModel", name := "answer", desc := "(III)I" } : Jvm.MethodName)) ∈ GW := mwT 954 (by decide +kernel) rfl
theorem wd_955 : (Jvm.Cond.instanceMethod ({ cls := "ClueLogicModel", name := "answer", desc := "(III)I" } : Jvm.MethodName)) ∈ GW := mwT 955 (by decide +kernel) rfl
theorem wd_956 : (Jvm.Cond.selects "ClueLogicModel" ({ cls := "ClueLogicModel", name := "answer", desc := "(III)I" } : Jvm.MethodName) ({ cls := "ClueLogicModel", name := "answer", desc := "(III)I" } : Jvm.MethodName)) ∈ GW := mwT 956 (by decide +kernel) rfl
theorem wd_957 : (Jvm.Cond.code ({ cls := "ClueLogicModel", name := "answer", desc := "(III)I" } : Jvm.MethodName) prog_14_method_27_code (4 : Nat) (Option.some Jvm.ClassFile.FieldType.int)) ∈ GW := mwT 957 (by decide +kernel) rfl
theorem wd_958 : (Jvm.Cond.methodLink "ClueLogicModel" (176 : Nat) ({ cls := "ClueLogicModel", name := "isKept", desc := "(I)Z" } : Jvm.MethodName)) ∈ GW := mwT 958 (by decide +kernel) rfl
theorem wd_960 : (Jvm.Cond.instanceMethod ({ cls := "ClueLogicModel", name := "isKept", desc := "(I)Z" } : Jvm.MethodName)) ∈ GW := mwT 960 (by decide +kernel) rfl
theorem wd_961 : (Jvm.Cond.code ({ cls := "ClueLogicModel", name := "isKept", desc := "(I)Z" } : Jvm.MethodName) prog_14_method_24_code (2 : Nat) (Option.some Jvm.ClassFile.FieldType.boolean)) ∈ GW := mwT 961 (by decide +kernel) rfl
theorem wd_962 : (Jvm.Cond.methodLink "ClueLogicModel" (179 : Nat) ({ cls := "ClueLogicModel", name := "isOf", desc := "(II)Z" } : Jvm.MethodName)) ∈ GW := mwT 962 (by decide +kernel) rfl
theorem wd_964 : (Jvm.Cond.instanceMethod ({ cls := "ClueLogicModel", name := "isOf", desc := "(II)Z" } : Jvm.MethodName)) ∈ GW := mwT 964 (by decide +kernel) rfl
theorem wd_965 : (Jvm.Cond.code ({ cls := "ClueLogicModel", name := "isOf", desc := "(II)Z" } : Jvm.MethodName) prog_14_method_25_code (3 : Nat) (Option.some Jvm.ClassFile.FieldType.boolean)) ∈ GW := mwT 965 (by decide +kernel) rfl
theorem wd_966 : (Jvm.Cond.methodLink "ClueLogicModel" (182 : Nat) ({ cls := "ClueLogicModel", name := "valueOf", desc := "(III)I" } : Jvm.MethodName)) ∈ GW := mwT 966 (by decide +kernel) rfl
theorem wd_968 : (Jvm.Cond.instanceMethod ({ cls := "ClueLogicModel", name := "valueOf", desc := "(III)I" } : Jvm.MethodName)) ∈ GW := mwT 968 (by decide +kernel) rfl
theorem wd_969 : (Jvm.Cond.code ({ cls := "ClueLogicModel", name := "valueOf", desc := "(III)I" } : Jvm.MethodName) prog_14_method_18_code (4 : Nat) (Option.some Jvm.ClassFile.FieldType.int)) ∈ GW := mwT 969 (by decide +kernel) rfl
theorem wd_970 : (Jvm.Cond.methodLink "ClueLogicLaw" (41 : Nat) ({ cls := "ClueLogicModel", name := "truth", desc := "(II)I" } : Jvm.MethodName)) ∈ GW := mwT 970 (by decide +kernel) rfl
theorem wd_971 : (Jvm.Cond.instanceMethod ({ cls := "ClueLogicModel", name := "truth", desc := "(II)I" } : Jvm.MethodName)) ∈ GW := mwT 971 (by decide +kernel) rfl
theorem wd_972 : (Jvm.Cond.selects "ClueLogicModel" ({ cls := "ClueLogicModel", name := "truth", desc := "(II)I" } : Jvm.MethodName) ({ cls := "ClueLogicModel", name := "truth", desc := "(II)I" } : Jvm.MethodName)) ∈ GW := mwT 972 (by decide +kernel) rfl
theorem wd_973 : (Jvm.Cond.code ({ cls := "ClueLogicModel", name := "truth", desc := "(II)I" } : Jvm.MethodName) prog_14_method_28_code (3 : Nat) (Option.some Jvm.ClassFile.FieldType.int)) ∈ GW := mwT 973 (by decide +kernel) rfl
theorem wd_974 : (Jvm.Cond.methodLink "ClueLogicModel" (186 : Nat) ({ cls := "ClueLogicModel", name := "isPerson", desc := "(I)Z" } : Jvm.MethodName)) ∈ GW := mwT 974 (by decide +kernel) rfl
theorem wd_976 : (Jvm.Cond.instanceMethod ({ cls := "ClueLogicModel", name := "isPerson", desc := "(I)Z" } : Jvm.MethodName)) ∈ GW := mwT 976 (by decide +kernel) rfl
theorem wd_977 : (Jvm.Cond.code ({ cls := "ClueLogicModel", name := "isPerson", desc := "(I)Z" } : Jvm.MethodName) prog_14_method_26_code (2 : Nat) (Option.some Jvm.ClassFile.FieldType.boolean)) ∈ GW := mwT 977 (by decide +kernel) rfl
theorem wd_978 : (Jvm.Cond.methodLink "ClueLogicLaw" (45 : Nat) ({ cls := "ClueLogicModel", name := "often", desc := "(III)I" } : Jvm.MethodName)) ∈ GW := mwT 978 (by decide +kernel) rfl
theorem wd_979 : (Jvm.Cond.instanceMethod ({ cls := "ClueLogicModel", name := "often", desc := "(III)I" } : Jvm.MethodName)) ∈ GW := mwT 979 (by decide +kernel) rfl
theorem wd_980 : (Jvm.Cond.selects "ClueLogicModel" ({ cls := "ClueLogicModel", name := "often", desc := "(III)I" } : Jvm.MethodName) ({ cls := "ClueLogicModel", name := "often", desc := "(III)I" } : Jvm.MethodName)) ∈ GW := mwT 980 (by decide +kernel) rfl
theorem wd_981 : (Jvm.Cond.code ({ cls := "ClueLogicModel", name := "often", desc := "(III)I" } : Jvm.MethodName) prog_14_method_29_code (6 : Nat) (Option.some Jvm.ClassFile.FieldType.int)) ∈ GW := mwT 981 (by decide +kernel) rfl
theorem wd_982 : (Jvm.Cond.methodLink "ClueLogicLaw" (49 : Nat) ({ cls := "ClueLogicModel", name := "spare", desc := "(I)Z" } : Jvm.MethodName)) ∈ GW := mwT 982 (by decide +kernel) rfl
theorem wd_983 : (Jvm.Cond.instanceMethod ({ cls := "ClueLogicModel", name := "spare", desc := "(I)Z" } : Jvm.MethodName)) ∈ GW := mwT 983 (by decide +kernel) rfl
theorem wd_984 : (Jvm.Cond.selects "ClueLogicModel" ({ cls := "ClueLogicModel", name := "spare", desc := "(I)Z" } : Jvm.MethodName) ({ cls := "ClueLogicModel", name := "spare", desc := "(I)Z" } : Jvm.MethodName)) ∈ GW := mwT 984 (by decide +kernel) rfl
theorem wd_985 : (Jvm.Cond.code ({ cls := "ClueLogicModel", name := "spare", desc := "(I)Z" } : Jvm.MethodName) prog_14_method_30_code (4 : Nat) (Option.some Jvm.ClassFile.FieldType.boolean)) ∈ GW := mwT 985 (by decide +kernel) rfl
theorem wd_986 : (Jvm.Cond.methodLink "ClueLogicLaw" (53 : Nat) ({ cls := "ClueLogicModel", name := "cross", desc := "()I" } : Jvm.MethodName)) ∈ GW := mwT 986 (by decide +kernel) rfl
theorem wd_987 : (Jvm.Cond.instanceMethod ({ cls := "ClueLogicModel", name := "cross", desc := "()I" } : Jvm.MethodName)) ∈ GW := mwT 987 (by decide +kernel) rfl
theorem wd_988 : (Jvm.Cond.selects "ClueLogicModel" ({ cls := "ClueLogicModel", name := "cross", desc := "()I" } : Jvm.MethodName) ({ cls := "ClueLogicModel", name := "cross", desc := "()I" } : Jvm.MethodName)) ∈ GW := mwT 988 (by decide +kernel) rfl
theorem wd_989 : (Jvm.Cond.code ({ cls := "ClueLogicModel", name := "cross", desc := "()I" } : Jvm.MethodName) prog_14_method_34_code (3 : Nat) (Option.some Jvm.ClassFile.FieldType.int)) ∈ GW := mwT 989 (by decide +kernel) rfl
theorem wd_990 : (Jvm.Cond.methodLink "ClueLogicModel" (195 : Nat) ({ cls := "ClueLogicModel", name := "crossBy", desc := "(I)I" } : Jvm.MethodName)) ∈ GW := mwT 990 (by decide +kernel) rfl
theorem wd_992 : (Jvm.Cond.instanceMethod ({ cls := "ClueLogicModel", name := "crossBy", desc := "(I)I" } : Jvm.MethodName)) ∈ GW := mwT 992 (by decide +kernel) rfl
theorem wd_993 : (Jvm.Cond.code ({ cls := "ClueLogicModel", name := "crossBy", desc := "(I)I" } : Jvm.MethodName) prog_14_method_33_code (5 : Nat) (Option.some Jvm.ClassFile.FieldType.int)) ∈ GW := mwT 993 (by decide +kernel) rfl
theorem wd_994 : (Jvm.Cond.methodLink "ClueLogicModel" (189 : Nat) ({ cls := "ClueLogicModel", name := "isOpen", desc := "(I)Z" } : Jvm.MethodName)) ∈ GW := mwT 994 (by decide +kernel) rfl
theorem wd_996 : (Jvm.Cond.instanceMethod ({ cls := "ClueLogicModel", name := "isOpen", desc := "(I)Z" } : Jvm.MethodName)) ∈ GW := mwT 996 (by decide +kernel) rfl
theorem wd_997 : (Jvm.Cond.code ({ cls := "ClueLogicModel", name := "isOpen", desc := "(I)Z" } : Jvm.MethodName) prog_14_method_31_code (4 : Nat) (Option.some Jvm.ClassFile.FieldType.boolean)) ∈ GW := mwT 997 (by decide +kernel) rfl
theorem wd_998 : (Jvm.Cond.methodLink "ClueLogicModel" (192 : Nat) ({ cls := "ClueLogicModel", name := "countOf", desc := "(I)I" } : Jvm.MethodName)) ∈ GW := mwT 998 (by decide +kernel) rfl
theorem wd_999 : (Jvm.Cond.static ({ cls := "ClueLogicModel", name := "countOf", desc := "(I)I" } : Jvm.MethodName)) ∈ GW := mwT 999 (by decide +kernel) rfl
theorem wd_1000 : (Jvm.Cond.code ({ cls := "ClueLogicModel", name := "countOf", desc := "(I)I" } : Jvm.MethodName) prog_14_method_32_code (3 : Nat) (Option.some Jvm.ClassFile.FieldType.int)) ∈ GW := mwT 1000 (by decide +kernel) rfl
theorem wd_1001 : (Jvm.Cond.methodLink "ClueLogicLaw" (57 : Nat) ({ cls := "ClueLogicModel", name := "step", desc := "(II)I" } : Jvm.MethodName)) ∈ GW := mwT 1001 (by decide +kernel) rfl
theorem wd_1002 : (Jvm.Cond.instanceMethod ({ cls := "ClueLogicModel", name := "step", desc := "(II)I" } : Jvm.MethodName)) ∈ GW := mwT 1002 (by decide +kernel) rfl
theorem wd_1003 : (Jvm.Cond.selects "ClueLogicModel" ({ cls := "ClueLogicModel", name := "step", desc := "(II)I" } : Jvm.MethodName) ({ cls := "ClueLogicModel", name := "step", desc := "(II)I" } : Jvm.MethodName)) ∈ GW := mwT 1003 (by decide +kernel) rfl
theorem wd_1004 : (Jvm.Cond.code ({ cls := "ClueLogicModel", name := "step", desc := "(II)I" } : Jvm.MethodName) prog_14_method_35_code (3 : Nat) (Option.some Jvm.ClassFile.FieldType.int)) ∈ GW := mwT 1004 (by decide +kernel) rfl
theorem wd_1005 : (Jvm.Cond.methodLink "ClueLogicLaw" (61 : Nat) ({ cls := "ClueLogicModel", name := "may", desc := "(II)I" } : Jvm.MethodName)) ∈ GW := mwT 1005 (by decide +kernel) rfl
theorem wd_1006 : (Jvm.Cond.instanceMethod ({ cls := "ClueLogicModel", name := "may", desc := "(II)I" } : Jvm.MethodName)) ∈ GW := mwT 1006 (by decide +kernel) rfl
theorem wd_1007 : (Jvm.Cond.selects "ClueLogicModel" ({ cls := "ClueLogicModel", name := "may", desc := "(II)I" } : Jvm.MethodName) ({ cls := "ClueLogicModel", name := "may", desc := "(II)I" } : Jvm.MethodName)) ∈ GW := mwT 1007 (by decide +kernel) rfl
theorem wd_1008 : (Jvm.Cond.code ({ cls := "ClueLogicModel", name := "may", desc := "(II)I" } : Jvm.MethodName) prog_14_method_36_code (3 : Nat) (Option.some Jvm.ClassFile.FieldType.int)) ∈ GW := mwT 1008 (by decide +kernel) rfl
theorem wd_1009 : (Jvm.Cond.methodLink "ClueLogicLaw" (65 : Nat) ({ cls := "ClueLogicModel", name := "mayBe", desc := "(I)I" } : Jvm.MethodName)) ∈ GW := mwT 1009 (by decide +kernel) rfl
theorem wd_1010 : (Jvm.Cond.instanceMethod ({ cls := "ClueLogicModel", name := "mayBe", desc := "(I)I" } : Jvm.MethodName)) ∈ GW := mwT 1010 (by decide +kernel) rfl
theorem wd_1011 : (Jvm.Cond.selects "ClueLogicModel" ({ cls := "ClueLogicModel", name := "mayBe", desc := "(I)I" } : Jvm.MethodName) ({ cls := "ClueLogicModel", name := "mayBe", desc := "(I)I" } : Jvm.MethodName)) ∈ GW := mwT 1011 (by decide +kernel) rfl
theorem wd_1012 : (Jvm.Cond.code ({ cls := "ClueLogicModel", name := "mayBe", desc := "(I)I" } : Jvm.MethodName) prog_14_method_37_code (2 : Nat) (Option.some Jvm.ClassFile.FieldType.int)) ∈ GW := mwT 1012 (by decide +kernel) rfl
theorem sp_0 : Cond.selects m_Od_fill.1.cls m_Od_fill.1 m_Od_fill.1 ∈ GW := mwS (q := (m_Od_fill.1, 5)) 0 (by decide +kernel)
theorem sp_1 : Cond.selects m_Od_add.1.cls m_Od_add.1 m_Od_add.1 ∈ GW := mwS (q := (m_Od_add.1, 5)) 1 (by decide +kernel)
theorem sp_2 : Cond.selects m_C_begin.1.cls m_C_begin.1 m_C_begin.1 ∈ GW := mwS (q := (m_C_begin.1, 6)) 2 (by decide +kernel)
theorem sp_3 : Cond.selects m_Cr_waysIn.1.cls m_Cr_waysIn.1 m_Cr_waysIn.1 ∈ GW := mwS (q := (m_Cr_waysIn.1, 10)) 3 (by decide +kernel)
theorem sp_4 : Cond.selects m_Rd_passHead.1.cls m_Rd_passHead.1 m_Rd_passHead.1 ∈ GW := mwS (q := (m_Rd_passHead.1, 7)) 4 (by decide +kernel)
theorem sp_5 : Cond.selects m_Rd_take.1.cls m_Rd_take.1 m_Rd_take.1 ∈ GW := mwS (q := (m_Rd_take.1, 7)) 5 (by decide +kernel)
theorem sp_6 : Cond.selects m_Rd_passSemicolon.1.cls m_Rd_passSemicolon.1 m_Rd_passSemicolon.1 ∈ GW := mwS (q := (m_Rd_passSemicolon.1, 7)) 6 (by decide +kernel)
theorem sp_7 : Cond.selects m_Rd_clue.1.cls m_Rd_clue.1 m_Rd_clue.1 ∈ GW := mwS (q := (m_Rd_clue.1, 7)) 7 (by decide +kernel)
theorem sp_8 : Cond.selects m_Rd_ofPerson.1.cls m_Rd_ofPerson.1 m_Rd_ofPerson.1 ∈ GW := mwS (q := (m_Rd_ofPerson.1, 7)) 8 (by decide +kernel)
theorem sp_9 : Cond.selects m_Rd_saying.1.cls m_Rd_saying.1 m_Rd_saying.1 ∈ GW := mwS (q := (m_Rd_saying.1, 7)) 9 (by decide +kernel)
theorem sp_10 : Cond.selects m_Rd_turned.1.cls m_Rd_turned.1 m_Rd_turned.1 ∈ GW := mwS (q := (m_Rd_turned.1, 7)) 10 (by decide +kernel)
theorem sp_11 : Cond.selects m_Rd_joined.1.cls m_Rd_joined.1 m_Rd_joined.1 ∈ GW := mwS (q := (m_Rd_joined.1, 7)) 11 (by decide +kernel)
theorem sp_12 : Cond.selects m_Rd_ofValues.1.cls m_Rd_ofValues.1 m_Rd_ofValues.1 ∈ GW := mwS (q := (m_Rd_ofValues.1, 7)) 12 (by decide +kernel)
theorem sp_13 : Cond.selects m_Rd_takeValue.1.cls m_Rd_takeValue.1 m_Rd_takeValue.1 ∈ GW := mwS (q := (m_Rd_takeValue.1, 7)) 13 (by decide +kernel)
theorem sp_14 : Cond.selects m_Wk_chooseOrders.1.cls m_Wk_chooseOrders.1 m_Wk_chooseOrders.1 ∈ GW := mwS (q := (m_Wk_chooseOrders.1, 6)) 14 (by decide +kernel)
theorem sp_15 : Cond.selects m_Wk_go.1.cls m_Wk_go.1 m_Wk_go.1 ∈ GW := mwS (q := (m_Wk_go.1, 6)) 15 (by decide +kernel)
theorem sp_16 : Cond.selects m_An_weigh.1.cls m_An_weigh.1 m_An_weigh.1 ∈ GW := mwS (q := (m_An_weigh.1, 10)) 16 (by decide +kernel)
theorem sp_17 : Cond.selects m_Ov_relates.1.cls m_Ov_relates.1 m_Ov_relates.1 ∈ GW := mwS (q := (m_Ov_relates.1, 3)) 17 (by decide +kernel)
theorem sp_18 : Cond.selects m_An_add.1.cls m_An_add.1 m_An_add.1 ∈ GW := mwS (q := (m_An_add.1, 10)) 18 (by decide +kernel)
theorem sp_19 : Cond.selects m_An_keep.1.cls m_An_keep.1 m_An_keep.1 ∈ GW := mwS (q := (m_An_keep.1, 10)) 19 (by decide +kernel)
theorem sp_20 : Cond.selects m_An_need.1.cls m_An_need.1 m_An_need.1 ∈ GW := mwS (q := (m_An_need.1, 10)) 20 (by decide +kernel)
theorem sp_21 : Cond.selects m_C_isKept.1.cls m_C_isKept.1 m_C_isKept.1 ∈ GW := mwS (q := (m_C_isKept.1, 6)) 21 (by decide +kernel)
theorem sp_22 : Cond.selects m_Cr_takeStep.1.cls m_Cr_takeStep.1 m_Cr_takeStep.1 ∈ GW := mwS (q := (m_Cr_takeStep.1, 10)) 22 (by decide +kernel)
theorem sp_23 : Cond.selects m_Cr_look.1.cls m_Cr_look.1 m_Cr_look.1 ∈ GW := mwS (q := (m_Cr_look.1, 10)) 23 (by decide +kernel)
theorem sp_24 : Cond.selects m_Cr_openParties.1.cls m_Cr_openParties.1 m_Cr_openParties.1 ∈ GW := mwS (q := (m_Cr_openParties.1, 10)) 24 (by decide +kernel)
theorem sp_25 : Cond.selects m_Cr_seeLayout.1.cls m_Cr_seeLayout.1 m_Cr_seeLayout.1 ∈ GW := mwS (q := (m_Cr_seeLayout.1, 10)) 25 (by decide +kernel)
theorem sp_26 : Cond.selects m_Cr_countUnseen.1.cls m_Cr_countUnseen.1 m_Cr_countUnseen.1 ∈ GW := mwS (q := (m_Cr_countUnseen.1, 10)) 26 (by decide +kernel)
theorem sp_27 : Cond.selects m_Cr_crossOut.1.cls m_Cr_crossOut.1 m_Cr_crossOut.1 ∈ GW := mwS (q := (m_Cr_crossOut.1, 10)) 27 (by decide +kernel)
theorem sp_28 : Cond.selects m_Md_fresh.1.cls m_Md_fresh.1 m_Md_fresh.1 ∈ GW := mwS (q := (m_Md_fresh.1, 36)) 28 (by decide +kernel)
theorem sp_29 : Cond.selects m_Md_all.1.cls m_Md_all.1 m_Md_all.1 ∈ GW := mwS (q := (m_Md_all.1, 36)) 29 (by decide +kernel)
theorem sp_30 : Cond.selects m_Md_readAll.1.cls m_Md_readAll.1 m_Md_readAll.1 ∈ GW := mwS (q := (m_Md_readAll.1, 36)) 30 (by decide +kernel)
theorem sp_31 : Cond.selects m_Md_digit.1.cls m_Md_digit.1 m_Md_digit.1 ∈ GW := mwS (q := (m_Md_digit.1, 36)) 31 (by decide +kernel)
theorem sp_32 : Cond.selects m_Md_byteAt.1.cls m_Md_byteAt.1 m_Md_byteAt.1 ∈ GW := mwS (q := (m_Md_byteAt.1, 36)) 32 (by decide +kernel)
theorem sp_33 : Cond.selects m_Md_readClue.1.cls m_Md_readClue.1 m_Md_readClue.1 ∈ GW := mwS (q := (m_Md_readClue.1, 36)) 33 (by decide +kernel)
theorem sp_34 : Cond.selects m_Md_value.1.cls m_Md_value.1 m_Md_value.1 ∈ GW := mwS (q := (m_Md_value.1, 36)) 34 (by decide +kernel)
theorem sp_35 : Cond.selects m_Md_know.1.cls m_Md_know.1 m_Md_know.1 ∈ GW := mwS (q := (m_Md_know.1, 36)) 35 (by decide +kernel)
theorem sp_36 : Cond.selects m_Md_order.1.cls m_Md_order.1 m_Md_order.1 ∈ GW := mwS (q := (m_Md_order.1, 36)) 36 (by decide +kernel)
theorem sp_37 : Cond.selects m_Md_states.1.cls m_Md_states.1 m_Md_states.1 ∈ GW := mwS (q := (m_Md_states.1, 36)) 37 (by decide +kernel)
theorem sp_38 : Cond.selects m_Md_isSo.1.cls m_Md_isSo.1 m_Md_isSo.1 ∈ GW := mwS (q := (m_Md_isSo.1, 36)) 38 (by decide +kernel)
theorem sp_39 : Cond.selects m_Md_seat.1.cls m_Md_seat.1 m_Md_seat.1 ∈ GW := mwS (q := (m_Md_seat.1, 36)) 39 (by decide +kernel)
theorem sp_40 : Cond.selects m_Md_orderOf.1.cls m_Md_orderOf.1 m_Md_orderOf.1 ∈ GW := mwS (q := (m_Md_orderOf.1, 36)) 40 (by decide +kernel)
theorem sp_41 : Cond.selects m_Md_isTruthful.1.cls m_Md_isTruthful.1 m_Md_isTruthful.1 ∈ GW := mwS (q := (m_Md_isTruthful.1, 36)) 41 (by decide +kernel)
theorem sp_42 : Cond.selects m_Md_isAnswer.1.cls m_Md_isAnswer.1 m_Md_isAnswer.1 ∈ GW := mwS (q := (m_Md_isAnswer.1, 36)) 42 (by decide +kernel)
theorem sp_43 : Cond.selects m_Md_isKept.1.cls m_Md_isKept.1 m_Md_isKept.1 ∈ GW := mwS (q := (m_Md_isKept.1, 36)) 43 (by decide +kernel)
theorem sp_44 : Cond.selects m_Md_isOf.1.cls m_Md_isOf.1 m_Md_isOf.1 ∈ GW := mwS (q := (m_Md_isOf.1, 36)) 44 (by decide +kernel)
theorem sp_45 : Cond.selects m_Md_valueOf.1.cls m_Md_valueOf.1 m_Md_valueOf.1 ∈ GW := mwS (q := (m_Md_valueOf.1, 36)) 45 (by decide +kernel)
theorem sp_46 : Cond.selects m_Md_isPerson.1.cls m_Md_isPerson.1 m_Md_isPerson.1 ∈ GW := mwS (q := (m_Md_isPerson.1, 36)) 46 (by decide +kernel)
theorem sp_47 : Cond.selects m_Md_crossBy.1.cls m_Md_crossBy.1 m_Md_crossBy.1 ∈ GW := mwS (q := (m_Md_crossBy.1, 36)) 47 (by decide +kernel)
theorem sp_48 : Cond.selects m_Md_isOpen.1.cls m_Md_isOpen.1 m_Md_isOpen.1 ∈ GW := mwS (q := (m_Md_isOpen.1, 36)) 48 (by decide +kernel)
end
section
/-! THE JUDGEMENT J: a method's walk over an abstract heap (a function from addresses to cells), with what is left of the room; Ct: a method's contract in the same words. Rows j_..: an instruction each. -/
abbrev HP : Type := Nat → Option va_E
def hset (h : HP) (a : Nat) (e : va_E) : HP := fun q => if q = a then some e else h q
theorem hset_s (h : HP) (a : Nat) (e : va_E) : hset h a e a = some e := if_pos rfl
theorem hset_n (h : HP) {a q : Nat} (e : va_E) (hq : q ≠ a) : hset h a e q = h q := if_neg hq
/-- launch, numbers of the classes and slots, array classes, the first own address, the addresses of the statics' arrays -/
abbrev EV : Type := Launch × va_G × (Nat → ClassId) × Nat × (Nat → Nat)
def Ab (E : EV) : Nat → Prop := fun q => E.2.2.2.1 ≤ q
def Rp (E : EV) (h : HP) (H : Heap) : Prop := ∀ (a : Nat) (e : va_E), h a = some e → va_at E.2.1 classes (a, e) H
def Zs (E : EV) (U : State) (H : Heap) : Prop := ∀ z ∈ stats E.2.2.2.2, va_Z z.1 z.2.1 z.2.2.1 z.2.2.2 (Ab E) U H
def tysE (E : EV) : List (ClassId × FieldType) := (List.range atys.length).map (fun i => (E.2.2.1 i, atys.getD i .int))
def Kn (E : EV) (U : State) : Prop := va_K E.2.1 classes (tysE E) U ∧ (∀ w ∈ nestF, va_Nw (.fieldLinkNest w.1 w.2.1 w.2.2.1 w.2.2.2.1 w.2.2.2.2.1 w.2.2.2.2.2) U) ∧ (∀ q ∈ faceW, va_Fw q.1 q.2.1 q.2.2 U) ∧ (∀ q ∈ castW, va_Nw (.castable q.1 q.2) U) ∧ ∀ q ∈ overW, va_AO q U
def wsM (M : MI) : List Cond := .code M.1 M.2.1 M.2.2.1 M.2.2.2 :: GW
def Wd (E : EV) (h : HP) (n : Nat) : State → Prop := fun U => Rp E h U.heap ∧ U.heap.size = n ∧ Kn E U ∧ Zs E U U.heap ∧ E.2.2.2.1 ≤ n
def Qx (E : EV) (Q : Option Value → HP → Nat → Prop) : Array Value → State → Outcome → State → Prop := fun _ st o t => ∃ (v : Option Value) (h : HP) (n : Nat), o = .returned v ∧ Q v h n ∧ Rp E h t.heap ∧ t.heap.size = n ∧ va_F (Ab E) st t
def rmD (d mc ms : Nat) : Room := { frames := d, cells := mc, slots := ms, locals := 40 * d }
def Ct (E : EV) (M : MI) (d mc ms : Nat) (as : List Value) (h : HP) (n : Nat) (Q : Option Value → HP → Nat → Prop) : Prop :=
  Met E.1 M.1 (wsM M) (rmD d mc ms) (va_Pc as (Wd E h n)) (Qx E Q) mc ms (Ab E)
def Cx (E : EV) (M : MI) (p : Program) (s : State) (m : MethodId) (args : Array Value) (meth : Method) (c : Code) : Prop :=
  p.tables.exec = Jvm.exec ∧ c.code = M.2.1 ∧ meth.sig.returnType = M.2.2.2 ∧ c.maxLocals = M.2.2.1 ∧ s.vm.findClass M.1.cls = some m.cls ∧ (∀ w ∈ GW, w.before args s = true) ∧ meth.locks = false ∧ meth.name = M.1.name ∧ Kn E s ∧ Zs E s s.heap ∧ E.2.2.2.1 ≤ s.heap.size
def Dx (E : EV) (M : MI) (d cl sl : Nat) (L : List (Nat × Value)) (h : HP) (n : Nat) (R : Room) (s : State) (H : Heap) (locs : List Loc) (cells slots : Nat) (ls : Array Slot) : Prop :=
  (d ≤ R.frames ∧ 40 * d ≤ R.locals ∧ cells + cl ≤ R.cells ∧ slots + sl ≤ R.slots) ∧ Rp E h H ∧ H.size = n ∧ va_S (Ab E) s.heap H locs ∧ lv_has ls M.2.2.1 L ∧ ∀ q ∈ L, q.2.category = 1
def J (E : EV) (M : MI) (d cl sl pc : Nat) (L : List (Nat × Value)) (st : List Value) (h : HP) (n : Nat) (Q : Option Value → HP → Nat → Prop) : Prop :=
  ∀ (p : Program) (e : Env) (R : Room) (s : State) (m : MethodId) (args : Array Value) (below : List Frame) (meth : Method) (c : Code) (H : Heap) (locs : List Loc) (cells slots : Nat) (ls : Array Slot),
    Cx E M p s m args meth c → Dx E M d cl sl L h n R s H locs cells slots ls →
    W p E.1 e R s m args below meth c H locs cells slots (MQ below (Qx E Q) args s R.cells R.slots (Ab E)) (F0 m pc ls st)
/-! locals: a list by their numbers -/
def lgt : List (Nat × Value) → Nat → Option Value
  | [], _ => none
  | (j, v) :: L, i => match Nat.beq j i with
    | true => some v
    | false => lgt L i
def ldel : List (Nat × Value) → Nat → List (Nat × Value)
  | [], _ => []
  | (j, w) :: L, i => match Nat.beq j i with
    | true => ldel L i
    | false => (j, w) :: ldel L i
def lset : List (Nat × Value) → Nat → Value → List (Nat × Value)
  | [], i, v => [(i, v)]
  | (j, w) :: L, i, v => match Nat.beq j i with
    | true => (i, v) :: ldel L i
    | false => (j, w) :: lset L i v
theorem lgt_mem : ∀ (L : List (Nat × Value)) (i : Nat) (v : Value), lgt L i = some v → (i, v) ∈ L
  | [], _, _, h => by cases h
  | (j, w) :: L, i, v, h => by
    unfold lgt at h
    cases hb : Nat.beq j i with
    | true =>
      rw [hb] at h
      have e := Nat.eq_of_beq_eq_true hb
      cases h
      rw [e]
      exact List.mem_cons_self
    | false =>
      rw [hb] at h
      exact List.mem_cons_of_mem _ (lgt_mem L i v h)
theorem ldel_mem : ∀ (L : List (Nat × Value)) (i : Nat) (q : Nat × Value), q ∈ ldel L i → q ∈ L ∧ q.1 ≠ i
  | [], _, _, h => by cases h
  | (j, w) :: L, i, q, h => by
    unfold ldel at h
    cases hb : Nat.beq j i with
    | true =>
      rw [hb] at h
      have := ldel_mem L i q h
      exact ⟨List.mem_cons_of_mem _ this.1, this.2⟩
    | false =>
      rw [hb] at h
      rcases List.mem_cons.mp h with h1 | h1
      · rw [h1]
        exact ⟨List.mem_cons_self, Nat.ne_of_beq_eq_false hb⟩
      · have := ldel_mem L i q h1
        exact ⟨List.mem_cons_of_mem _ this.1, this.2⟩
theorem lset_mem : ∀ (L : List (Nat × Value)) (i : Nat) (v : Value) (q : Nat × Value), q ∈ lset L i v → q = (i, v) ∨ (q ∈ L ∧ q.1 ≠ i)
  | [], i, v, q, h => by
    left
    exact List.mem_singleton.mp h
  | (j, w) :: L, i, v, q, h => by
    unfold lset at h
    cases hb : Nat.beq j i with
    | true =>
      rw [hb] at h
      rcases List.mem_cons.mp h with h1 | h1
      · exact Or.inl h1
      · have := ldel_mem L i q h1
        exact Or.inr ⟨List.mem_cons_of_mem _ this.1, this.2⟩
    | false =>
      rw [hb] at h
      rcases List.mem_cons.mp h with h1 | h1
      · rw [h1]
        exact Or.inr ⟨List.mem_cons_self, Nat.ne_of_beq_eq_false hb⟩
      · rcases lset_mem L i v q h1 with h2 | h2
        · exact Or.inl h2
        · exact Or.inr ⟨List.mem_cons_of_mem _ h2.1, h2.2⟩
theorem lgt_at {ls : Array Slot} {nL : Nat} {L : List (Nat × Value)} (h : lv_has ls nL L) {i : Nat} {v : Value} (hv : lgt L i = some v) : ls[i]? = some (.val v) := h.2.2 (i, v) (lgt_mem L i v hv)
theorem lset_has {ls : Array Slot} {nL : Nat} {L : List (Nat × Value)} {i : Nat} {v : Value} (hc : ∀ q ∈ L, q.2.category = 1) (h : lv_has ls nL ((i, v) :: L.filter (fun q => !(q.1 == i) && !(q.1 + 1 == i && q.2.category == 2)))) : lv_has ls nL (lset L i v) := by
  refine ⟨h.1, h.2.1, fun q hq => h.2.2 q ?_⟩
  rcases lset_mem L i v q hq with h1 | ⟨h1, h2⟩
  · rw [h1]; exact List.mem_cons_self
  · refine List.mem_cons_of_mem _ (List.mem_filter.mpr ⟨h1, ?_⟩)
    have := hc q h1
    simp [h2, this]
theorem lset_cat {L : List (Nat × Value)} {i : Nat} {v : Value} (hc : ∀ q ∈ L, q.2.category = 1) (hv : v.category = 1) : ∀ q ∈ lset L i v, q.2.category = 1 := by
  intro q hq
  rcases lset_mem L i v q hq with h1 | ⟨h1, -⟩
  · rw [h1]; exact hv
  · exact hc q h1
/-! the heap's steps -/
theorem Rp.set {E : EV} {h : HP} {H H1 : Heap} {a : Nat} {e : va_E} (hR : Rp E h H) (he : va_at E.2.1 classes (a, e) H1) (oq : ∀ q : Nat, q ≠ a → H1[q]? = H[q]?) : Rp E (hset h a e) H1 := by
  intro q f hq
  by_cases hqa : q = a
  · subst hqa
    rw [hset_s] at hq
    cases hq
    exact he
  · rw [hset_n h e hqa] at hq
    exact va_at.kept (hR q f hq) (oq q hqa)
theorem Rp.push {E : EV} {h : HP} {H H1 : Heap} {e : va_E} (hR : Rp E h H) (he : va_at E.2.1 classes (H.size, e) H1) (oq : ∀ q : Nat, q < H.size → H1[q]? = H[q]?) : Rp E (hset h H.size e) H1 := by
  intro q f hq
  by_cases hqa : q = H.size
  · subst hqa
    rw [hset_s] at hq
    cases hq
    exact he
  · rw [hset_n h e hqa] at hq
    exact va_at.kept (hR q f hq) (oq q (va_at.lt (hR q f hq)))
theorem Rp.kept {E : EV} {h : HP} {H H1 : Heap} (hR : Rp E h H) (e : H1 = H) : Rp E h H1 := by subst e; exact hR
theorem Kn.warm {E : EV} {s U : State} (hW : s.WarmedH U.vm) (h : Kn E s) : Kn E U :=
  ⟨va_K.moved hW.alike h.1, fun w hw => va_Nw.warmF hW (h.2.1 w hw), fun q hq => va_Fw.moved (faceW_ok q hq) hW.alike (h.2.2.1 q hq), fun q hq => va_Nw.warmC hW (h.2.2.2.1 q hq), fun q hq => (h.2.2.2.2 q hq).moved hW.alike⟩
theorem Kn.same {E : EV} {s U : State} (hW : s.vm = U.vm) (h : Kn E s) : Kn E U :=
  ⟨va_K.moved (by rw [hW]; exact Vm.Alike.refl _) h.1, fun w hw => va_Nw.same rfl hW (h.2.1 w hw), fun q hq => va_Fw.moved (faceW_ok q hq) (by rw [hW]; exact Vm.Alike.refl _) (h.2.2.1 q hq), fun q hq => va_Nw.same rfl hW (h.2.2.2.1 q hq), fun q hq => (h.2.2.2.2 q hq).moved (by rw [hW]; exact Vm.Alike.refl _)⟩
theorem Wd.blind {E : EV} {as : List Value} {h : HP} {n : Nat} : FrameBlind (va_Pc as (Wd E h n)) := by
  intro a U g mk ⟨h1, h2, h3, h4, h5, h6⟩
  exact ⟨h1, h2, h3, Kn.same rfl h4, fun z hz => (h5 z hz).moved (Vm.Alike.refl U.vm), h6⟩
theorem Wd.at {E : EV} {h : HP} {s : State} {H : Heap} {locs : List Loc} (hR : Rp E h H) (hK : Kn E s) (hZ : Zs E s s.heap) (hS : va_S (Ab E) s.heap H locs) (hb : E.2.2.2.1 ≤ s.heap.size) {U : State} (hU : U.heap = H) (hW : s.WarmedH U.vm) : Wd E h H.size U :=
  ⟨by rw [hU]; exact hR, by rw [hU], Kn.warm hW hK, fun z hz => by rw [hU]; exact ((hZ z hz).kept hS.2.1).moved hW.alike, Nat.le_trans hb hS.1⟩
end
section
section JR
variable {E : EV} {M : MI} {d cl sl pc : Nat} {L : List (Nat × Value)} {st : List Value} {h : HP} {n : Nat} {Q : Option Value → HP → Nat → Prop}
def isRf : Value → Bool
  | .ref _ => true
  | .null => true
  | _ => false
theorem isRf_of {v : Value} (h : isRf v = true) : v = .null ∨ ∃ a, v = .ref a := by
  cases v <;> first | exact Or.inl rfl | exact Or.inr ⟨_, rfl⟩ | cases h
theorem J.pure {pc' : Nat} {st' : List Value} (f : ∀ (p : Program) (e : Env) (R : Room) (s : State) (m : MethodId) (args : Array Value) (below : List Frame) (meth : Method) (c : Code) (H : Heap) (locs : List Loc) (cells slots : Nat) (ls : Array Slot) (QQ : State → Prop), p.tables.exec = Jvm.exec → c.code = M.2.1 → lv_has ls M.2.2.1 L → W p E.1 e R s m args below meth c H locs cells slots QQ (F0 m pc' ls st') → W p E.1 e R s m args below meth c H locs cells slots QQ (F0 m pc ls st)) (k : J E M d cl sl pc' L st' h n Q) : J E M d cl sl pc L st h n Q :=
  fun p e R s m args below meth c H locs cells slots ls X Y => f p e R s m args below meth c H locs cells slots ls _ X.1 X.2.1 Y.2.2.2.2.1 (k p e R s m args below meth c H locs cells slots ls X Y)
theorem J.store {pc' i : Nat} {v : Value} {st' : List Value} (hc : v.category = 1) (f : ∀ (p : Program) (e : Env) (R : Room) (s : State) (m : MethodId) (args : Array Value) (below : List Frame) (meth : Method) (c : Code) (H : Heap) (locs : List Loc) (cells slots : Nat) (ls : Array Slot) (QQ : State → Prop), p.tables.exec = Jvm.exec → c.code = M.2.1 → lv_has ls M.2.2.1 L → (∀ ls' : Array Slot, lv_has ls' M.2.2.1 ((i, v) :: L.filter (fun q => !(q.1 == i) && !(q.1 + 1 == i && q.2.category == 2))) → W p E.1 e R s m args below meth c H locs cells slots QQ (F0 m pc' ls' st')) → W p E.1 e R s m args below meth c H locs cells slots QQ (F0 m pc ls st)) (k : J E M d cl sl pc' (lset L i v) st' h n Q) : J E M d cl sl pc L st h n Q :=
  fun p e R s m args below meth c H locs cells slots ls X Y => f p e R s m args below meth c H locs cells slots ls _ X.1 X.2.1 Y.2.2.2.2.1 (fun ls' h' => k p e R s m args below meth c H locs cells slots ls' X ⟨Y.1, Y.2.1, Y.2.2.1, Y.2.2.2.1, lset_has Y.2.2.2.2.2 h', lset_cat Y.2.2.2.2.2 hc⟩)
theorem j_iconst {i : Int} {v : Int32} (hd : decode M.2.1 pc = .ok (.iconst i, 1)) (hv : Int32.ofInt i = v) (k : J E M d cl sl (pc + 1) L (.int v :: st) h n Q) : J E M d cl sl pc L st h n Q := J.pure (fun _ _ _ _ _ _ _ _ _ _ _ _ _ _ _ hx hb hl kk => lv_iconst hx hb hd hv kk) k
theorem j_bipush {i : Int} {v : Int32} (hd : decode M.2.1 pc = .ok (.bipush i, 2)) (hv : (Int8.ofInt i).toInt32 = v) (k : J E M d cl sl (pc + 2) L (.int v :: st) h n Q) : J E M d cl sl pc L st h n Q := J.pure (fun _ _ _ _ _ _ _ _ _ _ _ _ _ _ _ hx hb hl kk => lv_bipush hx hb hd hv kk) k
theorem j_sipush {i : Int} {v : Int32} (hd : decode M.2.1 pc = .ok (.sipush i, 3)) (hv : (Int16.ofInt i).toInt32 = v) (k : J E M d cl sl (pc + 3) L (.int v :: st) h n Q) : J E M d cl sl pc L st h n Q := J.pure (fun _ _ _ _ _ _ _ _ _ _ _ _ _ _ _ hx hb hl kk => lv_sipush hx hb hd hv kk) k
theorem j_null  (hd : decode M.2.1 pc = .ok (.aconst_null, 1)) (k : J E M d cl sl (pc + 1) L (.null :: st) h n Q) : J E M d cl sl pc L st h n Q := J.pure (fun _ _ _ _ _ _ _ _ _ _ _ _ _ _ _ hx hb hl kk => lv_null hx hb hd kk) k
theorem j_iload_n {i : Fin 4} {x : Int32} (hd : decode M.2.1 pc = .ok (.iload_n i, 1)) (hv : lgt L i = some (.int x)) (k : J E M d cl sl (pc + 1) L (.int x :: st) h n Q) : J E M d cl sl pc L st h n Q := J.pure (fun _ _ _ _ _ _ _ _ _ _ _ _ _ _ _ hx hb hl kk => lv_iload_n hx hb hd rfl (lgt_at hl hv) kk) k
theorem j_iload {i : Nat} {x : Int32} (hd : decode M.2.1 pc = .ok (.iload i, 2)) (hv : lgt L i = some (.int x)) (k : J E M d cl sl (pc + 2) L (.int x :: st) h n Q) : J E M d cl sl pc L st h n Q := J.pure (fun _ _ _ _ _ _ _ _ _ _ _ _ _ _ _ hx hb hl kk => lv_iload hx hb hd (lgt_at hl hv) kk) k
theorem j_aload_n {i : Fin 4} {x : Nat} (hd : decode M.2.1 pc = .ok (.aload_n i, 1)) (hv : lgt L i = some (.ref x)) (k : J E M d cl sl (pc + 1) L (.ref x :: st) h n Q) : J E M d cl sl pc L st h n Q := J.pure (fun _ _ _ _ _ _ _ _ _ _ _ _ _ _ _ hx hb hl kk => lv_aload_n hx hb hd rfl (lgt_at hl hv) kk) k
theorem j_aload {i : Nat} {x : Nat} (hd : decode M.2.1 pc = .ok (.aload i, 2)) (hv : lgt L i = some (.ref x)) (k : J E M d cl sl (pc + 2) L (.ref x :: st) h n Q) : J E M d cl sl pc L st h n Q := J.pure (fun _ _ _ _ _ _ _ _ _ _ _ _ _ _ _ hx hb hl kk => lv_aload hx hb hd (lgt_at hl hv) kk) k
theorem j_aload_nN {i : Fin 4} (hd : decode M.2.1 pc = .ok (.aload_n i, 1)) (hv : lgt L i = some .null) (k : J E M d cl sl (pc + 1) L (.null :: st) h n Q) : J E M d cl sl pc L st h n Q := J.pure (fun _ _ _ _ _ _ _ _ _ _ _ _ _ _ _ hx hb hl kk => lv_aload_nN hx hb hd rfl (lgt_at hl hv) kk) k
theorem j_aloadN {i : Nat} (hd : decode M.2.1 pc = .ok (.aload i, 2)) (hv : lgt L i = some .null) (k : J E M d cl sl (pc + 2) L (.null :: st) h n Q) : J E M d cl sl pc L st h n Q := J.pure (fun _ _ _ _ _ _ _ _ _ _ _ _ _ _ _ hx hb hl kk => lv_aloadN hx hb hd (lgt_at hl hv) kk) k
theorem j_istore_n {i : Fin 4} {x : Int32} (hd : decode M.2.1 pc = .ok (.istore_n i, 1)) (hn : (i : Nat) < M.2.2.1) (k : J E M d cl sl (pc + 1) (lset L (i : Nat) (.int x)) st h n Q) : J E M d cl sl pc L (.int x :: st) h n Q := J.store rfl (fun _ _ _ _ _ _ _ _ _ _ _ _ _ _ _ hx hb hl kk => lv_istore_n hx hb hd rfl hl hn rfl kk) k
theorem j_istore {i : Nat} {x : Int32} (hd : decode M.2.1 pc = .ok (.istore i, 2)) (hn : i < M.2.2.1) (k : J E M d cl sl (pc + 2) (lset L i (.int x)) st h n Q) : J E M d cl sl pc L (.int x :: st) h n Q := J.store rfl (fun _ _ _ _ _ _ _ _ _ _ _ _ _ _ _ hx hb hl kk => lv_istore hx hb hd hl hn rfl kk) k
theorem j_astore_n {i : Fin 4} {x : Nat} (hd : decode M.2.1 pc = .ok (.astore_n i, 1)) (hn : (i : Nat) < M.2.2.1) (k : J E M d cl sl (pc + 1) (lset L (i : Nat) (.ref x)) st h n Q) : J E M d cl sl pc L (.ref x :: st) h n Q := J.store rfl (fun _ _ _ _ _ _ _ _ _ _ _ _ _ _ _ hx hb hl kk => lv_astore_n hx hb hd rfl hl hn rfl kk) k
theorem j_astore {i : Nat} {x : Nat} (hd : decode M.2.1 pc = .ok (.astore i, 2)) (hn : i < M.2.2.1) (k : J E M d cl sl (pc + 2) (lset L i (.ref x)) st h n Q) : J E M d cl sl pc L (.ref x :: st) h n Q := J.store rfl (fun _ _ _ _ _ _ _ _ _ _ _ _ _ _ _ hx hb hl kk => lv_astore hx hb hd hl hn rfl kk) k
theorem j_astore_nN {i : Fin 4} (hd : decode M.2.1 pc = .ok (.astore_n i, 1)) (hn : (i : Nat) < M.2.2.1) (k : J E M d cl sl (pc + 1) (lset L (i : Nat) .null) st h n Q) : J E M d cl sl pc L (.null :: st) h n Q := J.store rfl (fun _ _ _ _ _ _ _ _ _ _ _ _ _ _ _ hx hb hl kk => lv_astore_nN hx hb hd rfl hl hn rfl kk) k
theorem j_astoreN {i : Nat} (hd : decode M.2.1 pc = .ok (.astore i, 2)) (hn : i < M.2.2.1) (k : J E M d cl sl (pc + 2) (lset L i .null) st h n Q) : J E M d cl sl pc L (.null :: st) h n Q := J.store rfl (fun _ _ _ _ _ _ _ _ _ _ _ _ _ _ _ hx hb hl kk => lv_astoreN hx hb hd hl hn rfl kk) k
theorem lgt_ix {L : List (Nat × Value)} {i : Nat} {v : Value} (h : lgt L i = some v) : ∃ k : Nat, L[k]? = some (i, v) := List.getElem?_of_mem (lgt_mem L i v h)
theorem j_iinc {i : Nat} {z : Int} {x v : Int32} (hd : decode M.2.1 pc = .ok (.iinc i z, 3)) (hx0 : lgt L i = some (.int x)) (hv : x + Int32.ofInt z = v) (hn : i < M.2.2.1) (k : J E M d cl sl (pc + 3) (lset L i (.int v)) st h n Q) : J E M d cl sl pc L st h n Q := by
  obtain ⟨q, hq⟩ := lgt_ix hx0
  exact J.store (v := .int v) rfl (fun _ _ _ _ _ _ _ _ _ _ _ _ _ _ _ hx hb hl kk => lv_iinc hx hb hd hl hq hv hn rfl kk) k
theorem j_iadd {x y : Int32} (hd : decode M.2.1 pc = .ok (.iadd, 1)) (k : J E M d cl sl (pc + 1) L (.int (x + y) :: st) h n Q) : J E M d cl sl pc L (.int y :: .int x :: st) h n Q := J.pure (fun _ _ _ _ _ _ _ _ _ _ _ _ _ _ _ hx hb hl kk => lv_iadd hx hb hd kk) k
theorem j_isub {x y : Int32} (hd : decode M.2.1 pc = .ok (.isub, 1)) (k : J E M d cl sl (pc + 1) L (.int (x - y) :: st) h n Q) : J E M d cl sl pc L (.int y :: .int x :: st) h n Q := J.pure (fun _ _ _ _ _ _ _ _ _ _ _ _ _ _ _ hx hb hl kk => lv_isub hx hb hd kk) k
theorem j_imul {x y : Int32} (hd : decode M.2.1 pc = .ok (.imul, 1)) (k : J E M d cl sl (pc + 1) L (.int (x * y) :: st) h n Q) : J E M d cl sl pc L (.int y :: .int x :: st) h n Q := J.pure (fun _ _ _ _ _ _ _ _ _ _ _ _ _ _ _ hx hb hl kk => lv_imul hx hb hd kk) k
theorem j_iand {x y : Int32} (hd : decode M.2.1 pc = .ok (.iand, 1)) (k : J E M d cl sl (pc + 1) L (.int (x &&& y) :: st) h n Q) : J E M d cl sl pc L (.int y :: .int x :: st) h n Q := J.pure (fun _ _ _ _ _ _ _ _ _ _ _ _ _ _ _ hx hb hl kk => lv_iand hx hb hd kk) k
theorem j_ior {x y : Int32} (hd : decode M.2.1 pc = .ok (.ior, 1)) (k : J E M d cl sl (pc + 1) L (.int (x ||| y) :: st) h n Q) : J E M d cl sl pc L (.int y :: .int x :: st) h n Q := J.pure (fun _ _ _ _ _ _ _ _ _ _ _ _ _ _ _ hx hb hl kk => lv_ior hx hb hd kk) k
theorem j_ixor {x y : Int32} (hd : decode M.2.1 pc = .ok (.ixor, 1)) (k : J E M d cl sl (pc + 1) L (.int (x ^^^ y) :: st) h n Q) : J E M d cl sl pc L (.int y :: .int x :: st) h n Q := J.pure (fun _ _ _ _ _ _ _ _ _ _ _ _ _ _ _ hx hb hl kk => lv_ixor hx hb hd kk) k
theorem j_ishl {x y : Int32} (hd : decode M.2.1 pc = .ok (.ishl, 1)) (k : J E M d cl sl (pc + 1) L (.int (x <<< (y &&& 31)) :: st) h n Q) : J E M d cl sl pc L (.int y :: .int x :: st) h n Q := J.pure (fun _ _ _ _ _ _ _ _ _ _ _ _ _ _ _ hx hb hl kk => lv_ishl hx hb hd kk) k
theorem j_ishr {x y : Int32} (hd : decode M.2.1 pc = .ok (.ishr, 1)) (k : J E M d cl sl (pc + 1) L (.int (x >>> (y &&& 31)) :: st) h n Q) : J E M d cl sl pc L (.int y :: .int x :: st) h n Q := J.pure (fun _ _ _ _ _ _ _ _ _ _ _ _ _ _ _ hx hb hl kk => lv_ishr hx hb hd kk) k
theorem j_iushr {x y v : Int32} (hd : decode M.2.1 pc = .ok (.iushr, 1)) (hv : (x.toUInt32 >>> (y.toUInt32 &&& Int32.toUInt32 31)).toInt32 = v) (k : J E M d cl sl (pc + 1) L (.int v :: st) h n Q) : J E M d cl sl pc L (.int y :: .int x :: st) h n Q := J.pure (fun _ _ _ _ _ _ _ _ _ _ _ _ _ _ _ hx hb hl kk => lv_iushr hx hb hd hv kk) k
theorem j_ineg {x : Int32} (hd : decode M.2.1 pc = .ok (.ineg, 1)) (k : J E M d cl sl (pc + 1) L (.int (-x) :: st) h n Q) : J E M d cl sl pc L (.int x :: st) h n Q := J.pure (fun _ _ _ _ _ _ _ _ _ _ _ _ _ _ _ hx hb hl kk => lv_ineg hx hb hd kk) k
theorem j_i2c {x v : Int32} (hd : decode M.2.1 pc = .ok (.i2c, 1)) (hv : (x.toUInt32 % 65536).toInt32 = v) (k : J E M d cl sl (pc + 1) L (.int v :: st) h n Q) : J E M d cl sl pc L (.int x :: st) h n Q := J.pure (fun _ _ _ _ _ _ _ _ _ _ _ _ _ _ _ hx hb hl kk => lv_i2c hx hb hd hv kk) k
theorem j_i2b {x v : Int32} (hd : decode M.2.1 pc = .ok (.i2b, 1)) (hv : x.toInt8.toInt32 = v) (k : J E M d cl sl (pc + 1) L (.int v :: st) h n Q) : J E M d cl sl pc L (.int x :: st) h n Q := J.pure (fun _ _ _ _ _ _ _ _ _ _ _ _ _ _ _ hx hb hl kk => lv_i2b hx hb hd hv kk) k
theorem j_dup {va : Value} (hd : decode M.2.1 pc = .ok (.dup, 1)) (ha : va.category = 1) (k : J E M d cl sl (pc + 1) L (va :: va :: st) h n Q) : J E M d cl sl pc L (va :: st) h n Q := J.pure (fun _ _ _ _ _ _ _ _ _ _ _ _ _ _ _ hx hb hl kk => lv_dup hx hb hd ha kk) k
theorem j_pop {va : Value} (hd : decode M.2.1 pc = .ok (.pop, 1)) (ha : va.category = 1) (k : J E M d cl sl (pc + 1) L st h n Q) : J E M d cl sl pc L (va :: st) h n Q := J.pure (fun _ _ _ _ _ _ _ _ _ _ _ _ _ _ _ hx hb hl kk => lv_pop hx hb hd ha kk) k
theorem j_dup_x1 {va vb : Value} (hd : decode M.2.1 pc = .ok (.dup_x1, 1)) (ha : va.category = 1) (hb' : vb.category = 1) (k : J E M d cl sl (pc + 1) L (va :: vb :: va :: st) h n Q) : J E M d cl sl pc L (va :: vb :: st) h n Q := J.pure (fun _ _ _ _ _ _ _ _ _ _ _ _ _ _ _ hx hb hl kk => lv_dup_x1 hx hb hd ha hb' kk) k
theorem j_dup_x2 {va vb vd : Value} (hd : decode M.2.1 pc = .ok (.dup_x2, 1)) (ha : va.category = 1) (hb' : vb.category = 1) (hc' : vd.category = 1) (k : J E M d cl sl (pc + 1) L (va :: vb :: vd :: va :: st) h n Q) : J E M d cl sl pc L (va :: vb :: vd :: st) h n Q := J.pure (fun _ _ _ _ _ _ _ _ _ _ _ _ _ _ _ hx hb hl kk => lv_dup_x2 hx hb hd ha hb' hc' kk) k
theorem j_dup2 {va vb : Value} (hd : decode M.2.1 pc = .ok (.dup2, 1)) (ha : va.category = 1) (hb' : vb.category = 1) (k : J E M d cl sl (pc + 1) L (va :: vb :: va :: vb :: st) h n Q) : J E M d cl sl pc L (va :: vb :: st) h n Q := J.pure (fun _ _ _ _ _ _ _ _ _ _ _ _ _ _ _ hx hb hl kk => lv_dup2_11 hx hb hd ha hb' kk) k
theorem j_if_eq {x : Int32} {off : Int} {tgt : Nat} (hd : decode M.2.1 pc = .ok (.ifCond .eq off, 3)) (ht : (pc : Int) + off = (tgt : Int)) (kt : (x = 0) → J E M d cl sl tgt L st h n Q) (kf : ¬ (x = 0) → J E M d cl sl (pc + 3) L st h n Q) : J E M d cl sl pc L (.int x :: st) h n Q :=
  fun p e R s m args below meth c H locs cells slots ls X Y => lv_if_eq X.1 X.2.1 hd ht (fun q => kt q p e R s m args below meth c H locs cells slots ls X Y) (fun q => kf q p e R s m args below meth c H locs cells slots ls X Y)
theorem j_icmp_eq {x y : Int32} {off : Int} {tgt : Nat} (hd : decode M.2.1 pc = .ok (.if_icmp .eq off, 3)) (ht : (pc : Int) + off = (tgt : Int)) (kt : (x = y) → J E M d cl sl tgt L st h n Q) (kf : ¬ (x = y) → J E M d cl sl (pc + 3) L st h n Q) : J E M d cl sl pc L (.int y :: .int x :: st) h n Q :=
  fun p e R s m args below meth c H locs cells slots ls X Y => lv_icmp_eq X.1 X.2.1 hd ht (fun q => kt q p e R s m args below meth c H locs cells slots ls X Y) (fun q => kf q p e R s m args below meth c H locs cells slots ls X Y)
theorem j_if_ne {x : Int32} {off : Int} {tgt : Nat} (hd : decode M.2.1 pc = .ok (.ifCond .ne off, 3)) (ht : (pc : Int) + off = (tgt : Int)) (kt : (¬ x = 0) → J E M d cl sl tgt L st h n Q) (kf : (x = 0) → J E M d cl sl (pc + 3) L st h n Q) : J E M d cl sl pc L (.int x :: st) h n Q :=
  fun p e R s m args below meth c H locs cells slots ls X Y => lv_if_ne X.1 X.2.1 hd ht (fun q => kt q p e R s m args below meth c H locs cells slots ls X Y) (fun q => kf q p e R s m args below meth c H locs cells slots ls X Y)
theorem j_icmp_ne {x y : Int32} {off : Int} {tgt : Nat} (hd : decode M.2.1 pc = .ok (.if_icmp .ne off, 3)) (ht : (pc : Int) + off = (tgt : Int)) (kt : (¬ x = y) → J E M d cl sl tgt L st h n Q) (kf : (x = y) → J E M d cl sl (pc + 3) L st h n Q) : J E M d cl sl pc L (.int y :: .int x :: st) h n Q :=
  fun p e R s m args below meth c H locs cells slots ls X Y => lv_icmp_ne X.1 X.2.1 hd ht (fun q => kt q p e R s m args below meth c H locs cells slots ls X Y) (fun q => kf q p e R s m args below meth c H locs cells slots ls X Y)
theorem j_if_lt {x : Int32} {off : Int} {tgt : Nat} (hd : decode M.2.1 pc = .ok (.ifCond .lt off, 3)) (ht : (pc : Int) + off = (tgt : Int)) (kt : (x < 0) → J E M d cl sl tgt L st h n Q) (kf : ¬ (x < 0) → J E M d cl sl (pc + 3) L st h n Q) : J E M d cl sl pc L (.int x :: st) h n Q :=
  fun p e R s m args below meth c H locs cells slots ls X Y => lv_if_lt X.1 X.2.1 hd ht (fun q => kt q p e R s m args below meth c H locs cells slots ls X Y) (fun q => kf q p e R s m args below meth c H locs cells slots ls X Y)
theorem j_icmp_lt {x y : Int32} {off : Int} {tgt : Nat} (hd : decode M.2.1 pc = .ok (.if_icmp .lt off, 3)) (ht : (pc : Int) + off = (tgt : Int)) (kt : (x < y) → J E M d cl sl tgt L st h n Q) (kf : ¬ (x < y) → J E M d cl sl (pc + 3) L st h n Q) : J E M d cl sl pc L (.int y :: .int x :: st) h n Q :=
  fun p e R s m args below meth c H locs cells slots ls X Y => lv_icmp_lt X.1 X.2.1 hd ht (fun q => kt q p e R s m args below meth c H locs cells slots ls X Y) (fun q => kf q p e R s m args below meth c H locs cells slots ls X Y)
theorem j_if_ge {x : Int32} {off : Int} {tgt : Nat} (hd : decode M.2.1 pc = .ok (.ifCond .ge off, 3)) (ht : (pc : Int) + off = (tgt : Int)) (kt : (0 ≤ x) → J E M d cl sl tgt L st h n Q) (kf : ¬ (0 ≤ x) → J E M d cl sl (pc + 3) L st h n Q) : J E M d cl sl pc L (.int x :: st) h n Q :=
  fun p e R s m args below meth c H locs cells slots ls X Y => lv_if_ge X.1 X.2.1 hd ht (fun q => kt q p e R s m args below meth c H locs cells slots ls X Y) (fun q => kf q p e R s m args below meth c H locs cells slots ls X Y)
theorem j_icmp_ge {x y : Int32} {off : Int} {tgt : Nat} (hd : decode M.2.1 pc = .ok (.if_icmp .ge off, 3)) (ht : (pc : Int) + off = (tgt : Int)) (kt : (y ≤ x) → J E M d cl sl tgt L st h n Q) (kf : ¬ (y ≤ x) → J E M d cl sl (pc + 3) L st h n Q) : J E M d cl sl pc L (.int y :: .int x :: st) h n Q :=
  fun p e R s m args below meth c H locs cells slots ls X Y => lv_icmp_ge X.1 X.2.1 hd ht (fun q => kt q p e R s m args below meth c H locs cells slots ls X Y) (fun q => kf q p e R s m args below meth c H locs cells slots ls X Y)
theorem j_if_gt {x : Int32} {off : Int} {tgt : Nat} (hd : decode M.2.1 pc = .ok (.ifCond .gt off, 3)) (ht : (pc : Int) + off = (tgt : Int)) (kt : (0 < x) → J E M d cl sl tgt L st h n Q) (kf : ¬ (0 < x) → J E M d cl sl (pc + 3) L st h n Q) : J E M d cl sl pc L (.int x :: st) h n Q :=
  fun p e R s m args below meth c H locs cells slots ls X Y => lv_if_gt X.1 X.2.1 hd ht (fun q => kt q p e R s m args below meth c H locs cells slots ls X Y) (fun q => kf q p e R s m args below meth c H locs cells slots ls X Y)
theorem j_icmp_gt {x y : Int32} {off : Int} {tgt : Nat} (hd : decode M.2.1 pc = .ok (.if_icmp .gt off, 3)) (ht : (pc : Int) + off = (tgt : Int)) (kt : (y < x) → J E M d cl sl tgt L st h n Q) (kf : ¬ (y < x) → J E M d cl sl (pc + 3) L st h n Q) : J E M d cl sl pc L (.int y :: .int x :: st) h n Q :=
  fun p e R s m args below meth c H locs cells slots ls X Y => lv_icmp_gt X.1 X.2.1 hd ht (fun q => kt q p e R s m args below meth c H locs cells slots ls X Y) (fun q => kf q p e R s m args below meth c H locs cells slots ls X Y)
theorem j_if_le {x : Int32} {off : Int} {tgt : Nat} (hd : decode M.2.1 pc = .ok (.ifCond .le off, 3)) (ht : (pc : Int) + off = (tgt : Int)) (kt : (x ≤ 0) → J E M d cl sl tgt L st h n Q) (kf : ¬ (x ≤ 0) → J E M d cl sl (pc + 3) L st h n Q) : J E M d cl sl pc L (.int x :: st) h n Q :=
  fun p e R s m args below meth c H locs cells slots ls X Y => lv_if_le X.1 X.2.1 hd ht (fun q => kt q p e R s m args below meth c H locs cells slots ls X Y) (fun q => kf q p e R s m args below meth c H locs cells slots ls X Y)
theorem j_icmp_le {x y : Int32} {off : Int} {tgt : Nat} (hd : decode M.2.1 pc = .ok (.if_icmp .le off, 3)) (ht : (pc : Int) + off = (tgt : Int)) (kt : (x ≤ y) → J E M d cl sl tgt L st h n Q) (kf : ¬ (x ≤ y) → J E M d cl sl (pc + 3) L st h n Q) : J E M d cl sl pc L (.int y :: .int x :: st) h n Q :=
  fun p e R s m args below meth c H locs cells slots ls X Y => lv_icmp_le X.1 X.2.1 hd ht (fun q => kt q p e R s m args below meth c H locs cells slots ls X Y) (fun q => kf q p e R s m args below meth c H locs cells slots ls X Y)
theorem j_goto {off : Int} {tgt : Nat} (hd : decode M.2.1 pc = .ok (.goto off, 3)) (ht : (pc : Int) + off = (tgt : Int)) (k : J E M d cl sl tgt L st h n Q) : J E M d cl sl pc L st h n Q := J.pure (fun _ _ _ _ _ _ _ _ _ _ _ _ _ _ _ hx hb hl kk => lv_goto hx hb hd ht kk) k
theorem j_ifnonnull {x : Nat} {off : Int} {tgt : Nat} (hd : decode M.2.1 pc = .ok (.ifnonnull off, 3)) (ht : (pc : Int) + off = (tgt : Int)) (k : J E M d cl sl tgt L st h n Q) : J E M d cl sl pc L (.ref x :: st) h n Q := J.pure (fun _ _ _ _ _ _ _ _ _ _ _ _ _ _ _ hx hb hl kk => lv_ifnonnull hx hb hd ht kk) k
theorem j_ifnull {x : Nat} {off : Int} (hd : decode M.2.1 pc = .ok (.ifnull off, 3)) (k : J E M d cl sl (pc + 3) L st h n Q) : J E M d cl sl pc L (.ref x :: st) h n Q := J.pure (fun _ _ _ _ _ _ _ _ _ _ _ _ _ _ _ hx hb hl kk => lv_ifnull hx hb hd kk) k
theorem j_ifnullN {off : Int} {tgt : Nat} (hd : decode M.2.1 pc = .ok (.ifnull off, 3)) (ht : (pc : Int) + off = (tgt : Int)) (k : J E M d cl sl tgt L st h n Q) : J E M d cl sl pc L (.null :: st) h n Q := J.pure (fun _ _ _ _ _ _ _ _ _ _ _ _ _ _ _ hx hb hl kk => lv_ifnullN hx hb hd ht kk) k
theorem j_ifnonnullN {off : Int} (hd : decode M.2.1 pc = .ok (.ifnonnull off, 3)) (k : J E M d cl sl (pc + 3) L st h n Q) : J E M d cl sl pc L (.null :: st) h n Q := J.pure (fun _ _ _ _ _ _ _ _ _ _ _ _ _ _ _ hx hb hl kk => lv_ifnonnullN hx hb hd kk) k
theorem j_lookup {dflt : Int} {ps : Array (Int × Int)} {len : Nat} {x : Int32} {off : Int} {tgt : Nat} (hd : decode M.2.1 pc = .ok (.lookupswitch dflt ps, len)) (hp : (ps.toList.zip (ps.toList.drop 1)).all (fun (a, next) => a.1 < next.1) = true) (ho : Op.lookupswitch.offset ps.toList dflt x.toInt = off) (ht : (pc : Int) + off = (tgt : Int)) (k : J E M d cl sl tgt L st h n Q) : J E M d cl sl pc L (.int x :: st) h n Q := J.pure (fun _ _ _ _ _ _ _ _ _ _ _ _ _ _ _ hx hb hl kk => lv_lookup hx hb hd hp ho ht kk) k
theorem j_tableOut {dflt lo hi : Int} {offs : Array Int} {len : Nat} {x : Int32} {tgt : Nat} (hd : decode M.2.1 pc = .ok (.tableswitch dflt lo hi offs, len)) (hr : x.toInt < lo ∨ hi < x.toInt) (ht : (pc : Int) + dflt = (tgt : Int)) (k : J E M d cl sl tgt L st h n Q) : J E M d cl sl pc L (.int x :: st) h n Q := J.pure (fun _ _ _ _ _ _ _ _ _ _ _ _ _ _ _ hx hb hl kk => lv_tableOut hx hb hd hr ht kk) k
theorem j_tableIn {dflt lo hi : Int} {offs : Array Int} {len : Nat} {x : Int32} {off : Int} {tgt : Nat} (hd : decode M.2.1 pc = .ok (.tableswitch dflt lo hi offs, len)) (h1 : ¬ x.toInt < lo) (h2 : ¬ hi < x.toInt) (ho : offs[(x.toInt - lo).toNat]? = some off) (ht : (pc : Int) + off = (tgt : Int)) (k : J E M d cl sl tgt L st h n Q) : J E M d cl sl pc L (.int x :: st) h n Q := J.pure (fun _ _ _ _ _ _ _ _ _ _ _ _ _ _ _ hx hb hl kk => lv_tableIn hx hb hd h1 h2 ho ht kk) k
theorem j_ldc {own : String} {idx : Nat} {v : Int32} (hd : decode M.2.1 pc = .ok (.ldc idx, 2)) (hw : Cond.constant M.1.cls idx v ∈ GW) (k : J E M d cl sl (pc + 2) L (.int v :: st) h n Q) : J E M d cl sl pc L st h n Q :=
  fun p e R s m args below meth c H locs cells slots ls X Y => lv_ldc X.1 X.2.1 X.2.2.2.2.1 (X.2.2.2.2.2.1 _ hw) hd (k p e R s m args below meth c H locs cells slots ls X Y)
/-! the heap -/
theorem va_P.one {D : va_G} {cl : List vw_C} {a : Nat} {e : va_E} {H : Heap} (h : va_at D cl (a, e) H) : va_P D cl [(a, e)] H := by
  intro k q hk
  match k, hk with
  | 0, hk => cases hk; exact h
  | k + 1, hk => simp at hk
def FW (own : String) (idx ci k : Nat) (C : String) (T : u_T) (N : Nat) : Prop := classes[ci]? = some (C, T, N) ∧ (∀ w ∈ u_ws C T N, w ∈ GW) ∧ k < N ∧ (T k).1 = C ∧ Cond.fieldLink own idx C (T k).2.1 (T k).2.2.1 ∈ GW
theorem j_get {idx ci k a : Nat} {C : String} {T : u_T} {N : Nat} {fs : List Value} {v : Value} (hd : decode M.2.1 pc = .ok (.getfield idx, 3)) (g : FW M.1.cls idx ci k C T N) (ha : h a = some (.inr (ci, fs))) (hv : fs[k]? = some v) (kk : J E M d cl sl (pc + 3) L (v :: st) h n Q) : J E M d cl sl pc L (.ref a :: st) h n Q := by
  intro p e R s m args below meth c H locs cells slots ls X Y
  obtain ⟨hc, hin, hk, hT, hl⟩ := g
  exact va_get X.1 X.2.1 X.2.2.2.2.2.1 hin X.2.2.2.2.1 X.2.2.2.2.2.2.2.2.1.1 (va_P.one (Y.2.1 a _ ha)) 0 rfl hc k hk (X.2.2.2.2.2.1 _ hl) (fun x hx => by rw [hT] at hx; exact hx) hv hd (kk p e R s m args below meth c H locs cells slots ls X Y)
def FP (C : String) (T : u_T) (N : Nat) (ty0 : Nat → FieldType) : Prop := (∀ k, k < N → parseFieldDescriptor (T k).2.2.1 = some (ty0 k)) ∧ ∀ a, a < N → ∀ b, b < N → a ≠ b → (T a).2.1 ≠ (T b).2.1
theorem j_put {idx ci k a : Nat} {C : String} {T : u_T} {N : Nat} {ty0 : Nat → FieldType} {fs : List Value} {v : Value} (hd : decode M.2.1 pc = .ok (.putfield idx, 3)) (g : FW M.1.cls idx ci k C T N) (f : FP C T N ty0) (hfin : (T k).2.2.2 = false ∨ ((T k).2.2.2 = true ∧ M.1.name = "<init>" ∧ C = M.1.cls)) (ha : h a = some (.inr (ci, fs))) (hb : E.2.2.2.1 ≤ a) (hn : narrow (ty0 k) v = v) (hf : fits (ty0 k) v = true) (hlen : k < fs.length) (kk : J E M d cl sl (pc + 3) L st (hset h a (.inr (ci, fs.set k v))) n Q) : J E M d cl sl pc L (v :: .ref a :: st) h n Q := by
  intro p e R s m args below meth c H locs cells slots ls X Y
  obtain ⟨hc, hin, hk, hT, hl⟩ := g
  have hts := X.2.2.2.2.2.1
  have hown := X.2.2.2.2.1
  have hK := X.2.2.2.2.2.2.2.2.1.1
  have hap := va_apart (own := M.1.cls) hts hin ty0 f.1 f.2 hK hc
  obtain ⟨r, h1, cell, q1, q2, q3, q4⟩ := Y.2.1 a _ ha
  have hr : r = (C, T, N) := Option.some.inj (h1.symm.trans hc)
  subst hr
  obtain ⟨hS, hfc, kC, hkC, hkind⟩ := hK.1 ci _ hc
  obtain ⟨cf, kf, fi, fl, hi, hsl⟩ := hS k hk
  have hsame : s.fieldFound? C (T k).2.1 (T k).2.2.1 = some (cf, kf, fi, fl) := by rw [← hi, hT]
  have hlay := hts _ (hin _ (u_in_lay hk))
  have hst := (u_facts hfc hkC (u_lays hts hin hk) hi).1
  have fin : ∀ (H' : Heap) (z : Nat), H'[a]? = some (cell.setSlot (E.2.1.2 ci k) v) → H'.size = H.size → (∀ q, q ≠ a → H'[q]? = H[q]?) → W p E.1 e R s m args below meth c H' (locs ++ [⟨a, z⟩]) cells slots (MQ below (Qx E Q) args s R.cells R.slots (Ab E)) (F0 m (pc + 3) ls st) := fun H' z e1 e2 e3 =>
    kk p e R s m args below meth c H' _ cells slots ls X ⟨Y.1, Y.2.1.set ⟨_, hc, t_OB.to (V := updV (vp_V fs) k v) ⟨_, e1, q2, q3, t_set q4 hap hk v⟩ (fun j _ => vp_updV_set hlen v j)⟩ e3, by rw [e2]; exact Y.2.2.1, Y.2.2.2.1.put e2 e3 hb, Y.2.2.2.2⟩
  rcases hfin with hfin | ⟨hfin, hni, hdecl⟩
  · unfold u_lay at hlay
    rw [if_neg (by rw [hfin]; decide)] at hlay
    have h6 := u_store hfc hkC hkind hlay hi (f.1 k hk) hn hf
    refine W.putK X.1 X.2.1 (f := fl) ⟨hown, hts _ hl, ⟨_, _, _, hsame⟩, hst⟩ (by rw [q2]; exact h6) q1 q3 (by rw [hsl]; exact k2_hasslot (q4 k hk)) rfl rfl hd fun H' e1 e2 e3 => ?_
    rw [hsl] at e1 ⊢
    exact fin H' _ e1 e2 e3
  · unfold u_lay at hlay
    rw [if_pos hfin] at hlay
    have hcf : m.cls = cf := by
      obtain ⟨_, _, c', _, _, _, -, -, hf', -, -, -, hown2, -⟩ := Cond.laysFinal_spec hlay
      have e1 : c' = cf := by have := hi.symm.trans hf'; simp at this; exact this.1.symm
      rw [hT, hdecl] at hown2
      rw [← e1]; exact Option.some.inj (hown.symm.trans hown2)
    have h6 := u_fits hfc hkC hkind (Or.inr hlay) hi (f.1 k hk) hn hf
    refine W.putFinK X.1 X.2.1 hown (hts _ hl) hsame hst hcf (X.2.2.2.2.2.2.2.1.trans hni) (by rw [q2]; exact h6) q1 q3 (by rw [hsl]; exact k2_hasslot (q4 k hk)) rfl rfl hd fun H' e1 e2 e3 => ?_
    rw [hsl] at e1 ⊢
    exact fin H' _ e1 e2 e3
theorem tysE_at (E : EV) {i : Nat} {ty : FieldType} (h : atys[i]? = some ty) : (tysE E)[i]? = some (E.2.2.1 i, ty) := by
  have hl := (List.getElem?_eq_some_iff.mp h).1
  unfold tysE
  rw [List.getElem?_map, List.getElem?_range hl]
  simp [h]
/-- an array of small numbers of the kind t, of length N -/
abbrev arI (E : EV) (t N : Nat) (f : Nat → Int32) : va_E := .inl (E.2.2.1 t, N, .inl f)
abbrev arQ (E : EV) (t N : Nat) (f : Nat → Option Nat) : va_E := .inl (E.2.2.1 t, N, .inr (.inr (.inr (.inr f))))
theorem j_iald {t a N : Nat} {f : Nat → Int32} {i x : Int32} (hd : decode M.2.1 pc = .ok (.iaload, 1)) (ht : atys[t]? = some .int) (ha : h a = some (arI E t N f)) (hi : vp_in i N) (hx : f i.toNatClampNeg = x) (kk : J E M d cl sl (pc + 1) L (.int x :: st) h n Q) : J E M d cl sl pc L (.int i :: .ref a :: st) h n Q := by
  subst hx
  exact fun p e R s m args below meth c H locs cells slots ls X Y => va_iald X.1 X.2.1 X.2.2.2.2.2.2.2.2.1.1 (va_P.one (Y.2.1 a _ ha)) 0 t rfl (tysE_at E ht) hi hd (kk p e R s m args below meth c H locs cells slots ls X Y)
theorem j_zald {t a N : Nat} {f : Nat → Int32} {i x : Int32} (hd : decode M.2.1 pc = .ok (.baload, 1)) (ht : atys[t]? = some .boolean) (ha : h a = some (arI E t N f)) (hi : vp_in i N) (hx : f i.toNatClampNeg = x) (kk : J E M d cl sl (pc + 1) L (.int x :: st) h n Q) : J E M d cl sl pc L (.int i :: .ref a :: st) h n Q := by
  subst hx
  exact fun p e R s m args below meth c H locs cells slots ls X Y => va_zald X.1 X.2.1 X.2.2.2.2.2.2.2.2.1.1 (va_P.one (Y.2.1 a _ ha)) 0 t rfl (tysE_at E ht) hi hd (kk p e R s m args below meth c H locs cells slots ls X Y)
theorem j_bald {t a N : Nat} {f : Nat → Int32} {i x : Int32} (hd : decode M.2.1 pc = .ok (.baload, 1)) (ht : atys[t]? = some .byte) (ha : h a = some (arI E t N f)) (hi : vp_in i N) (hx : f i.toNatClampNeg = x) (kk : J E M d cl sl (pc + 1) L (.int x :: st) h n Q) : J E M d cl sl pc L (.int i :: .ref a :: st) h n Q := by
  subst hx
  exact fun p e R s m args below meth c H locs cells slots ls X Y => va_bald X.1 X.2.1 X.2.2.2.2.2.2.2.2.1.1 (va_P.one (Y.2.1 a _ ha)) 0 t rfl (tysE_at E ht) hi hd (kk p e R s m args below meth c H locs cells slots ls X Y)
theorem j_alen {t a : Nat} {x : vp_A} {ty : FieldType} {v : Int32} (hd : decode M.2.1 pc = .ok (.arraylength, 1)) (ht : atys[t]? = some ty) (ha : h a = some (.inl (E.2.2.1 t, x))) (hv : Int32.ofNat x.1 = v) (kk : J E M d cl sl (pc + 1) L (.int v :: st) h n Q) : J E M d cl sl pc L (.ref a :: st) h n Q :=
  fun p e R s m args below meth c H locs cells slots ls X Y => va_alen X.1 X.2.1 X.2.2.2.2.2.2.2.2.1.1 (va_P.one (Y.2.1 a _ ha)) 0 t rfl (tysE_at E ht) hv hd (kk p e R s m args below meth c H locs cells slots ls X Y)
theorem j_aald {t a N : Nat} {C : String} {f : Nat → Option Nat} {i : Int32} {v : Value} (hd : decode M.2.1 pc = .ok (.aaload, 1)) (ht : atys[t]? = some (.object C)) (ha : h a = some (arQ E t N f)) (hi : vp_in i N) (hv : va_rf (f i.toNatClampNeg) = v) (kk : J E M d cl sl (pc + 1) L (v :: st) h n Q) : J E M d cl sl pc L (.int i :: .ref a :: st) h n Q := by
  subst hv
  exact fun p e R s m args below meth c H locs cells slots ls X Y => va_aldq X.1 X.2.1 X.2.2.2.2.2.2.2.2.1.1 (va_P.one (Y.2.1 a _ ha)) 0 t rfl (tysE_at E ht) hi hd (kk p e R s m args below meth c H locs cells slots ls X Y)
theorem j_iast {t a N : Nat} {f : Nat → Int32} {i x : Int32} (hd : decode M.2.1 pc = .ok (.iastore, 1)) (ht : atys[t]? = some .int) (ha : h a = some (arI E t N f)) (hb : E.2.2.2.1 ≤ a) (hi : vp_in i N) (kk : J E M d cl sl (pc + 1) L st (hset h a (arI E t N (upd f i.toNatClampNeg x))) n Q) : J E M d cl sl pc L (.int x :: .int i :: .ref a :: st) h n Q := by
  intro p e R s m args below meth c H locs cells slots ls X Y
  refine W.iast X.1 X.2.1 (Y.2.1 a _ ha) ((X.2.2.2.2.2.2.2.2.1.1.2 t _ (tysE_at E ht)).1 N (fun j => .int (f j))) (fun q => by cases q) (by show ¬ (i < 0 ∨ (arrV _ _ _).slots.size ≤ _); rw [arrV_size]; exact hi) rfl rfl hd fun H1 e1 z oq => ?_
  refine kk p e R s m args below meth c H1 _ cells slots ls X ⟨Y.1, Y.2.1.set ?_ oq, by rw [z]; exact Y.2.2.1, Y.2.2.2.1.put z oq hb, Y.2.2.2.2⟩
  show H1[a]? = some (vp_cell _ _)
  rw [e1]
  rw [vp_cell_i, vp_cell_i, arrV_store]
  congr 2
  funext q
  by_cases hq : q = i.toNatClampNeg
  · subst hq
    simp [updV, upd, vp_nar]
    try rfl
  · simp [updV, upd, hq]
theorem j_zast {t a N : Nat} {f : Nat → Int32} {i x : Int32} (hd : decode M.2.1 pc = .ok (.bastore, 1)) (ht : atys[t]? = some .boolean) (ha : h a = some (arI E t N f)) (hb : E.2.2.2.1 ≤ a) (hi : vp_in i N) (kk : J E M d cl sl (pc + 1) L st (hset h a (arI E t N (upd f i.toNatClampNeg (vp_nar .boolean x)))) n Q) : J E M d cl sl pc L (.int x :: .int i :: .ref a :: st) h n Q := by
  intro p e R s m args below meth c H locs cells slots ls X Y
  refine W.zast X.1 X.2.1 (Y.2.1 a _ ha) ((X.2.2.2.2.2.2.2.2.1.1.2 t _ (tysE_at E ht)).1 N (fun j => .int (f j))) (fun q => by cases q) (by show ¬ (i < 0 ∨ (arrV _ _ _).slots.size ≤ _); rw [arrV_size]; exact hi) rfl rfl hd fun H1 e1 z oq => ?_
  refine kk p e R s m args below meth c H1 _ cells slots ls X ⟨Y.1, Y.2.1.set ?_ oq, by rw [z]; exact Y.2.2.1, Y.2.2.2.1.put z oq hb, Y.2.2.2.2⟩
  show H1[a]? = some (vp_cell _ _)
  rw [e1]
  rw [vp_cell_i, vp_cell_i, arrV_store]
  congr 2
  funext q
  by_cases hq : q = i.toNatClampNeg
  · subst hq
    simp [updV, upd, vp_nar]
    try rfl
  · simp [updV, upd, hq]
end JR
end
section
section JC
variable {E : EV} {M : MI} {d cl sl pc : Nat} {L : List (Nat × Value)} {st : List Value} {h : HP} {n : Nat} {Q : Option Value → HP → Nat → Prop}
/-! references into an array, statics, makings -/
theorem j_aast {t a N ci v : Nat} {C : String} {r : vw_C} {f : Nat → Option Nat} {vs : List Value} {i : Int32} (hd : decode M.2.1 pc = .ok (.aastore, 1)) (ht : atys[t]? = some (.object C)) (ha : h a = some (arQ E t N f)) (hb : E.2.2.2.1 ≤ a) (hv : h v = some (.inr (ci, vs))) (hc : classes[ci]? = some r) (hca : (r.1, C) ∈ castW) (hi : vp_in i N) (kk : J E M d cl sl (pc + 1) L st (hset h a (arQ E t N (va_up f i.toNatClampNeg (some v)))) n Q) : J E M d cl sl pc L (.ref v :: .int i :: .ref a :: st) h n Q := by
  intro p e R s m args below meth c H locs cells slots ls X Y
  have hK := X.2.2.2.2.2.2.2.2.1.1
  have hlt : i.toNatClampNeg < N := Nat.not_le.mp fun q => hi (Or.inr q)
  have h0 : ¬ i < 0 := fun q => hi (Or.inl q)
  obtain ⟨r', hr', cellV, g1, g2, g3, -⟩ := Y.2.1 v _ hv
  have hcls := (hK.1 ci r hc).2
  obtain ⟨kA, comp, k1, k2, k3, -⟩ := (hK.2 t _ (tysE_at E ht)).2
  obtain ⟨kE, hkE, -⟩ := Vm.findClass_spec k3
  obtain ⟨c0, t1, f1, f2, f3⟩ := Cond.castable_spec (va_Nw.use (A := args) rfl (X.2.2.2.2.2.2.2.2.1.2.2.2.1 _ hca))
  cases hcls.1.symm.trans f1
  cases k3.symm.trans f2
  obtain ⟨kC, hkC, -⟩ := hcls.2
  refine W.aast X.1 X.2.1 (Y.2.1 a _ ha) (fun q h => by cases h) (fun h => by cases h) k1 k2 rfl hkE ⟨h0, by show _ < (arrV _ _ _).slots.size; rw [arrV_size]; exact hlt⟩ g1 (fun q h => by rw [g3] at h; cases h) (by rw [g2]; exact hkC) (by rw [g2]; exact f3) rfl rfl hd fun H1 e1 z oq => ?_
  refine kk p e R s m args below meth c H1 _ cells slots ls X ⟨Y.1, Y.2.1.set ?_ oq, by rw [z]; exact Y.2.2.1, Y.2.2.2.1.put z oq hb, Y.2.2.2.2⟩
  show H1[a]? = some (vp_cell _ _)
  rw [e1]
  rw [vp_cell_q, vp_cell_q, arrV_store]
  congr 2
  funext q
  by_cases hq : q = i.toNatClampNeg
  · subst hq
    simp [updV, va_up, va_rf]
  · simp [updV, va_up, hq]
theorem j_gets {idx : Nat} {C nm ds : String} {v : Value} (hd : decode M.2.1 pc = .ok (.getstatic idx, 3)) (hz : (C, nm, ds, v) ∈ stats E.2.2.2.2) (hl : Cond.fieldLink M.1.cls idx C nm ds ∈ GW) (kk : J E M d cl sl (pc + 3) L (v :: st) h n Q) : J E M d cl sl pc L st h n Q :=
  fun p e R s m args below meth c H locs cells slots ls X Y => va_gets X.1 X.2.1 (X.2.2.2.2.2.2.2.2.2.1 _ hz) Y.2.2.2.1 X.2.2.2.2.1 (X.2.2.2.2.2.1 _ hl) (fun _ hx => hx) hd (kk p e R s m args below meth c H locs cells slots ls X Y)
theorem j_getsN {idx : Nat} {C nm ds host : String} {v : Value} (hd : decode M.2.1 pc = .ok (.getstatic idx, 3)) (hz : (C, nm, ds, v) ∈ stats E.2.2.2.2) (hl : (M.1.cls, idx, C, nm, ds, host) ∈ nestF) (kk : J E M d cl sl (pc + 3) L (v :: st) h n Q) : J E M d cl sl pc L st h n Q :=
  fun p e R s m args below meth c H locs cells slots ls X Y => va_getsN X.1 X.2.1 (X.2.2.2.2.2.2.2.2.2.1 _ hz) Y.2.2.2.1 X.2.2.2.2.1 (va_Nw.use rfl (X.2.2.2.2.2.2.2.2.1.2.1 _ hl)) (fun _ hx => hx) hd (kk p e R s m args below meth c H locs cells slots ls X Y)
def NWc (own : String) (idx ci : Nat) (C : String) (T : u_T) (N : Nat) (ty : Nat → FieldType) : Prop := classes[ci]? = some (C, T, N) ∧ (∀ w ∈ u_ws C T N, w ∈ GW) ∧ (∀ k, k < N → parseFieldDescriptor (T k).2.2.1 = some (ty k)) ∧ Cond.classLink own idx C ∈ GW ∧ Cond.instantiable C N ∈ GW ∧ Cond.initialized C ∈ GW
theorem j_new {idx ci : Nat} {C : String} {T : u_T} {N : Nat} {ty : Nat → FieldType} {fs : List Value} (hd : decode M.2.1 pc = .ok (.new idx, 3)) (g : NWc M.1.cls idx ci C T N ty) (hfs : ∀ j, j < N → defaultValue (ty j) = vp_V fs j) (hcl : 1 ≤ cl) (hsl : N ≤ sl) (kk : J E M d (cl - 1) (sl - N) (pc + 3) L (.ref n :: st) (hset h n (.inr (ci, fs))) (n + 1) Q) : J E M d cl sl pc L st h n Q := by
  intro p e R s m args below meth c H locs cells slots ls X Y
  obtain ⟨hc, hin, hty, hl1, hl2, hl3⟩ := g
  have hts := X.2.2.2.2.2.1
  have hKn := X.2.2.2.2.2.2.2.2.1.1.1 ci _ hc
  obtain ⟨⟨y1, y2, y3, y4⟩, yR, ysz, yS, yl⟩ := Y
  subst ysz
  refine W.newcK X.1 X.2.1 X.2.2.2.2.1 (hts _ hl1) (hts _ hl2) (hts _ hl3) rfl hd (by omega) (by omega) hKn.2.1 rfl fun H1 kC hkC e1 z1 o1 => ?_
  refine kk p e R s m args below meth c H1 _ _ _ ls X ⟨⟨y1, y2, by omega, by omega⟩, yR.push ⟨_, hc, (u_born ty hts hin hKn hkC e1 hty).to hfs⟩ o1, z1, ⟨Nat.le_trans yS.1 (by omega), fun q h1 h2 => (o1 q (Nat.lt_of_lt_of_le h1 yS.1)).trans (yS.2.1 q h1 h2), yS.2.2⟩, yl⟩
theorem j_newa {atype : ArrayType} {t : Nat} {x : Int32} {N : Nat} (hd : decode M.2.1 pc = .ok (.newarray atype, 2)) (ht : atys[t]? = some (newarray.typeOf atype)) (hw : Cond.arrayClass (newarray.typeOf atype) ∈ GW) (hdv : defaultValue (newarray.typeOf atype) = .int 0) (hx : ¬ x < 0) (hN : x.toNatClampNeg = N) (hbytes : N * componentBytes (newarray.typeOf atype) ≤ 536870912) (hcl : 1 ≤ cl) (hsl : N ≤ sl) (kk : J E M d (cl - 1) (sl - N) (pc + 2) L (.ref n :: st) (hset h n (arI E t N (fun _ => 0))) (n + 1) Q) : J E M d cl sl pc L (.int x :: st) h n Q := by
  intro p e R s m args below meth c H locs cells slots ls X Y
  have hts := X.2.2.2.2.2.1
  have hK := X.2.2.2.2.2.2.2.2.1.1
  obtain ⟨⟨y1, y2, y3, y4⟩, yR, ysz, yS, yl⟩ := Y
  subst ysz
  refine va_newaK X.1 X.2.1 (hts _ hw) rfl hd rfl hx hN hbytes (by omega) (by omega) rfl fun H1 cA e1 z1 o1 hAr hNm => ?_
  have hcA : cA = E.2.2.1 t := by
    have h2 := (hK.2 t _ (tysE_at E ht)).2
    have h3 : s.vm.findClass ("[" ++ (newarray.typeOf atype).toString) = some (E.2.2.1 t) := by cases atype <;> exact h2
    exact Option.some.inj (hNm.symm.trans h3)
  subst hcA
  refine kk p e R s m args below meth c H1 _ _ _ ls X ⟨⟨y1, y2, by omega, by omega⟩, yR.push ?_ o1, z1, ⟨Nat.le_trans yS.1 (by omega), fun q h1 h2 => (o1 q (Nat.lt_of_lt_of_le h1 yS.1)).trans (yS.2.1 q h1 h2), yS.2.2⟩, yl⟩
  show H1[H.size]? = some (vp_cell _ _)
  rw [vp_cell_i, e1, hdv]
theorem j_anew {idx t : Nat} {C : String} {x : Int32} {N : Nat} (hd : decode M.2.1 pc = .ok (.anewarray idx, 3)) (ht : atys[t]? = some (.object C)) (hw : Cond.classLink M.1.cls idx C ∈ GW) (ho : C ∈ overW) (hx : ¬ x < 0) (hN : x.toNatClampNeg = N) (hbytes : N * 4 ≤ 536870912) (hcl : 1 ≤ cl) (hsl : N ≤ sl) (kk : J E M d (cl - 1) (sl - N) (pc + 3) L (.ref n :: st) (hset h n (arQ E t N (fun _ => none))) (n + 1) Q) : J E M d cl sl pc L (.int x :: st) h n Q := by
  intro p e R s m args below meth c H locs cells slots ls X Y
  have hts := X.2.2.2.2.2.1
  have hK := X.2.2.2.2.2.2.2.2.1.1
  obtain ⟨⟨y1, y2, y3, y4⟩, yR, ysz, yS, yl⟩ := Y
  subst ysz
  subst hN
  refine W.anew X.1 X.2.1 X.2.2.2.2.1 (hts _ hw) (va_AO.use (X.2.2.2.2.2.2.2.2.1.2.2.2.2 _ ho)) rfl hd rfl hx hbytes (by omega) (by omega) fun cA kA comp h1 h2 h3 h4 => ?_
  have hcA : cA = E.2.2.1 t := by
    obtain ⟨kA', comp', g1, g2, g3, g4⟩ := (hK.2 t _ (tysE_at E ht)).2
    exact Option.some.inj (h1.symm.trans g4)
  subst hcA
  have o1 : ∀ q : Nat, q < H.size → (H.push { cls := E.2.2.1 t, slots := Array.replicate x.toNatClampNeg .null, vm := .none })[q]? = H[q]? := fun q hq => by rw [Array.getElem?_push, if_neg (Nat.ne_of_lt hq)]
  refine kk p e R s m args below meth c _ _ _ _ ls X ⟨⟨y1, y2, by omega, by omega⟩, yR.push ?_ o1, by simp, ⟨Nat.le_trans yS.1 (by simp), fun q h1 h2 => (o1 q (Nat.lt_of_lt_of_le h1 yS.1)).trans (yS.2.1 q h1 h2), yS.2.2⟩, yl⟩
  show (H.push _)[H.size]? = some (vp_cell _ _)
  rw [vp_cell_q, ← arrV_new]
  simp [va_rf]
/-! ends -/
theorem j_iret {x : Int32} (hd : decode M.2.1 pc = .ok (.ireturn, 1)) (hr : M.2.2.2 = some .int) (hq : Q (some (.int x)) h n) : J E M d cl sl pc L [.int x] h n Q := by
  intro p e R s m args below meth c H locs cells slots ls X Y
  refine W.widen (k := R.cells) (n := R.slots) (by have := Y.1; omega) (by have := Y.1; omega) ?_
  exact W.iret X.1 X.2.1 (X.2.2.1.trans hr) (fun t ht _ => ⟨_, h, n, rfl, hq, by rw [ht]; exact Y.2.1, by rw [ht]; exact Y.2.2.1, Y.2.2.2.1.F ht⟩) Y.2.2.2.1.2.2 hd X.2.2.2.2.2.2.1
theorem j_zret {x : Int32} (hd : decode M.2.1 pc = .ok (.ireturn, 1)) (hr : M.2.2.2 = some .boolean) (hx : x = 0 ∨ x = 1) (hq : Q (some (.int x)) h n) : J E M d cl sl pc L [.int x] h n Q := by
  intro p e R s m args below meth c H locs cells slots ls X Y
  refine W.widen (k := R.cells) (n := R.slots) (by have := Y.1; omega) (by have := Y.1; omega) ?_
  exact W.zret X.1 X.2.1 (X.2.2.1.trans hr) (by rcases hx with rfl | rfl <;> rfl) (fun t ht _ => ⟨_, h, n, rfl, hq, by rw [ht]; exact Y.2.1, by rw [ht]; exact Y.2.2.1, Y.2.2.2.1.F ht⟩) Y.2.2.2.1.2.2 hd X.2.2.2.2.2.2.1
theorem j_vret (hd : decode M.2.1 pc = .ok (.return_, 1)) (hr : M.2.2.2 = none) (hq : Q none h n) : J E M d cl sl pc L [] h n Q := by
  intro p e R s m args below meth c H locs cells slots ls X Y
  refine W.widen (k := R.cells) (n := R.slots) (by have := Y.1; omega) (by have := Y.1; omega) ?_
  exact W.vret X.1 X.2.1 (X.2.2.1.trans hr) (fun t ht _ => ⟨_, h, n, rfl, hq, by rw [ht]; exact Y.2.1, by rw [ht]; exact Y.2.2.1, Y.2.2.2.1.F ht⟩) Y.2.2.2.1.2.2 hd X.2.2.2.2.2.2.1
theorem j_aret {v : Value} {rt : FieldType} (hd : decode M.2.1 pc = .ok (.areturn, 1)) (hr : M.2.2.2 = some rt) (hrt : (∃ n, rt = .object n) ∨ ∃ t, rt = .array t) (hv : isRf v = true) (hq : Q (some v) h n) : J E M d cl sl pc L [v] h n Q := by
  intro p e R s m args below meth c H locs cells slots ls X Y
  refine W.widen (k := R.cells) (n := R.slots) (by have := Y.1; omega) (by have := Y.1; omega) ?_
  exact W.aret X.1 X.2.1 (X.2.2.1.trans hr) hrt (isRf_of hv) (fun t ht _ => ⟨_, h, n, rfl, hq, by rw [ht]; exact Y.2.1, by rw [ht]; exact Y.2.2.1, Y.2.2.2.1.F ht⟩) Y.2.2.2.1.2.2 hd X.2.2.2.2.2.2.1
/-! a contract out of the walk of its body -/
theorem Ct.ofJ {mc ms : Nat} {as : List Value} (hy : plainName M.1.cls = true) (hn : (lg_sl as).length ≤ M.2.2.1) (hc : ∀ q ∈ lv_args 0 as, q.2.category = 1) (k : J E M d mc ms 0 (lv_args 0 as) [] h n Q) : Ct E M d mc ms as h n Q := by
  unfold Ct
  refine Met.ofW (cc := M.2.1) (maxL := M.2.2.1) (ret := M.2.2.2) hy rfl ?_
  intro p e s m args below meth c s₁ B hml hv
  obtain ⟨rfl, hR, hsz, hK, hZ, hbs⟩ := hv
  have hts := atoms_spec (ws := wsM M) B.pre
  have hl := lv_entry as (n := M.2.2.1) hn
  rw [lg_entry_eq]
  refine k p e (rmD d mc ms) s m _ below meth c s.heap [] 0 0 _ ⟨B.exec, B.bytes, B.returns, hml, findClass_of_methodNamed B.named, fun w hw => hts w (List.mem_cons_of_mem _ hw), B.notSynchronized, (name_of_methodNamed B.named B.method).1, hK, hZ, by rw [hsz]; exact hbs⟩ ⟨⟨Nat.le_refl _, Nat.le_refl _, by simp [rmD], by simp [rmD]⟩, hR, hsz, va_S.rf, hl, hc⟩
/-! calls -/
theorem j_back {p : Program} {e : Env} {R : Room} {s : State} {m : MethodId} {args : Array Value} {below : List Frame} {meth : Method} {c : Code} {H : Heap} {locs : List Loc} {cells slots : Nat} {ls : Array Slot} {mc ms len : Nat} {rest st0 : List Value} {a : Array Value} {Q' : Option Value → HP → Nat → Prop}
    (X : Cx E M p s m args meth c) (Y : Dx E M d cl sl L h n R s H locs cells slots ls) (h1 : mc ≤ cl) (h2 : ms ≤ sl)
    (hr : ∀ T : State, T.heap = H → Stand p E.1 e R s m args below meth c T locs cells slots → ∃ (v : Option Value) (st₀ t T' : State) (L : List Loc), st₀.heap = H ∧ Stand p E.1 e R s m args below meth c T' (locs ++ L) (cells + mc) (slots + ms) ∧ (∀ q ∈ L, Ab E q.base) ∧ T'.heap = t.heap ∧ T'.vm = t.vm ∧ Qx E Q' a st₀ (.returned v) t ∧ Goes p e below T (F0 m pc ls st0) T' (F0 m len ls (v.toList ++ rest)))
    (kk : ∀ (v : Option Value) (h' : HP) (n' : Nat), Q' v h' n' → n ≤ n' → J E M d (cl - mc) (sl - ms) len L (v.toList ++ rest) h' n' Q) :
    W p E.1 e R s m args below meth c H locs cells slots (MQ below (Qx E Q) args s R.cells R.slots (Ab E)) (F0 m pc ls st0) := by
  intro T hT XS
  obtain ⟨v, st₀, t, T', L2, h0, X', hL, e1, e2, ⟨v', h', n', hv, hq, hRp, hsz, hz, hk⟩, go⟩ := hr T hT XS
  cases hv
  rw [h0] at hz hk
  obtain ⟨⟨y1, y2, y3, y4⟩, yR, ysz, yS, yl⟩ := Y
  obtain ⟨t2, a1, b1⟩ := kk v h' n' hq (by rw [← ysz, ← hsz]; exact hz) p e R s m args below meth c T'.heap (locs ++ L2) (cells + mc) (slots + ms) ls X ⟨⟨y1, y2, by omega, by omega⟩, by rw [e1]; exact hRp, by rw [e1]; exact hsz,
    ⟨Nat.le_trans yS.1 (by rw [e1]; exact hz), fun q g1 g2 => by rw [e1, hk q (Nat.lt_of_lt_of_le g1 yS.1) g2]; exact yS.2.1 q g1 g2, fun q hq => by
      rcases List.mem_append.mp hq with g | g
      · exact yS.2.2 q g
      · exact hL q g⟩, yl⟩ T' rfl X'
  exact ⟨t2, go t2 a1, b1⟩
theorem GW_good : ∀ w ∈ GW, (w.onTables && w.keeps) = true ∨ ∃ ty, w = .arrayClass ty := fun w hw => good_of_word (List.mem_filter.mp hw).2
def CBx (own : String) (idx : Nat) (M' : MI) (k : Nat) : Prop := Cond.code M'.1 M'.2.1 M'.2.2.1 M'.2.2.2 ∈ GW ∧ Cond.methodLink own idx M'.1 ∈ GW ∧ Cond.initialized M'.1.cls ∈ GW ∧ (M'.1.cls ≠ "java/lang/invoke/MethodHandle" ∧ M'.1.cls ≠ "java/lang/invoke/VarHandle") ∧ (parseMethodDescriptor M'.1.desc).map (fun d => d.parameters.length) = some k ∧ M'.2.2.1 ≤ 21
theorem wsM_good {M' : MI} (hw : Cond.code M'.1 M'.2.1 M'.2.2.1 M'.2.2.2 ∈ GW) : GoodIn GW (wsM M') := by
  intro w h
  rcases List.mem_cons.mp h with rfl | h
  · exact ⟨hw, GW_good _ hw⟩
  · exact ⟨h, GW_good w h⟩
theorem j_cb {p : Program} {R : Room} {s : State} {m : MethodId} {args : Array Value} {meth : Method} {c : Code} {idx d' mc ms k : Nat} {M' : MI} (X : Cx E M p s m args meth c) (hd : d ≤ R.frames ∧ 40 * d ≤ R.locals) (g : CBx M.1.cls idx M' k) (hdd : d' + 1 ≤ d) :
    CallB R s args M.1.cls idx M'.1 M'.2.1 M'.2.2.1 M'.2.2.2 (wsM M') (rmD d' mc ms) mc ms k := by
  obtain ⟨g1, g2, g3, g4, g5, g6⟩ := g
  have hts := X.2.2.2.2.2.1
  refine callB_of (Ts := GW) (ws' := GW) k hts (wsM_good g1) rfl rfl rfl (hts _ g3) (hts _ g2) ⟨g4.1, g4.2, g5⟩ ⟨?_, ?_⟩
  · show d' + 1 ≤ R.frames
    omega
  · show 8 + (M'.2.2.1 + 11) + 40 * d' ≤ R.locals
    omega
theorem j_callV {idx d' mc ms k b ci : Nat} {M' : MI} {As rest : List Value} {r : vw_C} {fs : List Value} {Q' : Option Value → HP → Nat → Prop} (hd : decode M.2.1 pc = .ok (.invokevirtual idx, 3)) (g : CBx M.1.cls idx M' k) (gi : Cond.instanceMethod M'.1 ∈ GW ∧ Cond.selects M'.1.cls M'.1 M'.1 ∈ GW) (hb : h b = some (.inr (ci, fs))) (hc : classes[ci]? = some r) (hcn : r.1 = M'.1.cls) (hk : As.length = k) (hst : st = As.reverse ++ .ref b :: rest) (hroom : (rest.map fun v => v.category).sum ≤ 8) (hdd : d' + 1 ≤ d) (h1 : mc ≤ cl) (h2 : ms ≤ sl)
    (ct : Ct E M' d' mc ms (.ref b :: As) h n Q') (kk : ∀ (v : Option Value) (h' : HP) (n' : Nat), Q' v h' n' → n ≤ n' → J E M d (cl - mc) (sl - ms) (pc + 3) L (v.toList ++ rest) h' n' Q) : J E M d cl sl pc L st h n Q := by
  intro p e R s m args below meth c H locs cells slots ls X Y
  have hts := X.2.2.2.2.2.1
  have hK := X.2.2.2.2.2.2.2.2.1
  have ysz := Y.2.2.1
  refine j_back X Y h1 h2 (va_runV (As := As) (rest := rest) (C := M'.1.cls) (own := M.1.cls) (nL := M.2.2.1) (cc := M.2.1) (Ts := GW) ⟨X.1, X.2.1, X.2.2.2.1, X.2.2.2.2.1, hts⟩ ct ⟨j_cb X ⟨Y.1.1, Y.1.2.1⟩ g hdd, hts _ gi.1, hts _ gi.2⟩ ⟨Wd.blind, ?_, fun U hU hW => ⟨rfl, ?_⟩⟩ rfl hk Y.2.2.2.2.1.1 hst (lv_room hroom) hd ⟨by have := Y.1; omega, by have := Y.1; omega⟩) kk
  · have := va_recv hK.1 (va_P.one (Y.2.1 b _ hb)) (ci := ci) (q0 := 0) hc rfl
    rw [hcn] at this
    exact this
  · rw [← ysz]
    exact Wd.at Y.2.1 hK X.2.2.2.2.2.2.2.2.2.1 Y.2.2.2.1 X.2.2.2.2.2.2.2.2.2.2 hU hW
theorem j_callS {idx d' mc ms k : Nat} {M' : MI} {As rest : List Value} {Q' : Option Value → HP → Nat → Prop} (hd : decode M.2.1 pc = .ok (.invokestatic idx, 3)) (g : CBx M.1.cls idx M' k) (gi : Cond.static M'.1 ∈ GW) (hk : As.length = k) (hst : st = As.reverse ++ rest) (hroom : (rest.map fun v => v.category).sum ≤ 8) (hdd : d' + 1 ≤ d) (h1 : mc ≤ cl) (h2 : ms ≤ sl)
    (ct : Ct E M' d' mc ms As h n Q') (kk : ∀ (v : Option Value) (h' : HP) (n' : Nat), Q' v h' n' → n ≤ n' → J E M d (cl - mc) (sl - ms) (pc + 3) L (v.toList ++ rest) h' n' Q) : J E M d cl sl pc L st h n Q := by
  intro p e R s m args below meth c H locs cells slots ls X Y
  have hts := X.2.2.2.2.2.1
  have hK := X.2.2.2.2.2.2.2.2.1
  have ysz := Y.2.2.1
  refine j_back X Y h1 h2 (va_runS (As := As) (rest := rest) (own := M.1.cls) (nL := M.2.2.1) (cc := M.2.1) (Ts := GW) ⟨X.1, X.2.1, X.2.2.2.1, X.2.2.2.2.1, hts⟩ ct ⟨j_cb X ⟨Y.1.1, Y.1.2.1⟩ g hdd, hts _ gi⟩ ⟨Wd.blind, fun U hU hW => ⟨rfl, ?_⟩⟩ rfl hk Y.2.2.2.2.1.1 hst (lv_room hroom) hd ⟨by have := Y.1; omega, by have := Y.1; omega⟩) kk
  rw [← ysz]
  exact Wd.at Y.2.1 hK X.2.2.2.2.2.2.2.2.2.1 Y.2.2.2.1 X.2.2.2.2.2.2.2.2.2.2 hU hW
theorem j_callI {idx d' mc ms k b : Nat} {M' : MI} {As rest : List Value} {Q' : Option Value → HP → Nat → Prop} (hd : decode M.2.1 pc = .ok (.invokespecial idx, 3)) (g : CBx M.1.cls idx M' k) (gi : M'.1.name = "<init>" ∧ M'.2.2.2 = none ∧ Cond.instanceMethod M'.1 ∈ GW) (hk : As.length = k) (hst : st = As.reverse ++ .ref b :: rest) (hroom : (rest.map fun v => v.category).sum ≤ 8) (hdd : d' + 1 ≤ d) (h1 : mc ≤ cl) (h2 : ms ≤ sl)
    (ct : Ct E M' d' mc ms (.ref b :: As) h n Q') (kk : ∀ (v : Option Value) (h' : HP) (n' : Nat), Q' v h' n' → n ≤ n' → J E M d (cl - mc) (sl - ms) (pc + 3) L (v.toList ++ rest) h' n' Q) : J E M d cl sl pc L st h n Q := by
  intro p e R s m args below meth c H locs cells slots ls X Y
  have hts := X.2.2.2.2.2.1
  have hK := X.2.2.2.2.2.2.2.2.1
  have ysz := Y.2.2.1
  have hcb := j_cb (mc := mc) (ms := ms) X ⟨Y.1.1, Y.1.2.1⟩ g hdd
  rw [gi.2.1] at hcb
  refine j_back X Y h1 h2 (va_runI (As := As) (rest := rest) (own := M.1.cls) (nL := M.2.2.1) (cc := M.2.1) (Ts := GW) ⟨X.1, X.2.1, X.2.2.2.1, X.2.2.2.2.1, hts⟩ ct ⟨hcb, gi.1, hts _ gi.2.2⟩ ⟨Wd.blind, fun U hU hW => ⟨rfl, ?_⟩⟩ rfl hk Y.2.2.2.2.1.1 hst (lv_room hroom) hd ⟨by have := Y.1; omega, by have := Y.1; omega⟩) kk
  rw [← ysz]
  exact Wd.at Y.2.1 hK X.2.2.2.2.2.2.2.2.2.1 Y.2.2.2.1 X.2.2.2.2.2.2.2.2.2.2 hU hW
theorem j_obj {idx a : Nat} (hd : decode M.2.1 pc = .ok (.invokespecial idx, 3)) (hl : Cond.methodLink M.1.cls idx Lib.objectInit ∈ GW) (hi : Cond.instanceMethod Lib.objectInit ∈ GW) (hc : Cond.code Lib.objectInit ⟨#[0xb1]⟩ 1 none ∈ GW) (hroom : (st.map fun v => v.category).sum ≤ 8) (hdd : 1 ≤ d) (kk : J E M d cl sl (pc + 3) L st h n Q) : J E M d cl sl pc L (.ref a :: st) h n Q := by
  intro p e R s m args below meth c H locs cells slots ls X Y
  have hts := X.2.2.2.2.2.1
  have y1 := Y.1.1
  have y2 := Y.1.2.1
  have hr : 2 * (F0 m pc ls (.ref a :: st)).monitorRoom + (st.map fun v => v.category).sum ≤ 8 := lv_room hroom
  exact W.objInit X.1 X.2.1 X.2.2.2.2.1 (hts _ hl) (hts _ hi) (hts _ hc) rfl (Y.2.2.2.2.1.1.trans X.2.2.2.1.symm) rfl hd (by omega) (by omega) (kk p e R s m args below meth c H locs cells slots ls X Y)
theorem j_callF {idx cnt d' mc ms k b ci : Nat} {x : MethodName} {M' : MI} {As rest : List Value} {r : vw_C} {fs : List Value} {Q' : Option Value → HP → Nat → Prop} (hd : decode M.2.1 pc = .ok (.invokeinterface idx cnt, 5)) (g : Cond.code M'.1 M'.2.1 M'.2.2.1 M'.2.2.2 ∈ GW ∧ Cond.methodLink M.1.cls idx x ∈ GW ∧ Cond.selects M'.1.cls x M'.1 ∈ GW ∧ Cond.instanceMethod M'.1 ∈ GW ∧ Cond.initialized M'.1.cls ∈ GW) (gf : (M'.1.cls, x, M'.1) ∈ faceW) (gx : x.cls ≠ "java/lang/invoke/MethodHandle" ∧ x.cls ≠ "java/lang/invoke/VarHandle" ∧ (parseMethodDescriptor x.desc).map (fun d => d.parameters.length) = some k) (gm : M'.2.2.1 ≤ 21) (hb : h b = some (.inr (ci, fs))) (hc : classes[ci]? = some r) (hcn : r.1 = M'.1.cls) (hk : As.length = k) (hst : st = As.reverse ++ .ref b :: rest) (hroom : (rest.map fun v => v.category).sum ≤ 8) (hdd : d' + 1 ≤ d) (h1 : mc ≤ cl) (h2 : ms ≤ sl)
    (ct : Ct E M' d' mc ms (.ref b :: As) h n Q') (kk : ∀ (v : Option Value) (h' : HP) (n' : Nat), Q' v h' n' → n ≤ n' → J E M d (cl - mc) (sl - ms) (pc + 5) L (v.toList ++ rest) h' n' Q) : J E M d cl sl pc L st h n Q := by
  intro p e R s m args below meth c H locs cells slots ls X Y
  have hts := X.2.2.2.2.2.1
  have hK := X.2.2.2.2.2.2.2.2.1
  have ysz := Y.2.2.1
  have hdR := Y.1
  obtain ⟨g1, g2, g3, g4, g5⟩ := g
  have hG : GoodIn GW (va_wsF M.1.cls idx M'.1.cls x M'.1 (wsM M')) := by
    intro w hw
    rcases List.mem_append.mp hw with hw | hw
    · simp only [List.mem_cons, List.not_mem_nil, or_false] at hw
      rcases hw with rfl | rfl | rfl | rfl
      · exact ⟨g2, GW_good _ g2⟩
      · exact ⟨g3, GW_good _ g3⟩
      · exact ⟨g4, GW_good _ g4⟩
      · exact ⟨g5, GW_good _ g5⟩
    · exact wsM_good g1 w hw
  have hat : ClassAt s M'.1.cls (E.2.1.1 ci) := by
    have := (hK.1.1 ci r hc).2
    rw [hcn] at this
    exact this
  refine j_back X Y h1 h2 (va_runF (As := As) (rest := rest) (C := M'.1.cls) (own := M.1.cls) (nL := M.2.2.1) (cc := M.2.1) (Ts := GW) hat ⟨X.1, X.2.1, X.2.2.2.1, X.2.2.2.2.1, hts⟩ ct (va_cwF (ws' := GW) k hts hG rfl rfl rfl (hK.2.2.1 _ gf) gx ⟨by show d' + 1 ≤ R.frames; omega, by show 8 + (M'.2.2.1 + 11) + 40 * d' ≤ R.locals; omega⟩) ⟨Wd.blind, ?_, fun U hU hW => ⟨rfl, ?_⟩⟩ rfl hk Y.2.2.2.2.1.1 hst (lv_room hroom) hd ⟨by omega, by omega⟩) kk
  · have := va_recv hK.1 (va_P.one (Y.2.1 b _ hb)) (ci := ci) (q0 := 0) hc rfl
    rw [hcn] at this
    exact this
  · rw [← ysz]
    exact Wd.at Y.2.1 hK X.2.2.2.2.2.2.2.2.2.1 Y.2.2.2.1 X.2.2.2.2.2.2.2.2.2.2 hU hW
/-- a weaker end -/
theorem J.mono {Q2 : Option Value → HP → Nat → Prop} (hq : ∀ v h' n', Q v h' n' → Q2 v h' n') (k : J E M d cl sl pc L st h n Q) : J E M d cl sl pc L st h n Q2 := by
  intro p e R s m args below meth c H locs cells slots ls X Y T hT XS
  obtain ⟨t, a1, o, b1, b2, ⟨v, h', n', c1, c2, c3⟩, b4⟩ := k p e R s m args below meth c H locs cells slots ls X Y T hT XS
  exact ⟨t, a1, o, b1, b2, ⟨v, h', n', c1, hq _ _ _ c2, c3⟩, b4⟩
theorem J.room {d2 cl2 sl2 : Nat} (h1 : d2 ≤ d) (h2 : cl2 ≤ cl) (h3 : sl2 ≤ sl) (k : J E M d2 cl2 sl2 pc L st h n Q) : J E M d cl sl pc L st h n Q := by
  intro p e R s m args below meth c H locs cells slots ls X Y
  have := Y.1
  exact k p e R s m args below meth c H locs cells slots ls X ⟨⟨by omega, by omega, by omega, by omega⟩, Y.2⟩
end JC
end
