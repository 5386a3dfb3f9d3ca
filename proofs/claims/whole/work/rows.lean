section
-- ===== PART A: goes FIRST, ahead of the names: the tables' words, and 'selects' of the private methods out of them =====
/-- a private method of a class that the tables say can be made, by its rows of tables_1 -/
def lw_okq (q : MethodName × Nat) : Prop := (q.1.cls ≠ "java/lang/invoke/MethodHandle" ∧ q.1.cls ≠ "java/lang/invoke/VarHandle") ∧ Cond.instantiable q.1.cls q.2 ∈ tables_1 ∧ Cond.privateMethod q.1 ∈ tables_1 ∧ Cond.instanceMethod q.1 ∈ tables_1
theorem lw_p0 : lw_okq (⟨"ClueLogic$Orders", "fill", "(II)V"⟩, 5) := ⟨⟨by decide +kernel, by decide +kernel⟩, List.mem_of_getElem? (i := 38) (by decide +kernel), List.mem_of_getElem? (i := 44) (by decide +kernel), List.mem_of_getElem? (i := 45) (by decide +kernel)⟩
theorem lw_p1 : lw_okq (⟨"ClueLogic$Orders", "add", "(I)V"⟩, 5) := ⟨⟨by decide +kernel, by decide +kernel⟩, List.mem_of_getElem? (i := 38) (by decide +kernel), List.mem_of_getElem? (i := 48) (by decide +kernel), List.mem_of_getElem? (i := 49) (by decide +kernel)⟩
theorem lw_p2 : lw_okq (⟨"ClueLogic", "begin", "(LClueLogic$Puzzle;)V"⟩, 6) := ⟨⟨by decide +kernel, by decide +kernel⟩, List.mem_of_getElem? (i := 22) (by decide +kernel), List.mem_of_getElem? (i := 94) (by decide +kernel), List.mem_of_getElem? (i := 95) (by decide +kernel)⟩
theorem lw_p3 : lw_okq (⟨"ClueLogic$Crossing", "waysIn", "(I)I"⟩, 10) := ⟨⟨by decide +kernel, by decide +kernel⟩, List.mem_of_getElem? (i := 169) (by decide +kernel), List.mem_of_getElem? (i := 189) (by decide +kernel), List.mem_of_getElem? (i := 190) (by decide +kernel)⟩
theorem lw_p4 : lw_okq (⟨"ClueLogic$Reader", "passHead", "()Z"⟩, 7) := ⟨⟨by decide +kernel, by decide +kernel⟩, List.mem_of_getElem? (i := 257) (by decide +kernel), List.mem_of_getElem? (i := 289) (by decide +kernel), List.mem_of_getElem? (i := 290) (by decide +kernel)⟩
theorem lw_p5 : lw_okq (⟨"ClueLogic$Reader", "take", "(III)I"⟩, 7) := ⟨⟨by decide +kernel, by decide +kernel⟩, List.mem_of_getElem? (i := 257) (by decide +kernel), List.mem_of_getElem? (i := 293) (by decide +kernel), List.mem_of_getElem? (i := 294) (by decide +kernel)⟩
theorem lw_p6 : lw_okq (⟨"ClueLogic$Reader", "passSemicolon", "()Z"⟩, 7) := ⟨⟨by decide +kernel, by decide +kernel⟩, List.mem_of_getElem? (i := 257) (by decide +kernel), List.mem_of_getElem? (i := 297) (by decide +kernel), List.mem_of_getElem? (i := 298) (by decide +kernel)⟩
theorem lw_p7 : lw_okq (⟨"ClueLogic$Reader", "clue", "()LClueLogic$Clue;"⟩, 7) := ⟨⟨by decide +kernel, by decide +kernel⟩, List.mem_of_getElem? (i := 257) (by decide +kernel), List.mem_of_getElem? (i := 303) (by decide +kernel), List.mem_of_getElem? (i := 304) (by decide +kernel)⟩
theorem lw_p8 : lw_okq (⟨"ClueLogic$Reader", "ofPerson", "()LClueLogic$Clue;"⟩, 7) := ⟨⟨by decide +kernel, by decide +kernel⟩, List.mem_of_getElem? (i := 257) (by decide +kernel), List.mem_of_getElem? (i := 394) (by decide +kernel), List.mem_of_getElem? (i := 395) (by decide +kernel)⟩
theorem lw_p9 : lw_okq (⟨"ClueLogic$Reader", "saying", "()LClueLogic$Clue;"⟩, 7) := ⟨⟨by decide +kernel, by decide +kernel⟩, List.mem_of_getElem? (i := 257) (by decide +kernel), List.mem_of_getElem? (i := 410) (by decide +kernel), List.mem_of_getElem? (i := 411) (by decide +kernel)⟩
theorem lw_p10 : lw_okq (⟨"ClueLogic$Reader", "turned", "(I)LClueLogic$Clue;"⟩, 7) := ⟨⟨by decide +kernel, by decide +kernel⟩, List.mem_of_getElem? (i := 257) (by decide +kernel), List.mem_of_getElem? (i := 415) (by decide +kernel), List.mem_of_getElem? (i := 416) (by decide +kernel)⟩
theorem lw_p11 : lw_okq (⟨"ClueLogic$Reader", "joined", "(Z)LClueLogic$Clue;"⟩, 7) := ⟨⟨by decide +kernel, by decide +kernel⟩, List.mem_of_getElem? (i := 257) (by decide +kernel), List.mem_of_getElem? (i := 432) (by decide +kernel), List.mem_of_getElem? (i := 433) (by decide +kernel)⟩
theorem lw_p12 : lw_okq (⟨"ClueLogic$Reader", "ofValues", "(I)LClueLogic$Clue;"⟩, 7) := ⟨⟨by decide +kernel, by decide +kernel⟩, List.mem_of_getElem? (i := 257) (by decide +kernel), List.mem_of_getElem? (i := 452) (by decide +kernel), List.mem_of_getElem? (i := 453) (by decide +kernel)⟩
theorem lw_p13 : lw_okq (⟨"ClueLogic$Reader", "takeValue", "()I"⟩, 7) := ⟨⟨by decide +kernel, by decide +kernel⟩, List.mem_of_getElem? (i := 257) (by decide +kernel), List.mem_of_getElem? (i := 456) (by decide +kernel), List.mem_of_getElem? (i := 457) (by decide +kernel)⟩
theorem lw_p14 : lw_okq (⟨"ClueLogic$Walk", "chooseOrders", "(II)I"⟩, 6) := ⟨⟨by decide +kernel, by decide +kernel⟩, List.mem_of_getElem? (i := 104) (by decide +kernel), List.mem_of_getElem? (i := 515) (by decide +kernel), List.mem_of_getElem? (i := 516) (by decide +kernel)⟩
theorem lw_p15 : lw_okq (⟨"ClueLogic$Walk", "go", "(II)V"⟩, 6) := ⟨⟨by decide +kernel, by decide +kernel⟩, List.mem_of_getElem? (i := 104) (by decide +kernel), List.mem_of_getElem? (i := 531) (by decide +kernel), List.mem_of_getElem? (i := 532) (by decide +kernel)⟩
def lw_privs_1 : List (MethodName × Nat) := [(⟨"ClueLogic$Orders", "fill", "(II)V"⟩, 5), (⟨"ClueLogic$Orders", "add", "(I)V"⟩, 5), (⟨"ClueLogic", "begin", "(LClueLogic$Puzzle;)V"⟩, 6), (⟨"ClueLogic$Crossing", "waysIn", "(I)I"⟩, 10), (⟨"ClueLogic$Reader", "passHead", "()Z"⟩, 7), (⟨"ClueLogic$Reader", "take", "(III)I"⟩, 7), (⟨"ClueLogic$Reader", "passSemicolon", "()Z"⟩, 7), (⟨"ClueLogic$Reader", "clue", "()LClueLogic$Clue;"⟩, 7), (⟨"ClueLogic$Reader", "ofPerson", "()LClueLogic$Clue;"⟩, 7), (⟨"ClueLogic$Reader", "saying", "()LClueLogic$Clue;"⟩, 7), (⟨"ClueLogic$Reader", "turned", "(I)LClueLogic$Clue;"⟩, 7), (⟨"ClueLogic$Reader", "joined", "(Z)LClueLogic$Clue;"⟩, 7), (⟨"ClueLogic$Reader", "ofValues", "(I)LClueLogic$Clue;"⟩, 7), (⟨"ClueLogic$Reader", "takeValue", "()I"⟩, 7), (⟨"ClueLogic$Walk", "chooseOrders", "(II)I"⟩, 6), (⟨"ClueLogic$Walk", "go", "(II)V"⟩, 6)]
theorem lw_r1 : ∀ q ∈ lw_privs_1, lw_okq q := List.forall_mem_cons.mpr ⟨lw_p0, List.forall_mem_cons.mpr ⟨lw_p1, List.forall_mem_cons.mpr ⟨lw_p2, List.forall_mem_cons.mpr ⟨lw_p3, List.forall_mem_cons.mpr ⟨lw_p4, List.forall_mem_cons.mpr ⟨lw_p5, List.forall_mem_cons.mpr ⟨lw_p6, List.forall_mem_cons.mpr ⟨lw_p7, List.forall_mem_cons.mpr ⟨lw_p8, List.forall_mem_cons.mpr ⟨lw_p9, List.forall_mem_cons.mpr ⟨lw_p10, List.forall_mem_cons.mpr ⟨lw_p11, List.forall_mem_cons.mpr ⟨lw_p12, List.forall_mem_cons.mpr ⟨lw_p13, List.forall_mem_cons.mpr ⟨lw_p14, List.forall_mem_cons.mpr ⟨lw_p15, fun _ h => absurd h List.not_mem_nil⟩⟩⟩⟩⟩⟩⟩⟩⟩⟩⟩⟩⟩⟩⟩⟩
theorem lw_p16 : lw_okq (⟨"ClueLogic$Answers", "weigh", "()V"⟩, 10) := ⟨⟨by decide +kernel, by decide +kernel⟩, List.mem_of_getElem? (i := 98) (by decide +kernel), List.mem_of_getElem? (i := 547) (by decide +kernel), List.mem_of_getElem? (i := 548) (by decide +kernel)⟩
theorem lw_p17 : lw_okq (⟨"ClueLogic$OfValues", "relates", "(II)Z"⟩, 3) := ⟨⟨by decide +kernel, by decide +kernel⟩, List.mem_of_getElem? (i := 460) (by decide +kernel), List.mem_of_getElem? (i := 585) (by decide +kernel), List.mem_of_getElem? (i := 586) (by decide +kernel)⟩
theorem lw_p18 : lw_okq (⟨"ClueLogic$Answers", "add", "(I)V"⟩, 10) := ⟨⟨by decide +kernel, by decide +kernel⟩, List.mem_of_getElem? (i := 98) (by decide +kernel), List.mem_of_getElem? (i := 597) (by decide +kernel), List.mem_of_getElem? (i := 598) (by decide +kernel)⟩
theorem lw_p19 : lw_okq (⟨"ClueLogic$Answers", "keep", "(I)V"⟩, 10) := ⟨⟨by decide +kernel, by decide +kernel⟩, List.mem_of_getElem? (i := 98) (by decide +kernel), List.mem_of_getElem? (i := 604) (by decide +kernel), List.mem_of_getElem? (i := 605) (by decide +kernel)⟩
theorem lw_p20 : lw_okq (⟨"ClueLogic$Answers", "need", "(I)V"⟩, 10) := ⟨⟨by decide +kernel, by decide +kernel⟩, List.mem_of_getElem? (i := 98) (by decide +kernel), List.mem_of_getElem? (i := 608) (by decide +kernel), List.mem_of_getElem? (i := 609) (by decide +kernel)⟩
theorem lw_p21 : lw_okq (⟨"ClueLogic", "isKept", "(I)Z"⟩, 6) := ⟨⟨by decide +kernel, by decide +kernel⟩, List.mem_of_getElem? (i := 22) (by decide +kernel), List.mem_of_getElem? (i := 624) (by decide +kernel), List.mem_of_getElem? (i := 625) (by decide +kernel)⟩
theorem lw_p22 : lw_okq (⟨"ClueLogic$Crossing", "takeStep", "()Z"⟩, 10) := ⟨⟨by decide +kernel, by decide +kernel⟩, List.mem_of_getElem? (i := 169) (by decide +kernel), List.mem_of_getElem? (i := 691) (by decide +kernel), List.mem_of_getElem? (i := 692) (by decide +kernel)⟩
theorem lw_p23 : lw_okq (⟨"ClueLogic$Crossing", "look", "(LClueLogic$Clue;I)V"⟩, 10) := ⟨⟨by decide +kernel, by decide +kernel⟩, List.mem_of_getElem? (i := 169) (by decide +kernel), List.mem_of_getElem? (i := 698) (by decide +kernel), List.mem_of_getElem? (i := 699) (by decide +kernel)⟩
theorem lw_p24 : lw_okq (⟨"ClueLogic$Crossing", "openParties", "()I"⟩, 10) := ⟨⟨by decide +kernel, by decide +kernel⟩, List.mem_of_getElem? (i := 169) (by decide +kernel), List.mem_of_getElem? (i := 703) (by decide +kernel), List.mem_of_getElem? (i := 704) (by decide +kernel)⟩
theorem lw_p25 : lw_okq (⟨"ClueLogic$Crossing", "seeLayout", "()V"⟩, 10) := ⟨⟨by decide +kernel, by decide +kernel⟩, List.mem_of_getElem? (i := 169) (by decide +kernel), List.mem_of_getElem? (i := 715) (by decide +kernel), List.mem_of_getElem? (i := 716) (by decide +kernel)⟩
theorem lw_p26 : lw_okq (⟨"ClueLogic$Crossing", "countUnseen", "()I"⟩, 10) := ⟨⟨by decide +kernel, by decide +kernel⟩, List.mem_of_getElem? (i := 169) (by decide +kernel), List.mem_of_getElem? (i := 722) (by decide +kernel), List.mem_of_getElem? (i := 723) (by decide +kernel)⟩
theorem lw_p27 : lw_okq (⟨"ClueLogic$Crossing", "crossOut", "(II)V"⟩, 10) := ⟨⟨by decide +kernel, by decide +kernel⟩, List.mem_of_getElem? (i := 169) (by decide +kernel), List.mem_of_getElem? (i := 727) (by decide +kernel), List.mem_of_getElem? (i := 728) (by decide +kernel)⟩
theorem lw_p28 : lw_okq (⟨"ClueLogicModel", "fresh", "()V"⟩, 36) := ⟨⟨by decide +kernel, by decide +kernel⟩, List.mem_of_getElem? (i := 760) (by decide +kernel), List.mem_of_getElem? (i := 767) (by decide +kernel), List.mem_of_getElem? (i := 768) (by decide +kernel)⟩
theorem lw_p29 : lw_okq (⟨"ClueLogicModel", "all", "()V"⟩, 36) := ⟨⟨by decide +kernel, by decide +kernel⟩, List.mem_of_getElem? (i := 760) (by decide +kernel), List.mem_of_getElem? (i := 771) (by decide +kernel), List.mem_of_getElem? (i := 772) (by decide +kernel)⟩
theorem lw_p30 : lw_okq (⟨"ClueLogicModel", "readAll", "()Z"⟩, 36) := ⟨⟨by decide +kernel, by decide +kernel⟩, List.mem_of_getElem? (i := 760) (by decide +kernel), List.mem_of_getElem? (i := 892) (by decide +kernel), List.mem_of_getElem? (i := 893) (by decide +kernel)⟩
theorem lw_p31 : lw_okq (⟨"ClueLogicModel", "digit", "(II)I"⟩, 36) := ⟨⟨by decide +kernel, by decide +kernel⟩, List.mem_of_getElem? (i := 760) (by decide +kernel), List.mem_of_getElem? (i := 896) (by decide +kernel), List.mem_of_getElem? (i := 897) (by decide +kernel)⟩
def lw_privs_2 : List (MethodName × Nat) := [(⟨"ClueLogic$Answers", "weigh", "()V"⟩, 10), (⟨"ClueLogic$OfValues", "relates", "(II)Z"⟩, 3), (⟨"ClueLogic$Answers", "add", "(I)V"⟩, 10), (⟨"ClueLogic$Answers", "keep", "(I)V"⟩, 10), (⟨"ClueLogic$Answers", "need", "(I)V"⟩, 10), (⟨"ClueLogic", "isKept", "(I)Z"⟩, 6), (⟨"ClueLogic$Crossing", "takeStep", "()Z"⟩, 10), (⟨"ClueLogic$Crossing", "look", "(LClueLogic$Clue;I)V"⟩, 10), (⟨"ClueLogic$Crossing", "openParties", "()I"⟩, 10), (⟨"ClueLogic$Crossing", "seeLayout", "()V"⟩, 10), (⟨"ClueLogic$Crossing", "countUnseen", "()I"⟩, 10), (⟨"ClueLogic$Crossing", "crossOut", "(II)V"⟩, 10), (⟨"ClueLogicModel", "fresh", "()V"⟩, 36), (⟨"ClueLogicModel", "all", "()V"⟩, 36), (⟨"ClueLogicModel", "readAll", "()Z"⟩, 36), (⟨"ClueLogicModel", "digit", "(II)I"⟩, 36)]
theorem lw_r2 : ∀ q ∈ lw_privs_2, lw_okq q := List.forall_mem_cons.mpr ⟨lw_p16, List.forall_mem_cons.mpr ⟨lw_p17, List.forall_mem_cons.mpr ⟨lw_p18, List.forall_mem_cons.mpr ⟨lw_p19, List.forall_mem_cons.mpr ⟨lw_p20, List.forall_mem_cons.mpr ⟨lw_p21, List.forall_mem_cons.mpr ⟨lw_p22, List.forall_mem_cons.mpr ⟨lw_p23, List.forall_mem_cons.mpr ⟨lw_p24, List.forall_mem_cons.mpr ⟨lw_p25, List.forall_mem_cons.mpr ⟨lw_p26, List.forall_mem_cons.mpr ⟨lw_p27, List.forall_mem_cons.mpr ⟨lw_p28, List.forall_mem_cons.mpr ⟨lw_p29, List.forall_mem_cons.mpr ⟨lw_p30, List.forall_mem_cons.mpr ⟨lw_p31, fun _ h => absurd h List.not_mem_nil⟩⟩⟩⟩⟩⟩⟩⟩⟩⟩⟩⟩⟩⟩⟩⟩
theorem lw_p32 : lw_okq (⟨"ClueLogicModel", "byteAt", "(I)I"⟩, 36) := ⟨⟨by decide +kernel, by decide +kernel⟩, List.mem_of_getElem? (i := 760) (by decide +kernel), List.mem_of_getElem? (i := 900) (by decide +kernel), List.mem_of_getElem? (i := 901) (by decide +kernel)⟩
theorem lw_p33 : lw_okq (⟨"ClueLogicModel", "readClue", "()Z"⟩, 36) := ⟨⟨by decide +kernel, by decide +kernel⟩, List.mem_of_getElem? (i := 760) (by decide +kernel), List.mem_of_getElem? (i := 904) (by decide +kernel), List.mem_of_getElem? (i := 905) (by decide +kernel)⟩
theorem lw_p34 : lw_okq (⟨"ClueLogicModel", "value", "()I"⟩, 36) := ⟨⟨by decide +kernel, by decide +kernel⟩, List.mem_of_getElem? (i := 760) (by decide +kernel), List.mem_of_getElem? (i := 911) (by decide +kernel), List.mem_of_getElem? (i := 912) (by decide +kernel)⟩
theorem lw_p35 : lw_okq (⟨"ClueLogicModel", "know", "()V"⟩, 36) := ⟨⟨by decide +kernel, by decide +kernel⟩, List.mem_of_getElem? (i := 760) (by decide +kernel), List.mem_of_getElem? (i := 923) (by decide +kernel), List.mem_of_getElem? (i := 924) (by decide +kernel)⟩
theorem lw_p36 : lw_okq (⟨"ClueLogicModel", "order", "()V"⟩, 36) := ⟨⟨by decide +kernel, by decide +kernel⟩, List.mem_of_getElem? (i := 760) (by decide +kernel), List.mem_of_getElem? (i := 927) (by decide +kernel), List.mem_of_getElem? (i := 928) (by decide +kernel)⟩
theorem lw_p37 : lw_okq (⟨"ClueLogicModel", "states", "()I"⟩, 36) := ⟨⟨by decide +kernel, by decide +kernel⟩, List.mem_of_getElem? (i := 760) (by decide +kernel), List.mem_of_getElem? (i := 931) (by decide +kernel), List.mem_of_getElem? (i := 932) (by decide +kernel)⟩
theorem lw_p38 : lw_okq (⟨"ClueLogicModel", "isSo", "(II)Z"⟩, 36) := ⟨⟨by decide +kernel, by decide +kernel⟩, List.mem_of_getElem? (i := 760) (by decide +kernel), List.mem_of_getElem? (i := 935) (by decide +kernel), List.mem_of_getElem? (i := 936) (by decide +kernel)⟩
theorem lw_p39 : lw_okq (⟨"ClueLogicModel", "seat", "(II)I"⟩, 36) := ⟨⟨by decide +kernel, by decide +kernel⟩, List.mem_of_getElem? (i := 760) (by decide +kernel), List.mem_of_getElem? (i := 939) (by decide +kernel), List.mem_of_getElem? (i := 940) (by decide +kernel)⟩
theorem lw_p40 : lw_okq (⟨"ClueLogicModel", "orderOf", "(II)I"⟩, 36) := ⟨⟨by decide +kernel, by decide +kernel⟩, List.mem_of_getElem? (i := 760) (by decide +kernel), List.mem_of_getElem? (i := 943) (by decide +kernel), List.mem_of_getElem? (i := 944) (by decide +kernel)⟩
theorem lw_p41 : lw_okq (⟨"ClueLogicModel", "isTruthful", "(II)Z"⟩, 36) := ⟨⟨by decide +kernel, by decide +kernel⟩, List.mem_of_getElem? (i := 760) (by decide +kernel), List.mem_of_getElem? (i := 947) (by decide +kernel), List.mem_of_getElem? (i := 948) (by decide +kernel)⟩
theorem lw_p42 : lw_okq (⟨"ClueLogicModel", "isAnswer", "(I)Z"⟩, 36) := ⟨⟨by decide +kernel, by decide +kernel⟩, List.mem_of_getElem? (i := 760) (by decide +kernel), List.mem_of_getElem? (i := 951) (by decide +kernel), List.mem_of_getElem? (i := 952) (by decide +kernel)⟩
theorem lw_p43 : lw_okq (⟨"ClueLogicModel", "isKept", "(I)Z"⟩, 36) := ⟨⟨by decide +kernel, by decide +kernel⟩, List.mem_of_getElem? (i := 760) (by decide +kernel), List.mem_of_getElem? (i := 959) (by decide +kernel), List.mem_of_getElem? (i := 960) (by decide +kernel)⟩
theorem lw_p44 : lw_okq (⟨"ClueLogicModel", "isOf", "(II)Z"⟩, 36) := ⟨⟨by decide +kernel, by decide +kernel⟩, List.mem_of_getElem? (i := 760) (by decide +kernel), List.mem_of_getElem? (i := 963) (by decide +kernel), List.mem_of_getElem? (i := 964) (by decide +kernel)⟩
theorem lw_p45 : lw_okq (⟨"ClueLogicModel", "valueOf", "(III)I"⟩, 36) := ⟨⟨by decide +kernel, by decide +kernel⟩, List.mem_of_getElem? (i := 760) (by decide +kernel), List.mem_of_getElem? (i := 967) (by decide +kernel), List.mem_of_getElem? (i := 968) (by decide +kernel)⟩
theorem lw_p46 : lw_okq (⟨"ClueLogicModel", "isPerson", "(I)Z"⟩, 36) := ⟨⟨by decide +kernel, by decide +kernel⟩, List.mem_of_getElem? (i := 760) (by decide +kernel), List.mem_of_getElem? (i := 975) (by decide +kernel), List.mem_of_getElem? (i := 976) (by decide +kernel)⟩
theorem lw_p47 : lw_okq (⟨"ClueLogicModel", "crossBy", "(I)I"⟩, 36) := ⟨⟨by decide +kernel, by decide +kernel⟩, List.mem_of_getElem? (i := 760) (by decide +kernel), List.mem_of_getElem? (i := 991) (by decide +kernel), List.mem_of_getElem? (i := 992) (by decide +kernel)⟩
def lw_privs_3 : List (MethodName × Nat) := [(⟨"ClueLogicModel", "byteAt", "(I)I"⟩, 36), (⟨"ClueLogicModel", "readClue", "()Z"⟩, 36), (⟨"ClueLogicModel", "value", "()I"⟩, 36), (⟨"ClueLogicModel", "know", "()V"⟩, 36), (⟨"ClueLogicModel", "order", "()V"⟩, 36), (⟨"ClueLogicModel", "states", "()I"⟩, 36), (⟨"ClueLogicModel", "isSo", "(II)Z"⟩, 36), (⟨"ClueLogicModel", "seat", "(II)I"⟩, 36), (⟨"ClueLogicModel", "orderOf", "(II)I"⟩, 36), (⟨"ClueLogicModel", "isTruthful", "(II)Z"⟩, 36), (⟨"ClueLogicModel", "isAnswer", "(I)Z"⟩, 36), (⟨"ClueLogicModel", "isKept", "(I)Z"⟩, 36), (⟨"ClueLogicModel", "isOf", "(II)Z"⟩, 36), (⟨"ClueLogicModel", "valueOf", "(III)I"⟩, 36), (⟨"ClueLogicModel", "isPerson", "(I)Z"⟩, 36), (⟨"ClueLogicModel", "crossBy", "(I)I"⟩, 36)]
theorem lw_r3 : ∀ q ∈ lw_privs_3, lw_okq q := List.forall_mem_cons.mpr ⟨lw_p32, List.forall_mem_cons.mpr ⟨lw_p33, List.forall_mem_cons.mpr ⟨lw_p34, List.forall_mem_cons.mpr ⟨lw_p35, List.forall_mem_cons.mpr ⟨lw_p36, List.forall_mem_cons.mpr ⟨lw_p37, List.forall_mem_cons.mpr ⟨lw_p38, List.forall_mem_cons.mpr ⟨lw_p39, List.forall_mem_cons.mpr ⟨lw_p40, List.forall_mem_cons.mpr ⟨lw_p41, List.forall_mem_cons.mpr ⟨lw_p42, List.forall_mem_cons.mpr ⟨lw_p43, List.forall_mem_cons.mpr ⟨lw_p44, List.forall_mem_cons.mpr ⟨lw_p45, List.forall_mem_cons.mpr ⟨lw_p46, List.forall_mem_cons.mpr ⟨lw_p47, fun _ h => absurd h List.not_mem_nil⟩⟩⟩⟩⟩⟩⟩⟩⟩⟩⟩⟩⟩⟩⟩⟩
theorem lw_p48 : lw_okq (⟨"ClueLogicModel", "isOpen", "(I)Z"⟩, 36) := ⟨⟨by decide +kernel, by decide +kernel⟩, List.mem_of_getElem? (i := 760) (by decide +kernel), List.mem_of_getElem? (i := 995) (by decide +kernel), List.mem_of_getElem? (i := 996) (by decide +kernel)⟩
def lw_privs_4 : List (MethodName × Nat) := [(⟨"ClueLogicModel", "isOpen", "(I)Z"⟩, 36)]
theorem lw_r4 : ∀ q ∈ lw_privs_4, lw_okq q := List.forall_mem_cons.mpr ⟨lw_p48, fun _ h => absurd h List.not_mem_nil⟩
def lw_privs : List (MethodName × Nat) := lw_privs_1 ++ (lw_privs_2 ++ (lw_privs_3 ++ (lw_privs_4)))
def lw_tbl : List Cond := k2_sels lw_privs ++ tables_1
theorem lw_privs_ok : ∀ q ∈ lw_privs, lw_okq q := by
  show ∀ q ∈ lw_privs_1 ++ (lw_privs_2 ++ (lw_privs_3 ++ (lw_privs_4))), lw_okq q
  exact List.forall_mem_append.mpr ⟨lw_r1, List.forall_mem_append.mpr ⟨lw_r2, List.forall_mem_append.mpr ⟨lw_r3, lw_r4⟩⟩⟩
end
section
def GW : List Cond := lw_tbl.filter goodWord
theorem mwT {w : Cond} (i : Nat) (h : tables_1[i]? = some w) (g : goodWord w = true) : w ∈ GW := List.mem_filter.mpr ⟨List.mem_append_right _ (List.mem_of_getElem? h), g⟩
theorem mwS {q : MethodName × Nat} (i : Nat) (h : lw_privs[i]? = some q) : Cond.selects q.1.cls q.1 q.1 ∈ GW := List.mem_filter.mpr ⟨List.mem_append_left _ (List.mem_map.mpr ⟨q, List.mem_of_getElem? h, rfl⟩), rfl⟩
abbrev MI : Type := MethodName × ByteArray × Nat × Option FieldType
def T_C : u_T := fun k => match k with
  | 0 => ("ClueLogic", "text", "[I", true)
  | 1 => ("ClueLogic", "length", "I", false)
  | 2 => ("ClueLogic", "puzzle", "LClueLogic$Puzzle;", false)
  | 3 => ("ClueLogic", "answers", "LClueLogic$Answers;", false)
  | 4 => ("ClueLogic", "crossing", "LClueLogic$Crossing;", false)
  | _ => ("ClueLogic", "ran", "Z", false)
def ty_C : Nat → FieldType := fun k => match k with
  | 0 => .array .int
  | 1 => .int
  | 2 => .object "ClueLogic$Puzzle"
  | 3 => .object "ClueLogic$Answers"
  | 4 => .object "ClueLogic$Crossing"
  | _ => .boolean
def T_An : u_T := fun k => match k with
  | 0 => ("ClueLogic$Answers", "puzzle", "LClueLogic$Puzzle;", true)
  | 1 => ("ClueLogic$Answers", "walk", "LClueLogic$Walk;", true)
  | 2 => ("ClueLogic$Answers", "keptOrder", "[I", true)
  | 3 => ("ClueLogic$Answers", "keptParty", "[I", true)
  | 4 => ("ClueLogic$Answers", "countWithOrder", "[I", true)
  | 5 => ("ClueLogic$Answers", "holding", "[I", true)
  | 6 => ("ClueLogic$Answers", "needed", "[Z", true)
  | 7 => ("ClueLogic$Answers", "count", "I", false)
  | 8 => ("ClueLogic$Answers", "kept", "I", false)
  | _ => ("ClueLogic$Answers", "found", "Z", false)
def ty_An : Nat → FieldType := fun k => match k with
  | 0 => .object "ClueLogic$Puzzle"
  | 1 => .object "ClueLogic$Walk"
  | 2 => .array .int
  | 3 => .array .int
  | 4 => .array .int
  | 5 => .array .int
  | 6 => .array .boolean
  | 7 => .int
  | 8 => .int
  | _ => .boolean
def T_Cr : u_T := fun k => match k with
  | 0 => ("ClueLogic$Crossing", "puzzle", "LClueLogic$Puzzle;", true)
  | 1 => ("ClueLogic$Crossing", "walk", "LClueLogic$Walk;", true)
  | 2 => ("ClueLogic$Crossing", "may", "[I", true)
  | 3 => ("ClueLogic$Crossing", "seen", "[I", true)
  | 4 => ("ClueLogic$Crossing", "mayBe", "I", false)
  | 5 => ("ClueLogic$Crossing", "seenToBe", "I", false)
  | 6 => ("ClueLogic$Crossing", "stepClue", "[I", true)
  | 7 => ("ClueLogic$Crossing", "stepCrossed", "[I", true)
  | 8 => ("ClueLogic$Crossing", "steps", "I", false)
  | _ => ("ClueLogic$Crossing", "finished", "Z", false)
def ty_Cr : Nat → FieldType := fun k => match k with
  | 0 => .object "ClueLogic$Puzzle"
  | 1 => .object "ClueLogic$Walk"
  | 2 => .array .int
  | 3 => .array .int
  | 4 => .int
  | 5 => .int
  | 6 => .array .int
  | 7 => .array .int
  | 8 => .int
  | _ => .boolean
def T_Jo : u_T := fun k => match k with
  | 0 => ("ClueLogic$Joined", "both", "Z", true)
  | 1 => ("ClueLogic$Joined", "first", "LClueLogic$Clue;", true)
  | _ => ("ClueLogic$Joined", "second", "LClueLogic$Clue;", true)
def ty_Jo : Nat → FieldType := fun k => match k with
  | 0 => .boolean
  | 1 => .object "ClueLogic$Clue"
  | _ => .object "ClueLogic$Clue"
def T_Op : u_T := fun k => match k with
  | _ => ("ClueLogic$OfPerson", "parties", "I", true)
def ty_Op : Nat → FieldType := fun k => match k with
  | _ => .int
def T_Ov : u_T := fun k => match k with
  | 0 => ("ClueLogic$OfValues", "sign", "I", true)
  | 1 => ("ClueLogic$OfValues", "v", "I", true)
  | _ => ("ClueLogic$OfValues", "w", "I", true)
def ty_Ov : Nat → FieldType := fun k => match k with
  | 0 => .int
  | 1 => .int
  | _ => .int
def T_Od : u_T := fun k => match k with
  | 0 => ("ClueLogic$Orders", "things", "I", true)
  | 1 => ("ClueLogic$Orders", "ticks", "[I", true)
  | 2 => ("ClueLogic$Orders", "value", "[I", true)
  | 3 => ("ClueLogic$Orders", "count", "I", false)
  | _ => ("ClueLogic$Orders", "allTicks", "I", false)
def ty_Od : Nat → FieldType := fun k => match k with
  | 0 => .int
  | 1 => .array .int
  | 2 => .array .int
  | 3 => .int
  | _ => .int
def T_Pz : u_T := fun k => match k with
  | 0 => ("ClueLogic$Puzzle", "things", "I", true)
  | 1 => ("ClueLogic$Puzzle", "kinds", "I", true)
  | 2 => ("ClueLogic$Puzzle", "persons", "I", true)
  | 3 => ("ClueLogic$Puzzle", "orders", "LClueLogic$Orders;", true)
  | 4 => ("ClueLogic$Puzzle", "clues", "[LClueLogic$Clue;", true)
  | _ => ("ClueLogic$Puzzle", "clueCount", "I", false)
def ty_Pz : Nat → FieldType := fun k => match k with
  | 0 => .int
  | 1 => .int
  | 2 => .int
  | 3 => .object "ClueLogic$Orders"
  | 4 => .array (.object "ClueLogic$Clue")
  | _ => .int
def T_Rd : u_T := fun k => match k with
  | 0 => ("ClueLogic$Reader", "text", "[I", true)
  | 1 => ("ClueLogic$Reader", "length", "I", true)
  | 2 => ("ClueLogic$Reader", "place", "I", false)
  | 3 => ("ClueLogic$Reader", "kinds", "I", false)
  | 4 => ("ClueLogic$Reader", "things", "I", false)
  | 5 => ("ClueLogic$Reader", "persons", "I", false)
  | _ => ("ClueLogic$Reader", "signs", "I", false)
def ty_Rd : Nat → FieldType := fun k => match k with
  | 0 => .array .int
  | 1 => .int
  | 2 => .int
  | 3 => .int
  | 4 => .int
  | 5 => .int
  | _ => .int
def T_Tu : u_T := fun k => match k with
  | 0 => ("ClueLogic$Turned", "turning", "I", true)
  | _ => ("ClueLogic$Turned", "part", "LClueLogic$Clue;", true)
def ty_Tu : Nat → FieldType := fun k => match k with
  | 0 => .int
  | _ => .object "ClueLogic$Clue"
def T_Wk : u_T := fun k => match k with
  | 0 => ("ClueLogic$Walk", "orders", "LClueLogic$Orders;", true)
  | 1 => ("ClueLogic$Walk", "kinds", "I", true)
  | 2 => ("ClueLogic$Walk", "open", "[I", true)
  | 3 => ("ClueLogic$Walk", "openCount", "[I", true)
  | 4 => ("ClueLogic$Walk", "at", "[I", true)
  | _ => ("ClueLogic$Walk", "thing", "[I", true)
def ty_Wk : Nat → FieldType := fun k => match k with
  | 0 => .object "ClueLogic$Orders"
  | 1 => .int
  | 2 => .array .int
  | 3 => .array .int
  | 4 => .array .int
  | _ => .array .int
def T_Md : u_T := fun k => match k with
  | 0 => ("ClueLogicModel", "thrown", "I", false)
  | 1 => ("ClueLogicModel", "size", "I", false)
  | 2 => ("ClueLogicModel", "text", "[I", true)
  | 3 => ("ClueLogicModel", "things", "I", false)
  | 4 => ("ClueLogicModel", "kinds", "I", false)
  | 5 => ("ClueLogicModel", "persons", "I", false)
  | 6 => ("ClueLogicModel", "clues", "I", false)
  | 7 => ("ClueLogicModel", "begins", "[I", true)
  | 8 => ("ClueLogicModel", "signs", "[I", true)
  | 9 => ("ClueLogicModel", "ones", "[I", true)
  | 10 => ("ClueLogicModel", "twos", "[I", true)
  | 11 => ("ClueLogicModel", "newThings", "I", false)
  | 12 => ("ClueLogicModel", "newKinds", "I", false)
  | 13 => ("ClueLogicModel", "newPersons", "I", false)
  | 14 => ("ClueLogicModel", "newClues", "I", false)
  | 15 => ("ClueLogicModel", "at", "I", false)
  | 16 => ("ClueLogicModel", "newBegins", "[I", true)
  | 17 => ("ClueLogicModel", "newSigns", "[I", true)
  | 18 => ("ClueLogicModel", "newOnes", "[I", true)
  | 19 => ("ClueLogicModel", "newTwos", "[I", true)
  | 20 => ("ClueLogicModel", "orders", "I", false)
  | 21 => ("ClueLogicModel", "values", "[I", true)
  | 22 => ("ClueLogicModel", "seats", "[I", true)
  | 23 => ("ClueLogicModel", "isKnown", "Z", false)
  | 24 => ("ClueLogicModel", "isCrossed", "Z", false)
  | 25 => ("ClueLogicModel", "holds", "[I", true)
  | 26 => ("ClueLogicModel", "pile", "[Z", true)
  | 27 => ("ClueLogicModel", "kept", "I", false)
  | 28 => ("ClueLogicModel", "answers", "[I", true)
  | 29 => ("ClueLogicModel", "may", "[I", true)
  | 30 => ("ClueLogicModel", "mayBe", "[I", true)
  | 31 => ("ClueLogicModel", "some", "[I", true)
  | 32 => ("ClueLogicModel", "someBe", "[I", true)
  | 33 => ("ClueLogicModel", "steps", "I", false)
  | 34 => ("ClueLogicModel", "stepClue", "[I", true)
  | _ => ("ClueLogicModel", "stepMuch", "[I", true)
def ty_Md : Nat → FieldType := fun k => match k with
  | 0 => .int
  | 1 => .int
  | 2 => .array .int
  | 3 => .int
  | 4 => .int
  | 5 => .int
  | 6 => .int
  | 7 => .array .int
  | 8 => .array .int
  | 9 => .array .int
  | 10 => .array .int
  | 11 => .int
  | 12 => .int
  | 13 => .int
  | 14 => .int
  | 15 => .int
  | 16 => .array .int
  | 17 => .array .int
  | 18 => .array .int
  | 19 => .array .int
  | 20 => .int
  | 21 => .array .int
  | 22 => .array .int
  | 23 => .boolean
  | 24 => .boolean
  | 25 => .array .int
  | 26 => .array .boolean
  | 27 => .int
  | 28 => .array .int
  | 29 => .array .int
  | 30 => .array .int
  | 31 => .array .int
  | 32 => .array .int
  | 33 => .int
  | 34 => .array .int
  | _ => .array .int
abbrev classes : List vw_C := [("ClueLogic", T_C, 6), ("ClueLogic$Answers", T_An, 10), ("ClueLogic$Crossing", T_Cr, 10), ("ClueLogic$Joined", T_Jo, 3), ("ClueLogic$OfPerson", T_Op, 1), ("ClueLogic$OfValues", T_Ov, 3), ("ClueLogic$Orders", T_Od, 5), ("ClueLogic$Puzzle", T_Pz, 6), ("ClueLogic$Reader", T_Rd, 7), ("ClueLogic$Turned", T_Tu, 2), ("ClueLogic$Walk", T_Wk, 6), ("ClueLogicModel", T_Md, 36)]
abbrev atys : List FieldType := [.int, .boolean, .byte, .object "ClueLogic$Clue"]
abbrev nestF : List (String × Nat × String × String × String × String) := [("ClueLogic$Puzzle", 39, "ClueLogic", "PARTIES_OF", "[I", "ClueLogic"), ("ClueLogic$Crossing", 138, "ClueLogic", "TRUTHFUL", "[I", "ClueLogic"), ("ClueLogic$OfPerson", 7, "ClueLogic", "TRUTHFUL", "[I", "ClueLogic"), ("ClueLogic$Reader", 88, "ClueLogic", "TRUTHFUL", "[I", "ClueLogic"), ("ClueLogic$Answers", 60, "ClueLogic", "TRUTHFUL", "[I", "ClueLogic")]
abbrev xHolds : MethodName := ⟨"ClueLogic$Clue", "holds", "([I)I"⟩
abbrev faceW : List (String × MethodName × MethodName) := [("ClueLogic$Joined", xHolds, ⟨"ClueLogic$Joined", "holds", "([I)I"⟩), ("ClueLogic$OfPerson", xHolds, ⟨"ClueLogic$OfPerson", "holds", "([I)I"⟩), ("ClueLogic$OfValues", xHolds, ⟨"ClueLogic$OfValues", "holds", "([I)I"⟩), ("ClueLogic$Turned", xHolds, ⟨"ClueLogic$Turned", "holds", "([I)I"⟩)]
abbrev castW : List (String × String) := [("ClueLogic$Joined", "ClueLogic$Clue"), ("ClueLogic$OfPerson", "ClueLogic$Clue"), ("ClueLogic$OfValues", "ClueLogic$Clue"), ("ClueLogic$Turned", "ClueLogic$Clue")]
abbrev overW : List String := ["ClueLogic$Clue"]
/-- the statics: class, name, descriptor, value; the two arrays lie at ad 0 and ad 1 -/
abbrev stats (ad : Nat → Nat) : List (String × String × String × Value) := [("ClueLogic", "TRUTHFUL", "[I", .ref (ad 0)), ("ClueLogic", "PARTIES_OF", "[I", .ref (ad 1))]
theorem faceW_ok : ∀ q ∈ faceW, q.2.1.cls ≠ "java/lang/invoke/MethodHandle" ∧ q.2.1.cls ≠ "java/lang/invoke/VarHandle" := by decide +kernel
abbrev m_C_init : MI := (⟨"ClueLogic", "<init>", "()V"⟩, prog_1_method_1_code, 1, none)
abbrev m_Ob_init : MI := (⟨"java/lang/Object", "<init>", "()V"⟩, object_method_1_code, 1, none)
abbrev m_Pz_init : MI := (⟨"ClueLogic$Puzzle", "<init>", "(III)V"⟩, prog_9_method_1_code, 4, none)
abbrev m_Od_init : MI := (⟨"ClueLogic$Orders", "<init>", "(I)V"⟩, prog_8_method_1_code, 2, none)
abbrev m_Od_fill : MI := (⟨"ClueLogic$Orders", "fill", "(II)V"⟩, prog_8_method_7_code, 4, none)
abbrev m_Od_add : MI := (⟨"ClueLogic$Orders", "add", "(I)V"⟩, prog_8_method_8_code, 4, none)
abbrev m_In_bitCount : MI := (⟨"java/lang/Integer", "bitCount", "(I)I"⟩, prog_16_method_49_code, 1, some .int)
abbrev m_C_begin : MI := (⟨"ClueLogic", "begin", "(LClueLogic$Puzzle;)V"⟩, prog_1_method_14_code, 2, none)
abbrev m_An_init : MI := (⟨"ClueLogic$Answers", "<init>", "(LClueLogic$Puzzle;)V"⟩, prog_2_method_1_code, 2, none)
abbrev m_Wk_init : MI := (⟨"ClueLogic$Walk", "<init>", "(LClueLogic$Puzzle;)V"⟩, prog_12_method_1_code, 2, none)
abbrev m_Pz_orders : MI := (⟨"ClueLogic$Puzzle", "orders", "()LClueLogic$Orders;"⟩, prog_9_method_7_code, 1, some (.object "ClueLogic$Orders"))
abbrev m_Pz_kinds : MI := (⟨"ClueLogic$Puzzle", "kinds", "()I"⟩, prog_9_method_4_code, 1, some .int)
abbrev m_Cr_init : MI := (⟨"ClueLogic$Crossing", "<init>", "(LClueLogic$Puzzle;)V"⟩, prog_4_method_1_code, 3, none)
abbrev m_Od_allTicks : MI := (⟨"ClueLogic$Orders", "allTicks", "()I"⟩, prog_8_method_5_code, 1, some .int)
abbrev m_Pz_parties : MI := (⟨"ClueLogic$Puzzle", "parties", "()I"⟩, prog_9_method_14_code, 1, some .int)
abbrev m_Cr_waysIn : MI := (⟨"ClueLogic$Crossing", "waysIn", "(I)I"⟩, prog_4_method_12_code, 6, some .int)
abbrev m_Pz_persons : MI := (⟨"ClueLogic$Puzzle", "persons", "()I"⟩, prog_9_method_5_code, 1, some .int)
abbrev m_C_unit : MI := (⟨"ClueLogic", "unit", "(I)Z"⟩, prog_1_method_2_code, 2, some .boolean)
abbrev m_C_read : MI := (⟨"ClueLogic", "read", "()I"⟩, prog_1_method_3_code, 3, some .int)
abbrev m_Rd_init : MI := (⟨"ClueLogic$Reader", "<init>", "([II)V"⟩, prog_10_method_1_code, 3, none)
abbrev m_Rd_puzzle : MI := (⟨"ClueLogic$Reader", "puzzle", "()LClueLogic$Puzzle;"⟩, prog_10_method_3_code, 4, some (.object "ClueLogic$Puzzle"))
abbrev m_Rd_passHead : MI := (⟨"ClueLogic$Reader", "passHead", "()Z"⟩, prog_10_method_4_code, 1, some .boolean)
abbrev m_Rd_take : MI := (⟨"ClueLogic$Reader", "take", "(III)I"⟩, prog_10_method_13_code, 5, some .int)
abbrev m_Rd_passSemicolon : MI := (⟨"ClueLogic$Reader", "passSemicolon", "()Z"⟩, prog_10_method_12_code, 1, some .boolean)
abbrev m_Rd_clue : MI := (⟨"ClueLogic$Reader", "clue", "()LClueLogic$Clue;"⟩, prog_10_method_5_code, 2, some (.object "ClueLogic$Clue"))
abbrev m_St_indexOf : MI := (⟨"java/lang/String", "indexOf", "(I)I"⟩, prog_18_method_79_code, 2, some .int)
abbrev m_St_indexOf2 : MI := (⟨"java/lang/String", "indexOf", "(II)I"⟩, prog_18_method_80_code, 3, some .int)
abbrev m_St_isLatin1 : MI := (⟨"java/lang/String", "isLatin1", "()Z"⟩, prog_18_method_154_code, 1, some .boolean)
abbrev m_St_length : MI := (⟨"java/lang/String", "length", "()I"⟩, prog_18_method_54_code, 1, some .int)
abbrev m_St_coder : MI := (⟨"java/lang/String", "coder", "()B"⟩, prog_18_method_152_code, 1, some .byte)
abbrev m_Sl_indexOf : MI := (⟨"java/lang/StringLatin1", "indexOf", "([BIII)I"⟩, prog_19_method_22_code, 4, some .int)
abbrev m_Sl_canEncode : MI := (⟨"java/lang/StringLatin1", "canEncode", "(I)Z"⟩, prog_19_method_4_code, 1, some .boolean)
abbrev m_Ma_max : MI := (⟨"java/lang/Math", "max", "(II)I"⟩, prog_17_method_65_code, 2, some .int)
abbrev m_Ma_min : MI := (⟨"java/lang/Math", "min", "(II)I"⟩, prog_17_method_69_code, 2, some .int)
abbrev m_Sl_indexOfChar : MI := (⟨"java/lang/StringLatin1", "indexOfChar", "([BIII)I"⟩, prog_19_method_23_code, 6, some .int)
abbrev m_Su_indexOf : MI := (⟨"java/lang/StringUTF16", "indexOf", "([BIII)I"⟩, prog_20_method_40_code, 4, some .int)
abbrev m_Su_indexOfChar : MI := (⟨"java/lang/StringUTF16", "indexOfChar", "([BIII)I"⟩, prog_20_method_47_code, 4, some .int)
abbrev m_Su_checkBoundsBeginEnd : MI := (⟨"java/lang/StringUTF16", "checkBoundsBeginEnd", "(II[B)V"⟩, prog_20_method_93_code, 3, none)
abbrev m_Su_length : MI := (⟨"java/lang/StringUTF16", "length", "([B)I"⟩, prog_20_method_6_code, 1, some .int)
abbrev m_St_checkBoundsBeginEnd : MI := (⟨"java/lang/String", "checkBoundsBeginEnd", "(III)V"⟩, prog_18_method_158_code, 3, none)
abbrev m_Pr_checkFromToIndex : MI := (⟨"jdk/internal/util/Preconditions", "checkFromToIndex", "(IIILjava/util/function/BiFunction;)I"⟩, prog_22_method_12_code, 4, some .int)
abbrev m_Su_indexOfCharUnsafe : MI := (⟨"java/lang/StringUTF16", "indexOfCharUnsafe", "([BIII)I"⟩, prog_20_method_48_code, 5, some .int)
abbrev m_Su_getChar : MI := (⟨"java/lang/StringUTF16", "getChar", "([BI)C"⟩, prog_20_method_5_code, 2, some .char)
abbrev m_Su_indexOfSupplementary : MI := (⟨"java/lang/StringUTF16", "indexOfSupplementary", "([BIII)I"⟩, prog_20_method_49_code, 7, some .int)
abbrev m_Ch_isValidCodePoint : MI := (⟨"java/lang/Character", "isValidCodePoint", "(I)Z"⟩, prog_15_method_11_code, 2, some .boolean)
abbrev m_Ch_highSurrogate : MI := (⟨"java/lang/Character", "highSurrogate", "(I)C"⟩, prog_15_method_28_code, 1, some .char)
abbrev m_Ch_lowSurrogate : MI := (⟨"java/lang/Character", "lowSurrogate", "(I)C"⟩, prog_15_method_29_code, 1, some .char)
abbrev m_Rd_ofPerson : MI := (⟨"ClueLogic$Reader", "ofPerson", "()LClueLogic$Clue;"⟩, prog_10_method_6_code, 2, some (.object "ClueLogic$Clue"))
abbrev m_Op_init : MI := (⟨"ClueLogic$OfPerson", "<init>", "(I)V"⟩, prog_6_method_1_code, 2, none)
abbrev m_Rd_saying : MI := (⟨"ClueLogic$Reader", "saying", "()LClueLogic$Clue;"⟩, prog_10_method_7_code, 2, some (.object "ClueLogic$Clue"))
abbrev m_Rd_turned : MI := (⟨"ClueLogic$Reader", "turned", "(I)LClueLogic$Clue;"⟩, prog_10_method_8_code, 3, some (.object "ClueLogic$Clue"))
abbrev m_Tu_init : MI := (⟨"ClueLogic$Turned", "<init>", "(ILClueLogic$Clue;)V"⟩, prog_11_method_1_code, 3, none)
abbrev m_Rd_joined : MI := (⟨"ClueLogic$Reader", "joined", "(Z)LClueLogic$Clue;"⟩, prog_10_method_9_code, 4, some (.object "ClueLogic$Clue"))
abbrev m_Jo_init : MI := (⟨"ClueLogic$Joined", "<init>", "(ZLClueLogic$Clue;LClueLogic$Clue;)V"⟩, prog_5_method_1_code, 4, none)
abbrev m_Rd_ofValues : MI := (⟨"ClueLogic$Reader", "ofValues", "(I)LClueLogic$Clue;"⟩, prog_10_method_10_code, 4, some (.object "ClueLogic$Clue"))
abbrev m_Rd_takeValue : MI := (⟨"ClueLogic$Reader", "takeValue", "()I"⟩, prog_10_method_11_code, 3, some .int)
abbrev m_Ov_init : MI := (⟨"ClueLogic$OfValues", "<init>", "(III)V"⟩, prog_7_method_1_code, 4, none)
abbrev m_Pz_add : MI := (⟨"ClueLogic$Puzzle", "add", "(LClueLogic$Clue;)V"⟩, prog_9_method_2_code, 2, none)
abbrev m_Rd_place : MI := (⟨"ClueLogic$Reader", "place", "()I"⟩, prog_10_method_2_code, 1, some .int)
abbrev m_Pz_clueCount : MI := (⟨"ClueLogic$Puzzle", "clueCount", "()I"⟩, prog_9_method_6_code, 1, some .int)
abbrev m_C_told : MI := (⟨"ClueLogic", "told", "(I)I"⟩, prog_1_method_4_code, 2, some .int)
abbrev m_Pz_things : MI := (⟨"ClueLogic$Puzzle", "things", "()I"⟩, prog_9_method_3_code, 1, some .int)
abbrev m_C_run : MI := (⟨"ClueLogic", "run", "()I"⟩, prog_1_method_5_code, 1, some .int)
abbrev m_An_find : MI := (⟨"ClueLogic$Answers", "find", "()V"⟩, prog_2_method_8_code, 4, none)
abbrev m_Ar_fill : MI := (⟨"java/util/Arrays", "fill", "([II)V"⟩, prog_21_method_103_code, 4, none)
abbrev m_Wk_choose : MI := (⟨"ClueLogic$Walk", "choose", "([I)I"⟩, prog_12_method_2_code, 4, some .int)
abbrev m_Wk_chooseOrders : MI := (⟨"ClueLogic$Walk", "chooseOrders", "(II)I"⟩, prog_12_method_3_code, 5, some .int)
abbrev m_Od_count : MI := (⟨"ClueLogic$Orders", "count", "()I"⟩, prog_8_method_3_code, 1, some .int)
abbrev m_Od_ticks : MI := (⟨"ClueLogic$Orders", "ticks", "(I)I"⟩, prog_8_method_4_code, 2, some .int)
abbrev m_Wk_start : MI := (⟨"ClueLogic$Walk", "start", "()V"⟩, prog_12_method_4_code, 2, none)
abbrev m_Wk_go : MI := (⟨"ClueLogic$Walk", "go", "(II)V"⟩, prog_12_method_8_code, 5, none)
abbrev m_Wk_order : MI := (⟨"ClueLogic$Walk", "order", "(I)I"⟩, prog_12_method_6_code, 2, some .int)
abbrev m_Od_things : MI := (⟨"ClueLogic$Orders", "things", "()I"⟩, prog_8_method_2_code, 1, some .int)
abbrev m_Od_value : MI := (⟨"ClueLogic$Orders", "value", "(II)I"⟩, prog_8_method_6_code, 3, some .int)
abbrev m_An_weigh : MI := (⟨"ClueLogic$Answers", "weigh", "()V"⟩, prog_2_method_9_code, 5, none)
abbrev m_Pz_clue : MI := (⟨"ClueLogic$Puzzle", "clue", "(I)LClueLogic$Clue;"⟩, prog_9_method_8_code, 2, some (.object "ClueLogic$Clue"))
abbrev m_Wk_thing : MI := (⟨"ClueLogic$Walk", "thing", "()[I"⟩, prog_12_method_7_code, 1, some (.array .int))
abbrev m_Jo_holds : MI := (⟨"ClueLogic$Joined", "holds", "([I)I"⟩, prog_5_method_2_code, 4, some .int)
abbrev m_Op_holds : MI := (⟨"ClueLogic$OfPerson", "holds", "([I)I"⟩, prog_6_method_2_code, 2, some .int)
abbrev m_Ov_holds : MI := (⟨"ClueLogic$OfValues", "holds", "([I)I"⟩, prog_7_method_2_code, 2, some .int)
abbrev m_Ov_relates : MI := (⟨"ClueLogic$OfValues", "relates", "(II)Z"⟩, prog_7_method_3_code, 3, some .boolean)
abbrev m_Tu_holds : MI := (⟨"ClueLogic$Turned", "holds", "([I)I"⟩, prog_11_method_2_code, 2, some .int)
abbrev m_An_add : MI := (⟨"ClueLogic$Answers", "add", "(I)V"⟩, prog_2_method_10_code, 4, none)
abbrev m_An_keep : MI := (⟨"ClueLogic$Answers", "keep", "(I)V"⟩, prog_2_method_11_code, 3, none)
abbrev m_An_need : MI := (⟨"ClueLogic$Answers", "need", "(I)V"⟩, prog_2_method_12_code, 3, none)
abbrev m_Wk_next : MI := (⟨"ClueLogic$Walk", "next", "()V"⟩, prog_12_method_5_code, 2, none)
abbrev m_An_count : MI := (⟨"ClueLogic$Answers", "count", "()I"⟩, prog_2_method_2_code, 1, some .int)
abbrev m_C_answer : MI := (⟨"ClueLogic", "answer", "(III)I"⟩, prog_1_method_6_code, 4, some .int)
abbrev m_C_isKept : MI := (⟨"ClueLogic", "isKept", "(I)Z"⟩, prog_1_method_15_code, 2, some .boolean)
abbrev m_An_kept : MI := (⟨"ClueLogic$Answers", "kept", "()I"⟩, prog_2_method_3_code, 1, some .int)
abbrev m_Pz_hasThing : MI := (⟨"ClueLogic$Puzzle", "hasThing", "(I)Z"⟩, prog_9_method_9_code, 2, some .boolean)
abbrev m_Pz_hasKind : MI := (⟨"ClueLogic$Puzzle", "hasKind", "(I)Z"⟩, prog_9_method_10_code, 2, some .boolean)
abbrev m_An_value : MI := (⟨"ClueLogic$Answers", "value", "(III)I"⟩, prog_2_method_4_code, 4, some .int)
abbrev m_C_truth : MI := (⟨"ClueLogic", "truth", "(II)I"⟩, prog_1_method_7_code, 3, some .int)
abbrev m_Pz_hasPerson : MI := (⟨"ClueLogic$Puzzle", "hasPerson", "(I)Z"⟩, prog_9_method_12_code, 2, some .boolean)
abbrev m_An_isTruthful : MI := (⟨"ClueLogic$Answers", "isTruthful", "(II)Z"⟩, prog_2_method_5_code, 3, some .boolean)
abbrev m_C_often : MI := (⟨"ClueLogic", "often", "(III)I"⟩, prog_1_method_8_code, 4, some .int)
abbrev m_Pz_hasValue : MI := (⟨"ClueLogic$Puzzle", "hasValue", "(I)Z"⟩, prog_9_method_11_code, 2, some .boolean)
abbrev m_An_countWith : MI := (⟨"ClueLogic$Answers", "countWith", "(III)I"⟩, prog_2_method_6_code, 6, some .int)
abbrev m_C_spare : MI := (⟨"ClueLogic", "spare", "(I)Z"⟩, prog_1_method_9_code, 2, some .boolean)
abbrev m_Pz_hasClue : MI := (⟨"ClueLogic$Puzzle", "hasClue", "(I)Z"⟩, prog_9_method_13_code, 2, some .boolean)
abbrev m_An_isNeeded : MI := (⟨"ClueLogic$Answers", "isNeeded", "(I)Z"⟩, prog_2_method_7_code, 2, some .boolean)
abbrev m_C_cross : MI := (⟨"ClueLogic", "cross", "()I"⟩, prog_1_method_10_code, 1, some .int)
abbrev m_Cr_finish : MI := (⟨"ClueLogic$Crossing", "finish", "()V"⟩, prog_4_method_7_code, 3, none)
abbrev m_Cr_takeStep : MI := (⟨"ClueLogic$Crossing", "takeStep", "()Z"⟩, prog_4_method_8_code, 4, some .boolean)
abbrev m_Cr_look : MI := (⟨"ClueLogic$Crossing", "look", "(LClueLogic$Clue;I)V"⟩, prog_4_method_9_code, 7, none)
abbrev m_Cr_openParties : MI := (⟨"ClueLogic$Crossing", "openParties", "()I"⟩, prog_4_method_11_code, 6, some .int)
abbrev m_Cr_waysLeft : MI := (⟨"ClueLogic$Crossing", "waysLeft", "(I)I"⟩, prog_4_method_6_code, 2, some .int)
abbrev m_Cr_seeLayout : MI := (⟨"ClueLogic$Crossing", "seeLayout", "()V"⟩, prog_4_method_10_code, 2, none)
abbrev m_Cr_countUnseen : MI := (⟨"ClueLogic$Crossing", "countUnseen", "()I"⟩, prog_4_method_13_code, 3, some .int)
abbrev m_Cr_crossOut : MI := (⟨"ClueLogic$Crossing", "crossOut", "(II)V"⟩, prog_4_method_14_code, 4, none)
abbrev m_Cr_steps : MI := (⟨"ClueLogic$Crossing", "steps", "()I"⟩, prog_4_method_2_code, 1, some .int)
abbrev m_C_step : MI := (⟨"ClueLogic", "step", "(II)I"⟩, prog_1_method_11_code, 3, some .int)
abbrev m_Cr_clueOf : MI := (⟨"ClueLogic$Crossing", "clueOf", "(I)I"⟩, prog_4_method_3_code, 2, some .int)
abbrev m_Cr_crossedBy : MI := (⟨"ClueLogic$Crossing", "crossedBy", "(I)I"⟩, prog_4_method_4_code, 2, some .int)
abbrev m_C_may : MI := (⟨"ClueLogic", "may", "(II)I"⟩, prog_1_method_12_code, 3, some .int)
abbrev m_Cr_valuesLeft : MI := (⟨"ClueLogic$Crossing", "valuesLeft", "(II)I"⟩, prog_4_method_5_code, 3, some .int)
abbrev m_C_mayBe : MI := (⟨"ClueLogic", "mayBe", "(I)I"⟩, prog_1_method_13_code, 2, some .int)
abbrev m_Md_init : MI := (⟨"ClueLogicModel", "<init>", "()V"⟩, prog_14_method_1_code, 1, none)
abbrev m_Md_fresh : MI := (⟨"ClueLogicModel", "fresh", "()V"⟩, prog_14_method_3_code, 1, none)
abbrev m_Md_all : MI := (⟨"ClueLogicModel", "all", "()V"⟩, prog_14_method_4_code, 2, none)
abbrev m_Md_unit : MI := (⟨"ClueLogicModel", "unit", "(I)Z"⟩, prog_14_method_5_code, 2, some .boolean)
abbrev m_Md_read : MI := (⟨"ClueLogicModel", "read", "()I"⟩, prog_14_method_12_code, 3, some .int)
abbrev m_Md_readAll : MI := (⟨"ClueLogicModel", "readAll", "()Z"⟩, prog_14_method_11_code, 1, some .boolean)
abbrev m_Md_digit : MI := (⟨"ClueLogicModel", "digit", "(II)I"⟩, prog_14_method_7_code, 4, some .int)
abbrev m_Md_byteAt : MI := (⟨"ClueLogicModel", "byteAt", "(I)I"⟩, prog_14_method_6_code, 2, some .int)
abbrev m_Md_readClue : MI := (⟨"ClueLogicModel", "readClue", "()Z"⟩, prog_14_method_10_code, 4, some .boolean)
abbrev m_Md_signOf : MI := (⟨"ClueLogicModel", "signOf", "(I)I"⟩, prog_14_method_9_code, 1, some .int)
abbrev m_Md_value : MI := (⟨"ClueLogicModel", "value", "()I"⟩, prog_14_method_8_code, 3, some .int)
abbrev m_Md_told : MI := (⟨"ClueLogicModel", "told", "(I)I"⟩, prog_14_method_13_code, 2, some .int)
abbrev m_Md_run : MI := (⟨"ClueLogicModel", "run", "()I"⟩, prog_14_method_23_code, 3, some .int)
abbrev m_Md_know : MI := (⟨"ClueLogicModel", "know", "()V"⟩, prog_14_method_21_code, 3, none)
abbrev m_Md_order : MI := (⟨"ClueLogicModel", "order", "()V"⟩, prog_14_method_14_code, 6, none)
abbrev m_Md_states : MI := (⟨"ClueLogicModel", "states", "()I"⟩, prog_14_method_15_code, 3, some .int)
abbrev m_Md_isSo : MI := (⟨"ClueLogicModel", "isSo", "(II)Z"⟩, prog_14_method_20_code, 8, some .boolean)
abbrev m_Md_seat : MI := (⟨"ClueLogicModel", "seat", "(II)I"⟩, prog_14_method_19_code, 3, some .int)
abbrev m_Md_orderOf : MI := (⟨"ClueLogicModel", "orderOf", "(II)I"⟩, prog_14_method_16_code, 5, some .int)
abbrev m_Md_isTruthful : MI := (⟨"ClueLogicModel", "isTruthful", "(II)Z"⟩, prog_14_method_17_code, 3, some .boolean)
abbrev m_Md_isAnswer : MI := (⟨"ClueLogicModel", "isAnswer", "(I)Z"⟩, prog_14_method_22_code, 2, some .boolean)
abbrev m_Md_answer : MI := (⟨"ClueLogicModel", "answer", "(III)I"⟩, prog_14_method_27_code, 4, some .int)
abbrev m_Md_isKept : MI := (⟨"ClueLogicModel", "isKept", "(I)Z"⟩, prog_14_method_24_code, 2, some .boolean)
abbrev m_Md_isOf : MI := (⟨"ClueLogicModel", "isOf", "(II)Z"⟩, prog_14_method_25_code, 3, some .boolean)
abbrev m_Md_valueOf : MI := (⟨"ClueLogicModel", "valueOf", "(III)I"⟩, prog_14_method_18_code, 4, some .int)
abbrev m_Md_truth : MI := (⟨"ClueLogicModel", "truth", "(II)I"⟩, prog_14_method_28_code, 3, some .int)
abbrev m_Md_isPerson : MI := (⟨"ClueLogicModel", "isPerson", "(I)Z"⟩, prog_14_method_26_code, 2, some .boolean)
abbrev m_Md_often : MI := (⟨"ClueLogicModel", "often", "(III)I"⟩, prog_14_method_29_code, 6, some .int)
abbrev m_Md_spare : MI := (⟨"ClueLogicModel", "spare", "(I)Z"⟩, prog_14_method_30_code, 4, some .boolean)
abbrev m_Md_cross : MI := (⟨"ClueLogicModel", "cross", "()I"⟩, prog_14_method_34_code, 3, some .int)
abbrev m_Md_crossBy : MI := (⟨"ClueLogicModel", "crossBy", "(I)I"⟩, prog_14_method_33_code, 5, some .int)
abbrev m_Md_isOpen : MI := (⟨"ClueLogicModel", "isOpen", "(I)Z"⟩, prog_14_method_31_code, 4, some .boolean)
abbrev m_Md_countOf : MI := (⟨"ClueLogicModel", "countOf", "(I)I"⟩, prog_14_method_32_code, 3, some .int)
abbrev m_Md_step : MI := (⟨"ClueLogicModel", "step", "(II)I"⟩, prog_14_method_35_code, 3, some .int)
abbrev m_Md_may : MI := (⟨"ClueLogicModel", "may", "(II)I"⟩, prog_14_method_36_code, 3, some .int)
abbrev m_Md_mayBe : MI := (⟨"ClueLogicModel", "mayBe", "(I)I"⟩, prog_14_method_37_code, 2, some .int)
end
section
theorem wd_1 : (Jvm.Cond.initialized "ClueLogic") ∈ GW := mwT 1 (by decide +kernel) rfl
theorem wd_2 : (Jvm.Cond.initialized "ClueLogic$Puzzle") ∈ GW := mwT 2 (by decide +kernel) rfl
theorem wd_3 : (Jvm.Cond.initialized "ClueLogic$Orders") ∈ GW := mwT 3 (by decide +kernel) rfl
theorem wd_4 : (Jvm.Cond.initialized "java/lang/Integer") ∈ GW := mwT 4 (by decide +kernel) rfl
theorem wd_5 : (Jvm.Cond.initialized "ClueLogic$Answers") ∈ GW := mwT 5 (by decide +kernel) rfl
theorem wd_6 : (Jvm.Cond.initialized "ClueLogic$Walk") ∈ GW := mwT 6 (by decide +kernel) rfl
theorem wd_7 : (Jvm.Cond.initialized "ClueLogic$Crossing") ∈ GW := mwT 7 (by decide +kernel) rfl
theorem wd_8 : (Jvm.Cond.initialized "ClueLogicModel") ∈ GW := mwT 8 (by decide +kernel) rfl
theorem wd_9 : (Jvm.Cond.initialized "ClueLogic$Reader") ∈ GW := mwT 9 (by decide +kernel) rfl
theorem wd_10 : (Jvm.Cond.initialized "java/lang/String") ∈ GW := mwT 10 (by decide +kernel) rfl
theorem wd_11 : (Jvm.Cond.initialized "java/lang/StringLatin1") ∈ GW := mwT 11 (by decide +kernel) rfl
theorem wd_12 : (Jvm.Cond.initialized "java/lang/Math") ∈ GW := mwT 12 (by decide +kernel) rfl
theorem wd_13 : (Jvm.Cond.initialized "java/lang/StringUTF16") ∈ GW := mwT 13 (by decide +kernel) rfl
theorem wd_14 : (Jvm.Cond.initialized "jdk/internal/util/Preconditions") ∈ GW := mwT 14 (by decide +kernel) rfl
theorem wd_15 : (Jvm.Cond.initialized "java/lang/Character") ∈ GW := mwT 15 (by decide +kernel) rfl
theorem wd_16 : (Jvm.Cond.initialized "ClueLogic$OfPerson") ∈ GW := mwT 16 (by decide +kernel) rfl
theorem wd_17 : (Jvm.Cond.initialized "ClueLogic$Turned") ∈ GW := mwT 17 (by decide +kernel) rfl
theorem wd_18 : (Jvm.Cond.initialized "ClueLogic$Joined") ∈ GW := mwT 18 (by decide +kernel) rfl
theorem wd_19 : (Jvm.Cond.initialized "ClueLogic$OfValues") ∈ GW := mwT 19 (by decide +kernel) rfl
theorem wd_20 : (Jvm.Cond.initialized "java/util/Arrays") ∈ GW := mwT 20 (by decide +kernel) rfl
theorem wd_21 : (Jvm.Cond.classLink "ClueLogicLaw" (7 : Nat) "ClueLogic") ∈ GW := mwT 21 (by decide +kernel) rfl
theorem wd_22 : (Jvm.Cond.instantiable "ClueLogic" (6 : Nat)) ∈ GW := mwT 22 (by decide +kernel) rfl
theorem wd_23 : (Jvm.Cond.methodLink "ClueLogicLaw" (9 : Nat) ({ cls := "ClueLogic", name := "<init>", desc := "()V" } : Jvm.MethodName)) ∈ GW := mwT 23 (by decide +kernel) rfl
theorem wd_24 : (Jvm.Cond.instanceMethod ({ cls := "ClueLogic", name := "<init>", desc := "()V" } : Jvm.MethodName)) ∈ GW := mwT 24 (by decide +kernel) rfl
theorem wd_25 : (Jvm.Cond.code ({ cls := "ClueLogic", name := "<init>", desc := "()V" } : Jvm.MethodName) prog_1_method_1_code (1 : Nat) (Option.none : Option Jvm.ClassFile.FieldType)) ∈ GW := mwT 25 (by decide +kernel) rfl
theorem wd_26 : (Jvm.Cond.methodLink "ClueLogic" (3 : Nat) ({ cls := "java/lang/Object", name := "<init>", desc := "()V" } : Jvm.MethodName)) ∈ GW := mwT 26 (by decide +kernel) rfl
theorem wd_27 : (Jvm.Cond.instanceMethod ({ cls := "java/lang/Object", name := "<init>", desc := "()V" } : Jvm.MethodName)) ∈ GW := mwT 27 (by decide +kernel) rfl
theorem wd_28 : (Jvm.Cond.code ({ cls := "java/lang/Object", name := "<init>", desc := "()V" } : Jvm.MethodName) object_method_1_code (1 : Nat) (Option.none : Option Jvm.ClassFile.FieldType)) ∈ GW := mwT 28 (by decide +kernel) rfl
theorem wd_29 : (Jvm.Cond.classLink "ClueLogic" (13 : Nat) "ClueLogic$Puzzle") ∈ GW := mwT 29 (by decide +kernel) rfl
theorem wd_30 : (Jvm.Cond.instantiable "ClueLogic$Puzzle" (6 : Nat)) ∈ GW := mwT 30 (by decide +kernel) rfl
theorem wd_31 : (Jvm.Cond.methodLink "ClueLogic" (15 : Nat) ({ cls := "ClueLogic$Puzzle", name := "<init>", desc := "(III)V" } : Jvm.MethodName)) ∈ GW := mwT 31 (by decide +kernel) rfl
theorem wd_32 : (Jvm.Cond.instanceMethod ({ cls := "ClueLogic$Puzzle", name := "<init>", desc := "(III)V" } : Jvm.MethodName)) ∈ GW := mwT 32 (by decide +kernel) rfl
theorem wd_33 : (Jvm.Cond.code ({ cls := "ClueLogic$Puzzle", name := "<init>", desc := "(III)V" } : Jvm.MethodName) prog_9_method_1_code (4 : Nat) (Option.none : Option Jvm.ClassFile.FieldType)) ∈ GW := mwT 33 (by decide +kernel) rfl
theorem wd_34 : (Jvm.Cond.methodLink "ClueLogic$Puzzle" (3 : Nat) ({ cls := "java/lang/Object", name := "<init>", desc := "()V" } : Jvm.MethodName)) ∈ GW := mwT 34 (by decide +kernel) rfl
theorem wd_35 : (Jvm.Cond.classLink "ClueLogic$Puzzle" (9 : Nat) "ClueLogic$Clue") ∈ GW := mwT 35 (by decide +kernel) rfl
theorem wd_37 : (Jvm.Cond.classLink "ClueLogic$Puzzle" (27 : Nat) "ClueLogic$Orders") ∈ GW := mwT 37 (by decide +kernel) rfl
theorem wd_38 : (Jvm.Cond.instantiable "ClueLogic$Orders" (5 : Nat)) ∈ GW := mwT 38 (by decide +kernel) rfl
theorem wd_39 : (Jvm.Cond.methodLink "ClueLogic$Puzzle" (29 : Nat) ({ cls := "ClueLogic$Orders", name := "<init>", desc := "(I)V" } : Jvm.MethodName)) ∈ GW := mwT 39 (by decide +kernel) rfl
theorem wd_40 : (Jvm.Cond.instanceMethod ({ cls := "ClueLogic$Orders", name := "<init>", desc := "(I)V" } : Jvm.MethodName)) ∈ GW := mwT 40 (by decide +kernel) rfl
theorem wd_41 : (Jvm.Cond.code ({ cls := "ClueLogic$Orders", name := "<init>", desc := "(I)V" } : Jvm.MethodName) prog_8_method_1_code (2 : Nat) (Option.none : Option Jvm.ClassFile.FieldType)) ∈ GW := mwT 41 (by decide +kernel) rfl
theorem wd_42 : (Jvm.Cond.methodLink "ClueLogic$Orders" (3 : Nat) ({ cls := "java/lang/Object", name := "<init>", desc := "()V" } : Jvm.MethodName)) ∈ GW := mwT 42 (by decide +kernel) rfl
theorem wd_43 : (Jvm.Cond.methodLink "ClueLogic$Orders" (22 : Nat) ({ cls := "ClueLogic$Orders", name := "fill", desc := "(II)V" } : Jvm.MethodName)) ∈ GW := mwT 43 (by decide +kernel) rfl
theorem wd_45 : (Jvm.Cond.instanceMethod ({ cls := "ClueLogic$Orders", name := "fill", desc := "(II)V" } : Jvm.MethodName)) ∈ GW := mwT 45 (by decide +kernel) rfl
theorem wd_46 : (Jvm.Cond.code ({ cls := "ClueLogic$Orders", name := "fill", desc := "(II)V" } : Jvm.MethodName) prog_8_method_7_code (4 : Nat) (Option.none : Option Jvm.ClassFile.FieldType)) ∈ GW := mwT 46 (by decide +kernel) rfl
theorem wd_47 : (Jvm.Cond.methodLink "ClueLogic$Orders" (32 : Nat) ({ cls := "ClueLogic$Orders", name := "add", desc := "(I)V" } : Jvm.MethodName)) ∈ GW := mwT 47 (by decide +kernel) rfl
theorem wd_49 : (Jvm.Cond.instanceMethod ({ cls := "ClueLogic$Orders", name := "add", desc := "(I)V" } : Jvm.MethodName)) ∈ GW := mwT 49 (by decide +kernel) rfl
theorem wd_50 : (Jvm.Cond.code ({ cls := "ClueLogic$Orders", name := "add", desc := "(I)V" } : Jvm.MethodName) prog_8_method_8_code (4 : Nat) (Option.none : Option Jvm.ClassFile.FieldType)) ∈ GW := mwT 50 (by decide +kernel) rfl
theorem wd_51 : (Jvm.Cond.methodLink "ClueLogic$Orders" (36 : Nat) ({ cls := "java/lang/Integer", name := "bitCount", desc := "(I)I" } : Jvm.MethodName)) ∈ GW := mwT 51 (by decide +kernel) rfl
theorem wd_52 : (Jvm.Cond.static ({ cls := "java/lang/Integer", name := "bitCount", desc := "(I)I" } : Jvm.MethodName)) ∈ GW := mwT 52 (by decide +kernel) rfl
theorem wd_53 : (Jvm.Cond.code ({ cls := "java/lang/Integer", name := "bitCount", desc := "(I)I" } : Jvm.MethodName) prog_16_method_49_code (1 : Nat) (Option.some Jvm.ClassFile.FieldType.int)) ∈ GW := mwT 53 (by decide +kernel) rfl
theorem wd_54 : (Jvm.Cond.constant "java/lang/Integer" (265 : Nat) (1431655765 : Int32)) ∈ GW := mwT 54 (by decide +kernel) rfl
theorem wd_55 : (Jvm.Cond.constant "java/lang/Integer" (266 : Nat) (858993459 : Int32)) ∈ GW := mwT 55 (by decide +kernel) rfl
theorem wd_56 : (Jvm.Cond.constant "java/lang/Integer" (267 : Nat) (252645135 : Int32)) ∈ GW := mwT 56 (by decide +kernel) rfl
theorem wd_57 : (Jvm.Cond.fieldLink "ClueLogic$Orders" (18 : Nat) "ClueLogic$Orders" "things" "I") ∈ GW := mwT 57 (by decide +kernel) rfl
theorem wd_58 : (Jvm.Cond.fieldLink "ClueLogic$Orders" (9 : Nat) "ClueLogic$Orders" "ticks" "[I") ∈ GW := mwT 58 (by decide +kernel) rfl
theorem wd_59 : (Jvm.Cond.fieldLink "ClueLogic$Orders" (15 : Nat) "ClueLogic$Orders" "value" "[I") ∈ GW := mwT 59 (by decide +kernel) rfl
theorem wd_60 : (Jvm.Cond.fieldLink "ClueLogic$Orders" (26 : Nat) "ClueLogic$Orders" "count" "I") ∈ GW := mwT 60 (by decide +kernel) rfl
theorem wd_61 : (Jvm.Cond.fieldLink "ClueLogic$Orders" (29 : Nat) "ClueLogic$Orders" "allTicks" "I") ∈ GW := mwT 61 (by decide +kernel) rfl
theorem wd_62 : (Jvm.Cond.laysFinal "ClueLogic$Orders" "ClueLogic$Orders" "things" "I") ∈ GW := mwT 62 (by decide +kernel) rfl
theorem wd_64 : (Jvm.Cond.laysFinal "ClueLogic$Orders" "ClueLogic$Orders" "ticks" "[I") ∈ GW := mwT 64 (by decide +kernel) rfl
theorem wd_66 : (Jvm.Cond.laysFinal "ClueLogic$Orders" "ClueLogic$Orders" "value" "[I") ∈ GW := mwT 66 (by decide +kernel) rfl
theorem wd_68 : (Jvm.Cond.lays "ClueLogic$Orders" "ClueLogic$Orders" "count" "I") ∈ GW := mwT 68 (by decide +kernel) rfl
theorem wd_70 : (Jvm.Cond.lays "ClueLogic$Orders" "ClueLogic$Orders" "allTicks" "I") ∈ GW := mwT 70 (by decide +kernel) rfl
theorem wd_73 : (Jvm.Cond.arrayClass Jvm.ClassFile.FieldType.int) ∈ GW := mwT 73 (by decide +kernel) rfl
theorem wd_74 : (Jvm.Cond.fieldLink "ClueLogic$Puzzle" (17 : Nat) "ClueLogic$Puzzle" "things" "I") ∈ GW := mwT 74 (by decide +kernel) rfl
theorem wd_75 : (Jvm.Cond.fieldLink "ClueLogic$Puzzle" (21 : Nat) "ClueLogic$Puzzle" "kinds" "I") ∈ GW := mwT 75 (by decide +kernel) rfl
theorem wd_76 : (Jvm.Cond.fieldLink "ClueLogic$Puzzle" (24 : Nat) "ClueLogic$Puzzle" "persons" "I") ∈ GW := mwT 76 (by decide +kernel) rfl
theorem wd_77 : (Jvm.Cond.fieldLink "ClueLogic$Puzzle" (32 : Nat) "ClueLogic$Puzzle" "orders" "LClueLogic$Orders;") ∈ GW := mwT 77 (by decide +kernel) rfl
theorem wd_78 : (Jvm.Cond.fieldLink "ClueLogic$Puzzle" (11 : Nat) "ClueLogic$Puzzle" "clues" "[LClueLogic$Clue;") ∈ GW := mwT 78 (by decide +kernel) rfl
theorem wd_79 : (Jvm.Cond.fieldLink "ClueLogic$Puzzle" (36 : Nat) "ClueLogic$Puzzle" "clueCount" "I") ∈ GW := mwT 79 (by decide +kernel) rfl
theorem wd_80 : (Jvm.Cond.laysFinal "ClueLogic$Puzzle" "ClueLogic$Puzzle" "things" "I") ∈ GW := mwT 80 (by decide +kernel) rfl
theorem wd_82 : (Jvm.Cond.laysFinal "ClueLogic$Puzzle" "ClueLogic$Puzzle" "kinds" "I") ∈ GW := mwT 82 (by decide +kernel) rfl
theorem wd_84 : (Jvm.Cond.laysFinal "ClueLogic$Puzzle" "ClueLogic$Puzzle" "persons" "I") ∈ GW := mwT 84 (by decide +kernel) rfl
theorem wd_86 : (Jvm.Cond.laysFinal "ClueLogic$Puzzle" "ClueLogic$Puzzle" "orders" "LClueLogic$Orders;") ∈ GW := mwT 86 (by decide +kernel) rfl
theorem wd_88 : (Jvm.Cond.laysFinal "ClueLogic$Puzzle" "ClueLogic$Puzzle" "clues" "[LClueLogic$Clue;") ∈ GW := mwT 88 (by decide +kernel) rfl
theorem wd_90 : (Jvm.Cond.lays "ClueLogic$Puzzle" "ClueLogic$Puzzle" "clueCount" "I") ∈ GW := mwT 90 (by decide +kernel) rfl
theorem wd_93 : (Jvm.Cond.methodLink "ClueLogic" (18 : Nat) ({ cls := "ClueLogic", name := "begin", desc := "(LClueLogic$Puzzle;)V" } : Jvm.MethodName)) ∈ GW := mwT 93 (by decide +kernel) rfl
theorem wd_95 : (Jvm.Cond.instanceMethod ({ cls := "ClueLogic", name := "begin", desc := "(LClueLogic$Puzzle;)V" } : Jvm.MethodName)) ∈ GW := mwT 95 (by decide +kernel) rfl
theorem wd_96 : (Jvm.Cond.code ({ cls := "ClueLogic", name := "begin", desc := "(LClueLogic$Puzzle;)V" } : Jvm.MethodName) prog_1_method_14_code (2 : Nat) (Option.none : Option Jvm.ClassFile.FieldType)) ∈ GW := mwT 96 (by decide +kernel) rfl
theorem wd_97 : (Jvm.Cond.classLink "ClueLogic" (63 : Nat) "ClueLogic$Answers") ∈ GW := mwT 97 (by decide +kernel) rfl
theorem wd_98 : (Jvm.Cond.instantiable "ClueLogic$Answers" (10 : Nat)) ∈ GW := mwT 98 (by decide +kernel) rfl
theorem wd_99 : (Jvm.Cond.methodLink "ClueLogic" (129 : Nat) ({ cls := "ClueLogic$Answers", name := "<init>", desc := "(LClueLogic$Puzzle;)V" } : Jvm.MethodName)) ∈ GW := mwT 99 (by decide +kernel) rfl
theorem wd_100 : (Jvm.Cond.instanceMethod ({ cls := "ClueLogic$Answers", name := "<init>", desc := "(LClueLogic$Puzzle;)V" } : Jvm.MethodName)) ∈ GW := mwT 100 (by decide +kernel) rfl
theorem wd_101 : (Jvm.Cond.code ({ cls := "ClueLogic$Answers", name := "<init>", desc := "(LClueLogic$Puzzle;)V" } : Jvm.MethodName) prog_2_method_1_code (2 : Nat) (Option.none : Option Jvm.ClassFile.FieldType)) ∈ GW := mwT 101 (by decide +kernel) rfl
theorem wd_102 : (Jvm.Cond.methodLink "ClueLogic$Answers" (3 : Nat) ({ cls := "java/lang/Object", name := "<init>", desc := "()V" } : Jvm.MethodName)) ∈ GW := mwT 102 (by decide +kernel) rfl
theorem wd_103 : (Jvm.Cond.classLink "ClueLogic$Answers" (32 : Nat) "ClueLogic$Walk") ∈ GW := mwT 103 (by decide +kernel) rfl
theorem wd_104 : (Jvm.Cond.instantiable "ClueLogic$Walk" (6 : Nat)) ∈ GW := mwT 104 (by decide +kernel) rfl
theorem wd_105 : (Jvm.Cond.methodLink "ClueLogic$Answers" (34 : Nat) ({ cls := "ClueLogic$Walk", name := "<init>", desc := "(LClueLogic$Puzzle;)V" } : Jvm.MethodName)) ∈ GW := mwT 105 (by decide +kernel) rfl
theorem wd_106 : (Jvm.Cond.instanceMethod ({ cls := "ClueLogic$Walk", name := "<init>", desc := "(LClueLogic$Puzzle;)V" } : Jvm.MethodName)) ∈ GW := mwT 106 (by decide +kernel) rfl
theorem wd_107 : (Jvm.Cond.code ({ cls := "ClueLogic$Walk", name := "<init>", desc := "(LClueLogic$Puzzle;)V" } : Jvm.MethodName) prog_12_method_1_code (2 : Nat) (Option.none : Option Jvm.ClassFile.FieldType)) ∈ GW := mwT 107 (by decide +kernel) rfl
theorem wd_108 : (Jvm.Cond.methodLink "ClueLogic$Walk" (3 : Nat) ({ cls := "java/lang/Object", name := "<init>", desc := "()V" } : Jvm.MethodName)) ∈ GW := mwT 108 (by decide +kernel) rfl
theorem wd_109 : (Jvm.Cond.methodLink "ClueLogic$Walk" (24 : Nat) ({ cls := "ClueLogic$Puzzle", name := "orders", desc := "()LClueLogic$Orders;" } : Jvm.MethodName)) ∈ GW := mwT 109 (by decide +kernel) rfl
theorem wd_110 : (Jvm.Cond.instanceMethod ({ cls := "ClueLogic$Puzzle", name := "orders", desc := "()LClueLogic$Orders;" } : Jvm.MethodName)) ∈ GW := mwT 110 (by decide +kernel) rfl
theorem wd_111 : (Jvm.Cond.selects "ClueLogic$Puzzle" ({ cls := "ClueLogic$Puzzle", name := "orders", desc := "()LClueLogic$Orders;" } : Jvm.MethodName) ({ cls := "ClueLogic$Puzzle", name := "orders", desc := "()LClueLogic$Orders;" } : Jvm.MethodName)) ∈ GW := mwT 111 (by decide +kernel) rfl
theorem wd_112 : (Jvm.Cond.code ({ cls := "ClueLogic$Puzzle", name := "orders", desc := "()LClueLogic$Orders;" } : Jvm.MethodName) prog_9_method_7_code (1 : Nat) (Option.some (Jvm.ClassFile.FieldType.object "ClueLogic$Orders"))) ∈ GW := mwT 112 (by decide +kernel) rfl
theorem wd_113 : (Jvm.Cond.methodLink "ClueLogic$Walk" (33 : Nat) ({ cls := "ClueLogic$Puzzle", name := "kinds", desc := "()I" } : Jvm.MethodName)) ∈ GW := mwT 113 (by decide +kernel) rfl
theorem wd_114 : (Jvm.Cond.instanceMethod ({ cls := "ClueLogic$Puzzle", name := "kinds", desc := "()I" } : Jvm.MethodName)) ∈ GW := mwT 114 (by decide +kernel) rfl
theorem wd_115 : (Jvm.Cond.selects "ClueLogic$Puzzle" ({ cls := "ClueLogic$Puzzle", name := "kinds", desc := "()I" } : Jvm.MethodName) ({ cls := "ClueLogic$Puzzle", name := "kinds", desc := "()I" } : Jvm.MethodName)) ∈ GW := mwT 115 (by decide +kernel) rfl
theorem wd_116 : (Jvm.Cond.code ({ cls := "ClueLogic$Puzzle", name := "kinds", desc := "()I" } : Jvm.MethodName) prog_9_method_4_code (1 : Nat) (Option.some Jvm.ClassFile.FieldType.int)) ∈ GW := mwT 116 (by decide +kernel) rfl
theorem wd_117 : (Jvm.Cond.fieldLink "ClueLogic$Walk" (30 : Nat) "ClueLogic$Walk" "orders" "LClueLogic$Orders;") ∈ GW := mwT 117 (by decide +kernel) rfl
theorem wd_118 : (Jvm.Cond.fieldLink "ClueLogic$Walk" (37 : Nat) "ClueLogic$Walk" "kinds" "I") ∈ GW := mwT 118 (by decide +kernel) rfl
theorem wd_119 : (Jvm.Cond.fieldLink "ClueLogic$Walk" (9 : Nat) "ClueLogic$Walk" "open" "[I") ∈ GW := mwT 119 (by decide +kernel) rfl
theorem wd_120 : (Jvm.Cond.fieldLink "ClueLogic$Walk" (15 : Nat) "ClueLogic$Walk" "openCount" "[I") ∈ GW := mwT 120 (by decide +kernel) rfl
theorem wd_121 : (Jvm.Cond.fieldLink "ClueLogic$Walk" (18 : Nat) "ClueLogic$Walk" "at" "[I") ∈ GW := mwT 121 (by decide +kernel) rfl
theorem wd_122 : (Jvm.Cond.fieldLink "ClueLogic$Walk" (21 : Nat) "ClueLogic$Walk" "thing" "[I") ∈ GW := mwT 122 (by decide +kernel) rfl
theorem wd_123 : (Jvm.Cond.laysFinal "ClueLogic$Walk" "ClueLogic$Walk" "orders" "LClueLogic$Orders;") ∈ GW := mwT 123 (by decide +kernel) rfl
theorem wd_125 : (Jvm.Cond.laysFinal "ClueLogic$Walk" "ClueLogic$Walk" "kinds" "I") ∈ GW := mwT 125 (by decide +kernel) rfl
theorem wd_127 : (Jvm.Cond.laysFinal "ClueLogic$Walk" "ClueLogic$Walk" "open" "[I") ∈ GW := mwT 127 (by decide +kernel) rfl
theorem wd_129 : (Jvm.Cond.laysFinal "ClueLogic$Walk" "ClueLogic$Walk" "openCount" "[I") ∈ GW := mwT 129 (by decide +kernel) rfl
theorem wd_131 : (Jvm.Cond.laysFinal "ClueLogic$Walk" "ClueLogic$Walk" "at" "[I") ∈ GW := mwT 131 (by decide +kernel) rfl
theorem wd_133 : (Jvm.Cond.laysFinal "ClueLogic$Walk" "ClueLogic$Walk" "thing" "[I") ∈ GW := mwT 133 (by decide +kernel) rfl
theorem wd_136 : (Jvm.Cond.arrayClass Jvm.ClassFile.FieldType.boolean) ∈ GW := mwT 136 (by decide +kernel) rfl
theorem wd_137 : (Jvm.Cond.fieldLink "ClueLogic$Answers" (28 : Nat) "ClueLogic$Answers" "puzzle" "LClueLogic$Puzzle;") ∈ GW := mwT 137 (by decide +kernel) rfl
theorem wd_138 : (Jvm.Cond.fieldLink "ClueLogic$Answers" (37 : Nat) "ClueLogic$Answers" "walk" "LClueLogic$Walk;") ∈ GW := mwT 138 (by decide +kernel) rfl
theorem wd_139 : (Jvm.Cond.fieldLink "ClueLogic$Answers" (9 : Nat) "ClueLogic$Answers" "keptOrder" "[I") ∈ GW := mwT 139 (by decide +kernel) rfl
theorem wd_140 : (Jvm.Cond.fieldLink "ClueLogic$Answers" (15 : Nat) "ClueLogic$Answers" "keptParty" "[I") ∈ GW := mwT 140 (by decide +kernel) rfl
theorem wd_141 : (Jvm.Cond.fieldLink "ClueLogic$Answers" (18 : Nat) "ClueLogic$Answers" "countWithOrder" "[I") ∈ GW := mwT 141 (by decide +kernel) rfl
theorem wd_142 : (Jvm.Cond.fieldLink "ClueLogic$Answers" (21 : Nat) "ClueLogic$Answers" "holding" "[I") ∈ GW := mwT 142 (by decide +kernel) rfl
theorem wd_143 : (Jvm.Cond.fieldLink "ClueLogic$Answers" (24 : Nat) "ClueLogic$Answers" "needed" "[Z") ∈ GW := mwT 143 (by decide +kernel) rfl
theorem wd_144 : (Jvm.Cond.fieldLink "ClueLogic$Answers" (41 : Nat) "ClueLogic$Answers" "count" "I") ∈ GW := mwT 144 (by decide +kernel) rfl
theorem wd_145 : (Jvm.Cond.fieldLink "ClueLogic$Answers" (45 : Nat) "ClueLogic$Answers" "kept" "I") ∈ GW := mwT 145 (by decide +kernel) rfl
theorem wd_146 : (Jvm.Cond.fieldLink "ClueLogic$Answers" (66 : Nat) "ClueLogic$Answers" "found" "Z") ∈ GW := mwT 146 (by decide +kernel) rfl
theorem wd_147 : (Jvm.Cond.laysFinal "ClueLogic$Answers" "ClueLogic$Answers" "puzzle" "LClueLogic$Puzzle;") ∈ GW := mwT 147 (by decide +kernel) rfl
theorem wd_149 : (Jvm.Cond.laysFinal "ClueLogic$Answers" "ClueLogic$Answers" "walk" "LClueLogic$Walk;") ∈ GW := mwT 149 (by decide +kernel) rfl
theorem wd_151 : (Jvm.Cond.laysFinal "ClueLogic$Answers" "ClueLogic$Answers" "keptOrder" "[I") ∈ GW := mwT 151 (by decide +kernel) rfl
theorem wd_153 : (Jvm.Cond.laysFinal "ClueLogic$Answers" "ClueLogic$Answers" "keptParty" "[I") ∈ GW := mwT 153 (by decide +kernel) rfl
theorem wd_155 : (Jvm.Cond.laysFinal "ClueLogic$Answers" "ClueLogic$Answers" "countWithOrder" "[I") ∈ GW := mwT 155 (by decide +kernel) rfl
theorem wd_157 : (Jvm.Cond.laysFinal "ClueLogic$Answers" "ClueLogic$Answers" "holding" "[I") ∈ GW := mwT 157 (by decide +kernel) rfl
theorem wd_159 : (Jvm.Cond.laysFinal "ClueLogic$Answers" "ClueLogic$Answers" "needed" "[Z") ∈ GW := mwT 159 (by decide +kernel) rfl
theorem wd_161 : (Jvm.Cond.lays "ClueLogic$Answers" "ClueLogic$Answers" "count" "I") ∈ GW := mwT 161 (by decide +kernel) rfl
theorem wd_163 : (Jvm.Cond.lays "ClueLogic$Answers" "ClueLogic$Answers" "kept" "I") ∈ GW := mwT 163 (by decide +kernel) rfl
theorem wd_165 : (Jvm.Cond.lays "ClueLogic$Answers" "ClueLogic$Answers" "found" "Z") ∈ GW := mwT 165 (by decide +kernel) rfl
theorem wd_168 : (Jvm.Cond.classLink "ClueLogic" (108 : Nat) "ClueLogic$Crossing") ∈ GW := mwT 168 (by decide +kernel) rfl
theorem wd_169 : (Jvm.Cond.instantiable "ClueLogic$Crossing" (10 : Nat)) ∈ GW := mwT 169 (by decide +kernel) rfl
theorem wd_170 : (Jvm.Cond.methodLink "ClueLogic" (131 : Nat) ({ cls := "ClueLogic$Crossing", name := "<init>", desc := "(LClueLogic$Puzzle;)V" } : Jvm.MethodName)) ∈ GW := mwT 170 (by decide +kernel) rfl
theorem wd_171 : (Jvm.Cond.instanceMethod ({ cls := "ClueLogic$Crossing", name := "<init>", desc := "(LClueLogic$Puzzle;)V" } : Jvm.MethodName)) ∈ GW := mwT 171 (by decide +kernel) rfl
theorem wd_172 : (Jvm.Cond.code ({ cls := "ClueLogic$Crossing", name := "<init>", desc := "(LClueLogic$Puzzle;)V" } : Jvm.MethodName) prog_4_method_1_code (3 : Nat) (Option.none : Option Jvm.ClassFile.FieldType)) ∈ GW := mwT 172 (by decide +kernel) rfl
theorem wd_173 : (Jvm.Cond.methodLink "ClueLogic$Crossing" (3 : Nat) ({ cls := "java/lang/Object", name := "<init>", desc := "()V" } : Jvm.MethodName)) ∈ GW := mwT 173 (by decide +kernel) rfl
theorem wd_174 : (Jvm.Cond.classLink "ClueLogic$Crossing" (28 : Nat) "ClueLogic$Walk") ∈ GW := mwT 174 (by decide +kernel) rfl
theorem wd_175 : (Jvm.Cond.methodLink "ClueLogic$Crossing" (30 : Nat) ({ cls := "ClueLogic$Walk", name := "<init>", desc := "(LClueLogic$Puzzle;)V" } : Jvm.MethodName)) ∈ GW := mwT 175 (by decide +kernel) rfl
theorem wd_176 : (Jvm.Cond.methodLink "ClueLogic$Crossing" (37 : Nat) ({ cls := "ClueLogic$Puzzle", name := "kinds", desc := "()I" } : Jvm.MethodName)) ∈ GW := mwT 176 (by decide +kernel) rfl
theorem wd_177 : (Jvm.Cond.methodLink "ClueLogic$Crossing" (43 : Nat) ({ cls := "ClueLogic$Puzzle", name := "orders", desc := "()LClueLogic$Orders;" } : Jvm.MethodName)) ∈ GW := mwT 177 (by decide +kernel) rfl
theorem wd_178 : (Jvm.Cond.methodLink "ClueLogic$Crossing" (47 : Nat) ({ cls := "ClueLogic$Orders", name := "allTicks", desc := "()I" } : Jvm.MethodName)) ∈ GW := mwT 178 (by decide +kernel) rfl
theorem wd_179 : (Jvm.Cond.instanceMethod ({ cls := "ClueLogic$Orders", name := "allTicks", desc := "()I" } : Jvm.MethodName)) ∈ GW := mwT 179 (by decide +kernel) rfl
theorem wd_180 : (Jvm.Cond.selects "ClueLogic$Orders" ({ cls := "ClueLogic$Orders", name := "allTicks", desc := "()I" } : Jvm.MethodName) ({ cls := "ClueLogic$Orders", name := "allTicks", desc := "()I" } : Jvm.MethodName)) ∈ GW := mwT 180 (by decide +kernel) rfl
theorem wd_181 : (Jvm.Cond.code ({ cls := "ClueLogic$Orders", name := "allTicks", desc := "()I" } : Jvm.MethodName) prog_8_method_5_code (1 : Nat) (Option.some Jvm.ClassFile.FieldType.int)) ∈ GW := mwT 181 (by decide +kernel) rfl
theorem wd_182 : (Jvm.Cond.methodLink "ClueLogic$Crossing" (52 : Nat) ({ cls := "ClueLogic$Puzzle", name := "parties", desc := "()I" } : Jvm.MethodName)) ∈ GW := mwT 182 (by decide +kernel) rfl
theorem wd_183 : (Jvm.Cond.instanceMethod ({ cls := "ClueLogic$Puzzle", name := "parties", desc := "()I" } : Jvm.MethodName)) ∈ GW := mwT 183 (by decide +kernel) rfl
theorem wd_184 : (Jvm.Cond.selects "ClueLogic$Puzzle" ({ cls := "ClueLogic$Puzzle", name := "parties", desc := "()I" } : Jvm.MethodName) ({ cls := "ClueLogic$Puzzle", name := "parties", desc := "()I" } : Jvm.MethodName)) ∈ GW := mwT 184 (by decide +kernel) rfl
theorem wd_185 : (Jvm.Cond.code ({ cls := "ClueLogic$Puzzle", name := "parties", desc := "()I" } : Jvm.MethodName) prog_9_method_14_code (1 : Nat) (Option.some Jvm.ClassFile.FieldType.int)) ∈ GW := mwT 185 (by decide +kernel) rfl
theorem wd_188 : (Jvm.Cond.methodLink "ClueLogic$Crossing" (55 : Nat) ({ cls := "ClueLogic$Crossing", name := "waysIn", desc := "(I)I" } : Jvm.MethodName)) ∈ GW := mwT 188 (by decide +kernel) rfl
theorem wd_190 : (Jvm.Cond.instanceMethod ({ cls := "ClueLogic$Crossing", name := "waysIn", desc := "(I)I" } : Jvm.MethodName)) ∈ GW := mwT 190 (by decide +kernel) rfl
theorem wd_191 : (Jvm.Cond.code ({ cls := "ClueLogic$Crossing", name := "waysIn", desc := "(I)I" } : Jvm.MethodName) prog_4_method_12_code (6 : Nat) (Option.some Jvm.ClassFile.FieldType.int)) ∈ GW := mwT 191 (by decide +kernel) rfl
theorem wd_192 : (Jvm.Cond.methodLink "ClueLogic$Crossing" (132 : Nat) ({ cls := "ClueLogic$Puzzle", name := "persons", desc := "()I" } : Jvm.MethodName)) ∈ GW := mwT 192 (by decide +kernel) rfl
theorem wd_193 : (Jvm.Cond.instanceMethod ({ cls := "ClueLogic$Puzzle", name := "persons", desc := "()I" } : Jvm.MethodName)) ∈ GW := mwT 193 (by decide +kernel) rfl
theorem wd_194 : (Jvm.Cond.selects "ClueLogic$Puzzle" ({ cls := "ClueLogic$Puzzle", name := "persons", desc := "()I" } : Jvm.MethodName) ({ cls := "ClueLogic$Puzzle", name := "persons", desc := "()I" } : Jvm.MethodName)) ∈ GW := mwT 194 (by decide +kernel) rfl
theorem wd_195 : (Jvm.Cond.code ({ cls := "ClueLogic$Puzzle", name := "persons", desc := "()I" } : Jvm.MethodName) prog_9_method_5_code (1 : Nat) (Option.some Jvm.ClassFile.FieldType.int)) ∈ GW := mwT 195 (by decide +kernel) rfl
theorem wd_198 : (Jvm.Cond.fieldLink "ClueLogic$Crossing" (24 : Nat) "ClueLogic$Crossing" "puzzle" "LClueLogic$Puzzle;") ∈ GW := mwT 198 (by decide +kernel) rfl
theorem wd_199 : (Jvm.Cond.fieldLink "ClueLogic$Crossing" (33 : Nat) "ClueLogic$Crossing" "walk" "LClueLogic$Walk;") ∈ GW := mwT 199 (by decide +kernel) rfl
theorem wd_200 : (Jvm.Cond.fieldLink "ClueLogic$Crossing" (9 : Nat) "ClueLogic$Crossing" "may" "[I") ∈ GW := mwT 200 (by decide +kernel) rfl
theorem wd_201 : (Jvm.Cond.fieldLink "ClueLogic$Crossing" (15 : Nat) "ClueLogic$Crossing" "seen" "[I") ∈ GW := mwT 201 (by decide +kernel) rfl
theorem wd_202 : (Jvm.Cond.fieldLink "ClueLogic$Crossing" (59 : Nat) "ClueLogic$Crossing" "mayBe" "I") ∈ GW := mwT 202 (by decide +kernel) rfl
theorem wd_203 : (Jvm.Cond.fieldLink "ClueLogic$Crossing" (123 : Nat) "ClueLogic$Crossing" "seenToBe" "I") ∈ GW := mwT 203 (by decide +kernel) rfl
theorem wd_204 : (Jvm.Cond.fieldLink "ClueLogic$Crossing" (18 : Nat) "ClueLogic$Crossing" "stepClue" "[I") ∈ GW := mwT 204 (by decide +kernel) rfl
theorem wd_205 : (Jvm.Cond.fieldLink "ClueLogic$Crossing" (21 : Nat) "ClueLogic$Crossing" "stepCrossed" "[I") ∈ GW := mwT 205 (by decide +kernel) rfl
theorem wd_206 : (Jvm.Cond.fieldLink "ClueLogic$Crossing" (63 : Nat) "ClueLogic$Crossing" "steps" "I") ∈ GW := mwT 206 (by decide +kernel) rfl
theorem wd_207 : (Jvm.Cond.fieldLink "ClueLogic$Crossing" (66 : Nat) "ClueLogic$Crossing" "finished" "Z") ∈ GW := mwT 207 (by decide +kernel) rfl
theorem wd_208 : (Jvm.Cond.laysFinal "ClueLogic$Crossing" "ClueLogic$Crossing" "puzzle" "LClueLogic$Puzzle;") ∈ GW := mwT 208 (by decide +kernel) rfl
theorem wd_210 : (Jvm.Cond.laysFinal "ClueLogic$Crossing" "ClueLogic$Crossing" "walk" "LClueLogic$Walk;") ∈ GW := mwT 210 (by decide +kernel) rfl
theorem wd_212 : (Jvm.Cond.laysFinal "ClueLogic$Crossing" "ClueLogic$Crossing" "may" "[I") ∈ GW := mwT 212 (by decide +kernel) rfl
theorem wd_214 : (Jvm.Cond.laysFinal "ClueLogic$Crossing" "ClueLogic$Crossing" "seen" "[I") ∈ GW := mwT 214 (by decide +kernel) rfl
theorem wd_216 : (Jvm.Cond.lays "ClueLogic$Crossing" "ClueLogic$Crossing" "mayBe" "I") ∈ GW := mwT 216 (by decide +kernel) rfl
theorem wd_218 : (Jvm.Cond.lays "ClueLogic$Crossing" "ClueLogic$Crossing" "seenToBe" "I") ∈ GW := mwT 218 (by decide +kernel) rfl
theorem wd_220 : (Jvm.Cond.laysFinal "ClueLogic$Crossing" "ClueLogic$Crossing" "stepClue" "[I") ∈ GW := mwT 220 (by decide +kernel) rfl
theorem wd_222 : (Jvm.Cond.laysFinal "ClueLogic$Crossing" "ClueLogic$Crossing" "stepCrossed" "[I") ∈ GW := mwT 222 (by decide +kernel) rfl
theorem wd_224 : (Jvm.Cond.lays "ClueLogic$Crossing" "ClueLogic$Crossing" "steps" "I") ∈ GW := mwT 224 (by decide +kernel) rfl
theorem wd_226 : (Jvm.Cond.lays "ClueLogic$Crossing" "ClueLogic$Crossing" "finished" "Z") ∈ GW := mwT 226 (by decide +kernel) rfl
theorem wd_229 : (Jvm.Cond.fieldLink "ClueLogic" (9 : Nat) "ClueLogic" "text" "[I") ∈ GW := mwT 229 (by decide +kernel) rfl
theorem wd_230 : (Jvm.Cond.fieldLink "ClueLogic" (22 : Nat) "ClueLogic" "length" "I") ∈ GW := mwT 230 (by decide +kernel) rfl
theorem wd_231 : (Jvm.Cond.fieldLink "ClueLogic" (42 : Nat) "ClueLogic" "puzzle" "LClueLogic$Puzzle;") ∈ GW := mwT 231 (by decide +kernel) rfl
theorem wd_232 : (Jvm.Cond.fieldLink "ClueLogic" (58 : Nat) "ClueLogic" "answers" "LClueLogic$Answers;") ∈ GW := mwT 232 (by decide +kernel) rfl
theorem wd_233 : (Jvm.Cond.fieldLink "ClueLogic" (103 : Nat) "ClueLogic" "crossing" "LClueLogic$Crossing;") ∈ GW := mwT 233 (by decide +kernel) rfl
theorem wd_234 : (Jvm.Cond.fieldLink "ClueLogic" (54 : Nat) "ClueLogic" "ran" "Z") ∈ GW := mwT 234 (by decide +kernel) rfl
theorem wd_235 : (Jvm.Cond.laysFinal "ClueLogic" "ClueLogic" "text" "[I") ∈ GW := mwT 235 (by decide +kernel) rfl
theorem wd_237 : (Jvm.Cond.lays "ClueLogic" "ClueLogic" "length" "I") ∈ GW := mwT 237 (by decide +kernel) rfl
theorem wd_239 : (Jvm.Cond.lays "ClueLogic" "ClueLogic" "puzzle" "LClueLogic$Puzzle;") ∈ GW := mwT 239 (by decide +kernel) rfl
theorem wd_241 : (Jvm.Cond.lays "ClueLogic" "ClueLogic" "answers" "LClueLogic$Answers;") ∈ GW := mwT 241 (by decide +kernel) rfl
theorem wd_243 : (Jvm.Cond.lays "ClueLogic" "ClueLogic" "crossing" "LClueLogic$Crossing;") ∈ GW := mwT 243 (by decide +kernel) rfl
theorem wd_245 : (Jvm.Cond.lays "ClueLogic" "ClueLogic" "ran" "Z") ∈ GW := mwT 245 (by decide +kernel) rfl
theorem wd_248 : (Jvm.Cond.methodLink "ClueLogicLaw" (13 : Nat) ({ cls := "ClueLogic", name := "unit", desc := "(I)Z" } : Jvm.MethodName)) ∈ GW := mwT 248 (by decide +kernel) rfl
theorem wd_249 : (Jvm.Cond.instanceMethod ({ cls := "ClueLogic", name := "unit", desc := "(I)Z" } : Jvm.MethodName)) ∈ GW := mwT 249 (by decide +kernel) rfl
theorem wd_250 : (Jvm.Cond.selects "ClueLogic" ({ cls := "ClueLogic", name := "unit", desc := "(I)Z" } : Jvm.MethodName) ({ cls := "ClueLogic", name := "unit", desc := "(I)Z" } : Jvm.MethodName)) ∈ GW := mwT 250 (by decide +kernel) rfl
theorem wd_251 : (Jvm.Cond.code ({ cls := "ClueLogic", name := "unit", desc := "(I)Z" } : Jvm.MethodName) prog_1_method_2_code (2 : Nat) (Option.some Jvm.ClassFile.FieldType.boolean)) ∈ GW := mwT 251 (by decide +kernel) rfl
theorem wd_252 : (Jvm.Cond.methodLink "ClueLogicLaw" (18 : Nat) ({ cls := "ClueLogic", name := "read", desc := "()I" } : Jvm.MethodName)) ∈ GW := mwT 252 (by decide +kernel) rfl
theorem wd_253 : (Jvm.Cond.instanceMethod ({ cls := "ClueLogic", name := "read", desc := "()I" } : Jvm.MethodName)) ∈ GW := mwT 253 (by decide +kernel) rfl
theorem wd_254 : (Jvm.Cond.selects "ClueLogic" ({ cls := "ClueLogic", name := "read", desc := "()I" } : Jvm.MethodName) ({ cls := "ClueLogic", name := "read", desc := "()I" } : Jvm.MethodName)) ∈ GW := mwT 254 (by decide +kernel) rfl
theorem wd_255 : (Jvm.Cond.code ({ cls := "ClueLogic", name := "read", desc := "()I" } : Jvm.MethodName) prog_1_method_3_code (3 : Nat) (Option.some Jvm.ClassFile.FieldType.int)) ∈ GW := mwT 255 (by decide +kernel) rfl
theorem wd_256 : (Jvm.Cond.classLink "ClueLogic" (26 : Nat) "ClueLogic$Reader") ∈ GW := mwT 256 (by decide +kernel) rfl
theorem wd_257 : (Jvm.Cond.instantiable "ClueLogic$Reader" (7 : Nat)) ∈ GW := mwT 257 (by decide +kernel) rfl
theorem wd_258 : (Jvm.Cond.methodLink "ClueLogic" (28 : Nat) ({ cls := "ClueLogic$Reader", name := "<init>", desc := "([II)V" } : Jvm.MethodName)) ∈ GW := mwT 258 (by decide +kernel) rfl
theorem wd_259 : (Jvm.Cond.instanceMethod ({ cls := "ClueLogic$Reader", name := "<init>", desc := "([II)V" } : Jvm.MethodName)) ∈ GW := mwT 259 (by decide +kernel) rfl
theorem wd_260 : (Jvm.Cond.code ({ cls := "ClueLogic$Reader", name := "<init>", desc := "([II)V" } : Jvm.MethodName) prog_10_method_1_code (3 : Nat) (Option.none : Option Jvm.ClassFile.FieldType)) ∈ GW := mwT 260 (by decide +kernel) rfl
theorem wd_261 : (Jvm.Cond.methodLink "ClueLogic$Reader" (3 : Nat) ({ cls := "java/lang/Object", name := "<init>", desc := "()V" } : Jvm.MethodName)) ∈ GW := mwT 261 (by decide +kernel) rfl
theorem wd_262 : (Jvm.Cond.fieldLink "ClueLogic$Reader" (9 : Nat) "ClueLogic$Reader" "text" "[I") ∈ GW := mwT 262 (by decide +kernel) rfl
theorem wd_263 : (Jvm.Cond.fieldLink "ClueLogic$Reader" (15 : Nat) "ClueLogic$Reader" "length" "I") ∈ GW := mwT 263 (by decide +kernel) rfl
theorem wd_264 : (Jvm.Cond.fieldLink "ClueLogic$Reader" (19 : Nat) "ClueLogic$Reader" "place" "I") ∈ GW := mwT 264 (by decide +kernel) rfl
theorem wd_265 : (Jvm.Cond.fieldLink "ClueLogic$Reader" (31 : Nat) "ClueLogic$Reader" "kinds" "I") ∈ GW := mwT 265 (by decide +kernel) rfl
theorem wd_266 : (Jvm.Cond.fieldLink "ClueLogic$Reader" (28 : Nat) "ClueLogic$Reader" "things" "I") ∈ GW := mwT 266 (by decide +kernel) rfl
theorem wd_267 : (Jvm.Cond.fieldLink "ClueLogic$Reader" (34 : Nat) "ClueLogic$Reader" "persons" "I") ∈ GW := mwT 267 (by decide +kernel) rfl
theorem wd_268 : (Jvm.Cond.fieldLink "ClueLogic$Reader" (40 : Nat) "ClueLogic$Reader" "signs" "I") ∈ GW := mwT 268 (by decide +kernel) rfl
theorem wd_269 : (Jvm.Cond.laysFinal "ClueLogic$Reader" "ClueLogic$Reader" "text" "[I") ∈ GW := mwT 269 (by decide +kernel) rfl
theorem wd_271 : (Jvm.Cond.laysFinal "ClueLogic$Reader" "ClueLogic$Reader" "length" "I") ∈ GW := mwT 271 (by decide +kernel) rfl
theorem wd_273 : (Jvm.Cond.lays "ClueLogic$Reader" "ClueLogic$Reader" "place" "I") ∈ GW := mwT 273 (by decide +kernel) rfl
theorem wd_275 : (Jvm.Cond.lays "ClueLogic$Reader" "ClueLogic$Reader" "kinds" "I") ∈ GW := mwT 275 (by decide +kernel) rfl
theorem wd_277 : (Jvm.Cond.lays "ClueLogic$Reader" "ClueLogic$Reader" "things" "I") ∈ GW := mwT 277 (by decide +kernel) rfl
theorem wd_279 : (Jvm.Cond.lays "ClueLogic$Reader" "ClueLogic$Reader" "persons" "I") ∈ GW := mwT 279 (by decide +kernel) rfl
theorem wd_281 : (Jvm.Cond.lays "ClueLogic$Reader" "ClueLogic$Reader" "signs" "I") ∈ GW := mwT 281 (by decide +kernel) rfl
theorem wd_284 : (Jvm.Cond.methodLink "ClueLogic" (31 : Nat) ({ cls := "ClueLogic$Reader", name := "puzzle", desc := "()LClueLogic$Puzzle;" } : Jvm.MethodName)) ∈ GW := mwT 284 (by decide +kernel) rfl
theorem wd_285 : (Jvm.Cond.instanceMethod ({ cls := "ClueLogic$Reader", name := "puzzle", desc := "()LClueLogic$Puzzle;" } : Jvm.MethodName)) ∈ GW := mwT 285 (by decide +kernel) rfl
theorem wd_286 : (Jvm.Cond.selects "ClueLogic$Reader" ({ cls := "ClueLogic$Reader", name := "puzzle", desc := "()LClueLogic$Puzzle;" } : Jvm.MethodName) ({ cls := "ClueLogic$Reader", name := "puzzle", desc := "()LClueLogic$Puzzle;" } : Jvm.MethodName)) ∈ GW := mwT 286 (by decide +kernel) rfl
theorem wd_287 : (Jvm.Cond.code ({ cls := "ClueLogic$Reader", name := "puzzle", desc := "()LClueLogic$Puzzle;" } : Jvm.MethodName) prog_10_method_3_code (4 : Nat) (Option.some (Jvm.ClassFile.FieldType.object "ClueLogic$Puzzle"))) ∈ GW := mwT 287 (by decide +kernel) rfl
theorem wd_288 : (Jvm.Cond.methodLink "ClueLogic$Reader" (22 : Nat) ({ cls := "ClueLogic$Reader", name := "passHead", desc := "()Z" } : Jvm.MethodName)) ∈ GW := mwT 288 (by decide +kernel) rfl
theorem wd_290 : (Jvm.Cond.instanceMethod ({ cls := "ClueLogic$Reader", name := "passHead", desc := "()Z" } : Jvm.MethodName)) ∈ GW := mwT 290 (by decide +kernel) rfl
theorem wd_291 : (Jvm.Cond.code ({ cls := "ClueLogic$Reader", name := "passHead", desc := "()Z" } : Jvm.MethodName) prog_10_method_4_code (1 : Nat) (Option.some Jvm.ClassFile.FieldType.boolean)) ∈ GW := mwT 291 (by decide +kernel) rfl
theorem wd_292 : (Jvm.Cond.methodLink "ClueLogic$Reader" (54 : Nat) ({ cls := "ClueLogic$Reader", name := "take", desc := "(III)I" } : Jvm.MethodName)) ∈ GW := mwT 292 (by decide +kernel) rfl
theorem wd_294 : (Jvm.Cond.instanceMethod ({ cls := "ClueLogic$Reader", name := "take", desc := "(III)I" } : Jvm.MethodName)) ∈ GW := mwT 294 (by decide +kernel) rfl
theorem wd_295 : (Jvm.Cond.code ({ cls := "ClueLogic$Reader", name := "take", desc := "(III)I" } : Jvm.MethodName) prog_10_method_13_code (5 : Nat) (Option.some Jvm.ClassFile.FieldType.int)) ∈ GW := mwT 295 (by decide +kernel) rfl
theorem wd_296 : (Jvm.Cond.methodLink "ClueLogic$Reader" (47 : Nat) ({ cls := "ClueLogic$Reader", name := "passSemicolon", desc := "()Z" } : Jvm.MethodName)) ∈ GW := mwT 296 (by decide +kernel) rfl
theorem wd_298 : (Jvm.Cond.instanceMethod ({ cls := "ClueLogic$Reader", name := "passSemicolon", desc := "()Z" } : Jvm.MethodName)) ∈ GW := mwT 298 (by decide +kernel) rfl
theorem wd_299 : (Jvm.Cond.code ({ cls := "ClueLogic$Reader", name := "passSemicolon", desc := "()Z" } : Jvm.MethodName) prog_10_method_12_code (1 : Nat) (Option.some Jvm.ClassFile.FieldType.boolean)) ∈ GW := mwT 299 (by decide +kernel) rfl
theorem wd_300 : (Jvm.Cond.classLink "ClueLogic$Reader" (26 : Nat) "ClueLogic$Puzzle") ∈ GW := mwT 300 (by decide +kernel) rfl
theorem wd_301 : (Jvm.Cond.methodLink "ClueLogic$Reader" (37 : Nat) ({ cls := "ClueLogic$Puzzle", name := "<init>", desc := "(III)V" } : Jvm.MethodName)) ∈ GW := mwT 301 (by decide +kernel) rfl
theorem wd_302 : (Jvm.Cond.methodLink "ClueLogic$Reader" (43 : Nat) ({ cls := "ClueLogic$Reader", name := "clue", desc := "()LClueLogic$Clue;" } : Jvm.MethodName)) ∈ GW := mwT 302 (by decide +kernel) rfl
theorem wd_304 : (Jvm.Cond.instanceMethod ({ cls := "ClueLogic$Reader", name := "clue", desc := "()LClueLogic$Clue;" } : Jvm.MethodName)) ∈ GW := mwT 304 (by decide +kernel) rfl
theorem wd_305 : (Jvm.Cond.code ({ cls := "ClueLogic$Reader", name := "clue", desc := "()LClueLogic$Clue;" } : Jvm.MethodName) prog_10_method_5_code (2 : Nat) (Option.some (Jvm.ClassFile.FieldType.object "ClueLogic$Clue"))) ∈ GW := mwT 305 (by decide +kernel) rfl
theorem wd_307 : (Jvm.Cond.methodLink "ClueLogic$Reader" (60 : Nat) ({ cls := "java/lang/String", name := "indexOf", desc := "(I)I" } : Jvm.MethodName)) ∈ GW := mwT 307 (by decide +kernel) rfl
theorem wd_308 : (Jvm.Cond.instanceMethod ({ cls := "java/lang/String", name := "indexOf", desc := "(I)I" } : Jvm.MethodName)) ∈ GW := mwT 308 (by decide +kernel) rfl
theorem wd_309 : (Jvm.Cond.selects "java/lang/String" ({ cls := "java/lang/String", name := "indexOf", desc := "(I)I" } : Jvm.MethodName) ({ cls := "java/lang/String", name := "indexOf", desc := "(I)I" } : Jvm.MethodName)) ∈ GW := mwT 309 (by decide +kernel) rfl
theorem wd_310 : (Jvm.Cond.code ({ cls := "java/lang/String", name := "indexOf", desc := "(I)I" } : Jvm.MethodName) prog_18_method_79_code (2 : Nat) (Option.some Jvm.ClassFile.FieldType.int)) ∈ GW := mwT 310 (by decide +kernel) rfl
theorem wd_311 : (Jvm.Cond.methodLink "java/lang/String" (633 : Nat) ({ cls := "java/lang/String", name := "indexOf", desc := "(II)I" } : Jvm.MethodName)) ∈ GW := mwT 311 (by decide +kernel) rfl
theorem wd_312 : (Jvm.Cond.instanceMethod ({ cls := "java/lang/String", name := "indexOf", desc := "(II)I" } : Jvm.MethodName)) ∈ GW := mwT 312 (by decide +kernel) rfl
theorem wd_313 : (Jvm.Cond.selects "java/lang/String" ({ cls := "java/lang/String", name := "indexOf", desc := "(II)I" } : Jvm.MethodName) ({ cls := "java/lang/String", name := "indexOf", desc := "(II)I" } : Jvm.MethodName)) ∈ GW := mwT 313 (by decide +kernel) rfl
theorem wd_314 : (Jvm.Cond.code ({ cls := "java/lang/String", name := "indexOf", desc := "(II)I" } : Jvm.MethodName) prog_18_method_80_code (3 : Nat) (Option.some Jvm.ClassFile.FieldType.int)) ∈ GW := mwT 314 (by decide +kernel) rfl
theorem wd_315 : (Jvm.Cond.methodLink "java/lang/String" (492 : Nat) ({ cls := "java/lang/String", name := "isLatin1", desc := "()Z" } : Jvm.MethodName)) ∈ GW := mwT 315 (by decide +kernel) rfl
theorem wd_316 : (Jvm.Cond.instanceMethod ({ cls := "java/lang/String", name := "isLatin1", desc := "()Z" } : Jvm.MethodName)) ∈ GW := mwT 316 (by decide +kernel) rfl
theorem wd_317 : (Jvm.Cond.selects "java/lang/String" ({ cls := "java/lang/String", name := "isLatin1", desc := "()Z" } : Jvm.MethodName) ({ cls := "java/lang/String", name := "isLatin1", desc := "()Z" } : Jvm.MethodName)) ∈ GW := mwT 317 (by decide +kernel) rfl
theorem wd_318 : (Jvm.Cond.code ({ cls := "java/lang/String", name := "isLatin1", desc := "()Z" } : Jvm.MethodName) prog_18_method_154_code (1 : Nat) (Option.some Jvm.ClassFile.FieldType.boolean)) ∈ GW := mwT 318 (by decide +kernel) rfl
theorem wd_321 : (Jvm.Cond.methodLink "java/lang/String" (505 : Nat) ({ cls := "java/lang/String", name := "length", desc := "()I" } : Jvm.MethodName)) ∈ GW := mwT 321 (by decide +kernel) rfl
theorem wd_322 : (Jvm.Cond.instanceMethod ({ cls := "java/lang/String", name := "length", desc := "()I" } : Jvm.MethodName)) ∈ GW := mwT 322 (by decide +kernel) rfl
theorem wd_323 : (Jvm.Cond.selects "java/lang/String" ({ cls := "java/lang/String", name := "length", desc := "()I" } : Jvm.MethodName) ({ cls := "java/lang/String", name := "length", desc := "()I" } : Jvm.MethodName)) ∈ GW := mwT 323 (by decide +kernel) rfl
theorem wd_324 : (Jvm.Cond.code ({ cls := "java/lang/String", name := "length", desc := "()I" } : Jvm.MethodName) prog_18_method_54_code (1 : Nat) (Option.some Jvm.ClassFile.FieldType.int)) ∈ GW := mwT 324 (by decide +kernel) rfl
theorem wd_325 : (Jvm.Cond.methodLink "java/lang/String" (335 : Nat) ({ cls := "java/lang/String", name := "coder", desc := "()B" } : Jvm.MethodName)) ∈ GW := mwT 325 (by decide +kernel) rfl
theorem wd_326 : (Jvm.Cond.instanceMethod ({ cls := "java/lang/String", name := "coder", desc := "()B" } : Jvm.MethodName)) ∈ GW := mwT 326 (by decide +kernel) rfl
theorem wd_327 : (Jvm.Cond.selects "java/lang/String" ({ cls := "java/lang/String", name := "coder", desc := "()B" } : Jvm.MethodName) ({ cls := "java/lang/String", name := "coder", desc := "()B" } : Jvm.MethodName)) ∈ GW := mwT 327 (by decide +kernel) rfl
theorem wd_328 : (Jvm.Cond.code ({ cls := "java/lang/String", name := "coder", desc := "()B" } : Jvm.MethodName) prog_18_method_152_code (1 : Nat) (Option.some Jvm.ClassFile.FieldType.byte)) ∈ GW := mwT 328 (by decide +kernel) rfl
theorem wd_329 : (Jvm.Cond.methodLink "java/lang/String" (637 : Nat) ({ cls := "java/lang/StringLatin1", name := "indexOf", desc := "([BIII)I" } : Jvm.MethodName)) ∈ GW := mwT 329 (by decide +kernel) rfl
theorem wd_330 : (Jvm.Cond.static ({ cls := "java/lang/StringLatin1", name := "indexOf", desc := "([BIII)I" } : Jvm.MethodName)) ∈ GW := mwT 330 (by decide +kernel) rfl
theorem wd_331 : (Jvm.Cond.code ({ cls := "java/lang/StringLatin1", name := "indexOf", desc := "([BIII)I" } : Jvm.MethodName) prog_19_method_22_code (4 : Nat) (Option.some Jvm.ClassFile.FieldType.int)) ∈ GW := mwT 331 (by decide +kernel) rfl
theorem wd_332 : (Jvm.Cond.methodLink "java/lang/StringLatin1" (88 : Nat) ({ cls := "java/lang/StringLatin1", name := "canEncode", desc := "(I)Z" } : Jvm.MethodName)) ∈ GW := mwT 332 (by decide +kernel) rfl
theorem wd_333 : (Jvm.Cond.static ({ cls := "java/lang/StringLatin1", name := "canEncode", desc := "(I)Z" } : Jvm.MethodName)) ∈ GW := mwT 333 (by decide +kernel) rfl
theorem wd_334 : (Jvm.Cond.code ({ cls := "java/lang/StringLatin1", name := "canEncode", desc := "(I)Z" } : Jvm.MethodName) prog_19_method_4_code (1 : Nat) (Option.some Jvm.ClassFile.FieldType.boolean)) ∈ GW := mwT 334 (by decide +kernel) rfl
theorem wd_335 : (Jvm.Cond.methodLink "java/lang/StringLatin1" (92 : Nat) ({ cls := "java/lang/Math", name := "max", desc := "(II)I" } : Jvm.MethodName)) ∈ GW := mwT 335 (by decide +kernel) rfl
theorem wd_336 : (Jvm.Cond.static ({ cls := "java/lang/Math", name := "max", desc := "(II)I" } : Jvm.MethodName)) ∈ GW := mwT 336 (by decide +kernel) rfl
theorem wd_337 : (Jvm.Cond.code ({ cls := "java/lang/Math", name := "max", desc := "(II)I" } : Jvm.MethodName) prog_17_method_65_code (2 : Nat) (Option.some Jvm.ClassFile.FieldType.int)) ∈ GW := mwT 337 (by decide +kernel) rfl
theorem wd_338 : (Jvm.Cond.methodLink "java/lang/StringLatin1" (38 : Nat) ({ cls := "java/lang/Math", name := "min", desc := "(II)I" } : Jvm.MethodName)) ∈ GW := mwT 338 (by decide +kernel) rfl
theorem wd_339 : (Jvm.Cond.static ({ cls := "java/lang/Math", name := "min", desc := "(II)I" } : Jvm.MethodName)) ∈ GW := mwT 339 (by decide +kernel) rfl
theorem wd_340 : (Jvm.Cond.code ({ cls := "java/lang/Math", name := "min", desc := "(II)I" } : Jvm.MethodName) prog_17_method_69_code (2 : Nat) (Option.some Jvm.ClassFile.FieldType.int)) ∈ GW := mwT 340 (by decide +kernel) rfl
theorem wd_341 : (Jvm.Cond.methodLink "java/lang/StringLatin1" (95 : Nat) ({ cls := "java/lang/StringLatin1", name := "indexOfChar", desc := "([BIII)I" } : Jvm.MethodName)) ∈ GW := mwT 341 (by decide +kernel) rfl
theorem wd_342 : (Jvm.Cond.static ({ cls := "java/lang/StringLatin1", name := "indexOfChar", desc := "([BIII)I" } : Jvm.MethodName)) ∈ GW := mwT 342 (by decide +kernel) rfl
theorem wd_343 : (Jvm.Cond.code ({ cls := "java/lang/StringLatin1", name := "indexOfChar", desc := "([BIII)I" } : Jvm.MethodName) prog_19_method_23_code (6 : Nat) (Option.some Jvm.ClassFile.FieldType.int)) ∈ GW := mwT 343 (by decide +kernel) rfl
theorem wd_344 : (Jvm.Cond.methodLink "java/lang/String" (640 : Nat) ({ cls := "java/lang/StringUTF16", name := "indexOf", desc := "([BIII)I" } : Jvm.MethodName)) ∈ GW := mwT 344 (by decide +kernel) rfl
theorem wd_345 : (Jvm.Cond.static ({ cls := "java/lang/StringUTF16", name := "indexOf", desc := "([BIII)I" } : Jvm.MethodName)) ∈ GW := mwT 345 (by decide +kernel) rfl
theorem wd_346 : (Jvm.Cond.code ({ cls := "java/lang/StringUTF16", name := "indexOf", desc := "([BIII)I" } : Jvm.MethodName) prog_20_method_40_code (4 : Nat) (Option.some Jvm.ClassFile.FieldType.int)) ∈ GW := mwT 346 (by decide +kernel) rfl
theorem wd_347 : (Jvm.Cond.methodLink "java/lang/StringUTF16" (224 : Nat) ({ cls := "java/lang/Math", name := "max", desc := "(II)I" } : Jvm.MethodName)) ∈ GW := mwT 347 (by decide +kernel) rfl
theorem wd_348 : (Jvm.Cond.methodLink "java/lang/StringUTF16" (183 : Nat) ({ cls := "java/lang/Math", name := "min", desc := "(II)I" } : Jvm.MethodName)) ∈ GW := mwT 348 (by decide +kernel) rfl
theorem wd_349 : (Jvm.Cond.constant "java/lang/StringUTF16" (227 : Nat) (65536 : Int32)) ∈ GW := mwT 349 (by decide +kernel) rfl
theorem wd_350 : (Jvm.Cond.methodLink "java/lang/StringUTF16" (228 : Nat) ({ cls := "java/lang/StringUTF16", name := "indexOfChar", desc := "([BIII)I" } : Jvm.MethodName)) ∈ GW := mwT 350 (by decide +kernel) rfl
theorem wd_351 : (Jvm.Cond.static ({ cls := "java/lang/StringUTF16", name := "indexOfChar", desc := "([BIII)I" } : Jvm.MethodName)) ∈ GW := mwT 351 (by decide +kernel) rfl
theorem wd_352 : (Jvm.Cond.code ({ cls := "java/lang/StringUTF16", name := "indexOfChar", desc := "([BIII)I" } : Jvm.MethodName) prog_20_method_47_code (4 : Nat) (Option.some Jvm.ClassFile.FieldType.int)) ∈ GW := mwT 352 (by decide +kernel) rfl
theorem wd_353 : (Jvm.Cond.methodLink "java/lang/StringUTF16" (96 : Nat) ({ cls := "java/lang/StringUTF16", name := "checkBoundsBeginEnd", desc := "(II[B)V" } : Jvm.MethodName)) ∈ GW := mwT 353 (by decide +kernel) rfl
theorem wd_354 : (Jvm.Cond.static ({ cls := "java/lang/StringUTF16", name := "checkBoundsBeginEnd", desc := "(II[B)V" } : Jvm.MethodName)) ∈ GW := mwT 354 (by decide +kernel) rfl
theorem wd_355 : (Jvm.Cond.code ({ cls := "java/lang/StringUTF16", name := "checkBoundsBeginEnd", desc := "(II[B)V" } : Jvm.MethodName) prog_20_method_93_code (3 : Nat) (Option.none : Option Jvm.ClassFile.FieldType)) ∈ GW := mwT 355 (by decide +kernel) rfl
theorem wd_356 : (Jvm.Cond.methodLink "java/lang/StringUTF16" (48 : Nat) ({ cls := "java/lang/StringUTF16", name := "length", desc := "([B)I" } : Jvm.MethodName)) ∈ GW := mwT 356 (by decide +kernel) rfl
theorem wd_357 : (Jvm.Cond.static ({ cls := "java/lang/StringUTF16", name := "length", desc := "([B)I" } : Jvm.MethodName)) ∈ GW := mwT 357 (by decide +kernel) rfl
theorem wd_358 : (Jvm.Cond.code ({ cls := "java/lang/StringUTF16", name := "length", desc := "([B)I" } : Jvm.MethodName) prog_20_method_6_code (1 : Nat) (Option.some Jvm.ClassFile.FieldType.int)) ∈ GW := mwT 358 (by decide +kernel) rfl
theorem wd_359 : (Jvm.Cond.methodLink "java/lang/StringUTF16" (241 : Nat) ({ cls := "java/lang/String", name := "checkBoundsBeginEnd", desc := "(III)V" } : Jvm.MethodName)) ∈ GW := mwT 359 (by decide +kernel) rfl
theorem wd_360 : (Jvm.Cond.static ({ cls := "java/lang/String", name := "checkBoundsBeginEnd", desc := "(III)V" } : Jvm.MethodName)) ∈ GW := mwT 360 (by decide +kernel) rfl
theorem wd_361 : (Jvm.Cond.code ({ cls := "java/lang/String", name := "checkBoundsBeginEnd", desc := "(III)V" } : Jvm.MethodName) prog_18_method_158_code (3 : Nat) (Option.none : Option Jvm.ClassFile.FieldType)) ∈ GW := mwT 361 (by decide +kernel) rfl
theorem wd_364 : (Jvm.Cond.methodLink "java/lang/String" (1062 : Nat) ({ cls := "jdk/internal/util/Preconditions", name := "checkFromToIndex", desc := "(IIILjava/util/function/BiFunction;)I" } : Jvm.MethodName)) ∈ GW := mwT 364 (by decide +kernel) rfl
theorem wd_365 : (Jvm.Cond.static ({ cls := "jdk/internal/util/Preconditions", name := "checkFromToIndex", desc := "(IIILjava/util/function/BiFunction;)I" } : Jvm.MethodName)) ∈ GW := mwT 365 (by decide +kernel) rfl
theorem wd_366 : (Jvm.Cond.code ({ cls := "jdk/internal/util/Preconditions", name := "checkFromToIndex", desc := "(IIILjava/util/function/BiFunction;)I" } : Jvm.MethodName) prog_22_method_12_code (4 : Nat) (Option.some Jvm.ClassFile.FieldType.int)) ∈ GW := mwT 366 (by decide +kernel) rfl
theorem wd_367 : (Jvm.Cond.methodLink "java/lang/StringUTF16" (244 : Nat) ({ cls := "java/lang/StringUTF16", name := "indexOfCharUnsafe", desc := "([BIII)I" } : Jvm.MethodName)) ∈ GW := mwT 367 (by decide +kernel) rfl
theorem wd_368 : (Jvm.Cond.static ({ cls := "java/lang/StringUTF16", name := "indexOfCharUnsafe", desc := "([BIII)I" } : Jvm.MethodName)) ∈ GW := mwT 368 (by decide +kernel) rfl
theorem wd_369 : (Jvm.Cond.code ({ cls := "java/lang/StringUTF16", name := "indexOfCharUnsafe", desc := "([BIII)I" } : Jvm.MethodName) prog_20_method_48_code (5 : Nat) (Option.some Jvm.ClassFile.FieldType.int)) ∈ GW := mwT 369 (by decide +kernel) rfl
theorem wd_370 : (Jvm.Cond.methodLink "java/lang/StringUTF16" (71 : Nat) ({ cls := "java/lang/StringUTF16", name := "getChar", desc := "([BI)C" } : Jvm.MethodName)) ∈ GW := mwT 370 (by decide +kernel) rfl
theorem wd_371 : (Jvm.Cond.static ({ cls := "java/lang/StringUTF16", name := "getChar", desc := "([BI)C" } : Jvm.MethodName)) ∈ GW := mwT 371 (by decide +kernel) rfl
theorem wd_372 : (Jvm.Cond.code ({ cls := "java/lang/StringUTF16", name := "getChar", desc := "([BI)C" } : Jvm.MethodName) prog_20_method_5_code (2 : Nat) (Option.some Jvm.ClassFile.FieldType.char)) ∈ GW := mwT 372 (by decide +kernel) rfl
theorem wd_379 : (Jvm.Cond.methodLink "java/lang/StringUTF16" (232 : Nat) ({ cls := "java/lang/StringUTF16", name := "indexOfSupplementary", desc := "([BIII)I" } : Jvm.MethodName)) ∈ GW := mwT 379 (by decide +kernel) rfl
theorem wd_380 : (Jvm.Cond.static ({ cls := "java/lang/StringUTF16", name := "indexOfSupplementary", desc := "([BIII)I" } : Jvm.MethodName)) ∈ GW := mwT 380 (by decide +kernel) rfl
theorem wd_381 : (Jvm.Cond.code ({ cls := "java/lang/StringUTF16", name := "indexOfSupplementary", desc := "([BIII)I" } : Jvm.MethodName) prog_20_method_49_code (7 : Nat) (Option.some Jvm.ClassFile.FieldType.int)) ∈ GW := mwT 381 (by decide +kernel) rfl
theorem wd_382 : (Jvm.Cond.methodLink "java/lang/StringUTF16" (164 : Nat) ({ cls := "java/lang/Character", name := "isValidCodePoint", desc := "(I)Z" } : Jvm.MethodName)) ∈ GW := mwT 382 (by decide +kernel) rfl
theorem wd_383 : (Jvm.Cond.static ({ cls := "java/lang/Character", name := "isValidCodePoint", desc := "(I)Z" } : Jvm.MethodName)) ∈ GW := mwT 383 (by decide +kernel) rfl
theorem wd_384 : (Jvm.Cond.code ({ cls := "java/lang/Character", name := "isValidCodePoint", desc := "(I)Z" } : Jvm.MethodName) prog_15_method_11_code (2 : Nat) (Option.some Jvm.ClassFile.FieldType.boolean)) ∈ GW := mwT 384 (by decide +kernel) rfl
theorem wd_385 : (Jvm.Cond.methodLink "java/lang/StringUTF16" (157 : Nat) ({ cls := "java/lang/Character", name := "highSurrogate", desc := "(I)C" } : Jvm.MethodName)) ∈ GW := mwT 385 (by decide +kernel) rfl
theorem wd_386 : (Jvm.Cond.static ({ cls := "java/lang/Character", name := "highSurrogate", desc := "(I)C" } : Jvm.MethodName)) ∈ GW := mwT 386 (by decide +kernel) rfl
theorem wd_387 : (Jvm.Cond.code ({ cls := "java/lang/Character", name := "highSurrogate", desc := "(I)C" } : Jvm.MethodName) prog_15_method_28_code (1 : Nat) (Option.some Jvm.ClassFile.FieldType.char)) ∈ GW := mwT 387 (by decide +kernel) rfl
theorem wd_388 : (Jvm.Cond.constant "java/lang/Character" (110 : Nat) (55232 : Int32)) ∈ GW := mwT 388 (by decide +kernel) rfl
theorem wd_389 : (Jvm.Cond.methodLink "java/lang/StringUTF16" (161 : Nat) ({ cls := "java/lang/Character", name := "lowSurrogate", desc := "(I)C" } : Jvm.MethodName)) ∈ GW := mwT 389 (by decide +kernel) rfl
theorem wd_390 : (Jvm.Cond.static ({ cls := "java/lang/Character", name := "lowSurrogate", desc := "(I)C" } : Jvm.MethodName)) ∈ GW := mwT 390 (by decide +kernel) rfl
theorem wd_391 : (Jvm.Cond.code ({ cls := "java/lang/Character", name := "lowSurrogate", desc := "(I)C" } : Jvm.MethodName) prog_15_method_29_code (1 : Nat) (Option.some Jvm.ClassFile.FieldType.char)) ∈ GW := mwT 391 (by decide +kernel) rfl
theorem wd_392 : (Jvm.Cond.constant "java/lang/Character" (76 : Nat) (56320 : Int32)) ∈ GW := mwT 392 (by decide +kernel) rfl
theorem wd_393 : (Jvm.Cond.methodLink "ClueLogic$Reader" (66 : Nat) ({ cls := "ClueLogic$Reader", name := "ofPerson", desc := "()LClueLogic$Clue;" } : Jvm.MethodName)) ∈ GW := mwT 393 (by decide +kernel) rfl
theorem wd_395 : (Jvm.Cond.instanceMethod ({ cls := "ClueLogic$Reader", name := "ofPerson", desc := "()LClueLogic$Clue;" } : Jvm.MethodName)) ∈ GW := mwT 395 (by decide +kernel) rfl
theorem wd_396 : (Jvm.Cond.code ({ cls := "ClueLogic$Reader", name := "ofPerson", desc := "()LClueLogic$Clue;" } : Jvm.MethodName) prog_10_method_6_code (2 : Nat) (Option.some (Jvm.ClassFile.FieldType.object "ClueLogic$Clue"))) ∈ GW := mwT 396 (by decide +kernel) rfl
theorem wd_397 : (Jvm.Cond.classLink "ClueLogic$Reader" (83 : Nat) "ClueLogic$OfPerson") ∈ GW := mwT 397 (by decide +kernel) rfl
theorem wd_398 : (Jvm.Cond.instantiable "ClueLogic$OfPerson" (1 : Nat)) ∈ GW := mwT 398 (by decide +kernel) rfl
theorem wd_399 : (Jvm.Cond.methodLink "ClueLogic$Reader" (85 : Nat) ({ cls := "ClueLogic$OfPerson", name := "<init>", desc := "(I)V" } : Jvm.MethodName)) ∈ GW := mwT 399 (by decide +kernel) rfl
theorem wd_400 : (Jvm.Cond.instanceMethod ({ cls := "ClueLogic$OfPerson", name := "<init>", desc := "(I)V" } : Jvm.MethodName)) ∈ GW := mwT 400 (by decide +kernel) rfl
theorem wd_401 : (Jvm.Cond.code ({ cls := "ClueLogic$OfPerson", name := "<init>", desc := "(I)V" } : Jvm.MethodName) prog_6_method_1_code (2 : Nat) (Option.none : Option Jvm.ClassFile.FieldType)) ∈ GW := mwT 401 (by decide +kernel) rfl
theorem wd_402 : (Jvm.Cond.methodLink "ClueLogic$OfPerson" (1 : Nat) ({ cls := "java/lang/Object", name := "<init>", desc := "()V" } : Jvm.MethodName)) ∈ GW := mwT 402 (by decide +kernel) rfl
theorem wd_404 : (Jvm.Cond.fieldLink "ClueLogic$OfPerson" (13 : Nat) "ClueLogic$OfPerson" "parties" "I") ∈ GW := mwT 404 (by decide +kernel) rfl
theorem wd_405 : (Jvm.Cond.laysFinal "ClueLogic$OfPerson" "ClueLogic$OfPerson" "parties" "I") ∈ GW := mwT 405 (by decide +kernel) rfl
theorem wd_408 : (Jvm.Cond.arrayClass Jvm.ClassFile.FieldType.byte) ∈ GW := mwT 408 (by decide +kernel) rfl
theorem wd_409 : (Jvm.Cond.methodLink "ClueLogic$Reader" (69 : Nat) ({ cls := "ClueLogic$Reader", name := "saying", desc := "()LClueLogic$Clue;" } : Jvm.MethodName)) ∈ GW := mwT 409 (by decide +kernel) rfl
theorem wd_411 : (Jvm.Cond.instanceMethod ({ cls := "ClueLogic$Reader", name := "saying", desc := "()LClueLogic$Clue;" } : Jvm.MethodName)) ∈ GW := mwT 411 (by decide +kernel) rfl
theorem wd_412 : (Jvm.Cond.code ({ cls := "ClueLogic$Reader", name := "saying", desc := "()LClueLogic$Clue;" } : Jvm.MethodName) prog_10_method_7_code (2 : Nat) (Option.some (Jvm.ClassFile.FieldType.object "ClueLogic$Clue"))) ∈ GW := mwT 412 (by decide +kernel) rfl
theorem wd_414 : (Jvm.Cond.methodLink "ClueLogic$Reader" (72 : Nat) ({ cls := "ClueLogic$Reader", name := "turned", desc := "(I)LClueLogic$Clue;" } : Jvm.MethodName)) ∈ GW := mwT 414 (by decide +kernel) rfl
theorem wd_416 : (Jvm.Cond.instanceMethod ({ cls := "ClueLogic$Reader", name := "turned", desc := "(I)LClueLogic$Clue;" } : Jvm.MethodName)) ∈ GW := mwT 416 (by decide +kernel) rfl
theorem wd_417 : (Jvm.Cond.code ({ cls := "ClueLogic$Reader", name := "turned", desc := "(I)LClueLogic$Clue;" } : Jvm.MethodName) prog_10_method_8_code (3 : Nat) (Option.some (Jvm.ClassFile.FieldType.object "ClueLogic$Clue"))) ∈ GW := mwT 417 (by decide +kernel) rfl
theorem wd_418 : (Jvm.Cond.classLink "ClueLogic$Reader" (91 : Nat) "ClueLogic$Turned") ∈ GW := mwT 418 (by decide +kernel) rfl
theorem wd_419 : (Jvm.Cond.instantiable "ClueLogic$Turned" (2 : Nat)) ∈ GW := mwT 419 (by decide +kernel) rfl
theorem wd_420 : (Jvm.Cond.methodLink "ClueLogic$Reader" (93 : Nat) ({ cls := "ClueLogic$Turned", name := "<init>", desc := "(ILClueLogic$Clue;)V" } : Jvm.MethodName)) ∈ GW := mwT 420 (by decide +kernel) rfl
theorem wd_421 : (Jvm.Cond.instanceMethod ({ cls := "ClueLogic$Turned", name := "<init>", desc := "(ILClueLogic$Clue;)V" } : Jvm.MethodName)) ∈ GW := mwT 421 (by decide +kernel) rfl
theorem wd_422 : (Jvm.Cond.code ({ cls := "ClueLogic$Turned", name := "<init>", desc := "(ILClueLogic$Clue;)V" } : Jvm.MethodName) prog_11_method_1_code (3 : Nat) (Option.none : Option Jvm.ClassFile.FieldType)) ∈ GW := mwT 422 (by decide +kernel) rfl
theorem wd_423 : (Jvm.Cond.methodLink "ClueLogic$Turned" (1 : Nat) ({ cls := "java/lang/Object", name := "<init>", desc := "()V" } : Jvm.MethodName)) ∈ GW := mwT 423 (by decide +kernel) rfl
theorem wd_424 : (Jvm.Cond.fieldLink "ClueLogic$Turned" (7 : Nat) "ClueLogic$Turned" "turning" "I") ∈ GW := mwT 424 (by decide +kernel) rfl
theorem wd_425 : (Jvm.Cond.fieldLink "ClueLogic$Turned" (13 : Nat) "ClueLogic$Turned" "part" "LClueLogic$Clue;") ∈ GW := mwT 425 (by decide +kernel) rfl
theorem wd_426 : (Jvm.Cond.laysFinal "ClueLogic$Turned" "ClueLogic$Turned" "turning" "I") ∈ GW := mwT 426 (by decide +kernel) rfl
theorem wd_428 : (Jvm.Cond.laysFinal "ClueLogic$Turned" "ClueLogic$Turned" "part" "LClueLogic$Clue;") ∈ GW := mwT 428 (by decide +kernel) rfl
theorem wd_431 : (Jvm.Cond.methodLink "ClueLogic$Reader" (76 : Nat) ({ cls := "ClueLogic$Reader", name := "joined", desc := "(Z)LClueLogic$Clue;" } : Jvm.MethodName)) ∈ GW := mwT 431 (by decide +kernel) rfl
theorem wd_433 : (Jvm.Cond.instanceMethod ({ cls := "ClueLogic$Reader", name := "joined", desc := "(Z)LClueLogic$Clue;" } : Jvm.MethodName)) ∈ GW := mwT 433 (by decide +kernel) rfl
theorem wd_434 : (Jvm.Cond.code ({ cls := "ClueLogic$Reader", name := "joined", desc := "(Z)LClueLogic$Clue;" } : Jvm.MethodName) prog_10_method_9_code (4 : Nat) (Option.some (Jvm.ClassFile.FieldType.object "ClueLogic$Clue"))) ∈ GW := mwT 434 (by decide +kernel) rfl
theorem wd_435 : (Jvm.Cond.classLink "ClueLogic$Reader" (96 : Nat) "ClueLogic$Joined") ∈ GW := mwT 435 (by decide +kernel) rfl
theorem wd_436 : (Jvm.Cond.instantiable "ClueLogic$Joined" (3 : Nat)) ∈ GW := mwT 436 (by decide +kernel) rfl
theorem wd_437 : (Jvm.Cond.methodLink "ClueLogic$Reader" (98 : Nat) ({ cls := "ClueLogic$Joined", name := "<init>", desc := "(ZLClueLogic$Clue;LClueLogic$Clue;)V" } : Jvm.MethodName)) ∈ GW := mwT 437 (by decide +kernel) rfl
theorem wd_438 : (Jvm.Cond.instanceMethod ({ cls := "ClueLogic$Joined", name := "<init>", desc := "(ZLClueLogic$Clue;LClueLogic$Clue;)V" } : Jvm.MethodName)) ∈ GW := mwT 438 (by decide +kernel) rfl
theorem wd_439 : (Jvm.Cond.code ({ cls := "ClueLogic$Joined", name := "<init>", desc := "(ZLClueLogic$Clue;LClueLogic$Clue;)V" } : Jvm.MethodName) prog_5_method_1_code (4 : Nat) (Option.none : Option Jvm.ClassFile.FieldType)) ∈ GW := mwT 439 (by decide +kernel) rfl
theorem wd_440 : (Jvm.Cond.methodLink "ClueLogic$Joined" (1 : Nat) ({ cls := "java/lang/Object", name := "<init>", desc := "()V" } : Jvm.MethodName)) ∈ GW := mwT 440 (by decide +kernel) rfl
theorem wd_441 : (Jvm.Cond.fieldLink "ClueLogic$Joined" (7 : Nat) "ClueLogic$Joined" "both" "Z") ∈ GW := mwT 441 (by decide +kernel) rfl
theorem wd_442 : (Jvm.Cond.fieldLink "ClueLogic$Joined" (13 : Nat) "ClueLogic$Joined" "first" "LClueLogic$Clue;") ∈ GW := mwT 442 (by decide +kernel) rfl
theorem wd_443 : (Jvm.Cond.fieldLink "ClueLogic$Joined" (17 : Nat) "ClueLogic$Joined" "second" "LClueLogic$Clue;") ∈ GW := mwT 443 (by decide +kernel) rfl
theorem wd_444 : (Jvm.Cond.laysFinal "ClueLogic$Joined" "ClueLogic$Joined" "both" "Z") ∈ GW := mwT 444 (by decide +kernel) rfl
theorem wd_446 : (Jvm.Cond.laysFinal "ClueLogic$Joined" "ClueLogic$Joined" "first" "LClueLogic$Clue;") ∈ GW := mwT 446 (by decide +kernel) rfl
theorem wd_448 : (Jvm.Cond.laysFinal "ClueLogic$Joined" "ClueLogic$Joined" "second" "LClueLogic$Clue;") ∈ GW := mwT 448 (by decide +kernel) rfl
theorem wd_451 : (Jvm.Cond.methodLink "ClueLogic$Reader" (80 : Nat) ({ cls := "ClueLogic$Reader", name := "ofValues", desc := "(I)LClueLogic$Clue;" } : Jvm.MethodName)) ∈ GW := mwT 451 (by decide +kernel) rfl
theorem wd_453 : (Jvm.Cond.instanceMethod ({ cls := "ClueLogic$Reader", name := "ofValues", desc := "(I)LClueLogic$Clue;" } : Jvm.MethodName)) ∈ GW := mwT 453 (by decide +kernel) rfl
theorem wd_454 : (Jvm.Cond.code ({ cls := "ClueLogic$Reader", name := "ofValues", desc := "(I)LClueLogic$Clue;" } : Jvm.MethodName) prog_10_method_10_code (4 : Nat) (Option.some (Jvm.ClassFile.FieldType.object "ClueLogic$Clue"))) ∈ GW := mwT 454 (by decide +kernel) rfl
theorem wd_455 : (Jvm.Cond.methodLink "ClueLogic$Reader" (101 : Nat) ({ cls := "ClueLogic$Reader", name := "takeValue", desc := "()I" } : Jvm.MethodName)) ∈ GW := mwT 455 (by decide +kernel) rfl
theorem wd_457 : (Jvm.Cond.instanceMethod ({ cls := "ClueLogic$Reader", name := "takeValue", desc := "()I" } : Jvm.MethodName)) ∈ GW := mwT 457 (by decide +kernel) rfl
theorem wd_458 : (Jvm.Cond.code ({ cls := "ClueLogic$Reader", name := "takeValue", desc := "()I" } : Jvm.MethodName) prog_10_method_11_code (3 : Nat) (Option.some Jvm.ClassFile.FieldType.int)) ∈ GW := mwT 458 (by decide +kernel) rfl
theorem wd_459 : (Jvm.Cond.classLink "ClueLogic$Reader" (105 : Nat) "ClueLogic$OfValues") ∈ GW := mwT 459 (by decide +kernel) rfl
theorem wd_460 : (Jvm.Cond.instantiable "ClueLogic$OfValues" (3 : Nat)) ∈ GW := mwT 460 (by decide +kernel) rfl
theorem wd_461 : (Jvm.Cond.methodLink "ClueLogic$Reader" (107 : Nat) ({ cls := "ClueLogic$OfValues", name := "<init>", desc := "(III)V" } : Jvm.MethodName)) ∈ GW := mwT 461 (by decide +kernel) rfl
theorem wd_462 : (Jvm.Cond.instanceMethod ({ cls := "ClueLogic$OfValues", name := "<init>", desc := "(III)V" } : Jvm.MethodName)) ∈ GW := mwT 462 (by decide +kernel) rfl
theorem wd_463 : (Jvm.Cond.code ({ cls := "ClueLogic$OfValues", name := "<init>", desc := "(III)V" } : Jvm.MethodName) prog_7_method_1_code (4 : Nat) (Option.none : Option Jvm.ClassFile.FieldType)) ∈ GW := mwT 463 (by decide +kernel) rfl
theorem wd_464 : (Jvm.Cond.methodLink "ClueLogic$OfValues" (1 : Nat) ({ cls := "java/lang/Object", name := "<init>", desc := "()V" } : Jvm.MethodName)) ∈ GW := mwT 464 (by decide +kernel) rfl
theorem wd_465 : (Jvm.Cond.fieldLink "ClueLogic$OfValues" (7 : Nat) "ClueLogic$OfValues" "sign" "I") ∈ GW := mwT 465 (by decide +kernel) rfl
theorem wd_466 : (Jvm.Cond.fieldLink "ClueLogic$OfValues" (13 : Nat) "ClueLogic$OfValues" "v" "I") ∈ GW := mwT 466 (by decide +kernel) rfl
theorem wd_467 : (Jvm.Cond.fieldLink "ClueLogic$OfValues" (16 : Nat) "ClueLogic$OfValues" "w" "I") ∈ GW := mwT 467 (by decide +kernel) rfl
theorem wd_468 : (Jvm.Cond.laysFinal "ClueLogic$OfValues" "ClueLogic$OfValues" "sign" "I") ∈ GW := mwT 468 (by decide +kernel) rfl
theorem wd_470 : (Jvm.Cond.laysFinal "ClueLogic$OfValues" "ClueLogic$OfValues" "v" "I") ∈ GW := mwT 470 (by decide +kernel) rfl
theorem wd_472 : (Jvm.Cond.laysFinal "ClueLogic$OfValues" "ClueLogic$OfValues" "w" "I") ∈ GW := mwT 472 (by decide +kernel) rfl
theorem wd_475 : (Jvm.Cond.methodLink "ClueLogic$Reader" (50 : Nat) ({ cls := "ClueLogic$Puzzle", name := "add", desc := "(LClueLogic$Clue;)V" } : Jvm.MethodName)) ∈ GW := mwT 475 (by decide +kernel) rfl
theorem wd_476 : (Jvm.Cond.instanceMethod ({ cls := "ClueLogic$Puzzle", name := "add", desc := "(LClueLogic$Clue;)V" } : Jvm.MethodName)) ∈ GW := mwT 476 (by decide +kernel) rfl
theorem wd_477 : (Jvm.Cond.selects "ClueLogic$Puzzle" ({ cls := "ClueLogic$Puzzle", name := "add", desc := "(LClueLogic$Clue;)V" } : Jvm.MethodName) ({ cls := "ClueLogic$Puzzle", name := "add", desc := "(LClueLogic$Clue;)V" } : Jvm.MethodName)) ∈ GW := mwT 477 (by decide +kernel) rfl
theorem wd_478 : (Jvm.Cond.code ({ cls := "ClueLogic$Puzzle", name := "add", desc := "(LClueLogic$Clue;)V" } : Jvm.MethodName) prog_9_method_2_code (2 : Nat) (Option.none : Option Jvm.ClassFile.FieldType)) ∈ GW := mwT 478 (by decide +kernel) rfl
theorem wd_479 : (Jvm.Cond.methodLink "ClueLogic" (35 : Nat) ({ cls := "ClueLogic$Reader", name := "place", desc := "()I" } : Jvm.MethodName)) ∈ GW := mwT 479 (by decide +kernel) rfl
theorem wd_480 : (Jvm.Cond.instanceMethod ({ cls := "ClueLogic$Reader", name := "place", desc := "()I" } : Jvm.MethodName)) ∈ GW := mwT 480 (by decide +kernel) rfl
theorem wd_481 : (Jvm.Cond.selects "ClueLogic$Reader" ({ cls := "ClueLogic$Reader", name := "place", desc := "()I" } : Jvm.MethodName) ({ cls := "ClueLogic$Reader", name := "place", desc := "()I" } : Jvm.MethodName)) ∈ GW := mwT 481 (by decide +kernel) rfl
theorem wd_482 : (Jvm.Cond.code ({ cls := "ClueLogic$Reader", name := "place", desc := "()I" } : Jvm.MethodName) prog_10_method_2_code (1 : Nat) (Option.some Jvm.ClassFile.FieldType.int)) ∈ GW := mwT 482 (by decide +kernel) rfl
theorem wd_483 : (Jvm.Cond.methodLink "ClueLogic" (39 : Nat) ({ cls := "ClueLogic$Puzzle", name := "clueCount", desc := "()I" } : Jvm.MethodName)) ∈ GW := mwT 483 (by decide +kernel) rfl
theorem wd_484 : (Jvm.Cond.instanceMethod ({ cls := "ClueLogic$Puzzle", name := "clueCount", desc := "()I" } : Jvm.MethodName)) ∈ GW := mwT 484 (by decide +kernel) rfl
theorem wd_485 : (Jvm.Cond.selects "ClueLogic$Puzzle" ({ cls := "ClueLogic$Puzzle", name := "clueCount", desc := "()I" } : Jvm.MethodName) ({ cls := "ClueLogic$Puzzle", name := "clueCount", desc := "()I" } : Jvm.MethodName)) ∈ GW := mwT 485 (by decide +kernel) rfl
theorem wd_486 : (Jvm.Cond.code ({ cls := "ClueLogic$Puzzle", name := "clueCount", desc := "()I" } : Jvm.MethodName) prog_9_method_6_code (1 : Nat) (Option.some Jvm.ClassFile.FieldType.int)) ∈ GW := mwT 486 (by decide +kernel) rfl
theorem wd_487 : (Jvm.Cond.methodLink "ClueLogicLaw" (23 : Nat) ({ cls := "ClueLogic", name := "told", desc := "(I)I" } : Jvm.MethodName)) ∈ GW := mwT 487 (by decide +kernel) rfl
theorem wd_488 : (Jvm.Cond.instanceMethod ({ cls := "ClueLogic", name := "told", desc := "(I)I" } : Jvm.MethodName)) ∈ GW := mwT 488 (by decide +kernel) rfl
theorem wd_489 : (Jvm.Cond.selects "ClueLogic" ({ cls := "ClueLogic", name := "told", desc := "(I)I" } : Jvm.MethodName) ({ cls := "ClueLogic", name := "told", desc := "(I)I" } : Jvm.MethodName)) ∈ GW := mwT 489 (by decide +kernel) rfl
theorem wd_490 : (Jvm.Cond.code ({ cls := "ClueLogic", name := "told", desc := "(I)I" } : Jvm.MethodName) prog_1_method_4_code (2 : Nat) (Option.some Jvm.ClassFile.FieldType.int)) ∈ GW := mwT 490 (by decide +kernel) rfl
theorem wd_491 : (Jvm.Cond.methodLink "ClueLogic" (45 : Nat) ({ cls := "ClueLogic$Puzzle", name := "things", desc := "()I" } : Jvm.MethodName)) ∈ GW := mwT 491 (by decide +kernel) rfl
theorem wd_492 : (Jvm.Cond.instanceMethod ({ cls := "ClueLogic$Puzzle", name := "things", desc := "()I" } : Jvm.MethodName)) ∈ GW := mwT 492 (by decide +kernel) rfl
theorem wd_493 : (Jvm.Cond.selects "ClueLogic$Puzzle" ({ cls := "ClueLogic$Puzzle", name := "things", desc := "()I" } : Jvm.MethodName) ({ cls := "ClueLogic$Puzzle", name := "things", desc := "()I" } : Jvm.MethodName)) ∈ GW := mwT 493 (by decide +kernel) rfl
theorem wd_494 : (Jvm.Cond.code ({ cls := "ClueLogic$Puzzle", name := "things", desc := "()I" } : Jvm.MethodName) prog_9_method_3_code (1 : Nat) (Option.some Jvm.ClassFile.FieldType.int)) ∈ GW := mwT 494 (by decide +kernel) rfl
theorem wd_495 : (Jvm.Cond.methodLink "ClueLogic" (48 : Nat) ({ cls := "ClueLogic$Puzzle", name := "kinds", desc := "()I" } : Jvm.MethodName)) ∈ GW := mwT 495 (by decide +kernel) rfl
theorem wd_496 : (Jvm.Cond.methodLink "ClueLogic" (51 : Nat) ({ cls := "ClueLogic$Puzzle", name := "persons", desc := "()I" } : Jvm.MethodName)) ∈ GW := mwT 496 (by decide +kernel) rfl
theorem wd_497 : (Jvm.Cond.methodLink "ClueLogicLaw" (28 : Nat) ({ cls := "ClueLogic", name := "run", desc := "()I" } : Jvm.MethodName)) ∈ GW := mwT 497 (by decide +kernel) rfl
theorem wd_498 : (Jvm.Cond.instanceMethod ({ cls := "ClueLogic", name := "run", desc := "()I" } : Jvm.MethodName)) ∈ GW := mwT 498 (by decide +kernel) rfl
theorem wd_499 : (Jvm.Cond.selects "ClueLogic" ({ cls := "ClueLogic", name := "run", desc := "()I" } : Jvm.MethodName) ({ cls := "ClueLogic", name := "run", desc := "()I" } : Jvm.MethodName)) ∈ GW := mwT 499 (by decide +kernel) rfl
theorem wd_500 : (Jvm.Cond.code ({ cls := "ClueLogic", name := "run", desc := "()I" } : Jvm.MethodName) prog_1_method_5_code (1 : Nat) (Option.some Jvm.ClassFile.FieldType.int)) ∈ GW := mwT 500 (by decide +kernel) rfl
theorem wd_501 : (Jvm.Cond.methodLink "ClueLogic" (62 : Nat) ({ cls := "ClueLogic$Answers", name := "find", desc := "()V" } : Jvm.MethodName)) ∈ GW := mwT 501 (by decide +kernel) rfl
theorem wd_502 : (Jvm.Cond.instanceMethod ({ cls := "ClueLogic$Answers", name := "find", desc := "()V" } : Jvm.MethodName)) ∈ GW := mwT 502 (by decide +kernel) rfl
theorem wd_503 : (Jvm.Cond.selects "ClueLogic$Answers" ({ cls := "ClueLogic$Answers", name := "find", desc := "()V" } : Jvm.MethodName) ({ cls := "ClueLogic$Answers", name := "find", desc := "()V" } : Jvm.MethodName)) ∈ GW := mwT 503 (by decide +kernel) rfl
theorem wd_504 : (Jvm.Cond.code ({ cls := "ClueLogic$Answers", name := "find", desc := "()V" } : Jvm.MethodName) prog_2_method_8_code (4 : Nat) (Option.none : Option Jvm.ClassFile.FieldType)) ∈ GW := mwT 504 (by decide +kernel) rfl
theorem wd_505 : (Jvm.Cond.methodLink "ClueLogic$Answers" (48 : Nat) ({ cls := "ClueLogic$Puzzle", name := "orders", desc := "()LClueLogic$Orders;" } : Jvm.MethodName)) ∈ GW := mwT 505 (by decide +kernel) rfl
theorem wd_506 : (Jvm.Cond.methodLink "ClueLogic$Answers" (70 : Nat) ({ cls := "ClueLogic$Orders", name := "allTicks", desc := "()I" } : Jvm.MethodName)) ∈ GW := mwT 506 (by decide +kernel) rfl
theorem wd_507 : (Jvm.Cond.methodLink "ClueLogic$Answers" (73 : Nat) ({ cls := "java/util/Arrays", name := "fill", desc := "([II)V" } : Jvm.MethodName)) ∈ GW := mwT 507 (by decide +kernel) rfl
theorem wd_508 : (Jvm.Cond.static ({ cls := "java/util/Arrays", name := "fill", desc := "([II)V" } : Jvm.MethodName)) ∈ GW := mwT 508 (by decide +kernel) rfl
theorem wd_509 : (Jvm.Cond.code ({ cls := "java/util/Arrays", name := "fill", desc := "([II)V" } : Jvm.MethodName) prog_21_method_103_code (4 : Nat) (Option.none : Option Jvm.ClassFile.FieldType)) ∈ GW := mwT 509 (by decide +kernel) rfl
theorem wd_510 : (Jvm.Cond.methodLink "ClueLogic$Answers" (79 : Nat) ({ cls := "ClueLogic$Walk", name := "choose", desc := "([I)I" } : Jvm.MethodName)) ∈ GW := mwT 510 (by decide +kernel) rfl
theorem wd_511 : (Jvm.Cond.instanceMethod ({ cls := "ClueLogic$Walk", name := "choose", desc := "([I)I" } : Jvm.MethodName)) ∈ GW := mwT 511 (by decide +kernel) rfl
theorem wd_512 : (Jvm.Cond.selects "ClueLogic$Walk" ({ cls := "ClueLogic$Walk", name := "choose", desc := "([I)I" } : Jvm.MethodName) ({ cls := "ClueLogic$Walk", name := "choose", desc := "([I)I" } : Jvm.MethodName)) ∈ GW := mwT 512 (by decide +kernel) rfl
theorem wd_513 : (Jvm.Cond.code ({ cls := "ClueLogic$Walk", name := "choose", desc := "([I)I" } : Jvm.MethodName) prog_12_method_2_code (4 : Nat) (Option.some Jvm.ClassFile.FieldType.int)) ∈ GW := mwT 513 (by decide +kernel) rfl
theorem wd_514 : (Jvm.Cond.methodLink "ClueLogic$Walk" (40 : Nat) ({ cls := "ClueLogic$Walk", name := "chooseOrders", desc := "(II)I" } : Jvm.MethodName)) ∈ GW := mwT 514 (by decide +kernel) rfl
theorem wd_516 : (Jvm.Cond.instanceMethod ({ cls := "ClueLogic$Walk", name := "chooseOrders", desc := "(II)I" } : Jvm.MethodName)) ∈ GW := mwT 516 (by decide +kernel) rfl
theorem wd_517 : (Jvm.Cond.code ({ cls := "ClueLogic$Walk", name := "chooseOrders", desc := "(II)I" } : Jvm.MethodName) prog_12_method_3_code (5 : Nat) (Option.some Jvm.ClassFile.FieldType.int)) ∈ GW := mwT 517 (by decide +kernel) rfl
theorem wd_518 : (Jvm.Cond.methodLink "ClueLogic$Walk" (44 : Nat) ({ cls := "ClueLogic$Orders", name := "count", desc := "()I" } : Jvm.MethodName)) ∈ GW := mwT 518 (by decide +kernel) rfl
theorem wd_519 : (Jvm.Cond.instanceMethod ({ cls := "ClueLogic$Orders", name := "count", desc := "()I" } : Jvm.MethodName)) ∈ GW := mwT 519 (by decide +kernel) rfl
theorem wd_520 : (Jvm.Cond.selects "ClueLogic$Orders" ({ cls := "ClueLogic$Orders", name := "count", desc := "()I" } : Jvm.MethodName) ({ cls := "ClueLogic$Orders", name := "count", desc := "()I" } : Jvm.MethodName)) ∈ GW := mwT 520 (by decide +kernel) rfl
theorem wd_521 : (Jvm.Cond.code ({ cls := "ClueLogic$Orders", name := "count", desc := "()I" } : Jvm.MethodName) prog_8_method_3_code (1 : Nat) (Option.some Jvm.ClassFile.FieldType.int)) ∈ GW := mwT 521 (by decide +kernel) rfl
theorem wd_522 : (Jvm.Cond.methodLink "ClueLogic$Walk" (49 : Nat) ({ cls := "ClueLogic$Orders", name := "ticks", desc := "(I)I" } : Jvm.MethodName)) ∈ GW := mwT 522 (by decide +kernel) rfl
theorem wd_523 : (Jvm.Cond.instanceMethod ({ cls := "ClueLogic$Orders", name := "ticks", desc := "(I)I" } : Jvm.MethodName)) ∈ GW := mwT 523 (by decide +kernel) rfl
theorem wd_524 : (Jvm.Cond.selects "ClueLogic$Orders" ({ cls := "ClueLogic$Orders", name := "ticks", desc := "(I)I" } : Jvm.MethodName) ({ cls := "ClueLogic$Orders", name := "ticks", desc := "(I)I" } : Jvm.MethodName)) ∈ GW := mwT 524 (by decide +kernel) rfl
theorem wd_525 : (Jvm.Cond.code ({ cls := "ClueLogic$Orders", name := "ticks", desc := "(I)I" } : Jvm.MethodName) prog_8_method_4_code (2 : Nat) (Option.some Jvm.ClassFile.FieldType.int)) ∈ GW := mwT 525 (by decide +kernel) rfl
theorem wd_526 : (Jvm.Cond.methodLink "ClueLogic$Answers" (83 : Nat) ({ cls := "ClueLogic$Walk", name := "start", desc := "()V" } : Jvm.MethodName)) ∈ GW := mwT 526 (by decide +kernel) rfl
theorem wd_527 : (Jvm.Cond.instanceMethod ({ cls := "ClueLogic$Walk", name := "start", desc := "()V" } : Jvm.MethodName)) ∈ GW := mwT 527 (by decide +kernel) rfl
theorem wd_528 : (Jvm.Cond.selects "ClueLogic$Walk" ({ cls := "ClueLogic$Walk", name := "start", desc := "()V" } : Jvm.MethodName) ({ cls := "ClueLogic$Walk", name := "start", desc := "()V" } : Jvm.MethodName)) ∈ GW := mwT 528 (by decide +kernel) rfl
theorem wd_529 : (Jvm.Cond.code ({ cls := "ClueLogic$Walk", name := "start", desc := "()V" } : Jvm.MethodName) prog_12_method_4_code (2 : Nat) (Option.none : Option Jvm.ClassFile.FieldType)) ∈ GW := mwT 529 (by decide +kernel) rfl
theorem wd_530 : (Jvm.Cond.methodLink "ClueLogic$Walk" (53 : Nat) ({ cls := "ClueLogic$Walk", name := "go", desc := "(II)V" } : Jvm.MethodName)) ∈ GW := mwT 530 (by decide +kernel) rfl
theorem wd_532 : (Jvm.Cond.instanceMethod ({ cls := "ClueLogic$Walk", name := "go", desc := "(II)V" } : Jvm.MethodName)) ∈ GW := mwT 532 (by decide +kernel) rfl
theorem wd_533 : (Jvm.Cond.code ({ cls := "ClueLogic$Walk", name := "go", desc := "(II)V" } : Jvm.MethodName) prog_12_method_8_code (5 : Nat) (Option.none : Option Jvm.ClassFile.FieldType)) ∈ GW := mwT 533 (by decide +kernel) rfl
theorem wd_534 : (Jvm.Cond.methodLink "ClueLogic$Walk" (57 : Nat) ({ cls := "ClueLogic$Walk", name := "order", desc := "(I)I" } : Jvm.MethodName)) ∈ GW := mwT 534 (by decide +kernel) rfl
theorem wd_535 : (Jvm.Cond.instanceMethod ({ cls := "ClueLogic$Walk", name := "order", desc := "(I)I" } : Jvm.MethodName)) ∈ GW := mwT 535 (by decide +kernel) rfl
theorem wd_536 : (Jvm.Cond.selects "ClueLogic$Walk" ({ cls := "ClueLogic$Walk", name := "order", desc := "(I)I" } : Jvm.MethodName) ({ cls := "ClueLogic$Walk", name := "order", desc := "(I)I" } : Jvm.MethodName)) ∈ GW := mwT 536 (by decide +kernel) rfl
theorem wd_537 : (Jvm.Cond.code ({ cls := "ClueLogic$Walk", name := "order", desc := "(I)I" } : Jvm.MethodName) prog_12_method_6_code (2 : Nat) (Option.some Jvm.ClassFile.FieldType.int)) ∈ GW := mwT 537 (by decide +kernel) rfl
theorem wd_538 : (Jvm.Cond.methodLink "ClueLogic$Walk" (60 : Nat) ({ cls := "ClueLogic$Orders", name := "things", desc := "()I" } : Jvm.MethodName)) ∈ GW := mwT 538 (by decide +kernel) rfl
theorem wd_539 : (Jvm.Cond.instanceMethod ({ cls := "ClueLogic$Orders", name := "things", desc := "()I" } : Jvm.MethodName)) ∈ GW := mwT 539 (by decide +kernel) rfl
theorem wd_540 : (Jvm.Cond.selects "ClueLogic$Orders" ({ cls := "ClueLogic$Orders", name := "things", desc := "()I" } : Jvm.MethodName) ({ cls := "ClueLogic$Orders", name := "things", desc := "()I" } : Jvm.MethodName)) ∈ GW := mwT 540 (by decide +kernel) rfl
theorem wd_541 : (Jvm.Cond.code ({ cls := "ClueLogic$Orders", name := "things", desc := "()I" } : Jvm.MethodName) prog_8_method_2_code (1 : Nat) (Option.some Jvm.ClassFile.FieldType.int)) ∈ GW := mwT 541 (by decide +kernel) rfl
theorem wd_542 : (Jvm.Cond.methodLink "ClueLogic$Walk" (63 : Nat) ({ cls := "ClueLogic$Orders", name := "value", desc := "(II)I" } : Jvm.MethodName)) ∈ GW := mwT 542 (by decide +kernel) rfl
theorem wd_543 : (Jvm.Cond.instanceMethod ({ cls := "ClueLogic$Orders", name := "value", desc := "(II)I" } : Jvm.MethodName)) ∈ GW := mwT 543 (by decide +kernel) rfl
theorem wd_544 : (Jvm.Cond.selects "ClueLogic$Orders" ({ cls := "ClueLogic$Orders", name := "value", desc := "(II)I" } : Jvm.MethodName) ({ cls := "ClueLogic$Orders", name := "value", desc := "(II)I" } : Jvm.MethodName)) ∈ GW := mwT 544 (by decide +kernel) rfl
theorem wd_545 : (Jvm.Cond.code ({ cls := "ClueLogic$Orders", name := "value", desc := "(II)I" } : Jvm.MethodName) prog_8_method_6_code (3 : Nat) (Option.some Jvm.ClassFile.FieldType.int)) ∈ GW := mwT 545 (by decide +kernel) rfl
theorem wd_546 : (Jvm.Cond.methodLink "ClueLogic$Answers" (86 : Nat) ({ cls := "ClueLogic$Answers", name := "weigh", desc := "()V" } : Jvm.MethodName)) ∈ GW := mwT 546 (by decide +kernel) rfl
theorem wd_548 : (Jvm.Cond.instanceMethod ({ cls := "ClueLogic$Answers", name := "weigh", desc := "()V" } : Jvm.MethodName)) ∈ GW := mwT 548 (by decide +kernel) rfl
theorem wd_549 : (Jvm.Cond.code ({ cls := "ClueLogic$Answers", name := "weigh", desc := "()V" } : Jvm.MethodName) prog_2_method_9_code (5 : Nat) (Option.none : Option Jvm.ClassFile.FieldType)) ∈ GW := mwT 549 (by decide +kernel) rfl
theorem wd_550 : (Jvm.Cond.methodLink "ClueLogic$Answers" (92 : Nat) ({ cls := "ClueLogic$Puzzle", name := "parties", desc := "()I" } : Jvm.MethodName)) ∈ GW := mwT 550 (by decide +kernel) rfl
theorem wd_551 : (Jvm.Cond.methodLink "ClueLogic$Answers" (95 : Nat) ({ cls := "ClueLogic$Puzzle", name := "clueCount", desc := "()I" } : Jvm.MethodName)) ∈ GW := mwT 551 (by decide +kernel) rfl
theorem wd_552 : (Jvm.Cond.methodLink "ClueLogic$Answers" (98 : Nat) ({ cls := "ClueLogic$Puzzle", name := "clue", desc := "(I)LClueLogic$Clue;" } : Jvm.MethodName)) ∈ GW := mwT 552 (by decide +kernel) rfl
theorem wd_553 : (Jvm.Cond.instanceMethod ({ cls := "ClueLogic$Puzzle", name := "clue", desc := "(I)LClueLogic$Clue;" } : Jvm.MethodName)) ∈ GW := mwT 553 (by decide +kernel) rfl
theorem wd_554 : (Jvm.Cond.selects "ClueLogic$Puzzle" ({ cls := "ClueLogic$Puzzle", name := "clue", desc := "(I)LClueLogic$Clue;" } : Jvm.MethodName) ({ cls := "ClueLogic$Puzzle", name := "clue", desc := "(I)LClueLogic$Clue;" } : Jvm.MethodName)) ∈ GW := mwT 554 (by decide +kernel) rfl
theorem wd_555 : (Jvm.Cond.code ({ cls := "ClueLogic$Puzzle", name := "clue", desc := "(I)LClueLogic$Clue;" } : Jvm.MethodName) prog_9_method_8_code (2 : Nat) (Option.some (Jvm.ClassFile.FieldType.object "ClueLogic$Clue"))) ∈ GW := mwT 555 (by decide +kernel) rfl
theorem wd_556 : (Jvm.Cond.methodLink "ClueLogic$Answers" (102 : Nat) ({ cls := "ClueLogic$Walk", name := "thing", desc := "()[I" } : Jvm.MethodName)) ∈ GW := mwT 556 (by decide +kernel) rfl
theorem wd_557 : (Jvm.Cond.instanceMethod ({ cls := "ClueLogic$Walk", name := "thing", desc := "()[I" } : Jvm.MethodName)) ∈ GW := mwT 557 (by decide +kernel) rfl
theorem wd_558 : (Jvm.Cond.selects "ClueLogic$Walk" ({ cls := "ClueLogic$Walk", name := "thing", desc := "()[I" } : Jvm.MethodName) ({ cls := "ClueLogic$Walk", name := "thing", desc := "()[I" } : Jvm.MethodName)) ∈ GW := mwT 558 (by decide +kernel) rfl
theorem wd_559 : (Jvm.Cond.code ({ cls := "ClueLogic$Walk", name := "thing", desc := "()[I" } : Jvm.MethodName) prog_12_method_7_code (1 : Nat) (Option.some (Jvm.ClassFile.FieldType.array Jvm.ClassFile.FieldType.int))) ∈ GW := mwT 559 (by decide +kernel) rfl
theorem wd_561 : (Jvm.Cond.methodLink "ClueLogic$Answers" (106 : Nat) ({ cls := "ClueLogic$Clue", name := "holds", desc := "([I)I" } : Jvm.MethodName)) ∈ GW := mwT 561 (by decide +kernel) rfl
theorem wd_565 : (Jvm.Cond.selects "ClueLogic$Joined" ({ cls := "ClueLogic$Clue", name := "holds", desc := "([I)I" } : Jvm.MethodName) ({ cls := "ClueLogic$Joined", name := "holds", desc := "([I)I" } : Jvm.MethodName)) ∈ GW := mwT 565 (by decide +kernel) rfl
theorem wd_567 : (Jvm.Cond.instanceMethod ({ cls := "ClueLogic$Joined", name := "holds", desc := "([I)I" } : Jvm.MethodName)) ∈ GW := mwT 567 (by decide +kernel) rfl
theorem wd_569 : (Jvm.Cond.code ({ cls := "ClueLogic$Joined", name := "holds", desc := "([I)I" } : Jvm.MethodName) prog_5_method_2_code (4 : Nat) (Option.some Jvm.ClassFile.FieldType.int)) ∈ GW := mwT 569 (by decide +kernel) rfl
theorem wd_571 : (Jvm.Cond.methodLink "ClueLogic$Joined" (20 : Nat) ({ cls := "ClueLogic$Clue", name := "holds", desc := "([I)I" } : Jvm.MethodName)) ∈ GW := mwT 571 (by decide +kernel) rfl
theorem wd_573 : (Jvm.Cond.selects "ClueLogic$OfPerson" ({ cls := "ClueLogic$Clue", name := "holds", desc := "([I)I" } : Jvm.MethodName) ({ cls := "ClueLogic$OfPerson", name := "holds", desc := "([I)I" } : Jvm.MethodName)) ∈ GW := mwT 573 (by decide +kernel) rfl
theorem wd_575 : (Jvm.Cond.instanceMethod ({ cls := "ClueLogic$OfPerson", name := "holds", desc := "([I)I" } : Jvm.MethodName)) ∈ GW := mwT 575 (by decide +kernel) rfl
theorem wd_577 : (Jvm.Cond.code ({ cls := "ClueLogic$OfPerson", name := "holds", desc := "([I)I" } : Jvm.MethodName) prog_6_method_2_code (2 : Nat) (Option.some Jvm.ClassFile.FieldType.int)) ∈ GW := mwT 577 (by decide +kernel) rfl
theorem wd_579 : (Jvm.Cond.selects "ClueLogic$OfValues" ({ cls := "ClueLogic$Clue", name := "holds", desc := "([I)I" } : Jvm.MethodName) ({ cls := "ClueLogic$OfValues", name := "holds", desc := "([I)I" } : Jvm.MethodName)) ∈ GW := mwT 579 (by decide +kernel) rfl
theorem wd_581 : (Jvm.Cond.instanceMethod ({ cls := "ClueLogic$OfValues", name := "holds", desc := "([I)I" } : Jvm.MethodName)) ∈ GW := mwT 581 (by decide +kernel) rfl
theorem wd_583 : (Jvm.Cond.code ({ cls := "ClueLogic$OfValues", name := "holds", desc := "([I)I" } : Jvm.MethodName) prog_7_method_2_code (2 : Nat) (Option.some Jvm.ClassFile.FieldType.int)) ∈ GW := mwT 583 (by decide +kernel) rfl
theorem wd_584 : (Jvm.Cond.methodLink "ClueLogic$OfValues" (19 : Nat) ({ cls := "ClueLogic$OfValues", name := "relates", desc := "(II)Z" } : Jvm.MethodName)) ∈ GW := mwT 584 (by decide +kernel) rfl
theorem wd_586 : (Jvm.Cond.instanceMethod ({ cls := "ClueLogic$OfValues", name := "relates", desc := "(II)Z" } : Jvm.MethodName)) ∈ GW := mwT 586 (by decide +kernel) rfl
theorem wd_587 : (Jvm.Cond.code ({ cls := "ClueLogic$OfValues", name := "relates", desc := "(II)Z" } : Jvm.MethodName) prog_7_method_3_code (3 : Nat) (Option.some Jvm.ClassFile.FieldType.boolean)) ∈ GW := mwT 587 (by decide +kernel) rfl
theorem wd_589 : (Jvm.Cond.selects "ClueLogic$Turned" ({ cls := "ClueLogic$Clue", name := "holds", desc := "([I)I" } : Jvm.MethodName) ({ cls := "ClueLogic$Turned", name := "holds", desc := "([I)I" } : Jvm.MethodName)) ∈ GW := mwT 589 (by decide +kernel) rfl
theorem wd_591 : (Jvm.Cond.instanceMethod ({ cls := "ClueLogic$Turned", name := "holds", desc := "([I)I" } : Jvm.MethodName)) ∈ GW := mwT 591 (by decide +kernel) rfl
theorem wd_593 : (Jvm.Cond.code ({ cls := "ClueLogic$Turned", name := "holds", desc := "([I)I" } : Jvm.MethodName) prog_11_method_2_code (2 : Nat) (Option.some Jvm.ClassFile.FieldType.int)) ∈ GW := mwT 593 (by decide +kernel) rfl
theorem wd_595 : (Jvm.Cond.methodLink "ClueLogic$Turned" (17 : Nat) ({ cls := "ClueLogic$Clue", name := "holds", desc := "([I)I" } : Jvm.MethodName)) ∈ GW := mwT 595 (by decide +kernel) rfl
theorem wd_596 : (Jvm.Cond.methodLink "ClueLogic$Answers" (111 : Nat) ({ cls := "ClueLogic$Answers", name := "add", desc := "(I)V" } : Jvm.MethodName)) ∈ GW := mwT 596 (by decide +kernel) rfl
theorem wd_598 : (Jvm.Cond.instanceMethod ({ cls := "ClueLogic$Answers", name := "add", desc := "(I)V" } : Jvm.MethodName)) ∈ GW := mwT 598 (by decide +kernel) rfl
theorem wd_599 : (Jvm.Cond.code ({ cls := "ClueLogic$Answers", name := "add", desc := "(I)V" } : Jvm.MethodName) prog_2_method_10_code (4 : Nat) (Option.none : Option Jvm.ClassFile.FieldType)) ∈ GW := mwT 599 (by decide +kernel) rfl
theorem wd_600 : (Jvm.Cond.methodLink "ClueLogic$Answers" (118 : Nat) ({ cls := "java/lang/Integer", name := "bitCount", desc := "(I)I" } : Jvm.MethodName)) ∈ GW := mwT 600 (by decide +kernel) rfl
theorem wd_601 : (Jvm.Cond.methodLink "ClueLogic$Answers" (124 : Nat) ({ cls := "ClueLogic$Puzzle", name := "kinds", desc := "()I" } : Jvm.MethodName)) ∈ GW := mwT 601 (by decide +kernel) rfl
theorem wd_602 : (Jvm.Cond.methodLink "ClueLogic$Answers" (127 : Nat) ({ cls := "ClueLogic$Walk", name := "order", desc := "(I)I" } : Jvm.MethodName)) ∈ GW := mwT 602 (by decide +kernel) rfl
theorem wd_603 : (Jvm.Cond.methodLink "ClueLogic$Answers" (130 : Nat) ({ cls := "ClueLogic$Answers", name := "keep", desc := "(I)V" } : Jvm.MethodName)) ∈ GW := mwT 603 (by decide +kernel) rfl
theorem wd_605 : (Jvm.Cond.instanceMethod ({ cls := "ClueLogic$Answers", name := "keep", desc := "(I)V" } : Jvm.MethodName)) ∈ GW := mwT 605 (by decide +kernel) rfl
theorem wd_606 : (Jvm.Cond.code ({ cls := "ClueLogic$Answers", name := "keep", desc := "(I)V" } : Jvm.MethodName) prog_2_method_11_code (3 : Nat) (Option.none : Option Jvm.ClassFile.FieldType)) ∈ GW := mwT 606 (by decide +kernel) rfl
theorem wd_607 : (Jvm.Cond.methodLink "ClueLogic$Answers" (115 : Nat) ({ cls := "ClueLogic$Answers", name := "need", desc := "(I)V" } : Jvm.MethodName)) ∈ GW := mwT 607 (by decide +kernel) rfl
theorem wd_609 : (Jvm.Cond.instanceMethod ({ cls := "ClueLogic$Answers", name := "need", desc := "(I)V" } : Jvm.MethodName)) ∈ GW := mwT 609 (by decide +kernel) rfl
theorem wd_610 : (Jvm.Cond.code ({ cls := "ClueLogic$Answers", name := "need", desc := "(I)V" } : Jvm.MethodName) prog_2_method_12_code (3 : Nat) (Option.none : Option Jvm.ClassFile.FieldType)) ∈ GW := mwT 610 (by decide +kernel) rfl
theorem wd_611 : (Jvm.Cond.methodLink "ClueLogic$Answers" (89 : Nat) ({ cls := "ClueLogic$Walk", name := "next", desc := "()V" } : Jvm.MethodName)) ∈ GW := mwT 611 (by decide +kernel) rfl
theorem wd_612 : (Jvm.Cond.instanceMethod ({ cls := "ClueLogic$Walk", name := "next", desc := "()V" } : Jvm.MethodName)) ∈ GW := mwT 612 (by decide +kernel) rfl
theorem wd_613 : (Jvm.Cond.selects "ClueLogic$Walk" ({ cls := "ClueLogic$Walk", name := "next", desc := "()V" } : Jvm.MethodName) ({ cls := "ClueLogic$Walk", name := "next", desc := "()V" } : Jvm.MethodName)) ∈ GW := mwT 613 (by decide +kernel) rfl
theorem wd_614 : (Jvm.Cond.code ({ cls := "ClueLogic$Walk", name := "next", desc := "()V" } : Jvm.MethodName) prog_12_method_5_code (2 : Nat) (Option.none : Option Jvm.ClassFile.FieldType)) ∈ GW := mwT 614 (by decide +kernel) rfl
theorem wd_615 : (Jvm.Cond.methodLink "ClueLogic" (67 : Nat) ({ cls := "ClueLogic$Answers", name := "count", desc := "()I" } : Jvm.MethodName)) ∈ GW := mwT 615 (by decide +kernel) rfl
theorem wd_616 : (Jvm.Cond.instanceMethod ({ cls := "ClueLogic$Answers", name := "count", desc := "()I" } : Jvm.MethodName)) ∈ GW := mwT 616 (by decide +kernel) rfl
theorem wd_617 : (Jvm.Cond.selects "ClueLogic$Answers" ({ cls := "ClueLogic$Answers", name := "count", desc := "()I" } : Jvm.MethodName) ({ cls := "ClueLogic$Answers", name := "count", desc := "()I" } : Jvm.MethodName)) ∈ GW := mwT 617 (by decide +kernel) rfl
theorem wd_618 : (Jvm.Cond.code ({ cls := "ClueLogic$Answers", name := "count", desc := "()I" } : Jvm.MethodName) prog_2_method_2_code (1 : Nat) (Option.some Jvm.ClassFile.FieldType.int)) ∈ GW := mwT 618 (by decide +kernel) rfl
theorem wd_619 : (Jvm.Cond.methodLink "ClueLogicLaw" (32 : Nat) ({ cls := "ClueLogic", name := "answer", desc := "(III)I" } : Jvm.MethodName)) ∈ GW := mwT 619 (by decide +kernel) rfl
theorem wd_620 : (Jvm.Cond.instanceMethod ({ cls := "ClueLogic", name := "answer", desc := "(III)I" } : Jvm.MethodName)) ∈ GW := mwT 620 (by decide +kernel) rfl
theorem wd_621 : (Jvm.Cond.selects "ClueLogic" ({ cls := "ClueLogic", name := "answer", desc := "(III)I" } : Jvm.MethodName) ({ cls := "ClueLogic", name := "answer", desc := "(III)I" } : Jvm.MethodName)) ∈ GW := mwT 621 (by decide +kernel) rfl
theorem wd_622 : (Jvm.Cond.code ({ cls := "ClueLogic", name := "answer", desc := "(III)I" } : Jvm.MethodName) prog_1_method_6_code (4 : Nat) (Option.some Jvm.ClassFile.FieldType.int)) ∈ GW := mwT 622 (by decide +kernel) rfl
theorem wd_623 : (Jvm.Cond.methodLink "ClueLogic" (70 : Nat) ({ cls := "ClueLogic", name := "isKept", desc := "(I)Z" } : Jvm.MethodName)) ∈ GW := mwT 623 (by decide +kernel) rfl
theorem wd_625 : (Jvm.Cond.instanceMethod ({ cls := "ClueLogic", name := "isKept", desc := "(I)Z" } : Jvm.MethodName)) ∈ GW := mwT 625 (by decide +kernel) rfl
theorem wd_626 : (Jvm.Cond.code ({ cls := "ClueLogic", name := "isKept", desc := "(I)Z" } : Jvm.MethodName) prog_1_method_15_code (2 : Nat) (Option.some Jvm.ClassFile.FieldType.boolean)) ∈ GW := mwT 626 (by decide +kernel) rfl
theorem wd_627 : (Jvm.Cond.methodLink "ClueLogic" (132 : Nat) ({ cls := "ClueLogic$Answers", name := "kept", desc := "()I" } : Jvm.MethodName)) ∈ GW := mwT 627 (by decide +kernel) rfl
theorem wd_628 : (Jvm.Cond.instanceMethod ({ cls := "ClueLogic$Answers", name := "kept", desc := "()I" } : Jvm.MethodName)) ∈ GW := mwT 628 (by decide +kernel) rfl
theorem wd_629 : (Jvm.Cond.selects "ClueLogic$Answers" ({ cls := "ClueLogic$Answers", name := "kept", desc := "()I" } : Jvm.MethodName) ({ cls := "ClueLogic$Answers", name := "kept", desc := "()I" } : Jvm.MethodName)) ∈ GW := mwT 629 (by decide +kernel) rfl
theorem wd_630 : (Jvm.Cond.code ({ cls := "ClueLogic$Answers", name := "kept", desc := "()I" } : Jvm.MethodName) prog_2_method_3_code (1 : Nat) (Option.some Jvm.ClassFile.FieldType.int)) ∈ GW := mwT 630 (by decide +kernel) rfl
theorem wd_631 : (Jvm.Cond.methodLink "ClueLogic" (74 : Nat) ({ cls := "ClueLogic$Puzzle", name := "hasThing", desc := "(I)Z" } : Jvm.MethodName)) ∈ GW := mwT 631 (by decide +kernel) rfl
theorem wd_632 : (Jvm.Cond.instanceMethod ({ cls := "ClueLogic$Puzzle", name := "hasThing", desc := "(I)Z" } : Jvm.MethodName)) ∈ GW := mwT 632 (by decide +kernel) rfl
theorem wd_633 : (Jvm.Cond.selects "ClueLogic$Puzzle" ({ cls := "ClueLogic$Puzzle", name := "hasThing", desc := "(I)Z" } : Jvm.MethodName) ({ cls := "ClueLogic$Puzzle", name := "hasThing", desc := "(I)Z" } : Jvm.MethodName)) ∈ GW := mwT 633 (by decide +kernel) rfl
theorem wd_634 : (Jvm.Cond.code ({ cls := "ClueLogic$Puzzle", name := "hasThing", desc := "(I)Z" } : Jvm.MethodName) prog_9_method_9_code (2 : Nat) (Option.some Jvm.ClassFile.FieldType.boolean)) ∈ GW := mwT 634 (by decide +kernel) rfl
theorem wd_635 : (Jvm.Cond.methodLink "ClueLogic" (77 : Nat) ({ cls := "ClueLogic$Puzzle", name := "hasKind", desc := "(I)Z" } : Jvm.MethodName)) ∈ GW := mwT 635 (by decide +kernel) rfl
theorem wd_636 : (Jvm.Cond.instanceMethod ({ cls := "ClueLogic$Puzzle", name := "hasKind", desc := "(I)Z" } : Jvm.MethodName)) ∈ GW := mwT 636 (by decide +kernel) rfl
theorem wd_637 : (Jvm.Cond.selects "ClueLogic$Puzzle" ({ cls := "ClueLogic$Puzzle", name := "hasKind", desc := "(I)Z" } : Jvm.MethodName) ({ cls := "ClueLogic$Puzzle", name := "hasKind", desc := "(I)Z" } : Jvm.MethodName)) ∈ GW := mwT 637 (by decide +kernel) rfl
theorem wd_638 : (Jvm.Cond.code ({ cls := "ClueLogic$Puzzle", name := "hasKind", desc := "(I)Z" } : Jvm.MethodName) prog_9_method_10_code (2 : Nat) (Option.some Jvm.ClassFile.FieldType.boolean)) ∈ GW := mwT 638 (by decide +kernel) rfl
theorem wd_639 : (Jvm.Cond.methodLink "ClueLogic" (80 : Nat) ({ cls := "ClueLogic$Answers", name := "value", desc := "(III)I" } : Jvm.MethodName)) ∈ GW := mwT 639 (by decide +kernel) rfl
theorem wd_640 : (Jvm.Cond.instanceMethod ({ cls := "ClueLogic$Answers", name := "value", desc := "(III)I" } : Jvm.MethodName)) ∈ GW := mwT 640 (by decide +kernel) rfl
theorem wd_641 : (Jvm.Cond.selects "ClueLogic$Answers" ({ cls := "ClueLogic$Answers", name := "value", desc := "(III)I" } : Jvm.MethodName) ({ cls := "ClueLogic$Answers", name := "value", desc := "(III)I" } : Jvm.MethodName)) ∈ GW := mwT 641 (by decide +kernel) rfl
theorem wd_642 : (Jvm.Cond.code ({ cls := "ClueLogic$Answers", name := "value", desc := "(III)I" } : Jvm.MethodName) prog_2_method_4_code (4 : Nat) (Option.some Jvm.ClassFile.FieldType.int)) ∈ GW := mwT 642 (by decide +kernel) rfl
theorem wd_643 : (Jvm.Cond.methodLink "ClueLogic$Answers" (54 : Nat) ({ cls := "ClueLogic$Orders", name := "value", desc := "(II)I" } : Jvm.MethodName)) ∈ GW := mwT 643 (by decide +kernel) rfl
theorem wd_644 : (Jvm.Cond.methodLink "ClueLogicLaw" (37 : Nat) ({ cls := "ClueLogic", name := "truth", desc := "(II)I" } : Jvm.MethodName)) ∈ GW := mwT 644 (by decide +kernel) rfl
theorem wd_645 : (Jvm.Cond.instanceMethod ({ cls := "ClueLogic", name := "truth", desc := "(II)I" } : Jvm.MethodName)) ∈ GW := mwT 645 (by decide +kernel) rfl
theorem wd_646 : (Jvm.Cond.selects "ClueLogic" ({ cls := "ClueLogic", name := "truth", desc := "(II)I" } : Jvm.MethodName) ({ cls := "ClueLogic", name := "truth", desc := "(II)I" } : Jvm.MethodName)) ∈ GW := mwT 646 (by decide +kernel) rfl
theorem wd_647 : (Jvm.Cond.code ({ cls := "ClueLogic", name := "truth", desc := "(II)I" } : Jvm.MethodName) prog_1_method_7_code (3 : Nat) (Option.some Jvm.ClassFile.FieldType.int)) ∈ GW := mwT 647 (by decide +kernel) rfl
theorem wd_648 : (Jvm.Cond.methodLink "ClueLogic" (84 : Nat) ({ cls := "ClueLogic$Puzzle", name := "hasPerson", desc := "(I)Z" } : Jvm.MethodName)) ∈ GW := mwT 648 (by decide +kernel) rfl
theorem wd_649 : (Jvm.Cond.instanceMethod ({ cls := "ClueLogic$Puzzle", name := "hasPerson", desc := "(I)Z" } : Jvm.MethodName)) ∈ GW := mwT 649 (by decide +kernel) rfl
theorem wd_650 : (Jvm.Cond.selects "ClueLogic$Puzzle" ({ cls := "ClueLogic$Puzzle", name := "hasPerson", desc := "(I)Z" } : Jvm.MethodName) ({ cls := "ClueLogic$Puzzle", name := "hasPerson", desc := "(I)Z" } : Jvm.MethodName)) ∈ GW := mwT 650 (by decide +kernel) rfl
theorem wd_651 : (Jvm.Cond.code ({ cls := "ClueLogic$Puzzle", name := "hasPerson", desc := "(I)Z" } : Jvm.MethodName) prog_9_method_12_code (2 : Nat) (Option.some Jvm.ClassFile.FieldType.boolean)) ∈ GW := mwT 651 (by decide +kernel) rfl
theorem wd_652 : (Jvm.Cond.methodLink "ClueLogic" (87 : Nat) ({ cls := "ClueLogic$Answers", name := "isTruthful", desc := "(II)Z" } : Jvm.MethodName)) ∈ GW := mwT 652 (by decide +kernel) rfl
theorem wd_653 : (Jvm.Cond.instanceMethod ({ cls := "ClueLogic$Answers", name := "isTruthful", desc := "(II)Z" } : Jvm.MethodName)) ∈ GW := mwT 653 (by decide +kernel) rfl
theorem wd_654 : (Jvm.Cond.selects "ClueLogic$Answers" ({ cls := "ClueLogic$Answers", name := "isTruthful", desc := "(II)Z" } : Jvm.MethodName) ({ cls := "ClueLogic$Answers", name := "isTruthful", desc := "(II)Z" } : Jvm.MethodName)) ∈ GW := mwT 654 (by decide +kernel) rfl
theorem wd_655 : (Jvm.Cond.code ({ cls := "ClueLogic$Answers", name := "isTruthful", desc := "(II)Z" } : Jvm.MethodName) prog_2_method_5_code (3 : Nat) (Option.some Jvm.ClassFile.FieldType.boolean)) ∈ GW := mwT 655 (by decide +kernel) rfl
theorem wd_657 : (Jvm.Cond.methodLink "ClueLogicLaw" (42 : Nat) ({ cls := "ClueLogic", name := "often", desc := "(III)I" } : Jvm.MethodName)) ∈ GW := mwT 657 (by decide +kernel) rfl
theorem wd_658 : (Jvm.Cond.instanceMethod ({ cls := "ClueLogic", name := "often", desc := "(III)I" } : Jvm.MethodName)) ∈ GW := mwT 658 (by decide +kernel) rfl
theorem wd_659 : (Jvm.Cond.selects "ClueLogic" ({ cls := "ClueLogic", name := "often", desc := "(III)I" } : Jvm.MethodName) ({ cls := "ClueLogic", name := "often", desc := "(III)I" } : Jvm.MethodName)) ∈ GW := mwT 659 (by decide +kernel) rfl
theorem wd_660 : (Jvm.Cond.code ({ cls := "ClueLogic", name := "often", desc := "(III)I" } : Jvm.MethodName) prog_1_method_8_code (4 : Nat) (Option.some Jvm.ClassFile.FieldType.int)) ∈ GW := mwT 660 (by decide +kernel) rfl
theorem wd_661 : (Jvm.Cond.methodLink "ClueLogic" (91 : Nat) ({ cls := "ClueLogic$Puzzle", name := "hasValue", desc := "(I)Z" } : Jvm.MethodName)) ∈ GW := mwT 661 (by decide +kernel) rfl
theorem wd_662 : (Jvm.Cond.instanceMethod ({ cls := "ClueLogic$Puzzle", name := "hasValue", desc := "(I)Z" } : Jvm.MethodName)) ∈ GW := mwT 662 (by decide +kernel) rfl
theorem wd_663 : (Jvm.Cond.selects "ClueLogic$Puzzle" ({ cls := "ClueLogic$Puzzle", name := "hasValue", desc := "(I)Z" } : Jvm.MethodName) ({ cls := "ClueLogic$Puzzle", name := "hasValue", desc := "(I)Z" } : Jvm.MethodName)) ∈ GW := mwT 663 (by decide +kernel) rfl
theorem wd_664 : (Jvm.Cond.code ({ cls := "ClueLogic$Puzzle", name := "hasValue", desc := "(I)Z" } : Jvm.MethodName) prog_9_method_11_code (2 : Nat) (Option.some Jvm.ClassFile.FieldType.boolean)) ∈ GW := mwT 664 (by decide +kernel) rfl
theorem wd_665 : (Jvm.Cond.methodLink "ClueLogic" (94 : Nat) ({ cls := "ClueLogic$Answers", name := "countWith", desc := "(III)I" } : Jvm.MethodName)) ∈ GW := mwT 665 (by decide +kernel) rfl
theorem wd_666 : (Jvm.Cond.instanceMethod ({ cls := "ClueLogic$Answers", name := "countWith", desc := "(III)I" } : Jvm.MethodName)) ∈ GW := mwT 666 (by decide +kernel) rfl
theorem wd_667 : (Jvm.Cond.selects "ClueLogic$Answers" ({ cls := "ClueLogic$Answers", name := "countWith", desc := "(III)I" } : Jvm.MethodName) ({ cls := "ClueLogic$Answers", name := "countWith", desc := "(III)I" } : Jvm.MethodName)) ∈ GW := mwT 667 (by decide +kernel) rfl
theorem wd_668 : (Jvm.Cond.code ({ cls := "ClueLogic$Answers", name := "countWith", desc := "(III)I" } : Jvm.MethodName) prog_2_method_6_code (6 : Nat) (Option.some Jvm.ClassFile.FieldType.int)) ∈ GW := mwT 668 (by decide +kernel) rfl
theorem wd_669 : (Jvm.Cond.methodLink "ClueLogic$Answers" (63 : Nat) ({ cls := "ClueLogic$Orders", name := "count", desc := "()I" } : Jvm.MethodName)) ∈ GW := mwT 669 (by decide +kernel) rfl
theorem wd_670 : (Jvm.Cond.methodLink "ClueLogicLaw" (46 : Nat) ({ cls := "ClueLogic", name := "spare", desc := "(I)Z" } : Jvm.MethodName)) ∈ GW := mwT 670 (by decide +kernel) rfl
theorem wd_671 : (Jvm.Cond.instanceMethod ({ cls := "ClueLogic", name := "spare", desc := "(I)Z" } : Jvm.MethodName)) ∈ GW := mwT 671 (by decide +kernel) rfl
theorem wd_672 : (Jvm.Cond.selects "ClueLogic" ({ cls := "ClueLogic", name := "spare", desc := "(I)Z" } : Jvm.MethodName) ({ cls := "ClueLogic", name := "spare", desc := "(I)Z" } : Jvm.MethodName)) ∈ GW := mwT 672 (by decide +kernel) rfl
theorem wd_673 : (Jvm.Cond.code ({ cls := "ClueLogic", name := "spare", desc := "(I)Z" } : Jvm.MethodName) prog_1_method_9_code (2 : Nat) (Option.some Jvm.ClassFile.FieldType.boolean)) ∈ GW := mwT 673 (by decide +kernel) rfl
theorem wd_674 : (Jvm.Cond.methodLink "ClueLogic" (97 : Nat) ({ cls := "ClueLogic$Puzzle", name := "hasClue", desc := "(I)Z" } : Jvm.MethodName)) ∈ GW := mwT 674 (by decide +kernel) rfl
theorem wd_675 : (Jvm.Cond.instanceMethod ({ cls := "ClueLogic$Puzzle", name := "hasClue", desc := "(I)Z" } : Jvm.MethodName)) ∈ GW := mwT 675 (by decide +kernel) rfl
theorem wd_676 : (Jvm.Cond.selects "ClueLogic$Puzzle" ({ cls := "ClueLogic$Puzzle", name := "hasClue", desc := "(I)Z" } : Jvm.MethodName) ({ cls := "ClueLogic$Puzzle", name := "hasClue", desc := "(I)Z" } : Jvm.MethodName)) ∈ GW := mwT 676 (by decide +kernel) rfl
theorem wd_677 : (Jvm.Cond.code ({ cls := "ClueLogic$Puzzle", name := "hasClue", desc := "(I)Z" } : Jvm.MethodName) prog_9_method_13_code (2 : Nat) (Option.some Jvm.ClassFile.FieldType.boolean)) ∈ GW := mwT 677 (by decide +kernel) rfl
theorem wd_678 : (Jvm.Cond.methodLink "ClueLogic" (100 : Nat) ({ cls := "ClueLogic$Answers", name := "isNeeded", desc := "(I)Z" } : Jvm.MethodName)) ∈ GW := mwT 678 (by decide +kernel) rfl
theorem wd_679 : (Jvm.Cond.instanceMethod ({ cls := "ClueLogic$Answers", name := "isNeeded", desc := "(I)Z" } : Jvm.MethodName)) ∈ GW := mwT 679 (by decide +kernel) rfl
theorem wd_680 : (Jvm.Cond.selects "ClueLogic$Answers" ({ cls := "ClueLogic$Answers", name := "isNeeded", desc := "(I)Z" } : Jvm.MethodName) ({ cls := "ClueLogic$Answers", name := "isNeeded", desc := "(I)Z" } : Jvm.MethodName)) ∈ GW := mwT 680 (by decide +kernel) rfl
theorem wd_681 : (Jvm.Cond.code ({ cls := "ClueLogic$Answers", name := "isNeeded", desc := "(I)Z" } : Jvm.MethodName) prog_2_method_7_code (2 : Nat) (Option.some Jvm.ClassFile.FieldType.boolean)) ∈ GW := mwT 681 (by decide +kernel) rfl
theorem wd_682 : (Jvm.Cond.methodLink "ClueLogicLaw" (50 : Nat) ({ cls := "ClueLogic", name := "cross", desc := "()I" } : Jvm.MethodName)) ∈ GW := mwT 682 (by decide +kernel) rfl
theorem wd_683 : (Jvm.Cond.instanceMethod ({ cls := "ClueLogic", name := "cross", desc := "()I" } : Jvm.MethodName)) ∈ GW := mwT 683 (by decide +kernel) rfl
theorem wd_684 : (Jvm.Cond.selects "ClueLogic" ({ cls := "ClueLogic", name := "cross", desc := "()I" } : Jvm.MethodName) ({ cls := "ClueLogic", name := "cross", desc := "()I" } : Jvm.MethodName)) ∈ GW := mwT 684 (by decide +kernel) rfl
theorem wd_685 : (Jvm.Cond.code ({ cls := "ClueLogic", name := "cross", desc := "()I" } : Jvm.MethodName) prog_1_method_10_code (1 : Nat) (Option.some Jvm.ClassFile.FieldType.int)) ∈ GW := mwT 685 (by decide +kernel) rfl
theorem wd_686 : (Jvm.Cond.methodLink "ClueLogic" (107 : Nat) ({ cls := "ClueLogic$Crossing", name := "finish", desc := "()V" } : Jvm.MethodName)) ∈ GW := mwT 686 (by decide +kernel) rfl
theorem wd_687 : (Jvm.Cond.instanceMethod ({ cls := "ClueLogic$Crossing", name := "finish", desc := "()V" } : Jvm.MethodName)) ∈ GW := mwT 687 (by decide +kernel) rfl
theorem wd_688 : (Jvm.Cond.selects "ClueLogic$Crossing" ({ cls := "ClueLogic$Crossing", name := "finish", desc := "()V" } : Jvm.MethodName) ({ cls := "ClueLogic$Crossing", name := "finish", desc := "()V" } : Jvm.MethodName)) ∈ GW := mwT 688 (by decide +kernel) rfl
theorem wd_689 : (Jvm.Cond.code ({ cls := "ClueLogic$Crossing", name := "finish", desc := "()V" } : Jvm.MethodName) prog_4_method_7_code (3 : Nat) (Option.none : Option Jvm.ClassFile.FieldType)) ∈ GW := mwT 689 (by decide +kernel) rfl
theorem wd_690 : (Jvm.Cond.methodLink "ClueLogic$Crossing" (70 : Nat) ({ cls := "ClueLogic$Crossing", name := "takeStep", desc := "()Z" } : Jvm.MethodName)) ∈ GW := mwT 690 (by decide +kernel) rfl
theorem wd_692 : (Jvm.Cond.instanceMethod ({ cls := "ClueLogic$Crossing", name := "takeStep", desc := "()Z" } : Jvm.MethodName)) ∈ GW := mwT 692 (by decide +kernel) rfl
theorem wd_693 : (Jvm.Cond.code ({ cls := "ClueLogic$Crossing", name := "takeStep", desc := "()Z" } : Jvm.MethodName) prog_4_method_8_code (4 : Nat) (Option.some Jvm.ClassFile.FieldType.boolean)) ∈ GW := mwT 693 (by decide +kernel) rfl
theorem wd_694 : (Jvm.Cond.methodLink "ClueLogic$Crossing" (74 : Nat) ({ cls := "ClueLogic$Walk", name := "choose", desc := "([I)I" } : Jvm.MethodName)) ∈ GW := mwT 694 (by decide +kernel) rfl
theorem wd_695 : (Jvm.Cond.methodLink "ClueLogic$Crossing" (78 : Nat) ({ cls := "ClueLogic$Puzzle", name := "clueCount", desc := "()I" } : Jvm.MethodName)) ∈ GW := mwT 695 (by decide +kernel) rfl
theorem wd_696 : (Jvm.Cond.methodLink "ClueLogic$Crossing" (81 : Nat) ({ cls := "ClueLogic$Puzzle", name := "clue", desc := "(I)LClueLogic$Clue;" } : Jvm.MethodName)) ∈ GW := mwT 696 (by decide +kernel) rfl
theorem wd_697 : (Jvm.Cond.methodLink "ClueLogic$Crossing" (85 : Nat) ({ cls := "ClueLogic$Crossing", name := "look", desc := "(LClueLogic$Clue;I)V" } : Jvm.MethodName)) ∈ GW := mwT 697 (by decide +kernel) rfl
theorem wd_699 : (Jvm.Cond.instanceMethod ({ cls := "ClueLogic$Crossing", name := "look", desc := "(LClueLogic$Clue;I)V" } : Jvm.MethodName)) ∈ GW := mwT 699 (by decide +kernel) rfl
theorem wd_700 : (Jvm.Cond.code ({ cls := "ClueLogic$Crossing", name := "look", desc := "(LClueLogic$Clue;I)V" } : Jvm.MethodName) prog_4_method_9_code (7 : Nat) (Option.none : Option Jvm.ClassFile.FieldType)) ∈ GW := mwT 700 (by decide +kernel) rfl
theorem wd_701 : (Jvm.Cond.methodLink "ClueLogic$Crossing" (96 : Nat) ({ cls := "java/util/Arrays", name := "fill", desc := "([II)V" } : Jvm.MethodName)) ∈ GW := mwT 701 (by decide +kernel) rfl
theorem wd_702 : (Jvm.Cond.methodLink "ClueLogic$Crossing" (102 : Nat) ({ cls := "ClueLogic$Crossing", name := "openParties", desc := "()I" } : Jvm.MethodName)) ∈ GW := mwT 702 (by decide +kernel) rfl
theorem wd_704 : (Jvm.Cond.instanceMethod ({ cls := "ClueLogic$Crossing", name := "openParties", desc := "()I" } : Jvm.MethodName)) ∈ GW := mwT 704 (by decide +kernel) rfl
theorem wd_705 : (Jvm.Cond.code ({ cls := "ClueLogic$Crossing", name := "openParties", desc := "()I" } : Jvm.MethodName) prog_4_method_11_code (6 : Nat) (Option.some Jvm.ClassFile.FieldType.int)) ∈ GW := mwT 705 (by decide +kernel) rfl
theorem wd_706 : (Jvm.Cond.methodLink "ClueLogic$Crossing" (135 : Nat) ({ cls := "ClueLogic$Crossing", name := "waysLeft", desc := "(I)I" } : Jvm.MethodName)) ∈ GW := mwT 706 (by decide +kernel) rfl
theorem wd_707 : (Jvm.Cond.instanceMethod ({ cls := "ClueLogic$Crossing", name := "waysLeft", desc := "(I)I" } : Jvm.MethodName)) ∈ GW := mwT 707 (by decide +kernel) rfl
theorem wd_708 : (Jvm.Cond.selects "ClueLogic$Crossing" ({ cls := "ClueLogic$Crossing", name := "waysLeft", desc := "(I)I" } : Jvm.MethodName) ({ cls := "ClueLogic$Crossing", name := "waysLeft", desc := "(I)I" } : Jvm.MethodName)) ∈ GW := mwT 708 (by decide +kernel) rfl
theorem wd_709 : (Jvm.Cond.code ({ cls := "ClueLogic$Crossing", name := "waysLeft", desc := "(I)I" } : Jvm.MethodName) prog_4_method_6_code (2 : Nat) (Option.some Jvm.ClassFile.FieldType.int)) ∈ GW := mwT 709 (by decide +kernel) rfl
theorem wd_710 : (Jvm.Cond.methodLink "ClueLogic$Crossing" (105 : Nat) ({ cls := "ClueLogic$Walk", name := "start", desc := "()V" } : Jvm.MethodName)) ∈ GW := mwT 710 (by decide +kernel) rfl
theorem wd_711 : (Jvm.Cond.methodLink "ClueLogic$Crossing" (108 : Nat) ({ cls := "ClueLogic$Walk", name := "thing", desc := "()[I" } : Jvm.MethodName)) ∈ GW := mwT 711 (by decide +kernel) rfl
theorem wd_713 : (Jvm.Cond.methodLink "ClueLogic$Crossing" (112 : Nat) ({ cls := "ClueLogic$Clue", name := "holds", desc := "([I)I" } : Jvm.MethodName)) ∈ GW := mwT 713 (by decide +kernel) rfl
theorem wd_714 : (Jvm.Cond.methodLink "ClueLogic$Crossing" (117 : Nat) ({ cls := "ClueLogic$Crossing", name := "seeLayout", desc := "()V" } : Jvm.MethodName)) ∈ GW := mwT 714 (by decide +kernel) rfl
theorem wd_716 : (Jvm.Cond.instanceMethod ({ cls := "ClueLogic$Crossing", name := "seeLayout", desc := "()V" } : Jvm.MethodName)) ∈ GW := mwT 716 (by decide +kernel) rfl
theorem wd_717 : (Jvm.Cond.code ({ cls := "ClueLogic$Crossing", name := "seeLayout", desc := "()V" } : Jvm.MethodName) prog_4_method_10_code (2 : Nat) (Option.none : Option Jvm.ClassFile.FieldType)) ∈ GW := mwT 717 (by decide +kernel) rfl
theorem wd_718 : (Jvm.Cond.methodLink "ClueLogic$Crossing" (126 : Nat) ({ cls := "ClueLogic$Walk", name := "order", desc := "(I)I" } : Jvm.MethodName)) ∈ GW := mwT 718 (by decide +kernel) rfl
theorem wd_719 : (Jvm.Cond.methodLink "ClueLogic$Crossing" (129 : Nat) ({ cls := "ClueLogic$Orders", name := "ticks", desc := "(I)I" } : Jvm.MethodName)) ∈ GW := mwT 719 (by decide +kernel) rfl
theorem wd_720 : (Jvm.Cond.methodLink "ClueLogic$Crossing" (120 : Nat) ({ cls := "ClueLogic$Walk", name := "next", desc := "()V" } : Jvm.MethodName)) ∈ GW := mwT 720 (by decide +kernel) rfl
theorem wd_721 : (Jvm.Cond.methodLink "ClueLogic$Crossing" (89 : Nat) ({ cls := "ClueLogic$Crossing", name := "countUnseen", desc := "()I" } : Jvm.MethodName)) ∈ GW := mwT 721 (by decide +kernel) rfl
theorem wd_723 : (Jvm.Cond.instanceMethod ({ cls := "ClueLogic$Crossing", name := "countUnseen", desc := "()I" } : Jvm.MethodName)) ∈ GW := mwT 723 (by decide +kernel) rfl
theorem wd_724 : (Jvm.Cond.code ({ cls := "ClueLogic$Crossing", name := "countUnseen", desc := "()I" } : Jvm.MethodName) prog_4_method_13_code (3 : Nat) (Option.some Jvm.ClassFile.FieldType.int)) ∈ GW := mwT 724 (by decide +kernel) rfl
theorem wd_725 : (Jvm.Cond.methodLink "ClueLogic$Crossing" (141 : Nat) ({ cls := "java/lang/Integer", name := "bitCount", desc := "(I)I" } : Jvm.MethodName)) ∈ GW := mwT 725 (by decide +kernel) rfl
theorem wd_726 : (Jvm.Cond.methodLink "ClueLogic$Crossing" (92 : Nat) ({ cls := "ClueLogic$Crossing", name := "crossOut", desc := "(II)V" } : Jvm.MethodName)) ∈ GW := mwT 726 (by decide +kernel) rfl
theorem wd_728 : (Jvm.Cond.instanceMethod ({ cls := "ClueLogic$Crossing", name := "crossOut", desc := "(II)V" } : Jvm.MethodName)) ∈ GW := mwT 728 (by decide +kernel) rfl
theorem wd_729 : (Jvm.Cond.code ({ cls := "ClueLogic$Crossing", name := "crossOut", desc := "(II)V" } : Jvm.MethodName) prog_4_method_14_code (4 : Nat) (Option.none : Option Jvm.ClassFile.FieldType)) ∈ GW := mwT 729 (by decide +kernel) rfl
theorem wd_730 : (Jvm.Cond.methodLink "ClueLogic" (112 : Nat) ({ cls := "ClueLogic$Crossing", name := "steps", desc := "()I" } : Jvm.MethodName)) ∈ GW := mwT 730 (by decide +kernel) rfl
theorem wd_731 : (Jvm.Cond.instanceMethod ({ cls := "ClueLogic$Crossing", name := "steps", desc := "()I" } : Jvm.MethodName)) ∈ GW := mwT 731 (by decide +kernel) rfl
theorem wd_732 : (Jvm.Cond.selects "ClueLogic$Crossing" ({ cls := "ClueLogic$Crossing", name := "steps", desc := "()I" } : Jvm.MethodName) ({ cls := "ClueLogic$Crossing", name := "steps", desc := "()I" } : Jvm.MethodName)) ∈ GW := mwT 732 (by decide +kernel) rfl
theorem wd_733 : (Jvm.Cond.code ({ cls := "ClueLogic$Crossing", name := "steps", desc := "()I" } : Jvm.MethodName) prog_4_method_2_code (1 : Nat) (Option.some Jvm.ClassFile.FieldType.int)) ∈ GW := mwT 733 (by decide +kernel) rfl
theorem wd_734 : (Jvm.Cond.methodLink "ClueLogicLaw" (54 : Nat) ({ cls := "ClueLogic", name := "step", desc := "(II)I" } : Jvm.MethodName)) ∈ GW := mwT 734 (by decide +kernel) rfl
theorem wd_735 : (Jvm.Cond.instanceMethod ({ cls := "ClueLogic", name := "step", desc := "(II)I" } : Jvm.MethodName)) ∈ GW := mwT 735 (by decide +kernel) rfl
theorem wd_736 : (Jvm.Cond.selects "ClueLogic" ({ cls := "ClueLogic", name := "step", desc := "(II)I" } : Jvm.MethodName) ({ cls := "ClueLogic", name := "step", desc := "(II)I" } : Jvm.MethodName)) ∈ GW := mwT 736 (by decide +kernel) rfl
theorem wd_737 : (Jvm.Cond.code ({ cls := "ClueLogic", name := "step", desc := "(II)I" } : Jvm.MethodName) prog_1_method_11_code (3 : Nat) (Option.some Jvm.ClassFile.FieldType.int)) ∈ GW := mwT 737 (by decide +kernel) rfl
theorem wd_738 : (Jvm.Cond.methodLink "ClueLogic" (115 : Nat) ({ cls := "ClueLogic$Crossing", name := "clueOf", desc := "(I)I" } : Jvm.MethodName)) ∈ GW := mwT 738 (by decide +kernel) rfl
theorem wd_739 : (Jvm.Cond.instanceMethod ({ cls := "ClueLogic$Crossing", name := "clueOf", desc := "(I)I" } : Jvm.MethodName)) ∈ GW := mwT 739 (by decide +kernel) rfl
theorem wd_740 : (Jvm.Cond.selects "ClueLogic$Crossing" ({ cls := "ClueLogic$Crossing", name := "clueOf", desc := "(I)I" } : Jvm.MethodName) ({ cls := "ClueLogic$Crossing", name := "clueOf", desc := "(I)I" } : Jvm.MethodName)) ∈ GW := mwT 740 (by decide +kernel) rfl
theorem wd_741 : (Jvm.Cond.code ({ cls := "ClueLogic$Crossing", name := "clueOf", desc := "(I)I" } : Jvm.MethodName) prog_4_method_3_code (2 : Nat) (Option.some Jvm.ClassFile.FieldType.int)) ∈ GW := mwT 741 (by decide +kernel) rfl
theorem wd_742 : (Jvm.Cond.methodLink "ClueLogic" (119 : Nat) ({ cls := "ClueLogic$Crossing", name := "crossedBy", desc := "(I)I" } : Jvm.MethodName)) ∈ GW := mwT 742 (by decide +kernel) rfl
theorem wd_743 : (Jvm.Cond.instanceMethod ({ cls := "ClueLogic$Crossing", name := "crossedBy", desc := "(I)I" } : Jvm.MethodName)) ∈ GW := mwT 743 (by decide +kernel) rfl
theorem wd_744 : (Jvm.Cond.selects "ClueLogic$Crossing" ({ cls := "ClueLogic$Crossing", name := "crossedBy", desc := "(I)I" } : Jvm.MethodName) ({ cls := "ClueLogic$Crossing", name := "crossedBy", desc := "(I)I" } : Jvm.MethodName)) ∈ GW := mwT 744 (by decide +kernel) rfl
theorem wd_745 : (Jvm.Cond.code ({ cls := "ClueLogic$Crossing", name := "crossedBy", desc := "(I)I" } : Jvm.MethodName) prog_4_method_4_code (2 : Nat) (Option.some Jvm.ClassFile.FieldType.int)) ∈ GW := mwT 745 (by decide +kernel) rfl
theorem wd_746 : (Jvm.Cond.methodLink "ClueLogicLaw" (58 : Nat) ({ cls := "ClueLogic", name := "may", desc := "(II)I" } : Jvm.MethodName)) ∈ GW := mwT 746 (by decide +kernel) rfl
theorem wd_747 : (Jvm.Cond.instanceMethod ({ cls := "ClueLogic", name := "may", desc := "(II)I" } : Jvm.MethodName)) ∈ GW := mwT 747 (by decide +kernel) rfl
theorem wd_748 : (Jvm.Cond.selects "ClueLogic" ({ cls := "ClueLogic", name := "may", desc := "(II)I" } : Jvm.MethodName) ({ cls := "ClueLogic", name := "may", desc := "(II)I" } : Jvm.MethodName)) ∈ GW := mwT 748 (by decide +kernel) rfl
theorem wd_749 : (Jvm.Cond.code ({ cls := "ClueLogic", name := "may", desc := "(II)I" } : Jvm.MethodName) prog_1_method_12_code (3 : Nat) (Option.some Jvm.ClassFile.FieldType.int)) ∈ GW := mwT 749 (by decide +kernel) rfl
theorem wd_750 : (Jvm.Cond.methodLink "ClueLogic" (122 : Nat) ({ cls := "ClueLogic$Crossing", name := "valuesLeft", desc := "(II)I" } : Jvm.MethodName)) ∈ GW := mwT 750 (by decide +kernel) rfl
theorem wd_751 : (Jvm.Cond.instanceMethod ({ cls := "ClueLogic$Crossing", name := "valuesLeft", desc := "(II)I" } : Jvm.MethodName)) ∈ GW := mwT 751 (by decide +kernel) rfl
theorem wd_752 : (Jvm.Cond.selects "ClueLogic$Crossing" ({ cls := "ClueLogic$Crossing", name := "valuesLeft", desc := "(II)I" } : Jvm.MethodName) ({ cls := "ClueLogic$Crossing", name := "valuesLeft", desc := "(II)I" } : Jvm.MethodName)) ∈ GW := mwT 752 (by decide +kernel) rfl
theorem wd_753 : (Jvm.Cond.code ({ cls := "ClueLogic$Crossing", name := "valuesLeft", desc := "(II)I" } : Jvm.MethodName) prog_4_method_5_code (3 : Nat) (Option.some Jvm.ClassFile.FieldType.int)) ∈ GW := mwT 753 (by decide +kernel) rfl
theorem wd_754 : (Jvm.Cond.methodLink "ClueLogicLaw" (62 : Nat) ({ cls := "ClueLogic", name := "mayBe", desc := "(I)I" } : Jvm.MethodName)) ∈ GW := mwT 754 (by decide +kernel) rfl
theorem wd_755 : (Jvm.Cond.instanceMethod ({ cls := "ClueLogic", name := "mayBe", desc := "(I)I" } : Jvm.MethodName)) ∈ GW := mwT 755 (by decide +kernel) rfl
theorem wd_756 : (Jvm.Cond.selects "ClueLogic" ({ cls := "ClueLogic", name := "mayBe", desc := "(I)I" } : Jvm.MethodName) ({ cls := "ClueLogic", name := "mayBe", desc := "(I)I" } : Jvm.MethodName)) ∈ GW := mwT 756 (by decide +kernel) rfl
theorem wd_757 : (Jvm.Cond.code ({ cls := "ClueLogic", name := "mayBe", desc := "(I)I" } : Jvm.MethodName) prog_1_method_13_code (2 : Nat) (Option.some Jvm.ClassFile.FieldType.int)) ∈ GW := mwT 757 (by decide +kernel) rfl
theorem wd_758 : (Jvm.Cond.methodLink "ClueLogic" (126 : Nat) ({ cls := "ClueLogic$Crossing", name := "waysLeft", desc := "(I)I" } : Jvm.MethodName)) ∈ GW := mwT 758 (by decide +kernel) rfl
theorem wd_759 : (Jvm.Cond.classLink "ClueLogicLaw" (10 : Nat) "ClueLogicModel") ∈ GW := mwT 759 (by decide +kernel) rfl
theorem wd_760 : (Jvm.Cond.instantiable "ClueLogicModel" (36 : Nat)) ∈ GW := mwT 760 (by decide +kernel) rfl
theorem wd_761 : (Jvm.Cond.methodLink "ClueLogicLaw" (12 : Nat) ({ cls := "ClueLogicModel", name := "<init>", desc := "()V" } : Jvm.MethodName)) ∈ GW := mwT 761 (by decide +kernel) rfl
theorem wd_762 : (Jvm.Cond.instanceMethod ({ cls := "ClueLogicModel", name := "<init>", desc := "()V" } : Jvm.MethodName)) ∈ GW := mwT 762 (by decide +kernel) rfl
theorem wd_763 : (Jvm.Cond.code ({ cls := "ClueLogicModel", name := "<init>", desc := "()V" } : Jvm.MethodName) prog_14_method_1_code (1 : Nat) (Option.none : Option Jvm.ClassFile.FieldType)) ∈ GW := mwT 763 (by decide +kernel) rfl
theorem wd_764 : (Jvm.Cond.methodLink "ClueLogicModel" (1 : Nat) ({ cls := "java/lang/Object", name := "<init>", desc := "()V" } : Jvm.MethodName)) ∈ GW := mwT 764 (by decide +kernel) rfl
theorem wd_765 : (Jvm.Cond.constant "ClueLogicModel" (47 : Nat) (110592 : Int32)) ∈ GW := mwT 765 (by decide +kernel) rfl
theorem wd_766 : (Jvm.Cond.methodLink "ClueLogicModel" (76 : Nat) ({ cls := "ClueLogicModel", name := "fresh", desc := "()V" } : Jvm.MethodName)) ∈ GW := mwT 766 (by decide +kernel) rfl
theorem wd_768 : (Jvm.Cond.instanceMethod ({ cls := "ClueLogicModel", name := "fresh", desc := "()V" } : Jvm.MethodName)) ∈ GW := mwT 768 (by decide +kernel) rfl
theorem wd_769 : (Jvm.Cond.code ({ cls := "ClueLogicModel", name := "fresh", desc := "()V" } : Jvm.MethodName) prog_14_method_3_code (1 : Nat) (Option.none : Option Jvm.ClassFile.FieldType)) ∈ GW := mwT 769 (by decide +kernel) rfl
theorem wd_770 : (Jvm.Cond.methodLink "ClueLogicModel" (95 : Nat) ({ cls := "ClueLogicModel", name := "all", desc := "()V" } : Jvm.MethodName)) ∈ GW := mwT 770 (by decide +kernel) rfl
theorem wd_772 : (Jvm.Cond.instanceMethod ({ cls := "ClueLogicModel", name := "all", desc := "()V" } : Jvm.MethodName)) ∈ GW := mwT 772 (by decide +kernel) rfl
theorem wd_773 : (Jvm.Cond.code ({ cls := "ClueLogicModel", name := "all", desc := "()V" } : Jvm.MethodName) prog_14_method_4_code (2 : Nat) (Option.none : Option Jvm.ClassFile.FieldType)) ∈ GW := mwT 773 (by decide +kernel) rfl
theorem wd_774 : (Jvm.Cond.fieldLink "ClueLogicModel" (79 : Nat) "ClueLogicModel" "thrown" "I") ∈ GW := mwT 774 (by decide +kernel) rfl
theorem wd_775 : (Jvm.Cond.fieldLink "ClueLogicModel" (98 : Nat) "ClueLogicModel" "size" "I") ∈ GW := mwT 775 (by decide +kernel) rfl
theorem wd_776 : (Jvm.Cond.fieldLink "ClueLogicModel" (7 : Nat) "ClueLogicModel" "text" "[I") ∈ GW := mwT 776 (by decide +kernel) rfl
theorem wd_777 : (Jvm.Cond.fieldLink "ClueLogicModel" (13 : Nat) "ClueLogicModel" "things" "I") ∈ GW := mwT 777 (by decide +kernel) rfl
theorem wd_778 : (Jvm.Cond.fieldLink "ClueLogicModel" (138 : Nat) "ClueLogicModel" "kinds" "I") ∈ GW := mwT 778 (by decide +kernel) rfl
theorem wd_779 : (Jvm.Cond.fieldLink "ClueLogicModel" (141 : Nat) "ClueLogicModel" "persons" "I") ∈ GW := mwT 779 (by decide +kernel) rfl
theorem wd_780 : (Jvm.Cond.fieldLink "ClueLogicModel" (144 : Nat) "ClueLogicModel" "clues" "I") ∈ GW := mwT 780 (by decide +kernel) rfl
theorem wd_781 : (Jvm.Cond.fieldLink "ClueLogicModel" (17 : Nat) "ClueLogicModel" "begins" "[I") ∈ GW := mwT 781 (by decide +kernel) rfl
theorem wd_782 : (Jvm.Cond.fieldLink "ClueLogicModel" (20 : Nat) "ClueLogicModel" "signs" "[I") ∈ GW := mwT 782 (by decide +kernel) rfl
theorem wd_783 : (Jvm.Cond.fieldLink "ClueLogicModel" (23 : Nat) "ClueLogicModel" "ones" "[I") ∈ GW := mwT 783 (by decide +kernel) rfl
theorem wd_784 : (Jvm.Cond.fieldLink "ClueLogicModel" (26 : Nat) "ClueLogicModel" "twos" "[I") ∈ GW := mwT 784 (by decide +kernel) rfl
theorem wd_785 : (Jvm.Cond.fieldLink "ClueLogicModel" (111 : Nat) "ClueLogicModel" "newThings" "I") ∈ GW := mwT 785 (by decide +kernel) rfl
theorem wd_786 : (Jvm.Cond.fieldLink "ClueLogicModel" (108 : Nat) "ClueLogicModel" "newKinds" "I") ∈ GW := mwT 786 (by decide +kernel) rfl
theorem wd_787 : (Jvm.Cond.fieldLink "ClueLogicModel" (128 : Nat) "ClueLogicModel" "newPersons" "I") ∈ GW := mwT 787 (by decide +kernel) rfl
theorem wd_788 : (Jvm.Cond.fieldLink "ClueLogicModel" (118 : Nat) "ClueLogicModel" "newClues" "I") ∈ GW := mwT 788 (by decide +kernel) rfl
theorem wd_789 : (Jvm.Cond.fieldLink "ClueLogicModel" (101 : Nat) "ClueLogicModel" "at" "I") ∈ GW := mwT 789 (by decide +kernel) rfl
theorem wd_790 : (Jvm.Cond.fieldLink "ClueLogicModel" (29 : Nat) "ClueLogicModel" "newBegins" "[I") ∈ GW := mwT 790 (by decide +kernel) rfl
theorem wd_791 : (Jvm.Cond.fieldLink "ClueLogicModel" (32 : Nat) "ClueLogicModel" "newSigns" "[I") ∈ GW := mwT 791 (by decide +kernel) rfl
theorem wd_792 : (Jvm.Cond.fieldLink "ClueLogicModel" (35 : Nat) "ClueLogicModel" "newOnes" "[I") ∈ GW := mwT 792 (by decide +kernel) rfl
theorem wd_793 : (Jvm.Cond.fieldLink "ClueLogicModel" (38 : Nat) "ClueLogicModel" "newTwos" "[I") ∈ GW := mwT 793 (by decide +kernel) rfl
theorem wd_794 : (Jvm.Cond.fieldLink "ClueLogicModel" (147 : Nat) "ClueLogicModel" "orders" "I") ∈ GW := mwT 794 (by decide +kernel) rfl
theorem wd_795 : (Jvm.Cond.fieldLink "ClueLogicModel" (41 : Nat) "ClueLogicModel" "values" "[I") ∈ GW := mwT 795 (by decide +kernel) rfl
theorem wd_796 : (Jvm.Cond.fieldLink "ClueLogicModel" (44 : Nat) "ClueLogicModel" "seats" "[I") ∈ GW := mwT 796 (by decide +kernel) rfl
theorem wd_797 : (Jvm.Cond.fieldLink "ClueLogicModel" (82 : Nat) "ClueLogicModel" "isKnown" "Z") ∈ GW := mwT 797 (by decide +kernel) rfl
theorem wd_798 : (Jvm.Cond.fieldLink "ClueLogicModel" (86 : Nat) "ClueLogicModel" "isCrossed" "Z") ∈ GW := mwT 798 (by decide +kernel) rfl
theorem wd_799 : (Jvm.Cond.fieldLink "ClueLogicModel" (48 : Nat) "ClueLogicModel" "holds" "[I") ∈ GW := mwT 799 (by decide +kernel) rfl
theorem wd_800 : (Jvm.Cond.fieldLink "ClueLogicModel" (51 : Nat) "ClueLogicModel" "pile" "[Z") ∈ GW := mwT 800 (by decide +kernel) rfl
theorem wd_801 : (Jvm.Cond.fieldLink "ClueLogicModel" (89 : Nat) "ClueLogicModel" "kept" "I") ∈ GW := mwT 801 (by decide +kernel) rfl
theorem wd_802 : (Jvm.Cond.fieldLink "ClueLogicModel" (55 : Nat) "ClueLogicModel" "answers" "[I") ∈ GW := mwT 802 (by decide +kernel) rfl
theorem wd_803 : (Jvm.Cond.fieldLink "ClueLogicModel" (58 : Nat) "ClueLogicModel" "may" "[I") ∈ GW := mwT 803 (by decide +kernel) rfl
theorem wd_804 : (Jvm.Cond.fieldLink "ClueLogicModel" (61 : Nat) "ClueLogicModel" "mayBe" "[I") ∈ GW := mwT 804 (by decide +kernel) rfl
theorem wd_805 : (Jvm.Cond.fieldLink "ClueLogicModel" (64 : Nat) "ClueLogicModel" "some" "[I") ∈ GW := mwT 805 (by decide +kernel) rfl
theorem wd_806 : (Jvm.Cond.fieldLink "ClueLogicModel" (67 : Nat) "ClueLogicModel" "someBe" "[I") ∈ GW := mwT 806 (by decide +kernel) rfl
theorem wd_807 : (Jvm.Cond.fieldLink "ClueLogicModel" (92 : Nat) "ClueLogicModel" "steps" "I") ∈ GW := mwT 807 (by decide +kernel) rfl
theorem wd_808 : (Jvm.Cond.fieldLink "ClueLogicModel" (70 : Nat) "ClueLogicModel" "stepClue" "[I") ∈ GW := mwT 808 (by decide +kernel) rfl
theorem wd_809 : (Jvm.Cond.fieldLink "ClueLogicModel" (73 : Nat) "ClueLogicModel" "stepMuch" "[I") ∈ GW := mwT 809 (by decide +kernel) rfl
theorem wd_810 : (Jvm.Cond.lays "ClueLogicModel" "ClueLogicModel" "thrown" "I") ∈ GW := mwT 810 (by decide +kernel) rfl
theorem wd_812 : (Jvm.Cond.lays "ClueLogicModel" "ClueLogicModel" "size" "I") ∈ GW := mwT 812 (by decide +kernel) rfl
theorem wd_814 : (Jvm.Cond.laysFinal "ClueLogicModel" "ClueLogicModel" "text" "[I") ∈ GW := mwT 814 (by decide +kernel) rfl
theorem wd_816 : (Jvm.Cond.lays "ClueLogicModel" "ClueLogicModel" "things" "I") ∈ GW := mwT 816 (by decide +kernel) rfl
theorem wd_818 : (Jvm.Cond.lays "ClueLogicModel" "ClueLogicModel" "kinds" "I") ∈ GW := mwT 818 (by decide +kernel) rfl
theorem wd_820 : (Jvm.Cond.lays "ClueLogicModel" "ClueLogicModel" "persons" "I") ∈ GW := mwT 820 (by decide +kernel) rfl
theorem wd_822 : (Jvm.Cond.lays "ClueLogicModel" "ClueLogicModel" "clues" "I") ∈ GW := mwT 822 (by decide +kernel) rfl
theorem wd_824 : (Jvm.Cond.laysFinal "ClueLogicModel" "ClueLogicModel" "begins" "[I") ∈ GW := mwT 824 (by decide +kernel) rfl
theorem wd_826 : (Jvm.Cond.laysFinal "ClueLogicModel" "ClueLogicModel" "signs" "[I") ∈ GW := mwT 826 (by decide +kernel) rfl
theorem wd_828 : (Jvm.Cond.laysFinal "ClueLogicModel" "ClueLogicModel" "ones" "[I") ∈ GW := mwT 828 (by decide +kernel) rfl
theorem wd_830 : (Jvm.Cond.laysFinal "ClueLogicModel" "ClueLogicModel" "twos" "[I") ∈ GW := mwT 830 (by decide +kernel) rfl
theorem wd_832 : (Jvm.Cond.lays "ClueLogicModel" "ClueLogicModel" "newThings" "I") ∈ GW := mwT 832 (by decide +kernel) rfl
theorem wd_834 : (Jvm.Cond.lays "ClueLogicModel" "ClueLogicModel" "newKinds" "I") ∈ GW := mwT 834 (by decide +kernel) rfl
theorem wd_836 : (Jvm.Cond.lays "ClueLogicModel" "ClueLogicModel" "newPersons" "I") ∈ GW := mwT 836 (by decide +kernel) rfl
theorem wd_838 : (Jvm.Cond.lays "ClueLogicModel" "ClueLogicModel" "newClues" "I") ∈ GW := mwT 838 (by decide +kernel) rfl
theorem wd_840 : (Jvm.Cond.lays "ClueLogicModel" "ClueLogicModel" "at" "I") ∈ GW := mwT 840 (by decide +kernel) rfl
theorem wd_842 : (Jvm.Cond.laysFinal "ClueLogicModel" "ClueLogicModel" "newBegins" "[I") ∈ GW := mwT 842 (by decide +kernel) rfl
theorem wd_844 : (Jvm.Cond.laysFinal "ClueLogicModel" "ClueLogicModel" "newSigns" "[I") ∈ GW := mwT 844 (by decide +kernel) rfl
theorem wd_846 : (Jvm.Cond.laysFinal "ClueLogicModel" "ClueLogicModel" "newOnes" "[I") ∈ GW := mwT 846 (by decide +kernel) rfl
theorem wd_848 : (Jvm.Cond.laysFinal "ClueLogicModel" "ClueLogicModel" "newTwos" "[I") ∈ GW := mwT 848 (by decide +kernel) rfl
theorem wd_850 : (Jvm.Cond.lays "ClueLogicModel" "ClueLogicModel" "orders" "I") ∈ GW := mwT 850 (by decide +kernel) rfl
theorem wd_852 : (Jvm.Cond.laysFinal "ClueLogicModel" "ClueLogicModel" "values" "[I") ∈ GW := mwT 852 (by decide +kernel) rfl
theorem wd_854 : (Jvm.Cond.laysFinal "ClueLogicModel" "ClueLogicModel" "seats" "[I") ∈ GW := mwT 854 (by decide +kernel) rfl
theorem wd_856 : (Jvm.Cond.lays "ClueLogicModel" "ClueLogicModel" "isKnown" "Z") ∈ GW := mwT 856 (by decide +kernel) rfl
theorem wd_858 : (Jvm.Cond.lays "ClueLogicModel" "ClueLogicModel" "isCrossed" "Z") ∈ GW := mwT 858 (by decide +kernel) rfl
theorem wd_860 : (Jvm.Cond.laysFinal "ClueLogicModel" "ClueLogicModel" "holds" "[I") ∈ GW := mwT 860 (by decide +kernel) rfl
theorem wd_862 : (Jvm.Cond.laysFinal "ClueLogicModel" "ClueLogicModel" "pile" "[Z") ∈ GW := mwT 862 (by decide +kernel) rfl
theorem wd_864 : (Jvm.Cond.lays "ClueLogicModel" "ClueLogicModel" "kept" "I") ∈ GW := mwT 864 (by decide +kernel) rfl
theorem wd_866 : (Jvm.Cond.laysFinal "ClueLogicModel" "ClueLogicModel" "answers" "[I") ∈ GW := mwT 866 (by decide +kernel) rfl
theorem wd_868 : (Jvm.Cond.laysFinal "ClueLogicModel" "ClueLogicModel" "may" "[I") ∈ GW := mwT 868 (by decide +kernel) rfl
theorem wd_870 : (Jvm.Cond.laysFinal "ClueLogicModel" "ClueLogicModel" "mayBe" "[I") ∈ GW := mwT 870 (by decide +kernel) rfl
theorem wd_872 : (Jvm.Cond.laysFinal "ClueLogicModel" "ClueLogicModel" "some" "[I") ∈ GW := mwT 872 (by decide +kernel) rfl
theorem wd_874 : (Jvm.Cond.laysFinal "ClueLogicModel" "ClueLogicModel" "someBe" "[I") ∈ GW := mwT 874 (by decide +kernel) rfl
theorem wd_876 : (Jvm.Cond.lays "ClueLogicModel" "ClueLogicModel" "steps" "I") ∈ GW := mwT 876 (by decide +kernel) rfl
theorem wd_878 : (Jvm.Cond.laysFinal "ClueLogicModel" "ClueLogicModel" "stepClue" "[I") ∈ GW := mwT 878 (by decide +kernel) rfl
theorem wd_880 : (Jvm.Cond.laysFinal "ClueLogicModel" "ClueLogicModel" "stepMuch" "[I") ∈ GW := mwT 880 (by decide +kernel) rfl
theorem wd_883 : (Jvm.Cond.methodLink "ClueLogicLaw" (17 : Nat) ({ cls := "ClueLogicModel", name := "unit", desc := "(I)Z" } : Jvm.MethodName)) ∈ GW := mwT 883 (by decide +kernel) rfl
theorem wd_884 : (Jvm.Cond.instanceMethod ({ cls := "ClueLogicModel", name := "unit", desc := "(I)Z" } : Jvm.MethodName)) ∈ GW := mwT 884 (by decide +kernel) rfl
theorem wd_885 : (Jvm.Cond.selects "ClueLogicModel" ({ cls := "ClueLogicModel", name := "unit", desc := "(I)Z" } : Jvm.MethodName) ({ cls := "ClueLogicModel", name := "unit", desc := "(I)Z" } : Jvm.MethodName)) ∈ GW := mwT 885 (by decide +kernel) rfl
theorem wd_886 : (Jvm.Cond.code ({ cls := "ClueLogicModel", name := "unit", desc := "(I)Z" } : Jvm.MethodName) prog_14_method_5_code (2 : Nat) (Option.some Jvm.ClassFile.FieldType.boolean)) ∈ GW := mwT 886 (by decide +kernel) rfl
theorem wd_887 : (Jvm.Cond.methodLink "ClueLogicLaw" (22 : Nat) ({ cls := "ClueLogicModel", name := "read", desc := "()I" } : Jvm.MethodName)) ∈ GW := mwT 887 (by decide +kernel) rfl
theorem wd_888 : (Jvm.Cond.instanceMethod ({ cls := "ClueLogicModel", name := "read", desc := "()I" } : Jvm.MethodName)) ∈ GW := mwT 888 (by decide +kernel) rfl
theorem wd_889 : (Jvm.Cond.selects "ClueLogicModel" ({ cls := "ClueLogicModel", name := "read", desc := "()I" } : Jvm.MethodName) ({ cls := "ClueLogicModel", name := "read", desc := "()I" } : Jvm.MethodName)) ∈ GW := mwT 889 (by decide +kernel) rfl
theorem wd_890 : (Jvm.Cond.code ({ cls := "ClueLogicModel", name := "read", desc := "()I" } : Jvm.MethodName) prog_14_method_12_code (3 : Nat) (Option.some Jvm.ClassFile.FieldType.int)) ∈ GW := mwT 890 (by decide +kernel) rfl
theorem wd_891 : (Jvm.Cond.methodLink "ClueLogicModel" (135 : Nat) ({ cls := "ClueLogicModel", name := "readAll", desc := "()Z" } : Jvm.MethodName)) ∈ GW := mwT 891 (by decide +kernel) rfl
theorem wd_893 : (Jvm.Cond.instanceMethod ({ cls := "ClueLogicModel", name := "readAll", desc := "()Z" } : Jvm.MethodName)) ∈ GW := mwT 893 (by decide +kernel) rfl
theorem wd_894 : (Jvm.Cond.code ({ cls := "ClueLogicModel", name := "readAll", desc := "()Z" } : Jvm.MethodName) prog_14_method_11_code (1 : Nat) (Option.some Jvm.ClassFile.FieldType.boolean)) ∈ GW := mwT 894 (by decide +kernel) rfl
theorem wd_895 : (Jvm.Cond.methodLink "ClueLogicModel" (114 : Nat) ({ cls := "ClueLogicModel", name := "digit", desc := "(II)I" } : Jvm.MethodName)) ∈ GW := mwT 895 (by decide +kernel) rfl
theorem wd_897 : (Jvm.Cond.instanceMethod ({ cls := "ClueLogicModel", name := "digit", desc := "(II)I" } : Jvm.MethodName)) ∈ GW := mwT 897 (by decide +kernel) rfl
theorem wd_898 : (Jvm.Cond.code ({ cls := "ClueLogicModel", name := "digit", desc := "(II)I" } : Jvm.MethodName) prog_14_method_7_code (4 : Nat) (Option.some Jvm.ClassFile.FieldType.int)) ∈ GW := mwT 898 (by decide +kernel) rfl
theorem wd_899 : (Jvm.Cond.methodLink "ClueLogicModel" (104 : Nat) ({ cls := "ClueLogicModel", name := "byteAt", desc := "(I)I" } : Jvm.MethodName)) ∈ GW := mwT 899 (by decide +kernel) rfl
theorem wd_901 : (Jvm.Cond.instanceMethod ({ cls := "ClueLogicModel", name := "byteAt", desc := "(I)I" } : Jvm.MethodName)) ∈ GW := mwT 901 (by decide +kernel) rfl
theorem wd_902 : (Jvm.Cond.code ({ cls := "ClueLogicModel", name := "byteAt", desc := "(I)I" } : Jvm.MethodName) prog_14_method_6_code (2 : Nat) (Option.some Jvm.ClassFile.FieldType.int)) ∈ GW := mwT 902 (by decide +kernel) rfl
theorem wd_903 : (Jvm.Cond.methodLink "ClueLogicModel" (131 : Nat) ({ cls := "ClueLogicModel", name := "readClue", desc := "()Z" } : Jvm.MethodName)) ∈ GW := mwT 903 (by decide +kernel) rfl
theorem wd_905 : (Jvm.Cond.instanceMethod ({ cls := "ClueLogicModel", name := "readClue", desc := "()Z" } : Jvm.MethodName)) ∈ GW := mwT 905 (by decide +kernel) rfl
theorem wd_906 : (Jvm.Cond.code ({ cls := "ClueLogicModel", name := "readClue", desc := "()Z" } : Jvm.MethodName) prog_14_method_10_code (4 : Nat) (Option.some Jvm.ClassFile.FieldType.boolean)) ∈ GW := mwT 906 (by decide +kernel) rfl
theorem wd_907 : (Jvm.Cond.methodLink "ClueLogicModel" (121 : Nat) ({ cls := "ClueLogicModel", name := "signOf", desc := "(I)I" } : Jvm.MethodName)) ∈ GW := mwT 907 (by decide +kernel) rfl
theorem wd_908 : (Jvm.Cond.static ({ cls := "ClueLogicModel", name := "signOf", desc := "(I)I" } : Jvm.MethodName)) ∈ GW := mwT 908 (by decide +kernel) rfl
theorem wd_909 : (Jvm.Cond.code ({ cls := "ClueLogicModel", name := "signOf", desc := "(I)I" } : Jvm.MethodName) prog_14_method_9_code (1 : Nat) (Option.some Jvm.ClassFile.FieldType.int)) ∈ GW := mwT 909 (by decide +kernel) rfl
theorem wd_910 : (Jvm.Cond.methodLink "ClueLogicModel" (124 : Nat) ({ cls := "ClueLogicModel", name := "value", desc := "()I" } : Jvm.MethodName)) ∈ GW := mwT 910 (by decide +kernel) rfl
theorem wd_912 : (Jvm.Cond.instanceMethod ({ cls := "ClueLogicModel", name := "value", desc := "()I" } : Jvm.MethodName)) ∈ GW := mwT 912 (by decide +kernel) rfl
theorem wd_913 : (Jvm.Cond.code ({ cls := "ClueLogicModel", name := "value", desc := "()I" } : Jvm.MethodName) prog_14_method_8_code (3 : Nat) (Option.some Jvm.ClassFile.FieldType.int)) ∈ GW := mwT 913 (by decide +kernel) rfl
theorem wd_914 : (Jvm.Cond.methodLink "ClueLogicLaw" (27 : Nat) ({ cls := "ClueLogicModel", name := "told", desc := "(I)I" } : Jvm.MethodName)) ∈ GW := mwT 914 (by decide +kernel) rfl
theorem wd_915 : (Jvm.Cond.instanceMethod ({ cls := "ClueLogicModel", name := "told", desc := "(I)I" } : Jvm.MethodName)) ∈ GW := mwT 915 (by decide +kernel) rfl
theorem wd_916 : (Jvm.Cond.selects "ClueLogicModel" ({ cls := "ClueLogicModel", name := "told", desc := "(I)I" } : Jvm.MethodName) ({ cls := "ClueLogicModel", name := "told", desc := "(I)I" } : Jvm.MethodName)) ∈ GW := mwT 916 (by decide +kernel) rfl
theorem wd_917 : (Jvm.Cond.code ({ cls := "ClueLogicModel", name := "told", desc := "(I)I" } : Jvm.MethodName) prog_14_method_13_code (2 : Nat) (Option.some Jvm.ClassFile.FieldType.int)) ∈ GW := mwT 917 (by decide +kernel) rfl
theorem wd_918 : (Jvm.Cond.methodLink "ClueLogicLaw" (31 : Nat) ({ cls := "ClueLogicModel", name := "run", desc := "()I" } : Jvm.MethodName)) ∈ GW := mwT 918 (by decide +kernel) rfl
theorem wd_919 : (Jvm.Cond.instanceMethod ({ cls := "ClueLogicModel", name := "run", desc := "()I" } : Jvm.MethodName)) ∈ GW := mwT 919 (by decide +kernel) rfl
theorem wd_920 : (Jvm.Cond.selects "ClueLogicModel" ({ cls := "ClueLogicModel", name := "run", desc := "()I" } : Jvm.MethodName) ({ cls := "ClueLogicModel", name := "run", desc := "()I" } : Jvm.MethodName)) ∈ GW := mwT 920 (by decide +kernel) rfl
theorem wd_921 : (Jvm.Cond.code ({ cls := "ClueLogicModel", name := "run", desc := "()I" } : Jvm.MethodName) prog_14_method_23_code (3 : Nat) (Option.some Jvm.ClassFile.FieldType.int)) ∈ GW := mwT 921 (by decide +kernel) rfl
theorem wd_922 : (Jvm.Cond.methodLink "ClueLogicModel" (169 : Nat) ({ cls := "ClueLogicModel", name := "know", desc := "()V" } : Jvm.MethodName)) ∈ GW := mwT 922 (by decide +kernel) rfl
theorem wd_924 : (Jvm.Cond.instanceMethod ({ cls := "ClueLogicModel", name := "know", desc := "()V" } : Jvm.MethodName)) ∈ GW := mwT 924 (by decide +kernel) rfl
theorem wd_925 : (Jvm.Cond.code ({ cls := "ClueLogicModel", name := "know", desc := "()V" } : Jvm.MethodName) prog_14_method_21_code (3 : Nat) (Option.none : Option Jvm.ClassFile.FieldType)) ∈ GW := mwT 925 (by decide +kernel) rfl
theorem wd_926 : (Jvm.Cond.methodLink "ClueLogicModel" (160 : Nat) ({ cls := "ClueLogicModel", name := "order", desc := "()V" } : Jvm.MethodName)) ∈ GW := mwT 926 (by decide +kernel) rfl
theorem wd_928 : (Jvm.Cond.instanceMethod ({ cls := "ClueLogicModel", name := "order", desc := "()V" } : Jvm.MethodName)) ∈ GW := mwT 928 (by decide +kernel) rfl
theorem wd_929 : (Jvm.Cond.code ({ cls := "ClueLogicModel", name := "order", desc := "()V" } : Jvm.MethodName) prog_14_method_14_code (6 : Nat) (Option.none : Option Jvm.ClassFile.FieldType)) ∈ GW := mwT 929 (by decide +kernel) rfl
theorem wd_930 : (Jvm.Cond.methodLink "ClueLogicModel" (163 : Nat) ({ cls := "ClueLogicModel", name := "states", desc := "()I" } : Jvm.MethodName)) ∈ GW := mwT 930 (by decide +kernel) rfl
theorem wd_932 : (Jvm.Cond.instanceMethod ({ cls := "ClueLogicModel", name := "states", desc := "()I" } : Jvm.MethodName)) ∈ GW := mwT 932 (by decide +kernel) rfl
theorem wd_933 : (Jvm.Cond.code ({ cls := "ClueLogicModel", name := "states", desc := "()I" } : Jvm.MethodName) prog_14_method_15_code (3 : Nat) (Option.some Jvm.ClassFile.FieldType.int)) ∈ GW := mwT 933 (by decide +kernel) rfl
theorem wd_934 : (Jvm.Cond.methodLink "ClueLogicModel" (166 : Nat) ({ cls := "ClueLogicModel", name := "isSo", desc := "(II)Z" } : Jvm.MethodName)) ∈ GW := mwT 934 (by decide +kernel) rfl
theorem wd_936 : (Jvm.Cond.instanceMethod ({ cls := "ClueLogicModel", name := "isSo", desc := "(II)Z" } : Jvm.MethodName)) ∈ GW := mwT 936 (by decide +kernel) rfl
theorem wd_937 : (Jvm.Cond.code ({ cls := "ClueLogicModel", name := "isSo", desc := "(II)Z" } : Jvm.MethodName) prog_14_method_20_code (8 : Nat) (Option.some Jvm.ClassFile.FieldType.boolean)) ∈ GW := mwT 937 (by decide +kernel) rfl
theorem wd_938 : (Jvm.Cond.methodLink "ClueLogicModel" (153 : Nat) ({ cls := "ClueLogicModel", name := "seat", desc := "(II)I" } : Jvm.MethodName)) ∈ GW := mwT 938 (by decide +kernel) rfl
theorem wd_940 : (Jvm.Cond.instanceMethod ({ cls := "ClueLogicModel", name := "seat", desc := "(II)I" } : Jvm.MethodName)) ∈ GW := mwT 940 (by decide +kernel) rfl
theorem wd_941 : (Jvm.Cond.code ({ cls := "ClueLogicModel", name := "seat", desc := "(II)I" } : Jvm.MethodName) prog_14_method_19_code (3 : Nat) (Option.some Jvm.ClassFile.FieldType.int)) ∈ GW := mwT 941 (by decide +kernel) rfl
theorem wd_942 : (Jvm.Cond.methodLink "ClueLogicModel" (150 : Nat) ({ cls := "ClueLogicModel", name := "orderOf", desc := "(II)I" } : Jvm.MethodName)) ∈ GW := mwT 942 (by decide +kernel) rfl
theorem wd_944 : (Jvm.Cond.instanceMethod ({ cls := "ClueLogicModel", name := "orderOf", desc := "(II)I" } : Jvm.MethodName)) ∈ GW := mwT 944 (by decide +kernel) rfl
theorem wd_945 : (Jvm.Cond.code ({ cls := "ClueLogicModel", name := "orderOf", desc := "(II)I" } : Jvm.MethodName) prog_14_method_16_code (5 : Nat) (Option.some Jvm.ClassFile.FieldType.int)) ∈ GW := mwT 945 (by decide +kernel) rfl
theorem wd_946 : (Jvm.Cond.methodLink "ClueLogicModel" (156 : Nat) ({ cls := "ClueLogicModel", name := "isTruthful", desc := "(II)Z" } : Jvm.MethodName)) ∈ GW := mwT 946 (by decide +kernel) rfl
theorem wd_948 : (Jvm.Cond.instanceMethod ({ cls := "ClueLogicModel", name := "isTruthful", desc := "(II)Z" } : Jvm.MethodName)) ∈ GW := mwT 948 (by decide +kernel) rfl
theorem wd_949 : (Jvm.Cond.code ({ cls := "ClueLogicModel", name := "isTruthful", desc := "(II)Z" } : Jvm.MethodName) prog_14_method_17_code (3 : Nat) (Option.some Jvm.ClassFile.FieldType.boolean)) ∈ GW := mwT 949 (by decide +kernel) rfl
theorem wd_950 : (Jvm.Cond.methodLink "ClueLogicModel" (172 : Nat) ({ cls := "ClueLogicModel", name := "isAnswer", desc := "(I)Z" } : Jvm.MethodName)) ∈ GW := mwT 950 (by decide +kernel) rfl
theorem wd_952 : (Jvm.Cond.instanceMethod ({ cls := "ClueLogicModel", name := "isAnswer", desc := "(I)Z" } : Jvm.MethodName)) ∈ GW := mwT 952 (by decide +kernel) rfl
theorem wd_953 : (Jvm.Cond.code ({ cls := "ClueLogicModel", name := "isAnswer", desc := "(I)Z" } : Jvm.MethodName) prog_14_method_22_code (2 : Nat) (Option.some Jvm.ClassFile.FieldType.boolean)) ∈ GW := mwT 953 (by decide +kernel) rfl
theorem wd_954 : (Jvm.Cond.methodLink "ClueLogicLaw" (36 : Nat) ({ cls := "ClueLogicModel", name := "answer", desc := "(III)I" } : Jvm.MethodName)) ∈ GW := mwT 954 (by decide +kernel) rfl
theorem wd_955 : (Jvm.Cond.instanceMethod ({ cls := "ClueLogicModel", name := "answer", desc := "(III)I" } : Jvm.MethodName)) ∈ GW := mwT 955 (by decide +kernel) rfl
theorem wd_956 : (Jvm.Cond.selects "ClueLogicModel" ({ cls := "ClueLogicModel", name := "answer", desc := "(III)I" } : Jvm.MethodName) ({ cls := "ClueLogicModel", name := "answer", desc := "(III)I" } : Jvm.MethodName)) ∈ GW := mwT 956 (by decide +kernel) rfl
theorem wd_957 : (Jvm.Cond.code ({ cls := "ClueLogicModel", name := "answer", desc := "(III)I" } : Jvm.MethodName) prog_14_method_27_code (4 : Nat) (Option.some Jvm.ClassFile.FieldType.int)) ∈ GW := mwT 957 (by decide +kernel) rfl
theorem wd_958 : (Jvm.Cond.methodLink "ClueLogicModel" (176 : Nat) ({ cls := "ClueLogicModel", name := "isKept", desc := "(I)Z" } : Jvm.MethodName)) ∈ GW := mwT 958 (by decide +kernel) rfl
theorem wd_960 : (Jvm.Cond.instanceMethod ({ cls := "ClueLogicModel", name := "isKept", desc := "(I)Z" } : Jvm.MethodName)) ∈ GW := mwT 960 (by decide +kernel) rfl
theorem wd_961 : (Jvm.Cond.code ({ cls := "ClueLogicModel", name := "isKept", desc := "(I)Z" } : Jvm.MethodName) prog_14_method_24_code (2 : Nat) (Option.some Jvm.ClassFile.FieldType.boolean)) ∈ GW := mwT 961 (by decide +kernel) rfl
theorem wd_962 : (Jvm.Cond.methodLink "ClueLogicModel" (179 : Nat) ({ cls := "ClueLogicModel", name := "isOf", desc := "(II)Z" } : Jvm.MethodName)) ∈ GW := mwT 962 (by decide +kernel) rfl
theorem wd_964 : (Jvm.Cond.instanceMethod ({ cls := "ClueLogicModel", name := "isOf", desc := "(II)Z" } : Jvm.MethodName)) ∈ GW := mwT 964 (by decide +kernel) rfl
theorem wd_965 : (Jvm.Cond.code ({ cls := "ClueLogicModel", name := "isOf", desc := "(II)Z" } : Jvm.MethodName) prog_14_method_25_code (3 : Nat) (Option.some Jvm.ClassFile.FieldType.boolean)) ∈ GW := mwT 965 (by decide +kernel) rfl
theorem wd_966 : (Jvm.Cond.methodLink "ClueLogicModel" (182 : Nat) ({ cls := "ClueLogicModel", name := "valueOf", desc := "(III)I" } : Jvm.MethodName)) ∈ GW := mwT 966 (by decide +kernel) rfl
theorem wd_968 : (Jvm.Cond.instanceMethod ({ cls := "ClueLogicModel", name := "valueOf", desc := "(III)I" } : Jvm.MethodName)) ∈ GW := mwT 968 (by decide +kernel) rfl
theorem wd_969 : (Jvm.Cond.code ({ cls := "ClueLogicModel", name := "valueOf", desc := "(III)I" } : Jvm.MethodName) prog_14_method_18_code (4 : Nat) (Option.some Jvm.ClassFile.FieldType.int)) ∈ GW := mwT 969 (by decide +kernel) rfl
theorem wd_970 : (Jvm.Cond.methodLink "ClueLogicLaw" (41 : Nat) ({ cls := "ClueLogicModel", name := "truth", desc := "(II)I" } : Jvm.MethodName)) ∈ GW := mwT 970 (by decide +kernel) rfl
theorem wd_971 : (Jvm.Cond.instanceMethod ({ cls := "ClueLogicModel", name := "truth", desc := "(II)I" } : Jvm.MethodName)) ∈ GW := mwT 971 (by decide +kernel) rfl
theorem wd_972 : (Jvm.Cond.selects "ClueLogicModel" ({ cls := "ClueLogicModel", name := "truth", desc := "(II)I" } : Jvm.MethodName) ({ cls := "ClueLogicModel", name := "truth", desc := "(II)I" } : Jvm.MethodName)) ∈ GW := mwT 972 (by decide +kernel) rfl
theorem wd_973 : (Jvm.Cond.code ({ cls := "ClueLogicModel", name := "truth", desc := "(II)I" } : Jvm.MethodName) prog_14_method_28_code (3 : Nat) (Option.some Jvm.ClassFile.FieldType.int)) ∈ GW := mwT 973 (by decide +kernel) rfl
theorem wd_974 : (Jvm.Cond.methodLink "ClueLogicModel" (186 : Nat) ({ cls := "ClueLogicModel", name := "isPerson", desc := "(I)Z" } : Jvm.MethodName)) ∈ GW := mwT 974 (by decide +kernel) rfl
theorem wd_976 : (Jvm.Cond.instanceMethod ({ cls := "ClueLogicModel", name := "isPerson", desc := "(I)Z" } : Jvm.MethodName)) ∈ GW := mwT 976 (by decide +kernel) rfl
theorem wd_977 : (Jvm.Cond.code ({ cls := "ClueLogicModel", name := "isPerson", desc := "(I)Z" } : Jvm.MethodName) prog_14_method_26_code (2 : Nat) (Option.some Jvm.ClassFile.FieldType.boolean)) ∈ GW := mwT 977 (by decide +kernel) rfl
theorem wd_978 : (Jvm.Cond.methodLink "ClueLogicLaw" (45 : Nat) ({ cls := "ClueLogicModel", name := "often", desc := "(III)I" } : Jvm.MethodName)) ∈ GW := mwT 978 (by decide +kernel) rfl
theorem wd_979 : (Jvm.Cond.instanceMethod ({ cls := "ClueLogicModel", name := "often", desc := "(III)I" } : Jvm.MethodName)) ∈ GW := mwT 979 (by decide +kernel) rfl
theorem wd_980 : (Jvm.Cond.selects "ClueLogicModel" ({ cls := "ClueLogicModel", name := "often", desc := "(III)I" } : Jvm.MethodName) ({ cls := "ClueLogicModel", name := "often", desc := "(III)I" } : Jvm.MethodName)) ∈ GW := mwT 980 (by decide +kernel) rfl
theorem wd_981 : (Jvm.Cond.code ({ cls := "ClueLogicModel", name := "often", desc := "(III)I" } : Jvm.MethodName) prog_14_method_29_code (6 : Nat) (Option.some Jvm.ClassFile.FieldType.int)) ∈ GW := mwT 981 (by decide +kernel) rfl
theorem wd_982 : (Jvm.Cond.methodLink "ClueLogicLaw" (49 : Nat) ({ cls := "ClueLogicModel", name := "spare", desc := "(I)Z" } : Jvm.MethodName)) ∈ GW := mwT 982 (by decide +kernel) rfl
theorem wd_983 : (Jvm.Cond.instanceMethod ({ cls := "ClueLogicModel", name := "spare", desc := "(I)Z" } : Jvm.MethodName)) ∈ GW := mwT 983 (by decide +kernel) rfl
theorem wd_984 : (Jvm.Cond.selects "ClueLogicModel" ({ cls := "ClueLogicModel", name := "spare", desc := "(I)Z" } : Jvm.MethodName) ({ cls := "ClueLogicModel", name := "spare", desc := "(I)Z" } : Jvm.MethodName)) ∈ GW := mwT 984 (by decide +kernel) rfl
theorem wd_985 : (Jvm.Cond.code ({ cls := "ClueLogicModel", name := "spare", desc := "(I)Z" } : Jvm.MethodName) prog_14_method_30_code (4 : Nat) (Option.some Jvm.ClassFile.FieldType.boolean)) ∈ GW := mwT 985 (by decide +kernel) rfl
theorem wd_986 : (Jvm.Cond.methodLink "ClueLogicLaw" (53 : Nat) ({ cls := "ClueLogicModel", name := "cross", desc := "()I" } : Jvm.MethodName)) ∈ GW := mwT 986 (by decide +kernel) rfl
theorem wd_987 : (Jvm.Cond.instanceMethod ({ cls := "ClueLogicModel", name := "cross", desc := "()I" } : Jvm.MethodName)) ∈ GW := mwT 987 (by decide +kernel) rfl
theorem wd_988 : (Jvm.Cond.selects "ClueLogicModel" ({ cls := "ClueLogicModel", name := "cross", desc := "()I" } : Jvm.MethodName) ({ cls := "ClueLogicModel", name := "cross", desc := "()I" } : Jvm.MethodName)) ∈ GW := mwT 988 (by decide +kernel) rfl
theorem wd_989 : (Jvm.Cond.code ({ cls := "ClueLogicModel", name := "cross", desc := "()I" } : Jvm.MethodName) prog_14_method_34_code (3 : Nat) (Option.some Jvm.ClassFile.FieldType.int)) ∈ GW := mwT 989 (by decide +kernel) rfl
theorem wd_990 : (Jvm.Cond.methodLink "ClueLogicModel" (195 : Nat) ({ cls := "ClueLogicModel", name := "crossBy", desc := "(I)I" } : Jvm.MethodName)) ∈ GW := mwT 990 (by decide +kernel) rfl
theorem wd_992 : (Jvm.Cond.instanceMethod ({ cls := "ClueLogicModel", name := "crossBy", desc := "(I)I" } : Jvm.MethodName)) ∈ GW := mwT 992 (by decide +kernel) rfl
theorem wd_993 : (Jvm.Cond.code ({ cls := "ClueLogicModel", name := "crossBy", desc := "(I)I" } : Jvm.MethodName) prog_14_method_33_code (5 : Nat) (Option.some Jvm.ClassFile.FieldType.int)) ∈ GW := mwT 993 (by decide +kernel) rfl
theorem wd_994 : (Jvm.Cond.methodLink "ClueLogicModel" (189 : Nat) ({ cls := "ClueLogicModel", name := "isOpen", desc := "(I)Z" } : Jvm.MethodName)) ∈ GW := mwT 994 (by decide +kernel) rfl
theorem wd_996 : (Jvm.Cond.instanceMethod ({ cls := "ClueLogicModel", name := "isOpen", desc := "(I)Z" } : Jvm.MethodName)) ∈ GW := mwT 996 (by decide +kernel) rfl
theorem wd_997 : (Jvm.Cond.code ({ cls := "ClueLogicModel", name := "isOpen", desc := "(I)Z" } : Jvm.MethodName) prog_14_method_31_code (4 : Nat) (Option.some Jvm.ClassFile.FieldType.boolean)) ∈ GW := mwT 997 (by decide +kernel) rfl
theorem wd_998 : (Jvm.Cond.methodLink "ClueLogicModel" (192 : Nat) ({ cls := "ClueLogicModel", name := "countOf", desc := "(I)I" } : Jvm.MethodName)) ∈ GW := mwT 998 (by decide +kernel) rfl
theorem wd_999 : (Jvm.Cond.static ({ cls := "ClueLogicModel", name := "countOf", desc := "(I)I" } : Jvm.MethodName)) ∈ GW := mwT 999 (by decide +kernel) rfl
theorem wd_1000 : (Jvm.Cond.code ({ cls := "ClueLogicModel", name := "countOf", desc := "(I)I" } : Jvm.MethodName) prog_14_method_32_code (3 : Nat) (Option.some Jvm.ClassFile.FieldType.int)) ∈ GW := mwT 1000 (by decide +kernel) rfl
theorem wd_1001 : (Jvm.Cond.methodLink "ClueLogicLaw" (57 : Nat) ({ cls := "ClueLogicModel", name := "step", desc := "(II)I" } : Jvm.MethodName)) ∈ GW := mwT 1001 (by decide +kernel) rfl
theorem wd_1002 : (Jvm.Cond.instanceMethod ({ cls := "ClueLogicModel", name := "step", desc := "(II)I" } : Jvm.MethodName)) ∈ GW := mwT 1002 (by decide +kernel) rfl
theorem wd_1003 : (Jvm.Cond.selects "ClueLogicModel" ({ cls := "ClueLogicModel", name := "step", desc := "(II)I" } : Jvm.MethodName) ({ cls := "ClueLogicModel", name := "step", desc := "(II)I" } : Jvm.MethodName)) ∈ GW := mwT 1003 (by decide +kernel) rfl
theorem wd_1004 : (Jvm.Cond.code ({ cls := "ClueLogicModel", name := "step", desc := "(II)I" } : Jvm.MethodName) prog_14_method_35_code (3 : Nat) (Option.some Jvm.ClassFile.FieldType.int)) ∈ GW := mwT 1004 (by decide +kernel) rfl
theorem wd_1005 : (Jvm.Cond.methodLink "ClueLogicLaw" (61 : Nat) ({ cls := "ClueLogicModel", name := "may", desc := "(II)I" } : Jvm.MethodName)) ∈ GW := mwT 1005 (by decide +kernel) rfl
theorem wd_1006 : (Jvm.Cond.instanceMethod ({ cls := "ClueLogicModel", name := "may", desc := "(II)I" } : Jvm.MethodName)) ∈ GW := mwT 1006 (by decide +kernel) rfl
theorem wd_1007 : (Jvm.Cond.selects "ClueLogicModel" ({ cls := "ClueLogicModel", name := "may", desc := "(II)I" } : Jvm.MethodName) ({ cls := "ClueLogicModel", name := "may", desc := "(II)I" } : Jvm.MethodName)) ∈ GW := mwT 1007 (by decide +kernel) rfl
theorem wd_1008 : (Jvm.Cond.code ({ cls := "ClueLogicModel", name := "may", desc := "(II)I" } : Jvm.MethodName) prog_14_method_36_code (3 : Nat) (Option.some Jvm.ClassFile.FieldType.int)) ∈ GW := mwT 1008 (by decide +kernel) rfl
theorem wd_1009 : (Jvm.Cond.methodLink "ClueLogicLaw" (65 : Nat) ({ cls := "ClueLogicModel", name := "mayBe", desc := "(I)I" } : Jvm.MethodName)) ∈ GW := mwT 1009 (by decide +kernel) rfl
theorem wd_1010 : (Jvm.Cond.instanceMethod ({ cls := "ClueLogicModel", name := "mayBe", desc := "(I)I" } : Jvm.MethodName)) ∈ GW := mwT 1010 (by decide +kernel) rfl
theorem wd_1011 : (Jvm.Cond.selects "ClueLogicModel" ({ cls := "ClueLogicModel", name := "mayBe", desc := "(I)I" } : Jvm.MethodName) ({ cls := "ClueLogicModel", name := "mayBe", desc := "(I)I" } : Jvm.MethodName)) ∈ GW := mwT 1011 (by decide +kernel) rfl
theorem wd_1012 : (Jvm.Cond.code ({ cls := "ClueLogicModel", name := "mayBe", desc := "(I)I" } : Jvm.MethodName) prog_14_method_37_code (2 : Nat) (Option.some Jvm.ClassFile.FieldType.int)) ∈ GW := mwT 1012 (by decide +kernel) rfl
theorem sp_0 : Cond.selects m_Od_fill.1.cls m_Od_fill.1 m_Od_fill.1 ∈ GW := mwS (q := (m_Od_fill.1, 5)) 0 (by decide +kernel)
theorem sp_1 : Cond.selects m_Od_add.1.cls m_Od_add.1 m_Od_add.1 ∈ GW := mwS (q := (m_Od_add.1, 5)) 1 (by decide +kernel)
theorem sp_2 : Cond.selects m_C_begin.1.cls m_C_begin.1 m_C_begin.1 ∈ GW := mwS (q := (m_C_begin.1, 6)) 2 (by decide +kernel)
theorem sp_3 : Cond.selects m_Cr_waysIn.1.cls m_Cr_waysIn.1 m_Cr_waysIn.1 ∈ GW := mwS (q := (m_Cr_waysIn.1, 10)) 3 (by decide +kernel)
theorem sp_4 : Cond.selects m_Rd_passHead.1.cls m_Rd_passHead.1 m_Rd_passHead.1 ∈ GW := mwS (q := (m_Rd_passHead.1, 7)) 4 (by decide +kernel)
theorem sp_5 : Cond.selects m_Rd_take.1.cls m_Rd_take.1 m_Rd_take.1 ∈ GW := mwS (q := (m_Rd_take.1, 7)) 5 (by decide +kernel)
theorem sp_6 : Cond.selects m_Rd_passSemicolon.1.cls m_Rd_passSemicolon.1 m_Rd_passSemicolon.1 ∈ GW := mwS (q := (m_Rd_passSemicolon.1, 7)) 6 (by decide +kernel)
theorem sp_7 : Cond.selects m_Rd_clue.1.cls m_Rd_clue.1 m_Rd_clue.1 ∈ GW := mwS (q := (m_Rd_clue.1, 7)) 7 (by decide +kernel)
theorem sp_8 : Cond.selects m_Rd_ofPerson.1.cls m_Rd_ofPerson.1 m_Rd_ofPerson.1 ∈ GW := mwS (q := (m_Rd_ofPerson.1, 7)) 8 (by decide +kernel)
theorem sp_9 : Cond.selects m_Rd_saying.1.cls m_Rd_saying.1 m_Rd_saying.1 ∈ GW := mwS (q := (m_Rd_saying.1, 7)) 9 (by decide +kernel)
theorem sp_10 : Cond.selects m_Rd_turned.1.cls m_Rd_turned.1 m_Rd_turned.1 ∈ GW := mwS (q := (m_Rd_turned.1, 7)) 10 (by decide +kernel)
theorem sp_11 : Cond.selects m_Rd_joined.1.cls m_Rd_joined.1 m_Rd_joined.1 ∈ GW := mwS (q := (m_Rd_joined.1, 7)) 11 (by decide +kernel)
theorem sp_12 : Cond.selects m_Rd_ofValues.1.cls m_Rd_ofValues.1 m_Rd_ofValues.1 ∈ GW := mwS (q := (m_Rd_ofValues.1, 7)) 12 (by decide +kernel)
theorem sp_13 : Cond.selects m_Rd_takeValue.1.cls m_Rd_takeValue.1 m_Rd_takeValue.1 ∈ GW := mwS (q := (m_Rd_takeValue.1, 7)) 13 (by decide +kernel)
theorem sp_14 : Cond.selects m_Wk_chooseOrders.1.cls m_Wk_chooseOrders.1 m_Wk_chooseOrders.1 ∈ GW := mwS (q := (m_Wk_chooseOrders.1, 6)) 14 (by decide +kernel)
theorem sp_15 : Cond.selects m_Wk_go.1.cls m_Wk_go.1 m_Wk_go.1 ∈ GW := mwS (q := (m_Wk_go.1, 6)) 15 (by decide +kernel)
theorem sp_16 : Cond.selects m_An_weigh.1.cls m_An_weigh.1 m_An_weigh.1 ∈ GW := mwS (q := (m_An_weigh.1, 10)) 16 (by decide +kernel)
theorem sp_17 : Cond.selects m_Ov_relates.1.cls m_Ov_relates.1 m_Ov_relates.1 ∈ GW := mwS (q := (m_Ov_relates.1, 3)) 17 (by decide +kernel)
theorem sp_18 : Cond.selects m_An_add.1.cls m_An_add.1 m_An_add.1 ∈ GW := mwS (q := (m_An_add.1, 10)) 18 (by decide +kernel)
theorem sp_19 : Cond.selects m_An_keep.1.cls m_An_keep.1 m_An_keep.1 ∈ GW := mwS (q := (m_An_keep.1, 10)) 19 (by decide +kernel)
theorem sp_20 : Cond.selects m_An_need.1.cls m_An_need.1 m_An_need.1 ∈ GW := mwS (q := (m_An_need.1, 10)) 20 (by decide +kernel)
theorem sp_21 : Cond.selects m_C_isKept.1.cls m_C_isKept.1 m_C_isKept.1 ∈ GW := mwS (q := (m_C_isKept.1, 6)) 21 (by decide +kernel)
theorem sp_22 : Cond.selects m_Cr_takeStep.1.cls m_Cr_takeStep.1 m_Cr_takeStep.1 ∈ GW := mwS (q := (m_Cr_takeStep.1, 10)) 22 (by decide +kernel)
theorem sp_23 : Cond.selects m_Cr_look.1.cls m_Cr_look.1 m_Cr_look.1 ∈ GW := mwS (q := (m_Cr_look.1, 10)) 23 (by decide +kernel)
theorem sp_24 : Cond.selects m_Cr_openParties.1.cls m_Cr_openParties.1 m_Cr_openParties.1 ∈ GW := mwS (q := (m_Cr_openParties.1, 10)) 24 (by decide +kernel)
theorem sp_25 : Cond.selects m_Cr_seeLayout.1.cls m_Cr_seeLayout.1 m_Cr_seeLayout.1 ∈ GW := mwS (q := (m_Cr_seeLayout.1, 10)) 25 (by decide +kernel)
theorem sp_26 : Cond.selects m_Cr_countUnseen.1.cls m_Cr_countUnseen.1 m_Cr_countUnseen.1 ∈ GW := mwS (q := (m_Cr_countUnseen.1, 10)) 26 (by decide +kernel)
theorem sp_27 : Cond.selects m_Cr_crossOut.1.cls m_Cr_crossOut.1 m_Cr_crossOut.1 ∈ GW := mwS (q := (m_Cr_crossOut.1, 10)) 27 (by decide +kernel)
theorem sp_28 : Cond.selects m_Md_fresh.1.cls m_Md_fresh.1 m_Md_fresh.1 ∈ GW := mwS (q := (m_Md_fresh.1, 36)) 28 (by decide +kernel)
theorem sp_29 : Cond.selects m_Md_all.1.cls m_Md_all.1 m_Md_all.1 ∈ GW := mwS (q := (m_Md_all.1, 36)) 29 (by decide +kernel)
theorem sp_30 : Cond.selects m_Md_readAll.1.cls m_Md_readAll.1 m_Md_readAll.1 ∈ GW := mwS (q := (m_Md_readAll.1, 36)) 30 (by decide +kernel)
theorem sp_31 : Cond.selects m_Md_digit.1.cls m_Md_digit.1 m_Md_digit.1 ∈ GW := mwS (q := (m_Md_digit.1, 36)) 31 (by decide +kernel)
theorem sp_32 : Cond.selects m_Md_byteAt.1.cls m_Md_byteAt.1 m_Md_byteAt.1 ∈ GW := mwS (q := (m_Md_byteAt.1, 36)) 32 (by decide +kernel)
theorem sp_33 : Cond.selects m_Md_readClue.1.cls m_Md_readClue.1 m_Md_readClue.1 ∈ GW := mwS (q := (m_Md_readClue.1, 36)) 33 (by decide +kernel)
theorem sp_34 : Cond.selects m_Md_value.1.cls m_Md_value.1 m_Md_value.1 ∈ GW := mwS (q := (m_Md_value.1, 36)) 34 (by decide +kernel)
theorem sp_35 : Cond.selects m_Md_know.1.cls m_Md_know.1 m_Md_know.1 ∈ GW := mwS (q := (m_Md_know.1, 36)) 35 (by decide +kernel)
theorem sp_36 : Cond.selects m_Md_order.1.cls m_Md_order.1 m_Md_order.1 ∈ GW := mwS (q := (m_Md_order.1, 36)) 36 (by decide +kernel)
theorem sp_37 : Cond.selects m_Md_states.1.cls m_Md_states.1 m_Md_states.1 ∈ GW := mwS (q := (m_Md_states.1, 36)) 37 (by decide +kernel)
theorem sp_38 : Cond.selects m_Md_isSo.1.cls m_Md_isSo.1 m_Md_isSo.1 ∈ GW := mwS (q := (m_Md_isSo.1, 36)) 38 (by decide +kernel)
theorem sp_39 : Cond.selects m_Md_seat.1.cls m_Md_seat.1 m_Md_seat.1 ∈ GW := mwS (q := (m_Md_seat.1, 36)) 39 (by decide +kernel)
theorem sp_40 : Cond.selects m_Md_orderOf.1.cls m_Md_orderOf.1 m_Md_orderOf.1 ∈ GW := mwS (q := (m_Md_orderOf.1, 36)) 40 (by decide +kernel)
theorem sp_41 : Cond.selects m_Md_isTruthful.1.cls m_Md_isTruthful.1 m_Md_isTruthful.1 ∈ GW := mwS (q := (m_Md_isTruthful.1, 36)) 41 (by decide +kernel)
theorem sp_42 : Cond.selects m_Md_isAnswer.1.cls m_Md_isAnswer.1 m_Md_isAnswer.1 ∈ GW := mwS (q := (m_Md_isAnswer.1, 36)) 42 (by decide +kernel)
theorem sp_43 : Cond.selects m_Md_isKept.1.cls m_Md_isKept.1 m_Md_isKept.1 ∈ GW := mwS (q := (m_Md_isKept.1, 36)) 43 (by decide +kernel)
theorem sp_44 : Cond.selects m_Md_isOf.1.cls m_Md_isOf.1 m_Md_isOf.1 ∈ GW := mwS (q := (m_Md_isOf.1, 36)) 44 (by decide +kernel)
theorem sp_45 : Cond.selects m_Md_valueOf.1.cls m_Md_valueOf.1 m_Md_valueOf.1 ∈ GW := mwS (q := (m_Md_valueOf.1, 36)) 45 (by decide +kernel)
theorem sp_46 : Cond.selects m_Md_isPerson.1.cls m_Md_isPerson.1 m_Md_isPerson.1 ∈ GW := mwS (q := (m_Md_isPerson.1, 36)) 46 (by decide +kernel)
theorem sp_47 : Cond.selects m_Md_crossBy.1.cls m_Md_crossBy.1 m_Md_crossBy.1 ∈ GW := mwS (q := (m_Md_crossBy.1, 36)) 47 (by decide +kernel)
theorem sp_48 : Cond.selects m_Md_isOpen.1.cls m_Md_isOpen.1 m_Md_isOpen.1 ∈ GW := mwS (q := (m_Md_isOpen.1, 36)) 48 (by decide +kernel)
end
section
theorem d_C_init_0 : decode prog_1_method_1_code 0 = .ok (.aload_n 0, 1) := by decide +kernel
theorem d_C_init_1 : decode prog_1_method_1_code 1 = .ok (.invokespecial 3, 3) := by decide +kernel
theorem d_C_init_4 : decode prog_1_method_1_code 4 = .ok (.aload_n 0, 1) := by decide +kernel
theorem d_C_init_5 : decode prog_1_method_1_code 5 = .ok (.sipush 300, 3) := by decide +kernel
theorem d_C_init_8 : decode prog_1_method_1_code 8 = .ok (.newarray .int, 2) := by decide +kernel
theorem d_C_init_10 : decode prog_1_method_1_code 10 = .ok (.putfield 9, 3) := by decide +kernel
theorem d_C_init_13 : decode prog_1_method_1_code 13 = .ok (.aload_n 0, 1) := by decide +kernel
theorem d_C_init_14 : decode prog_1_method_1_code 14 = .ok (.new 13, 3) := by decide +kernel
theorem d_C_init_17 : decode prog_1_method_1_code 17 = .ok (.dup, 1) := by decide +kernel
theorem d_C_init_18 : decode prog_1_method_1_code 18 = .ok (.iconst 1, 1) := by decide +kernel
theorem d_C_init_19 : decode prog_1_method_1_code 19 = .ok (.iconst 0, 1) := by decide +kernel
theorem d_C_init_20 : decode prog_1_method_1_code 20 = .ok (.iconst 0, 1) := by decide +kernel
theorem d_C_init_21 : decode prog_1_method_1_code 21 = .ok (.invokespecial 15, 3) := by decide +kernel
theorem d_C_init_24 : decode prog_1_method_1_code 24 = .ok (.invokevirtual 18, 3) := by decide +kernel
theorem d_C_init_27 : decode prog_1_method_1_code 27 = .ok (.return_, 1) := by decide +kernel
theorem d_Pz_init_0 : decode prog_9_method_1_code 0 = .ok (.aload_n 0, 1) := by decide +kernel
theorem d_Pz_init_1 : decode prog_9_method_1_code 1 = .ok (.invokespecial 3, 3) := by decide +kernel
theorem d_Pz_init_4 : decode prog_9_method_1_code 4 = .ok (.aload_n 0, 1) := by decide +kernel
theorem d_Pz_init_5 : decode prog_9_method_1_code 5 = .ok (.bipush 20, 2) := by decide +kernel
theorem d_Pz_init_7 : decode prog_9_method_1_code 7 = .ok (.anewarray 9, 3) := by decide +kernel
theorem d_Pz_init_10 : decode prog_9_method_1_code 10 = .ok (.putfield 11, 3) := by decide +kernel
theorem d_Pz_init_13 : decode prog_9_method_1_code 13 = .ok (.aload_n 0, 1) := by decide +kernel
theorem d_Pz_init_14 : decode prog_9_method_1_code 14 = .ok (.iload_n 1, 1) := by decide +kernel
theorem d_Pz_init_15 : decode prog_9_method_1_code 15 = .ok (.putfield 17, 3) := by decide +kernel
theorem d_Pz_init_18 : decode prog_9_method_1_code 18 = .ok (.aload_n 0, 1) := by decide +kernel
theorem d_Pz_init_19 : decode prog_9_method_1_code 19 = .ok (.iload_n 2, 1) := by decide +kernel
theorem d_Pz_init_20 : decode prog_9_method_1_code 20 = .ok (.putfield 21, 3) := by decide +kernel
theorem d_Pz_init_23 : decode prog_9_method_1_code 23 = .ok (.aload_n 0, 1) := by decide +kernel
theorem d_Pz_init_24 : decode prog_9_method_1_code 24 = .ok (.iload_n 3, 1) := by decide +kernel
theorem d_Pz_init_25 : decode prog_9_method_1_code 25 = .ok (.putfield 24, 3) := by decide +kernel
theorem d_Pz_init_28 : decode prog_9_method_1_code 28 = .ok (.aload_n 0, 1) := by decide +kernel
theorem d_Pz_init_29 : decode prog_9_method_1_code 29 = .ok (.new 27, 3) := by decide +kernel
theorem d_Pz_init_32 : decode prog_9_method_1_code 32 = .ok (.dup, 1) := by decide +kernel
theorem d_Pz_init_33 : decode prog_9_method_1_code 33 = .ok (.iload_n 1, 1) := by decide +kernel
theorem d_Pz_init_34 : decode prog_9_method_1_code 34 = .ok (.invokespecial 29, 3) := by decide +kernel
theorem d_Pz_init_37 : decode prog_9_method_1_code 37 = .ok (.putfield 32, 3) := by decide +kernel
theorem d_Pz_init_40 : decode prog_9_method_1_code 40 = .ok (.return_, 1) := by decide +kernel
theorem d_Od_init_0 : decode prog_8_method_1_code 0 = .ok (.aload_n 0, 1) := by decide +kernel
theorem d_Od_init_1 : decode prog_8_method_1_code 1 = .ok (.invokespecial 3, 3) := by decide +kernel
theorem d_Od_init_4 : decode prog_8_method_1_code 4 = .ok (.aload_n 0, 1) := by decide +kernel
theorem d_Od_init_5 : decode prog_8_method_1_code 5 = .ok (.bipush 24, 2) := by decide +kernel
theorem d_Od_init_7 : decode prog_8_method_1_code 7 = .ok (.newarray .int, 2) := by decide +kernel
theorem d_Od_init_9 : decode prog_8_method_1_code 9 = .ok (.putfield 9, 3) := by decide +kernel
theorem d_Od_init_12 : decode prog_8_method_1_code 12 = .ok (.aload_n 0, 1) := by decide +kernel
theorem d_Od_init_13 : decode prog_8_method_1_code 13 = .ok (.bipush 96, 2) := by decide +kernel
theorem d_Od_init_15 : decode prog_8_method_1_code 15 = .ok (.newarray .int, 2) := by decide +kernel
theorem d_Od_init_17 : decode prog_8_method_1_code 17 = .ok (.putfield 15, 3) := by decide +kernel
theorem d_Od_init_20 : decode prog_8_method_1_code 20 = .ok (.aload_n 0, 1) := by decide +kernel
theorem d_Od_init_21 : decode prog_8_method_1_code 21 = .ok (.iload_n 1, 1) := by decide +kernel
theorem d_Od_init_22 : decode prog_8_method_1_code 22 = .ok (.putfield 18, 3) := by decide +kernel
theorem d_Od_init_25 : decode prog_8_method_1_code 25 = .ok (.aload_n 0, 1) := by decide +kernel
theorem d_Od_init_26 : decode prog_8_method_1_code 26 = .ok (.iconst 0, 1) := by decide +kernel
theorem d_Od_init_27 : decode prog_8_method_1_code 27 = .ok (.iconst 0, 1) := by decide +kernel
theorem d_Od_init_28 : decode prog_8_method_1_code 28 = .ok (.invokevirtual 22, 3) := by decide +kernel
theorem d_Od_init_31 : decode prog_8_method_1_code 31 = .ok (.return_, 1) := by decide +kernel
theorem d_Od_fill_0 : decode prog_8_method_7_code 0 = .ok (.iload_n 1, 1) := by decide +kernel
theorem d_Od_fill_1 : decode prog_8_method_7_code 1 = .ok (.aload_n 0, 1) := by decide +kernel
theorem d_Od_fill_2 : decode prog_8_method_7_code 2 = .ok (.getfield 18, 3) := by decide +kernel
theorem d_Od_fill_5 : decode prog_8_method_7_code 5 = .ok (.if_icmp .lt 9, 3) := by decide +kernel
theorem d_Od_fill_8 : decode prog_8_method_7_code 8 = .ok (.aload_n 0, 1) := by decide +kernel
theorem d_Od_fill_9 : decode prog_8_method_7_code 9 = .ok (.iload_n 2, 1) := by decide +kernel
theorem d_Od_fill_10 : decode prog_8_method_7_code 10 = .ok (.invokevirtual 32, 3) := by decide +kernel
theorem d_Od_fill_13 : decode prog_8_method_7_code 13 = .ok (.return_, 1) := by decide +kernel
theorem d_Od_fill_14 : decode prog_8_method_7_code 14 = .ok (.iconst 0, 1) := by decide +kernel
theorem d_Od_fill_15 : decode prog_8_method_7_code 15 = .ok (.istore_n 3, 1) := by decide +kernel
theorem d_Od_fill_16 : decode prog_8_method_7_code 16 = .ok (.iload_n 3, 1) := by decide +kernel
theorem d_Od_fill_17 : decode prog_8_method_7_code 17 = .ok (.aload_n 0, 1) := by decide +kernel
theorem d_Od_fill_18 : decode prog_8_method_7_code 18 = .ok (.getfield 18, 3) := by decide +kernel
theorem d_Od_fill_21 : decode prog_8_method_7_code 21 = .ok (.if_icmp .ge 35, 3) := by decide +kernel
theorem d_Od_fill_24 : decode prog_8_method_7_code 24 = .ok (.iload_n 2, 1) := by decide +kernel
theorem d_Od_fill_25 : decode prog_8_method_7_code 25 = .ok (.sipush 4369, 3) := by decide +kernel
theorem d_Od_fill_28 : decode prog_8_method_7_code 28 = .ok (.iload_n 3, 1) := by decide +kernel
theorem d_Od_fill_29 : decode prog_8_method_7_code 29 = .ok (.ishl, 1) := by decide +kernel
theorem d_Od_fill_30 : decode prog_8_method_7_code 30 = .ok (.iand, 1) := by decide +kernel
theorem d_Od_fill_31 : decode prog_8_method_7_code 31 = .ok (.ifCond .ne 19, 3) := by decide +kernel
theorem d_Od_fill_34 : decode prog_8_method_7_code 34 = .ok (.aload_n 0, 1) := by decide +kernel
theorem d_Od_fill_35 : decode prog_8_method_7_code 35 = .ok (.iload_n 1, 1) := by decide +kernel
theorem d_Od_fill_36 : decode prog_8_method_7_code 36 = .ok (.iconst 1, 1) := by decide +kernel
theorem d_Od_fill_37 : decode prog_8_method_7_code 37 = .ok (.iadd, 1) := by decide +kernel
theorem d_Od_fill_38 : decode prog_8_method_7_code 38 = .ok (.iload_n 2, 1) := by decide +kernel
theorem d_Od_fill_39 : decode prog_8_method_7_code 39 = .ok (.iconst 1, 1) := by decide +kernel
theorem d_Od_fill_40 : decode prog_8_method_7_code 40 = .ok (.iconst 4, 1) := by decide +kernel
theorem d_Od_fill_41 : decode prog_8_method_7_code 41 = .ok (.iload_n 1, 1) := by decide +kernel
theorem d_Od_fill_42 : decode prog_8_method_7_code 42 = .ok (.imul, 1) := by decide +kernel
theorem d_Od_fill_43 : decode prog_8_method_7_code 43 = .ok (.iload_n 3, 1) := by decide +kernel
theorem d_Od_fill_44 : decode prog_8_method_7_code 44 = .ok (.iadd, 1) := by decide +kernel
theorem d_Od_fill_45 : decode prog_8_method_7_code 45 = .ok (.ishl, 1) := by decide +kernel
theorem d_Od_fill_46 : decode prog_8_method_7_code 46 = .ok (.ior, 1) := by decide +kernel
theorem d_Od_fill_47 : decode prog_8_method_7_code 47 = .ok (.invokevirtual 22, 3) := by decide +kernel
theorem d_Od_fill_50 : decode prog_8_method_7_code 50 = .ok (.iinc 3 1, 3) := by decide +kernel
theorem d_Od_fill_53 : decode prog_8_method_7_code 53 = .ok (.goto (-37), 3) := by decide +kernel
theorem d_Od_fill_56 : decode prog_8_method_7_code 56 = .ok (.return_, 1) := by decide +kernel
theorem d_Od_add_0 : decode prog_8_method_8_code 0 = .ok (.aload_n 0, 1) := by decide +kernel
theorem d_Od_add_1 : decode prog_8_method_8_code 1 = .ok (.getfield 26, 3) := by decide +kernel
theorem d_Od_add_4 : decode prog_8_method_8_code 4 = .ok (.bipush 24, 2) := by decide +kernel
theorem d_Od_add_6 : decode prog_8_method_8_code 6 = .ok (.if_icmp .lt 4, 3) := by decide +kernel
theorem d_Od_add_9 : decode prog_8_method_8_code 9 = .ok (.return_, 1) := by decide +kernel
theorem d_Od_add_10 : decode prog_8_method_8_code 10 = .ok (.aload_n 0, 1) := by decide +kernel
theorem d_Od_add_11 : decode prog_8_method_8_code 11 = .ok (.getfield 9, 3) := by decide +kernel
theorem d_Od_add_14 : decode prog_8_method_8_code 14 = .ok (.aload_n 0, 1) := by decide +kernel
theorem d_Od_add_15 : decode prog_8_method_8_code 15 = .ok (.getfield 26, 3) := by decide +kernel
theorem d_Od_add_18 : decode prog_8_method_8_code 18 = .ok (.iload_n 1, 1) := by decide +kernel
theorem d_Od_add_19 : decode prog_8_method_8_code 19 = .ok (.iastore, 1) := by decide +kernel
theorem d_Od_add_20 : decode prog_8_method_8_code 20 = .ok (.aload_n 0, 1) := by decide +kernel
theorem d_Od_add_21 : decode prog_8_method_8_code 21 = .ok (.dup, 1) := by decide +kernel
theorem d_Od_add_22 : decode prog_8_method_8_code 22 = .ok (.getfield 29, 3) := by decide +kernel
theorem d_Od_add_25 : decode prog_8_method_8_code 25 = .ok (.iload_n 1, 1) := by decide +kernel
theorem d_Od_add_26 : decode prog_8_method_8_code 26 = .ok (.ior, 1) := by decide +kernel
theorem d_Od_add_27 : decode prog_8_method_8_code 27 = .ok (.putfield 29, 3) := by decide +kernel
theorem d_Od_add_30 : decode prog_8_method_8_code 30 = .ok (.iconst 0, 1) := by decide +kernel
theorem d_Od_add_31 : decode prog_8_method_8_code 31 = .ok (.istore_n 2, 1) := by decide +kernel
theorem d_Od_add_32 : decode prog_8_method_8_code 32 = .ok (.iload_n 2, 1) := by decide +kernel
theorem d_Od_add_33 : decode prog_8_method_8_code 33 = .ok (.aload_n 0, 1) := by decide +kernel
theorem d_Od_add_34 : decode prog_8_method_8_code 34 = .ok (.getfield 18, 3) := by decide +kernel
theorem d_Od_add_37 : decode prog_8_method_8_code 37 = .ok (.if_icmp .ge 37, 3) := by decide +kernel
theorem d_Od_add_40 : decode prog_8_method_8_code 40 = .ok (.iload_n 1, 1) := by decide +kernel
theorem d_Od_add_41 : decode prog_8_method_8_code 41 = .ok (.iconst 4, 1) := by decide +kernel
theorem d_Od_add_42 : decode prog_8_method_8_code 42 = .ok (.iload_n 2, 1) := by decide +kernel
theorem d_Od_add_43 : decode prog_8_method_8_code 43 = .ok (.imul, 1) := by decide +kernel
theorem d_Od_add_44 : decode prog_8_method_8_code 44 = .ok (.ishr, 1) := by decide +kernel
theorem d_Od_add_45 : decode prog_8_method_8_code 45 = .ok (.bipush 15, 2) := by decide +kernel
theorem d_Od_add_47 : decode prog_8_method_8_code 47 = .ok (.iand, 1) := by decide +kernel
theorem d_Od_add_48 : decode prog_8_method_8_code 48 = .ok (.istore_n 3, 1) := by decide +kernel
theorem d_Od_add_49 : decode prog_8_method_8_code 49 = .ok (.aload_n 0, 1) := by decide +kernel
theorem d_Od_add_50 : decode prog_8_method_8_code 50 = .ok (.getfield 15, 3) := by decide +kernel
theorem d_Od_add_53 : decode prog_8_method_8_code 53 = .ok (.iconst 4, 1) := by decide +kernel
theorem d_Od_add_54 : decode prog_8_method_8_code 54 = .ok (.aload_n 0, 1) := by decide +kernel
theorem d_Od_add_55 : decode prog_8_method_8_code 55 = .ok (.getfield 26, 3) := by decide +kernel
theorem d_Od_add_58 : decode prog_8_method_8_code 58 = .ok (.imul, 1) := by decide +kernel
theorem d_Od_add_59 : decode prog_8_method_8_code 59 = .ok (.iload_n 2, 1) := by decide +kernel
theorem d_Od_add_60 : decode prog_8_method_8_code 60 = .ok (.iadd, 1) := by decide +kernel
theorem d_Od_add_61 : decode prog_8_method_8_code 61 = .ok (.iload_n 3, 1) := by decide +kernel
theorem d_Od_add_62 : decode prog_8_method_8_code 62 = .ok (.iconst 1, 1) := by decide +kernel
theorem d_Od_add_63 : decode prog_8_method_8_code 63 = .ok (.isub, 1) := by decide +kernel
theorem d_Od_add_64 : decode prog_8_method_8_code 64 = .ok (.invokestatic 36, 3) := by decide +kernel
theorem d_Od_add_67 : decode prog_8_method_8_code 67 = .ok (.iastore, 1) := by decide +kernel
theorem d_Od_add_68 : decode prog_8_method_8_code 68 = .ok (.iinc 2 1, 3) := by decide +kernel
theorem d_Od_add_71 : decode prog_8_method_8_code 71 = .ok (.goto (-39), 3) := by decide +kernel
theorem d_Od_add_74 : decode prog_8_method_8_code 74 = .ok (.aload_n 0, 1) := by decide +kernel
theorem d_Od_add_75 : decode prog_8_method_8_code 75 = .ok (.dup, 1) := by decide +kernel
theorem d_Od_add_76 : decode prog_8_method_8_code 76 = .ok (.getfield 26, 3) := by decide +kernel
theorem d_Od_add_79 : decode prog_8_method_8_code 79 = .ok (.iconst 1, 1) := by decide +kernel
theorem d_Od_add_80 : decode prog_8_method_8_code 80 = .ok (.iadd, 1) := by decide +kernel
theorem d_Od_add_81 : decode prog_8_method_8_code 81 = .ok (.putfield 26, 3) := by decide +kernel
theorem d_Od_add_84 : decode prog_8_method_8_code 84 = .ok (.return_, 1) := by decide +kernel
theorem d_C_begin_0 : decode prog_1_method_14_code 0 = .ok (.aload_n 0, 1) := by decide +kernel
theorem d_C_begin_1 : decode prog_1_method_14_code 1 = .ok (.aload_n 1, 1) := by decide +kernel
theorem d_C_begin_2 : decode prog_1_method_14_code 2 = .ok (.putfield 42, 3) := by decide +kernel
theorem d_C_begin_5 : decode prog_1_method_14_code 5 = .ok (.aload_n 0, 1) := by decide +kernel
theorem d_C_begin_6 : decode prog_1_method_14_code 6 = .ok (.new 63, 3) := by decide +kernel
theorem d_C_begin_9 : decode prog_1_method_14_code 9 = .ok (.dup, 1) := by decide +kernel
theorem d_C_begin_10 : decode prog_1_method_14_code 10 = .ok (.aload_n 1, 1) := by decide +kernel
theorem d_C_begin_11 : decode prog_1_method_14_code 11 = .ok (.invokespecial 129, 3) := by decide +kernel
theorem d_C_begin_14 : decode prog_1_method_14_code 14 = .ok (.putfield 58, 3) := by decide +kernel
theorem d_C_begin_17 : decode prog_1_method_14_code 17 = .ok (.aload_n 0, 1) := by decide +kernel
theorem d_C_begin_18 : decode prog_1_method_14_code 18 = .ok (.new 108, 3) := by decide +kernel
theorem d_C_begin_21 : decode prog_1_method_14_code 21 = .ok (.dup, 1) := by decide +kernel
theorem d_C_begin_22 : decode prog_1_method_14_code 22 = .ok (.aload_n 1, 1) := by decide +kernel
theorem d_C_begin_23 : decode prog_1_method_14_code 23 = .ok (.invokespecial 131, 3) := by decide +kernel
theorem d_C_begin_26 : decode prog_1_method_14_code 26 = .ok (.putfield 103, 3) := by decide +kernel
theorem d_C_begin_29 : decode prog_1_method_14_code 29 = .ok (.aload_n 0, 1) := by decide +kernel
theorem d_C_begin_30 : decode prog_1_method_14_code 30 = .ok (.iconst 0, 1) := by decide +kernel
theorem d_C_begin_31 : decode prog_1_method_14_code 31 = .ok (.putfield 54, 3) := by decide +kernel
theorem d_C_begin_34 : decode prog_1_method_14_code 34 = .ok (.return_, 1) := by decide +kernel
theorem d_An_init_0 : decode prog_2_method_1_code 0 = .ok (.aload_n 0, 1) := by decide +kernel
theorem d_An_init_1 : decode prog_2_method_1_code 1 = .ok (.invokespecial 3, 3) := by decide +kernel
theorem d_An_init_4 : decode prog_2_method_1_code 4 = .ok (.aload_n 0, 1) := by decide +kernel
theorem d_An_init_5 : decode prog_2_method_1_code 5 = .ok (.sipush 300, 3) := by decide +kernel
theorem d_An_init_8 : decode prog_2_method_1_code 8 = .ok (.newarray .int, 2) := by decide +kernel
theorem d_An_init_10 : decode prog_2_method_1_code 10 = .ok (.putfield 9, 3) := by decide +kernel
theorem d_An_init_13 : decode prog_2_method_1_code 13 = .ok (.aload_n 0, 1) := by decide +kernel
theorem d_An_init_14 : decode prog_2_method_1_code 14 = .ok (.bipush 100, 2) := by decide +kernel
theorem d_An_init_16 : decode prog_2_method_1_code 16 = .ok (.newarray .int, 2) := by decide +kernel
theorem d_An_init_18 : decode prog_2_method_1_code 18 = .ok (.putfield 15, 3) := by decide +kernel
theorem d_An_init_21 : decode prog_2_method_1_code 21 = .ok (.aload_n 0, 1) := by decide +kernel
theorem d_An_init_22 : decode prog_2_method_1_code 22 = .ok (.bipush 72, 2) := by decide +kernel
theorem d_An_init_24 : decode prog_2_method_1_code 24 = .ok (.newarray .int, 2) := by decide +kernel
theorem d_An_init_26 : decode prog_2_method_1_code 26 = .ok (.putfield 18, 3) := by decide +kernel
theorem d_An_init_29 : decode prog_2_method_1_code 29 = .ok (.aload_n 0, 1) := by decide +kernel
theorem d_An_init_30 : decode prog_2_method_1_code 30 = .ok (.bipush 20, 2) := by decide +kernel
theorem d_An_init_32 : decode prog_2_method_1_code 32 = .ok (.newarray .int, 2) := by decide +kernel
theorem d_An_init_34 : decode prog_2_method_1_code 34 = .ok (.putfield 21, 3) := by decide +kernel
theorem d_An_init_37 : decode prog_2_method_1_code 37 = .ok (.aload_n 0, 1) := by decide +kernel
theorem d_An_init_38 : decode prog_2_method_1_code 38 = .ok (.bipush 20, 2) := by decide +kernel
theorem d_An_init_40 : decode prog_2_method_1_code 40 = .ok (.newarray .boolean, 2) := by decide +kernel
theorem d_An_init_42 : decode prog_2_method_1_code 42 = .ok (.putfield 24, 3) := by decide +kernel
theorem d_An_init_45 : decode prog_2_method_1_code 45 = .ok (.aload_n 0, 1) := by decide +kernel
theorem d_An_init_46 : decode prog_2_method_1_code 46 = .ok (.aload_n 1, 1) := by decide +kernel
theorem d_An_init_47 : decode prog_2_method_1_code 47 = .ok (.putfield 28, 3) := by decide +kernel
theorem d_An_init_50 : decode prog_2_method_1_code 50 = .ok (.aload_n 0, 1) := by decide +kernel
theorem d_An_init_51 : decode prog_2_method_1_code 51 = .ok (.new 32, 3) := by decide +kernel
theorem d_An_init_54 : decode prog_2_method_1_code 54 = .ok (.dup, 1) := by decide +kernel
theorem d_An_init_55 : decode prog_2_method_1_code 55 = .ok (.aload_n 1, 1) := by decide +kernel
theorem d_An_init_56 : decode prog_2_method_1_code 56 = .ok (.invokespecial 34, 3) := by decide +kernel
theorem d_An_init_59 : decode prog_2_method_1_code 59 = .ok (.putfield 37, 3) := by decide +kernel
theorem d_An_init_62 : decode prog_2_method_1_code 62 = .ok (.return_, 1) := by decide +kernel
theorem d_Wk_init_0 : decode prog_12_method_1_code 0 = .ok (.aload_n 0, 1) := by decide +kernel
theorem d_Wk_init_1 : decode prog_12_method_1_code 1 = .ok (.invokespecial 3, 3) := by decide +kernel
theorem d_Wk_init_4 : decode prog_12_method_1_code 4 = .ok (.aload_n 0, 1) := by decide +kernel
theorem d_Wk_init_5 : decode prog_12_method_1_code 5 = .ok (.bipush 72, 2) := by decide +kernel
theorem d_Wk_init_7 : decode prog_12_method_1_code 7 = .ok (.newarray .int, 2) := by decide +kernel
theorem d_Wk_init_9 : decode prog_12_method_1_code 9 = .ok (.putfield 9, 3) := by decide +kernel
theorem d_Wk_init_12 : decode prog_12_method_1_code 12 = .ok (.aload_n 0, 1) := by decide +kernel
theorem d_Wk_init_13 : decode prog_12_method_1_code 13 = .ok (.iconst 3, 1) := by decide +kernel
theorem d_Wk_init_14 : decode prog_12_method_1_code 14 = .ok (.newarray .int, 2) := by decide +kernel
theorem d_Wk_init_16 : decode prog_12_method_1_code 16 = .ok (.putfield 15, 3) := by decide +kernel
theorem d_Wk_init_19 : decode prog_12_method_1_code 19 = .ok (.aload_n 0, 1) := by decide +kernel
theorem d_Wk_init_20 : decode prog_12_method_1_code 20 = .ok (.iconst 3, 1) := by decide +kernel
theorem d_Wk_init_21 : decode prog_12_method_1_code 21 = .ok (.newarray .int, 2) := by decide +kernel
theorem d_Wk_init_23 : decode prog_12_method_1_code 23 = .ok (.putfield 18, 3) := by decide +kernel
theorem d_Wk_init_26 : decode prog_12_method_1_code 26 = .ok (.aload_n 0, 1) := by decide +kernel
theorem d_Wk_init_27 : decode prog_12_method_1_code 27 = .ok (.bipush 12, 2) := by decide +kernel
theorem d_Wk_init_29 : decode prog_12_method_1_code 29 = .ok (.newarray .int, 2) := by decide +kernel
theorem d_Wk_init_31 : decode prog_12_method_1_code 31 = .ok (.putfield 21, 3) := by decide +kernel
theorem d_Wk_init_34 : decode prog_12_method_1_code 34 = .ok (.aload_n 0, 1) := by decide +kernel
theorem d_Wk_init_35 : decode prog_12_method_1_code 35 = .ok (.aload_n 1, 1) := by decide +kernel
theorem d_Wk_init_36 : decode prog_12_method_1_code 36 = .ok (.invokevirtual 24, 3) := by decide +kernel
theorem d_Wk_init_39 : decode prog_12_method_1_code 39 = .ok (.putfield 30, 3) := by decide +kernel
theorem d_Wk_init_42 : decode prog_12_method_1_code 42 = .ok (.aload_n 0, 1) := by decide +kernel
theorem d_Wk_init_43 : decode prog_12_method_1_code 43 = .ok (.aload_n 1, 1) := by decide +kernel
theorem d_Wk_init_44 : decode prog_12_method_1_code 44 = .ok (.invokevirtual 33, 3) := by decide +kernel
theorem d_Wk_init_47 : decode prog_12_method_1_code 47 = .ok (.putfield 37, 3) := by decide +kernel
theorem d_Wk_init_50 : decode prog_12_method_1_code 50 = .ok (.return_, 1) := by decide +kernel
theorem d_Pz_orders_0 : decode prog_9_method_7_code 0 = .ok (.aload_n 0, 1) := by decide +kernel
theorem d_Pz_orders_1 : decode prog_9_method_7_code 1 = .ok (.getfield 32, 3) := by decide +kernel
theorem d_Pz_orders_4 : decode prog_9_method_7_code 4 = .ok (.areturn, 1) := by decide +kernel
theorem d_Pz_kinds_0 : decode prog_9_method_4_code 0 = .ok (.aload_n 0, 1) := by decide +kernel
theorem d_Pz_kinds_1 : decode prog_9_method_4_code 1 = .ok (.getfield 21, 3) := by decide +kernel
theorem d_Pz_kinds_4 : decode prog_9_method_4_code 4 = .ok (.ireturn, 1) := by decide +kernel
theorem d_Cr_init_0 : decode prog_4_method_1_code 0 = .ok (.aload_n 0, 1) := by decide +kernel
theorem d_Cr_init_1 : decode prog_4_method_1_code 1 = .ok (.invokespecial 3, 3) := by decide +kernel
theorem d_Cr_init_4 : decode prog_4_method_1_code 4 = .ok (.aload_n 0, 1) := by decide +kernel
theorem d_Cr_init_5 : decode prog_4_method_1_code 5 = .ok (.iconst 3, 1) := by decide +kernel
theorem d_Cr_init_6 : decode prog_4_method_1_code 6 = .ok (.newarray .int, 2) := by decide +kernel
theorem d_Cr_init_8 : decode prog_4_method_1_code 8 = .ok (.putfield 9, 3) := by decide +kernel
theorem d_Cr_init_11 : decode prog_4_method_1_code 11 = .ok (.aload_n 0, 1) := by decide +kernel
theorem d_Cr_init_12 : decode prog_4_method_1_code 12 = .ok (.iconst 3, 1) := by decide +kernel
theorem d_Cr_init_13 : decode prog_4_method_1_code 13 = .ok (.newarray .int, 2) := by decide +kernel
theorem d_Cr_init_15 : decode prog_4_method_1_code 15 = .ok (.putfield 15, 3) := by decide +kernel
theorem d_Cr_init_18 : decode prog_4_method_1_code 18 = .ok (.aload_n 0, 1) := by decide +kernel
theorem d_Cr_init_19 : decode prog_4_method_1_code 19 = .ok (.bipush 54, 2) := by decide +kernel
theorem d_Cr_init_21 : decode prog_4_method_1_code 21 = .ok (.newarray .int, 2) := by decide +kernel
theorem d_Cr_init_23 : decode prog_4_method_1_code 23 = .ok (.putfield 18, 3) := by decide +kernel
theorem d_Cr_init_26 : decode prog_4_method_1_code 26 = .ok (.aload_n 0, 1) := by decide +kernel
theorem d_Cr_init_27 : decode prog_4_method_1_code 27 = .ok (.bipush 54, 2) := by decide +kernel
theorem d_Cr_init_29 : decode prog_4_method_1_code 29 = .ok (.newarray .int, 2) := by decide +kernel
theorem d_Cr_init_31 : decode prog_4_method_1_code 31 = .ok (.putfield 21, 3) := by decide +kernel
theorem d_Cr_init_34 : decode prog_4_method_1_code 34 = .ok (.aload_n 0, 1) := by decide +kernel
theorem d_Cr_init_35 : decode prog_4_method_1_code 35 = .ok (.aload_n 1, 1) := by decide +kernel
theorem d_Cr_init_36 : decode prog_4_method_1_code 36 = .ok (.putfield 24, 3) := by decide +kernel
theorem d_Cr_init_39 : decode prog_4_method_1_code 39 = .ok (.aload_n 0, 1) := by decide +kernel
theorem d_Cr_init_40 : decode prog_4_method_1_code 40 = .ok (.new 28, 3) := by decide +kernel
theorem d_Cr_init_43 : decode prog_4_method_1_code 43 = .ok (.dup, 1) := by decide +kernel
theorem d_Cr_init_44 : decode prog_4_method_1_code 44 = .ok (.aload_n 1, 1) := by decide +kernel
theorem d_Cr_init_45 : decode prog_4_method_1_code 45 = .ok (.invokespecial 30, 3) := by decide +kernel
theorem d_Cr_init_48 : decode prog_4_method_1_code 48 = .ok (.putfield 33, 3) := by decide +kernel
theorem d_Cr_init_51 : decode prog_4_method_1_code 51 = .ok (.iconst 0, 1) := by decide +kernel
theorem d_Cr_init_52 : decode prog_4_method_1_code 52 = .ok (.istore_n 2, 1) := by decide +kernel
theorem d_Cr_init_53 : decode prog_4_method_1_code 53 = .ok (.iload_n 2, 1) := by decide +kernel
theorem d_Cr_init_54 : decode prog_4_method_1_code 54 = .ok (.aload_n 1, 1) := by decide +kernel
theorem d_Cr_init_55 : decode prog_4_method_1_code 55 = .ok (.invokevirtual 37, 3) := by decide +kernel
theorem d_Cr_init_58 : decode prog_4_method_1_code 58 = .ok (.if_icmp .ge 22, 3) := by decide +kernel
theorem d_Cr_init_61 : decode prog_4_method_1_code 61 = .ok (.aload_n 0, 1) := by decide +kernel
theorem d_Cr_init_62 : decode prog_4_method_1_code 62 = .ok (.getfield 9, 3) := by decide +kernel
theorem d_Cr_init_65 : decode prog_4_method_1_code 65 = .ok (.iload_n 2, 1) := by decide +kernel
theorem d_Cr_init_66 : decode prog_4_method_1_code 66 = .ok (.aload_n 1, 1) := by decide +kernel
theorem d_Cr_init_67 : decode prog_4_method_1_code 67 = .ok (.invokevirtual 43, 3) := by decide +kernel
theorem d_Cr_init_70 : decode prog_4_method_1_code 70 = .ok (.invokevirtual 47, 3) := by decide +kernel
theorem d_Cr_init_73 : decode prog_4_method_1_code 73 = .ok (.iastore, 1) := by decide +kernel
theorem d_Cr_init_74 : decode prog_4_method_1_code 74 = .ok (.iinc 2 1, 3) := by decide +kernel
theorem d_Cr_init_77 : decode prog_4_method_1_code 77 = .ok (.goto (-24), 3) := by decide +kernel
theorem d_Cr_init_80 : decode prog_4_method_1_code 80 = .ok (.aload_n 0, 1) := by decide +kernel
theorem d_Cr_init_81 : decode prog_4_method_1_code 81 = .ok (.aload_n 0, 1) := by decide +kernel
theorem d_Cr_init_82 : decode prog_4_method_1_code 82 = .ok (.aload_n 1, 1) := by decide +kernel
theorem d_Cr_init_83 : decode prog_4_method_1_code 83 = .ok (.invokevirtual 52, 3) := by decide +kernel
theorem d_Cr_init_86 : decode prog_4_method_1_code 86 = .ok (.invokevirtual 55, 3) := by decide +kernel
theorem d_Cr_init_89 : decode prog_4_method_1_code 89 = .ok (.putfield 59, 3) := by decide +kernel
theorem d_Cr_init_92 : decode prog_4_method_1_code 92 = .ok (.return_, 1) := by decide +kernel
theorem d_Od_allTicks_0 : decode prog_8_method_5_code 0 = .ok (.aload_n 0, 1) := by decide +kernel
theorem d_Od_allTicks_1 : decode prog_8_method_5_code 1 = .ok (.getfield 29, 3) := by decide +kernel
theorem d_Od_allTicks_4 : decode prog_8_method_5_code 4 = .ok (.ireturn, 1) := by decide +kernel
theorem d_Pz_parties_0 : decode prog_9_method_14_code 0 = .ok (.getstatic 39, 3) := by decide +kernel
theorem d_Pz_parties_3 : decode prog_9_method_14_code 3 = .ok (.aload_n 0, 1) := by decide +kernel
theorem d_Pz_parties_4 : decode prog_9_method_14_code 4 = .ok (.getfield 24, 3) := by decide +kernel
theorem d_Pz_parties_7 : decode prog_9_method_14_code 7 = .ok (.iaload, 1) := by decide +kernel
theorem d_Pz_parties_8 : decode prog_9_method_14_code 8 = .ok (.ireturn, 1) := by decide +kernel
theorem d_Cr_waysIn_0 : decode prog_4_method_12_code 0 = .ok (.iconst 0, 1) := by decide +kernel
theorem d_Cr_waysIn_1 : decode prog_4_method_12_code 1 = .ok (.istore_n 2, 1) := by decide +kernel
theorem d_Cr_waysIn_2 : decode prog_4_method_12_code 2 = .ok (.iconst 0, 1) := by decide +kernel
theorem d_Cr_waysIn_3 : decode prog_4_method_12_code 3 = .ok (.istore_n 3, 1) := by decide +kernel
theorem d_Cr_waysIn_4 : decode prog_4_method_12_code 4 = .ok (.iload_n 3, 1) := by decide +kernel
theorem d_Cr_waysIn_5 : decode prog_4_method_12_code 5 = .ok (.aload_n 0, 1) := by decide +kernel
theorem d_Cr_waysIn_6 : decode prog_4_method_12_code 6 = .ok (.getfield 24, 3) := by decide +kernel
theorem d_Cr_waysIn_9 : decode prog_4_method_12_code 9 = .ok (.invokevirtual 132, 3) := by decide +kernel
theorem d_Cr_waysIn_12 : decode prog_4_method_12_code 12 = .ok (.if_icmp .ge 57, 3) := by decide +kernel
theorem d_Cr_waysIn_15 : decode prog_4_method_12_code 15 = .ok (.iload_n 1, 1) := by decide +kernel
theorem d_Cr_waysIn_16 : decode prog_4_method_12_code 16 = .ok (.getstatic 138, 3) := by decide +kernel
theorem d_Cr_waysIn_19 : decode prog_4_method_12_code 19 = .ok (.iload_n 3, 1) := by decide +kernel
theorem d_Cr_waysIn_20 : decode prog_4_method_12_code 20 = .ok (.iaload, 1) := by decide +kernel
theorem d_Cr_waysIn_21 : decode prog_4_method_12_code 21 = .ok (.iconst (-1), 1) := by decide +kernel
theorem d_Cr_waysIn_22 : decode prog_4_method_12_code 22 = .ok (.ixor, 1) := by decide +kernel
theorem d_Cr_waysIn_23 : decode prog_4_method_12_code 23 = .ok (.iand, 1) := by decide +kernel
theorem d_Cr_waysIn_24 : decode prog_4_method_12_code 24 = .ok (.ifCond .eq 7, 3) := by decide +kernel
theorem d_Cr_waysIn_27 : decode prog_4_method_12_code 27 = .ok (.iconst 1, 1) := by decide +kernel
theorem d_Cr_waysIn_28 : decode prog_4_method_12_code 28 = .ok (.goto 4, 3) := by decide +kernel
theorem d_Cr_waysIn_31 : decode prog_4_method_12_code 31 = .ok (.iconst 0, 1) := by decide +kernel
theorem d_Cr_waysIn_32 : decode prog_4_method_12_code 32 = .ok (.istore 4, 2) := by decide +kernel
theorem d_Cr_waysIn_34 : decode prog_4_method_12_code 34 = .ok (.iload_n 1, 1) := by decide +kernel
theorem d_Cr_waysIn_35 : decode prog_4_method_12_code 35 = .ok (.getstatic 138, 3) := by decide +kernel
theorem d_Cr_waysIn_38 : decode prog_4_method_12_code 38 = .ok (.iload_n 3, 1) := by decide +kernel
theorem d_Cr_waysIn_39 : decode prog_4_method_12_code 39 = .ok (.iaload, 1) := by decide +kernel
theorem d_Cr_waysIn_40 : decode prog_4_method_12_code 40 = .ok (.iand, 1) := by decide +kernel
theorem d_Cr_waysIn_41 : decode prog_4_method_12_code 41 = .ok (.ifCond .eq 7, 3) := by decide +kernel
theorem d_Cr_waysIn_44 : decode prog_4_method_12_code 44 = .ok (.iconst 2, 1) := by decide +kernel
theorem d_Cr_waysIn_45 : decode prog_4_method_12_code 45 = .ok (.goto 4, 3) := by decide +kernel
theorem d_Cr_waysIn_48 : decode prog_4_method_12_code 48 = .ok (.iconst 0, 1) := by decide +kernel
theorem d_Cr_waysIn_49 : decode prog_4_method_12_code 49 = .ok (.istore 5, 2) := by decide +kernel
theorem d_Cr_waysIn_51 : decode prog_4_method_12_code 51 = .ok (.iload_n 2, 1) := by decide +kernel
theorem d_Cr_waysIn_52 : decode prog_4_method_12_code 52 = .ok (.iload 4, 2) := by decide +kernel
theorem d_Cr_waysIn_54 : decode prog_4_method_12_code 54 = .ok (.iload 5, 2) := by decide +kernel
theorem d_Cr_waysIn_56 : decode prog_4_method_12_code 56 = .ok (.ior, 1) := by decide +kernel
theorem d_Cr_waysIn_57 : decode prog_4_method_12_code 57 = .ok (.iconst 2, 1) := by decide +kernel
theorem d_Cr_waysIn_58 : decode prog_4_method_12_code 58 = .ok (.iload_n 3, 1) := by decide +kernel
theorem d_Cr_waysIn_59 : decode prog_4_method_12_code 59 = .ok (.imul, 1) := by decide +kernel
theorem d_Cr_waysIn_60 : decode prog_4_method_12_code 60 = .ok (.ishl, 1) := by decide +kernel
theorem d_Cr_waysIn_61 : decode prog_4_method_12_code 61 = .ok (.ior, 1) := by decide +kernel
theorem d_Cr_waysIn_62 : decode prog_4_method_12_code 62 = .ok (.istore_n 2, 1) := by decide +kernel
theorem d_Cr_waysIn_63 : decode prog_4_method_12_code 63 = .ok (.iinc 3 1, 3) := by decide +kernel
theorem d_Cr_waysIn_66 : decode prog_4_method_12_code 66 = .ok (.goto (-62), 3) := by decide +kernel
theorem d_Cr_waysIn_69 : decode prog_4_method_12_code 69 = .ok (.iload_n 2, 1) := by decide +kernel
theorem d_Cr_waysIn_70 : decode prog_4_method_12_code 70 = .ok (.ireturn, 1) := by decide +kernel
theorem d_Pz_persons_0 : decode prog_9_method_5_code 0 = .ok (.aload_n 0, 1) := by decide +kernel
theorem d_Pz_persons_1 : decode prog_9_method_5_code 1 = .ok (.getfield 24, 3) := by decide +kernel
theorem d_Pz_persons_4 : decode prog_9_method_5_code 4 = .ok (.ireturn, 1) := by decide +kernel
theorem d_C_unit_0 : decode prog_1_method_2_code 0 = .ok (.iload_n 1, 1) := by decide +kernel
theorem d_C_unit_1 : decode prog_1_method_2_code 1 = .ok (.ifCond .lt 20, 3) := by decide +kernel
theorem d_C_unit_4 : decode prog_1_method_2_code 4 = .ok (.iload_n 1, 1) := by decide +kernel
theorem d_C_unit_5 : decode prog_1_method_2_code 5 = .ok (.sipush 255, 3) := by decide +kernel
theorem d_C_unit_8 : decode prog_1_method_2_code 8 = .ok (.if_icmp .gt 13, 3) := by decide +kernel
theorem d_C_unit_11 : decode prog_1_method_2_code 11 = .ok (.aload_n 0, 1) := by decide +kernel
theorem d_C_unit_12 : decode prog_1_method_2_code 12 = .ok (.getfield 22, 3) := by decide +kernel
theorem d_C_unit_15 : decode prog_1_method_2_code 15 = .ok (.sipush 300, 3) := by decide +kernel
theorem d_C_unit_18 : decode prog_1_method_2_code 18 = .ok (.if_icmp .lt 5, 3) := by decide +kernel
theorem d_C_unit_21 : decode prog_1_method_2_code 21 = .ok (.iconst 0, 1) := by decide +kernel
theorem d_C_unit_22 : decode prog_1_method_2_code 22 = .ok (.ireturn, 1) := by decide +kernel
theorem d_C_unit_23 : decode prog_1_method_2_code 23 = .ok (.aload_n 0, 1) := by decide +kernel
theorem d_C_unit_24 : decode prog_1_method_2_code 24 = .ok (.getfield 9, 3) := by decide +kernel
theorem d_C_unit_27 : decode prog_1_method_2_code 27 = .ok (.aload_n 0, 1) := by decide +kernel
theorem d_C_unit_28 : decode prog_1_method_2_code 28 = .ok (.getfield 22, 3) := by decide +kernel
theorem d_C_unit_31 : decode prog_1_method_2_code 31 = .ok (.iload_n 1, 1) := by decide +kernel
theorem d_C_unit_32 : decode prog_1_method_2_code 32 = .ok (.iastore, 1) := by decide +kernel
theorem d_C_unit_33 : decode prog_1_method_2_code 33 = .ok (.aload_n 0, 1) := by decide +kernel
theorem d_C_unit_34 : decode prog_1_method_2_code 34 = .ok (.dup, 1) := by decide +kernel
theorem d_C_unit_35 : decode prog_1_method_2_code 35 = .ok (.getfield 22, 3) := by decide +kernel
theorem d_C_unit_38 : decode prog_1_method_2_code 38 = .ok (.iconst 1, 1) := by decide +kernel
theorem d_C_unit_39 : decode prog_1_method_2_code 39 = .ok (.iadd, 1) := by decide +kernel
theorem d_C_unit_40 : decode prog_1_method_2_code 40 = .ok (.putfield 22, 3) := by decide +kernel
theorem d_C_unit_43 : decode prog_1_method_2_code 43 = .ok (.iconst 1, 1) := by decide +kernel
theorem d_C_unit_44 : decode prog_1_method_2_code 44 = .ok (.ireturn, 1) := by decide +kernel
theorem d_C_read_0 : decode prog_1_method_3_code 0 = .ok (.new 26, 3) := by decide +kernel
theorem d_C_read_3 : decode prog_1_method_3_code 3 = .ok (.dup, 1) := by decide +kernel
theorem d_C_read_4 : decode prog_1_method_3_code 4 = .ok (.aload_n 0, 1) := by decide +kernel
theorem d_C_read_5 : decode prog_1_method_3_code 5 = .ok (.getfield 9, 3) := by decide +kernel
theorem d_C_read_8 : decode prog_1_method_3_code 8 = .ok (.aload_n 0, 1) := by decide +kernel
theorem d_C_read_9 : decode prog_1_method_3_code 9 = .ok (.getfield 22, 3) := by decide +kernel
theorem d_C_read_12 : decode prog_1_method_3_code 12 = .ok (.invokespecial 28, 3) := by decide +kernel
theorem d_C_read_15 : decode prog_1_method_3_code 15 = .ok (.astore_n 1, 1) := by decide +kernel
theorem d_C_read_16 : decode prog_1_method_3_code 16 = .ok (.aload_n 1, 1) := by decide +kernel
theorem d_C_read_17 : decode prog_1_method_3_code 17 = .ok (.invokevirtual 31, 3) := by decide +kernel
theorem d_C_read_20 : decode prog_1_method_3_code 20 = .ok (.astore_n 2, 1) := by decide +kernel
theorem d_C_read_21 : decode prog_1_method_3_code 21 = .ok (.aload_n 0, 1) := by decide +kernel
theorem d_C_read_22 : decode prog_1_method_3_code 22 = .ok (.iconst 0, 1) := by decide +kernel
theorem d_C_read_23 : decode prog_1_method_3_code 23 = .ok (.putfield 22, 3) := by decide +kernel
theorem d_C_read_26 : decode prog_1_method_3_code 26 = .ok (.aload_n 2, 1) := by decide +kernel
theorem d_C_read_27 : decode prog_1_method_3_code 27 = .ok (.ifnonnull 10, 3) := by decide +kernel
theorem d_C_read_30 : decode prog_1_method_3_code 30 = .ok (.iconst (-1), 1) := by decide +kernel
theorem d_C_read_31 : decode prog_1_method_3_code 31 = .ok (.aload_n 1, 1) := by decide +kernel
theorem d_C_read_32 : decode prog_1_method_3_code 32 = .ok (.invokevirtual 35, 3) := by decide +kernel
theorem d_C_read_35 : decode prog_1_method_3_code 35 = .ok (.isub, 1) := by decide +kernel
theorem d_C_read_36 : decode prog_1_method_3_code 36 = .ok (.ireturn, 1) := by decide +kernel
theorem d_C_read_37 : decode prog_1_method_3_code 37 = .ok (.aload_n 0, 1) := by decide +kernel
theorem d_C_read_38 : decode prog_1_method_3_code 38 = .ok (.aload_n 2, 1) := by decide +kernel
theorem d_C_read_39 : decode prog_1_method_3_code 39 = .ok (.invokevirtual 18, 3) := by decide +kernel
theorem d_C_read_42 : decode prog_1_method_3_code 42 = .ok (.aload_n 2, 1) := by decide +kernel
theorem d_C_read_43 : decode prog_1_method_3_code 43 = .ok (.invokevirtual 39, 3) := by decide +kernel
theorem d_C_read_46 : decode prog_1_method_3_code 46 = .ok (.ireturn, 1) := by decide +kernel
theorem d_Rd_init_0 : decode prog_10_method_1_code 0 = .ok (.aload_n 0, 1) := by decide +kernel
theorem d_Rd_init_1 : decode prog_10_method_1_code 1 = .ok (.invokespecial 3, 3) := by decide +kernel
theorem d_Rd_init_4 : decode prog_10_method_1_code 4 = .ok (.aload_n 0, 1) := by decide +kernel
theorem d_Rd_init_5 : decode prog_10_method_1_code 5 = .ok (.aload_n 1, 1) := by decide +kernel
theorem d_Rd_init_6 : decode prog_10_method_1_code 6 = .ok (.putfield 9, 3) := by decide +kernel
theorem d_Rd_init_9 : decode prog_10_method_1_code 9 = .ok (.aload_n 0, 1) := by decide +kernel
theorem d_Rd_init_10 : decode prog_10_method_1_code 10 = .ok (.iload_n 2, 1) := by decide +kernel
theorem d_Rd_init_11 : decode prog_10_method_1_code 11 = .ok (.putfield 15, 3) := by decide +kernel
theorem d_Rd_init_14 : decode prog_10_method_1_code 14 = .ok (.return_, 1) := by decide +kernel
theorem d_Rd_puzzle_0 : decode prog_10_method_3_code 0 = .ok (.aload_n 0, 1) := by decide +kernel
theorem d_Rd_puzzle_1 : decode prog_10_method_3_code 1 = .ok (.invokevirtual 22, 3) := by decide +kernel
theorem d_Rd_puzzle_4 : decode prog_10_method_3_code 4 = .ok (.ifCond .ne 5, 3) := by decide +kernel
theorem d_Rd_puzzle_7 : decode prog_10_method_3_code 7 = .ok (.aconst_null, 1) := by decide +kernel
theorem d_Rd_puzzle_8 : decode prog_10_method_3_code 8 = .ok (.areturn, 1) := by decide +kernel
theorem d_Rd_puzzle_9 : decode prog_10_method_3_code 9 = .ok (.new 26, 3) := by decide +kernel
theorem d_Rd_puzzle_12 : decode prog_10_method_3_code 12 = .ok (.dup, 1) := by decide +kernel
theorem d_Rd_puzzle_13 : decode prog_10_method_3_code 13 = .ok (.aload_n 0, 1) := by decide +kernel
theorem d_Rd_puzzle_14 : decode prog_10_method_3_code 14 = .ok (.getfield 28, 3) := by decide +kernel
theorem d_Rd_puzzle_17 : decode prog_10_method_3_code 17 = .ok (.aload_n 0, 1) := by decide +kernel
theorem d_Rd_puzzle_18 : decode prog_10_method_3_code 18 = .ok (.getfield 31, 3) := by decide +kernel
theorem d_Rd_puzzle_21 : decode prog_10_method_3_code 21 = .ok (.aload_n 0, 1) := by decide +kernel
theorem d_Rd_puzzle_22 : decode prog_10_method_3_code 22 = .ok (.getfield 34, 3) := by decide +kernel
theorem d_Rd_puzzle_25 : decode prog_10_method_3_code 25 = .ok (.invokespecial 37, 3) := by decide +kernel
theorem d_Rd_puzzle_28 : decode prog_10_method_3_code 28 = .ok (.astore_n 1, 1) := by decide +kernel
theorem d_Rd_puzzle_29 : decode prog_10_method_3_code 29 = .ok (.iconst 0, 1) := by decide +kernel
theorem d_Rd_puzzle_30 : decode prog_10_method_3_code 30 = .ok (.istore_n 2, 1) := by decide +kernel
theorem d_Rd_puzzle_31 : decode prog_10_method_3_code 31 = .ok (.iload_n 2, 1) := by decide +kernel
theorem d_Rd_puzzle_32 : decode prog_10_method_3_code 32 = .ok (.bipush 20, 2) := by decide +kernel
theorem d_Rd_puzzle_34 : decode prog_10_method_3_code 34 = .ok (.if_icmp .gt 54, 3) := by decide +kernel
theorem d_Rd_puzzle_37 : decode prog_10_method_3_code 37 = .ok (.aload_n 0, 1) := by decide +kernel
theorem d_Rd_puzzle_38 : decode prog_10_method_3_code 38 = .ok (.getfield 19, 3) := by decide +kernel
theorem d_Rd_puzzle_41 : decode prog_10_method_3_code 41 = .ok (.aload_n 0, 1) := by decide +kernel
theorem d_Rd_puzzle_42 : decode prog_10_method_3_code 42 = .ok (.getfield 15, 3) := by decide +kernel
theorem d_Rd_puzzle_45 : decode prog_10_method_3_code 45 = .ok (.if_icmp .ge 43, 3) := by decide +kernel
theorem d_Rd_puzzle_48 : decode prog_10_method_3_code 48 = .ok (.aload_n 0, 1) := by decide +kernel
theorem d_Rd_puzzle_49 : decode prog_10_method_3_code 49 = .ok (.iconst 0, 1) := by decide +kernel
theorem d_Rd_puzzle_50 : decode prog_10_method_3_code 50 = .ok (.putfield 40, 3) := by decide +kernel
theorem d_Rd_puzzle_53 : decode prog_10_method_3_code 53 = .ok (.aload_n 0, 1) := by decide +kernel
theorem d_Rd_puzzle_54 : decode prog_10_method_3_code 54 = .ok (.invokevirtual 43, 3) := by decide +kernel
theorem d_Rd_puzzle_57 : decode prog_10_method_3_code 57 = .ok (.astore_n 3, 1) := by decide +kernel
theorem d_Rd_puzzle_58 : decode prog_10_method_3_code 58 = .ok (.aload_n 3, 1) := by decide +kernel
theorem d_Rd_puzzle_59 : decode prog_10_method_3_code 59 = .ok (.ifnull 16, 3) := by decide +kernel
theorem d_Rd_puzzle_62 : decode prog_10_method_3_code 62 = .ok (.iload_n 2, 1) := by decide +kernel
theorem d_Rd_puzzle_63 : decode prog_10_method_3_code 63 = .ok (.bipush 20, 2) := by decide +kernel
theorem d_Rd_puzzle_65 : decode prog_10_method_3_code 65 = .ok (.if_icmp .eq 10, 3) := by decide +kernel
theorem d_Rd_puzzle_68 : decode prog_10_method_3_code 68 = .ok (.aload_n 0, 1) := by decide +kernel
theorem d_Rd_puzzle_69 : decode prog_10_method_3_code 69 = .ok (.invokevirtual 47, 3) := by decide +kernel
theorem d_Rd_puzzle_72 : decode prog_10_method_3_code 72 = .ok (.ifCond .ne 5, 3) := by decide +kernel
theorem d_Rd_puzzle_75 : decode prog_10_method_3_code 75 = .ok (.aconst_null, 1) := by decide +kernel
theorem d_Rd_puzzle_76 : decode prog_10_method_3_code 76 = .ok (.areturn, 1) := by decide +kernel
theorem d_Rd_puzzle_77 : decode prog_10_method_3_code 77 = .ok (.aload_n 1, 1) := by decide +kernel
theorem d_Rd_puzzle_78 : decode prog_10_method_3_code 78 = .ok (.aload_n 3, 1) := by decide +kernel
theorem d_Rd_puzzle_79 : decode prog_10_method_3_code 79 = .ok (.invokevirtual 50, 3) := by decide +kernel
theorem d_Rd_puzzle_82 : decode prog_10_method_3_code 82 = .ok (.iinc 2 1, 3) := by decide +kernel
theorem d_Rd_puzzle_85 : decode prog_10_method_3_code 85 = .ok (.goto (-54), 3) := by decide +kernel
theorem d_Rd_puzzle_88 : decode prog_10_method_3_code 88 = .ok (.aload_n 1, 1) := by decide +kernel
theorem d_Rd_puzzle_89 : decode prog_10_method_3_code 89 = .ok (.areturn, 1) := by decide +kernel
theorem d_Rd_passHead_0 : decode prog_10_method_4_code 0 = .ok (.aload_n 0, 1) := by decide +kernel
theorem d_Rd_passHead_1 : decode prog_10_method_4_code 1 = .ok (.aload_n 0, 1) := by decide +kernel
theorem d_Rd_passHead_2 : decode prog_10_method_4_code 2 = .ok (.bipush 48, 2) := by decide +kernel
theorem d_Rd_passHead_4 : decode prog_10_method_4_code 4 = .ok (.iconst 1, 1) := by decide +kernel
theorem d_Rd_passHead_5 : decode prog_10_method_4_code 5 = .ok (.iconst 4, 1) := by decide +kernel
theorem d_Rd_passHead_6 : decode prog_10_method_4_code 6 = .ok (.invokevirtual 54, 3) := by decide +kernel
theorem d_Rd_passHead_9 : decode prog_10_method_4_code 9 = .ok (.putfield 28, 3) := by decide +kernel
theorem d_Rd_passHead_12 : decode prog_10_method_4_code 12 = .ok (.aload_n 0, 1) := by decide +kernel
theorem d_Rd_passHead_13 : decode prog_10_method_4_code 13 = .ok (.getfield 28, 3) := by decide +kernel
theorem d_Rd_passHead_16 : decode prog_10_method_4_code 16 = .ok (.iconst (-1), 1) := by decide +kernel
theorem d_Rd_passHead_17 : decode prog_10_method_4_code 17 = .ok (.if_icmp .ne 5, 3) := by decide +kernel
theorem d_Rd_passHead_20 : decode prog_10_method_4_code 20 = .ok (.iconst 0, 1) := by decide +kernel
theorem d_Rd_passHead_21 : decode prog_10_method_4_code 21 = .ok (.ireturn, 1) := by decide +kernel
theorem d_Rd_passHead_22 : decode prog_10_method_4_code 22 = .ok (.aload_n 0, 1) := by decide +kernel
theorem d_Rd_passHead_23 : decode prog_10_method_4_code 23 = .ok (.aload_n 0, 1) := by decide +kernel
theorem d_Rd_passHead_24 : decode prog_10_method_4_code 24 = .ok (.bipush 48, 2) := by decide +kernel
theorem d_Rd_passHead_26 : decode prog_10_method_4_code 26 = .ok (.iconst 0, 1) := by decide +kernel
theorem d_Rd_passHead_27 : decode prog_10_method_4_code 27 = .ok (.iconst 3, 1) := by decide +kernel
theorem d_Rd_passHead_28 : decode prog_10_method_4_code 28 = .ok (.invokevirtual 54, 3) := by decide +kernel
theorem d_Rd_passHead_31 : decode prog_10_method_4_code 31 = .ok (.putfield 31, 3) := by decide +kernel
theorem d_Rd_passHead_34 : decode prog_10_method_4_code 34 = .ok (.aload_n 0, 1) := by decide +kernel
theorem d_Rd_passHead_35 : decode prog_10_method_4_code 35 = .ok (.getfield 31, 3) := by decide +kernel
theorem d_Rd_passHead_38 : decode prog_10_method_4_code 38 = .ok (.iconst (-1), 1) := by decide +kernel
theorem d_Rd_passHead_39 : decode prog_10_method_4_code 39 = .ok (.if_icmp .ne 5, 3) := by decide +kernel
theorem d_Rd_passHead_42 : decode prog_10_method_4_code 42 = .ok (.iconst 0, 1) := by decide +kernel
theorem d_Rd_passHead_43 : decode prog_10_method_4_code 43 = .ok (.ireturn, 1) := by decide +kernel
theorem d_Rd_passHead_44 : decode prog_10_method_4_code 44 = .ok (.aload_n 0, 1) := by decide +kernel
theorem d_Rd_passHead_45 : decode prog_10_method_4_code 45 = .ok (.aload_n 0, 1) := by decide +kernel
theorem d_Rd_passHead_46 : decode prog_10_method_4_code 46 = .ok (.bipush 48, 2) := by decide +kernel
theorem d_Rd_passHead_48 : decode prog_10_method_4_code 48 = .ok (.iconst 0, 1) := by decide +kernel
theorem d_Rd_passHead_49 : decode prog_10_method_4_code 49 = .ok (.iconst 3, 1) := by decide +kernel
theorem d_Rd_passHead_50 : decode prog_10_method_4_code 50 = .ok (.invokevirtual 54, 3) := by decide +kernel
theorem d_Rd_passHead_53 : decode prog_10_method_4_code 53 = .ok (.putfield 34, 3) := by decide +kernel
theorem d_Rd_passHead_56 : decode prog_10_method_4_code 56 = .ok (.aload_n 0, 1) := by decide +kernel
theorem d_Rd_passHead_57 : decode prog_10_method_4_code 57 = .ok (.getfield 34, 3) := by decide +kernel
theorem d_Rd_passHead_60 : decode prog_10_method_4_code 60 = .ok (.iconst (-1), 1) := by decide +kernel
theorem d_Rd_passHead_61 : decode prog_10_method_4_code 61 = .ok (.if_icmp .eq 14, 3) := by decide +kernel
theorem d_Rd_passHead_64 : decode prog_10_method_4_code 64 = .ok (.aload_n 0, 1) := by decide +kernel
theorem d_Rd_passHead_65 : decode prog_10_method_4_code 65 = .ok (.invokevirtual 47, 3) := by decide +kernel
theorem d_Rd_passHead_68 : decode prog_10_method_4_code 68 = .ok (.ifCond .eq 7, 3) := by decide +kernel
theorem d_Rd_passHead_71 : decode prog_10_method_4_code 71 = .ok (.iconst 1, 1) := by decide +kernel
theorem d_Rd_passHead_72 : decode prog_10_method_4_code 72 = .ok (.goto 4, 3) := by decide +kernel
theorem d_Rd_passHead_75 : decode prog_10_method_4_code 75 = .ok (.iconst 0, 1) := by decide +kernel
theorem d_Rd_passHead_76 : decode prog_10_method_4_code 76 = .ok (.ireturn, 1) := by decide +kernel
theorem d_Rd_take_0 : decode prog_10_method_13_code 0 = .ok (.aload_n 0, 1) := by decide +kernel
theorem d_Rd_take_1 : decode prog_10_method_13_code 1 = .ok (.getfield 19, 3) := by decide +kernel
theorem d_Rd_take_4 : decode prog_10_method_13_code 4 = .ok (.aload_n 0, 1) := by decide +kernel
theorem d_Rd_take_5 : decode prog_10_method_13_code 5 = .ok (.getfield 15, 3) := by decide +kernel
theorem d_Rd_take_8 : decode prog_10_method_13_code 8 = .ok (.if_icmp .lt 5, 3) := by decide +kernel
theorem d_Rd_take_11 : decode prog_10_method_13_code 11 = .ok (.iconst (-1), 1) := by decide +kernel
theorem d_Rd_take_12 : decode prog_10_method_13_code 12 = .ok (.ireturn, 1) := by decide +kernel
theorem d_Rd_take_13 : decode prog_10_method_13_code 13 = .ok (.aload_n 0, 1) := by decide +kernel
theorem d_Rd_take_14 : decode prog_10_method_13_code 14 = .ok (.getfield 9, 3) := by decide +kernel
theorem d_Rd_take_17 : decode prog_10_method_13_code 17 = .ok (.aload_n 0, 1) := by decide +kernel
theorem d_Rd_take_18 : decode prog_10_method_13_code 18 = .ok (.getfield 19, 3) := by decide +kernel
theorem d_Rd_take_21 : decode prog_10_method_13_code 21 = .ok (.iaload, 1) := by decide +kernel
theorem d_Rd_take_22 : decode prog_10_method_13_code 22 = .ok (.iload_n 1, 1) := by decide +kernel
theorem d_Rd_take_23 : decode prog_10_method_13_code 23 = .ok (.isub, 1) := by decide +kernel
theorem d_Rd_take_24 : decode prog_10_method_13_code 24 = .ok (.istore 4, 2) := by decide +kernel
theorem d_Rd_take_26 : decode prog_10_method_13_code 26 = .ok (.iload 4, 2) := by decide +kernel
theorem d_Rd_take_28 : decode prog_10_method_13_code 28 = .ok (.iload_n 2, 1) := by decide +kernel
theorem d_Rd_take_29 : decode prog_10_method_13_code 29 = .ok (.if_icmp .lt 9, 3) := by decide +kernel
theorem d_Rd_take_32 : decode prog_10_method_13_code 32 = .ok (.iload 4, 2) := by decide +kernel
theorem d_Rd_take_34 : decode prog_10_method_13_code 34 = .ok (.iload_n 3, 1) := by decide +kernel
theorem d_Rd_take_35 : decode prog_10_method_13_code 35 = .ok (.if_icmp .le 5, 3) := by decide +kernel
theorem d_Rd_take_38 : decode prog_10_method_13_code 38 = .ok (.iconst (-1), 1) := by decide +kernel
theorem d_Rd_take_39 : decode prog_10_method_13_code 39 = .ok (.ireturn, 1) := by decide +kernel
theorem d_Rd_take_40 : decode prog_10_method_13_code 40 = .ok (.aload_n 0, 1) := by decide +kernel
theorem d_Rd_take_41 : decode prog_10_method_13_code 41 = .ok (.dup, 1) := by decide +kernel
theorem d_Rd_take_42 : decode prog_10_method_13_code 42 = .ok (.getfield 19, 3) := by decide +kernel
theorem d_Rd_take_45 : decode prog_10_method_13_code 45 = .ok (.iconst 1, 1) := by decide +kernel
theorem d_Rd_take_46 : decode prog_10_method_13_code 46 = .ok (.iadd, 1) := by decide +kernel
theorem d_Rd_take_47 : decode prog_10_method_13_code 47 = .ok (.putfield 19, 3) := by decide +kernel
theorem d_Rd_take_50 : decode prog_10_method_13_code 50 = .ok (.iload 4, 2) := by decide +kernel
theorem d_Rd_take_52 : decode prog_10_method_13_code 52 = .ok (.ireturn, 1) := by decide +kernel
theorem d_Rd_passSemicolon_0 : decode prog_10_method_12_code 0 = .ok (.aload_n 0, 1) := by decide +kernel
theorem d_Rd_passSemicolon_1 : decode prog_10_method_12_code 1 = .ok (.bipush 59, 2) := by decide +kernel
theorem d_Rd_passSemicolon_3 : decode prog_10_method_12_code 3 = .ok (.iconst 0, 1) := by decide +kernel
theorem d_Rd_passSemicolon_4 : decode prog_10_method_12_code 4 = .ok (.iconst 0, 1) := by decide +kernel
theorem d_Rd_passSemicolon_5 : decode prog_10_method_12_code 5 = .ok (.invokevirtual 54, 3) := by decide +kernel
theorem d_Rd_passSemicolon_8 : decode prog_10_method_12_code 8 = .ok (.iconst (-1), 1) := by decide +kernel
theorem d_Rd_passSemicolon_9 : decode prog_10_method_12_code 9 = .ok (.if_icmp .eq 7, 3) := by decide +kernel
theorem d_Rd_passSemicolon_12 : decode prog_10_method_12_code 12 = .ok (.iconst 1, 1) := by decide +kernel
theorem d_Rd_passSemicolon_13 : decode prog_10_method_12_code 13 = .ok (.goto 4, 3) := by decide +kernel
theorem d_Rd_passSemicolon_16 : decode prog_10_method_12_code 16 = .ok (.iconst 0, 1) := by decide +kernel
theorem d_Rd_passSemicolon_17 : decode prog_10_method_12_code 17 = .ok (.ireturn, 1) := by decide +kernel
theorem d_Rd_clue_0 : decode prog_10_method_5_code 0 = .ok (.aload_n 0, 1) := by decide +kernel
theorem d_Rd_clue_1 : decode prog_10_method_5_code 1 = .ok (.getfield 19, 3) := by decide +kernel
theorem d_Rd_clue_4 : decode prog_10_method_5_code 4 = .ok (.aload_n 0, 1) := by decide +kernel
theorem d_Rd_clue_5 : decode prog_10_method_5_code 5 = .ok (.getfield 15, 3) := by decide +kernel
theorem d_Rd_clue_8 : decode prog_10_method_5_code 8 = .ok (.if_icmp .ge 30, 3) := by decide +kernel
theorem d_Rd_clue_11 : decode prog_10_method_5_code 11 = .ok (.aload_n 0, 1) := by decide +kernel
theorem d_Rd_clue_12 : decode prog_10_method_5_code 12 = .ok (.getfield 40, 3) := by decide +kernel
theorem d_Rd_clue_15 : decode prog_10_method_5_code 15 = .ok (.bipush 30, 2) := by decide +kernel
theorem d_Rd_clue_17 : decode prog_10_method_5_code 17 = .ok (.if_icmp .ge 21, 3) := by decide +kernel
theorem d_Rd_clue_20 : decode prog_10_method_5_code 20 = .ok (.ldc 58, 2) := by decide +kernel
theorem d_Rd_clue_22 : decode prog_10_method_5_code 22 = .ok (.aload_n 0, 1) := by decide +kernel
theorem d_Rd_clue_23 : decode prog_10_method_5_code 23 = .ok (.getfield 9, 3) := by decide +kernel
theorem d_Rd_clue_26 : decode prog_10_method_5_code 26 = .ok (.aload_n 0, 1) := by decide +kernel
theorem d_Rd_clue_27 : decode prog_10_method_5_code 27 = .ok (.getfield 19, 3) := by decide +kernel
theorem d_Rd_clue_30 : decode prog_10_method_5_code 30 = .ok (.iaload, 1) := by decide +kernel
theorem d_Rd_clue_31 : decode prog_10_method_5_code 31 = .ok (.i2c, 1) := by decide +kernel
theorem d_Rd_clue_32 : decode prog_10_method_5_code 32 = .ok (.invokevirtual 60, 3) := by decide +kernel
theorem d_Rd_clue_35 : decode prog_10_method_5_code 35 = .ok (.ifCond .ge 5, 3) := by decide +kernel
theorem d_Rd_clue_38 : decode prog_10_method_5_code 38 = .ok (.aconst_null, 1) := by decide +kernel
theorem d_Rd_clue_39 : decode prog_10_method_5_code 39 = .ok (.areturn, 1) := by decide +kernel
theorem d_Rd_clue_40 : decode prog_10_method_5_code 40 = .ok (.aload_n 0, 1) := by decide +kernel
theorem d_Rd_clue_41 : decode prog_10_method_5_code 41 = .ok (.getfield 9, 3) := by decide +kernel
theorem d_Rd_clue_44 : decode prog_10_method_5_code 44 = .ok (.aload_n 0, 1) := by decide +kernel
theorem d_Rd_clue_45 : decode prog_10_method_5_code 45 = .ok (.getfield 19, 3) := by decide +kernel
theorem d_Rd_clue_48 : decode prog_10_method_5_code 48 = .ok (.iaload, 1) := by decide +kernel
theorem d_Rd_clue_49 : decode prog_10_method_5_code 49 = .ok (.istore_n 1, 1) := by decide +kernel
theorem d_Rd_clue_50 : decode prog_10_method_5_code 50 = .ok (.aload_n 0, 1) := by decide +kernel
theorem d_Rd_clue_51 : decode prog_10_method_5_code 51 = .ok (.dup, 1) := by decide +kernel
theorem d_Rd_clue_52 : decode prog_10_method_5_code 52 = .ok (.getfield 19, 3) := by decide +kernel
theorem d_Rd_clue_55 : decode prog_10_method_5_code 55 = .ok (.iconst 1, 1) := by decide +kernel
theorem d_Rd_clue_56 : decode prog_10_method_5_code 56 = .ok (.iadd, 1) := by decide +kernel
theorem d_Rd_clue_57 : decode prog_10_method_5_code 57 = .ok (.putfield 19, 3) := by decide +kernel
theorem d_Rd_clue_60 : decode prog_10_method_5_code 60 = .ok (.aload_n 0, 1) := by decide +kernel
theorem d_Rd_clue_61 : decode prog_10_method_5_code 61 = .ok (.dup, 1) := by decide +kernel
theorem d_Rd_clue_62 : decode prog_10_method_5_code 62 = .ok (.getfield 40, 3) := by decide +kernel
theorem d_Rd_clue_65 : decode prog_10_method_5_code 65 = .ok (.iconst 1, 1) := by decide +kernel
theorem d_Rd_clue_66 : decode prog_10_method_5_code 66 = .ok (.iadd, 1) := by decide +kernel
theorem d_Rd_clue_67 : decode prog_10_method_5_code 67 = .ok (.putfield 40, 3) := by decide +kernel
theorem d_Rd_clue_70 : decode prog_10_method_5_code 70 = .ok (.iload_n 1, 1) := by decide +kernel
theorem d_Rd_clue_71 : decode prog_10_method_5_code 71 = .ok (.lookupswitch 81 #[(38, 65), (112, 54), (116, 49), (124, 65), (126, 59)], 49) := by decide +kernel
theorem d_Rd_clue_120 : decode prog_10_method_5_code 120 = .ok (.aload_n 0, 1) := by decide +kernel
theorem d_Rd_clue_121 : decode prog_10_method_5_code 121 = .ok (.invokevirtual 66, 3) := by decide +kernel
theorem d_Rd_clue_124 : decode prog_10_method_5_code 124 = .ok (.areturn, 1) := by decide +kernel
theorem d_Rd_clue_125 : decode prog_10_method_5_code 125 = .ok (.aload_n 0, 1) := by decide +kernel
theorem d_Rd_clue_126 : decode prog_10_method_5_code 126 = .ok (.invokevirtual 69, 3) := by decide +kernel
theorem d_Rd_clue_129 : decode prog_10_method_5_code 129 = .ok (.areturn, 1) := by decide +kernel
theorem d_Rd_clue_130 : decode prog_10_method_5_code 130 = .ok (.aload_n 0, 1) := by decide +kernel
theorem d_Rd_clue_131 : decode prog_10_method_5_code 131 = .ok (.iconst (-1), 1) := by decide +kernel
theorem d_Rd_clue_132 : decode prog_10_method_5_code 132 = .ok (.invokevirtual 72, 3) := by decide +kernel
theorem d_Rd_clue_135 : decode prog_10_method_5_code 135 = .ok (.areturn, 1) := by decide +kernel
theorem d_Rd_clue_136 : decode prog_10_method_5_code 136 = .ok (.aload_n 0, 1) := by decide +kernel
theorem d_Rd_clue_137 : decode prog_10_method_5_code 137 = .ok (.iload_n 1, 1) := by decide +kernel
theorem d_Rd_clue_138 : decode prog_10_method_5_code 138 = .ok (.bipush 38, 2) := by decide +kernel
theorem d_Rd_clue_140 : decode prog_10_method_5_code 140 = .ok (.if_icmp .ne 7, 3) := by decide +kernel
theorem d_Rd_clue_143 : decode prog_10_method_5_code 143 = .ok (.iconst 1, 1) := by decide +kernel
theorem d_Rd_clue_144 : decode prog_10_method_5_code 144 = .ok (.goto 4, 3) := by decide +kernel
theorem d_Rd_clue_147 : decode prog_10_method_5_code 147 = .ok (.iconst 0, 1) := by decide +kernel
theorem d_Rd_clue_148 : decode prog_10_method_5_code 148 = .ok (.invokevirtual 76, 3) := by decide +kernel
theorem d_Rd_clue_151 : decode prog_10_method_5_code 151 = .ok (.areturn, 1) := by decide +kernel
theorem d_Rd_clue_152 : decode prog_10_method_5_code 152 = .ok (.aload_n 0, 1) := by decide +kernel
theorem d_Rd_clue_153 : decode prog_10_method_5_code 153 = .ok (.iload_n 1, 1) := by decide +kernel
theorem d_Rd_clue_154 : decode prog_10_method_5_code 154 = .ok (.invokevirtual 80, 3) := by decide +kernel
theorem d_Rd_clue_157 : decode prog_10_method_5_code 157 = .ok (.areturn, 1) := by decide +kernel
theorem d_Rd_ofPerson_0 : decode prog_10_method_6_code 0 = .ok (.aload_n 0, 1) := by decide +kernel
theorem d_Rd_ofPerson_1 : decode prog_10_method_6_code 1 = .ok (.bipush 48, 2) := by decide +kernel
theorem d_Rd_ofPerson_3 : decode prog_10_method_6_code 3 = .ok (.iconst 0, 1) := by decide +kernel
theorem d_Rd_ofPerson_4 : decode prog_10_method_6_code 4 = .ok (.aload_n 0, 1) := by decide +kernel
theorem d_Rd_ofPerson_5 : decode prog_10_method_6_code 5 = .ok (.getfield 34, 3) := by decide +kernel
theorem d_Rd_ofPerson_8 : decode prog_10_method_6_code 8 = .ok (.iconst 1, 1) := by decide +kernel
theorem d_Rd_ofPerson_9 : decode prog_10_method_6_code 9 = .ok (.isub, 1) := by decide +kernel
theorem d_Rd_ofPerson_10 : decode prog_10_method_6_code 10 = .ok (.invokevirtual 54, 3) := by decide +kernel
theorem d_Rd_ofPerson_13 : decode prog_10_method_6_code 13 = .ok (.istore_n 1, 1) := by decide +kernel
theorem d_Rd_ofPerson_14 : decode prog_10_method_6_code 14 = .ok (.iload_n 1, 1) := by decide +kernel
theorem d_Rd_ofPerson_15 : decode prog_10_method_6_code 15 = .ok (.iconst (-1), 1) := by decide +kernel
theorem d_Rd_ofPerson_16 : decode prog_10_method_6_code 16 = .ok (.if_icmp .ne 7, 3) := by decide +kernel
theorem d_Rd_ofPerson_19 : decode prog_10_method_6_code 19 = .ok (.aconst_null, 1) := by decide +kernel
theorem d_Rd_ofPerson_20 : decode prog_10_method_6_code 20 = .ok (.goto 11, 3) := by decide +kernel
theorem d_Rd_ofPerson_23 : decode prog_10_method_6_code 23 = .ok (.new 83, 3) := by decide +kernel
theorem d_Rd_ofPerson_26 : decode prog_10_method_6_code 26 = .ok (.dup, 1) := by decide +kernel
theorem d_Rd_ofPerson_27 : decode prog_10_method_6_code 27 = .ok (.iload_n 1, 1) := by decide +kernel
theorem d_Rd_ofPerson_28 : decode prog_10_method_6_code 28 = .ok (.invokespecial 85, 3) := by decide +kernel
theorem d_Rd_ofPerson_31 : decode prog_10_method_6_code 31 = .ok (.areturn, 1) := by decide +kernel
theorem d_Op_init_0 : decode prog_6_method_1_code 0 = .ok (.aload_n 0, 1) := by decide +kernel
theorem d_Op_init_1 : decode prog_6_method_1_code 1 = .ok (.invokespecial 1, 3) := by decide +kernel
theorem d_Op_init_4 : decode prog_6_method_1_code 4 = .ok (.aload_n 0, 1) := by decide +kernel
theorem d_Op_init_5 : decode prog_6_method_1_code 5 = .ok (.getstatic 7, 3) := by decide +kernel
theorem d_Op_init_8 : decode prog_6_method_1_code 8 = .ok (.iload_n 1, 1) := by decide +kernel
theorem d_Op_init_9 : decode prog_6_method_1_code 9 = .ok (.iaload, 1) := by decide +kernel
theorem d_Op_init_10 : decode prog_6_method_1_code 10 = .ok (.putfield 13, 3) := by decide +kernel
theorem d_Op_init_13 : decode prog_6_method_1_code 13 = .ok (.return_, 1) := by decide +kernel
theorem d_Rd_saying_0 : decode prog_10_method_7_code 0 = .ok (.aload_n 0, 1) := by decide +kernel
theorem d_Rd_saying_1 : decode prog_10_method_7_code 1 = .ok (.bipush 48, 2) := by decide +kernel
theorem d_Rd_saying_3 : decode prog_10_method_7_code 3 = .ok (.iconst 0, 1) := by decide +kernel
theorem d_Rd_saying_4 : decode prog_10_method_7_code 4 = .ok (.aload_n 0, 1) := by decide +kernel
theorem d_Rd_saying_5 : decode prog_10_method_7_code 5 = .ok (.getfield 34, 3) := by decide +kernel
theorem d_Rd_saying_8 : decode prog_10_method_7_code 8 = .ok (.iconst 1, 1) := by decide +kernel
theorem d_Rd_saying_9 : decode prog_10_method_7_code 9 = .ok (.isub, 1) := by decide +kernel
theorem d_Rd_saying_10 : decode prog_10_method_7_code 10 = .ok (.invokevirtual 54, 3) := by decide +kernel
theorem d_Rd_saying_13 : decode prog_10_method_7_code 13 = .ok (.istore_n 1, 1) := by decide +kernel
theorem d_Rd_saying_14 : decode prog_10_method_7_code 14 = .ok (.iload_n 1, 1) := by decide +kernel
theorem d_Rd_saying_15 : decode prog_10_method_7_code 15 = .ok (.iconst (-1), 1) := by decide +kernel
theorem d_Rd_saying_16 : decode prog_10_method_7_code 16 = .ok (.if_icmp .ne 7, 3) := by decide +kernel
theorem d_Rd_saying_19 : decode prog_10_method_7_code 19 = .ok (.aconst_null, 1) := by decide +kernel
theorem d_Rd_saying_20 : decode prog_10_method_7_code 20 = .ok (.goto 14, 3) := by decide +kernel
theorem d_Rd_saying_23 : decode prog_10_method_7_code 23 = .ok (.aload_n 0, 1) := by decide +kernel
theorem d_Rd_saying_24 : decode prog_10_method_7_code 24 = .ok (.getstatic 88, 3) := by decide +kernel
theorem d_Rd_saying_27 : decode prog_10_method_7_code 27 = .ok (.iload_n 1, 1) := by decide +kernel
theorem d_Rd_saying_28 : decode prog_10_method_7_code 28 = .ok (.iaload, 1) := by decide +kernel
theorem d_Rd_saying_29 : decode prog_10_method_7_code 29 = .ok (.iconst (-1), 1) := by decide +kernel
theorem d_Rd_saying_30 : decode prog_10_method_7_code 30 = .ok (.ixor, 1) := by decide +kernel
theorem d_Rd_saying_31 : decode prog_10_method_7_code 31 = .ok (.invokevirtual 72, 3) := by decide +kernel
theorem d_Rd_saying_34 : decode prog_10_method_7_code 34 = .ok (.areturn, 1) := by decide +kernel
theorem d_Rd_turned_0 : decode prog_10_method_8_code 0 = .ok (.aload_n 0, 1) := by decide +kernel
theorem d_Rd_turned_1 : decode prog_10_method_8_code 1 = .ok (.invokevirtual 43, 3) := by decide +kernel
theorem d_Rd_turned_4 : decode prog_10_method_8_code 4 = .ok (.astore_n 2, 1) := by decide +kernel
theorem d_Rd_turned_5 : decode prog_10_method_8_code 5 = .ok (.aload_n 2, 1) := by decide +kernel
theorem d_Rd_turned_6 : decode prog_10_method_8_code 6 = .ok (.ifnonnull 7, 3) := by decide +kernel
theorem d_Rd_turned_9 : decode prog_10_method_8_code 9 = .ok (.aconst_null, 1) := by decide +kernel
theorem d_Rd_turned_10 : decode prog_10_method_8_code 10 = .ok (.goto 12, 3) := by decide +kernel
theorem d_Rd_turned_13 : decode prog_10_method_8_code 13 = .ok (.new 91, 3) := by decide +kernel
theorem d_Rd_turned_16 : decode prog_10_method_8_code 16 = .ok (.dup, 1) := by decide +kernel
theorem d_Rd_turned_17 : decode prog_10_method_8_code 17 = .ok (.iload_n 1, 1) := by decide +kernel
theorem d_Rd_turned_18 : decode prog_10_method_8_code 18 = .ok (.aload_n 2, 1) := by decide +kernel
theorem d_Rd_turned_19 : decode prog_10_method_8_code 19 = .ok (.invokespecial 93, 3) := by decide +kernel
theorem d_Rd_turned_22 : decode prog_10_method_8_code 22 = .ok (.areturn, 1) := by decide +kernel
theorem d_Tu_init_0 : decode prog_11_method_1_code 0 = .ok (.aload_n 0, 1) := by decide +kernel
theorem d_Tu_init_1 : decode prog_11_method_1_code 1 = .ok (.invokespecial 1, 3) := by decide +kernel
theorem d_Tu_init_4 : decode prog_11_method_1_code 4 = .ok (.aload_n 0, 1) := by decide +kernel
theorem d_Tu_init_5 : decode prog_11_method_1_code 5 = .ok (.iload_n 1, 1) := by decide +kernel
theorem d_Tu_init_6 : decode prog_11_method_1_code 6 = .ok (.putfield 7, 3) := by decide +kernel
theorem d_Tu_init_9 : decode prog_11_method_1_code 9 = .ok (.aload_n 0, 1) := by decide +kernel
theorem d_Tu_init_10 : decode prog_11_method_1_code 10 = .ok (.aload_n 2, 1) := by decide +kernel
theorem d_Tu_init_11 : decode prog_11_method_1_code 11 = .ok (.putfield 13, 3) := by decide +kernel
theorem d_Tu_init_14 : decode prog_11_method_1_code 14 = .ok (.return_, 1) := by decide +kernel
theorem d_Rd_joined_0 : decode prog_10_method_9_code 0 = .ok (.aload_n 0, 1) := by decide +kernel
theorem d_Rd_joined_1 : decode prog_10_method_9_code 1 = .ok (.invokevirtual 43, 3) := by decide +kernel
theorem d_Rd_joined_4 : decode prog_10_method_9_code 4 = .ok (.astore_n 2, 1) := by decide +kernel
theorem d_Rd_joined_5 : decode prog_10_method_9_code 5 = .ok (.aload_n 2, 1) := by decide +kernel
theorem d_Rd_joined_6 : decode prog_10_method_9_code 6 = .ok (.ifnonnull 5, 3) := by decide +kernel
theorem d_Rd_joined_9 : decode prog_10_method_9_code 9 = .ok (.aconst_null, 1) := by decide +kernel
theorem d_Rd_joined_10 : decode prog_10_method_9_code 10 = .ok (.areturn, 1) := by decide +kernel
theorem d_Rd_joined_11 : decode prog_10_method_9_code 11 = .ok (.aload_n 0, 1) := by decide +kernel
theorem d_Rd_joined_12 : decode prog_10_method_9_code 12 = .ok (.invokevirtual 43, 3) := by decide +kernel
theorem d_Rd_joined_15 : decode prog_10_method_9_code 15 = .ok (.astore_n 3, 1) := by decide +kernel
theorem d_Rd_joined_16 : decode prog_10_method_9_code 16 = .ok (.aload_n 3, 1) := by decide +kernel
theorem d_Rd_joined_17 : decode prog_10_method_9_code 17 = .ok (.ifnonnull 7, 3) := by decide +kernel
theorem d_Rd_joined_20 : decode prog_10_method_9_code 20 = .ok (.aconst_null, 1) := by decide +kernel
theorem d_Rd_joined_21 : decode prog_10_method_9_code 21 = .ok (.goto 13, 3) := by decide +kernel
theorem d_Rd_joined_24 : decode prog_10_method_9_code 24 = .ok (.new 96, 3) := by decide +kernel
theorem d_Rd_joined_27 : decode prog_10_method_9_code 27 = .ok (.dup, 1) := by decide +kernel
theorem d_Rd_joined_28 : decode prog_10_method_9_code 28 = .ok (.iload_n 1, 1) := by decide +kernel
theorem d_Rd_joined_29 : decode prog_10_method_9_code 29 = .ok (.aload_n 2, 1) := by decide +kernel
theorem d_Rd_joined_30 : decode prog_10_method_9_code 30 = .ok (.aload_n 3, 1) := by decide +kernel
theorem d_Rd_joined_31 : decode prog_10_method_9_code 31 = .ok (.invokespecial 98, 3) := by decide +kernel
theorem d_Rd_joined_34 : decode prog_10_method_9_code 34 = .ok (.areturn, 1) := by decide +kernel
theorem d_Jo_init_0 : decode prog_5_method_1_code 0 = .ok (.aload_n 0, 1) := by decide +kernel
theorem d_Jo_init_1 : decode prog_5_method_1_code 1 = .ok (.invokespecial 1, 3) := by decide +kernel
theorem d_Jo_init_4 : decode prog_5_method_1_code 4 = .ok (.aload_n 0, 1) := by decide +kernel
theorem d_Jo_init_5 : decode prog_5_method_1_code 5 = .ok (.iload_n 1, 1) := by decide +kernel
theorem d_Jo_init_6 : decode prog_5_method_1_code 6 = .ok (.putfield 7, 3) := by decide +kernel
theorem d_Jo_init_9 : decode prog_5_method_1_code 9 = .ok (.aload_n 0, 1) := by decide +kernel
theorem d_Jo_init_10 : decode prog_5_method_1_code 10 = .ok (.aload_n 2, 1) := by decide +kernel
theorem d_Jo_init_11 : decode prog_5_method_1_code 11 = .ok (.putfield 13, 3) := by decide +kernel
theorem d_Jo_init_14 : decode prog_5_method_1_code 14 = .ok (.aload_n 0, 1) := by decide +kernel
theorem d_Jo_init_15 : decode prog_5_method_1_code 15 = .ok (.aload_n 3, 1) := by decide +kernel
theorem d_Jo_init_16 : decode prog_5_method_1_code 16 = .ok (.putfield 17, 3) := by decide +kernel
theorem d_Jo_init_19 : decode prog_5_method_1_code 19 = .ok (.return_, 1) := by decide +kernel
theorem d_Rd_ofValues_0 : decode prog_10_method_10_code 0 = .ok (.aload_n 0, 1) := by decide +kernel
theorem d_Rd_ofValues_1 : decode prog_10_method_10_code 1 = .ok (.invokevirtual 101, 3) := by decide +kernel
theorem d_Rd_ofValues_4 : decode prog_10_method_10_code 4 = .ok (.istore_n 2, 1) := by decide +kernel
theorem d_Rd_ofValues_5 : decode prog_10_method_10_code 5 = .ok (.iload_n 2, 1) := by decide +kernel
theorem d_Rd_ofValues_6 : decode prog_10_method_10_code 6 = .ok (.iconst (-1), 1) := by decide +kernel
theorem d_Rd_ofValues_7 : decode prog_10_method_10_code 7 = .ok (.if_icmp .ne 5, 3) := by decide +kernel
theorem d_Rd_ofValues_10 : decode prog_10_method_10_code 10 = .ok (.aconst_null, 1) := by decide +kernel
theorem d_Rd_ofValues_11 : decode prog_10_method_10_code 11 = .ok (.areturn, 1) := by decide +kernel
theorem d_Rd_ofValues_12 : decode prog_10_method_10_code 12 = .ok (.aload_n 0, 1) := by decide +kernel
theorem d_Rd_ofValues_13 : decode prog_10_method_10_code 13 = .ok (.invokevirtual 101, 3) := by decide +kernel
theorem d_Rd_ofValues_16 : decode prog_10_method_10_code 16 = .ok (.istore_n 3, 1) := by decide +kernel
theorem d_Rd_ofValues_17 : decode prog_10_method_10_code 17 = .ok (.iload_n 3, 1) := by decide +kernel
theorem d_Rd_ofValues_18 : decode prog_10_method_10_code 18 = .ok (.iconst (-1), 1) := by decide +kernel
theorem d_Rd_ofValues_19 : decode prog_10_method_10_code 19 = .ok (.if_icmp .ne 7, 3) := by decide +kernel
theorem d_Rd_ofValues_22 : decode prog_10_method_10_code 22 = .ok (.aconst_null, 1) := by decide +kernel
theorem d_Rd_ofValues_23 : decode prog_10_method_10_code 23 = .ok (.goto 13, 3) := by decide +kernel
theorem d_Rd_ofValues_26 : decode prog_10_method_10_code 26 = .ok (.new 105, 3) := by decide +kernel
theorem d_Rd_ofValues_29 : decode prog_10_method_10_code 29 = .ok (.dup, 1) := by decide +kernel
theorem d_Rd_ofValues_30 : decode prog_10_method_10_code 30 = .ok (.iload_n 1, 1) := by decide +kernel
theorem d_Rd_ofValues_31 : decode prog_10_method_10_code 31 = .ok (.iload_n 2, 1) := by decide +kernel
theorem d_Rd_ofValues_32 : decode prog_10_method_10_code 32 = .ok (.iload_n 3, 1) := by decide +kernel
theorem d_Rd_ofValues_33 : decode prog_10_method_10_code 33 = .ok (.invokespecial 107, 3) := by decide +kernel
theorem d_Rd_ofValues_36 : decode prog_10_method_10_code 36 = .ok (.areturn, 1) := by decide +kernel
theorem d_Rd_takeValue_0 : decode prog_10_method_11_code 0 = .ok (.aload_n 0, 1) := by decide +kernel
theorem d_Rd_takeValue_1 : decode prog_10_method_11_code 1 = .ok (.bipush 97, 2) := by decide +kernel
theorem d_Rd_takeValue_3 : decode prog_10_method_11_code 3 = .ok (.iconst 0, 1) := by decide +kernel
theorem d_Rd_takeValue_4 : decode prog_10_method_11_code 4 = .ok (.aload_n 0, 1) := by decide +kernel
theorem d_Rd_takeValue_5 : decode prog_10_method_11_code 5 = .ok (.getfield 31, 3) := by decide +kernel
theorem d_Rd_takeValue_8 : decode prog_10_method_11_code 8 = .ok (.iconst 1, 1) := by decide +kernel
theorem d_Rd_takeValue_9 : decode prog_10_method_11_code 9 = .ok (.isub, 1) := by decide +kernel
theorem d_Rd_takeValue_10 : decode prog_10_method_11_code 10 = .ok (.invokevirtual 54, 3) := by decide +kernel
theorem d_Rd_takeValue_13 : decode prog_10_method_11_code 13 = .ok (.istore_n 1, 1) := by decide +kernel
theorem d_Rd_takeValue_14 : decode prog_10_method_11_code 14 = .ok (.iload_n 1, 1) := by decide +kernel
theorem d_Rd_takeValue_15 : decode prog_10_method_11_code 15 = .ok (.iconst (-1), 1) := by decide +kernel
theorem d_Rd_takeValue_16 : decode prog_10_method_11_code 16 = .ok (.if_icmp .ne 5, 3) := by decide +kernel
theorem d_Rd_takeValue_19 : decode prog_10_method_11_code 19 = .ok (.iconst (-1), 1) := by decide +kernel
theorem d_Rd_takeValue_20 : decode prog_10_method_11_code 20 = .ok (.ireturn, 1) := by decide +kernel
theorem d_Rd_takeValue_21 : decode prog_10_method_11_code 21 = .ok (.aload_n 0, 1) := by decide +kernel
theorem d_Rd_takeValue_22 : decode prog_10_method_11_code 22 = .ok (.bipush 48, 2) := by decide +kernel
theorem d_Rd_takeValue_24 : decode prog_10_method_11_code 24 = .ok (.iconst 0, 1) := by decide +kernel
theorem d_Rd_takeValue_25 : decode prog_10_method_11_code 25 = .ok (.aload_n 0, 1) := by decide +kernel
theorem d_Rd_takeValue_26 : decode prog_10_method_11_code 26 = .ok (.getfield 28, 3) := by decide +kernel
theorem d_Rd_takeValue_29 : decode prog_10_method_11_code 29 = .ok (.iconst 1, 1) := by decide +kernel
theorem d_Rd_takeValue_30 : decode prog_10_method_11_code 30 = .ok (.isub, 1) := by decide +kernel
theorem d_Rd_takeValue_31 : decode prog_10_method_11_code 31 = .ok (.invokevirtual 54, 3) := by decide +kernel
theorem d_Rd_takeValue_34 : decode prog_10_method_11_code 34 = .ok (.istore_n 2, 1) := by decide +kernel
theorem d_Rd_takeValue_35 : decode prog_10_method_11_code 35 = .ok (.iload_n 2, 1) := by decide +kernel
theorem d_Rd_takeValue_36 : decode prog_10_method_11_code 36 = .ok (.iconst (-1), 1) := by decide +kernel
theorem d_Rd_takeValue_37 : decode prog_10_method_11_code 37 = .ok (.if_icmp .ne 7, 3) := by decide +kernel
theorem d_Rd_takeValue_40 : decode prog_10_method_11_code 40 = .ok (.iconst (-1), 1) := by decide +kernel
theorem d_Rd_takeValue_41 : decode prog_10_method_11_code 41 = .ok (.goto 8, 3) := by decide +kernel
theorem d_Rd_takeValue_44 : decode prog_10_method_11_code 44 = .ok (.iconst 4, 1) := by decide +kernel
theorem d_Rd_takeValue_45 : decode prog_10_method_11_code 45 = .ok (.iload_n 1, 1) := by decide +kernel
theorem d_Rd_takeValue_46 : decode prog_10_method_11_code 46 = .ok (.imul, 1) := by decide +kernel
theorem d_Rd_takeValue_47 : decode prog_10_method_11_code 47 = .ok (.iload_n 2, 1) := by decide +kernel
theorem d_Rd_takeValue_48 : decode prog_10_method_11_code 48 = .ok (.iadd, 1) := by decide +kernel
theorem d_Rd_takeValue_49 : decode prog_10_method_11_code 49 = .ok (.ireturn, 1) := by decide +kernel
theorem d_Ov_init_0 : decode prog_7_method_1_code 0 = .ok (.aload_n 0, 1) := by decide +kernel
theorem d_Ov_init_1 : decode prog_7_method_1_code 1 = .ok (.invokespecial 1, 3) := by decide +kernel
theorem d_Ov_init_4 : decode prog_7_method_1_code 4 = .ok (.aload_n 0, 1) := by decide +kernel
theorem d_Ov_init_5 : decode prog_7_method_1_code 5 = .ok (.iload_n 1, 1) := by decide +kernel
theorem d_Ov_init_6 : decode prog_7_method_1_code 6 = .ok (.putfield 7, 3) := by decide +kernel
theorem d_Ov_init_9 : decode prog_7_method_1_code 9 = .ok (.aload_n 0, 1) := by decide +kernel
theorem d_Ov_init_10 : decode prog_7_method_1_code 10 = .ok (.iload_n 2, 1) := by decide +kernel
theorem d_Ov_init_11 : decode prog_7_method_1_code 11 = .ok (.putfield 13, 3) := by decide +kernel
theorem d_Ov_init_14 : decode prog_7_method_1_code 14 = .ok (.aload_n 0, 1) := by decide +kernel
theorem d_Ov_init_15 : decode prog_7_method_1_code 15 = .ok (.iload_n 3, 1) := by decide +kernel
theorem d_Ov_init_16 : decode prog_7_method_1_code 16 = .ok (.putfield 16, 3) := by decide +kernel
theorem d_Ov_init_19 : decode prog_7_method_1_code 19 = .ok (.return_, 1) := by decide +kernel
theorem d_Pz_add_0 : decode prog_9_method_2_code 0 = .ok (.aload_n 0, 1) := by decide +kernel
theorem d_Pz_add_1 : decode prog_9_method_2_code 1 = .ok (.getfield 36, 3) := by decide +kernel
theorem d_Pz_add_4 : decode prog_9_method_2_code 4 = .ok (.bipush 20, 2) := by decide +kernel
theorem d_Pz_add_6 : decode prog_9_method_2_code 6 = .ok (.if_icmp .ge 23, 3) := by decide +kernel
theorem d_Pz_add_9 : decode prog_9_method_2_code 9 = .ok (.aload_n 0, 1) := by decide +kernel
theorem d_Pz_add_10 : decode prog_9_method_2_code 10 = .ok (.getfield 11, 3) := by decide +kernel
theorem d_Pz_add_13 : decode prog_9_method_2_code 13 = .ok (.aload_n 0, 1) := by decide +kernel
theorem d_Pz_add_14 : decode prog_9_method_2_code 14 = .ok (.getfield 36, 3) := by decide +kernel
theorem d_Pz_add_17 : decode prog_9_method_2_code 17 = .ok (.aload_n 1, 1) := by decide +kernel
theorem d_Pz_add_18 : decode prog_9_method_2_code 18 = .ok (.aastore, 1) := by decide +kernel
theorem d_Pz_add_19 : decode prog_9_method_2_code 19 = .ok (.aload_n 0, 1) := by decide +kernel
theorem d_Pz_add_20 : decode prog_9_method_2_code 20 = .ok (.dup, 1) := by decide +kernel
theorem d_Pz_add_21 : decode prog_9_method_2_code 21 = .ok (.getfield 36, 3) := by decide +kernel
theorem d_Pz_add_24 : decode prog_9_method_2_code 24 = .ok (.iconst 1, 1) := by decide +kernel
theorem d_Pz_add_25 : decode prog_9_method_2_code 25 = .ok (.iadd, 1) := by decide +kernel
theorem d_Pz_add_26 : decode prog_9_method_2_code 26 = .ok (.putfield 36, 3) := by decide +kernel
theorem d_Pz_add_29 : decode prog_9_method_2_code 29 = .ok (.return_, 1) := by decide +kernel
theorem d_Rd_place_0 : decode prog_10_method_2_code 0 = .ok (.aload_n 0, 1) := by decide +kernel
theorem d_Rd_place_1 : decode prog_10_method_2_code 1 = .ok (.getfield 19, 3) := by decide +kernel
theorem d_Rd_place_4 : decode prog_10_method_2_code 4 = .ok (.ireturn, 1) := by decide +kernel
theorem d_Pz_clueCount_0 : decode prog_9_method_6_code 0 = .ok (.aload_n 0, 1) := by decide +kernel
theorem d_Pz_clueCount_1 : decode prog_9_method_6_code 1 = .ok (.getfield 36, 3) := by decide +kernel
theorem d_Pz_clueCount_4 : decode prog_9_method_6_code 4 = .ok (.ireturn, 1) := by decide +kernel
theorem d_C_told_0 : decode prog_1_method_4_code 0 = .ok (.iload_n 1, 1) := by decide +kernel
theorem d_C_told_1 : decode prog_1_method_4_code 1 = .ok (.tableswitch 51 0 2 #[27, 35, 43], 27) := by decide +kernel
theorem d_C_told_28 : decode prog_1_method_4_code 28 = .ok (.aload_n 0, 1) := by decide +kernel
theorem d_C_told_29 : decode prog_1_method_4_code 29 = .ok (.getfield 42, 3) := by decide +kernel
theorem d_C_told_32 : decode prog_1_method_4_code 32 = .ok (.invokevirtual 45, 3) := by decide +kernel
theorem d_C_told_35 : decode prog_1_method_4_code 35 = .ok (.ireturn, 1) := by decide +kernel
theorem d_C_told_36 : decode prog_1_method_4_code 36 = .ok (.aload_n 0, 1) := by decide +kernel
theorem d_C_told_37 : decode prog_1_method_4_code 37 = .ok (.getfield 42, 3) := by decide +kernel
theorem d_C_told_40 : decode prog_1_method_4_code 40 = .ok (.invokevirtual 48, 3) := by decide +kernel
theorem d_C_told_43 : decode prog_1_method_4_code 43 = .ok (.ireturn, 1) := by decide +kernel
theorem d_C_told_44 : decode prog_1_method_4_code 44 = .ok (.aload_n 0, 1) := by decide +kernel
theorem d_C_told_45 : decode prog_1_method_4_code 45 = .ok (.getfield 42, 3) := by decide +kernel
theorem d_C_told_48 : decode prog_1_method_4_code 48 = .ok (.invokevirtual 51, 3) := by decide +kernel
theorem d_C_told_51 : decode prog_1_method_4_code 51 = .ok (.ireturn, 1) := by decide +kernel
theorem d_C_told_52 : decode prog_1_method_4_code 52 = .ok (.iconst (-1), 1) := by decide +kernel
theorem d_C_told_53 : decode prog_1_method_4_code 53 = .ok (.ireturn, 1) := by decide +kernel
theorem d_Pz_things_0 : decode prog_9_method_3_code 0 = .ok (.aload_n 0, 1) := by decide +kernel
theorem d_Pz_things_1 : decode prog_9_method_3_code 1 = .ok (.getfield 17, 3) := by decide +kernel
theorem d_Pz_things_4 : decode prog_9_method_3_code 4 = .ok (.ireturn, 1) := by decide +kernel
theorem d_C_run_0 : decode prog_1_method_5_code 0 = .ok (.aload_n 0, 1) := by decide +kernel
theorem d_C_run_1 : decode prog_1_method_5_code 1 = .ok (.iconst 1, 1) := by decide +kernel
theorem d_C_run_2 : decode prog_1_method_5_code 2 = .ok (.putfield 54, 3) := by decide +kernel
theorem d_C_run_5 : decode prog_1_method_5_code 5 = .ok (.aload_n 0, 1) := by decide +kernel
theorem d_C_run_6 : decode prog_1_method_5_code 6 = .ok (.getfield 58, 3) := by decide +kernel
theorem d_C_run_9 : decode prog_1_method_5_code 9 = .ok (.invokevirtual 62, 3) := by decide +kernel
theorem d_C_run_12 : decode prog_1_method_5_code 12 = .ok (.aload_n 0, 1) := by decide +kernel
theorem d_C_run_13 : decode prog_1_method_5_code 13 = .ok (.getfield 58, 3) := by decide +kernel
theorem d_C_run_16 : decode prog_1_method_5_code 16 = .ok (.invokevirtual 67, 3) := by decide +kernel
theorem d_C_run_19 : decode prog_1_method_5_code 19 = .ok (.ireturn, 1) := by decide +kernel
theorem d_An_find_0 : decode prog_2_method_8_code 0 = .ok (.aload_n 0, 1) := by decide +kernel
theorem d_An_find_1 : decode prog_2_method_8_code 1 = .ok (.getfield 66, 3) := by decide +kernel
theorem d_An_find_4 : decode prog_2_method_8_code 4 = .ok (.ifCond .eq 4, 3) := by decide +kernel
theorem d_An_find_7 : decode prog_2_method_8_code 7 = .ok (.return_, 1) := by decide +kernel
theorem d_An_find_8 : decode prog_2_method_8_code 8 = .ok (.aload_n 0, 1) := by decide +kernel
theorem d_An_find_9 : decode prog_2_method_8_code 9 = .ok (.iconst 1, 1) := by decide +kernel
theorem d_An_find_10 : decode prog_2_method_8_code 10 = .ok (.putfield 66, 3) := by decide +kernel
theorem d_An_find_13 : decode prog_2_method_8_code 13 = .ok (.iconst 3, 1) := by decide +kernel
theorem d_An_find_14 : decode prog_2_method_8_code 14 = .ok (.newarray .int, 2) := by decide +kernel
theorem d_An_find_16 : decode prog_2_method_8_code 16 = .ok (.astore_n 1, 1) := by decide +kernel
theorem d_An_find_17 : decode prog_2_method_8_code 17 = .ok (.aload_n 1, 1) := by decide +kernel
theorem d_An_find_18 : decode prog_2_method_8_code 18 = .ok (.aload_n 0, 1) := by decide +kernel
theorem d_An_find_19 : decode prog_2_method_8_code 19 = .ok (.getfield 28, 3) := by decide +kernel
theorem d_An_find_22 : decode prog_2_method_8_code 22 = .ok (.invokevirtual 48, 3) := by decide +kernel
theorem d_An_find_25 : decode prog_2_method_8_code 25 = .ok (.invokevirtual 70, 3) := by decide +kernel
theorem d_An_find_28 : decode prog_2_method_8_code 28 = .ok (.invokestatic 73, 3) := by decide +kernel
theorem d_An_find_31 : decode prog_2_method_8_code 31 = .ok (.aload_n 0, 1) := by decide +kernel
theorem d_An_find_32 : decode prog_2_method_8_code 32 = .ok (.getfield 37, 3) := by decide +kernel
theorem d_An_find_35 : decode prog_2_method_8_code 35 = .ok (.aload_n 1, 1) := by decide +kernel
theorem d_An_find_36 : decode prog_2_method_8_code 36 = .ok (.invokevirtual 79, 3) := by decide +kernel
theorem d_An_find_39 : decode prog_2_method_8_code 39 = .ok (.istore_n 2, 1) := by decide +kernel
theorem d_An_find_40 : decode prog_2_method_8_code 40 = .ok (.aload_n 0, 1) := by decide +kernel
theorem d_An_find_41 : decode prog_2_method_8_code 41 = .ok (.getfield 37, 3) := by decide +kernel
theorem d_An_find_44 : decode prog_2_method_8_code 44 = .ok (.invokevirtual 83, 3) := by decide +kernel
theorem d_An_find_47 : decode prog_2_method_8_code 47 = .ok (.iconst 0, 1) := by decide +kernel
theorem d_An_find_48 : decode prog_2_method_8_code 48 = .ok (.istore_n 3, 1) := by decide +kernel
theorem d_An_find_49 : decode prog_2_method_8_code 49 = .ok (.iload_n 3, 1) := by decide +kernel
theorem d_An_find_50 : decode prog_2_method_8_code 50 = .ok (.iload_n 2, 1) := by decide +kernel
theorem d_An_find_51 : decode prog_2_method_8_code 51 = .ok (.if_icmp .ge 20, 3) := by decide +kernel
theorem d_An_find_54 : decode prog_2_method_8_code 54 = .ok (.aload_n 0, 1) := by decide +kernel
theorem d_An_find_55 : decode prog_2_method_8_code 55 = .ok (.invokevirtual 86, 3) := by decide +kernel
theorem d_An_find_58 : decode prog_2_method_8_code 58 = .ok (.aload_n 0, 1) := by decide +kernel
theorem d_An_find_59 : decode prog_2_method_8_code 59 = .ok (.getfield 37, 3) := by decide +kernel
theorem d_An_find_62 : decode prog_2_method_8_code 62 = .ok (.invokevirtual 89, 3) := by decide +kernel
theorem d_An_find_65 : decode prog_2_method_8_code 65 = .ok (.iinc 3 1, 3) := by decide +kernel
theorem d_An_find_68 : decode prog_2_method_8_code 68 = .ok (.goto (-19), 3) := by decide +kernel
theorem d_An_find_71 : decode prog_2_method_8_code 71 = .ok (.return_, 1) := by decide +kernel
theorem d_Wk_choose_0 : decode prog_12_method_2_code 0 = .ok (.iconst 1, 1) := by decide +kernel
theorem d_Wk_choose_1 : decode prog_12_method_2_code 1 = .ok (.istore_n 2, 1) := by decide +kernel
theorem d_Wk_choose_2 : decode prog_12_method_2_code 2 = .ok (.iconst 0, 1) := by decide +kernel
theorem d_Wk_choose_3 : decode prog_12_method_2_code 3 = .ok (.istore_n 3, 1) := by decide +kernel
theorem d_Wk_choose_4 : decode prog_12_method_2_code 4 = .ok (.iload_n 3, 1) := by decide +kernel
theorem d_Wk_choose_5 : decode prog_12_method_2_code 5 = .ok (.aload_n 0, 1) := by decide +kernel
theorem d_Wk_choose_6 : decode prog_12_method_2_code 6 = .ok (.getfield 37, 3) := by decide +kernel
theorem d_Wk_choose_9 : decode prog_12_method_2_code 9 = .ok (.if_icmp .ge 32, 3) := by decide +kernel
theorem d_Wk_choose_12 : decode prog_12_method_2_code 12 = .ok (.aload_n 0, 1) := by decide +kernel
theorem d_Wk_choose_13 : decode prog_12_method_2_code 13 = .ok (.getfield 15, 3) := by decide +kernel
theorem d_Wk_choose_16 : decode prog_12_method_2_code 16 = .ok (.iload_n 3, 1) := by decide +kernel
theorem d_Wk_choose_17 : decode prog_12_method_2_code 17 = .ok (.aload_n 0, 1) := by decide +kernel
theorem d_Wk_choose_18 : decode prog_12_method_2_code 18 = .ok (.iload_n 3, 1) := by decide +kernel
theorem d_Wk_choose_19 : decode prog_12_method_2_code 19 = .ok (.aload_n 1, 1) := by decide +kernel
theorem d_Wk_choose_20 : decode prog_12_method_2_code 20 = .ok (.iload_n 3, 1) := by decide +kernel
theorem d_Wk_choose_21 : decode prog_12_method_2_code 21 = .ok (.iaload, 1) := by decide +kernel
theorem d_Wk_choose_22 : decode prog_12_method_2_code 22 = .ok (.invokevirtual 40, 3) := by decide +kernel
theorem d_Wk_choose_25 : decode prog_12_method_2_code 25 = .ok (.iastore, 1) := by decide +kernel
theorem d_Wk_choose_26 : decode prog_12_method_2_code 26 = .ok (.iload_n 2, 1) := by decide +kernel
theorem d_Wk_choose_27 : decode prog_12_method_2_code 27 = .ok (.aload_n 0, 1) := by decide +kernel
theorem d_Wk_choose_28 : decode prog_12_method_2_code 28 = .ok (.getfield 15, 3) := by decide +kernel
theorem d_Wk_choose_31 : decode prog_12_method_2_code 31 = .ok (.iload_n 3, 1) := by decide +kernel
theorem d_Wk_choose_32 : decode prog_12_method_2_code 32 = .ok (.iaload, 1) := by decide +kernel
theorem d_Wk_choose_33 : decode prog_12_method_2_code 33 = .ok (.imul, 1) := by decide +kernel
theorem d_Wk_choose_34 : decode prog_12_method_2_code 34 = .ok (.istore_n 2, 1) := by decide +kernel
theorem d_Wk_choose_35 : decode prog_12_method_2_code 35 = .ok (.iinc 3 1, 3) := by decide +kernel
theorem d_Wk_choose_38 : decode prog_12_method_2_code 38 = .ok (.goto (-34), 3) := by decide +kernel
theorem d_Wk_choose_41 : decode prog_12_method_2_code 41 = .ok (.iload_n 2, 1) := by decide +kernel
theorem d_Wk_choose_42 : decode prog_12_method_2_code 42 = .ok (.ireturn, 1) := by decide +kernel
theorem d_Wk_chooseOrders_0 : decode prog_12_method_3_code 0 = .ok (.iconst 0, 1) := by decide +kernel
theorem d_Wk_chooseOrders_1 : decode prog_12_method_3_code 1 = .ok (.istore_n 3, 1) := by decide +kernel
theorem d_Wk_chooseOrders_2 : decode prog_12_method_3_code 2 = .ok (.iconst 0, 1) := by decide +kernel
theorem d_Wk_chooseOrders_3 : decode prog_12_method_3_code 3 = .ok (.istore 4, 2) := by decide +kernel
theorem d_Wk_chooseOrders_5 : decode prog_12_method_3_code 5 = .ok (.iload 4, 2) := by decide +kernel
theorem d_Wk_chooseOrders_7 : decode prog_12_method_3_code 7 = .ok (.aload_n 0, 1) := by decide +kernel
theorem d_Wk_chooseOrders_8 : decode prog_12_method_3_code 8 = .ok (.getfield 30, 3) := by decide +kernel
theorem d_Wk_chooseOrders_11 : decode prog_12_method_3_code 11 = .ok (.invokevirtual 44, 3) := by decide +kernel
theorem d_Wk_chooseOrders_14 : decode prog_12_method_3_code 14 = .ok (.if_icmp .ge 41, 3) := by decide +kernel
theorem d_Wk_chooseOrders_17 : decode prog_12_method_3_code 17 = .ok (.aload_n 0, 1) := by decide +kernel
theorem d_Wk_chooseOrders_18 : decode prog_12_method_3_code 18 = .ok (.getfield 30, 3) := by decide +kernel
theorem d_Wk_chooseOrders_21 : decode prog_12_method_3_code 21 = .ok (.iload 4, 2) := by decide +kernel
theorem d_Wk_chooseOrders_23 : decode prog_12_method_3_code 23 = .ok (.invokevirtual 49, 3) := by decide +kernel
theorem d_Wk_chooseOrders_26 : decode prog_12_method_3_code 26 = .ok (.iload_n 2, 1) := by decide +kernel
theorem d_Wk_chooseOrders_27 : decode prog_12_method_3_code 27 = .ok (.iconst (-1), 1) := by decide +kernel
theorem d_Wk_chooseOrders_28 : decode prog_12_method_3_code 28 = .ok (.ixor, 1) := by decide +kernel
theorem d_Wk_chooseOrders_29 : decode prog_12_method_3_code 29 = .ok (.iand, 1) := by decide +kernel
theorem d_Wk_chooseOrders_30 : decode prog_12_method_3_code 30 = .ok (.ifCond .ne 19, 3) := by decide +kernel
theorem d_Wk_chooseOrders_33 : decode prog_12_method_3_code 33 = .ok (.aload_n 0, 1) := by decide +kernel
theorem d_Wk_chooseOrders_34 : decode prog_12_method_3_code 34 = .ok (.getfield 9, 3) := by decide +kernel
theorem d_Wk_chooseOrders_37 : decode prog_12_method_3_code 37 = .ok (.bipush 24, 2) := by decide +kernel
theorem d_Wk_chooseOrders_39 : decode prog_12_method_3_code 39 = .ok (.iload_n 1, 1) := by decide +kernel
theorem d_Wk_chooseOrders_40 : decode prog_12_method_3_code 40 = .ok (.imul, 1) := by decide +kernel
theorem d_Wk_chooseOrders_41 : decode prog_12_method_3_code 41 = .ok (.iload_n 3, 1) := by decide +kernel
theorem d_Wk_chooseOrders_42 : decode prog_12_method_3_code 42 = .ok (.iadd, 1) := by decide +kernel
theorem d_Wk_chooseOrders_43 : decode prog_12_method_3_code 43 = .ok (.iload 4, 2) := by decide +kernel
theorem d_Wk_chooseOrders_45 : decode prog_12_method_3_code 45 = .ok (.iastore, 1) := by decide +kernel
theorem d_Wk_chooseOrders_46 : decode prog_12_method_3_code 46 = .ok (.iinc 3 1, 3) := by decide +kernel
theorem d_Wk_chooseOrders_49 : decode prog_12_method_3_code 49 = .ok (.iinc 4 1, 3) := by decide +kernel
theorem d_Wk_chooseOrders_52 : decode prog_12_method_3_code 52 = .ok (.goto (-47), 3) := by decide +kernel
theorem d_Wk_chooseOrders_55 : decode prog_12_method_3_code 55 = .ok (.iload_n 3, 1) := by decide +kernel
theorem d_Wk_chooseOrders_56 : decode prog_12_method_3_code 56 = .ok (.ireturn, 1) := by decide +kernel
theorem d_Od_count_0 : decode prog_8_method_3_code 0 = .ok (.aload_n 0, 1) := by decide +kernel
theorem d_Od_count_1 : decode prog_8_method_3_code 1 = .ok (.getfield 26, 3) := by decide +kernel
theorem d_Od_count_4 : decode prog_8_method_3_code 4 = .ok (.ireturn, 1) := by decide +kernel
theorem d_Od_ticks_0 : decode prog_8_method_4_code 0 = .ok (.aload_n 0, 1) := by decide +kernel
theorem d_Od_ticks_1 : decode prog_8_method_4_code 1 = .ok (.getfield 9, 3) := by decide +kernel
theorem d_Od_ticks_4 : decode prog_8_method_4_code 4 = .ok (.iload_n 1, 1) := by decide +kernel
theorem d_Od_ticks_5 : decode prog_8_method_4_code 5 = .ok (.iaload, 1) := by decide +kernel
theorem d_Od_ticks_6 : decode prog_8_method_4_code 6 = .ok (.ireturn, 1) := by decide +kernel
theorem d_Wk_start_0 : decode prog_12_method_4_code 0 = .ok (.iconst 0, 1) := by decide +kernel
theorem d_Wk_start_1 : decode prog_12_method_4_code 1 = .ok (.istore_n 1, 1) := by decide +kernel
theorem d_Wk_start_2 : decode prog_12_method_4_code 2 = .ok (.iload_n 1, 1) := by decide +kernel
theorem d_Wk_start_3 : decode prog_12_method_4_code 3 = .ok (.aload_n 0, 1) := by decide +kernel
theorem d_Wk_start_4 : decode prog_12_method_4_code 4 = .ok (.getfield 37, 3) := by decide +kernel
theorem d_Wk_start_7 : decode prog_12_method_4_code 7 = .ok (.if_icmp .ge 15, 3) := by decide +kernel
theorem d_Wk_start_10 : decode prog_12_method_4_code 10 = .ok (.aload_n 0, 1) := by decide +kernel
theorem d_Wk_start_11 : decode prog_12_method_4_code 11 = .ok (.iload_n 1, 1) := by decide +kernel
theorem d_Wk_start_12 : decode prog_12_method_4_code 12 = .ok (.iconst 0, 1) := by decide +kernel
theorem d_Wk_start_13 : decode prog_12_method_4_code 13 = .ok (.invokevirtual 53, 3) := by decide +kernel
theorem d_Wk_start_16 : decode prog_12_method_4_code 16 = .ok (.iinc 1 1, 3) := by decide +kernel
theorem d_Wk_start_19 : decode prog_12_method_4_code 19 = .ok (.goto (-17), 3) := by decide +kernel
theorem d_Wk_start_22 : decode prog_12_method_4_code 22 = .ok (.return_, 1) := by decide +kernel
theorem d_Wk_go_0 : decode prog_12_method_8_code 0 = .ok (.aload_n 0, 1) := by decide +kernel
theorem d_Wk_go_1 : decode prog_12_method_8_code 1 = .ok (.getfield 18, 3) := by decide +kernel
theorem d_Wk_go_4 : decode prog_12_method_8_code 4 = .ok (.iload_n 1, 1) := by decide +kernel
theorem d_Wk_go_5 : decode prog_12_method_8_code 5 = .ok (.iload_n 2, 1) := by decide +kernel
theorem d_Wk_go_6 : decode prog_12_method_8_code 6 = .ok (.iastore, 1) := by decide +kernel
theorem d_Wk_go_7 : decode prog_12_method_8_code 7 = .ok (.aload_n 0, 1) := by decide +kernel
theorem d_Wk_go_8 : decode prog_12_method_8_code 8 = .ok (.iload_n 1, 1) := by decide +kernel
theorem d_Wk_go_9 : decode prog_12_method_8_code 9 = .ok (.invokevirtual 57, 3) := by decide +kernel
theorem d_Wk_go_12 : decode prog_12_method_8_code 12 = .ok (.istore_n 3, 1) := by decide +kernel
theorem d_Wk_go_13 : decode prog_12_method_8_code 13 = .ok (.iconst 0, 1) := by decide +kernel
theorem d_Wk_go_14 : decode prog_12_method_8_code 14 = .ok (.istore 4, 2) := by decide +kernel
theorem d_Wk_go_16 : decode prog_12_method_8_code 16 = .ok (.iload 4, 2) := by decide +kernel
theorem d_Wk_go_18 : decode prog_12_method_8_code 18 = .ok (.aload_n 0, 1) := by decide +kernel
theorem d_Wk_go_19 : decode prog_12_method_8_code 19 = .ok (.getfield 30, 3) := by decide +kernel
theorem d_Wk_go_22 : decode prog_12_method_8_code 22 = .ok (.invokevirtual 60, 3) := by decide +kernel
theorem d_Wk_go_25 : decode prog_12_method_8_code 25 = .ok (.if_icmp .ge 30, 3) := by decide +kernel
theorem d_Wk_go_28 : decode prog_12_method_8_code 28 = .ok (.aload_n 0, 1) := by decide +kernel
theorem d_Wk_go_29 : decode prog_12_method_8_code 29 = .ok (.getfield 21, 3) := by decide +kernel
theorem d_Wk_go_32 : decode prog_12_method_8_code 32 = .ok (.iconst 4, 1) := by decide +kernel
theorem d_Wk_go_33 : decode prog_12_method_8_code 33 = .ok (.iload_n 1, 1) := by decide +kernel
theorem d_Wk_go_34 : decode prog_12_method_8_code 34 = .ok (.imul, 1) := by decide +kernel
theorem d_Wk_go_35 : decode prog_12_method_8_code 35 = .ok (.aload_n 0, 1) := by decide +kernel
theorem d_Wk_go_36 : decode prog_12_method_8_code 36 = .ok (.getfield 30, 3) := by decide +kernel
theorem d_Wk_go_39 : decode prog_12_method_8_code 39 = .ok (.iload_n 3, 1) := by decide +kernel
theorem d_Wk_go_40 : decode prog_12_method_8_code 40 = .ok (.iload 4, 2) := by decide +kernel
theorem d_Wk_go_42 : decode prog_12_method_8_code 42 = .ok (.invokevirtual 63, 3) := by decide +kernel
theorem d_Wk_go_45 : decode prog_12_method_8_code 45 = .ok (.iadd, 1) := by decide +kernel
theorem d_Wk_go_46 : decode prog_12_method_8_code 46 = .ok (.iload 4, 2) := by decide +kernel
theorem d_Wk_go_48 : decode prog_12_method_8_code 48 = .ok (.iastore, 1) := by decide +kernel
theorem d_Wk_go_49 : decode prog_12_method_8_code 49 = .ok (.iinc 4 1, 3) := by decide +kernel
theorem d_Wk_go_52 : decode prog_12_method_8_code 52 = .ok (.goto (-36), 3) := by decide +kernel
theorem d_Wk_go_55 : decode prog_12_method_8_code 55 = .ok (.return_, 1) := by decide +kernel
theorem d_In_bitCount_0 : decode prog_16_method_49_code 0 = .ok (.iload_n 0, 1) := by decide +kernel
theorem d_In_bitCount_1 : decode prog_16_method_49_code 1 = .ok (.iload_n 0, 1) := by decide +kernel
theorem d_In_bitCount_2 : decode prog_16_method_49_code 2 = .ok (.iconst 1, 1) := by decide +kernel
theorem d_In_bitCount_3 : decode prog_16_method_49_code 3 = .ok (.iushr, 1) := by decide +kernel
theorem d_In_bitCount_4 : decode prog_16_method_49_code 4 = .ok (.ldc_w 265, 3) := by decide +kernel
theorem d_In_bitCount_7 : decode prog_16_method_49_code 7 = .ok (.iand, 1) := by decide +kernel
theorem d_In_bitCount_8 : decode prog_16_method_49_code 8 = .ok (.isub, 1) := by decide +kernel
theorem d_In_bitCount_9 : decode prog_16_method_49_code 9 = .ok (.istore_n 0, 1) := by decide +kernel
theorem d_In_bitCount_10 : decode prog_16_method_49_code 10 = .ok (.iload_n 0, 1) := by decide +kernel
theorem d_In_bitCount_11 : decode prog_16_method_49_code 11 = .ok (.ldc_w 266, 3) := by decide +kernel
theorem d_In_bitCount_14 : decode prog_16_method_49_code 14 = .ok (.iand, 1) := by decide +kernel
theorem d_In_bitCount_15 : decode prog_16_method_49_code 15 = .ok (.iload_n 0, 1) := by decide +kernel
theorem d_In_bitCount_16 : decode prog_16_method_49_code 16 = .ok (.iconst 2, 1) := by decide +kernel
theorem d_In_bitCount_17 : decode prog_16_method_49_code 17 = .ok (.iushr, 1) := by decide +kernel
theorem d_In_bitCount_18 : decode prog_16_method_49_code 18 = .ok (.ldc_w 266, 3) := by decide +kernel
theorem d_In_bitCount_21 : decode prog_16_method_49_code 21 = .ok (.iand, 1) := by decide +kernel
theorem d_In_bitCount_22 : decode prog_16_method_49_code 22 = .ok (.iadd, 1) := by decide +kernel
theorem d_In_bitCount_23 : decode prog_16_method_49_code 23 = .ok (.istore_n 0, 1) := by decide +kernel
theorem d_In_bitCount_24 : decode prog_16_method_49_code 24 = .ok (.iload_n 0, 1) := by decide +kernel
theorem d_In_bitCount_25 : decode prog_16_method_49_code 25 = .ok (.iload_n 0, 1) := by decide +kernel
theorem d_In_bitCount_26 : decode prog_16_method_49_code 26 = .ok (.iconst 4, 1) := by decide +kernel
theorem d_In_bitCount_27 : decode prog_16_method_49_code 27 = .ok (.iushr, 1) := by decide +kernel
theorem d_In_bitCount_28 : decode prog_16_method_49_code 28 = .ok (.iadd, 1) := by decide +kernel
theorem d_In_bitCount_29 : decode prog_16_method_49_code 29 = .ok (.ldc_w 267, 3) := by decide +kernel
theorem d_In_bitCount_32 : decode prog_16_method_49_code 32 = .ok (.iand, 1) := by decide +kernel
theorem d_In_bitCount_33 : decode prog_16_method_49_code 33 = .ok (.istore_n 0, 1) := by decide +kernel
theorem d_In_bitCount_34 : decode prog_16_method_49_code 34 = .ok (.iload_n 0, 1) := by decide +kernel
theorem d_In_bitCount_35 : decode prog_16_method_49_code 35 = .ok (.iload_n 0, 1) := by decide +kernel
theorem d_In_bitCount_36 : decode prog_16_method_49_code 36 = .ok (.bipush 8, 2) := by decide +kernel
theorem d_In_bitCount_38 : decode prog_16_method_49_code 38 = .ok (.iushr, 1) := by decide +kernel
theorem d_In_bitCount_39 : decode prog_16_method_49_code 39 = .ok (.iadd, 1) := by decide +kernel
theorem d_In_bitCount_40 : decode prog_16_method_49_code 40 = .ok (.istore_n 0, 1) := by decide +kernel
theorem d_In_bitCount_41 : decode prog_16_method_49_code 41 = .ok (.iload_n 0, 1) := by decide +kernel
theorem d_In_bitCount_42 : decode prog_16_method_49_code 42 = .ok (.iload_n 0, 1) := by decide +kernel
theorem d_In_bitCount_43 : decode prog_16_method_49_code 43 = .ok (.bipush 16, 2) := by decide +kernel
theorem d_In_bitCount_45 : decode prog_16_method_49_code 45 = .ok (.iushr, 1) := by decide +kernel
theorem d_In_bitCount_46 : decode prog_16_method_49_code 46 = .ok (.iadd, 1) := by decide +kernel
theorem d_In_bitCount_47 : decode prog_16_method_49_code 47 = .ok (.istore_n 0, 1) := by decide +kernel
theorem d_In_bitCount_48 : decode prog_16_method_49_code 48 = .ok (.iload_n 0, 1) := by decide +kernel
theorem d_In_bitCount_49 : decode prog_16_method_49_code 49 = .ok (.bipush 63, 2) := by decide +kernel
theorem d_In_bitCount_51 : decode prog_16_method_49_code 51 = .ok (.iand, 1) := by decide +kernel
theorem d_In_bitCount_52 : decode prog_16_method_49_code 52 = .ok (.ireturn, 1) := by decide +kernel
theorem d_Ar_fill_0 : decode prog_21_method_103_code 0 = .ok (.iconst 0, 1) := by decide +kernel
theorem d_Ar_fill_1 : decode prog_21_method_103_code 1 = .ok (.istore_n 2, 1) := by decide +kernel
theorem d_Ar_fill_2 : decode prog_21_method_103_code 2 = .ok (.aload_n 0, 1) := by decide +kernel
theorem d_Ar_fill_3 : decode prog_21_method_103_code 3 = .ok (.arraylength, 1) := by decide +kernel
theorem d_Ar_fill_4 : decode prog_21_method_103_code 4 = .ok (.istore_n 3, 1) := by decide +kernel
theorem d_Ar_fill_5 : decode prog_21_method_103_code 5 = .ok (.iload_n 2, 1) := by decide +kernel
theorem d_Ar_fill_6 : decode prog_21_method_103_code 6 = .ok (.iload_n 3, 1) := by decide +kernel
theorem d_Ar_fill_7 : decode prog_21_method_103_code 7 = .ok (.if_icmp .ge 13, 3) := by decide +kernel
theorem d_Ar_fill_10 : decode prog_21_method_103_code 10 = .ok (.aload_n 0, 1) := by decide +kernel
theorem d_Ar_fill_11 : decode prog_21_method_103_code 11 = .ok (.iload_n 2, 1) := by decide +kernel
theorem d_Ar_fill_12 : decode prog_21_method_103_code 12 = .ok (.iload_n 1, 1) := by decide +kernel
theorem d_Ar_fill_13 : decode prog_21_method_103_code 13 = .ok (.iastore, 1) := by decide +kernel
theorem d_Ar_fill_14 : decode prog_21_method_103_code 14 = .ok (.iinc 2 1, 3) := by decide +kernel
theorem d_Ar_fill_17 : decode prog_21_method_103_code 17 = .ok (.goto (-12), 3) := by decide +kernel
theorem d_Ar_fill_20 : decode prog_21_method_103_code 20 = .ok (.return_, 1) := by decide +kernel
end
section
theorem d_Wk_order_0 : decode prog_12_method_6_code 0 = .ok (.aload_n 0, 1) := by decide +kernel
theorem d_Wk_order_1 : decode prog_12_method_6_code 1 = .ok (.getfield 9, 3) := by decide +kernel
theorem d_Wk_order_4 : decode prog_12_method_6_code 4 = .ok (.bipush 24, 2) := by decide +kernel
theorem d_Wk_order_6 : decode prog_12_method_6_code 6 = .ok (.iload_n 1, 1) := by decide +kernel
theorem d_Wk_order_7 : decode prog_12_method_6_code 7 = .ok (.imul, 1) := by decide +kernel
theorem d_Wk_order_8 : decode prog_12_method_6_code 8 = .ok (.aload_n 0, 1) := by decide +kernel
theorem d_Wk_order_9 : decode prog_12_method_6_code 9 = .ok (.getfield 18, 3) := by decide +kernel
theorem d_Wk_order_12 : decode prog_12_method_6_code 12 = .ok (.iload_n 1, 1) := by decide +kernel
theorem d_Wk_order_13 : decode prog_12_method_6_code 13 = .ok (.iaload, 1) := by decide +kernel
theorem d_Wk_order_14 : decode prog_12_method_6_code 14 = .ok (.iadd, 1) := by decide +kernel
theorem d_Wk_order_15 : decode prog_12_method_6_code 15 = .ok (.iaload, 1) := by decide +kernel
theorem d_Wk_order_16 : decode prog_12_method_6_code 16 = .ok (.ireturn, 1) := by decide +kernel
theorem d_Od_things_0 : decode prog_8_method_2_code 0 = .ok (.aload_n 0, 1) := by decide +kernel
theorem d_Od_things_1 : decode prog_8_method_2_code 1 = .ok (.getfield 18, 3) := by decide +kernel
theorem d_Od_things_4 : decode prog_8_method_2_code 4 = .ok (.ireturn, 1) := by decide +kernel
theorem d_Od_value_0 : decode prog_8_method_6_code 0 = .ok (.aload_n 0, 1) := by decide +kernel
theorem d_Od_value_1 : decode prog_8_method_6_code 1 = .ok (.getfield 15, 3) := by decide +kernel
theorem d_Od_value_4 : decode prog_8_method_6_code 4 = .ok (.iconst 4, 1) := by decide +kernel
theorem d_Od_value_5 : decode prog_8_method_6_code 5 = .ok (.iload_n 1, 1) := by decide +kernel
theorem d_Od_value_6 : decode prog_8_method_6_code 6 = .ok (.imul, 1) := by decide +kernel
theorem d_Od_value_7 : decode prog_8_method_6_code 7 = .ok (.iload_n 2, 1) := by decide +kernel
theorem d_Od_value_8 : decode prog_8_method_6_code 8 = .ok (.iadd, 1) := by decide +kernel
theorem d_Od_value_9 : decode prog_8_method_6_code 9 = .ok (.iaload, 1) := by decide +kernel
theorem d_Od_value_10 : decode prog_8_method_6_code 10 = .ok (.ireturn, 1) := by decide +kernel
theorem d_An_weigh_0 : decode prog_2_method_9_code 0 = .ok (.aload_n 0, 1) := by decide +kernel
theorem d_An_weigh_1 : decode prog_2_method_9_code 1 = .ok (.getfield 28, 3) := by decide +kernel
theorem d_An_weigh_4 : decode prog_2_method_9_code 4 = .ok (.invokevirtual 92, 3) := by decide +kernel
theorem d_An_weigh_7 : decode prog_2_method_9_code 7 = .ok (.istore_n 1, 1) := by decide +kernel
theorem d_An_weigh_8 : decode prog_2_method_9_code 8 = .ok (.iconst 0, 1) := by decide +kernel
theorem d_An_weigh_9 : decode prog_2_method_9_code 9 = .ok (.istore_n 2, 1) := by decide +kernel
theorem d_An_weigh_10 : decode prog_2_method_9_code 10 = .ok (.iconst 0, 1) := by decide +kernel
theorem d_An_weigh_11 : decode prog_2_method_9_code 11 = .ok (.istore_n 3, 1) := by decide +kernel
theorem d_An_weigh_12 : decode prog_2_method_9_code 12 = .ok (.iload_n 3, 1) := by decide +kernel
theorem d_An_weigh_13 : decode prog_2_method_9_code 13 = .ok (.aload_n 0, 1) := by decide +kernel
theorem d_An_weigh_14 : decode prog_2_method_9_code 14 = .ok (.getfield 28, 3) := by decide +kernel
theorem d_An_weigh_17 : decode prog_2_method_9_code 17 = .ok (.invokevirtual 95, 3) := by decide +kernel
theorem d_An_weigh_20 : decode prog_2_method_9_code 20 = .ok (.if_icmp .ge 62, 3) := by decide +kernel
theorem d_An_weigh_23 : decode prog_2_method_9_code 23 = .ok (.iload_n 1, 1) := by decide +kernel
theorem d_An_weigh_24 : decode prog_2_method_9_code 24 = .ok (.iload_n 2, 1) := by decide +kernel
theorem d_An_weigh_25 : decode prog_2_method_9_code 25 = .ok (.ior, 1) := by decide +kernel
theorem d_An_weigh_26 : decode prog_2_method_9_code 26 = .ok (.ifCond .eq 56, 3) := by decide +kernel
theorem d_An_weigh_29 : decode prog_2_method_9_code 29 = .ok (.aload_n 0, 1) := by decide +kernel
theorem d_An_weigh_30 : decode prog_2_method_9_code 30 = .ok (.getfield 28, 3) := by decide +kernel
theorem d_An_weigh_33 : decode prog_2_method_9_code 33 = .ok (.iload_n 3, 1) := by decide +kernel
theorem d_An_weigh_34 : decode prog_2_method_9_code 34 = .ok (.invokevirtual 98, 3) := by decide +kernel
theorem d_An_weigh_37 : decode prog_2_method_9_code 37 = .ok (.aload_n 0, 1) := by decide +kernel
theorem d_An_weigh_38 : decode prog_2_method_9_code 38 = .ok (.getfield 37, 3) := by decide +kernel
theorem d_An_weigh_41 : decode prog_2_method_9_code 41 = .ok (.invokevirtual 102, 3) := by decide +kernel
theorem d_An_weigh_44 : decode prog_2_method_9_code 44 = .ok (.invokeinterface 106 2, 5) := by decide +kernel
theorem d_An_weigh_49 : decode prog_2_method_9_code 49 = .ok (.istore 4, 2) := by decide +kernel
theorem d_An_weigh_51 : decode prog_2_method_9_code 51 = .ok (.aload_n 0, 1) := by decide +kernel
theorem d_An_weigh_52 : decode prog_2_method_9_code 52 = .ok (.getfield 21, 3) := by decide +kernel
theorem d_An_weigh_55 : decode prog_2_method_9_code 55 = .ok (.iload_n 3, 1) := by decide +kernel
theorem d_An_weigh_56 : decode prog_2_method_9_code 56 = .ok (.iload 4, 2) := by decide +kernel
theorem d_An_weigh_58 : decode prog_2_method_9_code 58 = .ok (.iastore, 1) := by decide +kernel
theorem d_An_weigh_59 : decode prog_2_method_9_code 59 = .ok (.iload_n 2, 1) := by decide +kernel
theorem d_An_weigh_60 : decode prog_2_method_9_code 60 = .ok (.iload 4, 2) := by decide +kernel
theorem d_An_weigh_62 : decode prog_2_method_9_code 62 = .ok (.iand, 1) := by decide +kernel
theorem d_An_weigh_63 : decode prog_2_method_9_code 63 = .ok (.iload_n 1, 1) := by decide +kernel
theorem d_An_weigh_64 : decode prog_2_method_9_code 64 = .ok (.iload 4, 2) := by decide +kernel
theorem d_An_weigh_66 : decode prog_2_method_9_code 66 = .ok (.iconst (-1), 1) := by decide +kernel
theorem d_An_weigh_67 : decode prog_2_method_9_code 67 = .ok (.ixor, 1) := by decide +kernel
theorem d_An_weigh_68 : decode prog_2_method_9_code 68 = .ok (.iand, 1) := by decide +kernel
theorem d_An_weigh_69 : decode prog_2_method_9_code 69 = .ok (.ior, 1) := by decide +kernel
theorem d_An_weigh_70 : decode prog_2_method_9_code 70 = .ok (.istore_n 2, 1) := by decide +kernel
theorem d_An_weigh_71 : decode prog_2_method_9_code 71 = .ok (.iload_n 1, 1) := by decide +kernel
theorem d_An_weigh_72 : decode prog_2_method_9_code 72 = .ok (.iload 4, 2) := by decide +kernel
theorem d_An_weigh_74 : decode prog_2_method_9_code 74 = .ok (.iand, 1) := by decide +kernel
theorem d_An_weigh_75 : decode prog_2_method_9_code 75 = .ok (.istore_n 1, 1) := by decide +kernel
theorem d_An_weigh_76 : decode prog_2_method_9_code 76 = .ok (.iinc 3 1, 3) := by decide +kernel
theorem d_An_weigh_79 : decode prog_2_method_9_code 79 = .ok (.goto (-67), 3) := by decide +kernel
theorem d_An_weigh_82 : decode prog_2_method_9_code 82 = .ok (.iload_n 1, 1) := by decide +kernel
theorem d_An_weigh_83 : decode prog_2_method_9_code 83 = .ok (.ifCond .eq 8, 3) := by decide +kernel
theorem d_An_weigh_86 : decode prog_2_method_9_code 86 = .ok (.aload_n 0, 1) := by decide +kernel
theorem d_An_weigh_87 : decode prog_2_method_9_code 87 = .ok (.iload_n 1, 1) := by decide +kernel
theorem d_An_weigh_88 : decode prog_2_method_9_code 88 = .ok (.invokevirtual 111, 3) := by decide +kernel
theorem d_An_weigh_91 : decode prog_2_method_9_code 91 = .ok (.iload_n 2, 1) := by decide +kernel
theorem d_An_weigh_92 : decode prog_2_method_9_code 92 = .ok (.ifCond .eq 8, 3) := by decide +kernel
theorem d_An_weigh_95 : decode prog_2_method_9_code 95 = .ok (.aload_n 0, 1) := by decide +kernel
theorem d_An_weigh_96 : decode prog_2_method_9_code 96 = .ok (.iload_n 2, 1) := by decide +kernel
theorem d_An_weigh_97 : decode prog_2_method_9_code 97 = .ok (.invokevirtual 115, 3) := by decide +kernel
theorem d_An_weigh_100 : decode prog_2_method_9_code 100 = .ok (.return_, 1) := by decide +kernel
theorem d_Pz_clue_0 : decode prog_9_method_8_code 0 = .ok (.aload_n 0, 1) := by decide +kernel
theorem d_Pz_clue_1 : decode prog_9_method_8_code 1 = .ok (.getfield 11, 3) := by decide +kernel
theorem d_Pz_clue_4 : decode prog_9_method_8_code 4 = .ok (.iload_n 1, 1) := by decide +kernel
theorem d_Pz_clue_5 : decode prog_9_method_8_code 5 = .ok (.aaload, 1) := by decide +kernel
theorem d_Pz_clue_6 : decode prog_9_method_8_code 6 = .ok (.areturn, 1) := by decide +kernel
theorem d_Wk_thing_0 : decode prog_12_method_7_code 0 = .ok (.aload_n 0, 1) := by decide +kernel
theorem d_Wk_thing_1 : decode prog_12_method_7_code 1 = .ok (.getfield 21, 3) := by decide +kernel
theorem d_Wk_thing_4 : decode prog_12_method_7_code 4 = .ok (.areturn, 1) := by decide +kernel
theorem d_Jo_holds_0 : decode prog_5_method_2_code 0 = .ok (.aload_n 0, 1) := by decide +kernel
theorem d_Jo_holds_1 : decode prog_5_method_2_code 1 = .ok (.getfield 13, 3) := by decide +kernel
theorem d_Jo_holds_4 : decode prog_5_method_2_code 4 = .ok (.aload_n 1, 1) := by decide +kernel
theorem d_Jo_holds_5 : decode prog_5_method_2_code 5 = .ok (.invokeinterface 20 2, 5) := by decide +kernel
theorem d_Jo_holds_10 : decode prog_5_method_2_code 10 = .ok (.istore_n 2, 1) := by decide +kernel
theorem d_Jo_holds_11 : decode prog_5_method_2_code 11 = .ok (.aload_n 0, 1) := by decide +kernel
theorem d_Jo_holds_12 : decode prog_5_method_2_code 12 = .ok (.getfield 17, 3) := by decide +kernel
theorem d_Jo_holds_15 : decode prog_5_method_2_code 15 = .ok (.aload_n 1, 1) := by decide +kernel
theorem d_Jo_holds_16 : decode prog_5_method_2_code 16 = .ok (.invokeinterface 20 2, 5) := by decide +kernel
theorem d_Jo_holds_21 : decode prog_5_method_2_code 21 = .ok (.istore_n 3, 1) := by decide +kernel
theorem d_Jo_holds_22 : decode prog_5_method_2_code 22 = .ok (.aload_n 0, 1) := by decide +kernel
theorem d_Jo_holds_23 : decode prog_5_method_2_code 23 = .ok (.getfield 7, 3) := by decide +kernel
theorem d_Jo_holds_26 : decode prog_5_method_2_code 26 = .ok (.ifCond .eq 9, 3) := by decide +kernel
theorem d_Jo_holds_29 : decode prog_5_method_2_code 29 = .ok (.iload_n 2, 1) := by decide +kernel
theorem d_Jo_holds_30 : decode prog_5_method_2_code 30 = .ok (.iload_n 3, 1) := by decide +kernel
theorem d_Jo_holds_31 : decode prog_5_method_2_code 31 = .ok (.iand, 1) := by decide +kernel
theorem d_Jo_holds_32 : decode prog_5_method_2_code 32 = .ok (.goto 6, 3) := by decide +kernel
theorem d_Jo_holds_35 : decode prog_5_method_2_code 35 = .ok (.iload_n 2, 1) := by decide +kernel
theorem d_Jo_holds_36 : decode prog_5_method_2_code 36 = .ok (.iload_n 3, 1) := by decide +kernel
theorem d_Jo_holds_37 : decode prog_5_method_2_code 37 = .ok (.ior, 1) := by decide +kernel
theorem d_Jo_holds_38 : decode prog_5_method_2_code 38 = .ok (.ireturn, 1) := by decide +kernel
theorem d_Op_holds_0 : decode prog_6_method_2_code 0 = .ok (.aload_n 0, 1) := by decide +kernel
theorem d_Op_holds_1 : decode prog_6_method_2_code 1 = .ok (.getfield 13, 3) := by decide +kernel
theorem d_Op_holds_4 : decode prog_6_method_2_code 4 = .ok (.ireturn, 1) := by decide +kernel
theorem d_Ov_holds_0 : decode prog_7_method_2_code 0 = .ok (.aload_n 0, 1) := by decide +kernel
theorem d_Ov_holds_1 : decode prog_7_method_2_code 1 = .ok (.aload_n 1, 1) := by decide +kernel
theorem d_Ov_holds_2 : decode prog_7_method_2_code 2 = .ok (.aload_n 0, 1) := by decide +kernel
theorem d_Ov_holds_3 : decode prog_7_method_2_code 3 = .ok (.getfield 13, 3) := by decide +kernel
theorem d_Ov_holds_6 : decode prog_7_method_2_code 6 = .ok (.iaload, 1) := by decide +kernel
theorem d_Ov_holds_7 : decode prog_7_method_2_code 7 = .ok (.aload_n 1, 1) := by decide +kernel
theorem d_Ov_holds_8 : decode prog_7_method_2_code 8 = .ok (.aload_n 0, 1) := by decide +kernel
theorem d_Ov_holds_9 : decode prog_7_method_2_code 9 = .ok (.getfield 16, 3) := by decide +kernel
theorem d_Ov_holds_12 : decode prog_7_method_2_code 12 = .ok (.iaload, 1) := by decide +kernel
theorem d_Ov_holds_13 : decode prog_7_method_2_code 13 = .ok (.invokevirtual 19, 3) := by decide +kernel
theorem d_Ov_holds_16 : decode prog_7_method_2_code 16 = .ok (.ifCond .eq 7, 3) := by decide +kernel
theorem d_Ov_holds_19 : decode prog_7_method_2_code 19 = .ok (.iconst (-1), 1) := by decide +kernel
theorem d_Ov_holds_20 : decode prog_7_method_2_code 20 = .ok (.goto 4, 3) := by decide +kernel
theorem d_Ov_holds_23 : decode prog_7_method_2_code 23 = .ok (.iconst 0, 1) := by decide +kernel
theorem d_Ov_holds_24 : decode prog_7_method_2_code 24 = .ok (.ireturn, 1) := by decide +kernel
theorem d_Ov_relates_0 : decode prog_7_method_3_code 0 = .ok (.aload_n 0, 1) := by decide +kernel
theorem d_Ov_relates_1 : decode prog_7_method_3_code 1 = .ok (.getfield 7, 3) := by decide +kernel
theorem d_Ov_relates_4 : decode prog_7_method_3_code 4 = .ok (.lookupswitch 69 #[(33, 47), (60, 58), (61, 36)], 36) := by decide +kernel
theorem d_Ov_relates_40 : decode prog_7_method_3_code 40 = .ok (.iload_n 1, 1) := by decide +kernel
theorem d_Ov_relates_41 : decode prog_7_method_3_code 41 = .ok (.iload_n 2, 1) := by decide +kernel
theorem d_Ov_relates_42 : decode prog_7_method_3_code 42 = .ok (.if_icmp .ne 7, 3) := by decide +kernel
theorem d_Ov_relates_45 : decode prog_7_method_3_code 45 = .ok (.iconst 1, 1) := by decide +kernel
theorem d_Ov_relates_46 : decode prog_7_method_3_code 46 = .ok (.goto 4, 3) := by decide +kernel
theorem d_Ov_relates_49 : decode prog_7_method_3_code 49 = .ok (.iconst 0, 1) := by decide +kernel
theorem d_Ov_relates_50 : decode prog_7_method_3_code 50 = .ok (.ireturn, 1) := by decide +kernel
theorem d_Ov_relates_51 : decode prog_7_method_3_code 51 = .ok (.iload_n 1, 1) := by decide +kernel
theorem d_Ov_relates_52 : decode prog_7_method_3_code 52 = .ok (.iload_n 2, 1) := by decide +kernel
theorem d_Ov_relates_53 : decode prog_7_method_3_code 53 = .ok (.if_icmp .eq 7, 3) := by decide +kernel
theorem d_Ov_relates_56 : decode prog_7_method_3_code 56 = .ok (.iconst 1, 1) := by decide +kernel
theorem d_Ov_relates_57 : decode prog_7_method_3_code 57 = .ok (.goto 4, 3) := by decide +kernel
theorem d_Ov_relates_60 : decode prog_7_method_3_code 60 = .ok (.iconst 0, 1) := by decide +kernel
theorem d_Ov_relates_61 : decode prog_7_method_3_code 61 = .ok (.ireturn, 1) := by decide +kernel
theorem d_Ov_relates_62 : decode prog_7_method_3_code 62 = .ok (.iload_n 1, 1) := by decide +kernel
theorem d_Ov_relates_63 : decode prog_7_method_3_code 63 = .ok (.iload_n 2, 1) := by decide +kernel
theorem d_Ov_relates_64 : decode prog_7_method_3_code 64 = .ok (.if_icmp .ge 7, 3) := by decide +kernel
theorem d_Ov_relates_67 : decode prog_7_method_3_code 67 = .ok (.iconst 1, 1) := by decide +kernel
theorem d_Ov_relates_68 : decode prog_7_method_3_code 68 = .ok (.goto 4, 3) := by decide +kernel
theorem d_Ov_relates_71 : decode prog_7_method_3_code 71 = .ok (.iconst 0, 1) := by decide +kernel
theorem d_Ov_relates_72 : decode prog_7_method_3_code 72 = .ok (.ireturn, 1) := by decide +kernel
theorem d_Ov_relates_73 : decode prog_7_method_3_code 73 = .ok (.iload_n 1, 1) := by decide +kernel
theorem d_Ov_relates_74 : decode prog_7_method_3_code 74 = .ok (.iload_n 2, 1) := by decide +kernel
theorem d_Ov_relates_75 : decode prog_7_method_3_code 75 = .ok (.isub, 1) := by decide +kernel
theorem d_Ov_relates_76 : decode prog_7_method_3_code 76 = .ok (.iconst 1, 1) := by decide +kernel
theorem d_Ov_relates_77 : decode prog_7_method_3_code 77 = .ok (.if_icmp .eq 10, 3) := by decide +kernel
theorem d_Ov_relates_80 : decode prog_7_method_3_code 80 = .ok (.iload_n 2, 1) := by decide +kernel
theorem d_Ov_relates_81 : decode prog_7_method_3_code 81 = .ok (.iload_n 1, 1) := by decide +kernel
theorem d_Ov_relates_82 : decode prog_7_method_3_code 82 = .ok (.isub, 1) := by decide +kernel
theorem d_Ov_relates_83 : decode prog_7_method_3_code 83 = .ok (.iconst 1, 1) := by decide +kernel
theorem d_Ov_relates_84 : decode prog_7_method_3_code 84 = .ok (.if_icmp .ne 7, 3) := by decide +kernel
theorem d_Ov_relates_87 : decode prog_7_method_3_code 87 = .ok (.iconst 1, 1) := by decide +kernel
theorem d_Ov_relates_88 : decode prog_7_method_3_code 88 = .ok (.goto 4, 3) := by decide +kernel
theorem d_Ov_relates_91 : decode prog_7_method_3_code 91 = .ok (.iconst 0, 1) := by decide +kernel
theorem d_Ov_relates_92 : decode prog_7_method_3_code 92 = .ok (.ireturn, 1) := by decide +kernel
theorem d_Tu_holds_0 : decode prog_11_method_2_code 0 = .ok (.aload_n 0, 1) := by decide +kernel
theorem d_Tu_holds_1 : decode prog_11_method_2_code 1 = .ok (.getfield 7, 3) := by decide +kernel
theorem d_Tu_holds_4 : decode prog_11_method_2_code 4 = .ok (.aload_n 0, 1) := by decide +kernel
theorem d_Tu_holds_5 : decode prog_11_method_2_code 5 = .ok (.getfield 13, 3) := by decide +kernel
theorem d_Tu_holds_8 : decode prog_11_method_2_code 8 = .ok (.aload_n 1, 1) := by decide +kernel
theorem d_Tu_holds_9 : decode prog_11_method_2_code 9 = .ok (.invokeinterface 17 2, 5) := by decide +kernel
theorem d_Tu_holds_14 : decode prog_11_method_2_code 14 = .ok (.ixor, 1) := by decide +kernel
theorem d_Tu_holds_15 : decode prog_11_method_2_code 15 = .ok (.ireturn, 1) := by decide +kernel
theorem d_An_add_0 : decode prog_2_method_10_code 0 = .ok (.iload_n 1, 1) := by decide +kernel
theorem d_An_add_1 : decode prog_2_method_10_code 1 = .ok (.invokestatic 118, 3) := by decide +kernel
theorem d_An_add_4 : decode prog_2_method_10_code 4 = .ok (.istore_n 2, 1) := by decide +kernel
theorem d_An_add_5 : decode prog_2_method_10_code 5 = .ok (.aload_n 0, 1) := by decide +kernel
theorem d_An_add_6 : decode prog_2_method_10_code 6 = .ok (.dup, 1) := by decide +kernel
theorem d_An_add_7 : decode prog_2_method_10_code 7 = .ok (.getfield 41, 3) := by decide +kernel
theorem d_An_add_10 : decode prog_2_method_10_code 10 = .ok (.iload_n 2, 1) := by decide +kernel
theorem d_An_add_11 : decode prog_2_method_10_code 11 = .ok (.iadd, 1) := by decide +kernel
theorem d_An_add_12 : decode prog_2_method_10_code 12 = .ok (.putfield 41, 3) := by decide +kernel
theorem d_An_add_15 : decode prog_2_method_10_code 15 = .ok (.iconst 0, 1) := by decide +kernel
theorem d_An_add_16 : decode prog_2_method_10_code 16 = .ok (.istore_n 3, 1) := by decide +kernel
theorem d_An_add_17 : decode prog_2_method_10_code 17 = .ok (.iload_n 3, 1) := by decide +kernel
theorem d_An_add_18 : decode prog_2_method_10_code 18 = .ok (.aload_n 0, 1) := by decide +kernel
theorem d_An_add_19 : decode prog_2_method_10_code 19 = .ok (.getfield 28, 3) := by decide +kernel
theorem d_An_add_22 : decode prog_2_method_10_code 22 = .ok (.invokevirtual 124, 3) := by decide +kernel
theorem d_An_add_25 : decode prog_2_method_10_code 25 = .ok (.if_icmp .ge 31, 3) := by decide +kernel
theorem d_An_add_28 : decode prog_2_method_10_code 28 = .ok (.aload_n 0, 1) := by decide +kernel
theorem d_An_add_29 : decode prog_2_method_10_code 29 = .ok (.getfield 18, 3) := by decide +kernel
theorem d_An_add_32 : decode prog_2_method_10_code 32 = .ok (.bipush 24, 2) := by decide +kernel
theorem d_An_add_34 : decode prog_2_method_10_code 34 = .ok (.iload_n 3, 1) := by decide +kernel
theorem d_An_add_35 : decode prog_2_method_10_code 35 = .ok (.imul, 1) := by decide +kernel
theorem d_An_add_36 : decode prog_2_method_10_code 36 = .ok (.aload_n 0, 1) := by decide +kernel
theorem d_An_add_37 : decode prog_2_method_10_code 37 = .ok (.getfield 37, 3) := by decide +kernel
theorem d_An_add_40 : decode prog_2_method_10_code 40 = .ok (.iload_n 3, 1) := by decide +kernel
theorem d_An_add_41 : decode prog_2_method_10_code 41 = .ok (.invokevirtual 127, 3) := by decide +kernel
theorem d_An_add_44 : decode prog_2_method_10_code 44 = .ok (.iadd, 1) := by decide +kernel
theorem d_An_add_45 : decode prog_2_method_10_code 45 = .ok (.dup2, 1) := by decide +kernel
theorem d_An_add_46 : decode prog_2_method_10_code 46 = .ok (.iaload, 1) := by decide +kernel
theorem d_An_add_47 : decode prog_2_method_10_code 47 = .ok (.iload_n 2, 1) := by decide +kernel
theorem d_An_add_48 : decode prog_2_method_10_code 48 = .ok (.iadd, 1) := by decide +kernel
theorem d_An_add_49 : decode prog_2_method_10_code 49 = .ok (.iastore, 1) := by decide +kernel
theorem d_An_add_50 : decode prog_2_method_10_code 50 = .ok (.iinc 3 1, 3) := by decide +kernel
theorem d_An_add_53 : decode prog_2_method_10_code 53 = .ok (.goto (-36), 3) := by decide +kernel
theorem d_An_add_56 : decode prog_2_method_10_code 56 = .ok (.iconst 0, 1) := by decide +kernel
theorem d_An_add_57 : decode prog_2_method_10_code 57 = .ok (.istore_n 3, 1) := by decide +kernel
theorem d_An_add_58 : decode prog_2_method_10_code 58 = .ok (.iload_n 3, 1) := by decide +kernel
theorem d_An_add_59 : decode prog_2_method_10_code 59 = .ok (.bipush 8, 2) := by decide +kernel
theorem d_An_add_61 : decode prog_2_method_10_code 61 = .ok (.if_icmp .ge 31, 3) := by decide +kernel
theorem d_An_add_64 : decode prog_2_method_10_code 64 = .ok (.aload_n 0, 1) := by decide +kernel
theorem d_An_add_65 : decode prog_2_method_10_code 65 = .ok (.getfield 45, 3) := by decide +kernel
theorem d_An_add_68 : decode prog_2_method_10_code 68 = .ok (.bipush 100, 2) := by decide +kernel
theorem d_An_add_70 : decode prog_2_method_10_code 70 = .ok (.if_icmp .ge 22, 3) := by decide +kernel
theorem d_An_add_73 : decode prog_2_method_10_code 73 = .ok (.iload_n 1, 1) := by decide +kernel
theorem d_An_add_74 : decode prog_2_method_10_code 74 = .ok (.iload_n 3, 1) := by decide +kernel
theorem d_An_add_75 : decode prog_2_method_10_code 75 = .ok (.ishr, 1) := by decide +kernel
theorem d_An_add_76 : decode prog_2_method_10_code 76 = .ok (.iconst 1, 1) := by decide +kernel
theorem d_An_add_77 : decode prog_2_method_10_code 77 = .ok (.iand, 1) := by decide +kernel
theorem d_An_add_78 : decode prog_2_method_10_code 78 = .ok (.ifCond .eq 8, 3) := by decide +kernel
theorem d_An_add_81 : decode prog_2_method_10_code 81 = .ok (.aload_n 0, 1) := by decide +kernel
theorem d_An_add_82 : decode prog_2_method_10_code 82 = .ok (.iload_n 3, 1) := by decide +kernel
theorem d_An_add_83 : decode prog_2_method_10_code 83 = .ok (.invokevirtual 130, 3) := by decide +kernel
theorem d_An_add_86 : decode prog_2_method_10_code 86 = .ok (.iinc 3 1, 3) := by decide +kernel
theorem d_An_add_89 : decode prog_2_method_10_code 89 = .ok (.goto (-31), 3) := by decide +kernel
theorem d_An_add_92 : decode prog_2_method_10_code 92 = .ok (.return_, 1) := by decide +kernel
theorem d_An_keep_0 : decode prog_2_method_11_code 0 = .ok (.iconst 0, 1) := by decide +kernel
theorem d_An_keep_1 : decode prog_2_method_11_code 1 = .ok (.istore_n 2, 1) := by decide +kernel
theorem d_An_keep_2 : decode prog_2_method_11_code 2 = .ok (.iload_n 2, 1) := by decide +kernel
theorem d_An_keep_3 : decode prog_2_method_11_code 3 = .ok (.aload_n 0, 1) := by decide +kernel
theorem d_An_keep_4 : decode prog_2_method_11_code 4 = .ok (.getfield 28, 3) := by decide +kernel
theorem d_An_keep_7 : decode prog_2_method_11_code 7 = .ok (.invokevirtual 124, 3) := by decide +kernel
theorem d_An_keep_10 : decode prog_2_method_11_code 10 = .ok (.if_icmp .ge 30, 3) := by decide +kernel
theorem d_An_keep_13 : decode prog_2_method_11_code 13 = .ok (.aload_n 0, 1) := by decide +kernel
theorem d_An_keep_14 : decode prog_2_method_11_code 14 = .ok (.getfield 9, 3) := by decide +kernel
theorem d_An_keep_17 : decode prog_2_method_11_code 17 = .ok (.iconst 3, 1) := by decide +kernel
theorem d_An_keep_18 : decode prog_2_method_11_code 18 = .ok (.aload_n 0, 1) := by decide +kernel
theorem d_An_keep_19 : decode prog_2_method_11_code 19 = .ok (.getfield 45, 3) := by decide +kernel
theorem d_An_keep_22 : decode prog_2_method_11_code 22 = .ok (.imul, 1) := by decide +kernel
theorem d_An_keep_23 : decode prog_2_method_11_code 23 = .ok (.iload_n 2, 1) := by decide +kernel
theorem d_An_keep_24 : decode prog_2_method_11_code 24 = .ok (.iadd, 1) := by decide +kernel
theorem d_An_keep_25 : decode prog_2_method_11_code 25 = .ok (.aload_n 0, 1) := by decide +kernel
theorem d_An_keep_26 : decode prog_2_method_11_code 26 = .ok (.getfield 37, 3) := by decide +kernel
theorem d_An_keep_29 : decode prog_2_method_11_code 29 = .ok (.iload_n 2, 1) := by decide +kernel
theorem d_An_keep_30 : decode prog_2_method_11_code 30 = .ok (.invokevirtual 127, 3) := by decide +kernel
theorem d_An_keep_33 : decode prog_2_method_11_code 33 = .ok (.iastore, 1) := by decide +kernel
theorem d_An_keep_34 : decode prog_2_method_11_code 34 = .ok (.iinc 2 1, 3) := by decide +kernel
theorem d_An_keep_37 : decode prog_2_method_11_code 37 = .ok (.goto (-35), 3) := by decide +kernel
theorem d_An_keep_40 : decode prog_2_method_11_code 40 = .ok (.aload_n 0, 1) := by decide +kernel
theorem d_An_keep_41 : decode prog_2_method_11_code 41 = .ok (.getfield 15, 3) := by decide +kernel
theorem d_An_keep_44 : decode prog_2_method_11_code 44 = .ok (.aload_n 0, 1) := by decide +kernel
theorem d_An_keep_45 : decode prog_2_method_11_code 45 = .ok (.getfield 45, 3) := by decide +kernel
theorem d_An_keep_48 : decode prog_2_method_11_code 48 = .ok (.iload_n 1, 1) := by decide +kernel
theorem d_An_keep_49 : decode prog_2_method_11_code 49 = .ok (.iastore, 1) := by decide +kernel
theorem d_An_keep_50 : decode prog_2_method_11_code 50 = .ok (.aload_n 0, 1) := by decide +kernel
theorem d_An_keep_51 : decode prog_2_method_11_code 51 = .ok (.dup, 1) := by decide +kernel
theorem d_An_keep_52 : decode prog_2_method_11_code 52 = .ok (.getfield 45, 3) := by decide +kernel
theorem d_An_keep_55 : decode prog_2_method_11_code 55 = .ok (.iconst 1, 1) := by decide +kernel
theorem d_An_keep_56 : decode prog_2_method_11_code 56 = .ok (.iadd, 1) := by decide +kernel
theorem d_An_keep_57 : decode prog_2_method_11_code 57 = .ok (.putfield 45, 3) := by decide +kernel
theorem d_An_keep_60 : decode prog_2_method_11_code 60 = .ok (.return_, 1) := by decide +kernel
theorem d_An_need_0 : decode prog_2_method_12_code 0 = .ok (.iconst 0, 1) := by decide +kernel
theorem d_An_need_1 : decode prog_2_method_12_code 1 = .ok (.istore_n 2, 1) := by decide +kernel
theorem d_An_need_2 : decode prog_2_method_12_code 2 = .ok (.iload_n 2, 1) := by decide +kernel
theorem d_An_need_3 : decode prog_2_method_12_code 3 = .ok (.aload_n 0, 1) := by decide +kernel
theorem d_An_need_4 : decode prog_2_method_12_code 4 = .ok (.getfield 28, 3) := by decide +kernel
theorem d_An_need_7 : decode prog_2_method_12_code 7 = .ok (.invokevirtual 95, 3) := by decide +kernel
theorem d_An_need_10 : decode prog_2_method_12_code 10 = .ok (.if_icmp .ge 29, 3) := by decide +kernel
theorem d_An_need_13 : decode prog_2_method_12_code 13 = .ok (.iload_n 1, 1) := by decide +kernel
theorem d_An_need_14 : decode prog_2_method_12_code 14 = .ok (.aload_n 0, 1) := by decide +kernel
theorem d_An_need_15 : decode prog_2_method_12_code 15 = .ok (.getfield 21, 3) := by decide +kernel
theorem d_An_need_18 : decode prog_2_method_12_code 18 = .ok (.iload_n 2, 1) := by decide +kernel
theorem d_An_need_19 : decode prog_2_method_12_code 19 = .ok (.iaload, 1) := by decide +kernel
theorem d_An_need_20 : decode prog_2_method_12_code 20 = .ok (.iconst (-1), 1) := by decide +kernel
theorem d_An_need_21 : decode prog_2_method_12_code 21 = .ok (.ixor, 1) := by decide +kernel
theorem d_An_need_22 : decode prog_2_method_12_code 22 = .ok (.iand, 1) := by decide +kernel
theorem d_An_need_23 : decode prog_2_method_12_code 23 = .ok (.ifCond .eq 10, 3) := by decide +kernel
theorem d_An_need_26 : decode prog_2_method_12_code 26 = .ok (.aload_n 0, 1) := by decide +kernel
theorem d_An_need_27 : decode prog_2_method_12_code 27 = .ok (.getfield 24, 3) := by decide +kernel
theorem d_An_need_30 : decode prog_2_method_12_code 30 = .ok (.iload_n 2, 1) := by decide +kernel
theorem d_An_need_31 : decode prog_2_method_12_code 31 = .ok (.iconst 1, 1) := by decide +kernel
theorem d_An_need_32 : decode prog_2_method_12_code 32 = .ok (.bastore, 1) := by decide +kernel
theorem d_An_need_33 : decode prog_2_method_12_code 33 = .ok (.iinc 2 1, 3) := by decide +kernel
theorem d_An_need_36 : decode prog_2_method_12_code 36 = .ok (.goto (-34), 3) := by decide +kernel
theorem d_An_need_39 : decode prog_2_method_12_code 39 = .ok (.return_, 1) := by decide +kernel
theorem d_Wk_next_0 : decode prog_12_method_5_code 0 = .ok (.aload_n 0, 1) := by decide +kernel
theorem d_Wk_next_1 : decode prog_12_method_5_code 1 = .ok (.getfield 37, 3) := by decide +kernel
theorem d_Wk_next_4 : decode prog_12_method_5_code 4 = .ok (.iconst 1, 1) := by decide +kernel
theorem d_Wk_next_5 : decode prog_12_method_5_code 5 = .ok (.isub, 1) := by decide +kernel
theorem d_Wk_next_6 : decode prog_12_method_5_code 6 = .ok (.istore_n 1, 1) := by decide +kernel
theorem d_Wk_next_7 : decode prog_12_method_5_code 7 = .ok (.iload_n 1, 1) := by decide +kernel
theorem d_Wk_next_8 : decode prog_12_method_5_code 8 = .ok (.ifCond .lt 46, 3) := by decide +kernel
theorem d_Wk_next_11 : decode prog_12_method_5_code 11 = .ok (.aload_n 0, 1) := by decide +kernel
theorem d_Wk_next_12 : decode prog_12_method_5_code 12 = .ok (.getfield 18, 3) := by decide +kernel
theorem d_Wk_next_15 : decode prog_12_method_5_code 15 = .ok (.iload_n 1, 1) := by decide +kernel
theorem d_Wk_next_16 : decode prog_12_method_5_code 16 = .ok (.iaload, 1) := by decide +kernel
theorem d_Wk_next_17 : decode prog_12_method_5_code 17 = .ok (.iconst 1, 1) := by decide +kernel
theorem d_Wk_next_18 : decode prog_12_method_5_code 18 = .ok (.iadd, 1) := by decide +kernel
theorem d_Wk_next_19 : decode prog_12_method_5_code 19 = .ok (.aload_n 0, 1) := by decide +kernel
theorem d_Wk_next_20 : decode prog_12_method_5_code 20 = .ok (.getfield 15, 3) := by decide +kernel
theorem d_Wk_next_23 : decode prog_12_method_5_code 23 = .ok (.iload_n 1, 1) := by decide +kernel
theorem d_Wk_next_24 : decode prog_12_method_5_code 24 = .ok (.iaload, 1) := by decide +kernel
theorem d_Wk_next_25 : decode prog_12_method_5_code 25 = .ok (.if_icmp .ge 17, 3) := by decide +kernel
theorem d_Wk_next_28 : decode prog_12_method_5_code 28 = .ok (.aload_n 0, 1) := by decide +kernel
theorem d_Wk_next_29 : decode prog_12_method_5_code 29 = .ok (.iload_n 1, 1) := by decide +kernel
theorem d_Wk_next_30 : decode prog_12_method_5_code 30 = .ok (.aload_n 0, 1) := by decide +kernel
theorem d_Wk_next_31 : decode prog_12_method_5_code 31 = .ok (.getfield 18, 3) := by decide +kernel
theorem d_Wk_next_34 : decode prog_12_method_5_code 34 = .ok (.iload_n 1, 1) := by decide +kernel
theorem d_Wk_next_35 : decode prog_12_method_5_code 35 = .ok (.iaload, 1) := by decide +kernel
theorem d_Wk_next_36 : decode prog_12_method_5_code 36 = .ok (.iconst 1, 1) := by decide +kernel
theorem d_Wk_next_37 : decode prog_12_method_5_code 37 = .ok (.iadd, 1) := by decide +kernel
theorem d_Wk_next_38 : decode prog_12_method_5_code 38 = .ok (.invokevirtual 53, 3) := by decide +kernel
theorem d_Wk_next_41 : decode prog_12_method_5_code 41 = .ok (.return_, 1) := by decide +kernel
theorem d_Wk_next_42 : decode prog_12_method_5_code 42 = .ok (.aload_n 0, 1) := by decide +kernel
theorem d_Wk_next_43 : decode prog_12_method_5_code 43 = .ok (.iload_n 1, 1) := by decide +kernel
theorem d_Wk_next_44 : decode prog_12_method_5_code 44 = .ok (.iconst 0, 1) := by decide +kernel
theorem d_Wk_next_45 : decode prog_12_method_5_code 45 = .ok (.invokevirtual 53, 3) := by decide +kernel
theorem d_Wk_next_48 : decode prog_12_method_5_code 48 = .ok (.iinc 1 (-1), 3) := by decide +kernel
theorem d_Wk_next_51 : decode prog_12_method_5_code 51 = .ok (.goto (-44), 3) := by decide +kernel
theorem d_Wk_next_54 : decode prog_12_method_5_code 54 = .ok (.return_, 1) := by decide +kernel
theorem d_An_count_0 : decode prog_2_method_2_code 0 = .ok (.aload_n 0, 1) := by decide +kernel
theorem d_An_count_1 : decode prog_2_method_2_code 1 = .ok (.getfield 41, 3) := by decide +kernel
theorem d_An_count_4 : decode prog_2_method_2_code 4 = .ok (.ireturn, 1) := by decide +kernel
theorem d_C_answer_0 : decode prog_1_method_6_code 0 = .ok (.aload_n 0, 1) := by decide +kernel
theorem d_C_answer_1 : decode prog_1_method_6_code 1 = .ok (.iload_n 1, 1) := by decide +kernel
theorem d_C_answer_2 : decode prog_1_method_6_code 2 = .ok (.invokevirtual 70, 3) := by decide +kernel
theorem d_C_answer_5 : decode prog_1_method_6_code 5 = .ok (.ifCond .eq 25, 3) := by decide +kernel
theorem d_C_answer_8 : decode prog_1_method_6_code 8 = .ok (.aload_n 0, 1) := by decide +kernel
theorem d_C_answer_9 : decode prog_1_method_6_code 9 = .ok (.getfield 42, 3) := by decide +kernel
theorem d_C_answer_12 : decode prog_1_method_6_code 12 = .ok (.iload_n 2, 1) := by decide +kernel
theorem d_C_answer_13 : decode prog_1_method_6_code 13 = .ok (.invokevirtual 74, 3) := by decide +kernel
theorem d_C_answer_16 : decode prog_1_method_6_code 16 = .ok (.ifCond .eq 14, 3) := by decide +kernel
theorem d_C_answer_19 : decode prog_1_method_6_code 19 = .ok (.aload_n 0, 1) := by decide +kernel
theorem d_C_answer_20 : decode prog_1_method_6_code 20 = .ok (.getfield 42, 3) := by decide +kernel
theorem d_C_answer_23 : decode prog_1_method_6_code 23 = .ok (.iload_n 3, 1) := by decide +kernel
theorem d_C_answer_24 : decode prog_1_method_6_code 24 = .ok (.invokevirtual 77, 3) := by decide +kernel
theorem d_C_answer_27 : decode prog_1_method_6_code 27 = .ok (.ifCond .ne 5, 3) := by decide +kernel
theorem d_C_answer_30 : decode prog_1_method_6_code 30 = .ok (.iconst (-1), 1) := by decide +kernel
theorem d_C_answer_31 : decode prog_1_method_6_code 31 = .ok (.ireturn, 1) := by decide +kernel
theorem d_C_answer_32 : decode prog_1_method_6_code 32 = .ok (.aload_n 0, 1) := by decide +kernel
theorem d_C_answer_33 : decode prog_1_method_6_code 33 = .ok (.getfield 58, 3) := by decide +kernel
theorem d_C_answer_36 : decode prog_1_method_6_code 36 = .ok (.iload_n 1, 1) := by decide +kernel
theorem d_C_answer_37 : decode prog_1_method_6_code 37 = .ok (.iload_n 2, 1) := by decide +kernel
theorem d_C_answer_38 : decode prog_1_method_6_code 38 = .ok (.iload_n 3, 1) := by decide +kernel
theorem d_C_answer_39 : decode prog_1_method_6_code 39 = .ok (.invokevirtual 80, 3) := by decide +kernel
theorem d_C_answer_42 : decode prog_1_method_6_code 42 = .ok (.ireturn, 1) := by decide +kernel
theorem d_C_isKept_0 : decode prog_1_method_15_code 0 = .ok (.aload_n 0, 1) := by decide +kernel
theorem d_C_isKept_1 : decode prog_1_method_15_code 1 = .ok (.getfield 54, 3) := by decide +kernel
theorem d_C_isKept_4 : decode prog_1_method_15_code 4 = .ok (.ifCond .eq 22, 3) := by decide +kernel
theorem d_C_isKept_7 : decode prog_1_method_15_code 7 = .ok (.iload_n 1, 1) := by decide +kernel
theorem d_C_isKept_8 : decode prog_1_method_15_code 8 = .ok (.ifCond .lt 18, 3) := by decide +kernel
theorem d_C_isKept_11 : decode prog_1_method_15_code 11 = .ok (.iload_n 1, 1) := by decide +kernel
theorem d_C_isKept_12 : decode prog_1_method_15_code 12 = .ok (.aload_n 0, 1) := by decide +kernel
theorem d_C_isKept_13 : decode prog_1_method_15_code 13 = .ok (.getfield 58, 3) := by decide +kernel
theorem d_C_isKept_16 : decode prog_1_method_15_code 16 = .ok (.invokevirtual 132, 3) := by decide +kernel
theorem d_C_isKept_19 : decode prog_1_method_15_code 19 = .ok (.if_icmp .ge 7, 3) := by decide +kernel
theorem d_C_isKept_22 : decode prog_1_method_15_code 22 = .ok (.iconst 1, 1) := by decide +kernel
theorem d_C_isKept_23 : decode prog_1_method_15_code 23 = .ok (.goto 4, 3) := by decide +kernel
theorem d_C_isKept_26 : decode prog_1_method_15_code 26 = .ok (.iconst 0, 1) := by decide +kernel
theorem d_C_isKept_27 : decode prog_1_method_15_code 27 = .ok (.ireturn, 1) := by decide +kernel
theorem d_An_kept_0 : decode prog_2_method_3_code 0 = .ok (.aload_n 0, 1) := by decide +kernel
theorem d_An_kept_1 : decode prog_2_method_3_code 1 = .ok (.getfield 45, 3) := by decide +kernel
theorem d_An_kept_4 : decode prog_2_method_3_code 4 = .ok (.ireturn, 1) := by decide +kernel
theorem d_Pz_hasThing_0 : decode prog_9_method_9_code 0 = .ok (.iload_n 1, 1) := by decide +kernel
theorem d_Pz_hasThing_1 : decode prog_9_method_9_code 1 = .ok (.ifCond .lt 15, 3) := by decide +kernel
theorem d_Pz_hasThing_4 : decode prog_9_method_9_code 4 = .ok (.iload_n 1, 1) := by decide +kernel
theorem d_Pz_hasThing_5 : decode prog_9_method_9_code 5 = .ok (.aload_n 0, 1) := by decide +kernel
theorem d_Pz_hasThing_6 : decode prog_9_method_9_code 6 = .ok (.getfield 17, 3) := by decide +kernel
theorem d_Pz_hasThing_9 : decode prog_9_method_9_code 9 = .ok (.if_icmp .ge 7, 3) := by decide +kernel
theorem d_Pz_hasThing_12 : decode prog_9_method_9_code 12 = .ok (.iconst 1, 1) := by decide +kernel
theorem d_Pz_hasThing_13 : decode prog_9_method_9_code 13 = .ok (.goto 4, 3) := by decide +kernel
theorem d_Pz_hasThing_16 : decode prog_9_method_9_code 16 = .ok (.iconst 0, 1) := by decide +kernel
theorem d_Pz_hasThing_17 : decode prog_9_method_9_code 17 = .ok (.ireturn, 1) := by decide +kernel
theorem d_Pz_hasKind_0 : decode prog_9_method_10_code 0 = .ok (.iload_n 1, 1) := by decide +kernel
theorem d_Pz_hasKind_1 : decode prog_9_method_10_code 1 = .ok (.ifCond .lt 15, 3) := by decide +kernel
theorem d_Pz_hasKind_4 : decode prog_9_method_10_code 4 = .ok (.iload_n 1, 1) := by decide +kernel
theorem d_Pz_hasKind_5 : decode prog_9_method_10_code 5 = .ok (.aload_n 0, 1) := by decide +kernel
theorem d_Pz_hasKind_6 : decode prog_9_method_10_code 6 = .ok (.getfield 21, 3) := by decide +kernel
theorem d_Pz_hasKind_9 : decode prog_9_method_10_code 9 = .ok (.if_icmp .ge 7, 3) := by decide +kernel
theorem d_Pz_hasKind_12 : decode prog_9_method_10_code 12 = .ok (.iconst 1, 1) := by decide +kernel
theorem d_Pz_hasKind_13 : decode prog_9_method_10_code 13 = .ok (.goto 4, 3) := by decide +kernel
theorem d_Pz_hasKind_16 : decode prog_9_method_10_code 16 = .ok (.iconst 0, 1) := by decide +kernel
theorem d_Pz_hasKind_17 : decode prog_9_method_10_code 17 = .ok (.ireturn, 1) := by decide +kernel
theorem d_An_value_0 : decode prog_2_method_4_code 0 = .ok (.aload_n 0, 1) := by decide +kernel
theorem d_An_value_1 : decode prog_2_method_4_code 1 = .ok (.getfield 28, 3) := by decide +kernel
theorem d_An_value_4 : decode prog_2_method_4_code 4 = .ok (.invokevirtual 48, 3) := by decide +kernel
theorem d_An_value_7 : decode prog_2_method_4_code 7 = .ok (.aload_n 0, 1) := by decide +kernel
theorem d_An_value_8 : decode prog_2_method_4_code 8 = .ok (.getfield 9, 3) := by decide +kernel
theorem d_An_value_11 : decode prog_2_method_4_code 11 = .ok (.iconst 3, 1) := by decide +kernel
theorem d_An_value_12 : decode prog_2_method_4_code 12 = .ok (.iload_n 1, 1) := by decide +kernel
theorem d_An_value_13 : decode prog_2_method_4_code 13 = .ok (.imul, 1) := by decide +kernel
theorem d_An_value_14 : decode prog_2_method_4_code 14 = .ok (.iload_n 3, 1) := by decide +kernel
theorem d_An_value_15 : decode prog_2_method_4_code 15 = .ok (.iadd, 1) := by decide +kernel
theorem d_An_value_16 : decode prog_2_method_4_code 16 = .ok (.iaload, 1) := by decide +kernel
theorem d_An_value_17 : decode prog_2_method_4_code 17 = .ok (.iload_n 2, 1) := by decide +kernel
theorem d_An_value_18 : decode prog_2_method_4_code 18 = .ok (.invokevirtual 54, 3) := by decide +kernel
theorem d_An_value_21 : decode prog_2_method_4_code 21 = .ok (.ireturn, 1) := by decide +kernel
theorem d_C_truth_0 : decode prog_1_method_7_code 0 = .ok (.aload_n 0, 1) := by decide +kernel
theorem d_C_truth_1 : decode prog_1_method_7_code 1 = .ok (.iload_n 1, 1) := by decide +kernel
theorem d_C_truth_2 : decode prog_1_method_7_code 2 = .ok (.invokevirtual 70, 3) := by decide +kernel
theorem d_C_truth_5 : decode prog_1_method_7_code 5 = .ok (.ifCond .eq 14, 3) := by decide +kernel
theorem d_C_truth_8 : decode prog_1_method_7_code 8 = .ok (.aload_n 0, 1) := by decide +kernel
theorem d_C_truth_9 : decode prog_1_method_7_code 9 = .ok (.getfield 42, 3) := by decide +kernel
theorem d_C_truth_12 : decode prog_1_method_7_code 12 = .ok (.iload_n 2, 1) := by decide +kernel
theorem d_C_truth_13 : decode prog_1_method_7_code 13 = .ok (.invokevirtual 84, 3) := by decide +kernel
theorem d_C_truth_16 : decode prog_1_method_7_code 16 = .ok (.ifCond .ne 5, 3) := by decide +kernel
theorem d_C_truth_19 : decode prog_1_method_7_code 19 = .ok (.iconst (-1), 1) := by decide +kernel
theorem d_C_truth_20 : decode prog_1_method_7_code 20 = .ok (.ireturn, 1) := by decide +kernel
theorem d_C_truth_21 : decode prog_1_method_7_code 21 = .ok (.aload_n 0, 1) := by decide +kernel
theorem d_C_truth_22 : decode prog_1_method_7_code 22 = .ok (.getfield 58, 3) := by decide +kernel
theorem d_C_truth_25 : decode prog_1_method_7_code 25 = .ok (.iload_n 1, 1) := by decide +kernel
theorem d_C_truth_26 : decode prog_1_method_7_code 26 = .ok (.iload_n 2, 1) := by decide +kernel
theorem d_C_truth_27 : decode prog_1_method_7_code 27 = .ok (.invokevirtual 87, 3) := by decide +kernel
theorem d_C_truth_30 : decode prog_1_method_7_code 30 = .ok (.ifCond .eq 7, 3) := by decide +kernel
theorem d_C_truth_33 : decode prog_1_method_7_code 33 = .ok (.iconst 1, 1) := by decide +kernel
theorem d_C_truth_34 : decode prog_1_method_7_code 34 = .ok (.goto 4, 3) := by decide +kernel
theorem d_C_truth_37 : decode prog_1_method_7_code 37 = .ok (.iconst 0, 1) := by decide +kernel
theorem d_C_truth_38 : decode prog_1_method_7_code 38 = .ok (.ireturn, 1) := by decide +kernel
theorem d_Pz_hasPerson_0 : decode prog_9_method_12_code 0 = .ok (.iload_n 1, 1) := by decide +kernel
theorem d_Pz_hasPerson_1 : decode prog_9_method_12_code 1 = .ok (.ifCond .lt 15, 3) := by decide +kernel
theorem d_Pz_hasPerson_4 : decode prog_9_method_12_code 4 = .ok (.iload_n 1, 1) := by decide +kernel
theorem d_Pz_hasPerson_5 : decode prog_9_method_12_code 5 = .ok (.aload_n 0, 1) := by decide +kernel
theorem d_Pz_hasPerson_6 : decode prog_9_method_12_code 6 = .ok (.getfield 24, 3) := by decide +kernel
theorem d_Pz_hasPerson_9 : decode prog_9_method_12_code 9 = .ok (.if_icmp .ge 7, 3) := by decide +kernel
theorem d_Pz_hasPerson_12 : decode prog_9_method_12_code 12 = .ok (.iconst 1, 1) := by decide +kernel
theorem d_Pz_hasPerson_13 : decode prog_9_method_12_code 13 = .ok (.goto 4, 3) := by decide +kernel
theorem d_Pz_hasPerson_16 : decode prog_9_method_12_code 16 = .ok (.iconst 0, 1) := by decide +kernel
theorem d_Pz_hasPerson_17 : decode prog_9_method_12_code 17 = .ok (.ireturn, 1) := by decide +kernel
theorem d_An_isTruthful_0 : decode prog_2_method_5_code 0 = .ok (.getstatic 60, 3) := by decide +kernel
theorem d_An_isTruthful_3 : decode prog_2_method_5_code 3 = .ok (.iload_n 2, 1) := by decide +kernel
theorem d_An_isTruthful_4 : decode prog_2_method_5_code 4 = .ok (.iaload, 1) := by decide +kernel
theorem d_An_isTruthful_5 : decode prog_2_method_5_code 5 = .ok (.aload_n 0, 1) := by decide +kernel
theorem d_An_isTruthful_6 : decode prog_2_method_5_code 6 = .ok (.getfield 15, 3) := by decide +kernel
theorem d_An_isTruthful_9 : decode prog_2_method_5_code 9 = .ok (.iload_n 1, 1) := by decide +kernel
theorem d_An_isTruthful_10 : decode prog_2_method_5_code 10 = .ok (.iaload, 1) := by decide +kernel
theorem d_An_isTruthful_11 : decode prog_2_method_5_code 11 = .ok (.ishr, 1) := by decide +kernel
theorem d_An_isTruthful_12 : decode prog_2_method_5_code 12 = .ok (.iconst 1, 1) := by decide +kernel
theorem d_An_isTruthful_13 : decode prog_2_method_5_code 13 = .ok (.iand, 1) := by decide +kernel
theorem d_An_isTruthful_14 : decode prog_2_method_5_code 14 = .ok (.ifCond .eq 7, 3) := by decide +kernel
theorem d_An_isTruthful_17 : decode prog_2_method_5_code 17 = .ok (.iconst 1, 1) := by decide +kernel
theorem d_An_isTruthful_18 : decode prog_2_method_5_code 18 = .ok (.goto 4, 3) := by decide +kernel
theorem d_An_isTruthful_21 : decode prog_2_method_5_code 21 = .ok (.iconst 0, 1) := by decide +kernel
theorem d_An_isTruthful_22 : decode prog_2_method_5_code 22 = .ok (.ireturn, 1) := by decide +kernel
theorem d_C_often_0 : decode prog_1_method_8_code 0 = .ok (.aload_n 0, 1) := by decide +kernel
theorem d_C_often_1 : decode prog_1_method_8_code 1 = .ok (.getfield 42, 3) := by decide +kernel
theorem d_C_often_4 : decode prog_1_method_8_code 4 = .ok (.iload_n 1, 1) := by decide +kernel
theorem d_C_often_5 : decode prog_1_method_8_code 5 = .ok (.invokevirtual 74, 3) := by decide +kernel
theorem d_C_often_8 : decode prog_1_method_8_code 8 = .ok (.ifCond .eq 25, 3) := by decide +kernel
theorem d_C_often_11 : decode prog_1_method_8_code 11 = .ok (.aload_n 0, 1) := by decide +kernel
theorem d_C_often_12 : decode prog_1_method_8_code 12 = .ok (.getfield 42, 3) := by decide +kernel
theorem d_C_often_15 : decode prog_1_method_8_code 15 = .ok (.iload_n 2, 1) := by decide +kernel
theorem d_C_often_16 : decode prog_1_method_8_code 16 = .ok (.invokevirtual 77, 3) := by decide +kernel
theorem d_C_often_19 : decode prog_1_method_8_code 19 = .ok (.ifCond .eq 14, 3) := by decide +kernel
theorem d_C_often_22 : decode prog_1_method_8_code 22 = .ok (.aload_n 0, 1) := by decide +kernel
theorem d_C_often_23 : decode prog_1_method_8_code 23 = .ok (.getfield 42, 3) := by decide +kernel
theorem d_C_often_26 : decode prog_1_method_8_code 26 = .ok (.iload_n 3, 1) := by decide +kernel
theorem d_C_often_27 : decode prog_1_method_8_code 27 = .ok (.invokevirtual 91, 3) := by decide +kernel
theorem d_C_often_30 : decode prog_1_method_8_code 30 = .ok (.ifCond .ne 5, 3) := by decide +kernel
theorem d_C_often_33 : decode prog_1_method_8_code 33 = .ok (.iconst (-1), 1) := by decide +kernel
theorem d_C_often_34 : decode prog_1_method_8_code 34 = .ok (.ireturn, 1) := by decide +kernel
theorem d_C_often_35 : decode prog_1_method_8_code 35 = .ok (.aload_n 0, 1) := by decide +kernel
theorem d_C_often_36 : decode prog_1_method_8_code 36 = .ok (.getfield 58, 3) := by decide +kernel
theorem d_C_often_39 : decode prog_1_method_8_code 39 = .ok (.invokevirtual 62, 3) := by decide +kernel
theorem d_C_often_42 : decode prog_1_method_8_code 42 = .ok (.aload_n 0, 1) := by decide +kernel
theorem d_C_often_43 : decode prog_1_method_8_code 43 = .ok (.getfield 58, 3) := by decide +kernel
theorem d_C_often_46 : decode prog_1_method_8_code 46 = .ok (.iload_n 1, 1) := by decide +kernel
theorem d_C_often_47 : decode prog_1_method_8_code 47 = .ok (.iload_n 2, 1) := by decide +kernel
theorem d_C_often_48 : decode prog_1_method_8_code 48 = .ok (.iload_n 3, 1) := by decide +kernel
theorem d_C_often_49 : decode prog_1_method_8_code 49 = .ok (.invokevirtual 94, 3) := by decide +kernel
theorem d_C_often_52 : decode prog_1_method_8_code 52 = .ok (.ireturn, 1) := by decide +kernel
theorem d_Pz_hasValue_0 : decode prog_9_method_11_code 0 = .ok (.iload_n 1, 1) := by decide +kernel
theorem d_Pz_hasValue_1 : decode prog_9_method_11_code 1 = .ok (.ifCond .lt 15, 3) := by decide +kernel
theorem d_Pz_hasValue_4 : decode prog_9_method_11_code 4 = .ok (.iload_n 1, 1) := by decide +kernel
theorem d_Pz_hasValue_5 : decode prog_9_method_11_code 5 = .ok (.aload_n 0, 1) := by decide +kernel
theorem d_Pz_hasValue_6 : decode prog_9_method_11_code 6 = .ok (.getfield 17, 3) := by decide +kernel
theorem d_Pz_hasValue_9 : decode prog_9_method_11_code 9 = .ok (.if_icmp .ge 7, 3) := by decide +kernel
theorem d_Pz_hasValue_12 : decode prog_9_method_11_code 12 = .ok (.iconst 1, 1) := by decide +kernel
theorem d_Pz_hasValue_13 : decode prog_9_method_11_code 13 = .ok (.goto 4, 3) := by decide +kernel
theorem d_Pz_hasValue_16 : decode prog_9_method_11_code 16 = .ok (.iconst 0, 1) := by decide +kernel
theorem d_Pz_hasValue_17 : decode prog_9_method_11_code 17 = .ok (.ireturn, 1) := by decide +kernel
theorem d_An_countWith_0 : decode prog_2_method_6_code 0 = .ok (.iconst 0, 1) := by decide +kernel
theorem d_An_countWith_1 : decode prog_2_method_6_code 1 = .ok (.istore 4, 2) := by decide +kernel
theorem d_An_countWith_3 : decode prog_2_method_6_code 3 = .ok (.iconst 0, 1) := by decide +kernel
theorem d_An_countWith_4 : decode prog_2_method_6_code 4 = .ok (.istore 5, 2) := by decide +kernel
theorem d_An_countWith_6 : decode prog_2_method_6_code 6 = .ok (.iload 5, 2) := by decide +kernel
theorem d_An_countWith_8 : decode prog_2_method_6_code 8 = .ok (.aload_n 0, 1) := by decide +kernel
theorem d_An_countWith_9 : decode prog_2_method_6_code 9 = .ok (.getfield 28, 3) := by decide +kernel
theorem d_An_countWith_12 : decode prog_2_method_6_code 12 = .ok (.invokevirtual 48, 3) := by decide +kernel
theorem d_An_countWith_15 : decode prog_2_method_6_code 15 = .ok (.invokevirtual 63, 3) := by decide +kernel
theorem d_An_countWith_18 : decode prog_2_method_6_code 18 = .ok (.if_icmp .ge 43, 3) := by decide +kernel
theorem d_An_countWith_21 : decode prog_2_method_6_code 21 = .ok (.aload_n 0, 1) := by decide +kernel
theorem d_An_countWith_22 : decode prog_2_method_6_code 22 = .ok (.getfield 28, 3) := by decide +kernel
theorem d_An_countWith_25 : decode prog_2_method_6_code 25 = .ok (.invokevirtual 48, 3) := by decide +kernel
theorem d_An_countWith_28 : decode prog_2_method_6_code 28 = .ok (.iload 5, 2) := by decide +kernel
theorem d_An_countWith_30 : decode prog_2_method_6_code 30 = .ok (.iload_n 1, 1) := by decide +kernel
theorem d_An_countWith_31 : decode prog_2_method_6_code 31 = .ok (.invokevirtual 54, 3) := by decide +kernel
theorem d_An_countWith_34 : decode prog_2_method_6_code 34 = .ok (.iload_n 3, 1) := by decide +kernel
theorem d_An_countWith_35 : decode prog_2_method_6_code 35 = .ok (.if_icmp .ne 20, 3) := by decide +kernel
theorem d_An_countWith_38 : decode prog_2_method_6_code 38 = .ok (.iload 4, 2) := by decide +kernel
theorem d_An_countWith_40 : decode prog_2_method_6_code 40 = .ok (.aload_n 0, 1) := by decide +kernel
theorem d_An_countWith_41 : decode prog_2_method_6_code 41 = .ok (.getfield 18, 3) := by decide +kernel
theorem d_An_countWith_44 : decode prog_2_method_6_code 44 = .ok (.bipush 24, 2) := by decide +kernel
theorem d_An_countWith_46 : decode prog_2_method_6_code 46 = .ok (.iload_n 2, 1) := by decide +kernel
theorem d_An_countWith_47 : decode prog_2_method_6_code 47 = .ok (.imul, 1) := by decide +kernel
theorem d_An_countWith_48 : decode prog_2_method_6_code 48 = .ok (.iload 5, 2) := by decide +kernel
theorem d_An_countWith_50 : decode prog_2_method_6_code 50 = .ok (.iadd, 1) := by decide +kernel
theorem d_An_countWith_51 : decode prog_2_method_6_code 51 = .ok (.iaload, 1) := by decide +kernel
theorem d_An_countWith_52 : decode prog_2_method_6_code 52 = .ok (.iadd, 1) := by decide +kernel
theorem d_An_countWith_53 : decode prog_2_method_6_code 53 = .ok (.istore 4, 2) := by decide +kernel
theorem d_An_countWith_55 : decode prog_2_method_6_code 55 = .ok (.iinc 5 1, 3) := by decide +kernel
theorem d_An_countWith_58 : decode prog_2_method_6_code 58 = .ok (.goto (-52), 3) := by decide +kernel
theorem d_An_countWith_61 : decode prog_2_method_6_code 61 = .ok (.iload 4, 2) := by decide +kernel
theorem d_An_countWith_63 : decode prog_2_method_6_code 63 = .ok (.ireturn, 1) := by decide +kernel
theorem d_C_spare_0 : decode prog_1_method_9_code 0 = .ok (.aload_n 0, 1) := by decide +kernel
theorem d_C_spare_1 : decode prog_1_method_9_code 1 = .ok (.getfield 42, 3) := by decide +kernel
theorem d_C_spare_4 : decode prog_1_method_9_code 4 = .ok (.iload_n 1, 1) := by decide +kernel
theorem d_C_spare_5 : decode prog_1_method_9_code 5 = .ok (.invokevirtual 97, 3) := by decide +kernel
theorem d_C_spare_8 : decode prog_1_method_9_code 8 = .ok (.ifCond .ne 5, 3) := by decide +kernel
theorem d_C_spare_11 : decode prog_1_method_9_code 11 = .ok (.iconst 0, 1) := by decide +kernel
theorem d_C_spare_12 : decode prog_1_method_9_code 12 = .ok (.ireturn, 1) := by decide +kernel
theorem d_C_spare_13 : decode prog_1_method_9_code 13 = .ok (.aload_n 0, 1) := by decide +kernel
theorem d_C_spare_14 : decode prog_1_method_9_code 14 = .ok (.getfield 58, 3) := by decide +kernel
theorem d_C_spare_17 : decode prog_1_method_9_code 17 = .ok (.invokevirtual 62, 3) := by decide +kernel
theorem d_C_spare_20 : decode prog_1_method_9_code 20 = .ok (.aload_n 0, 1) := by decide +kernel
theorem d_C_spare_21 : decode prog_1_method_9_code 21 = .ok (.getfield 58, 3) := by decide +kernel
theorem d_C_spare_24 : decode prog_1_method_9_code 24 = .ok (.iload_n 1, 1) := by decide +kernel
theorem d_C_spare_25 : decode prog_1_method_9_code 25 = .ok (.invokevirtual 100, 3) := by decide +kernel
theorem d_C_spare_28 : decode prog_1_method_9_code 28 = .ok (.ifCond .ne 7, 3) := by decide +kernel
theorem d_C_spare_31 : decode prog_1_method_9_code 31 = .ok (.iconst 1, 1) := by decide +kernel
theorem d_C_spare_32 : decode prog_1_method_9_code 32 = .ok (.goto 4, 3) := by decide +kernel
theorem d_C_spare_35 : decode prog_1_method_9_code 35 = .ok (.iconst 0, 1) := by decide +kernel
theorem d_C_spare_36 : decode prog_1_method_9_code 36 = .ok (.ireturn, 1) := by decide +kernel
theorem d_Pz_hasClue_0 : decode prog_9_method_13_code 0 = .ok (.iload_n 1, 1) := by decide +kernel
theorem d_Pz_hasClue_1 : decode prog_9_method_13_code 1 = .ok (.ifCond .lt 15, 3) := by decide +kernel
theorem d_Pz_hasClue_4 : decode prog_9_method_13_code 4 = .ok (.iload_n 1, 1) := by decide +kernel
theorem d_Pz_hasClue_5 : decode prog_9_method_13_code 5 = .ok (.aload_n 0, 1) := by decide +kernel
theorem d_Pz_hasClue_6 : decode prog_9_method_13_code 6 = .ok (.getfield 36, 3) := by decide +kernel
theorem d_Pz_hasClue_9 : decode prog_9_method_13_code 9 = .ok (.if_icmp .ge 7, 3) := by decide +kernel
theorem d_Pz_hasClue_12 : decode prog_9_method_13_code 12 = .ok (.iconst 1, 1) := by decide +kernel
theorem d_Pz_hasClue_13 : decode prog_9_method_13_code 13 = .ok (.goto 4, 3) := by decide +kernel
theorem d_Pz_hasClue_16 : decode prog_9_method_13_code 16 = .ok (.iconst 0, 1) := by decide +kernel
theorem d_Pz_hasClue_17 : decode prog_9_method_13_code 17 = .ok (.ireturn, 1) := by decide +kernel
theorem d_An_isNeeded_0 : decode prog_2_method_7_code 0 = .ok (.aload_n 0, 1) := by decide +kernel
theorem d_An_isNeeded_1 : decode prog_2_method_7_code 1 = .ok (.getfield 24, 3) := by decide +kernel
theorem d_An_isNeeded_4 : decode prog_2_method_7_code 4 = .ok (.iload_n 1, 1) := by decide +kernel
theorem d_An_isNeeded_5 : decode prog_2_method_7_code 5 = .ok (.baload, 1) := by decide +kernel
theorem d_An_isNeeded_6 : decode prog_2_method_7_code 6 = .ok (.ireturn, 1) := by decide +kernel
theorem d_C_cross_0 : decode prog_1_method_10_code 0 = .ok (.aload_n 0, 1) := by decide +kernel
theorem d_C_cross_1 : decode prog_1_method_10_code 1 = .ok (.getfield 103, 3) := by decide +kernel
theorem d_C_cross_4 : decode prog_1_method_10_code 4 = .ok (.invokevirtual 107, 3) := by decide +kernel
theorem d_C_cross_7 : decode prog_1_method_10_code 7 = .ok (.aload_n 0, 1) := by decide +kernel
theorem d_C_cross_8 : decode prog_1_method_10_code 8 = .ok (.getfield 103, 3) := by decide +kernel
theorem d_C_cross_11 : decode prog_1_method_10_code 11 = .ok (.invokevirtual 112, 3) := by decide +kernel
theorem d_C_cross_14 : decode prog_1_method_10_code 14 = .ok (.ireturn, 1) := by decide +kernel
theorem d_Cr_finish_0 : decode prog_4_method_7_code 0 = .ok (.aload_n 0, 1) := by decide +kernel
theorem d_Cr_finish_1 : decode prog_4_method_7_code 1 = .ok (.getfield 66, 3) := by decide +kernel
theorem d_Cr_finish_4 : decode prog_4_method_7_code 4 = .ok (.ifCond .eq 4, 3) := by decide +kernel
theorem d_Cr_finish_7 : decode prog_4_method_7_code 7 = .ok (.return_, 1) := by decide +kernel
theorem d_Cr_finish_8 : decode prog_4_method_7_code 8 = .ok (.aload_n 0, 1) := by decide +kernel
theorem d_Cr_finish_9 : decode prog_4_method_7_code 9 = .ok (.iconst 1, 1) := by decide +kernel
theorem d_Cr_finish_10 : decode prog_4_method_7_code 10 = .ok (.putfield 66, 3) := by decide +kernel
theorem d_Cr_finish_13 : decode prog_4_method_7_code 13 = .ok (.iconst 1, 1) := by decide +kernel
theorem d_Cr_finish_14 : decode prog_4_method_7_code 14 = .ok (.istore_n 1, 1) := by decide +kernel
theorem d_Cr_finish_15 : decode prog_4_method_7_code 15 = .ok (.iconst 0, 1) := by decide +kernel
theorem d_Cr_finish_16 : decode prog_4_method_7_code 16 = .ok (.istore_n 2, 1) := by decide +kernel
theorem d_Cr_finish_17 : decode prog_4_method_7_code 17 = .ok (.iload_n 2, 1) := by decide +kernel
theorem d_Cr_finish_18 : decode prog_4_method_7_code 18 = .ok (.bipush 54, 2) := by decide +kernel
theorem d_Cr_finish_20 : decode prog_4_method_7_code 20 = .ok (.if_icmp .ge 18, 3) := by decide +kernel
theorem d_Cr_finish_23 : decode prog_4_method_7_code 23 = .ok (.iload_n 1, 1) := by decide +kernel
theorem d_Cr_finish_24 : decode prog_4_method_7_code 24 = .ok (.ifCond .eq 14, 3) := by decide +kernel
theorem d_Cr_finish_27 : decode prog_4_method_7_code 27 = .ok (.aload_n 0, 1) := by decide +kernel
theorem d_Cr_finish_28 : decode prog_4_method_7_code 28 = .ok (.invokevirtual 70, 3) := by decide +kernel
theorem d_Cr_finish_31 : decode prog_4_method_7_code 31 = .ok (.istore_n 1, 1) := by decide +kernel
theorem d_Cr_finish_32 : decode prog_4_method_7_code 32 = .ok (.iinc 2 1, 3) := by decide +kernel
theorem d_Cr_finish_35 : decode prog_4_method_7_code 35 = .ok (.goto (-18), 3) := by decide +kernel
theorem d_Cr_finish_38 : decode prog_4_method_7_code 38 = .ok (.return_, 1) := by decide +kernel
theorem d_Cr_takeStep_0 : decode prog_4_method_8_code 0 = .ok (.aload_n 0, 1) := by decide +kernel
theorem d_Cr_takeStep_1 : decode prog_4_method_8_code 1 = .ok (.getfield 33, 3) := by decide +kernel
theorem d_Cr_takeStep_4 : decode prog_4_method_8_code 4 = .ok (.aload_n 0, 1) := by decide +kernel
theorem d_Cr_takeStep_5 : decode prog_4_method_8_code 5 = .ok (.getfield 9, 3) := by decide +kernel
theorem d_Cr_takeStep_8 : decode prog_4_method_8_code 8 = .ok (.invokevirtual 74, 3) := by decide +kernel
theorem d_Cr_takeStep_11 : decode prog_4_method_8_code 11 = .ok (.istore_n 1, 1) := by decide +kernel
theorem d_Cr_takeStep_12 : decode prog_4_method_8_code 12 = .ok (.iconst 0, 1) := by decide +kernel
theorem d_Cr_takeStep_13 : decode prog_4_method_8_code 13 = .ok (.istore_n 2, 1) := by decide +kernel
theorem d_Cr_takeStep_14 : decode prog_4_method_8_code 14 = .ok (.iload_n 2, 1) := by decide +kernel
theorem d_Cr_takeStep_15 : decode prog_4_method_8_code 15 = .ok (.aload_n 0, 1) := by decide +kernel
theorem d_Cr_takeStep_16 : decode prog_4_method_8_code 16 = .ok (.getfield 24, 3) := by decide +kernel
theorem d_Cr_takeStep_19 : decode prog_4_method_8_code 19 = .ok (.invokevirtual 78, 3) := by decide +kernel
theorem d_Cr_takeStep_22 : decode prog_4_method_8_code 22 = .ok (.if_icmp .ge 39, 3) := by decide +kernel
theorem d_Cr_takeStep_25 : decode prog_4_method_8_code 25 = .ok (.aload_n 0, 1) := by decide +kernel
theorem d_Cr_takeStep_26 : decode prog_4_method_8_code 26 = .ok (.aload_n 0, 1) := by decide +kernel
theorem d_Cr_takeStep_27 : decode prog_4_method_8_code 27 = .ok (.getfield 24, 3) := by decide +kernel
theorem d_Cr_takeStep_30 : decode prog_4_method_8_code 30 = .ok (.iload_n 2, 1) := by decide +kernel
theorem d_Cr_takeStep_31 : decode prog_4_method_8_code 31 = .ok (.invokevirtual 81, 3) := by decide +kernel
theorem d_Cr_takeStep_34 : decode prog_4_method_8_code 34 = .ok (.iload_n 1, 1) := by decide +kernel
theorem d_Cr_takeStep_35 : decode prog_4_method_8_code 35 = .ok (.invokevirtual 85, 3) := by decide +kernel
theorem d_Cr_takeStep_38 : decode prog_4_method_8_code 38 = .ok (.aload_n 0, 1) := by decide +kernel
theorem d_Cr_takeStep_39 : decode prog_4_method_8_code 39 = .ok (.invokevirtual 89, 3) := by decide +kernel
theorem d_Cr_takeStep_42 : decode prog_4_method_8_code 42 = .ok (.istore_n 3, 1) := by decide +kernel
theorem d_Cr_takeStep_43 : decode prog_4_method_8_code 43 = .ok (.iload_n 3, 1) := by decide +kernel
theorem d_Cr_takeStep_44 : decode prog_4_method_8_code 44 = .ok (.ifCond .le 11, 3) := by decide +kernel
theorem d_Cr_takeStep_47 : decode prog_4_method_8_code 47 = .ok (.aload_n 0, 1) := by decide +kernel
theorem d_Cr_takeStep_48 : decode prog_4_method_8_code 48 = .ok (.iload_n 2, 1) := by decide +kernel
theorem d_Cr_takeStep_49 : decode prog_4_method_8_code 49 = .ok (.iload_n 3, 1) := by decide +kernel
theorem d_Cr_takeStep_50 : decode prog_4_method_8_code 50 = .ok (.invokevirtual 92, 3) := by decide +kernel
theorem d_Cr_takeStep_53 : decode prog_4_method_8_code 53 = .ok (.iconst 1, 1) := by decide +kernel
theorem d_Cr_takeStep_54 : decode prog_4_method_8_code 54 = .ok (.ireturn, 1) := by decide +kernel
theorem d_Cr_takeStep_55 : decode prog_4_method_8_code 55 = .ok (.iinc 2 1, 3) := by decide +kernel
theorem d_Cr_takeStep_58 : decode prog_4_method_8_code 58 = .ok (.goto (-44), 3) := by decide +kernel
theorem d_Cr_takeStep_61 : decode prog_4_method_8_code 61 = .ok (.iconst 0, 1) := by decide +kernel
theorem d_Cr_takeStep_62 : decode prog_4_method_8_code 62 = .ok (.ireturn, 1) := by decide +kernel
theorem d_Cr_look_0 : decode prog_4_method_9_code 0 = .ok (.aload_n 0, 1) := by decide +kernel
theorem d_Cr_look_1 : decode prog_4_method_9_code 1 = .ok (.getfield 15, 3) := by decide +kernel
theorem d_Cr_look_4 : decode prog_4_method_9_code 4 = .ok (.iconst 0, 1) := by decide +kernel
theorem d_Cr_look_5 : decode prog_4_method_9_code 5 = .ok (.invokestatic 96, 3) := by decide +kernel
theorem d_Cr_look_8 : decode prog_4_method_9_code 8 = .ok (.aload_n 0, 1) := by decide +kernel
theorem d_Cr_look_9 : decode prog_4_method_9_code 9 = .ok (.invokevirtual 102, 3) := by decide +kernel
theorem d_Cr_look_12 : decode prog_4_method_9_code 12 = .ok (.istore_n 3, 1) := by decide +kernel
theorem d_Cr_look_13 : decode prog_4_method_9_code 13 = .ok (.iconst 0, 1) := by decide +kernel
theorem d_Cr_look_14 : decode prog_4_method_9_code 14 = .ok (.istore 4, 2) := by decide +kernel
theorem d_Cr_look_16 : decode prog_4_method_9_code 16 = .ok (.aload_n 0, 1) := by decide +kernel
theorem d_Cr_look_17 : decode prog_4_method_9_code 17 = .ok (.getfield 33, 3) := by decide +kernel
theorem d_Cr_look_20 : decode prog_4_method_9_code 20 = .ok (.invokevirtual 105, 3) := by decide +kernel
theorem d_Cr_look_23 : decode prog_4_method_9_code 23 = .ok (.iconst 0, 1) := by decide +kernel
theorem d_Cr_look_24 : decode prog_4_method_9_code 24 = .ok (.istore 5, 2) := by decide +kernel
theorem d_Cr_look_26 : decode prog_4_method_9_code 26 = .ok (.iload 5, 2) := by decide +kernel
theorem d_Cr_look_28 : decode prog_4_method_9_code 28 = .ok (.iload_n 2, 1) := by decide +kernel
theorem d_Cr_look_29 : decode prog_4_method_9_code 29 = .ok (.if_icmp .ge 49, 3) := by decide +kernel
theorem d_Cr_look_32 : decode prog_4_method_9_code 32 = .ok (.aload_n 1, 1) := by decide +kernel
theorem d_Cr_look_33 : decode prog_4_method_9_code 33 = .ok (.aload_n 0, 1) := by decide +kernel
theorem d_Cr_look_34 : decode prog_4_method_9_code 34 = .ok (.getfield 33, 3) := by decide +kernel
theorem d_Cr_look_37 : decode prog_4_method_9_code 37 = .ok (.invokevirtual 108, 3) := by decide +kernel
theorem d_Cr_look_40 : decode prog_4_method_9_code 40 = .ok (.invokeinterface 112 2, 5) := by decide +kernel
theorem d_Cr_look_45 : decode prog_4_method_9_code 45 = .ok (.iload_n 3, 1) := by decide +kernel
theorem d_Cr_look_46 : decode prog_4_method_9_code 46 = .ok (.iand, 1) := by decide +kernel
theorem d_Cr_look_47 : decode prog_4_method_9_code 47 = .ok (.istore 6, 2) := by decide +kernel
theorem d_Cr_look_49 : decode prog_4_method_9_code 49 = .ok (.iload 6, 2) := by decide +kernel
theorem d_Cr_look_51 : decode prog_4_method_9_code 51 = .ok (.ifCond .eq 14, 3) := by decide +kernel
theorem d_Cr_look_54 : decode prog_4_method_9_code 54 = .ok (.iload 4, 2) := by decide +kernel
theorem d_Cr_look_56 : decode prog_4_method_9_code 56 = .ok (.iload 6, 2) := by decide +kernel
theorem d_Cr_look_58 : decode prog_4_method_9_code 58 = .ok (.ior, 1) := by decide +kernel
theorem d_Cr_look_59 : decode prog_4_method_9_code 59 = .ok (.istore 4, 2) := by decide +kernel
theorem d_Cr_look_61 : decode prog_4_method_9_code 61 = .ok (.aload_n 0, 1) := by decide +kernel
theorem d_Cr_look_62 : decode prog_4_method_9_code 62 = .ok (.invokevirtual 117, 3) := by decide +kernel
theorem d_Cr_look_65 : decode prog_4_method_9_code 65 = .ok (.aload_n 0, 1) := by decide +kernel
theorem d_Cr_look_66 : decode prog_4_method_9_code 66 = .ok (.getfield 33, 3) := by decide +kernel
theorem d_Cr_look_69 : decode prog_4_method_9_code 69 = .ok (.invokevirtual 120, 3) := by decide +kernel
theorem d_Cr_look_72 : decode prog_4_method_9_code 72 = .ok (.iinc 5 1, 3) := by decide +kernel
theorem d_Cr_look_75 : decode prog_4_method_9_code 75 = .ok (.goto (-49), 3) := by decide +kernel
theorem d_Cr_look_78 : decode prog_4_method_9_code 78 = .ok (.aload_n 0, 1) := by decide +kernel
theorem d_Cr_look_79 : decode prog_4_method_9_code 79 = .ok (.aload_n 0, 1) := by decide +kernel
theorem d_Cr_look_80 : decode prog_4_method_9_code 80 = .ok (.iload 4, 2) := by decide +kernel
theorem d_Cr_look_82 : decode prog_4_method_9_code 82 = .ok (.invokevirtual 55, 3) := by decide +kernel
theorem d_Cr_look_85 : decode prog_4_method_9_code 85 = .ok (.putfield 123, 3) := by decide +kernel
theorem d_Cr_look_88 : decode prog_4_method_9_code 88 = .ok (.return_, 1) := by decide +kernel
theorem d_Cr_openParties_0 : decode prog_4_method_11_code 0 = .ok (.aload_n 0, 1) := by decide +kernel
theorem d_Cr_openParties_1 : decode prog_4_method_11_code 1 = .ok (.getfield 24, 3) := by decide +kernel
theorem d_Cr_openParties_4 : decode prog_4_method_11_code 4 = .ok (.invokevirtual 52, 3) := by decide +kernel
theorem d_Cr_openParties_7 : decode prog_4_method_11_code 7 = .ok (.istore_n 1, 1) := by decide +kernel
theorem d_Cr_openParties_8 : decode prog_4_method_11_code 8 = .ok (.iconst 0, 1) := by decide +kernel
theorem d_Cr_openParties_9 : decode prog_4_method_11_code 9 = .ok (.istore_n 2, 1) := by decide +kernel
theorem d_Cr_openParties_10 : decode prog_4_method_11_code 10 = .ok (.iload_n 2, 1) := by decide +kernel
theorem d_Cr_openParties_11 : decode prog_4_method_11_code 11 = .ok (.aload_n 0, 1) := by decide +kernel
theorem d_Cr_openParties_12 : decode prog_4_method_11_code 12 = .ok (.getfield 24, 3) := by decide +kernel
theorem d_Cr_openParties_15 : decode prog_4_method_11_code 15 = .ok (.invokevirtual 132, 3) := by decide +kernel
theorem d_Cr_openParties_18 : decode prog_4_method_11_code 18 = .ok (.if_icmp .ge 59, 3) := by decide +kernel
theorem d_Cr_openParties_21 : decode prog_4_method_11_code 21 = .ok (.aload_n 0, 1) := by decide +kernel
theorem d_Cr_openParties_22 : decode prog_4_method_11_code 22 = .ok (.iload_n 2, 1) := by decide +kernel
theorem d_Cr_openParties_23 : decode prog_4_method_11_code 23 = .ok (.invokevirtual 135, 3) := by decide +kernel
theorem d_Cr_openParties_26 : decode prog_4_method_11_code 26 = .ok (.istore_n 3, 1) := by decide +kernel
theorem d_Cr_openParties_27 : decode prog_4_method_11_code 27 = .ok (.iload_n 3, 1) := by decide +kernel
theorem d_Cr_openParties_28 : decode prog_4_method_11_code 28 = .ok (.iconst 1, 1) := by decide +kernel
theorem d_Cr_openParties_29 : decode prog_4_method_11_code 29 = .ok (.iand, 1) := by decide +kernel
theorem d_Cr_openParties_30 : decode prog_4_method_11_code 30 = .ok (.ifCond .eq 13, 3) := by decide +kernel
theorem d_Cr_openParties_33 : decode prog_4_method_11_code 33 = .ok (.getstatic 138, 3) := by decide +kernel
theorem d_Cr_openParties_36 : decode prog_4_method_11_code 36 = .ok (.iload_n 2, 1) := by decide +kernel
theorem d_Cr_openParties_37 : decode prog_4_method_11_code 37 = .ok (.iaload, 1) := by decide +kernel
theorem d_Cr_openParties_38 : decode prog_4_method_11_code 38 = .ok (.iconst (-1), 1) := by decide +kernel
theorem d_Cr_openParties_39 : decode prog_4_method_11_code 39 = .ok (.ixor, 1) := by decide +kernel
theorem d_Cr_openParties_40 : decode prog_4_method_11_code 40 = .ok (.goto 4, 3) := by decide +kernel
theorem d_Cr_openParties_43 : decode prog_4_method_11_code 43 = .ok (.iconst 0, 1) := by decide +kernel
theorem d_Cr_openParties_44 : decode prog_4_method_11_code 44 = .ok (.istore 4, 2) := by decide +kernel
theorem d_Cr_openParties_46 : decode prog_4_method_11_code 46 = .ok (.iload_n 3, 1) := by decide +kernel
theorem d_Cr_openParties_47 : decode prog_4_method_11_code 47 = .ok (.iconst 2, 1) := by decide +kernel
theorem d_Cr_openParties_48 : decode prog_4_method_11_code 48 = .ok (.iand, 1) := by decide +kernel
theorem d_Cr_openParties_49 : decode prog_4_method_11_code 49 = .ok (.ifCond .eq 11, 3) := by decide +kernel
theorem d_Cr_openParties_52 : decode prog_4_method_11_code 52 = .ok (.getstatic 138, 3) := by decide +kernel
theorem d_Cr_openParties_55 : decode prog_4_method_11_code 55 = .ok (.iload_n 2, 1) := by decide +kernel
theorem d_Cr_openParties_56 : decode prog_4_method_11_code 56 = .ok (.iaload, 1) := by decide +kernel
theorem d_Cr_openParties_57 : decode prog_4_method_11_code 57 = .ok (.goto 4, 3) := by decide +kernel
theorem d_Cr_openParties_60 : decode prog_4_method_11_code 60 = .ok (.iconst 0, 1) := by decide +kernel
theorem d_Cr_openParties_61 : decode prog_4_method_11_code 61 = .ok (.istore 5, 2) := by decide +kernel
theorem d_Cr_openParties_63 : decode prog_4_method_11_code 63 = .ok (.iload_n 1, 1) := by decide +kernel
theorem d_Cr_openParties_64 : decode prog_4_method_11_code 64 = .ok (.iload 4, 2) := by decide +kernel
theorem d_Cr_openParties_66 : decode prog_4_method_11_code 66 = .ok (.iload 5, 2) := by decide +kernel
theorem d_Cr_openParties_68 : decode prog_4_method_11_code 68 = .ok (.ior, 1) := by decide +kernel
theorem d_Cr_openParties_69 : decode prog_4_method_11_code 69 = .ok (.iand, 1) := by decide +kernel
theorem d_Cr_openParties_70 : decode prog_4_method_11_code 70 = .ok (.istore_n 1, 1) := by decide +kernel
theorem d_Cr_openParties_71 : decode prog_4_method_11_code 71 = .ok (.iinc 2 1, 3) := by decide +kernel
theorem d_Cr_openParties_74 : decode prog_4_method_11_code 74 = .ok (.goto (-64), 3) := by decide +kernel
theorem d_Cr_openParties_77 : decode prog_4_method_11_code 77 = .ok (.iload_n 1, 1) := by decide +kernel
theorem d_Cr_openParties_78 : decode prog_4_method_11_code 78 = .ok (.ireturn, 1) := by decide +kernel
theorem d_Cr_waysLeft_0 : decode prog_4_method_6_code 0 = .ok (.aload_n 0, 1) := by decide +kernel
theorem d_Cr_waysLeft_1 : decode prog_4_method_6_code 1 = .ok (.getfield 59, 3) := by decide +kernel
theorem d_Cr_waysLeft_4 : decode prog_4_method_6_code 4 = .ok (.iconst 2, 1) := by decide +kernel
theorem d_Cr_waysLeft_5 : decode prog_4_method_6_code 5 = .ok (.iload_n 1, 1) := by decide +kernel
theorem d_Cr_waysLeft_6 : decode prog_4_method_6_code 6 = .ok (.imul, 1) := by decide +kernel
theorem d_Cr_waysLeft_7 : decode prog_4_method_6_code 7 = .ok (.ishr, 1) := by decide +kernel
theorem d_Cr_waysLeft_8 : decode prog_4_method_6_code 8 = .ok (.iconst 3, 1) := by decide +kernel
theorem d_Cr_waysLeft_9 : decode prog_4_method_6_code 9 = .ok (.iand, 1) := by decide +kernel
theorem d_Cr_waysLeft_10 : decode prog_4_method_6_code 10 = .ok (.ireturn, 1) := by decide +kernel
theorem d_Cr_seeLayout_0 : decode prog_4_method_10_code 0 = .ok (.iconst 0, 1) := by decide +kernel
theorem d_Cr_seeLayout_1 : decode prog_4_method_10_code 1 = .ok (.istore_n 1, 1) := by decide +kernel
theorem d_Cr_seeLayout_2 : decode prog_4_method_10_code 2 = .ok (.iload_n 1, 1) := by decide +kernel
theorem d_Cr_seeLayout_3 : decode prog_4_method_10_code 3 = .ok (.aload_n 0, 1) := by decide +kernel
theorem d_Cr_seeLayout_4 : decode prog_4_method_10_code 4 = .ok (.getfield 24, 3) := by decide +kernel
theorem d_Cr_seeLayout_7 : decode prog_4_method_10_code 7 = .ok (.invokevirtual 37, 3) := by decide +kernel
theorem d_Cr_seeLayout_10 : decode prog_4_method_10_code 10 = .ok (.if_icmp .ge 36, 3) := by decide +kernel
theorem d_Cr_seeLayout_13 : decode prog_4_method_10_code 13 = .ok (.aload_n 0, 1) := by decide +kernel
theorem d_Cr_seeLayout_14 : decode prog_4_method_10_code 14 = .ok (.getfield 15, 3) := by decide +kernel
theorem d_Cr_seeLayout_17 : decode prog_4_method_10_code 17 = .ok (.iload_n 1, 1) := by decide +kernel
theorem d_Cr_seeLayout_18 : decode prog_4_method_10_code 18 = .ok (.dup2, 1) := by decide +kernel
theorem d_Cr_seeLayout_19 : decode prog_4_method_10_code 19 = .ok (.iaload, 1) := by decide +kernel
theorem d_Cr_seeLayout_20 : decode prog_4_method_10_code 20 = .ok (.aload_n 0, 1) := by decide +kernel
theorem d_Cr_seeLayout_21 : decode prog_4_method_10_code 21 = .ok (.getfield 24, 3) := by decide +kernel
theorem d_Cr_seeLayout_24 : decode prog_4_method_10_code 24 = .ok (.invokevirtual 43, 3) := by decide +kernel
theorem d_Cr_seeLayout_27 : decode prog_4_method_10_code 27 = .ok (.aload_n 0, 1) := by decide +kernel
theorem d_Cr_seeLayout_28 : decode prog_4_method_10_code 28 = .ok (.getfield 33, 3) := by decide +kernel
theorem d_Cr_seeLayout_31 : decode prog_4_method_10_code 31 = .ok (.iload_n 1, 1) := by decide +kernel
theorem d_Cr_seeLayout_32 : decode prog_4_method_10_code 32 = .ok (.invokevirtual 126, 3) := by decide +kernel
theorem d_Cr_seeLayout_35 : decode prog_4_method_10_code 35 = .ok (.invokevirtual 129, 3) := by decide +kernel
theorem d_Cr_seeLayout_38 : decode prog_4_method_10_code 38 = .ok (.ior, 1) := by decide +kernel
theorem d_Cr_seeLayout_39 : decode prog_4_method_10_code 39 = .ok (.iastore, 1) := by decide +kernel
theorem d_Cr_seeLayout_40 : decode prog_4_method_10_code 40 = .ok (.iinc 1 1, 3) := by decide +kernel
theorem d_Cr_seeLayout_43 : decode prog_4_method_10_code 43 = .ok (.goto (-41), 3) := by decide +kernel
theorem d_Cr_seeLayout_46 : decode prog_4_method_10_code 46 = .ok (.return_, 1) := by decide +kernel
theorem d_Cr_countUnseen_0 : decode prog_4_method_13_code 0 = .ok (.aload_n 0, 1) := by decide +kernel
theorem d_Cr_countUnseen_1 : decode prog_4_method_13_code 1 = .ok (.getfield 59, 3) := by decide +kernel
theorem d_Cr_countUnseen_4 : decode prog_4_method_13_code 4 = .ok (.aload_n 0, 1) := by decide +kernel
theorem d_Cr_countUnseen_5 : decode prog_4_method_13_code 5 = .ok (.getfield 123, 3) := by decide +kernel
theorem d_Cr_countUnseen_8 : decode prog_4_method_13_code 8 = .ok (.iconst (-1), 1) := by decide +kernel
theorem d_Cr_countUnseen_9 : decode prog_4_method_13_code 9 = .ok (.ixor, 1) := by decide +kernel
theorem d_Cr_countUnseen_10 : decode prog_4_method_13_code 10 = .ok (.iand, 1) := by decide +kernel
theorem d_Cr_countUnseen_11 : decode prog_4_method_13_code 11 = .ok (.invokestatic 141, 3) := by decide +kernel
theorem d_Cr_countUnseen_14 : decode prog_4_method_13_code 14 = .ok (.istore_n 1, 1) := by decide +kernel
theorem d_Cr_countUnseen_15 : decode prog_4_method_13_code 15 = .ok (.iconst 0, 1) := by decide +kernel
theorem d_Cr_countUnseen_16 : decode prog_4_method_13_code 16 = .ok (.istore_n 2, 1) := by decide +kernel
theorem d_Cr_countUnseen_17 : decode prog_4_method_13_code 17 = .ok (.iload_n 2, 1) := by decide +kernel
theorem d_Cr_countUnseen_18 : decode prog_4_method_13_code 18 = .ok (.aload_n 0, 1) := by decide +kernel
theorem d_Cr_countUnseen_19 : decode prog_4_method_13_code 19 = .ok (.getfield 24, 3) := by decide +kernel
theorem d_Cr_countUnseen_22 : decode prog_4_method_13_code 22 = .ok (.invokevirtual 37, 3) := by decide +kernel
theorem d_Cr_countUnseen_25 : decode prog_4_method_13_code 25 = .ok (.if_icmp .ge 30, 3) := by decide +kernel
theorem d_Cr_countUnseen_28 : decode prog_4_method_13_code 28 = .ok (.iload_n 1, 1) := by decide +kernel
theorem d_Cr_countUnseen_29 : decode prog_4_method_13_code 29 = .ok (.aload_n 0, 1) := by decide +kernel
theorem d_Cr_countUnseen_30 : decode prog_4_method_13_code 30 = .ok (.getfield 9, 3) := by decide +kernel
theorem d_Cr_countUnseen_33 : decode prog_4_method_13_code 33 = .ok (.iload_n 2, 1) := by decide +kernel
theorem d_Cr_countUnseen_34 : decode prog_4_method_13_code 34 = .ok (.iaload, 1) := by decide +kernel
theorem d_Cr_countUnseen_35 : decode prog_4_method_13_code 35 = .ok (.aload_n 0, 1) := by decide +kernel
theorem d_Cr_countUnseen_36 : decode prog_4_method_13_code 36 = .ok (.getfield 15, 3) := by decide +kernel
theorem d_Cr_countUnseen_39 : decode prog_4_method_13_code 39 = .ok (.iload_n 2, 1) := by decide +kernel
theorem d_Cr_countUnseen_40 : decode prog_4_method_13_code 40 = .ok (.iaload, 1) := by decide +kernel
theorem d_Cr_countUnseen_41 : decode prog_4_method_13_code 41 = .ok (.iconst (-1), 1) := by decide +kernel
theorem d_Cr_countUnseen_42 : decode prog_4_method_13_code 42 = .ok (.ixor, 1) := by decide +kernel
theorem d_Cr_countUnseen_43 : decode prog_4_method_13_code 43 = .ok (.iand, 1) := by decide +kernel
theorem d_Cr_countUnseen_44 : decode prog_4_method_13_code 44 = .ok (.invokestatic 141, 3) := by decide +kernel
theorem d_Cr_countUnseen_47 : decode prog_4_method_13_code 47 = .ok (.iadd, 1) := by decide +kernel
theorem d_Cr_countUnseen_48 : decode prog_4_method_13_code 48 = .ok (.istore_n 1, 1) := by decide +kernel
theorem d_Cr_countUnseen_49 : decode prog_4_method_13_code 49 = .ok (.iinc 2 1, 3) := by decide +kernel
theorem d_Cr_countUnseen_52 : decode prog_4_method_13_code 52 = .ok (.goto (-35), 3) := by decide +kernel
theorem d_Cr_countUnseen_55 : decode prog_4_method_13_code 55 = .ok (.iload_n 1, 1) := by decide +kernel
theorem d_Cr_countUnseen_56 : decode prog_4_method_13_code 56 = .ok (.ireturn, 1) := by decide +kernel
theorem d_Cr_crossOut_0 : decode prog_4_method_14_code 0 = .ok (.iconst 0, 1) := by decide +kernel
theorem d_Cr_crossOut_1 : decode prog_4_method_14_code 1 = .ok (.istore_n 3, 1) := by decide +kernel
theorem d_Cr_crossOut_2 : decode prog_4_method_14_code 2 = .ok (.iload_n 3, 1) := by decide +kernel
theorem d_Cr_crossOut_3 : decode prog_4_method_14_code 3 = .ok (.aload_n 0, 1) := by decide +kernel
theorem d_Cr_crossOut_4 : decode prog_4_method_14_code 4 = .ok (.getfield 24, 3) := by decide +kernel
theorem d_Cr_crossOut_7 : decode prog_4_method_14_code 7 = .ok (.invokevirtual 37, 3) := by decide +kernel
theorem d_Cr_crossOut_10 : decode prog_4_method_14_code 10 = .ok (.if_icmp .ge 21, 3) := by decide +kernel
theorem d_Cr_crossOut_13 : decode prog_4_method_14_code 13 = .ok (.aload_n 0, 1) := by decide +kernel
theorem d_Cr_crossOut_14 : decode prog_4_method_14_code 14 = .ok (.getfield 9, 3) := by decide +kernel
theorem d_Cr_crossOut_17 : decode prog_4_method_14_code 17 = .ok (.iload_n 3, 1) := by decide +kernel
theorem d_Cr_crossOut_18 : decode prog_4_method_14_code 18 = .ok (.aload_n 0, 1) := by decide +kernel
theorem d_Cr_crossOut_19 : decode prog_4_method_14_code 19 = .ok (.getfield 15, 3) := by decide +kernel
theorem d_Cr_crossOut_22 : decode prog_4_method_14_code 22 = .ok (.iload_n 3, 1) := by decide +kernel
theorem d_Cr_crossOut_23 : decode prog_4_method_14_code 23 = .ok (.iaload, 1) := by decide +kernel
theorem d_Cr_crossOut_24 : decode prog_4_method_14_code 24 = .ok (.iastore, 1) := by decide +kernel
theorem d_Cr_crossOut_25 : decode prog_4_method_14_code 25 = .ok (.iinc 3 1, 3) := by decide +kernel
theorem d_Cr_crossOut_28 : decode prog_4_method_14_code 28 = .ok (.goto (-26), 3) := by decide +kernel
theorem d_Cr_crossOut_31 : decode prog_4_method_14_code 31 = .ok (.aload_n 0, 1) := by decide +kernel
theorem d_Cr_crossOut_32 : decode prog_4_method_14_code 32 = .ok (.aload_n 0, 1) := by decide +kernel
theorem d_Cr_crossOut_33 : decode prog_4_method_14_code 33 = .ok (.getfield 123, 3) := by decide +kernel
theorem d_Cr_crossOut_36 : decode prog_4_method_14_code 36 = .ok (.putfield 59, 3) := by decide +kernel
theorem d_Cr_crossOut_39 : decode prog_4_method_14_code 39 = .ok (.aload_n 0, 1) := by decide +kernel
theorem d_Cr_crossOut_40 : decode prog_4_method_14_code 40 = .ok (.getfield 63, 3) := by decide +kernel
theorem d_Cr_crossOut_43 : decode prog_4_method_14_code 43 = .ok (.bipush 54, 2) := by decide +kernel
theorem d_Cr_crossOut_45 : decode prog_4_method_14_code 45 = .ok (.if_icmp .ge 33, 3) := by decide +kernel
theorem d_Cr_crossOut_48 : decode prog_4_method_14_code 48 = .ok (.aload_n 0, 1) := by decide +kernel
theorem d_Cr_crossOut_49 : decode prog_4_method_14_code 49 = .ok (.getfield 18, 3) := by decide +kernel
theorem d_Cr_crossOut_52 : decode prog_4_method_14_code 52 = .ok (.aload_n 0, 1) := by decide +kernel
theorem d_Cr_crossOut_53 : decode prog_4_method_14_code 53 = .ok (.getfield 63, 3) := by decide +kernel
theorem d_Cr_crossOut_56 : decode prog_4_method_14_code 56 = .ok (.iload_n 1, 1) := by decide +kernel
theorem d_Cr_crossOut_57 : decode prog_4_method_14_code 57 = .ok (.iastore, 1) := by decide +kernel
theorem d_Cr_crossOut_58 : decode prog_4_method_14_code 58 = .ok (.aload_n 0, 1) := by decide +kernel
theorem d_Cr_crossOut_59 : decode prog_4_method_14_code 59 = .ok (.getfield 21, 3) := by decide +kernel
theorem d_Cr_crossOut_62 : decode prog_4_method_14_code 62 = .ok (.aload_n 0, 1) := by decide +kernel
theorem d_Cr_crossOut_63 : decode prog_4_method_14_code 63 = .ok (.getfield 63, 3) := by decide +kernel
theorem d_Cr_crossOut_66 : decode prog_4_method_14_code 66 = .ok (.iload_n 2, 1) := by decide +kernel
theorem d_Cr_crossOut_67 : decode prog_4_method_14_code 67 = .ok (.iastore, 1) := by decide +kernel
theorem d_Cr_crossOut_68 : decode prog_4_method_14_code 68 = .ok (.aload_n 0, 1) := by decide +kernel
theorem d_Cr_crossOut_69 : decode prog_4_method_14_code 69 = .ok (.dup, 1) := by decide +kernel
theorem d_Cr_crossOut_70 : decode prog_4_method_14_code 70 = .ok (.getfield 63, 3) := by decide +kernel
theorem d_Cr_crossOut_73 : decode prog_4_method_14_code 73 = .ok (.iconst 1, 1) := by decide +kernel
theorem d_Cr_crossOut_74 : decode prog_4_method_14_code 74 = .ok (.iadd, 1) := by decide +kernel
theorem d_Cr_crossOut_75 : decode prog_4_method_14_code 75 = .ok (.putfield 63, 3) := by decide +kernel
theorem d_Cr_crossOut_78 : decode prog_4_method_14_code 78 = .ok (.return_, 1) := by decide +kernel
theorem d_Cr_steps_0 : decode prog_4_method_2_code 0 = .ok (.aload_n 0, 1) := by decide +kernel
theorem d_Cr_steps_1 : decode prog_4_method_2_code 1 = .ok (.getfield 63, 3) := by decide +kernel
theorem d_Cr_steps_4 : decode prog_4_method_2_code 4 = .ok (.ireturn, 1) := by decide +kernel
theorem d_C_step_0 : decode prog_1_method_11_code 0 = .ok (.iload_n 1, 1) := by decide +kernel
theorem d_C_step_1 : decode prog_1_method_11_code 1 = .ok (.ifCond .lt 14, 3) := by decide +kernel
theorem d_C_step_4 : decode prog_1_method_11_code 4 = .ok (.iload_n 1, 1) := by decide +kernel
theorem d_C_step_5 : decode prog_1_method_11_code 5 = .ok (.aload_n 0, 1) := by decide +kernel
theorem d_C_step_6 : decode prog_1_method_11_code 6 = .ok (.getfield 103, 3) := by decide +kernel
theorem d_C_step_9 : decode prog_1_method_11_code 9 = .ok (.invokevirtual 112, 3) := by decide +kernel
theorem d_C_step_12 : decode prog_1_method_11_code 12 = .ok (.if_icmp .lt 5, 3) := by decide +kernel
theorem d_C_step_15 : decode prog_1_method_11_code 15 = .ok (.iconst (-1), 1) := by decide +kernel
theorem d_C_step_16 : decode prog_1_method_11_code 16 = .ok (.ireturn, 1) := by decide +kernel
theorem d_C_step_17 : decode prog_1_method_11_code 17 = .ok (.iload_n 2, 1) := by decide +kernel
theorem d_C_step_18 : decode prog_1_method_11_code 18 = .ok (.lookupswitch 44 #[(0, 26), (1, 35)], 26) := by decide +kernel
theorem d_C_step_44 : decode prog_1_method_11_code 44 = .ok (.aload_n 0, 1) := by decide +kernel
theorem d_C_step_45 : decode prog_1_method_11_code 45 = .ok (.getfield 103, 3) := by decide +kernel
theorem d_C_step_48 : decode prog_1_method_11_code 48 = .ok (.iload_n 1, 1) := by decide +kernel
theorem d_C_step_49 : decode prog_1_method_11_code 49 = .ok (.invokevirtual 115, 3) := by decide +kernel
theorem d_C_step_52 : decode prog_1_method_11_code 52 = .ok (.ireturn, 1) := by decide +kernel
theorem d_C_step_53 : decode prog_1_method_11_code 53 = .ok (.aload_n 0, 1) := by decide +kernel
theorem d_C_step_54 : decode prog_1_method_11_code 54 = .ok (.getfield 103, 3) := by decide +kernel
theorem d_C_step_57 : decode prog_1_method_11_code 57 = .ok (.iload_n 1, 1) := by decide +kernel
theorem d_C_step_58 : decode prog_1_method_11_code 58 = .ok (.invokevirtual 119, 3) := by decide +kernel
theorem d_C_step_61 : decode prog_1_method_11_code 61 = .ok (.ireturn, 1) := by decide +kernel
theorem d_C_step_62 : decode prog_1_method_11_code 62 = .ok (.iconst (-1), 1) := by decide +kernel
theorem d_C_step_63 : decode prog_1_method_11_code 63 = .ok (.ireturn, 1) := by decide +kernel
theorem d_Cr_clueOf_0 : decode prog_4_method_3_code 0 = .ok (.aload_n 0, 1) := by decide +kernel
theorem d_Cr_clueOf_1 : decode prog_4_method_3_code 1 = .ok (.getfield 18, 3) := by decide +kernel
theorem d_Cr_clueOf_4 : decode prog_4_method_3_code 4 = .ok (.iload_n 1, 1) := by decide +kernel
theorem d_Cr_clueOf_5 : decode prog_4_method_3_code 5 = .ok (.iaload, 1) := by decide +kernel
theorem d_Cr_clueOf_6 : decode prog_4_method_3_code 6 = .ok (.ireturn, 1) := by decide +kernel
theorem d_Cr_crossedBy_0 : decode prog_4_method_4_code 0 = .ok (.aload_n 0, 1) := by decide +kernel
theorem d_Cr_crossedBy_1 : decode prog_4_method_4_code 1 = .ok (.getfield 21, 3) := by decide +kernel
theorem d_Cr_crossedBy_4 : decode prog_4_method_4_code 4 = .ok (.iload_n 1, 1) := by decide +kernel
theorem d_Cr_crossedBy_5 : decode prog_4_method_4_code 5 = .ok (.iaload, 1) := by decide +kernel
theorem d_Cr_crossedBy_6 : decode prog_4_method_4_code 6 = .ok (.ireturn, 1) := by decide +kernel
theorem d_C_may_0 : decode prog_1_method_12_code 0 = .ok (.aload_n 0, 1) := by decide +kernel
theorem d_C_may_1 : decode prog_1_method_12_code 1 = .ok (.getfield 42, 3) := by decide +kernel
theorem d_C_may_4 : decode prog_1_method_12_code 4 = .ok (.iload_n 1, 1) := by decide +kernel
theorem d_C_may_5 : decode prog_1_method_12_code 5 = .ok (.invokevirtual 74, 3) := by decide +kernel
theorem d_C_may_8 : decode prog_1_method_12_code 8 = .ok (.ifCond .eq 14, 3) := by decide +kernel
theorem d_C_may_11 : decode prog_1_method_12_code 11 = .ok (.aload_n 0, 1) := by decide +kernel
theorem d_C_may_12 : decode prog_1_method_12_code 12 = .ok (.getfield 42, 3) := by decide +kernel
theorem d_C_may_15 : decode prog_1_method_12_code 15 = .ok (.iload_n 2, 1) := by decide +kernel
theorem d_C_may_16 : decode prog_1_method_12_code 16 = .ok (.invokevirtual 77, 3) := by decide +kernel
theorem d_C_may_19 : decode prog_1_method_12_code 19 = .ok (.ifCond .ne 5, 3) := by decide +kernel
theorem d_C_may_22 : decode prog_1_method_12_code 22 = .ok (.iconst (-1), 1) := by decide +kernel
theorem d_C_may_23 : decode prog_1_method_12_code 23 = .ok (.ireturn, 1) := by decide +kernel
theorem d_C_may_24 : decode prog_1_method_12_code 24 = .ok (.aload_n 0, 1) := by decide +kernel
theorem d_C_may_25 : decode prog_1_method_12_code 25 = .ok (.getfield 103, 3) := by decide +kernel
theorem d_C_may_28 : decode prog_1_method_12_code 28 = .ok (.iload_n 1, 1) := by decide +kernel
theorem d_C_may_29 : decode prog_1_method_12_code 29 = .ok (.iload_n 2, 1) := by decide +kernel
theorem d_C_may_30 : decode prog_1_method_12_code 30 = .ok (.invokevirtual 122, 3) := by decide +kernel
theorem d_C_may_33 : decode prog_1_method_12_code 33 = .ok (.ireturn, 1) := by decide +kernel
theorem d_Cr_valuesLeft_0 : decode prog_4_method_5_code 0 = .ok (.aload_n 0, 1) := by decide +kernel
theorem d_Cr_valuesLeft_1 : decode prog_4_method_5_code 1 = .ok (.getfield 9, 3) := by decide +kernel
theorem d_Cr_valuesLeft_4 : decode prog_4_method_5_code 4 = .ok (.iload_n 2, 1) := by decide +kernel
theorem d_Cr_valuesLeft_5 : decode prog_4_method_5_code 5 = .ok (.iaload, 1) := by decide +kernel
theorem d_Cr_valuesLeft_6 : decode prog_4_method_5_code 6 = .ok (.iconst 4, 1) := by decide +kernel
theorem d_Cr_valuesLeft_7 : decode prog_4_method_5_code 7 = .ok (.iload_n 1, 1) := by decide +kernel
theorem d_Cr_valuesLeft_8 : decode prog_4_method_5_code 8 = .ok (.imul, 1) := by decide +kernel
theorem d_Cr_valuesLeft_9 : decode prog_4_method_5_code 9 = .ok (.ishr, 1) := by decide +kernel
theorem d_Cr_valuesLeft_10 : decode prog_4_method_5_code 10 = .ok (.bipush 15, 2) := by decide +kernel
theorem d_Cr_valuesLeft_12 : decode prog_4_method_5_code 12 = .ok (.iand, 1) := by decide +kernel
theorem d_Cr_valuesLeft_13 : decode prog_4_method_5_code 13 = .ok (.ireturn, 1) := by decide +kernel
theorem d_C_mayBe_0 : decode prog_1_method_13_code 0 = .ok (.aload_n 0, 1) := by decide +kernel
theorem d_C_mayBe_1 : decode prog_1_method_13_code 1 = .ok (.getfield 42, 3) := by decide +kernel
theorem d_C_mayBe_4 : decode prog_1_method_13_code 4 = .ok (.iload_n 1, 1) := by decide +kernel
theorem d_C_mayBe_5 : decode prog_1_method_13_code 5 = .ok (.invokevirtual 84, 3) := by decide +kernel
theorem d_C_mayBe_8 : decode prog_1_method_13_code 8 = .ok (.ifCond .ne 5, 3) := by decide +kernel
theorem d_C_mayBe_11 : decode prog_1_method_13_code 11 = .ok (.iconst (-1), 1) := by decide +kernel
theorem d_C_mayBe_12 : decode prog_1_method_13_code 12 = .ok (.ireturn, 1) := by decide +kernel
theorem d_C_mayBe_13 : decode prog_1_method_13_code 13 = .ok (.aload_n 0, 1) := by decide +kernel
theorem d_C_mayBe_14 : decode prog_1_method_13_code 14 = .ok (.getfield 103, 3) := by decide +kernel
theorem d_C_mayBe_17 : decode prog_1_method_13_code 17 = .ok (.iload_n 1, 1) := by decide +kernel
theorem d_C_mayBe_18 : decode prog_1_method_13_code 18 = .ok (.invokevirtual 126, 3) := by decide +kernel
theorem d_C_mayBe_21 : decode prog_1_method_13_code 21 = .ok (.ireturn, 1) := by decide +kernel
end
section
theorem d_Md_init_0 : decode prog_14_method_1_code 0 = .ok (.aload_n 0, 1) := by decide +kernel
theorem d_Md_init_1 : decode prog_14_method_1_code 1 = .ok (.invokespecial 1, 3) := by decide +kernel
theorem d_Md_init_4 : decode prog_14_method_1_code 4 = .ok (.aload_n 0, 1) := by decide +kernel
theorem d_Md_init_5 : decode prog_14_method_1_code 5 = .ok (.sipush 300, 3) := by decide +kernel
theorem d_Md_init_8 : decode prog_14_method_1_code 8 = .ok (.newarray .int, 2) := by decide +kernel
theorem d_Md_init_10 : decode prog_14_method_1_code 10 = .ok (.putfield 7, 3) := by decide +kernel
theorem d_Md_init_13 : decode prog_14_method_1_code 13 = .ok (.aload_n 0, 1) := by decide +kernel
theorem d_Md_init_14 : decode prog_14_method_1_code 14 = .ok (.iconst 1, 1) := by decide +kernel
theorem d_Md_init_15 : decode prog_14_method_1_code 15 = .ok (.putfield 13, 3) := by decide +kernel
theorem d_Md_init_18 : decode prog_14_method_1_code 18 = .ok (.aload_n 0, 1) := by decide +kernel
theorem d_Md_init_19 : decode prog_14_method_1_code 19 = .ok (.bipush 21, 2) := by decide +kernel
theorem d_Md_init_21 : decode prog_14_method_1_code 21 = .ok (.newarray .int, 2) := by decide +kernel
theorem d_Md_init_23 : decode prog_14_method_1_code 23 = .ok (.putfield 17, 3) := by decide +kernel
theorem d_Md_init_26 : decode prog_14_method_1_code 26 = .ok (.aload_n 0, 1) := by decide +kernel
theorem d_Md_init_27 : decode prog_14_method_1_code 27 = .ok (.sipush 600, 3) := by decide +kernel
theorem d_Md_init_30 : decode prog_14_method_1_code 30 = .ok (.newarray .int, 2) := by decide +kernel
theorem d_Md_init_32 : decode prog_14_method_1_code 32 = .ok (.putfield 20, 3) := by decide +kernel
theorem d_Md_init_35 : decode prog_14_method_1_code 35 = .ok (.aload_n 0, 1) := by decide +kernel
theorem d_Md_init_36 : decode prog_14_method_1_code 36 = .ok (.sipush 600, 3) := by decide +kernel
theorem d_Md_init_39 : decode prog_14_method_1_code 39 = .ok (.newarray .int, 2) := by decide +kernel
theorem d_Md_init_41 : decode prog_14_method_1_code 41 = .ok (.putfield 23, 3) := by decide +kernel
theorem d_Md_init_44 : decode prog_14_method_1_code 44 = .ok (.aload_n 0, 1) := by decide +kernel
theorem d_Md_init_45 : decode prog_14_method_1_code 45 = .ok (.sipush 600, 3) := by decide +kernel
theorem d_Md_init_48 : decode prog_14_method_1_code 48 = .ok (.newarray .int, 2) := by decide +kernel
theorem d_Md_init_50 : decode prog_14_method_1_code 50 = .ok (.putfield 26, 3) := by decide +kernel
theorem d_Md_init_53 : decode prog_14_method_1_code 53 = .ok (.aload_n 0, 1) := by decide +kernel
theorem d_Md_init_54 : decode prog_14_method_1_code 54 = .ok (.bipush 22, 2) := by decide +kernel
theorem d_Md_init_56 : decode prog_14_method_1_code 56 = .ok (.newarray .int, 2) := by decide +kernel
theorem d_Md_init_58 : decode prog_14_method_1_code 58 = .ok (.putfield 29, 3) := by decide +kernel
theorem d_Md_init_61 : decode prog_14_method_1_code 61 = .ok (.aload_n 0, 1) := by decide +kernel
theorem d_Md_init_62 : decode prog_14_method_1_code 62 = .ok (.sipush 640, 3) := by decide +kernel
theorem d_Md_init_65 : decode prog_14_method_1_code 65 = .ok (.newarray .int, 2) := by decide +kernel
theorem d_Md_init_67 : decode prog_14_method_1_code 67 = .ok (.putfield 32, 3) := by decide +kernel
theorem d_Md_init_70 : decode prog_14_method_1_code 70 = .ok (.aload_n 0, 1) := by decide +kernel
theorem d_Md_init_71 : decode prog_14_method_1_code 71 = .ok (.sipush 640, 3) := by decide +kernel
theorem d_Md_init_74 : decode prog_14_method_1_code 74 = .ok (.newarray .int, 2) := by decide +kernel
theorem d_Md_init_76 : decode prog_14_method_1_code 76 = .ok (.putfield 35, 3) := by decide +kernel
theorem d_Md_init_79 : decode prog_14_method_1_code 79 = .ok (.aload_n 0, 1) := by decide +kernel
theorem d_Md_init_80 : decode prog_14_method_1_code 80 = .ok (.sipush 640, 3) := by decide +kernel
theorem d_Md_init_83 : decode prog_14_method_1_code 83 = .ok (.newarray .int, 2) := by decide +kernel
theorem d_Md_init_85 : decode prog_14_method_1_code 85 = .ok (.putfield 38, 3) := by decide +kernel
theorem d_Md_init_88 : decode prog_14_method_1_code 88 = .ok (.aload_n 0, 1) := by decide +kernel
theorem d_Md_init_89 : decode prog_14_method_1_code 89 = .ok (.bipush 96, 2) := by decide +kernel
theorem d_Md_init_91 : decode prog_14_method_1_code 91 = .ok (.newarray .int, 2) := by decide +kernel
theorem d_Md_init_93 : decode prog_14_method_1_code 93 = .ok (.putfield 41, 3) := by decide +kernel
theorem d_Md_init_96 : decode prog_14_method_1_code 96 = .ok (.aload_n 0, 1) := by decide +kernel
theorem d_Md_init_97 : decode prog_14_method_1_code 97 = .ok (.bipush 96, 2) := by decide +kernel
theorem d_Md_init_99 : decode prog_14_method_1_code 99 = .ok (.newarray .int, 2) := by decide +kernel
theorem d_Md_init_101 : decode prog_14_method_1_code 101 = .ok (.putfield 44, 3) := by decide +kernel
theorem d_Md_init_104 : decode prog_14_method_1_code 104 = .ok (.aload_n 0, 1) := by decide +kernel
theorem d_Md_init_105 : decode prog_14_method_1_code 105 = .ok (.ldc 47, 2) := by decide +kernel
theorem d_Md_init_107 : decode prog_14_method_1_code 107 = .ok (.newarray .int, 2) := by decide +kernel
theorem d_Md_init_109 : decode prog_14_method_1_code 109 = .ok (.putfield 48, 3) := by decide +kernel
theorem d_Md_init_112 : decode prog_14_method_1_code 112 = .ok (.aload_n 0, 1) := by decide +kernel
theorem d_Md_init_113 : decode prog_14_method_1_code 113 = .ok (.bipush 32, 2) := by decide +kernel
theorem d_Md_init_115 : decode prog_14_method_1_code 115 = .ok (.newarray .boolean, 2) := by decide +kernel
theorem d_Md_init_117 : decode prog_14_method_1_code 117 = .ok (.putfield 51, 3) := by decide +kernel
theorem d_Md_init_120 : decode prog_14_method_1_code 120 = .ok (.aload_n 0, 1) := by decide +kernel
theorem d_Md_init_121 : decode prog_14_method_1_code 121 = .ok (.bipush 100, 2) := by decide +kernel
theorem d_Md_init_123 : decode prog_14_method_1_code 123 = .ok (.newarray .int, 2) := by decide +kernel
theorem d_Md_init_125 : decode prog_14_method_1_code 125 = .ok (.putfield 55, 3) := by decide +kernel
theorem d_Md_init_128 : decode prog_14_method_1_code 128 = .ok (.aload_n 0, 1) := by decide +kernel
theorem d_Md_init_129 : decode prog_14_method_1_code 129 = .ok (.bipush 12, 2) := by decide +kernel
theorem d_Md_init_131 : decode prog_14_method_1_code 131 = .ok (.newarray .int, 2) := by decide +kernel
theorem d_Md_init_133 : decode prog_14_method_1_code 133 = .ok (.putfield 58, 3) := by decide +kernel
theorem d_Md_init_136 : decode prog_14_method_1_code 136 = .ok (.aload_n 0, 1) := by decide +kernel
theorem d_Md_init_137 : decode prog_14_method_1_code 137 = .ok (.iconst 3, 1) := by decide +kernel
theorem d_Md_init_138 : decode prog_14_method_1_code 138 = .ok (.newarray .int, 2) := by decide +kernel
theorem d_Md_init_140 : decode prog_14_method_1_code 140 = .ok (.putfield 61, 3) := by decide +kernel
theorem d_Md_init_143 : decode prog_14_method_1_code 143 = .ok (.aload_n 0, 1) := by decide +kernel
theorem d_Md_init_144 : decode prog_14_method_1_code 144 = .ok (.bipush 12, 2) := by decide +kernel
theorem d_Md_init_146 : decode prog_14_method_1_code 146 = .ok (.newarray .int, 2) := by decide +kernel
theorem d_Md_init_148 : decode prog_14_method_1_code 148 = .ok (.putfield 64, 3) := by decide +kernel
theorem d_Md_init_151 : decode prog_14_method_1_code 151 = .ok (.aload_n 0, 1) := by decide +kernel
theorem d_Md_init_152 : decode prog_14_method_1_code 152 = .ok (.iconst 3, 1) := by decide +kernel
theorem d_Md_init_153 : decode prog_14_method_1_code 153 = .ok (.newarray .int, 2) := by decide +kernel
theorem d_Md_init_155 : decode prog_14_method_1_code 155 = .ok (.putfield 67, 3) := by decide +kernel
theorem d_Md_init_158 : decode prog_14_method_1_code 158 = .ok (.aload_n 0, 1) := by decide +kernel
theorem d_Md_init_159 : decode prog_14_method_1_code 159 = .ok (.bipush 60, 2) := by decide +kernel
theorem d_Md_init_161 : decode prog_14_method_1_code 161 = .ok (.newarray .int, 2) := by decide +kernel
theorem d_Md_init_163 : decode prog_14_method_1_code 163 = .ok (.putfield 70, 3) := by decide +kernel
theorem d_Md_init_166 : decode prog_14_method_1_code 166 = .ok (.aload_n 0, 1) := by decide +kernel
theorem d_Md_init_167 : decode prog_14_method_1_code 167 = .ok (.bipush 60, 2) := by decide +kernel
theorem d_Md_init_169 : decode prog_14_method_1_code 169 = .ok (.newarray .int, 2) := by decide +kernel
theorem d_Md_init_171 : decode prog_14_method_1_code 171 = .ok (.putfield 73, 3) := by decide +kernel
theorem d_Md_init_174 : decode prog_14_method_1_code 174 = .ok (.aload_n 0, 1) := by decide +kernel
theorem d_Md_init_175 : decode prog_14_method_1_code 175 = .ok (.invokevirtual 76, 3) := by decide +kernel
theorem d_Md_init_178 : decode prog_14_method_1_code 178 = .ok (.return_, 1) := by decide +kernel
theorem d_Md_fresh_0 : decode prog_14_method_3_code 0 = .ok (.aload_n 0, 1) := by decide +kernel
theorem d_Md_fresh_1 : decode prog_14_method_3_code 1 = .ok (.iconst 0, 1) := by decide +kernel
theorem d_Md_fresh_2 : decode prog_14_method_3_code 2 = .ok (.putfield 82, 3) := by decide +kernel
theorem d_Md_fresh_5 : decode prog_14_method_3_code 5 = .ok (.aload_n 0, 1) := by decide +kernel
theorem d_Md_fresh_6 : decode prog_14_method_3_code 6 = .ok (.iconst 0, 1) := by decide +kernel
theorem d_Md_fresh_7 : decode prog_14_method_3_code 7 = .ok (.putfield 86, 3) := by decide +kernel
theorem d_Md_fresh_10 : decode prog_14_method_3_code 10 = .ok (.aload_n 0, 1) := by decide +kernel
theorem d_Md_fresh_11 : decode prog_14_method_3_code 11 = .ok (.iconst 0, 1) := by decide +kernel
theorem d_Md_fresh_12 : decode prog_14_method_3_code 12 = .ok (.putfield 89, 3) := by decide +kernel
theorem d_Md_fresh_15 : decode prog_14_method_3_code 15 = .ok (.aload_n 0, 1) := by decide +kernel
theorem d_Md_fresh_16 : decode prog_14_method_3_code 16 = .ok (.iconst 0, 1) := by decide +kernel
theorem d_Md_fresh_17 : decode prog_14_method_3_code 17 = .ok (.putfield 92, 3) := by decide +kernel
theorem d_Md_fresh_20 : decode prog_14_method_3_code 20 = .ok (.aload_n 0, 1) := by decide +kernel
theorem d_Md_fresh_21 : decode prog_14_method_3_code 21 = .ok (.invokevirtual 95, 3) := by decide +kernel
theorem d_Md_fresh_24 : decode prog_14_method_3_code 24 = .ok (.return_, 1) := by decide +kernel
theorem d_Md_all_0 : decode prog_14_method_4_code 0 = .ok (.iconst 0, 1) := by decide +kernel
theorem d_Md_all_1 : decode prog_14_method_4_code 1 = .ok (.istore_n 1, 1) := by decide +kernel
theorem d_Md_all_2 : decode prog_14_method_4_code 2 = .ok (.iload_n 1, 1) := by decide +kernel
theorem d_Md_all_3 : decode prog_14_method_4_code 3 = .ok (.bipush 12, 2) := by decide +kernel
theorem d_Md_all_5 : decode prog_14_method_4_code 5 = .ok (.if_icmp .ge 23, 3) := by decide +kernel
theorem d_Md_all_8 : decode prog_14_method_4_code 8 = .ok (.aload_n 0, 1) := by decide +kernel
theorem d_Md_all_9 : decode prog_14_method_4_code 9 = .ok (.getfield 58, 3) := by decide +kernel
theorem d_Md_all_12 : decode prog_14_method_4_code 12 = .ok (.iload_n 1, 1) := by decide +kernel
theorem d_Md_all_13 : decode prog_14_method_4_code 13 = .ok (.iconst 1, 1) := by decide +kernel
theorem d_Md_all_14 : decode prog_14_method_4_code 14 = .ok (.aload_n 0, 1) := by decide +kernel
theorem d_Md_all_15 : decode prog_14_method_4_code 15 = .ok (.getfield 13, 3) := by decide +kernel
theorem d_Md_all_18 : decode prog_14_method_4_code 18 = .ok (.ishl, 1) := by decide +kernel
theorem d_Md_all_19 : decode prog_14_method_4_code 19 = .ok (.iconst 1, 1) := by decide +kernel
theorem d_Md_all_20 : decode prog_14_method_4_code 20 = .ok (.isub, 1) := by decide +kernel
theorem d_Md_all_21 : decode prog_14_method_4_code 21 = .ok (.iastore, 1) := by decide +kernel
theorem d_Md_all_22 : decode prog_14_method_4_code 22 = .ok (.iinc 1 1, 3) := by decide +kernel
theorem d_Md_all_25 : decode prog_14_method_4_code 25 = .ok (.goto (-23), 3) := by decide +kernel
theorem d_Md_all_28 : decode prog_14_method_4_code 28 = .ok (.iconst 0, 1) := by decide +kernel
theorem d_Md_all_29 : decode prog_14_method_4_code 29 = .ok (.istore_n 1, 1) := by decide +kernel
theorem d_Md_all_30 : decode prog_14_method_4_code 30 = .ok (.iload_n 1, 1) := by decide +kernel
theorem d_Md_all_31 : decode prog_14_method_4_code 31 = .ok (.iconst 3, 1) := by decide +kernel
theorem d_Md_all_32 : decode prog_14_method_4_code 32 = .ok (.if_icmp .ge 16, 3) := by decide +kernel
theorem d_Md_all_35 : decode prog_14_method_4_code 35 = .ok (.aload_n 0, 1) := by decide +kernel
theorem d_Md_all_36 : decode prog_14_method_4_code 36 = .ok (.getfield 61, 3) := by decide +kernel
theorem d_Md_all_39 : decode prog_14_method_4_code 39 = .ok (.iload_n 1, 1) := by decide +kernel
theorem d_Md_all_40 : decode prog_14_method_4_code 40 = .ok (.iconst 3, 1) := by decide +kernel
theorem d_Md_all_41 : decode prog_14_method_4_code 41 = .ok (.iastore, 1) := by decide +kernel
theorem d_Md_all_42 : decode prog_14_method_4_code 42 = .ok (.iinc 1 1, 3) := by decide +kernel
theorem d_Md_all_45 : decode prog_14_method_4_code 45 = .ok (.goto (-15), 3) := by decide +kernel
theorem d_Md_all_48 : decode prog_14_method_4_code 48 = .ok (.return_, 1) := by decide +kernel
theorem d_Md_unit_0 : decode prog_14_method_5_code 0 = .ok (.aload_n 0, 1) := by decide +kernel
theorem d_Md_unit_1 : decode prog_14_method_5_code 1 = .ok (.iconst 0, 1) := by decide +kernel
theorem d_Md_unit_2 : decode prog_14_method_5_code 2 = .ok (.putfield 79, 3) := by decide +kernel
theorem d_Md_unit_5 : decode prog_14_method_5_code 5 = .ok (.iload_n 1, 1) := by decide +kernel
theorem d_Md_unit_6 : decode prog_14_method_5_code 6 = .ok (.ifCond .lt 20, 3) := by decide +kernel
theorem d_Md_unit_9 : decode prog_14_method_5_code 9 = .ok (.iload_n 1, 1) := by decide +kernel
theorem d_Md_unit_10 : decode prog_14_method_5_code 10 = .ok (.sipush 255, 3) := by decide +kernel
theorem d_Md_unit_13 : decode prog_14_method_5_code 13 = .ok (.if_icmp .gt 13, 3) := by decide +kernel
theorem d_Md_unit_16 : decode prog_14_method_5_code 16 = .ok (.aload_n 0, 1) := by decide +kernel
theorem d_Md_unit_17 : decode prog_14_method_5_code 17 = .ok (.getfield 98, 3) := by decide +kernel
theorem d_Md_unit_20 : decode prog_14_method_5_code 20 = .ok (.sipush 300, 3) := by decide +kernel
theorem d_Md_unit_23 : decode prog_14_method_5_code 23 = .ok (.if_icmp .ne 5, 3) := by decide +kernel
theorem d_Md_unit_26 : decode prog_14_method_5_code 26 = .ok (.iconst 0, 1) := by decide +kernel
theorem d_Md_unit_27 : decode prog_14_method_5_code 27 = .ok (.ireturn, 1) := by decide +kernel
theorem d_Md_unit_28 : decode prog_14_method_5_code 28 = .ok (.aload_n 0, 1) := by decide +kernel
theorem d_Md_unit_29 : decode prog_14_method_5_code 29 = .ok (.getfield 7, 3) := by decide +kernel
theorem d_Md_unit_32 : decode prog_14_method_5_code 32 = .ok (.aload_n 0, 1) := by decide +kernel
theorem d_Md_unit_33 : decode prog_14_method_5_code 33 = .ok (.getfield 98, 3) := by decide +kernel
theorem d_Md_unit_36 : decode prog_14_method_5_code 36 = .ok (.iload_n 1, 1) := by decide +kernel
theorem d_Md_unit_37 : decode prog_14_method_5_code 37 = .ok (.iastore, 1) := by decide +kernel
theorem d_Md_unit_38 : decode prog_14_method_5_code 38 = .ok (.aload_n 0, 1) := by decide +kernel
theorem d_Md_unit_39 : decode prog_14_method_5_code 39 = .ok (.dup, 1) := by decide +kernel
theorem d_Md_unit_40 : decode prog_14_method_5_code 40 = .ok (.getfield 98, 3) := by decide +kernel
theorem d_Md_unit_43 : decode prog_14_method_5_code 43 = .ok (.iconst 1, 1) := by decide +kernel
theorem d_Md_unit_44 : decode prog_14_method_5_code 44 = .ok (.iadd, 1) := by decide +kernel
theorem d_Md_unit_45 : decode prog_14_method_5_code 45 = .ok (.putfield 98, 3) := by decide +kernel
theorem d_Md_unit_48 : decode prog_14_method_5_code 48 = .ok (.iconst 1, 1) := by decide +kernel
theorem d_Md_unit_49 : decode prog_14_method_5_code 49 = .ok (.ireturn, 1) := by decide +kernel
theorem d_Md_read_0 : decode prog_14_method_12_code 0 = .ok (.aload_n 0, 1) := by decide +kernel
theorem d_Md_read_1 : decode prog_14_method_12_code 1 = .ok (.iconst 0, 1) := by decide +kernel
theorem d_Md_read_2 : decode prog_14_method_12_code 2 = .ok (.putfield 79, 3) := by decide +kernel
theorem d_Md_read_5 : decode prog_14_method_12_code 5 = .ok (.aload_n 0, 1) := by decide +kernel
theorem d_Md_read_6 : decode prog_14_method_12_code 6 = .ok (.invokevirtual 135, 3) := by decide +kernel
theorem d_Md_read_9 : decode prog_14_method_12_code 9 = .ok (.istore_n 1, 1) := by decide +kernel
theorem d_Md_read_10 : decode prog_14_method_12_code 10 = .ok (.aload_n 0, 1) := by decide +kernel
theorem d_Md_read_11 : decode prog_14_method_12_code 11 = .ok (.iconst 0, 1) := by decide +kernel
theorem d_Md_read_12 : decode prog_14_method_12_code 12 = .ok (.putfield 98, 3) := by decide +kernel
theorem d_Md_read_15 : decode prog_14_method_12_code 15 = .ok (.iload_n 1, 1) := by decide +kernel
theorem d_Md_read_16 : decode prog_14_method_12_code 16 = .ok (.ifCond .ne 10, 3) := by decide +kernel
theorem d_Md_read_19 : decode prog_14_method_12_code 19 = .ok (.iconst (-1), 1) := by decide +kernel
theorem d_Md_read_20 : decode prog_14_method_12_code 20 = .ok (.aload_n 0, 1) := by decide +kernel
theorem d_Md_read_21 : decode prog_14_method_12_code 21 = .ok (.getfield 101, 3) := by decide +kernel
theorem d_Md_read_24 : decode prog_14_method_12_code 24 = .ok (.isub, 1) := by decide +kernel
theorem d_Md_read_25 : decode prog_14_method_12_code 25 = .ok (.ireturn, 1) := by decide +kernel
theorem d_Md_read_26 : decode prog_14_method_12_code 26 = .ok (.aload_n 0, 1) := by decide +kernel
theorem d_Md_read_27 : decode prog_14_method_12_code 27 = .ok (.aload_n 0, 1) := by decide +kernel
theorem d_Md_read_28 : decode prog_14_method_12_code 28 = .ok (.getfield 111, 3) := by decide +kernel
theorem d_Md_read_31 : decode prog_14_method_12_code 31 = .ok (.putfield 13, 3) := by decide +kernel
theorem d_Md_read_34 : decode prog_14_method_12_code 34 = .ok (.aload_n 0, 1) := by decide +kernel
theorem d_Md_read_35 : decode prog_14_method_12_code 35 = .ok (.aload_n 0, 1) := by decide +kernel
theorem d_Md_read_36 : decode prog_14_method_12_code 36 = .ok (.getfield 108, 3) := by decide +kernel
theorem d_Md_read_39 : decode prog_14_method_12_code 39 = .ok (.putfield 138, 3) := by decide +kernel
theorem d_Md_read_42 : decode prog_14_method_12_code 42 = .ok (.aload_n 0, 1) := by decide +kernel
theorem d_Md_read_43 : decode prog_14_method_12_code 43 = .ok (.aload_n 0, 1) := by decide +kernel
theorem d_Md_read_44 : decode prog_14_method_12_code 44 = .ok (.getfield 128, 3) := by decide +kernel
theorem d_Md_read_47 : decode prog_14_method_12_code 47 = .ok (.putfield 141, 3) := by decide +kernel
theorem d_Md_read_50 : decode prog_14_method_12_code 50 = .ok (.aload_n 0, 1) := by decide +kernel
theorem d_Md_read_51 : decode prog_14_method_12_code 51 = .ok (.aload_n 0, 1) := by decide +kernel
theorem d_Md_read_52 : decode prog_14_method_12_code 52 = .ok (.getfield 118, 3) := by decide +kernel
theorem d_Md_read_55 : decode prog_14_method_12_code 55 = .ok (.putfield 144, 3) := by decide +kernel
theorem d_Md_read_58 : decode prog_14_method_12_code 58 = .ok (.iconst 0, 1) := by decide +kernel
theorem d_Md_read_59 : decode prog_14_method_12_code 59 = .ok (.istore_n 2, 1) := by decide +kernel
theorem d_Md_read_60 : decode prog_14_method_12_code 60 = .ok (.iload_n 2, 1) := by decide +kernel
theorem d_Md_read_61 : decode prog_14_method_12_code 61 = .ok (.aload_n 0, 1) := by decide +kernel
theorem d_Md_read_62 : decode prog_14_method_12_code 62 = .ok (.getfield 144, 3) := by decide +kernel
theorem d_Md_read_65 : decode prog_14_method_12_code 65 = .ok (.if_icmp .gt 21, 3) := by decide +kernel
theorem d_Md_read_68 : decode prog_14_method_12_code 68 = .ok (.aload_n 0, 1) := by decide +kernel
theorem d_Md_read_69 : decode prog_14_method_12_code 69 = .ok (.getfield 17, 3) := by decide +kernel
theorem d_Md_read_72 : decode prog_14_method_12_code 72 = .ok (.iload_n 2, 1) := by decide +kernel
theorem d_Md_read_73 : decode prog_14_method_12_code 73 = .ok (.aload_n 0, 1) := by decide +kernel
theorem d_Md_read_74 : decode prog_14_method_12_code 74 = .ok (.getfield 29, 3) := by decide +kernel
theorem d_Md_read_77 : decode prog_14_method_12_code 77 = .ok (.iload_n 2, 1) := by decide +kernel
theorem d_Md_read_78 : decode prog_14_method_12_code 78 = .ok (.iaload, 1) := by decide +kernel
theorem d_Md_read_79 : decode prog_14_method_12_code 79 = .ok (.iastore, 1) := by decide +kernel
theorem d_Md_read_80 : decode prog_14_method_12_code 80 = .ok (.iinc 2 1, 3) := by decide +kernel
theorem d_Md_read_83 : decode prog_14_method_12_code 83 = .ok (.goto (-23), 3) := by decide +kernel
theorem d_Md_read_86 : decode prog_14_method_12_code 86 = .ok (.iconst 0, 1) := by decide +kernel
theorem d_Md_read_87 : decode prog_14_method_12_code 87 = .ok (.istore_n 2, 1) := by decide +kernel
theorem d_Md_read_88 : decode prog_14_method_12_code 88 = .ok (.iload_n 2, 1) := by decide +kernel
theorem d_Md_read_89 : decode prog_14_method_12_code 89 = .ok (.aload_n 0, 1) := by decide +kernel
theorem d_Md_read_90 : decode prog_14_method_12_code 90 = .ok (.getfield 17, 3) := by decide +kernel
theorem d_Md_read_93 : decode prog_14_method_12_code 93 = .ok (.aload_n 0, 1) := by decide +kernel
theorem d_Md_read_94 : decode prog_14_method_12_code 94 = .ok (.getfield 144, 3) := by decide +kernel
theorem d_Md_read_97 : decode prog_14_method_12_code 97 = .ok (.iaload, 1) := by decide +kernel
theorem d_Md_read_98 : decode prog_14_method_12_code 98 = .ok (.if_icmp .ge 45, 3) := by decide +kernel
theorem d_Md_read_101 : decode prog_14_method_12_code 101 = .ok (.aload_n 0, 1) := by decide +kernel
theorem d_Md_read_102 : decode prog_14_method_12_code 102 = .ok (.getfield 20, 3) := by decide +kernel
theorem d_Md_read_105 : decode prog_14_method_12_code 105 = .ok (.iload_n 2, 1) := by decide +kernel
theorem d_Md_read_106 : decode prog_14_method_12_code 106 = .ok (.aload_n 0, 1) := by decide +kernel
theorem d_Md_read_107 : decode prog_14_method_12_code 107 = .ok (.getfield 32, 3) := by decide +kernel
theorem d_Md_read_110 : decode prog_14_method_12_code 110 = .ok (.iload_n 2, 1) := by decide +kernel
theorem d_Md_read_111 : decode prog_14_method_12_code 111 = .ok (.iaload, 1) := by decide +kernel
theorem d_Md_read_112 : decode prog_14_method_12_code 112 = .ok (.iastore, 1) := by decide +kernel
theorem d_Md_read_113 : decode prog_14_method_12_code 113 = .ok (.aload_n 0, 1) := by decide +kernel
theorem d_Md_read_114 : decode prog_14_method_12_code 114 = .ok (.getfield 23, 3) := by decide +kernel
theorem d_Md_read_117 : decode prog_14_method_12_code 117 = .ok (.iload_n 2, 1) := by decide +kernel
theorem d_Md_read_118 : decode prog_14_method_12_code 118 = .ok (.aload_n 0, 1) := by decide +kernel
theorem d_Md_read_119 : decode prog_14_method_12_code 119 = .ok (.getfield 35, 3) := by decide +kernel
theorem d_Md_read_122 : decode prog_14_method_12_code 122 = .ok (.iload_n 2, 1) := by decide +kernel
theorem d_Md_read_123 : decode prog_14_method_12_code 123 = .ok (.iaload, 1) := by decide +kernel
theorem d_Md_read_124 : decode prog_14_method_12_code 124 = .ok (.iastore, 1) := by decide +kernel
theorem d_Md_read_125 : decode prog_14_method_12_code 125 = .ok (.aload_n 0, 1) := by decide +kernel
theorem d_Md_read_126 : decode prog_14_method_12_code 126 = .ok (.getfield 26, 3) := by decide +kernel
theorem d_Md_read_129 : decode prog_14_method_12_code 129 = .ok (.iload_n 2, 1) := by decide +kernel
theorem d_Md_read_130 : decode prog_14_method_12_code 130 = .ok (.aload_n 0, 1) := by decide +kernel
theorem d_Md_read_131 : decode prog_14_method_12_code 131 = .ok (.getfield 38, 3) := by decide +kernel
theorem d_Md_read_134 : decode prog_14_method_12_code 134 = .ok (.iload_n 2, 1) := by decide +kernel
theorem d_Md_read_135 : decode prog_14_method_12_code 135 = .ok (.iaload, 1) := by decide +kernel
theorem d_Md_read_136 : decode prog_14_method_12_code 136 = .ok (.iastore, 1) := by decide +kernel
theorem d_Md_read_137 : decode prog_14_method_12_code 137 = .ok (.iinc 2 1, 3) := by decide +kernel
theorem d_Md_read_140 : decode prog_14_method_12_code 140 = .ok (.goto (-52), 3) := by decide +kernel
theorem d_Md_read_143 : decode prog_14_method_12_code 143 = .ok (.aload_n 0, 1) := by decide +kernel
theorem d_Md_read_144 : decode prog_14_method_12_code 144 = .ok (.invokevirtual 76, 3) := by decide +kernel
theorem d_Md_read_147 : decode prog_14_method_12_code 147 = .ok (.aload_n 0, 1) := by decide +kernel
theorem d_Md_read_148 : decode prog_14_method_12_code 148 = .ok (.getfield 144, 3) := by decide +kernel
theorem d_Md_read_151 : decode prog_14_method_12_code 151 = .ok (.ireturn, 1) := by decide +kernel
theorem d_Md_readAll_0 : decode prog_14_method_11_code 0 = .ok (.aload_n 0, 1) := by decide +kernel
theorem d_Md_readAll_1 : decode prog_14_method_11_code 1 = .ok (.iconst 0, 1) := by decide +kernel
theorem d_Md_readAll_2 : decode prog_14_method_11_code 2 = .ok (.putfield 101, 3) := by decide +kernel
theorem d_Md_readAll_5 : decode prog_14_method_11_code 5 = .ok (.aload_n 0, 1) := by decide +kernel
theorem d_Md_readAll_6 : decode prog_14_method_11_code 6 = .ok (.iconst 0, 1) := by decide +kernel
theorem d_Md_readAll_7 : decode prog_14_method_11_code 7 = .ok (.putfield 118, 3) := by decide +kernel
theorem d_Md_readAll_10 : decode prog_14_method_11_code 10 = .ok (.aload_n 0, 1) := by decide +kernel
theorem d_Md_readAll_11 : decode prog_14_method_11_code 11 = .ok (.getfield 29, 3) := by decide +kernel
theorem d_Md_readAll_14 : decode prog_14_method_11_code 14 = .ok (.iconst 0, 1) := by decide +kernel
theorem d_Md_readAll_15 : decode prog_14_method_11_code 15 = .ok (.iconst 0, 1) := by decide +kernel
theorem d_Md_readAll_16 : decode prog_14_method_11_code 16 = .ok (.iastore, 1) := by decide +kernel
theorem d_Md_readAll_17 : decode prog_14_method_11_code 17 = .ok (.aload_n 0, 1) := by decide +kernel
theorem d_Md_readAll_18 : decode prog_14_method_11_code 18 = .ok (.aload_n 0, 1) := by decide +kernel
theorem d_Md_readAll_19 : decode prog_14_method_11_code 19 = .ok (.iconst 1, 1) := by decide +kernel
theorem d_Md_readAll_20 : decode prog_14_method_11_code 20 = .ok (.iconst 4, 1) := by decide +kernel
theorem d_Md_readAll_21 : decode prog_14_method_11_code 21 = .ok (.invokevirtual 114, 3) := by decide +kernel
theorem d_Md_readAll_24 : decode prog_14_method_11_code 24 = .ok (.putfield 111, 3) := by decide +kernel
theorem d_Md_readAll_27 : decode prog_14_method_11_code 27 = .ok (.aload_n 0, 1) := by decide +kernel
theorem d_Md_readAll_28 : decode prog_14_method_11_code 28 = .ok (.getfield 111, 3) := by decide +kernel
theorem d_Md_readAll_31 : decode prog_14_method_11_code 31 = .ok (.ifCond .ge 5, 3) := by decide +kernel
theorem d_Md_readAll_34 : decode prog_14_method_11_code 34 = .ok (.iconst 0, 1) := by decide +kernel
theorem d_Md_readAll_35 : decode prog_14_method_11_code 35 = .ok (.ireturn, 1) := by decide +kernel
theorem d_Md_readAll_36 : decode prog_14_method_11_code 36 = .ok (.aload_n 0, 1) := by decide +kernel
theorem d_Md_readAll_37 : decode prog_14_method_11_code 37 = .ok (.aload_n 0, 1) := by decide +kernel
theorem d_Md_readAll_38 : decode prog_14_method_11_code 38 = .ok (.iconst 0, 1) := by decide +kernel
theorem d_Md_readAll_39 : decode prog_14_method_11_code 39 = .ok (.iconst 3, 1) := by decide +kernel
theorem d_Md_readAll_40 : decode prog_14_method_11_code 40 = .ok (.invokevirtual 114, 3) := by decide +kernel
theorem d_Md_readAll_43 : decode prog_14_method_11_code 43 = .ok (.putfield 108, 3) := by decide +kernel
theorem d_Md_readAll_46 : decode prog_14_method_11_code 46 = .ok (.aload_n 0, 1) := by decide +kernel
theorem d_Md_readAll_47 : decode prog_14_method_11_code 47 = .ok (.getfield 108, 3) := by decide +kernel
theorem d_Md_readAll_50 : decode prog_14_method_11_code 50 = .ok (.ifCond .ge 5, 3) := by decide +kernel
theorem d_Md_readAll_53 : decode prog_14_method_11_code 53 = .ok (.iconst 0, 1) := by decide +kernel
theorem d_Md_readAll_54 : decode prog_14_method_11_code 54 = .ok (.ireturn, 1) := by decide +kernel
theorem d_Md_readAll_55 : decode prog_14_method_11_code 55 = .ok (.aload_n 0, 1) := by decide +kernel
theorem d_Md_readAll_56 : decode prog_14_method_11_code 56 = .ok (.aload_n 0, 1) := by decide +kernel
theorem d_Md_readAll_57 : decode prog_14_method_11_code 57 = .ok (.iconst 0, 1) := by decide +kernel
theorem d_Md_readAll_58 : decode prog_14_method_11_code 58 = .ok (.iconst 3, 1) := by decide +kernel
theorem d_Md_readAll_59 : decode prog_14_method_11_code 59 = .ok (.invokevirtual 114, 3) := by decide +kernel
theorem d_Md_readAll_62 : decode prog_14_method_11_code 62 = .ok (.putfield 128, 3) := by decide +kernel
theorem d_Md_readAll_65 : decode prog_14_method_11_code 65 = .ok (.aload_n 0, 1) := by decide +kernel
theorem d_Md_readAll_66 : decode prog_14_method_11_code 66 = .ok (.getfield 128, 3) := by decide +kernel
theorem d_Md_readAll_69 : decode prog_14_method_11_code 69 = .ok (.ifCond .lt 16, 3) := by decide +kernel
theorem d_Md_readAll_72 : decode prog_14_method_11_code 72 = .ok (.aload_n 0, 1) := by decide +kernel
theorem d_Md_readAll_73 : decode prog_14_method_11_code 73 = .ok (.aload_n 0, 1) := by decide +kernel
theorem d_Md_readAll_74 : decode prog_14_method_11_code 74 = .ok (.getfield 101, 3) := by decide +kernel
theorem d_Md_readAll_77 : decode prog_14_method_11_code 77 = .ok (.invokevirtual 104, 3) := by decide +kernel
theorem d_Md_readAll_80 : decode prog_14_method_11_code 80 = .ok (.bipush 59, 2) := by decide +kernel
theorem d_Md_readAll_82 : decode prog_14_method_11_code 82 = .ok (.if_icmp .eq 5, 3) := by decide +kernel
theorem d_Md_readAll_85 : decode prog_14_method_11_code 85 = .ok (.iconst 0, 1) := by decide +kernel
theorem d_Md_readAll_86 : decode prog_14_method_11_code 86 = .ok (.ireturn, 1) := by decide +kernel
theorem d_Md_readAll_87 : decode prog_14_method_11_code 87 = .ok (.aload_n 0, 1) := by decide +kernel
theorem d_Md_readAll_88 : decode prog_14_method_11_code 88 = .ok (.dup, 1) := by decide +kernel
theorem d_Md_readAll_89 : decode prog_14_method_11_code 89 = .ok (.getfield 101, 3) := by decide +kernel
theorem d_Md_readAll_92 : decode prog_14_method_11_code 92 = .ok (.iconst 1, 1) := by decide +kernel
theorem d_Md_readAll_93 : decode prog_14_method_11_code 93 = .ok (.iadd, 1) := by decide +kernel
theorem d_Md_readAll_94 : decode prog_14_method_11_code 94 = .ok (.putfield 101, 3) := by decide +kernel
theorem d_Md_readAll_97 : decode prog_14_method_11_code 97 = .ok (.aload_n 0, 1) := by decide +kernel
theorem d_Md_readAll_98 : decode prog_14_method_11_code 98 = .ok (.getfield 101, 3) := by decide +kernel
theorem d_Md_readAll_101 : decode prog_14_method_11_code 101 = .ok (.aload_n 0, 1) := by decide +kernel
theorem d_Md_readAll_102 : decode prog_14_method_11_code 102 = .ok (.getfield 98, 3) := by decide +kernel
theorem d_Md_readAll_105 : decode prog_14_method_11_code 105 = .ok (.if_icmp .ge 57, 3) := by decide +kernel
theorem d_Md_readAll_108 : decode prog_14_method_11_code 108 = .ok (.aload_n 0, 1) := by decide +kernel
theorem d_Md_readAll_109 : decode prog_14_method_11_code 109 = .ok (.invokevirtual 131, 3) := by decide +kernel
theorem d_Md_readAll_112 : decode prog_14_method_11_code 112 = .ok (.ifCond .eq 25, 3) := by decide +kernel
theorem d_Md_readAll_115 : decode prog_14_method_11_code 115 = .ok (.aload_n 0, 1) := by decide +kernel
theorem d_Md_readAll_116 : decode prog_14_method_11_code 116 = .ok (.aload_n 0, 1) := by decide +kernel
theorem d_Md_readAll_117 : decode prog_14_method_11_code 117 = .ok (.getfield 101, 3) := by decide +kernel
theorem d_Md_readAll_120 : decode prog_14_method_11_code 120 = .ok (.invokevirtual 104, 3) := by decide +kernel
theorem d_Md_readAll_123 : decode prog_14_method_11_code 123 = .ok (.bipush 59, 2) := by decide +kernel
theorem d_Md_readAll_125 : decode prog_14_method_11_code 125 = .ok (.if_icmp .ne 12, 3) := by decide +kernel
theorem d_Md_readAll_128 : decode prog_14_method_11_code 128 = .ok (.aload_n 0, 1) := by decide +kernel
theorem d_Md_readAll_129 : decode prog_14_method_11_code 129 = .ok (.getfield 118, 3) := by decide +kernel
theorem d_Md_readAll_132 : decode prog_14_method_11_code 132 = .ok (.bipush 20, 2) := by decide +kernel
theorem d_Md_readAll_134 : decode prog_14_method_11_code 134 = .ok (.if_icmp .ne 5, 3) := by decide +kernel
theorem d_Md_readAll_137 : decode prog_14_method_11_code 137 = .ok (.iconst 0, 1) := by decide +kernel
theorem d_Md_readAll_138 : decode prog_14_method_11_code 138 = .ok (.ireturn, 1) := by decide +kernel
theorem d_Md_readAll_139 : decode prog_14_method_11_code 139 = .ok (.aload_n 0, 1) := by decide +kernel
theorem d_Md_readAll_140 : decode prog_14_method_11_code 140 = .ok (.dup, 1) := by decide +kernel
theorem d_Md_readAll_141 : decode prog_14_method_11_code 141 = .ok (.getfield 101, 3) := by decide +kernel
theorem d_Md_readAll_144 : decode prog_14_method_11_code 144 = .ok (.iconst 1, 1) := by decide +kernel
theorem d_Md_readAll_145 : decode prog_14_method_11_code 145 = .ok (.iadd, 1) := by decide +kernel
theorem d_Md_readAll_146 : decode prog_14_method_11_code 146 = .ok (.putfield 101, 3) := by decide +kernel
theorem d_Md_readAll_149 : decode prog_14_method_11_code 149 = .ok (.aload_n 0, 1) := by decide +kernel
theorem d_Md_readAll_150 : decode prog_14_method_11_code 150 = .ok (.dup, 1) := by decide +kernel
theorem d_Md_readAll_151 : decode prog_14_method_11_code 151 = .ok (.getfield 118, 3) := by decide +kernel
theorem d_Md_readAll_154 : decode prog_14_method_11_code 154 = .ok (.iconst 1, 1) := by decide +kernel
theorem d_Md_readAll_155 : decode prog_14_method_11_code 155 = .ok (.iadd, 1) := by decide +kernel
theorem d_Md_readAll_156 : decode prog_14_method_11_code 156 = .ok (.putfield 118, 3) := by decide +kernel
theorem d_Md_readAll_159 : decode prog_14_method_11_code 159 = .ok (.goto (-62), 3) := by decide +kernel
theorem d_Md_readAll_162 : decode prog_14_method_11_code 162 = .ok (.iconst 1, 1) := by decide +kernel
theorem d_Md_readAll_163 : decode prog_14_method_11_code 163 = .ok (.ireturn, 1) := by decide +kernel
theorem d_Md_digit_0 : decode prog_14_method_7_code 0 = .ok (.aload_n 0, 1) := by decide +kernel
theorem d_Md_digit_1 : decode prog_14_method_7_code 1 = .ok (.aload_n 0, 1) := by decide +kernel
theorem d_Md_digit_2 : decode prog_14_method_7_code 2 = .ok (.getfield 101, 3) := by decide +kernel
theorem d_Md_digit_5 : decode prog_14_method_7_code 5 = .ok (.invokevirtual 104, 3) := by decide +kernel
theorem d_Md_digit_8 : decode prog_14_method_7_code 8 = .ok (.bipush 48, 2) := by decide +kernel
theorem d_Md_digit_10 : decode prog_14_method_7_code 10 = .ok (.isub, 1) := by decide +kernel
theorem d_Md_digit_11 : decode prog_14_method_7_code 11 = .ok (.istore_n 3, 1) := by decide +kernel
theorem d_Md_digit_12 : decode prog_14_method_7_code 12 = .ok (.aload_n 0, 1) := by decide +kernel
theorem d_Md_digit_13 : decode prog_14_method_7_code 13 = .ok (.getfield 101, 3) := by decide +kernel
theorem d_Md_digit_16 : decode prog_14_method_7_code 16 = .ok (.aload_n 0, 1) := by decide +kernel
theorem d_Md_digit_17 : decode prog_14_method_7_code 17 = .ok (.getfield 98, 3) := by decide +kernel
theorem d_Md_digit_20 : decode prog_14_method_7_code 20 = .ok (.if_icmp .ge 13, 3) := by decide +kernel
theorem d_Md_digit_23 : decode prog_14_method_7_code 23 = .ok (.iload_n 3, 1) := by decide +kernel
theorem d_Md_digit_24 : decode prog_14_method_7_code 24 = .ok (.iload_n 1, 1) := by decide +kernel
theorem d_Md_digit_25 : decode prog_14_method_7_code 25 = .ok (.if_icmp .lt 8, 3) := by decide +kernel
theorem d_Md_digit_28 : decode prog_14_method_7_code 28 = .ok (.iload_n 3, 1) := by decide +kernel
theorem d_Md_digit_29 : decode prog_14_method_7_code 29 = .ok (.iload_n 2, 1) := by decide +kernel
theorem d_Md_digit_30 : decode prog_14_method_7_code 30 = .ok (.if_icmp .le 5, 3) := by decide +kernel
theorem d_Md_digit_33 : decode prog_14_method_7_code 33 = .ok (.iconst (-1), 1) := by decide +kernel
theorem d_Md_digit_34 : decode prog_14_method_7_code 34 = .ok (.ireturn, 1) := by decide +kernel
theorem d_Md_digit_35 : decode prog_14_method_7_code 35 = .ok (.aload_n 0, 1) := by decide +kernel
theorem d_Md_digit_36 : decode prog_14_method_7_code 36 = .ok (.dup, 1) := by decide +kernel
theorem d_Md_digit_37 : decode prog_14_method_7_code 37 = .ok (.getfield 101, 3) := by decide +kernel
theorem d_Md_digit_40 : decode prog_14_method_7_code 40 = .ok (.iconst 1, 1) := by decide +kernel
theorem d_Md_digit_41 : decode prog_14_method_7_code 41 = .ok (.iadd, 1) := by decide +kernel
theorem d_Md_digit_42 : decode prog_14_method_7_code 42 = .ok (.putfield 101, 3) := by decide +kernel
theorem d_Md_digit_45 : decode prog_14_method_7_code 45 = .ok (.iload_n 3, 1) := by decide +kernel
theorem d_Md_digit_46 : decode prog_14_method_7_code 46 = .ok (.ireturn, 1) := by decide +kernel
theorem d_Md_byteAt_0 : decode prog_14_method_6_code 0 = .ok (.iload_n 1, 1) := by decide +kernel
theorem d_Md_byteAt_1 : decode prog_14_method_6_code 1 = .ok (.aload_n 0, 1) := by decide +kernel
theorem d_Md_byteAt_2 : decode prog_14_method_6_code 2 = .ok (.getfield 98, 3) := by decide +kernel
theorem d_Md_byteAt_5 : decode prog_14_method_6_code 5 = .ok (.if_icmp .ge 12, 3) := by decide +kernel
theorem d_Md_byteAt_8 : decode prog_14_method_6_code 8 = .ok (.aload_n 0, 1) := by decide +kernel
theorem d_Md_byteAt_9 : decode prog_14_method_6_code 9 = .ok (.getfield 7, 3) := by decide +kernel
theorem d_Md_byteAt_12 : decode prog_14_method_6_code 12 = .ok (.iload_n 1, 1) := by decide +kernel
theorem d_Md_byteAt_13 : decode prog_14_method_6_code 13 = .ok (.iaload, 1) := by decide +kernel
theorem d_Md_byteAt_14 : decode prog_14_method_6_code 14 = .ok (.goto 4, 3) := by decide +kernel
theorem d_Md_byteAt_17 : decode prog_14_method_6_code 17 = .ok (.iconst (-1), 1) := by decide +kernel
theorem d_Md_byteAt_18 : decode prog_14_method_6_code 18 = .ok (.ireturn, 1) := by decide +kernel
theorem d_Md_readClue_0 : decode prog_14_method_10_code 0 = .ok (.iconst 1, 1) := by decide +kernel
theorem d_Md_readClue_1 : decode prog_14_method_10_code 1 = .ok (.istore_n 1, 1) := by decide +kernel
theorem d_Md_readClue_2 : decode prog_14_method_10_code 2 = .ok (.aload_n 0, 1) := by decide +kernel
theorem d_Md_readClue_3 : decode prog_14_method_10_code 3 = .ok (.getfield 29, 3) := by decide +kernel
theorem d_Md_readClue_6 : decode prog_14_method_10_code 6 = .ok (.aload_n 0, 1) := by decide +kernel
theorem d_Md_readClue_7 : decode prog_14_method_10_code 7 = .ok (.getfield 118, 3) := by decide +kernel
theorem d_Md_readClue_10 : decode prog_14_method_10_code 10 = .ok (.iaload, 1) := by decide +kernel
theorem d_Md_readClue_11 : decode prog_14_method_10_code 11 = .ok (.istore_n 2, 1) := by decide +kernel
theorem d_Md_readClue_12 : decode prog_14_method_10_code 12 = .ok (.iload_n 1, 1) := by decide +kernel
theorem d_Md_readClue_13 : decode prog_14_method_10_code 13 = .ok (.ifCond .le 170, 3) := by decide +kernel
theorem d_Md_readClue_16 : decode prog_14_method_10_code 16 = .ok (.aload_n 0, 1) := by decide +kernel
theorem d_Md_readClue_17 : decode prog_14_method_10_code 17 = .ok (.aload_n 0, 1) := by decide +kernel
theorem d_Md_readClue_18 : decode prog_14_method_10_code 18 = .ok (.getfield 101, 3) := by decide +kernel
theorem d_Md_readClue_21 : decode prog_14_method_10_code 21 = .ok (.invokevirtual 104, 3) := by decide +kernel
theorem d_Md_readClue_24 : decode prog_14_method_10_code 24 = .ok (.invokestatic 121, 3) := by decide +kernel
theorem d_Md_readClue_27 : decode prog_14_method_10_code 27 = .ok (.istore_n 3, 1) := by decide +kernel
theorem d_Md_readClue_28 : decode prog_14_method_10_code 28 = .ok (.iload_n 3, 1) := by decide +kernel
theorem d_Md_readClue_29 : decode prog_14_method_10_code 29 = .ok (.ifCond .lt 19, 3) := by decide +kernel
theorem d_Md_readClue_32 : decode prog_14_method_10_code 32 = .ok (.iload_n 2, 1) := by decide +kernel
theorem d_Md_readClue_33 : decode prog_14_method_10_code 33 = .ok (.aload_n 0, 1) := by decide +kernel
theorem d_Md_readClue_34 : decode prog_14_method_10_code 34 = .ok (.getfield 29, 3) := by decide +kernel
theorem d_Md_readClue_37 : decode prog_14_method_10_code 37 = .ok (.aload_n 0, 1) := by decide +kernel
theorem d_Md_readClue_38 : decode prog_14_method_10_code 38 = .ok (.getfield 118, 3) := by decide +kernel
theorem d_Md_readClue_41 : decode prog_14_method_10_code 41 = .ok (.iaload, 1) := by decide +kernel
theorem d_Md_readClue_42 : decode prog_14_method_10_code 42 = .ok (.bipush 30, 2) := by decide +kernel
theorem d_Md_readClue_44 : decode prog_14_method_10_code 44 = .ok (.iadd, 1) := by decide +kernel
theorem d_Md_readClue_45 : decode prog_14_method_10_code 45 = .ok (.if_icmp .ne 5, 3) := by decide +kernel
theorem d_Md_readClue_48 : decode prog_14_method_10_code 48 = .ok (.iconst 0, 1) := by decide +kernel
theorem d_Md_readClue_49 : decode prog_14_method_10_code 49 = .ok (.ireturn, 1) := by decide +kernel
theorem d_Md_readClue_50 : decode prog_14_method_10_code 50 = .ok (.aload_n 0, 1) := by decide +kernel
theorem d_Md_readClue_51 : decode prog_14_method_10_code 51 = .ok (.dup, 1) := by decide +kernel
theorem d_Md_readClue_52 : decode prog_14_method_10_code 52 = .ok (.getfield 101, 3) := by decide +kernel
theorem d_Md_readClue_55 : decode prog_14_method_10_code 55 = .ok (.iconst 1, 1) := by decide +kernel
theorem d_Md_readClue_56 : decode prog_14_method_10_code 56 = .ok (.iadd, 1) := by decide +kernel
theorem d_Md_readClue_57 : decode prog_14_method_10_code 57 = .ok (.putfield 101, 3) := by decide +kernel
theorem d_Md_readClue_60 : decode prog_14_method_10_code 60 = .ok (.aload_n 0, 1) := by decide +kernel
theorem d_Md_readClue_61 : decode prog_14_method_10_code 61 = .ok (.getfield 32, 3) := by decide +kernel
theorem d_Md_readClue_64 : decode prog_14_method_10_code 64 = .ok (.iload_n 2, 1) := by decide +kernel
theorem d_Md_readClue_65 : decode prog_14_method_10_code 65 = .ok (.iload_n 3, 1) := by decide +kernel
theorem d_Md_readClue_66 : decode prog_14_method_10_code 66 = .ok (.iastore, 1) := by decide +kernel
theorem d_Md_readClue_67 : decode prog_14_method_10_code 67 = .ok (.aload_n 0, 1) := by decide +kernel
theorem d_Md_readClue_68 : decode prog_14_method_10_code 68 = .ok (.getfield 35, 3) := by decide +kernel
theorem d_Md_readClue_71 : decode prog_14_method_10_code 71 = .ok (.iload_n 2, 1) := by decide +kernel
theorem d_Md_readClue_72 : decode prog_14_method_10_code 72 = .ok (.iload_n 3, 1) := by decide +kernel
theorem d_Md_readClue_73 : decode prog_14_method_10_code 73 = .ok (.iconst 4, 1) := by decide +kernel
theorem d_Md_readClue_74 : decode prog_14_method_10_code 74 = .ok (.if_icmp .ge 10, 3) := by decide +kernel
theorem d_Md_readClue_77 : decode prog_14_method_10_code 77 = .ok (.aload_n 0, 1) := by decide +kernel
theorem d_Md_readClue_78 : decode prog_14_method_10_code 78 = .ok (.invokevirtual 124, 3) := by decide +kernel
theorem d_Md_readClue_81 : decode prog_14_method_10_code 81 = .ok (.goto 24, 3) := by decide +kernel
theorem d_Md_readClue_84 : decode prog_14_method_10_code 84 = .ok (.iload_n 3, 1) := by decide +kernel
theorem d_Md_readClue_85 : decode prog_14_method_10_code 85 = .ok (.bipush 6, 2) := by decide +kernel
theorem d_Md_readClue_87 : decode prog_14_method_10_code 87 = .ok (.if_icmp .ge 17, 3) := by decide +kernel
theorem d_Md_readClue_90 : decode prog_14_method_10_code 90 = .ok (.aload_n 0, 1) := by decide +kernel
theorem d_Md_readClue_91 : decode prog_14_method_10_code 91 = .ok (.iconst 0, 1) := by decide +kernel
theorem d_Md_readClue_92 : decode prog_14_method_10_code 92 = .ok (.aload_n 0, 1) := by decide +kernel
theorem d_Md_readClue_93 : decode prog_14_method_10_code 93 = .ok (.getfield 128, 3) := by decide +kernel
theorem d_Md_readClue_96 : decode prog_14_method_10_code 96 = .ok (.iconst 1, 1) := by decide +kernel
theorem d_Md_readClue_97 : decode prog_14_method_10_code 97 = .ok (.isub, 1) := by decide +kernel
theorem d_Md_readClue_98 : decode prog_14_method_10_code 98 = .ok (.invokevirtual 114, 3) := by decide +kernel
theorem d_Md_readClue_101 : decode prog_14_method_10_code 101 = .ok (.goto 4, 3) := by decide +kernel
theorem d_Md_readClue_104 : decode prog_14_method_10_code 104 = .ok (.iconst 0, 1) := by decide +kernel
theorem d_Md_readClue_105 : decode prog_14_method_10_code 105 = .ok (.iastore, 1) := by decide +kernel
theorem d_Md_readClue_106 : decode prog_14_method_10_code 106 = .ok (.aload_n 0, 1) := by decide +kernel
theorem d_Md_readClue_107 : decode prog_14_method_10_code 107 = .ok (.getfield 38, 3) := by decide +kernel
theorem d_Md_readClue_110 : decode prog_14_method_10_code 110 = .ok (.iload_n 2, 1) := by decide +kernel
theorem d_Md_readClue_111 : decode prog_14_method_10_code 111 = .ok (.iload_n 3, 1) := by decide +kernel
theorem d_Md_readClue_112 : decode prog_14_method_10_code 112 = .ok (.iconst 4, 1) := by decide +kernel
theorem d_Md_readClue_113 : decode prog_14_method_10_code 113 = .ok (.if_icmp .ge 19, 3) := by decide +kernel
theorem d_Md_readClue_116 : decode prog_14_method_10_code 116 = .ok (.aload_n 0, 1) := by decide +kernel
theorem d_Md_readClue_117 : decode prog_14_method_10_code 117 = .ok (.getfield 35, 3) := by decide +kernel
theorem d_Md_readClue_120 : decode prog_14_method_10_code 120 = .ok (.iload_n 2, 1) := by decide +kernel
theorem d_Md_readClue_121 : decode prog_14_method_10_code 121 = .ok (.iaload, 1) := by decide +kernel
theorem d_Md_readClue_122 : decode prog_14_method_10_code 122 = .ok (.ifCond .lt 10, 3) := by decide +kernel
theorem d_Md_readClue_125 : decode prog_14_method_10_code 125 = .ok (.aload_n 0, 1) := by decide +kernel
theorem d_Md_readClue_126 : decode prog_14_method_10_code 126 = .ok (.invokevirtual 124, 3) := by decide +kernel
theorem d_Md_readClue_129 : decode prog_14_method_10_code 129 = .ok (.goto 4, 3) := by decide +kernel
theorem d_Md_readClue_132 : decode prog_14_method_10_code 132 = .ok (.iconst 0, 1) := by decide +kernel
theorem d_Md_readClue_133 : decode prog_14_method_10_code 133 = .ok (.iastore, 1) := by decide +kernel
theorem d_Md_readClue_134 : decode prog_14_method_10_code 134 = .ok (.aload_n 0, 1) := by decide +kernel
theorem d_Md_readClue_135 : decode prog_14_method_10_code 135 = .ok (.getfield 35, 3) := by decide +kernel
theorem d_Md_readClue_138 : decode prog_14_method_10_code 138 = .ok (.iload_n 2, 1) := by decide +kernel
theorem d_Md_readClue_139 : decode prog_14_method_10_code 139 = .ok (.iaload, 1) := by decide +kernel
theorem d_Md_readClue_140 : decode prog_14_method_10_code 140 = .ok (.ifCond .lt 12, 3) := by decide +kernel
theorem d_Md_readClue_143 : decode prog_14_method_10_code 143 = .ok (.aload_n 0, 1) := by decide +kernel
theorem d_Md_readClue_144 : decode prog_14_method_10_code 144 = .ok (.getfield 38, 3) := by decide +kernel
theorem d_Md_readClue_147 : decode prog_14_method_10_code 147 = .ok (.iload_n 2, 1) := by decide +kernel
theorem d_Md_readClue_148 : decode prog_14_method_10_code 148 = .ok (.iaload, 1) := by decide +kernel
theorem d_Md_readClue_149 : decode prog_14_method_10_code 149 = .ok (.ifCond .ge 5, 3) := by decide +kernel
theorem d_Md_readClue_152 : decode prog_14_method_10_code 152 = .ok (.iconst 0, 1) := by decide +kernel
theorem d_Md_readClue_153 : decode prog_14_method_10_code 153 = .ok (.ireturn, 1) := by decide +kernel
theorem d_Md_readClue_154 : decode prog_14_method_10_code 154 = .ok (.iload_n 1, 1) := by decide +kernel
theorem d_Md_readClue_155 : decode prog_14_method_10_code 155 = .ok (.iload_n 3, 1) := by decide +kernel
theorem d_Md_readClue_156 : decode prog_14_method_10_code 156 = .ok (.iconst 5, 1) := by decide +kernel
theorem d_Md_readClue_157 : decode prog_14_method_10_code 157 = .ok (.if_icmp .ge 7, 3) := by decide +kernel
theorem d_Md_readClue_160 : decode prog_14_method_10_code 160 = .ok (.iconst (-1), 1) := by decide +kernel
theorem d_Md_readClue_161 : decode prog_14_method_10_code 161 = .ok (.goto 14, 3) := by decide +kernel
theorem d_Md_readClue_164 : decode prog_14_method_10_code 164 = .ok (.iload_n 3, 1) := by decide +kernel
theorem d_Md_readClue_165 : decode prog_14_method_10_code 165 = .ok (.bipush 7, 2) := by decide +kernel
theorem d_Md_readClue_167 : decode prog_14_method_10_code 167 = .ok (.if_icmp .ge 7, 3) := by decide +kernel
theorem d_Md_readClue_170 : decode prog_14_method_10_code 170 = .ok (.iconst 0, 1) := by decide +kernel
theorem d_Md_readClue_171 : decode prog_14_method_10_code 171 = .ok (.goto 4, 3) := by decide +kernel
theorem d_Md_readClue_174 : decode prog_14_method_10_code 174 = .ok (.iconst 1, 1) := by decide +kernel
theorem d_Md_readClue_175 : decode prog_14_method_10_code 175 = .ok (.iadd, 1) := by decide +kernel
theorem d_Md_readClue_176 : decode prog_14_method_10_code 176 = .ok (.istore_n 1, 1) := by decide +kernel
theorem d_Md_readClue_177 : decode prog_14_method_10_code 177 = .ok (.iinc 2 1, 3) := by decide +kernel
theorem d_Md_readClue_180 : decode prog_14_method_10_code 180 = .ok (.goto (-168), 3) := by decide +kernel
theorem d_Md_readClue_183 : decode prog_14_method_10_code 183 = .ok (.aload_n 0, 1) := by decide +kernel
theorem d_Md_readClue_184 : decode prog_14_method_10_code 184 = .ok (.getfield 29, 3) := by decide +kernel
theorem d_Md_readClue_187 : decode prog_14_method_10_code 187 = .ok (.aload_n 0, 1) := by decide +kernel
theorem d_Md_readClue_188 : decode prog_14_method_10_code 188 = .ok (.getfield 118, 3) := by decide +kernel
theorem d_Md_readClue_191 : decode prog_14_method_10_code 191 = .ok (.iconst 1, 1) := by decide +kernel
theorem d_Md_readClue_192 : decode prog_14_method_10_code 192 = .ok (.iadd, 1) := by decide +kernel
theorem d_Md_readClue_193 : decode prog_14_method_10_code 193 = .ok (.iload_n 2, 1) := by decide +kernel
theorem d_Md_readClue_194 : decode prog_14_method_10_code 194 = .ok (.iastore, 1) := by decide +kernel
theorem d_Md_readClue_195 : decode prog_14_method_10_code 195 = .ok (.iconst 1, 1) := by decide +kernel
theorem d_Md_readClue_196 : decode prog_14_method_10_code 196 = .ok (.ireturn, 1) := by decide +kernel
theorem d_Md_signOf_0 : decode prog_14_method_9_code 0 = .ok (.iload_n 0, 1) := by decide +kernel
theorem d_Md_signOf_1 : decode prog_14_method_9_code 1 = .ok (.lookupswitch 104 #[(33, 85), (38, 98), (43, 89), (60, 87), (61, 83), (112, 93), (116, 91), (124, 101), (126, 95)], 83) := by decide +kernel
theorem d_Md_signOf_84 : decode prog_14_method_9_code 84 = .ok (.iconst 0, 1) := by decide +kernel
theorem d_Md_signOf_85 : decode prog_14_method_9_code 85 = .ok (.ireturn, 1) := by decide +kernel
theorem d_Md_signOf_86 : decode prog_14_method_9_code 86 = .ok (.iconst 1, 1) := by decide +kernel
theorem d_Md_signOf_87 : decode prog_14_method_9_code 87 = .ok (.ireturn, 1) := by decide +kernel
theorem d_Md_signOf_88 : decode prog_14_method_9_code 88 = .ok (.iconst 2, 1) := by decide +kernel
theorem d_Md_signOf_89 : decode prog_14_method_9_code 89 = .ok (.ireturn, 1) := by decide +kernel
theorem d_Md_signOf_90 : decode prog_14_method_9_code 90 = .ok (.iconst 3, 1) := by decide +kernel
theorem d_Md_signOf_91 : decode prog_14_method_9_code 91 = .ok (.ireturn, 1) := by decide +kernel
theorem d_Md_signOf_92 : decode prog_14_method_9_code 92 = .ok (.iconst 4, 1) := by decide +kernel
theorem d_Md_signOf_93 : decode prog_14_method_9_code 93 = .ok (.ireturn, 1) := by decide +kernel
theorem d_Md_signOf_94 : decode prog_14_method_9_code 94 = .ok (.iconst 5, 1) := by decide +kernel
theorem d_Md_signOf_95 : decode prog_14_method_9_code 95 = .ok (.ireturn, 1) := by decide +kernel
theorem d_Md_signOf_96 : decode prog_14_method_9_code 96 = .ok (.bipush 6, 2) := by decide +kernel
theorem d_Md_signOf_98 : decode prog_14_method_9_code 98 = .ok (.ireturn, 1) := by decide +kernel
theorem d_Md_signOf_99 : decode prog_14_method_9_code 99 = .ok (.bipush 7, 2) := by decide +kernel
theorem d_Md_signOf_101 : decode prog_14_method_9_code 101 = .ok (.ireturn, 1) := by decide +kernel
theorem d_Md_signOf_102 : decode prog_14_method_9_code 102 = .ok (.bipush 8, 2) := by decide +kernel
theorem d_Md_signOf_104 : decode prog_14_method_9_code 104 = .ok (.ireturn, 1) := by decide +kernel
theorem d_Md_signOf_105 : decode prog_14_method_9_code 105 = .ok (.iconst (-1), 1) := by decide +kernel
theorem d_Md_signOf_106 : decode prog_14_method_9_code 106 = .ok (.ireturn, 1) := by decide +kernel
theorem d_Md_value_0 : decode prog_14_method_8_code 0 = .ok (.aload_n 0, 1) := by decide +kernel
theorem d_Md_value_1 : decode prog_14_method_8_code 1 = .ok (.aload_n 0, 1) := by decide +kernel
theorem d_Md_value_2 : decode prog_14_method_8_code 2 = .ok (.getfield 101, 3) := by decide +kernel
theorem d_Md_value_5 : decode prog_14_method_8_code 5 = .ok (.invokevirtual 104, 3) := by decide +kernel
theorem d_Md_value_8 : decode prog_14_method_8_code 8 = .ok (.bipush 97, 2) := by decide +kernel
theorem d_Md_value_10 : decode prog_14_method_8_code 10 = .ok (.isub, 1) := by decide +kernel
theorem d_Md_value_11 : decode prog_14_method_8_code 11 = .ok (.istore_n 1, 1) := by decide +kernel
theorem d_Md_value_12 : decode prog_14_method_8_code 12 = .ok (.aload_n 0, 1) := by decide +kernel
theorem d_Md_value_13 : decode prog_14_method_8_code 13 = .ok (.getfield 101, 3) := by decide +kernel
theorem d_Md_value_16 : decode prog_14_method_8_code 16 = .ok (.aload_n 0, 1) := by decide +kernel
theorem d_Md_value_17 : decode prog_14_method_8_code 17 = .ok (.getfield 98, 3) := by decide +kernel
theorem d_Md_value_20 : decode prog_14_method_8_code 20 = .ok (.if_icmp .ge 15, 3) := by decide +kernel
theorem d_Md_value_23 : decode prog_14_method_8_code 23 = .ok (.iload_n 1, 1) := by decide +kernel
theorem d_Md_value_24 : decode prog_14_method_8_code 24 = .ok (.ifCond .lt 11, 3) := by decide +kernel
theorem d_Md_value_27 : decode prog_14_method_8_code 27 = .ok (.iload_n 1, 1) := by decide +kernel
theorem d_Md_value_28 : decode prog_14_method_8_code 28 = .ok (.aload_n 0, 1) := by decide +kernel
theorem d_Md_value_29 : decode prog_14_method_8_code 29 = .ok (.getfield 108, 3) := by decide +kernel
theorem d_Md_value_32 : decode prog_14_method_8_code 32 = .ok (.if_icmp .lt 5, 3) := by decide +kernel
theorem d_Md_value_35 : decode prog_14_method_8_code 35 = .ok (.iconst (-1), 1) := by decide +kernel
theorem d_Md_value_36 : decode prog_14_method_8_code 36 = .ok (.ireturn, 1) := by decide +kernel
theorem d_Md_value_37 : decode prog_14_method_8_code 37 = .ok (.aload_n 0, 1) := by decide +kernel
theorem d_Md_value_38 : decode prog_14_method_8_code 38 = .ok (.dup, 1) := by decide +kernel
theorem d_Md_value_39 : decode prog_14_method_8_code 39 = .ok (.getfield 101, 3) := by decide +kernel
theorem d_Md_value_42 : decode prog_14_method_8_code 42 = .ok (.iconst 1, 1) := by decide +kernel
theorem d_Md_value_43 : decode prog_14_method_8_code 43 = .ok (.iadd, 1) := by decide +kernel
theorem d_Md_value_44 : decode prog_14_method_8_code 44 = .ok (.putfield 101, 3) := by decide +kernel
theorem d_Md_value_47 : decode prog_14_method_8_code 47 = .ok (.aload_n 0, 1) := by decide +kernel
theorem d_Md_value_48 : decode prog_14_method_8_code 48 = .ok (.iconst 0, 1) := by decide +kernel
theorem d_Md_value_49 : decode prog_14_method_8_code 49 = .ok (.aload_n 0, 1) := by decide +kernel
theorem d_Md_value_50 : decode prog_14_method_8_code 50 = .ok (.getfield 111, 3) := by decide +kernel
theorem d_Md_value_53 : decode prog_14_method_8_code 53 = .ok (.iconst 1, 1) := by decide +kernel
theorem d_Md_value_54 : decode prog_14_method_8_code 54 = .ok (.isub, 1) := by decide +kernel
theorem d_Md_value_55 : decode prog_14_method_8_code 55 = .ok (.invokevirtual 114, 3) := by decide +kernel
theorem d_Md_value_58 : decode prog_14_method_8_code 58 = .ok (.istore_n 2, 1) := by decide +kernel
theorem d_Md_value_59 : decode prog_14_method_8_code 59 = .ok (.iload_n 2, 1) := by decide +kernel
theorem d_Md_value_60 : decode prog_14_method_8_code 60 = .ok (.ifCond .ge 7, 3) := by decide +kernel
theorem d_Md_value_63 : decode prog_14_method_8_code 63 = .ok (.iconst (-1), 1) := by decide +kernel
theorem d_Md_value_64 : decode prog_14_method_8_code 64 = .ok (.goto 8, 3) := by decide +kernel
theorem d_Md_value_67 : decode prog_14_method_8_code 67 = .ok (.iconst 4, 1) := by decide +kernel
theorem d_Md_value_68 : decode prog_14_method_8_code 68 = .ok (.iload_n 1, 1) := by decide +kernel
theorem d_Md_value_69 : decode prog_14_method_8_code 69 = .ok (.imul, 1) := by decide +kernel
theorem d_Md_value_70 : decode prog_14_method_8_code 70 = .ok (.iload_n 2, 1) := by decide +kernel
theorem d_Md_value_71 : decode prog_14_method_8_code 71 = .ok (.iadd, 1) := by decide +kernel
theorem d_Md_value_72 : decode prog_14_method_8_code 72 = .ok (.ireturn, 1) := by decide +kernel
theorem d_Md_told_0 : decode prog_14_method_13_code 0 = .ok (.aload_n 0, 1) := by decide +kernel
theorem d_Md_told_1 : decode prog_14_method_13_code 1 = .ok (.iconst 0, 1) := by decide +kernel
theorem d_Md_told_2 : decode prog_14_method_13_code 2 = .ok (.putfield 79, 3) := by decide +kernel
theorem d_Md_told_5 : decode prog_14_method_13_code 5 = .ok (.iload_n 1, 1) := by decide +kernel
theorem d_Md_told_6 : decode prog_14_method_13_code 6 = .ok (.ifCond .ne 10, 3) := by decide +kernel
theorem d_Md_told_9 : decode prog_14_method_13_code 9 = .ok (.aload_n 0, 1) := by decide +kernel
theorem d_Md_told_10 : decode prog_14_method_13_code 10 = .ok (.getfield 13, 3) := by decide +kernel
theorem d_Md_told_13 : decode prog_14_method_13_code 13 = .ok (.goto 28, 3) := by decide +kernel
theorem d_Md_told_16 : decode prog_14_method_13_code 16 = .ok (.iload_n 1, 1) := by decide +kernel
theorem d_Md_told_17 : decode prog_14_method_13_code 17 = .ok (.iconst 1, 1) := by decide +kernel
theorem d_Md_told_18 : decode prog_14_method_13_code 18 = .ok (.if_icmp .ne 10, 3) := by decide +kernel
theorem d_Md_told_21 : decode prog_14_method_13_code 21 = .ok (.aload_n 0, 1) := by decide +kernel
theorem d_Md_told_22 : decode prog_14_method_13_code 22 = .ok (.getfield 138, 3) := by decide +kernel
theorem d_Md_told_25 : decode prog_14_method_13_code 25 = .ok (.goto 16, 3) := by decide +kernel
theorem d_Md_told_28 : decode prog_14_method_13_code 28 = .ok (.iload_n 1, 1) := by decide +kernel
theorem d_Md_told_29 : decode prog_14_method_13_code 29 = .ok (.iconst 2, 1) := by decide +kernel
theorem d_Md_told_30 : decode prog_14_method_13_code 30 = .ok (.if_icmp .ne 10, 3) := by decide +kernel
theorem d_Md_told_33 : decode prog_14_method_13_code 33 = .ok (.aload_n 0, 1) := by decide +kernel
theorem d_Md_told_34 : decode prog_14_method_13_code 34 = .ok (.getfield 141, 3) := by decide +kernel
theorem d_Md_told_37 : decode prog_14_method_13_code 37 = .ok (.goto 4, 3) := by decide +kernel
theorem d_Md_told_40 : decode prog_14_method_13_code 40 = .ok (.iconst (-1), 1) := by decide +kernel
theorem d_Md_told_41 : decode prog_14_method_13_code 41 = .ok (.ireturn, 1) := by decide +kernel
theorem d_Md_run_0 : decode prog_14_method_23_code 0 = .ok (.aload_n 0, 1) := by decide +kernel
theorem d_Md_run_1 : decode prog_14_method_23_code 1 = .ok (.iconst 0, 1) := by decide +kernel
theorem d_Md_run_2 : decode prog_14_method_23_code 2 = .ok (.putfield 79, 3) := by decide +kernel
theorem d_Md_run_5 : decode prog_14_method_23_code 5 = .ok (.aload_n 0, 1) := by decide +kernel
theorem d_Md_run_6 : decode prog_14_method_23_code 6 = .ok (.invokevirtual 169, 3) := by decide +kernel
theorem d_Md_run_9 : decode prog_14_method_23_code 9 = .ok (.aload_n 0, 1) := by decide +kernel
theorem d_Md_run_10 : decode prog_14_method_23_code 10 = .ok (.iconst 0, 1) := by decide +kernel
theorem d_Md_run_11 : decode prog_14_method_23_code 11 = .ok (.putfield 89, 3) := by decide +kernel
theorem d_Md_run_14 : decode prog_14_method_23_code 14 = .ok (.iconst 0, 1) := by decide +kernel
theorem d_Md_run_15 : decode prog_14_method_23_code 15 = .ok (.istore_n 1, 1) := by decide +kernel
theorem d_Md_run_16 : decode prog_14_method_23_code 16 = .ok (.iconst 0, 1) := by decide +kernel
theorem d_Md_run_17 : decode prog_14_method_23_code 17 = .ok (.istore_n 2, 1) := by decide +kernel
theorem d_Md_run_18 : decode prog_14_method_23_code 18 = .ok (.iload_n 2, 1) := by decide +kernel
theorem d_Md_run_19 : decode prog_14_method_23_code 19 = .ok (.aload_n 0, 1) := by decide +kernel
theorem d_Md_run_20 : decode prog_14_method_23_code 20 = .ok (.invokevirtual 163, 3) := by decide +kernel
theorem d_Md_run_23 : decode prog_14_method_23_code 23 = .ok (.if_icmp .ge 55, 3) := by decide +kernel
theorem d_Md_run_26 : decode prog_14_method_23_code 26 = .ok (.aload_n 0, 1) := by decide +kernel
theorem d_Md_run_27 : decode prog_14_method_23_code 27 = .ok (.iload_n 2, 1) := by decide +kernel
theorem d_Md_run_28 : decode prog_14_method_23_code 28 = .ok (.invokevirtual 172, 3) := by decide +kernel
theorem d_Md_run_31 : decode prog_14_method_23_code 31 = .ok (.ifCond .ne 6, 3) := by decide +kernel
theorem d_Md_run_34 : decode prog_14_method_23_code 34 = .ok (.goto 38, 3) := by decide +kernel
theorem d_Md_run_37 : decode prog_14_method_23_code 37 = .ok (.iinc 1 1, 3) := by decide +kernel
theorem d_Md_run_40 : decode prog_14_method_23_code 40 = .ok (.aload_n 0, 1) := by decide +kernel
theorem d_Md_run_41 : decode prog_14_method_23_code 41 = .ok (.getfield 89, 3) := by decide +kernel
theorem d_Md_run_44 : decode prog_14_method_23_code 44 = .ok (.bipush 100, 2) := by decide +kernel
theorem d_Md_run_46 : decode prog_14_method_23_code 46 = .ok (.if_icmp .ne 6, 3) := by decide +kernel
theorem d_Md_run_49 : decode prog_14_method_23_code 49 = .ok (.goto 23, 3) := by decide +kernel
theorem d_Md_run_52 : decode prog_14_method_23_code 52 = .ok (.aload_n 0, 1) := by decide +kernel
theorem d_Md_run_53 : decode prog_14_method_23_code 53 = .ok (.getfield 55, 3) := by decide +kernel
theorem d_Md_run_56 : decode prog_14_method_23_code 56 = .ok (.aload_n 0, 1) := by decide +kernel
theorem d_Md_run_57 : decode prog_14_method_23_code 57 = .ok (.getfield 89, 3) := by decide +kernel
theorem d_Md_run_60 : decode prog_14_method_23_code 60 = .ok (.iload_n 2, 1) := by decide +kernel
theorem d_Md_run_61 : decode prog_14_method_23_code 61 = .ok (.iastore, 1) := by decide +kernel
theorem d_Md_run_62 : decode prog_14_method_23_code 62 = .ok (.aload_n 0, 1) := by decide +kernel
theorem d_Md_run_63 : decode prog_14_method_23_code 63 = .ok (.dup, 1) := by decide +kernel
theorem d_Md_run_64 : decode prog_14_method_23_code 64 = .ok (.getfield 89, 3) := by decide +kernel
theorem d_Md_run_67 : decode prog_14_method_23_code 67 = .ok (.iconst 1, 1) := by decide +kernel
theorem d_Md_run_68 : decode prog_14_method_23_code 68 = .ok (.iadd, 1) := by decide +kernel
theorem d_Md_run_69 : decode prog_14_method_23_code 69 = .ok (.putfield 89, 3) := by decide +kernel
theorem d_Md_run_72 : decode prog_14_method_23_code 72 = .ok (.iinc 2 1, 3) := by decide +kernel
theorem d_Md_run_75 : decode prog_14_method_23_code 75 = .ok (.goto (-57), 3) := by decide +kernel
theorem d_Md_run_78 : decode prog_14_method_23_code 78 = .ok (.iload_n 1, 1) := by decide +kernel
theorem d_Md_run_79 : decode prog_14_method_23_code 79 = .ok (.ireturn, 1) := by decide +kernel
theorem d_Md_know_0 : decode prog_14_method_21_code 0 = .ok (.aload_n 0, 1) := by decide +kernel
theorem d_Md_know_1 : decode prog_14_method_21_code 1 = .ok (.getfield 82, 3) := by decide +kernel
theorem d_Md_know_4 : decode prog_14_method_21_code 4 = .ok (.ifCond .eq 4, 3) := by decide +kernel
theorem d_Md_know_7 : decode prog_14_method_21_code 7 = .ok (.return_, 1) := by decide +kernel
theorem d_Md_know_8 : decode prog_14_method_21_code 8 = .ok (.aload_n 0, 1) := by decide +kernel
theorem d_Md_know_9 : decode prog_14_method_21_code 9 = .ok (.iconst 1, 1) := by decide +kernel
theorem d_Md_know_10 : decode prog_14_method_21_code 10 = .ok (.putfield 82, 3) := by decide +kernel
theorem d_Md_know_13 : decode prog_14_method_21_code 13 = .ok (.aload_n 0, 1) := by decide +kernel
theorem d_Md_know_14 : decode prog_14_method_21_code 14 = .ok (.invokevirtual 160, 3) := by decide +kernel
theorem d_Md_know_17 : decode prog_14_method_21_code 17 = .ok (.iconst 0, 1) := by decide +kernel
theorem d_Md_know_18 : decode prog_14_method_21_code 18 = .ok (.istore_n 1, 1) := by decide +kernel
theorem d_Md_know_19 : decode prog_14_method_21_code 19 = .ok (.iload_n 1, 1) := by decide +kernel
theorem d_Md_know_20 : decode prog_14_method_21_code 20 = .ok (.aload_n 0, 1) := by decide +kernel
theorem d_Md_know_21 : decode prog_14_method_21_code 21 = .ok (.invokevirtual 163, 3) := by decide +kernel
theorem d_Md_know_24 : decode prog_14_method_21_code 24 = .ok (.if_icmp .ge 61, 3) := by decide +kernel
theorem d_Md_know_27 : decode prog_14_method_21_code 27 = .ok (.aload_n 0, 1) := by decide +kernel
theorem d_Md_know_28 : decode prog_14_method_21_code 28 = .ok (.getfield 48, 3) := by decide +kernel
theorem d_Md_know_31 : decode prog_14_method_21_code 31 = .ok (.iload_n 1, 1) := by decide +kernel
theorem d_Md_know_32 : decode prog_14_method_21_code 32 = .ok (.iconst 0, 1) := by decide +kernel
theorem d_Md_know_33 : decode prog_14_method_21_code 33 = .ok (.iastore, 1) := by decide +kernel
theorem d_Md_know_34 : decode prog_14_method_21_code 34 = .ok (.iconst 0, 1) := by decide +kernel
theorem d_Md_know_35 : decode prog_14_method_21_code 35 = .ok (.istore_n 2, 1) := by decide +kernel
theorem d_Md_know_36 : decode prog_14_method_21_code 36 = .ok (.iload_n 2, 1) := by decide +kernel
theorem d_Md_know_37 : decode prog_14_method_21_code 37 = .ok (.aload_n 0, 1) := by decide +kernel
theorem d_Md_know_38 : decode prog_14_method_21_code 38 = .ok (.getfield 144, 3) := by decide +kernel
theorem d_Md_know_41 : decode prog_14_method_21_code 41 = .ok (.if_icmp .ge 38, 3) := by decide +kernel
theorem d_Md_know_44 : decode prog_14_method_21_code 44 = .ok (.aload_n 0, 1) := by decide +kernel
theorem d_Md_know_45 : decode prog_14_method_21_code 45 = .ok (.getfield 48, 3) := by decide +kernel
theorem d_Md_know_48 : decode prog_14_method_21_code 48 = .ok (.iload_n 1, 1) := by decide +kernel
theorem d_Md_know_49 : decode prog_14_method_21_code 49 = .ok (.aload_n 0, 1) := by decide +kernel
theorem d_Md_know_50 : decode prog_14_method_21_code 50 = .ok (.getfield 48, 3) := by decide +kernel
theorem d_Md_know_53 : decode prog_14_method_21_code 53 = .ok (.iload_n 1, 1) := by decide +kernel
theorem d_Md_know_54 : decode prog_14_method_21_code 54 = .ok (.iaload, 1) := by decide +kernel
theorem d_Md_know_55 : decode prog_14_method_21_code 55 = .ok (.aload_n 0, 1) := by decide +kernel
theorem d_Md_know_56 : decode prog_14_method_21_code 56 = .ok (.iload_n 1, 1) := by decide +kernel
theorem d_Md_know_57 : decode prog_14_method_21_code 57 = .ok (.iload_n 2, 1) := by decide +kernel
theorem d_Md_know_58 : decode prog_14_method_21_code 58 = .ok (.invokevirtual 166, 3) := by decide +kernel
theorem d_Md_know_61 : decode prog_14_method_21_code 61 = .ok (.ifCond .eq 9, 3) := by decide +kernel
theorem d_Md_know_64 : decode prog_14_method_21_code 64 = .ok (.iconst 1, 1) := by decide +kernel
theorem d_Md_know_65 : decode prog_14_method_21_code 65 = .ok (.iload_n 2, 1) := by decide +kernel
theorem d_Md_know_66 : decode prog_14_method_21_code 66 = .ok (.ishl, 1) := by decide +kernel
theorem d_Md_know_67 : decode prog_14_method_21_code 67 = .ok (.goto 4, 3) := by decide +kernel
theorem d_Md_know_70 : decode prog_14_method_21_code 70 = .ok (.iconst 0, 1) := by decide +kernel
theorem d_Md_know_71 : decode prog_14_method_21_code 71 = .ok (.ior, 1) := by decide +kernel
theorem d_Md_know_72 : decode prog_14_method_21_code 72 = .ok (.iastore, 1) := by decide +kernel
theorem d_Md_know_73 : decode prog_14_method_21_code 73 = .ok (.iinc 2 1, 3) := by decide +kernel
theorem d_Md_know_76 : decode prog_14_method_21_code 76 = .ok (.goto (-40), 3) := by decide +kernel
theorem d_Md_know_79 : decode prog_14_method_21_code 79 = .ok (.iinc 1 1, 3) := by decide +kernel
theorem d_Md_know_82 : decode prog_14_method_21_code 82 = .ok (.goto (-63), 3) := by decide +kernel
theorem d_Md_know_85 : decode prog_14_method_21_code 85 = .ok (.return_, 1) := by decide +kernel
theorem d_Md_order_0 : decode prog_14_method_14_code 0 = .ok (.aload_n 0, 1) := by decide +kernel
theorem d_Md_order_1 : decode prog_14_method_14_code 1 = .ok (.iconst 0, 1) := by decide +kernel
theorem d_Md_order_2 : decode prog_14_method_14_code 2 = .ok (.putfield 147, 3) := by decide +kernel
theorem d_Md_order_5 : decode prog_14_method_14_code 5 = .ok (.iconst 1, 1) := by decide +kernel
theorem d_Md_order_6 : decode prog_14_method_14_code 6 = .ok (.istore_n 1, 1) := by decide +kernel
theorem d_Md_order_7 : decode prog_14_method_14_code 7 = .ok (.iconst 0, 1) := by decide +kernel
theorem d_Md_order_8 : decode prog_14_method_14_code 8 = .ok (.istore_n 2, 1) := by decide +kernel
theorem d_Md_order_9 : decode prog_14_method_14_code 9 = .ok (.iload_n 2, 1) := by decide +kernel
theorem d_Md_order_10 : decode prog_14_method_14_code 10 = .ok (.aload_n 0, 1) := by decide +kernel
theorem d_Md_order_11 : decode prog_14_method_14_code 11 = .ok (.getfield 13, 3) := by decide +kernel
theorem d_Md_order_14 : decode prog_14_method_14_code 14 = .ok (.if_icmp .ge 16, 3) := by decide +kernel
theorem d_Md_order_17 : decode prog_14_method_14_code 17 = .ok (.iload_n 1, 1) := by decide +kernel
theorem d_Md_order_18 : decode prog_14_method_14_code 18 = .ok (.aload_n 0, 1) := by decide +kernel
theorem d_Md_order_19 : decode prog_14_method_14_code 19 = .ok (.getfield 13, 3) := by decide +kernel
theorem d_Md_order_22 : decode prog_14_method_14_code 22 = .ok (.imul, 1) := by decide +kernel
theorem d_Md_order_23 : decode prog_14_method_14_code 23 = .ok (.istore_n 1, 1) := by decide +kernel
theorem d_Md_order_24 : decode prog_14_method_14_code 24 = .ok (.iinc 2 1, 3) := by decide +kernel
theorem d_Md_order_27 : decode prog_14_method_14_code 27 = .ok (.goto (-18), 3) := by decide +kernel
theorem d_Md_order_30 : decode prog_14_method_14_code 30 = .ok (.iconst 0, 1) := by decide +kernel
theorem d_Md_order_31 : decode prog_14_method_14_code 31 = .ok (.istore_n 2, 1) := by decide +kernel
theorem d_Md_order_32 : decode prog_14_method_14_code 32 = .ok (.iload_n 2, 1) := by decide +kernel
theorem d_Md_order_33 : decode prog_14_method_14_code 33 = .ok (.iload_n 1, 1) := by decide +kernel
theorem d_Md_order_34 : decode prog_14_method_14_code 34 = .ok (.if_icmp .ge 129, 3) := by decide +kernel
theorem d_Md_order_37 : decode prog_14_method_14_code 37 = .ok (.iload_n 2, 1) := by decide +kernel
theorem d_Md_order_38 : decode prog_14_method_14_code 38 = .ok (.istore_n 3, 1) := by decide +kernel
theorem d_Md_order_39 : decode prog_14_method_14_code 39 = .ok (.iconst 0, 1) := by decide +kernel
theorem d_Md_order_40 : decode prog_14_method_14_code 40 = .ok (.istore 4, 2) := by decide +kernel
theorem d_Md_order_42 : decode prog_14_method_14_code 42 = .ok (.aload_n 0, 1) := by decide +kernel
theorem d_Md_order_43 : decode prog_14_method_14_code 43 = .ok (.getfield 13, 3) := by decide +kernel
theorem d_Md_order_46 : decode prog_14_method_14_code 46 = .ok (.iconst 1, 1) := by decide +kernel
theorem d_Md_order_47 : decode prog_14_method_14_code 47 = .ok (.isub, 1) := by decide +kernel
theorem d_Md_order_48 : decode prog_14_method_14_code 48 = .ok (.istore 5, 2) := by decide +kernel
theorem d_Md_order_50 : decode prog_14_method_14_code 50 = .ok (.iload 5, 2) := by decide +kernel
theorem d_Md_order_52 : decode prog_14_method_14_code 52 = .ok (.ifCond .lt 69, 3) := by decide +kernel
theorem d_Md_order_55 : decode prog_14_method_14_code 55 = .ok (.aload_n 0, 1) := by decide +kernel
theorem d_Md_order_56 : decode prog_14_method_14_code 56 = .ok (.getfield 41, 3) := by decide +kernel
theorem d_Md_order_59 : decode prog_14_method_14_code 59 = .ok (.iconst 4, 1) := by decide +kernel
theorem d_Md_order_60 : decode prog_14_method_14_code 60 = .ok (.aload_n 0, 1) := by decide +kernel
theorem d_Md_order_61 : decode prog_14_method_14_code 61 = .ok (.getfield 147, 3) := by decide +kernel
theorem d_Md_order_64 : decode prog_14_method_14_code 64 = .ok (.imul, 1) := by decide +kernel
theorem d_Md_order_65 : decode prog_14_method_14_code 65 = .ok (.iload 5, 2) := by decide +kernel
theorem d_Md_order_67 : decode prog_14_method_14_code 67 = .ok (.iadd, 1) := by decide +kernel
theorem d_Md_order_68 : decode prog_14_method_14_code 68 = .ok (.iload_n 3, 1) := by decide +kernel
theorem d_Md_order_69 : decode prog_14_method_14_code 69 = .ok (.aload_n 0, 1) := by decide +kernel
theorem d_Md_order_70 : decode prog_14_method_14_code 70 = .ok (.getfield 13, 3) := by decide +kernel
theorem d_Md_order_73 : decode prog_14_method_14_code 73 = .ok (.irem, 1) := by decide +kernel
theorem d_Md_order_74 : decode prog_14_method_14_code 74 = .ok (.iastore, 1) := by decide +kernel
theorem d_Md_order_75 : decode prog_14_method_14_code 75 = .ok (.aload_n 0, 1) := by decide +kernel
theorem d_Md_order_76 : decode prog_14_method_14_code 76 = .ok (.getfield 44, 3) := by decide +kernel
theorem d_Md_order_79 : decode prog_14_method_14_code 79 = .ok (.iconst 4, 1) := by decide +kernel
theorem d_Md_order_80 : decode prog_14_method_14_code 80 = .ok (.aload_n 0, 1) := by decide +kernel
theorem d_Md_order_81 : decode prog_14_method_14_code 81 = .ok (.getfield 147, 3) := by decide +kernel
theorem d_Md_order_84 : decode prog_14_method_14_code 84 = .ok (.imul, 1) := by decide +kernel
theorem d_Md_order_85 : decode prog_14_method_14_code 85 = .ok (.iload_n 3, 1) := by decide +kernel
theorem d_Md_order_86 : decode prog_14_method_14_code 86 = .ok (.aload_n 0, 1) := by decide +kernel
theorem d_Md_order_87 : decode prog_14_method_14_code 87 = .ok (.getfield 13, 3) := by decide +kernel
theorem d_Md_order_90 : decode prog_14_method_14_code 90 = .ok (.irem, 1) := by decide +kernel
theorem d_Md_order_91 : decode prog_14_method_14_code 91 = .ok (.iadd, 1) := by decide +kernel
theorem d_Md_order_92 : decode prog_14_method_14_code 92 = .ok (.iload 5, 2) := by decide +kernel
theorem d_Md_order_94 : decode prog_14_method_14_code 94 = .ok (.iastore, 1) := by decide +kernel
theorem d_Md_order_95 : decode prog_14_method_14_code 95 = .ok (.iload 4, 2) := by decide +kernel
theorem d_Md_order_97 : decode prog_14_method_14_code 97 = .ok (.iconst 1, 1) := by decide +kernel
theorem d_Md_order_98 : decode prog_14_method_14_code 98 = .ok (.iload_n 3, 1) := by decide +kernel
theorem d_Md_order_99 : decode prog_14_method_14_code 99 = .ok (.aload_n 0, 1) := by decide +kernel
theorem d_Md_order_100 : decode prog_14_method_14_code 100 = .ok (.getfield 13, 3) := by decide +kernel
theorem d_Md_order_103 : decode prog_14_method_14_code 103 = .ok (.irem, 1) := by decide +kernel
theorem d_Md_order_104 : decode prog_14_method_14_code 104 = .ok (.ishl, 1) := by decide +kernel
theorem d_Md_order_105 : decode prog_14_method_14_code 105 = .ok (.ior, 1) := by decide +kernel
theorem d_Md_order_106 : decode prog_14_method_14_code 106 = .ok (.istore 4, 2) := by decide +kernel
theorem d_Md_order_108 : decode prog_14_method_14_code 108 = .ok (.iload_n 3, 1) := by decide +kernel
theorem d_Md_order_109 : decode prog_14_method_14_code 109 = .ok (.aload_n 0, 1) := by decide +kernel
theorem d_Md_order_110 : decode prog_14_method_14_code 110 = .ok (.getfield 13, 3) := by decide +kernel
theorem d_Md_order_113 : decode prog_14_method_14_code 113 = .ok (.idiv, 1) := by decide +kernel
theorem d_Md_order_114 : decode prog_14_method_14_code 114 = .ok (.istore_n 3, 1) := by decide +kernel
theorem d_Md_order_115 : decode prog_14_method_14_code 115 = .ok (.iinc 5 (-1), 3) := by decide +kernel
theorem d_Md_order_118 : decode prog_14_method_14_code 118 = .ok (.goto (-68), 3) := by decide +kernel
theorem d_Md_order_121 : decode prog_14_method_14_code 121 = .ok (.iload 4, 2) := by decide +kernel
theorem d_Md_order_123 : decode prog_14_method_14_code 123 = .ok (.iconst 1, 1) := by decide +kernel
theorem d_Md_order_124 : decode prog_14_method_14_code 124 = .ok (.aload_n 0, 1) := by decide +kernel
theorem d_Md_order_125 : decode prog_14_method_14_code 125 = .ok (.getfield 13, 3) := by decide +kernel
theorem d_Md_order_128 : decode prog_14_method_14_code 128 = .ok (.ishl, 1) := by decide +kernel
theorem d_Md_order_129 : decode prog_14_method_14_code 129 = .ok (.iconst 1, 1) := by decide +kernel
theorem d_Md_order_130 : decode prog_14_method_14_code 130 = .ok (.isub, 1) := by decide +kernel
theorem d_Md_order_131 : decode prog_14_method_14_code 131 = .ok (.if_icmp .eq 6, 3) := by decide +kernel
theorem d_Md_order_134 : decode prog_14_method_14_code 134 = .ok (.goto 23, 3) := by decide +kernel
theorem d_Md_order_137 : decode prog_14_method_14_code 137 = .ok (.aload_n 0, 1) := by decide +kernel
theorem d_Md_order_138 : decode prog_14_method_14_code 138 = .ok (.dup, 1) := by decide +kernel
theorem d_Md_order_139 : decode prog_14_method_14_code 139 = .ok (.getfield 147, 3) := by decide +kernel
theorem d_Md_order_142 : decode prog_14_method_14_code 142 = .ok (.iconst 1, 1) := by decide +kernel
theorem d_Md_order_143 : decode prog_14_method_14_code 143 = .ok (.iadd, 1) := by decide +kernel
theorem d_Md_order_144 : decode prog_14_method_14_code 144 = .ok (.putfield 147, 3) := by decide +kernel
theorem d_Md_order_147 : decode prog_14_method_14_code 147 = .ok (.aload_n 0, 1) := by decide +kernel
theorem d_Md_order_148 : decode prog_14_method_14_code 148 = .ok (.getfield 147, 3) := by decide +kernel
theorem d_Md_order_151 : decode prog_14_method_14_code 151 = .ok (.bipush 24, 2) := by decide +kernel
theorem d_Md_order_153 : decode prog_14_method_14_code 153 = .ok (.if_icmp .ne 4, 3) := by decide +kernel
theorem d_Md_order_156 : decode prog_14_method_14_code 156 = .ok (.return_, 1) := by decide +kernel
theorem d_Md_order_157 : decode prog_14_method_14_code 157 = .ok (.iinc 2 1, 3) := by decide +kernel
theorem d_Md_order_160 : decode prog_14_method_14_code 160 = .ok (.goto (-128), 3) := by decide +kernel
theorem d_Md_order_163 : decode prog_14_method_14_code 163 = .ok (.return_, 1) := by decide +kernel
theorem d_Md_states_0 : decode prog_14_method_15_code 0 = .ok (.iconst 1, 1) := by decide +kernel
theorem d_Md_states_1 : decode prog_14_method_15_code 1 = .ok (.aload_n 0, 1) := by decide +kernel
theorem d_Md_states_2 : decode prog_14_method_15_code 2 = .ok (.getfield 141, 3) := by decide +kernel
theorem d_Md_states_5 : decode prog_14_method_15_code 5 = .ok (.ishl, 1) := by decide +kernel
theorem d_Md_states_6 : decode prog_14_method_15_code 6 = .ok (.istore_n 1, 1) := by decide +kernel
theorem d_Md_states_7 : decode prog_14_method_15_code 7 = .ok (.iconst 0, 1) := by decide +kernel
theorem d_Md_states_8 : decode prog_14_method_15_code 8 = .ok (.istore_n 2, 1) := by decide +kernel
theorem d_Md_states_9 : decode prog_14_method_15_code 9 = .ok (.iload_n 2, 1) := by decide +kernel
theorem d_Md_states_10 : decode prog_14_method_15_code 10 = .ok (.aload_n 0, 1) := by decide +kernel
theorem d_Md_states_11 : decode prog_14_method_15_code 11 = .ok (.getfield 138, 3) := by decide +kernel
theorem d_Md_states_14 : decode prog_14_method_15_code 14 = .ok (.if_icmp .ge 16, 3) := by decide +kernel
theorem d_Md_states_17 : decode prog_14_method_15_code 17 = .ok (.iload_n 1, 1) := by decide +kernel
theorem d_Md_states_18 : decode prog_14_method_15_code 18 = .ok (.aload_n 0, 1) := by decide +kernel
theorem d_Md_states_19 : decode prog_14_method_15_code 19 = .ok (.getfield 147, 3) := by decide +kernel
theorem d_Md_states_22 : decode prog_14_method_15_code 22 = .ok (.imul, 1) := by decide +kernel
theorem d_Md_states_23 : decode prog_14_method_15_code 23 = .ok (.istore_n 1, 1) := by decide +kernel
theorem d_Md_states_24 : decode prog_14_method_15_code 24 = .ok (.iinc 2 1, 3) := by decide +kernel
theorem d_Md_states_27 : decode prog_14_method_15_code 27 = .ok (.goto (-18), 3) := by decide +kernel
theorem d_Md_states_30 : decode prog_14_method_15_code 30 = .ok (.iload_n 1, 1) := by decide +kernel
theorem d_Md_states_31 : decode prog_14_method_15_code 31 = .ok (.ireturn, 1) := by decide +kernel
theorem d_Md_isSo_0 : decode prog_14_method_20_code 0 = .ok (.iconst 0, 1) := by decide +kernel
theorem d_Md_isSo_1 : decode prog_14_method_20_code 1 = .ok (.istore_n 3, 1) := by decide +kernel
theorem d_Md_isSo_2 : decode prog_14_method_20_code 2 = .ok (.aload_n 0, 1) := by decide +kernel
theorem d_Md_isSo_3 : decode prog_14_method_20_code 3 = .ok (.getfield 17, 3) := by decide +kernel
theorem d_Md_isSo_6 : decode prog_14_method_20_code 6 = .ok (.iload_n 2, 1) := by decide +kernel
theorem d_Md_isSo_7 : decode prog_14_method_20_code 7 = .ok (.iconst 1, 1) := by decide +kernel
theorem d_Md_isSo_8 : decode prog_14_method_20_code 8 = .ok (.iadd, 1) := by decide +kernel
theorem d_Md_isSo_9 : decode prog_14_method_20_code 9 = .ok (.iaload, 1) := by decide +kernel
theorem d_Md_isSo_10 : decode prog_14_method_20_code 10 = .ok (.iconst 1, 1) := by decide +kernel
theorem d_Md_isSo_11 : decode prog_14_method_20_code 11 = .ok (.isub, 1) := by decide +kernel
theorem d_Md_isSo_12 : decode prog_14_method_20_code 12 = .ok (.istore 4, 2) := by decide +kernel
theorem d_Md_isSo_14 : decode prog_14_method_20_code 14 = .ok (.iload 4, 2) := by decide +kernel
theorem d_Md_isSo_16 : decode prog_14_method_20_code 16 = .ok (.aload_n 0, 1) := by decide +kernel
theorem d_Md_isSo_17 : decode prog_14_method_20_code 17 = .ok (.getfield 17, 3) := by decide +kernel
theorem d_Md_isSo_20 : decode prog_14_method_20_code 20 = .ok (.iload_n 2, 1) := by decide +kernel
theorem d_Md_isSo_21 : decode prog_14_method_20_code 21 = .ok (.iaload, 1) := by decide +kernel
theorem d_Md_isSo_22 : decode prog_14_method_20_code 22 = .ok (.if_icmp .lt 333, 3) := by decide +kernel
theorem d_Md_isSo_25 : decode prog_14_method_20_code 25 = .ok (.aload_n 0, 1) := by decide +kernel
theorem d_Md_isSo_26 : decode prog_14_method_20_code 26 = .ok (.getfield 20, 3) := by decide +kernel
theorem d_Md_isSo_29 : decode prog_14_method_20_code 29 = .ok (.iload 4, 2) := by decide +kernel
theorem d_Md_isSo_31 : decode prog_14_method_20_code 31 = .ok (.iaload, 1) := by decide +kernel
theorem d_Md_isSo_32 : decode prog_14_method_20_code 32 = .ok (.istore 5, 2) := by decide +kernel
theorem d_Md_isSo_34 : decode prog_14_method_20_code 34 = .ok (.iload 5, 2) := by decide +kernel
theorem d_Md_isSo_36 : decode prog_14_method_20_code 36 = .ok (.iconst 4, 1) := by decide +kernel
theorem d_Md_isSo_37 : decode prog_14_method_20_code 37 = .ok (.if_icmp .ge 128, 3) := by decide +kernel
theorem d_Md_isSo_40 : decode prog_14_method_20_code 40 = .ok (.aload_n 0, 1) := by decide +kernel
theorem d_Md_isSo_41 : decode prog_14_method_20_code 41 = .ok (.iload_n 1, 1) := by decide +kernel
theorem d_Md_isSo_42 : decode prog_14_method_20_code 42 = .ok (.aload_n 0, 1) := by decide +kernel
theorem d_Md_isSo_43 : decode prog_14_method_20_code 43 = .ok (.getfield 23, 3) := by decide +kernel
theorem d_Md_isSo_46 : decode prog_14_method_20_code 46 = .ok (.iload 4, 2) := by decide +kernel
theorem d_Md_isSo_48 : decode prog_14_method_20_code 48 = .ok (.iaload, 1) := by decide +kernel
theorem d_Md_isSo_49 : decode prog_14_method_20_code 49 = .ok (.invokevirtual 153, 3) := by decide +kernel
theorem d_Md_isSo_52 : decode prog_14_method_20_code 52 = .ok (.istore 6, 2) := by decide +kernel
theorem d_Md_isSo_54 : decode prog_14_method_20_code 54 = .ok (.aload_n 0, 1) := by decide +kernel
theorem d_Md_isSo_55 : decode prog_14_method_20_code 55 = .ok (.iload_n 1, 1) := by decide +kernel
theorem d_Md_isSo_56 : decode prog_14_method_20_code 56 = .ok (.aload_n 0, 1) := by decide +kernel
theorem d_Md_isSo_57 : decode prog_14_method_20_code 57 = .ok (.getfield 26, 3) := by decide +kernel
theorem d_Md_isSo_60 : decode prog_14_method_20_code 60 = .ok (.iload 4, 2) := by decide +kernel
theorem d_Md_isSo_62 : decode prog_14_method_20_code 62 = .ok (.iaload, 1) := by decide +kernel
theorem d_Md_isSo_63 : decode prog_14_method_20_code 63 = .ok (.invokevirtual 153, 3) := by decide +kernel
theorem d_Md_isSo_66 : decode prog_14_method_20_code 66 = .ok (.istore 7, 2) := by decide +kernel
theorem d_Md_isSo_68 : decode prog_14_method_20_code 68 = .ok (.aload_n 0, 1) := by decide +kernel
theorem d_Md_isSo_69 : decode prog_14_method_20_code 69 = .ok (.getfield 51, 3) := by decide +kernel
theorem d_Md_isSo_72 : decode prog_14_method_20_code 72 = .ok (.iload_n 3, 1) := by decide +kernel
theorem d_Md_isSo_73 : decode prog_14_method_20_code 73 = .ok (.iload 5, 2) := by decide +kernel
theorem d_Md_isSo_75 : decode prog_14_method_20_code 75 = .ok (.ifCond .ne 18, 3) := by decide +kernel
theorem d_Md_isSo_78 : decode prog_14_method_20_code 78 = .ok (.iload 6, 2) := by decide +kernel
theorem d_Md_isSo_80 : decode prog_14_method_20_code 80 = .ok (.iload 7, 2) := by decide +kernel
theorem d_Md_isSo_82 : decode prog_14_method_20_code 82 = .ok (.if_icmp .ne 7, 3) := by decide +kernel
theorem d_Md_isSo_85 : decode prog_14_method_20_code 85 = .ok (.iconst 1, 1) := by decide +kernel
theorem d_Md_isSo_86 : decode prog_14_method_20_code 86 = .ok (.goto 72, 3) := by decide +kernel
theorem d_Md_isSo_89 : decode prog_14_method_20_code 89 = .ok (.iconst 0, 1) := by decide +kernel
theorem d_Md_isSo_90 : decode prog_14_method_20_code 90 = .ok (.goto 68, 3) := by decide +kernel
theorem d_Md_isSo_93 : decode prog_14_method_20_code 93 = .ok (.iload 5, 2) := by decide +kernel
theorem d_Md_isSo_95 : decode prog_14_method_20_code 95 = .ok (.iconst 1, 1) := by decide +kernel
theorem d_Md_isSo_96 : decode prog_14_method_20_code 96 = .ok (.if_icmp .ne 18, 3) := by decide +kernel
theorem d_Md_isSo_99 : decode prog_14_method_20_code 99 = .ok (.iload 6, 2) := by decide +kernel
theorem d_Md_isSo_101 : decode prog_14_method_20_code 101 = .ok (.iload 7, 2) := by decide +kernel
theorem d_Md_isSo_103 : decode prog_14_method_20_code 103 = .ok (.if_icmp .eq 7, 3) := by decide +kernel
theorem d_Md_isSo_106 : decode prog_14_method_20_code 106 = .ok (.iconst 1, 1) := by decide +kernel
theorem d_Md_isSo_107 : decode prog_14_method_20_code 107 = .ok (.goto 51, 3) := by decide +kernel
theorem d_Md_isSo_110 : decode prog_14_method_20_code 110 = .ok (.iconst 0, 1) := by decide +kernel
theorem d_Md_isSo_111 : decode prog_14_method_20_code 111 = .ok (.goto 47, 3) := by decide +kernel
theorem d_Md_isSo_114 : decode prog_14_method_20_code 114 = .ok (.iload 5, 2) := by decide +kernel
theorem d_Md_isSo_116 : decode prog_14_method_20_code 116 = .ok (.iconst 2, 1) := by decide +kernel
theorem d_Md_isSo_117 : decode prog_14_method_20_code 117 = .ok (.if_icmp .ne 18, 3) := by decide +kernel
theorem d_Md_isSo_120 : decode prog_14_method_20_code 120 = .ok (.iload 6, 2) := by decide +kernel
theorem d_Md_isSo_122 : decode prog_14_method_20_code 122 = .ok (.iload 7, 2) := by decide +kernel
theorem d_Md_isSo_124 : decode prog_14_method_20_code 124 = .ok (.if_icmp .ge 7, 3) := by decide +kernel
theorem d_Md_isSo_127 : decode prog_14_method_20_code 127 = .ok (.iconst 1, 1) := by decide +kernel
theorem d_Md_isSo_128 : decode prog_14_method_20_code 128 = .ok (.goto 30, 3) := by decide +kernel
theorem d_Md_isSo_131 : decode prog_14_method_20_code 131 = .ok (.iconst 0, 1) := by decide +kernel
theorem d_Md_isSo_132 : decode prog_14_method_20_code 132 = .ok (.goto 26, 3) := by decide +kernel
theorem d_Md_isSo_135 : decode prog_14_method_20_code 135 = .ok (.iload 6, 2) := by decide +kernel
theorem d_Md_isSo_137 : decode prog_14_method_20_code 137 = .ok (.iload 7, 2) := by decide +kernel
theorem d_Md_isSo_139 : decode prog_14_method_20_code 139 = .ok (.iconst 1, 1) := by decide +kernel
theorem d_Md_isSo_140 : decode prog_14_method_20_code 140 = .ok (.iadd, 1) := by decide +kernel
theorem d_Md_isSo_141 : decode prog_14_method_20_code 141 = .ok (.if_icmp .eq 12, 3) := by decide +kernel
theorem d_Md_isSo_144 : decode prog_14_method_20_code 144 = .ok (.iload 7, 2) := by decide +kernel
theorem d_Md_isSo_146 : decode prog_14_method_20_code 146 = .ok (.iload 6, 2) := by decide +kernel
theorem d_Md_isSo_148 : decode prog_14_method_20_code 148 = .ok (.iconst 1, 1) := by decide +kernel
theorem d_Md_isSo_149 : decode prog_14_method_20_code 149 = .ok (.iadd, 1) := by decide +kernel
theorem d_Md_isSo_150 : decode prog_14_method_20_code 150 = .ok (.if_icmp .ne 7, 3) := by decide +kernel
theorem d_Md_isSo_153 : decode prog_14_method_20_code 153 = .ok (.iconst 1, 1) := by decide +kernel
theorem d_Md_isSo_154 : decode prog_14_method_20_code 154 = .ok (.goto 4, 3) := by decide +kernel
theorem d_Md_isSo_157 : decode prog_14_method_20_code 157 = .ok (.iconst 0, 1) := by decide +kernel
theorem d_Md_isSo_158 : decode prog_14_method_20_code 158 = .ok (.bastore, 1) := by decide +kernel
theorem d_Md_isSo_159 : decode prog_14_method_20_code 159 = .ok (.iinc 3 1, 3) := by decide +kernel
theorem d_Md_isSo_162 : decode prog_14_method_20_code 162 = .ok (.goto 187, 3) := by decide +kernel
theorem d_Md_isSo_165 : decode prog_14_method_20_code 165 = .ok (.iload 5, 2) := by decide +kernel
theorem d_Md_isSo_167 : decode prog_14_method_20_code 167 = .ok (.iconst 4, 1) := by decide +kernel
theorem d_Md_isSo_168 : decode prog_14_method_20_code 168 = .ok (.if_icmp .ne 27, 3) := by decide +kernel
theorem d_Md_isSo_171 : decode prog_14_method_20_code 171 = .ok (.aload_n 0, 1) := by decide +kernel
theorem d_Md_isSo_172 : decode prog_14_method_20_code 172 = .ok (.getfield 51, 3) := by decide +kernel
theorem d_Md_isSo_175 : decode prog_14_method_20_code 175 = .ok (.iload_n 3, 1) := by decide +kernel
theorem d_Md_isSo_176 : decode prog_14_method_20_code 176 = .ok (.aload_n 0, 1) := by decide +kernel
theorem d_Md_isSo_177 : decode prog_14_method_20_code 177 = .ok (.iload_n 1, 1) := by decide +kernel
theorem d_Md_isSo_178 : decode prog_14_method_20_code 178 = .ok (.aload_n 0, 1) := by decide +kernel
theorem d_Md_isSo_179 : decode prog_14_method_20_code 179 = .ok (.getfield 23, 3) := by decide +kernel
theorem d_Md_isSo_182 : decode prog_14_method_20_code 182 = .ok (.iload 4, 2) := by decide +kernel
theorem d_Md_isSo_184 : decode prog_14_method_20_code 184 = .ok (.iaload, 1) := by decide +kernel
theorem d_Md_isSo_185 : decode prog_14_method_20_code 185 = .ok (.invokevirtual 156, 3) := by decide +kernel
theorem d_Md_isSo_188 : decode prog_14_method_20_code 188 = .ok (.bastore, 1) := by decide +kernel
theorem d_Md_isSo_189 : decode prog_14_method_20_code 189 = .ok (.iinc 3 1, 3) := by decide +kernel
theorem d_Md_isSo_192 : decode prog_14_method_20_code 192 = .ok (.goto 157, 3) := by decide +kernel
theorem d_Md_isSo_195 : decode prog_14_method_20_code 195 = .ok (.iload 5, 2) := by decide +kernel
theorem d_Md_isSo_197 : decode prog_14_method_20_code 197 = .ok (.iconst 5, 1) := by decide +kernel
theorem d_Md_isSo_198 : decode prog_14_method_20_code 198 = .ok (.if_icmp .ne 42, 3) := by decide +kernel
theorem d_Md_isSo_201 : decode prog_14_method_20_code 201 = .ok (.aload_n 0, 1) := by decide +kernel
theorem d_Md_isSo_202 : decode prog_14_method_20_code 202 = .ok (.getfield 51, 3) := by decide +kernel
theorem d_Md_isSo_205 : decode prog_14_method_20_code 205 = .ok (.iload_n 3, 1) := by decide +kernel
theorem d_Md_isSo_206 : decode prog_14_method_20_code 206 = .ok (.iconst 1, 1) := by decide +kernel
theorem d_Md_isSo_207 : decode prog_14_method_20_code 207 = .ok (.isub, 1) := by decide +kernel
theorem d_Md_isSo_208 : decode prog_14_method_20_code 208 = .ok (.aload_n 0, 1) := by decide +kernel
theorem d_Md_isSo_209 : decode prog_14_method_20_code 209 = .ok (.getfield 51, 3) := by decide +kernel
theorem d_Md_isSo_212 : decode prog_14_method_20_code 212 = .ok (.iload_n 3, 1) := by decide +kernel
theorem d_Md_isSo_213 : decode prog_14_method_20_code 213 = .ok (.iconst 1, 1) := by decide +kernel
theorem d_Md_isSo_214 : decode prog_14_method_20_code 214 = .ok (.isub, 1) := by decide +kernel
theorem d_Md_isSo_215 : decode prog_14_method_20_code 215 = .ok (.baload, 1) := by decide +kernel
theorem d_Md_isSo_216 : decode prog_14_method_20_code 216 = .ok (.aload_n 0, 1) := by decide +kernel
theorem d_Md_isSo_217 : decode prog_14_method_20_code 217 = .ok (.iload_n 1, 1) := by decide +kernel
theorem d_Md_isSo_218 : decode prog_14_method_20_code 218 = .ok (.aload_n 0, 1) := by decide +kernel
theorem d_Md_isSo_219 : decode prog_14_method_20_code 219 = .ok (.getfield 23, 3) := by decide +kernel
theorem d_Md_isSo_222 : decode prog_14_method_20_code 222 = .ok (.iload 4, 2) := by decide +kernel
theorem d_Md_isSo_224 : decode prog_14_method_20_code 224 = .ok (.iaload, 1) := by decide +kernel
theorem d_Md_isSo_225 : decode prog_14_method_20_code 225 = .ok (.invokevirtual 156, 3) := by decide +kernel
theorem d_Md_isSo_228 : decode prog_14_method_20_code 228 = .ok (.if_icmp .ne 7, 3) := by decide +kernel
theorem d_Md_isSo_231 : decode prog_14_method_20_code 231 = .ok (.iconst 1, 1) := by decide +kernel
theorem d_Md_isSo_232 : decode prog_14_method_20_code 232 = .ok (.goto 4, 3) := by decide +kernel
theorem d_Md_isSo_235 : decode prog_14_method_20_code 235 = .ok (.iconst 0, 1) := by decide +kernel
theorem d_Md_isSo_236 : decode prog_14_method_20_code 236 = .ok (.bastore, 1) := by decide +kernel
theorem d_Md_isSo_237 : decode prog_14_method_20_code 237 = .ok (.goto 112, 3) := by decide +kernel
theorem d_Md_isSo_240 : decode prog_14_method_20_code 240 = .ok (.iload 5, 2) := by decide +kernel
theorem d_Md_isSo_242 : decode prog_14_method_20_code 242 = .ok (.bipush 6, 2) := by decide +kernel
theorem d_Md_isSo_244 : decode prog_14_method_20_code 244 = .ok (.if_icmp .ne 30, 3) := by decide +kernel
theorem d_Md_isSo_247 : decode prog_14_method_20_code 247 = .ok (.aload_n 0, 1) := by decide +kernel
theorem d_Md_isSo_248 : decode prog_14_method_20_code 248 = .ok (.getfield 51, 3) := by decide +kernel
theorem d_Md_isSo_251 : decode prog_14_method_20_code 251 = .ok (.iload_n 3, 1) := by decide +kernel
theorem d_Md_isSo_252 : decode prog_14_method_20_code 252 = .ok (.iconst 1, 1) := by decide +kernel
theorem d_Md_isSo_253 : decode prog_14_method_20_code 253 = .ok (.isub, 1) := by decide +kernel
theorem d_Md_isSo_254 : decode prog_14_method_20_code 254 = .ok (.aload_n 0, 1) := by decide +kernel
theorem d_Md_isSo_255 : decode prog_14_method_20_code 255 = .ok (.getfield 51, 3) := by decide +kernel
theorem d_Md_isSo_258 : decode prog_14_method_20_code 258 = .ok (.iload_n 3, 1) := by decide +kernel
theorem d_Md_isSo_259 : decode prog_14_method_20_code 259 = .ok (.iconst 1, 1) := by decide +kernel
theorem d_Md_isSo_260 : decode prog_14_method_20_code 260 = .ok (.isub, 1) := by decide +kernel
theorem d_Md_isSo_261 : decode prog_14_method_20_code 261 = .ok (.baload, 1) := by decide +kernel
theorem d_Md_isSo_262 : decode prog_14_method_20_code 262 = .ok (.ifCond .ne 7, 3) := by decide +kernel
theorem d_Md_isSo_265 : decode prog_14_method_20_code 265 = .ok (.iconst 1, 1) := by decide +kernel
theorem d_Md_isSo_266 : decode prog_14_method_20_code 266 = .ok (.goto 4, 3) := by decide +kernel
theorem d_Md_isSo_269 : decode prog_14_method_20_code 269 = .ok (.iconst 0, 1) := by decide +kernel
theorem d_Md_isSo_270 : decode prog_14_method_20_code 270 = .ok (.bastore, 1) := by decide +kernel
theorem d_Md_isSo_271 : decode prog_14_method_20_code 271 = .ok (.goto 78, 3) := by decide +kernel
theorem d_Md_isSo_274 : decode prog_14_method_20_code 274 = .ok (.aload_n 0, 1) := by decide +kernel
theorem d_Md_isSo_275 : decode prog_14_method_20_code 275 = .ok (.getfield 51, 3) := by decide +kernel
theorem d_Md_isSo_278 : decode prog_14_method_20_code 278 = .ok (.iload_n 3, 1) := by decide +kernel
theorem d_Md_isSo_279 : decode prog_14_method_20_code 279 = .ok (.iconst 2, 1) := by decide +kernel
theorem d_Md_isSo_280 : decode prog_14_method_20_code 280 = .ok (.isub, 1) := by decide +kernel
theorem d_Md_isSo_281 : decode prog_14_method_20_code 281 = .ok (.iload 5, 2) := by decide +kernel
theorem d_Md_isSo_283 : decode prog_14_method_20_code 283 = .ok (.bipush 7, 2) := by decide +kernel
theorem d_Md_isSo_285 : decode prog_14_method_20_code 285 = .ok (.if_icmp .ne 33, 3) := by decide +kernel
theorem d_Md_isSo_288 : decode prog_14_method_20_code 288 = .ok (.aload_n 0, 1) := by decide +kernel
theorem d_Md_isSo_289 : decode prog_14_method_20_code 289 = .ok (.getfield 51, 3) := by decide +kernel
theorem d_Md_isSo_292 : decode prog_14_method_20_code 292 = .ok (.iload_n 3, 1) := by decide +kernel
theorem d_Md_isSo_293 : decode prog_14_method_20_code 293 = .ok (.iconst 1, 1) := by decide +kernel
theorem d_Md_isSo_294 : decode prog_14_method_20_code 294 = .ok (.isub, 1) := by decide +kernel
theorem d_Md_isSo_295 : decode prog_14_method_20_code 295 = .ok (.baload, 1) := by decide +kernel
theorem d_Md_isSo_296 : decode prog_14_method_20_code 296 = .ok (.ifCond .eq 18, 3) := by decide +kernel
theorem d_Md_isSo_299 : decode prog_14_method_20_code 299 = .ok (.aload_n 0, 1) := by decide +kernel
theorem d_Md_isSo_300 : decode prog_14_method_20_code 300 = .ok (.getfield 51, 3) := by decide +kernel
theorem d_Md_isSo_303 : decode prog_14_method_20_code 303 = .ok (.iload_n 3, 1) := by decide +kernel
theorem d_Md_isSo_304 : decode prog_14_method_20_code 304 = .ok (.iconst 2, 1) := by decide +kernel
theorem d_Md_isSo_305 : decode prog_14_method_20_code 305 = .ok (.isub, 1) := by decide +kernel
theorem d_Md_isSo_306 : decode prog_14_method_20_code 306 = .ok (.baload, 1) := by decide +kernel
theorem d_Md_isSo_307 : decode prog_14_method_20_code 307 = .ok (.ifCond .eq 7, 3) := by decide +kernel
theorem d_Md_isSo_310 : decode prog_14_method_20_code 310 = .ok (.iconst 1, 1) := by decide +kernel
theorem d_Md_isSo_311 : decode prog_14_method_20_code 311 = .ok (.goto 34, 3) := by decide +kernel
theorem d_Md_isSo_314 : decode prog_14_method_20_code 314 = .ok (.iconst 0, 1) := by decide +kernel
theorem d_Md_isSo_315 : decode prog_14_method_20_code 315 = .ok (.goto 30, 3) := by decide +kernel
theorem d_Md_isSo_318 : decode prog_14_method_20_code 318 = .ok (.aload_n 0, 1) := by decide +kernel
theorem d_Md_isSo_319 : decode prog_14_method_20_code 319 = .ok (.getfield 51, 3) := by decide +kernel
theorem d_Md_isSo_322 : decode prog_14_method_20_code 322 = .ok (.iload_n 3, 1) := by decide +kernel
theorem d_Md_isSo_323 : decode prog_14_method_20_code 323 = .ok (.iconst 1, 1) := by decide +kernel
theorem d_Md_isSo_324 : decode prog_14_method_20_code 324 = .ok (.isub, 1) := by decide +kernel
theorem d_Md_isSo_325 : decode prog_14_method_20_code 325 = .ok (.baload, 1) := by decide +kernel
theorem d_Md_isSo_326 : decode prog_14_method_20_code 326 = .ok (.ifCond .ne 14, 3) := by decide +kernel
theorem d_Md_isSo_329 : decode prog_14_method_20_code 329 = .ok (.aload_n 0, 1) := by decide +kernel
theorem d_Md_isSo_330 : decode prog_14_method_20_code 330 = .ok (.getfield 51, 3) := by decide +kernel
theorem d_Md_isSo_333 : decode prog_14_method_20_code 333 = .ok (.iload_n 3, 1) := by decide +kernel
theorem d_Md_isSo_334 : decode prog_14_method_20_code 334 = .ok (.iconst 2, 1) := by decide +kernel
theorem d_Md_isSo_335 : decode prog_14_method_20_code 335 = .ok (.isub, 1) := by decide +kernel
theorem d_Md_isSo_336 : decode prog_14_method_20_code 336 = .ok (.baload, 1) := by decide +kernel
theorem d_Md_isSo_337 : decode prog_14_method_20_code 337 = .ok (.ifCond .eq 7, 3) := by decide +kernel
theorem d_Md_isSo_340 : decode prog_14_method_20_code 340 = .ok (.iconst 1, 1) := by decide +kernel
theorem d_Md_isSo_341 : decode prog_14_method_20_code 341 = .ok (.goto 4, 3) := by decide +kernel
theorem d_Md_isSo_344 : decode prog_14_method_20_code 344 = .ok (.iconst 0, 1) := by decide +kernel
theorem d_Md_isSo_345 : decode prog_14_method_20_code 345 = .ok (.bastore, 1) := by decide +kernel
theorem d_Md_isSo_346 : decode prog_14_method_20_code 346 = .ok (.iinc 3 (-1), 3) := by decide +kernel
theorem d_Md_isSo_349 : decode prog_14_method_20_code 349 = .ok (.iinc 4 (-1), 3) := by decide +kernel
theorem d_Md_isSo_352 : decode prog_14_method_20_code 352 = .ok (.goto (-338), 3) := by decide +kernel
theorem d_Md_isSo_355 : decode prog_14_method_20_code 355 = .ok (.aload_n 0, 1) := by decide +kernel
theorem d_Md_isSo_356 : decode prog_14_method_20_code 356 = .ok (.getfield 51, 3) := by decide +kernel
theorem d_Md_isSo_359 : decode prog_14_method_20_code 359 = .ok (.iconst 0, 1) := by decide +kernel
theorem d_Md_isSo_360 : decode prog_14_method_20_code 360 = .ok (.baload, 1) := by decide +kernel
theorem d_Md_isSo_361 : decode prog_14_method_20_code 361 = .ok (.ireturn, 1) := by decide +kernel
theorem d_Md_seat_0 : decode prog_14_method_19_code 0 = .ok (.aload_n 0, 1) := by decide +kernel
theorem d_Md_seat_1 : decode prog_14_method_19_code 1 = .ok (.getfield 44, 3) := by decide +kernel
theorem d_Md_seat_4 : decode prog_14_method_19_code 4 = .ok (.iconst 4, 1) := by decide +kernel
theorem d_Md_seat_5 : decode prog_14_method_19_code 5 = .ok (.aload_n 0, 1) := by decide +kernel
theorem d_Md_seat_6 : decode prog_14_method_19_code 6 = .ok (.iload_n 1, 1) := by decide +kernel
theorem d_Md_seat_7 : decode prog_14_method_19_code 7 = .ok (.iload_n 2, 1) := by decide +kernel
theorem d_Md_seat_8 : decode prog_14_method_19_code 8 = .ok (.iconst 4, 1) := by decide +kernel
theorem d_Md_seat_9 : decode prog_14_method_19_code 9 = .ok (.idiv, 1) := by decide +kernel
theorem d_Md_seat_10 : decode prog_14_method_19_code 10 = .ok (.invokevirtual 150, 3) := by decide +kernel
theorem d_Md_seat_13 : decode prog_14_method_19_code 13 = .ok (.imul, 1) := by decide +kernel
theorem d_Md_seat_14 : decode prog_14_method_19_code 14 = .ok (.iload_n 2, 1) := by decide +kernel
theorem d_Md_seat_15 : decode prog_14_method_19_code 15 = .ok (.iconst 4, 1) := by decide +kernel
theorem d_Md_seat_16 : decode prog_14_method_19_code 16 = .ok (.irem, 1) := by decide +kernel
theorem d_Md_seat_17 : decode prog_14_method_19_code 17 = .ok (.iadd, 1) := by decide +kernel
theorem d_Md_seat_18 : decode prog_14_method_19_code 18 = .ok (.iaload, 1) := by decide +kernel
theorem d_Md_seat_19 : decode prog_14_method_19_code 19 = .ok (.ireturn, 1) := by decide +kernel
end
section
theorem d_Md_orderOf_0 : decode prog_14_method_16_code 0 = .ok (.iload_n 1, 1) := by decide +kernel
theorem d_Md_orderOf_1 : decode prog_14_method_16_code 1 = .ok (.aload_n 0, 1) := by decide +kernel
theorem d_Md_orderOf_2 : decode prog_14_method_16_code 2 = .ok (.getfield 141, 3) := by decide +kernel
theorem d_Md_orderOf_5 : decode prog_14_method_16_code 5 = .ok (.ishr, 1) := by decide +kernel
theorem d_Md_orderOf_6 : decode prog_14_method_16_code 6 = .ok (.istore_n 3, 1) := by decide +kernel
theorem d_Md_orderOf_7 : decode prog_14_method_16_code 7 = .ok (.aload_n 0, 1) := by decide +kernel
theorem d_Md_orderOf_8 : decode prog_14_method_16_code 8 = .ok (.getfield 138, 3) := by decide +kernel
theorem d_Md_orderOf_11 : decode prog_14_method_16_code 11 = .ok (.iconst 1, 1) := by decide +kernel
theorem d_Md_orderOf_12 : decode prog_14_method_16_code 12 = .ok (.isub, 1) := by decide +kernel
theorem d_Md_orderOf_13 : decode prog_14_method_16_code 13 = .ok (.istore 4, 2) := by decide +kernel
theorem d_Md_orderOf_15 : decode prog_14_method_16_code 15 = .ok (.iload 4, 2) := by decide +kernel
theorem d_Md_orderOf_17 : decode prog_14_method_16_code 17 = .ok (.iload_n 2, 1) := by decide +kernel
theorem d_Md_orderOf_18 : decode prog_14_method_16_code 18 = .ok (.if_icmp .le 16, 3) := by decide +kernel
theorem d_Md_orderOf_21 : decode prog_14_method_16_code 21 = .ok (.iload_n 3, 1) := by decide +kernel
theorem d_Md_orderOf_22 : decode prog_14_method_16_code 22 = .ok (.aload_n 0, 1) := by decide +kernel
theorem d_Md_orderOf_23 : decode prog_14_method_16_code 23 = .ok (.getfield 147, 3) := by decide +kernel
theorem d_Md_orderOf_26 : decode prog_14_method_16_code 26 = .ok (.idiv, 1) := by decide +kernel
theorem d_Md_orderOf_27 : decode prog_14_method_16_code 27 = .ok (.istore_n 3, 1) := by decide +kernel
theorem d_Md_orderOf_28 : decode prog_14_method_16_code 28 = .ok (.iinc 4 (-1), 3) := by decide +kernel
theorem d_Md_orderOf_31 : decode prog_14_method_16_code 31 = .ok (.goto (-16), 3) := by decide +kernel
theorem d_Md_orderOf_34 : decode prog_14_method_16_code 34 = .ok (.iload_n 3, 1) := by decide +kernel
theorem d_Md_orderOf_35 : decode prog_14_method_16_code 35 = .ok (.aload_n 0, 1) := by decide +kernel
theorem d_Md_orderOf_36 : decode prog_14_method_16_code 36 = .ok (.getfield 147, 3) := by decide +kernel
theorem d_Md_orderOf_39 : decode prog_14_method_16_code 39 = .ok (.irem, 1) := by decide +kernel
theorem d_Md_orderOf_40 : decode prog_14_method_16_code 40 = .ok (.ireturn, 1) := by decide +kernel
theorem d_Md_isTruthful_0 : decode prog_14_method_17_code 0 = .ok (.iload_n 1, 1) := by decide +kernel
theorem d_Md_isTruthful_1 : decode prog_14_method_17_code 1 = .ok (.aload_n 0, 1) := by decide +kernel
theorem d_Md_isTruthful_2 : decode prog_14_method_17_code 2 = .ok (.getfield 141, 3) := by decide +kernel
theorem d_Md_isTruthful_5 : decode prog_14_method_17_code 5 = .ok (.iconst 1, 1) := by decide +kernel
theorem d_Md_isTruthful_6 : decode prog_14_method_17_code 6 = .ok (.isub, 1) := by decide +kernel
theorem d_Md_isTruthful_7 : decode prog_14_method_17_code 7 = .ok (.iload_n 2, 1) := by decide +kernel
theorem d_Md_isTruthful_8 : decode prog_14_method_17_code 8 = .ok (.isub, 1) := by decide +kernel
theorem d_Md_isTruthful_9 : decode prog_14_method_17_code 9 = .ok (.ishr, 1) := by decide +kernel
theorem d_Md_isTruthful_10 : decode prog_14_method_17_code 10 = .ok (.iconst 1, 1) := by decide +kernel
theorem d_Md_isTruthful_11 : decode prog_14_method_17_code 11 = .ok (.iand, 1) := by decide +kernel
theorem d_Md_isTruthful_12 : decode prog_14_method_17_code 12 = .ok (.iconst 1, 1) := by decide +kernel
theorem d_Md_isTruthful_13 : decode prog_14_method_17_code 13 = .ok (.if_icmp .ne 7, 3) := by decide +kernel
theorem d_Md_isTruthful_16 : decode prog_14_method_17_code 16 = .ok (.iconst 1, 1) := by decide +kernel
theorem d_Md_isTruthful_17 : decode prog_14_method_17_code 17 = .ok (.goto 4, 3) := by decide +kernel
theorem d_Md_isTruthful_20 : decode prog_14_method_17_code 20 = .ok (.iconst 0, 1) := by decide +kernel
theorem d_Md_isTruthful_21 : decode prog_14_method_17_code 21 = .ok (.ireturn, 1) := by decide +kernel
theorem d_Md_isAnswer_0 : decode prog_14_method_22_code 0 = .ok (.aload_n 0, 1) := by decide +kernel
theorem d_Md_isAnswer_1 : decode prog_14_method_22_code 1 = .ok (.getfield 48, 3) := by decide +kernel
theorem d_Md_isAnswer_4 : decode prog_14_method_22_code 4 = .ok (.iload_n 1, 1) := by decide +kernel
theorem d_Md_isAnswer_5 : decode prog_14_method_22_code 5 = .ok (.iaload, 1) := by decide +kernel
theorem d_Md_isAnswer_6 : decode prog_14_method_22_code 6 = .ok (.iconst 1, 1) := by decide +kernel
theorem d_Md_isAnswer_7 : decode prog_14_method_22_code 7 = .ok (.aload_n 0, 1) := by decide +kernel
theorem d_Md_isAnswer_8 : decode prog_14_method_22_code 8 = .ok (.getfield 144, 3) := by decide +kernel
theorem d_Md_isAnswer_11 : decode prog_14_method_22_code 11 = .ok (.ishl, 1) := by decide +kernel
theorem d_Md_isAnswer_12 : decode prog_14_method_22_code 12 = .ok (.iconst 1, 1) := by decide +kernel
theorem d_Md_isAnswer_13 : decode prog_14_method_22_code 13 = .ok (.isub, 1) := by decide +kernel
theorem d_Md_isAnswer_14 : decode prog_14_method_22_code 14 = .ok (.if_icmp .ne 7, 3) := by decide +kernel
theorem d_Md_isAnswer_17 : decode prog_14_method_22_code 17 = .ok (.iconst 1, 1) := by decide +kernel
theorem d_Md_isAnswer_18 : decode prog_14_method_22_code 18 = .ok (.goto 4, 3) := by decide +kernel
theorem d_Md_isAnswer_21 : decode prog_14_method_22_code 21 = .ok (.iconst 0, 1) := by decide +kernel
theorem d_Md_isAnswer_22 : decode prog_14_method_22_code 22 = .ok (.ireturn, 1) := by decide +kernel
theorem d_Md_answer_0 : decode prog_14_method_27_code 0 = .ok (.aload_n 0, 1) := by decide +kernel
theorem d_Md_answer_1 : decode prog_14_method_27_code 1 = .ok (.iconst 0, 1) := by decide +kernel
theorem d_Md_answer_2 : decode prog_14_method_27_code 2 = .ok (.putfield 79, 3) := by decide +kernel
theorem d_Md_answer_5 : decode prog_14_method_27_code 5 = .ok (.aload_n 0, 1) := by decide +kernel
theorem d_Md_answer_6 : decode prog_14_method_27_code 6 = .ok (.iload_n 1, 1) := by decide +kernel
theorem d_Md_answer_7 : decode prog_14_method_27_code 7 = .ok (.invokevirtual 176, 3) := by decide +kernel
theorem d_Md_answer_10 : decode prog_14_method_27_code 10 = .ok (.ifCond .eq 27, 3) := by decide +kernel
theorem d_Md_answer_13 : decode prog_14_method_27_code 13 = .ok (.aload_n 0, 1) := by decide +kernel
theorem d_Md_answer_14 : decode prog_14_method_27_code 14 = .ok (.iload_n 2, 1) := by decide +kernel
theorem d_Md_answer_15 : decode prog_14_method_27_code 15 = .ok (.iload_n 3, 1) := by decide +kernel
theorem d_Md_answer_16 : decode prog_14_method_27_code 16 = .ok (.invokevirtual 179, 3) := by decide +kernel
theorem d_Md_answer_19 : decode prog_14_method_27_code 19 = .ok (.ifCond .eq 18, 3) := by decide +kernel
theorem d_Md_answer_22 : decode prog_14_method_27_code 22 = .ok (.aload_n 0, 1) := by decide +kernel
theorem d_Md_answer_23 : decode prog_14_method_27_code 23 = .ok (.aload_n 0, 1) := by decide +kernel
theorem d_Md_answer_24 : decode prog_14_method_27_code 24 = .ok (.getfield 55, 3) := by decide +kernel
theorem d_Md_answer_27 : decode prog_14_method_27_code 27 = .ok (.iload_n 1, 1) := by decide +kernel
theorem d_Md_answer_28 : decode prog_14_method_27_code 28 = .ok (.iaload, 1) := by decide +kernel
theorem d_Md_answer_29 : decode prog_14_method_27_code 29 = .ok (.iload_n 2, 1) := by decide +kernel
theorem d_Md_answer_30 : decode prog_14_method_27_code 30 = .ok (.iload_n 3, 1) := by decide +kernel
theorem d_Md_answer_31 : decode prog_14_method_27_code 31 = .ok (.invokevirtual 182, 3) := by decide +kernel
theorem d_Md_answer_34 : decode prog_14_method_27_code 34 = .ok (.goto 4, 3) := by decide +kernel
theorem d_Md_answer_37 : decode prog_14_method_27_code 37 = .ok (.iconst (-1), 1) := by decide +kernel
theorem d_Md_answer_38 : decode prog_14_method_27_code 38 = .ok (.ireturn, 1) := by decide +kernel
theorem d_Md_isKept_0 : decode prog_14_method_24_code 0 = .ok (.iload_n 1, 1) := by decide +kernel
theorem d_Md_isKept_1 : decode prog_14_method_24_code 1 = .ok (.ifCond .lt 15, 3) := by decide +kernel
theorem d_Md_isKept_4 : decode prog_14_method_24_code 4 = .ok (.iload_n 1, 1) := by decide +kernel
theorem d_Md_isKept_5 : decode prog_14_method_24_code 5 = .ok (.aload_n 0, 1) := by decide +kernel
theorem d_Md_isKept_6 : decode prog_14_method_24_code 6 = .ok (.getfield 89, 3) := by decide +kernel
theorem d_Md_isKept_9 : decode prog_14_method_24_code 9 = .ok (.if_icmp .ge 7, 3) := by decide +kernel
theorem d_Md_isKept_12 : decode prog_14_method_24_code 12 = .ok (.iconst 1, 1) := by decide +kernel
theorem d_Md_isKept_13 : decode prog_14_method_24_code 13 = .ok (.goto 4, 3) := by decide +kernel
theorem d_Md_isKept_16 : decode prog_14_method_24_code 16 = .ok (.iconst 0, 1) := by decide +kernel
theorem d_Md_isKept_17 : decode prog_14_method_24_code 17 = .ok (.ireturn, 1) := by decide +kernel
theorem d_Md_isOf_0 : decode prog_14_method_25_code 0 = .ok (.iload_n 1, 1) := by decide +kernel
theorem d_Md_isOf_1 : decode prog_14_method_25_code 1 = .ok (.ifCond .lt 27, 3) := by decide +kernel
theorem d_Md_isOf_4 : decode prog_14_method_25_code 4 = .ok (.iload_n 1, 1) := by decide +kernel
theorem d_Md_isOf_5 : decode prog_14_method_25_code 5 = .ok (.aload_n 0, 1) := by decide +kernel
theorem d_Md_isOf_6 : decode prog_14_method_25_code 6 = .ok (.getfield 13, 3) := by decide +kernel
theorem d_Md_isOf_9 : decode prog_14_method_25_code 9 = .ok (.if_icmp .ge 19, 3) := by decide +kernel
theorem d_Md_isOf_12 : decode prog_14_method_25_code 12 = .ok (.iload_n 2, 1) := by decide +kernel
theorem d_Md_isOf_13 : decode prog_14_method_25_code 13 = .ok (.ifCond .lt 15, 3) := by decide +kernel
theorem d_Md_isOf_16 : decode prog_14_method_25_code 16 = .ok (.iload_n 2, 1) := by decide +kernel
theorem d_Md_isOf_17 : decode prog_14_method_25_code 17 = .ok (.aload_n 0, 1) := by decide +kernel
theorem d_Md_isOf_18 : decode prog_14_method_25_code 18 = .ok (.getfield 138, 3) := by decide +kernel
theorem d_Md_isOf_21 : decode prog_14_method_25_code 21 = .ok (.if_icmp .ge 7, 3) := by decide +kernel
theorem d_Md_isOf_24 : decode prog_14_method_25_code 24 = .ok (.iconst 1, 1) := by decide +kernel
theorem d_Md_isOf_25 : decode prog_14_method_25_code 25 = .ok (.goto 4, 3) := by decide +kernel
theorem d_Md_isOf_28 : decode prog_14_method_25_code 28 = .ok (.iconst 0, 1) := by decide +kernel
theorem d_Md_isOf_29 : decode prog_14_method_25_code 29 = .ok (.ireturn, 1) := by decide +kernel
theorem d_Md_valueOf_0 : decode prog_14_method_18_code 0 = .ok (.aload_n 0, 1) := by decide +kernel
theorem d_Md_valueOf_1 : decode prog_14_method_18_code 1 = .ok (.getfield 41, 3) := by decide +kernel
theorem d_Md_valueOf_4 : decode prog_14_method_18_code 4 = .ok (.iconst 4, 1) := by decide +kernel
theorem d_Md_valueOf_5 : decode prog_14_method_18_code 5 = .ok (.aload_n 0, 1) := by decide +kernel
theorem d_Md_valueOf_6 : decode prog_14_method_18_code 6 = .ok (.iload_n 1, 1) := by decide +kernel
theorem d_Md_valueOf_7 : decode prog_14_method_18_code 7 = .ok (.iload_n 3, 1) := by decide +kernel
theorem d_Md_valueOf_8 : decode prog_14_method_18_code 8 = .ok (.invokevirtual 150, 3) := by decide +kernel
theorem d_Md_valueOf_11 : decode prog_14_method_18_code 11 = .ok (.imul, 1) := by decide +kernel
theorem d_Md_valueOf_12 : decode prog_14_method_18_code 12 = .ok (.iload_n 2, 1) := by decide +kernel
theorem d_Md_valueOf_13 : decode prog_14_method_18_code 13 = .ok (.iadd, 1) := by decide +kernel
theorem d_Md_valueOf_14 : decode prog_14_method_18_code 14 = .ok (.iaload, 1) := by decide +kernel
theorem d_Md_valueOf_15 : decode prog_14_method_18_code 15 = .ok (.ireturn, 1) := by decide +kernel
theorem d_Md_truth_0 : decode prog_14_method_28_code 0 = .ok (.aload_n 0, 1) := by decide +kernel
theorem d_Md_truth_1 : decode prog_14_method_28_code 1 = .ok (.iconst 0, 1) := by decide +kernel
theorem d_Md_truth_2 : decode prog_14_method_28_code 2 = .ok (.putfield 79, 3) := by decide +kernel
theorem d_Md_truth_5 : decode prog_14_method_28_code 5 = .ok (.aload_n 0, 1) := by decide +kernel
theorem d_Md_truth_6 : decode prog_14_method_28_code 6 = .ok (.iload_n 1, 1) := by decide +kernel
theorem d_Md_truth_7 : decode prog_14_method_28_code 7 = .ok (.invokevirtual 176, 3) := by decide +kernel
theorem d_Md_truth_10 : decode prog_14_method_28_code 10 = .ok (.ifCond .eq 11, 3) := by decide +kernel
theorem d_Md_truth_13 : decode prog_14_method_28_code 13 = .ok (.aload_n 0, 1) := by decide +kernel
theorem d_Md_truth_14 : decode prog_14_method_28_code 14 = .ok (.iload_n 2, 1) := by decide +kernel
theorem d_Md_truth_15 : decode prog_14_method_28_code 15 = .ok (.invokevirtual 186, 3) := by decide +kernel
theorem d_Md_truth_18 : decode prog_14_method_28_code 18 = .ok (.ifCond .ne 7, 3) := by decide +kernel
theorem d_Md_truth_21 : decode prog_14_method_28_code 21 = .ok (.iconst (-1), 1) := by decide +kernel
theorem d_Md_truth_22 : decode prog_14_method_28_code 22 = .ok (.goto 22, 3) := by decide +kernel
theorem d_Md_truth_25 : decode prog_14_method_28_code 25 = .ok (.aload_n 0, 1) := by decide +kernel
theorem d_Md_truth_26 : decode prog_14_method_28_code 26 = .ok (.aload_n 0, 1) := by decide +kernel
theorem d_Md_truth_27 : decode prog_14_method_28_code 27 = .ok (.getfield 55, 3) := by decide +kernel
theorem d_Md_truth_30 : decode prog_14_method_28_code 30 = .ok (.iload_n 1, 1) := by decide +kernel
theorem d_Md_truth_31 : decode prog_14_method_28_code 31 = .ok (.iaload, 1) := by decide +kernel
theorem d_Md_truth_32 : decode prog_14_method_28_code 32 = .ok (.iload_n 2, 1) := by decide +kernel
theorem d_Md_truth_33 : decode prog_14_method_28_code 33 = .ok (.invokevirtual 156, 3) := by decide +kernel
theorem d_Md_truth_36 : decode prog_14_method_28_code 36 = .ok (.ifCond .eq 7, 3) := by decide +kernel
theorem d_Md_truth_39 : decode prog_14_method_28_code 39 = .ok (.iconst 1, 1) := by decide +kernel
theorem d_Md_truth_40 : decode prog_14_method_28_code 40 = .ok (.goto 4, 3) := by decide +kernel
theorem d_Md_truth_43 : decode prog_14_method_28_code 43 = .ok (.iconst 0, 1) := by decide +kernel
theorem d_Md_truth_44 : decode prog_14_method_28_code 44 = .ok (.ireturn, 1) := by decide +kernel
theorem d_Md_isPerson_0 : decode prog_14_method_26_code 0 = .ok (.iload_n 1, 1) := by decide +kernel
theorem d_Md_isPerson_1 : decode prog_14_method_26_code 1 = .ok (.ifCond .lt 15, 3) := by decide +kernel
theorem d_Md_isPerson_4 : decode prog_14_method_26_code 4 = .ok (.iload_n 1, 1) := by decide +kernel
theorem d_Md_isPerson_5 : decode prog_14_method_26_code 5 = .ok (.aload_n 0, 1) := by decide +kernel
theorem d_Md_isPerson_6 : decode prog_14_method_26_code 6 = .ok (.getfield 141, 3) := by decide +kernel
theorem d_Md_isPerson_9 : decode prog_14_method_26_code 9 = .ok (.if_icmp .ge 7, 3) := by decide +kernel
theorem d_Md_isPerson_12 : decode prog_14_method_26_code 12 = .ok (.iconst 1, 1) := by decide +kernel
theorem d_Md_isPerson_13 : decode prog_14_method_26_code 13 = .ok (.goto 4, 3) := by decide +kernel
theorem d_Md_isPerson_16 : decode prog_14_method_26_code 16 = .ok (.iconst 0, 1) := by decide +kernel
theorem d_Md_isPerson_17 : decode prog_14_method_26_code 17 = .ok (.ireturn, 1) := by decide +kernel
theorem d_Md_often_0 : decode prog_14_method_29_code 0 = .ok (.aload_n 0, 1) := by decide +kernel
theorem d_Md_often_1 : decode prog_14_method_29_code 1 = .ok (.iconst 0, 1) := by decide +kernel
theorem d_Md_often_2 : decode prog_14_method_29_code 2 = .ok (.putfield 79, 3) := by decide +kernel
theorem d_Md_often_5 : decode prog_14_method_29_code 5 = .ok (.aload_n 0, 1) := by decide +kernel
theorem d_Md_often_6 : decode prog_14_method_29_code 6 = .ok (.iload_n 1, 1) := by decide +kernel
theorem d_Md_often_7 : decode prog_14_method_29_code 7 = .ok (.iload_n 2, 1) := by decide +kernel
theorem d_Md_often_8 : decode prog_14_method_29_code 8 = .ok (.invokevirtual 179, 3) := by decide +kernel
theorem d_Md_often_11 : decode prog_14_method_29_code 11 = .ok (.ifCond .eq 15, 3) := by decide +kernel
theorem d_Md_often_14 : decode prog_14_method_29_code 14 = .ok (.iload_n 3, 1) := by decide +kernel
theorem d_Md_often_15 : decode prog_14_method_29_code 15 = .ok (.ifCond .lt 11, 3) := by decide +kernel
theorem d_Md_often_18 : decode prog_14_method_29_code 18 = .ok (.iload_n 3, 1) := by decide +kernel
theorem d_Md_often_19 : decode prog_14_method_29_code 19 = .ok (.aload_n 0, 1) := by decide +kernel
theorem d_Md_often_20 : decode prog_14_method_29_code 20 = .ok (.getfield 13, 3) := by decide +kernel
theorem d_Md_often_23 : decode prog_14_method_29_code 23 = .ok (.if_icmp .lt 5, 3) := by decide +kernel
theorem d_Md_often_26 : decode prog_14_method_29_code 26 = .ok (.iconst (-1), 1) := by decide +kernel
theorem d_Md_often_27 : decode prog_14_method_29_code 27 = .ok (.ireturn, 1) := by decide +kernel
theorem d_Md_often_28 : decode prog_14_method_29_code 28 = .ok (.aload_n 0, 1) := by decide +kernel
theorem d_Md_often_29 : decode prog_14_method_29_code 29 = .ok (.invokevirtual 169, 3) := by decide +kernel
theorem d_Md_often_32 : decode prog_14_method_29_code 32 = .ok (.iconst 0, 1) := by decide +kernel
theorem d_Md_often_33 : decode prog_14_method_29_code 33 = .ok (.istore 4, 2) := by decide +kernel
theorem d_Md_often_35 : decode prog_14_method_29_code 35 = .ok (.iconst 0, 1) := by decide +kernel
theorem d_Md_often_36 : decode prog_14_method_29_code 36 = .ok (.istore 5, 2) := by decide +kernel
theorem d_Md_often_38 : decode prog_14_method_29_code 38 = .ok (.iload 5, 2) := by decide +kernel
theorem d_Md_often_40 : decode prog_14_method_29_code 40 = .ok (.aload_n 0, 1) := by decide +kernel
theorem d_Md_often_41 : decode prog_14_method_29_code 41 = .ok (.invokevirtual 163, 3) := by decide +kernel
theorem d_Md_often_44 : decode prog_14_method_29_code 44 = .ok (.if_icmp .ge 40, 3) := by decide +kernel
theorem d_Md_often_47 : decode prog_14_method_29_code 47 = .ok (.iload 4, 2) := by decide +kernel
theorem d_Md_often_49 : decode prog_14_method_29_code 49 = .ok (.aload_n 0, 1) := by decide +kernel
theorem d_Md_often_50 : decode prog_14_method_29_code 50 = .ok (.iload 5, 2) := by decide +kernel
theorem d_Md_often_52 : decode prog_14_method_29_code 52 = .ok (.invokevirtual 172, 3) := by decide +kernel
theorem d_Md_often_55 : decode prog_14_method_29_code 55 = .ok (.ifCond .eq 19, 3) := by decide +kernel
theorem d_Md_often_58 : decode prog_14_method_29_code 58 = .ok (.aload_n 0, 1) := by decide +kernel
theorem d_Md_often_59 : decode prog_14_method_29_code 59 = .ok (.iload 5, 2) := by decide +kernel
theorem d_Md_often_61 : decode prog_14_method_29_code 61 = .ok (.iload_n 1, 1) := by decide +kernel
theorem d_Md_often_62 : decode prog_14_method_29_code 62 = .ok (.iload_n 2, 1) := by decide +kernel
theorem d_Md_often_63 : decode prog_14_method_29_code 63 = .ok (.invokevirtual 182, 3) := by decide +kernel
theorem d_Md_often_66 : decode prog_14_method_29_code 66 = .ok (.iload_n 3, 1) := by decide +kernel
theorem d_Md_often_67 : decode prog_14_method_29_code 67 = .ok (.if_icmp .ne 7, 3) := by decide +kernel
theorem d_Md_often_70 : decode prog_14_method_29_code 70 = .ok (.iconst 1, 1) := by decide +kernel
theorem d_Md_often_71 : decode prog_14_method_29_code 71 = .ok (.goto 4, 3) := by decide +kernel
theorem d_Md_often_74 : decode prog_14_method_29_code 74 = .ok (.iconst 0, 1) := by decide +kernel
theorem d_Md_often_75 : decode prog_14_method_29_code 75 = .ok (.iadd, 1) := by decide +kernel
theorem d_Md_often_76 : decode prog_14_method_29_code 76 = .ok (.istore 4, 2) := by decide +kernel
theorem d_Md_often_78 : decode prog_14_method_29_code 78 = .ok (.iinc 5 1, 3) := by decide +kernel
theorem d_Md_often_81 : decode prog_14_method_29_code 81 = .ok (.goto (-43), 3) := by decide +kernel
theorem d_Md_often_84 : decode prog_14_method_29_code 84 = .ok (.iload 4, 2) := by decide +kernel
theorem d_Md_often_86 : decode prog_14_method_29_code 86 = .ok (.ireturn, 1) := by decide +kernel
theorem d_Md_spare_0 : decode prog_14_method_30_code 0 = .ok (.aload_n 0, 1) := by decide +kernel
theorem d_Md_spare_1 : decode prog_14_method_30_code 1 = .ok (.iconst 0, 1) := by decide +kernel
theorem d_Md_spare_2 : decode prog_14_method_30_code 2 = .ok (.putfield 79, 3) := by decide +kernel
theorem d_Md_spare_5 : decode prog_14_method_30_code 5 = .ok (.iload_n 1, 1) := by decide +kernel
theorem d_Md_spare_6 : decode prog_14_method_30_code 6 = .ok (.ifCond .lt 11, 3) := by decide +kernel
theorem d_Md_spare_9 : decode prog_14_method_30_code 9 = .ok (.iload_n 1, 1) := by decide +kernel
theorem d_Md_spare_10 : decode prog_14_method_30_code 10 = .ok (.aload_n 0, 1) := by decide +kernel
theorem d_Md_spare_11 : decode prog_14_method_30_code 11 = .ok (.getfield 144, 3) := by decide +kernel
theorem d_Md_spare_14 : decode prog_14_method_30_code 14 = .ok (.if_icmp .lt 5, 3) := by decide +kernel
theorem d_Md_spare_17 : decode prog_14_method_30_code 17 = .ok (.iconst 0, 1) := by decide +kernel
theorem d_Md_spare_18 : decode prog_14_method_30_code 18 = .ok (.ireturn, 1) := by decide +kernel
theorem d_Md_spare_19 : decode prog_14_method_30_code 19 = .ok (.aload_n 0, 1) := by decide +kernel
theorem d_Md_spare_20 : decode prog_14_method_30_code 20 = .ok (.invokevirtual 169, 3) := by decide +kernel
theorem d_Md_spare_23 : decode prog_14_method_30_code 23 = .ok (.iconst 1, 1) := by decide +kernel
theorem d_Md_spare_24 : decode prog_14_method_30_code 24 = .ok (.aload_n 0, 1) := by decide +kernel
theorem d_Md_spare_25 : decode prog_14_method_30_code 25 = .ok (.getfield 144, 3) := by decide +kernel
theorem d_Md_spare_28 : decode prog_14_method_30_code 28 = .ok (.ishl, 1) := by decide +kernel
theorem d_Md_spare_29 : decode prog_14_method_30_code 29 = .ok (.iconst 1, 1) := by decide +kernel
theorem d_Md_spare_30 : decode prog_14_method_30_code 30 = .ok (.isub, 1) := by decide +kernel
theorem d_Md_spare_31 : decode prog_14_method_30_code 31 = .ok (.iconst 1, 1) := by decide +kernel
theorem d_Md_spare_32 : decode prog_14_method_30_code 32 = .ok (.iload_n 1, 1) := by decide +kernel
theorem d_Md_spare_33 : decode prog_14_method_30_code 33 = .ok (.ishl, 1) := by decide +kernel
theorem d_Md_spare_34 : decode prog_14_method_30_code 34 = .ok (.iconst (-1), 1) := by decide +kernel
theorem d_Md_spare_35 : decode prog_14_method_30_code 35 = .ok (.ixor, 1) := by decide +kernel
theorem d_Md_spare_36 : decode prog_14_method_30_code 36 = .ok (.iand, 1) := by decide +kernel
theorem d_Md_spare_37 : decode prog_14_method_30_code 37 = .ok (.istore_n 2, 1) := by decide +kernel
theorem d_Md_spare_38 : decode prog_14_method_30_code 38 = .ok (.iconst 0, 1) := by decide +kernel
theorem d_Md_spare_39 : decode prog_14_method_30_code 39 = .ok (.istore_n 3, 1) := by decide +kernel
theorem d_Md_spare_40 : decode prog_14_method_30_code 40 = .ok (.iload_n 3, 1) := by decide +kernel
theorem d_Md_spare_41 : decode prog_14_method_30_code 41 = .ok (.aload_n 0, 1) := by decide +kernel
theorem d_Md_spare_42 : decode prog_14_method_30_code 42 = .ok (.invokevirtual 163, 3) := by decide +kernel
theorem d_Md_spare_45 : decode prog_14_method_30_code 45 = .ok (.if_icmp .ge 21, 3) := by decide +kernel
theorem d_Md_spare_48 : decode prog_14_method_30_code 48 = .ok (.aload_n 0, 1) := by decide +kernel
theorem d_Md_spare_49 : decode prog_14_method_30_code 49 = .ok (.getfield 48, 3) := by decide +kernel
theorem d_Md_spare_52 : decode prog_14_method_30_code 52 = .ok (.iload_n 3, 1) := by decide +kernel
theorem d_Md_spare_53 : decode prog_14_method_30_code 53 = .ok (.iaload, 1) := by decide +kernel
theorem d_Md_spare_54 : decode prog_14_method_30_code 54 = .ok (.iload_n 2, 1) := by decide +kernel
theorem d_Md_spare_55 : decode prog_14_method_30_code 55 = .ok (.if_icmp .ne 5, 3) := by decide +kernel
theorem d_Md_spare_58 : decode prog_14_method_30_code 58 = .ok (.iconst 0, 1) := by decide +kernel
theorem d_Md_spare_59 : decode prog_14_method_30_code 59 = .ok (.ireturn, 1) := by decide +kernel
theorem d_Md_spare_60 : decode prog_14_method_30_code 60 = .ok (.iinc 3 1, 3) := by decide +kernel
theorem d_Md_spare_63 : decode prog_14_method_30_code 63 = .ok (.goto (-23), 3) := by decide +kernel
theorem d_Md_spare_66 : decode prog_14_method_30_code 66 = .ok (.iconst 1, 1) := by decide +kernel
theorem d_Md_spare_67 : decode prog_14_method_30_code 67 = .ok (.ireturn, 1) := by decide +kernel
theorem d_Md_cross_0 : decode prog_14_method_34_code 0 = .ok (.aload_n 0, 1) := by decide +kernel
theorem d_Md_cross_1 : decode prog_14_method_34_code 1 = .ok (.iconst 0, 1) := by decide +kernel
theorem d_Md_cross_2 : decode prog_14_method_34_code 2 = .ok (.putfield 79, 3) := by decide +kernel
theorem d_Md_cross_5 : decode prog_14_method_34_code 5 = .ok (.aload_n 0, 1) := by decide +kernel
theorem d_Md_cross_6 : decode prog_14_method_34_code 6 = .ok (.invokevirtual 169, 3) := by decide +kernel
theorem d_Md_cross_9 : decode prog_14_method_34_code 9 = .ok (.aload_n 0, 1) := by decide +kernel
theorem d_Md_cross_10 : decode prog_14_method_34_code 10 = .ok (.getfield 86, 3) := by decide +kernel
theorem d_Md_cross_13 : decode prog_14_method_34_code 13 = .ok (.ifCond .eq 8, 3) := by decide +kernel
theorem d_Md_cross_16 : decode prog_14_method_34_code 16 = .ok (.aload_n 0, 1) := by decide +kernel
theorem d_Md_cross_17 : decode prog_14_method_34_code 17 = .ok (.getfield 92, 3) := by decide +kernel
theorem d_Md_cross_20 : decode prog_14_method_34_code 20 = .ok (.ireturn, 1) := by decide +kernel
theorem d_Md_cross_21 : decode prog_14_method_34_code 21 = .ok (.aload_n 0, 1) := by decide +kernel
theorem d_Md_cross_22 : decode prog_14_method_34_code 22 = .ok (.iconst 1, 1) := by decide +kernel
theorem d_Md_cross_23 : decode prog_14_method_34_code 23 = .ok (.putfield 86, 3) := by decide +kernel
theorem d_Md_cross_26 : decode prog_14_method_34_code 26 = .ok (.aload_n 0, 1) := by decide +kernel
theorem d_Md_cross_27 : decode prog_14_method_34_code 27 = .ok (.iconst 0, 1) := by decide +kernel
theorem d_Md_cross_28 : decode prog_14_method_34_code 28 = .ok (.putfield 92, 3) := by decide +kernel
theorem d_Md_cross_31 : decode prog_14_method_34_code 31 = .ok (.aload_n 0, 1) := by decide +kernel
theorem d_Md_cross_32 : decode prog_14_method_34_code 32 = .ok (.invokevirtual 95, 3) := by decide +kernel
theorem d_Md_cross_35 : decode prog_14_method_34_code 35 = .ok (.iconst 0, 1) := by decide +kernel
theorem d_Md_cross_36 : decode prog_14_method_34_code 36 = .ok (.istore_n 1, 1) := by decide +kernel
theorem d_Md_cross_37 : decode prog_14_method_34_code 37 = .ok (.iload_n 1, 1) := by decide +kernel
theorem d_Md_cross_38 : decode prog_14_method_34_code 38 = .ok (.aload_n 0, 1) := by decide +kernel
theorem d_Md_cross_39 : decode prog_14_method_34_code 39 = .ok (.getfield 144, 3) := by decide +kernel
theorem d_Md_cross_42 : decode prog_14_method_34_code 42 = .ok (.if_icmp .ge 54, 3) := by decide +kernel
theorem d_Md_cross_45 : decode prog_14_method_34_code 45 = .ok (.aload_n 0, 1) := by decide +kernel
theorem d_Md_cross_46 : decode prog_14_method_34_code 46 = .ok (.iload_n 1, 1) := by decide +kernel
theorem d_Md_cross_47 : decode prog_14_method_34_code 47 = .ok (.invokevirtual 195, 3) := by decide +kernel
theorem d_Md_cross_50 : decode prog_14_method_34_code 50 = .ok (.istore_n 2, 1) := by decide +kernel
theorem d_Md_cross_51 : decode prog_14_method_34_code 51 = .ok (.iload_n 2, 1) := by decide +kernel
theorem d_Md_cross_52 : decode prog_14_method_34_code 52 = .ok (.ifCond .ne 9, 3) := by decide +kernel
theorem d_Md_cross_55 : decode prog_14_method_34_code 55 = .ok (.iinc 1 1, 3) := by decide +kernel
theorem d_Md_cross_58 : decode prog_14_method_34_code 58 = .ok (.goto (-21), 3) := by decide +kernel
theorem d_Md_cross_61 : decode prog_14_method_34_code 61 = .ok (.aload_n 0, 1) := by decide +kernel
theorem d_Md_cross_62 : decode prog_14_method_34_code 62 = .ok (.getfield 70, 3) := by decide +kernel
theorem d_Md_cross_65 : decode prog_14_method_34_code 65 = .ok (.aload_n 0, 1) := by decide +kernel
theorem d_Md_cross_66 : decode prog_14_method_34_code 66 = .ok (.getfield 92, 3) := by decide +kernel
theorem d_Md_cross_69 : decode prog_14_method_34_code 69 = .ok (.iload_n 1, 1) := by decide +kernel
theorem d_Md_cross_70 : decode prog_14_method_34_code 70 = .ok (.iastore, 1) := by decide +kernel
theorem d_Md_cross_71 : decode prog_14_method_34_code 71 = .ok (.aload_n 0, 1) := by decide +kernel
theorem d_Md_cross_72 : decode prog_14_method_34_code 72 = .ok (.getfield 73, 3) := by decide +kernel
theorem d_Md_cross_75 : decode prog_14_method_34_code 75 = .ok (.aload_n 0, 1) := by decide +kernel
theorem d_Md_cross_76 : decode prog_14_method_34_code 76 = .ok (.getfield 92, 3) := by decide +kernel
theorem d_Md_cross_79 : decode prog_14_method_34_code 79 = .ok (.iload_n 2, 1) := by decide +kernel
theorem d_Md_cross_80 : decode prog_14_method_34_code 80 = .ok (.iastore, 1) := by decide +kernel
theorem d_Md_cross_81 : decode prog_14_method_34_code 81 = .ok (.aload_n 0, 1) := by decide +kernel
theorem d_Md_cross_82 : decode prog_14_method_34_code 82 = .ok (.dup, 1) := by decide +kernel
theorem d_Md_cross_83 : decode prog_14_method_34_code 83 = .ok (.getfield 92, 3) := by decide +kernel
theorem d_Md_cross_86 : decode prog_14_method_34_code 86 = .ok (.iconst 1, 1) := by decide +kernel
theorem d_Md_cross_87 : decode prog_14_method_34_code 87 = .ok (.iadd, 1) := by decide +kernel
theorem d_Md_cross_88 : decode prog_14_method_34_code 88 = .ok (.putfield 92, 3) := by decide +kernel
theorem d_Md_cross_91 : decode prog_14_method_34_code 91 = .ok (.iconst 0, 1) := by decide +kernel
theorem d_Md_cross_92 : decode prog_14_method_34_code 92 = .ok (.istore_n 1, 1) := by decide +kernel
theorem d_Md_cross_93 : decode prog_14_method_34_code 93 = .ok (.goto (-56), 3) := by decide +kernel
theorem d_Md_cross_96 : decode prog_14_method_34_code 96 = .ok (.aload_n 0, 1) := by decide +kernel
theorem d_Md_cross_97 : decode prog_14_method_34_code 97 = .ok (.getfield 92, 3) := by decide +kernel
theorem d_Md_cross_100 : decode prog_14_method_34_code 100 = .ok (.ireturn, 1) := by decide +kernel
theorem d_Md_crossBy_0 : decode prog_14_method_33_code 0 = .ok (.iconst 0, 1) := by decide +kernel
theorem d_Md_crossBy_1 : decode prog_14_method_33_code 1 = .ok (.istore_n 2, 1) := by decide +kernel
theorem d_Md_crossBy_2 : decode prog_14_method_33_code 2 = .ok (.iload_n 2, 1) := by decide +kernel
theorem d_Md_crossBy_3 : decode prog_14_method_33_code 3 = .ok (.bipush 12, 2) := by decide +kernel
theorem d_Md_crossBy_5 : decode prog_14_method_33_code 5 = .ok (.if_icmp .ge 16, 3) := by decide +kernel
theorem d_Md_crossBy_8 : decode prog_14_method_33_code 8 = .ok (.aload_n 0, 1) := by decide +kernel
theorem d_Md_crossBy_9 : decode prog_14_method_33_code 9 = .ok (.getfield 64, 3) := by decide +kernel
theorem d_Md_crossBy_12 : decode prog_14_method_33_code 12 = .ok (.iload_n 2, 1) := by decide +kernel
theorem d_Md_crossBy_13 : decode prog_14_method_33_code 13 = .ok (.iconst 0, 1) := by decide +kernel
theorem d_Md_crossBy_14 : decode prog_14_method_33_code 14 = .ok (.iastore, 1) := by decide +kernel
theorem d_Md_crossBy_15 : decode prog_14_method_33_code 15 = .ok (.iinc 2 1, 3) := by decide +kernel
theorem d_Md_crossBy_18 : decode prog_14_method_33_code 18 = .ok (.goto (-16), 3) := by decide +kernel
theorem d_Md_crossBy_21 : decode prog_14_method_33_code 21 = .ok (.iconst 0, 1) := by decide +kernel
theorem d_Md_crossBy_22 : decode prog_14_method_33_code 22 = .ok (.istore_n 2, 1) := by decide +kernel
theorem d_Md_crossBy_23 : decode prog_14_method_33_code 23 = .ok (.iload_n 2, 1) := by decide +kernel
theorem d_Md_crossBy_24 : decode prog_14_method_33_code 24 = .ok (.iconst 3, 1) := by decide +kernel
theorem d_Md_crossBy_25 : decode prog_14_method_33_code 25 = .ok (.if_icmp .ge 16, 3) := by decide +kernel
theorem d_Md_crossBy_28 : decode prog_14_method_33_code 28 = .ok (.aload_n 0, 1) := by decide +kernel
theorem d_Md_crossBy_29 : decode prog_14_method_33_code 29 = .ok (.getfield 67, 3) := by decide +kernel
theorem d_Md_crossBy_32 : decode prog_14_method_33_code 32 = .ok (.iload_n 2, 1) := by decide +kernel
theorem d_Md_crossBy_33 : decode prog_14_method_33_code 33 = .ok (.iconst 0, 1) := by decide +kernel
theorem d_Md_crossBy_34 : decode prog_14_method_33_code 34 = .ok (.iastore, 1) := by decide +kernel
theorem d_Md_crossBy_35 : decode prog_14_method_33_code 35 = .ok (.iinc 2 1, 3) := by decide +kernel
theorem d_Md_crossBy_38 : decode prog_14_method_33_code 38 = .ok (.goto (-15), 3) := by decide +kernel
theorem d_Md_crossBy_41 : decode prog_14_method_33_code 41 = .ok (.iconst 0, 1) := by decide +kernel
theorem d_Md_crossBy_42 : decode prog_14_method_33_code 42 = .ok (.istore_n 2, 1) := by decide +kernel
theorem d_Md_crossBy_43 : decode prog_14_method_33_code 43 = .ok (.iload_n 2, 1) := by decide +kernel
theorem d_Md_crossBy_44 : decode prog_14_method_33_code 44 = .ok (.aload_n 0, 1) := by decide +kernel
theorem d_Md_crossBy_45 : decode prog_14_method_33_code 45 = .ok (.invokevirtual 163, 3) := by decide +kernel
theorem d_Md_crossBy_48 : decode prog_14_method_33_code 48 = .ok (.if_icmp .ge 143, 3) := by decide +kernel
theorem d_Md_crossBy_51 : decode prog_14_method_33_code 51 = .ok (.aload_n 0, 1) := by decide +kernel
theorem d_Md_crossBy_52 : decode prog_14_method_33_code 52 = .ok (.getfield 48, 3) := by decide +kernel
theorem d_Md_crossBy_55 : decode prog_14_method_33_code 55 = .ok (.iload_n 2, 1) := by decide +kernel
theorem d_Md_crossBy_56 : decode prog_14_method_33_code 56 = .ok (.iaload, 1) := by decide +kernel
theorem d_Md_crossBy_57 : decode prog_14_method_33_code 57 = .ok (.iload_n 1, 1) := by decide +kernel
theorem d_Md_crossBy_58 : decode prog_14_method_33_code 58 = .ok (.ishr, 1) := by decide +kernel
theorem d_Md_crossBy_59 : decode prog_14_method_33_code 59 = .ok (.iconst 1, 1) := by decide +kernel
theorem d_Md_crossBy_60 : decode prog_14_method_33_code 60 = .ok (.iand, 1) := by decide +kernel
theorem d_Md_crossBy_61 : decode prog_14_method_33_code 61 = .ok (.ifCond .eq 124, 3) := by decide +kernel
theorem d_Md_crossBy_64 : decode prog_14_method_33_code 64 = .ok (.aload_n 0, 1) := by decide +kernel
theorem d_Md_crossBy_65 : decode prog_14_method_33_code 65 = .ok (.iload_n 2, 1) := by decide +kernel
theorem d_Md_crossBy_66 : decode prog_14_method_33_code 66 = .ok (.invokevirtual 189, 3) := by decide +kernel
theorem d_Md_crossBy_69 : decode prog_14_method_33_code 69 = .ok (.ifCond .ne 6, 3) := by decide +kernel
theorem d_Md_crossBy_72 : decode prog_14_method_33_code 72 = .ok (.goto 113, 3) := by decide +kernel
theorem d_Md_crossBy_75 : decode prog_14_method_33_code 75 = .ok (.iconst 0, 1) := by decide +kernel
theorem d_Md_crossBy_76 : decode prog_14_method_33_code 76 = .ok (.istore_n 3, 1) := by decide +kernel
theorem d_Md_crossBy_77 : decode prog_14_method_33_code 77 = .ok (.iload_n 3, 1) := by decide +kernel
theorem d_Md_crossBy_78 : decode prog_14_method_33_code 78 = .ok (.aload_n 0, 1) := by decide +kernel
theorem d_Md_crossBy_79 : decode prog_14_method_33_code 79 = .ok (.getfield 138, 3) := by decide +kernel
theorem d_Md_crossBy_82 : decode prog_14_method_33_code 82 = .ok (.if_icmp .ge 60, 3) := by decide +kernel
theorem d_Md_crossBy_85 : decode prog_14_method_33_code 85 = .ok (.iconst 0, 1) := by decide +kernel
theorem d_Md_crossBy_86 : decode prog_14_method_33_code 86 = .ok (.istore 4, 2) := by decide +kernel
theorem d_Md_crossBy_88 : decode prog_14_method_33_code 88 = .ok (.iload 4, 2) := by decide +kernel
theorem d_Md_crossBy_90 : decode prog_14_method_33_code 90 = .ok (.aload_n 0, 1) := by decide +kernel
theorem d_Md_crossBy_91 : decode prog_14_method_33_code 91 = .ok (.getfield 13, 3) := by decide +kernel
theorem d_Md_crossBy_94 : decode prog_14_method_33_code 94 = .ok (.if_icmp .ge 42, 3) := by decide +kernel
theorem d_Md_crossBy_97 : decode prog_14_method_33_code 97 = .ok (.aload_n 0, 1) := by decide +kernel
theorem d_Md_crossBy_98 : decode prog_14_method_33_code 98 = .ok (.getfield 64, 3) := by decide +kernel
theorem d_Md_crossBy_101 : decode prog_14_method_33_code 101 = .ok (.iconst 4, 1) := by decide +kernel
theorem d_Md_crossBy_102 : decode prog_14_method_33_code 102 = .ok (.iload_n 3, 1) := by decide +kernel
theorem d_Md_crossBy_103 : decode prog_14_method_33_code 103 = .ok (.imul, 1) := by decide +kernel
theorem d_Md_crossBy_104 : decode prog_14_method_33_code 104 = .ok (.iload 4, 2) := by decide +kernel
theorem d_Md_crossBy_106 : decode prog_14_method_33_code 106 = .ok (.iadd, 1) := by decide +kernel
theorem d_Md_crossBy_107 : decode prog_14_method_33_code 107 = .ok (.aload_n 0, 1) := by decide +kernel
theorem d_Md_crossBy_108 : decode prog_14_method_33_code 108 = .ok (.getfield 64, 3) := by decide +kernel
theorem d_Md_crossBy_111 : decode prog_14_method_33_code 111 = .ok (.iconst 4, 1) := by decide +kernel
theorem d_Md_crossBy_112 : decode prog_14_method_33_code 112 = .ok (.iload_n 3, 1) := by decide +kernel
theorem d_Md_crossBy_113 : decode prog_14_method_33_code 113 = .ok (.imul, 1) := by decide +kernel
theorem d_Md_crossBy_114 : decode prog_14_method_33_code 114 = .ok (.iload 4, 2) := by decide +kernel
theorem d_Md_crossBy_116 : decode prog_14_method_33_code 116 = .ok (.iadd, 1) := by decide +kernel
theorem d_Md_crossBy_117 : decode prog_14_method_33_code 117 = .ok (.iaload, 1) := by decide +kernel
theorem d_Md_crossBy_118 : decode prog_14_method_33_code 118 = .ok (.iconst 1, 1) := by decide +kernel
theorem d_Md_crossBy_119 : decode prog_14_method_33_code 119 = .ok (.aload_n 0, 1) := by decide +kernel
theorem d_Md_crossBy_120 : decode prog_14_method_33_code 120 = .ok (.iload_n 2, 1) := by decide +kernel
theorem d_Md_crossBy_121 : decode prog_14_method_33_code 121 = .ok (.iload 4, 2) := by decide +kernel
theorem d_Md_crossBy_123 : decode prog_14_method_33_code 123 = .ok (.iload_n 3, 1) := by decide +kernel
theorem d_Md_crossBy_124 : decode prog_14_method_33_code 124 = .ok (.invokevirtual 182, 3) := by decide +kernel
theorem d_Md_crossBy_127 : decode prog_14_method_33_code 127 = .ok (.ishl, 1) := by decide +kernel
theorem d_Md_crossBy_128 : decode prog_14_method_33_code 128 = .ok (.ior, 1) := by decide +kernel
theorem d_Md_crossBy_129 : decode prog_14_method_33_code 129 = .ok (.iastore, 1) := by decide +kernel
theorem d_Md_crossBy_130 : decode prog_14_method_33_code 130 = .ok (.iinc 4 1, 3) := by decide +kernel
theorem d_Md_crossBy_133 : decode prog_14_method_33_code 133 = .ok (.goto (-45), 3) := by decide +kernel
theorem d_Md_crossBy_136 : decode prog_14_method_33_code 136 = .ok (.iinc 3 1, 3) := by decide +kernel
theorem d_Md_crossBy_139 : decode prog_14_method_33_code 139 = .ok (.goto (-62), 3) := by decide +kernel
theorem d_Md_crossBy_142 : decode prog_14_method_33_code 142 = .ok (.iconst 0, 1) := by decide +kernel
theorem d_Md_crossBy_143 : decode prog_14_method_33_code 143 = .ok (.istore_n 3, 1) := by decide +kernel
theorem d_Md_crossBy_144 : decode prog_14_method_33_code 144 = .ok (.iload_n 3, 1) := by decide +kernel
theorem d_Md_crossBy_145 : decode prog_14_method_33_code 145 = .ok (.aload_n 0, 1) := by decide +kernel
theorem d_Md_crossBy_146 : decode prog_14_method_33_code 146 = .ok (.getfield 141, 3) := by decide +kernel
theorem d_Md_crossBy_149 : decode prog_14_method_33_code 149 = .ok (.if_icmp .ge 36, 3) := by decide +kernel
theorem d_Md_crossBy_152 : decode prog_14_method_33_code 152 = .ok (.aload_n 0, 1) := by decide +kernel
theorem d_Md_crossBy_153 : decode prog_14_method_33_code 153 = .ok (.getfield 67, 3) := by decide +kernel
theorem d_Md_crossBy_156 : decode prog_14_method_33_code 156 = .ok (.iload_n 3, 1) := by decide +kernel
theorem d_Md_crossBy_157 : decode prog_14_method_33_code 157 = .ok (.aload_n 0, 1) := by decide +kernel
theorem d_Md_crossBy_158 : decode prog_14_method_33_code 158 = .ok (.getfield 67, 3) := by decide +kernel
theorem d_Md_crossBy_161 : decode prog_14_method_33_code 161 = .ok (.iload_n 3, 1) := by decide +kernel
theorem d_Md_crossBy_162 : decode prog_14_method_33_code 162 = .ok (.iaload, 1) := by decide +kernel
theorem d_Md_crossBy_163 : decode prog_14_method_33_code 163 = .ok (.aload_n 0, 1) := by decide +kernel
theorem d_Md_crossBy_164 : decode prog_14_method_33_code 164 = .ok (.iload_n 2, 1) := by decide +kernel
theorem d_Md_crossBy_165 : decode prog_14_method_33_code 165 = .ok (.iload_n 3, 1) := by decide +kernel
theorem d_Md_crossBy_166 : decode prog_14_method_33_code 166 = .ok (.invokevirtual 156, 3) := by decide +kernel
theorem d_Md_crossBy_169 : decode prog_14_method_33_code 169 = .ok (.ifCond .eq 7, 3) := by decide +kernel
theorem d_Md_crossBy_172 : decode prog_14_method_33_code 172 = .ok (.iconst 2, 1) := by decide +kernel
theorem d_Md_crossBy_173 : decode prog_14_method_33_code 173 = .ok (.goto 4, 3) := by decide +kernel
theorem d_Md_crossBy_176 : decode prog_14_method_33_code 176 = .ok (.iconst 1, 1) := by decide +kernel
theorem d_Md_crossBy_177 : decode prog_14_method_33_code 177 = .ok (.ior, 1) := by decide +kernel
theorem d_Md_crossBy_178 : decode prog_14_method_33_code 178 = .ok (.iastore, 1) := by decide +kernel
theorem d_Md_crossBy_179 : decode prog_14_method_33_code 179 = .ok (.iinc 3 1, 3) := by decide +kernel
theorem d_Md_crossBy_182 : decode prog_14_method_33_code 182 = .ok (.goto (-38), 3) := by decide +kernel
theorem d_Md_crossBy_185 : decode prog_14_method_33_code 185 = .ok (.iinc 2 1, 3) := by decide +kernel
theorem d_Md_crossBy_188 : decode prog_14_method_33_code 188 = .ok (.goto (-145), 3) := by decide +kernel
theorem d_Md_crossBy_191 : decode prog_14_method_33_code 191 = .ok (.iconst 0, 1) := by decide +kernel
theorem d_Md_crossBy_192 : decode prog_14_method_33_code 192 = .ok (.istore_n 2, 1) := by decide +kernel
theorem d_Md_crossBy_193 : decode prog_14_method_33_code 193 = .ok (.iconst 0, 1) := by decide +kernel
theorem d_Md_crossBy_194 : decode prog_14_method_33_code 194 = .ok (.istore_n 3, 1) := by decide +kernel
theorem d_Md_crossBy_195 : decode prog_14_method_33_code 195 = .ok (.iload_n 3, 1) := by decide +kernel
theorem d_Md_crossBy_196 : decode prog_14_method_33_code 196 = .ok (.aload_n 0, 1) := by decide +kernel
theorem d_Md_crossBy_197 : decode prog_14_method_33_code 197 = .ok (.getfield 138, 3) := by decide +kernel
theorem d_Md_crossBy_200 : decode prog_14_method_33_code 200 = .ok (.if_icmp .ge 92, 3) := by decide +kernel
theorem d_Md_crossBy_203 : decode prog_14_method_33_code 203 = .ok (.iconst 0, 1) := by decide +kernel
theorem d_Md_crossBy_204 : decode prog_14_method_33_code 204 = .ok (.istore 4, 2) := by decide +kernel
theorem d_Md_crossBy_206 : decode prog_14_method_33_code 206 = .ok (.iload 4, 2) := by decide +kernel
theorem d_Md_crossBy_208 : decode prog_14_method_33_code 208 = .ok (.aload_n 0, 1) := by decide +kernel
theorem d_Md_crossBy_209 : decode prog_14_method_33_code 209 = .ok (.getfield 13, 3) := by decide +kernel
theorem d_Md_crossBy_212 : decode prog_14_method_33_code 212 = .ok (.if_icmp .ge 74, 3) := by decide +kernel
theorem d_Md_crossBy_215 : decode prog_14_method_33_code 215 = .ok (.iload_n 2, 1) := by decide +kernel
theorem d_Md_crossBy_216 : decode prog_14_method_33_code 216 = .ok (.aload_n 0, 1) := by decide +kernel
theorem d_Md_crossBy_217 : decode prog_14_method_33_code 217 = .ok (.getfield 58, 3) := by decide +kernel
theorem d_Md_crossBy_220 : decode prog_14_method_33_code 220 = .ok (.iconst 4, 1) := by decide +kernel
theorem d_Md_crossBy_221 : decode prog_14_method_33_code 221 = .ok (.iload_n 3, 1) := by decide +kernel
theorem d_Md_crossBy_222 : decode prog_14_method_33_code 222 = .ok (.imul, 1) := by decide +kernel
theorem d_Md_crossBy_223 : decode prog_14_method_33_code 223 = .ok (.iload 4, 2) := by decide +kernel
theorem d_Md_crossBy_225 : decode prog_14_method_33_code 225 = .ok (.iadd, 1) := by decide +kernel
theorem d_Md_crossBy_226 : decode prog_14_method_33_code 226 = .ok (.iaload, 1) := by decide +kernel
theorem d_Md_crossBy_227 : decode prog_14_method_33_code 227 = .ok (.aload_n 0, 1) := by decide +kernel
theorem d_Md_crossBy_228 : decode prog_14_method_33_code 228 = .ok (.getfield 64, 3) := by decide +kernel
theorem d_Md_crossBy_231 : decode prog_14_method_33_code 231 = .ok (.iconst 4, 1) := by decide +kernel
theorem d_Md_crossBy_232 : decode prog_14_method_33_code 232 = .ok (.iload_n 3, 1) := by decide +kernel
theorem d_Md_crossBy_233 : decode prog_14_method_33_code 233 = .ok (.imul, 1) := by decide +kernel
theorem d_Md_crossBy_234 : decode prog_14_method_33_code 234 = .ok (.iload 4, 2) := by decide +kernel
theorem d_Md_crossBy_236 : decode prog_14_method_33_code 236 = .ok (.iadd, 1) := by decide +kernel
theorem d_Md_crossBy_237 : decode prog_14_method_33_code 237 = .ok (.iaload, 1) := by decide +kernel
theorem d_Md_crossBy_238 : decode prog_14_method_33_code 238 = .ok (.iconst (-1), 1) := by decide +kernel
theorem d_Md_crossBy_239 : decode prog_14_method_33_code 239 = .ok (.ixor, 1) := by decide +kernel
theorem d_Md_crossBy_240 : decode prog_14_method_33_code 240 = .ok (.iand, 1) := by decide +kernel
theorem d_Md_crossBy_241 : decode prog_14_method_33_code 241 = .ok (.invokestatic 192, 3) := by decide +kernel
theorem d_Md_crossBy_244 : decode prog_14_method_33_code 244 = .ok (.iadd, 1) := by decide +kernel
theorem d_Md_crossBy_245 : decode prog_14_method_33_code 245 = .ok (.istore_n 2, 1) := by decide +kernel
theorem d_Md_crossBy_246 : decode prog_14_method_33_code 246 = .ok (.aload_n 0, 1) := by decide +kernel
theorem d_Md_crossBy_247 : decode prog_14_method_33_code 247 = .ok (.getfield 58, 3) := by decide +kernel
theorem d_Md_crossBy_250 : decode prog_14_method_33_code 250 = .ok (.iconst 4, 1) := by decide +kernel
theorem d_Md_crossBy_251 : decode prog_14_method_33_code 251 = .ok (.iload_n 3, 1) := by decide +kernel
theorem d_Md_crossBy_252 : decode prog_14_method_33_code 252 = .ok (.imul, 1) := by decide +kernel
theorem d_Md_crossBy_253 : decode prog_14_method_33_code 253 = .ok (.iload 4, 2) := by decide +kernel
theorem d_Md_crossBy_255 : decode prog_14_method_33_code 255 = .ok (.iadd, 1) := by decide +kernel
theorem d_Md_crossBy_256 : decode prog_14_method_33_code 256 = .ok (.aload_n 0, 1) := by decide +kernel
theorem d_Md_crossBy_257 : decode prog_14_method_33_code 257 = .ok (.getfield 58, 3) := by decide +kernel
theorem d_Md_crossBy_260 : decode prog_14_method_33_code 260 = .ok (.iconst 4, 1) := by decide +kernel
theorem d_Md_crossBy_261 : decode prog_14_method_33_code 261 = .ok (.iload_n 3, 1) := by decide +kernel
theorem d_Md_crossBy_262 : decode prog_14_method_33_code 262 = .ok (.imul, 1) := by decide +kernel
theorem d_Md_crossBy_263 : decode prog_14_method_33_code 263 = .ok (.iload 4, 2) := by decide +kernel
theorem d_Md_crossBy_265 : decode prog_14_method_33_code 265 = .ok (.iadd, 1) := by decide +kernel
theorem d_Md_crossBy_266 : decode prog_14_method_33_code 266 = .ok (.iaload, 1) := by decide +kernel
theorem d_Md_crossBy_267 : decode prog_14_method_33_code 267 = .ok (.aload_n 0, 1) := by decide +kernel
theorem d_Md_crossBy_268 : decode prog_14_method_33_code 268 = .ok (.getfield 64, 3) := by decide +kernel
theorem d_Md_crossBy_271 : decode prog_14_method_33_code 271 = .ok (.iconst 4, 1) := by decide +kernel
theorem d_Md_crossBy_272 : decode prog_14_method_33_code 272 = .ok (.iload_n 3, 1) := by decide +kernel
theorem d_Md_crossBy_273 : decode prog_14_method_33_code 273 = .ok (.imul, 1) := by decide +kernel
theorem d_Md_crossBy_274 : decode prog_14_method_33_code 274 = .ok (.iload 4, 2) := by decide +kernel
theorem d_Md_crossBy_276 : decode prog_14_method_33_code 276 = .ok (.iadd, 1) := by decide +kernel
theorem d_Md_crossBy_277 : decode prog_14_method_33_code 277 = .ok (.iaload, 1) := by decide +kernel
theorem d_Md_crossBy_278 : decode prog_14_method_33_code 278 = .ok (.iand, 1) := by decide +kernel
theorem d_Md_crossBy_279 : decode prog_14_method_33_code 279 = .ok (.iastore, 1) := by decide +kernel
theorem d_Md_crossBy_280 : decode prog_14_method_33_code 280 = .ok (.iinc 4 1, 3) := by decide +kernel
theorem d_Md_crossBy_283 : decode prog_14_method_33_code 283 = .ok (.goto (-77), 3) := by decide +kernel
theorem d_Md_crossBy_286 : decode prog_14_method_33_code 286 = .ok (.iinc 3 1, 3) := by decide +kernel
theorem d_Md_crossBy_289 : decode prog_14_method_33_code 289 = .ok (.goto (-94), 3) := by decide +kernel
theorem d_Md_crossBy_292 : decode prog_14_method_33_code 292 = .ok (.iconst 0, 1) := by decide +kernel
theorem d_Md_crossBy_293 : decode prog_14_method_33_code 293 = .ok (.istore_n 3, 1) := by decide +kernel
theorem d_Md_crossBy_294 : decode prog_14_method_33_code 294 = .ok (.iload_n 3, 1) := by decide +kernel
theorem d_Md_crossBy_295 : decode prog_14_method_33_code 295 = .ok (.aload_n 0, 1) := by decide +kernel
theorem d_Md_crossBy_296 : decode prog_14_method_33_code 296 = .ok (.getfield 141, 3) := by decide +kernel
theorem d_Md_crossBy_299 : decode prog_14_method_33_code 299 = .ok (.if_icmp .ge 49, 3) := by decide +kernel
theorem d_Md_crossBy_302 : decode prog_14_method_33_code 302 = .ok (.iload_n 2, 1) := by decide +kernel
theorem d_Md_crossBy_303 : decode prog_14_method_33_code 303 = .ok (.aload_n 0, 1) := by decide +kernel
theorem d_Md_crossBy_304 : decode prog_14_method_33_code 304 = .ok (.getfield 61, 3) := by decide +kernel
theorem d_Md_crossBy_307 : decode prog_14_method_33_code 307 = .ok (.iload_n 3, 1) := by decide +kernel
theorem d_Md_crossBy_308 : decode prog_14_method_33_code 308 = .ok (.iaload, 1) := by decide +kernel
theorem d_Md_crossBy_309 : decode prog_14_method_33_code 309 = .ok (.aload_n 0, 1) := by decide +kernel
theorem d_Md_crossBy_310 : decode prog_14_method_33_code 310 = .ok (.getfield 67, 3) := by decide +kernel
theorem d_Md_crossBy_313 : decode prog_14_method_33_code 313 = .ok (.iload_n 3, 1) := by decide +kernel
theorem d_Md_crossBy_314 : decode prog_14_method_33_code 314 = .ok (.iaload, 1) := by decide +kernel
theorem d_Md_crossBy_315 : decode prog_14_method_33_code 315 = .ok (.iconst (-1), 1) := by decide +kernel
theorem d_Md_crossBy_316 : decode prog_14_method_33_code 316 = .ok (.ixor, 1) := by decide +kernel
theorem d_Md_crossBy_317 : decode prog_14_method_33_code 317 = .ok (.iand, 1) := by decide +kernel
theorem d_Md_crossBy_318 : decode prog_14_method_33_code 318 = .ok (.invokestatic 192, 3) := by decide +kernel
theorem d_Md_crossBy_321 : decode prog_14_method_33_code 321 = .ok (.iadd, 1) := by decide +kernel
theorem d_Md_crossBy_322 : decode prog_14_method_33_code 322 = .ok (.istore_n 2, 1) := by decide +kernel
theorem d_Md_crossBy_323 : decode prog_14_method_33_code 323 = .ok (.aload_n 0, 1) := by decide +kernel
theorem d_Md_crossBy_324 : decode prog_14_method_33_code 324 = .ok (.getfield 61, 3) := by decide +kernel
theorem d_Md_crossBy_327 : decode prog_14_method_33_code 327 = .ok (.iload_n 3, 1) := by decide +kernel
theorem d_Md_crossBy_328 : decode prog_14_method_33_code 328 = .ok (.aload_n 0, 1) := by decide +kernel
theorem d_Md_crossBy_329 : decode prog_14_method_33_code 329 = .ok (.getfield 61, 3) := by decide +kernel
theorem d_Md_crossBy_332 : decode prog_14_method_33_code 332 = .ok (.iload_n 3, 1) := by decide +kernel
theorem d_Md_crossBy_333 : decode prog_14_method_33_code 333 = .ok (.iaload, 1) := by decide +kernel
theorem d_Md_crossBy_334 : decode prog_14_method_33_code 334 = .ok (.aload_n 0, 1) := by decide +kernel
theorem d_Md_crossBy_335 : decode prog_14_method_33_code 335 = .ok (.getfield 67, 3) := by decide +kernel
theorem d_Md_crossBy_338 : decode prog_14_method_33_code 338 = .ok (.iload_n 3, 1) := by decide +kernel
theorem d_Md_crossBy_339 : decode prog_14_method_33_code 339 = .ok (.iaload, 1) := by decide +kernel
theorem d_Md_crossBy_340 : decode prog_14_method_33_code 340 = .ok (.iand, 1) := by decide +kernel
theorem d_Md_crossBy_341 : decode prog_14_method_33_code 341 = .ok (.iastore, 1) := by decide +kernel
theorem d_Md_crossBy_342 : decode prog_14_method_33_code 342 = .ok (.iinc 3 1, 3) := by decide +kernel
theorem d_Md_crossBy_345 : decode prog_14_method_33_code 345 = .ok (.goto (-51), 3) := by decide +kernel
theorem d_Md_crossBy_348 : decode prog_14_method_33_code 348 = .ok (.iload_n 2, 1) := by decide +kernel
theorem d_Md_crossBy_349 : decode prog_14_method_33_code 349 = .ok (.ireturn, 1) := by decide +kernel
theorem d_Md_isOpen_0 : decode prog_14_method_31_code 0 = .ok (.iconst 0, 1) := by decide +kernel
theorem d_Md_isOpen_1 : decode prog_14_method_31_code 1 = .ok (.istore_n 2, 1) := by decide +kernel
theorem d_Md_isOpen_2 : decode prog_14_method_31_code 2 = .ok (.iload_n 2, 1) := by decide +kernel
theorem d_Md_isOpen_3 : decode prog_14_method_31_code 3 = .ok (.aload_n 0, 1) := by decide +kernel
theorem d_Md_isOpen_4 : decode prog_14_method_31_code 4 = .ok (.getfield 138, 3) := by decide +kernel
theorem d_Md_isOpen_7 : decode prog_14_method_31_code 7 = .ok (.if_icmp .ge 50, 3) := by decide +kernel
theorem d_Md_isOpen_10 : decode prog_14_method_31_code 10 = .ok (.iconst 0, 1) := by decide +kernel
theorem d_Md_isOpen_11 : decode prog_14_method_31_code 11 = .ok (.istore_n 3, 1) := by decide +kernel
theorem d_Md_isOpen_12 : decode prog_14_method_31_code 12 = .ok (.iload_n 3, 1) := by decide +kernel
theorem d_Md_isOpen_13 : decode prog_14_method_31_code 13 = .ok (.aload_n 0, 1) := by decide +kernel
theorem d_Md_isOpen_14 : decode prog_14_method_31_code 14 = .ok (.getfield 13, 3) := by decide +kernel
theorem d_Md_isOpen_17 : decode prog_14_method_31_code 17 = .ok (.if_icmp .ge 34, 3) := by decide +kernel
theorem d_Md_isOpen_20 : decode prog_14_method_31_code 20 = .ok (.aload_n 0, 1) := by decide +kernel
theorem d_Md_isOpen_21 : decode prog_14_method_31_code 21 = .ok (.getfield 58, 3) := by decide +kernel
theorem d_Md_isOpen_24 : decode prog_14_method_31_code 24 = .ok (.iconst 4, 1) := by decide +kernel
theorem d_Md_isOpen_25 : decode prog_14_method_31_code 25 = .ok (.iload_n 2, 1) := by decide +kernel
theorem d_Md_isOpen_26 : decode prog_14_method_31_code 26 = .ok (.imul, 1) := by decide +kernel
theorem d_Md_isOpen_27 : decode prog_14_method_31_code 27 = .ok (.iload_n 3, 1) := by decide +kernel
theorem d_Md_isOpen_28 : decode prog_14_method_31_code 28 = .ok (.iadd, 1) := by decide +kernel
theorem d_Md_isOpen_29 : decode prog_14_method_31_code 29 = .ok (.iaload, 1) := by decide +kernel
theorem d_Md_isOpen_30 : decode prog_14_method_31_code 30 = .ok (.aload_n 0, 1) := by decide +kernel
theorem d_Md_isOpen_31 : decode prog_14_method_31_code 31 = .ok (.iload_n 1, 1) := by decide +kernel
theorem d_Md_isOpen_32 : decode prog_14_method_31_code 32 = .ok (.iload_n 3, 1) := by decide +kernel
theorem d_Md_isOpen_33 : decode prog_14_method_31_code 33 = .ok (.iload_n 2, 1) := by decide +kernel
theorem d_Md_isOpen_34 : decode prog_14_method_31_code 34 = .ok (.invokevirtual 182, 3) := by decide +kernel
theorem d_Md_isOpen_37 : decode prog_14_method_31_code 37 = .ok (.ishr, 1) := by decide +kernel
theorem d_Md_isOpen_38 : decode prog_14_method_31_code 38 = .ok (.iconst 1, 1) := by decide +kernel
theorem d_Md_isOpen_39 : decode prog_14_method_31_code 39 = .ok (.iand, 1) := by decide +kernel
theorem d_Md_isOpen_40 : decode prog_14_method_31_code 40 = .ok (.ifCond .ne 5, 3) := by decide +kernel
theorem d_Md_isOpen_43 : decode prog_14_method_31_code 43 = .ok (.iconst 0, 1) := by decide +kernel
theorem d_Md_isOpen_44 : decode prog_14_method_31_code 44 = .ok (.ireturn, 1) := by decide +kernel
theorem d_Md_isOpen_45 : decode prog_14_method_31_code 45 = .ok (.iinc 3 1, 3) := by decide +kernel
theorem d_Md_isOpen_48 : decode prog_14_method_31_code 48 = .ok (.goto (-36), 3) := by decide +kernel
theorem d_Md_isOpen_51 : decode prog_14_method_31_code 51 = .ok (.iinc 2 1, 3) := by decide +kernel
theorem d_Md_isOpen_54 : decode prog_14_method_31_code 54 = .ok (.goto (-52), 3) := by decide +kernel
theorem d_Md_isOpen_57 : decode prog_14_method_31_code 57 = .ok (.iconst 0, 1) := by decide +kernel
theorem d_Md_isOpen_58 : decode prog_14_method_31_code 58 = .ok (.istore_n 2, 1) := by decide +kernel
theorem d_Md_isOpen_59 : decode prog_14_method_31_code 59 = .ok (.iload_n 2, 1) := by decide +kernel
theorem d_Md_isOpen_60 : decode prog_14_method_31_code 60 = .ok (.aload_n 0, 1) := by decide +kernel
theorem d_Md_isOpen_61 : decode prog_14_method_31_code 61 = .ok (.getfield 141, 3) := by decide +kernel
theorem d_Md_isOpen_64 : decode prog_14_method_31_code 64 = .ok (.if_icmp .ge 37, 3) := by decide +kernel
theorem d_Md_isOpen_67 : decode prog_14_method_31_code 67 = .ok (.aload_n 0, 1) := by decide +kernel
theorem d_Md_isOpen_68 : decode prog_14_method_31_code 68 = .ok (.getfield 61, 3) := by decide +kernel
theorem d_Md_isOpen_71 : decode prog_14_method_31_code 71 = .ok (.iload_n 2, 1) := by decide +kernel
theorem d_Md_isOpen_72 : decode prog_14_method_31_code 72 = .ok (.iaload, 1) := by decide +kernel
theorem d_Md_isOpen_73 : decode prog_14_method_31_code 73 = .ok (.aload_n 0, 1) := by decide +kernel
theorem d_Md_isOpen_74 : decode prog_14_method_31_code 74 = .ok (.iload_n 1, 1) := by decide +kernel
theorem d_Md_isOpen_75 : decode prog_14_method_31_code 75 = .ok (.iload_n 2, 1) := by decide +kernel
theorem d_Md_isOpen_76 : decode prog_14_method_31_code 76 = .ok (.invokevirtual 156, 3) := by decide +kernel
theorem d_Md_isOpen_79 : decode prog_14_method_31_code 79 = .ok (.ifCond .eq 7, 3) := by decide +kernel
theorem d_Md_isOpen_82 : decode prog_14_method_31_code 82 = .ok (.iconst 1, 1) := by decide +kernel
theorem d_Md_isOpen_83 : decode prog_14_method_31_code 83 = .ok (.goto 4, 3) := by decide +kernel
theorem d_Md_isOpen_86 : decode prog_14_method_31_code 86 = .ok (.iconst 0, 1) := by decide +kernel
theorem d_Md_isOpen_87 : decode prog_14_method_31_code 87 = .ok (.ishr, 1) := by decide +kernel
theorem d_Md_isOpen_88 : decode prog_14_method_31_code 88 = .ok (.iconst 1, 1) := by decide +kernel
theorem d_Md_isOpen_89 : decode prog_14_method_31_code 89 = .ok (.iand, 1) := by decide +kernel
theorem d_Md_isOpen_90 : decode prog_14_method_31_code 90 = .ok (.ifCond .ne 5, 3) := by decide +kernel
theorem d_Md_isOpen_93 : decode prog_14_method_31_code 93 = .ok (.iconst 0, 1) := by decide +kernel
theorem d_Md_isOpen_94 : decode prog_14_method_31_code 94 = .ok (.ireturn, 1) := by decide +kernel
theorem d_Md_isOpen_95 : decode prog_14_method_31_code 95 = .ok (.iinc 2 1, 3) := by decide +kernel
theorem d_Md_isOpen_98 : decode prog_14_method_31_code 98 = .ok (.goto (-39), 3) := by decide +kernel
theorem d_Md_isOpen_101 : decode prog_14_method_31_code 101 = .ok (.iconst 1, 1) := by decide +kernel
theorem d_Md_isOpen_102 : decode prog_14_method_31_code 102 = .ok (.ireturn, 1) := by decide +kernel
theorem d_Md_countOf_0 : decode prog_14_method_32_code 0 = .ok (.iconst 0, 1) := by decide +kernel
theorem d_Md_countOf_1 : decode prog_14_method_32_code 1 = .ok (.istore_n 1, 1) := by decide +kernel
theorem d_Md_countOf_2 : decode prog_14_method_32_code 2 = .ok (.iconst 0, 1) := by decide +kernel
theorem d_Md_countOf_3 : decode prog_14_method_32_code 3 = .ok (.istore_n 2, 1) := by decide +kernel
theorem d_Md_countOf_4 : decode prog_14_method_32_code 4 = .ok (.iload_n 2, 1) := by decide +kernel
theorem d_Md_countOf_5 : decode prog_14_method_32_code 5 = .ok (.iconst 4, 1) := by decide +kernel
theorem d_Md_countOf_6 : decode prog_14_method_32_code 6 = .ok (.if_icmp .ge 17, 3) := by decide +kernel
theorem d_Md_countOf_9 : decode prog_14_method_32_code 9 = .ok (.iload_n 1, 1) := by decide +kernel
theorem d_Md_countOf_10 : decode prog_14_method_32_code 10 = .ok (.iload_n 0, 1) := by decide +kernel
theorem d_Md_countOf_11 : decode prog_14_method_32_code 11 = .ok (.iload_n 2, 1) := by decide +kernel
theorem d_Md_countOf_12 : decode prog_14_method_32_code 12 = .ok (.ishr, 1) := by decide +kernel
theorem d_Md_countOf_13 : decode prog_14_method_32_code 13 = .ok (.iconst 1, 1) := by decide +kernel
theorem d_Md_countOf_14 : decode prog_14_method_32_code 14 = .ok (.iand, 1) := by decide +kernel
theorem d_Md_countOf_15 : decode prog_14_method_32_code 15 = .ok (.iadd, 1) := by decide +kernel
theorem d_Md_countOf_16 : decode prog_14_method_32_code 16 = .ok (.istore_n 1, 1) := by decide +kernel
theorem d_Md_countOf_17 : decode prog_14_method_32_code 17 = .ok (.iinc 2 1, 3) := by decide +kernel
theorem d_Md_countOf_20 : decode prog_14_method_32_code 20 = .ok (.goto (-16), 3) := by decide +kernel
theorem d_Md_countOf_23 : decode prog_14_method_32_code 23 = .ok (.iload_n 1, 1) := by decide +kernel
theorem d_Md_countOf_24 : decode prog_14_method_32_code 24 = .ok (.ireturn, 1) := by decide +kernel
theorem d_Md_step_0 : decode prog_14_method_35_code 0 = .ok (.aload_n 0, 1) := by decide +kernel
theorem d_Md_step_1 : decode prog_14_method_35_code 1 = .ok (.iconst 0, 1) := by decide +kernel
theorem d_Md_step_2 : decode prog_14_method_35_code 2 = .ok (.putfield 79, 3) := by decide +kernel
theorem d_Md_step_5 : decode prog_14_method_35_code 5 = .ok (.iload_n 1, 1) := by decide +kernel
theorem d_Md_step_6 : decode prog_14_method_35_code 6 = .ok (.ifCond .lt 11, 3) := by decide +kernel
theorem d_Md_step_9 : decode prog_14_method_35_code 9 = .ok (.iload_n 1, 1) := by decide +kernel
theorem d_Md_step_10 : decode prog_14_method_35_code 10 = .ok (.aload_n 0, 1) := by decide +kernel
theorem d_Md_step_11 : decode prog_14_method_35_code 11 = .ok (.getfield 92, 3) := by decide +kernel
theorem d_Md_step_14 : decode prog_14_method_35_code 14 = .ok (.if_icmp .lt 5, 3) := by decide +kernel
theorem d_Md_step_17 : decode prog_14_method_35_code 17 = .ok (.iconst (-1), 1) := by decide +kernel
theorem d_Md_step_18 : decode prog_14_method_35_code 18 = .ok (.ireturn, 1) := by decide +kernel
theorem d_Md_step_19 : decode prog_14_method_35_code 19 = .ok (.iload_n 2, 1) := by decide +kernel
theorem d_Md_step_20 : decode prog_14_method_35_code 20 = .ok (.ifCond .ne 12, 3) := by decide +kernel
theorem d_Md_step_23 : decode prog_14_method_35_code 23 = .ok (.aload_n 0, 1) := by decide +kernel
theorem d_Md_step_24 : decode prog_14_method_35_code 24 = .ok (.getfield 70, 3) := by decide +kernel
theorem d_Md_step_27 : decode prog_14_method_35_code 27 = .ok (.iload_n 1, 1) := by decide +kernel
theorem d_Md_step_28 : decode prog_14_method_35_code 28 = .ok (.iaload, 1) := by decide +kernel
theorem d_Md_step_29 : decode prog_14_method_35_code 29 = .ok (.goto 18, 3) := by decide +kernel
theorem d_Md_step_32 : decode prog_14_method_35_code 32 = .ok (.iload_n 2, 1) := by decide +kernel
theorem d_Md_step_33 : decode prog_14_method_35_code 33 = .ok (.iconst 1, 1) := by decide +kernel
theorem d_Md_step_34 : decode prog_14_method_35_code 34 = .ok (.if_icmp .ne 12, 3) := by decide +kernel
theorem d_Md_step_37 : decode prog_14_method_35_code 37 = .ok (.aload_n 0, 1) := by decide +kernel
theorem d_Md_step_38 : decode prog_14_method_35_code 38 = .ok (.getfield 73, 3) := by decide +kernel
theorem d_Md_step_41 : decode prog_14_method_35_code 41 = .ok (.iload_n 1, 1) := by decide +kernel
theorem d_Md_step_42 : decode prog_14_method_35_code 42 = .ok (.iaload, 1) := by decide +kernel
theorem d_Md_step_43 : decode prog_14_method_35_code 43 = .ok (.goto 4, 3) := by decide +kernel
theorem d_Md_step_46 : decode prog_14_method_35_code 46 = .ok (.iconst (-1), 1) := by decide +kernel
theorem d_Md_step_47 : decode prog_14_method_35_code 47 = .ok (.ireturn, 1) := by decide +kernel
theorem d_Md_may_0 : decode prog_14_method_36_code 0 = .ok (.aload_n 0, 1) := by decide +kernel
theorem d_Md_may_1 : decode prog_14_method_36_code 1 = .ok (.iconst 0, 1) := by decide +kernel
theorem d_Md_may_2 : decode prog_14_method_36_code 2 = .ok (.putfield 79, 3) := by decide +kernel
theorem d_Md_may_5 : decode prog_14_method_36_code 5 = .ok (.aload_n 0, 1) := by decide +kernel
theorem d_Md_may_6 : decode prog_14_method_36_code 6 = .ok (.iload_n 1, 1) := by decide +kernel
theorem d_Md_may_7 : decode prog_14_method_36_code 7 = .ok (.iload_n 2, 1) := by decide +kernel
theorem d_Md_may_8 : decode prog_14_method_36_code 8 = .ok (.invokevirtual 179, 3) := by decide +kernel
theorem d_Md_may_11 : decode prog_14_method_36_code 11 = .ok (.ifCond .eq 16, 3) := by decide +kernel
theorem d_Md_may_14 : decode prog_14_method_36_code 14 = .ok (.aload_n 0, 1) := by decide +kernel
theorem d_Md_may_15 : decode prog_14_method_36_code 15 = .ok (.getfield 58, 3) := by decide +kernel
theorem d_Md_may_18 : decode prog_14_method_36_code 18 = .ok (.iconst 4, 1) := by decide +kernel
theorem d_Md_may_19 : decode prog_14_method_36_code 19 = .ok (.iload_n 2, 1) := by decide +kernel
theorem d_Md_may_20 : decode prog_14_method_36_code 20 = .ok (.imul, 1) := by decide +kernel
theorem d_Md_may_21 : decode prog_14_method_36_code 21 = .ok (.iload_n 1, 1) := by decide +kernel
theorem d_Md_may_22 : decode prog_14_method_36_code 22 = .ok (.iadd, 1) := by decide +kernel
theorem d_Md_may_23 : decode prog_14_method_36_code 23 = .ok (.iaload, 1) := by decide +kernel
theorem d_Md_may_24 : decode prog_14_method_36_code 24 = .ok (.goto 4, 3) := by decide +kernel
theorem d_Md_may_27 : decode prog_14_method_36_code 27 = .ok (.iconst (-1), 1) := by decide +kernel
theorem d_Md_may_28 : decode prog_14_method_36_code 28 = .ok (.ireturn, 1) := by decide +kernel
theorem d_Md_mayBe_0 : decode prog_14_method_37_code 0 = .ok (.aload_n 0, 1) := by decide +kernel
theorem d_Md_mayBe_1 : decode prog_14_method_37_code 1 = .ok (.iconst 0, 1) := by decide +kernel
theorem d_Md_mayBe_2 : decode prog_14_method_37_code 2 = .ok (.putfield 79, 3) := by decide +kernel
theorem d_Md_mayBe_5 : decode prog_14_method_37_code 5 = .ok (.aload_n 0, 1) := by decide +kernel
theorem d_Md_mayBe_6 : decode prog_14_method_37_code 6 = .ok (.iload_n 1, 1) := by decide +kernel
theorem d_Md_mayBe_7 : decode prog_14_method_37_code 7 = .ok (.invokevirtual 186, 3) := by decide +kernel
theorem d_Md_mayBe_10 : decode prog_14_method_37_code 10 = .ok (.ifCond .eq 12, 3) := by decide +kernel
theorem d_Md_mayBe_13 : decode prog_14_method_37_code 13 = .ok (.aload_n 0, 1) := by decide +kernel
theorem d_Md_mayBe_14 : decode prog_14_method_37_code 14 = .ok (.getfield 61, 3) := by decide +kernel
theorem d_Md_mayBe_17 : decode prog_14_method_37_code 17 = .ok (.iload_n 1, 1) := by decide +kernel
theorem d_Md_mayBe_18 : decode prog_14_method_37_code 18 = .ok (.iaload, 1) := by decide +kernel
theorem d_Md_mayBe_19 : decode prog_14_method_37_code 19 = .ok (.goto 4, 3) := by decide +kernel
theorem d_Md_mayBe_22 : decode prog_14_method_37_code 22 = .ok (.iconst (-1), 1) := by decide +kernel
theorem d_Md_mayBe_23 : decode prog_14_method_37_code 23 = .ok (.ireturn, 1) := by decide +kernel
end
section
theorem d_Lw_law_0 : decode code 0 = .ok (.new 7, 3) := by decide +kernel
theorem d_Lw_law_3 : decode code 3 = .ok (.dup, 1) := by decide +kernel
theorem d_Lw_law_4 : decode code 4 = .ok (.invokespecial 9, 3) := by decide +kernel
theorem d_Lw_law_7 : decode code 7 = .ok (.astore_n 1, 1) := by decide +kernel
theorem d_Lw_law_8 : decode code 8 = .ok (.new 10, 3) := by decide +kernel
theorem d_Lw_law_11 : decode code 11 = .ok (.dup, 1) := by decide +kernel
theorem d_Lw_law_12 : decode code 12 = .ok (.invokespecial 12, 3) := by decide +kernel
theorem d_Lw_law_15 : decode code 15 = .ok (.astore_n 2, 1) := by decide +kernel
theorem d_Lw_law_16 : decode code 16 = .ok (.iconst 0, 1) := by decide +kernel
theorem d_Lw_law_17 : decode code 17 = .ok (.istore_n 3, 1) := by decide +kernel
theorem d_Lw_law_18 : decode code 18 = .ok (.iload_n 3, 1) := by decide +kernel
theorem d_Lw_law_19 : decode code 19 = .ok (.aload_n 0, 1) := by decide +kernel
theorem d_Lw_law_20 : decode code 20 = .ok (.arraylength, 1) := by decide +kernel
theorem d_Lw_law_21 : decode code 21 = .ok (.iconst 4, 1) := by decide +kernel
theorem d_Lw_law_22 : decode code 22 = .ok (.isub, 1) := by decide +kernel
theorem d_Lw_law_23 : decode code 23 = .ok (.if_icmp .gt 395, 3) := by decide +kernel
theorem d_Lw_law_26 : decode code 26 = .ok (.aload_n 0, 1) := by decide +kernel
theorem d_Lw_law_27 : decode code 27 = .ok (.iload_n 3, 1) := by decide +kernel
theorem d_Lw_law_28 : decode code 28 = .ok (.iaload, 1) := by decide +kernel
theorem d_Lw_law_29 : decode code 29 = .ok (.bipush 15, 2) := by decide +kernel
theorem d_Lw_law_31 : decode code 31 = .ok (.iand, 1) := by decide +kernel
theorem d_Lw_law_32 : decode code 32 = .ok (.tableswitch 380 0 11 #[64, 87, 100, 123, 136, 179, 212, 255, 278, 291, 324, 357], 64) := by decide +kernel
theorem d_Lw_law_96 : decode code 96 = .ok (.aload_n 1, 1) := by decide +kernel
theorem d_Lw_law_97 : decode code 97 = .ok (.aload_n 0, 1) := by decide +kernel
theorem d_Lw_law_98 : decode code 98 = .ok (.iload_n 3, 1) := by decide +kernel
theorem d_Lw_law_99 : decode code 99 = .ok (.iconst 1, 1) := by decide +kernel
theorem d_Lw_law_100 : decode code 100 = .ok (.iadd, 1) := by decide +kernel
theorem d_Lw_law_101 : decode code 101 = .ok (.iaload, 1) := by decide +kernel
theorem d_Lw_law_102 : decode code 102 = .ok (.invokevirtual 13, 3) := by decide +kernel
theorem d_Lw_law_105 : decode code 105 = .ok (.aload_n 2, 1) := by decide +kernel
theorem d_Lw_law_106 : decode code 106 = .ok (.aload_n 0, 1) := by decide +kernel
theorem d_Lw_law_107 : decode code 107 = .ok (.iload_n 3, 1) := by decide +kernel
theorem d_Lw_law_108 : decode code 108 = .ok (.iconst 1, 1) := by decide +kernel
theorem d_Lw_law_109 : decode code 109 = .ok (.iadd, 1) := by decide +kernel
theorem d_Lw_law_110 : decode code 110 = .ok (.iaload, 1) := by decide +kernel
theorem d_Lw_law_111 : decode code 111 = .ok (.invokevirtual 17, 3) := by decide +kernel
theorem d_Lw_law_114 : decode code 114 = .ok (.if_icmp .eq 298, 3) := by decide +kernel
theorem d_Lw_law_117 : decode code 117 = .ok (.iconst 0, 1) := by decide +kernel
theorem d_Lw_law_118 : decode code 118 = .ok (.ireturn, 1) := by decide +kernel
theorem d_Lw_law_119 : decode code 119 = .ok (.aload_n 1, 1) := by decide +kernel
theorem d_Lw_law_120 : decode code 120 = .ok (.invokevirtual 18, 3) := by decide +kernel
theorem d_Lw_law_123 : decode code 123 = .ok (.aload_n 2, 1) := by decide +kernel
theorem d_Lw_law_124 : decode code 124 = .ok (.invokevirtual 22, 3) := by decide +kernel
theorem d_Lw_law_127 : decode code 127 = .ok (.if_icmp .eq 285, 3) := by decide +kernel
theorem d_Lw_law_130 : decode code 130 = .ok (.iconst 0, 1) := by decide +kernel
theorem d_Lw_law_131 : decode code 131 = .ok (.ireturn, 1) := by decide +kernel
theorem d_Lw_law_132 : decode code 132 = .ok (.aload_n 1, 1) := by decide +kernel
theorem d_Lw_law_133 : decode code 133 = .ok (.aload_n 0, 1) := by decide +kernel
theorem d_Lw_law_134 : decode code 134 = .ok (.iload_n 3, 1) := by decide +kernel
theorem d_Lw_law_135 : decode code 135 = .ok (.iconst 1, 1) := by decide +kernel
theorem d_Lw_law_136 : decode code 136 = .ok (.iadd, 1) := by decide +kernel
theorem d_Lw_law_137 : decode code 137 = .ok (.iaload, 1) := by decide +kernel
theorem d_Lw_law_138 : decode code 138 = .ok (.invokevirtual 23, 3) := by decide +kernel
theorem d_Lw_law_141 : decode code 141 = .ok (.aload_n 2, 1) := by decide +kernel
theorem d_Lw_law_142 : decode code 142 = .ok (.aload_n 0, 1) := by decide +kernel
theorem d_Lw_law_143 : decode code 143 = .ok (.iload_n 3, 1) := by decide +kernel
theorem d_Lw_law_144 : decode code 144 = .ok (.iconst 1, 1) := by decide +kernel
theorem d_Lw_law_145 : decode code 145 = .ok (.iadd, 1) := by decide +kernel
theorem d_Lw_law_146 : decode code 146 = .ok (.iaload, 1) := by decide +kernel
theorem d_Lw_law_147 : decode code 147 = .ok (.invokevirtual 27, 3) := by decide +kernel
theorem d_Lw_law_150 : decode code 150 = .ok (.if_icmp .eq 262, 3) := by decide +kernel
theorem d_Lw_law_153 : decode code 153 = .ok (.iconst 0, 1) := by decide +kernel
theorem d_Lw_law_154 : decode code 154 = .ok (.ireturn, 1) := by decide +kernel
theorem d_Lw_law_155 : decode code 155 = .ok (.aload_n 1, 1) := by decide +kernel
theorem d_Lw_law_156 : decode code 156 = .ok (.invokevirtual 28, 3) := by decide +kernel
theorem d_Lw_law_159 : decode code 159 = .ok (.aload_n 2, 1) := by decide +kernel
theorem d_Lw_law_160 : decode code 160 = .ok (.invokevirtual 31, 3) := by decide +kernel
theorem d_Lw_law_163 : decode code 163 = .ok (.if_icmp .eq 249, 3) := by decide +kernel
theorem d_Lw_law_166 : decode code 166 = .ok (.iconst 0, 1) := by decide +kernel
theorem d_Lw_law_167 : decode code 167 = .ok (.ireturn, 1) := by decide +kernel
theorem d_Lw_law_168 : decode code 168 = .ok (.aload_n 1, 1) := by decide +kernel
theorem d_Lw_law_169 : decode code 169 = .ok (.aload_n 0, 1) := by decide +kernel
theorem d_Lw_law_170 : decode code 170 = .ok (.iload_n 3, 1) := by decide +kernel
theorem d_Lw_law_171 : decode code 171 = .ok (.iconst 1, 1) := by decide +kernel
theorem d_Lw_law_172 : decode code 172 = .ok (.iadd, 1) := by decide +kernel
theorem d_Lw_law_173 : decode code 173 = .ok (.iaload, 1) := by decide +kernel
theorem d_Lw_law_174 : decode code 174 = .ok (.aload_n 0, 1) := by decide +kernel
theorem d_Lw_law_175 : decode code 175 = .ok (.iload_n 3, 1) := by decide +kernel
theorem d_Lw_law_176 : decode code 176 = .ok (.iconst 2, 1) := by decide +kernel
theorem d_Lw_law_177 : decode code 177 = .ok (.iadd, 1) := by decide +kernel
theorem d_Lw_law_178 : decode code 178 = .ok (.iaload, 1) := by decide +kernel
theorem d_Lw_law_179 : decode code 179 = .ok (.aload_n 0, 1) := by decide +kernel
theorem d_Lw_law_180 : decode code 180 = .ok (.iload_n 3, 1) := by decide +kernel
theorem d_Lw_law_181 : decode code 181 = .ok (.iconst 3, 1) := by decide +kernel
theorem d_Lw_law_182 : decode code 182 = .ok (.iadd, 1) := by decide +kernel
theorem d_Lw_law_183 : decode code 183 = .ok (.iaload, 1) := by decide +kernel
theorem d_Lw_law_184 : decode code 184 = .ok (.invokevirtual 32, 3) := by decide +kernel
theorem d_Lw_law_187 : decode code 187 = .ok (.aload_n 2, 1) := by decide +kernel
theorem d_Lw_law_188 : decode code 188 = .ok (.aload_n 0, 1) := by decide +kernel
theorem d_Lw_law_189 : decode code 189 = .ok (.iload_n 3, 1) := by decide +kernel
theorem d_Lw_law_190 : decode code 190 = .ok (.iconst 1, 1) := by decide +kernel
theorem d_Lw_law_191 : decode code 191 = .ok (.iadd, 1) := by decide +kernel
theorem d_Lw_law_192 : decode code 192 = .ok (.iaload, 1) := by decide +kernel
theorem d_Lw_law_193 : decode code 193 = .ok (.aload_n 0, 1) := by decide +kernel
theorem d_Lw_law_194 : decode code 194 = .ok (.iload_n 3, 1) := by decide +kernel
theorem d_Lw_law_195 : decode code 195 = .ok (.iconst 2, 1) := by decide +kernel
theorem d_Lw_law_196 : decode code 196 = .ok (.iadd, 1) := by decide +kernel
theorem d_Lw_law_197 : decode code 197 = .ok (.iaload, 1) := by decide +kernel
theorem d_Lw_law_198 : decode code 198 = .ok (.aload_n 0, 1) := by decide +kernel
theorem d_Lw_law_199 : decode code 199 = .ok (.iload_n 3, 1) := by decide +kernel
theorem d_Lw_law_200 : decode code 200 = .ok (.iconst 3, 1) := by decide +kernel
theorem d_Lw_law_201 : decode code 201 = .ok (.iadd, 1) := by decide +kernel
theorem d_Lw_law_202 : decode code 202 = .ok (.iaload, 1) := by decide +kernel
theorem d_Lw_law_203 : decode code 203 = .ok (.invokevirtual 36, 3) := by decide +kernel
theorem d_Lw_law_206 : decode code 206 = .ok (.if_icmp .eq 206, 3) := by decide +kernel
theorem d_Lw_law_209 : decode code 209 = .ok (.iconst 0, 1) := by decide +kernel
theorem d_Lw_law_210 : decode code 210 = .ok (.ireturn, 1) := by decide +kernel
theorem d_Lw_law_211 : decode code 211 = .ok (.aload_n 1, 1) := by decide +kernel
theorem d_Lw_law_212 : decode code 212 = .ok (.aload_n 0, 1) := by decide +kernel
theorem d_Lw_law_213 : decode code 213 = .ok (.iload_n 3, 1) := by decide +kernel
theorem d_Lw_law_214 : decode code 214 = .ok (.iconst 1, 1) := by decide +kernel
theorem d_Lw_law_215 : decode code 215 = .ok (.iadd, 1) := by decide +kernel
theorem d_Lw_law_216 : decode code 216 = .ok (.iaload, 1) := by decide +kernel
theorem d_Lw_law_217 : decode code 217 = .ok (.aload_n 0, 1) := by decide +kernel
theorem d_Lw_law_218 : decode code 218 = .ok (.iload_n 3, 1) := by decide +kernel
theorem d_Lw_law_219 : decode code 219 = .ok (.iconst 2, 1) := by decide +kernel
theorem d_Lw_law_220 : decode code 220 = .ok (.iadd, 1) := by decide +kernel
theorem d_Lw_law_221 : decode code 221 = .ok (.iaload, 1) := by decide +kernel
theorem d_Lw_law_222 : decode code 222 = .ok (.invokevirtual 37, 3) := by decide +kernel
theorem d_Lw_law_225 : decode code 225 = .ok (.aload_n 2, 1) := by decide +kernel
theorem d_Lw_law_226 : decode code 226 = .ok (.aload_n 0, 1) := by decide +kernel
theorem d_Lw_law_227 : decode code 227 = .ok (.iload_n 3, 1) := by decide +kernel
theorem d_Lw_law_228 : decode code 228 = .ok (.iconst 1, 1) := by decide +kernel
theorem d_Lw_law_229 : decode code 229 = .ok (.iadd, 1) := by decide +kernel
theorem d_Lw_law_230 : decode code 230 = .ok (.iaload, 1) := by decide +kernel
theorem d_Lw_law_231 : decode code 231 = .ok (.aload_n 0, 1) := by decide +kernel
theorem d_Lw_law_232 : decode code 232 = .ok (.iload_n 3, 1) := by decide +kernel
theorem d_Lw_law_233 : decode code 233 = .ok (.iconst 2, 1) := by decide +kernel
theorem d_Lw_law_234 : decode code 234 = .ok (.iadd, 1) := by decide +kernel
theorem d_Lw_law_235 : decode code 235 = .ok (.iaload, 1) := by decide +kernel
theorem d_Lw_law_236 : decode code 236 = .ok (.invokevirtual 41, 3) := by decide +kernel
theorem d_Lw_law_239 : decode code 239 = .ok (.if_icmp .eq 173, 3) := by decide +kernel
theorem d_Lw_law_242 : decode code 242 = .ok (.iconst 0, 1) := by decide +kernel
theorem d_Lw_law_243 : decode code 243 = .ok (.ireturn, 1) := by decide +kernel
theorem d_Lw_law_244 : decode code 244 = .ok (.aload_n 1, 1) := by decide +kernel
theorem d_Lw_law_245 : decode code 245 = .ok (.aload_n 0, 1) := by decide +kernel
theorem d_Lw_law_246 : decode code 246 = .ok (.iload_n 3, 1) := by decide +kernel
theorem d_Lw_law_247 : decode code 247 = .ok (.iconst 1, 1) := by decide +kernel
theorem d_Lw_law_248 : decode code 248 = .ok (.iadd, 1) := by decide +kernel
theorem d_Lw_law_249 : decode code 249 = .ok (.iaload, 1) := by decide +kernel
theorem d_Lw_law_250 : decode code 250 = .ok (.aload_n 0, 1) := by decide +kernel
theorem d_Lw_law_251 : decode code 251 = .ok (.iload_n 3, 1) := by decide +kernel
theorem d_Lw_law_252 : decode code 252 = .ok (.iconst 2, 1) := by decide +kernel
theorem d_Lw_law_253 : decode code 253 = .ok (.iadd, 1) := by decide +kernel
theorem d_Lw_law_254 : decode code 254 = .ok (.iaload, 1) := by decide +kernel
theorem d_Lw_law_255 : decode code 255 = .ok (.aload_n 0, 1) := by decide +kernel
theorem d_Lw_law_256 : decode code 256 = .ok (.iload_n 3, 1) := by decide +kernel
theorem d_Lw_law_257 : decode code 257 = .ok (.iconst 3, 1) := by decide +kernel
theorem d_Lw_law_258 : decode code 258 = .ok (.iadd, 1) := by decide +kernel
theorem d_Lw_law_259 : decode code 259 = .ok (.iaload, 1) := by decide +kernel
theorem d_Lw_law_260 : decode code 260 = .ok (.invokevirtual 42, 3) := by decide +kernel
theorem d_Lw_law_263 : decode code 263 = .ok (.aload_n 2, 1) := by decide +kernel
theorem d_Lw_law_264 : decode code 264 = .ok (.aload_n 0, 1) := by decide +kernel
theorem d_Lw_law_265 : decode code 265 = .ok (.iload_n 3, 1) := by decide +kernel
theorem d_Lw_law_266 : decode code 266 = .ok (.iconst 1, 1) := by decide +kernel
theorem d_Lw_law_267 : decode code 267 = .ok (.iadd, 1) := by decide +kernel
theorem d_Lw_law_268 : decode code 268 = .ok (.iaload, 1) := by decide +kernel
theorem d_Lw_law_269 : decode code 269 = .ok (.aload_n 0, 1) := by decide +kernel
theorem d_Lw_law_270 : decode code 270 = .ok (.iload_n 3, 1) := by decide +kernel
theorem d_Lw_law_271 : decode code 271 = .ok (.iconst 2, 1) := by decide +kernel
theorem d_Lw_law_272 : decode code 272 = .ok (.iadd, 1) := by decide +kernel
theorem d_Lw_law_273 : decode code 273 = .ok (.iaload, 1) := by decide +kernel
theorem d_Lw_law_274 : decode code 274 = .ok (.aload_n 0, 1) := by decide +kernel
theorem d_Lw_law_275 : decode code 275 = .ok (.iload_n 3, 1) := by decide +kernel
theorem d_Lw_law_276 : decode code 276 = .ok (.iconst 3, 1) := by decide +kernel
theorem d_Lw_law_277 : decode code 277 = .ok (.iadd, 1) := by decide +kernel
theorem d_Lw_law_278 : decode code 278 = .ok (.iaload, 1) := by decide +kernel
theorem d_Lw_law_279 : decode code 279 = .ok (.invokevirtual 45, 3) := by decide +kernel
theorem d_Lw_law_282 : decode code 282 = .ok (.if_icmp .eq 130, 3) := by decide +kernel
theorem d_Lw_law_285 : decode code 285 = .ok (.iconst 0, 1) := by decide +kernel
theorem d_Lw_law_286 : decode code 286 = .ok (.ireturn, 1) := by decide +kernel
theorem d_Lw_law_287 : decode code 287 = .ok (.aload_n 1, 1) := by decide +kernel
theorem d_Lw_law_288 : decode code 288 = .ok (.aload_n 0, 1) := by decide +kernel
theorem d_Lw_law_289 : decode code 289 = .ok (.iload_n 3, 1) := by decide +kernel
theorem d_Lw_law_290 : decode code 290 = .ok (.iconst 1, 1) := by decide +kernel
theorem d_Lw_law_291 : decode code 291 = .ok (.iadd, 1) := by decide +kernel
theorem d_Lw_law_292 : decode code 292 = .ok (.iaload, 1) := by decide +kernel
theorem d_Lw_law_293 : decode code 293 = .ok (.invokevirtual 46, 3) := by decide +kernel
theorem d_Lw_law_296 : decode code 296 = .ok (.aload_n 2, 1) := by decide +kernel
theorem d_Lw_law_297 : decode code 297 = .ok (.aload_n 0, 1) := by decide +kernel
theorem d_Lw_law_298 : decode code 298 = .ok (.iload_n 3, 1) := by decide +kernel
theorem d_Lw_law_299 : decode code 299 = .ok (.iconst 1, 1) := by decide +kernel
theorem d_Lw_law_300 : decode code 300 = .ok (.iadd, 1) := by decide +kernel
theorem d_Lw_law_301 : decode code 301 = .ok (.iaload, 1) := by decide +kernel
theorem d_Lw_law_302 : decode code 302 = .ok (.invokevirtual 49, 3) := by decide +kernel
theorem d_Lw_law_305 : decode code 305 = .ok (.if_icmp .eq 107, 3) := by decide +kernel
theorem d_Lw_law_308 : decode code 308 = .ok (.iconst 0, 1) := by decide +kernel
theorem d_Lw_law_309 : decode code 309 = .ok (.ireturn, 1) := by decide +kernel
theorem d_Lw_law_310 : decode code 310 = .ok (.aload_n 1, 1) := by decide +kernel
theorem d_Lw_law_311 : decode code 311 = .ok (.invokevirtual 50, 3) := by decide +kernel
theorem d_Lw_law_314 : decode code 314 = .ok (.aload_n 2, 1) := by decide +kernel
theorem d_Lw_law_315 : decode code 315 = .ok (.invokevirtual 53, 3) := by decide +kernel
theorem d_Lw_law_318 : decode code 318 = .ok (.if_icmp .eq 94, 3) := by decide +kernel
theorem d_Lw_law_321 : decode code 321 = .ok (.iconst 0, 1) := by decide +kernel
theorem d_Lw_law_322 : decode code 322 = .ok (.ireturn, 1) := by decide +kernel
theorem d_Lw_law_323 : decode code 323 = .ok (.aload_n 1, 1) := by decide +kernel
theorem d_Lw_law_324 : decode code 324 = .ok (.aload_n 0, 1) := by decide +kernel
theorem d_Lw_law_325 : decode code 325 = .ok (.iload_n 3, 1) := by decide +kernel
theorem d_Lw_law_326 : decode code 326 = .ok (.iconst 1, 1) := by decide +kernel
theorem d_Lw_law_327 : decode code 327 = .ok (.iadd, 1) := by decide +kernel
theorem d_Lw_law_328 : decode code 328 = .ok (.iaload, 1) := by decide +kernel
theorem d_Lw_law_329 : decode code 329 = .ok (.aload_n 0, 1) := by decide +kernel
theorem d_Lw_law_330 : decode code 330 = .ok (.iload_n 3, 1) := by decide +kernel
theorem d_Lw_law_331 : decode code 331 = .ok (.iconst 2, 1) := by decide +kernel
theorem d_Lw_law_332 : decode code 332 = .ok (.iadd, 1) := by decide +kernel
theorem d_Lw_law_333 : decode code 333 = .ok (.iaload, 1) := by decide +kernel
theorem d_Lw_law_334 : decode code 334 = .ok (.invokevirtual 54, 3) := by decide +kernel
theorem d_Lw_law_337 : decode code 337 = .ok (.aload_n 2, 1) := by decide +kernel
theorem d_Lw_law_338 : decode code 338 = .ok (.aload_n 0, 1) := by decide +kernel
theorem d_Lw_law_339 : decode code 339 = .ok (.iload_n 3, 1) := by decide +kernel
theorem d_Lw_law_340 : decode code 340 = .ok (.iconst 1, 1) := by decide +kernel
theorem d_Lw_law_341 : decode code 341 = .ok (.iadd, 1) := by decide +kernel
theorem d_Lw_law_342 : decode code 342 = .ok (.iaload, 1) := by decide +kernel
theorem d_Lw_law_343 : decode code 343 = .ok (.aload_n 0, 1) := by decide +kernel
theorem d_Lw_law_344 : decode code 344 = .ok (.iload_n 3, 1) := by decide +kernel
theorem d_Lw_law_345 : decode code 345 = .ok (.iconst 2, 1) := by decide +kernel
theorem d_Lw_law_346 : decode code 346 = .ok (.iadd, 1) := by decide +kernel
theorem d_Lw_law_347 : decode code 347 = .ok (.iaload, 1) := by decide +kernel
theorem d_Lw_law_348 : decode code 348 = .ok (.invokevirtual 57, 3) := by decide +kernel
theorem d_Lw_law_351 : decode code 351 = .ok (.if_icmp .eq 61, 3) := by decide +kernel
theorem d_Lw_law_354 : decode code 354 = .ok (.iconst 0, 1) := by decide +kernel
theorem d_Lw_law_355 : decode code 355 = .ok (.ireturn, 1) := by decide +kernel
theorem d_Lw_law_356 : decode code 356 = .ok (.aload_n 1, 1) := by decide +kernel
theorem d_Lw_law_357 : decode code 357 = .ok (.aload_n 0, 1) := by decide +kernel
theorem d_Lw_law_358 : decode code 358 = .ok (.iload_n 3, 1) := by decide +kernel
theorem d_Lw_law_359 : decode code 359 = .ok (.iconst 1, 1) := by decide +kernel
theorem d_Lw_law_360 : decode code 360 = .ok (.iadd, 1) := by decide +kernel
theorem d_Lw_law_361 : decode code 361 = .ok (.iaload, 1) := by decide +kernel
theorem d_Lw_law_362 : decode code 362 = .ok (.aload_n 0, 1) := by decide +kernel
theorem d_Lw_law_363 : decode code 363 = .ok (.iload_n 3, 1) := by decide +kernel
theorem d_Lw_law_364 : decode code 364 = .ok (.iconst 2, 1) := by decide +kernel
theorem d_Lw_law_365 : decode code 365 = .ok (.iadd, 1) := by decide +kernel
theorem d_Lw_law_366 : decode code 366 = .ok (.iaload, 1) := by decide +kernel
theorem d_Lw_law_367 : decode code 367 = .ok (.invokevirtual 58, 3) := by decide +kernel
theorem d_Lw_law_370 : decode code 370 = .ok (.aload_n 2, 1) := by decide +kernel
theorem d_Lw_law_371 : decode code 371 = .ok (.aload_n 0, 1) := by decide +kernel
theorem d_Lw_law_372 : decode code 372 = .ok (.iload_n 3, 1) := by decide +kernel
theorem d_Lw_law_373 : decode code 373 = .ok (.iconst 1, 1) := by decide +kernel
theorem d_Lw_law_374 : decode code 374 = .ok (.iadd, 1) := by decide +kernel
theorem d_Lw_law_375 : decode code 375 = .ok (.iaload, 1) := by decide +kernel
theorem d_Lw_law_376 : decode code 376 = .ok (.aload_n 0, 1) := by decide +kernel
theorem d_Lw_law_377 : decode code 377 = .ok (.iload_n 3, 1) := by decide +kernel
theorem d_Lw_law_378 : decode code 378 = .ok (.iconst 2, 1) := by decide +kernel
theorem d_Lw_law_379 : decode code 379 = .ok (.iadd, 1) := by decide +kernel
theorem d_Lw_law_380 : decode code 380 = .ok (.iaload, 1) := by decide +kernel
theorem d_Lw_law_381 : decode code 381 = .ok (.invokevirtual 61, 3) := by decide +kernel
theorem d_Lw_law_384 : decode code 384 = .ok (.if_icmp .eq 28, 3) := by decide +kernel
theorem d_Lw_law_387 : decode code 387 = .ok (.iconst 0, 1) := by decide +kernel
theorem d_Lw_law_388 : decode code 388 = .ok (.ireturn, 1) := by decide +kernel
theorem d_Lw_law_389 : decode code 389 = .ok (.aload_n 1, 1) := by decide +kernel
theorem d_Lw_law_390 : decode code 390 = .ok (.aload_n 0, 1) := by decide +kernel
theorem d_Lw_law_391 : decode code 391 = .ok (.iload_n 3, 1) := by decide +kernel
theorem d_Lw_law_392 : decode code 392 = .ok (.iconst 1, 1) := by decide +kernel
theorem d_Lw_law_393 : decode code 393 = .ok (.iadd, 1) := by decide +kernel
theorem d_Lw_law_394 : decode code 394 = .ok (.iaload, 1) := by decide +kernel
theorem d_Lw_law_395 : decode code 395 = .ok (.invokevirtual 62, 3) := by decide +kernel
theorem d_Lw_law_398 : decode code 398 = .ok (.aload_n 2, 1) := by decide +kernel
theorem d_Lw_law_399 : decode code 399 = .ok (.aload_n 0, 1) := by decide +kernel
theorem d_Lw_law_400 : decode code 400 = .ok (.iload_n 3, 1) := by decide +kernel
theorem d_Lw_law_401 : decode code 401 = .ok (.iconst 1, 1) := by decide +kernel
theorem d_Lw_law_402 : decode code 402 = .ok (.iadd, 1) := by decide +kernel
theorem d_Lw_law_403 : decode code 403 = .ok (.iaload, 1) := by decide +kernel
theorem d_Lw_law_404 : decode code 404 = .ok (.invokevirtual 65, 3) := by decide +kernel
theorem d_Lw_law_407 : decode code 407 = .ok (.if_icmp .eq 5, 3) := by decide +kernel
theorem d_Lw_law_410 : decode code 410 = .ok (.iconst 0, 1) := by decide +kernel
theorem d_Lw_law_411 : decode code 411 = .ok (.ireturn, 1) := by decide +kernel
theorem d_Lw_law_412 : decode code 412 = .ok (.iinc 3 4, 3) := by decide +kernel
theorem d_Lw_law_415 : decode code 415 = .ok (.goto (-397), 3) := by decide +kernel
theorem d_Lw_law_418 : decode code 418 = .ok (.iconst 1, 1) := by decide +kernel
theorem d_Lw_law_419 : decode code 419 = .ok (.ireturn, 1) := by decide +kernel
end
section
/-! THE JUDGEMENT J: a method's walk over an abstract heap (a function from addresses to cells), with what is left of the room; Ct: a method's contract in the same words. Rows j_..: an instruction each. -/
abbrev HP : Type := Nat → Option va_E
def hset (h : HP) (a : Nat) (e : va_E) : HP := fun q => if q = a then some e else h q
theorem hset_s (h : HP) (a : Nat) (e : va_E) : hset h a e a = some e := if_pos rfl
theorem hset_n (h : HP) {a q : Nat} (e : va_E) (hq : q ≠ a) : hset h a e q = h q := if_neg hq
/-- launch, numbers of the classes and slots, array classes, the first own address, the addresses of the statics' arrays -/
abbrev EV : Type := Launch × va_G × (Nat → ClassId) × Nat × (Nat → Nat)
def Ab (E : EV) : Nat → Prop := fun q => E.2.2.2.1 ≤ q
def Rp (E : EV) (h : HP) (H : Heap) : Prop := ∀ (a : Nat) (e : va_E), h a = some e → va_at E.2.1 classes (a, e) H
def Zs (E : EV) (U : State) (H : Heap) : Prop := ∀ z ∈ stats E.2.2.2.2, va_Z z.1 z.2.1 z.2.2.1 z.2.2.2 (Ab E) U H
def tysE (E : EV) : List (ClassId × FieldType) := (List.range atys.length).map (fun i => (E.2.2.1 i, atys.getD i .int))
def Kn (E : EV) (U : State) : Prop := va_K E.2.1 classes (tysE E) U ∧ (∀ w ∈ nestF, va_Nw (.fieldLinkNest w.1 w.2.1 w.2.2.1 w.2.2.2.1 w.2.2.2.2.1 w.2.2.2.2.2) U) ∧ (∀ q ∈ faceW, va_Fw q.1 q.2.1 q.2.2 U) ∧ (∀ q ∈ castW, va_Nw (.castable q.1 q.2) U) ∧ ∀ q ∈ overW, va_AO q U
def wsM (M : MI) : List Cond := .code M.1 M.2.1 M.2.2.1 M.2.2.2 :: GW
def Wd (E : EV) (h : HP) (n : Nat) : State → Prop := fun U => Rp E h U.heap ∧ U.heap.size = n ∧ Kn E U ∧ Zs E U U.heap ∧ E.2.2.2.1 ≤ n
def Qx (E : EV) (Q : Option Value → HP → Nat → Prop) : Array Value → State → Outcome → State → Prop := fun _ st o t => ∃ (v : Option Value) (h : HP) (n : Nat), o = .returned v ∧ Q v h n ∧ Rp E h t.heap ∧ t.heap.size = n ∧ va_F (Ab E) st t
def rmD (d mc ms : Nat) : Room := { frames := d, cells := mc, slots := ms, locals := 40 * d }
def Ct (E : EV) (M : MI) (d mc ms : Nat) (as : List Value) (h : HP) (n : Nat) (Q : Option Value → HP → Nat → Prop) : Prop :=
  Met E.1 M.1 (wsM M) (rmD d mc ms) (va_Pc as (Wd E h n)) (Qx E Q) mc ms (Ab E)
def Cx (E : EV) (M : MI) (p : Program) (s : State) (m : MethodId) (args : Array Value) (meth : Method) (c : Code) : Prop :=
  p.tables.exec = Jvm.exec ∧ c.code = M.2.1 ∧ meth.sig.returnType = M.2.2.2 ∧ c.maxLocals = M.2.2.1 ∧ s.vm.findClass M.1.cls = some m.cls ∧ (∀ w ∈ GW, w.before args s = true) ∧ meth.locks = false ∧ meth.name = M.1.name ∧ Kn E s ∧ Zs E s s.heap ∧ E.2.2.2.1 ≤ s.heap.size
def Dx (E : EV) (M : MI) (d cl sl : Nat) (L : List (Nat × Value)) (h : HP) (n : Nat) (R : Room) (s : State) (H : Heap) (locs : List Loc) (cells slots : Nat) (ls : Array Slot) : Prop :=
  (d ≤ R.frames ∧ 40 * d ≤ R.locals ∧ cells + cl ≤ R.cells ∧ slots + sl ≤ R.slots) ∧ Rp E h H ∧ H.size = n ∧ va_S (Ab E) s.heap H locs ∧ lv_has ls M.2.2.1 L ∧ ∀ q ∈ L, q.2.category = 1
def J (E : EV) (M : MI) (d cl sl pc : Nat) (L : List (Nat × Value)) (st : List Value) (h : HP) (n : Nat) (Q : Option Value → HP → Nat → Prop) : Prop :=
  ∀ (p : Program) (e : Env) (R : Room) (s : State) (m : MethodId) (args : Array Value) (below : List Frame) (meth : Method) (c : Code) (H : Heap) (locs : List Loc) (cells slots : Nat) (ls : Array Slot),
    Cx E M p s m args meth c → Dx E M d cl sl L h n R s H locs cells slots ls →
    W p E.1 e R s m args below meth c H locs cells slots (MQ below (Qx E Q) args s R.cells R.slots (Ab E)) (F0 m pc ls st)
/-! locals: a list by their numbers -/
def lgt : List (Nat × Value) → Nat → Option Value
  | [], _ => none
  | (j, v) :: L, i => match Nat.beq j i with
    | true => some v
    | false => lgt L i
def ldel : List (Nat × Value) → Nat → List (Nat × Value)
  | [], _ => []
  | (j, w) :: L, i => match Nat.beq j i with
    | true => ldel L i
    | false => (j, w) :: ldel L i
def lset : List (Nat × Value) → Nat → Value → List (Nat × Value)
  | [], i, v => [(i, v)]
  | (j, w) :: L, i, v => match Nat.beq j i with
    | true => (i, v) :: ldel L i
    | false => (j, w) :: lset L i v
theorem lgt_mem : ∀ (L : List (Nat × Value)) (i : Nat) (v : Value), lgt L i = some v → (i, v) ∈ L
  | [], _, _, h => by cases h
  | (j, w) :: L, i, v, h => by
    unfold lgt at h
    cases hb : Nat.beq j i with
    | true =>
      rw [hb] at h
      have e := Nat.eq_of_beq_eq_true hb
      cases h
      rw [e]
      exact List.mem_cons_self
    | false =>
      rw [hb] at h
      exact List.mem_cons_of_mem _ (lgt_mem L i v h)
theorem ldel_mem : ∀ (L : List (Nat × Value)) (i : Nat) (q : Nat × Value), q ∈ ldel L i → q ∈ L ∧ q.1 ≠ i
  | [], _, _, h => by cases h
  | (j, w) :: L, i, q, h => by
    unfold ldel at h
    cases hb : Nat.beq j i with
    | true =>
      rw [hb] at h
      have := ldel_mem L i q h
      exact ⟨List.mem_cons_of_mem _ this.1, this.2⟩
    | false =>
      rw [hb] at h
      rcases List.mem_cons.mp h with h1 | h1
      · rw [h1]
        exact ⟨List.mem_cons_self, Nat.ne_of_beq_eq_false hb⟩
      · have := ldel_mem L i q h1
        exact ⟨List.mem_cons_of_mem _ this.1, this.2⟩
theorem lset_mem : ∀ (L : List (Nat × Value)) (i : Nat) (v : Value) (q : Nat × Value), q ∈ lset L i v → q = (i, v) ∨ (q ∈ L ∧ q.1 ≠ i)
  | [], i, v, q, h => by
    left
    exact List.mem_singleton.mp h
  | (j, w) :: L, i, v, q, h => by
    unfold lset at h
    cases hb : Nat.beq j i with
    | true =>
      rw [hb] at h
      rcases List.mem_cons.mp h with h1 | h1
      · exact Or.inl h1
      · have := ldel_mem L i q h1
        exact Or.inr ⟨List.mem_cons_of_mem _ this.1, this.2⟩
    | false =>
      rw [hb] at h
      rcases List.mem_cons.mp h with h1 | h1
      · rw [h1]
        exact Or.inr ⟨List.mem_cons_self, Nat.ne_of_beq_eq_false hb⟩
      · rcases lset_mem L i v q h1 with h2 | h2
        · exact Or.inl h2
        · exact Or.inr ⟨List.mem_cons_of_mem _ h2.1, h2.2⟩
theorem lgt_at {ls : Array Slot} {nL : Nat} {L : List (Nat × Value)} (h : lv_has ls nL L) {i : Nat} {v : Value} (hv : lgt L i = some v) : ls[i]? = some (.val v) := h.2.2 (i, v) (lgt_mem L i v hv)
theorem lset_has {ls : Array Slot} {nL : Nat} {L : List (Nat × Value)} {i : Nat} {v : Value} (hc : ∀ q ∈ L, q.2.category = 1) (h : lv_has ls nL ((i, v) :: L.filter (fun q => !(q.1 == i) && !(q.1 + 1 == i && q.2.category == 2)))) : lv_has ls nL (lset L i v) := by
  refine ⟨h.1, h.2.1, fun q hq => h.2.2 q ?_⟩
  rcases lset_mem L i v q hq with h1 | ⟨h1, h2⟩
  · rw [h1]; exact List.mem_cons_self
  · refine List.mem_cons_of_mem _ (List.mem_filter.mpr ⟨h1, ?_⟩)
    have := hc q h1
    simp [h2, this]
theorem lset_cat {L : List (Nat × Value)} {i : Nat} {v : Value} (hc : ∀ q ∈ L, q.2.category = 1) (hv : v.category = 1) : ∀ q ∈ lset L i v, q.2.category = 1 := by
  intro q hq
  rcases lset_mem L i v q hq with h1 | ⟨h1, -⟩
  · rw [h1]; exact hv
  · exact hc q h1
/-! the heap's steps -/
theorem Rp.set {E : EV} {h : HP} {H H1 : Heap} {a : Nat} {e : va_E} (hR : Rp E h H) (he : va_at E.2.1 classes (a, e) H1) (oq : ∀ q : Nat, q ≠ a → H1[q]? = H[q]?) : Rp E (hset h a e) H1 := by
  intro q f hq
  by_cases hqa : q = a
  · subst hqa
    rw [hset_s] at hq
    cases hq
    exact he
  · rw [hset_n h e hqa] at hq
    exact va_at.kept (hR q f hq) (oq q hqa)
theorem Rp.push {E : EV} {h : HP} {H H1 : Heap} {e : va_E} (hR : Rp E h H) (he : va_at E.2.1 classes (H.size, e) H1) (oq : ∀ q : Nat, q < H.size → H1[q]? = H[q]?) : Rp E (hset h H.size e) H1 := by
  intro q f hq
  by_cases hqa : q = H.size
  · subst hqa
    rw [hset_s] at hq
    cases hq
    exact he
  · rw [hset_n h e hqa] at hq
    exact va_at.kept (hR q f hq) (oq q (va_at.lt (hR q f hq)))
theorem Rp.kept {E : EV} {h : HP} {H H1 : Heap} (hR : Rp E h H) (e : H1 = H) : Rp E h H1 := by subst e; exact hR
theorem Kn.warm {E : EV} {s U : State} (hW : s.WarmedH U.vm) (h : Kn E s) : Kn E U :=
  ⟨va_K.moved hW.alike h.1, fun w hw => va_Nw.warmF hW (h.2.1 w hw), fun q hq => va_Fw.moved (faceW_ok q hq) hW.alike (h.2.2.1 q hq), fun q hq => va_Nw.warmC hW (h.2.2.2.1 q hq), fun q hq => (h.2.2.2.2 q hq).moved hW.alike⟩
theorem Kn.same {E : EV} {s U : State} (hW : s.vm = U.vm) (h : Kn E s) : Kn E U :=
  ⟨va_K.moved (by rw [hW]; exact Vm.Alike.refl _) h.1, fun w hw => va_Nw.same rfl hW (h.2.1 w hw), fun q hq => va_Fw.moved (faceW_ok q hq) (by rw [hW]; exact Vm.Alike.refl _) (h.2.2.1 q hq), fun q hq => va_Nw.same rfl hW (h.2.2.2.1 q hq), fun q hq => (h.2.2.2.2 q hq).moved (by rw [hW]; exact Vm.Alike.refl _)⟩
theorem Wd.blind {E : EV} {as : List Value} {h : HP} {n : Nat} : FrameBlind (va_Pc as (Wd E h n)) := by
  intro a U g mk ⟨h1, h2, h3, h4, h5, h6⟩
  exact ⟨h1, h2, h3, Kn.same rfl h4, fun z hz => (h5 z hz).moved (Vm.Alike.refl U.vm), h6⟩
theorem Wd.at {E : EV} {h : HP} {s : State} {H : Heap} {locs : List Loc} (hR : Rp E h H) (hK : Kn E s) (hZ : Zs E s s.heap) (hS : va_S (Ab E) s.heap H locs) (hb : E.2.2.2.1 ≤ s.heap.size) {U : State} (hU : U.heap = H) (hW : s.WarmedH U.vm) : Wd E h H.size U :=
  ⟨by rw [hU]; exact hR, by rw [hU], Kn.warm hW hK, fun z hz => by rw [hU]; exact ((hZ z hz).kept hS.2.1).moved hW.alike, Nat.le_trans hb hS.1⟩
end
section
section JR
variable {E : EV} {M : MI} {d cl sl pc : Nat} {L : List (Nat × Value)} {st : List Value} {h : HP} {n : Nat} {Q : Option Value → HP → Nat → Prop}
def isRf : Value → Bool
  | .ref _ => true
  | .null => true
  | _ => false
theorem isRf_of {v : Value} (h : isRf v = true) : v = .null ∨ ∃ a, v = .ref a := by
  cases v <;> first | exact Or.inl rfl | exact Or.inr ⟨_, rfl⟩ | cases h
theorem J.pure {pc' : Nat} {st' : List Value} (f : ∀ (p : Program) (e : Env) (R : Room) (s : State) (m : MethodId) (args : Array Value) (below : List Frame) (meth : Method) (c : Code) (H : Heap) (locs : List Loc) (cells slots : Nat) (ls : Array Slot) (QQ : State → Prop), p.tables.exec = Jvm.exec → c.code = M.2.1 → lv_has ls M.2.2.1 L → W p E.1 e R s m args below meth c H locs cells slots QQ (F0 m pc' ls st') → W p E.1 e R s m args below meth c H locs cells slots QQ (F0 m pc ls st)) (k : J E M d cl sl pc' L st' h n Q) : J E M d cl sl pc L st h n Q :=
  fun p e R s m args below meth c H locs cells slots ls X Y => f p e R s m args below meth c H locs cells slots ls _ X.1 X.2.1 Y.2.2.2.2.1 (k p e R s m args below meth c H locs cells slots ls X Y)
theorem J.store {pc' i : Nat} {v : Value} {st' : List Value} (hc : v.category = 1) (f : ∀ (p : Program) (e : Env) (R : Room) (s : State) (m : MethodId) (args : Array Value) (below : List Frame) (meth : Method) (c : Code) (H : Heap) (locs : List Loc) (cells slots : Nat) (ls : Array Slot) (QQ : State → Prop), p.tables.exec = Jvm.exec → c.code = M.2.1 → lv_has ls M.2.2.1 L → (∀ ls' : Array Slot, lv_has ls' M.2.2.1 ((i, v) :: L.filter (fun q => !(q.1 == i) && !(q.1 + 1 == i && q.2.category == 2))) → W p E.1 e R s m args below meth c H locs cells slots QQ (F0 m pc' ls' st')) → W p E.1 e R s m args below meth c H locs cells slots QQ (F0 m pc ls st)) (k : J E M d cl sl pc' (lset L i v) st' h n Q) : J E M d cl sl pc L st h n Q :=
  fun p e R s m args below meth c H locs cells slots ls X Y => f p e R s m args below meth c H locs cells slots ls _ X.1 X.2.1 Y.2.2.2.2.1 (fun ls' h' => k p e R s m args below meth c H locs cells slots ls' X ⟨Y.1, Y.2.1, Y.2.2.1, Y.2.2.2.1, lset_has Y.2.2.2.2.2 h', lset_cat Y.2.2.2.2.2 hc⟩)
theorem j_iconst {i : Int} {v : Int32} (hd : decode M.2.1 pc = .ok (.iconst i, 1)) (hv : Int32.ofInt i = v) (k : J E M d cl sl (pc + 1) L (.int v :: st) h n Q) : J E M d cl sl pc L st h n Q := J.pure (fun _ _ _ _ _ _ _ _ _ _ _ _ _ _ _ hx hb hl kk => lv_iconst hx hb hd hv kk) k
theorem j_bipush {i : Int} {v : Int32} (hd : decode M.2.1 pc = .ok (.bipush i, 2)) (hv : (Int8.ofInt i).toInt32 = v) (k : J E M d cl sl (pc + 2) L (.int v :: st) h n Q) : J E M d cl sl pc L st h n Q := J.pure (fun _ _ _ _ _ _ _ _ _ _ _ _ _ _ _ hx hb hl kk => lv_bipush hx hb hd hv kk) k
theorem j_sipush {i : Int} {v : Int32} (hd : decode M.2.1 pc = .ok (.sipush i, 3)) (hv : (Int16.ofInt i).toInt32 = v) (k : J E M d cl sl (pc + 3) L (.int v :: st) h n Q) : J E M d cl sl pc L st h n Q := J.pure (fun _ _ _ _ _ _ _ _ _ _ _ _ _ _ _ hx hb hl kk => lv_sipush hx hb hd hv kk) k
theorem j_null  (hd : decode M.2.1 pc = .ok (.aconst_null, 1)) (k : J E M d cl sl (pc + 1) L (.null :: st) h n Q) : J E M d cl sl pc L st h n Q := J.pure (fun _ _ _ _ _ _ _ _ _ _ _ _ _ _ _ hx hb hl kk => lv_null hx hb hd kk) k
theorem j_iload_n {i : Fin 4} {x : Int32} (hd : decode M.2.1 pc = .ok (.iload_n i, 1)) (hv : lgt L i = some (.int x)) (k : J E M d cl sl (pc + 1) L (.int x :: st) h n Q) : J E M d cl sl pc L st h n Q := J.pure (fun _ _ _ _ _ _ _ _ _ _ _ _ _ _ _ hx hb hl kk => lv_iload_n hx hb hd rfl (lgt_at hl hv) kk) k
theorem j_iload {i : Nat} {x : Int32} (hd : decode M.2.1 pc = .ok (.iload i, 2)) (hv : lgt L i = some (.int x)) (k : J E M d cl sl (pc + 2) L (.int x :: st) h n Q) : J E M d cl sl pc L st h n Q := J.pure (fun _ _ _ _ _ _ _ _ _ _ _ _ _ _ _ hx hb hl kk => lv_iload hx hb hd (lgt_at hl hv) kk) k
theorem j_aload_n {i : Fin 4} {x : Nat} (hd : decode M.2.1 pc = .ok (.aload_n i, 1)) (hv : lgt L i = some (.ref x)) (k : J E M d cl sl (pc + 1) L (.ref x :: st) h n Q) : J E M d cl sl pc L st h n Q := J.pure (fun _ _ _ _ _ _ _ _ _ _ _ _ _ _ _ hx hb hl kk => lv_aload_n hx hb hd rfl (lgt_at hl hv) kk) k
theorem j_aload {i : Nat} {x : Nat} (hd : decode M.2.1 pc = .ok (.aload i, 2)) (hv : lgt L i = some (.ref x)) (k : J E M d cl sl (pc + 2) L (.ref x :: st) h n Q) : J E M d cl sl pc L st h n Q := J.pure (fun _ _ _ _ _ _ _ _ _ _ _ _ _ _ _ hx hb hl kk => lv_aload hx hb hd (lgt_at hl hv) kk) k
theorem j_aload_nN {i : Fin 4} (hd : decode M.2.1 pc = .ok (.aload_n i, 1)) (hv : lgt L i = some .null) (k : J E M d cl sl (pc + 1) L (.null :: st) h n Q) : J E M d cl sl pc L st h n Q := J.pure (fun _ _ _ _ _ _ _ _ _ _ _ _ _ _ _ hx hb hl kk => lv_aload_nN hx hb hd rfl (lgt_at hl hv) kk) k
theorem j_aloadN {i : Nat} (hd : decode M.2.1 pc = .ok (.aload i, 2)) (hv : lgt L i = some .null) (k : J E M d cl sl (pc + 2) L (.null :: st) h n Q) : J E M d cl sl pc L st h n Q := J.pure (fun _ _ _ _ _ _ _ _ _ _ _ _ _ _ _ hx hb hl kk => lv_aloadN hx hb hd (lgt_at hl hv) kk) k
theorem j_istore_n {i : Fin 4} {x : Int32} (hd : decode M.2.1 pc = .ok (.istore_n i, 1)) (hn : (i : Nat) < M.2.2.1) (k : J E M d cl sl (pc + 1) (lset L (i : Nat) (.int x)) st h n Q) : J E M d cl sl pc L (.int x :: st) h n Q := J.store rfl (fun _ _ _ _ _ _ _ _ _ _ _ _ _ _ _ hx hb hl kk => lv_istore_n hx hb hd rfl hl hn rfl kk) k
theorem j_istore {i : Nat} {x : Int32} (hd : decode M.2.1 pc = .ok (.istore i, 2)) (hn : i < M.2.2.1) (k : J E M d cl sl (pc + 2) (lset L i (.int x)) st h n Q) : J E M d cl sl pc L (.int x :: st) h n Q := J.store rfl (fun _ _ _ _ _ _ _ _ _ _ _ _ _ _ _ hx hb hl kk => lv_istore hx hb hd hl hn rfl kk) k
theorem j_astore_n {i : Fin 4} {x : Nat} (hd : decode M.2.1 pc = .ok (.astore_n i, 1)) (hn : (i : Nat) < M.2.2.1) (k : J E M d cl sl (pc + 1) (lset L (i : Nat) (.ref x)) st h n Q) : J E M d cl sl pc L (.ref x :: st) h n Q := J.store rfl (fun _ _ _ _ _ _ _ _ _ _ _ _ _ _ _ hx hb hl kk => lv_astore_n hx hb hd rfl hl hn rfl kk) k
theorem j_astore {i : Nat} {x : Nat} (hd : decode M.2.1 pc = .ok (.astore i, 2)) (hn : i < M.2.2.1) (k : J E M d cl sl (pc + 2) (lset L i (.ref x)) st h n Q) : J E M d cl sl pc L (.ref x :: st) h n Q := J.store rfl (fun _ _ _ _ _ _ _ _ _ _ _ _ _ _ _ hx hb hl kk => lv_astore hx hb hd hl hn rfl kk) k
theorem j_astore_nN {i : Fin 4} (hd : decode M.2.1 pc = .ok (.astore_n i, 1)) (hn : (i : Nat) < M.2.2.1) (k : J E M d cl sl (pc + 1) (lset L (i : Nat) .null) st h n Q) : J E M d cl sl pc L (.null :: st) h n Q := J.store rfl (fun _ _ _ _ _ _ _ _ _ _ _ _ _ _ _ hx hb hl kk => lv_astore_nN hx hb hd rfl hl hn rfl kk) k
theorem j_astoreN {i : Nat} (hd : decode M.2.1 pc = .ok (.astore i, 2)) (hn : i < M.2.2.1) (k : J E M d cl sl (pc + 2) (lset L i .null) st h n Q) : J E M d cl sl pc L (.null :: st) h n Q := J.store rfl (fun _ _ _ _ _ _ _ _ _ _ _ _ _ _ _ hx hb hl kk => lv_astoreN hx hb hd hl hn rfl kk) k
theorem lgt_ix {L : List (Nat × Value)} {i : Nat} {v : Value} (h : lgt L i = some v) : ∃ k : Nat, L[k]? = some (i, v) := List.getElem?_of_mem (lgt_mem L i v h)
theorem j_iinc {i : Nat} {z : Int} {x v : Int32} (hd : decode M.2.1 pc = .ok (.iinc i z, 3)) (hx0 : lgt L i = some (.int x)) (hv : x + Int32.ofInt z = v) (hn : i < M.2.2.1) (k : J E M d cl sl (pc + 3) (lset L i (.int v)) st h n Q) : J E M d cl sl pc L st h n Q := by
  obtain ⟨q, hq⟩ := lgt_ix hx0
  exact J.store (v := .int v) rfl (fun _ _ _ _ _ _ _ _ _ _ _ _ _ _ _ hx hb hl kk => lv_iinc hx hb hd hl hq hv hn rfl kk) k
theorem j_iadd {x y : Int32} (hd : decode M.2.1 pc = .ok (.iadd, 1)) (k : J E M d cl sl (pc + 1) L (.int (x + y) :: st) h n Q) : J E M d cl sl pc L (.int y :: .int x :: st) h n Q := J.pure (fun _ _ _ _ _ _ _ _ _ _ _ _ _ _ _ hx hb hl kk => lv_iadd hx hb hd kk) k
theorem j_isub {x y : Int32} (hd : decode M.2.1 pc = .ok (.isub, 1)) (k : J E M d cl sl (pc + 1) L (.int (x - y) :: st) h n Q) : J E M d cl sl pc L (.int y :: .int x :: st) h n Q := J.pure (fun _ _ _ _ _ _ _ _ _ _ _ _ _ _ _ hx hb hl kk => lv_isub hx hb hd kk) k
theorem j_imul {x y : Int32} (hd : decode M.2.1 pc = .ok (.imul, 1)) (k : J E M d cl sl (pc + 1) L (.int (x * y) :: st) h n Q) : J E M d cl sl pc L (.int y :: .int x :: st) h n Q := J.pure (fun _ _ _ _ _ _ _ _ _ _ _ _ _ _ _ hx hb hl kk => lv_imul hx hb hd kk) k
theorem j_iand {x y : Int32} (hd : decode M.2.1 pc = .ok (.iand, 1)) (k : J E M d cl sl (pc + 1) L (.int (x &&& y) :: st) h n Q) : J E M d cl sl pc L (.int y :: .int x :: st) h n Q := J.pure (fun _ _ _ _ _ _ _ _ _ _ _ _ _ _ _ hx hb hl kk => lv_iand hx hb hd kk) k
theorem j_ior {x y : Int32} (hd : decode M.2.1 pc = .ok (.ior, 1)) (k : J E M d cl sl (pc + 1) L (.int (x ||| y) :: st) h n Q) : J E M d cl sl pc L (.int y :: .int x :: st) h n Q := J.pure (fun _ _ _ _ _ _ _ _ _ _ _ _ _ _ _ hx hb hl kk => lv_ior hx hb hd kk) k
theorem j_ixor {x y : Int32} (hd : decode M.2.1 pc = .ok (.ixor, 1)) (k : J E M d cl sl (pc + 1) L (.int (x ^^^ y) :: st) h n Q) : J E M d cl sl pc L (.int y :: .int x :: st) h n Q := J.pure (fun _ _ _ _ _ _ _ _ _ _ _ _ _ _ _ hx hb hl kk => lv_ixor hx hb hd kk) k
theorem j_ishl {x y : Int32} (hd : decode M.2.1 pc = .ok (.ishl, 1)) (k : J E M d cl sl (pc + 1) L (.int (x <<< (y &&& 31)) :: st) h n Q) : J E M d cl sl pc L (.int y :: .int x :: st) h n Q := J.pure (fun _ _ _ _ _ _ _ _ _ _ _ _ _ _ _ hx hb hl kk => lv_ishl hx hb hd kk) k
theorem j_ishr {x y : Int32} (hd : decode M.2.1 pc = .ok (.ishr, 1)) (k : J E M d cl sl (pc + 1) L (.int (x >>> (y &&& 31)) :: st) h n Q) : J E M d cl sl pc L (.int y :: .int x :: st) h n Q := J.pure (fun _ _ _ _ _ _ _ _ _ _ _ _ _ _ _ hx hb hl kk => lv_ishr hx hb hd kk) k
theorem j_iushr {x y v : Int32} (hd : decode M.2.1 pc = .ok (.iushr, 1)) (hv : (x.toUInt32 >>> (y.toUInt32 &&& Int32.toUInt32 31)).toInt32 = v) (k : J E M d cl sl (pc + 1) L (.int v :: st) h n Q) : J E M d cl sl pc L (.int y :: .int x :: st) h n Q := J.pure (fun _ _ _ _ _ _ _ _ _ _ _ _ _ _ _ hx hb hl kk => lv_iushr hx hb hd hv kk) k
theorem j_ineg {x : Int32} (hd : decode M.2.1 pc = .ok (.ineg, 1)) (k : J E M d cl sl (pc + 1) L (.int (-x) :: st) h n Q) : J E M d cl sl pc L (.int x :: st) h n Q := J.pure (fun _ _ _ _ _ _ _ _ _ _ _ _ _ _ _ hx hb hl kk => lv_ineg hx hb hd kk) k
theorem j_i2c {x v : Int32} (hd : decode M.2.1 pc = .ok (.i2c, 1)) (hv : (x.toUInt32 % 65536).toInt32 = v) (k : J E M d cl sl (pc + 1) L (.int v :: st) h n Q) : J E M d cl sl pc L (.int x :: st) h n Q := J.pure (fun _ _ _ _ _ _ _ _ _ _ _ _ _ _ _ hx hb hl kk => lv_i2c hx hb hd hv kk) k
theorem j_i2b {x v : Int32} (hd : decode M.2.1 pc = .ok (.i2b, 1)) (hv : x.toInt8.toInt32 = v) (k : J E M d cl sl (pc + 1) L (.int v :: st) h n Q) : J E M d cl sl pc L (.int x :: st) h n Q := J.pure (fun _ _ _ _ _ _ _ _ _ _ _ _ _ _ _ hx hb hl kk => lv_i2b hx hb hd hv kk) k
theorem j_dup {va : Value} (hd : decode M.2.1 pc = .ok (.dup, 1)) (ha : va.category = 1) (k : J E M d cl sl (pc + 1) L (va :: va :: st) h n Q) : J E M d cl sl pc L (va :: st) h n Q := J.pure (fun _ _ _ _ _ _ _ _ _ _ _ _ _ _ _ hx hb hl kk => lv_dup hx hb hd ha kk) k
theorem j_pop {va : Value} (hd : decode M.2.1 pc = .ok (.pop, 1)) (ha : va.category = 1) (k : J E M d cl sl (pc + 1) L st h n Q) : J E M d cl sl pc L (va :: st) h n Q := J.pure (fun _ _ _ _ _ _ _ _ _ _ _ _ _ _ _ hx hb hl kk => lv_pop hx hb hd ha kk) k
theorem j_dup_x1 {va vb : Value} (hd : decode M.2.1 pc = .ok (.dup_x1, 1)) (ha : va.category = 1) (hb' : vb.category = 1) (k : J E M d cl sl (pc + 1) L (va :: vb :: va :: st) h n Q) : J E M d cl sl pc L (va :: vb :: st) h n Q := J.pure (fun _ _ _ _ _ _ _ _ _ _ _ _ _ _ _ hx hb hl kk => lv_dup_x1 hx hb hd ha hb' kk) k
theorem j_dup_x2 {va vb vd : Value} (hd : decode M.2.1 pc = .ok (.dup_x2, 1)) (ha : va.category = 1) (hb' : vb.category = 1) (hc' : vd.category = 1) (k : J E M d cl sl (pc + 1) L (va :: vb :: vd :: va :: st) h n Q) : J E M d cl sl pc L (va :: vb :: vd :: st) h n Q := J.pure (fun _ _ _ _ _ _ _ _ _ _ _ _ _ _ _ hx hb hl kk => lv_dup_x2 hx hb hd ha hb' hc' kk) k
theorem j_dup2 {va vb : Value} (hd : decode M.2.1 pc = .ok (.dup2, 1)) (ha : va.category = 1) (hb' : vb.category = 1) (k : J E M d cl sl (pc + 1) L (va :: vb :: va :: vb :: st) h n Q) : J E M d cl sl pc L (va :: vb :: st) h n Q := J.pure (fun _ _ _ _ _ _ _ _ _ _ _ _ _ _ _ hx hb hl kk => lv_dup2_11 hx hb hd ha hb' kk) k
theorem j_if_eq {x : Int32} {off : Int} {tgt : Nat} (hd : decode M.2.1 pc = .ok (.ifCond .eq off, 3)) (ht : (pc : Int) + off = (tgt : Int)) (kt : (x = 0) → J E M d cl sl tgt L st h n Q) (kf : ¬ (x = 0) → J E M d cl sl (pc + 3) L st h n Q) : J E M d cl sl pc L (.int x :: st) h n Q :=
  fun p e R s m args below meth c H locs cells slots ls X Y => lv_if_eq X.1 X.2.1 hd ht (fun q => kt q p e R s m args below meth c H locs cells slots ls X Y) (fun q => kf q p e R s m args below meth c H locs cells slots ls X Y)
theorem j_icmp_eq {x y : Int32} {off : Int} {tgt : Nat} (hd : decode M.2.1 pc = .ok (.if_icmp .eq off, 3)) (ht : (pc : Int) + off = (tgt : Int)) (kt : (x = y) → J E M d cl sl tgt L st h n Q) (kf : ¬ (x = y) → J E M d cl sl (pc + 3) L st h n Q) : J E M d cl sl pc L (.int y :: .int x :: st) h n Q :=
  fun p e R s m args below meth c H locs cells slots ls X Y => lv_icmp_eq X.1 X.2.1 hd ht (fun q => kt q p e R s m args below meth c H locs cells slots ls X Y) (fun q => kf q p e R s m args below meth c H locs cells slots ls X Y)
theorem j_if_ne {x : Int32} {off : Int} {tgt : Nat} (hd : decode M.2.1 pc = .ok (.ifCond .ne off, 3)) (ht : (pc : Int) + off = (tgt : Int)) (kt : (¬ x = 0) → J E M d cl sl tgt L st h n Q) (kf : (x = 0) → J E M d cl sl (pc + 3) L st h n Q) : J E M d cl sl pc L (.int x :: st) h n Q :=
  fun p e R s m args below meth c H locs cells slots ls X Y => lv_if_ne X.1 X.2.1 hd ht (fun q => kt q p e R s m args below meth c H locs cells slots ls X Y) (fun q => kf q p e R s m args below meth c H locs cells slots ls X Y)
theorem j_icmp_ne {x y : Int32} {off : Int} {tgt : Nat} (hd : decode M.2.1 pc = .ok (.if_icmp .ne off, 3)) (ht : (pc : Int) + off = (tgt : Int)) (kt : (¬ x = y) → J E M d cl sl tgt L st h n Q) (kf : (x = y) → J E M d cl sl (pc + 3) L st h n Q) : J E M d cl sl pc L (.int y :: .int x :: st) h n Q :=
  fun p e R s m args below meth c H locs cells slots ls X Y => lv_icmp_ne X.1 X.2.1 hd ht (fun q => kt q p e R s m args below meth c H locs cells slots ls X Y) (fun q => kf q p e R s m args below meth c H locs cells slots ls X Y)
theorem j_if_lt {x : Int32} {off : Int} {tgt : Nat} (hd : decode M.2.1 pc = .ok (.ifCond .lt off, 3)) (ht : (pc : Int) + off = (tgt : Int)) (kt : (x < 0) → J E M d cl sl tgt L st h n Q) (kf : ¬ (x < 0) → J E M d cl sl (pc + 3) L st h n Q) : J E M d cl sl pc L (.int x :: st) h n Q :=
  fun p e R s m args below meth c H locs cells slots ls X Y => lv_if_lt X.1 X.2.1 hd ht (fun q => kt q p e R s m args below meth c H locs cells slots ls X Y) (fun q => kf q p e R s m args below meth c H locs cells slots ls X Y)
theorem j_icmp_lt {x y : Int32} {off : Int} {tgt : Nat} (hd : decode M.2.1 pc = .ok (.if_icmp .lt off, 3)) (ht : (pc : Int) + off = (tgt : Int)) (kt : (x < y) → J E M d cl sl tgt L st h n Q) (kf : ¬ (x < y) → J E M d cl sl (pc + 3) L st h n Q) : J E M d cl sl pc L (.int y :: .int x :: st) h n Q :=
  fun p e R s m args below meth c H locs cells slots ls X Y => lv_icmp_lt X.1 X.2.1 hd ht (fun q => kt q p e R s m args below meth c H locs cells slots ls X Y) (fun q => kf q p e R s m args below meth c H locs cells slots ls X Y)
theorem j_if_ge {x : Int32} {off : Int} {tgt : Nat} (hd : decode M.2.1 pc = .ok (.ifCond .ge off, 3)) (ht : (pc : Int) + off = (tgt : Int)) (kt : (0 ≤ x) → J E M d cl sl tgt L st h n Q) (kf : ¬ (0 ≤ x) → J E M d cl sl (pc + 3) L st h n Q) : J E M d cl sl pc L (.int x :: st) h n Q :=
  fun p e R s m args below meth c H locs cells slots ls X Y => lv_if_ge X.1 X.2.1 hd ht (fun q => kt q p e R s m args below meth c H locs cells slots ls X Y) (fun q => kf q p e R s m args below meth c H locs cells slots ls X Y)
theorem j_icmp_ge {x y : Int32} {off : Int} {tgt : Nat} (hd : decode M.2.1 pc = .ok (.if_icmp .ge off, 3)) (ht : (pc : Int) + off = (tgt : Int)) (kt : (y ≤ x) → J E M d cl sl tgt L st h n Q) (kf : ¬ (y ≤ x) → J E M d cl sl (pc + 3) L st h n Q) : J E M d cl sl pc L (.int y :: .int x :: st) h n Q :=
  fun p e R s m args below meth c H locs cells slots ls X Y => lv_icmp_ge X.1 X.2.1 hd ht (fun q => kt q p e R s m args below meth c H locs cells slots ls X Y) (fun q => kf q p e R s m args below meth c H locs cells slots ls X Y)
theorem j_if_gt {x : Int32} {off : Int} {tgt : Nat} (hd : decode M.2.1 pc = .ok (.ifCond .gt off, 3)) (ht : (pc : Int) + off = (tgt : Int)) (kt : (0 < x) → J E M d cl sl tgt L st h n Q) (kf : ¬ (0 < x) → J E M d cl sl (pc + 3) L st h n Q) : J E M d cl sl pc L (.int x :: st) h n Q :=
  fun p e R s m args below meth c H locs cells slots ls X Y => lv_if_gt X.1 X.2.1 hd ht (fun q => kt q p e R s m args below meth c H locs cells slots ls X Y) (fun q => kf q p e R s m args below meth c H locs cells slots ls X Y)
theorem j_icmp_gt {x y : Int32} {off : Int} {tgt : Nat} (hd : decode M.2.1 pc = .ok (.if_icmp .gt off, 3)) (ht : (pc : Int) + off = (tgt : Int)) (kt : (y < x) → J E M d cl sl tgt L st h n Q) (kf : ¬ (y < x) → J E M d cl sl (pc + 3) L st h n Q) : J E M d cl sl pc L (.int y :: .int x :: st) h n Q :=
  fun p e R s m args below meth c H locs cells slots ls X Y => lv_icmp_gt X.1 X.2.1 hd ht (fun q => kt q p e R s m args below meth c H locs cells slots ls X Y) (fun q => kf q p e R s m args below meth c H locs cells slots ls X Y)
theorem j_if_le {x : Int32} {off : Int} {tgt : Nat} (hd : decode M.2.1 pc = .ok (.ifCond .le off, 3)) (ht : (pc : Int) + off = (tgt : Int)) (kt : (x ≤ 0) → J E M d cl sl tgt L st h n Q) (kf : ¬ (x ≤ 0) → J E M d cl sl (pc + 3) L st h n Q) : J E M d cl sl pc L (.int x :: st) h n Q :=
  fun p e R s m args below meth c H locs cells slots ls X Y => lv_if_le X.1 X.2.1 hd ht (fun q => kt q p e R s m args below meth c H locs cells slots ls X Y) (fun q => kf q p e R s m args below meth c H locs cells slots ls X Y)
theorem j_icmp_le {x y : Int32} {off : Int} {tgt : Nat} (hd : decode M.2.1 pc = .ok (.if_icmp .le off, 3)) (ht : (pc : Int) + off = (tgt : Int)) (kt : (x ≤ y) → J E M d cl sl tgt L st h n Q) (kf : ¬ (x ≤ y) → J E M d cl sl (pc + 3) L st h n Q) : J E M d cl sl pc L (.int y :: .int x :: st) h n Q :=
  fun p e R s m args below meth c H locs cells slots ls X Y => lv_icmp_le X.1 X.2.1 hd ht (fun q => kt q p e R s m args below meth c H locs cells slots ls X Y) (fun q => kf q p e R s m args below meth c H locs cells slots ls X Y)
theorem j_goto {off : Int} {tgt : Nat} (hd : decode M.2.1 pc = .ok (.goto off, 3)) (ht : (pc : Int) + off = (tgt : Int)) (k : J E M d cl sl tgt L st h n Q) : J E M d cl sl pc L st h n Q := J.pure (fun _ _ _ _ _ _ _ _ _ _ _ _ _ _ _ hx hb hl kk => lv_goto hx hb hd ht kk) k
theorem j_ifnonnull {x : Nat} {off : Int} {tgt : Nat} (hd : decode M.2.1 pc = .ok (.ifnonnull off, 3)) (ht : (pc : Int) + off = (tgt : Int)) (k : J E M d cl sl tgt L st h n Q) : J E M d cl sl pc L (.ref x :: st) h n Q := J.pure (fun _ _ _ _ _ _ _ _ _ _ _ _ _ _ _ hx hb hl kk => lv_ifnonnull hx hb hd ht kk) k
theorem j_ifnull {x : Nat} {off : Int} (hd : decode M.2.1 pc = .ok (.ifnull off, 3)) (k : J E M d cl sl (pc + 3) L st h n Q) : J E M d cl sl pc L (.ref x :: st) h n Q := J.pure (fun _ _ _ _ _ _ _ _ _ _ _ _ _ _ _ hx hb hl kk => lv_ifnull hx hb hd kk) k
theorem j_ifnullN {off : Int} {tgt : Nat} (hd : decode M.2.1 pc = .ok (.ifnull off, 3)) (ht : (pc : Int) + off = (tgt : Int)) (k : J E M d cl sl tgt L st h n Q) : J E M d cl sl pc L (.null :: st) h n Q := J.pure (fun _ _ _ _ _ _ _ _ _ _ _ _ _ _ _ hx hb hl kk => lv_ifnullN hx hb hd ht kk) k
theorem j_ifnonnullN {off : Int} (hd : decode M.2.1 pc = .ok (.ifnonnull off, 3)) (k : J E M d cl sl (pc + 3) L st h n Q) : J E M d cl sl pc L (.null :: st) h n Q := J.pure (fun _ _ _ _ _ _ _ _ _ _ _ _ _ _ _ hx hb hl kk => lv_ifnonnullN hx hb hd kk) k
theorem j_lookup {dflt : Int} {ps : Array (Int × Int)} {len : Nat} {x : Int32} {off : Int} {tgt : Nat} (hd : decode M.2.1 pc = .ok (.lookupswitch dflt ps, len)) (hp : (ps.toList.zip (ps.toList.drop 1)).all (fun (a, next) => a.1 < next.1) = true) (ho : Op.lookupswitch.offset ps.toList dflt x.toInt = off) (ht : (pc : Int) + off = (tgt : Int)) (k : J E M d cl sl tgt L st h n Q) : J E M d cl sl pc L (.int x :: st) h n Q := J.pure (fun _ _ _ _ _ _ _ _ _ _ _ _ _ _ _ hx hb hl kk => lv_lookup hx hb hd hp ho ht kk) k
theorem j_tableOut {dflt lo hi : Int} {offs : Array Int} {len : Nat} {x : Int32} {tgt : Nat} (hd : decode M.2.1 pc = .ok (.tableswitch dflt lo hi offs, len)) (hr : x.toInt < lo ∨ hi < x.toInt) (ht : (pc : Int) + dflt = (tgt : Int)) (k : J E M d cl sl tgt L st h n Q) : J E M d cl sl pc L (.int x :: st) h n Q := J.pure (fun _ _ _ _ _ _ _ _ _ _ _ _ _ _ _ hx hb hl kk => lv_tableOut hx hb hd hr ht kk) k
theorem j_tableIn {dflt lo hi : Int} {offs : Array Int} {len : Nat} {x : Int32} {off : Int} {tgt : Nat} (hd : decode M.2.1 pc = .ok (.tableswitch dflt lo hi offs, len)) (h1 : ¬ x.toInt < lo) (h2 : ¬ hi < x.toInt) (ho : offs[(x.toInt - lo).toNat]? = some off) (ht : (pc : Int) + off = (tgt : Int)) (k : J E M d cl sl tgt L st h n Q) : J E M d cl sl pc L (.int x :: st) h n Q := J.pure (fun _ _ _ _ _ _ _ _ _ _ _ _ _ _ _ hx hb hl kk => lv_tableIn hx hb hd h1 h2 ho ht kk) k
theorem j_ldc {own : String} {idx : Nat} {v : Int32} (hd : decode M.2.1 pc = .ok (.ldc idx, 2)) (hw : Cond.constant M.1.cls idx v ∈ GW) (k : J E M d cl sl (pc + 2) L (.int v :: st) h n Q) : J E M d cl sl pc L st h n Q :=
  fun p e R s m args below meth c H locs cells slots ls X Y => lv_ldc X.1 X.2.1 X.2.2.2.2.1 (X.2.2.2.2.2.1 _ hw) hd (k p e R s m args below meth c H locs cells slots ls X Y)
/-! the heap -/
theorem va_P.one {D : va_G} {cl : List vw_C} {a : Nat} {e : va_E} {H : Heap} (h : va_at D cl (a, e) H) : va_P D cl [(a, e)] H := by
  intro k q hk
  match k, hk with
  | 0, hk => cases hk; exact h
  | k + 1, hk => simp at hk
def FW (own : String) (idx ci k : Nat) (C : String) (T : u_T) (N : Nat) : Prop := classes[ci]? = some (C, T, N) ∧ (∀ w ∈ u_ws C T N, w ∈ GW) ∧ k < N ∧ (T k).1 = C ∧ Cond.fieldLink own idx C (T k).2.1 (T k).2.2.1 ∈ GW
theorem j_get {idx ci k a : Nat} {C : String} {T : u_T} {N : Nat} {fs : List Value} {v : Value} (hd : decode M.2.1 pc = .ok (.getfield idx, 3)) (g : FW M.1.cls idx ci k C T N) (ha : h a = some (.inr (ci, fs))) (hv : fs[k]? = some v) (kk : J E M d cl sl (pc + 3) L (v :: st) h n Q) : J E M d cl sl pc L (.ref a :: st) h n Q := by
  intro p e R s m args below meth c H locs cells slots ls X Y
  obtain ⟨hc, hin, hk, hT, hl⟩ := g
  exact va_get X.1 X.2.1 X.2.2.2.2.2.1 hin X.2.2.2.2.1 X.2.2.2.2.2.2.2.2.1.1 (va_P.one (Y.2.1 a _ ha)) 0 rfl hc k hk (X.2.2.2.2.2.1 _ hl) (fun x hx => by rw [hT] at hx; exact hx) hv hd (kk p e R s m args below meth c H locs cells slots ls X Y)
def FP (C : String) (T : u_T) (N : Nat) (ty0 : Nat → FieldType) : Prop := (∀ k, k < N → parseFieldDescriptor (T k).2.2.1 = some (ty0 k)) ∧ ∀ a, a < N → ∀ b, b < N → a ≠ b → (T a).2.1 ≠ (T b).2.1
theorem j_put {idx ci k a : Nat} {C : String} {T : u_T} {N : Nat} {ty0 : Nat → FieldType} {fs : List Value} {v : Value} (hd : decode M.2.1 pc = .ok (.putfield idx, 3)) (g : FW M.1.cls idx ci k C T N) (f : FP C T N ty0) (hfin : (T k).2.2.2 = false ∨ ((T k).2.2.2 = true ∧ M.1.name = "<init>" ∧ C = M.1.cls)) (ha : h a = some (.inr (ci, fs))) (hb : E.2.2.2.1 ≤ a) (hn : narrow (ty0 k) v = v) (hf : fits (ty0 k) v = true) (hlen : k < fs.length) (kk : J E M d cl sl (pc + 3) L st (hset h a (.inr (ci, fs.set k v))) n Q) : J E M d cl sl pc L (v :: .ref a :: st) h n Q := by
  intro p e R s m args below meth c H locs cells slots ls X Y
  obtain ⟨hc, hin, hk, hT, hl⟩ := g
  have hts := X.2.2.2.2.2.1
  have hown := X.2.2.2.2.1
  have hK := X.2.2.2.2.2.2.2.2.1.1
  have hap := va_apart (own := M.1.cls) hts hin ty0 f.1 f.2 hK hc
  obtain ⟨r, h1, cell, q1, q2, q3, q4⟩ := Y.2.1 a _ ha
  have hr : r = (C, T, N) := Option.some.inj (h1.symm.trans hc)
  subst hr
  obtain ⟨hS, hfc, kC, hkC, hkind⟩ := hK.1 ci _ hc
  obtain ⟨cf, kf, fi, fl, hi, hsl⟩ := hS k hk
  have hsame : s.fieldFound? C (T k).2.1 (T k).2.2.1 = some (cf, kf, fi, fl) := by rw [← hi, hT]
  have hlay := hts _ (hin _ (u_in_lay hk))
  have hst := (u_facts hfc hkC (u_lays hts hin hk) hi).1
  have fin : ∀ (H' : Heap) (z : Nat), H'[a]? = some (cell.setSlot (E.2.1.2 ci k) v) → H'.size = H.size → (∀ q, q ≠ a → H'[q]? = H[q]?) → W p E.1 e R s m args below meth c H' (locs ++ [⟨a, z⟩]) cells slots (MQ below (Qx E Q) args s R.cells R.slots (Ab E)) (F0 m (pc + 3) ls st) := fun H' z e1 e2 e3 =>
    kk p e R s m args below meth c H' _ cells slots ls X ⟨Y.1, Y.2.1.set ⟨_, hc, t_OB.to (V := updV (vp_V fs) k v) ⟨_, e1, q2, q3, t_set q4 hap hk v⟩ (fun j _ => vp_updV_set hlen v j)⟩ e3, by rw [e2]; exact Y.2.2.1, Y.2.2.2.1.put e2 e3 hb, Y.2.2.2.2⟩
  rcases hfin with hfin | ⟨hfin, hni, hdecl⟩
  · unfold u_lay at hlay
    rw [if_neg (by rw [hfin]; decide)] at hlay
    have h6 := u_store hfc hkC hkind hlay hi (f.1 k hk) hn hf
    refine W.putK X.1 X.2.1 (f := fl) ⟨hown, hts _ hl, ⟨_, _, _, hsame⟩, hst⟩ (by rw [q2]; exact h6) q1 q3 (by rw [hsl]; exact k2_hasslot (q4 k hk)) rfl rfl hd fun H' e1 e2 e3 => ?_
    rw [hsl] at e1 ⊢
    exact fin H' _ e1 e2 e3
  · unfold u_lay at hlay
    rw [if_pos hfin] at hlay
    have hcf : m.cls = cf := by
      obtain ⟨_, _, c', _, _, _, -, -, hf', -, -, -, hown2, -⟩ := Cond.laysFinal_spec hlay
      have e1 : c' = cf := by have := hi.symm.trans hf'; simp at this; exact this.1.symm
      rw [hT, hdecl] at hown2
      rw [← e1]; exact Option.some.inj (hown.symm.trans hown2)
    have h6 := u_fits hfc hkC hkind (Or.inr hlay) hi (f.1 k hk) hn hf
    refine W.putFinK X.1 X.2.1 hown (hts _ hl) hsame hst hcf (X.2.2.2.2.2.2.2.1.trans hni) (by rw [q2]; exact h6) q1 q3 (by rw [hsl]; exact k2_hasslot (q4 k hk)) rfl rfl hd fun H' e1 e2 e3 => ?_
    rw [hsl] at e1 ⊢
    exact fin H' _ e1 e2 e3
theorem tysE_at (E : EV) {i : Nat} {ty : FieldType} (h : atys[i]? = some ty) : (tysE E)[i]? = some (E.2.2.1 i, ty) := by
  have hl := (List.getElem?_eq_some_iff.mp h).1
  unfold tysE
  rw [List.getElem?_map, List.getElem?_range hl]
  simp [h]
/-- an array of small numbers of the kind t, of length N -/
abbrev arI (E : EV) (t N : Nat) (f : Nat → Int32) : va_E := .inl (E.2.2.1 t, N, .inl f)
abbrev arQ (E : EV) (t N : Nat) (f : Nat → Option Nat) : va_E := .inl (E.2.2.1 t, N, .inr (.inr (.inr (.inr f))))
theorem j_iald {t a N : Nat} {f : Nat → Int32} {i x : Int32} (hd : decode M.2.1 pc = .ok (.iaload, 1)) (ht : atys[t]? = some .int) (ha : h a = some (arI E t N f)) (hi : vp_in i N) (hx : f i.toNatClampNeg = x) (kk : J E M d cl sl (pc + 1) L (.int x :: st) h n Q) : J E M d cl sl pc L (.int i :: .ref a :: st) h n Q := by
  subst hx
  exact fun p e R s m args below meth c H locs cells slots ls X Y => va_iald X.1 X.2.1 X.2.2.2.2.2.2.2.2.1.1 (va_P.one (Y.2.1 a _ ha)) 0 t rfl (tysE_at E ht) hi hd (kk p e R s m args below meth c H locs cells slots ls X Y)
theorem j_zald {t a N : Nat} {f : Nat → Int32} {i x : Int32} (hd : decode M.2.1 pc = .ok (.baload, 1)) (ht : atys[t]? = some .boolean) (ha : h a = some (arI E t N f)) (hi : vp_in i N) (hx : f i.toNatClampNeg = x) (kk : J E M d cl sl (pc + 1) L (.int x :: st) h n Q) : J E M d cl sl pc L (.int i :: .ref a :: st) h n Q := by
  subst hx
  exact fun p e R s m args below meth c H locs cells slots ls X Y => va_zald X.1 X.2.1 X.2.2.2.2.2.2.2.2.1.1 (va_P.one (Y.2.1 a _ ha)) 0 t rfl (tysE_at E ht) hi hd (kk p e R s m args below meth c H locs cells slots ls X Y)
theorem j_bald {t a N : Nat} {f : Nat → Int32} {i x : Int32} (hd : decode M.2.1 pc = .ok (.baload, 1)) (ht : atys[t]? = some .byte) (ha : h a = some (arI E t N f)) (hi : vp_in i N) (hx : f i.toNatClampNeg = x) (kk : J E M d cl sl (pc + 1) L (.int x :: st) h n Q) : J E M d cl sl pc L (.int i :: .ref a :: st) h n Q := by
  subst hx
  exact fun p e R s m args below meth c H locs cells slots ls X Y => va_bald X.1 X.2.1 X.2.2.2.2.2.2.2.2.1.1 (va_P.one (Y.2.1 a _ ha)) 0 t rfl (tysE_at E ht) hi hd (kk p e R s m args below meth c H locs cells slots ls X Y)
theorem j_alen {t a : Nat} {x : vp_A} {ty : FieldType} {v : Int32} (hd : decode M.2.1 pc = .ok (.arraylength, 1)) (ht : atys[t]? = some ty) (ha : h a = some (.inl (E.2.2.1 t, x))) (hv : Int32.ofNat x.1 = v) (kk : J E M d cl sl (pc + 1) L (.int v :: st) h n Q) : J E M d cl sl pc L (.ref a :: st) h n Q :=
  fun p e R s m args below meth c H locs cells slots ls X Y => va_alen X.1 X.2.1 X.2.2.2.2.2.2.2.2.1.1 (va_P.one (Y.2.1 a _ ha)) 0 t rfl (tysE_at E ht) hv hd (kk p e R s m args below meth c H locs cells slots ls X Y)
theorem j_aald {t a N : Nat} {C : String} {f : Nat → Option Nat} {i : Int32} {v : Value} (hd : decode M.2.1 pc = .ok (.aaload, 1)) (ht : atys[t]? = some (.object C)) (ha : h a = some (arQ E t N f)) (hi : vp_in i N) (hv : va_rf (f i.toNatClampNeg) = v) (kk : J E M d cl sl (pc + 1) L (v :: st) h n Q) : J E M d cl sl pc L (.int i :: .ref a :: st) h n Q := by
  subst hv
  exact fun p e R s m args below meth c H locs cells slots ls X Y => va_aldq X.1 X.2.1 X.2.2.2.2.2.2.2.2.1.1 (va_P.one (Y.2.1 a _ ha)) 0 t rfl (tysE_at E ht) hi hd (kk p e R s m args below meth c H locs cells slots ls X Y)
theorem j_iast {t a N : Nat} {f : Nat → Int32} {i x : Int32} (hd : decode M.2.1 pc = .ok (.iastore, 1)) (ht : atys[t]? = some .int) (ha : h a = some (arI E t N f)) (hb : E.2.2.2.1 ≤ a) (hi : vp_in i N) (kk : J E M d cl sl (pc + 1) L st (hset h a (arI E t N (upd f i.toNatClampNeg x))) n Q) : J E M d cl sl pc L (.int x :: .int i :: .ref a :: st) h n Q := by
  intro p e R s m args below meth c H locs cells slots ls X Y
  refine W.iast X.1 X.2.1 (Y.2.1 a _ ha) ((X.2.2.2.2.2.2.2.2.1.1.2 t _ (tysE_at E ht)).1 N (fun j => .int (f j))) (fun q => by cases q) (by show ¬ (i < 0 ∨ (arrV _ _ _).slots.size ≤ _); rw [arrV_size]; exact hi) rfl rfl hd fun H1 e1 z oq => ?_
  refine kk p e R s m args below meth c H1 _ cells slots ls X ⟨Y.1, Y.2.1.set ?_ oq, by rw [z]; exact Y.2.2.1, Y.2.2.2.1.put z oq hb, Y.2.2.2.2⟩
  show H1[a]? = some (vp_cell _ _)
  rw [e1]
  rw [vp_cell_i, vp_cell_i, arrV_store]
  congr 2
  funext q
  by_cases hq : q = i.toNatClampNeg
  · subst hq
    simp [updV, upd, vp_nar]
    try rfl
  · simp [updV, upd, hq]
theorem j_zast {t a N : Nat} {f : Nat → Int32} {i x : Int32} (hd : decode M.2.1 pc = .ok (.bastore, 1)) (ht : atys[t]? = some .boolean) (ha : h a = some (arI E t N f)) (hb : E.2.2.2.1 ≤ a) (hi : vp_in i N) (kk : J E M d cl sl (pc + 1) L st (hset h a (arI E t N (upd f i.toNatClampNeg (vp_nar .boolean x)))) n Q) : J E M d cl sl pc L (.int x :: .int i :: .ref a :: st) h n Q := by
  intro p e R s m args below meth c H locs cells slots ls X Y
  refine W.zast X.1 X.2.1 (Y.2.1 a _ ha) ((X.2.2.2.2.2.2.2.2.1.1.2 t _ (tysE_at E ht)).1 N (fun j => .int (f j))) (fun q => by cases q) (by show ¬ (i < 0 ∨ (arrV _ _ _).slots.size ≤ _); rw [arrV_size]; exact hi) rfl rfl hd fun H1 e1 z oq => ?_
  refine kk p e R s m args below meth c H1 _ cells slots ls X ⟨Y.1, Y.2.1.set ?_ oq, by rw [z]; exact Y.2.2.1, Y.2.2.2.1.put z oq hb, Y.2.2.2.2⟩
  show H1[a]? = some (vp_cell _ _)
  rw [e1]
  rw [vp_cell_i, vp_cell_i, arrV_store]
  congr 2
  funext q
  by_cases hq : q = i.toNatClampNeg
  · subst hq
    simp [updV, upd, vp_nar]
    try rfl
  · simp [updV, upd, hq]
end JR
end
section
section JC
variable {E : EV} {M : MI} {d cl sl pc : Nat} {L : List (Nat × Value)} {st : List Value} {h : HP} {n : Nat} {Q : Option Value → HP → Nat → Prop}
/-! references into an array, statics, makings -/
theorem j_aast {t a N ci v : Nat} {C : String} {r : vw_C} {f : Nat → Option Nat} {vs : List Value} {i : Int32} (hd : decode M.2.1 pc = .ok (.aastore, 1)) (ht : atys[t]? = some (.object C)) (ha : h a = some (arQ E t N f)) (hb : E.2.2.2.1 ≤ a) (hv : h v = some (.inr (ci, vs))) (hc : classes[ci]? = some r) (hca : (r.1, C) ∈ castW) (hi : vp_in i N) (kk : J E M d cl sl (pc + 1) L st (hset h a (arQ E t N (va_up f i.toNatClampNeg (some v)))) n Q) : J E M d cl sl pc L (.ref v :: .int i :: .ref a :: st) h n Q := by
  intro p e R s m args below meth c H locs cells slots ls X Y
  have hK := X.2.2.2.2.2.2.2.2.1.1
  have hlt : i.toNatClampNeg < N := Nat.not_le.mp fun q => hi (Or.inr q)
  have h0 : ¬ i < 0 := fun q => hi (Or.inl q)
  obtain ⟨r', hr', cellV, g1, g2, g3, -⟩ := Y.2.1 v _ hv
  have hcls := (hK.1 ci r hc).2
  obtain ⟨kA, comp, k1, k2, k3, -⟩ := (hK.2 t _ (tysE_at E ht)).2
  obtain ⟨kE, hkE, -⟩ := Vm.findClass_spec k3
  obtain ⟨c0, t1, f1, f2, f3⟩ := Cond.castable_spec (va_Nw.use (A := args) rfl (X.2.2.2.2.2.2.2.2.1.2.2.2.1 _ hca))
  cases hcls.1.symm.trans f1
  cases k3.symm.trans f2
  obtain ⟨kC, hkC, -⟩ := hcls.2
  refine W.aast X.1 X.2.1 (Y.2.1 a _ ha) (fun q h => by cases h) (fun h => by cases h) k1 k2 rfl hkE ⟨h0, by show _ < (arrV _ _ _).slots.size; rw [arrV_size]; exact hlt⟩ g1 (fun q h => by rw [g3] at h; cases h) (by rw [g2]; exact hkC) (by rw [g2]; exact f3) rfl rfl hd fun H1 e1 z oq => ?_
  refine kk p e R s m args below meth c H1 _ cells slots ls X ⟨Y.1, Y.2.1.set ?_ oq, by rw [z]; exact Y.2.2.1, Y.2.2.2.1.put z oq hb, Y.2.2.2.2⟩
  show H1[a]? = some (vp_cell _ _)
  rw [e1]
  rw [vp_cell_q, vp_cell_q, arrV_store]
  congr 2
  funext q
  by_cases hq : q = i.toNatClampNeg
  · subst hq
    simp [updV, va_up, va_rf]
  · simp [updV, va_up, hq]
theorem j_gets {idx : Nat} {C nm ds : String} {v : Value} (hd : decode M.2.1 pc = .ok (.getstatic idx, 3)) (hz : (C, nm, ds, v) ∈ stats E.2.2.2.2) (hl : Cond.fieldLink M.1.cls idx C nm ds ∈ GW) (kk : J E M d cl sl (pc + 3) L (v :: st) h n Q) : J E M d cl sl pc L st h n Q :=
  fun p e R s m args below meth c H locs cells slots ls X Y => va_gets X.1 X.2.1 (X.2.2.2.2.2.2.2.2.2.1 _ hz) Y.2.2.2.1 X.2.2.2.2.1 (X.2.2.2.2.2.1 _ hl) (fun _ hx => hx) hd (kk p e R s m args below meth c H locs cells slots ls X Y)
theorem j_getsN {idx : Nat} {C nm ds host : String} {v : Value} (hd : decode M.2.1 pc = .ok (.getstatic idx, 3)) (hz : (C, nm, ds, v) ∈ stats E.2.2.2.2) (hl : (M.1.cls, idx, C, nm, ds, host) ∈ nestF) (kk : J E M d cl sl (pc + 3) L (v :: st) h n Q) : J E M d cl sl pc L st h n Q :=
  fun p e R s m args below meth c H locs cells slots ls X Y => va_getsN X.1 X.2.1 (X.2.2.2.2.2.2.2.2.2.1 _ hz) Y.2.2.2.1 X.2.2.2.2.1 (va_Nw.use rfl (X.2.2.2.2.2.2.2.2.1.2.1 _ hl)) (fun _ hx => hx) hd (kk p e R s m args below meth c H locs cells slots ls X Y)
def NWc (own : String) (idx ci : Nat) (C : String) (T : u_T) (N : Nat) (ty : Nat → FieldType) : Prop := classes[ci]? = some (C, T, N) ∧ (∀ w ∈ u_ws C T N, w ∈ GW) ∧ (∀ k, k < N → parseFieldDescriptor (T k).2.2.1 = some (ty k)) ∧ Cond.classLink own idx C ∈ GW ∧ Cond.instantiable C N ∈ GW ∧ Cond.initialized C ∈ GW
theorem j_new {idx ci : Nat} {C : String} {T : u_T} {N : Nat} {ty : Nat → FieldType} {fs : List Value} (hd : decode M.2.1 pc = .ok (.new idx, 3)) (g : NWc M.1.cls idx ci C T N ty) (hfs : ∀ j, j < N → defaultValue (ty j) = vp_V fs j) (hcl : 1 ≤ cl) (hsl : N ≤ sl) (kk : J E M d (cl - 1) (sl - N) (pc + 3) L (.ref n :: st) (hset h n (.inr (ci, fs))) (n + 1) Q) : J E M d cl sl pc L st h n Q := by
  intro p e R s m args below meth c H locs cells slots ls X Y
  obtain ⟨hc, hin, hty, hl1, hl2, hl3⟩ := g
  have hts := X.2.2.2.2.2.1
  have hKn := X.2.2.2.2.2.2.2.2.1.1.1 ci _ hc
  obtain ⟨⟨y1, y2, y3, y4⟩, yR, ysz, yS, yl⟩ := Y
  subst ysz
  refine W.newcK X.1 X.2.1 X.2.2.2.2.1 (hts _ hl1) (hts _ hl2) (hts _ hl3) rfl hd (by omega) (by omega) hKn.2.1 rfl fun H1 kC hkC e1 z1 o1 => ?_
  refine kk p e R s m args below meth c H1 _ _ _ ls X ⟨⟨y1, y2, by omega, by omega⟩, yR.push ⟨_, hc, (u_born ty hts hin hKn hkC e1 hty).to hfs⟩ o1, z1, ⟨Nat.le_trans yS.1 (by omega), fun q h1 h2 => (o1 q (Nat.lt_of_lt_of_le h1 yS.1)).trans (yS.2.1 q h1 h2), yS.2.2⟩, yl⟩
theorem j_newa {atype : ArrayType} {t : Nat} {x : Int32} {N : Nat} (hd : decode M.2.1 pc = .ok (.newarray atype, 2)) (ht : atys[t]? = some (newarray.typeOf atype)) (hw : Cond.arrayClass (newarray.typeOf atype) ∈ GW) (hdv : defaultValue (newarray.typeOf atype) = .int 0) (hx : ¬ x < 0) (hN : x.toNatClampNeg = N) (hbytes : N * componentBytes (newarray.typeOf atype) ≤ 536870912) (hcl : 1 ≤ cl) (hsl : N ≤ sl) (kk : J E M d (cl - 1) (sl - N) (pc + 2) L (.ref n :: st) (hset h n (arI E t N (fun _ => 0))) (n + 1) Q) : J E M d cl sl pc L (.int x :: st) h n Q := by
  intro p e R s m args below meth c H locs cells slots ls X Y
  have hts := X.2.2.2.2.2.1
  have hK := X.2.2.2.2.2.2.2.2.1.1
  obtain ⟨⟨y1, y2, y3, y4⟩, yR, ysz, yS, yl⟩ := Y
  subst ysz
  refine va_newaK X.1 X.2.1 (hts _ hw) rfl hd rfl hx hN hbytes (by omega) (by omega) rfl fun H1 cA e1 z1 o1 hAr hNm => ?_
  have hcA : cA = E.2.2.1 t := by
    have h2 := (hK.2 t _ (tysE_at E ht)).2
    have h3 : s.vm.findClass ("[" ++ (newarray.typeOf atype).toString) = some (E.2.2.1 t) := by cases atype <;> exact h2
    exact Option.some.inj (hNm.symm.trans h3)
  subst hcA
  refine kk p e R s m args below meth c H1 _ _ _ ls X ⟨⟨y1, y2, by omega, by omega⟩, yR.push ?_ o1, z1, ⟨Nat.le_trans yS.1 (by omega), fun q h1 h2 => (o1 q (Nat.lt_of_lt_of_le h1 yS.1)).trans (yS.2.1 q h1 h2), yS.2.2⟩, yl⟩
  show H1[H.size]? = some (vp_cell _ _)
  rw [vp_cell_i, e1, hdv]
theorem j_anew {idx t : Nat} {C : String} {x : Int32} {N : Nat} (hd : decode M.2.1 pc = .ok (.anewarray idx, 3)) (ht : atys[t]? = some (.object C)) (hw : Cond.classLink M.1.cls idx C ∈ GW) (ho : C ∈ overW) (hx : ¬ x < 0) (hN : x.toNatClampNeg = N) (hbytes : N * 4 ≤ 536870912) (hcl : 1 ≤ cl) (hsl : N ≤ sl) (kk : J E M d (cl - 1) (sl - N) (pc + 3) L (.ref n :: st) (hset h n (arQ E t N (fun _ => none))) (n + 1) Q) : J E M d cl sl pc L (.int x :: st) h n Q := by
  intro p e R s m args below meth c H locs cells slots ls X Y
  have hts := X.2.2.2.2.2.1
  have hK := X.2.2.2.2.2.2.2.2.1.1
  obtain ⟨⟨y1, y2, y3, y4⟩, yR, ysz, yS, yl⟩ := Y
  subst ysz
  subst hN
  refine W.anew X.1 X.2.1 X.2.2.2.2.1 (hts _ hw) (va_AO.use (X.2.2.2.2.2.2.2.2.1.2.2.2.2 _ ho)) rfl hd rfl hx hbytes (by omega) (by omega) fun cA kA comp h1 h2 h3 h4 => ?_
  have hcA : cA = E.2.2.1 t := by
    obtain ⟨kA', comp', g1, g2, g3, g4⟩ := (hK.2 t _ (tysE_at E ht)).2
    exact Option.some.inj (h1.symm.trans g4)
  subst hcA
  have o1 : ∀ q : Nat, q < H.size → (H.push { cls := E.2.2.1 t, slots := Array.replicate x.toNatClampNeg .null, vm := .none })[q]? = H[q]? := fun q hq => by rw [Array.getElem?_push, if_neg (Nat.ne_of_lt hq)]
  refine kk p e R s m args below meth c _ _ _ _ ls X ⟨⟨y1, y2, by omega, by omega⟩, yR.push ?_ o1, by simp, ⟨Nat.le_trans yS.1 (by simp), fun q h1 h2 => (o1 q (Nat.lt_of_lt_of_le h1 yS.1)).trans (yS.2.1 q h1 h2), yS.2.2⟩, yl⟩
  show (H.push _)[H.size]? = some (vp_cell _ _)
  rw [vp_cell_q, ← arrV_new]
  simp [va_rf]
/-! ends -/
theorem j_iret {x : Int32} (hd : decode M.2.1 pc = .ok (.ireturn, 1)) (hr : M.2.2.2 = some .int) (hq : Q (some (.int x)) h n) : J E M d cl sl pc L [.int x] h n Q := by
  intro p e R s m args below meth c H locs cells slots ls X Y
  refine W.widen (k := R.cells) (n := R.slots) (by have := Y.1; omega) (by have := Y.1; omega) ?_
  exact W.iret X.1 X.2.1 (X.2.2.1.trans hr) (fun t ht _ => ⟨_, h, n, rfl, hq, by rw [ht]; exact Y.2.1, by rw [ht]; exact Y.2.2.1, Y.2.2.2.1.F ht⟩) Y.2.2.2.1.2.2 hd X.2.2.2.2.2.2.1
theorem j_zret {x : Int32} (hd : decode M.2.1 pc = .ok (.ireturn, 1)) (hr : M.2.2.2 = some .boolean) (hx : x = 0 ∨ x = 1) (hq : Q (some (.int x)) h n) : J E M d cl sl pc L [.int x] h n Q := by
  intro p e R s m args below meth c H locs cells slots ls X Y
  refine W.widen (k := R.cells) (n := R.slots) (by have := Y.1; omega) (by have := Y.1; omega) ?_
  exact W.zret X.1 X.2.1 (X.2.2.1.trans hr) (by rcases hx with rfl | rfl <;> rfl) (fun t ht _ => ⟨_, h, n, rfl, hq, by rw [ht]; exact Y.2.1, by rw [ht]; exact Y.2.2.1, Y.2.2.2.1.F ht⟩) Y.2.2.2.1.2.2 hd X.2.2.2.2.2.2.1
theorem j_vret (hd : decode M.2.1 pc = .ok (.return_, 1)) (hr : M.2.2.2 = none) (hq : Q none h n) : J E M d cl sl pc L [] h n Q := by
  intro p e R s m args below meth c H locs cells slots ls X Y
  refine W.widen (k := R.cells) (n := R.slots) (by have := Y.1; omega) (by have := Y.1; omega) ?_
  exact W.vret X.1 X.2.1 (X.2.2.1.trans hr) (fun t ht _ => ⟨_, h, n, rfl, hq, by rw [ht]; exact Y.2.1, by rw [ht]; exact Y.2.2.1, Y.2.2.2.1.F ht⟩) Y.2.2.2.1.2.2 hd X.2.2.2.2.2.2.1
theorem j_aret {v : Value} {rt : FieldType} (hd : decode M.2.1 pc = .ok (.areturn, 1)) (hr : M.2.2.2 = some rt) (hrt : (∃ n, rt = .object n) ∨ ∃ t, rt = .array t) (hv : isRf v = true) (hq : Q (some v) h n) : J E M d cl sl pc L [v] h n Q := by
  intro p e R s m args below meth c H locs cells slots ls X Y
  refine W.widen (k := R.cells) (n := R.slots) (by have := Y.1; omega) (by have := Y.1; omega) ?_
  exact W.aret X.1 X.2.1 (X.2.2.1.trans hr) hrt (isRf_of hv) (fun t ht _ => ⟨_, h, n, rfl, hq, by rw [ht]; exact Y.2.1, by rw [ht]; exact Y.2.2.1, Y.2.2.2.1.F ht⟩) Y.2.2.2.1.2.2 hd X.2.2.2.2.2.2.1
/-! a contract out of the walk of its body -/
theorem Ct.ofJ {mc ms : Nat} {as : List Value} (hy : plainName M.1.cls = true) (hn : (lg_sl as).length ≤ M.2.2.1) (hc : ∀ q ∈ lv_args 0 as, q.2.category = 1) (k : J E M d mc ms 0 (lv_args 0 as) [] h n Q) : Ct E M d mc ms as h n Q := by
  unfold Ct
  refine Met.ofW (cc := M.2.1) (maxL := M.2.2.1) (ret := M.2.2.2) hy rfl ?_
  intro p e s m args below meth c s₁ B hml hv
  obtain ⟨rfl, hR, hsz, hK, hZ, hbs⟩ := hv
  have hts := atoms_spec (ws := wsM M) B.pre
  have hl := lv_entry as (n := M.2.2.1) hn
  rw [lg_entry_eq]
  refine k p e (rmD d mc ms) s m _ below meth c s.heap [] 0 0 _ ⟨B.exec, B.bytes, B.returns, hml, findClass_of_methodNamed B.named, fun w hw => hts w (List.mem_cons_of_mem _ hw), B.notSynchronized, (name_of_methodNamed B.named B.method).1, hK, hZ, by rw [hsz]; exact hbs⟩ ⟨⟨Nat.le_refl _, Nat.le_refl _, by simp [rmD], by simp [rmD]⟩, hR, hsz, va_S.rf, hl, hc⟩
/-! calls -/
theorem j_back {p : Program} {e : Env} {R : Room} {s : State} {m : MethodId} {args : Array Value} {below : List Frame} {meth : Method} {c : Code} {H : Heap} {locs : List Loc} {cells slots : Nat} {ls : Array Slot} {mc ms len : Nat} {rest st0 : List Value} {a : Array Value} {Q' : Option Value → HP → Nat → Prop}
    (X : Cx E M p s m args meth c) (Y : Dx E M d cl sl L h n R s H locs cells slots ls) (h1 : mc ≤ cl) (h2 : ms ≤ sl)
    (hr : ∀ T : State, T.heap = H → Stand p E.1 e R s m args below meth c T locs cells slots → ∃ (v : Option Value) (st₀ t T' : State) (L : List Loc), st₀.heap = H ∧ Stand p E.1 e R s m args below meth c T' (locs ++ L) (cells + mc) (slots + ms) ∧ (∀ q ∈ L, Ab E q.base) ∧ T'.heap = t.heap ∧ T'.vm = t.vm ∧ Qx E Q' a st₀ (.returned v) t ∧ Goes p e below T (F0 m pc ls st0) T' (F0 m len ls (v.toList ++ rest)))
    (kk : ∀ (v : Option Value) (h' : HP) (n' : Nat), Q' v h' n' → n ≤ n' → J E M d (cl - mc) (sl - ms) len L (v.toList ++ rest) h' n' Q) :
    W p E.1 e R s m args below meth c H locs cells slots (MQ below (Qx E Q) args s R.cells R.slots (Ab E)) (F0 m pc ls st0) := by
  intro T hT XS
  obtain ⟨v, st₀, t, T', L2, h0, X', hL, e1, e2, ⟨v', h', n', hv, hq, hRp, hsz, hz, hk⟩, go⟩ := hr T hT XS
  cases hv
  rw [h0] at hz hk
  obtain ⟨⟨y1, y2, y3, y4⟩, yR, ysz, yS, yl⟩ := Y
  obtain ⟨t2, a1, b1⟩ := kk v h' n' hq (by rw [← ysz, ← hsz]; exact hz) p e R s m args below meth c T'.heap (locs ++ L2) (cells + mc) (slots + ms) ls X ⟨⟨y1, y2, by omega, by omega⟩, by rw [e1]; exact hRp, by rw [e1]; exact hsz,
    ⟨Nat.le_trans yS.1 (by rw [e1]; exact hz), fun q g1 g2 => by rw [e1, hk q (Nat.lt_of_lt_of_le g1 yS.1) g2]; exact yS.2.1 q g1 g2, fun q hq => by
      rcases List.mem_append.mp hq with g | g
      · exact yS.2.2 q g
      · exact hL q g⟩, yl⟩ T' rfl X'
  exact ⟨t2, go t2 a1, b1⟩
theorem GW_good : ∀ w ∈ GW, (w.onTables && w.keeps) = true ∨ ∃ ty, w = .arrayClass ty := fun w hw => good_of_word (List.mem_filter.mp hw).2
def CBx (own : String) (idx : Nat) (M' : MI) (k : Nat) : Prop := Cond.code M'.1 M'.2.1 M'.2.2.1 M'.2.2.2 ∈ GW ∧ Cond.methodLink own idx M'.1 ∈ GW ∧ Cond.initialized M'.1.cls ∈ GW ∧ (M'.1.cls ≠ "java/lang/invoke/MethodHandle" ∧ M'.1.cls ≠ "java/lang/invoke/VarHandle") ∧ (parseMethodDescriptor M'.1.desc).map (fun d => d.parameters.length) = some k ∧ M'.2.2.1 ≤ 21
theorem wsM_good {M' : MI} (hw : Cond.code M'.1 M'.2.1 M'.2.2.1 M'.2.2.2 ∈ GW) : GoodIn GW (wsM M') := by
  intro w h
  rcases List.mem_cons.mp h with rfl | h
  · exact ⟨hw, GW_good _ hw⟩
  · exact ⟨h, GW_good w h⟩
theorem j_cb {p : Program} {R : Room} {s : State} {m : MethodId} {args : Array Value} {meth : Method} {c : Code} {idx d' mc ms k : Nat} {M' : MI} (X : Cx E M p s m args meth c) (hd : d ≤ R.frames ∧ 40 * d ≤ R.locals) (g : CBx M.1.cls idx M' k) (hdd : d' + 1 ≤ d) :
    CallB R s args M.1.cls idx M'.1 M'.2.1 M'.2.2.1 M'.2.2.2 (wsM M') (rmD d' mc ms) mc ms k := by
  obtain ⟨g1, g2, g3, g4, g5, g6⟩ := g
  have hts := X.2.2.2.2.2.1
  refine callB_of (Ts := GW) (ws' := GW) k hts (wsM_good g1) rfl rfl rfl (hts _ g3) (hts _ g2) ⟨g4.1, g4.2, g5⟩ ⟨?_, ?_⟩
  · show d' + 1 ≤ R.frames
    omega
  · show 8 + (M'.2.2.1 + 11) + 40 * d' ≤ R.locals
    omega
theorem j_callV {idx d' mc ms k b ci : Nat} {M' : MI} {As rest : List Value} {r : vw_C} {fs : List Value} {Q' : Option Value → HP → Nat → Prop} (hd : decode M.2.1 pc = .ok (.invokevirtual idx, 3)) (g : CBx M.1.cls idx M' k) (gi : Cond.instanceMethod M'.1 ∈ GW ∧ Cond.selects M'.1.cls M'.1 M'.1 ∈ GW) (hb : h b = some (.inr (ci, fs))) (hc : classes[ci]? = some r) (hcn : r.1 = M'.1.cls) (hk : As.length = k) (hst : st = As.reverse ++ .ref b :: rest) (hroom : (rest.map fun v => v.category).sum ≤ 8) (hdd : d' + 1 ≤ d) (h1 : mc ≤ cl) (h2 : ms ≤ sl)
    (ct : Ct E M' d' mc ms (.ref b :: As) h n Q') (kk : ∀ (v : Option Value) (h' : HP) (n' : Nat), Q' v h' n' → n ≤ n' → J E M d (cl - mc) (sl - ms) (pc + 3) L (v.toList ++ rest) h' n' Q) : J E M d cl sl pc L st h n Q := by
  intro p e R s m args below meth c H locs cells slots ls X Y
  have hts := X.2.2.2.2.2.1
  have hK := X.2.2.2.2.2.2.2.2.1
  have ysz := Y.2.2.1
  refine j_back X Y h1 h2 (va_runV (As := As) (rest := rest) (C := M'.1.cls) (own := M.1.cls) (nL := M.2.2.1) (cc := M.2.1) (Ts := GW) ⟨X.1, X.2.1, X.2.2.2.1, X.2.2.2.2.1, hts⟩ ct ⟨j_cb X ⟨Y.1.1, Y.1.2.1⟩ g hdd, hts _ gi.1, hts _ gi.2⟩ ⟨Wd.blind, ?_, fun U hU hW => ⟨rfl, ?_⟩⟩ rfl hk Y.2.2.2.2.1.1 hst (lv_room hroom) hd ⟨by have := Y.1; omega, by have := Y.1; omega⟩) kk
  · have := va_recv hK.1 (va_P.one (Y.2.1 b _ hb)) (ci := ci) (q0 := 0) hc rfl
    rw [hcn] at this
    exact this
  · rw [← ysz]
    exact Wd.at Y.2.1 hK X.2.2.2.2.2.2.2.2.2.1 Y.2.2.2.1 X.2.2.2.2.2.2.2.2.2.2 hU hW
theorem j_callS {idx d' mc ms k : Nat} {M' : MI} {As rest : List Value} {Q' : Option Value → HP → Nat → Prop} (hd : decode M.2.1 pc = .ok (.invokestatic idx, 3)) (g : CBx M.1.cls idx M' k) (gi : Cond.static M'.1 ∈ GW) (hk : As.length = k) (hst : st = As.reverse ++ rest) (hroom : (rest.map fun v => v.category).sum ≤ 8) (hdd : d' + 1 ≤ d) (h1 : mc ≤ cl) (h2 : ms ≤ sl)
    (ct : Ct E M' d' mc ms As h n Q') (kk : ∀ (v : Option Value) (h' : HP) (n' : Nat), Q' v h' n' → n ≤ n' → J E M d (cl - mc) (sl - ms) (pc + 3) L (v.toList ++ rest) h' n' Q) : J E M d cl sl pc L st h n Q := by
  intro p e R s m args below meth c H locs cells slots ls X Y
  have hts := X.2.2.2.2.2.1
  have hK := X.2.2.2.2.2.2.2.2.1
  have ysz := Y.2.2.1
  refine j_back X Y h1 h2 (va_runS (As := As) (rest := rest) (own := M.1.cls) (nL := M.2.2.1) (cc := M.2.1) (Ts := GW) ⟨X.1, X.2.1, X.2.2.2.1, X.2.2.2.2.1, hts⟩ ct ⟨j_cb X ⟨Y.1.1, Y.1.2.1⟩ g hdd, hts _ gi⟩ ⟨Wd.blind, fun U hU hW => ⟨rfl, ?_⟩⟩ rfl hk Y.2.2.2.2.1.1 hst (lv_room hroom) hd ⟨by have := Y.1; omega, by have := Y.1; omega⟩) kk
  rw [← ysz]
  exact Wd.at Y.2.1 hK X.2.2.2.2.2.2.2.2.2.1 Y.2.2.2.1 X.2.2.2.2.2.2.2.2.2.2 hU hW
theorem j_callI {idx d' mc ms k b : Nat} {M' : MI} {As rest : List Value} {Q' : Option Value → HP → Nat → Prop} (hd : decode M.2.1 pc = .ok (.invokespecial idx, 3)) (g : CBx M.1.cls idx M' k) (gi : M'.1.name = "<init>" ∧ M'.2.2.2 = none ∧ Cond.instanceMethod M'.1 ∈ GW) (hk : As.length = k) (hst : st = As.reverse ++ .ref b :: rest) (hroom : (rest.map fun v => v.category).sum ≤ 8) (hdd : d' + 1 ≤ d) (h1 : mc ≤ cl) (h2 : ms ≤ sl)
    (ct : Ct E M' d' mc ms (.ref b :: As) h n Q') (kk : ∀ (v : Option Value) (h' : HP) (n' : Nat), Q' v h' n' → n ≤ n' → J E M d (cl - mc) (sl - ms) (pc + 3) L (v.toList ++ rest) h' n' Q) : J E M d cl sl pc L st h n Q := by
  intro p e R s m args below meth c H locs cells slots ls X Y
  have hts := X.2.2.2.2.2.1
  have hK := X.2.2.2.2.2.2.2.2.1
  have ysz := Y.2.2.1
  have hcb := j_cb (mc := mc) (ms := ms) X ⟨Y.1.1, Y.1.2.1⟩ g hdd
  rw [gi.2.1] at hcb
  refine j_back X Y h1 h2 (va_runI (As := As) (rest := rest) (own := M.1.cls) (nL := M.2.2.1) (cc := M.2.1) (Ts := GW) ⟨X.1, X.2.1, X.2.2.2.1, X.2.2.2.2.1, hts⟩ ct ⟨hcb, gi.1, hts _ gi.2.2⟩ ⟨Wd.blind, fun U hU hW => ⟨rfl, ?_⟩⟩ rfl hk Y.2.2.2.2.1.1 hst (lv_room hroom) hd ⟨by have := Y.1; omega, by have := Y.1; omega⟩) kk
  rw [← ysz]
  exact Wd.at Y.2.1 hK X.2.2.2.2.2.2.2.2.2.1 Y.2.2.2.1 X.2.2.2.2.2.2.2.2.2.2 hU hW
theorem j_obj {idx a : Nat} (hd : decode M.2.1 pc = .ok (.invokespecial idx, 3)) (hl : Cond.methodLink M.1.cls idx Lib.objectInit ∈ GW) (hi : Cond.instanceMethod Lib.objectInit ∈ GW) (hc : Cond.code Lib.objectInit ⟨#[0xb1]⟩ 1 none ∈ GW) (hroom : (st.map fun v => v.category).sum ≤ 8) (hdd : 1 ≤ d) (kk : J E M d cl sl (pc + 3) L st h n Q) : J E M d cl sl pc L (.ref a :: st) h n Q := by
  intro p e R s m args below meth c H locs cells slots ls X Y
  have hts := X.2.2.2.2.2.1
  have y1 := Y.1.1
  have y2 := Y.1.2.1
  have hr : 2 * (F0 m pc ls (.ref a :: st)).monitorRoom + (st.map fun v => v.category).sum ≤ 8 := lv_room hroom
  exact W.objInit X.1 X.2.1 X.2.2.2.2.1 (hts _ hl) (hts _ hi) (hts _ hc) rfl (Y.2.2.2.2.1.1.trans X.2.2.2.1.symm) rfl hd (by omega) (by omega) (kk p e R s m args below meth c H locs cells slots ls X Y)
theorem j_callF {idx cnt d' mc ms k b ci : Nat} {x : MethodName} {M' : MI} {As rest : List Value} {r : vw_C} {fs : List Value} {Q' : Option Value → HP → Nat → Prop} (hd : decode M.2.1 pc = .ok (.invokeinterface idx cnt, 5)) (g : Cond.code M'.1 M'.2.1 M'.2.2.1 M'.2.2.2 ∈ GW ∧ Cond.methodLink M.1.cls idx x ∈ GW ∧ Cond.selects M'.1.cls x M'.1 ∈ GW ∧ Cond.instanceMethod M'.1 ∈ GW ∧ Cond.initialized M'.1.cls ∈ GW) (gf : (M'.1.cls, x, M'.1) ∈ faceW) (gx : x.cls ≠ "java/lang/invoke/MethodHandle" ∧ x.cls ≠ "java/lang/invoke/VarHandle" ∧ (parseMethodDescriptor x.desc).map (fun d => d.parameters.length) = some k) (gm : M'.2.2.1 ≤ 21) (hb : h b = some (.inr (ci, fs))) (hc : classes[ci]? = some r) (hcn : r.1 = M'.1.cls) (hk : As.length = k) (hst : st = As.reverse ++ .ref b :: rest) (hroom : (rest.map fun v => v.category).sum ≤ 8) (hdd : d' + 1 ≤ d) (h1 : mc ≤ cl) (h2 : ms ≤ sl)
    (ct : Ct E M' d' mc ms (.ref b :: As) h n Q') (kk : ∀ (v : Option Value) (h' : HP) (n' : Nat), Q' v h' n' → n ≤ n' → J E M d (cl - mc) (sl - ms) (pc + 5) L (v.toList ++ rest) h' n' Q) : J E M d cl sl pc L st h n Q := by
  intro p e R s m args below meth c H locs cells slots ls X Y
  have hts := X.2.2.2.2.2.1
  have hK := X.2.2.2.2.2.2.2.2.1
  have ysz := Y.2.2.1
  have hdR := Y.1
  obtain ⟨g1, g2, g3, g4, g5⟩ := g
  have hG : GoodIn GW (va_wsF M.1.cls idx M'.1.cls x M'.1 (wsM M')) := by
    intro w hw
    rcases List.mem_append.mp hw with hw | hw
    · simp only [List.mem_cons, List.not_mem_nil, or_false] at hw
      rcases hw with rfl | rfl | rfl | rfl
      · exact ⟨g2, GW_good _ g2⟩
      · exact ⟨g3, GW_good _ g3⟩
      · exact ⟨g4, GW_good _ g4⟩
      · exact ⟨g5, GW_good _ g5⟩
    · exact wsM_good g1 w hw
  have hat : ClassAt s M'.1.cls (E.2.1.1 ci) := by
    have := (hK.1.1 ci r hc).2
    rw [hcn] at this
    exact this
  refine j_back X Y h1 h2 (va_runF (As := As) (rest := rest) (C := M'.1.cls) (own := M.1.cls) (nL := M.2.2.1) (cc := M.2.1) (Ts := GW) hat ⟨X.1, X.2.1, X.2.2.2.1, X.2.2.2.2.1, hts⟩ ct (va_cwF (ws' := GW) k hts hG rfl rfl rfl (hK.2.2.1 _ gf) gx ⟨by show d' + 1 ≤ R.frames; omega, by show 8 + (M'.2.2.1 + 11) + 40 * d' ≤ R.locals; omega⟩) ⟨Wd.blind, ?_, fun U hU hW => ⟨rfl, ?_⟩⟩ rfl hk Y.2.2.2.2.1.1 hst (lv_room hroom) hd ⟨by omega, by omega⟩) kk
  · have := va_recv hK.1 (va_P.one (Y.2.1 b _ hb)) (ci := ci) (q0 := 0) hc rfl
    rw [hcn] at this
    exact this
  · rw [← ysz]
    exact Wd.at Y.2.1 hK X.2.2.2.2.2.2.2.2.2.1 Y.2.2.2.1 X.2.2.2.2.2.2.2.2.2.2 hU hW
/-- a weaker end -/
theorem J.mono {Q2 : Option Value → HP → Nat → Prop} (hq : ∀ v h' n', Q v h' n' → Q2 v h' n') (k : J E M d cl sl pc L st h n Q) : J E M d cl sl pc L st h n Q2 := by
  intro p e R s m args below meth c H locs cells slots ls X Y T hT XS
  obtain ⟨t, a1, o, b1, b2, ⟨v, h', n', c1, c2, c3⟩, b4⟩ := k p e R s m args below meth c H locs cells slots ls X Y T hT XS
  exact ⟨t, a1, o, b1, b2, ⟨v, h', n', c1, hq _ _ _ c2, c3⟩, b4⟩
theorem J.room {d2 cl2 sl2 : Nat} (h1 : d2 ≤ d) (h2 : cl2 ≤ cl) (h3 : sl2 ≤ sl) (k : J E M d2 cl2 sl2 pc L st h n Q) : J E M d cl sl pc L st h n Q := by
  intro p e R s m args below meth c H locs cells slots ls X Y
  have := Y.1
  exact k p e R s m args below meth c H locs cells slots ls X ⟨⟨by omega, by omega, by omega, by omega⟩, Y.2⟩
end JC
end
section
theorem uw_C : ∀ w ∈ u_ws "ClueLogic" T_C 6, w ∈ GW := by
  intro w hw
  obtain ⟨k, hk, rfl⟩ := List.mem_map.mp hw
  exact (match k, List.mem_range.mp hk with
    | 0, _ => wd_235
    | 1, _ => wd_237
    | 2, _ => wd_239
    | 3, _ => wd_241
    | 4, _ => wd_243
    | 5, _ => wd_245
    | k + 6, h => absurd h (by omega))
theorem fp_C : FP "ClueLogic" T_C 6 ty_C := ⟨by decide +kernel, by decide +kernel⟩
theorem uw_An : ∀ w ∈ u_ws "ClueLogic$Answers" T_An 10, w ∈ GW := by
  intro w hw
  obtain ⟨k, hk, rfl⟩ := List.mem_map.mp hw
  exact (match k, List.mem_range.mp hk with
    | 0, _ => wd_147
    | 1, _ => wd_149
    | 2, _ => wd_151
    | 3, _ => wd_153
    | 4, _ => wd_155
    | 5, _ => wd_157
    | 6, _ => wd_159
    | 7, _ => wd_161
    | 8, _ => wd_163
    | 9, _ => wd_165
    | k + 10, h => absurd h (by omega))
theorem fp_An : FP "ClueLogic$Answers" T_An 10 ty_An := ⟨by decide +kernel, by decide +kernel⟩
theorem uw_Cr : ∀ w ∈ u_ws "ClueLogic$Crossing" T_Cr 10, w ∈ GW := by
  intro w hw
  obtain ⟨k, hk, rfl⟩ := List.mem_map.mp hw
  exact (match k, List.mem_range.mp hk with
    | 0, _ => wd_208
    | 1, _ => wd_210
    | 2, _ => wd_212
    | 3, _ => wd_214
    | 4, _ => wd_216
    | 5, _ => wd_218
    | 6, _ => wd_220
    | 7, _ => wd_222
    | 8, _ => wd_224
    | 9, _ => wd_226
    | k + 10, h => absurd h (by omega))
theorem fp_Cr : FP "ClueLogic$Crossing" T_Cr 10 ty_Cr := ⟨by decide +kernel, by decide +kernel⟩
theorem uw_Jo : ∀ w ∈ u_ws "ClueLogic$Joined" T_Jo 3, w ∈ GW := by
  intro w hw
  obtain ⟨k, hk, rfl⟩ := List.mem_map.mp hw
  exact (match k, List.mem_range.mp hk with
    | 0, _ => wd_444
    | 1, _ => wd_446
    | 2, _ => wd_448
    | k + 3, h => absurd h (by omega))
theorem fp_Jo : FP "ClueLogic$Joined" T_Jo 3 ty_Jo := ⟨by decide +kernel, by decide +kernel⟩
theorem uw_Op : ∀ w ∈ u_ws "ClueLogic$OfPerson" T_Op 1, w ∈ GW := by
  intro w hw
  obtain ⟨k, hk, rfl⟩ := List.mem_map.mp hw
  exact (match k, List.mem_range.mp hk with
    | 0, _ => wd_405
    | k + 1, h => absurd h (by omega))
theorem fp_Op : FP "ClueLogic$OfPerson" T_Op 1 ty_Op := ⟨by decide +kernel, by decide +kernel⟩
theorem uw_Ov : ∀ w ∈ u_ws "ClueLogic$OfValues" T_Ov 3, w ∈ GW := by
  intro w hw
  obtain ⟨k, hk, rfl⟩ := List.mem_map.mp hw
  exact (match k, List.mem_range.mp hk with
    | 0, _ => wd_468
    | 1, _ => wd_470
    | 2, _ => wd_472
    | k + 3, h => absurd h (by omega))
theorem fp_Ov : FP "ClueLogic$OfValues" T_Ov 3 ty_Ov := ⟨by decide +kernel, by decide +kernel⟩
theorem uw_Od : ∀ w ∈ u_ws "ClueLogic$Orders" T_Od 5, w ∈ GW := by
  intro w hw
  obtain ⟨k, hk, rfl⟩ := List.mem_map.mp hw
  exact (match k, List.mem_range.mp hk with
    | 0, _ => wd_62
    | 1, _ => wd_64
    | 2, _ => wd_66
    | 3, _ => wd_68
    | 4, _ => wd_70
    | k + 5, h => absurd h (by omega))
theorem fp_Od : FP "ClueLogic$Orders" T_Od 5 ty_Od := ⟨by decide +kernel, by decide +kernel⟩
theorem uw_Pz : ∀ w ∈ u_ws "ClueLogic$Puzzle" T_Pz 6, w ∈ GW := by
  intro w hw
  obtain ⟨k, hk, rfl⟩ := List.mem_map.mp hw
  exact (match k, List.mem_range.mp hk with
    | 0, _ => wd_80
    | 1, _ => wd_82
    | 2, _ => wd_84
    | 3, _ => wd_86
    | 4, _ => wd_88
    | 5, _ => wd_90
    | k + 6, h => absurd h (by omega))
theorem fp_Pz : FP "ClueLogic$Puzzle" T_Pz 6 ty_Pz := ⟨by decide +kernel, by decide +kernel⟩
theorem uw_Rd : ∀ w ∈ u_ws "ClueLogic$Reader" T_Rd 7, w ∈ GW := by
  intro w hw
  obtain ⟨k, hk, rfl⟩ := List.mem_map.mp hw
  exact (match k, List.mem_range.mp hk with
    | 0, _ => wd_269
    | 1, _ => wd_271
    | 2, _ => wd_273
    | 3, _ => wd_275
    | 4, _ => wd_277
    | 5, _ => wd_279
    | 6, _ => wd_281
    | k + 7, h => absurd h (by omega))
theorem fp_Rd : FP "ClueLogic$Reader" T_Rd 7 ty_Rd := ⟨by decide +kernel, by decide +kernel⟩
theorem uw_Tu : ∀ w ∈ u_ws "ClueLogic$Turned" T_Tu 2, w ∈ GW := by
  intro w hw
  obtain ⟨k, hk, rfl⟩ := List.mem_map.mp hw
  exact (match k, List.mem_range.mp hk with
    | 0, _ => wd_426
    | 1, _ => wd_428
    | k + 2, h => absurd h (by omega))
theorem fp_Tu : FP "ClueLogic$Turned" T_Tu 2 ty_Tu := ⟨by decide +kernel, by decide +kernel⟩
theorem uw_Wk : ∀ w ∈ u_ws "ClueLogic$Walk" T_Wk 6, w ∈ GW := by
  intro w hw
  obtain ⟨k, hk, rfl⟩ := List.mem_map.mp hw
  exact (match k, List.mem_range.mp hk with
    | 0, _ => wd_123
    | 1, _ => wd_125
    | 2, _ => wd_127
    | 3, _ => wd_129
    | 4, _ => wd_131
    | 5, _ => wd_133
    | k + 6, h => absurd h (by omega))
theorem fp_Wk : FP "ClueLogic$Walk" T_Wk 6 ty_Wk := ⟨by decide +kernel, by decide +kernel⟩
theorem uw_Md : ∀ w ∈ u_ws "ClueLogicModel" T_Md 36, w ∈ GW := by
  intro w hw
  obtain ⟨k, hk, rfl⟩ := List.mem_map.mp hw
  exact (match k, List.mem_range.mp hk with
    | 0, _ => wd_810
    | 1, _ => wd_812
    | 2, _ => wd_814
    | 3, _ => wd_816
    | 4, _ => wd_818
    | 5, _ => wd_820
    | 6, _ => wd_822
    | 7, _ => wd_824
    | 8, _ => wd_826
    | 9, _ => wd_828
    | 10, _ => wd_830
    | 11, _ => wd_832
    | 12, _ => wd_834
    | 13, _ => wd_836
    | 14, _ => wd_838
    | 15, _ => wd_840
    | 16, _ => wd_842
    | 17, _ => wd_844
    | 18, _ => wd_846
    | 19, _ => wd_848
    | 20, _ => wd_850
    | 21, _ => wd_852
    | 22, _ => wd_854
    | 23, _ => wd_856
    | 24, _ => wd_858
    | 25, _ => wd_860
    | 26, _ => wd_862
    | 27, _ => wd_864
    | 28, _ => wd_866
    | 29, _ => wd_868
    | 30, _ => wd_870
    | 31, _ => wd_872
    | 32, _ => wd_874
    | 33, _ => wd_876
    | 34, _ => wd_878
    | 35, _ => wd_880
    | k + 36, h => absurd h (by omega))
theorem fp_Md : FP "ClueLogicModel" T_Md 36 ty_Md := ⟨by decide +kernel, by decide +kernel⟩
theorem nw_Lw_7 : NWc "ClueLogicLaw" 7 0 "ClueLogic" T_C 6 ty_C := ⟨rfl, uw_C, fp_C.1, wd_21, wd_22, wd_1⟩
theorem nw_C_13 : NWc "ClueLogic" 13 7 "ClueLogic$Puzzle" T_Pz 6 ty_Pz := ⟨rfl, uw_Pz, fp_Pz.1, wd_29, wd_30, wd_2⟩
theorem nw_Pz_27 : NWc "ClueLogic$Puzzle" 27 6 "ClueLogic$Orders" T_Od 5 ty_Od := ⟨rfl, uw_Od, fp_Od.1, wd_37, wd_38, wd_3⟩
theorem fl_Od_18 : FW "ClueLogic$Orders" 18 6 0 "ClueLogic$Orders" T_Od 5 := ⟨rfl, uw_Od, by decide, rfl, wd_57⟩
theorem fl_Od_9 : FW "ClueLogic$Orders" 9 6 1 "ClueLogic$Orders" T_Od 5 := ⟨rfl, uw_Od, by decide, rfl, wd_58⟩
theorem fl_Od_15 : FW "ClueLogic$Orders" 15 6 2 "ClueLogic$Orders" T_Od 5 := ⟨rfl, uw_Od, by decide, rfl, wd_59⟩
theorem fl_Od_26 : FW "ClueLogic$Orders" 26 6 3 "ClueLogic$Orders" T_Od 5 := ⟨rfl, uw_Od, by decide, rfl, wd_60⟩
theorem fl_Od_29 : FW "ClueLogic$Orders" 29 6 4 "ClueLogic$Orders" T_Od 5 := ⟨rfl, uw_Od, by decide, rfl, wd_61⟩
theorem fl_Pz_17 : FW "ClueLogic$Puzzle" 17 7 0 "ClueLogic$Puzzle" T_Pz 6 := ⟨rfl, uw_Pz, by decide, rfl, wd_74⟩
theorem fl_Pz_21 : FW "ClueLogic$Puzzle" 21 7 1 "ClueLogic$Puzzle" T_Pz 6 := ⟨rfl, uw_Pz, by decide, rfl, wd_75⟩
theorem fl_Pz_24 : FW "ClueLogic$Puzzle" 24 7 2 "ClueLogic$Puzzle" T_Pz 6 := ⟨rfl, uw_Pz, by decide, rfl, wd_76⟩
theorem fl_Pz_32 : FW "ClueLogic$Puzzle" 32 7 3 "ClueLogic$Puzzle" T_Pz 6 := ⟨rfl, uw_Pz, by decide, rfl, wd_77⟩
theorem fl_Pz_11 : FW "ClueLogic$Puzzle" 11 7 4 "ClueLogic$Puzzle" T_Pz 6 := ⟨rfl, uw_Pz, by decide, rfl, wd_78⟩
theorem fl_Pz_36 : FW "ClueLogic$Puzzle" 36 7 5 "ClueLogic$Puzzle" T_Pz 6 := ⟨rfl, uw_Pz, by decide, rfl, wd_79⟩
theorem nw_C_63 : NWc "ClueLogic" 63 1 "ClueLogic$Answers" T_An 10 ty_An := ⟨rfl, uw_An, fp_An.1, wd_97, wd_98, wd_5⟩
theorem nw_An_32 : NWc "ClueLogic$Answers" 32 10 "ClueLogic$Walk" T_Wk 6 ty_Wk := ⟨rfl, uw_Wk, fp_Wk.1, wd_103, wd_104, wd_6⟩
theorem fl_Wk_30 : FW "ClueLogic$Walk" 30 10 0 "ClueLogic$Walk" T_Wk 6 := ⟨rfl, uw_Wk, by decide, rfl, wd_117⟩
theorem fl_Wk_37 : FW "ClueLogic$Walk" 37 10 1 "ClueLogic$Walk" T_Wk 6 := ⟨rfl, uw_Wk, by decide, rfl, wd_118⟩
theorem fl_Wk_9 : FW "ClueLogic$Walk" 9 10 2 "ClueLogic$Walk" T_Wk 6 := ⟨rfl, uw_Wk, by decide, rfl, wd_119⟩
theorem fl_Wk_15 : FW "ClueLogic$Walk" 15 10 3 "ClueLogic$Walk" T_Wk 6 := ⟨rfl, uw_Wk, by decide, rfl, wd_120⟩
theorem fl_Wk_18 : FW "ClueLogic$Walk" 18 10 4 "ClueLogic$Walk" T_Wk 6 := ⟨rfl, uw_Wk, by decide, rfl, wd_121⟩
theorem fl_Wk_21 : FW "ClueLogic$Walk" 21 10 5 "ClueLogic$Walk" T_Wk 6 := ⟨rfl, uw_Wk, by decide, rfl, wd_122⟩
theorem fl_An_28 : FW "ClueLogic$Answers" 28 1 0 "ClueLogic$Answers" T_An 10 := ⟨rfl, uw_An, by decide, rfl, wd_137⟩
theorem fl_An_37 : FW "ClueLogic$Answers" 37 1 1 "ClueLogic$Answers" T_An 10 := ⟨rfl, uw_An, by decide, rfl, wd_138⟩
theorem fl_An_9 : FW "ClueLogic$Answers" 9 1 2 "ClueLogic$Answers" T_An 10 := ⟨rfl, uw_An, by decide, rfl, wd_139⟩
theorem fl_An_15 : FW "ClueLogic$Answers" 15 1 3 "ClueLogic$Answers" T_An 10 := ⟨rfl, uw_An, by decide, rfl, wd_140⟩
theorem fl_An_18 : FW "ClueLogic$Answers" 18 1 4 "ClueLogic$Answers" T_An 10 := ⟨rfl, uw_An, by decide, rfl, wd_141⟩
theorem fl_An_21 : FW "ClueLogic$Answers" 21 1 5 "ClueLogic$Answers" T_An 10 := ⟨rfl, uw_An, by decide, rfl, wd_142⟩
theorem fl_An_24 : FW "ClueLogic$Answers" 24 1 6 "ClueLogic$Answers" T_An 10 := ⟨rfl, uw_An, by decide, rfl, wd_143⟩
theorem fl_An_41 : FW "ClueLogic$Answers" 41 1 7 "ClueLogic$Answers" T_An 10 := ⟨rfl, uw_An, by decide, rfl, wd_144⟩
theorem fl_An_45 : FW "ClueLogic$Answers" 45 1 8 "ClueLogic$Answers" T_An 10 := ⟨rfl, uw_An, by decide, rfl, wd_145⟩
theorem fl_An_66 : FW "ClueLogic$Answers" 66 1 9 "ClueLogic$Answers" T_An 10 := ⟨rfl, uw_An, by decide, rfl, wd_146⟩
theorem nw_C_108 : NWc "ClueLogic" 108 2 "ClueLogic$Crossing" T_Cr 10 ty_Cr := ⟨rfl, uw_Cr, fp_Cr.1, wd_168, wd_169, wd_7⟩
theorem nw_Cr_28 : NWc "ClueLogic$Crossing" 28 10 "ClueLogic$Walk" T_Wk 6 ty_Wk := ⟨rfl, uw_Wk, fp_Wk.1, wd_174, wd_104, wd_6⟩
theorem fl_Cr_24 : FW "ClueLogic$Crossing" 24 2 0 "ClueLogic$Crossing" T_Cr 10 := ⟨rfl, uw_Cr, by decide, rfl, wd_198⟩
theorem fl_Cr_33 : FW "ClueLogic$Crossing" 33 2 1 "ClueLogic$Crossing" T_Cr 10 := ⟨rfl, uw_Cr, by decide, rfl, wd_199⟩
theorem fl_Cr_9 : FW "ClueLogic$Crossing" 9 2 2 "ClueLogic$Crossing" T_Cr 10 := ⟨rfl, uw_Cr, by decide, rfl, wd_200⟩
theorem fl_Cr_15 : FW "ClueLogic$Crossing" 15 2 3 "ClueLogic$Crossing" T_Cr 10 := ⟨rfl, uw_Cr, by decide, rfl, wd_201⟩
theorem fl_Cr_59 : FW "ClueLogic$Crossing" 59 2 4 "ClueLogic$Crossing" T_Cr 10 := ⟨rfl, uw_Cr, by decide, rfl, wd_202⟩
theorem fl_Cr_123 : FW "ClueLogic$Crossing" 123 2 5 "ClueLogic$Crossing" T_Cr 10 := ⟨rfl, uw_Cr, by decide, rfl, wd_203⟩
theorem fl_Cr_18 : FW "ClueLogic$Crossing" 18 2 6 "ClueLogic$Crossing" T_Cr 10 := ⟨rfl, uw_Cr, by decide, rfl, wd_204⟩
theorem fl_Cr_21 : FW "ClueLogic$Crossing" 21 2 7 "ClueLogic$Crossing" T_Cr 10 := ⟨rfl, uw_Cr, by decide, rfl, wd_205⟩
theorem fl_Cr_63 : FW "ClueLogic$Crossing" 63 2 8 "ClueLogic$Crossing" T_Cr 10 := ⟨rfl, uw_Cr, by decide, rfl, wd_206⟩
theorem fl_Cr_66 : FW "ClueLogic$Crossing" 66 2 9 "ClueLogic$Crossing" T_Cr 10 := ⟨rfl, uw_Cr, by decide, rfl, wd_207⟩
theorem fl_C_9 : FW "ClueLogic" 9 0 0 "ClueLogic" T_C 6 := ⟨rfl, uw_C, by decide, rfl, wd_229⟩
theorem fl_C_22 : FW "ClueLogic" 22 0 1 "ClueLogic" T_C 6 := ⟨rfl, uw_C, by decide, rfl, wd_230⟩
theorem fl_C_42 : FW "ClueLogic" 42 0 2 "ClueLogic" T_C 6 := ⟨rfl, uw_C, by decide, rfl, wd_231⟩
theorem fl_C_58 : FW "ClueLogic" 58 0 3 "ClueLogic" T_C 6 := ⟨rfl, uw_C, by decide, rfl, wd_232⟩
theorem fl_C_103 : FW "ClueLogic" 103 0 4 "ClueLogic" T_C 6 := ⟨rfl, uw_C, by decide, rfl, wd_233⟩
theorem fl_C_54 : FW "ClueLogic" 54 0 5 "ClueLogic" T_C 6 := ⟨rfl, uw_C, by decide, rfl, wd_234⟩
theorem nw_C_26 : NWc "ClueLogic" 26 8 "ClueLogic$Reader" T_Rd 7 ty_Rd := ⟨rfl, uw_Rd, fp_Rd.1, wd_256, wd_257, wd_9⟩
theorem fl_Rd_9 : FW "ClueLogic$Reader" 9 8 0 "ClueLogic$Reader" T_Rd 7 := ⟨rfl, uw_Rd, by decide, rfl, wd_262⟩
theorem fl_Rd_15 : FW "ClueLogic$Reader" 15 8 1 "ClueLogic$Reader" T_Rd 7 := ⟨rfl, uw_Rd, by decide, rfl, wd_263⟩
theorem fl_Rd_19 : FW "ClueLogic$Reader" 19 8 2 "ClueLogic$Reader" T_Rd 7 := ⟨rfl, uw_Rd, by decide, rfl, wd_264⟩
theorem fl_Rd_31 : FW "ClueLogic$Reader" 31 8 3 "ClueLogic$Reader" T_Rd 7 := ⟨rfl, uw_Rd, by decide, rfl, wd_265⟩
theorem fl_Rd_28 : FW "ClueLogic$Reader" 28 8 4 "ClueLogic$Reader" T_Rd 7 := ⟨rfl, uw_Rd, by decide, rfl, wd_266⟩
theorem fl_Rd_34 : FW "ClueLogic$Reader" 34 8 5 "ClueLogic$Reader" T_Rd 7 := ⟨rfl, uw_Rd, by decide, rfl, wd_267⟩
theorem fl_Rd_40 : FW "ClueLogic$Reader" 40 8 6 "ClueLogic$Reader" T_Rd 7 := ⟨rfl, uw_Rd, by decide, rfl, wd_268⟩
theorem nw_Rd_26 : NWc "ClueLogic$Reader" 26 7 "ClueLogic$Puzzle" T_Pz 6 ty_Pz := ⟨rfl, uw_Pz, fp_Pz.1, wd_300, wd_30, wd_2⟩
theorem nw_Rd_83 : NWc "ClueLogic$Reader" 83 4 "ClueLogic$OfPerson" T_Op 1 ty_Op := ⟨rfl, uw_Op, fp_Op.1, wd_397, wd_398, wd_16⟩
theorem fl_Op_13 : FW "ClueLogic$OfPerson" 13 4 0 "ClueLogic$OfPerson" T_Op 1 := ⟨rfl, uw_Op, by decide, rfl, wd_404⟩
theorem nw_Rd_91 : NWc "ClueLogic$Reader" 91 9 "ClueLogic$Turned" T_Tu 2 ty_Tu := ⟨rfl, uw_Tu, fp_Tu.1, wd_418, wd_419, wd_17⟩
theorem fl_Tu_7 : FW "ClueLogic$Turned" 7 9 0 "ClueLogic$Turned" T_Tu 2 := ⟨rfl, uw_Tu, by decide, rfl, wd_424⟩
theorem fl_Tu_13 : FW "ClueLogic$Turned" 13 9 1 "ClueLogic$Turned" T_Tu 2 := ⟨rfl, uw_Tu, by decide, rfl, wd_425⟩
theorem nw_Rd_96 : NWc "ClueLogic$Reader" 96 3 "ClueLogic$Joined" T_Jo 3 ty_Jo := ⟨rfl, uw_Jo, fp_Jo.1, wd_435, wd_436, wd_18⟩
theorem fl_Jo_7 : FW "ClueLogic$Joined" 7 3 0 "ClueLogic$Joined" T_Jo 3 := ⟨rfl, uw_Jo, by decide, rfl, wd_441⟩
theorem fl_Jo_13 : FW "ClueLogic$Joined" 13 3 1 "ClueLogic$Joined" T_Jo 3 := ⟨rfl, uw_Jo, by decide, rfl, wd_442⟩
theorem fl_Jo_17 : FW "ClueLogic$Joined" 17 3 2 "ClueLogic$Joined" T_Jo 3 := ⟨rfl, uw_Jo, by decide, rfl, wd_443⟩
theorem nw_Rd_105 : NWc "ClueLogic$Reader" 105 5 "ClueLogic$OfValues" T_Ov 3 ty_Ov := ⟨rfl, uw_Ov, fp_Ov.1, wd_459, wd_460, wd_19⟩
theorem fl_Ov_7 : FW "ClueLogic$OfValues" 7 5 0 "ClueLogic$OfValues" T_Ov 3 := ⟨rfl, uw_Ov, by decide, rfl, wd_465⟩
theorem fl_Ov_13 : FW "ClueLogic$OfValues" 13 5 1 "ClueLogic$OfValues" T_Ov 3 := ⟨rfl, uw_Ov, by decide, rfl, wd_466⟩
theorem fl_Ov_16 : FW "ClueLogic$OfValues" 16 5 2 "ClueLogic$OfValues" T_Ov 3 := ⟨rfl, uw_Ov, by decide, rfl, wd_467⟩
theorem nw_Lw_10 : NWc "ClueLogicLaw" 10 11 "ClueLogicModel" T_Md 36 ty_Md := ⟨rfl, uw_Md, fp_Md.1, wd_759, wd_760, wd_8⟩
theorem fl_Md_79 : FW "ClueLogicModel" 79 11 0 "ClueLogicModel" T_Md 36 := ⟨rfl, uw_Md, by decide, rfl, wd_774⟩
theorem fl_Md_98 : FW "ClueLogicModel" 98 11 1 "ClueLogicModel" T_Md 36 := ⟨rfl, uw_Md, by decide, rfl, wd_775⟩
theorem fl_Md_7 : FW "ClueLogicModel" 7 11 2 "ClueLogicModel" T_Md 36 := ⟨rfl, uw_Md, by decide, rfl, wd_776⟩
theorem fl_Md_13 : FW "ClueLogicModel" 13 11 3 "ClueLogicModel" T_Md 36 := ⟨rfl, uw_Md, by decide, rfl, wd_777⟩
theorem fl_Md_138 : FW "ClueLogicModel" 138 11 4 "ClueLogicModel" T_Md 36 := ⟨rfl, uw_Md, by decide, rfl, wd_778⟩
theorem fl_Md_141 : FW "ClueLogicModel" 141 11 5 "ClueLogicModel" T_Md 36 := ⟨rfl, uw_Md, by decide, rfl, wd_779⟩
theorem fl_Md_144 : FW "ClueLogicModel" 144 11 6 "ClueLogicModel" T_Md 36 := ⟨rfl, uw_Md, by decide, rfl, wd_780⟩
theorem fl_Md_17 : FW "ClueLogicModel" 17 11 7 "ClueLogicModel" T_Md 36 := ⟨rfl, uw_Md, by decide, rfl, wd_781⟩
theorem fl_Md_20 : FW "ClueLogicModel" 20 11 8 "ClueLogicModel" T_Md 36 := ⟨rfl, uw_Md, by decide, rfl, wd_782⟩
theorem fl_Md_23 : FW "ClueLogicModel" 23 11 9 "ClueLogicModel" T_Md 36 := ⟨rfl, uw_Md, by decide, rfl, wd_783⟩
theorem fl_Md_26 : FW "ClueLogicModel" 26 11 10 "ClueLogicModel" T_Md 36 := ⟨rfl, uw_Md, by decide, rfl, wd_784⟩
theorem fl_Md_111 : FW "ClueLogicModel" 111 11 11 "ClueLogicModel" T_Md 36 := ⟨rfl, uw_Md, by decide, rfl, wd_785⟩
theorem fl_Md_108 : FW "ClueLogicModel" 108 11 12 "ClueLogicModel" T_Md 36 := ⟨rfl, uw_Md, by decide, rfl, wd_786⟩
theorem fl_Md_128 : FW "ClueLogicModel" 128 11 13 "ClueLogicModel" T_Md 36 := ⟨rfl, uw_Md, by decide, rfl, wd_787⟩
theorem fl_Md_118 : FW "ClueLogicModel" 118 11 14 "ClueLogicModel" T_Md 36 := ⟨rfl, uw_Md, by decide, rfl, wd_788⟩
theorem fl_Md_101 : FW "ClueLogicModel" 101 11 15 "ClueLogicModel" T_Md 36 := ⟨rfl, uw_Md, by decide, rfl, wd_789⟩
theorem fl_Md_29 : FW "ClueLogicModel" 29 11 16 "ClueLogicModel" T_Md 36 := ⟨rfl, uw_Md, by decide, rfl, wd_790⟩
theorem fl_Md_32 : FW "ClueLogicModel" 32 11 17 "ClueLogicModel" T_Md 36 := ⟨rfl, uw_Md, by decide, rfl, wd_791⟩
theorem fl_Md_35 : FW "ClueLogicModel" 35 11 18 "ClueLogicModel" T_Md 36 := ⟨rfl, uw_Md, by decide, rfl, wd_792⟩
theorem fl_Md_38 : FW "ClueLogicModel" 38 11 19 "ClueLogicModel" T_Md 36 := ⟨rfl, uw_Md, by decide, rfl, wd_793⟩
theorem fl_Md_147 : FW "ClueLogicModel" 147 11 20 "ClueLogicModel" T_Md 36 := ⟨rfl, uw_Md, by decide, rfl, wd_794⟩
theorem fl_Md_41 : FW "ClueLogicModel" 41 11 21 "ClueLogicModel" T_Md 36 := ⟨rfl, uw_Md, by decide, rfl, wd_795⟩
theorem fl_Md_44 : FW "ClueLogicModel" 44 11 22 "ClueLogicModel" T_Md 36 := ⟨rfl, uw_Md, by decide, rfl, wd_796⟩
theorem fl_Md_82 : FW "ClueLogicModel" 82 11 23 "ClueLogicModel" T_Md 36 := ⟨rfl, uw_Md, by decide, rfl, wd_797⟩
theorem fl_Md_86 : FW "ClueLogicModel" 86 11 24 "ClueLogicModel" T_Md 36 := ⟨rfl, uw_Md, by decide, rfl, wd_798⟩
theorem fl_Md_48 : FW "ClueLogicModel" 48 11 25 "ClueLogicModel" T_Md 36 := ⟨rfl, uw_Md, by decide, rfl, wd_799⟩
theorem fl_Md_51 : FW "ClueLogicModel" 51 11 26 "ClueLogicModel" T_Md 36 := ⟨rfl, uw_Md, by decide, rfl, wd_800⟩
theorem fl_Md_89 : FW "ClueLogicModel" 89 11 27 "ClueLogicModel" T_Md 36 := ⟨rfl, uw_Md, by decide, rfl, wd_801⟩
theorem fl_Md_55 : FW "ClueLogicModel" 55 11 28 "ClueLogicModel" T_Md 36 := ⟨rfl, uw_Md, by decide, rfl, wd_802⟩
theorem fl_Md_58 : FW "ClueLogicModel" 58 11 29 "ClueLogicModel" T_Md 36 := ⟨rfl, uw_Md, by decide, rfl, wd_803⟩
theorem fl_Md_61 : FW "ClueLogicModel" 61 11 30 "ClueLogicModel" T_Md 36 := ⟨rfl, uw_Md, by decide, rfl, wd_804⟩
theorem fl_Md_64 : FW "ClueLogicModel" 64 11 31 "ClueLogicModel" T_Md 36 := ⟨rfl, uw_Md, by decide, rfl, wd_805⟩
theorem fl_Md_67 : FW "ClueLogicModel" 67 11 32 "ClueLogicModel" T_Md 36 := ⟨rfl, uw_Md, by decide, rfl, wd_806⟩
theorem fl_Md_92 : FW "ClueLogicModel" 92 11 33 "ClueLogicModel" T_Md 36 := ⟨rfl, uw_Md, by decide, rfl, wd_807⟩
theorem fl_Md_70 : FW "ClueLogicModel" 70 11 34 "ClueLogicModel" T_Md 36 := ⟨rfl, uw_Md, by decide, rfl, wd_808⟩
theorem fl_Md_73 : FW "ClueLogicModel" 73 11 35 "ClueLogicModel" T_Md 36 := ⟨rfl, uw_Md, by decide, rfl, wd_809⟩
theorem cb_Lw_9 : CBx "ClueLogicLaw" 9 m_C_init 0 := ⟨wd_25, wd_23, wd_1, by decide +kernel, by decide +kernel, by decide⟩
theorem ob_C_3 : Cond.methodLink "ClueLogic" 3 Lib.objectInit ∈ GW := wd_26
theorem cb_C_15 : CBx "ClueLogic" 15 m_Pz_init 3 := ⟨wd_33, wd_31, wd_2, by decide +kernel, by decide +kernel, by decide⟩
theorem ob_Pz_3 : Cond.methodLink "ClueLogic$Puzzle" 3 Lib.objectInit ∈ GW := wd_34
theorem cb_Pz_29 : CBx "ClueLogic$Puzzle" 29 m_Od_init 1 := ⟨wd_41, wd_39, wd_3, by decide +kernel, by decide +kernel, by decide⟩
theorem ob_Od_3 : Cond.methodLink "ClueLogic$Orders" 3 Lib.objectInit ∈ GW := wd_42
theorem cb_Od_22 : CBx "ClueLogic$Orders" 22 m_Od_fill 2 := ⟨wd_46, wd_43, wd_3, by decide +kernel, by decide +kernel, by decide⟩
theorem cb_Od_32 : CBx "ClueLogic$Orders" 32 m_Od_add 1 := ⟨wd_50, wd_47, wd_3, by decide +kernel, by decide +kernel, by decide⟩
theorem cb_Od_36 : CBx "ClueLogic$Orders" 36 m_In_bitCount 1 := ⟨wd_53, wd_51, wd_4, by decide +kernel, by decide +kernel, by decide⟩
theorem cb_C_18 : CBx "ClueLogic" 18 m_C_begin 1 := ⟨wd_96, wd_93, wd_1, by decide +kernel, by decide +kernel, by decide⟩
theorem cb_C_129 : CBx "ClueLogic" 129 m_An_init 1 := ⟨wd_101, wd_99, wd_5, by decide +kernel, by decide +kernel, by decide⟩
theorem ob_An_3 : Cond.methodLink "ClueLogic$Answers" 3 Lib.objectInit ∈ GW := wd_102
theorem cb_An_34 : CBx "ClueLogic$Answers" 34 m_Wk_init 1 := ⟨wd_107, wd_105, wd_6, by decide +kernel, by decide +kernel, by decide⟩
theorem ob_Wk_3 : Cond.methodLink "ClueLogic$Walk" 3 Lib.objectInit ∈ GW := wd_108
theorem cb_Wk_24 : CBx "ClueLogic$Walk" 24 m_Pz_orders 0 := ⟨wd_112, wd_109, wd_2, by decide +kernel, by decide +kernel, by decide⟩
theorem cb_Wk_33 : CBx "ClueLogic$Walk" 33 m_Pz_kinds 0 := ⟨wd_116, wd_113, wd_2, by decide +kernel, by decide +kernel, by decide⟩
theorem cb_C_131 : CBx "ClueLogic" 131 m_Cr_init 1 := ⟨wd_172, wd_170, wd_7, by decide +kernel, by decide +kernel, by decide⟩
theorem ob_Cr_3 : Cond.methodLink "ClueLogic$Crossing" 3 Lib.objectInit ∈ GW := wd_173
theorem cb_Cr_30 : CBx "ClueLogic$Crossing" 30 m_Wk_init 1 := ⟨wd_107, wd_175, wd_6, by decide +kernel, by decide +kernel, by decide⟩
theorem cb_Cr_37 : CBx "ClueLogic$Crossing" 37 m_Pz_kinds 0 := ⟨wd_116, wd_176, wd_2, by decide +kernel, by decide +kernel, by decide⟩
theorem cb_Cr_43 : CBx "ClueLogic$Crossing" 43 m_Pz_orders 0 := ⟨wd_112, wd_177, wd_2, by decide +kernel, by decide +kernel, by decide⟩
theorem cb_Cr_47 : CBx "ClueLogic$Crossing" 47 m_Od_allTicks 0 := ⟨wd_181, wd_178, wd_3, by decide +kernel, by decide +kernel, by decide⟩
theorem cb_Cr_52 : CBx "ClueLogic$Crossing" 52 m_Pz_parties 0 := ⟨wd_185, wd_182, wd_2, by decide +kernel, by decide +kernel, by decide⟩
theorem cb_Cr_55 : CBx "ClueLogic$Crossing" 55 m_Cr_waysIn 1 := ⟨wd_191, wd_188, wd_7, by decide +kernel, by decide +kernel, by decide⟩
theorem cb_Cr_132 : CBx "ClueLogic$Crossing" 132 m_Pz_persons 0 := ⟨wd_195, wd_192, wd_2, by decide +kernel, by decide +kernel, by decide⟩
theorem cb_Lw_13 : CBx "ClueLogicLaw" 13 m_C_unit 1 := ⟨wd_251, wd_248, wd_1, by decide +kernel, by decide +kernel, by decide⟩
theorem cb_Lw_18 : CBx "ClueLogicLaw" 18 m_C_read 0 := ⟨wd_255, wd_252, wd_1, by decide +kernel, by decide +kernel, by decide⟩
theorem cb_C_28 : CBx "ClueLogic" 28 m_Rd_init 2 := ⟨wd_260, wd_258, wd_9, by decide +kernel, by decide +kernel, by decide⟩
theorem ob_Rd_3 : Cond.methodLink "ClueLogic$Reader" 3 Lib.objectInit ∈ GW := wd_261
theorem cb_C_31 : CBx "ClueLogic" 31 m_Rd_puzzle 0 := ⟨wd_287, wd_284, wd_9, by decide +kernel, by decide +kernel, by decide⟩
theorem cb_Rd_22 : CBx "ClueLogic$Reader" 22 m_Rd_passHead 0 := ⟨wd_291, wd_288, wd_9, by decide +kernel, by decide +kernel, by decide⟩
theorem cb_Rd_54 : CBx "ClueLogic$Reader" 54 m_Rd_take 3 := ⟨wd_295, wd_292, wd_9, by decide +kernel, by decide +kernel, by decide⟩
theorem cb_Rd_47 : CBx "ClueLogic$Reader" 47 m_Rd_passSemicolon 0 := ⟨wd_299, wd_296, wd_9, by decide +kernel, by decide +kernel, by decide⟩
theorem cb_Rd_37 : CBx "ClueLogic$Reader" 37 m_Pz_init 3 := ⟨wd_33, wd_301, wd_2, by decide +kernel, by decide +kernel, by decide⟩
theorem cb_Rd_43 : CBx "ClueLogic$Reader" 43 m_Rd_clue 0 := ⟨wd_305, wd_302, wd_9, by decide +kernel, by decide +kernel, by decide⟩
theorem cb_Rd_60 : CBx "ClueLogic$Reader" 60 m_St_indexOf 1 := ⟨wd_310, wd_307, wd_10, by decide +kernel, by decide +kernel, by decide⟩
theorem cb_St_633 : CBx "java/lang/String" 633 m_St_indexOf2 2 := ⟨wd_314, wd_311, wd_10, by decide +kernel, by decide +kernel, by decide⟩
theorem cb_St_492 : CBx "java/lang/String" 492 m_St_isLatin1 0 := ⟨wd_318, wd_315, wd_10, by decide +kernel, by decide +kernel, by decide⟩
theorem cb_St_505 : CBx "java/lang/String" 505 m_St_length 0 := ⟨wd_324, wd_321, wd_10, by decide +kernel, by decide +kernel, by decide⟩
theorem cb_St_335 : CBx "java/lang/String" 335 m_St_coder 0 := ⟨wd_328, wd_325, wd_10, by decide +kernel, by decide +kernel, by decide⟩
theorem cb_St_637 : CBx "java/lang/String" 637 m_Sl_indexOf 4 := ⟨wd_331, wd_329, wd_11, by decide +kernel, by decide +kernel, by decide⟩
theorem cb_Sl_88 : CBx "java/lang/StringLatin1" 88 m_Sl_canEncode 1 := ⟨wd_334, wd_332, wd_11, by decide +kernel, by decide +kernel, by decide⟩
theorem cb_Sl_92 : CBx "java/lang/StringLatin1" 92 m_Ma_max 2 := ⟨wd_337, wd_335, wd_12, by decide +kernel, by decide +kernel, by decide⟩
theorem cb_Sl_38 : CBx "java/lang/StringLatin1" 38 m_Ma_min 2 := ⟨wd_340, wd_338, wd_12, by decide +kernel, by decide +kernel, by decide⟩
theorem cb_Sl_95 : CBx "java/lang/StringLatin1" 95 m_Sl_indexOfChar 4 := ⟨wd_343, wd_341, wd_11, by decide +kernel, by decide +kernel, by decide⟩
theorem cb_St_640 : CBx "java/lang/String" 640 m_Su_indexOf 4 := ⟨wd_346, wd_344, wd_13, by decide +kernel, by decide +kernel, by decide⟩
theorem cb_Su_224 : CBx "java/lang/StringUTF16" 224 m_Ma_max 2 := ⟨wd_337, wd_347, wd_12, by decide +kernel, by decide +kernel, by decide⟩
theorem cb_Su_183 : CBx "java/lang/StringUTF16" 183 m_Ma_min 2 := ⟨wd_340, wd_348, wd_12, by decide +kernel, by decide +kernel, by decide⟩
theorem cb_Su_228 : CBx "java/lang/StringUTF16" 228 m_Su_indexOfChar 4 := ⟨wd_352, wd_350, wd_13, by decide +kernel, by decide +kernel, by decide⟩
theorem cb_Su_96 : CBx "java/lang/StringUTF16" 96 m_Su_checkBoundsBeginEnd 3 := ⟨wd_355, wd_353, wd_13, by decide +kernel, by decide +kernel, by decide⟩
theorem cb_Su_48 : CBx "java/lang/StringUTF16" 48 m_Su_length 1 := ⟨wd_358, wd_356, wd_13, by decide +kernel, by decide +kernel, by decide⟩
theorem cb_Su_241 : CBx "java/lang/StringUTF16" 241 m_St_checkBoundsBeginEnd 3 := ⟨wd_361, wd_359, wd_10, by decide +kernel, by decide +kernel, by decide⟩
theorem cb_St_1062 : CBx "java/lang/String" 1062 m_Pr_checkFromToIndex 4 := ⟨wd_366, wd_364, wd_14, by decide +kernel, by decide +kernel, by decide⟩
theorem cb_Su_244 : CBx "java/lang/StringUTF16" 244 m_Su_indexOfCharUnsafe 4 := ⟨wd_369, wd_367, wd_13, by decide +kernel, by decide +kernel, by decide⟩
theorem cb_Su_71 : CBx "java/lang/StringUTF16" 71 m_Su_getChar 2 := ⟨wd_372, wd_370, wd_13, by decide +kernel, by decide +kernel, by decide⟩
theorem cb_Su_232 : CBx "java/lang/StringUTF16" 232 m_Su_indexOfSupplementary 4 := ⟨wd_381, wd_379, wd_13, by decide +kernel, by decide +kernel, by decide⟩
theorem cb_Su_164 : CBx "java/lang/StringUTF16" 164 m_Ch_isValidCodePoint 1 := ⟨wd_384, wd_382, wd_15, by decide +kernel, by decide +kernel, by decide⟩
theorem cb_Su_157 : CBx "java/lang/StringUTF16" 157 m_Ch_highSurrogate 1 := ⟨wd_387, wd_385, wd_15, by decide +kernel, by decide +kernel, by decide⟩
theorem cb_Su_161 : CBx "java/lang/StringUTF16" 161 m_Ch_lowSurrogate 1 := ⟨wd_391, wd_389, wd_15, by decide +kernel, by decide +kernel, by decide⟩
theorem cb_Rd_66 : CBx "ClueLogic$Reader" 66 m_Rd_ofPerson 0 := ⟨wd_396, wd_393, wd_9, by decide +kernel, by decide +kernel, by decide⟩
theorem cb_Rd_85 : CBx "ClueLogic$Reader" 85 m_Op_init 1 := ⟨wd_401, wd_399, wd_16, by decide +kernel, by decide +kernel, by decide⟩
theorem ob_Op_1 : Cond.methodLink "ClueLogic$OfPerson" 1 Lib.objectInit ∈ GW := wd_402
theorem cb_Rd_69 : CBx "ClueLogic$Reader" 69 m_Rd_saying 0 := ⟨wd_412, wd_409, wd_9, by decide +kernel, by decide +kernel, by decide⟩
theorem cb_Rd_72 : CBx "ClueLogic$Reader" 72 m_Rd_turned 1 := ⟨wd_417, wd_414, wd_9, by decide +kernel, by decide +kernel, by decide⟩
theorem cb_Rd_93 : CBx "ClueLogic$Reader" 93 m_Tu_init 2 := ⟨wd_422, wd_420, wd_17, by decide +kernel, by decide +kernel, by decide⟩
theorem ob_Tu_1 : Cond.methodLink "ClueLogic$Turned" 1 Lib.objectInit ∈ GW := wd_423
theorem cb_Rd_76 : CBx "ClueLogic$Reader" 76 m_Rd_joined 1 := ⟨wd_434, wd_431, wd_9, by decide +kernel, by decide +kernel, by decide⟩
theorem cb_Rd_98 : CBx "ClueLogic$Reader" 98 m_Jo_init 3 := ⟨wd_439, wd_437, wd_18, by decide +kernel, by decide +kernel, by decide⟩
theorem ob_Jo_1 : Cond.methodLink "ClueLogic$Joined" 1 Lib.objectInit ∈ GW := wd_440
theorem cb_Rd_80 : CBx "ClueLogic$Reader" 80 m_Rd_ofValues 1 := ⟨wd_454, wd_451, wd_9, by decide +kernel, by decide +kernel, by decide⟩
theorem cb_Rd_101 : CBx "ClueLogic$Reader" 101 m_Rd_takeValue 0 := ⟨wd_458, wd_455, wd_9, by decide +kernel, by decide +kernel, by decide⟩
theorem cb_Rd_107 : CBx "ClueLogic$Reader" 107 m_Ov_init 3 := ⟨wd_463, wd_461, wd_19, by decide +kernel, by decide +kernel, by decide⟩
theorem ob_Ov_1 : Cond.methodLink "ClueLogic$OfValues" 1 Lib.objectInit ∈ GW := wd_464
theorem cb_Rd_50 : CBx "ClueLogic$Reader" 50 m_Pz_add 1 := ⟨wd_478, wd_475, wd_2, by decide +kernel, by decide +kernel, by decide⟩
theorem cb_C_35 : CBx "ClueLogic" 35 m_Rd_place 0 := ⟨wd_482, wd_479, wd_9, by decide +kernel, by decide +kernel, by decide⟩
theorem cb_C_39 : CBx "ClueLogic" 39 m_Pz_clueCount 0 := ⟨wd_486, wd_483, wd_2, by decide +kernel, by decide +kernel, by decide⟩
theorem cb_Lw_23 : CBx "ClueLogicLaw" 23 m_C_told 1 := ⟨wd_490, wd_487, wd_1, by decide +kernel, by decide +kernel, by decide⟩
theorem cb_C_45 : CBx "ClueLogic" 45 m_Pz_things 0 := ⟨wd_494, wd_491, wd_2, by decide +kernel, by decide +kernel, by decide⟩
theorem cb_C_48 : CBx "ClueLogic" 48 m_Pz_kinds 0 := ⟨wd_116, wd_495, wd_2, by decide +kernel, by decide +kernel, by decide⟩
theorem cb_C_51 : CBx "ClueLogic" 51 m_Pz_persons 0 := ⟨wd_195, wd_496, wd_2, by decide +kernel, by decide +kernel, by decide⟩
theorem cb_Lw_28 : CBx "ClueLogicLaw" 28 m_C_run 0 := ⟨wd_500, wd_497, wd_1, by decide +kernel, by decide +kernel, by decide⟩
theorem cb_C_62 : CBx "ClueLogic" 62 m_An_find 0 := ⟨wd_504, wd_501, wd_5, by decide +kernel, by decide +kernel, by decide⟩
theorem cb_An_48 : CBx "ClueLogic$Answers" 48 m_Pz_orders 0 := ⟨wd_112, wd_505, wd_2, by decide +kernel, by decide +kernel, by decide⟩
theorem cb_An_70 : CBx "ClueLogic$Answers" 70 m_Od_allTicks 0 := ⟨wd_181, wd_506, wd_3, by decide +kernel, by decide +kernel, by decide⟩
theorem cb_An_73 : CBx "ClueLogic$Answers" 73 m_Ar_fill 2 := ⟨wd_509, wd_507, wd_20, by decide +kernel, by decide +kernel, by decide⟩
theorem cb_An_79 : CBx "ClueLogic$Answers" 79 m_Wk_choose 1 := ⟨wd_513, wd_510, wd_6, by decide +kernel, by decide +kernel, by decide⟩
theorem cb_Wk_40 : CBx "ClueLogic$Walk" 40 m_Wk_chooseOrders 2 := ⟨wd_517, wd_514, wd_6, by decide +kernel, by decide +kernel, by decide⟩
theorem cb_Wk_44 : CBx "ClueLogic$Walk" 44 m_Od_count 0 := ⟨wd_521, wd_518, wd_3, by decide +kernel, by decide +kernel, by decide⟩
theorem cb_Wk_49 : CBx "ClueLogic$Walk" 49 m_Od_ticks 1 := ⟨wd_525, wd_522, wd_3, by decide +kernel, by decide +kernel, by decide⟩
theorem cb_An_83 : CBx "ClueLogic$Answers" 83 m_Wk_start 0 := ⟨wd_529, wd_526, wd_6, by decide +kernel, by decide +kernel, by decide⟩
theorem cb_Wk_53 : CBx "ClueLogic$Walk" 53 m_Wk_go 2 := ⟨wd_533, wd_530, wd_6, by decide +kernel, by decide +kernel, by decide⟩
theorem cb_Wk_57 : CBx "ClueLogic$Walk" 57 m_Wk_order 1 := ⟨wd_537, wd_534, wd_6, by decide +kernel, by decide +kernel, by decide⟩
theorem cb_Wk_60 : CBx "ClueLogic$Walk" 60 m_Od_things 0 := ⟨wd_541, wd_538, wd_3, by decide +kernel, by decide +kernel, by decide⟩
theorem cb_Wk_63 : CBx "ClueLogic$Walk" 63 m_Od_value 2 := ⟨wd_545, wd_542, wd_3, by decide +kernel, by decide +kernel, by decide⟩
theorem cb_An_86 : CBx "ClueLogic$Answers" 86 m_An_weigh 0 := ⟨wd_549, wd_546, wd_5, by decide +kernel, by decide +kernel, by decide⟩
theorem cb_An_92 : CBx "ClueLogic$Answers" 92 m_Pz_parties 0 := ⟨wd_185, wd_550, wd_2, by decide +kernel, by decide +kernel, by decide⟩
theorem cb_An_95 : CBx "ClueLogic$Answers" 95 m_Pz_clueCount 0 := ⟨wd_486, wd_551, wd_2, by decide +kernel, by decide +kernel, by decide⟩
theorem cb_An_98 : CBx "ClueLogic$Answers" 98 m_Pz_clue 1 := ⟨wd_555, wd_552, wd_2, by decide +kernel, by decide +kernel, by decide⟩
theorem cb_An_102 : CBx "ClueLogic$Answers" 102 m_Wk_thing 0 := ⟨wd_559, wd_556, wd_6, by decide +kernel, by decide +kernel, by decide⟩
theorem cb_Ov_19 : CBx "ClueLogic$OfValues" 19 m_Ov_relates 2 := ⟨wd_587, wd_584, wd_19, by decide +kernel, by decide +kernel, by decide⟩
theorem cb_An_111 : CBx "ClueLogic$Answers" 111 m_An_add 1 := ⟨wd_599, wd_596, wd_5, by decide +kernel, by decide +kernel, by decide⟩
theorem cb_An_118 : CBx "ClueLogic$Answers" 118 m_In_bitCount 1 := ⟨wd_53, wd_600, wd_4, by decide +kernel, by decide +kernel, by decide⟩
theorem cb_An_124 : CBx "ClueLogic$Answers" 124 m_Pz_kinds 0 := ⟨wd_116, wd_601, wd_2, by decide +kernel, by decide +kernel, by decide⟩
theorem cb_An_127 : CBx "ClueLogic$Answers" 127 m_Wk_order 1 := ⟨wd_537, wd_602, wd_6, by decide +kernel, by decide +kernel, by decide⟩
theorem cb_An_130 : CBx "ClueLogic$Answers" 130 m_An_keep 1 := ⟨wd_606, wd_603, wd_5, by decide +kernel, by decide +kernel, by decide⟩
theorem cb_An_115 : CBx "ClueLogic$Answers" 115 m_An_need 1 := ⟨wd_610, wd_607, wd_5, by decide +kernel, by decide +kernel, by decide⟩
theorem cb_An_89 : CBx "ClueLogic$Answers" 89 m_Wk_next 0 := ⟨wd_614, wd_611, wd_6, by decide +kernel, by decide +kernel, by decide⟩
theorem cb_C_67 : CBx "ClueLogic" 67 m_An_count 0 := ⟨wd_618, wd_615, wd_5, by decide +kernel, by decide +kernel, by decide⟩
theorem cb_Lw_32 : CBx "ClueLogicLaw" 32 m_C_answer 3 := ⟨wd_622, wd_619, wd_1, by decide +kernel, by decide +kernel, by decide⟩
theorem cb_C_70 : CBx "ClueLogic" 70 m_C_isKept 1 := ⟨wd_626, wd_623, wd_1, by decide +kernel, by decide +kernel, by decide⟩
theorem cb_C_132 : CBx "ClueLogic" 132 m_An_kept 0 := ⟨wd_630, wd_627, wd_5, by decide +kernel, by decide +kernel, by decide⟩
theorem cb_C_74 : CBx "ClueLogic" 74 m_Pz_hasThing 1 := ⟨wd_634, wd_631, wd_2, by decide +kernel, by decide +kernel, by decide⟩
theorem cb_C_77 : CBx "ClueLogic" 77 m_Pz_hasKind 1 := ⟨wd_638, wd_635, wd_2, by decide +kernel, by decide +kernel, by decide⟩
theorem cb_C_80 : CBx "ClueLogic" 80 m_An_value 3 := ⟨wd_642, wd_639, wd_5, by decide +kernel, by decide +kernel, by decide⟩
theorem cb_An_54 : CBx "ClueLogic$Answers" 54 m_Od_value 2 := ⟨wd_545, wd_643, wd_3, by decide +kernel, by decide +kernel, by decide⟩
theorem cb_Lw_37 : CBx "ClueLogicLaw" 37 m_C_truth 2 := ⟨wd_647, wd_644, wd_1, by decide +kernel, by decide +kernel, by decide⟩
theorem cb_C_84 : CBx "ClueLogic" 84 m_Pz_hasPerson 1 := ⟨wd_651, wd_648, wd_2, by decide +kernel, by decide +kernel, by decide⟩
theorem cb_C_87 : CBx "ClueLogic" 87 m_An_isTruthful 2 := ⟨wd_655, wd_652, wd_5, by decide +kernel, by decide +kernel, by decide⟩
theorem cb_Lw_42 : CBx "ClueLogicLaw" 42 m_C_often 3 := ⟨wd_660, wd_657, wd_1, by decide +kernel, by decide +kernel, by decide⟩
theorem cb_C_91 : CBx "ClueLogic" 91 m_Pz_hasValue 1 := ⟨wd_664, wd_661, wd_2, by decide +kernel, by decide +kernel, by decide⟩
theorem cb_C_94 : CBx "ClueLogic" 94 m_An_countWith 3 := ⟨wd_668, wd_665, wd_5, by decide +kernel, by decide +kernel, by decide⟩
theorem cb_An_63 : CBx "ClueLogic$Answers" 63 m_Od_count 0 := ⟨wd_521, wd_669, wd_3, by decide +kernel, by decide +kernel, by decide⟩
theorem cb_Lw_46 : CBx "ClueLogicLaw" 46 m_C_spare 1 := ⟨wd_673, wd_670, wd_1, by decide +kernel, by decide +kernel, by decide⟩
theorem cb_C_97 : CBx "ClueLogic" 97 m_Pz_hasClue 1 := ⟨wd_677, wd_674, wd_2, by decide +kernel, by decide +kernel, by decide⟩
theorem cb_C_100 : CBx "ClueLogic" 100 m_An_isNeeded 1 := ⟨wd_681, wd_678, wd_5, by decide +kernel, by decide +kernel, by decide⟩
theorem cb_Lw_50 : CBx "ClueLogicLaw" 50 m_C_cross 0 := ⟨wd_685, wd_682, wd_1, by decide +kernel, by decide +kernel, by decide⟩
theorem cb_C_107 : CBx "ClueLogic" 107 m_Cr_finish 0 := ⟨wd_689, wd_686, wd_7, by decide +kernel, by decide +kernel, by decide⟩
theorem cb_Cr_70 : CBx "ClueLogic$Crossing" 70 m_Cr_takeStep 0 := ⟨wd_693, wd_690, wd_7, by decide +kernel, by decide +kernel, by decide⟩
theorem cb_Cr_74 : CBx "ClueLogic$Crossing" 74 m_Wk_choose 1 := ⟨wd_513, wd_694, wd_6, by decide +kernel, by decide +kernel, by decide⟩
theorem cb_Cr_78 : CBx "ClueLogic$Crossing" 78 m_Pz_clueCount 0 := ⟨wd_486, wd_695, wd_2, by decide +kernel, by decide +kernel, by decide⟩
theorem cb_Cr_81 : CBx "ClueLogic$Crossing" 81 m_Pz_clue 1 := ⟨wd_555, wd_696, wd_2, by decide +kernel, by decide +kernel, by decide⟩
theorem cb_Cr_85 : CBx "ClueLogic$Crossing" 85 m_Cr_look 2 := ⟨wd_700, wd_697, wd_7, by decide +kernel, by decide +kernel, by decide⟩
theorem cb_Cr_96 : CBx "ClueLogic$Crossing" 96 m_Ar_fill 2 := ⟨wd_509, wd_701, wd_20, by decide +kernel, by decide +kernel, by decide⟩
theorem cb_Cr_102 : CBx "ClueLogic$Crossing" 102 m_Cr_openParties 0 := ⟨wd_705, wd_702, wd_7, by decide +kernel, by decide +kernel, by decide⟩
theorem cb_Cr_135 : CBx "ClueLogic$Crossing" 135 m_Cr_waysLeft 1 := ⟨wd_709, wd_706, wd_7, by decide +kernel, by decide +kernel, by decide⟩
theorem cb_Cr_105 : CBx "ClueLogic$Crossing" 105 m_Wk_start 0 := ⟨wd_529, wd_710, wd_6, by decide +kernel, by decide +kernel, by decide⟩
theorem cb_Cr_108 : CBx "ClueLogic$Crossing" 108 m_Wk_thing 0 := ⟨wd_559, wd_711, wd_6, by decide +kernel, by decide +kernel, by decide⟩
theorem cb_Cr_117 : CBx "ClueLogic$Crossing" 117 m_Cr_seeLayout 0 := ⟨wd_717, wd_714, wd_7, by decide +kernel, by decide +kernel, by decide⟩
theorem cb_Cr_126 : CBx "ClueLogic$Crossing" 126 m_Wk_order 1 := ⟨wd_537, wd_718, wd_6, by decide +kernel, by decide +kernel, by decide⟩
theorem cb_Cr_129 : CBx "ClueLogic$Crossing" 129 m_Od_ticks 1 := ⟨wd_525, wd_719, wd_3, by decide +kernel, by decide +kernel, by decide⟩
theorem cb_Cr_120 : CBx "ClueLogic$Crossing" 120 m_Wk_next 0 := ⟨wd_614, wd_720, wd_6, by decide +kernel, by decide +kernel, by decide⟩
theorem cb_Cr_89 : CBx "ClueLogic$Crossing" 89 m_Cr_countUnseen 0 := ⟨wd_724, wd_721, wd_7, by decide +kernel, by decide +kernel, by decide⟩
theorem cb_Cr_141 : CBx "ClueLogic$Crossing" 141 m_In_bitCount 1 := ⟨wd_53, wd_725, wd_4, by decide +kernel, by decide +kernel, by decide⟩
theorem cb_Cr_92 : CBx "ClueLogic$Crossing" 92 m_Cr_crossOut 2 := ⟨wd_729, wd_726, wd_7, by decide +kernel, by decide +kernel, by decide⟩
theorem cb_C_112 : CBx "ClueLogic" 112 m_Cr_steps 0 := ⟨wd_733, wd_730, wd_7, by decide +kernel, by decide +kernel, by decide⟩
theorem cb_Lw_54 : CBx "ClueLogicLaw" 54 m_C_step 2 := ⟨wd_737, wd_734, wd_1, by decide +kernel, by decide +kernel, by decide⟩
theorem cb_C_115 : CBx "ClueLogic" 115 m_Cr_clueOf 1 := ⟨wd_741, wd_738, wd_7, by decide +kernel, by decide +kernel, by decide⟩
theorem cb_C_119 : CBx "ClueLogic" 119 m_Cr_crossedBy 1 := ⟨wd_745, wd_742, wd_7, by decide +kernel, by decide +kernel, by decide⟩
theorem cb_Lw_58 : CBx "ClueLogicLaw" 58 m_C_may 2 := ⟨wd_749, wd_746, wd_1, by decide +kernel, by decide +kernel, by decide⟩
theorem cb_C_122 : CBx "ClueLogic" 122 m_Cr_valuesLeft 2 := ⟨wd_753, wd_750, wd_7, by decide +kernel, by decide +kernel, by decide⟩
theorem cb_Lw_62 : CBx "ClueLogicLaw" 62 m_C_mayBe 1 := ⟨wd_757, wd_754, wd_1, by decide +kernel, by decide +kernel, by decide⟩
theorem cb_C_126 : CBx "ClueLogic" 126 m_Cr_waysLeft 1 := ⟨wd_709, wd_758, wd_7, by decide +kernel, by decide +kernel, by decide⟩
theorem cb_Lw_12 : CBx "ClueLogicLaw" 12 m_Md_init 0 := ⟨wd_763, wd_761, wd_8, by decide +kernel, by decide +kernel, by decide⟩
theorem ob_Md_1 : Cond.methodLink "ClueLogicModel" 1 Lib.objectInit ∈ GW := wd_764
theorem cb_Md_76 : CBx "ClueLogicModel" 76 m_Md_fresh 0 := ⟨wd_769, wd_766, wd_8, by decide +kernel, by decide +kernel, by decide⟩
theorem cb_Md_95 : CBx "ClueLogicModel" 95 m_Md_all 0 := ⟨wd_773, wd_770, wd_8, by decide +kernel, by decide +kernel, by decide⟩
theorem cb_Lw_17 : CBx "ClueLogicLaw" 17 m_Md_unit 1 := ⟨wd_886, wd_883, wd_8, by decide +kernel, by decide +kernel, by decide⟩
theorem cb_Lw_22 : CBx "ClueLogicLaw" 22 m_Md_read 0 := ⟨wd_890, wd_887, wd_8, by decide +kernel, by decide +kernel, by decide⟩
theorem cb_Md_135 : CBx "ClueLogicModel" 135 m_Md_readAll 0 := ⟨wd_894, wd_891, wd_8, by decide +kernel, by decide +kernel, by decide⟩
theorem cb_Md_114 : CBx "ClueLogicModel" 114 m_Md_digit 2 := ⟨wd_898, wd_895, wd_8, by decide +kernel, by decide +kernel, by decide⟩
theorem cb_Md_104 : CBx "ClueLogicModel" 104 m_Md_byteAt 1 := ⟨wd_902, wd_899, wd_8, by decide +kernel, by decide +kernel, by decide⟩
theorem cb_Md_131 : CBx "ClueLogicModel" 131 m_Md_readClue 0 := ⟨wd_906, wd_903, wd_8, by decide +kernel, by decide +kernel, by decide⟩
theorem cb_Md_121 : CBx "ClueLogicModel" 121 m_Md_signOf 1 := ⟨wd_909, wd_907, wd_8, by decide +kernel, by decide +kernel, by decide⟩
theorem cb_Md_124 : CBx "ClueLogicModel" 124 m_Md_value 0 := ⟨wd_913, wd_910, wd_8, by decide +kernel, by decide +kernel, by decide⟩
theorem cb_Lw_27 : CBx "ClueLogicLaw" 27 m_Md_told 1 := ⟨wd_917, wd_914, wd_8, by decide +kernel, by decide +kernel, by decide⟩
theorem cb_Lw_31 : CBx "ClueLogicLaw" 31 m_Md_run 0 := ⟨wd_921, wd_918, wd_8, by decide +kernel, by decide +kernel, by decide⟩
theorem cb_Md_169 : CBx "ClueLogicModel" 169 m_Md_know 0 := ⟨wd_925, wd_922, wd_8, by decide +kernel, by decide +kernel, by decide⟩
theorem cb_Md_160 : CBx "ClueLogicModel" 160 m_Md_order 0 := ⟨wd_929, wd_926, wd_8, by decide +kernel, by decide +kernel, by decide⟩
theorem cb_Md_163 : CBx "ClueLogicModel" 163 m_Md_states 0 := ⟨wd_933, wd_930, wd_8, by decide +kernel, by decide +kernel, by decide⟩
theorem cb_Md_166 : CBx "ClueLogicModel" 166 m_Md_isSo 2 := ⟨wd_937, wd_934, wd_8, by decide +kernel, by decide +kernel, by decide⟩
theorem cb_Md_153 : CBx "ClueLogicModel" 153 m_Md_seat 2 := ⟨wd_941, wd_938, wd_8, by decide +kernel, by decide +kernel, by decide⟩
theorem cb_Md_150 : CBx "ClueLogicModel" 150 m_Md_orderOf 2 := ⟨wd_945, wd_942, wd_8, by decide +kernel, by decide +kernel, by decide⟩
theorem cb_Md_156 : CBx "ClueLogicModel" 156 m_Md_isTruthful 2 := ⟨wd_949, wd_946, wd_8, by decide +kernel, by decide +kernel, by decide⟩
theorem cb_Md_172 : CBx "ClueLogicModel" 172 m_Md_isAnswer 1 := ⟨wd_953, wd_950, wd_8, by decide +kernel, by decide +kernel, by decide⟩
theorem cb_Lw_36 : CBx "ClueLogicLaw" 36 m_Md_answer 3 := ⟨wd_957, wd_954, wd_8, by decide +kernel, by decide +kernel, by decide⟩
theorem cb_Md_176 : CBx "ClueLogicModel" 176 m_Md_isKept 1 := ⟨wd_961, wd_958, wd_8, by decide +kernel, by decide +kernel, by decide⟩
theorem cb_Md_179 : CBx "ClueLogicModel" 179 m_Md_isOf 2 := ⟨wd_965, wd_962, wd_8, by decide +kernel, by decide +kernel, by decide⟩
theorem cb_Md_182 : CBx "ClueLogicModel" 182 m_Md_valueOf 3 := ⟨wd_969, wd_966, wd_8, by decide +kernel, by decide +kernel, by decide⟩
theorem cb_Lw_41 : CBx "ClueLogicLaw" 41 m_Md_truth 2 := ⟨wd_973, wd_970, wd_8, by decide +kernel, by decide +kernel, by decide⟩
theorem cb_Md_186 : CBx "ClueLogicModel" 186 m_Md_isPerson 1 := ⟨wd_977, wd_974, wd_8, by decide +kernel, by decide +kernel, by decide⟩
theorem cb_Lw_45 : CBx "ClueLogicLaw" 45 m_Md_often 3 := ⟨wd_981, wd_978, wd_8, by decide +kernel, by decide +kernel, by decide⟩
theorem cb_Lw_49 : CBx "ClueLogicLaw" 49 m_Md_spare 1 := ⟨wd_985, wd_982, wd_8, by decide +kernel, by decide +kernel, by decide⟩
theorem cb_Lw_53 : CBx "ClueLogicLaw" 53 m_Md_cross 0 := ⟨wd_989, wd_986, wd_8, by decide +kernel, by decide +kernel, by decide⟩
theorem cb_Md_195 : CBx "ClueLogicModel" 195 m_Md_crossBy 1 := ⟨wd_993, wd_990, wd_8, by decide +kernel, by decide +kernel, by decide⟩
theorem cb_Md_189 : CBx "ClueLogicModel" 189 m_Md_isOpen 1 := ⟨wd_997, wd_994, wd_8, by decide +kernel, by decide +kernel, by decide⟩
theorem cb_Md_192 : CBx "ClueLogicModel" 192 m_Md_countOf 1 := ⟨wd_1000, wd_998, wd_8, by decide +kernel, by decide +kernel, by decide⟩
theorem cb_Lw_57 : CBx "ClueLogicLaw" 57 m_Md_step 2 := ⟨wd_1004, wd_1001, wd_8, by decide +kernel, by decide +kernel, by decide⟩
theorem cb_Lw_61 : CBx "ClueLogicLaw" 61 m_Md_may 2 := ⟨wd_1008, wd_1005, wd_8, by decide +kernel, by decide +kernel, by decide⟩
theorem cb_Lw_65 : CBx "ClueLogicLaw" 65 m_Md_mayBe 1 := ⟨wd_1012, wd_1009, wd_8, by decide +kernel, by decide +kernel, by decide⟩
theorem iv_C_init : m_C_init.1.name = "<init>" ∧ m_C_init.2.2.2 = none ∧ Cond.instanceMethod m_C_init.1 ∈ GW := ⟨rfl, rfl, wd_24⟩
theorem iv_Ob_init : m_Ob_init.1.name = "<init>" ∧ m_Ob_init.2.2.2 = none ∧ Cond.instanceMethod m_Ob_init.1 ∈ GW := ⟨rfl, rfl, wd_27⟩
theorem iv_Pz_init : m_Pz_init.1.name = "<init>" ∧ m_Pz_init.2.2.2 = none ∧ Cond.instanceMethod m_Pz_init.1 ∈ GW := ⟨rfl, rfl, wd_32⟩
theorem iv_Od_init : m_Od_init.1.name = "<init>" ∧ m_Od_init.2.2.2 = none ∧ Cond.instanceMethod m_Od_init.1 ∈ GW := ⟨rfl, rfl, wd_40⟩
theorem vv_Od_fill : Cond.instanceMethod m_Od_fill.1 ∈ GW ∧ Cond.selects m_Od_fill.1.cls m_Od_fill.1 m_Od_fill.1 ∈ GW := ⟨wd_45, sp_0⟩
theorem vv_Od_add : Cond.instanceMethod m_Od_add.1 ∈ GW ∧ Cond.selects m_Od_add.1.cls m_Od_add.1 m_Od_add.1 ∈ GW := ⟨wd_49, sp_1⟩
theorem sv_In_bitCount : Cond.static m_In_bitCount.1 ∈ GW := wd_52
theorem vv_C_begin : Cond.instanceMethod m_C_begin.1 ∈ GW ∧ Cond.selects m_C_begin.1.cls m_C_begin.1 m_C_begin.1 ∈ GW := ⟨wd_95, sp_2⟩
theorem iv_An_init : m_An_init.1.name = "<init>" ∧ m_An_init.2.2.2 = none ∧ Cond.instanceMethod m_An_init.1 ∈ GW := ⟨rfl, rfl, wd_100⟩
theorem iv_Wk_init : m_Wk_init.1.name = "<init>" ∧ m_Wk_init.2.2.2 = none ∧ Cond.instanceMethod m_Wk_init.1 ∈ GW := ⟨rfl, rfl, wd_106⟩
theorem vv_Pz_orders : Cond.instanceMethod m_Pz_orders.1 ∈ GW ∧ Cond.selects m_Pz_orders.1.cls m_Pz_orders.1 m_Pz_orders.1 ∈ GW := ⟨wd_110, wd_111⟩
theorem vv_Pz_kinds : Cond.instanceMethod m_Pz_kinds.1 ∈ GW ∧ Cond.selects m_Pz_kinds.1.cls m_Pz_kinds.1 m_Pz_kinds.1 ∈ GW := ⟨wd_114, wd_115⟩
theorem iv_Cr_init : m_Cr_init.1.name = "<init>" ∧ m_Cr_init.2.2.2 = none ∧ Cond.instanceMethod m_Cr_init.1 ∈ GW := ⟨rfl, rfl, wd_171⟩
theorem vv_Od_allTicks : Cond.instanceMethod m_Od_allTicks.1 ∈ GW ∧ Cond.selects m_Od_allTicks.1.cls m_Od_allTicks.1 m_Od_allTicks.1 ∈ GW := ⟨wd_179, wd_180⟩
theorem vv_Pz_parties : Cond.instanceMethod m_Pz_parties.1 ∈ GW ∧ Cond.selects m_Pz_parties.1.cls m_Pz_parties.1 m_Pz_parties.1 ∈ GW := ⟨wd_183, wd_184⟩
theorem vv_Cr_waysIn : Cond.instanceMethod m_Cr_waysIn.1 ∈ GW ∧ Cond.selects m_Cr_waysIn.1.cls m_Cr_waysIn.1 m_Cr_waysIn.1 ∈ GW := ⟨wd_190, sp_3⟩
theorem vv_Pz_persons : Cond.instanceMethod m_Pz_persons.1 ∈ GW ∧ Cond.selects m_Pz_persons.1.cls m_Pz_persons.1 m_Pz_persons.1 ∈ GW := ⟨wd_193, wd_194⟩
theorem vv_C_unit : Cond.instanceMethod m_C_unit.1 ∈ GW ∧ Cond.selects m_C_unit.1.cls m_C_unit.1 m_C_unit.1 ∈ GW := ⟨wd_249, wd_250⟩
theorem vv_C_read : Cond.instanceMethod m_C_read.1 ∈ GW ∧ Cond.selects m_C_read.1.cls m_C_read.1 m_C_read.1 ∈ GW := ⟨wd_253, wd_254⟩
theorem iv_Rd_init : m_Rd_init.1.name = "<init>" ∧ m_Rd_init.2.2.2 = none ∧ Cond.instanceMethod m_Rd_init.1 ∈ GW := ⟨rfl, rfl, wd_259⟩
theorem vv_Rd_puzzle : Cond.instanceMethod m_Rd_puzzle.1 ∈ GW ∧ Cond.selects m_Rd_puzzle.1.cls m_Rd_puzzle.1 m_Rd_puzzle.1 ∈ GW := ⟨wd_285, wd_286⟩
theorem vv_Rd_passHead : Cond.instanceMethod m_Rd_passHead.1 ∈ GW ∧ Cond.selects m_Rd_passHead.1.cls m_Rd_passHead.1 m_Rd_passHead.1 ∈ GW := ⟨wd_290, sp_4⟩
theorem vv_Rd_take : Cond.instanceMethod m_Rd_take.1 ∈ GW ∧ Cond.selects m_Rd_take.1.cls m_Rd_take.1 m_Rd_take.1 ∈ GW := ⟨wd_294, sp_5⟩
theorem vv_Rd_passSemicolon : Cond.instanceMethod m_Rd_passSemicolon.1 ∈ GW ∧ Cond.selects m_Rd_passSemicolon.1.cls m_Rd_passSemicolon.1 m_Rd_passSemicolon.1 ∈ GW := ⟨wd_298, sp_6⟩
theorem vv_Rd_clue : Cond.instanceMethod m_Rd_clue.1 ∈ GW ∧ Cond.selects m_Rd_clue.1.cls m_Rd_clue.1 m_Rd_clue.1 ∈ GW := ⟨wd_304, sp_7⟩
theorem vv_St_indexOf : Cond.instanceMethod m_St_indexOf.1 ∈ GW ∧ Cond.selects m_St_indexOf.1.cls m_St_indexOf.1 m_St_indexOf.1 ∈ GW := ⟨wd_308, wd_309⟩
theorem vv_St_indexOf2 : Cond.instanceMethod m_St_indexOf2.1 ∈ GW ∧ Cond.selects m_St_indexOf2.1.cls m_St_indexOf2.1 m_St_indexOf2.1 ∈ GW := ⟨wd_312, wd_313⟩
theorem vv_St_isLatin1 : Cond.instanceMethod m_St_isLatin1.1 ∈ GW ∧ Cond.selects m_St_isLatin1.1.cls m_St_isLatin1.1 m_St_isLatin1.1 ∈ GW := ⟨wd_316, wd_317⟩
theorem vv_St_length : Cond.instanceMethod m_St_length.1 ∈ GW ∧ Cond.selects m_St_length.1.cls m_St_length.1 m_St_length.1 ∈ GW := ⟨wd_322, wd_323⟩
theorem vv_St_coder : Cond.instanceMethod m_St_coder.1 ∈ GW ∧ Cond.selects m_St_coder.1.cls m_St_coder.1 m_St_coder.1 ∈ GW := ⟨wd_326, wd_327⟩
theorem sv_Sl_indexOf : Cond.static m_Sl_indexOf.1 ∈ GW := wd_330
theorem sv_Sl_canEncode : Cond.static m_Sl_canEncode.1 ∈ GW := wd_333
theorem sv_Ma_max : Cond.static m_Ma_max.1 ∈ GW := wd_336
theorem sv_Ma_min : Cond.static m_Ma_min.1 ∈ GW := wd_339
theorem sv_Sl_indexOfChar : Cond.static m_Sl_indexOfChar.1 ∈ GW := wd_342
theorem sv_Su_indexOf : Cond.static m_Su_indexOf.1 ∈ GW := wd_345
theorem sv_Su_indexOfChar : Cond.static m_Su_indexOfChar.1 ∈ GW := wd_351
theorem sv_Su_checkBoundsBeginEnd : Cond.static m_Su_checkBoundsBeginEnd.1 ∈ GW := wd_354
theorem sv_Su_length : Cond.static m_Su_length.1 ∈ GW := wd_357
theorem sv_St_checkBoundsBeginEnd : Cond.static m_St_checkBoundsBeginEnd.1 ∈ GW := wd_360
theorem sv_Pr_checkFromToIndex : Cond.static m_Pr_checkFromToIndex.1 ∈ GW := wd_365
theorem sv_Su_indexOfCharUnsafe : Cond.static m_Su_indexOfCharUnsafe.1 ∈ GW := wd_368
theorem sv_Su_getChar : Cond.static m_Su_getChar.1 ∈ GW := wd_371
theorem sv_Su_indexOfSupplementary : Cond.static m_Su_indexOfSupplementary.1 ∈ GW := wd_380
theorem sv_Ch_isValidCodePoint : Cond.static m_Ch_isValidCodePoint.1 ∈ GW := wd_383
theorem sv_Ch_highSurrogate : Cond.static m_Ch_highSurrogate.1 ∈ GW := wd_386
theorem sv_Ch_lowSurrogate : Cond.static m_Ch_lowSurrogate.1 ∈ GW := wd_390
theorem vv_Rd_ofPerson : Cond.instanceMethod m_Rd_ofPerson.1 ∈ GW ∧ Cond.selects m_Rd_ofPerson.1.cls m_Rd_ofPerson.1 m_Rd_ofPerson.1 ∈ GW := ⟨wd_395, sp_8⟩
theorem iv_Op_init : m_Op_init.1.name = "<init>" ∧ m_Op_init.2.2.2 = none ∧ Cond.instanceMethod m_Op_init.1 ∈ GW := ⟨rfl, rfl, wd_400⟩
theorem vv_Rd_saying : Cond.instanceMethod m_Rd_saying.1 ∈ GW ∧ Cond.selects m_Rd_saying.1.cls m_Rd_saying.1 m_Rd_saying.1 ∈ GW := ⟨wd_411, sp_9⟩
theorem vv_Rd_turned : Cond.instanceMethod m_Rd_turned.1 ∈ GW ∧ Cond.selects m_Rd_turned.1.cls m_Rd_turned.1 m_Rd_turned.1 ∈ GW := ⟨wd_416, sp_10⟩
theorem iv_Tu_init : m_Tu_init.1.name = "<init>" ∧ m_Tu_init.2.2.2 = none ∧ Cond.instanceMethod m_Tu_init.1 ∈ GW := ⟨rfl, rfl, wd_421⟩
theorem vv_Rd_joined : Cond.instanceMethod m_Rd_joined.1 ∈ GW ∧ Cond.selects m_Rd_joined.1.cls m_Rd_joined.1 m_Rd_joined.1 ∈ GW := ⟨wd_433, sp_11⟩
theorem iv_Jo_init : m_Jo_init.1.name = "<init>" ∧ m_Jo_init.2.2.2 = none ∧ Cond.instanceMethod m_Jo_init.1 ∈ GW := ⟨rfl, rfl, wd_438⟩
theorem vv_Rd_ofValues : Cond.instanceMethod m_Rd_ofValues.1 ∈ GW ∧ Cond.selects m_Rd_ofValues.1.cls m_Rd_ofValues.1 m_Rd_ofValues.1 ∈ GW := ⟨wd_453, sp_12⟩
theorem vv_Rd_takeValue : Cond.instanceMethod m_Rd_takeValue.1 ∈ GW ∧ Cond.selects m_Rd_takeValue.1.cls m_Rd_takeValue.1 m_Rd_takeValue.1 ∈ GW := ⟨wd_457, sp_13⟩
theorem iv_Ov_init : m_Ov_init.1.name = "<init>" ∧ m_Ov_init.2.2.2 = none ∧ Cond.instanceMethod m_Ov_init.1 ∈ GW := ⟨rfl, rfl, wd_462⟩
theorem vv_Pz_add : Cond.instanceMethod m_Pz_add.1 ∈ GW ∧ Cond.selects m_Pz_add.1.cls m_Pz_add.1 m_Pz_add.1 ∈ GW := ⟨wd_476, wd_477⟩
theorem vv_Rd_place : Cond.instanceMethod m_Rd_place.1 ∈ GW ∧ Cond.selects m_Rd_place.1.cls m_Rd_place.1 m_Rd_place.1 ∈ GW := ⟨wd_480, wd_481⟩
theorem vv_Pz_clueCount : Cond.instanceMethod m_Pz_clueCount.1 ∈ GW ∧ Cond.selects m_Pz_clueCount.1.cls m_Pz_clueCount.1 m_Pz_clueCount.1 ∈ GW := ⟨wd_484, wd_485⟩
theorem vv_C_told : Cond.instanceMethod m_C_told.1 ∈ GW ∧ Cond.selects m_C_told.1.cls m_C_told.1 m_C_told.1 ∈ GW := ⟨wd_488, wd_489⟩
theorem vv_Pz_things : Cond.instanceMethod m_Pz_things.1 ∈ GW ∧ Cond.selects m_Pz_things.1.cls m_Pz_things.1 m_Pz_things.1 ∈ GW := ⟨wd_492, wd_493⟩
theorem vv_C_run : Cond.instanceMethod m_C_run.1 ∈ GW ∧ Cond.selects m_C_run.1.cls m_C_run.1 m_C_run.1 ∈ GW := ⟨wd_498, wd_499⟩
theorem vv_An_find : Cond.instanceMethod m_An_find.1 ∈ GW ∧ Cond.selects m_An_find.1.cls m_An_find.1 m_An_find.1 ∈ GW := ⟨wd_502, wd_503⟩
theorem sv_Ar_fill : Cond.static m_Ar_fill.1 ∈ GW := wd_508
theorem vv_Wk_choose : Cond.instanceMethod m_Wk_choose.1 ∈ GW ∧ Cond.selects m_Wk_choose.1.cls m_Wk_choose.1 m_Wk_choose.1 ∈ GW := ⟨wd_511, wd_512⟩
theorem vv_Wk_chooseOrders : Cond.instanceMethod m_Wk_chooseOrders.1 ∈ GW ∧ Cond.selects m_Wk_chooseOrders.1.cls m_Wk_chooseOrders.1 m_Wk_chooseOrders.1 ∈ GW := ⟨wd_516, sp_14⟩
theorem vv_Od_count : Cond.instanceMethod m_Od_count.1 ∈ GW ∧ Cond.selects m_Od_count.1.cls m_Od_count.1 m_Od_count.1 ∈ GW := ⟨wd_519, wd_520⟩
theorem vv_Od_ticks : Cond.instanceMethod m_Od_ticks.1 ∈ GW ∧ Cond.selects m_Od_ticks.1.cls m_Od_ticks.1 m_Od_ticks.1 ∈ GW := ⟨wd_523, wd_524⟩
theorem vv_Wk_start : Cond.instanceMethod m_Wk_start.1 ∈ GW ∧ Cond.selects m_Wk_start.1.cls m_Wk_start.1 m_Wk_start.1 ∈ GW := ⟨wd_527, wd_528⟩
theorem vv_Wk_go : Cond.instanceMethod m_Wk_go.1 ∈ GW ∧ Cond.selects m_Wk_go.1.cls m_Wk_go.1 m_Wk_go.1 ∈ GW := ⟨wd_532, sp_15⟩
theorem vv_Wk_order : Cond.instanceMethod m_Wk_order.1 ∈ GW ∧ Cond.selects m_Wk_order.1.cls m_Wk_order.1 m_Wk_order.1 ∈ GW := ⟨wd_535, wd_536⟩
theorem vv_Od_things : Cond.instanceMethod m_Od_things.1 ∈ GW ∧ Cond.selects m_Od_things.1.cls m_Od_things.1 m_Od_things.1 ∈ GW := ⟨wd_539, wd_540⟩
theorem vv_Od_value : Cond.instanceMethod m_Od_value.1 ∈ GW ∧ Cond.selects m_Od_value.1.cls m_Od_value.1 m_Od_value.1 ∈ GW := ⟨wd_543, wd_544⟩
theorem vv_An_weigh : Cond.instanceMethod m_An_weigh.1 ∈ GW ∧ Cond.selects m_An_weigh.1.cls m_An_weigh.1 m_An_weigh.1 ∈ GW := ⟨wd_548, sp_16⟩
theorem vv_Pz_clue : Cond.instanceMethod m_Pz_clue.1 ∈ GW ∧ Cond.selects m_Pz_clue.1.cls m_Pz_clue.1 m_Pz_clue.1 ∈ GW := ⟨wd_553, wd_554⟩
theorem vv_Wk_thing : Cond.instanceMethod m_Wk_thing.1 ∈ GW ∧ Cond.selects m_Wk_thing.1.cls m_Wk_thing.1 m_Wk_thing.1 ∈ GW := ⟨wd_557, wd_558⟩
theorem hv_Jo_holds : Cond.code m_Jo_holds.1 m_Jo_holds.2.1 m_Jo_holds.2.2.1 m_Jo_holds.2.2.2 ∈ GW ∧ Cond.selects m_Jo_holds.1.cls xHolds m_Jo_holds.1 ∈ GW ∧ Cond.instanceMethod m_Jo_holds.1 ∈ GW ∧ Cond.initialized m_Jo_holds.1.cls ∈ GW := ⟨wd_569, wd_565, wd_567, wd_18⟩
theorem hv_Op_holds : Cond.code m_Op_holds.1 m_Op_holds.2.1 m_Op_holds.2.2.1 m_Op_holds.2.2.2 ∈ GW ∧ Cond.selects m_Op_holds.1.cls xHolds m_Op_holds.1 ∈ GW ∧ Cond.instanceMethod m_Op_holds.1 ∈ GW ∧ Cond.initialized m_Op_holds.1.cls ∈ GW := ⟨wd_577, wd_573, wd_575, wd_16⟩
theorem hv_Ov_holds : Cond.code m_Ov_holds.1 m_Ov_holds.2.1 m_Ov_holds.2.2.1 m_Ov_holds.2.2.2 ∈ GW ∧ Cond.selects m_Ov_holds.1.cls xHolds m_Ov_holds.1 ∈ GW ∧ Cond.instanceMethod m_Ov_holds.1 ∈ GW ∧ Cond.initialized m_Ov_holds.1.cls ∈ GW := ⟨wd_583, wd_579, wd_581, wd_19⟩
theorem vv_Ov_relates : Cond.instanceMethod m_Ov_relates.1 ∈ GW ∧ Cond.selects m_Ov_relates.1.cls m_Ov_relates.1 m_Ov_relates.1 ∈ GW := ⟨wd_586, sp_17⟩
theorem hv_Tu_holds : Cond.code m_Tu_holds.1 m_Tu_holds.2.1 m_Tu_holds.2.2.1 m_Tu_holds.2.2.2 ∈ GW ∧ Cond.selects m_Tu_holds.1.cls xHolds m_Tu_holds.1 ∈ GW ∧ Cond.instanceMethod m_Tu_holds.1 ∈ GW ∧ Cond.initialized m_Tu_holds.1.cls ∈ GW := ⟨wd_593, wd_589, wd_591, wd_17⟩
theorem vv_An_add : Cond.instanceMethod m_An_add.1 ∈ GW ∧ Cond.selects m_An_add.1.cls m_An_add.1 m_An_add.1 ∈ GW := ⟨wd_598, sp_18⟩
theorem vv_An_keep : Cond.instanceMethod m_An_keep.1 ∈ GW ∧ Cond.selects m_An_keep.1.cls m_An_keep.1 m_An_keep.1 ∈ GW := ⟨wd_605, sp_19⟩
theorem vv_An_need : Cond.instanceMethod m_An_need.1 ∈ GW ∧ Cond.selects m_An_need.1.cls m_An_need.1 m_An_need.1 ∈ GW := ⟨wd_609, sp_20⟩
theorem vv_Wk_next : Cond.instanceMethod m_Wk_next.1 ∈ GW ∧ Cond.selects m_Wk_next.1.cls m_Wk_next.1 m_Wk_next.1 ∈ GW := ⟨wd_612, wd_613⟩
theorem vv_An_count : Cond.instanceMethod m_An_count.1 ∈ GW ∧ Cond.selects m_An_count.1.cls m_An_count.1 m_An_count.1 ∈ GW := ⟨wd_616, wd_617⟩
theorem vv_C_answer : Cond.instanceMethod m_C_answer.1 ∈ GW ∧ Cond.selects m_C_answer.1.cls m_C_answer.1 m_C_answer.1 ∈ GW := ⟨wd_620, wd_621⟩
theorem vv_C_isKept : Cond.instanceMethod m_C_isKept.1 ∈ GW ∧ Cond.selects m_C_isKept.1.cls m_C_isKept.1 m_C_isKept.1 ∈ GW := ⟨wd_625, sp_21⟩
theorem vv_An_kept : Cond.instanceMethod m_An_kept.1 ∈ GW ∧ Cond.selects m_An_kept.1.cls m_An_kept.1 m_An_kept.1 ∈ GW := ⟨wd_628, wd_629⟩
theorem vv_Pz_hasThing : Cond.instanceMethod m_Pz_hasThing.1 ∈ GW ∧ Cond.selects m_Pz_hasThing.1.cls m_Pz_hasThing.1 m_Pz_hasThing.1 ∈ GW := ⟨wd_632, wd_633⟩
theorem vv_Pz_hasKind : Cond.instanceMethod m_Pz_hasKind.1 ∈ GW ∧ Cond.selects m_Pz_hasKind.1.cls m_Pz_hasKind.1 m_Pz_hasKind.1 ∈ GW := ⟨wd_636, wd_637⟩
theorem vv_An_value : Cond.instanceMethod m_An_value.1 ∈ GW ∧ Cond.selects m_An_value.1.cls m_An_value.1 m_An_value.1 ∈ GW := ⟨wd_640, wd_641⟩
theorem vv_C_truth : Cond.instanceMethod m_C_truth.1 ∈ GW ∧ Cond.selects m_C_truth.1.cls m_C_truth.1 m_C_truth.1 ∈ GW := ⟨wd_645, wd_646⟩
theorem vv_Pz_hasPerson : Cond.instanceMethod m_Pz_hasPerson.1 ∈ GW ∧ Cond.selects m_Pz_hasPerson.1.cls m_Pz_hasPerson.1 m_Pz_hasPerson.1 ∈ GW := ⟨wd_649, wd_650⟩
theorem vv_An_isTruthful : Cond.instanceMethod m_An_isTruthful.1 ∈ GW ∧ Cond.selects m_An_isTruthful.1.cls m_An_isTruthful.1 m_An_isTruthful.1 ∈ GW := ⟨wd_653, wd_654⟩
theorem vv_C_often : Cond.instanceMethod m_C_often.1 ∈ GW ∧ Cond.selects m_C_often.1.cls m_C_often.1 m_C_often.1 ∈ GW := ⟨wd_658, wd_659⟩
theorem vv_Pz_hasValue : Cond.instanceMethod m_Pz_hasValue.1 ∈ GW ∧ Cond.selects m_Pz_hasValue.1.cls m_Pz_hasValue.1 m_Pz_hasValue.1 ∈ GW := ⟨wd_662, wd_663⟩
theorem vv_An_countWith : Cond.instanceMethod m_An_countWith.1 ∈ GW ∧ Cond.selects m_An_countWith.1.cls m_An_countWith.1 m_An_countWith.1 ∈ GW := ⟨wd_666, wd_667⟩
theorem vv_C_spare : Cond.instanceMethod m_C_spare.1 ∈ GW ∧ Cond.selects m_C_spare.1.cls m_C_spare.1 m_C_spare.1 ∈ GW := ⟨wd_671, wd_672⟩
theorem vv_Pz_hasClue : Cond.instanceMethod m_Pz_hasClue.1 ∈ GW ∧ Cond.selects m_Pz_hasClue.1.cls m_Pz_hasClue.1 m_Pz_hasClue.1 ∈ GW := ⟨wd_675, wd_676⟩
theorem vv_An_isNeeded : Cond.instanceMethod m_An_isNeeded.1 ∈ GW ∧ Cond.selects m_An_isNeeded.1.cls m_An_isNeeded.1 m_An_isNeeded.1 ∈ GW := ⟨wd_679, wd_680⟩
theorem vv_C_cross : Cond.instanceMethod m_C_cross.1 ∈ GW ∧ Cond.selects m_C_cross.1.cls m_C_cross.1 m_C_cross.1 ∈ GW := ⟨wd_683, wd_684⟩
theorem vv_Cr_finish : Cond.instanceMethod m_Cr_finish.1 ∈ GW ∧ Cond.selects m_Cr_finish.1.cls m_Cr_finish.1 m_Cr_finish.1 ∈ GW := ⟨wd_687, wd_688⟩
theorem vv_Cr_takeStep : Cond.instanceMethod m_Cr_takeStep.1 ∈ GW ∧ Cond.selects m_Cr_takeStep.1.cls m_Cr_takeStep.1 m_Cr_takeStep.1 ∈ GW := ⟨wd_692, sp_22⟩
theorem vv_Cr_look : Cond.instanceMethod m_Cr_look.1 ∈ GW ∧ Cond.selects m_Cr_look.1.cls m_Cr_look.1 m_Cr_look.1 ∈ GW := ⟨wd_699, sp_23⟩
theorem vv_Cr_openParties : Cond.instanceMethod m_Cr_openParties.1 ∈ GW ∧ Cond.selects m_Cr_openParties.1.cls m_Cr_openParties.1 m_Cr_openParties.1 ∈ GW := ⟨wd_704, sp_24⟩
theorem vv_Cr_waysLeft : Cond.instanceMethod m_Cr_waysLeft.1 ∈ GW ∧ Cond.selects m_Cr_waysLeft.1.cls m_Cr_waysLeft.1 m_Cr_waysLeft.1 ∈ GW := ⟨wd_707, wd_708⟩
theorem vv_Cr_seeLayout : Cond.instanceMethod m_Cr_seeLayout.1 ∈ GW ∧ Cond.selects m_Cr_seeLayout.1.cls m_Cr_seeLayout.1 m_Cr_seeLayout.1 ∈ GW := ⟨wd_716, sp_25⟩
theorem vv_Cr_countUnseen : Cond.instanceMethod m_Cr_countUnseen.1 ∈ GW ∧ Cond.selects m_Cr_countUnseen.1.cls m_Cr_countUnseen.1 m_Cr_countUnseen.1 ∈ GW := ⟨wd_723, sp_26⟩
theorem vv_Cr_crossOut : Cond.instanceMethod m_Cr_crossOut.1 ∈ GW ∧ Cond.selects m_Cr_crossOut.1.cls m_Cr_crossOut.1 m_Cr_crossOut.1 ∈ GW := ⟨wd_728, sp_27⟩
theorem vv_Cr_steps : Cond.instanceMethod m_Cr_steps.1 ∈ GW ∧ Cond.selects m_Cr_steps.1.cls m_Cr_steps.1 m_Cr_steps.1 ∈ GW := ⟨wd_731, wd_732⟩
theorem vv_C_step : Cond.instanceMethod m_C_step.1 ∈ GW ∧ Cond.selects m_C_step.1.cls m_C_step.1 m_C_step.1 ∈ GW := ⟨wd_735, wd_736⟩
theorem vv_Cr_clueOf : Cond.instanceMethod m_Cr_clueOf.1 ∈ GW ∧ Cond.selects m_Cr_clueOf.1.cls m_Cr_clueOf.1 m_Cr_clueOf.1 ∈ GW := ⟨wd_739, wd_740⟩
theorem vv_Cr_crossedBy : Cond.instanceMethod m_Cr_crossedBy.1 ∈ GW ∧ Cond.selects m_Cr_crossedBy.1.cls m_Cr_crossedBy.1 m_Cr_crossedBy.1 ∈ GW := ⟨wd_743, wd_744⟩
theorem vv_C_may : Cond.instanceMethod m_C_may.1 ∈ GW ∧ Cond.selects m_C_may.1.cls m_C_may.1 m_C_may.1 ∈ GW := ⟨wd_747, wd_748⟩
theorem vv_Cr_valuesLeft : Cond.instanceMethod m_Cr_valuesLeft.1 ∈ GW ∧ Cond.selects m_Cr_valuesLeft.1.cls m_Cr_valuesLeft.1 m_Cr_valuesLeft.1 ∈ GW := ⟨wd_751, wd_752⟩
theorem vv_C_mayBe : Cond.instanceMethod m_C_mayBe.1 ∈ GW ∧ Cond.selects m_C_mayBe.1.cls m_C_mayBe.1 m_C_mayBe.1 ∈ GW := ⟨wd_755, wd_756⟩
theorem iv_Md_init : m_Md_init.1.name = "<init>" ∧ m_Md_init.2.2.2 = none ∧ Cond.instanceMethod m_Md_init.1 ∈ GW := ⟨rfl, rfl, wd_762⟩
theorem vv_Md_fresh : Cond.instanceMethod m_Md_fresh.1 ∈ GW ∧ Cond.selects m_Md_fresh.1.cls m_Md_fresh.1 m_Md_fresh.1 ∈ GW := ⟨wd_768, sp_28⟩
theorem vv_Md_all : Cond.instanceMethod m_Md_all.1 ∈ GW ∧ Cond.selects m_Md_all.1.cls m_Md_all.1 m_Md_all.1 ∈ GW := ⟨wd_772, sp_29⟩
theorem vv_Md_unit : Cond.instanceMethod m_Md_unit.1 ∈ GW ∧ Cond.selects m_Md_unit.1.cls m_Md_unit.1 m_Md_unit.1 ∈ GW := ⟨wd_884, wd_885⟩
theorem vv_Md_read : Cond.instanceMethod m_Md_read.1 ∈ GW ∧ Cond.selects m_Md_read.1.cls m_Md_read.1 m_Md_read.1 ∈ GW := ⟨wd_888, wd_889⟩
theorem vv_Md_readAll : Cond.instanceMethod m_Md_readAll.1 ∈ GW ∧ Cond.selects m_Md_readAll.1.cls m_Md_readAll.1 m_Md_readAll.1 ∈ GW := ⟨wd_893, sp_30⟩
theorem vv_Md_digit : Cond.instanceMethod m_Md_digit.1 ∈ GW ∧ Cond.selects m_Md_digit.1.cls m_Md_digit.1 m_Md_digit.1 ∈ GW := ⟨wd_897, sp_31⟩
theorem vv_Md_byteAt : Cond.instanceMethod m_Md_byteAt.1 ∈ GW ∧ Cond.selects m_Md_byteAt.1.cls m_Md_byteAt.1 m_Md_byteAt.1 ∈ GW := ⟨wd_901, sp_32⟩
theorem vv_Md_readClue : Cond.instanceMethod m_Md_readClue.1 ∈ GW ∧ Cond.selects m_Md_readClue.1.cls m_Md_readClue.1 m_Md_readClue.1 ∈ GW := ⟨wd_905, sp_33⟩
theorem sv_Md_signOf : Cond.static m_Md_signOf.1 ∈ GW := wd_908
theorem vv_Md_value : Cond.instanceMethod m_Md_value.1 ∈ GW ∧ Cond.selects m_Md_value.1.cls m_Md_value.1 m_Md_value.1 ∈ GW := ⟨wd_912, sp_34⟩
theorem vv_Md_told : Cond.instanceMethod m_Md_told.1 ∈ GW ∧ Cond.selects m_Md_told.1.cls m_Md_told.1 m_Md_told.1 ∈ GW := ⟨wd_915, wd_916⟩
theorem vv_Md_run : Cond.instanceMethod m_Md_run.1 ∈ GW ∧ Cond.selects m_Md_run.1.cls m_Md_run.1 m_Md_run.1 ∈ GW := ⟨wd_919, wd_920⟩
theorem vv_Md_know : Cond.instanceMethod m_Md_know.1 ∈ GW ∧ Cond.selects m_Md_know.1.cls m_Md_know.1 m_Md_know.1 ∈ GW := ⟨wd_924, sp_35⟩
theorem vv_Md_order : Cond.instanceMethod m_Md_order.1 ∈ GW ∧ Cond.selects m_Md_order.1.cls m_Md_order.1 m_Md_order.1 ∈ GW := ⟨wd_928, sp_36⟩
theorem vv_Md_states : Cond.instanceMethod m_Md_states.1 ∈ GW ∧ Cond.selects m_Md_states.1.cls m_Md_states.1 m_Md_states.1 ∈ GW := ⟨wd_932, sp_37⟩
theorem vv_Md_isSo : Cond.instanceMethod m_Md_isSo.1 ∈ GW ∧ Cond.selects m_Md_isSo.1.cls m_Md_isSo.1 m_Md_isSo.1 ∈ GW := ⟨wd_936, sp_38⟩
theorem vv_Md_seat : Cond.instanceMethod m_Md_seat.1 ∈ GW ∧ Cond.selects m_Md_seat.1.cls m_Md_seat.1 m_Md_seat.1 ∈ GW := ⟨wd_940, sp_39⟩
theorem vv_Md_orderOf : Cond.instanceMethod m_Md_orderOf.1 ∈ GW ∧ Cond.selects m_Md_orderOf.1.cls m_Md_orderOf.1 m_Md_orderOf.1 ∈ GW := ⟨wd_944, sp_40⟩
theorem vv_Md_isTruthful : Cond.instanceMethod m_Md_isTruthful.1 ∈ GW ∧ Cond.selects m_Md_isTruthful.1.cls m_Md_isTruthful.1 m_Md_isTruthful.1 ∈ GW := ⟨wd_948, sp_41⟩
theorem vv_Md_isAnswer : Cond.instanceMethod m_Md_isAnswer.1 ∈ GW ∧ Cond.selects m_Md_isAnswer.1.cls m_Md_isAnswer.1 m_Md_isAnswer.1 ∈ GW := ⟨wd_952, sp_42⟩
theorem vv_Md_answer : Cond.instanceMethod m_Md_answer.1 ∈ GW ∧ Cond.selects m_Md_answer.1.cls m_Md_answer.1 m_Md_answer.1 ∈ GW := ⟨wd_955, wd_956⟩
theorem vv_Md_isKept : Cond.instanceMethod m_Md_isKept.1 ∈ GW ∧ Cond.selects m_Md_isKept.1.cls m_Md_isKept.1 m_Md_isKept.1 ∈ GW := ⟨wd_960, sp_43⟩
theorem vv_Md_isOf : Cond.instanceMethod m_Md_isOf.1 ∈ GW ∧ Cond.selects m_Md_isOf.1.cls m_Md_isOf.1 m_Md_isOf.1 ∈ GW := ⟨wd_964, sp_44⟩
theorem vv_Md_valueOf : Cond.instanceMethod m_Md_valueOf.1 ∈ GW ∧ Cond.selects m_Md_valueOf.1.cls m_Md_valueOf.1 m_Md_valueOf.1 ∈ GW := ⟨wd_968, sp_45⟩
theorem vv_Md_truth : Cond.instanceMethod m_Md_truth.1 ∈ GW ∧ Cond.selects m_Md_truth.1.cls m_Md_truth.1 m_Md_truth.1 ∈ GW := ⟨wd_971, wd_972⟩
theorem vv_Md_isPerson : Cond.instanceMethod m_Md_isPerson.1 ∈ GW ∧ Cond.selects m_Md_isPerson.1.cls m_Md_isPerson.1 m_Md_isPerson.1 ∈ GW := ⟨wd_976, sp_46⟩
theorem vv_Md_often : Cond.instanceMethod m_Md_often.1 ∈ GW ∧ Cond.selects m_Md_often.1.cls m_Md_often.1 m_Md_often.1 ∈ GW := ⟨wd_979, wd_980⟩
theorem vv_Md_spare : Cond.instanceMethod m_Md_spare.1 ∈ GW ∧ Cond.selects m_Md_spare.1.cls m_Md_spare.1 m_Md_spare.1 ∈ GW := ⟨wd_983, wd_984⟩
theorem vv_Md_cross : Cond.instanceMethod m_Md_cross.1 ∈ GW ∧ Cond.selects m_Md_cross.1.cls m_Md_cross.1 m_Md_cross.1 ∈ GW := ⟨wd_987, wd_988⟩
theorem vv_Md_crossBy : Cond.instanceMethod m_Md_crossBy.1 ∈ GW ∧ Cond.selects m_Md_crossBy.1.cls m_Md_crossBy.1 m_Md_crossBy.1 ∈ GW := ⟨wd_992, sp_47⟩
theorem vv_Md_isOpen : Cond.instanceMethod m_Md_isOpen.1 ∈ GW ∧ Cond.selects m_Md_isOpen.1.cls m_Md_isOpen.1 m_Md_isOpen.1 ∈ GW := ⟨wd_996, sp_48⟩
theorem sv_Md_countOf : Cond.static m_Md_countOf.1 ∈ GW := wd_999
theorem vv_Md_step : Cond.instanceMethod m_Md_step.1 ∈ GW ∧ Cond.selects m_Md_step.1.cls m_Md_step.1 m_Md_step.1 ∈ GW := ⟨wd_1002, wd_1003⟩
theorem vv_Md_may : Cond.instanceMethod m_Md_may.1 ∈ GW ∧ Cond.selects m_Md_may.1.cls m_Md_may.1 m_Md_may.1 ∈ GW := ⟨wd_1006, wd_1007⟩
theorem vv_Md_mayBe : Cond.instanceMethod m_Md_mayBe.1 ∈ GW ∧ Cond.selects m_Md_mayBe.1.cls m_Md_mayBe.1 m_Md_mayBe.1 ∈ GW := ⟨wd_1010, wd_1011⟩
theorem ak_Pz_9 : Cond.classLink "ClueLogic$Puzzle" 9 "ClueLogic$Clue" ∈ GW := wd_35
theorem kc_In_265 : Cond.constant "java/lang/Integer" 265 (1431655765 : Int32) ∈ GW := wd_54
theorem kc_In_266 : Cond.constant "java/lang/Integer" 266 (858993459 : Int32) ∈ GW := wd_55
theorem kc_In_267 : Cond.constant "java/lang/Integer" 267 (252645135 : Int32) ∈ GW := wd_56
theorem aw_int : (Jvm.Cond.arrayClass Jvm.ClassFile.FieldType.int) ∈ GW := wd_73
theorem aw_boolean : (Jvm.Cond.arrayClass Jvm.ClassFile.FieldType.boolean) ∈ GW := wd_136
theorem kc_Su_227 : Cond.constant "java/lang/StringUTF16" 227 (65536 : Int32) ∈ GW := wd_349
theorem kc_Ch_110 : Cond.constant "java/lang/Character" 110 (55232 : Int32) ∈ GW := wd_388
theorem kc_Ch_76 : Cond.constant "java/lang/Character" 76 (56320 : Int32) ∈ GW := wd_392
theorem aw_byte : (Jvm.Cond.arrayClass Jvm.ClassFile.FieldType.byte) ∈ GW := wd_408
theorem fk_An_106 : Cond.methodLink "ClueLogic$Answers" 106 xHolds ∈ GW := wd_561
theorem fk_Jo_20 : Cond.methodLink "ClueLogic$Joined" 20 xHolds ∈ GW := wd_571
theorem fk_Tu_17 : Cond.methodLink "ClueLogic$Turned" 17 xHolds ∈ GW := wd_595
theorem fk_Cr_112 : Cond.methodLink "ClueLogic$Crossing" 112 xHolds ∈ GW := wd_713
theorem kc_Md_47 : Cond.constant "ClueLogicModel" 47 (110592 : Int32) ∈ GW := wd_765
theorem obi : Cond.instanceMethod Lib.objectInit ∈ GW := wd_27
theorem obc : Cond.code Lib.objectInit ⟨#[0xb1]⟩ 1 none ∈ GW := wd_28
end
section
section JM
variable {E : EV} {M : MI} {d cl sl pc : Nat} {L : List (Nat × Value)} {st : List Value} {h : HP} {n : Nat} {Q : Option Value → HP → Nat → Prop}
theorem j_idiv {x y : Int32} (hd : decode M.2.1 pc = .ok (.idiv, 1)) (hy : ¬ y = 0) (k : J E M d cl sl (pc + 1) L (.int (x / y) :: st) h n Q) : J E M d cl sl pc L (.int y :: .int x :: st) h n Q := J.pure (fun _ _ _ _ _ _ _ _ _ _ _ _ _ _ _ hx hb _ kk => lv_idiv hx hb hd hy kk) k
theorem j_irem {x y : Int32} (hd : decode M.2.1 pc = .ok (.irem, 1)) (hy : ¬ y = 0) (k : J E M d cl sl (pc + 1) L (.int (x - x / y * y) :: st) h n Q) : J E M d cl sl pc L (.int y :: .int x :: st) h n Q := J.pure (fun _ _ _ _ _ _ _ _ _ _ _ _ _ _ _ hx hb _ kk => lv_irem hx hb hd hy kk) k
theorem j_ldc_w {idx : Nat} {v : Int32} (hd : decode M.2.1 pc = .ok (.ldc_w idx, 3)) (hw : Cond.constant M.1.cls idx v ∈ GW) (k : J E M d cl sl (pc + 3) L (.int v :: st) h n Q) : J E M d cl sl pc L st h n Q :=
  fun p e R s m args below meth c H locs cells slots ls X Y => lv_ldcw X.1 X.2.1 X.2.2.2.2.1 (X.2.2.2.2.2.1 _ hw) hd (k p e R s m args below meth c H locs cells slots ls X Y)
theorem lv_args_in : ∀ (as : List Value) (i : Nat) (q : Nat × Value), q ∈ lv_args i as → q.2 ∈ as
  | [], _, _, h => by cases h
  | v :: as, i, q, h => by
    rcases List.mem_cons.mp h with h | h
    · rw [h]; exact List.mem_cons_self
    · exact List.mem_cons_of_mem _ (lv_args_in as _ q h)
theorem Ct.go {mc ms : Nat} {as : List Value} (hy : plainName M.1.cls = true) (hn : Nat.ble (lg_sl as).length M.2.2.1 = true) (hc : (as.all fun v => v.category == 1) = true) (k : J E M d mc ms 0 (lv_args 0 as) [] h n Q) : Ct E M d mc ms as h n Q :=
  Ct.ofJ hy (Nat.le_of_ble_eq_true hn) (fun q hq => by have := List.all_eq_true.mp hc q.2 (lv_args_in as 0 q hq); simpa using this) k
/-- an answer, and nothing changed -/
def Rt (v : Option Value) (h : HP) (n : Nat) : Option Value → HP → Nat → Prop := fun r h' n' => r = v ∧ h' = h ∧ n' = n
theorem j_pV {idx d' k b ci : Nat} {M' : MI} {As rest : List Value} {r : vw_C} {fs : List Value} {v : Option Value} (hd : decode M.2.1 pc = .ok (.invokevirtual idx, 3)) (g : CBx M.1.cls idx M' k) (gi : Cond.instanceMethod M'.1 ∈ GW ∧ Cond.selects M'.1.cls M'.1 M'.1 ∈ GW) (hb : h b = some (.inr (ci, fs))) (hc : classes[ci]? = some r) (hcn : r.1 = M'.1.cls) (hk : As.length = k) (hst : st = As.reverse ++ .ref b :: rest) (hroom : (rest.map fun v => v.category).sum ≤ 8) (hdd : d' + 1 ≤ d)
    (ct : Ct E M' d' 0 0 (.ref b :: As) h n (Rt v h n)) (kk : J E M d cl sl (pc + 3) L (v.toList ++ rest) h n Q) : J E M d cl sl pc L st h n Q :=
  j_callV hd g gi hb hc hcn hk hst hroom hdd (Nat.zero_le _) (Nat.zero_le _) ct (fun v' h' n' q _ => by obtain ⟨rfl, rfl, rfl⟩ := q; exact kk)
theorem j_pS {idx d' k : Nat} {M' : MI} {As rest : List Value} {v : Option Value} (hd : decode M.2.1 pc = .ok (.invokestatic idx, 3)) (g : CBx M.1.cls idx M' k) (gi : Cond.static M'.1 ∈ GW) (hk : As.length = k) (hst : st = As.reverse ++ rest) (hroom : (rest.map fun v => v.category).sum ≤ 8) (hdd : d' + 1 ≤ d)
    (ct : Ct E M' d' 0 0 As h n (Rt v h n)) (kk : J E M d cl sl (pc + 3) L (v.toList ++ rest) h n Q) : J E M d cl sl pc L st h n Q :=
  j_callS hd g gi hk hst hroom hdd (Nat.zero_le _) (Nat.zero_le _) ct (fun v' h' n' q _ => by obtain ⟨rfl, rfl, rfl⟩ := q; exact kk)
/-- a truth as a number -/
def bI (p : Prop) [Decidable p] : Int32 := if p then 1 else 0
theorem bI_t {p : Prop} [Decidable p] (h : p) : bI p = 1 := if_pos h
theorem bI_f {p : Prop} [Decidable p] (h : ¬ p) : bI p = 0 := if_neg h
theorem bI_01 (p : Prop) [Decidable p] : bI p = 0 ∨ bI p = 1 := by unfold bI; split <;> simp
end JM
end
section
/-- ClueLogic: text, length, puzzle, answers, crossing, ran -/
abbrev oC (f0 : Nat) (f1 : Int32) (f2 : Nat) (f3 : Nat) (f4 : Nat) (f5 : Int32) : va_E := .inr (0, [.ref f0, .int f1, .ref f2, .ref f3, .ref f4, .int f5])
/-- ClueLogic$Answers: puzzle, walk, keptOrder, keptParty, countWithOrder, holding, needed, count, kept, found -/
abbrev oAn (f0 : Nat) (f1 : Nat) (f2 : Nat) (f3 : Nat) (f4 : Nat) (f5 : Nat) (f6 : Nat) (f7 : Int32) (f8 : Int32) (f9 : Int32) : va_E := .inr (1, [.ref f0, .ref f1, .ref f2, .ref f3, .ref f4, .ref f5, .ref f6, .int f7, .int f8, .int f9])
/-- ClueLogic$Crossing: puzzle, walk, may, seen, mayBe, seenToBe, stepClue, stepCrossed, steps, finished -/
abbrev oCr (f0 : Nat) (f1 : Nat) (f2 : Nat) (f3 : Nat) (f4 : Int32) (f5 : Int32) (f6 : Nat) (f7 : Nat) (f8 : Int32) (f9 : Int32) : va_E := .inr (2, [.ref f0, .ref f1, .ref f2, .ref f3, .int f4, .int f5, .ref f6, .ref f7, .int f8, .int f9])
/-- ClueLogic$Joined: both, first, second -/
abbrev oJo (f0 : Int32) (f1 : Nat) (f2 : Nat) : va_E := .inr (3, [.int f0, .ref f1, .ref f2])
/-- ClueLogic$OfPerson: parties -/
abbrev oOp (f0 : Int32) : va_E := .inr (4, [.int f0])
/-- ClueLogic$OfValues: sign, v, w -/
abbrev oOv (f0 : Int32) (f1 : Int32) (f2 : Int32) : va_E := .inr (5, [.int f0, .int f1, .int f2])
/-- ClueLogic$Orders: things, ticks, value, count, allTicks -/
abbrev oOd (f0 : Int32) (f1 : Nat) (f2 : Nat) (f3 : Int32) (f4 : Int32) : va_E := .inr (6, [.int f0, .ref f1, .ref f2, .int f3, .int f4])
/-- ClueLogic$Puzzle: things, kinds, persons, orders, clues, clueCount -/
abbrev oPz (f0 : Int32) (f1 : Int32) (f2 : Int32) (f3 : Nat) (f4 : Nat) (f5 : Int32) : va_E := .inr (7, [.int f0, .int f1, .int f2, .ref f3, .ref f4, .int f5])
/-- ClueLogic$Reader: text, length, place, kinds, things, persons, signs -/
abbrev oRd (f0 : Nat) (f1 : Int32) (f2 : Int32) (f3 : Int32) (f4 : Int32) (f5 : Int32) (f6 : Int32) : va_E := .inr (8, [.ref f0, .int f1, .int f2, .int f3, .int f4, .int f5, .int f6])
/-- ClueLogic$Turned: turning, part -/
abbrev oTu (f0 : Int32) (f1 : Nat) : va_E := .inr (9, [.int f0, .ref f1])
/-- ClueLogic$Walk: orders, kinds, open, openCount, at, thing -/
abbrev oWk (f0 : Nat) (f1 : Int32) (f2 : Nat) (f3 : Nat) (f4 : Nat) (f5 : Nat) : va_E := .inr (10, [.ref f0, .int f1, .ref f2, .ref f3, .ref f4, .ref f5])
/-- ClueLogicModel: thrown, size, text, things, kinds, persons, clues, begins, signs, ones, twos, newThings, newKinds, newPersons, newClues, at, newBegins, newSigns, newOnes, newTwos, orders, values, seats, isKnown, isCrossed, holds, pile, kept, answers, may, mayBe, some, someBe, steps, stepClue, stepMuch -/
abbrev oMd (f0 : Int32) (f1 : Int32) (f2 : Nat) (f3 : Int32) (f4 : Int32) (f5 : Int32) (f6 : Int32) (f7 : Nat) (f8 : Nat) (f9 : Nat) (f10 : Nat) (f11 : Int32) (f12 : Int32) (f13 : Int32) (f14 : Int32) (f15 : Int32) (f16 : Nat) (f17 : Nat) (f18 : Nat) (f19 : Nat) (f20 : Int32) (f21 : Nat) (f22 : Nat) (f23 : Int32) (f24 : Int32) (f25 : Nat) (f26 : Nat) (f27 : Int32) (f28 : Nat) (f29 : Nat) (f30 : Nat) (f31 : Nat) (f32 : Nat) (f33 : Int32) (f34 : Nat) (f35 : Nat) : va_E := .inr (11, [.int f0, .int f1, .ref f2, .int f3, .int f4, .int f5, .int f6, .ref f7, .ref f8, .ref f9, .ref f10, .int f11, .int f12, .int f13, .int f14, .int f15, .ref f16, .ref f17, .ref f18, .ref f19, .int f20, .ref f21, .ref f22, .int f23, .int f24, .ref f25, .ref f26, .int f27, .ref f28, .ref f29, .ref f30, .ref f31, .ref f32, .int f33, .ref f34, .ref f35])
theorem c_Pz_orders {E : EV} {h : HP} {n a : Nat} {fs : List Value} {x : Nat} (ha : h a = some (.inr (7, fs))) (hv : fs[3]? = some (.ref x)) : Ct E m_Pz_orders 0 0 0 [.ref a] h n (Rt (some (.ref x)) h n) :=
  Ct.go rfl rfl rfl (j_aload_n d_Pz_orders_0 rfl (j_get d_Pz_orders_1 fl_Pz_32 ha hv (j_aret d_Pz_orders_4 rfl (Or.inl ⟨_, rfl⟩) rfl ⟨rfl, rfl, rfl⟩)))
theorem c_Pz_kinds {E : EV} {h : HP} {n a : Nat} {fs : List Value} {x : Int32} (ha : h a = some (.inr (7, fs))) (hv : fs[1]? = some (.int x)) : Ct E m_Pz_kinds 0 0 0 [.ref a] h n (Rt (some (.int x)) h n) :=
  Ct.go rfl rfl rfl (j_aload_n d_Pz_kinds_0 rfl (j_get d_Pz_kinds_1 fl_Pz_21 ha hv (j_iret d_Pz_kinds_4 rfl ⟨rfl, rfl, rfl⟩)))
theorem c_Od_allTicks {E : EV} {h : HP} {n a : Nat} {fs : List Value} {x : Int32} (ha : h a = some (.inr (6, fs))) (hv : fs[4]? = some (.int x)) : Ct E m_Od_allTicks 0 0 0 [.ref a] h n (Rt (some (.int x)) h n) :=
  Ct.go rfl rfl rfl (j_aload_n d_Od_allTicks_0 rfl (j_get d_Od_allTicks_1 fl_Od_29 ha hv (j_iret d_Od_allTicks_4 rfl ⟨rfl, rfl, rfl⟩)))
theorem c_Pz_persons {E : EV} {h : HP} {n a : Nat} {fs : List Value} {x : Int32} (ha : h a = some (.inr (7, fs))) (hv : fs[2]? = some (.int x)) : Ct E m_Pz_persons 0 0 0 [.ref a] h n (Rt (some (.int x)) h n) :=
  Ct.go rfl rfl rfl (j_aload_n d_Pz_persons_0 rfl (j_get d_Pz_persons_1 fl_Pz_24 ha hv (j_iret d_Pz_persons_4 rfl ⟨rfl, rfl, rfl⟩)))
theorem c_Rd_place {E : EV} {h : HP} {n a : Nat} {fs : List Value} {x : Int32} (ha : h a = some (.inr (8, fs))) (hv : fs[2]? = some (.int x)) : Ct E m_Rd_place 0 0 0 [.ref a] h n (Rt (some (.int x)) h n) :=
  Ct.go rfl rfl rfl (j_aload_n d_Rd_place_0 rfl (j_get d_Rd_place_1 fl_Rd_19 ha hv (j_iret d_Rd_place_4 rfl ⟨rfl, rfl, rfl⟩)))
theorem c_Pz_clueCount {E : EV} {h : HP} {n a : Nat} {fs : List Value} {x : Int32} (ha : h a = some (.inr (7, fs))) (hv : fs[5]? = some (.int x)) : Ct E m_Pz_clueCount 0 0 0 [.ref a] h n (Rt (some (.int x)) h n) :=
  Ct.go rfl rfl rfl (j_aload_n d_Pz_clueCount_0 rfl (j_get d_Pz_clueCount_1 fl_Pz_36 ha hv (j_iret d_Pz_clueCount_4 rfl ⟨rfl, rfl, rfl⟩)))
theorem c_Pz_things {E : EV} {h : HP} {n a : Nat} {fs : List Value} {x : Int32} (ha : h a = some (.inr (7, fs))) (hv : fs[0]? = some (.int x)) : Ct E m_Pz_things 0 0 0 [.ref a] h n (Rt (some (.int x)) h n) :=
  Ct.go rfl rfl rfl (j_aload_n d_Pz_things_0 rfl (j_get d_Pz_things_1 fl_Pz_17 ha hv (j_iret d_Pz_things_4 rfl ⟨rfl, rfl, rfl⟩)))
theorem c_Od_count {E : EV} {h : HP} {n a : Nat} {fs : List Value} {x : Int32} (ha : h a = some (.inr (6, fs))) (hv : fs[3]? = some (.int x)) : Ct E m_Od_count 0 0 0 [.ref a] h n (Rt (some (.int x)) h n) :=
  Ct.go rfl rfl rfl (j_aload_n d_Od_count_0 rfl (j_get d_Od_count_1 fl_Od_26 ha hv (j_iret d_Od_count_4 rfl ⟨rfl, rfl, rfl⟩)))
theorem c_Od_things {E : EV} {h : HP} {n a : Nat} {fs : List Value} {x : Int32} (ha : h a = some (.inr (6, fs))) (hv : fs[0]? = some (.int x)) : Ct E m_Od_things 0 0 0 [.ref a] h n (Rt (some (.int x)) h n) :=
  Ct.go rfl rfl rfl (j_aload_n d_Od_things_0 rfl (j_get d_Od_things_1 fl_Od_18 ha hv (j_iret d_Od_things_4 rfl ⟨rfl, rfl, rfl⟩)))
theorem c_Wk_thing {E : EV} {h : HP} {n a : Nat} {fs : List Value} {x : Nat} (ha : h a = some (.inr (10, fs))) (hv : fs[5]? = some (.ref x)) : Ct E m_Wk_thing 0 0 0 [.ref a] h n (Rt (some (.ref x)) h n) :=
  Ct.go rfl rfl rfl (j_aload_n d_Wk_thing_0 rfl (j_get d_Wk_thing_1 fl_Wk_21 ha hv (j_aret d_Wk_thing_4 rfl (Or.inr ⟨_, rfl⟩) rfl ⟨rfl, rfl, rfl⟩)))
theorem c_An_count {E : EV} {h : HP} {n a : Nat} {fs : List Value} {x : Int32} (ha : h a = some (.inr (1, fs))) (hv : fs[7]? = some (.int x)) : Ct E m_An_count 0 0 0 [.ref a] h n (Rt (some (.int x)) h n) :=
  Ct.go rfl rfl rfl (j_aload_n d_An_count_0 rfl (j_get d_An_count_1 fl_An_41 ha hv (j_iret d_An_count_4 rfl ⟨rfl, rfl, rfl⟩)))
theorem c_An_kept {E : EV} {h : HP} {n a : Nat} {fs : List Value} {x : Int32} (ha : h a = some (.inr (1, fs))) (hv : fs[8]? = some (.int x)) : Ct E m_An_kept 0 0 0 [.ref a] h n (Rt (some (.int x)) h n) :=
  Ct.go rfl rfl rfl (j_aload_n d_An_kept_0 rfl (j_get d_An_kept_1 fl_An_45 ha hv (j_iret d_An_kept_4 rfl ⟨rfl, rfl, rfl⟩)))
theorem c_Cr_steps {E : EV} {h : HP} {n a : Nat} {fs : List Value} {x : Int32} (ha : h a = some (.inr (2, fs))) (hv : fs[8]? = some (.int x)) : Ct E m_Cr_steps 0 0 0 [.ref a] h n (Rt (some (.int x)) h n) :=
  Ct.go rfl rfl rfl (j_aload_n d_Cr_steps_0 rfl (j_get d_Cr_steps_1 fl_Cr_63 ha hv (j_iret d_Cr_steps_4 rfl ⟨rfl, rfl, rfl⟩)))
theorem c_Pz_hasThing {E : EV} {h : HP} {n a : Nat} {fs : List Value} {t x : Int32} (ha : h a = some (.inr (7, fs))) (hv : fs[0]? = some (.int x)) : Ct E m_Pz_hasThing 0 0 0 [.ref a, .int t] h n (Rt (some (.int (bI (0 ≤ t ∧ t < x)))) h n) := by
  refine Ct.go rfl rfl rfl ?_
  refine j_iload_n d_Pz_hasThing_0 rfl ?_
  refine j_if_lt (tgt := 16) d_Pz_hasThing_1 (by decide) (fun c => ?_) (fun c => ?_)
  · refine j_iconst (v := 0) d_Pz_hasThing_16 (by decide) ?_
    exact j_zret d_Pz_hasThing_17 rfl (Or.inl rfl) ⟨by rw [bI_f (fun q => absurd q.1 (Int32.not_le.mpr c))], rfl, rfl⟩
  · refine j_iload_n d_Pz_hasThing_4 rfl ?_
    refine j_aload_n d_Pz_hasThing_5 rfl ?_
    refine j_get d_Pz_hasThing_6 fl_Pz_17 ha hv ?_
    refine j_icmp_ge (tgt := 16) d_Pz_hasThing_9 (by decide) (fun c2 => ?_) (fun c2 => ?_)
    · refine j_iconst (v := 0) d_Pz_hasThing_16 (by decide) ?_
      exact j_zret d_Pz_hasThing_17 rfl (Or.inl rfl) ⟨by rw [bI_f (fun q => absurd q.2 (Int32.not_lt.mpr c2))], rfl, rfl⟩
    · refine j_iconst (v := 1) d_Pz_hasThing_12 (by decide) ?_
      refine j_goto (tgt := 17) d_Pz_hasThing_13 (by decide) ?_
      exact j_zret d_Pz_hasThing_17 rfl (Or.inr rfl) ⟨by rw [bI_t ⟨Int32.not_lt.mp c, Int32.not_le.mp c2⟩], rfl, rfl⟩
theorem c_Pz_hasKind {E : EV} {h : HP} {n a : Nat} {fs : List Value} {t x : Int32} (ha : h a = some (.inr (7, fs))) (hv : fs[1]? = some (.int x)) : Ct E m_Pz_hasKind 0 0 0 [.ref a, .int t] h n (Rt (some (.int (bI (0 ≤ t ∧ t < x)))) h n) := by
  refine Ct.go rfl rfl rfl ?_
  refine j_iload_n d_Pz_hasKind_0 rfl ?_
  refine j_if_lt (tgt := 16) d_Pz_hasKind_1 (by decide) (fun c => ?_) (fun c => ?_)
  · refine j_iconst (v := 0) d_Pz_hasKind_16 (by decide) ?_
    exact j_zret d_Pz_hasKind_17 rfl (Or.inl rfl) ⟨by rw [bI_f (fun q => absurd q.1 (Int32.not_le.mpr c))], rfl, rfl⟩
  · refine j_iload_n d_Pz_hasKind_4 rfl ?_
    refine j_aload_n d_Pz_hasKind_5 rfl ?_
    refine j_get d_Pz_hasKind_6 fl_Pz_21 ha hv ?_
    refine j_icmp_ge (tgt := 16) d_Pz_hasKind_9 (by decide) (fun c2 => ?_) (fun c2 => ?_)
    · refine j_iconst (v := 0) d_Pz_hasKind_16 (by decide) ?_
      exact j_zret d_Pz_hasKind_17 rfl (Or.inl rfl) ⟨by rw [bI_f (fun q => absurd q.2 (Int32.not_lt.mpr c2))], rfl, rfl⟩
    · refine j_iconst (v := 1) d_Pz_hasKind_12 (by decide) ?_
      refine j_goto (tgt := 17) d_Pz_hasKind_13 (by decide) ?_
      exact j_zret d_Pz_hasKind_17 rfl (Or.inr rfl) ⟨by rw [bI_t ⟨Int32.not_lt.mp c, Int32.not_le.mp c2⟩], rfl, rfl⟩
theorem c_Pz_hasValue {E : EV} {h : HP} {n a : Nat} {fs : List Value} {t x : Int32} (ha : h a = some (.inr (7, fs))) (hv : fs[0]? = some (.int x)) : Ct E m_Pz_hasValue 0 0 0 [.ref a, .int t] h n (Rt (some (.int (bI (0 ≤ t ∧ t < x)))) h n) := by
  refine Ct.go rfl rfl rfl ?_
  refine j_iload_n d_Pz_hasValue_0 rfl ?_
  refine j_if_lt (tgt := 16) d_Pz_hasValue_1 (by decide) (fun c => ?_) (fun c => ?_)
  · refine j_iconst (v := 0) d_Pz_hasValue_16 (by decide) ?_
    exact j_zret d_Pz_hasValue_17 rfl (Or.inl rfl) ⟨by rw [bI_f (fun q => absurd q.1 (Int32.not_le.mpr c))], rfl, rfl⟩
  · refine j_iload_n d_Pz_hasValue_4 rfl ?_
    refine j_aload_n d_Pz_hasValue_5 rfl ?_
    refine j_get d_Pz_hasValue_6 fl_Pz_17 ha hv ?_
    refine j_icmp_ge (tgt := 16) d_Pz_hasValue_9 (by decide) (fun c2 => ?_) (fun c2 => ?_)
    · refine j_iconst (v := 0) d_Pz_hasValue_16 (by decide) ?_
      exact j_zret d_Pz_hasValue_17 rfl (Or.inl rfl) ⟨by rw [bI_f (fun q => absurd q.2 (Int32.not_lt.mpr c2))], rfl, rfl⟩
    · refine j_iconst (v := 1) d_Pz_hasValue_12 (by decide) ?_
      refine j_goto (tgt := 17) d_Pz_hasValue_13 (by decide) ?_
      exact j_zret d_Pz_hasValue_17 rfl (Or.inr rfl) ⟨by rw [bI_t ⟨Int32.not_lt.mp c, Int32.not_le.mp c2⟩], rfl, rfl⟩
theorem c_Pz_hasPerson {E : EV} {h : HP} {n a : Nat} {fs : List Value} {t x : Int32} (ha : h a = some (.inr (7, fs))) (hv : fs[2]? = some (.int x)) : Ct E m_Pz_hasPerson 0 0 0 [.ref a, .int t] h n (Rt (some (.int (bI (0 ≤ t ∧ t < x)))) h n) := by
  refine Ct.go rfl rfl rfl ?_
  refine j_iload_n d_Pz_hasPerson_0 rfl ?_
  refine j_if_lt (tgt := 16) d_Pz_hasPerson_1 (by decide) (fun c => ?_) (fun c => ?_)
  · refine j_iconst (v := 0) d_Pz_hasPerson_16 (by decide) ?_
    exact j_zret d_Pz_hasPerson_17 rfl (Or.inl rfl) ⟨by rw [bI_f (fun q => absurd q.1 (Int32.not_le.mpr c))], rfl, rfl⟩
  · refine j_iload_n d_Pz_hasPerson_4 rfl ?_
    refine j_aload_n d_Pz_hasPerson_5 rfl ?_
    refine j_get d_Pz_hasPerson_6 fl_Pz_24 ha hv ?_
    refine j_icmp_ge (tgt := 16) d_Pz_hasPerson_9 (by decide) (fun c2 => ?_) (fun c2 => ?_)
    · refine j_iconst (v := 0) d_Pz_hasPerson_16 (by decide) ?_
      exact j_zret d_Pz_hasPerson_17 rfl (Or.inl rfl) ⟨by rw [bI_f (fun q => absurd q.2 (Int32.not_lt.mpr c2))], rfl, rfl⟩
    · refine j_iconst (v := 1) d_Pz_hasPerson_12 (by decide) ?_
      refine j_goto (tgt := 17) d_Pz_hasPerson_13 (by decide) ?_
      exact j_zret d_Pz_hasPerson_17 rfl (Or.inr rfl) ⟨by rw [bI_t ⟨Int32.not_lt.mp c, Int32.not_le.mp c2⟩], rfl, rfl⟩
theorem c_Pz_hasClue {E : EV} {h : HP} {n a : Nat} {fs : List Value} {t x : Int32} (ha : h a = some (.inr (7, fs))) (hv : fs[5]? = some (.int x)) : Ct E m_Pz_hasClue 0 0 0 [.ref a, .int t] h n (Rt (some (.int (bI (0 ≤ t ∧ t < x)))) h n) := by
  refine Ct.go rfl rfl rfl ?_
  refine j_iload_n d_Pz_hasClue_0 rfl ?_
  refine j_if_lt (tgt := 16) d_Pz_hasClue_1 (by decide) (fun c => ?_) (fun c => ?_)
  · refine j_iconst (v := 0) d_Pz_hasClue_16 (by decide) ?_
    exact j_zret d_Pz_hasClue_17 rfl (Or.inl rfl) ⟨by rw [bI_f (fun q => absurd q.1 (Int32.not_le.mpr c))], rfl, rfl⟩
  · refine j_iload_n d_Pz_hasClue_4 rfl ?_
    refine j_aload_n d_Pz_hasClue_5 rfl ?_
    refine j_get d_Pz_hasClue_6 fl_Pz_36 ha hv ?_
    refine j_icmp_ge (tgt := 16) d_Pz_hasClue_9 (by decide) (fun c2 => ?_) (fun c2 => ?_)
    · refine j_iconst (v := 0) d_Pz_hasClue_16 (by decide) ?_
      exact j_zret d_Pz_hasClue_17 rfl (Or.inl rfl) ⟨by rw [bI_f (fun q => absurd q.2 (Int32.not_lt.mpr c2))], rfl, rfl⟩
    · refine j_iconst (v := 1) d_Pz_hasClue_12 (by decide) ?_
      refine j_goto (tgt := 17) d_Pz_hasClue_13 (by decide) ?_
      exact j_zret d_Pz_hasClue_17 rfl (Or.inr rfl) ⟨by rw [bI_t ⟨Int32.not_lt.mp c, Int32.not_le.mp c2⟩], rfl, rfl⟩
section LE
variable {E : EV} {h : HP} {n : Nat}
theorem hset_hset (h : HP) (a : Nat) (e f : va_E) : hset (hset h a e) a f = hset h a f := by
  funext q
  unfold hset
  split <;> simp_all
theorem hset_id {h : HP} {a : Nat} {e : va_E} (ha : h a = some e) : hset h a e = h := by
  funext q
  unfold hset
  split
  · rename_i hq; rw [hq, ha]
  · rfl
theorem hset_comm (h : HP) {a b : Nat} (e f : va_E) (hab : a ≠ b) : hset (hset h a e) b f = hset (hset h b f) a e := by
  funext q
  unfold hset
  by_cases h1 : q = a <;> by_cases h2 : q = b <;> simp_all
theorem J.conv {M : MI} {d cl sl pc : Nat} {L L' : List (Nat × Value)} {st : List Value} {h h' : HP} {n : Nat} {Q : Option Value → HP → Nat → Prop} (hL : L' = L) (hh : h' = h) (k : J E M d cl sl pc L st h n Q) : J E M d cl sl pc L' st h' n Q := by
  subst hL; subst hh; exact k
/-! Integer.bitCount, as it counts -/
def ush (x y : Int32) : Int32 := (x.toUInt32 >>> (y.toUInt32 &&& Int32.toUInt32 31)).toInt32
def bc1 (x : Int32) : Int32 := x - (ush x 1 &&& 1431655765)
def bc2 (x : Int32) : Int32 := (x &&& 858993459) + (ush x 2 &&& 858993459)
def bc3 (x : Int32) : Int32 := (x + ush x 4) &&& 252645135
def bc4 (x : Int32) : Int32 := x + ush x 8
def bc5 (x : Int32) : Int32 := x + ush x 16
def bcF (x : Int32) : Int32 := bc5 (bc4 (bc3 (bc2 (bc1 x)))) &&& 63
theorem c_In_bitCount (x : Int32) : Ct E m_In_bitCount 0 0 0 [.int x] h n (Rt (some (.int (bcF x))) h n) := by
  refine Ct.go rfl rfl rfl ?_
  refine j_iload_n d_In_bitCount_0 rfl ?_
  refine j_iload_n d_In_bitCount_1 rfl ?_
  refine j_iconst (v := 1) d_In_bitCount_2 (by decide) ?_
  refine j_iushr d_In_bitCount_3 rfl ?_
  refine j_ldc_w d_In_bitCount_4 kc_In_265 ?_
  refine j_iand d_In_bitCount_7 ?_
  refine j_isub d_In_bitCount_8 ?_
  refine j_istore_n (x := bc1 x) d_In_bitCount_9 (by decide) ?_
  refine j_iload_n d_In_bitCount_10 rfl ?_
  refine j_ldc_w d_In_bitCount_11 kc_In_266 ?_
  refine j_iand d_In_bitCount_14 ?_
  refine j_iload_n d_In_bitCount_15 rfl ?_
  refine j_iconst (v := 2) d_In_bitCount_16 (by decide) ?_
  refine j_iushr d_In_bitCount_17 rfl ?_
  refine j_ldc_w d_In_bitCount_18 kc_In_266 ?_
  refine j_iand d_In_bitCount_21 ?_
  refine j_iadd d_In_bitCount_22 ?_
  refine j_istore_n (x := bc2 (bc1 x)) d_In_bitCount_23 (by decide) ?_
  refine j_iload_n d_In_bitCount_24 rfl ?_
  refine j_iload_n d_In_bitCount_25 rfl ?_
  refine j_iconst (v := 4) d_In_bitCount_26 (by decide) ?_
  refine j_iushr d_In_bitCount_27 rfl ?_
  refine j_iadd d_In_bitCount_28 ?_
  refine j_ldc_w d_In_bitCount_29 kc_In_267 ?_
  refine j_iand d_In_bitCount_32 ?_
  refine j_istore_n (x := bc3 (bc2 (bc1 x))) d_In_bitCount_33 (by decide) ?_
  refine j_iload_n d_In_bitCount_34 rfl ?_
  refine j_iload_n d_In_bitCount_35 rfl ?_
  refine j_bipush (v := 8) d_In_bitCount_36 (by decide) ?_
  refine j_iushr d_In_bitCount_38 rfl ?_
  refine j_iadd d_In_bitCount_39 ?_
  refine j_istore_n (x := bc4 (bc3 (bc2 (bc1 x)))) d_In_bitCount_40 (by decide) ?_
  refine j_iload_n d_In_bitCount_41 rfl ?_
  refine j_iload_n d_In_bitCount_42 rfl ?_
  refine j_bipush (v := 16) d_In_bitCount_43 (by decide) ?_
  refine j_iushr d_In_bitCount_45 rfl ?_
  refine j_iadd d_In_bitCount_46 ?_
  refine j_istore_n (x := bc5 (bc4 (bc3 (bc2 (bc1 x))))) d_In_bitCount_47 (by decide) ?_
  refine j_iload_n d_In_bitCount_48 rfl ?_
  refine j_bipush (v := 63) d_In_bitCount_49 (by decide) ?_
  refine j_iand d_In_bitCount_51 ?_
  exact j_iret d_In_bitCount_52 rfl ⟨rfl, rfl, rfl⟩
/-! Arrays.fill -/
def fillF (f : Nat → Int32) (k : Nat) (v : Int32) : Nat → Int32 := fun j => if j < k then v else f j
theorem fillF_0 (f : Nat → Int32) (v : Int32) : fillF f 0 v = f := by funext j; simp [fillF]
theorem fillF_s (f : Nat → Int32) (k : Nat) (v : Int32) : upd (fillF f k v) k v = fillF f (k + 1) v := by
  funext j
  unfold upd fillF
  by_cases h1 : j = k
  · simp [h1]
  · by_cases h2 : j < k
    · simp [h1, h2, Nat.lt_succ_of_lt h2]
    · have : ¬ j < k + 1 := by omega
      simp [h1, h2, this]
theorem l_Ar_fill {d cl sl a N : Nat} {f : Nat → Int32} {v : Int32} {Q : Option Value → HP → Nat → Prop} (hN : N < 2 ^ 31) (hb : E.2.2.2.1 ≤ a) (hQ : Q none (hset h a (arI E 0 N (fillF f N v))) n) :
    ∀ k i, i + k = N → J E m_Ar_fill d cl sl 5 [(0, .ref a), (1, .int v), (2, .int (nI i)), (3, .int (nI N))] [] (hset h a (arI E 0 N (fillF f i v))) n Q := by
  intro k
  induction k with
  | zero =>
    intro i hi
    have hi : i = N := by omega
    subst hi
    refine j_iload_n d_Ar_fill_5 rfl ?_
    refine j_iload_n d_Ar_fill_6 rfl ?_
    refine j_icmp_ge (tgt := 20) d_Ar_fill_7 (by decide) (fun c => ?_) (fun c => ?_)
    · exact j_vret d_Ar_fill_20 rfl hQ
    · exact absurd (nI_le (Nat.le_refl _) hN) c
  | succ k ih =>
    intro i hi
    refine j_iload_n d_Ar_fill_5 rfl ?_
    refine j_iload_n d_Ar_fill_6 rfl ?_
    refine j_icmp_ge (tgt := 20) d_Ar_fill_7 (by decide) (fun c => absurd c (nI_ge (by omega) hN)) (fun c => ?_)
    refine j_aload_n d_Ar_fill_10 rfl ?_
    refine j_iload_n d_Ar_fill_11 rfl ?_
    refine j_iload_n d_Ar_fill_12 rfl ?_
    refine j_iast (t := 0) d_Ar_fill_13 rfl (by first | assumption | exact hset_s _ _ _ | (rw [hset_n _ _ (by omega)]; first | assumption | exact hset_s _ _ _ | (rw [hset_n _ _ (by omega)]; first | assumption | exact hset_s _ _ _ | (rw [hset_n _ _ (by omega)]; first | assumption | exact hset_s _ _ _ | (rw [hset_n _ _ (by omega)]; first | assumption | exact hset_s _ _ _))))) hb (vp_in_nI (by omega) hN) ?_
    refine j_iinc (v := nI (i + 1)) d_Ar_fill_14 rfl (nI_succ i).symm (by decide) ?_
    refine j_goto (tgt := 5) d_Ar_fill_17 (by decide) ?_
    exact J.conv rfl (by rw [hset_hset, nI_clamp (by omega), fillF_s]) (ih (i + 1) (by omega))
theorem c_Ar_fill {a N : Nat} {f : Nat → Int32} {v : Int32} (hN : N < 2 ^ 31) (hb : E.2.2.2.1 ≤ a) (ha : h a = some (arI E 0 N f)) : Ct E m_Ar_fill 0 0 0 [.ref a, .int v] h n (Rt none (hset h a (arI E 0 N (fillF f N v))) n) := by
  refine Ct.go rfl rfl rfl ?_
  refine j_iconst (v := 0) d_Ar_fill_0 (by decide) ?_
  refine j_istore_n d_Ar_fill_1 (by decide) ?_
  refine j_aload_n d_Ar_fill_2 rfl ?_
  refine j_alen (t := 0) d_Ar_fill_3 rfl (by first | assumption | exact hset_s _ _ _ | (rw [hset_n _ _ (by omega)]; first | assumption | exact hset_s _ _ _ | (rw [hset_n _ _ (by omega)]; first | assumption | exact hset_s _ _ _ | (rw [hset_n _ _ (by omega)]; first | assumption | exact hset_s _ _ _ | (rw [hset_n _ _ (by omega)]; first | assumption | exact hset_s _ _ _))))) rfl ?_
  refine j_istore_n d_Ar_fill_4 (by decide) ?_
  exact J.conv rfl (by rw [fillF_0, hset_id ha]) (l_Ar_fill (h := h) (f := f) hN hb ⟨rfl, rfl, rfl⟩ N 0 (by omega))
/-! reading a place -/
theorem c_Od_value {a tk vl : Nat} {N c al x y : Int32} {f : Nat → Int32} (ha : h a = some (oOd N tk vl c al)) (hv : h vl = some (arI E 0 96 f)) (hi : vp_in (4 * x + y) 96) : Ct E m_Od_value 0 0 0 [.ref a, .int x, .int y] h n (Rt (some (.int (f (4 * x + y).toNatClampNeg))) h n) := by
  refine Ct.go rfl rfl rfl ?_
  refine j_aload_n d_Od_value_0 rfl ?_
  refine j_get d_Od_value_1 fl_Od_15 (by first | assumption | exact hset_s _ _ _ | (rw [hset_n _ _ (by omega)]; first | assumption | exact hset_s _ _ _ | (rw [hset_n _ _ (by omega)]; first | assumption | exact hset_s _ _ _ | (rw [hset_n _ _ (by omega)]; first | assumption | exact hset_s _ _ _ | (rw [hset_n _ _ (by omega)]; first | assumption | exact hset_s _ _ _))))) rfl ?_
  refine j_iconst (v := 4) d_Od_value_4 (by decide) ?_
  refine j_iload_n d_Od_value_5 rfl ?_
  refine j_imul d_Od_value_6 ?_
  refine j_iload_n d_Od_value_7 rfl ?_
  refine j_iadd d_Od_value_8 ?_
  refine j_iald (t := 0) d_Od_value_9 rfl (by first | assumption | exact hset_s _ _ _ | (rw [hset_n _ _ (by omega)]; first | assumption | exact hset_s _ _ _ | (rw [hset_n _ _ (by omega)]; first | assumption | exact hset_s _ _ _ | (rw [hset_n _ _ (by omega)]; first | assumption | exact hset_s _ _ _ | (rw [hset_n _ _ (by omega)]; first | assumption | exact hset_s _ _ _))))) (by assumption) rfl ?_
  exact j_iret d_Od_value_10 rfl ⟨rfl, rfl, rfl⟩
theorem c_Od_ticks {a tk vl : Nat} {N c al x : Int32} {f : Nat → Int32} (ha : h a = some (oOd N tk vl c al)) (hv : h tk = some (arI E 0 24 f)) (hi : vp_in x 24) : Ct E m_Od_ticks 0 0 0 [.ref a, .int x] h n (Rt (some (.int (f x.toNatClampNeg))) h n) := by
  refine Ct.go rfl rfl rfl ?_
  refine j_aload_n d_Od_ticks_0 rfl ?_
  refine j_get d_Od_ticks_1 fl_Od_9 (by first | assumption | exact hset_s _ _ _ | (rw [hset_n _ _ (by omega)]; first | assumption | exact hset_s _ _ _ | (rw [hset_n _ _ (by omega)]; first | assumption | exact hset_s _ _ _ | (rw [hset_n _ _ (by omega)]; first | assumption | exact hset_s _ _ _ | (rw [hset_n _ _ (by omega)]; first | assumption | exact hset_s _ _ _))))) rfl ?_
  refine j_iload_n d_Od_ticks_4 rfl ?_
  refine j_iald (t := 0) d_Od_ticks_5 rfl (by first | assumption | exact hset_s _ _ _ | (rw [hset_n _ _ (by omega)]; first | assumption | exact hset_s _ _ _ | (rw [hset_n _ _ (by omega)]; first | assumption | exact hset_s _ _ _ | (rw [hset_n _ _ (by omega)]; first | assumption | exact hset_s _ _ _ | (rw [hset_n _ _ (by omega)]; first | assumption | exact hset_s _ _ _))))) (by assumption) rfl ?_
  exact j_iret d_Od_ticks_6 rfl ⟨rfl, rfl, rfl⟩
theorem c_Wk_order {a od op oc at' th : Nat} {K x : Int32} {f g : Nat → Int32} (ha : h a = some (oWk od K op oc at' th)) (hv : h op = some (arI E 0 72 f)) (hg : h at' = some (arI E 0 3 g)) (hi : vp_in x 3) (hj : vp_in (24 * x + g x.toNatClampNeg) 72) : Ct E m_Wk_order 0 0 0 [.ref a, .int x] h n (Rt (some (.int (f (24 * x + g x.toNatClampNeg).toNatClampNeg))) h n) := by
  refine Ct.go rfl rfl rfl ?_
  refine j_aload_n d_Wk_order_0 rfl ?_
  refine j_get d_Wk_order_1 fl_Wk_9 (by first | assumption | exact hset_s _ _ _ | (rw [hset_n _ _ (by omega)]; first | assumption | exact hset_s _ _ _ | (rw [hset_n _ _ (by omega)]; first | assumption | exact hset_s _ _ _ | (rw [hset_n _ _ (by omega)]; first | assumption | exact hset_s _ _ _ | (rw [hset_n _ _ (by omega)]; first | assumption | exact hset_s _ _ _))))) rfl ?_
  refine j_bipush (v := 24) d_Wk_order_4 (by decide) ?_
  refine j_iload_n d_Wk_order_6 rfl ?_
  refine j_imul d_Wk_order_7 ?_
  refine j_aload_n d_Wk_order_8 rfl ?_
  refine j_get d_Wk_order_9 fl_Wk_18 (by first | assumption | exact hset_s _ _ _ | (rw [hset_n _ _ (by omega)]; first | assumption | exact hset_s _ _ _ | (rw [hset_n _ _ (by omega)]; first | assumption | exact hset_s _ _ _ | (rw [hset_n _ _ (by omega)]; first | assumption | exact hset_s _ _ _ | (rw [hset_n _ _ (by omega)]; first | assumption | exact hset_s _ _ _))))) rfl ?_
  refine j_iload_n d_Wk_order_12 rfl ?_
  refine j_iald (t := 0) d_Wk_order_13 rfl (by first | assumption | exact hset_s _ _ _ | (rw [hset_n _ _ (by omega)]; first | assumption | exact hset_s _ _ _ | (rw [hset_n _ _ (by omega)]; first | assumption | exact hset_s _ _ _ | (rw [hset_n _ _ (by omega)]; first | assumption | exact hset_s _ _ _ | (rw [hset_n _ _ (by omega)]; first | assumption | exact hset_s _ _ _))))) (by assumption) rfl ?_
  refine j_iadd d_Wk_order_14 ?_
  refine j_iald (t := 0) d_Wk_order_15 rfl (by first | assumption | exact hset_s _ _ _ | (rw [hset_n _ _ (by omega)]; first | assumption | exact hset_s _ _ _ | (rw [hset_n _ _ (by omega)]; first | assumption | exact hset_s _ _ _ | (rw [hset_n _ _ (by omega)]; first | assumption | exact hset_s _ _ _ | (rw [hset_n _ _ (by omega)]; first | assumption | exact hset_s _ _ _))))) (by assumption) rfl ?_
  exact j_iret d_Wk_order_16 rfl ⟨rfl, rfl, rfl⟩
theorem c_Pz_parties {a od cl : Nat} {N K M c : Int32} {f : Nat → Int32} (ha : h a = some (oPz N K M od cl c)) (hv : h (E.2.2.2.2 1) = some (arI E 0 4 f)) (hi : vp_in M 4) : Ct E m_Pz_parties 0 0 0 [.ref a] h n (Rt (some (.int (f M.toNatClampNeg))) h n) := by
  refine Ct.go rfl rfl rfl ?_
  refine j_getsN (C := "ClueLogic") (nm := "PARTIES_OF") (ds := "[I") (host := "ClueLogic") (v := .ref (E.2.2.2.2 1)) d_Pz_parties_0 (by simp [stats]) (by decide +kernel) ?_
  refine j_aload_n d_Pz_parties_3 rfl ?_
  refine j_get d_Pz_parties_4 fl_Pz_24 (by first | assumption | exact hset_s _ _ _ | (rw [hset_n _ _ (by omega)]; first | assumption | exact hset_s _ _ _ | (rw [hset_n _ _ (by omega)]; first | assumption | exact hset_s _ _ _ | (rw [hset_n _ _ (by omega)]; first | assumption | exact hset_s _ _ _ | (rw [hset_n _ _ (by omega)]; first | assumption | exact hset_s _ _ _))))) rfl ?_
  refine j_iald (t := 0) d_Pz_parties_7 rfl (by first | assumption | exact hset_s _ _ _ | (rw [hset_n _ _ (by omega)]; first | assumption | exact hset_s _ _ _ | (rw [hset_n _ _ (by omega)]; first | assumption | exact hset_s _ _ _ | (rw [hset_n _ _ (by omega)]; first | assumption | exact hset_s _ _ _ | (rw [hset_n _ _ (by omega)]; first | assumption | exact hset_s _ _ _))))) (by assumption) rfl ?_
  exact j_iret d_Pz_parties_8 rfl ⟨rfl, rfl, rfl⟩
theorem c_Pz_clue {a od cl : Nat} {N K M c x : Int32} {f : Nat → Option Nat} {y : Nat} (ha : h a = some (oPz N K M od cl c)) (hv : h cl = some (arQ E 3 20 f)) (hi : vp_in x 20) (hy : f x.toNatClampNeg = some y) : Ct E m_Pz_clue 0 0 0 [.ref a, .int x] h n (Rt (some (.ref y)) h n) := by
  refine Ct.go rfl rfl rfl ?_
  refine j_aload_n d_Pz_clue_0 rfl ?_
  refine j_get d_Pz_clue_1 fl_Pz_11 (by first | assumption | exact hset_s _ _ _ | (rw [hset_n _ _ (by omega)]; first | assumption | exact hset_s _ _ _ | (rw [hset_n _ _ (by omega)]; first | assumption | exact hset_s _ _ _ | (rw [hset_n _ _ (by omega)]; first | assumption | exact hset_s _ _ _ | (rw [hset_n _ _ (by omega)]; first | assumption | exact hset_s _ _ _))))) rfl ?_
  refine j_iload_n d_Pz_clue_4 rfl ?_
  refine j_aald (t := 3) (v := .ref y) d_Pz_clue_5 rfl hv hi (by rw [hy]; rfl) ?_
  exact j_aret d_Pz_clue_6 rfl (Or.inl ⟨_, rfl⟩) rfl ⟨rfl, rfl, rfl⟩
theorem c_Cr_valuesLeft {a pz wk my sn sc sk : Nat} {mb sb sp fi x y : Int32} {f : Nat → Int32} (ha : h a = some (oCr pz wk my sn mb sb sc sk sp fi)) (hv : h my = some (arI E 0 3 f)) (hi : vp_in y 3) : Ct E m_Cr_valuesLeft 0 0 0 [.ref a, .int x, .int y] h n (Rt (some (.int ((f y.toNatClampNeg >>> (4 * x &&& 31)) &&& 15))) h n) := by
  refine Ct.go rfl rfl rfl ?_
  refine j_aload_n d_Cr_valuesLeft_0 rfl ?_
  refine j_get d_Cr_valuesLeft_1 fl_Cr_9 (by first | assumption | exact hset_s _ _ _ | (rw [hset_n _ _ (by omega)]; first | assumption | exact hset_s _ _ _ | (rw [hset_n _ _ (by omega)]; first | assumption | exact hset_s _ _ _ | (rw [hset_n _ _ (by omega)]; first | assumption | exact hset_s _ _ _ | (rw [hset_n _ _ (by omega)]; first | assumption | exact hset_s _ _ _))))) rfl ?_
  refine j_iload_n d_Cr_valuesLeft_4 rfl ?_
  refine j_iald (t := 0) d_Cr_valuesLeft_5 rfl (by first | assumption | exact hset_s _ _ _ | (rw [hset_n _ _ (by omega)]; first | assumption | exact hset_s _ _ _ | (rw [hset_n _ _ (by omega)]; first | assumption | exact hset_s _ _ _ | (rw [hset_n _ _ (by omega)]; first | assumption | exact hset_s _ _ _ | (rw [hset_n _ _ (by omega)]; first | assumption | exact hset_s _ _ _))))) (by assumption) rfl ?_
  refine j_iconst (v := 4) d_Cr_valuesLeft_6 (by decide) ?_
  refine j_iload_n d_Cr_valuesLeft_7 rfl ?_
  refine j_imul d_Cr_valuesLeft_8 ?_
  refine j_ishr d_Cr_valuesLeft_9 ?_
  refine j_bipush (v := 15) d_Cr_valuesLeft_10 (by decide) ?_
  refine j_iand d_Cr_valuesLeft_12 ?_
  exact j_iret d_Cr_valuesLeft_13 rfl ⟨rfl, rfl, rfl⟩
theorem c_Cr_waysLeft {a pz wk my sn sc sk : Nat} {mb sb sp fi x : Int32} (ha : h a = some (oCr pz wk my sn mb sb sc sk sp fi)) : Ct E m_Cr_waysLeft 0 0 0 [.ref a, .int x] h n (Rt (some (.int ((mb >>> (2 * x &&& 31)) &&& 3))) h n) := by
  refine Ct.go rfl rfl rfl ?_
  refine j_aload_n d_Cr_waysLeft_0 rfl ?_
  refine j_get d_Cr_waysLeft_1 fl_Cr_59 (by first | assumption | exact hset_s _ _ _ | (rw [hset_n _ _ (by omega)]; first | assumption | exact hset_s _ _ _ | (rw [hset_n _ _ (by omega)]; first | assumption | exact hset_s _ _ _ | (rw [hset_n _ _ (by omega)]; first | assumption | exact hset_s _ _ _ | (rw [hset_n _ _ (by omega)]; first | assumption | exact hset_s _ _ _))))) rfl ?_
  refine j_iconst (v := 2) d_Cr_waysLeft_4 (by decide) ?_
  refine j_iload_n d_Cr_waysLeft_5 rfl ?_
  refine j_imul d_Cr_waysLeft_6 ?_
  refine j_ishr d_Cr_waysLeft_7 ?_
  refine j_iconst (v := 3) d_Cr_waysLeft_8 (by decide) ?_
  refine j_iand d_Cr_waysLeft_9 ?_
  exact j_iret d_Cr_waysLeft_10 rfl ⟨rfl, rfl, rfl⟩
theorem c_Cr_clueOf {a pz wk my sn sc sk : Nat} {mb sb sp fi x : Int32} {f : Nat → Int32} (ha : h a = some (oCr pz wk my sn mb sb sc sk sp fi)) (hv : h sc = some (arI E 0 54 f)) (hi : vp_in x 54) : Ct E m_Cr_clueOf 0 0 0 [.ref a, .int x] h n (Rt (some (.int (f x.toNatClampNeg))) h n) := by
  refine Ct.go rfl rfl rfl ?_
  refine j_aload_n d_Cr_clueOf_0 rfl ?_
  refine j_get d_Cr_clueOf_1 fl_Cr_18 (by first | assumption | exact hset_s _ _ _ | (rw [hset_n _ _ (by omega)]; first | assumption | exact hset_s _ _ _ | (rw [hset_n _ _ (by omega)]; first | assumption | exact hset_s _ _ _ | (rw [hset_n _ _ (by omega)]; first | assumption | exact hset_s _ _ _ | (rw [hset_n _ _ (by omega)]; first | assumption | exact hset_s _ _ _))))) rfl ?_
  refine j_iload_n d_Cr_clueOf_4 rfl ?_
  refine j_iald (t := 0) d_Cr_clueOf_5 rfl (by first | assumption | exact hset_s _ _ _ | (rw [hset_n _ _ (by omega)]; first | assumption | exact hset_s _ _ _ | (rw [hset_n _ _ (by omega)]; first | assumption | exact hset_s _ _ _ | (rw [hset_n _ _ (by omega)]; first | assumption | exact hset_s _ _ _ | (rw [hset_n _ _ (by omega)]; first | assumption | exact hset_s _ _ _))))) (by assumption) rfl ?_
  exact j_iret d_Cr_clueOf_6 rfl ⟨rfl, rfl, rfl⟩
theorem c_Cr_crossedBy {a pz wk my sn sc sk : Nat} {mb sb sp fi x : Int32} {f : Nat → Int32} (ha : h a = some (oCr pz wk my sn mb sb sc sk sp fi)) (hv : h sk = some (arI E 0 54 f)) (hi : vp_in x 54) : Ct E m_Cr_crossedBy 0 0 0 [.ref a, .int x] h n (Rt (some (.int (f x.toNatClampNeg))) h n) := by
  refine Ct.go rfl rfl rfl ?_
  refine j_aload_n d_Cr_crossedBy_0 rfl ?_
  refine j_get d_Cr_crossedBy_1 fl_Cr_21 (by first | assumption | exact hset_s _ _ _ | (rw [hset_n _ _ (by omega)]; first | assumption | exact hset_s _ _ _ | (rw [hset_n _ _ (by omega)]; first | assumption | exact hset_s _ _ _ | (rw [hset_n _ _ (by omega)]; first | assumption | exact hset_s _ _ _ | (rw [hset_n _ _ (by omega)]; first | assumption | exact hset_s _ _ _))))) rfl ?_
  refine j_iload_n d_Cr_crossedBy_4 rfl ?_
  refine j_iald (t := 0) d_Cr_crossedBy_5 rfl (by first | assumption | exact hset_s _ _ _ | (rw [hset_n _ _ (by omega)]; first | assumption | exact hset_s _ _ _ | (rw [hset_n _ _ (by omega)]; first | assumption | exact hset_s _ _ _ | (rw [hset_n _ _ (by omega)]; first | assumption | exact hset_s _ _ _ | (rw [hset_n _ _ (by omega)]; first | assumption | exact hset_s _ _ _))))) (by assumption) rfl ?_
  exact j_iret d_Cr_crossedBy_6 rfl ⟨rfl, rfl, rfl⟩
theorem c_An_isNeeded {a pz wk ko kp co ho ne : Nat} {c k fo x : Int32} {f : Nat → Int32} (ha : h a = some (oAn pz wk ko kp co ho ne c k fo)) (hv : h ne = some (arI E 1 20 f)) (hi : vp_in x 20) (hf : f x.toNatClampNeg = 0 ∨ f x.toNatClampNeg = 1) : Ct E m_An_isNeeded 0 0 0 [.ref a, .int x] h n (Rt (some (.int (f x.toNatClampNeg))) h n) := by
  refine Ct.go rfl rfl rfl ?_
  refine j_aload_n d_An_isNeeded_0 rfl ?_
  refine j_get d_An_isNeeded_1 fl_An_24 (by first | assumption | exact hset_s _ _ _ | (rw [hset_n _ _ (by omega)]; first | assumption | exact hset_s _ _ _ | (rw [hset_n _ _ (by omega)]; first | assumption | exact hset_s _ _ _ | (rw [hset_n _ _ (by omega)]; first | assumption | exact hset_s _ _ _ | (rw [hset_n _ _ (by omega)]; first | assumption | exact hset_s _ _ _))))) rfl ?_
  refine j_iload_n d_An_isNeeded_4 rfl ?_
  refine j_zald (t := 1) d_An_isNeeded_5 rfl (by first | assumption | exact hset_s _ _ _ | (rw [hset_n _ _ (by omega)]; first | assumption | exact hset_s _ _ _ | (rw [hset_n _ _ (by omega)]; first | assumption | exact hset_s _ _ _ | (rw [hset_n _ _ (by omega)]; first | assumption | exact hset_s _ _ _ | (rw [hset_n _ _ (by omega)]; first | assumption | exact hset_s _ _ _))))) (by assumption) rfl ?_
  exact j_zret d_An_isNeeded_6 rfl hf ⟨rfl, rfl, rfl⟩
theorem c_An_value {a pz wk ko kp co ho ne od cl tk vl : Nat} {c k fo x y z N K M cc oc al : Int32} {f g : Nat → Int32} (ha : h a = some (oAn pz wk ko kp co ho ne c k fo)) (hp : h pz = some (oPz N K M od cl cc)) (ho' : h od = some (oOd N tk vl oc al)) (hvl : h vl = some (arI E 0 96 g)) (hv : h ko = some (arI E 0 300 f)) (hi : vp_in (3 * x + z) 300) (hj : vp_in (4 * f (3 * x + z).toNatClampNeg + y) 96) :
    Ct E m_An_value 1 0 0 [.ref a, .int x, .int y, .int z] h n (Rt (some (.int (g (4 * f (3 * x + z).toNatClampNeg + y).toNatClampNeg))) h n) := by
  refine Ct.go rfl rfl rfl ?_
  refine j_aload_n d_An_value_0 rfl ?_
  refine j_get d_An_value_1 fl_An_28 (by first | assumption | exact hset_s _ _ _ | (rw [hset_n _ _ (by omega)]; first | assumption | exact hset_s _ _ _ | (rw [hset_n _ _ (by omega)]; first | assumption | exact hset_s _ _ _ | (rw [hset_n _ _ (by omega)]; first | assumption | exact hset_s _ _ _ | (rw [hset_n _ _ (by omega)]; first | assumption | exact hset_s _ _ _))))) rfl ?_
  refine j_pV (As := []) d_An_value_4 cb_An_48 vv_Pz_orders hp rfl rfl rfl rfl (Nat.le_of_ble_eq_true rfl) (by decide) (c_Pz_orders hp rfl) ?_
  refine j_aload_n d_An_value_7 rfl ?_
  refine j_get d_An_value_8 fl_An_9 (by first | assumption | exact hset_s _ _ _ | (rw [hset_n _ _ (by omega)]; first | assumption | exact hset_s _ _ _ | (rw [hset_n _ _ (by omega)]; first | assumption | exact hset_s _ _ _ | (rw [hset_n _ _ (by omega)]; first | assumption | exact hset_s _ _ _ | (rw [hset_n _ _ (by omega)]; first | assumption | exact hset_s _ _ _))))) rfl ?_
  refine j_iconst (v := 3) d_An_value_11 (by decide) ?_
  refine j_iload_n d_An_value_12 rfl ?_
  refine j_imul d_An_value_13 ?_
  refine j_iload_n d_An_value_14 rfl ?_
  refine j_iadd d_An_value_15 ?_
  refine j_iald (t := 0) d_An_value_16 rfl (by first | assumption | exact hset_s _ _ _ | (rw [hset_n _ _ (by omega)]; first | assumption | exact hset_s _ _ _ | (rw [hset_n _ _ (by omega)]; first | assumption | exact hset_s _ _ _ | (rw [hset_n _ _ (by omega)]; first | assumption | exact hset_s _ _ _ | (rw [hset_n _ _ (by omega)]; first | assumption | exact hset_s _ _ _))))) (by assumption) rfl ?_
  refine j_iload_n d_An_value_17 rfl ?_
  refine j_pV (As := [.int _, .int _]) d_An_value_18 cb_An_54 vv_Od_value ho' rfl rfl rfl rfl (Nat.le_of_ble_eq_true rfl) (by decide) (c_Od_value ho' hvl hj) ?_
  exact j_iret d_An_value_21 rfl ⟨rfl, rfl, rfl⟩
theorem c_An_isTruthful {a pz wk ko kp co ho ne : Nat} {c k fo x y : Int32} {f g : Nat → Int32} (ha : h a = some (oAn pz wk ko kp co ho ne c k fo)) (hv : h kp = some (arI E 0 100 f)) (hg : h (E.2.2.2.2 0) = some (arI E 0 3 g)) (hi : vp_in x 100) (hj : vp_in y 3) :
    Ct E m_An_isTruthful 0 0 0 [.ref a, .int x, .int y] h n (Rt (some (.int (bI (¬ (g y.toNatClampNeg >>> (f x.toNatClampNeg &&& 31)) &&& 1 = 0)))) h n) := by
  refine Ct.go rfl rfl rfl ?_
  refine j_getsN (C := "ClueLogic") (nm := "TRUTHFUL") (ds := "[I") (host := "ClueLogic") (v := .ref (E.2.2.2.2 0)) d_An_isTruthful_0 (by simp [stats]) (by decide +kernel) ?_
  refine j_iload_n d_An_isTruthful_3 rfl ?_
  refine j_iald (t := 0) d_An_isTruthful_4 rfl (by first | assumption | exact hset_s _ _ _ | (rw [hset_n _ _ (by omega)]; first | assumption | exact hset_s _ _ _ | (rw [hset_n _ _ (by omega)]; first | assumption | exact hset_s _ _ _ | (rw [hset_n _ _ (by omega)]; first | assumption | exact hset_s _ _ _ | (rw [hset_n _ _ (by omega)]; first | assumption | exact hset_s _ _ _))))) (by assumption) rfl ?_
  refine j_aload_n d_An_isTruthful_5 rfl ?_
  refine j_get d_An_isTruthful_6 fl_An_15 (by first | assumption | exact hset_s _ _ _ | (rw [hset_n _ _ (by omega)]; first | assumption | exact hset_s _ _ _ | (rw [hset_n _ _ (by omega)]; first | assumption | exact hset_s _ _ _ | (rw [hset_n _ _ (by omega)]; first | assumption | exact hset_s _ _ _ | (rw [hset_n _ _ (by omega)]; first | assumption | exact hset_s _ _ _))))) rfl ?_
  refine j_iload_n d_An_isTruthful_9 rfl ?_
  refine j_iald (t := 0) d_An_isTruthful_10 rfl (by first | assumption | exact hset_s _ _ _ | (rw [hset_n _ _ (by omega)]; first | assumption | exact hset_s _ _ _ | (rw [hset_n _ _ (by omega)]; first | assumption | exact hset_s _ _ _ | (rw [hset_n _ _ (by omega)]; first | assumption | exact hset_s _ _ _ | (rw [hset_n _ _ (by omega)]; first | assumption | exact hset_s _ _ _))))) (by assumption) rfl ?_
  refine j_ishr d_An_isTruthful_11 ?_
  refine j_iconst (v := 1) d_An_isTruthful_12 (by decide) ?_
  refine j_iand d_An_isTruthful_13 ?_
  refine j_if_eq (tgt := 21) d_An_isTruthful_14 (by decide) (fun c => ?_) (fun c => ?_)
  · refine j_iconst (v := 0) d_An_isTruthful_21 (by decide) ?_
    exact j_zret d_An_isTruthful_22 rfl (Or.inl rfl) ⟨by rw [bI_f (fun q => q c)], rfl, rfl⟩
  · refine j_iconst (v := 1) d_An_isTruthful_17 (by decide) ?_
    refine j_goto (tgt := 22) d_An_isTruthful_18 (by decide) ?_
    exact j_zret d_An_isTruthful_22 rfl (Or.inr rfl) ⟨by rw [bI_t c], rfl, rfl⟩
end LE
end
section
section CLU
variable {E : EV} {h : HP} {n : Nat}
/-- what two seats must be to each other, by the sign's byte -/
def relF (sg a b : Int32) : Prop := if sg = 61 then a = b else if sg = 33 then ¬ a = b else if sg = 60 then a < b else (a - b = 1 ∨ b - a = 1)
noncomputable def relM (sg a b : Int32) : Int32 := @ite _ (relF sg a b) (Classical.propDecidable _) (-1) 0
theorem relM_t {sg a b : Int32} (h : relF sg a b) : relM sg a b = -1 := by unfold relM; rw [if_pos h]
theorem relM_f {sg a b : Int32} (h : ¬ relF sg a b) : relM sg a b = 0 := by unfold relM; rw [if_neg h]
/-- relates: 1 or 0 -/
theorem c_Ov_relates {a : Nat} {sg v w x y : Int32} (ha : h a = some (oOv sg v w)) : Ct E m_Ov_relates 0 0 0 [.ref a, .int x, .int y] h n (fun r h' n' => h' = h ∧ n' = n ∧ ((relF sg x y ∧ r = some (.int 1)) ∨ (¬ relF sg x y ∧ r = some (.int 0)))) := by
  refine Ct.go rfl rfl rfl ?_
  refine j_aload_n d_Ov_relates_0 rfl ?_
  refine j_get d_Ov_relates_1 fl_Ov_7 (by first | assumption | exact hset_s _ _ _ | (rw [hset_n _ _ (by omega)]; first | assumption | exact hset_s _ _ _ | (rw [hset_n _ _ (by omega)]; first | assumption | exact hset_s _ _ _ | (rw [hset_n _ _ (by omega)]; first | assumption | exact hset_s _ _ _ | (rw [hset_n _ _ (by omega)]; first | assumption | exact hset_s _ _ _))))) rfl ?_
  by_cases h61 : sg = 61
  · subst h61
    refine j_lookup (tgt := 40) d_Ov_relates_4 (by decide) (off := 36) (by decide) (by decide) ?_
    refine j_iload_n d_Ov_relates_40 rfl ?_
    refine j_iload_n d_Ov_relates_41 rfl ?_
    refine j_icmp_ne (tgt := 49) d_Ov_relates_42 (by decide) (fun c => ?_) (fun c => ?_)
    · refine j_iconst (v := 0) d_Ov_relates_49 (by decide) ?_
      exact j_zret d_Ov_relates_50 rfl (Or.inl rfl) ⟨rfl, rfl, Or.inr ⟨by simpa [relF] using c, rfl⟩⟩
    · refine j_iconst (v := 1) d_Ov_relates_45 (by decide) ?_
      refine j_goto (tgt := 50) d_Ov_relates_46 (by decide) ?_
      exact j_zret d_Ov_relates_50 rfl (Or.inr rfl) ⟨rfl, rfl, Or.inl ⟨by simpa [relF] using c, rfl⟩⟩
  by_cases h33 : sg = 33
  · subst h33
    refine j_lookup (tgt := 51) d_Ov_relates_4 (by decide) (off := 47) (by decide) (by decide) ?_
    refine j_iload_n d_Ov_relates_51 rfl ?_
    refine j_iload_n d_Ov_relates_52 rfl ?_
    refine j_icmp_eq (tgt := 60) d_Ov_relates_53 (by decide) (fun c => ?_) (fun c => ?_)
    · refine j_iconst (v := 0) d_Ov_relates_60 (by decide) ?_
      exact j_zret d_Ov_relates_61 rfl (Or.inl rfl) ⟨rfl, rfl, Or.inr ⟨by simpa [relF] using c, rfl⟩⟩
    · refine j_iconst (v := 1) d_Ov_relates_56 (by decide) ?_
      refine j_goto (tgt := 61) d_Ov_relates_57 (by decide) ?_
      exact j_zret d_Ov_relates_61 rfl (Or.inr rfl) ⟨rfl, rfl, Or.inl ⟨by simpa [relF] using c, rfl⟩⟩
  by_cases h60 : sg = 60
  · subst h60
    refine j_lookup (tgt := 62) d_Ov_relates_4 (by decide) (off := 58) (by decide) (by decide) ?_
    refine j_iload_n d_Ov_relates_62 rfl ?_
    refine j_iload_n d_Ov_relates_63 rfl ?_
    refine j_icmp_ge (tgt := 71) d_Ov_relates_64 (by decide) (fun c => ?_) (fun c => ?_)
    · refine j_iconst (v := 0) d_Ov_relates_71 (by decide) ?_
      exact j_zret d_Ov_relates_72 rfl (Or.inl rfl) ⟨rfl, rfl, Or.inr ⟨by simpa [relF] using c, rfl⟩⟩
    · refine j_iconst (v := 1) d_Ov_relates_67 (by decide) ?_
      refine j_goto (tgt := 72) d_Ov_relates_68 (by decide) ?_
      exact j_zret d_Ov_relates_72 rfl (Or.inr rfl) ⟨rfl, rfl, Or.inl ⟨by simpa [relF] using c, rfl⟩⟩
  refine j_lookup (tgt := 73) d_Ov_relates_4 (by decide) (off := 69) ?_ (by decide) ?_
  · show Op.lookupswitch.offset [(33, 47), (60, 58), (61, 36)] 69 sg.toInt = 69
    rw [lv_osw h33 (by decide), lv_osw h60 (by decide), lv_osw h61 (by decide)]
    rfl
  refine j_iload_n d_Ov_relates_73 rfl ?_
  refine j_iload_n d_Ov_relates_74 rfl ?_
  refine j_isub d_Ov_relates_75 ?_
  refine j_iconst (v := 1) d_Ov_relates_76 (by decide) ?_
  refine j_icmp_eq (tgt := 87) d_Ov_relates_77 (by decide) (fun c => ?_) (fun c => ?_)
  · refine j_iconst (v := 1) d_Ov_relates_87 (by decide) ?_
    refine j_goto (tgt := 92) d_Ov_relates_88 (by decide) ?_
    exact j_zret d_Ov_relates_92 rfl (Or.inr rfl) ⟨rfl, rfl, Or.inl ⟨by simp [relF, h61, h33, h60, c], rfl⟩⟩
  · refine j_iload_n d_Ov_relates_80 rfl ?_
    refine j_iload_n d_Ov_relates_81 rfl ?_
    refine j_isub d_Ov_relates_82 ?_
    refine j_iconst (v := 1) d_Ov_relates_83 (by decide) ?_
    refine j_icmp_ne (tgt := 91) d_Ov_relates_84 (by decide) (fun c2 => ?_) (fun c2 => ?_)
    · refine j_iconst (v := 0) d_Ov_relates_91 (by decide) ?_
      exact j_zret d_Ov_relates_92 rfl (Or.inl rfl) ⟨rfl, rfl, Or.inr ⟨by simp [relF, h61, h33, h60, c, c2], rfl⟩⟩
    · refine j_iconst (v := 1) d_Ov_relates_87 (by decide) ?_
      refine j_goto (tgt := 92) d_Ov_relates_88 (by decide) ?_
      exact j_zret d_Ov_relates_92 rfl (Or.inr rfl) ⟨rfl, rfl, Or.inl ⟨by simp [relF, h61, h33, h60, c2], rfl⟩⟩
/-- the clue whose parts lie in the heap at a, low by D: which parties it holds with, by the seats -/
def CR : Nat → HP → Nat → ((Nat → Int32) → Int32) → Prop
  | 0, _, _, _ => False
  | D + 1, h, a, φ =>
    (∃ sg v w, h a = some (oOv sg v w) ∧ vp_in v 12 ∧ vp_in w 12 ∧ φ = fun th => relM sg (th v.toNatClampNeg) (th w.toNatClampNeg)) ∨
    (∃ p, h a = some (oOp p) ∧ φ = fun _ => p) ∨
    (∃ t p ψ, h a = some (oTu t p) ∧ CR D h p ψ ∧ φ = fun th => t ^^^ ψ th) ∨
    (∃ b p q ψ χ, h a = some (oJo b p q) ∧ CR D h p ψ ∧ CR D h q χ ∧ φ = fun th => if b = 0 then ψ th ||| χ th else ψ th &&& χ th)
theorem CR.mono : ∀ {D D' : Nat} {h : HP} {a : Nat} {φ : (Nat → Int32) → Int32}, D ≤ D' → CR D h a φ → CR D' h a φ
  | 0, _, _, _, _, _, hc => absurd hc (by simp [CR])
  | D + 1, 0, _, _, _, hD, _ => absurd hD (by omega)
  | D + 1, D' + 1, h, a, φ, hD, hc => by
    have hm : ∀ {p ψ}, CR D h p ψ → CR D' h p ψ := fun x => CR.mono (by omega) x
    rcases hc with hc | hc | ⟨t, p, ψ, h1, h2, h3⟩ | ⟨b, p, q, ψ, χ, h1, h2, h3, h4⟩
    · exact Or.inl hc
    · exact Or.inr (Or.inl hc)
    · exact Or.inr (Or.inr (Or.inl ⟨t, p, ψ, h1, hm h2, h3⟩))
    · exact Or.inr (Or.inr (Or.inr ⟨b, p, q, ψ, χ, h1, hm h2, hm h3, h4⟩))
/-- the cells of clues stay -/
def clN (ci : Nat) : Prop := ci = 3 ∨ ci = 4 ∨ ci = 5 ∨ ci = 9
def CK (h h' : HP) : Prop := ∀ (q ci : Nat) (fs : List Value), clN ci → h q = some (.inr (ci, fs)) → h' q = some (.inr (ci, fs))
theorem CK.rf {h : HP} : CK h h := fun _ _ _ _ h => h
theorem CK.trans {h h' h'' : HP} (a : CK h h') (b : CK h' h'') : CK h h'' := fun q ci fs hc hq => b q ci fs hc (a q ci fs hc hq)
/-- a cell that no clue is may be changed -/
theorem CK.set {h : HP} {a : Nat} {e : va_E} (ha : ∀ ci fs, clN ci → h a ≠ some (.inr (ci, fs))) : CK h (hset h a e) := by
  intro q ci fs hc hq
  by_cases hqa : q = a
  · subst hqa; exact absurd hq (ha ci fs hc)
  · rw [hset_n h e hqa]; exact hq
theorem CR.kept : ∀ {D : Nat} {h h' : HP} {a : Nat} {φ : (Nat → Int32) → Int32}, CK h h' → CR D h a φ → CR D h' a φ
  | 0, _, _, _, _, _, hc => absurd hc (by simp [CR])
  | D + 1, h, h', a, φ, hk, hc => by
    rcases hc with ⟨sg, v, w, h1, h2⟩ | ⟨p, h1, h2⟩ | ⟨t, p, ψ, h1, h2, h3⟩ | ⟨b, p, q, ψ, χ, h1, h2, h3, h4⟩
    · exact Or.inl ⟨sg, v, w, hk a _ _ (by simp [clN]) h1, h2⟩
    · exact Or.inr (Or.inl ⟨p, hk a _ _ (by simp [clN]) h1, h2⟩)
    · exact Or.inr (Or.inr (Or.inl ⟨t, p, ψ, hk a _ _ (by simp [clN]) h1, CR.kept hk h2, h3⟩))
    · exact Or.inr (Or.inr (Or.inr ⟨b, p, q, ψ, χ, hk a _ _ (by simp [clN]) h1, CR.kept hk h2, CR.kept hk h3, h4⟩))
/-- what the heap tells lies below its end -/
def Dm (h : HP) (n : Nat) : Prop := ∀ (q : Nat) (e : va_E), h q = some e → q < n
theorem J.dm {M : MI} {d cl sl pc : Nat} {L : List (Nat × Value)} {st : List Value} {Q : Option Value → HP → Nat → Prop} (k : Dm h n → J E M d cl sl pc L st h n Q) : J E M d cl sl pc L st h n Q := by
  intro p e R s m args below meth c H locs cells slots ls X Y
  exact k (fun q f hq => by have := va_at.lt (Y.2.1 q f hq); rw [← Y.2.2.1]; exact this) p e R s m args below meth c H locs cells slots ls X Y
theorem J.base {M : MI} {d cl sl pc : Nat} {L : List (Nat × Value)} {st : List Value} {Q : Option Value → HP → Nat → Prop} (k : E.2.2.2.1 ≤ n → J E M d cl sl pc L st h n Q) : J E M d cl sl pc L st h n Q := by
  intro p e R s m args below meth c H locs cells slots ls X Y
  refine k ?_ p e R s m args below meth c H locs cells slots ls X Y
  have h1 := X.2.2.2.2.2.2.2.2.2.2
  have h2 := Y.2.2.2.1.1
  have h3 := Y.2.2.1
  omega
/-- a call of holds at a: whatever class the object has -/
def HC (E : EV) (D : Nat) (h : HP) (n a ta : Nat) (v : Int32) : Prop := ∃ (M' : MI) (ci : Nat) (r : vw_C) (fs : List Value), h a = some (.inr (ci, fs)) ∧ classes[ci]? = some r ∧ r.1 = M'.1.cls ∧ (Cond.code M'.1 M'.2.1 M'.2.2.1 M'.2.2.2 ∈ GW ∧ Cond.selects M'.1.cls xHolds M'.1 ∈ GW ∧ Cond.instanceMethod M'.1 ∈ GW ∧ Cond.initialized M'.1.cls ∈ GW) ∧ (M'.1.cls, xHolds, M'.1) ∈ faceW ∧ M'.2.2.1 ≤ 21 ∧ Ct E M' D 0 0 [.ref a, .ref ta] h n (Rt (some (.int v)) h n)
theorem j_holds {M : MI} {d cl sl pc idx D a ta : Nat} {L : List (Nat × Value)} {rest : List Value} {v : Int32} {Q : Option Value → HP → Nat → Prop} (hd : decode M.2.1 pc = .ok (.invokeinterface idx 2, 5)) (hl : Cond.methodLink M.1.cls idx xHolds ∈ GW) (hc : HC E D h n a ta v) (hroom : (rest.map fun v => v.category).sum ≤ 8) (hdd : D + 1 ≤ d) (kk : J E M d cl sl (pc + 5) L (.int v :: rest) h n Q) : J E M d cl sl pc L (.ref ta :: .ref a :: rest) h n Q := by
  obtain ⟨M', ci, r, fs, h1, h2, h3, ⟨g1, g2, g3, g4⟩, h5, h6, ct⟩ := hc
  exact j_callF (k := 1) (As := [.ref ta]) hd ⟨g1, hl, g2, g3, g4⟩ h5 (by decide +kernel) h6 h1 h2 h3 rfl rfl hroom hdd (Nat.zero_le _) (Nat.zero_le _) ct (fun v' h' n' q _ => by obtain ⟨rfl, rfl, rfl⟩ := q; exact kk)
theorem c_holds {ta : Nat} {th : Nat → Int32} (hta : h ta = some (arI E 0 12 th)) : ∀ (D a : Nat) (φ : (Nat → Int32) → Int32), CR D h a φ → HC E D h n a ta (φ th) := by
  intro D
  induction D with
  | zero => intro a φ hc; exact absurd hc (by simp [CR])
  | succ D ih =>
    intro a φ hc
    rcases hc with ⟨sg, v, w, ha, hv, hw, rfl⟩ | ⟨p, ha, rfl⟩ | ⟨t, p, ψ, ha, hp, rfl⟩ | ⟨b, p, q, ψ, χ, ha, hp, hq, rfl⟩
    · refine ⟨m_Ov_holds, 5, _, _, ha, rfl, rfl, hv_Ov_holds, by decide +kernel, by decide, ?_⟩
      refine Ct.go rfl rfl rfl ?_
      refine j_aload_n d_Ov_holds_0 rfl ?_
      refine j_aload_n d_Ov_holds_1 rfl ?_
      refine j_aload_n d_Ov_holds_2 rfl ?_
      refine j_get d_Ov_holds_3 fl_Ov_13 (by first | assumption | exact hset_s _ _ _ | (rw [hset_n _ _ (by omega)]; first | assumption | exact hset_s _ _ _ | (rw [hset_n _ _ (by omega)]; first | assumption | exact hset_s _ _ _ | (rw [hset_n _ _ (by omega)]; first | assumption | exact hset_s _ _ _ | (rw [hset_n _ _ (by omega)]; first | assumption | exact hset_s _ _ _))))) rfl ?_
      refine j_iald (t := 0) d_Ov_holds_6 rfl (by first | assumption | exact hset_s _ _ _ | (rw [hset_n _ _ (by omega)]; first | assumption | exact hset_s _ _ _ | (rw [hset_n _ _ (by omega)]; first | assumption | exact hset_s _ _ _ | (rw [hset_n _ _ (by omega)]; first | assumption | exact hset_s _ _ _ | (rw [hset_n _ _ (by omega)]; first | assumption | exact hset_s _ _ _))))) hv rfl ?_
      refine j_aload_n d_Ov_holds_7 rfl ?_
      refine j_aload_n d_Ov_holds_8 rfl ?_
      refine j_get d_Ov_holds_9 fl_Ov_16 (by first | assumption | exact hset_s _ _ _ | (rw [hset_n _ _ (by omega)]; first | assumption | exact hset_s _ _ _ | (rw [hset_n _ _ (by omega)]; first | assumption | exact hset_s _ _ _ | (rw [hset_n _ _ (by omega)]; first | assumption | exact hset_s _ _ _ | (rw [hset_n _ _ (by omega)]; first | assumption | exact hset_s _ _ _))))) rfl ?_
      refine j_iald (t := 0) d_Ov_holds_12 rfl (by first | assumption | exact hset_s _ _ _ | (rw [hset_n _ _ (by omega)]; first | assumption | exact hset_s _ _ _ | (rw [hset_n _ _ (by omega)]; first | assumption | exact hset_s _ _ _ | (rw [hset_n _ _ (by omega)]; first | assumption | exact hset_s _ _ _ | (rw [hset_n _ _ (by omega)]; first | assumption | exact hset_s _ _ _))))) hw rfl ?_
      refine j_callV (As := [.int _, .int _]) d_Ov_holds_13 cb_Ov_19 vv_Ov_relates ha rfl rfl rfl rfl (Nat.le_of_ble_eq_true rfl) (by omega) (Nat.zero_le _) (Nat.zero_le _) (c_Ov_relates ha) (fun v' h' n' q _ => ?_)
      obtain ⟨rfl, rfl, ⟨hr, rfl⟩ | ⟨hr, rfl⟩⟩ := q
      · refine j_if_eq (tgt := 23) d_Ov_holds_16 (by decide) (fun c => absurd c (by decide)) (fun c => ?_)
        refine j_iconst (v := (-1)) d_Ov_holds_19 (by decide) ?_
        refine j_goto (tgt := 24) d_Ov_holds_20 (by decide) ?_
        exact j_iret d_Ov_holds_24 rfl ⟨by simp only [relM_t hr], rfl, rfl⟩
      · refine j_if_eq (tgt := 23) d_Ov_holds_16 (by decide) (fun c => ?_) (fun c => absurd rfl c)
        refine j_iconst (v := 0) d_Ov_holds_23 (by decide) ?_
        exact j_iret d_Ov_holds_24 rfl ⟨by simp only [relM_f hr], rfl, rfl⟩
    · refine ⟨m_Op_holds, 4, _, _, ha, rfl, rfl, hv_Op_holds, by decide +kernel, by decide, ?_⟩
      refine Ct.go rfl rfl rfl ?_
      refine j_aload_n d_Op_holds_0 rfl ?_
      refine j_get d_Op_holds_1 fl_Op_13 (by first | assumption | exact hset_s _ _ _ | (rw [hset_n _ _ (by omega)]; first | assumption | exact hset_s _ _ _ | (rw [hset_n _ _ (by omega)]; first | assumption | exact hset_s _ _ _ | (rw [hset_n _ _ (by omega)]; first | assumption | exact hset_s _ _ _ | (rw [hset_n _ _ (by omega)]; first | assumption | exact hset_s _ _ _))))) rfl ?_
      exact j_iret d_Op_holds_4 rfl ⟨rfl, rfl, rfl⟩
    · refine ⟨m_Tu_holds, 9, _, _, ha, rfl, rfl, hv_Tu_holds, by decide +kernel, by decide, ?_⟩
      refine Ct.go rfl rfl rfl ?_
      refine j_aload_n d_Tu_holds_0 rfl ?_
      refine j_get d_Tu_holds_1 fl_Tu_7 (by first | assumption | exact hset_s _ _ _ | (rw [hset_n _ _ (by omega)]; first | assumption | exact hset_s _ _ _ | (rw [hset_n _ _ (by omega)]; first | assumption | exact hset_s _ _ _ | (rw [hset_n _ _ (by omega)]; first | assumption | exact hset_s _ _ _ | (rw [hset_n _ _ (by omega)]; first | assumption | exact hset_s _ _ _))))) rfl ?_
      refine j_aload_n d_Tu_holds_4 rfl ?_
      refine j_get d_Tu_holds_5 fl_Tu_13 (by first | assumption | exact hset_s _ _ _ | (rw [hset_n _ _ (by omega)]; first | assumption | exact hset_s _ _ _ | (rw [hset_n _ _ (by omega)]; first | assumption | exact hset_s _ _ _ | (rw [hset_n _ _ (by omega)]; first | assumption | exact hset_s _ _ _ | (rw [hset_n _ _ (by omega)]; first | assumption | exact hset_s _ _ _))))) rfl ?_
      refine j_aload_n d_Tu_holds_8 rfl ?_
      refine j_holds d_Tu_holds_9 fk_Tu_17 (ih p ψ hp) (Nat.le_of_ble_eq_true rfl) (by omega) ?_
      refine j_ixor d_Tu_holds_14 ?_
      exact j_iret d_Tu_holds_15 rfl ⟨rfl, rfl, rfl⟩
    · refine ⟨m_Jo_holds, 3, _, _, ha, rfl, rfl, hv_Jo_holds, by decide +kernel, by decide, ?_⟩
      refine Ct.go rfl rfl rfl ?_
      refine j_aload_n d_Jo_holds_0 rfl ?_
      refine j_get d_Jo_holds_1 fl_Jo_13 (by first | assumption | exact hset_s _ _ _ | (rw [hset_n _ _ (by omega)]; first | assumption | exact hset_s _ _ _ | (rw [hset_n _ _ (by omega)]; first | assumption | exact hset_s _ _ _ | (rw [hset_n _ _ (by omega)]; first | assumption | exact hset_s _ _ _ | (rw [hset_n _ _ (by omega)]; first | assumption | exact hset_s _ _ _))))) rfl ?_
      refine j_aload_n d_Jo_holds_4 rfl ?_
      refine j_holds d_Jo_holds_5 fk_Jo_20 (ih p ψ hp) (Nat.le_of_ble_eq_true rfl) (by omega) ?_
      refine j_istore_n d_Jo_holds_10 (by decide) ?_
      refine j_aload_n d_Jo_holds_11 rfl ?_
      refine j_get d_Jo_holds_12 fl_Jo_17 (by first | assumption | exact hset_s _ _ _ | (rw [hset_n _ _ (by omega)]; first | assumption | exact hset_s _ _ _ | (rw [hset_n _ _ (by omega)]; first | assumption | exact hset_s _ _ _ | (rw [hset_n _ _ (by omega)]; first | assumption | exact hset_s _ _ _ | (rw [hset_n _ _ (by omega)]; first | assumption | exact hset_s _ _ _))))) rfl ?_
      refine j_aload_n d_Jo_holds_15 rfl ?_
      refine j_holds d_Jo_holds_16 fk_Jo_20 (ih q χ hq) (Nat.le_of_ble_eq_true rfl) (by omega) ?_
      refine j_istore_n d_Jo_holds_21 (by decide) ?_
      refine j_aload_n d_Jo_holds_22 rfl ?_
      refine j_get d_Jo_holds_23 fl_Jo_7 (by first | assumption | exact hset_s _ _ _ | (rw [hset_n _ _ (by omega)]; first | assumption | exact hset_s _ _ _ | (rw [hset_n _ _ (by omega)]; first | assumption | exact hset_s _ _ _ | (rw [hset_n _ _ (by omega)]; first | assumption | exact hset_s _ _ _ | (rw [hset_n _ _ (by omega)]; first | assumption | exact hset_s _ _ _))))) rfl ?_
      refine j_if_eq (tgt := 35) d_Jo_holds_26 (by decide) (fun c => ?_) (fun c => ?_)
      · refine j_iload_n d_Jo_holds_35 rfl ?_
        refine j_iload_n d_Jo_holds_36 rfl ?_
        refine j_ior d_Jo_holds_37 ?_
        exact j_iret d_Jo_holds_38 rfl ⟨by simp only [if_pos c], rfl, rfl⟩
      · refine j_iload_n d_Jo_holds_29 rfl ?_
        refine j_iload_n d_Jo_holds_30 rfl ?_
        refine j_iand d_Jo_holds_31 ?_
        refine j_goto (tgt := 38) d_Jo_holds_32 (by decide) ?_
        exact j_iret d_Jo_holds_38 rfl ⟨by simp only [if_neg c], rfl, rfl⟩
end CLU
end
section
section ORD
variable {E : EV} {h : HP} {n : Nat}
/-- what an Orders holds: count, ticks, value, allTicks -/
abbrev OS : Type := Nat × (Nat → Int32) × (Nat → Int32) × Int32
/-- the heap with an Orders of N things at o, its rows behind it -/
def hO (E : EV) (h : HP) (o N : Nat) (s : OS) : HP := hset (hset (hset h o (oOd (nI N) (o + 1) (o + 2) (nI s.1) s.2.2.2)) (o + 1) (arI E 0 24 s.2.1)) (o + 2) (arI E 0 96 s.2.2.1)
theorem hO_o {o N : Nat} {s : OS} : hO E h o N s o = some (oOd (nI N) (o + 1) (o + 2) (nI s.1) s.2.2.2) := by simp [hO, hset]
theorem hO_t {o N : Nat} {s : OS} : hO E h o N s (o + 1) = some (arI E 0 24 s.2.1) := by simp [hO, hset]
theorem hO_v {o N : Nat} {s : OS} : hO E h o N s (o + 2) = some (arI E 0 96 s.2.2.1) := by simp [hO, hset]
theorem hO_x {o N q : Nat} {s : OS} (h1 : q ≠ o) (h2 : q ≠ o + 1) (h3 : q ≠ o + 2) : hO E h o N s q = h q := by simp [hO, hset, h1, h2, h3]
theorem hO_so {o N c : Nat} {s : OS} {al : Int32} : hset (hO E h o N s) o (oOd (nI N) (o + 1) (o + 2) (nI c) al) = hO E h o N (c, s.2.1, s.2.2.1, al) := by
  funext q
  unfold hO hset
  by_cases h1 : q = o <;> by_cases h2 : q = o + 1 <;> by_cases h3 : q = o + 2 <;> simp_all
theorem hO_st {o N : Nat} {s : OS} {f : Nat → Int32} : hset (hO E h o N s) (o + 1) (arI E 0 24 f) = hO E h o N (s.1, f, s.2.2.1, s.2.2.2) := by
  funext q
  unfold hO hset
  by_cases h1 : q = o <;> by_cases h2 : q = o + 1 <;> by_cases h3 : q = o + 2 <;> simp_all
theorem hO_sv {o N : Nat} {s : OS} {f : Nat → Int32} : hset (hO E h o N s) (o + 2) (arI E 0 96 f) = hO E h o N (s.1, s.2.1, f, s.2.2.2) := by
  funext q
  unfold hO hset
  by_cases h1 : q = o <;> by_cases h2 : q = o + 1 <;> by_cases h3 : q = o + 2 <;> simp_all
theorem n4 : (4 : Int32) = nI 4 := rfl
theorem nI_4 (a b : Nat) : 4 * nI a + nI b = nI (4 * a + b) := by rw [n4, pk_mul, nI_add]
/-- the value row of one more order -/
def vlA (vl : Nat → Int32) (c : Nat) (t : Int32) : Nat → Nat → Int32
  | 0 => vl
  | k + 1 => upd (vlA vl c t k) (4 * c + k) (bcF (((t >>> ((4 * nI k) &&& 31)) &&& 15) - 1))
def addF (N : Nat) (s : OS) (t : Int32) : OS := if s.1 < 24 then (s.1 + 1, upd s.2.1 s.1 t, vlA s.2.2.1 s.1 t N, s.2.2.2 ||| t) else s
def ofill (N : Nat) : Nat → Nat → Int32 → OS → OS
  | 0, _, _, s => s
  | f + 1, th, tk, s => if N ≤ th then addF N s tk else (List.range' 0 N).foldl (fun s v => if tk &&& (4369 <<< (nI v &&& 31)) = 0 then ofill N f (th + 1) (tk ||| (1 <<< (nI (4 * th + v) &&& 31))) s else s) s
theorem addF_le {N : Nat} {s : OS} {t : Int32} (h : s.1 ≤ 24) : (addF N s t).1 ≤ 24 := by
  unfold addF
  split
  · show s.1 + 1 ≤ 24; omega
  · exact h
theorem foldl_le {β : Type} (P : OS → Prop) (g : OS → β → OS) (hg : ∀ s v, P s → P (g s v)) : ∀ (l : List β) (s : OS), P s → P (l.foldl g s)
  | [], _, h => h
  | v :: l, s, h => foldl_le P g hg l (g s v) (hg s v h)
theorem ofill_le {N : Nat} : ∀ (f th : Nat) (tk : Int32) (s : OS), s.1 ≤ 24 → (ofill N f th tk s).1 ≤ 24
  | 0, _, _, _, h => h
  | f + 1, th, tk, s, h => by
    unfold ofill
    split
    · exact addF_le h
    · refine foldl_le (fun s => s.1 ≤ 24) _ (fun s v hs => ?_) _ s h
      split
      · exact ofill_le f _ _ s hs
      · exact hs
theorem l_Od_add {d cl sl o N c : Nat} {tkf vl : Nat → Int32} {al t w : Int32} {Q : Option Value → HP → Nat → Prop} (hN : N ≤ 4) (hb : E.2.2.2.1 ≤ o) (hc : c < 24) (hd : 1 ≤ d) (hQ : Q none (hO E h o N (c + 1, tkf, vlA vl c t N, al)) n) :
    ∀ k i, i + k = N → ∀ L, (L = [(0, .ref o), (1, .int t), (2, .int (nI i))] ∨ ∃ w, L = [(0, .ref o), (1, .int t), (2, .int (nI i)), (3, .int w)]) → J E m_Od_add d cl sl 32 L [] (hO E h o N (c, tkf, vlA vl c t i, al)) n Q := by
  intro k
  induction k with
  | zero =>
    intro i hi L hL
    have hi : i = N := by omega
    subst hi
    have hoo := hO_o (E := E) (h := h) (o := o) (N := i) (s := (c, tkf, vlA vl c t i, al))
    rcases hL with rfl | ⟨w, rfl⟩
    all_goals
      refine j_iload_n d_Od_add_32 rfl ?_
      refine j_aload_n d_Od_add_33 rfl ?_
      refine j_get d_Od_add_34 fl_Od_18 (by first | assumption | exact hset_s _ _ _ | (rw [hset_n _ _ (by omega)]; first | assumption | exact hset_s _ _ _ | (rw [hset_n _ _ (by omega)]; first | assumption | exact hset_s _ _ _ | (rw [hset_n _ _ (by omega)]; first | assumption | exact hset_s _ _ _ | (rw [hset_n _ _ (by omega)]; first | assumption | exact hset_s _ _ _))))) rfl ?_
      refine j_icmp_ge (tgt := 74) d_Od_add_37 (by decide) (fun c1 => ?_) (fun c1 => absurd (nI_le (Nat.le_refl _) (by omega)) c1)
      refine j_aload_n d_Od_add_74 rfl ?_
      refine j_dup d_Od_add_75 rfl ?_
      refine j_get d_Od_add_76 fl_Od_26 (by first | assumption | exact hset_s _ _ _ | (rw [hset_n _ _ (by omega)]; first | assumption | exact hset_s _ _ _ | (rw [hset_n _ _ (by omega)]; first | assumption | exact hset_s _ _ _ | (rw [hset_n _ _ (by omega)]; first | assumption | exact hset_s _ _ _ | (rw [hset_n _ _ (by omega)]; first | assumption | exact hset_s _ _ _))))) rfl ?_
      refine j_iconst (v := 1) d_Od_add_79 (by decide) ?_
      refine j_iadd d_Od_add_80 ?_
      refine j_put d_Od_add_81 fl_Od_26 fp_Od (Or.inl rfl) hoo hb rfl rfl (Nat.le_of_ble_eq_true rfl) ?_
      refine J.conv (L := _) rfl (show _ = hO E h o i (c + 1, tkf, vlA vl c t i, al) from ?_) ?_
      · show hset _ o (oOd (nI i) (o + 1) (o + 2) (nI c + 1) al) = _
        rw [nI_1, hO_so]
      · exact j_vret d_Od_add_84 rfl hQ
  | succ k ih =>
    intro i hi L hL
    have hoo := hO_o (E := E) (h := h) (o := o) (N := N) (s := (c, tkf, vlA vl c t i, al))
    have hov := hO_v (E := E) (h := h) (o := o) (N := N) (s := (c, tkf, vlA vl c t i, al))
    rcases hL with rfl | ⟨w, rfl⟩
    all_goals
      refine j_iload_n d_Od_add_32 rfl ?_
      refine j_aload_n d_Od_add_33 rfl ?_
      refine j_get d_Od_add_34 fl_Od_18 (by first | assumption | exact hset_s _ _ _ | (rw [hset_n _ _ (by omega)]; first | assumption | exact hset_s _ _ _ | (rw [hset_n _ _ (by omega)]; first | assumption | exact hset_s _ _ _ | (rw [hset_n _ _ (by omega)]; first | assumption | exact hset_s _ _ _ | (rw [hset_n _ _ (by omega)]; first | assumption | exact hset_s _ _ _))))) rfl ?_
      refine j_icmp_ge (tgt := 74) d_Od_add_37 (by decide) (fun c1 => absurd c1 (nI_ge (by omega) (by omega))) (fun c2 => ?_)
      refine j_iload_n d_Od_add_40 rfl ?_
      refine j_iconst (v := 4) d_Od_add_41 (by decide) ?_
      refine j_iload_n d_Od_add_42 rfl ?_
      refine j_imul d_Od_add_43 ?_
      refine j_ishr d_Od_add_44 ?_
      refine j_bipush (v := 15) d_Od_add_45 (by decide) ?_
      refine j_iand d_Od_add_47 ?_
      refine j_istore_n d_Od_add_48 (by decide) ?_
      refine j_aload_n d_Od_add_49 rfl ?_
      refine j_get d_Od_add_50 fl_Od_15 (by first | assumption | exact hset_s _ _ _ | (rw [hset_n _ _ (by omega)]; first | assumption | exact hset_s _ _ _ | (rw [hset_n _ _ (by omega)]; first | assumption | exact hset_s _ _ _ | (rw [hset_n _ _ (by omega)]; first | assumption | exact hset_s _ _ _ | (rw [hset_n _ _ (by omega)]; first | assumption | exact hset_s _ _ _))))) rfl ?_
      refine j_iconst (v := 4) d_Od_add_53 (by decide) ?_
      refine j_aload_n d_Od_add_54 rfl ?_
      refine j_get d_Od_add_55 fl_Od_26 (by first | assumption | exact hset_s _ _ _ | (rw [hset_n _ _ (by omega)]; first | assumption | exact hset_s _ _ _ | (rw [hset_n _ _ (by omega)]; first | assumption | exact hset_s _ _ _ | (rw [hset_n _ _ (by omega)]; first | assumption | exact hset_s _ _ _ | (rw [hset_n _ _ (by omega)]; first | assumption | exact hset_s _ _ _))))) rfl ?_
      refine j_imul d_Od_add_58 ?_
      refine j_iload_n d_Od_add_59 rfl ?_
      refine j_iadd d_Od_add_60 ?_
      refine j_iload_n d_Od_add_61 rfl ?_
      refine j_iconst (v := 1) d_Od_add_62 (by decide) ?_
      refine j_isub d_Od_add_63 ?_
      refine j_pS (As := [.int _]) d_Od_add_64 cb_Od_36 sv_In_bitCount rfl rfl (Nat.le_of_ble_eq_true rfl) hd (c_In_bitCount _) ?_
      refine j_iast (t := 0) d_Od_add_67 rfl hov (by omega) (show vp_in (4 * nI c + nI i) 96 by rw [nI_4]; exact vp_in_nI (by omega) (by omega)) ?_
      refine j_iinc (v := nI (i + 1)) d_Od_add_68 rfl (nI_succ i).symm (by decide) ?_
      refine j_goto (tgt := 32) d_Od_add_71 (by decide) ?_
      refine J.conv (L := _) rfl ?_ (ih (i + 1) (by omega) _ (Or.inr ⟨_, rfl⟩))
      show hset _ (o + 2) (arI E 0 96 (upd (vlA vl c t i) (4 * nI c + nI i).toNatClampNeg _)) = _
      rw [nI_4, nI_clamp (by omega), hO_sv]
      rfl
theorem c_Od_add {o N : Nat} {s : OS} {t : Int32} (hN : N ≤ 4) (hb : E.2.2.2.1 ≤ o) (hs : s.1 ≤ 24) : Ct E m_Od_add 1 0 0 [.ref o, .int t] (hO E h o N s) n (Rt none (hO E h o N (addF N s t)) n) := by
  refine Ct.go rfl rfl rfl ?_
  obtain ⟨c, tkf, vl, al⟩ := s
  have hoo := hO_o (E := E) (h := h) (o := o) (N := N) (s := (c, tkf, vl, al))
  have hot := hO_t (E := E) (h := h) (o := o) (N := N) (s := (c, tkf, vl, al))
  dsimp only at hs
  refine j_aload_n d_Od_add_0 rfl ?_
  refine j_get d_Od_add_1 fl_Od_26 (by first | assumption | exact hset_s _ _ _ | (rw [hset_n _ _ (by omega)]; first | assumption | exact hset_s _ _ _ | (rw [hset_n _ _ (by omega)]; first | assumption | exact hset_s _ _ _ | (rw [hset_n _ _ (by omega)]; first | assumption | exact hset_s _ _ _ | (rw [hset_n _ _ (by omega)]; first | assumption | exact hset_s _ _ _))))) rfl ?_
  refine j_bipush (v := 24) d_Od_add_4 (by decide) ?_
  refine j_icmp_lt (tgt := 10) d_Od_add_6 (by decide) (fun c1 => ?_) (fun c1 => ?_)
  · have hc : c < 24 := (nI_ltI (by omega) (by omega)).mp c1
    refine j_aload_n d_Od_add_10 rfl ?_
    refine j_get d_Od_add_11 fl_Od_9 (by first | assumption | exact hset_s _ _ _ | (rw [hset_n _ _ (by omega)]; first | assumption | exact hset_s _ _ _ | (rw [hset_n _ _ (by omega)]; first | assumption | exact hset_s _ _ _ | (rw [hset_n _ _ (by omega)]; first | assumption | exact hset_s _ _ _ | (rw [hset_n _ _ (by omega)]; first | assumption | exact hset_s _ _ _))))) rfl ?_
    refine j_aload_n d_Od_add_14 rfl ?_
    refine j_get d_Od_add_15 fl_Od_26 (by first | assumption | exact hset_s _ _ _ | (rw [hset_n _ _ (by omega)]; first | assumption | exact hset_s _ _ _ | (rw [hset_n _ _ (by omega)]; first | assumption | exact hset_s _ _ _ | (rw [hset_n _ _ (by omega)]; first | assumption | exact hset_s _ _ _ | (rw [hset_n _ _ (by omega)]; first | assumption | exact hset_s _ _ _))))) rfl ?_
    refine j_iload_n d_Od_add_18 rfl ?_
    refine j_iast (t := 0) d_Od_add_19 rfl hot (by omega) (vp_in_nI hc (by omega)) ?_
    refine J.conv (L := _) rfl (show _ = hO E h o N (c, upd tkf c t, vl, al) by rw [nI_clamp (by omega), hO_st]) ?_
    have hoo2 := hO_o (E := E) (h := h) (o := o) (N := N) (s := (c, upd tkf c t, vl, al))
    refine j_aload_n d_Od_add_20 rfl ?_
    refine j_dup d_Od_add_21 rfl ?_
    refine j_get d_Od_add_22 fl_Od_29 (by first | assumption | exact hset_s _ _ _ | (rw [hset_n _ _ (by omega)]; first | assumption | exact hset_s _ _ _ | (rw [hset_n _ _ (by omega)]; first | assumption | exact hset_s _ _ _ | (rw [hset_n _ _ (by omega)]; first | assumption | exact hset_s _ _ _ | (rw [hset_n _ _ (by omega)]; first | assumption | exact hset_s _ _ _))))) rfl ?_
    refine j_iload_n d_Od_add_25 rfl ?_
    refine j_ior d_Od_add_26 ?_
    refine j_put d_Od_add_27 fl_Od_29 fp_Od (Or.inl rfl) hoo2 hb rfl rfl (Nat.le_of_ble_eq_true rfl) ?_
    refine J.conv (L := _) rfl (show _ = hO E h o N (c, upd tkf c t, vl, al ||| t) from hO_so (s := (c, upd tkf c t, vl, al))) ?_
    refine j_iconst (v := 0) d_Od_add_30 (by decide) ?_
    refine j_istore_n d_Od_add_31 (by decide) ?_
    refine l_Od_add (w := 0) (vl := vl) hN hb hc (by decide) ?_ N 0 (by omega) _ (Or.inl rfl)
    refine ⟨rfl, ?_, rfl⟩
    unfold addF
    rw [if_pos hc]
  · refine j_vret d_Od_add_9 rfl ⟨rfl, ?_, rfl⟩
    unfold addF
    rw [if_neg (fun q => c1 ((nI_ltI (a := c) (b := 24) (by omega) (by omega)).mpr q))]
/-- the loop of fill over the values, and fill itself -/
def ostep (N f th : Nat) (tk : Int32) (s : OS) (v : Nat) : OS := if tk &&& (4369 <<< (nI v &&& 31)) = 0 then ofill N f (th + 1) (tk ||| (1 <<< (nI (4 * th + v) &&& 31))) s else s
theorem ofill_s (N f th : Nat) (tk : Int32) (s : OS) : ofill N (f + 1) th tk s = if N ≤ th then addF N s tk else (List.range' 0 N).foldl (ostep N f th tk) s := rfl
theorem ostep_le {N f th : Nat} {tk : Int32} {s : OS} {v : Nat} (h : s.1 ≤ 24) : (ostep N f th tk s v).1 ≤ 24 := by
  unfold ostep
  split
  · exact ofill_le f _ _ s h
  · exact h
theorem c_Od_fill {o N : Nat} (hN : N ≤ 4) (hb : E.2.2.2.1 ≤ o) : ∀ (f th : Nat) (tk : Int32) (s : OS), th ≤ N → N - th < f → s.1 ≤ 24 → Ct E m_Od_fill (f + 1) 0 0 [.ref o, .int (nI th), .int tk] (hO E h o N s) n (Rt none (hO E h o N (ofill N f th tk s)) n) := by
  intro f
  induction f with
  | zero => intro th tk s h1 h2; omega
  | succ f ihf =>
    intro th tk s h1 h2 hs
    refine Ct.go rfl rfl rfl ?_
    have hoo := hO_o (E := E) (h := h) (o := o) (N := N) (s := s)
    refine j_iload_n d_Od_fill_0 rfl ?_
    refine j_aload_n d_Od_fill_1 rfl ?_
    refine j_get d_Od_fill_2 fl_Od_18 (by first | assumption | exact hset_s _ _ _ | (rw [hset_n _ _ (by omega)]; first | assumption | exact hset_s _ _ _ | (rw [hset_n _ _ (by omega)]; first | assumption | exact hset_s _ _ _ | (rw [hset_n _ _ (by omega)]; first | assumption | exact hset_s _ _ _ | (rw [hset_n _ _ (by omega)]; first | assumption | exact hset_s _ _ _))))) rfl ?_
    refine j_icmp_lt (tgt := 14) d_Od_fill_5 (by decide) (fun c1 => ?_) (fun c1 => ?_)
    · have hth : th < N := (nI_ltI (by omega) (by omega)).mp c1
      refine j_iconst (v := 0) d_Od_fill_14 (by decide) ?_
      refine j_istore_n d_Od_fill_15 (by decide) ?_
      have loop : ∀ (k v : Nat) (s : OS), v + k = N → s.1 ≤ 24 → J E m_Od_fill (f + 1 + 1) 0 0 16 [(0, .ref o), (1, .int (nI th)), (2, .int tk), (3, .int (nI v))] [] (hO E h o N s) n (Rt none (hO E h o N ((List.range' v k).foldl (ostep N f th tk) s)) n) := by
        intro k
        induction k with
        | zero =>
          intro v s hv hs
          have hv : v = N := by omega
          subst hv
          have hoo := hO_o (E := E) (h := h) (o := o) (N := v) (s := s)
          refine j_iload_n d_Od_fill_16 rfl ?_
          refine j_aload_n d_Od_fill_17 rfl ?_
          refine j_get d_Od_fill_18 fl_Od_18 (by first | assumption | exact hset_s _ _ _ | (rw [hset_n _ _ (by omega)]; first | assumption | exact hset_s _ _ _ | (rw [hset_n _ _ (by omega)]; first | assumption | exact hset_s _ _ _ | (rw [hset_n _ _ (by omega)]; first | assumption | exact hset_s _ _ _ | (rw [hset_n _ _ (by omega)]; first | assumption | exact hset_s _ _ _))))) rfl ?_
          refine j_icmp_ge (tgt := 56) d_Od_fill_21 (by decide) (fun c2 => ?_) (fun c2 => absurd (nI_le (Nat.le_refl _) (by omega)) c2)
          exact j_vret d_Od_fill_56 rfl ⟨rfl, rfl, rfl⟩
        | succ k ih =>
          intro v s hv hs
          have hoo := hO_o (E := E) (h := h) (o := o) (N := N) (s := s)
          refine j_iload_n d_Od_fill_16 rfl ?_
          refine j_aload_n d_Od_fill_17 rfl ?_
          refine j_get d_Od_fill_18 fl_Od_18 (by first | assumption | exact hset_s _ _ _ | (rw [hset_n _ _ (by omega)]; first | assumption | exact hset_s _ _ _ | (rw [hset_n _ _ (by omega)]; first | assumption | exact hset_s _ _ _ | (rw [hset_n _ _ (by omega)]; first | assumption | exact hset_s _ _ _ | (rw [hset_n _ _ (by omega)]; first | assumption | exact hset_s _ _ _))))) rfl ?_
          refine j_icmp_ge (tgt := 56) d_Od_fill_21 (by decide) (fun c2 => absurd c2 (nI_ge (by omega) (by omega))) (fun c2 => ?_)
          refine j_iload_n d_Od_fill_24 rfl ?_
          refine j_sipush (v := 4369) d_Od_fill_25 (by decide) ?_
          refine j_iload_n d_Od_fill_28 rfl ?_
          refine j_ishl d_Od_fill_29 ?_
          refine j_iand d_Od_fill_30 ?_
          have hfo : (List.range' v (k + 1)).foldl (ostep N f th tk) s = (List.range' (v + 1) k).foldl (ostep N f th tk) (ostep N f th tk s v) := by rw [List.range'_succ, List.foldl_cons]
          rw [hfo]
          refine j_if_ne (tgt := 50) d_Od_fill_31 (by decide) (fun c3 => ?_) (fun c3 => ?_)
          · refine j_iinc (v := nI (v + 1)) d_Od_fill_50 rfl (nI_succ v).symm (by decide) ?_
            refine j_goto (tgt := 16) d_Od_fill_53 (by decide) ?_
            have e1 : ostep N f th tk s v = s := if_neg c3
            rw [e1]
            exact ih (v + 1) s (by omega) hs
          · refine j_aload_n d_Od_fill_34 rfl ?_
            refine j_iload_n d_Od_fill_35 rfl ?_
            refine j_iconst (v := 1) d_Od_fill_36 (by decide) ?_
            refine j_iadd d_Od_fill_37 ?_
            refine j_iload_n d_Od_fill_38 rfl ?_
            refine j_iconst (v := 1) d_Od_fill_39 (by decide) ?_
            refine j_iconst (v := 4) d_Od_fill_40 (by decide) ?_
            refine j_iload_n d_Od_fill_41 rfl ?_
            refine j_imul d_Od_fill_42 ?_
            refine j_iload_n d_Od_fill_43 rfl ?_
            refine j_iadd d_Od_fill_44 ?_
            refine j_ishl d_Od_fill_45 ?_
            refine j_ior d_Od_fill_46 ?_
            have e1 : ostep N f th tk s v = ofill N f (th + 1) (tk ||| (1 <<< (nI (4 * th + v) &&& 31))) s := if_pos c3
            rw [e1]
            refine j_callV (As := [.int (nI th + 1), .int (tk ||| (1 <<< ((4 * nI th + nI v) &&& 31)))]) d_Od_fill_47 cb_Od_22 vv_Od_fill hoo rfl rfl rfl rfl (Nat.le_of_ble_eq_true rfl) (Nat.le_refl _) (Nat.zero_le _) (Nat.zero_le _) (by rw [nI_1, nI_4]; exact ihf (th + 1) _ s (by omega) (by omega) hs) (fun v' h' n' q _ => ?_)
            obtain ⟨rfl, rfl, rfl⟩ := q
            refine j_iinc (v := nI (v + 1)) d_Od_fill_50 rfl (nI_succ v).symm (by decide) ?_
            refine j_goto (tgt := 16) d_Od_fill_53 (by decide) ?_
            exact ih (v + 1) _ (by omega) (ofill_le f _ _ s hs)
      rw [ofill_s, if_neg (by omega)]
      exact loop N 0 s (by omega) hs
    · have hth : N ≤ th := Nat.not_lt.mp (fun q => c1 ((nI_ltI (by omega) (by omega)).mpr q))
      refine j_aload_n d_Od_fill_8 rfl ?_
      refine j_iload_n d_Od_fill_9 rfl ?_
      refine j_callV (As := [.int tk]) d_Od_fill_10 cb_Od_32 vv_Od_add hoo rfl rfl rfl rfl (Nat.le_of_ble_eq_true rfl) (by omega) (Nat.zero_le _) (Nat.zero_le _) (c_Od_add hN hb hs) (fun v' h' n' q _ => ?_)
      obtain ⟨rfl, rfl, rfl⟩ := q
      exact j_vret d_Od_fill_13 rfl ⟨rfl, by rw [ofill_s, if_pos hth], rfl⟩
/-- what a new Orders of N things holds -/
def ord (N : Nat) : OS := ofill N 5 0 0 (0, fun _ => 0, fun _ => 0, 0)
/-- a new object, and two rows behind it -/
theorem c_Od_init {N : Nat} (hN : N ≤ 4) (h0 : E.2.2.2.1 ≤ n) : Ct E m_Od_init 7 2 120 [.ref n, .int (nI N)] (hset h n (.inr (6, [.int 0, .null, .null, .int 0, .int 0]))) (n + 1) (Rt none (hO E h n N (ord N)) (n + 3)) := by
  refine Ct.go rfl rfl rfl ?_
  refine j_aload_n d_Od_init_0 rfl ?_
  refine j_obj d_Od_init_1 ob_Od_3 obi obc (by decide) (by decide) ?_
  refine j_aload_n d_Od_init_4 rfl ?_
  refine j_bipush (v := 24) d_Od_init_5 (by decide) ?_
  refine j_newa (t := 0) d_Od_init_7 rfl aw_int rfl (by decide) rfl (by decide) (by decide) (by decide) ?_
  refine j_put d_Od_init_9 fl_Od_9 fp_Od (Or.inr ⟨rfl, rfl, rfl⟩) (by first | assumption | exact hset_s _ _ _ | (rw [hset_n _ _ (by omega)]; first | assumption | exact hset_s _ _ _ | (rw [hset_n _ _ (by omega)]; first | assumption | exact hset_s _ _ _ | (rw [hset_n _ _ (by omega)]; first | assumption | exact hset_s _ _ _ | (rw [hset_n _ _ (by omega)]; first | assumption | exact hset_s _ _ _))))) (by omega) rfl rfl (Nat.le_of_ble_eq_true rfl) ?_
  refine j_aload_n d_Od_init_12 rfl ?_
  refine j_bipush (v := 96) d_Od_init_13 (by decide) ?_
  refine j_newa (t := 0) d_Od_init_15 rfl aw_int rfl (by decide) rfl (by decide) (by decide) (by decide) ?_
  refine j_put d_Od_init_17 fl_Od_15 fp_Od (Or.inr ⟨rfl, rfl, rfl⟩) (by first | assumption | exact hset_s _ _ _ | (rw [hset_n _ _ (by omega)]; first | assumption | exact hset_s _ _ _ | (rw [hset_n _ _ (by omega)]; first | assumption | exact hset_s _ _ _ | (rw [hset_n _ _ (by omega)]; first | assumption | exact hset_s _ _ _ | (rw [hset_n _ _ (by omega)]; first | assumption | exact hset_s _ _ _))))) (by omega) rfl rfl (Nat.le_of_ble_eq_true rfl) ?_
  refine j_aload_n d_Od_init_20 rfl ?_
  refine j_iload_n d_Od_init_21 rfl ?_
  refine j_put d_Od_init_22 fl_Od_18 fp_Od (Or.inr ⟨rfl, rfl, rfl⟩) (by first | assumption | exact hset_s _ _ _ | (rw [hset_n _ _ (by omega)]; first | assumption | exact hset_s _ _ _ | (rw [hset_n _ _ (by omega)]; first | assumption | exact hset_s _ _ _ | (rw [hset_n _ _ (by omega)]; first | assumption | exact hset_s _ _ _ | (rw [hset_n _ _ (by omega)]; first | assumption | exact hset_s _ _ _))))) (by omega) rfl rfl (Nat.le_of_ble_eq_true rfl) ?_
  refine j_aload_n d_Od_init_25 rfl ?_
  refine j_iconst (v := 0) d_Od_init_26 (by decide) ?_
  refine j_iconst (v := 0) d_Od_init_27 (by decide) ?_
  have e : ∀ x : HP, x = hO E h n N (0, fun _ => 0, fun _ => 0, 0) → J E m_Od_init 7 0 0 28 [(0, .ref n), (1, .int (nI N))] [.int 0, .int 0, .ref n] x (n + 3) (Rt none (hO E h n N (ord N)) (n + 3)) := by
    rintro x rfl
    have hoo := hO_o (E := E) (h := h) (o := n) (N := N) (s := (0, fun _ => 0, fun _ => 0, 0))
    refine j_callV (As := [.int (nI 0), .int 0]) d_Od_init_28 cb_Od_22 vv_Od_fill hoo rfl rfl rfl rfl (Nat.le_of_ble_eq_true rfl) (d' := 6) (by decide) (Nat.zero_le _) (Nat.zero_le _) (c_Od_fill hN h0 5 0 0 _ (by omega) (by omega) (by decide)) (fun v' h' n' q _ => ?_)
    obtain ⟨rfl, rfl, rfl⟩ := q
    exact j_vret d_Od_init_31 rfl ⟨rfl, rfl, rfl⟩
  refine e _ ?_
  funext q
  unfold hO hset
  by_cases h1 : q = n <;> by_cases h2 : q = n + 1 <;> by_cases h3 : q = n + 2 <;> simp_all [nI_0]
end ORD
end
section
section WLK
variable {E : EV} {h : HP} {n : Nat}
/-- a row of small numbers -/
def nA (f : Nat → Nat) : Nat → Int32 := fun j => nI (f j)
def upN (f : Nat → Nat) (k v : Nat) : Nat → Nat := fun j => if j = k then v else f j
theorem upd_nA (f : Nat → Nat) (k v : Nat) : upd (nA f) k (nI v) = nA (upN f k v) := by
  funext j
  unfold upd nA upN
  split <;> rfl
theorem nA_0 : nA (fun _ => 0) = fun _ => 0 := rfl
theorem upN_s (f : Nat → Nat) (k v : Nat) : upN f k v k = v := if_pos rfl
theorem upN_n (f : Nat → Nat) {k j : Nat} (v : Nat) (h : j ≠ k) : upN f k v j = f j := if_neg h
theorem upN_lt {f : Nat → Nat} {b k v : Nat} (hf : ∀ j, f j < b) (hv : v < b) : ∀ j, upN f k v j < b := by
  intro j; unfold upN; split
  · exact hv
  · exact hf j
theorem n24 (a b : Nat) : 24 * nI a + nI b = nI (24 * a + b) := by rw [show (24 : Int32) = nI 24 from rfl, pk_mul, nI_add]
theorem n3 (a b : Nat) : 3 * nI a + nI b = nI (3 * a + b) := by rw [show (3 : Int32) = nI 3 from rfl, pk_mul, nI_add]
/-- a Walk: open, openCount, at, thing -/
abbrev WS : Type := (Nat → Nat) × (Nat → Nat) × (Nat → Nat) × (Nat → Nat)
def hW (E : EV) (h : HP) (w od K : Nat) (s : WS) : HP := hset (hset (hset (hset (hset h w (oWk od (nI K) (w + 1) (w + 2) (w + 3) (w + 4))) (w + 1) (arI E 0 72 (nA s.1))) (w + 2) (arI E 0 3 (nA s.2.1))) (w + 3) (arI E 0 3 (nA s.2.2.1))) (w + 4) (arI E 0 12 (nA s.2.2.2))
variable {w od K : Nat} {s : WS}
theorem hW_0 : hW E h w od K s w = some (oWk od (nI K) (w + 1) (w + 2) (w + 3) (w + 4)) := by simp [hW, hset]
theorem hW_1 : hW E h w od K s (w + 1) = some (arI E 0 72 (nA s.1)) := by simp [hW, hset]
theorem hW_2 : hW E h w od K s (w + 2) = some (arI E 0 3 (nA s.2.1)) := by simp [hW, hset]
theorem hW_3 : hW E h w od K s (w + 3) = some (arI E 0 3 (nA s.2.2.1)) := by simp [hW, hset]
theorem hW_4 : hW E h w od K s (w + 4) = some (arI E 0 12 (nA s.2.2.2)) := by simp [hW, hset]
theorem hW_x {q : Nat} (hq : q < w ∨ w + 4 < q) : hW E h w od K s q = h q := by
  have h0 : q ≠ w := by omega
  have h1 : q ≠ w + 1 := by omega
  have h2 : q ≠ w + 2 := by omega
  have h3 : q ≠ w + 3 := by omega
  have h4 : q ≠ w + 4 := by omega
  simp [hW, hset, h0, h1, h2, h3, h4]
theorem hW_s1 {f : Nat → Nat} : hset (hW E h w od K s) (w + 1) (arI E 0 72 (nA f)) = hW E h w od K (f, s.2.1, s.2.2.1, s.2.2.2) := by
  funext q
  unfold hW hset
  by_cases h1 : q = w + 1 <;> by_cases h2 : q = w + 2 <;> by_cases h3 : q = w + 3 <;> by_cases h4 : q = w + 4 <;> simp_all
theorem hW_s2 {f : Nat → Nat} : hset (hW E h w od K s) (w + 2) (arI E 0 3 (nA f)) = hW E h w od K (s.1, f, s.2.2.1, s.2.2.2) := by
  funext q
  unfold hW hset
  by_cases h1 : q = w + 1 <;> by_cases h2 : q = w + 2 <;> by_cases h3 : q = w + 3 <;> by_cases h4 : q = w + 4 <;> simp_all
theorem hW_s3 {f : Nat → Nat} : hset (hW E h w od K s) (w + 3) (arI E 0 3 (nA f)) = hW E h w od K (s.1, s.2.1, f, s.2.2.2) := by
  funext q
  unfold hW hset
  by_cases h1 : q = w + 1 <;> by_cases h2 : q = w + 2 <;> by_cases h3 : q = w + 3 <;> by_cases h4 : q = w + 4 <;> simp_all
theorem hW_s4 {f : Nat → Nat} : hset (hW E h w od K s) (w + 4) (arI E 0 12 (nA f)) = hW E h w od K (s.1, s.2.1, s.2.2.1, f) := by
  funext q
  unfold hW hset
  by_cases h1 : q = w + 1 <;> by_cases h2 : q = w + 2 <;> by_cases h3 : q = w + 3 <;> by_cases h4 : q = w + 4 <;> simp_all
/-! what it does, in numbers -/
def coS (tkf : Nat → Int32) (my : Int32) (kd : Nat) (x : (Nat → Nat) × Nat) (o : Nat) : (Nat → Nat) × Nat := if tkf o &&& (my ^^^ (-1)) = 0 then (upN x.1 (24 * kd + x.2) o, x.2 + 1) else x
def coF (tkf : Nat → Int32) (cnt : Nat) (my : Int32) (kd : Nat) (op : Nat → Nat) : (Nat → Nat) × Nat := (List.range' 0 cnt).foldl (coS tkf my kd) (op, 0)
def chS (tkf : Nat → Int32) (cnt : Nat) (my : Nat → Int32) (x : (Nat → Nat) × (Nat → Nat) × Nat) (kd : Nat) : (Nat → Nat) × (Nat → Nat) × Nat :=
  ((coF tkf cnt (my kd) kd x.1).1, upN x.2.1 kd (coF tkf cnt (my kd) kd x.1).2, x.2.2 * (coF tkf cnt (my kd) kd x.1).2)
def chF (tkf : Nat → Int32) (cnt K : Nat) (my : Nat → Int32) (op oc : Nat → Nat) : (Nat → Nat) × (Nat → Nat) × Nat := (List.range' 0 K).foldl (chS tkf cnt my) (op, oc, 1)
def goF (vf : Nat → Nat) (N : Nat) (s : WS) (kd pl : Nat) : WS := (s.1, s.2.1, upN s.2.2.1 kd pl, (List.range' 0 N).foldl (fun th i => upN th (4 * kd + vf (4 * s.1 (24 * kd + pl) + i)) i) s.2.2.2)
def stF (vf : Nat → Nat) (N K : Nat) (s : WS) : WS := (List.range' 0 K).foldl (fun s kd => goF vf N s kd 0) s
def nxF (vf : Nat → Nat) (N : Nat) : Nat → WS → WS
  | 0, s => s
  | k + 1, s => if s.2.2.1 k + 1 < s.2.1 k then goF vf N s k (s.2.2.1 k + 1) else nxF vf N k (goF vf N s k 0)
/-- the rows' bounds -/
def WB (s : WS) : Prop := (∀ j, s.1 j < 24) ∧ (∀ j, s.2.1 j ≤ 24) ∧ ∀ j, s.2.2.1 j < 24
theorem goF_WB {vf : Nat → Nat} {N kd pl : Nat} (hs : WB s) (hp : pl < 24) : WB (goF vf N s kd pl) := ⟨hs.1, hs.2.1, upN_lt hs.2.2 hp⟩
theorem stF_WB {vf : Nat → Nat} {N : Nat} : ∀ (l : List Nat) (s : WS), WB s → WB (l.foldl (fun s kd => goF vf N s kd 0) s)
  | [], _, h => h
  | _ :: l, _, h => stF_WB l _ (goF_WB h (by omega))
theorem nxF_WB {vf : Nat → Nat} {N : Nat} : ∀ (k : Nat) (s : WS), WB s → WB (nxF vf N k s)
  | 0, _, h => h
  | k + 1, s, h => by
    unfold nxF
    have := h.2.1 k
    split
    · exact goF_WB h (by omega)
    · exact nxF_WB k _ (goF_WB h (by omega))
theorem coF_B (tkf : Nat → Int32) (my : Int32) (kd : Nat) : ∀ (k o : Nat) (x : (Nat → Nat) × Nat), o + k ≤ 24 → x.2 ≤ o → (∀ j, x.1 j < 24) → ((List.range' o k).foldl (coS tkf my kd) x).2 ≤ o + k ∧ ∀ j, ((List.range' o k).foldl (coS tkf my kd) x).1 j < 24
  | 0, o, x, _, h2, h3 => ⟨h2, h3⟩
  | k + 1, o, x, h1, h2, h3 => by
    rw [List.range'_succ, List.foldl_cons]
    have := coF_B tkf my kd k (o + 1) (coS tkf my kd x o) (by omega) (by
      unfold coS; split
      · show x.2 + 1 ≤ o + 1; omega
      · omega) (by
      unfold coS; split
      · exact upN_lt h3 (by omega)
      · exact h3)
    exact ⟨by omega, this.2⟩
/-! its methods -/
theorem c_Wk_chooseOrders {tk vl N cnt kd : Nat} {al my : Int32} {tkf : Nat → Int32} (hb : E.2.2.2.1 ≤ w) (hod : h od = some (oOd (nI N) tk vl (nI cnt) al)) (htk : h tk = some (arI E 0 24 tkf)) (h1 : od < w) (h2 : tk < w) (hc : cnt ≤ 24) (hkd : kd < 3) :
    Ct E m_Wk_chooseOrders 1 0 0 [.ref w, .int (nI kd), .int my] (hW E h w od K s) n (Rt (some (.int (nI (coF tkf cnt my kd s.1).2))) (hW E h w od K ((coF tkf cnt my kd s.1).1, s.2)) n) := by
  refine Ct.go rfl rfl rfl ?_
  refine j_iconst (v := 0) d_Wk_chooseOrders_0 (by decide) ?_
  refine j_istore_n d_Wk_chooseOrders_1 (by decide) ?_
  refine j_iconst (v := 0) d_Wk_chooseOrders_2 (by decide) ?_
  refine j_istore d_Wk_chooseOrders_3 (by decide) ?_
  have loop : ∀ (k o : Nat) (x : (Nat → Nat) × Nat), o + k = cnt → x.2 ≤ o → J E m_Wk_chooseOrders 1 0 0 5 [(0, .ref w), (1, .int (nI kd)), (2, .int my), (3, .int (nI x.2)), (4, .int (nI o))] [] (hW E h w od K (x.1, s.2)) n (Rt (some (.int (nI ((List.range' o k).foldl (coS tkf my kd) x).2))) (hW E h w od K (((List.range' o k).foldl (coS tkf my kd) x).1, s.2)) n) := by
    intro k
    induction k with
    | zero =>
      intro o x ho hx
      have ho : o = cnt := by omega
      subst ho
      have hw0 := hW_0 (E := E) (h := h) (w := w) (od := od) (K := K) (s := (x.1, s.2))
      have hwo : hW E h w od K (x.1, s.2) od = some (oOd (nI N) tk vl (nI o) al) := (hW_x (Or.inl h1)).trans hod
      refine j_iload d_Wk_chooseOrders_5 rfl ?_
      refine j_aload_n d_Wk_chooseOrders_7 rfl ?_
      refine j_get d_Wk_chooseOrders_8 fl_Wk_30 (by first | assumption | exact hset_s _ _ _ | (rw [hset_n _ _ (by omega)]; first | assumption | exact hset_s _ _ _ | (rw [hset_n _ _ (by omega)]; first | assumption | exact hset_s _ _ _ | (rw [hset_n _ _ (by omega)]; first | assumption | exact hset_s _ _ _ | (rw [hset_n _ _ (by omega)]; first | assumption | exact hset_s _ _ _))))) rfl ?_
      refine j_pV (As := []) d_Wk_chooseOrders_11 cb_Wk_44 vv_Od_count hwo rfl rfl rfl rfl (Nat.le_of_ble_eq_true rfl) (by decide) (c_Od_count hwo rfl) ?_
      refine j_icmp_ge (tgt := 55) d_Wk_chooseOrders_14 (by decide) (fun c2 => ?_) (fun c2 => absurd (nI_le (Nat.le_refl _) (by omega)) c2)
      refine j_iload_n d_Wk_chooseOrders_55 rfl ?_
      exact j_iret d_Wk_chooseOrders_56 rfl ⟨rfl, rfl, rfl⟩
    | succ k ih =>
      intro o x ho hx
      have hw0 := hW_0 (E := E) (h := h) (w := w) (od := od) (K := K) (s := (x.1, s.2))
      have hw1 := hW_1 (E := E) (h := h) (w := w) (od := od) (K := K) (s := (x.1, s.2))
      have hwo : hW E h w od K (x.1, s.2) od = some (oOd (nI N) tk vl (nI cnt) al) := (hW_x (Or.inl h1)).trans hod
      have hwt : hW E h w od K (x.1, s.2) tk = some (arI E 0 24 tkf) := (hW_x (Or.inl h2)).trans htk
      have ho24 : o < 24 := by omega
      refine j_iload d_Wk_chooseOrders_5 rfl ?_
      refine j_aload_n d_Wk_chooseOrders_7 rfl ?_
      refine j_get d_Wk_chooseOrders_8 fl_Wk_30 (by first | assumption | exact hset_s _ _ _ | (rw [hset_n _ _ (by omega)]; first | assumption | exact hset_s _ _ _ | (rw [hset_n _ _ (by omega)]; first | assumption | exact hset_s _ _ _ | (rw [hset_n _ _ (by omega)]; first | assumption | exact hset_s _ _ _ | (rw [hset_n _ _ (by omega)]; first | assumption | exact hset_s _ _ _))))) rfl ?_
      refine j_pV (As := []) d_Wk_chooseOrders_11 cb_Wk_44 vv_Od_count hwo rfl rfl rfl rfl (Nat.le_of_ble_eq_true rfl) (by decide) (c_Od_count hwo rfl) ?_
      refine j_icmp_ge (tgt := 55) d_Wk_chooseOrders_14 (by decide) (fun c2 => absurd c2 (nI_ge (by omega) (by omega))) (fun c2 => ?_)
      refine j_aload_n d_Wk_chooseOrders_17 rfl ?_
      refine j_get d_Wk_chooseOrders_18 fl_Wk_30 (by first | assumption | exact hset_s _ _ _ | (rw [hset_n _ _ (by omega)]; first | assumption | exact hset_s _ _ _ | (rw [hset_n _ _ (by omega)]; first | assumption | exact hset_s _ _ _ | (rw [hset_n _ _ (by omega)]; first | assumption | exact hset_s _ _ _ | (rw [hset_n _ _ (by omega)]; first | assumption | exact hset_s _ _ _))))) rfl ?_
      refine j_iload d_Wk_chooseOrders_21 rfl ?_
      refine j_pV (As := [.int _]) d_Wk_chooseOrders_23 cb_Wk_49 vv_Od_ticks hwo rfl rfl rfl rfl (Nat.le_of_ble_eq_true rfl) (by decide) (c_Od_ticks hwo hwt (vp_in_nI ho24 (by omega))) ?_
      rw [nI_clamp (by omega)]
      refine j_iload_n d_Wk_chooseOrders_26 rfl ?_
      refine j_iconst (v := (-1)) d_Wk_chooseOrders_27 (by decide) ?_
      refine j_ixor d_Wk_chooseOrders_28 ?_
      refine j_iand d_Wk_chooseOrders_29 ?_
      rw [List.range'_succ, List.foldl_cons]
      refine j_if_ne (tgt := 49) d_Wk_chooseOrders_30 (by decide) (fun c3 => ?_) (fun c3 => ?_)
      · refine j_iinc (v := nI (o + 1)) d_Wk_chooseOrders_49 rfl (nI_succ o).symm (by decide) ?_
        refine j_goto (tgt := 5) d_Wk_chooseOrders_52 (by decide) ?_
        rw [show coS tkf my kd x o = x from if_neg c3]
        exact ih (o + 1) x (by omega) (by omega)
      · refine j_aload_n d_Wk_chooseOrders_33 rfl ?_
        refine j_get d_Wk_chooseOrders_34 fl_Wk_9 (by first | assumption | exact hset_s _ _ _ | (rw [hset_n _ _ (by omega)]; first | assumption | exact hset_s _ _ _ | (rw [hset_n _ _ (by omega)]; first | assumption | exact hset_s _ _ _ | (rw [hset_n _ _ (by omega)]; first | assumption | exact hset_s _ _ _ | (rw [hset_n _ _ (by omega)]; first | assumption | exact hset_s _ _ _))))) rfl ?_
        refine j_bipush (v := 24) d_Wk_chooseOrders_37 (by decide) ?_
        refine j_iload_n d_Wk_chooseOrders_39 rfl ?_
        refine j_imul d_Wk_chooseOrders_40 ?_
        refine j_iload_n d_Wk_chooseOrders_41 rfl ?_
        refine j_iadd d_Wk_chooseOrders_42 ?_
        refine j_iload d_Wk_chooseOrders_43 rfl ?_
        refine j_iast (t := 0) d_Wk_chooseOrders_45 rfl hw1 (by omega) (show vp_in (24 * nI kd + nI x.2) 72 by rw [n24]; exact vp_in_nI (by omega) (by omega)) ?_
        refine j_iinc (v := nI (x.2 + 1)) d_Wk_chooseOrders_46 rfl (nI_succ x.2).symm (by decide) ?_
        refine j_iinc (v := nI (o + 1)) d_Wk_chooseOrders_49 rfl (nI_succ o).symm (by decide) ?_
        refine j_goto (tgt := 5) d_Wk_chooseOrders_52 (by decide) ?_
        rw [show coS tkf my kd x o = (upN x.1 (24 * kd + x.2) o, x.2 + 1) from if_pos c3]
        refine J.conv (L := _) rfl ?_ (ih (o + 1) (upN x.1 (24 * kd + x.2) o, x.2 + 1) (by omega) (by show x.2 + 1 ≤ o + 1; omega))
        show hset _ (w + 1) (arI E 0 72 (upd (nA x.1) (24 * nI kd + nI x.2).toNatClampNeg (nI o))) = _
        rw [n24, nI_clamp (by omega), upd_nA, hW_s1]
  exact loop cnt 0 (s.1, 0) (by omega) (Nat.le_refl _)
theorem c_Wk_choose {tk vl N cnt ma : Nat} {al : Int32} {tkf my : Nat → Int32} (hb : E.2.2.2.1 ≤ w) (hod : h od = some (oOd (nI N) tk vl (nI cnt) al)) (htk : h tk = some (arI E 0 24 tkf)) (hma : h ma = some (arI E 0 3 my)) (h1 : od < w) (h2 : tk < w) (h3 : ma < w ∨ w + 4 < ma) (hc : cnt ≤ 24) (hK : K ≤ 3) (hs : ∀ j, s.1 j < 24) :
    Ct E m_Wk_choose 2 0 0 [.ref w, .ref ma] (hW E h w od K s) n (Rt (some (.int (nI (chF tkf cnt K my s.1 s.2.1).2.2))) (hW E h w od K ((chF tkf cnt K my s.1 s.2.1).1, (chF tkf cnt K my s.1 s.2.1).2.1, s.2.2)) n) := by
  refine Ct.go rfl rfl rfl ?_
  refine j_iconst (v := 1) d_Wk_choose_0 (by decide) ?_
  refine j_istore_n d_Wk_choose_1 (by decide) ?_
  refine j_iconst (v := 0) d_Wk_choose_2 (by decide) ?_
  refine j_istore_n d_Wk_choose_3 (by decide) ?_
  have loop : ∀ (k kd : Nat) (x : (Nat → Nat) × (Nat → Nat) × Nat), kd + k = K → (∀ j, x.1 j < 24) → J E m_Wk_choose 2 0 0 4 [(0, .ref w), (1, .ref ma), (2, .int (nI x.2.2)), (3, .int (nI kd))] [] (hW E h w od K (x.1, x.2.1, s.2.2)) n (Rt (some (.int (nI ((List.range' kd k).foldl (chS tkf cnt my) x).2.2))) (hW E h w od K (((List.range' kd k).foldl (chS tkf cnt my) x).1, ((List.range' kd k).foldl (chS tkf cnt my) x).2.1, s.2.2)) n) := by
    intro k
    induction k with
    | zero =>
      intro kd x hk hx
      have hk : kd = K := by omega
      subst hk
      have hw0 := hW_0 (E := E) (h := h) (w := w) (od := od) (K := kd) (s := (x.1, x.2.1, s.2.2))
      refine j_iload_n d_Wk_choose_4 rfl ?_
      refine j_aload_n d_Wk_choose_5 rfl ?_
      refine j_get d_Wk_choose_6 fl_Wk_37 (by first | assumption | exact hset_s _ _ _ | (rw [hset_n _ _ (by omega)]; first | assumption | exact hset_s _ _ _ | (rw [hset_n _ _ (by omega)]; first | assumption | exact hset_s _ _ _ | (rw [hset_n _ _ (by omega)]; first | assumption | exact hset_s _ _ _ | (rw [hset_n _ _ (by omega)]; first | assumption | exact hset_s _ _ _))))) rfl ?_
      refine j_icmp_ge (tgt := 41) d_Wk_choose_9 (by decide) (fun c2 => ?_) (fun c2 => absurd (nI_le (Nat.le_refl _) (by omega)) c2)
      refine j_iload_n d_Wk_choose_41 rfl ?_
      exact j_iret d_Wk_choose_42 rfl ⟨rfl, rfl, rfl⟩
    | succ k ih =>
      intro kd x hk hx
      have hw0 := hW_0 (E := E) (h := h) (w := w) (od := od) (K := K) (s := (x.1, x.2.1, s.2.2))
      have hwm : hW E h w od K (x.1, x.2.1, s.2.2) ma = some (arI E 0 3 my) := (hW_x h3).trans hma
      have hin : vp_in (nI kd) 3 := vp_in_nI (by omega) (by omega)
      refine j_iload_n d_Wk_choose_4 rfl ?_
      refine j_aload_n d_Wk_choose_5 rfl ?_
      refine j_get d_Wk_choose_6 fl_Wk_37 (by first | assumption | exact hset_s _ _ _ | (rw [hset_n _ _ (by omega)]; first | assumption | exact hset_s _ _ _ | (rw [hset_n _ _ (by omega)]; first | assumption | exact hset_s _ _ _ | (rw [hset_n _ _ (by omega)]; first | assumption | exact hset_s _ _ _ | (rw [hset_n _ _ (by omega)]; first | assumption | exact hset_s _ _ _))))) rfl ?_
      refine j_icmp_ge (tgt := 41) d_Wk_choose_9 (by decide) (fun c2 => absurd c2 (nI_ge (by omega) (by omega))) (fun c2 => ?_)
      refine j_aload_n d_Wk_choose_12 rfl ?_
      refine j_get d_Wk_choose_13 fl_Wk_15 (by first | assumption | exact hset_s _ _ _ | (rw [hset_n _ _ (by omega)]; first | assumption | exact hset_s _ _ _ | (rw [hset_n _ _ (by omega)]; first | assumption | exact hset_s _ _ _ | (rw [hset_n _ _ (by omega)]; first | assumption | exact hset_s _ _ _ | (rw [hset_n _ _ (by omega)]; first | assumption | exact hset_s _ _ _))))) rfl ?_
      refine j_iload_n d_Wk_choose_16 rfl ?_
      refine j_aload_n d_Wk_choose_17 rfl ?_
      refine j_iload_n d_Wk_choose_18 rfl ?_
      refine j_aload_n d_Wk_choose_19 rfl ?_
      refine j_iload_n d_Wk_choose_20 rfl ?_
      refine j_iald (t := 0) d_Wk_choose_21 rfl (by first | assumption | exact hset_s _ _ _ | (rw [hset_n _ _ (by omega)]; first | assumption | exact hset_s _ _ _ | (rw [hset_n _ _ (by omega)]; first | assumption | exact hset_s _ _ _ | (rw [hset_n _ _ (by omega)]; first | assumption | exact hset_s _ _ _ | (rw [hset_n _ _ (by omega)]; first | assumption | exact hset_s _ _ _))))) (by assumption) rfl ?_
      rw [nI_clamp (by omega)]
      refine j_callV (As := [.int _, .int _]) d_Wk_choose_22 cb_Wk_40 vv_Wk_chooseOrders hw0 rfl rfl rfl rfl (Nat.le_of_ble_eq_true rfl) (by decide) (Nat.zero_le _) (Nat.zero_le _) (c_Wk_chooseOrders (my := my kd) (kd := kd) hb hod htk h1 h2 hc (by omega)) (fun v' h' n' q _ => ?_)
      obtain ⟨rfl, rfl, rfl⟩ := q
      have hw2 := hW_2 (E := E) (h := h) (w := w) (od := od) (K := K) (s := ((coF tkf cnt (my kd) kd x.1).1, x.2.1, s.2.2))
      refine j_iast (t := 0) d_Wk_choose_25 rfl hw2 (by omega) hin ?_
      refine J.conv (L := _) rfl (show _ = hW E h w od K ((coF tkf cnt (my kd) kd x.1).1, upN x.2.1 kd (coF tkf cnt (my kd) kd x.1).2, s.2.2) by rw [nI_clamp (by omega), upd_nA, hW_s2]) ?_
      have hv0 := hW_0 (E := E) (h := h) (w := w) (od := od) (K := K) (s := ((coF tkf cnt (my kd) kd x.1).1, upN x.2.1 kd (coF tkf cnt (my kd) kd x.1).2, s.2.2))
      have hv2 := hW_2 (E := E) (h := h) (w := w) (od := od) (K := K) (s := ((coF tkf cnt (my kd) kd x.1).1, upN x.2.1 kd (coF tkf cnt (my kd) kd x.1).2, s.2.2))
      refine j_iload_n d_Wk_choose_26 rfl ?_
      refine j_aload_n d_Wk_choose_27 rfl ?_
      refine j_get d_Wk_choose_28 fl_Wk_15 (by first | assumption | exact hset_s _ _ _ | (rw [hset_n _ _ (by omega)]; first | assumption | exact hset_s _ _ _ | (rw [hset_n _ _ (by omega)]; first | assumption | exact hset_s _ _ _ | (rw [hset_n _ _ (by omega)]; first | assumption | exact hset_s _ _ _ | (rw [hset_n _ _ (by omega)]; first | assumption | exact hset_s _ _ _))))) rfl ?_
      refine j_iload_n d_Wk_choose_31 rfl ?_
      refine j_iald (t := 0) (x := nI (coF tkf cnt (my kd) kd x.1).2) d_Wk_choose_32 rfl hv2 hin (by rw [nI_clamp (by omega)]; show nI (upN _ _ _ _) = _; rw [upN_s]) ?_
      refine j_imul d_Wk_choose_33 ?_
      refine j_istore_n d_Wk_choose_34 (by decide) ?_
      refine j_iinc (v := nI (kd + 1)) d_Wk_choose_35 rfl (nI_succ kd).symm (by decide) ?_
      refine j_goto (tgt := 4) d_Wk_choose_38 (by decide) ?_
      rw [List.range'_succ, List.foldl_cons, pk_mul]
      exact ih (kd + 1) (chS tkf cnt my x kd) (by omega) (coF_B tkf (my kd) kd cnt 0 (x.1, 0) (by omega) (Nat.le_refl _) hx).2
  exact loop K 0 (s.1, s.2.1, 1) (by omega) hs
theorem c_Wk_go {tk vl N cnt kd pl : Nat} {al : Int32} {vf : Nat → Nat} (hb : E.2.2.2.1 ≤ w) (hod : h od = some (oOd (nI N) tk vl (nI cnt) al)) (hvl : h vl = some (arI E 0 96 (nA vf))) (h1 : od < w) (h2 : vl < w) (hkd : kd < 3) (hpl : pl < 24) (hN : N ≤ 4) (hs : WB s) (hvf : ∀ j, vf j < 4) :
    Ct E m_Wk_go 1 0 0 [.ref w, .int (nI kd), .int (nI pl)] (hW E h w od K s) n (Rt none (hW E h w od K (goF vf N s kd pl)) n) := by
  refine Ct.go rfl rfl rfl ?_
  obtain ⟨op, oc, a3, th⟩ := s
  have hw0 := hW_0 (E := E) (h := h) (w := w) (od := od) (K := K) (s := (op, oc, a3, th))
  have hw3 := hW_3 (E := E) (h := h) (w := w) (od := od) (K := K) (s := (op, oc, a3, th))
  have hin : vp_in (nI kd) 3 := vp_in_nI (by omega) (by omega)
  have hord : op (24 * kd + pl) < 24 := hs.1 _
  refine j_aload_n d_Wk_go_0 rfl ?_
  refine j_get d_Wk_go_1 fl_Wk_18 (by first | assumption | exact hset_s _ _ _ | (rw [hset_n _ _ (by omega)]; first | assumption | exact hset_s _ _ _ | (rw [hset_n _ _ (by omega)]; first | assumption | exact hset_s _ _ _ | (rw [hset_n _ _ (by omega)]; first | assumption | exact hset_s _ _ _ | (rw [hset_n _ _ (by omega)]; first | assumption | exact hset_s _ _ _))))) rfl ?_
  refine j_iload_n d_Wk_go_4 rfl ?_
  refine j_iload_n d_Wk_go_5 rfl ?_
  refine j_iast (t := 0) d_Wk_go_6 rfl hw3 (by omega) hin ?_
  refine J.conv (L := _) rfl (show _ = hW E h w od K (op, oc, upN a3 kd pl, th) by rw [nI_clamp (by omega), upd_nA, hW_s3]) ?_
  have hv0 := hW_0 (E := E) (h := h) (w := w) (od := od) (K := K) (s := (op, oc, upN a3 kd pl, th))
  have hv1 := hW_1 (E := E) (h := h) (w := w) (od := od) (K := K) (s := (op, oc, upN a3 kd pl, th))
  have hv3 := hW_3 (E := E) (h := h) (w := w) (od := od) (K := K) (s := (op, oc, upN a3 kd pl, th))
  have eat : (nA (upN a3 kd pl)) (nI kd).toNatClampNeg = nI pl := by rw [nI_clamp (by omega)]; show nI (upN _ _ _ _) = _; rw [upN_s]
  refine j_aload_n d_Wk_go_7 rfl ?_
  refine j_iload_n d_Wk_go_8 rfl ?_
  refine j_pV (As := [.int _]) d_Wk_go_9 cb_Wk_57 vv_Wk_order hv0 rfl rfl rfl rfl (Nat.le_of_ble_eq_true rfl) (by decide) (c_Wk_order hv0 hv1 hv3 hin (by rw [eat, n24]; exact vp_in_nI (by omega) (by omega))) ?_
  rw [eat, n24, nI_clamp (by omega)]
  refine j_istore_n d_Wk_go_12 (by decide) ?_
  refine j_iconst (v := 0) d_Wk_go_13 (by decide) ?_
  refine j_istore d_Wk_go_14 (by decide) ?_
  have loop : ∀ (k i : Nat) (t : Nat → Nat), i + k = N → J E m_Wk_go 1 0 0 16 [(0, .ref w), (1, .int (nI kd)), (2, .int (nI pl)), (3, .int (nA op (24 * kd + pl))), (4, .int (nI i))] [] (hW E h w od K (op, oc, upN a3 kd pl, t)) n (Rt none (hW E h w od K (op, oc, upN a3 kd pl, (List.range' i k).foldl (fun th i => upN th (4 * kd + vf (4 * op (24 * kd + pl) + i)) i) t)) n) := by
    intro k
    induction k with
    | zero =>
      intro i t hi
      have hi : i = N := by omega
      subst hi
      have hw0 := hW_0 (E := E) (h := h) (w := w) (od := od) (K := K) (s := (op, oc, upN a3 kd pl, t))
      have hwo : hW E h w od K (op, oc, upN a3 kd pl, t) od = some (oOd (nI i) tk vl (nI cnt) al) := (hW_x (Or.inl h1)).trans hod
      refine j_iload d_Wk_go_16 rfl ?_
      refine j_aload_n d_Wk_go_18 rfl ?_
      refine j_get d_Wk_go_19 fl_Wk_30 (by first | assumption | exact hset_s _ _ _ | (rw [hset_n _ _ (by omega)]; first | assumption | exact hset_s _ _ _ | (rw [hset_n _ _ (by omega)]; first | assumption | exact hset_s _ _ _ | (rw [hset_n _ _ (by omega)]; first | assumption | exact hset_s _ _ _ | (rw [hset_n _ _ (by omega)]; first | assumption | exact hset_s _ _ _))))) rfl ?_
      refine j_pV (As := []) d_Wk_go_22 cb_Wk_60 vv_Od_things hwo rfl rfl rfl rfl (Nat.le_of_ble_eq_true rfl) (by decide) (c_Od_things hwo rfl) ?_
      refine j_icmp_ge (tgt := 55) d_Wk_go_25 (by decide) (fun c2 => ?_) (fun c2 => absurd (nI_le (Nat.le_refl _) (by omega)) c2)
      exact j_vret d_Wk_go_55 rfl ⟨rfl, rfl, rfl⟩
    | succ k ih =>
      intro i t hi
      have hw0 := hW_0 (E := E) (h := h) (w := w) (od := od) (K := K) (s := (op, oc, upN a3 kd pl, t))
      have hw4 := hW_4 (E := E) (h := h) (w := w) (od := od) (K := K) (s := (op, oc, upN a3 kd pl, t))
      have hwo : hW E h w od K (op, oc, upN a3 kd pl, t) od = some (oOd (nI N) tk vl (nI cnt) al) := (hW_x (Or.inl h1)).trans hod
      have hwv : hW E h w od K (op, oc, upN a3 kd pl, t) vl = some (arI E 0 96 (nA vf)) := (hW_x (Or.inl h2)).trans hvl
      have hvb := hvf (4 * op (24 * kd + pl) + i)
      refine j_iload d_Wk_go_16 rfl ?_
      refine j_aload_n d_Wk_go_18 rfl ?_
      refine j_get d_Wk_go_19 fl_Wk_30 (by first | assumption | exact hset_s _ _ _ | (rw [hset_n _ _ (by omega)]; first | assumption | exact hset_s _ _ _ | (rw [hset_n _ _ (by omega)]; first | assumption | exact hset_s _ _ _ | (rw [hset_n _ _ (by omega)]; first | assumption | exact hset_s _ _ _ | (rw [hset_n _ _ (by omega)]; first | assumption | exact hset_s _ _ _))))) rfl ?_
      refine j_pV (As := []) d_Wk_go_22 cb_Wk_60 vv_Od_things hwo rfl rfl rfl rfl (Nat.le_of_ble_eq_true rfl) (by decide) (c_Od_things hwo rfl) ?_
      refine j_icmp_ge (tgt := 55) d_Wk_go_25 (by decide) (fun c2 => absurd c2 (nI_ge (by omega) (by omega))) (fun c2 => ?_)
      refine j_aload_n d_Wk_go_28 rfl ?_
      refine j_get d_Wk_go_29 fl_Wk_21 (by first | assumption | exact hset_s _ _ _ | (rw [hset_n _ _ (by omega)]; first | assumption | exact hset_s _ _ _ | (rw [hset_n _ _ (by omega)]; first | assumption | exact hset_s _ _ _ | (rw [hset_n _ _ (by omega)]; first | assumption | exact hset_s _ _ _ | (rw [hset_n _ _ (by omega)]; first | assumption | exact hset_s _ _ _))))) rfl ?_
      refine j_iconst (v := 4) d_Wk_go_32 (by decide) ?_
      refine j_iload_n d_Wk_go_33 rfl ?_
      refine j_imul d_Wk_go_34 ?_
      refine j_aload_n d_Wk_go_35 rfl ?_
      refine j_get d_Wk_go_36 fl_Wk_30 (by first | assumption | exact hset_s _ _ _ | (rw [hset_n _ _ (by omega)]; first | assumption | exact hset_s _ _ _ | (rw [hset_n _ _ (by omega)]; first | assumption | exact hset_s _ _ _ | (rw [hset_n _ _ (by omega)]; first | assumption | exact hset_s _ _ _ | (rw [hset_n _ _ (by omega)]; first | assumption | exact hset_s _ _ _))))) rfl ?_
      refine j_iload_n d_Wk_go_39 rfl ?_
      refine j_iload d_Wk_go_40 rfl ?_
      refine j_pV (As := [.int _, .int _]) d_Wk_go_42 cb_Wk_63 vv_Od_value hwo rfl rfl rfl rfl (Nat.le_of_ble_eq_true rfl) (by decide) (c_Od_value hwo hwv (by show vp_in (4 * nI (op _) + nI i) 96; rw [nI_4]; exact vp_in_nI (by omega) (by omega))) ?_
      refine j_iadd d_Wk_go_45 ?_
      refine j_iload d_Wk_go_46 rfl ?_
      have e2 : 4 * nI kd + nA vf (4 * nA op (24 * kd + pl) + nI i).toNatClampNeg = nI (4 * kd + vf (4 * op (24 * kd + pl) + i)) := by
        show 4 * nI kd + nA vf (4 * nI (op (24 * kd + pl)) + nI i).toNatClampNeg = _
        rw [nI_4, nI_clamp (by omega)]
        exact nI_4 _ _
      refine j_iast (t := 0) d_Wk_go_48 rfl hw4 (by omega) (by rw [e2]; exact vp_in_nI (by omega) (by omega)) ?_
      refine j_iinc (v := nI (i + 1)) d_Wk_go_49 rfl (nI_succ i).symm (by decide) ?_
      refine j_goto (tgt := 16) d_Wk_go_52 (by decide) ?_
      rw [List.range'_succ, List.foldl_cons]
      refine J.conv (L := _) rfl ?_ (ih (i + 1) _ (by omega))
      rw [e2, nI_clamp (by omega), upd_nA, hW_s4]
  exact loop N 0 th (by omega)
theorem c_Wk_start {tk vl N cnt : Nat} {al : Int32} {vf : Nat → Nat} (hb : E.2.2.2.1 ≤ w) (hod : h od = some (oOd (nI N) tk vl (nI cnt) al)) (hvl : h vl = some (arI E 0 96 (nA vf))) (h1 : od < w) (h2 : vl < w) (hK : K ≤ 3) (hN : N ≤ 4) (hs : WB s) (hvf : ∀ j, vf j < 4) :
    Ct E m_Wk_start 2 0 0 [.ref w] (hW E h w od K s) n (Rt none (hW E h w od K (stF vf N K s)) n) := by
  refine Ct.go rfl rfl rfl ?_
  refine j_iconst (v := 0) d_Wk_start_0 (by decide) ?_
  refine j_istore_n d_Wk_start_1 (by decide) ?_
  have loop : ∀ (k kd : Nat) (s : WS), kd + k = K → WB s → J E m_Wk_start 2 0 0 2 [(0, .ref w), (1, .int (nI kd))] [] (hW E h w od K s) n (Rt none (hW E h w od K ((List.range' kd k).foldl (fun s kd => goF vf N s kd 0) s)) n) := by
    intro k
    induction k with
    | zero =>
      intro kd s hk hs
      have hk : kd = K := by omega
      subst hk
      have hw0 := hW_0 (E := E) (h := h) (w := w) (od := od) (K := kd) (s := s)
      refine j_iload_n d_Wk_start_2 rfl ?_
      refine j_aload_n d_Wk_start_3 rfl ?_
      refine j_get d_Wk_start_4 fl_Wk_37 (by first | assumption | exact hset_s _ _ _ | (rw [hset_n _ _ (by omega)]; first | assumption | exact hset_s _ _ _ | (rw [hset_n _ _ (by omega)]; first | assumption | exact hset_s _ _ _ | (rw [hset_n _ _ (by omega)]; first | assumption | exact hset_s _ _ _ | (rw [hset_n _ _ (by omega)]; first | assumption | exact hset_s _ _ _))))) rfl ?_
      refine j_icmp_ge (tgt := 22) d_Wk_start_7 (by decide) (fun c2 => ?_) (fun c2 => absurd (nI_le (Nat.le_refl _) (by omega)) c2)
      exact j_vret d_Wk_start_22 rfl ⟨rfl, rfl, rfl⟩
    | succ k ih =>
      intro kd s hk hs
      have hw0 := hW_0 (E := E) (h := h) (w := w) (od := od) (K := K) (s := s)
      refine j_iload_n d_Wk_start_2 rfl ?_
      refine j_aload_n d_Wk_start_3 rfl ?_
      refine j_get d_Wk_start_4 fl_Wk_37 (by first | assumption | exact hset_s _ _ _ | (rw [hset_n _ _ (by omega)]; first | assumption | exact hset_s _ _ _ | (rw [hset_n _ _ (by omega)]; first | assumption | exact hset_s _ _ _ | (rw [hset_n _ _ (by omega)]; first | assumption | exact hset_s _ _ _ | (rw [hset_n _ _ (by omega)]; first | assumption | exact hset_s _ _ _))))) rfl ?_
      refine j_icmp_ge (tgt := 22) d_Wk_start_7 (by decide) (fun c2 => absurd c2 (nI_ge (by omega) (by omega))) (fun c2 => ?_)
      refine j_aload_n d_Wk_start_10 rfl ?_
      refine j_iload_n d_Wk_start_11 rfl ?_
      refine j_iconst (v := 0) d_Wk_start_12 (by decide) ?_
      refine j_callV (As := [.int (nI kd), .int (nI 0)]) d_Wk_start_13 cb_Wk_53 vv_Wk_go hw0 rfl rfl rfl rfl (Nat.le_of_ble_eq_true rfl) (by decide) (Nat.zero_le _) (Nat.zero_le _) (c_Wk_go hb hod hvl h1 h2 (by omega) (by omega) hN hs hvf) (fun v' h' n' q _ => ?_)
      obtain ⟨rfl, rfl, rfl⟩ := q
      refine j_iinc (v := nI (kd + 1)) d_Wk_start_16 rfl (nI_succ kd).symm (by decide) ?_
      refine j_goto (tgt := 2) d_Wk_start_19 (by decide) ?_
      rw [List.range'_succ, List.foldl_cons]
      exact ih (kd + 1) _ (by omega) (goF_WB hs (by omega))
  exact loop K 0 s (by omega) hs
theorem dec1 (x : Int32) : x + Int32.ofInt (-1) = x - 1 := by rw [Int32.sub_eq_add_neg]; rfl
theorem c_Wk_next {tk vl N cnt : Nat} {al : Int32} {vf : Nat → Nat} (hb : E.2.2.2.1 ≤ w) (hod : h od = some (oOd (nI N) tk vl (nI cnt) al)) (hvl : h vl = some (arI E 0 96 (nA vf))) (h1 : od < w) (h2 : vl < w) (hK : K ≤ 3) (hN : N ≤ 4) (hs : WB s) (hvf : ∀ j, vf j < 4) :
    Ct E m_Wk_next 2 0 0 [.ref w] (hW E h w od K s) n (Rt none (hW E h w od K (nxF vf N K s)) n) := by
  refine Ct.go rfl rfl rfl ?_
  have hw0 := hW_0 (E := E) (h := h) (w := w) (od := od) (K := K) (s := s)
  refine j_aload_n d_Wk_next_0 rfl ?_
  refine j_get d_Wk_next_1 fl_Wk_37 (by first | assumption | exact hset_s _ _ _ | (rw [hset_n _ _ (by omega)]; first | assumption | exact hset_s _ _ _ | (rw [hset_n _ _ (by omega)]; first | assumption | exact hset_s _ _ _ | (rw [hset_n _ _ (by omega)]; first | assumption | exact hset_s _ _ _ | (rw [hset_n _ _ (by omega)]; first | assumption | exact hset_s _ _ _))))) rfl ?_
  refine j_iconst (v := 1) d_Wk_next_4 (by decide) ?_
  refine j_isub d_Wk_next_5 ?_
  refine j_istore_n d_Wk_next_6 (by decide) ?_
  have loop : ∀ (k : Nat) (s : WS) (x : Int32), x = nI k - 1 → k ≤ K → WB s → J E m_Wk_next 2 0 0 7 [(0, .ref w), (1, .int x)] [] (hW E h w od K s) n (Rt none (hW E h w od K (nxF vf N k s)) n) := by
    intro k
    induction k with
    | zero =>
      intro s x hx hk hs
      subst hx
      refine j_iload_n d_Wk_next_7 rfl ?_
      refine j_if_lt (tgt := 54) d_Wk_next_8 (by decide) (fun c2 => ?_) (fun c2 => absurd (by decide) c2)
      exact j_vret d_Wk_next_54 rfl ⟨rfl, rfl, rfl⟩
    | succ k ih =>
      intro s x hx hk hs
      rw [nI_pred] at hx
      subst hx
      have hw0 := hW_0 (E := E) (h := h) (w := w) (od := od) (K := K) (s := s)
      have hw2 := hW_2 (E := E) (h := h) (w := w) (od := od) (K := K) (s := s)
      have hw3 := hW_3 (E := E) (h := h) (w := w) (od := od) (K := K) (s := s)
      have hin : vp_in (nI k) 3 := vp_in_nI (by omega) (by omega)
      have ha := hs.2.2 k
      have hc := hs.2.1 k
      have e3 : nA s.2.2.1 (nI k).toNatClampNeg + 1 = nI (s.2.2.1 k + 1) := by rw [nI_clamp (by omega)]; exact nI_1 _
      have e2 : nA s.2.1 (nI k).toNatClampNeg = nI (s.2.1 k) := by rw [nI_clamp (by omega)]; rfl
      refine j_iload_n d_Wk_next_7 rfl ?_
      refine j_if_lt (tgt := 54) d_Wk_next_8 (by decide) (fun c2 => absurd c2 (nI_pos (by omega))) (fun c2 => ?_)
      refine j_aload_n d_Wk_next_11 rfl ?_
      refine j_get d_Wk_next_12 fl_Wk_18 (by first | assumption | exact hset_s _ _ _ | (rw [hset_n _ _ (by omega)]; first | assumption | exact hset_s _ _ _ | (rw [hset_n _ _ (by omega)]; first | assumption | exact hset_s _ _ _ | (rw [hset_n _ _ (by omega)]; first | assumption | exact hset_s _ _ _ | (rw [hset_n _ _ (by omega)]; first | assumption | exact hset_s _ _ _))))) rfl ?_
      refine j_iload_n d_Wk_next_15 rfl ?_
      refine j_iald (t := 0) d_Wk_next_16 rfl (by first | assumption | exact hset_s _ _ _ | (rw [hset_n _ _ (by omega)]; first | assumption | exact hset_s _ _ _ | (rw [hset_n _ _ (by omega)]; first | assumption | exact hset_s _ _ _ | (rw [hset_n _ _ (by omega)]; first | assumption | exact hset_s _ _ _ | (rw [hset_n _ _ (by omega)]; first | assumption | exact hset_s _ _ _))))) (by assumption) rfl ?_
      refine j_iconst (v := 1) d_Wk_next_17 (by decide) ?_
      refine j_iadd d_Wk_next_18 ?_
      refine j_aload_n d_Wk_next_19 rfl ?_
      refine j_get d_Wk_next_20 fl_Wk_15 (by first | assumption | exact hset_s _ _ _ | (rw [hset_n _ _ (by omega)]; first | assumption | exact hset_s _ _ _ | (rw [hset_n _ _ (by omega)]; first | assumption | exact hset_s _ _ _ | (rw [hset_n _ _ (by omega)]; first | assumption | exact hset_s _ _ _ | (rw [hset_n _ _ (by omega)]; first | assumption | exact hset_s _ _ _))))) rfl ?_
      refine j_iload_n d_Wk_next_23 rfl ?_
      refine j_iald (t := 0) d_Wk_next_24 rfl (by first | assumption | exact hset_s _ _ _ | (rw [hset_n _ _ (by omega)]; first | assumption | exact hset_s _ _ _ | (rw [hset_n _ _ (by omega)]; first | assumption | exact hset_s _ _ _ | (rw [hset_n _ _ (by omega)]; first | assumption | exact hset_s _ _ _ | (rw [hset_n _ _ (by omega)]; first | assumption | exact hset_s _ _ _))))) (by assumption) rfl ?_
      rw [e3, e2]
      refine j_icmp_ge (tgt := 42) d_Wk_next_25 (by decide) (fun c3 => ?_) (fun c3 => ?_)
      · have hge : s.2.1 k ≤ s.2.2.1 k + 1 := (nI_leI (by omega) (by omega)).mp c3
        refine j_aload_n d_Wk_next_42 rfl ?_
        refine j_iload_n d_Wk_next_43 rfl ?_
        refine j_iconst (v := 0) d_Wk_next_44 (by decide) ?_
        refine j_callV (As := [.int (nI k), .int (nI 0)]) d_Wk_next_45 cb_Wk_53 vv_Wk_go hw0 rfl rfl rfl rfl (Nat.le_of_ble_eq_true rfl) (by decide) (Nat.zero_le _) (Nat.zero_le _) (c_Wk_go hb hod hvl h1 h2 (by omega) (by omega) hN hs hvf) (fun v' h' n' q _ => ?_)
        obtain ⟨rfl, rfl, rfl⟩ := q
        refine j_iinc (v := nI k - 1) d_Wk_next_48 rfl (dec1 _) (by decide) ?_
        refine j_goto (tgt := 7) d_Wk_next_51 (by decide) ?_
        rw [show nxF vf N (k + 1) s = nxF vf N k (goF vf N s k 0) from if_neg (by omega)]
        exact ih _ _ rfl (by omega) (goF_WB hs (by omega))
      · have hlt : s.2.2.1 k + 1 < s.2.1 k := Nat.not_le.mp (fun q => c3 ((nI_leI (by omega) (by omega)).mpr q))
        refine j_aload_n d_Wk_next_28 rfl ?_
        refine j_iload_n d_Wk_next_29 rfl ?_
        refine j_aload_n d_Wk_next_30 rfl ?_
        refine j_get d_Wk_next_31 fl_Wk_18 (by first | assumption | exact hset_s _ _ _ | (rw [hset_n _ _ (by omega)]; first | assumption | exact hset_s _ _ _ | (rw [hset_n _ _ (by omega)]; first | assumption | exact hset_s _ _ _ | (rw [hset_n _ _ (by omega)]; first | assumption | exact hset_s _ _ _ | (rw [hset_n _ _ (by omega)]; first | assumption | exact hset_s _ _ _))))) rfl ?_
        refine j_iload_n d_Wk_next_34 rfl ?_
        refine j_iald (t := 0) d_Wk_next_35 rfl (by first | assumption | exact hset_s _ _ _ | (rw [hset_n _ _ (by omega)]; first | assumption | exact hset_s _ _ _ | (rw [hset_n _ _ (by omega)]; first | assumption | exact hset_s _ _ _ | (rw [hset_n _ _ (by omega)]; first | assumption | exact hset_s _ _ _ | (rw [hset_n _ _ (by omega)]; first | assumption | exact hset_s _ _ _))))) (by assumption) rfl ?_
        refine j_iconst (v := 1) d_Wk_next_36 (by decide) ?_
        refine j_iadd d_Wk_next_37 ?_
        rw [e3]
        refine j_callV (As := [.int (nI k), .int (nI (s.2.2.1 k + 1))]) d_Wk_next_38 cb_Wk_53 vv_Wk_go hw0 rfl rfl rfl rfl (Nat.le_of_ble_eq_true rfl) (by decide) (Nat.zero_le _) (Nat.zero_le _) (c_Wk_go hb hod hvl h1 h2 (by omega) (by omega) hN hs hvf) (fun v' h' n' q _ => ?_)
        obtain ⟨rfl, rfl, rfl⟩ := q
        refine j_vret d_Wk_next_41 rfl ⟨rfl, ?_, rfl⟩
        rw [show nxF vf N (k + 1) s = goF vf N s k (s.2.2.1 k + 1) from if_pos hlt]
  exact loop K s _ rfl (Nat.le_refl _) hs
/-- a new Walk over the puzzle at p -/
theorem c_Wk_init {p cp : Nat} {N M c : Int32} (h0 : E.2.2.2.1 ≤ n) (hp : h p = some (oPz N (nI K) M od cp c)) (hpn : p < n) : Ct E m_Wk_init 1 4 90 [.ref n, .ref p] (hset h n (.inr (10, [.null, .int 0, .null, .null, .null, .null]))) (n + 1) (Rt none (hW E h n od K (fun _ => 0, fun _ => 0, fun _ => 0, fun _ => 0)) (n + 5)) := by
  refine Ct.go rfl rfl rfl ?_
  refine j_aload_n d_Wk_init_0 rfl ?_
  refine j_obj d_Wk_init_1 ob_Wk_3 obi obc (by decide) (by decide) ?_
  refine j_aload_n d_Wk_init_4 rfl ?_
  refine j_bipush (v := 72) d_Wk_init_5 (by decide) ?_
  refine j_newa (t := 0) d_Wk_init_7 rfl aw_int rfl (by decide) rfl (by decide) (by decide) (by decide) ?_
  refine j_put d_Wk_init_9 fl_Wk_9 fp_Wk (Or.inr ⟨rfl, rfl, rfl⟩) (by first | assumption | exact hset_s _ _ _ | (rw [hset_n _ _ (by omega)]; first | assumption | exact hset_s _ _ _ | (rw [hset_n _ _ (by omega)]; first | assumption | exact hset_s _ _ _ | (rw [hset_n _ _ (by omega)]; first | assumption | exact hset_s _ _ _ | (rw [hset_n _ _ (by omega)]; first | assumption | exact hset_s _ _ _))))) (by omega) rfl rfl (Nat.le_of_ble_eq_true rfl) ?_
  refine j_aload_n d_Wk_init_12 rfl ?_
  refine j_iconst (v := 3) d_Wk_init_13 (by decide) ?_
  refine j_newa (t := 0) d_Wk_init_14 rfl aw_int rfl (by decide) rfl (by decide) (by decide) (by decide) ?_
  refine j_put d_Wk_init_16 fl_Wk_15 fp_Wk (Or.inr ⟨rfl, rfl, rfl⟩) (by first | assumption | exact hset_s _ _ _ | (rw [hset_n _ _ (by omega)]; first | assumption | exact hset_s _ _ _ | (rw [hset_n _ _ (by omega)]; first | assumption | exact hset_s _ _ _ | (rw [hset_n _ _ (by omega)]; first | assumption | exact hset_s _ _ _ | (rw [hset_n _ _ (by omega)]; first | assumption | exact hset_s _ _ _))))) (by omega) rfl rfl (Nat.le_of_ble_eq_true rfl) ?_
  refine j_aload_n d_Wk_init_19 rfl ?_
  refine j_iconst (v := 3) d_Wk_init_20 (by decide) ?_
  refine j_newa (t := 0) d_Wk_init_21 rfl aw_int rfl (by decide) rfl (by decide) (by decide) (by decide) ?_
  refine j_put d_Wk_init_23 fl_Wk_18 fp_Wk (Or.inr ⟨rfl, rfl, rfl⟩) (by first | assumption | exact hset_s _ _ _ | (rw [hset_n _ _ (by omega)]; first | assumption | exact hset_s _ _ _ | (rw [hset_n _ _ (by omega)]; first | assumption | exact hset_s _ _ _ | (rw [hset_n _ _ (by omega)]; first | assumption | exact hset_s _ _ _ | (rw [hset_n _ _ (by omega)]; first | assumption | exact hset_s _ _ _))))) (by omega) rfl rfl (Nat.le_of_ble_eq_true rfl) ?_
  refine j_aload_n d_Wk_init_26 rfl ?_
  refine j_bipush (v := 12) d_Wk_init_27 (by decide) ?_
  refine j_newa (t := 0) d_Wk_init_29 rfl aw_int rfl (by decide) rfl (by decide) (by decide) (by decide) ?_
  refine j_put d_Wk_init_31 fl_Wk_21 fp_Wk (Or.inr ⟨rfl, rfl, rfl⟩) (by first | assumption | exact hset_s _ _ _ | (rw [hset_n _ _ (by omega)]; first | assumption | exact hset_s _ _ _ | (rw [hset_n _ _ (by omega)]; first | assumption | exact hset_s _ _ _ | (rw [hset_n _ _ (by omega)]; first | assumption | exact hset_s _ _ _ | (rw [hset_n _ _ (by omega)]; first | assumption | exact hset_s _ _ _))))) (by omega) rfl rfl (Nat.le_of_ble_eq_true rfl) ?_
  refine j_aload_n d_Wk_init_34 rfl ?_
  refine j_aload_n d_Wk_init_35 rfl ?_
  have far : ∀ {x : HP}, (∀ q, q < n → x q = h q) → x p = some (oPz N (nI K) M od cp c) := fun hx => (hx p hpn).trans hp
  refine j_pV (As := []) (ci := 7) d_Wk_init_36 cb_Wk_24 vv_Pz_orders (far (fun q hq => by simp [hset, show q ≠ n by omega, show q ≠ n + 1 by omega, show q ≠ n + 2 by omega, show q ≠ n + 3 by omega, show q ≠ n + 4 by omega])) rfl rfl rfl rfl (Nat.le_of_ble_eq_true rfl) (by decide) (c_Pz_orders (far (fun q hq => by simp [hset, show q ≠ n by omega, show q ≠ n + 1 by omega, show q ≠ n + 2 by omega, show q ≠ n + 3 by omega, show q ≠ n + 4 by omega])) rfl) ?_
  refine j_put d_Wk_init_39 fl_Wk_30 fp_Wk (Or.inr ⟨rfl, rfl, rfl⟩) (by first | assumption | exact hset_s _ _ _ | (rw [hset_n _ _ (by omega)]; first | assumption | exact hset_s _ _ _ | (rw [hset_n _ _ (by omega)]; first | assumption | exact hset_s _ _ _ | (rw [hset_n _ _ (by omega)]; first | assumption | exact hset_s _ _ _ | (rw [hset_n _ _ (by omega)]; first | assumption | exact hset_s _ _ _))))) (by omega) rfl rfl (Nat.le_of_ble_eq_true rfl) ?_
  refine j_aload_n d_Wk_init_42 rfl ?_
  refine j_aload_n d_Wk_init_43 rfl ?_
  refine j_pV (As := []) (ci := 7) d_Wk_init_44 cb_Wk_33 vv_Pz_kinds (far (fun q hq => by simp [hset, show q ≠ n by omega, show q ≠ n + 1 by omega, show q ≠ n + 2 by omega, show q ≠ n + 3 by omega, show q ≠ n + 4 by omega])) rfl rfl rfl rfl (Nat.le_of_ble_eq_true rfl) (by decide) (c_Pz_kinds (far (fun q hq => by simp [hset, show q ≠ n by omega, show q ≠ n + 1 by omega, show q ≠ n + 2 by omega, show q ≠ n + 3 by omega, show q ≠ n + 4 by omega])) rfl) ?_
  refine j_put d_Wk_init_47 fl_Wk_37 fp_Wk (Or.inr ⟨rfl, rfl, rfl⟩) (by first | assumption | exact hset_s _ _ _ | (rw [hset_n _ _ (by omega)]; first | assumption | exact hset_s _ _ _ | (rw [hset_n _ _ (by omega)]; first | assumption | exact hset_s _ _ _ | (rw [hset_n _ _ (by omega)]; first | assumption | exact hset_s _ _ _ | (rw [hset_n _ _ (by omega)]; first | assumption | exact hset_s _ _ _))))) (by omega) rfl rfl (Nat.le_of_ble_eq_true rfl) ?_
  refine j_vret d_Wk_init_50 rfl ⟨rfl, ?_, rfl⟩
  funext q
  unfold hW hset
  by_cases h0 : q = n <;> by_cases h1 : q = n + 1 <;> by_cases h2 : q = n + 2 <;> by_cases h3 : q = n + 3 <;> by_cases h4 : q = n + 4 <;> simp_all [nA_0]
end WLK
end
section
section ANS
variable {E : EV} {h : HP} {n : Nat}
/-- Answers: keptOrder, keptParty, countWithOrder, holding, needed, count, kept, found -/
abbrev AS : Type := (Nat → Nat) × (Nat → Nat) × (Nat → Int32) × (Nat → Int32) × (Nat → Int32) × Int32 × Nat × Int32
def hB (E : EV) (h : HP) (a p : Nat) (s : AS) : HP := hset (hset (hset (hset (hset (hset h a (oAn p (a + 6) (a + 1) (a + 2) (a + 3) (a + 4) (a + 5) s.2.2.2.2.2.1 (nI s.2.2.2.2.2.2.1) s.2.2.2.2.2.2.2)) (a + 1) (arI E 0 300 (nA s.1))) (a + 2) (arI E 0 100 (nA s.2.1))) (a + 3) (arI E 0 72 s.2.2.1)) (a + 4) (arI E 0 20 s.2.2.2.1)) (a + 5) (arI E 1 20 s.2.2.2.2.1)
def hAn (E : EV) (h : HP) (a p od K : Nat) (s : AS) (ws : WS) : HP := hW E (hB E h a p s) (a + 6) od K ws
theorem hW_out {w od K q : Nat} {ws : WS} {e : va_E} (hq : q < w) : hset (hW E h w od K ws) q e = hW E (hset h q e) w od K ws := by
  unfold hW
  rw [hset_comm _ _ _ (show w + 4 ≠ q by omega), hset_comm _ _ _ (show w + 3 ≠ q by omega), hset_comm _ _ _ (show w + 2 ≠ q by omega), hset_comm _ _ _ (show w + 1 ≠ q by omega), hset_comm _ _ _ (show w ≠ q by omega)]
variable {a p od K : Nat} {s : AS} {ws : WS}
theorem hAn_0 : hAn E h a p od K s ws a = some (oAn p (a + 6) (a + 1) (a + 2) (a + 3) (a + 4) (a + 5) s.2.2.2.2.2.1 (nI s.2.2.2.2.2.2.1) s.2.2.2.2.2.2.2) := by unfold hAn; rw [hW_x (by omega)]; simp [hB, hset]
theorem hAn_1 : hAn E h a p od K s ws (a + 1) = some (arI E 0 300 (nA s.1)) := by unfold hAn; rw [hW_x (by omega)]; simp [hB, hset]
theorem hAn_2 : hAn E h a p od K s ws (a + 2) = some (arI E 0 100 (nA s.2.1)) := by unfold hAn; rw [hW_x (by omega)]; simp [hB, hset]
theorem hAn_3 : hAn E h a p od K s ws (a + 3) = some (arI E 0 72 s.2.2.1) := by unfold hAn; rw [hW_x (by omega)]; simp [hB, hset]
theorem hAn_4 : hAn E h a p od K s ws (a + 4) = some (arI E 0 20 s.2.2.2.1) := by unfold hAn; rw [hW_x (by omega)]; simp [hB, hset]
theorem hAn_5 : hAn E h a p od K s ws (a + 5) = some (arI E 1 20 s.2.2.2.2.1) := by unfold hAn; rw [hW_x (by omega)]; simp [hB, hset]
theorem hAn_6 : hAn E h a p od K s ws (a + 6) = some (oWk od (nI K) (a + 6 + 1) (a + 6 + 2) (a + 6 + 3) (a + 6 + 4)) := hW_0
theorem hAn_10 : hAn E h a p od K s ws (a + 6 + 4) = some (arI E 0 12 (nA ws.2.2.2)) := hW_4
theorem hB_x {q : Nat} (hq : q < a ∨ a + 5 < q) : hB E h a p s q = h q := by
  have h0 : q ≠ a := by omega
  have h1 : q ≠ a + 1 := by omega
  have h2 : q ≠ a + 2 := by omega
  have h3 : q ≠ a + 3 := by omega
  have h4 : q ≠ a + 4 := by omega
  have h5 : q ≠ a + 5 := by omega
  simp [hB, hset, h0, h1, h2, h3, h4, h5]
theorem hAn_x {q : Nat} (hq : q < a ∨ a + 10 < q) : hAn E h a p od K s ws q = h q := by unfold hAn; rw [hW_x (by omega), hB_x (by omega)]
theorem hAn_s0 {c : Int32} {k : Nat} {f : Int32} : hset (hAn E h a p od K s ws) a (oAn p (a + 6) (a + 1) (a + 2) (a + 3) (a + 4) (a + 5) c (nI k) f) = hAn E h a p od K (s.1, s.2.1, s.2.2.1, s.2.2.2.1, s.2.2.2.2.1, c, k, f) ws := by
  unfold hAn; rw [hW_out (by omega)]; congr 1; funext q; unfold hB hset
  by_cases h0 : q = a <;> simp [h0]
theorem hAn_s1 {f : Nat → Nat} : hset (hAn E h a p od K s ws) (a + 1) (arI E 0 300 (nA f)) = hAn E h a p od K (f, s.2) ws := by
  unfold hAn; rw [hW_out (by omega)]; congr 1; funext q; unfold hB hset
  by_cases h0 : q = a + 1 <;> simp [h0]
theorem hAn_s2 {f : Nat → Nat} : hset (hAn E h a p od K s ws) (a + 2) (arI E 0 100 (nA f)) = hAn E h a p od K (s.1, f, s.2.2) ws := by
  unfold hAn; rw [hW_out (by omega)]; congr 1; funext q; unfold hB hset
  by_cases h0 : q = a + 2 <;> simp [h0]
theorem hAn_s3 {f : Nat → Int32} : hset (hAn E h a p od K s ws) (a + 3) (arI E 0 72 f) = hAn E h a p od K (s.1, s.2.1, f, s.2.2.2) ws := by
  unfold hAn; rw [hW_out (by omega)]; congr 1; funext q; unfold hB hset
  by_cases h0 : q = a + 3 <;> simp [h0]
theorem hAn_s4 {f : Nat → Int32} : hset (hAn E h a p od K s ws) (a + 4) (arI E 0 20 f) = hAn E h a p od K (s.1, s.2.1, s.2.2.1, f, s.2.2.2.2) ws := by
  unfold hAn; rw [hW_out (by omega)]; congr 1; funext q; unfold hB hset
  by_cases h0 : q = a + 4 <;> simp [h0]
theorem hAn_s5 {f : Nat → Int32} : hset (hAn E h a p od K s ws) (a + 5) (arI E 1 20 f) = hAn E h a p od K (s.1, s.2.1, s.2.2.1, s.2.2.2.1, f, s.2.2.2.2.2) ws := by
  unfold hAn; rw [hW_out (by omega)]; congr 1; funext q; unfold hB hset
  by_cases h0 : q = a + 5 <;> simp [h0]
/-- the order at which a kind stands -/
def wOrd (ws : WS) (kd : Nat) : Nat := ws.1 (24 * kd + ws.2.2.1 kd)
theorem c_Wk_orderW {w kd : Nat} (hs : WB ws) (hkd : kd < 3) : Ct E m_Wk_order 0 0 0 [.ref w, .int (nI kd)] (hW E h w od K ws) n (Rt (some (.int (nI (wOrd ws kd)))) (hW E h w od K ws) n) := by
  have ha := hs.2.2 kd
  have e1 : 24 * nI kd + nA ws.2.2.1 (nI kd).toNatClampNeg = nI (24 * kd + ws.2.2.1 kd) := by rw [nI_clamp (by omega)]; exact n24 _ _
  have := c_Wk_order (E := E) (n := n) (x := nI kd) (hW_0 (E := E) (h := h) (w := w) (od := od) (K := K) (s := ws)) hW_1 hW_3 (vp_in_nI (by omega) (by omega)) (by rw [e1]; exact vp_in_nI (by omega) (by omega))
  rw [e1, nI_clamp (by omega)] at this
  exact this
/-! what it does, in numbers -/
def keepF (K : Nat) (ws : WS) (s : AS) (pt : Nat) : AS := ((List.range' 0 K).foldl (fun f kd => upN f (3 * s.2.2.2.2.2.2.1 + kd) (wOrd ws kd)) s.1, upN s.2.1 s.2.2.2.2.2.2.1 pt, s.2.2.1, s.2.2.2.1, s.2.2.2.2.1, s.2.2.2.2.2.1, s.2.2.2.2.2.2.1 + 1, s.2.2.2.2.2.2.2)
def kpS (K : Nat) (ws : WS) (pts : Int32) (s : AS) (pt : Nat) : AS := if s.2.2.2.2.2.2.1 < 100 ∧ ¬ (pts >>> (nI pt &&& 31)) &&& 1 = 0 then keepF K ws s pt else s
def anAdd (K : Nat) (ws : WS) (s : AS) (pts : Int32) : AS := (List.range' 0 8).foldl (kpS K ws pts) (s.1, s.2.1, (List.range' 0 K).foldl (fun f kd => upd f (24 * kd + wOrd ws kd) (f (24 * kd + wOrd ws kd) + bcF pts)) s.2.2.1, s.2.2.2.1, s.2.2.2.2.1, s.2.2.2.2.2.1 + bcF pts, s.2.2.2.2.2.2)
def anNeed (cc : Nat) (s : AS) (pts : Int32) : AS := (s.1, s.2.1, s.2.2.1, s.2.2.2.1, (List.range' 0 cc).foldl (fun f c => if pts &&& (s.2.2.2.1 c ^^^ (-1)) = 0 then f else upd f c 1) s.2.2.2.2.1, s.2.2.2.2.2)
/-- holding, noneFails, oneFails -/
def wlS (φ : Nat → (Nat → Int32) → Int32) (th : Nat → Int32) (x : (Nat → Int32) × Int32 × Int32) (c : Nat) : (Nat → Int32) × Int32 × Int32 :=
  if x.2.1 ||| x.2.2 = 0 then x else (upd x.1 c (φ c th), x.2.1 &&& φ c th, (x.2.2 &&& φ c th) ||| (x.2.1 &&& (φ c th ^^^ (-1))))
def anEnd (cc K : Nat) (ws : WS) (s : AS) (x : (Nat → Int32) × Int32 × Int32) : AS :=
  if x.2.2 = 0 then (if x.2.1 = 0 then (s.1, s.2.1, s.2.2.1, x.1, s.2.2.2.2) else anAdd K ws (s.1, s.2.1, s.2.2.1, x.1, s.2.2.2.2) x.2.1) else anNeed cc (if x.2.1 = 0 then (s.1, s.2.1, s.2.2.1, x.1, s.2.2.2.2) else anAdd K ws (s.1, s.2.1, s.2.2.1, x.1, s.2.2.2.2) x.2.1) x.2.2
def anWeigh (cc K : Nat) (pM : Int32) (φ : Nat → (Nat → Int32) → Int32) (ws : WS) (s : AS) : AS := anEnd cc K ws s ((List.range' 0 cc).foldl (wlS φ (nA ws.2.2.2)) (s.2.2.2.1, pM, 0))
theorem keepF_k {s : AS} {pt : Nat} : (keepF K ws s pt).2.2.2.2.2.2.1 = s.2.2.2.2.2.2.1 + 1 := rfl
theorem kps_id {pts : Int32} : ∀ (l : List Nat) (s : AS), ¬ s.2.2.2.2.2.2.1 < 100 → l.foldl (kpS K ws pts) s = s
  | [], _, _ => rfl
  | v :: l, s, h => by
    rw [List.foldl_cons, show kpS K ws pts s v = s from if_neg (fun q => h q.1)]
    exact kps_id l s h
theorem kps_le {pts : Int32} : ∀ (l : List Nat) (s : AS), s.2.2.2.2.2.2.1 ≤ 100 → (l.foldl (kpS K ws pts) s).2.2.2.2.2.2.1 ≤ 100
  | [], _, h => h
  | v :: l, s, h => by
    rw [List.foldl_cons]
    refine kps_le l _ ?_
    unfold kpS
    split
    · rename_i q; rw [keepF_k]; omega
    · exact h
theorem wls_id {φ : Nat → (Nat → Int32) → Int32} {th : Nat → Int32} : ∀ (l : List Nat) (x : (Nat → Int32) × Int32 × Int32), x.2.1 ||| x.2.2 = 0 → l.foldl (wlS φ th) x = x
  | [], _, _ => rfl
  | v :: l, x, h => by
    rw [List.foldl_cons, show wlS φ th x v = x from if_pos h]
    exact wls_id l x h
/-! keep, add, need -/
theorem c_An_keep {cp N M cc pt : Nat} (hb : E.2.2.2.1 ≤ a) (hp : h p = some (oPz (nI N) (nI K) (nI M) od cp (nI cc))) (hpa : p < a) (hK : K ≤ 3) (hs : WB ws) (hk : s.2.2.2.2.2.2.1 < 100) :
    Ct E m_An_keep 1 0 0 [.ref a, .int (nI pt)] (hAn E h a p od K s ws) n (Rt none (hAn E h a p od K (keepF K ws s pt) ws) n) := by
  refine Ct.go rfl rfl rfl ?_
  obtain ⟨ko, kp, co, ho, ne, cnt, kept, fnd⟩ := s
  dsimp only at hk
  refine j_iconst (v := 0) d_An_keep_0 (by decide) ?_
  refine j_istore_n d_An_keep_1 (by decide) ?_
  have loop : ∀ (k kd : Nat) (f : Nat → Nat), kd + k = K → J E m_An_keep 1 0 0 2 [(0, .ref a), (1, .int (nI pt)), (2, .int (nI kd))] [] (hAn E h a p od K (f, kp, co, ho, ne, cnt, kept, fnd) ws) n (Rt none (hAn E h a p od K ((List.range' kd k).foldl (fun f kd => upN f (3 * kept + kd) (wOrd ws kd)) f, upN kp kept pt, co, ho, ne, cnt, kept + 1, fnd) ws) n) := by
    intro k
    induction k with
    | zero =>
      intro kd f hkd
      have hkd : kd = K := by omega
      subst hkd
      have hw0 := hAn_0 (E := E) (h := h) (a := a) (p := p) (od := od) (K := kd) (s := (f, kp, co, ho, ne, cnt, kept, fnd)) (ws := ws)
      have hw2 := hAn_2 (E := E) (h := h) (a := a) (p := p) (od := od) (K := kd) (s := (f, kp, co, ho, ne, cnt, kept, fnd)) (ws := ws)
      have hwp : hAn E h a p od kd (f, kp, co, ho, ne, cnt, kept, fnd) ws p = some (oPz (nI N) (nI kd) (nI M) od cp (nI cc)) := (hAn_x (Or.inl hpa)).trans hp
      refine j_iload_n d_An_keep_2 rfl ?_
      refine j_aload_n d_An_keep_3 rfl ?_
      refine j_get d_An_keep_4 fl_An_28 (by first | assumption | exact hset_s _ _ _ | (rw [hset_n _ _ (by omega)]; first | assumption | exact hset_s _ _ _ | (rw [hset_n _ _ (by omega)]; first | assumption | exact hset_s _ _ _ | (rw [hset_n _ _ (by omega)]; first | assumption | exact hset_s _ _ _ | (rw [hset_n _ _ (by omega)]; first | assumption | exact hset_s _ _ _))))) rfl ?_
      refine j_pV (As := []) d_An_keep_7 cb_An_124 vv_Pz_kinds hwp rfl rfl rfl rfl (Nat.le_of_ble_eq_true rfl) (by decide) (c_Pz_kinds hwp rfl) ?_
      refine j_icmp_ge (tgt := 40) d_An_keep_10 (by decide) (fun c2 => ?_) (fun c2 => absurd (nI_le (Nat.le_refl _) (by omega)) c2)
      refine j_aload_n d_An_keep_40 rfl ?_
      refine j_get d_An_keep_41 fl_An_15 (by first | assumption | exact hset_s _ _ _ | (rw [hset_n _ _ (by omega)]; first | assumption | exact hset_s _ _ _ | (rw [hset_n _ _ (by omega)]; first | assumption | exact hset_s _ _ _ | (rw [hset_n _ _ (by omega)]; first | assumption | exact hset_s _ _ _ | (rw [hset_n _ _ (by omega)]; first | assumption | exact hset_s _ _ _))))) rfl ?_
      refine j_aload_n d_An_keep_44 rfl ?_
      refine j_get d_An_keep_45 fl_An_45 (by first | assumption | exact hset_s _ _ _ | (rw [hset_n _ _ (by omega)]; first | assumption | exact hset_s _ _ _ | (rw [hset_n _ _ (by omega)]; first | assumption | exact hset_s _ _ _ | (rw [hset_n _ _ (by omega)]; first | assumption | exact hset_s _ _ _ | (rw [hset_n _ _ (by omega)]; first | assumption | exact hset_s _ _ _))))) rfl ?_
      refine j_iload_n d_An_keep_48 rfl ?_
      refine j_iast (t := 0) d_An_keep_49 rfl hw2 (by omega) (vp_in_nI hk (by omega)) ?_
      refine J.conv (L := _) rfl (show _ = hAn E h a p od kd (f, upN kp kept pt, co, ho, ne, cnt, kept, fnd) ws by rw [nI_clamp (n := kept) (by omega), upd_nA, hAn_s2]) ?_
      have hv0 := hAn_0 (E := E) (h := h) (a := a) (p := p) (od := od) (K := kd) (s := (f, upN kp kept pt, co, ho, ne, cnt, kept, fnd)) (ws := ws)
      refine j_aload_n d_An_keep_50 rfl ?_
      refine j_dup d_An_keep_51 rfl ?_
      refine j_get d_An_keep_52 fl_An_45 (by first | assumption | exact hset_s _ _ _ | (rw [hset_n _ _ (by omega)]; first | assumption | exact hset_s _ _ _ | (rw [hset_n _ _ (by omega)]; first | assumption | exact hset_s _ _ _ | (rw [hset_n _ _ (by omega)]; first | assumption | exact hset_s _ _ _ | (rw [hset_n _ _ (by omega)]; first | assumption | exact hset_s _ _ _))))) rfl ?_
      refine j_iconst (v := 1) d_An_keep_55 (by decide) ?_
      refine j_iadd d_An_keep_56 ?_
      refine j_put d_An_keep_57 fl_An_45 fp_An (Or.inl rfl) hv0 hb rfl rfl (Nat.le_of_ble_eq_true rfl) ?_
      refine J.conv (L := _) rfl (show _ = hAn E h a p od kd (f, upN kp kept pt, co, ho, ne, cnt, kept + 1, fnd) ws from ?_) ?_
      · show hset _ a (oAn p (a + 6) (a + 1) (a + 2) (a + 3) (a + 4) (a + 5) cnt (nI kept + 1) fnd) = _
        rw [nI_1, hAn_s0]
      · exact j_vret d_An_keep_60 rfl ⟨rfl, rfl, rfl⟩
    | succ k ih =>
      intro kd f hkd
      have hw0 := hAn_0 (E := E) (h := h) (a := a) (p := p) (od := od) (K := K) (s := (f, kp, co, ho, ne, cnt, kept, fnd)) (ws := ws)
      have hw1 := hAn_1 (E := E) (h := h) (a := a) (p := p) (od := od) (K := K) (s := (f, kp, co, ho, ne, cnt, kept, fnd)) (ws := ws)
      have hw6 := hAn_6 (E := E) (h := h) (a := a) (p := p) (od := od) (K := K) (s := (f, kp, co, ho, ne, cnt, kept, fnd)) (ws := ws)
      have hwp : hAn E h a p od K (f, kp, co, ho, ne, cnt, kept, fnd) ws p = some (oPz (nI N) (nI K) (nI M) od cp (nI cc)) := (hAn_x (Or.inl hpa)).trans hp
      refine j_iload_n d_An_keep_2 rfl ?_
      refine j_aload_n d_An_keep_3 rfl ?_
      refine j_get d_An_keep_4 fl_An_28 (by first | assumption | exact hset_s _ _ _ | (rw [hset_n _ _ (by omega)]; first | assumption | exact hset_s _ _ _ | (rw [hset_n _ _ (by omega)]; first | assumption | exact hset_s _ _ _ | (rw [hset_n _ _ (by omega)]; first | assumption | exact hset_s _ _ _ | (rw [hset_n _ _ (by omega)]; first | assumption | exact hset_s _ _ _))))) rfl ?_
      refine j_pV (As := []) d_An_keep_7 cb_An_124 vv_Pz_kinds hwp rfl rfl rfl rfl (Nat.le_of_ble_eq_true rfl) (by decide) (c_Pz_kinds hwp rfl) ?_
      refine j_icmp_ge (tgt := 40) d_An_keep_10 (by decide) (fun c2 => absurd c2 (nI_ge (by omega) (by omega))) (fun c2 => ?_)
      refine j_aload_n d_An_keep_13 rfl ?_
      refine j_get d_An_keep_14 fl_An_9 (by first | assumption | exact hset_s _ _ _ | (rw [hset_n _ _ (by omega)]; first | assumption | exact hset_s _ _ _ | (rw [hset_n _ _ (by omega)]; first | assumption | exact hset_s _ _ _ | (rw [hset_n _ _ (by omega)]; first | assumption | exact hset_s _ _ _ | (rw [hset_n _ _ (by omega)]; first | assumption | exact hset_s _ _ _))))) rfl ?_
      refine j_iconst (v := 3) d_An_keep_17 (by decide) ?_
      refine j_aload_n d_An_keep_18 rfl ?_
      refine j_get d_An_keep_19 fl_An_45 (by first | assumption | exact hset_s _ _ _ | (rw [hset_n _ _ (by omega)]; first | assumption | exact hset_s _ _ _ | (rw [hset_n _ _ (by omega)]; first | assumption | exact hset_s _ _ _ | (rw [hset_n _ _ (by omega)]; first | assumption | exact hset_s _ _ _ | (rw [hset_n _ _ (by omega)]; first | assumption | exact hset_s _ _ _))))) rfl ?_
      refine j_imul d_An_keep_22 ?_
      refine j_iload_n d_An_keep_23 rfl ?_
      refine j_iadd d_An_keep_24 ?_
      refine j_aload_n d_An_keep_25 rfl ?_
      refine j_get d_An_keep_26 fl_An_37 (by first | assumption | exact hset_s _ _ _ | (rw [hset_n _ _ (by omega)]; first | assumption | exact hset_s _ _ _ | (rw [hset_n _ _ (by omega)]; first | assumption | exact hset_s _ _ _ | (rw [hset_n _ _ (by omega)]; first | assumption | exact hset_s _ _ _ | (rw [hset_n _ _ (by omega)]; first | assumption | exact hset_s _ _ _))))) rfl ?_
      refine j_iload_n d_An_keep_29 rfl ?_
      refine j_pV (As := [.int _]) d_An_keep_30 cb_An_127 vv_Wk_order hw6 rfl rfl rfl rfl (Nat.le_of_ble_eq_true rfl) (by decide) (c_Wk_orderW hs (by omega)) ?_
      refine j_iast (t := 0) d_An_keep_33 rfl hw1 (by omega) (show vp_in (3 * nI kept + nI kd) 300 by rw [n3]; exact vp_in_nI (by omega) (by omega)) ?_
      refine j_iinc (v := nI (kd + 1)) d_An_keep_34 rfl (nI_succ kd).symm (by decide) ?_
      refine j_goto (tgt := 2) d_An_keep_37 (by decide) ?_
      rw [List.range'_succ, List.foldl_cons]
      refine J.conv (L := _) rfl ?_ (ih (kd + 1) _ (by omega))
      show hset _ (a + 1) (arI E 0 300 (upd (nA f) (3 * nI kept + nI kd).toNatClampNeg _)) = _
      rw [n3, nI_clamp (by omega), upd_nA, hAn_s1]
  exact loop K 0 ko (by omega)
theorem c_An_need {cp N M cc : Nat} {pts : Int32} (hb : E.2.2.2.1 ≤ a) (hp : h p = some (oPz (nI N) (nI K) (nI M) od cp (nI cc))) (hpa : p < a) (hcc : cc ≤ 20) :
    Ct E m_An_need 1 0 0 [.ref a, .int pts] (hAn E h a p od K s ws) n (Rt none (hAn E h a p od K (anNeed cc s pts) ws) n) := by
  refine Ct.go rfl rfl rfl ?_
  obtain ⟨ko, kp, co, ho, ne, cnt, kept, fnd⟩ := s
  refine j_iconst (v := 0) d_An_need_0 (by decide) ?_
  refine j_istore_n d_An_need_1 (by decide) ?_
  have loop : ∀ (k c : Nat) (f : Nat → Int32), c + k = cc → J E m_An_need 1 0 0 2 [(0, .ref a), (1, .int pts), (2, .int (nI c))] [] (hAn E h a p od K (ko, kp, co, ho, f, cnt, kept, fnd) ws) n (Rt none (hAn E h a p od K (ko, kp, co, ho, (List.range' c k).foldl (fun f c => if pts &&& (ho c ^^^ (-1)) = 0 then f else upd f c 1) f, cnt, kept, fnd) ws) n) := by
    intro k
    induction k with
    | zero =>
      intro c f hc
      have hc : c = cc := by omega
      subst hc
      have hw0 := hAn_0 (E := E) (h := h) (a := a) (p := p) (od := od) (K := K) (s := (ko, kp, co, ho, f, cnt, kept, fnd)) (ws := ws)
      have hwp : hAn E h a p od K (ko, kp, co, ho, f, cnt, kept, fnd) ws p = some (oPz (nI N) (nI K) (nI M) od cp (nI c)) := (hAn_x (Or.inl hpa)).trans hp
      refine j_iload_n d_An_need_2 rfl ?_
      refine j_aload_n d_An_need_3 rfl ?_
      refine j_get d_An_need_4 fl_An_28 (by first | assumption | exact hset_s _ _ _ | (rw [hset_n _ _ (by omega)]; first | assumption | exact hset_s _ _ _ | (rw [hset_n _ _ (by omega)]; first | assumption | exact hset_s _ _ _ | (rw [hset_n _ _ (by omega)]; first | assumption | exact hset_s _ _ _ | (rw [hset_n _ _ (by omega)]; first | assumption | exact hset_s _ _ _))))) rfl ?_
      refine j_pV (As := []) d_An_need_7 cb_An_95 vv_Pz_clueCount hwp rfl rfl rfl rfl (Nat.le_of_ble_eq_true rfl) (by decide) (c_Pz_clueCount hwp rfl) ?_
      refine j_icmp_ge (tgt := 39) d_An_need_10 (by decide) (fun c2 => ?_) (fun c2 => absurd (nI_le (Nat.le_refl _) (by omega)) c2)
      exact j_vret d_An_need_39 rfl ⟨rfl, rfl, rfl⟩
    | succ k ih =>
      intro c f hc
      have hw0 := hAn_0 (E := E) (h := h) (a := a) (p := p) (od := od) (K := K) (s := (ko, kp, co, ho, f, cnt, kept, fnd)) (ws := ws)
      have hw4 := hAn_4 (E := E) (h := h) (a := a) (p := p) (od := od) (K := K) (s := (ko, kp, co, ho, f, cnt, kept, fnd)) (ws := ws)
      have hw5 := hAn_5 (E := E) (h := h) (a := a) (p := p) (od := od) (K := K) (s := (ko, kp, co, ho, f, cnt, kept, fnd)) (ws := ws)
      have hwp : hAn E h a p od K (ko, kp, co, ho, f, cnt, kept, fnd) ws p = some (oPz (nI N) (nI K) (nI M) od cp (nI cc)) := (hAn_x (Or.inl hpa)).trans hp
      have hin : vp_in (nI c) 20 := vp_in_nI (by omega) (by omega)
      refine j_iload_n d_An_need_2 rfl ?_
      refine j_aload_n d_An_need_3 rfl ?_
      refine j_get d_An_need_4 fl_An_28 (by first | assumption | exact hset_s _ _ _ | (rw [hset_n _ _ (by omega)]; first | assumption | exact hset_s _ _ _ | (rw [hset_n _ _ (by omega)]; first | assumption | exact hset_s _ _ _ | (rw [hset_n _ _ (by omega)]; first | assumption | exact hset_s _ _ _ | (rw [hset_n _ _ (by omega)]; first | assumption | exact hset_s _ _ _))))) rfl ?_
      refine j_pV (As := []) d_An_need_7 cb_An_95 vv_Pz_clueCount hwp rfl rfl rfl rfl (Nat.le_of_ble_eq_true rfl) (by decide) (c_Pz_clueCount hwp rfl) ?_
      refine j_icmp_ge (tgt := 39) d_An_need_10 (by decide) (fun c2 => absurd c2 (nI_ge (by omega) (by omega))) (fun c2 => ?_)
      refine j_iload_n d_An_need_13 rfl ?_
      refine j_aload_n d_An_need_14 rfl ?_
      refine j_get d_An_need_15 fl_An_21 (by first | assumption | exact hset_s _ _ _ | (rw [hset_n _ _ (by omega)]; first | assumption | exact hset_s _ _ _ | (rw [hset_n _ _ (by omega)]; first | assumption | exact hset_s _ _ _ | (rw [hset_n _ _ (by omega)]; first | assumption | exact hset_s _ _ _ | (rw [hset_n _ _ (by omega)]; first | assumption | exact hset_s _ _ _))))) rfl ?_
      refine j_iload_n d_An_need_18 rfl ?_
      refine j_iald (t := 0) d_An_need_19 rfl (by first | assumption | exact hset_s _ _ _ | (rw [hset_n _ _ (by omega)]; first | assumption | exact hset_s _ _ _ | (rw [hset_n _ _ (by omega)]; first | assumption | exact hset_s _ _ _ | (rw [hset_n _ _ (by omega)]; first | assumption | exact hset_s _ _ _ | (rw [hset_n _ _ (by omega)]; first | assumption | exact hset_s _ _ _))))) (by assumption) rfl ?_
      refine j_iconst (v := (-1)) d_An_need_20 (by decide) ?_
      refine j_ixor d_An_need_21 ?_
      refine j_iand d_An_need_22 ?_
      rw [nI_clamp (by omega)]
      rw [List.range'_succ, List.foldl_cons]
      refine j_if_eq (tgt := 33) d_An_need_23 (by decide) (fun c3 => ?_) (fun c3 => ?_)
      · refine j_iinc (v := nI (c + 1)) d_An_need_33 rfl (nI_succ c).symm (by decide) ?_
        refine j_goto (tgt := 2) d_An_need_36 (by decide) ?_
        rw [if_pos c3]
        exact ih (c + 1) f (by omega)
      · refine j_aload_n d_An_need_26 rfl ?_
        refine j_get d_An_need_27 fl_An_24 (by first | assumption | exact hset_s _ _ _ | (rw [hset_n _ _ (by omega)]; first | assumption | exact hset_s _ _ _ | (rw [hset_n _ _ (by omega)]; first | assumption | exact hset_s _ _ _ | (rw [hset_n _ _ (by omega)]; first | assumption | exact hset_s _ _ _ | (rw [hset_n _ _ (by omega)]; first | assumption | exact hset_s _ _ _))))) rfl ?_
        refine j_iload_n d_An_need_30 rfl ?_
        refine j_iconst (v := 1) d_An_need_31 (by decide) ?_
        refine j_zast (t := 1) d_An_need_32 rfl hw5 (by omega) hin ?_
        refine j_iinc (v := nI (c + 1)) d_An_need_33 rfl (nI_succ c).symm (by decide) ?_
        refine j_goto (tgt := 2) d_An_need_36 (by decide) ?_
        rw [if_neg c3]
        refine J.conv (L := _) rfl ?_ (ih (c + 1) _ (by omega))
        rw [nI_clamp (by omega), show vp_nar .boolean 1 = 1 from rfl, hAn_s5]
  exact loop cc 0 ne (by omega)
theorem c_An_add {cp N M cc : Nat} {pts : Int32} (hb : E.2.2.2.1 ≤ a) (hp : h p = some (oPz (nI N) (nI K) (nI M) od cp (nI cc))) (hpa : p < a) (hK : K ≤ 3) (hs : WB ws) (hk : s.2.2.2.2.2.2.1 ≤ 100) :
    Ct E m_An_add 2 0 0 [.ref a, .int pts] (hAn E h a p od K s ws) n (Rt none (hAn E h a p od K (anAdd K ws s pts) ws) n) := by
  refine Ct.go rfl rfl rfl ?_
  obtain ⟨ko, kp, co, ho, ne, cnt, kept, fnd⟩ := s
  dsimp only at hk
  have hw0 := hAn_0 (E := E) (h := h) (a := a) (p := p) (od := od) (K := K) (s := (ko, kp, co, ho, ne, cnt, kept, fnd)) (ws := ws)
  refine j_iload_n d_An_add_0 rfl ?_
  refine j_pS (As := [.int _]) d_An_add_1 cb_An_118 sv_In_bitCount rfl rfl (Nat.le_of_ble_eq_true rfl) (by decide) (c_In_bitCount _) ?_
  refine j_istore_n d_An_add_4 (by decide) ?_
  refine j_aload_n d_An_add_5 rfl ?_
  refine j_dup d_An_add_6 rfl ?_
  refine j_get d_An_add_7 fl_An_41 (by first | assumption | exact hset_s _ _ _ | (rw [hset_n _ _ (by omega)]; first | assumption | exact hset_s _ _ _ | (rw [hset_n _ _ (by omega)]; first | assumption | exact hset_s _ _ _ | (rw [hset_n _ _ (by omega)]; first | assumption | exact hset_s _ _ _ | (rw [hset_n _ _ (by omega)]; first | assumption | exact hset_s _ _ _))))) rfl ?_
  refine j_iload_n d_An_add_10 rfl ?_
  refine j_iadd d_An_add_11 ?_
  refine j_put d_An_add_12 fl_An_41 fp_An (Or.inl rfl) hw0 hb rfl rfl (Nat.le_of_ble_eq_true rfl) ?_
  refine J.conv (L := _) rfl (show _ = hAn E h a p od K (ko, kp, co, ho, ne, cnt + bcF pts, kept, fnd) ws from hAn_s0) ?_
  refine j_iconst (v := 0) d_An_add_15 (by decide) ?_
  refine j_istore_n d_An_add_16 (by decide) ?_
  have loop2 : ∀ (k pt : Nat) (s : AS), pt + k = 8 → s.2.2.2.2.2.2.1 ≤ 100 → J E m_An_add 2 0 0 58 [(0, .ref a), (1, .int pts), (2, .int (bcF pts)), (3, .int (nI pt))] [] (hAn E h a p od K s ws) n (Rt none (hAn E h a p od K ((List.range' pt k).foldl (kpS K ws pts) s) ws) n) := by
    intro k
    induction k with
    | zero =>
      intro pt s hpt hk
      have hpt : pt = 8 := by omega
      subst hpt
      refine j_iload_n d_An_add_58 rfl ?_
      refine j_bipush (v := 8) d_An_add_59 (by decide) ?_
      refine j_icmp_ge (tgt := 92) d_An_add_61 (by decide) (fun c2 => ?_) (fun c2 => absurd (by decide) c2)
      exact j_vret d_An_add_92 rfl ⟨rfl, rfl, rfl⟩
    | succ k ih =>
      intro pt s hpt hk
      have hw0 := hAn_0 (E := E) (h := h) (a := a) (p := p) (od := od) (K := K) (s := s) (ws := ws)
      refine j_iload_n d_An_add_58 rfl ?_
      refine j_bipush (v := 8) d_An_add_59 (by decide) ?_
      refine j_icmp_ge (tgt := 92) d_An_add_61 (by decide) (fun c2 => absurd c2 (nI_ge (a := pt) (b := 8) (by omega) (by omega))) (fun c2 => ?_)
      refine j_aload_n d_An_add_64 rfl ?_
      refine j_get d_An_add_65 fl_An_45 (by first | assumption | exact hset_s _ _ _ | (rw [hset_n _ _ (by omega)]; first | assumption | exact hset_s _ _ _ | (rw [hset_n _ _ (by omega)]; first | assumption | exact hset_s _ _ _ | (rw [hset_n _ _ (by omega)]; first | assumption | exact hset_s _ _ _ | (rw [hset_n _ _ (by omega)]; first | assumption | exact hset_s _ _ _))))) rfl ?_
      refine j_bipush (v := 100) d_An_add_68 (by decide) ?_
      refine j_icmp_ge (tgt := 92) d_An_add_70 (by decide) (fun c3 => ?_) (fun c3 => ?_)
      · have hge : ¬ s.2.2.2.2.2.2.1 < 100 := fun q => absurd c3 (nI_ge (b := 100) q (by omega))
        rw [kps_id _ s hge]
        exact j_vret d_An_add_92 rfl ⟨rfl, rfl, rfl⟩
      · have hlt : s.2.2.2.2.2.2.1 < 100 := Nat.not_le.mp (fun q => c3 (nI_le (a := 100) q (by omega)))
        refine j_iload_n d_An_add_73 rfl ?_
        refine j_iload_n d_An_add_74 rfl ?_
        refine j_ishr d_An_add_75 ?_
        refine j_iconst (v := 1) d_An_add_76 (by decide) ?_
        refine j_iand d_An_add_77 ?_
        rw [List.range'_succ, List.foldl_cons]
        refine j_if_eq (tgt := 86) d_An_add_78 (by decide) (fun c4 => ?_) (fun c4 => ?_)
        · refine j_iinc (v := nI (pt + 1)) d_An_add_86 rfl (nI_succ pt).symm (by decide) ?_
          refine j_goto (tgt := 58) d_An_add_89 (by decide) ?_
          rw [show kpS K ws pts s pt = s from if_neg (fun q => q.2 c4)]
          exact ih (pt + 1) s (by omega) hk
        · refine j_aload_n d_An_add_81 rfl ?_
          refine j_iload_n d_An_add_82 rfl ?_
          refine j_callV (As := [.int (nI pt)]) d_An_add_83 cb_An_130 vv_An_keep hw0 rfl rfl rfl rfl (Nat.le_of_ble_eq_true rfl) (by decide) (Nat.zero_le _) (Nat.zero_le _) (c_An_keep hb hp hpa hK hs hlt) (fun v' h' n' q _ => ?_)
          obtain ⟨rfl, rfl, rfl⟩ := q
          refine j_iinc (v := nI (pt + 1)) d_An_add_86 rfl (nI_succ pt).symm (by decide) ?_
          refine j_goto (tgt := 58) d_An_add_89 (by decide) ?_
          rw [show kpS K ws pts s pt = keepF K ws s pt from if_pos ⟨hlt, c4⟩]
          exact ih (pt + 1) _ (by omega) (by rw [keepF_k]; omega)
  have loop : ∀ (k kd : Nat) (f : Nat → Int32), kd + k = K → J E m_An_add 2 0 0 17 [(0, .ref a), (1, .int pts), (2, .int (bcF pts)), (3, .int (nI kd))] [] (hAn E h a p od K (ko, kp, f, ho, ne, cnt + bcF pts, kept, fnd) ws) n (Rt none (hAn E h a p od K ((List.range' 0 8).foldl (kpS K ws pts) (ko, kp, (List.range' kd k).foldl (fun f kd => upd f (24 * kd + wOrd ws kd) (f (24 * kd + wOrd ws kd) + bcF pts)) f, ho, ne, cnt + bcF pts, kept, fnd)) ws) n) := by
    intro k
    induction k with
    | zero =>
      intro kd f hkd
      have hkd : kd = K := by omega
      subst hkd
      have hw0 := hAn_0 (E := E) (h := h) (a := a) (p := p) (od := od) (K := kd) (s := (ko, kp, f, ho, ne, cnt + bcF pts, kept, fnd)) (ws := ws)
      have hwp : hAn E h a p od kd (ko, kp, f, ho, ne, cnt + bcF pts, kept, fnd) ws p = some (oPz (nI N) (nI kd) (nI M) od cp (nI cc)) := (hAn_x (Or.inl hpa)).trans hp
      refine j_iload_n d_An_add_17 rfl ?_
      refine j_aload_n d_An_add_18 rfl ?_
      refine j_get d_An_add_19 fl_An_28 (by first | assumption | exact hset_s _ _ _ | (rw [hset_n _ _ (by omega)]; first | assumption | exact hset_s _ _ _ | (rw [hset_n _ _ (by omega)]; first | assumption | exact hset_s _ _ _ | (rw [hset_n _ _ (by omega)]; first | assumption | exact hset_s _ _ _ | (rw [hset_n _ _ (by omega)]; first | assumption | exact hset_s _ _ _))))) rfl ?_
      refine j_pV (As := []) d_An_add_22 cb_An_124 vv_Pz_kinds hwp rfl rfl rfl rfl (Nat.le_of_ble_eq_true rfl) (by decide) (c_Pz_kinds hwp rfl) ?_
      refine j_icmp_ge (tgt := 56) d_An_add_25 (by decide) (fun c2 => ?_) (fun c2 => absurd (nI_le (Nat.le_refl _) (by omega)) c2)
      refine j_iconst (v := 0) d_An_add_56 (by decide) ?_
      refine j_istore_n d_An_add_57 (by decide) ?_
      exact loop2 8 0 _ (by omega) hk
    | succ k ih =>
      intro kd f hkd
      have hw0 := hAn_0 (E := E) (h := h) (a := a) (p := p) (od := od) (K := K) (s := (ko, kp, f, ho, ne, cnt + bcF pts, kept, fnd)) (ws := ws)
      have hw3 := hAn_3 (E := E) (h := h) (a := a) (p := p) (od := od) (K := K) (s := (ko, kp, f, ho, ne, cnt + bcF pts, kept, fnd)) (ws := ws)
      have hw6 := hAn_6 (E := E) (h := h) (a := a) (p := p) (od := od) (K := K) (s := (ko, kp, f, ho, ne, cnt + bcF pts, kept, fnd)) (ws := ws)
      have hwp : hAn E h a p od K (ko, kp, f, ho, ne, cnt + bcF pts, kept, fnd) ws p = some (oPz (nI N) (nI K) (nI M) od cp (nI cc)) := (hAn_x (Or.inl hpa)).trans hp
      have hord : wOrd ws kd < 24 := hs.1 _
      have hin : vp_in (24 * nI kd + nI (wOrd ws kd)) 72 := by rw [n24]; exact vp_in_nI (by omega) (by omega)
      have e1 : (24 * nI kd + nI (wOrd ws kd)).toNatClampNeg = 24 * kd + wOrd ws kd := by rw [n24, nI_clamp (by omega)]
      refine j_iload_n d_An_add_17 rfl ?_
      refine j_aload_n d_An_add_18 rfl ?_
      refine j_get d_An_add_19 fl_An_28 (by first | assumption | exact hset_s _ _ _ | (rw [hset_n _ _ (by omega)]; first | assumption | exact hset_s _ _ _ | (rw [hset_n _ _ (by omega)]; first | assumption | exact hset_s _ _ _ | (rw [hset_n _ _ (by omega)]; first | assumption | exact hset_s _ _ _ | (rw [hset_n _ _ (by omega)]; first | assumption | exact hset_s _ _ _))))) rfl ?_
      refine j_pV (As := []) d_An_add_22 cb_An_124 vv_Pz_kinds hwp rfl rfl rfl rfl (Nat.le_of_ble_eq_true rfl) (by decide) (c_Pz_kinds hwp rfl) ?_
      refine j_icmp_ge (tgt := 56) d_An_add_25 (by decide) (fun c2 => absurd c2 (nI_ge (by omega) (by omega))) (fun c2 => ?_)
      refine j_aload_n d_An_add_28 rfl ?_
      refine j_get d_An_add_29 fl_An_18 (by first | assumption | exact hset_s _ _ _ | (rw [hset_n _ _ (by omega)]; first | assumption | exact hset_s _ _ _ | (rw [hset_n _ _ (by omega)]; first | assumption | exact hset_s _ _ _ | (rw [hset_n _ _ (by omega)]; first | assumption | exact hset_s _ _ _ | (rw [hset_n _ _ (by omega)]; first | assumption | exact hset_s _ _ _))))) rfl ?_
      refine j_bipush (v := 24) d_An_add_32 (by decide) ?_
      refine j_iload_n d_An_add_34 rfl ?_
      refine j_imul d_An_add_35 ?_
      refine j_aload_n d_An_add_36 rfl ?_
      refine j_get d_An_add_37 fl_An_37 (by first | assumption | exact hset_s _ _ _ | (rw [hset_n _ _ (by omega)]; first | assumption | exact hset_s _ _ _ | (rw [hset_n _ _ (by omega)]; first | assumption | exact hset_s _ _ _ | (rw [hset_n _ _ (by omega)]; first | assumption | exact hset_s _ _ _ | (rw [hset_n _ _ (by omega)]; first | assumption | exact hset_s _ _ _))))) rfl ?_
      refine j_iload_n d_An_add_40 rfl ?_
      refine j_pV (As := [.int _]) d_An_add_41 cb_An_127 vv_Wk_order hw6 rfl rfl rfl rfl (Nat.le_of_ble_eq_true rfl) (by decide) (c_Wk_orderW hs (by omega)) ?_
      refine j_iadd d_An_add_44 ?_
      refine j_dup2 d_An_add_45 rfl rfl ?_
      refine j_iald (t := 0) d_An_add_46 rfl (by first | assumption | exact hset_s _ _ _ | (rw [hset_n _ _ (by omega)]; first | assumption | exact hset_s _ _ _ | (rw [hset_n _ _ (by omega)]; first | assumption | exact hset_s _ _ _ | (rw [hset_n _ _ (by omega)]; first | assumption | exact hset_s _ _ _ | (rw [hset_n _ _ (by omega)]; first | assumption | exact hset_s _ _ _))))) (by assumption) rfl ?_
      refine j_iload_n d_An_add_47 rfl ?_
      refine j_iadd d_An_add_48 ?_
      refine j_iast (t := 0) d_An_add_49 rfl hw3 (by omega) hin ?_
      refine j_iinc (v := nI (kd + 1)) d_An_add_50 rfl (nI_succ kd).symm (by decide) ?_
      refine j_goto (tgt := 17) d_An_add_53 (by decide) ?_
      rw [List.range'_succ, List.foldl_cons]
      refine J.conv (L := _) rfl ?_ (ih (kd + 1) _ (by omega))
      rw [e1, hAn_s3]
  exact loop K 0 co (by omega)
/-- the parties that so many persons can be, and the parties in which each is truthful -/
def partsF : Nat → Int32 := fun j => match j with
  | 0 => 1
  | 1 => 17
  | 2 => 85
  | 3 => 255
  | _ => 0
def truthF : Nat → Int32 := fun j => match j with
  | 0 => 240
  | 1 => 204
  | 2 => 170
  | _ => 0
theorem CK_hAn (hck : ∀ q, a ≤ q → q ≤ a + 10 → ∀ ci fs, clN ci → h q ≠ some (.inr (ci, fs))) : CK h (hAn E h a p od K s ws) := by
  intro q ci fs hc hq
  by_cases hr : a ≤ q ∧ q ≤ a + 10
  · exact absurd hq (hck q hr.1 hr.2 ci fs hc)
  · rw [hAn_x (by omega)]; exact hq
/-- the puzzle's own facts that the answers use -/
def PzF (E : EV) (h : HP) (a p od K N M cc D : Nat) (φ : Nat → (Nat → Int32) → Int32) : Prop := ∃ (cp : Nat) (f : Nat → Option Nat), h p = some (oPz (nI N) (nI K) (nI M) od cp (nI cc)) ∧ p < a ∧ h cp = some (arQ E 3 20 f) ∧ cp < a ∧ (∀ c, c < cc → ∃ y, f c = some y ∧ CR D h y (φ c)) ∧ h (E.2.2.2.2 1) = some (arI E 0 4 partsF) ∧ E.2.2.2.2 1 < a ∧ cc ≤ 20 ∧ K ≤ 3 ∧ M ≤ 3 ∧ (∀ q, a ≤ q → q ≤ a + 10 → ∀ ci fs, clN ci → h q ≠ some (.inr (ci, fs))) ∧ E.2.2.2.1 ≤ a
theorem c_An_weigh {N M cc D : Nat} {φ : Nat → (Nat → Int32) → Int32} (F : PzF E h a p od K N M cc D φ) (hs : WB ws) (hk : s.2.2.2.2.2.2.1 ≤ 100) :
    Ct E m_An_weigh (D + 3) 0 0 [.ref a] (hAn E h a p od K s ws) n (Rt none (hAn E h a p od K (anWeigh cc K (partsF M) φ ws s) ws) n) := by
  obtain ⟨cp, f, hp, hpa, hcp, hcpa, hcl, hst, hsta, hcc, hK, hM, hck, hb⟩ := F
  refine Ct.go rfl rfl rfl ?_
  obtain ⟨ko, kp, co, ho, ne, cnt, kept, fnd⟩ := s
  dsimp only at hk
  have hw0 := hAn_0 (E := E) (h := h) (a := a) (p := p) (od := od) (K := K) (s := (ko, kp, co, ho, ne, cnt, kept, fnd)) (ws := ws)
  have hwp : hAn E h a p od K (ko, kp, co, ho, ne, cnt, kept, fnd) ws p = some (oPz (nI N) (nI K) (nI M) od cp (nI cc)) := (hAn_x (Or.inl hpa)).trans hp
  refine j_aload_n d_An_weigh_0 rfl ?_
  refine j_get d_An_weigh_1 fl_An_28 (by first | assumption | exact hset_s _ _ _ | (rw [hset_n _ _ (by omega)]; first | assumption | exact hset_s _ _ _ | (rw [hset_n _ _ (by omega)]; first | assumption | exact hset_s _ _ _ | (rw [hset_n _ _ (by omega)]; first | assumption | exact hset_s _ _ _ | (rw [hset_n _ _ (by omega)]; first | assumption | exact hset_s _ _ _))))) rfl ?_
  refine j_pV (As := []) d_An_weigh_4 cb_An_92 vv_Pz_parties hwp rfl rfl rfl rfl (Nat.le_of_ble_eq_true rfl) (show 0 + 1 ≤ D + 3 by omega) (c_Pz_parties hwp ((hAn_x (Or.inl hsta)).trans hst) (vp_in_nI (by omega) (by omega))) ?_
  rw [nI_clamp (by omega)]
  refine j_istore_n d_An_weigh_7 (by decide) ?_
  refine j_iconst (v := 0) d_An_weigh_8 (by decide) ?_
  refine j_istore_n d_An_weigh_9 (by decide) ?_
  refine j_iconst (v := 0) d_An_weigh_10 (by decide) ?_
  refine j_istore_n d_An_weigh_11 (by decide) ?_
  have fin : ∀ (x : (Nat → Int32) × Int32 × Int32) (x3 : Int32) (x4 : List (Nat × Value)), J E m_An_weigh (D + 3) 0 0 82 ([(0, .ref a), (1, .int x.2.1), (2, .int x.2.2), (3, .int x3)] ++ x4) [] (hAn E h a p od K (ko, kp, co, x.1, ne, cnt, kept, fnd) ws) n (Rt none (hAn E h a p od K (anEnd cc K ws (ko, kp, co, ho, ne, cnt, kept, fnd) x) ws) n) := by
    rintro ⟨ho1, no, on⟩ x3 x4
    have hw0 := hAn_0 (E := E) (h := h) (a := a) (p := p) (od := od) (K := K) (s := (ko, kp, co, ho1, ne, cnt, kept, fnd)) (ws := ws)
    have fin2 : ∀ (s : AS), J E m_An_weigh (D + 3) 0 0 91 ([(0, .ref a), (1, .int no), (2, .int on), (3, .int x3)] ++ x4) [] (hAn E h a p od K s ws) n (Rt none (hAn E h a p od K (if on = 0 then s else anNeed cc s on) ws) n) := by
      intro s
      have hw0 := hAn_0 (E := E) (h := h) (a := a) (p := p) (od := od) (K := K) (s := s) (ws := ws)
      refine j_iload_n d_An_weigh_91 rfl ?_
      refine j_if_eq (tgt := 100) d_An_weigh_92 (by decide) (fun c4 => ?_) (fun c4 => ?_)
      · exact j_vret d_An_weigh_100 rfl ⟨rfl, by rw [if_pos c4], rfl⟩
      · refine j_aload_n d_An_weigh_95 rfl ?_
        refine j_iload_n d_An_weigh_96 rfl ?_
        refine j_callV (As := [.int on]) d_An_weigh_97 cb_An_115 vv_An_need hw0 rfl rfl rfl rfl (Nat.le_of_ble_eq_true rfl) (show 1 + 1 ≤ D + 3 by omega) (Nat.zero_le _) (Nat.zero_le _) (c_An_need hb hp hpa hcc) (fun v' h' n' q _ => ?_)
        obtain ⟨rfl, rfl, rfl⟩ := q
        exact j_vret d_An_weigh_100 rfl ⟨rfl, by rw [if_neg c4], rfl⟩
    refine j_iload_n d_An_weigh_82 rfl ?_
    refine j_if_eq (tgt := 91) d_An_weigh_83 (by decide) (fun c4 => ?_) (fun c4 => ?_)
    · have e : anEnd cc K ws (ko, kp, co, ho, ne, cnt, kept, fnd) (ho1, no, on) = if on = 0 then (ko, kp, co, ho1, ne, cnt, kept, fnd) else anNeed cc (ko, kp, co, ho1, ne, cnt, kept, fnd) on := by
        unfold anEnd; dsimp only; rw [if_pos c4]
      rw [e]
      exact fin2 _
    · have e : anEnd cc K ws (ko, kp, co, ho, ne, cnt, kept, fnd) (ho1, no, on) = if on = 0 then anAdd K ws (ko, kp, co, ho1, ne, cnt, kept, fnd) no else anNeed cc (anAdd K ws (ko, kp, co, ho1, ne, cnt, kept, fnd) no) on := by
        unfold anEnd; dsimp only; rw [if_neg c4]
      rw [e]
      refine j_aload_n d_An_weigh_86 rfl ?_
      refine j_iload_n d_An_weigh_87 rfl ?_
      refine j_callV (As := [.int no]) d_An_weigh_88 cb_An_111 vv_An_add hw0 rfl rfl rfl rfl (Nat.le_of_ble_eq_true rfl) (show 2 + 1 ≤ D + 3 by omega) (Nat.zero_le _) (Nat.zero_le _) (c_An_add hb hp hpa hK hs hk) (fun v' h' n' q _ => ?_)
      obtain ⟨rfl, rfl, rfl⟩ := q
      exact fin2 _
  have loop : ∀ (k c : Nat) (x : (Nat → Int32) × Int32 × Int32) (x4 : List (Nat × Value)), c + k = cc → (x4 = [] ∨ ∃ v, x4 = [(4, .int v)]) → J E m_An_weigh (D + 3) 0 0 12 ([(0, .ref a), (1, .int x.2.1), (2, .int x.2.2), (3, .int (nI c))] ++ x4) [] (hAn E h a p od K (ko, kp, co, x.1, ne, cnt, kept, fnd) ws) n (Rt none (hAn E h a p od K (anEnd cc K ws (ko, kp, co, ho, ne, cnt, kept, fnd) ((List.range' c k).foldl (wlS φ (nA ws.2.2.2)) x)) ws) n) := by
    intro k
    induction k with
    | zero =>
      intro c x x4 hc hx4
      have hc : c = cc := by omega
      subst hc
      have hw0 := hAn_0 (E := E) (h := h) (a := a) (p := p) (od := od) (K := K) (s := (ko, kp, co, x.1, ne, cnt, kept, fnd)) (ws := ws)
      have hwp : hAn E h a p od K (ko, kp, co, x.1, ne, cnt, kept, fnd) ws p = some (oPz (nI N) (nI K) (nI M) od cp (nI c)) := (hAn_x (Or.inl hpa)).trans hp
      refine j_iload_n d_An_weigh_12 rfl ?_
      refine j_aload_n d_An_weigh_13 rfl ?_
      refine j_get d_An_weigh_14 fl_An_28 (by first | assumption | exact hset_s _ _ _ | (rw [hset_n _ _ (by omega)]; first | assumption | exact hset_s _ _ _ | (rw [hset_n _ _ (by omega)]; first | assumption | exact hset_s _ _ _ | (rw [hset_n _ _ (by omega)]; first | assumption | exact hset_s _ _ _ | (rw [hset_n _ _ (by omega)]; first | assumption | exact hset_s _ _ _))))) rfl ?_
      refine j_pV (As := []) d_An_weigh_17 cb_An_95 vv_Pz_clueCount hwp rfl rfl rfl rfl (Nat.le_of_ble_eq_true rfl) (show 0 + 1 ≤ D + 3 by omega) (c_Pz_clueCount hwp rfl) ?_
      refine j_icmp_ge (tgt := 82) d_An_weigh_20 (by decide) (fun c2 => ?_) (fun c2 => absurd (nI_le (Nat.le_refl _) (by omega)) c2)
      exact fin x _ x4
    | succ k ih =>
      intro c x x4 hc hx4
      have hw0 := hAn_0 (E := E) (h := h) (a := a) (p := p) (od := od) (K := K) (s := (ko, kp, co, x.1, ne, cnt, kept, fnd)) (ws := ws)
      have hw4 := hAn_4 (E := E) (h := h) (a := a) (p := p) (od := od) (K := K) (s := (ko, kp, co, x.1, ne, cnt, kept, fnd)) (ws := ws)
      have hw6 := hAn_6 (E := E) (h := h) (a := a) (p := p) (od := od) (K := K) (s := (ko, kp, co, x.1, ne, cnt, kept, fnd)) (ws := ws)
      have hw10 := hAn_10 (E := E) (h := h) (a := a) (p := p) (od := od) (K := K) (s := (ko, kp, co, x.1, ne, cnt, kept, fnd)) (ws := ws)
      have hwp : hAn E h a p od K (ko, kp, co, x.1, ne, cnt, kept, fnd) ws p = some (oPz (nI N) (nI K) (nI M) od cp (nI cc)) := (hAn_x (Or.inl hpa)).trans hp
      have hwc : hAn E h a p od K (ko, kp, co, x.1, ne, cnt, kept, fnd) ws cp = some (arQ E 3 20 f) := (hAn_x (Or.inl hcpa)).trans hcp
      have hin : vp_in (nI c) 20 := vp_in_nI (by omega) (by omega)
      obtain ⟨y, hy, hcr⟩ := hcl c (by omega)
      refine j_iload_n d_An_weigh_12 rfl ?_
      refine j_aload_n d_An_weigh_13 rfl ?_
      refine j_get d_An_weigh_14 fl_An_28 (by first | assumption | exact hset_s _ _ _ | (rw [hset_n _ _ (by omega)]; first | assumption | exact hset_s _ _ _ | (rw [hset_n _ _ (by omega)]; first | assumption | exact hset_s _ _ _ | (rw [hset_n _ _ (by omega)]; first | assumption | exact hset_s _ _ _ | (rw [hset_n _ _ (by omega)]; first | assumption | exact hset_s _ _ _))))) rfl ?_
      refine j_pV (As := []) d_An_weigh_17 cb_An_95 vv_Pz_clueCount hwp rfl rfl rfl rfl (Nat.le_of_ble_eq_true rfl) (show 0 + 1 ≤ D + 3 by omega) (c_Pz_clueCount hwp rfl) ?_
      refine j_icmp_ge (tgt := 82) d_An_weigh_20 (by decide) (fun c2 => absurd c2 (nI_ge (by omega) (by omega))) (fun c2 => ?_)
      refine j_iload_n d_An_weigh_23 rfl ?_
      refine j_iload_n d_An_weigh_24 rfl ?_
      refine j_ior d_An_weigh_25 ?_
      refine j_if_eq (tgt := 82) d_An_weigh_26 (by decide) (fun c3 => ?_) (fun c3 => ?_)
      · rw [wls_id _ x c3]
        exact fin x _ x4
      · refine j_aload_n d_An_weigh_29 rfl ?_
        refine j_get d_An_weigh_30 fl_An_28 (by first | assumption | exact hset_s _ _ _ | (rw [hset_n _ _ (by omega)]; first | assumption | exact hset_s _ _ _ | (rw [hset_n _ _ (by omega)]; first | assumption | exact hset_s _ _ _ | (rw [hset_n _ _ (by omega)]; first | assumption | exact hset_s _ _ _ | (rw [hset_n _ _ (by omega)]; first | assumption | exact hset_s _ _ _))))) rfl ?_
        refine j_iload_n d_An_weigh_33 rfl ?_
        refine j_pV (As := [.int _]) d_An_weigh_34 cb_An_98 vv_Pz_clue hwp rfl rfl rfl rfl (Nat.le_of_ble_eq_true rfl) (show 0 + 1 ≤ D + 3 by omega) (c_Pz_clue hwp hwc hin (by rw [nI_clamp (by omega)]; exact hy)) ?_
        refine j_aload_n d_An_weigh_37 rfl ?_
        refine j_get d_An_weigh_38 fl_An_37 (by first | assumption | exact hset_s _ _ _ | (rw [hset_n _ _ (by omega)]; first | assumption | exact hset_s _ _ _ | (rw [hset_n _ _ (by omega)]; first | assumption | exact hset_s _ _ _ | (rw [hset_n _ _ (by omega)]; first | assumption | exact hset_s _ _ _ | (rw [hset_n _ _ (by omega)]; first | assumption | exact hset_s _ _ _))))) rfl ?_
        refine j_pV (As := []) d_An_weigh_41 cb_An_102 vv_Wk_thing hw6 rfl rfl rfl rfl (Nat.le_of_ble_eq_true rfl) (show 0 + 1 ≤ D + 3 by omega) (c_Wk_thing hw6 rfl) ?_
        refine j_holds (D := D) d_An_weigh_44 fk_An_106 (c_holds hw10 D y (φ c) (CR.kept (CK_hAn hck) hcr)) (Nat.le_of_ble_eq_true rfl) (by omega) ?_
        rcases hx4 with rfl | ⟨v4, rfl⟩
        all_goals
          refine j_istore d_An_weigh_49 (by decide) ?_
          refine j_aload_n d_An_weigh_51 rfl ?_
          refine j_get d_An_weigh_52 fl_An_21 (by first | assumption | exact hset_s _ _ _ | (rw [hset_n _ _ (by omega)]; first | assumption | exact hset_s _ _ _ | (rw [hset_n _ _ (by omega)]; first | assumption | exact hset_s _ _ _ | (rw [hset_n _ _ (by omega)]; first | assumption | exact hset_s _ _ _ | (rw [hset_n _ _ (by omega)]; first | assumption | exact hset_s _ _ _))))) rfl ?_
          refine j_iload_n d_An_weigh_55 rfl ?_
          refine j_iload d_An_weigh_56 rfl ?_
          refine j_iast (t := 0) d_An_weigh_58 rfl hw4 (by omega) hin ?_
          refine J.conv (L := _) rfl (show _ = hAn E h a p od K (ko, kp, co, upd x.1 c (φ c (nA ws.2.2.2)), ne, cnt, kept, fnd) ws by rw [nI_clamp (n := c) (by omega), hAn_s4]) ?_
          refine j_iload_n d_An_weigh_59 rfl ?_
          refine j_iload d_An_weigh_60 rfl ?_
          refine j_iand d_An_weigh_62 ?_
          refine j_iload_n d_An_weigh_63 rfl ?_
          refine j_iload d_An_weigh_64 rfl ?_
          refine j_iconst (v := (-1)) d_An_weigh_66 (by decide) ?_
          refine j_ixor d_An_weigh_67 ?_
          refine j_iand d_An_weigh_68 ?_
          refine j_ior d_An_weigh_69 ?_
          refine j_istore_n d_An_weigh_70 (by decide) ?_
          refine j_iload_n d_An_weigh_71 rfl ?_
          refine j_iload d_An_weigh_72 rfl ?_
          refine j_iand d_An_weigh_74 ?_
          refine j_istore_n d_An_weigh_75 (by decide) ?_
          refine j_iinc (v := nI (c + 1)) d_An_weigh_76 rfl (nI_succ c).symm (by decide) ?_
          refine j_goto (tgt := 12) d_An_weigh_79 (by decide) ?_
          rw [List.range'_succ, List.foldl_cons]
          have e1 : wlS φ (nA ws.2.2.2) x c = (upd x.1 c (φ c (nA ws.2.2.2)), x.2.1 &&& φ c (nA ws.2.2.2), (x.2.2 &&& φ c (nA ws.2.2.2)) ||| (x.2.1 &&& (φ c (nA ws.2.2.2) ^^^ (-1)))) := if_neg c3
          rw [e1]
          exact ih (c + 1) (upd x.1 c (φ c (nA ws.2.2.2)), x.2.1 &&& φ c (nA ws.2.2.2), (x.2.2 &&& φ c (nA ws.2.2.2)) ||| (x.2.1 &&& (φ c (nA ws.2.2.2) ^^^ (-1)))) [(4, .int (φ c (nA ws.2.2.2)))] (by omega) (Or.inr ⟨_, rfl⟩)
  exact loop cc 0 (ho, partsF M, 0) [] (by omega) (Or.inl rfl)
end ANS
end
section
section FND
variable {E : EV} {h : HP} {n a p od K : Nat} {s : AS} {ws : WS}
theorem hAn_out {q : Nat} {e : va_E} (hq : a + 10 < q) : hset (hAn E h a p od K s ws) q e = hAn E (hset h q e) a p od K s ws := by
  unfold hAn hW hB
  rw [hset_comm _ _ _ (show a + 6 + 4 ≠ q by omega), hset_comm _ _ _ (show a + 6 + 3 ≠ q by omega), hset_comm _ _ _ (show a + 6 + 2 ≠ q by omega), hset_comm _ _ _ (show a + 6 + 1 ≠ q by omega), hset_comm _ _ _ (show a + 6 ≠ q by omega), hset_comm _ _ _ (show a + 5 ≠ q by omega), hset_comm _ _ _ (show a + 4 ≠ q by omega), hset_comm _ _ _ (show a + 3 ≠ q by omega), hset_comm _ _ _ (show a + 2 ≠ q by omega), hset_comm _ _ _ (show a + 1 ≠ q by omega), hset_comm _ _ _ (show a ≠ q by omega)]
/-- a new cell elsewhere changes nothing of the puzzle -/
theorem PzF.push {N M cc D q : Nat} {φ : Nat → (Nat → Int32) → Int32} {e : va_E} (F : PzF E h a p od K N M cc D φ) (hq : a + 10 < q) (hn : h q = none) : PzF E (hset h q e) a p od K N M cc D φ := by
  obtain ⟨cp, f, hp, hpa, hcp, hcpa, hcl, hst, hsta, hcc, hK, hM, hck, hb⟩ := F
  have hk : CK h (hset h q e) := CK.set (fun ci fs _ => by rw [hn]; exact fun z => by cases z)
  refine ⟨cp, f, by rw [hset_n _ _ (by omega)]; exact hp, hpa, by rw [hset_n _ _ (by omega)]; exact hcp, hcpa, fun c hc => ?_, by rw [hset_n _ _ (by omega)]; exact hst, hsta, hcc, hK, hM, fun q' h1 h2 => by rw [hset_n _ _ (by omega)]; exact hck q' h1 h2, hb⟩
  obtain ⟨y, h1, h2⟩ := hcl c hc
  exact ⟨y, h1, h2.kept hk⟩
def anLoop (cc K N : Nat) (vf : Nat → Nat) (pM : Int32) (φ : Nat → (Nat → Int32) → Int32) : Nat → AS × WS → AS × WS
  | 0, x => x
  | k + 1, x => anLoop cc K N vf pM φ k (anWeigh cc K pM φ x.2 x.1, nxF vf N K x.2)
theorem anAdd_le {pts : Int32} (h : s.2.2.2.2.2.2.1 ≤ 100) : (anAdd K ws s pts).2.2.2.2.2.2.1 ≤ 100 := by
  unfold anAdd
  exact kps_le _ _ h
theorem anNeed_k {cc : Nat} {pts : Int32} (s : AS) : (anNeed cc s pts).2.2.2.2.2.2.1 = s.2.2.2.2.2.2.1 := rfl
theorem anWeigh_le {cc : Nat} {pM : Int32} {φ : Nat → (Nat → Int32) → Int32} (h : s.2.2.2.2.2.2.1 ≤ 100) : (anWeigh cc K pM φ ws s).2.2.2.2.2.2.1 ≤ 100 := by
  unfold anWeigh anEnd
  generalize (List.range' 0 cc).foldl (wlS φ (nA ws.2.2.2)) (s.2.2.2.1, pM, 0) = x
  by_cases h1 : x.2.2 = 0 <;> by_cases h2 : x.2.1 = 0
  · rw [if_pos h1, if_pos h2]; exact h
  · rw [if_pos h1, if_neg h2]; exact anAdd_le (s := (s.1, s.2.1, s.2.2.1, x.1, s.2.2.2.2)) h
  · rw [if_neg h1, if_pos h2, anNeed_k]; exact h
  · rw [if_neg h1, if_neg h2, anNeed_k]; exact anAdd_le (s := (s.1, s.2.1, s.2.2.1, x.1, s.2.2.2.2)) h
theorem chF_B {tkf my : Nat → Int32} {cnt : Nat} (hc : cnt ≤ 24) : ∀ (k kd : Nat) (x : (Nat → Nat) × (Nat → Nat) × Nat), (∀ j, x.1 j < 24) → (∀ j, x.2.1 j ≤ 24) →
    (∀ j, ((List.range' kd k).foldl (chS tkf cnt my) x).1 j < 24) ∧ (∀ j, ((List.range' kd k).foldl (chS tkf cnt my) x).2.1 j ≤ 24) ∧ ((List.range' kd k).foldl (chS tkf cnt my) x).2.2 ≤ x.2.2 * 24 ^ k
  | 0, _, x, h1, h2 => ⟨h1, h2, by simp⟩
  | k + 1, kd, x, h1, h2 => by
    have hb := coF_B tkf (my kd) kd cnt 0 (x.1, 0) (by omega) (Nat.le_refl _) h1
    have hb1 : (coF tkf cnt (my kd) kd x.1).2 ≤ 24 := by have := hb.1; unfold coF; omega
    rw [List.range'_succ, List.foldl_cons]
    have := chF_B (tkf := tkf) (my := my) hc k (kd + 1) (chS tkf cnt my x kd) hb.2 (fun j => by
      show upN _ _ _ j ≤ 24
      unfold upN; split
      · exact hb1
      · exact h2 j)
    refine ⟨this.1, this.2.1, Nat.le_trans this.2.2 ?_⟩
    show x.2.2 * (coF tkf cnt (my kd) kd x.1).2 * 24 ^ k ≤ _
    rw [Nat.pow_succ, Nat.mul_assoc, Nat.mul_comm (24 ^ k) 24, ← Nat.mul_assoc, ← Nat.mul_assoc]
    exact Nat.mul_le_mul_right _ (Nat.mul_le_mul_left _ hb1)
/-- what find finds -/
def anFind (cc K N cnt : Nat) (tkf : Nat → Int32) (al : Int32) (vf : Nat → Nat) (pM : Int32) (φ : Nat → (Nat → Int32) → Int32) (s : AS) (ws : WS) : AS × WS :=
  let ch := chF tkf cnt K (fillF (fun _ => 0) 3 al) ws.1 ws.2.1
  anLoop cc K N vf pM φ ch.2.2 ((s.1, s.2.1, s.2.2.1, s.2.2.2.1, s.2.2.2.2.1, s.2.2.2.2.2.1, s.2.2.2.2.2.2.1, 1), stF vf N K (ch.1, ch.2.1, ws.2.2))
/-- the orders' own facts -/
def OdF (E : EV) (h : HP) (a od N tk vl cnt : Nat) (al : Int32) (tkf : Nat → Int32) (vf : Nat → Nat) : Prop := h od = some (oOd (nI N) tk vl (nI cnt) al) ∧ h tk = some (arI E 0 24 tkf) ∧ h vl = some (arI E 0 96 (nA vf)) ∧ od < a ∧ tk < a ∧ vl < a ∧ cnt ≤ 24 ∧ N ≤ 4 ∧ ∀ j, vf j < 4
theorem OdF.push {N tk vl cnt q : Nat} {al : Int32} {tkf : Nat → Int32} {vf : Nat → Nat} {e : va_E} (F : OdF E h a od N tk vl cnt al tkf vf) (hq : a ≤ q) : OdF E (hset h q e) a od N tk vl cnt al tkf vf := by
  obtain ⟨h1, h2, h3, h4, h5, h6, h7⟩ := F
  exact ⟨by rw [hset_n _ _ (by omega)]; exact h1, by rw [hset_n _ _ (by omega)]; exact h2, by rw [hset_n _ _ (by omega)]; exact h3, h4, h5, h6, h7⟩
theorem c_An_find {N M cc D tk vl cnt : Nat} {al : Int32} {tkf : Nat → Int32} {vf : Nat → Nat} {φ : Nat → (Nat → Int32) → Int32} (F : PzF E h a p od K N M cc D φ) (O : OdF E h a od N tk vl cnt al tkf vf) (hs : WB ws) (hk : s.2.2.2.2.2.2.1 ≤ 100) (hf : s.2.2.2.2.2.2.2 = 0) :
    Ct E m_An_find (D + 4) 1 3 [.ref a] (hAn E h a p od K s ws) n (Rt none (hAn E (hset h n (arI E 0 3 (fillF (fun _ => 0) 3 al))) a p od K (anFind cc K N cnt tkf al vf (partsF M) φ s ws).1 (anFind cc K N cnt tkf al vf (partsF M) φ s ws).2) (n + 1)) := by
  refine Ct.go rfl rfl rfl ?_
  refine J.dm (fun hdm => ?_)
  have hna : a + 10 < n := hdm _ _ (hAn_10 (E := E) (h := h) (a := a) (p := p) (od := od) (K := K) (s := s) (ws := ws))
  have hn0 : h n = none := by
    cases hx : h n with
    | none => rfl
    | some e => exact absurd (hdm n e (by rw [hAn_x (by omega)]; exact hx)) (Nat.lt_irrefl _)
  have F2 : ∀ e, PzF E (hset h n e) a p od K N M cc D φ := fun e => F.push hna hn0
  have O2 : ∀ e, OdF E (hset h n e) a od N tk vl cnt al tkf vf := fun e => O.push (by omega)
  obtain ⟨cp, f, hp, hpa, hcp, hcpa, hcl, hst, hsta, hcc, hK, hM, hck, hb⟩ := F
  obtain ⟨o1, o2, o3, o4, o5, o6, o7, o8, o9⟩ := O
  obtain ⟨ko, kp, co, ho, ne, cn, kept, fnd⟩ := s
  dsimp only at hk hf
  subst hf
  have hw0 := hAn_0 (E := E) (h := h) (a := a) (p := p) (od := od) (K := K) (s := (ko, kp, co, ho, ne, cn, kept, 0)) (ws := ws)
  refine j_aload_n d_An_find_0 rfl ?_
  refine j_get d_An_find_1 fl_An_66 (by first | assumption | exact hset_s _ _ _ | (rw [hset_n _ _ (by omega)]; first | assumption | exact hset_s _ _ _ | (rw [hset_n _ _ (by omega)]; first | assumption | exact hset_s _ _ _ | (rw [hset_n _ _ (by omega)]; first | assumption | exact hset_s _ _ _ | (rw [hset_n _ _ (by omega)]; first | assumption | exact hset_s _ _ _))))) rfl ?_
  refine j_if_eq (tgt := 8) d_An_find_4 (by decide) (fun c2 => ?_) (fun c2 => absurd rfl c2)
  refine j_aload_n d_An_find_8 rfl ?_
  refine j_iconst (v := 1) d_An_find_9 (by decide) ?_
  refine j_put d_An_find_10 fl_An_66 fp_An (Or.inl rfl) hw0 hb rfl rfl (Nat.le_of_ble_eq_true rfl) ?_
  refine J.conv (L := _) rfl (show _ = hAn E h a p od K (ko, kp, co, ho, ne, cn, kept, 1) ws from hAn_s0) ?_
  refine j_iconst (v := 3) d_An_find_13 (by decide) ?_
  refine j_newa (t := 0) (N := 3) d_An_find_14 rfl aw_int rfl (by decide) (by decide) (by decide) (by decide) (by decide) ?_
  refine J.conv (L := _) rfl (hAn_out hna) ?_
  have wp : ∀ e, hAn E (hset h n e) a p od K (ko, kp, co, ho, ne, cn, kept, 1) ws p = some (oPz (nI N) (nI K) (nI M) od cp (nI cc)) := fun e => by rw [hAn_x (Or.inl hpa), hset_n _ _ (by omega)]; exact hp
  have wo : ∀ e, hAn E (hset h n e) a p od K (ko, kp, co, ho, ne, cn, kept, 1) ws od = some (oOd (nI N) tk vl (nI cnt) al) := fun e => by rw [hAn_x (Or.inl o4), hset_n _ _ (by omega)]; exact o1
  have wn : ∀ e, hAn E (hset h n e) a p od K (ko, kp, co, ho, ne, cn, kept, 1) ws n = some e := fun e => by rw [hAn_x (Or.inr hna), hset_s]
  have w0 : ∀ e, hAn E (hset h n e) a p od K (ko, kp, co, ho, ne, cn, kept, 1) ws a = _ := fun e => hAn_0
  refine j_astore_n d_An_find_16 (by decide) ?_
  refine j_aload_n d_An_find_17 rfl ?_
  refine j_aload_n d_An_find_18 rfl ?_
  refine j_get d_An_find_19 fl_An_28 (w0 _) rfl ?_
  refine j_pV (As := []) d_An_find_22 cb_An_48 vv_Pz_orders (wp _) rfl rfl rfl rfl (Nat.le_of_ble_eq_true rfl) (show 0 + 1 ≤ D + 4 by omega) (c_Pz_orders (wp _) rfl) ?_
  refine j_pV (As := []) d_An_find_25 cb_An_70 vv_Od_allTicks (wo _) rfl rfl rfl rfl (Nat.le_of_ble_eq_true rfl) (show 0 + 1 ≤ D + 4 by omega) (c_Od_allTicks (wo _) rfl) ?_
  refine j_callS (As := [.ref n, .int al]) d_An_find_28 cb_An_73 sv_Ar_fill rfl rfl (Nat.le_of_ble_eq_true rfl) (show 0 + 1 ≤ D + 4 by omega) (Nat.zero_le _) (Nat.zero_le _) (c_Ar_fill (N := 3) (by omega) (by omega) (wn _)) (fun v' h' n' q _ => ?_)
  obtain ⟨rfl, rfl, rfl⟩ := q
  refine J.conv (L := _) rfl (show _ = hAn E (hset h n (arI E 0 3 (fillF (fun _ => 0) 3 al))) a p od K (ko, kp, co, ho, ne, cn, kept, 1) ws by rw [hAn_out hna, hset_hset]) ?_
  generalize hg : hset h n (arI E 0 3 (fillF (fun _ => 0) 3 al)) = g
  have Fg : PzF E g a p od K N M cc D φ := by rw [← hg]; exact F2 _
  have gn : g n = some (arI E 0 3 (fillF (fun _ => 0) 3 al)) := by rw [← hg, hset_s]
  have Og : OdF E g a od N tk vl cnt al tkf vf := by rw [← hg]; exact O2 _
  obtain ⟨g1, g2, g3, -⟩ := Og
  have hv0 := hAn_0 (E := E) (h := g) (a := a) (p := p) (od := od) (K := K) (s := (ko, kp, co, ho, ne, cn, kept, 1)) (ws := ws)
  have hv6 := hAn_6 (E := E) (h := g) (a := a) (p := p) (od := od) (K := K) (s := (ko, kp, co, ho, ne, cn, kept, 1)) (ws := ws)
  refine j_aload_n d_An_find_31 rfl ?_
  refine j_get d_An_find_32 fl_An_37 (by first | assumption | exact hset_s _ _ _ | (rw [hset_n _ _ (by omega)]; first | assumption | exact hset_s _ _ _ | (rw [hset_n _ _ (by omega)]; first | assumption | exact hset_s _ _ _ | (rw [hset_n _ _ (by omega)]; first | assumption | exact hset_s _ _ _ | (rw [hset_n _ _ (by omega)]; first | assumption | exact hset_s _ _ _))))) rfl ?_
  refine j_aload_n d_An_find_35 rfl ?_
  have hBx : ∀ (s : AS) q, q < a ∨ a + 5 < q → hB E g a p s q = g q := fun s q hq => hB_x hq
  refine j_callV (As := [.ref n]) d_An_find_36 cb_An_79 vv_Wk_choose hv6 rfl rfl rfl rfl (Nat.le_of_ble_eq_true rfl) (show 2 + 1 ≤ D + 4 by omega) (Nat.zero_le _) (Nat.zero_le _) (c_Wk_choose (h := hB E g a p (ko, kp, co, ho, ne, cn, kept, 1)) (w := a + 6) (by omega) (by rw [hBx _ _ (by omega)]; exact g1) (by rw [hBx _ _ (by omega)]; exact g2) (by rw [hBx _ _ (by omega)]; exact gn) (by omega) (by omega) (by omega) o7 hK hs.1) (fun v' h' n' q _ => ?_)
  obtain ⟨rfl, rfl, rfl⟩ := q
  generalize hch : chF tkf cnt K (fillF (fun _ => 0) 3 al) ws.1 ws.2.1 = ch
  have hchB := chF_B (tkf := tkf) (my := fillF (fun _ => 0) 3 al) o7 K 0 (ws.1, ws.2.1, 1) hs.1 hs.2.1
  rw [show (List.range' 0 K).foldl (chS tkf cnt (fillF (fun _ => 0) 3 al)) (ws.1, ws.2.1, 1) = ch from hch] at hchB
  have hlay : ch.2.2 < 2 ^ 31 := by
    have h1 := hchB.2.2
    have h2 : 24 ^ K ≤ 24 ^ 3 := Nat.pow_le_pow_right (by omega) hK
    have h3 : (24 : Nat) ^ 3 = 13824 := by decide
    simp only [Nat.one_mul] at h1
    omega
  have hs1 : WB (ch.1, ch.2.1, ws.2.2) := ⟨hchB.1, hchB.2.1, hs.2.2⟩
  have hu0 := hAn_0 (E := E) (h := g) (a := a) (p := p) (od := od) (K := K) (s := (ko, kp, co, ho, ne, cn, kept, 1)) (ws := (ch.1, ch.2.1, ws.2.2))
  have hu6 := hAn_6 (E := E) (h := g) (a := a) (p := p) (od := od) (K := K) (s := (ko, kp, co, ho, ne, cn, kept, 1)) (ws := (ch.1, ch.2.1, ws.2.2))
  show J E m_An_find (D + 4) 0 0 39 _ _ (hAn E g a p od K (ko, kp, co, ho, ne, cn, kept, 1) (ch.1, ch.2.1, ws.2.2)) _ _
  refine j_istore_n d_An_find_39 (by decide) ?_
  refine j_aload_n d_An_find_40 rfl ?_
  refine j_get d_An_find_41 fl_An_37 (by first | assumption | exact hset_s _ _ _ | (rw [hset_n _ _ (by omega)]; first | assumption | exact hset_s _ _ _ | (rw [hset_n _ _ (by omega)]; first | assumption | exact hset_s _ _ _ | (rw [hset_n _ _ (by omega)]; first | assumption | exact hset_s _ _ _ | (rw [hset_n _ _ (by omega)]; first | assumption | exact hset_s _ _ _))))) rfl ?_
  refine j_callV (As := []) d_An_find_44 cb_An_83 vv_Wk_start hu6 rfl rfl rfl rfl (Nat.le_of_ble_eq_true rfl) (show 2 + 1 ≤ D + 4 by omega) (Nat.zero_le _) (Nat.zero_le _) (c_Wk_start (h := hB E g a p (ko, kp, co, ho, ne, cn, kept, 1)) (w := a + 6) (by omega) (by rw [hBx _ _ (by omega)]; exact g1) (by rw [hBx _ _ (by omega)]; exact g3) (by omega) (by omega) hK o8 hs1 o9) (fun v' h' n' q _ => ?_)
  obtain ⟨rfl, rfl, rfl⟩ := q
  show J E m_An_find (D + 4) 0 0 47 _ _ (hAn E g a p od K (ko, kp, co, ho, ne, cn, kept, 1) (stF vf N K (ch.1, ch.2.1, ws.2.2))) _ _
  refine j_iconst (v := 0) d_An_find_47 (by decide) ?_
  refine j_istore_n d_An_find_48 (by decide) ?_
  have hfin : anFind cc K N cnt tkf al vf (partsF M) φ (ko, kp, co, ho, ne, cn, kept, 0) ws = anLoop cc K N vf (partsF M) φ ch.2.2 ((ko, kp, co, ho, ne, cn, kept, 1), stF vf N K (ch.1, ch.2.1, ws.2.2)) := by
    unfold anFind
    rw [hch]
  rw [hfin]
  have loop : ∀ (k i : Nat) (x : AS × WS), i + k = ch.2.2 → x.1.2.2.2.2.2.2.1 ≤ 100 → WB x.2 → J E m_An_find (D + 4) 0 0 49 [(0, .ref a), (1, .ref n), (2, .int (nI ch.2.2)), (3, .int (nI i))] [] (hAn E g a p od K x.1 x.2) (n + 1) (Rt none (hAn E g a p od K (anLoop cc K N vf (partsF M) φ k x).1 (anLoop cc K N vf (partsF M) φ k x).2) (n + 1)) := by
    intro k
    induction k with
    | zero =>
      intro i x hi h1 h2
      have hi : i = ch.2.2 := by omega
      subst hi
      refine j_iload_n d_An_find_49 rfl ?_
      refine j_iload_n d_An_find_50 rfl ?_
      refine j_icmp_ge (tgt := 71) d_An_find_51 (by decide) (fun c2 => ?_) (fun c2 => absurd (nI_le (Nat.le_refl _) hlay) c2)
      exact j_vret d_An_find_71 rfl ⟨rfl, rfl, rfl⟩
    | succ k ih =>
      intro i x hi h1 h2
      have hx0 := hAn_0 (E := E) (h := g) (a := a) (p := p) (od := od) (K := K) (s := x.1) (ws := x.2)
      refine j_iload_n d_An_find_49 rfl ?_
      refine j_iload_n d_An_find_50 rfl ?_
      refine j_icmp_ge (tgt := 71) d_An_find_51 (by decide) (fun c2 => absurd c2 (nI_ge (by omega) hlay)) (fun c2 => ?_)
      refine j_aload_n d_An_find_54 rfl ?_
      refine j_callV (As := []) d_An_find_55 cb_An_86 vv_An_weigh hx0 rfl rfl rfl rfl (Nat.le_of_ble_eq_true rfl) (show D + 3 + 1 ≤ D + 4 by omega) (Nat.zero_le _) (Nat.zero_le _) (c_An_weigh Fg h2 h1) (fun v' h' n' q _ => ?_)
      obtain ⟨rfl, rfl, rfl⟩ := q
      have hy0 := hAn_0 (E := E) (h := g) (a := a) (p := p) (od := od) (K := K) (s := anWeigh cc K (partsF M) φ x.2 x.1) (ws := x.2)
      have hy6 := hAn_6 (E := E) (h := g) (a := a) (p := p) (od := od) (K := K) (s := anWeigh cc K (partsF M) φ x.2 x.1) (ws := x.2)
      refine j_aload_n d_An_find_58 rfl ?_
      refine j_get d_An_find_59 fl_An_37 (by first | assumption | exact hset_s _ _ _ | (rw [hset_n _ _ (by omega)]; first | assumption | exact hset_s _ _ _ | (rw [hset_n _ _ (by omega)]; first | assumption | exact hset_s _ _ _ | (rw [hset_n _ _ (by omega)]; first | assumption | exact hset_s _ _ _ | (rw [hset_n _ _ (by omega)]; first | assumption | exact hset_s _ _ _))))) rfl ?_
      refine j_callV (As := []) d_An_find_62 cb_An_89 vv_Wk_next hy6 rfl rfl rfl rfl (Nat.le_of_ble_eq_true rfl) (show 2 + 1 ≤ D + 4 by omega) (Nat.zero_le _) (Nat.zero_le _) (c_Wk_next (h := hB E g a p (anWeigh cc K (partsF M) φ x.2 x.1)) (w := a + 6) (by omega) (by rw [hBx _ _ (by omega)]; exact g1) (by rw [hBx _ _ (by omega)]; exact g3) (by omega) (by omega) hK o8 h2 o9) (fun v' h' n' q _ => ?_)
      obtain ⟨rfl, rfl, rfl⟩ := q
      refine j_iinc (v := nI (i + 1)) d_An_find_65 rfl (nI_succ i).symm (by decide) ?_
      refine j_goto (tgt := 49) d_An_find_68 (by decide) ?_
      exact ih (i + 1) (anWeigh cc K (partsF M) φ x.2 x.1, nxF vf N K x.2) (by omega) (anWeigh_le h1) (nxF_WB K _ h2)
  exact loop ch.2.2 0 ((ko, kp, co, ho, ne, cn, kept, 1), stF vf N K (ch.1, ch.2.1, ws.2.2)) (by omega) hk (stF_WB _ _ hs1)
/-- found already -/
theorem c_An_find2 {d : Nat} (hf : ¬ s.2.2.2.2.2.2.2 = 0) : Ct E m_An_find d 0 0 [.ref a] (hAn E h a p od K s ws) n (Rt none (hAn E h a p od K s ws) n) := by
  refine Ct.go rfl rfl rfl ?_
  have hw0 := hAn_0 (E := E) (h := h) (a := a) (p := p) (od := od) (K := K) (s := s) (ws := ws)
  refine j_aload_n d_An_find_0 rfl ?_
  refine j_get d_An_find_1 fl_An_66 (by first | assumption | exact hset_s _ _ _ | (rw [hset_n _ _ (by omega)]; first | assumption | exact hset_s _ _ _ | (rw [hset_n _ _ (by omega)]; first | assumption | exact hset_s _ _ _ | (rw [hset_n _ _ (by omega)]; first | assumption | exact hset_s _ _ _ | (rw [hset_n _ _ (by omega)]; first | assumption | exact hset_s _ _ _))))) rfl ?_
  refine j_if_eq (tgt := 8) d_An_find_4 (by decide) (fun c2 => absurd c2 hf) (fun c2 => ?_)
  exact j_vret d_An_find_7 rfl ⟨rfl, rfl, rfl⟩
end FND
end
section
section CRO
variable {E : EV} {h : HP} {n : Nat}
/-- Crossing: may, seen, mayBe, seenToBe, stepClue, stepCrossed, steps, finished -/
abbrev XS : Type := (Nat → Int32) × (Nat → Int32) × Int32 × Int32 × (Nat → Int32) × (Nat → Int32) × Nat × Int32
def hC (E : EV) (h : HP) (a p : Nat) (s : XS) : HP := hset (hset (hset (hset (hset h a (oCr p (a + 5) (a + 1) (a + 2) s.2.2.1 s.2.2.2.1 (a + 3) (a + 4) (nI s.2.2.2.2.2.2.1) s.2.2.2.2.2.2.2)) (a + 1) (arI E 0 3 s.1)) (a + 2) (arI E 0 3 s.2.1)) (a + 3) (arI E 0 54 s.2.2.2.2.1)) (a + 4) (arI E 0 54 s.2.2.2.2.2.1)
def hCr (E : EV) (h : HP) (a p od K : Nat) (s : XS) (ws : WS) : HP := hW E (hC E h a p s) (a + 5) od K ws
variable {a p od K : Nat} {s : XS} {ws : WS}
theorem hCr_0 : hCr E h a p od K s ws a = some (oCr p (a + 5) (a + 1) (a + 2) s.2.2.1 s.2.2.2.1 (a + 3) (a + 4) (nI s.2.2.2.2.2.2.1) s.2.2.2.2.2.2.2) := by unfold hCr; rw [hW_x (by omega)]; simp [hC, hset]
theorem hCr_1 : hCr E h a p od K s ws (a + 1) = some (arI E 0 3 s.1) := by unfold hCr; rw [hW_x (by omega)]; simp [hC, hset]
theorem hCr_2 : hCr E h a p od K s ws (a + 2) = some (arI E 0 3 s.2.1) := by unfold hCr; rw [hW_x (by omega)]; simp [hC, hset]
theorem hCr_3 : hCr E h a p od K s ws (a + 3) = some (arI E 0 54 s.2.2.2.2.1) := by unfold hCr; rw [hW_x (by omega)]; simp [hC, hset]
theorem hCr_4 : hCr E h a p od K s ws (a + 4) = some (arI E 0 54 s.2.2.2.2.2.1) := by unfold hCr; rw [hW_x (by omega)]; simp [hC, hset]
theorem hCr_5 : hCr E h a p od K s ws (a + 5) = some (oWk od (nI K) (a + 5 + 1) (a + 5 + 2) (a + 5 + 3) (a + 5 + 4)) := hW_0
theorem hCr_9 : hCr E h a p od K s ws (a + 5 + 4) = some (arI E 0 12 (nA ws.2.2.2)) := hW_4
theorem hC_x {q : Nat} (hq : q < a ∨ a + 4 < q) : hC E h a p s q = h q := by
  have h0 : q ≠ a := by omega
  have h1 : q ≠ a + 1 := by omega
  have h2 : q ≠ a + 2 := by omega
  have h3 : q ≠ a + 3 := by omega
  have h4 : q ≠ a + 4 := by omega
  simp [hC, hset, h0, h1, h2, h3, h4]
theorem hC_1 : hC E h a p s (a + 1) = some (arI E 0 3 s.1) := by simp [hC, hset]
theorem hCr_x {q : Nat} (hq : q < a ∨ a + 9 < q) : hCr E h a p od K s ws q = h q := by unfold hCr; rw [hW_x (by omega), hC_x (by omega)]
theorem hCr_s0 {mb sb fi : Int32} {k : Nat} : hset (hCr E h a p od K s ws) a (oCr p (a + 5) (a + 1) (a + 2) mb sb (a + 3) (a + 4) (nI k) fi) = hCr E h a p od K (s.1, s.2.1, mb, sb, s.2.2.2.2.1, s.2.2.2.2.2.1, k, fi) ws := by
  unfold hCr; rw [hW_out (by omega)]; congr 1; funext q; unfold hC hset
  by_cases h0 : q = a <;> simp [h0]
theorem hCr_s1 {f : Nat → Int32} : hset (hCr E h a p od K s ws) (a + 1) (arI E 0 3 f) = hCr E h a p od K (f, s.2) ws := by
  unfold hCr; rw [hW_out (by omega)]; congr 1; funext q; unfold hC hset
  by_cases h0 : q = a + 1 <;> simp [h0]
theorem hCr_s2 {f : Nat → Int32} : hset (hCr E h a p od K s ws) (a + 2) (arI E 0 3 f) = hCr E h a p od K (s.1, f, s.2.2) ws := by
  unfold hCr; rw [hW_out (by omega)]; congr 1; funext q; unfold hC hset
  by_cases h0 : q = a + 2 <;> simp [h0]
theorem hCr_s3 {f : Nat → Int32} : hset (hCr E h a p od K s ws) (a + 3) (arI E 0 54 f) = hCr E h a p od K (s.1, s.2.1, s.2.2.1, s.2.2.2.1, f, s.2.2.2.2.2) ws := by
  unfold hCr; rw [hW_out (by omega)]; congr 1; funext q; unfold hC hset
  by_cases h0 : q = a + 3 <;> simp [h0]
theorem hCr_s4 {f : Nat → Int32} : hset (hCr E h a p od K s ws) (a + 4) (arI E 0 54 f) = hCr E h a p od K (s.1, s.2.1, s.2.2.1, s.2.2.2.1, s.2.2.2.2.1, f, s.2.2.2.2.2.2) ws := by
  unfold hCr; rw [hW_out (by omega)]; congr 1; funext q; unfold hC hset
  by_cases h0 : q = a + 4 <;> simp [h0]
/-- which ways the persons have among these parties, two bits a person -/
def wiS (pts : Int32) (w : Int32) (q : Nat) : Int32 := w ||| (((if pts &&& (truthF q ^^^ (-1)) = 0 then 0 else 1) ||| (if pts &&& truthF q = 0 then 0 else 2)) <<< ((2 * nI q) &&& 31))
def wiF (M : Nat) (pts : Int32) : Int32 := (List.range' 0 M).foldl (wiS pts) 0
/-- the parties that are not crossed out -/
def opS (mb : Int32) (w : Int32) (q : Nat) : Int32 := w &&& ((if ((mb >>> ((2 * nI q) &&& 31)) &&& 3) &&& 1 = 0 then 0 else truthF q ^^^ (-1)) ||| (if ((mb >>> ((2 * nI q) &&& 31)) &&& 3) &&& 2 = 0 then 0 else truthF q))
def opF (M : Nat) (mb : Int32) : Int32 := (List.range' 0 M).foldl (opS mb) (partsF M)
theorem c_Cr_waysIn {x wk my sn sc sk cp N M c : Nat} {mb sb sp fi pts : Int32} (hx : h x = some (oCr p wk my sn mb sb sc sk sp fi)) (hp : h p = some (oPz (nI N) (nI K) (nI M) od cp (nI c))) (ht : h (E.2.2.2.2 0) = some (arI E 0 3 truthF)) (hM : M ≤ 3) : Ct E m_Cr_waysIn 1 0 0 [.ref x, .int pts] h n (Rt (some (.int (wiF M pts))) h n) := by
  refine Ct.go rfl rfl rfl ?_
  refine j_iconst (v := 0) d_Cr_waysIn_0 (by decide) ?_
  refine j_istore_n d_Cr_waysIn_1 (by decide) ?_
  refine j_iconst (v := 0) d_Cr_waysIn_2 (by decide) ?_
  refine j_istore_n d_Cr_waysIn_3 (by decide) ?_
  have loop : ∀ (k q : Nat) (w : Int32) (x4 : List (Nat × Value)), q + k = M → (x4 = [] ∨ ∃ u v, x4 = [(4, .int u), (5, .int v)]) → J E m_Cr_waysIn 1 0 0 4 ([(0, .ref x), (1, .int pts), (2, .int w), (3, .int (nI q))] ++ x4) [] h n (Rt (some (.int ((List.range' q k).foldl (wiS pts) w))) h n) := by
    intro k
    induction k with
    | zero =>
      intro q w x4 hq hx4
      have hq : q = M := by omega
      subst hq
      refine j_iload_n d_Cr_waysIn_4 rfl ?_
      refine j_aload_n d_Cr_waysIn_5 rfl ?_
      refine j_get d_Cr_waysIn_6 fl_Cr_24 (by first | assumption | exact hset_s _ _ _ | (rw [hset_n _ _ (by omega)]; first | assumption | exact hset_s _ _ _ | (rw [hset_n _ _ (by omega)]; first | assumption | exact hset_s _ _ _ | (rw [hset_n _ _ (by omega)]; first | assumption | exact hset_s _ _ _ | (rw [hset_n _ _ (by omega)]; first | assumption | exact hset_s _ _ _))))) rfl ?_
      refine j_pV (As := []) d_Cr_waysIn_9 cb_Cr_132 vv_Pz_persons hp rfl rfl rfl rfl (Nat.le_of_ble_eq_true rfl) (by decide) (c_Pz_persons hp rfl) ?_
      refine j_icmp_ge (tgt := 69) d_Cr_waysIn_12 (by decide) (fun c2 => ?_) (fun c2 => absurd (nI_le (Nat.le_refl _) (by omega)) c2)
      refine j_iload_n d_Cr_waysIn_69 rfl ?_
      exact j_iret d_Cr_waysIn_70 rfl ⟨rfl, rfl, rfl⟩
    | succ k ih =>
      intro q w x4 hq hx4
      have hin : vp_in (nI q) 3 := vp_in_nI (by omega) (by omega)
      refine j_iload_n d_Cr_waysIn_4 rfl ?_
      refine j_aload_n d_Cr_waysIn_5 rfl ?_
      refine j_get d_Cr_waysIn_6 fl_Cr_24 (by first | assumption | exact hset_s _ _ _ | (rw [hset_n _ _ (by omega)]; first | assumption | exact hset_s _ _ _ | (rw [hset_n _ _ (by omega)]; first | assumption | exact hset_s _ _ _ | (rw [hset_n _ _ (by omega)]; first | assumption | exact hset_s _ _ _ | (rw [hset_n _ _ (by omega)]; first | assumption | exact hset_s _ _ _))))) rfl ?_
      refine j_pV (As := []) d_Cr_waysIn_9 cb_Cr_132 vv_Pz_persons hp rfl rfl rfl rfl (Nat.le_of_ble_eq_true rfl) (by decide) (c_Pz_persons hp rfl) ?_
      refine j_icmp_ge (tgt := 69) d_Cr_waysIn_12 (by decide) (fun c2 => absurd c2 (nI_ge (by omega) (by omega))) (fun c2 => ?_)
      refine j_iload_n d_Cr_waysIn_15 rfl ?_
      refine j_getsN (C := "ClueLogic") (nm := "TRUTHFUL") (ds := "[I") (host := "ClueLogic") (v := .ref (E.2.2.2.2 0)) d_Cr_waysIn_16 (by simp [stats]) (by decide +kernel) ?_
      refine j_iload_n d_Cr_waysIn_19 rfl ?_
      refine j_iald (t := 0) d_Cr_waysIn_20 rfl (by first | assumption | exact hset_s _ _ _ | (rw [hset_n _ _ (by omega)]; first | assumption | exact hset_s _ _ _ | (rw [hset_n _ _ (by omega)]; first | assumption | exact hset_s _ _ _ | (rw [hset_n _ _ (by omega)]; first | assumption | exact hset_s _ _ _ | (rw [hset_n _ _ (by omega)]; first | assumption | exact hset_s _ _ _))))) (by assumption) rfl ?_
      refine j_iconst (v := (-1)) d_Cr_waysIn_21 (by decide) ?_
      refine j_ixor d_Cr_waysIn_22 ?_
      refine j_iand d_Cr_waysIn_23 ?_
      rw [nI_clamp (by omega)]
      rw [List.range'_succ, List.foldl_cons]
      have k32 : ∀ u, u = (if pts &&& (truthF q ^^^ (-1)) = 0 then 0 else 1) → J E m_Cr_waysIn 1 0 0 32 ([(0, .ref x), (1, .int pts), (2, .int w), (3, .int (nI q))] ++ x4) [.int u] h n (Rt (some (.int ((List.range' (q + 1) k).foldl (wiS pts) (wiS pts w q)))) h n) := by
        intro u hu
        have k49 : ∀ v, v = (if pts &&& truthF q = 0 then 0 else 2) → ∀ x5, (x5 = [(4, .int u)] ∨ ∃ v, x5 = [(4, .int u), (5, .int v)]) → J E m_Cr_waysIn 1 0 0 49 ([(0, .ref x), (1, .int pts), (2, .int w), (3, .int (nI q))] ++ x5) [.int v] h n (Rt (some (.int ((List.range' (q + 1) k).foldl (wiS pts) (wiS pts w q)))) h n) := by
          intro v hv x5 hx5
          rcases hx5 with rfl | ⟨v5, rfl⟩
          all_goals
            refine j_istore d_Cr_waysIn_49 (by decide) ?_
            refine j_iload_n d_Cr_waysIn_51 rfl ?_
            refine j_iload d_Cr_waysIn_52 rfl ?_
            refine j_iload d_Cr_waysIn_54 rfl ?_
            refine j_ior d_Cr_waysIn_56 ?_
            refine j_iconst (v := 2) d_Cr_waysIn_57 (by decide) ?_
            refine j_iload_n d_Cr_waysIn_58 rfl ?_
            refine j_imul d_Cr_waysIn_59 ?_
            refine j_ishl d_Cr_waysIn_60 ?_
            refine j_ior d_Cr_waysIn_61 ?_
            refine j_istore_n d_Cr_waysIn_62 (by decide) ?_
            refine j_iinc (v := nI (q + 1)) d_Cr_waysIn_63 rfl (nI_succ q).symm (by decide) ?_
            refine j_goto (tgt := 4) d_Cr_waysIn_66 (by decide) ?_
            have e1 : wiS pts w q = w ||| ((u ||| v) <<< ((2 * nI q) &&& 31)) := by rw [hu, hv]; rfl
            rw [e1]
            exact ih (q + 1) _ [(4, .int u), (5, .int v)] (by omega) (Or.inr ⟨_, _, rfl⟩)
        rcases hx4 with rfl | ⟨u4, v5, rfl⟩
        · refine j_istore d_Cr_waysIn_32 (by decide) ?_
          refine j_iload_n d_Cr_waysIn_34 rfl ?_
          refine j_getsN (C := "ClueLogic") (nm := "TRUTHFUL") (ds := "[I") (host := "ClueLogic") (v := .ref (E.2.2.2.2 0)) d_Cr_waysIn_35 (by simp [stats]) (by decide +kernel) ?_
          refine j_iload_n d_Cr_waysIn_38 rfl ?_
          refine j_iald (t := 0) d_Cr_waysIn_39 rfl (by first | assumption | exact hset_s _ _ _ | (rw [hset_n _ _ (by omega)]; first | assumption | exact hset_s _ _ _ | (rw [hset_n _ _ (by omega)]; first | assumption | exact hset_s _ _ _ | (rw [hset_n _ _ (by omega)]; first | assumption | exact hset_s _ _ _ | (rw [hset_n _ _ (by omega)]; first | assumption | exact hset_s _ _ _))))) (by assumption) rfl ?_
          refine j_iand d_Cr_waysIn_40 ?_
          rw [nI_clamp (by omega)]
          refine j_if_eq (tgt := 48) d_Cr_waysIn_41 (by decide) (fun c3 => ?_) (fun c3 => ?_)
          · refine j_iconst (v := 0) d_Cr_waysIn_48 (by decide) ?_
            exact k49 0 (by rw [if_pos c3]) _ (Or.inl rfl)
          · refine j_iconst (v := 2) d_Cr_waysIn_44 (by decide) ?_
            refine j_goto (tgt := 49) d_Cr_waysIn_45 (by decide) ?_
            exact k49 2 (by rw [if_neg c3]) _ (Or.inl rfl)
        · refine j_istore d_Cr_waysIn_32 (by decide) ?_
          refine j_iload_n d_Cr_waysIn_34 rfl ?_
          refine j_getsN (C := "ClueLogic") (nm := "TRUTHFUL") (ds := "[I") (host := "ClueLogic") (v := .ref (E.2.2.2.2 0)) d_Cr_waysIn_35 (by simp [stats]) (by decide +kernel) ?_
          refine j_iload_n d_Cr_waysIn_38 rfl ?_
          refine j_iald (t := 0) d_Cr_waysIn_39 rfl (by first | assumption | exact hset_s _ _ _ | (rw [hset_n _ _ (by omega)]; first | assumption | exact hset_s _ _ _ | (rw [hset_n _ _ (by omega)]; first | assumption | exact hset_s _ _ _ | (rw [hset_n _ _ (by omega)]; first | assumption | exact hset_s _ _ _ | (rw [hset_n _ _ (by omega)]; first | assumption | exact hset_s _ _ _))))) (by assumption) rfl ?_
          refine j_iand d_Cr_waysIn_40 ?_
          rw [nI_clamp (by omega)]
          refine j_if_eq (tgt := 48) d_Cr_waysIn_41 (by decide) (fun c3 => ?_) (fun c3 => ?_)
          · refine j_iconst (v := 0) d_Cr_waysIn_48 (by decide) ?_
            exact k49 0 (by rw [if_pos c3]) _ (Or.inr ⟨_, rfl⟩)
          · refine j_iconst (v := 2) d_Cr_waysIn_44 (by decide) ?_
            refine j_goto (tgt := 49) d_Cr_waysIn_45 (by decide) ?_
            exact k49 2 (by rw [if_neg c3]) _ (Or.inr ⟨_, rfl⟩)
      refine j_if_eq (tgt := 31) d_Cr_waysIn_24 (by decide) (fun c3 => ?_) (fun c3 => ?_)
      · refine j_iconst (v := 0) d_Cr_waysIn_31 (by decide) ?_
        exact k32 0 (by rw [if_pos c3])
      · refine j_iconst (v := 1) d_Cr_waysIn_27 (by decide) ?_
        refine j_goto (tgt := 32) d_Cr_waysIn_28 (by decide) ?_
        exact k32 1 (by rw [if_neg c3])
  exact loop M 0 0 [] (by omega) (Or.inl rfl)
theorem c_Cr_openParties {x wk my sn sc sk cp N M c : Nat} {mb sb sp fi : Int32} (hx : h x = some (oCr p wk my sn mb sb sc sk sp fi)) (hp : h p = some (oPz (nI N) (nI K) (nI M) od cp (nI c))) (ht : h (E.2.2.2.2 0) = some (arI E 0 3 truthF)) (hs : h (E.2.2.2.2 1) = some (arI E 0 4 partsF)) (hM : M ≤ 3) : Ct E m_Cr_openParties 1 0 0 [.ref x] h n (Rt (some (.int (opF M mb))) h n) := by
  refine Ct.go rfl rfl rfl ?_
  refine j_aload_n d_Cr_openParties_0 rfl ?_
  refine j_get d_Cr_openParties_1 fl_Cr_24 (by first | assumption | exact hset_s _ _ _ | (rw [hset_n _ _ (by omega)]; first | assumption | exact hset_s _ _ _ | (rw [hset_n _ _ (by omega)]; first | assumption | exact hset_s _ _ _ | (rw [hset_n _ _ (by omega)]; first | assumption | exact hset_s _ _ _ | (rw [hset_n _ _ (by omega)]; first | assumption | exact hset_s _ _ _))))) rfl ?_
  refine j_pV (As := []) d_Cr_openParties_4 cb_Cr_52 vv_Pz_parties hp rfl rfl rfl rfl (Nat.le_of_ble_eq_true rfl) (by decide) (c_Pz_parties hp hs (vp_in_nI (by omega) (by omega))) ?_
  rw [nI_clamp (by omega)]
  refine j_istore_n d_Cr_openParties_7 (by decide) ?_
  refine j_iconst (v := 0) d_Cr_openParties_8 (by decide) ?_
  refine j_istore_n d_Cr_openParties_9 (by decide) ?_
  have loop : ∀ (k q : Nat) (w : Int32) (x4 : List (Nat × Value)), q + k = M → (x4 = [] ∨ ∃ t u v, x4 = [(3, .int t), (4, .int u), (5, .int v)]) → J E m_Cr_openParties 1 0 0 10 ([(0, .ref x), (1, .int w), (2, .int (nI q))] ++ x4) [] h n (Rt (some (.int ((List.range' q k).foldl (opS mb) w))) h n) := by
    intro k
    induction k with
    | zero =>
      intro q w x4 hq hx4
      have hq : q = M := by omega
      subst hq
      refine j_iload_n d_Cr_openParties_10 rfl ?_
      refine j_aload_n d_Cr_openParties_11 rfl ?_
      refine j_get d_Cr_openParties_12 fl_Cr_24 (by first | assumption | exact hset_s _ _ _ | (rw [hset_n _ _ (by omega)]; first | assumption | exact hset_s _ _ _ | (rw [hset_n _ _ (by omega)]; first | assumption | exact hset_s _ _ _ | (rw [hset_n _ _ (by omega)]; first | assumption | exact hset_s _ _ _ | (rw [hset_n _ _ (by omega)]; first | assumption | exact hset_s _ _ _))))) rfl ?_
      refine j_pV (As := []) d_Cr_openParties_15 cb_Cr_132 vv_Pz_persons hp rfl rfl rfl rfl (Nat.le_of_ble_eq_true rfl) (by decide) (c_Pz_persons hp rfl) ?_
      refine j_icmp_ge (tgt := 77) d_Cr_openParties_18 (by decide) (fun c2 => ?_) (fun c2 => absurd (nI_le (Nat.le_refl _) (by omega)) c2)
      refine j_iload_n d_Cr_openParties_77 rfl ?_
      exact j_iret d_Cr_openParties_78 rfl ⟨rfl, rfl, rfl⟩
    | succ k ih =>
      intro q w x4 hq hx4
      have hin : vp_in (nI q) 3 := vp_in_nI (by omega) (by omega)
      refine j_iload_n d_Cr_openParties_10 rfl ?_
      refine j_aload_n d_Cr_openParties_11 rfl ?_
      refine j_get d_Cr_openParties_12 fl_Cr_24 (by first | assumption | exact hset_s _ _ _ | (rw [hset_n _ _ (by omega)]; first | assumption | exact hset_s _ _ _ | (rw [hset_n _ _ (by omega)]; first | assumption | exact hset_s _ _ _ | (rw [hset_n _ _ (by omega)]; first | assumption | exact hset_s _ _ _ | (rw [hset_n _ _ (by omega)]; first | assumption | exact hset_s _ _ _))))) rfl ?_
      refine j_pV (As := []) d_Cr_openParties_15 cb_Cr_132 vv_Pz_persons hp rfl rfl rfl rfl (Nat.le_of_ble_eq_true rfl) (by decide) (c_Pz_persons hp rfl) ?_
      refine j_icmp_ge (tgt := 77) d_Cr_openParties_18 (by decide) (fun c2 => absurd c2 (nI_ge (by omega) (by omega))) (fun c2 => ?_)
      refine j_aload_n d_Cr_openParties_21 rfl ?_
      refine j_iload_n d_Cr_openParties_22 rfl ?_
      refine j_pV (As := [.int _]) d_Cr_openParties_23 cb_Cr_135 vv_Cr_waysLeft hx rfl rfl rfl rfl (Nat.le_of_ble_eq_true rfl) (by decide) (c_Cr_waysLeft hx) ?_
      rw [List.range'_succ, List.foldl_cons]
      generalize hg : (mb >>> ((2 * nI q) &&& 31)) &&& 3 = g
      have e0 : opS mb w q = w &&& ((if g &&& 1 = 0 then 0 else truthF q ^^^ (-1)) ||| (if g &&& 2 = 0 then 0 else truthF q)) := by rw [← hg]; rfl
      rw [e0]
      have k61 : ∀ u v, u = (if g &&& 1 = 0 then 0 else truthF q ^^^ (-1)) → v = (if g &&& 2 = 0 then 0 else truthF q) → ∀ x5, (x5 = [] ∨ ∃ v, x5 = [(5, .int v)]) → J E m_Cr_openParties 1 0 0 61 ([(0, .ref x), (1, .int w), (2, .int (nI q)), (3, .int g), (4, .int u)] ++ x5) [.int v] h n (Rt (some (.int ((List.range' (q + 1) k).foldl (opS mb) (w &&& ((if g &&& 1 = 0 then 0 else truthF q ^^^ (-1)) ||| (if g &&& 2 = 0 then 0 else truthF q)))))) h n) := by
        intro u v hu hv x5 hx5
        rw [← hu, ← hv]
        rcases hx5 with rfl | ⟨v5, rfl⟩
        all_goals
          refine j_istore d_Cr_openParties_61 (by decide) ?_
          refine j_iload_n d_Cr_openParties_63 rfl ?_
          refine j_iload d_Cr_openParties_64 rfl ?_
          refine j_iload d_Cr_openParties_66 rfl ?_
          refine j_ior d_Cr_openParties_68 ?_
          refine j_iand d_Cr_openParties_69 ?_
          refine j_istore_n d_Cr_openParties_70 (by decide) ?_
          refine j_iinc (v := nI (q + 1)) d_Cr_openParties_71 rfl (nI_succ q).symm (by decide) ?_
          refine j_goto (tgt := 10) d_Cr_openParties_74 (by decide) ?_
          exact ih (q + 1) _ [(3, .int g), (4, .int u), (5, .int v)] (by omega) (Or.inr ⟨_, _, _, rfl⟩)
      have k44 : ∀ u, u = (if g &&& 1 = 0 then 0 else truthF q ^^^ (-1)) → ∀ x5, (x5 = [(3, .int g)] ∨ ∃ u v, x5 = [(3, .int g), (4, .int u), (5, .int v)]) → J E m_Cr_openParties 1 0 0 44 ([(0, .ref x), (1, .int w), (2, .int (nI q))] ++ x5) [.int u] h n (Rt (some (.int ((List.range' (q + 1) k).foldl (opS mb) (w &&& ((if g &&& 1 = 0 then 0 else truthF q ^^^ (-1)) ||| (if g &&& 2 = 0 then 0 else truthF q)))))) h n) := by
        intro u hu x5 hx5
        rcases hx5 with rfl | ⟨u4, v5, rfl⟩
        · refine j_istore d_Cr_openParties_44 (by decide) ?_
          refine j_iload_n d_Cr_openParties_46 rfl ?_
          refine j_iconst (v := 2) d_Cr_openParties_47 (by decide) ?_
          refine j_iand d_Cr_openParties_48 ?_
          refine j_if_eq (tgt := 60) d_Cr_openParties_49 (by decide) (fun c3 => ?_) (fun c3 => ?_)
          · refine j_iconst (v := 0) d_Cr_openParties_60 (by decide) ?_
            exact k61 u 0 hu (by rw [if_pos c3]) [] (Or.inl rfl)
          · refine j_getsN (C := "ClueLogic") (nm := "TRUTHFUL") (ds := "[I") (host := "ClueLogic") (v := .ref (E.2.2.2.2 0)) d_Cr_openParties_52 (by simp [stats]) (by decide +kernel) ?_
            refine j_iload_n d_Cr_openParties_55 rfl ?_
            refine j_iald (t := 0) d_Cr_openParties_56 rfl (by first | assumption | exact hset_s _ _ _ | (rw [hset_n _ _ (by omega)]; first | assumption | exact hset_s _ _ _ | (rw [hset_n _ _ (by omega)]; first | assumption | exact hset_s _ _ _ | (rw [hset_n _ _ (by omega)]; first | assumption | exact hset_s _ _ _ | (rw [hset_n _ _ (by omega)]; first | assumption | exact hset_s _ _ _))))) (by assumption) rfl ?_
            refine j_goto (tgt := 61) d_Cr_openParties_57 (by decide) ?_
            exact k61 u _ hu (by rw [if_neg c3, nI_clamp (by omega)]) [] (Or.inl rfl)
        · refine j_istore d_Cr_openParties_44 (by decide) ?_
          refine j_iload_n d_Cr_openParties_46 rfl ?_
          refine j_iconst (v := 2) d_Cr_openParties_47 (by decide) ?_
          refine j_iand d_Cr_openParties_48 ?_
          refine j_if_eq (tgt := 60) d_Cr_openParties_49 (by decide) (fun c3 => ?_) (fun c3 => ?_)
          · refine j_iconst (v := 0) d_Cr_openParties_60 (by decide) ?_
            exact k61 u 0 hu (by rw [if_pos c3]) [(5, .int v5)] (Or.inr ⟨_, rfl⟩)
          · refine j_getsN (C := "ClueLogic") (nm := "TRUTHFUL") (ds := "[I") (host := "ClueLogic") (v := .ref (E.2.2.2.2 0)) d_Cr_openParties_52 (by simp [stats]) (by decide +kernel) ?_
            refine j_iload_n d_Cr_openParties_55 rfl ?_
            refine j_iald (t := 0) d_Cr_openParties_56 rfl (by first | assumption | exact hset_s _ _ _ | (rw [hset_n _ _ (by omega)]; first | assumption | exact hset_s _ _ _ | (rw [hset_n _ _ (by omega)]; first | assumption | exact hset_s _ _ _ | (rw [hset_n _ _ (by omega)]; first | assumption | exact hset_s _ _ _ | (rw [hset_n _ _ (by omega)]; first | assumption | exact hset_s _ _ _))))) (by assumption) rfl ?_
            refine j_goto (tgt := 61) d_Cr_openParties_57 (by decide) ?_
            exact k61 u _ hu (by rw [if_neg c3, nI_clamp (by omega)]) [(5, .int v5)] (Or.inr ⟨_, rfl⟩)
      rcases hx4 with rfl | ⟨t, u4, v5, rfl⟩
      · refine j_istore_n d_Cr_openParties_26 (by decide) ?_
        refine j_iload_n d_Cr_openParties_27 rfl ?_
        refine j_iconst (v := 1) d_Cr_openParties_28 (by decide) ?_
        refine j_iand d_Cr_openParties_29 ?_
        refine j_if_eq (tgt := 43) d_Cr_openParties_30 (by decide) (fun c3 => ?_) (fun c3 => ?_)
        · refine j_iconst (v := 0) d_Cr_openParties_43 (by decide) ?_
          exact k44 0 (by rw [if_pos c3]) _ (Or.inl rfl)
        · refine j_getsN (C := "ClueLogic") (nm := "TRUTHFUL") (ds := "[I") (host := "ClueLogic") (v := .ref (E.2.2.2.2 0)) d_Cr_openParties_33 (by simp [stats]) (by decide +kernel) ?_
          refine j_iload_n d_Cr_openParties_36 rfl ?_
          refine j_iald (t := 0) d_Cr_openParties_37 rfl (by first | assumption | exact hset_s _ _ _ | (rw [hset_n _ _ (by omega)]; first | assumption | exact hset_s _ _ _ | (rw [hset_n _ _ (by omega)]; first | assumption | exact hset_s _ _ _ | (rw [hset_n _ _ (by omega)]; first | assumption | exact hset_s _ _ _ | (rw [hset_n _ _ (by omega)]; first | assumption | exact hset_s _ _ _))))) (by assumption) rfl ?_
          refine j_iconst (v := (-1)) d_Cr_openParties_38 (by decide) ?_
          refine j_ixor d_Cr_openParties_39 ?_
          refine j_goto (tgt := 44) d_Cr_openParties_40 (by decide) ?_
          exact k44 _ (by rw [if_neg c3, nI_clamp (by omega)]) _ (Or.inl rfl)
      · refine j_istore_n d_Cr_openParties_26 (by decide) ?_
        refine j_iload_n d_Cr_openParties_27 rfl ?_
        refine j_iconst (v := 1) d_Cr_openParties_28 (by decide) ?_
        refine j_iand d_Cr_openParties_29 ?_
        refine j_if_eq (tgt := 43) d_Cr_openParties_30 (by decide) (fun c3 => ?_) (fun c3 => ?_)
        · refine j_iconst (v := 0) d_Cr_openParties_43 (by decide) ?_
          exact k44 0 (by rw [if_pos c3]) _ (Or.inr ⟨_, _, rfl⟩)
        · refine j_getsN (C := "ClueLogic") (nm := "TRUTHFUL") (ds := "[I") (host := "ClueLogic") (v := .ref (E.2.2.2.2 0)) d_Cr_openParties_33 (by simp [stats]) (by decide +kernel) ?_
          refine j_iload_n d_Cr_openParties_36 rfl ?_
          refine j_iald (t := 0) d_Cr_openParties_37 rfl (by first | assumption | exact hset_s _ _ _ | (rw [hset_n _ _ (by omega)]; first | assumption | exact hset_s _ _ _ | (rw [hset_n _ _ (by omega)]; first | assumption | exact hset_s _ _ _ | (rw [hset_n _ _ (by omega)]; first | assumption | exact hset_s _ _ _ | (rw [hset_n _ _ (by omega)]; first | assumption | exact hset_s _ _ _))))) (by assumption) rfl ?_
          refine j_iconst (v := (-1)) d_Cr_openParties_38 (by decide) ?_
          refine j_ixor d_Cr_openParties_39 ?_
          refine j_goto (tgt := 44) d_Cr_openParties_40 (by decide) ?_
          exact k44 _ (by rw [if_neg c3, nI_clamp (by omega)]) _ (Or.inr ⟨_, _, rfl⟩)
  exact loop M 0 (partsF M) [] (by omega) (Or.inl rfl)
end CRO
end
section
section CR2
variable {E : EV} {h : HP} {n a p od K : Nat} {s : XS} {ws : WS}
def seeF (K : Nat) (tkf : Nat → Int32) (ws : WS) (sn : Nat → Int32) : Nat → Int32 := (List.range' 0 K).foldl (fun f kd => upd f kd (f kd ||| tkf (wOrd ws kd))) sn
def cuF (K : Nat) (s : XS) : Int32 := (List.range' 0 K).foldl (fun u kd => u + bcF (s.1 kd &&& (s.2.1 kd ^^^ (-1)))) (bcF (s.2.2.1 &&& (s.2.2.2.1 ^^^ (-1))))
def xoF (K : Nat) (s : XS) (c : Nat) (u : Int32) : XS := if s.2.2.2.2.2.2.1 < 54 then ((List.range' 0 K).foldl (fun f kd => upd f kd (s.2.1 kd)) s.1, s.2.1, s.2.2.2.1, s.2.2.2.1, upd s.2.2.2.2.1 s.2.2.2.2.2.2.1 (nI c), upd s.2.2.2.2.2.1 s.2.2.2.2.2.2.1 u, s.2.2.2.2.2.2.1 + 1, s.2.2.2.2.2.2.2) else ((List.range' 0 K).foldl (fun f kd => upd f kd (s.2.1 kd)) s.1, s.2.1, s.2.2.2.1, s.2.2.2.1, s.2.2.2.2)
/-- seen, seenParties, the walk -/
def lkL (K N : Nat) (vf : Nat → Nat) (tkf : Nat → Int32) (φ : (Nat → Int32) → Int32) (op : Int32) : Nat → (Nat → Int32) × Int32 × WS → (Nat → Int32) × Int32 × WS
  | 0, x => x
  | k + 1, x => lkL K N vf tkf φ op k (if φ (nA x.2.2.2.2.2) &&& op = 0 then x.1 else seeF K tkf x.2.2 x.1, if φ (nA x.2.2.2.2.2) &&& op = 0 then x.2.1 else x.2.1 ||| (φ (nA x.2.2.2.2.2) &&& op), nxF vf N K x.2.2)
def lkF (K N M : Nat) (vf : Nat → Nat) (tkf : Nat → Int32) (φ : (Nat → Int32) → Int32) (lay : Nat) (s : XS) (ws : WS) : XS × WS :=
  let x := lkL K N vf tkf φ (opF M s.2.2.1) lay (fillF s.2.1 3 0, 0, stF vf N K ws)
  ((s.1, x.1, s.2.2.1, wiF M x.2.1, s.2.2.2.2), x.2.2)
/-- the clues from c on: whether there was a step, and what came of it -/
def tsL (K N M : Nat) (vf : Nat → Nat) (tkf : Nat → Int32) (φ : Nat → (Nat → Int32) → Int32) (lay : Nat) : Nat → Nat → XS × WS → Int32 × XS × WS
  | 0, _, x => (0, x.1, x.2)
  | k + 1, c, x => if 0 < cuF K (lkF K N M vf tkf (φ c) lay x.1 x.2).1 then (1, xoF K (lkF K N M vf tkf (φ c) lay x.1 x.2).1 c (cuF K (lkF K N M vf tkf (φ c) lay x.1 x.2).1), (lkF K N M vf tkf (φ c) lay x.1 x.2).2) else tsL K N M vf tkf φ lay k (c + 1) (lkF K N M vf tkf (φ c) lay x.1 x.2)
def tsF (K N M cc cnt : Nat) (vf : Nat → Nat) (tkf : Nat → Int32) (φ : Nat → (Nat → Int32) → Int32) (s : XS) (ws : WS) : Int32 × XS × WS :=
  tsL K N M vf tkf φ (chF tkf cnt K s.1 ws.1 ws.2.1).2.2 cc 0 (s, ((chF tkf cnt K s.1 ws.1 ws.2.1).1, (chF tkf cnt K s.1 ws.1 ws.2.1).2.1, ws.2.2))
def fiL (K N M cc cnt : Nat) (vf : Nat → Nat) (tkf : Nat → Int32) (φ : Nat → (Nat → Int32) → Int32) : Nat → Int32 → XS × WS → XS × WS
  | 0, _, x => x
  | k + 1, m, x => if m = 0 then x else fiL K N M cc cnt vf tkf φ k (tsF K N M cc cnt vf tkf φ x.1 x.2).1 (tsF K N M cc cnt vf tkf φ x.1 x.2).2
theorem c_Cr_seeLayout {cp N M cc tk vl cnt : Nat} {al : Int32} {tkf : Nat → Int32} (hb : E.2.2.2.1 ≤ a) (hp : h p = some (oPz (nI N) (nI K) (nI M) od cp (nI cc))) (hpa : p < a) (ho : h od = some (oOd (nI N) tk vl (nI cnt) al)) (htk : h tk = some (arI E 0 24 tkf)) (hoa : od < a) (hta : tk < a) (hK : K ≤ 3) (hs : WB ws) :
    Ct E m_Cr_seeLayout 1 0 0 [.ref a] (hCr E h a p od K s ws) n (Rt none (hCr E h a p od K (s.1, seeF K tkf ws s.2.1, s.2.2) ws) n) := by
  refine Ct.go rfl rfl rfl ?_
  refine j_iconst (v := 0) d_Cr_seeLayout_0 (by decide) ?_
  refine j_istore_n d_Cr_seeLayout_1 (by decide) ?_
  have loop : ∀ (k kd : Nat) (f : Nat → Int32), kd + k = K → J E m_Cr_seeLayout 1 0 0 2 [(0, .ref a), (1, .int (nI kd))] [] (hCr E h a p od K (s.1, f, s.2.2) ws) n (Rt none (hCr E h a p od K (s.1, (List.range' kd k).foldl (fun f kd => upd f kd (f kd ||| tkf (wOrd ws kd))) f, s.2.2) ws) n) := by
    intro k
    induction k with
    | zero =>
      intro kd f hkd
      have hkd : kd = K := by omega
      subst hkd
      have hw0 := hCr_0 (E := E) (h := h) (a := a) (p := p) (od := od) (K := kd) (s := (s.1, f, s.2.2)) (ws := ws)
      have hwp : hCr E h a p od kd (s.1, f, s.2.2) ws p = some (oPz (nI N) (nI kd) (nI M) od cp (nI cc)) := (hCr_x (Or.inl hpa)).trans hp
      refine j_iload_n d_Cr_seeLayout_2 rfl ?_
      refine j_aload_n d_Cr_seeLayout_3 rfl ?_
      refine j_get d_Cr_seeLayout_4 fl_Cr_24 (by first | assumption | exact hset_s _ _ _ | (rw [hset_n _ _ (by omega)]; first | assumption | exact hset_s _ _ _ | (rw [hset_n _ _ (by omega)]; first | assumption | exact hset_s _ _ _ | (rw [hset_n _ _ (by omega)]; first | assumption | exact hset_s _ _ _ | (rw [hset_n _ _ (by omega)]; first | assumption | exact hset_s _ _ _))))) rfl ?_
      refine j_pV (As := []) d_Cr_seeLayout_7 cb_Cr_37 vv_Pz_kinds hwp rfl rfl rfl rfl (Nat.le_of_ble_eq_true rfl) (by decide) (c_Pz_kinds hwp rfl) ?_
      refine j_icmp_ge (tgt := 46) d_Cr_seeLayout_10 (by decide) (fun c2 => ?_) (fun c2 => absurd (nI_le (Nat.le_refl _) (by omega)) c2)
      exact j_vret d_Cr_seeLayout_46 rfl ⟨rfl, rfl, rfl⟩
    | succ k ih =>
      intro kd f hkd
      have hw0 := hCr_0 (E := E) (h := h) (a := a) (p := p) (od := od) (K := K) (s := (s.1, f, s.2.2)) (ws := ws)
      have hw2 := hCr_2 (E := E) (h := h) (a := a) (p := p) (od := od) (K := K) (s := (s.1, f, s.2.2)) (ws := ws)
      have hw5 := hCr_5 (E := E) (h := h) (a := a) (p := p) (od := od) (K := K) (s := (s.1, f, s.2.2)) (ws := ws)
      have hwp : hCr E h a p od K (s.1, f, s.2.2) ws p = some (oPz (nI N) (nI K) (nI M) od cp (nI cc)) := (hCr_x (Or.inl hpa)).trans hp
      have hwo : hCr E h a p od K (s.1, f, s.2.2) ws od = some (oOd (nI N) tk vl (nI cnt) al) := (hCr_x (Or.inl hoa)).trans ho
      have hwt : hCr E h a p od K (s.1, f, s.2.2) ws tk = some (arI E 0 24 tkf) := (hCr_x (Or.inl hta)).trans htk
      have hin : vp_in (nI kd) 3 := vp_in_nI (by omega) (by omega)
      have hord : wOrd ws kd < 24 := hs.1 _
      refine j_iload_n d_Cr_seeLayout_2 rfl ?_
      refine j_aload_n d_Cr_seeLayout_3 rfl ?_
      refine j_get d_Cr_seeLayout_4 fl_Cr_24 (by first | assumption | exact hset_s _ _ _ | (rw [hset_n _ _ (by omega)]; first | assumption | exact hset_s _ _ _ | (rw [hset_n _ _ (by omega)]; first | assumption | exact hset_s _ _ _ | (rw [hset_n _ _ (by omega)]; first | assumption | exact hset_s _ _ _ | (rw [hset_n _ _ (by omega)]; first | assumption | exact hset_s _ _ _))))) rfl ?_
      refine j_pV (As := []) d_Cr_seeLayout_7 cb_Cr_37 vv_Pz_kinds hwp rfl rfl rfl rfl (Nat.le_of_ble_eq_true rfl) (by decide) (c_Pz_kinds hwp rfl) ?_
      refine j_icmp_ge (tgt := 46) d_Cr_seeLayout_10 (by decide) (fun c2 => absurd c2 (nI_ge (by omega) (by omega))) (fun c2 => ?_)
      refine j_aload_n d_Cr_seeLayout_13 rfl ?_
      refine j_get d_Cr_seeLayout_14 fl_Cr_15 (by first | assumption | exact hset_s _ _ _ | (rw [hset_n _ _ (by omega)]; first | assumption | exact hset_s _ _ _ | (rw [hset_n _ _ (by omega)]; first | assumption | exact hset_s _ _ _ | (rw [hset_n _ _ (by omega)]; first | assumption | exact hset_s _ _ _ | (rw [hset_n _ _ (by omega)]; first | assumption | exact hset_s _ _ _))))) rfl ?_
      refine j_iload_n d_Cr_seeLayout_17 rfl ?_
      refine j_dup2 d_Cr_seeLayout_18 rfl rfl ?_
      refine j_iald (t := 0) d_Cr_seeLayout_19 rfl (by first | assumption | exact hset_s _ _ _ | (rw [hset_n _ _ (by omega)]; first | assumption | exact hset_s _ _ _ | (rw [hset_n _ _ (by omega)]; first | assumption | exact hset_s _ _ _ | (rw [hset_n _ _ (by omega)]; first | assumption | exact hset_s _ _ _ | (rw [hset_n _ _ (by omega)]; first | assumption | exact hset_s _ _ _))))) (by assumption) rfl ?_
      refine j_aload_n d_Cr_seeLayout_20 rfl ?_
      refine j_get d_Cr_seeLayout_21 fl_Cr_24 (by first | assumption | exact hset_s _ _ _ | (rw [hset_n _ _ (by omega)]; first | assumption | exact hset_s _ _ _ | (rw [hset_n _ _ (by omega)]; first | assumption | exact hset_s _ _ _ | (rw [hset_n _ _ (by omega)]; first | assumption | exact hset_s _ _ _ | (rw [hset_n _ _ (by omega)]; first | assumption | exact hset_s _ _ _))))) rfl ?_
      refine j_pV (As := []) d_Cr_seeLayout_24 cb_Cr_43 vv_Pz_orders hwp rfl rfl rfl rfl (Nat.le_of_ble_eq_true rfl) (by decide) (c_Pz_orders hwp rfl) ?_
      refine j_aload_n d_Cr_seeLayout_27 rfl ?_
      refine j_get d_Cr_seeLayout_28 fl_Cr_33 (by first | assumption | exact hset_s _ _ _ | (rw [hset_n _ _ (by omega)]; first | assumption | exact hset_s _ _ _ | (rw [hset_n _ _ (by omega)]; first | assumption | exact hset_s _ _ _ | (rw [hset_n _ _ (by omega)]; first | assumption | exact hset_s _ _ _ | (rw [hset_n _ _ (by omega)]; first | assumption | exact hset_s _ _ _))))) rfl ?_
      refine j_iload_n d_Cr_seeLayout_31 rfl ?_
      refine j_pV (As := [.int _]) d_Cr_seeLayout_32 cb_Cr_126 vv_Wk_order hw5 rfl rfl rfl rfl (Nat.le_of_ble_eq_true rfl) (by decide) (c_Wk_orderW hs (by omega)) ?_
      refine j_pV (As := [.int _]) d_Cr_seeLayout_35 cb_Cr_129 vv_Od_ticks hwo rfl rfl rfl rfl (Nat.le_of_ble_eq_true rfl) (by decide) (c_Od_ticks hwo hwt (vp_in_nI hord (by omega))) ?_
      refine j_ior d_Cr_seeLayout_38 ?_
      refine j_iast (t := 0) d_Cr_seeLayout_39 rfl hw2 (by omega) hin ?_
      refine j_iinc (v := nI (kd + 1)) d_Cr_seeLayout_40 rfl (nI_succ kd).symm (by decide) ?_
      refine j_goto (tgt := 2) d_Cr_seeLayout_43 (by decide) ?_
      rw [List.range'_succ, List.foldl_cons]
      refine J.conv (L := _) rfl ?_ (ih (kd + 1) _ (by omega))
      rw [nI_clamp (n := kd) (by omega), nI_clamp (n := wOrd ws kd) (by omega), hCr_s2]
  exact loop K 0 s.2.1 (by omega)
theorem c_Cr_countUnseen {cp N M cc : Nat} (hp : h p = some (oPz (nI N) (nI K) (nI M) od cp (nI cc))) (hpa : p < a) (hK : K ≤ 3) :
    Ct E m_Cr_countUnseen 1 0 0 [.ref a] (hCr E h a p od K s ws) n (Rt (some (.int (cuF K s))) (hCr E h a p od K s ws) n) := by
  refine Ct.go rfl rfl rfl ?_
  have hw0 := hCr_0 (E := E) (h := h) (a := a) (p := p) (od := od) (K := K) (s := s) (ws := ws)
  have hw1 := hCr_1 (E := E) (h := h) (a := a) (p := p) (od := od) (K := K) (s := s) (ws := ws)
  have hw2 := hCr_2 (E := E) (h := h) (a := a) (p := p) (od := od) (K := K) (s := s) (ws := ws)
  have hwp : hCr E h a p od K s ws p = some (oPz (nI N) (nI K) (nI M) od cp (nI cc)) := (hCr_x (Or.inl hpa)).trans hp
  refine j_aload_n d_Cr_countUnseen_0 rfl ?_
  refine j_get d_Cr_countUnseen_1 fl_Cr_59 (by first | assumption | exact hset_s _ _ _ | (rw [hset_n _ _ (by omega)]; first | assumption | exact hset_s _ _ _ | (rw [hset_n _ _ (by omega)]; first | assumption | exact hset_s _ _ _ | (rw [hset_n _ _ (by omega)]; first | assumption | exact hset_s _ _ _ | (rw [hset_n _ _ (by omega)]; first | assumption | exact hset_s _ _ _))))) rfl ?_
  refine j_aload_n d_Cr_countUnseen_4 rfl ?_
  refine j_get d_Cr_countUnseen_5 fl_Cr_123 (by first | assumption | exact hset_s _ _ _ | (rw [hset_n _ _ (by omega)]; first | assumption | exact hset_s _ _ _ | (rw [hset_n _ _ (by omega)]; first | assumption | exact hset_s _ _ _ | (rw [hset_n _ _ (by omega)]; first | assumption | exact hset_s _ _ _ | (rw [hset_n _ _ (by omega)]; first | assumption | exact hset_s _ _ _))))) rfl ?_
  refine j_iconst (v := (-1)) d_Cr_countUnseen_8 (by decide) ?_
  refine j_ixor d_Cr_countUnseen_9 ?_
  refine j_iand d_Cr_countUnseen_10 ?_
  refine j_pS (As := [.int _]) d_Cr_countUnseen_11 cb_Cr_141 sv_In_bitCount rfl rfl (Nat.le_of_ble_eq_true rfl) (by decide) (c_In_bitCount _) ?_
  refine j_istore_n d_Cr_countUnseen_14 (by decide) ?_
  refine j_iconst (v := 0) d_Cr_countUnseen_15 (by decide) ?_
  refine j_istore_n d_Cr_countUnseen_16 (by decide) ?_
  have loop : ∀ (k kd : Nat) (u : Int32), kd + k = K → J E m_Cr_countUnseen 1 0 0 17 [(0, .ref a), (1, .int u), (2, .int (nI kd))] [] (hCr E h a p od K s ws) n (Rt (some (.int ((List.range' kd k).foldl (fun u kd => u + bcF (s.1 kd &&& (s.2.1 kd ^^^ (-1)))) u))) (hCr E h a p od K s ws) n) := by
    intro k
    induction k with
    | zero =>
      intro kd u hkd
      have hkd : kd = K := by omega
      subst hkd
      refine j_iload_n d_Cr_countUnseen_17 rfl ?_
      refine j_aload_n d_Cr_countUnseen_18 rfl ?_
      refine j_get d_Cr_countUnseen_19 fl_Cr_24 (by first | assumption | exact hset_s _ _ _ | (rw [hset_n _ _ (by omega)]; first | assumption | exact hset_s _ _ _ | (rw [hset_n _ _ (by omega)]; first | assumption | exact hset_s _ _ _ | (rw [hset_n _ _ (by omega)]; first | assumption | exact hset_s _ _ _ | (rw [hset_n _ _ (by omega)]; first | assumption | exact hset_s _ _ _))))) rfl ?_
      refine j_pV (As := []) d_Cr_countUnseen_22 cb_Cr_37 vv_Pz_kinds hwp rfl rfl rfl rfl (Nat.le_of_ble_eq_true rfl) (by decide) (c_Pz_kinds hwp rfl) ?_
      refine j_icmp_ge (tgt := 55) d_Cr_countUnseen_25 (by decide) (fun c2 => ?_) (fun c2 => absurd (nI_le (Nat.le_refl _) (by omega)) c2)
      refine j_iload_n d_Cr_countUnseen_55 rfl ?_
      exact j_iret d_Cr_countUnseen_56 rfl ⟨rfl, rfl, rfl⟩
    | succ k ih =>
      intro kd u hkd
      have hin : vp_in (nI kd) 3 := vp_in_nI (by omega) (by omega)
      refine j_iload_n d_Cr_countUnseen_17 rfl ?_
      refine j_aload_n d_Cr_countUnseen_18 rfl ?_
      refine j_get d_Cr_countUnseen_19 fl_Cr_24 (by first | assumption | exact hset_s _ _ _ | (rw [hset_n _ _ (by omega)]; first | assumption | exact hset_s _ _ _ | (rw [hset_n _ _ (by omega)]; first | assumption | exact hset_s _ _ _ | (rw [hset_n _ _ (by omega)]; first | assumption | exact hset_s _ _ _ | (rw [hset_n _ _ (by omega)]; first | assumption | exact hset_s _ _ _))))) rfl ?_
      refine j_pV (As := []) d_Cr_countUnseen_22 cb_Cr_37 vv_Pz_kinds hwp rfl rfl rfl rfl (Nat.le_of_ble_eq_true rfl) (by decide) (c_Pz_kinds hwp rfl) ?_
      refine j_icmp_ge (tgt := 55) d_Cr_countUnseen_25 (by decide) (fun c2 => absurd c2 (nI_ge (by omega) (by omega))) (fun c2 => ?_)
      refine j_iload_n d_Cr_countUnseen_28 rfl ?_
      refine j_aload_n d_Cr_countUnseen_29 rfl ?_
      refine j_get d_Cr_countUnseen_30 fl_Cr_9 (by first | assumption | exact hset_s _ _ _ | (rw [hset_n _ _ (by omega)]; first | assumption | exact hset_s _ _ _ | (rw [hset_n _ _ (by omega)]; first | assumption | exact hset_s _ _ _ | (rw [hset_n _ _ (by omega)]; first | assumption | exact hset_s _ _ _ | (rw [hset_n _ _ (by omega)]; first | assumption | exact hset_s _ _ _))))) rfl ?_
      refine j_iload_n d_Cr_countUnseen_33 rfl ?_
      refine j_iald (t := 0) d_Cr_countUnseen_34 rfl (by first | assumption | exact hset_s _ _ _ | (rw [hset_n _ _ (by omega)]; first | assumption | exact hset_s _ _ _ | (rw [hset_n _ _ (by omega)]; first | assumption | exact hset_s _ _ _ | (rw [hset_n _ _ (by omega)]; first | assumption | exact hset_s _ _ _ | (rw [hset_n _ _ (by omega)]; first | assumption | exact hset_s _ _ _))))) (by assumption) rfl ?_
      refine j_aload_n d_Cr_countUnseen_35 rfl ?_
      refine j_get d_Cr_countUnseen_36 fl_Cr_15 (by first | assumption | exact hset_s _ _ _ | (rw [hset_n _ _ (by omega)]; first | assumption | exact hset_s _ _ _ | (rw [hset_n _ _ (by omega)]; first | assumption | exact hset_s _ _ _ | (rw [hset_n _ _ (by omega)]; first | assumption | exact hset_s _ _ _ | (rw [hset_n _ _ (by omega)]; first | assumption | exact hset_s _ _ _))))) rfl ?_
      refine j_iload_n d_Cr_countUnseen_39 rfl ?_
      refine j_iald (t := 0) d_Cr_countUnseen_40 rfl (by first | assumption | exact hset_s _ _ _ | (rw [hset_n _ _ (by omega)]; first | assumption | exact hset_s _ _ _ | (rw [hset_n _ _ (by omega)]; first | assumption | exact hset_s _ _ _ | (rw [hset_n _ _ (by omega)]; first | assumption | exact hset_s _ _ _ | (rw [hset_n _ _ (by omega)]; first | assumption | exact hset_s _ _ _))))) (by assumption) rfl ?_
      refine j_iconst (v := (-1)) d_Cr_countUnseen_41 (by decide) ?_
      refine j_ixor d_Cr_countUnseen_42 ?_
      refine j_iand d_Cr_countUnseen_43 ?_
      rw [nI_clamp (by omega)]
      refine j_pS (As := [.int _]) d_Cr_countUnseen_44 cb_Cr_141 sv_In_bitCount rfl rfl (Nat.le_of_ble_eq_true rfl) (by decide) (c_In_bitCount _) ?_
      refine j_iadd d_Cr_countUnseen_47 ?_
      refine j_istore_n d_Cr_countUnseen_48 (by decide) ?_
      refine j_iinc (v := nI (kd + 1)) d_Cr_countUnseen_49 rfl (nI_succ kd).symm (by decide) ?_
      refine j_goto (tgt := 17) d_Cr_countUnseen_52 (by decide) ?_
      rw [List.range'_succ, List.foldl_cons]
      exact ih (kd + 1) _ (by omega)
  exact loop K 0 _ (by omega)
theorem c_Cr_crossOut {cp N M cc c : Nat} {u : Int32} (hb : E.2.2.2.1 ≤ a) (hp : h p = some (oPz (nI N) (nI K) (nI M) od cp (nI cc))) (hpa : p < a) (hK : K ≤ 3) (hst : s.2.2.2.2.2.2.1 ≤ 54) :
    Ct E m_Cr_crossOut 1 0 0 [.ref a, .int (nI c), .int u] (hCr E h a p od K s ws) n (Rt none (hCr E h a p od K (xoF K s c u) ws) n) := by
  refine Ct.go rfl rfl rfl ?_
  obtain ⟨my, sn, mb, sb, sc, sk, st, fi⟩ := s
  dsimp only at hst
  refine j_iconst (v := 0) d_Cr_crossOut_0 (by decide) ?_
  refine j_istore_n d_Cr_crossOut_1 (by decide) ?_
  have loop : ∀ (k kd : Nat) (f : Nat → Int32), kd + k = K → J E m_Cr_crossOut 1 0 0 2 [(0, .ref a), (1, .int (nI c)), (2, .int u), (3, .int (nI kd))] [] (hCr E h a p od K (f, sn, mb, sb, sc, sk, st, fi) ws) n (Rt none (hCr E h a p od K (if st < 54 then ((List.range' kd k).foldl (fun f kd => upd f kd (sn kd)) f, sn, sb, sb, upd sc st (nI c), upd sk st u, st + 1, fi) else ((List.range' kd k).foldl (fun f kd => upd f kd (sn kd)) f, sn, sb, sb, sc, sk, st, fi)) ws) n) := by
    intro k
    induction k with
    | zero =>
      intro kd f hkd
      have hkd : kd = K := by omega
      subst hkd
      have hw0 := hCr_0 (E := E) (h := h) (a := a) (p := p) (od := od) (K := kd) (s := (f, sn, mb, sb, sc, sk, st, fi)) (ws := ws)
      have hwp : hCr E h a p od kd (f, sn, mb, sb, sc, sk, st, fi) ws p = some (oPz (nI N) (nI kd) (nI M) od cp (nI cc)) := (hCr_x (Or.inl hpa)).trans hp
      refine j_iload_n d_Cr_crossOut_2 rfl ?_
      refine j_aload_n d_Cr_crossOut_3 rfl ?_
      refine j_get d_Cr_crossOut_4 fl_Cr_24 (by first | assumption | exact hset_s _ _ _ | (rw [hset_n _ _ (by omega)]; first | assumption | exact hset_s _ _ _ | (rw [hset_n _ _ (by omega)]; first | assumption | exact hset_s _ _ _ | (rw [hset_n _ _ (by omega)]; first | assumption | exact hset_s _ _ _ | (rw [hset_n _ _ (by omega)]; first | assumption | exact hset_s _ _ _))))) rfl ?_
      refine j_pV (As := []) d_Cr_crossOut_7 cb_Cr_37 vv_Pz_kinds hwp rfl rfl rfl rfl (Nat.le_of_ble_eq_true rfl) (by decide) (c_Pz_kinds hwp rfl) ?_
      refine j_icmp_ge (tgt := 31) d_Cr_crossOut_10 (by decide) (fun c2 => ?_) (fun c2 => absurd (nI_le (Nat.le_refl _) (by omega)) c2)
      refine j_aload_n d_Cr_crossOut_31 rfl ?_
      refine j_aload_n d_Cr_crossOut_32 rfl ?_
      refine j_get d_Cr_crossOut_33 fl_Cr_123 (by first | assumption | exact hset_s _ _ _ | (rw [hset_n _ _ (by omega)]; first | assumption | exact hset_s _ _ _ | (rw [hset_n _ _ (by omega)]; first | assumption | exact hset_s _ _ _ | (rw [hset_n _ _ (by omega)]; first | assumption | exact hset_s _ _ _ | (rw [hset_n _ _ (by omega)]; first | assumption | exact hset_s _ _ _))))) rfl ?_
      refine j_put d_Cr_crossOut_36 fl_Cr_59 fp_Cr (Or.inl rfl) hw0 hb rfl rfl (Nat.le_of_ble_eq_true rfl) ?_
      refine J.conv (L := _) rfl (show _ = hCr E h a p od kd (f, sn, sb, sb, sc, sk, st, fi) ws from hCr_s0) ?_
      have hv0 := hCr_0 (E := E) (h := h) (a := a) (p := p) (od := od) (K := kd) (s := (f, sn, sb, sb, sc, sk, st, fi)) (ws := ws)
      have hv3 := hCr_3 (E := E) (h := h) (a := a) (p := p) (od := od) (K := kd) (s := (f, sn, sb, sb, sc, sk, st, fi)) (ws := ws)
      refine j_aload_n d_Cr_crossOut_39 rfl ?_
      refine j_get d_Cr_crossOut_40 fl_Cr_63 (by first | assumption | exact hset_s _ _ _ | (rw [hset_n _ _ (by omega)]; first | assumption | exact hset_s _ _ _ | (rw [hset_n _ _ (by omega)]; first | assumption | exact hset_s _ _ _ | (rw [hset_n _ _ (by omega)]; first | assumption | exact hset_s _ _ _ | (rw [hset_n _ _ (by omega)]; first | assumption | exact hset_s _ _ _))))) rfl ?_
      refine j_bipush (v := 54) d_Cr_crossOut_43 (by decide) ?_
      refine j_icmp_ge (tgt := 78) d_Cr_crossOut_45 (by decide) (fun c3 => ?_) (fun c3 => ?_)
      · have hge : ¬ st < 54 := fun q => absurd c3 (nI_ge (a := st) (b := 54) q (by omega))
        refine j_vret d_Cr_crossOut_78 rfl ⟨rfl, ?_, rfl⟩
        rw [if_neg hge]
        rfl
      · have hlt : st < 54 := Nat.not_le.mp (fun q => c3 (nI_le (a := 54) (b := st) q (by omega)))
        refine j_aload_n d_Cr_crossOut_48 rfl ?_
        refine j_get d_Cr_crossOut_49 fl_Cr_18 (by first | assumption | exact hset_s _ _ _ | (rw [hset_n _ _ (by omega)]; first | assumption | exact hset_s _ _ _ | (rw [hset_n _ _ (by omega)]; first | assumption | exact hset_s _ _ _ | (rw [hset_n _ _ (by omega)]; first | assumption | exact hset_s _ _ _ | (rw [hset_n _ _ (by omega)]; first | assumption | exact hset_s _ _ _))))) rfl ?_
        refine j_aload_n d_Cr_crossOut_52 rfl ?_
        refine j_get d_Cr_crossOut_53 fl_Cr_63 (by first | assumption | exact hset_s _ _ _ | (rw [hset_n _ _ (by omega)]; first | assumption | exact hset_s _ _ _ | (rw [hset_n _ _ (by omega)]; first | assumption | exact hset_s _ _ _ | (rw [hset_n _ _ (by omega)]; first | assumption | exact hset_s _ _ _ | (rw [hset_n _ _ (by omega)]; first | assumption | exact hset_s _ _ _))))) rfl ?_
        refine j_iload_n d_Cr_crossOut_56 rfl ?_
        refine j_iast (t := 0) d_Cr_crossOut_57 rfl hv3 (by omega) (vp_in_nI hlt (by omega)) ?_
        refine J.conv (L := _) rfl (show _ = hCr E h a p od kd (f, sn, sb, sb, upd sc st (nI c), sk, st, fi) ws by rw [nI_clamp (n := st) (by omega), hCr_s3]) ?_
        have hu0 := hCr_0 (E := E) (h := h) (a := a) (p := p) (od := od) (K := kd) (s := (f, sn, sb, sb, upd sc st (nI c), sk, st, fi)) (ws := ws)
        have hu4 := hCr_4 (E := E) (h := h) (a := a) (p := p) (od := od) (K := kd) (s := (f, sn, sb, sb, upd sc st (nI c), sk, st, fi)) (ws := ws)
        refine j_aload_n d_Cr_crossOut_58 rfl ?_
        refine j_get d_Cr_crossOut_59 fl_Cr_21 (by first | assumption | exact hset_s _ _ _ | (rw [hset_n _ _ (by omega)]; first | assumption | exact hset_s _ _ _ | (rw [hset_n _ _ (by omega)]; first | assumption | exact hset_s _ _ _ | (rw [hset_n _ _ (by omega)]; first | assumption | exact hset_s _ _ _ | (rw [hset_n _ _ (by omega)]; first | assumption | exact hset_s _ _ _))))) rfl ?_
        refine j_aload_n d_Cr_crossOut_62 rfl ?_
        refine j_get d_Cr_crossOut_63 fl_Cr_63 (by first | assumption | exact hset_s _ _ _ | (rw [hset_n _ _ (by omega)]; first | assumption | exact hset_s _ _ _ | (rw [hset_n _ _ (by omega)]; first | assumption | exact hset_s _ _ _ | (rw [hset_n _ _ (by omega)]; first | assumption | exact hset_s _ _ _ | (rw [hset_n _ _ (by omega)]; first | assumption | exact hset_s _ _ _))))) rfl ?_
        refine j_iload_n d_Cr_crossOut_66 rfl ?_
        refine j_iast (t := 0) d_Cr_crossOut_67 rfl hu4 (by omega) (vp_in_nI hlt (by omega)) ?_
        refine J.conv (L := _) rfl (show _ = hCr E h a p od kd (f, sn, sb, sb, upd sc st (nI c), upd sk st u, st, fi) ws by rw [nI_clamp (n := st) (by omega), hCr_s4]) ?_
        have ht0 := hCr_0 (E := E) (h := h) (a := a) (p := p) (od := od) (K := kd) (s := (f, sn, sb, sb, upd sc st (nI c), upd sk st u, st, fi)) (ws := ws)
        refine j_aload_n d_Cr_crossOut_68 rfl ?_
        refine j_dup d_Cr_crossOut_69 rfl ?_
        refine j_get d_Cr_crossOut_70 fl_Cr_63 (by first | assumption | exact hset_s _ _ _ | (rw [hset_n _ _ (by omega)]; first | assumption | exact hset_s _ _ _ | (rw [hset_n _ _ (by omega)]; first | assumption | exact hset_s _ _ _ | (rw [hset_n _ _ (by omega)]; first | assumption | exact hset_s _ _ _ | (rw [hset_n _ _ (by omega)]; first | assumption | exact hset_s _ _ _))))) rfl ?_
        refine j_iconst (v := 1) d_Cr_crossOut_73 (by decide) ?_
        refine j_iadd d_Cr_crossOut_74 ?_
        refine j_put d_Cr_crossOut_75 fl_Cr_63 fp_Cr (Or.inl rfl) ht0 hb rfl rfl (Nat.le_of_ble_eq_true rfl) ?_
        refine j_vret d_Cr_crossOut_78 rfl ⟨rfl, ?_, rfl⟩
        rw [if_pos hlt]
        show hset _ a (oCr p (a + 5) (a + 1) (a + 2) sb sb (a + 3) (a + 4) (nI st + 1) fi) = _
        rw [nI_1, hCr_s0]
        rfl
    | succ k ih =>
      intro kd f hkd
      have hw0 := hCr_0 (E := E) (h := h) (a := a) (p := p) (od := od) (K := K) (s := (f, sn, mb, sb, sc, sk, st, fi)) (ws := ws)
      have hw1 := hCr_1 (E := E) (h := h) (a := a) (p := p) (od := od) (K := K) (s := (f, sn, mb, sb, sc, sk, st, fi)) (ws := ws)
      have hw2 := hCr_2 (E := E) (h := h) (a := a) (p := p) (od := od) (K := K) (s := (f, sn, mb, sb, sc, sk, st, fi)) (ws := ws)
      have hwp : hCr E h a p od K (f, sn, mb, sb, sc, sk, st, fi) ws p = some (oPz (nI N) (nI K) (nI M) od cp (nI cc)) := (hCr_x (Or.inl hpa)).trans hp
      have hin : vp_in (nI kd) 3 := vp_in_nI (by omega) (by omega)
      refine j_iload_n d_Cr_crossOut_2 rfl ?_
      refine j_aload_n d_Cr_crossOut_3 rfl ?_
      refine j_get d_Cr_crossOut_4 fl_Cr_24 (by first | assumption | exact hset_s _ _ _ | (rw [hset_n _ _ (by omega)]; first | assumption | exact hset_s _ _ _ | (rw [hset_n _ _ (by omega)]; first | assumption | exact hset_s _ _ _ | (rw [hset_n _ _ (by omega)]; first | assumption | exact hset_s _ _ _ | (rw [hset_n _ _ (by omega)]; first | assumption | exact hset_s _ _ _))))) rfl ?_
      refine j_pV (As := []) d_Cr_crossOut_7 cb_Cr_37 vv_Pz_kinds hwp rfl rfl rfl rfl (Nat.le_of_ble_eq_true rfl) (by decide) (c_Pz_kinds hwp rfl) ?_
      refine j_icmp_ge (tgt := 31) d_Cr_crossOut_10 (by decide) (fun c2 => absurd c2 (nI_ge (by omega) (by omega))) (fun c2 => ?_)
      refine j_aload_n d_Cr_crossOut_13 rfl ?_
      refine j_get d_Cr_crossOut_14 fl_Cr_9 (by first | assumption | exact hset_s _ _ _ | (rw [hset_n _ _ (by omega)]; first | assumption | exact hset_s _ _ _ | (rw [hset_n _ _ (by omega)]; first | assumption | exact hset_s _ _ _ | (rw [hset_n _ _ (by omega)]; first | assumption | exact hset_s _ _ _ | (rw [hset_n _ _ (by omega)]; first | assumption | exact hset_s _ _ _))))) rfl ?_
      refine j_iload_n d_Cr_crossOut_17 rfl ?_
      refine j_aload_n d_Cr_crossOut_18 rfl ?_
      refine j_get d_Cr_crossOut_19 fl_Cr_15 (by first | assumption | exact hset_s _ _ _ | (rw [hset_n _ _ (by omega)]; first | assumption | exact hset_s _ _ _ | (rw [hset_n _ _ (by omega)]; first | assumption | exact hset_s _ _ _ | (rw [hset_n _ _ (by omega)]; first | assumption | exact hset_s _ _ _ | (rw [hset_n _ _ (by omega)]; first | assumption | exact hset_s _ _ _))))) rfl ?_
      refine j_iload_n d_Cr_crossOut_22 rfl ?_
      refine j_iald (t := 0) d_Cr_crossOut_23 rfl (by first | assumption | exact hset_s _ _ _ | (rw [hset_n _ _ (by omega)]; first | assumption | exact hset_s _ _ _ | (rw [hset_n _ _ (by omega)]; first | assumption | exact hset_s _ _ _ | (rw [hset_n _ _ (by omega)]; first | assumption | exact hset_s _ _ _ | (rw [hset_n _ _ (by omega)]; first | assumption | exact hset_s _ _ _))))) (by assumption) rfl ?_
      refine j_iast (t := 0) d_Cr_crossOut_24 rfl hw1 (by omega) hin ?_
      refine j_iinc (v := nI (kd + 1)) d_Cr_crossOut_25 rfl (nI_succ kd).symm (by decide) ?_
      refine j_goto (tgt := 2) d_Cr_crossOut_28 (by decide) ?_
      rw [List.range'_succ, List.foldl_cons]
      refine J.conv (L := _) rfl ?_ (ih (kd + 1) _ (by omega))
      rw [nI_clamp (n := kd) (by omega), hCr_s1]
  exact loop K 0 my (by omega)
end CR2
end
section
section CR3
variable {E : EV} {h : HP} {n a p od K : Nat} {s : XS} {ws : WS}
theorem CK_hCr (hck : ∀ q, a ≤ q → q ≤ a + 9 → ∀ ci fs, clN ci → h q ≠ some (.inr (ci, fs))) : CK h (hCr E h a p od K s ws) := by
  intro q ci fs hc hq
  by_cases hr : a ≤ q ∧ q ≤ a + 9
  · exact absurd hq (hck q hr.1 hr.2 ci fs hc)
  · rw [hCr_x (by omega)]; exact hq
/-- the puzzle's own facts that the crossing uses -/
def PzG (E : EV) (h : HP) (a p od K N M cc D : Nat) (φ : Nat → (Nat → Int32) → Int32) : Prop := ∃ (cp : Nat) (f : Nat → Option Nat), h p = some (oPz (nI N) (nI K) (nI M) od cp (nI cc)) ∧ p < a ∧ h cp = some (arQ E 3 20 f) ∧ cp < a ∧ (∀ c, c < cc → ∃ y, f c = some y ∧ CR D h y (φ c)) ∧ h (E.2.2.2.2 1) = some (arI E 0 4 partsF) ∧ E.2.2.2.2 1 < a ∧ h (E.2.2.2.2 0) = some (arI E 0 3 truthF) ∧ E.2.2.2.2 0 < a ∧ cc ≤ 20 ∧ K ≤ 3 ∧ M ≤ 3 ∧ (∀ q, a ≤ q → q ≤ a + 9 → ∀ ci fs, clN ci → h q ≠ some (.inr (ci, fs))) ∧ E.2.2.2.1 ≤ a
theorem lkL_WB {N : Nat} {vf : Nat → Nat} {tkf : Nat → Int32} {φ : (Nat → Int32) → Int32} {op : Int32} : ∀ (k : Nat) (x : (Nat → Int32) × Int32 × WS), WB x.2.2 → WB (lkL K N vf tkf φ op k x).2.2
  | 0, _, h => h
  | k + 1, x, h => lkL_WB k _ (nxF_WB K x.2.2 h)
theorem c_Cr_look {N M cc D tk vl cnt y lay : Nat} {al : Int32} {tkf : Nat → Int32} {vf : Nat → Nat} {φs : Nat → (Nat → Int32) → Int32} {φ : (Nat → Int32) → Int32} (F : PzG E h a p od K N M cc D φs) (O : OdF E h a od N tk vl cnt al tkf vf) (hcr : CR D h y φ) (hs : WB ws) (hlay : lay < 2 ^ 31) :
    Ct E m_Cr_look (D + 3) 0 0 [.ref a, .ref y, .int (nI lay)] (hCr E h a p od K s ws) n (Rt none (hCr E h a p od K (lkF K N M vf tkf φ lay s ws).1 (lkF K N M vf tkf φ lay s ws).2) n) := by
  obtain ⟨cp, f, hp, hpa, hcp, hcpa, hcl, hst, hsta, htr, htra, hcc, hK, hM, hck, hb⟩ := F
  obtain ⟨o1, o2, o3, o4, o5, o6, o7, o8, o9⟩ := O
  refine Ct.go rfl rfl rfl ?_
  obtain ⟨my, sn, mb, sb, sc, sk, st, fi⟩ := s
  have hw0 := hCr_0 (E := E) (h := h) (a := a) (p := p) (od := od) (K := K) (s := (my, sn, mb, sb, sc, sk, st, fi)) (ws := ws)
  have hw2 := hCr_2 (E := E) (h := h) (a := a) (p := p) (od := od) (K := K) (s := (my, sn, mb, sb, sc, sk, st, fi)) (ws := ws)
  refine j_aload_n d_Cr_look_0 rfl ?_
  refine j_get d_Cr_look_1 fl_Cr_15 (by first | assumption | exact hset_s _ _ _ | (rw [hset_n _ _ (by omega)]; first | assumption | exact hset_s _ _ _ | (rw [hset_n _ _ (by omega)]; first | assumption | exact hset_s _ _ _ | (rw [hset_n _ _ (by omega)]; first | assumption | exact hset_s _ _ _ | (rw [hset_n _ _ (by omega)]; first | assumption | exact hset_s _ _ _))))) rfl ?_
  refine j_iconst (v := 0) d_Cr_look_4 (by decide) ?_
  refine j_callS (As := [.ref (a + 2), .int 0]) d_Cr_look_5 cb_Cr_96 sv_Ar_fill rfl rfl (Nat.le_of_ble_eq_true rfl) (show 0 + 1 ≤ D + 3 by omega) (Nat.zero_le _) (Nat.zero_le _) (c_Ar_fill (N := 3) (by omega) (by omega) hw2) (fun v' h' n' q _ => ?_)
  obtain ⟨rfl, rfl, q3⟩ := q; have q3 := q3.symm; subst q3
  refine J.conv (L := _) rfl (show _ = hCr E h a p od K (my, fillF sn 3 0, mb, sb, sc, sk, st, fi) ws from hCr_s2) ?_
  have hv0 := hCr_0 (E := E) (h := h) (a := a) (p := p) (od := od) (K := K) (s := (my, fillF sn 3 0, mb, sb, sc, sk, st, fi)) (ws := ws)
  have hv5 := hCr_5 (E := E) (h := h) (a := a) (p := p) (od := od) (K := K) (s := (my, fillF sn 3 0, mb, sb, sc, sk, st, fi)) (ws := ws)
  have px : ∀ (s : XS) (ws : WS) (q : Nat), q < a → hCr E h a p od K s ws q = h q := fun s ws q hq => hCr_x (Or.inl hq)
  refine j_aload_n d_Cr_look_8 rfl ?_
  refine j_pV (As := []) d_Cr_look_9 cb_Cr_102 vv_Cr_openParties hv0 rfl rfl rfl rfl (Nat.le_of_ble_eq_true rfl) (show 1 + 1 ≤ D + 3 by omega) (c_Cr_openParties hv0 ((px _ _ p hpa).trans hp) ((px _ _ _ htra).trans htr) ((px _ _ _ hsta).trans hst) hM) ?_
  refine j_istore_n d_Cr_look_12 (by decide) ?_
  refine j_iconst (v := 0) d_Cr_look_13 (by decide) ?_
  refine j_istore d_Cr_look_14 (by decide) ?_
  refine j_aload_n d_Cr_look_16 rfl ?_
  refine j_get d_Cr_look_17 fl_Cr_33 (by first | assumption | exact hset_s _ _ _ | (rw [hset_n _ _ (by omega)]; first | assumption | exact hset_s _ _ _ | (rw [hset_n _ _ (by omega)]; first | assumption | exact hset_s _ _ _ | (rw [hset_n _ _ (by omega)]; first | assumption | exact hset_s _ _ _ | (rw [hset_n _ _ (by omega)]; first | assumption | exact hset_s _ _ _))))) rfl ?_
  have hCx : ∀ (s : XS) q, q < a → hC E h a p s q = h q := fun s q hq => hC_x (Or.inl hq)
  refine j_callV (As := []) d_Cr_look_20 cb_Cr_105 vv_Wk_start hv5 rfl rfl rfl rfl (Nat.le_of_ble_eq_true rfl) (show 2 + 1 ≤ D + 3 by omega) (Nat.zero_le _) (Nat.zero_le _) (c_Wk_start (h := hC E h a p (my, fillF sn 3 0, mb, sb, sc, sk, st, fi)) (w := a + 5) (by omega) ((hCx _ _ o4).trans o1) ((hCx _ _ o6).trans o3) (by omega) (by omega) hK o8 hs o9) (fun v' h' n' q _ => ?_)
  obtain ⟨rfl, rfl, q3⟩ := q; have q3 := q3.symm; subst q3
  show J E m_Cr_look (D + 3) 0 0 23 _ _ (hCr E h a p od K (my, fillF sn 3 0, mb, sb, sc, sk, st, fi) (stF vf N K ws)) _ _
  refine j_iconst (v := 0) d_Cr_look_23 (by decide) ?_
  refine j_istore d_Cr_look_24 (by decide) ?_
  have fin : lkF K N M vf tkf φ lay (my, sn, mb, sb, sc, sk, st, fi) ws = (fun x : (Nat → Int32) × Int32 × WS => ((my, x.1, mb, wiF M x.2.1, sc, sk, st, fi), x.2.2)) (lkL K N vf tkf φ (opF M mb) lay (fillF sn 3 0, 0, stF vf N K ws)) := rfl
  rw [fin]
  have loop : ∀ (k i : Nat) (x : (Nat → Int32) × Int32 × WS) (x6 : List (Nat × Value)), i + k = lay → WB x.2.2 → (x6 = [] ∨ ∃ v, x6 = [(6, .int v)]) → J E m_Cr_look (D + 3) 0 0 26 ([(0, .ref a), (1, .ref y), (2, .int (nI lay)), (3, .int (opF M mb)), (4, .int x.2.1), (5, .int (nI i))] ++ x6) [] (hCr E h a p od K (my, x.1, mb, sb, sc, sk, st, fi) x.2.2) n (Rt none (hCr E h a p od K ((fun x : (Nat → Int32) × Int32 × WS => ((my, x.1, mb, wiF M x.2.1, sc, sk, st, fi), x.2.2)) (lkL K N vf tkf φ (opF M mb) k x)).1 ((fun x : (Nat → Int32) × Int32 × WS => ((my, x.1, mb, wiF M x.2.1, sc, sk, st, fi), x.2.2)) (lkL K N vf tkf φ (opF M mb) k x)).2) n) := by
    intro k
    induction k with
    | zero =>
      intro i x x6 hi hx hx6
      have hi : i = lay := by omega
      subst hi
      obtain ⟨f1, sp, w1⟩ := x
      have hx0 := hCr_0 (E := E) (h := h) (a := a) (p := p) (od := od) (K := K) (s := (my, f1, mb, sb, sc, sk, st, fi)) (ws := w1)
      refine j_iload d_Cr_look_26 rfl ?_
      refine j_iload_n d_Cr_look_28 rfl ?_
      refine j_icmp_ge (tgt := 78) d_Cr_look_29 (by decide) (fun c2 => ?_) (fun c2 => absurd (nI_le (Nat.le_refl _) hlay) c2)
      refine j_aload_n d_Cr_look_78 rfl ?_
      refine j_aload_n d_Cr_look_79 rfl ?_
      refine j_iload d_Cr_look_80 rfl ?_
      refine j_pV (As := [.int sp]) d_Cr_look_82 cb_Cr_55 vv_Cr_waysIn hx0 rfl rfl rfl rfl (Nat.le_of_ble_eq_true rfl) (show 1 + 1 ≤ D + 3 by omega) (c_Cr_waysIn hx0 ((px _ _ p hpa).trans hp) ((px _ _ _ htra).trans htr) hM) ?_
      refine j_put d_Cr_look_85 fl_Cr_123 fp_Cr (Or.inl rfl) hx0 hb rfl rfl (Nat.le_of_ble_eq_true rfl) ?_
      refine j_vret d_Cr_look_88 rfl ⟨rfl, ?_, rfl⟩
      exact hCr_s0
    | succ k ih =>
      intro i x x6 hi hx hx6
      obtain ⟨f1, sp, w1⟩ := x
      have hx0 := hCr_0 (E := E) (h := h) (a := a) (p := p) (od := od) (K := K) (s := (my, f1, mb, sb, sc, sk, st, fi)) (ws := w1)
      have hx5 := hCr_5 (E := E) (h := h) (a := a) (p := p) (od := od) (K := K) (s := (my, f1, mb, sb, sc, sk, st, fi)) (ws := w1)
      have hx9 := hCr_9 (E := E) (h := h) (a := a) (p := p) (od := od) (K := K) (s := (my, f1, mb, sb, sc, sk, st, fi)) (ws := w1)
      dsimp only at hx
      refine j_iload d_Cr_look_26 rfl ?_
      refine j_iload_n d_Cr_look_28 rfl ?_
      refine j_icmp_ge (tgt := 78) d_Cr_look_29 (by decide) (fun c2 => absurd c2 (nI_ge (by omega) hlay)) (fun c2 => ?_)
      refine j_aload_n d_Cr_look_32 rfl ?_
      refine j_aload_n d_Cr_look_33 rfl ?_
      refine j_get d_Cr_look_34 fl_Cr_33 (by first | assumption | exact hset_s _ _ _ | (rw [hset_n _ _ (by omega)]; first | assumption | exact hset_s _ _ _ | (rw [hset_n _ _ (by omega)]; first | assumption | exact hset_s _ _ _ | (rw [hset_n _ _ (by omega)]; first | assumption | exact hset_s _ _ _ | (rw [hset_n _ _ (by omega)]; first | assumption | exact hset_s _ _ _))))) rfl ?_
      refine j_pV (As := []) d_Cr_look_37 cb_Cr_108 vv_Wk_thing hx5 rfl rfl rfl rfl (Nat.le_of_ble_eq_true rfl) (show 0 + 1 ≤ D + 3 by omega) (c_Wk_thing hx5 rfl) ?_
      refine j_holds (D := D) d_Cr_look_40 fk_Cr_112 (c_holds hx9 D y φ (CR.kept (CK_hCr hck) hcr)) (Nat.le_of_ble_eq_true rfl) (by omega) ?_
      refine j_iload_n d_Cr_look_45 rfl ?_
      refine j_iand d_Cr_look_46 ?_
      have k65 : ∀ (f2 : Nat → Int32) (sp2 : Int32), f2 = (if φ (nA w1.2.2.2) &&& opF M mb = 0 then f1 else seeF K tkf w1 f1) → sp2 = (if φ (nA w1.2.2.2) &&& opF M mb = 0 then sp else sp ||| (φ (nA w1.2.2.2) &&& opF M mb)) → J E m_Cr_look (D + 3) 0 0 65 [(0, .ref a), (1, .ref y), (2, .int (nI lay)), (3, .int (opF M mb)), (4, .int sp2), (5, .int (nI i)), (6, .int (φ (nA w1.2.2.2) &&& opF M mb))] [] (hCr E h a p od K (my, f2, mb, sb, sc, sk, st, fi) w1) n (Rt none (hCr E h a p od K ((fun x : (Nat → Int32) × Int32 × WS => ((my, x.1, mb, wiF M x.2.1, sc, sk, st, fi), x.2.2)) (lkL K N vf tkf φ (opF M mb) (k + 1) (f1, sp, w1))).1 ((fun x : (Nat → Int32) × Int32 × WS => ((my, x.1, mb, wiF M x.2.1, sc, sk, st, fi), x.2.2)) (lkL K N vf tkf φ (opF M mb) (k + 1) (f1, sp, w1))).2) n) := by
        intro f2 sp2 hf2 hsp2
        have hy0 := hCr_0 (E := E) (h := h) (a := a) (p := p) (od := od) (K := K) (s := (my, f2, mb, sb, sc, sk, st, fi)) (ws := w1)
        have hy5 := hCr_5 (E := E) (h := h) (a := a) (p := p) (od := od) (K := K) (s := (my, f2, mb, sb, sc, sk, st, fi)) (ws := w1)
        refine j_aload_n d_Cr_look_65 rfl ?_
        refine j_get d_Cr_look_66 fl_Cr_33 (by first | assumption | exact hset_s _ _ _ | (rw [hset_n _ _ (by omega)]; first | assumption | exact hset_s _ _ _ | (rw [hset_n _ _ (by omega)]; first | assumption | exact hset_s _ _ _ | (rw [hset_n _ _ (by omega)]; first | assumption | exact hset_s _ _ _ | (rw [hset_n _ _ (by omega)]; first | assumption | exact hset_s _ _ _))))) rfl ?_
        refine j_callV (As := []) d_Cr_look_69 cb_Cr_120 vv_Wk_next hy5 rfl rfl rfl rfl (Nat.le_of_ble_eq_true rfl) (show 2 + 1 ≤ D + 3 by omega) (Nat.zero_le _) (Nat.zero_le _) (c_Wk_next (h := hC E h a p (my, f2, mb, sb, sc, sk, st, fi)) (w := a + 5) (by omega) ((hCx _ _ o4).trans o1) ((hCx _ _ o6).trans o3) (by omega) (by omega) hK o8 hx o9) (fun v' h' n' q _ => ?_)
        obtain ⟨rfl, rfl, q3⟩ := q; have q3 := q3.symm; subst q3
        refine j_iinc (v := nI (i + 1)) d_Cr_look_72 rfl (nI_succ i).symm (by decide) ?_
        refine j_goto (tgt := 26) d_Cr_look_75 (by decide) ?_
        have e1 : lkL K N vf tkf φ (opF M mb) (k + 1) (f1, sp, w1) = lkL K N vf tkf φ (opF M mb) k (f2, sp2, nxF vf N K w1) := by rw [hf2, hsp2]; rfl
        rw [e1]
        exact ih (i + 1) (f2, sp2, nxF vf N K w1) [(6, .int (φ (nA w1.2.2.2) &&& opF M mb))] (by omega) (nxF_WB K _ hx) (Or.inr ⟨_, rfl⟩)
      rcases hx6 with rfl | ⟨v6, rfl⟩
      all_goals
        refine j_istore d_Cr_look_47 (by decide) ?_
        refine j_iload d_Cr_look_49 rfl ?_
        refine j_if_eq (tgt := 65) d_Cr_look_51 (by decide) (fun c3 => ?_) (fun c3 => ?_)
        · exact k65 f1 sp (by rw [if_pos c3]) (by rw [if_pos c3])
        · refine j_iload d_Cr_look_54 rfl ?_
          refine j_iload d_Cr_look_56 rfl ?_
          refine j_ior d_Cr_look_58 ?_
          refine j_istore d_Cr_look_59 (by decide) ?_
          refine j_aload_n d_Cr_look_61 rfl ?_
          refine j_callV (As := []) d_Cr_look_62 cb_Cr_117 vv_Cr_seeLayout hx0 rfl rfl rfl rfl (Nat.le_of_ble_eq_true rfl) (show 1 + 1 ≤ D + 3 by omega) (Nat.zero_le _) (Nat.zero_le _) (c_Cr_seeLayout hb hp hpa o1 o2 o4 o5 hK hx) (fun v' h' n' q _ => ?_)
          obtain ⟨rfl, rfl, q3⟩ := q; have q3 := q3.symm; subst q3
          exact k65 (seeF K tkf w1 f1) (sp ||| (φ (nA w1.2.2.2) &&& opF M mb)) (by rw [if_neg c3]) (by rw [if_neg c3])
  exact loop lay 0 (fillF sn 3 0, 0, stF vf N K ws) [] (by omega) (stF_WB _ _ hs) (Or.inl rfl)
theorem lkF_WB {N M lay : Nat} {vf : Nat → Nat} {tkf : Nat → Int32} {φ : (Nat → Int32) → Int32} (hs : WB ws) : WB (lkF K N M vf tkf φ lay s ws).2 := lkL_WB lay _ (stF_WB _ _ hs)
theorem lkF_k {N M lay : Nat} {vf : Nat → Nat} {tkf : Nat → Int32} {φ : (Nat → Int32) → Int32} : (lkF K N M vf tkf φ lay s ws).1.2.2.2.2 = s.2.2.2.2 := rfl
theorem c_Cr_takeStep {N M cc D tk vl cnt : Nat} {al : Int32} {tkf : Nat → Int32} {vf : Nat → Nat} {φ : Nat → (Nat → Int32) → Int32} (F : PzG E h a p od K N M cc D φ) (O : OdF E h a od N tk vl cnt al tkf vf) (hs : WB ws) (hst : s.2.2.2.2.2.2.1 ≤ 54) :
    Ct E m_Cr_takeStep (D + 4) 0 0 [.ref a] (hCr E h a p od K s ws) n (Rt (some (.int (tsF K N M cc cnt vf tkf φ s ws).1)) (hCr E h a p od K (tsF K N M cc cnt vf tkf φ s ws).2.1 (tsF K N M cc cnt vf tkf φ s ws).2.2) n) := by
  have F0 := F
  have O0 := O
  obtain ⟨cp, f, hp, hpa, hcp, hcpa, hcl, hst1, hsta, htr, htra, hcc, hK, hM, hck, hb⟩ := F
  obtain ⟨o1, o2, o3, o4, o5, o6, o7, o8, o9⟩ := O
  refine Ct.go rfl rfl rfl ?_
  have hw0 := hCr_0 (E := E) (h := h) (a := a) (p := p) (od := od) (K := K) (s := s) (ws := ws)
  have hw1 := hCr_1 (E := E) (h := h) (a := a) (p := p) (od := od) (K := K) (s := s) (ws := ws)
  have hw5 := hCr_5 (E := E) (h := h) (a := a) (p := p) (od := od) (K := K) (s := s) (ws := ws)
  have hCx : ∀ (s : XS) q, q < a → hC E h a p s q = h q := fun s q hq => hC_x (Or.inl hq)
  refine j_aload_n d_Cr_takeStep_0 rfl ?_
  refine j_get d_Cr_takeStep_1 fl_Cr_33 (by first | assumption | exact hset_s _ _ _ | (rw [hset_n _ _ (by omega)]; first | assumption | exact hset_s _ _ _ | (rw [hset_n _ _ (by omega)]; first | assumption | exact hset_s _ _ _ | (rw [hset_n _ _ (by omega)]; first | assumption | exact hset_s _ _ _ | (rw [hset_n _ _ (by omega)]; first | assumption | exact hset_s _ _ _))))) rfl ?_
  refine j_aload_n d_Cr_takeStep_4 rfl ?_
  refine j_get d_Cr_takeStep_5 fl_Cr_9 (by first | assumption | exact hset_s _ _ _ | (rw [hset_n _ _ (by omega)]; first | assumption | exact hset_s _ _ _ | (rw [hset_n _ _ (by omega)]; first | assumption | exact hset_s _ _ _ | (rw [hset_n _ _ (by omega)]; first | assumption | exact hset_s _ _ _ | (rw [hset_n _ _ (by omega)]; first | assumption | exact hset_s _ _ _))))) rfl ?_
  refine j_callV (As := [.ref (a + 1)]) d_Cr_takeStep_8 cb_Cr_74 vv_Wk_choose hw5 rfl rfl rfl rfl (Nat.le_of_ble_eq_true rfl) (show 2 + 1 ≤ D + 4 by omega) (Nat.zero_le _) (Nat.zero_le _) (c_Wk_choose (h := hC E h a p s) (w := a + 5) (by omega) ((hCx _ _ o4).trans o1) ((hCx _ _ o5).trans o2) hC_1 (by omega) (by omega) (by omega) o7 hK hs.1) (fun v' h' n' q _ => ?_)
  obtain ⟨rfl, rfl, q3⟩ := q; have q3 := q3.symm; subst q3
  have hfin : tsF K N M cc cnt vf tkf φ s ws = tsL K N M vf tkf φ (chF tkf cnt K s.1 ws.1 ws.2.1).2.2 cc 0 (s, ((chF tkf cnt K s.1 ws.1 ws.2.1).1, (chF tkf cnt K s.1 ws.1 ws.2.1).2.1, ws.2.2)) := rfl
  rw [hfin]
  have hchB := chF_B (tkf := tkf) (my := s.1) o7 K 0 (ws.1, ws.2.1, 1) hs.1 hs.2.1
  generalize hch : chF tkf cnt K s.1 ws.1 ws.2.1 = ch
  rw [show (List.range' 0 K).foldl (chS tkf cnt s.1) (ws.1, ws.2.1, 1) = ch from hch] at hchB
  have hlay : ch.2.2 < 2 ^ 31 := by
    have h1 := hchB.2.2
    have h2 : 24 ^ K ≤ 24 ^ 3 := Nat.pow_le_pow_right (by omega) hK
    have h3 : (24 : Nat) ^ 3 = 13824 := by decide
    simp only [Nat.one_mul] at h1
    omega
  have hs1 : WB (ch.1, ch.2.1, ws.2.2) := ⟨hchB.1, hchB.2.1, hs.2.2⟩
  show J E m_Cr_takeStep (D + 4) 0 0 11 _ _ (hCr E h a p od K s (ch.1, ch.2.1, ws.2.2)) _ _
  refine j_istore_n d_Cr_takeStep_11 (by decide) ?_
  refine j_iconst (v := 0) d_Cr_takeStep_12 (by decide) ?_
  refine j_istore_n d_Cr_takeStep_13 (by decide) ?_
  have loop : ∀ (k c : Nat) (x : XS × WS) (x3 : List (Nat × Value)), c + k = cc → WB x.2 → x.1.2.2.2.2.2.2.1 ≤ 54 → (x3 = [] ∨ ∃ v, x3 = [(3, .int v)]) → J E m_Cr_takeStep (D + 4) 0 0 14 ([(0, .ref a), (1, .int (nI ch.2.2)), (2, .int (nI c))] ++ x3) [] (hCr E h a p od K x.1 x.2) n (Rt (some (.int (tsL K N M vf tkf φ ch.2.2 k c x).1)) (hCr E h a p od K (tsL K N M vf tkf φ ch.2.2 k c x).2.1 (tsL K N M vf tkf φ ch.2.2 k c x).2.2) n) := by
    intro k
    induction k with
    | zero =>
      intro c x x3 hc hx hx54 hx3
      have hc : c = cc := by omega
      subst hc
      have hx0 := hCr_0 (E := E) (h := h) (a := a) (p := p) (od := od) (K := K) (s := x.1) (ws := x.2)
      have hxp : hCr E h a p od K x.1 x.2 p = some (oPz (nI N) (nI K) (nI M) od cp (nI c)) := (hCr_x (Or.inl hpa)).trans hp
      refine j_iload_n d_Cr_takeStep_14 rfl ?_
      refine j_aload_n d_Cr_takeStep_15 rfl ?_
      refine j_get d_Cr_takeStep_16 fl_Cr_24 (by first | assumption | exact hset_s _ _ _ | (rw [hset_n _ _ (by omega)]; first | assumption | exact hset_s _ _ _ | (rw [hset_n _ _ (by omega)]; first | assumption | exact hset_s _ _ _ | (rw [hset_n _ _ (by omega)]; first | assumption | exact hset_s _ _ _ | (rw [hset_n _ _ (by omega)]; first | assumption | exact hset_s _ _ _))))) rfl ?_
      refine j_pV (As := []) d_Cr_takeStep_19 cb_Cr_78 vv_Pz_clueCount hxp rfl rfl rfl rfl (Nat.le_of_ble_eq_true rfl) (show 0 + 1 ≤ D + 4 by omega) (c_Pz_clueCount hxp rfl) ?_
      refine j_icmp_ge (tgt := 61) d_Cr_takeStep_22 (by decide) (fun c2 => ?_) (fun c2 => absurd (nI_le (Nat.le_refl _) (by omega)) c2)
      refine j_iconst (v := 0) d_Cr_takeStep_61 (by decide) ?_
      exact j_zret d_Cr_takeStep_62 rfl (Or.inl rfl) ⟨rfl, rfl, rfl⟩
    | succ k ih =>
      intro c x x3 hc hx hx54 hx3
      have hx0 := hCr_0 (E := E) (h := h) (a := a) (p := p) (od := od) (K := K) (s := x.1) (ws := x.2)
      have hxp : hCr E h a p od K x.1 x.2 p = some (oPz (nI N) (nI K) (nI M) od cp (nI cc)) := (hCr_x (Or.inl hpa)).trans hp
      have hxc : hCr E h a p od K x.1 x.2 cp = some (arQ E 3 20 f) := (hCr_x (Or.inl hcpa)).trans hcp
      obtain ⟨y, hy, hcr⟩ := hcl c (by omega)
      refine j_iload_n d_Cr_takeStep_14 rfl ?_
      refine j_aload_n d_Cr_takeStep_15 rfl ?_
      refine j_get d_Cr_takeStep_16 fl_Cr_24 (by first | assumption | exact hset_s _ _ _ | (rw [hset_n _ _ (by omega)]; first | assumption | exact hset_s _ _ _ | (rw [hset_n _ _ (by omega)]; first | assumption | exact hset_s _ _ _ | (rw [hset_n _ _ (by omega)]; first | assumption | exact hset_s _ _ _ | (rw [hset_n _ _ (by omega)]; first | assumption | exact hset_s _ _ _))))) rfl ?_
      refine j_pV (As := []) d_Cr_takeStep_19 cb_Cr_78 vv_Pz_clueCount hxp rfl rfl rfl rfl (Nat.le_of_ble_eq_true rfl) (show 0 + 1 ≤ D + 4 by omega) (c_Pz_clueCount hxp rfl) ?_
      refine j_icmp_ge (tgt := 61) d_Cr_takeStep_22 (by decide) (fun c2 => absurd c2 (nI_ge (by omega) (by omega))) (fun c2 => ?_)
      refine j_aload_n d_Cr_takeStep_25 rfl ?_
      refine j_aload_n d_Cr_takeStep_26 rfl ?_
      refine j_get d_Cr_takeStep_27 fl_Cr_24 (by first | assumption | exact hset_s _ _ _ | (rw [hset_n _ _ (by omega)]; first | assumption | exact hset_s _ _ _ | (rw [hset_n _ _ (by omega)]; first | assumption | exact hset_s _ _ _ | (rw [hset_n _ _ (by omega)]; first | assumption | exact hset_s _ _ _ | (rw [hset_n _ _ (by omega)]; first | assumption | exact hset_s _ _ _))))) rfl ?_
      refine j_iload_n d_Cr_takeStep_30 rfl ?_
      refine j_pV (As := [.int _]) d_Cr_takeStep_31 cb_Cr_81 vv_Pz_clue hxp rfl rfl rfl rfl (Nat.le_of_ble_eq_true rfl) (show 0 + 1 ≤ D + 4 by omega) (c_Pz_clue hxp hxc (vp_in_nI (by omega) (by omega)) (by rw [nI_clamp (by omega)]; exact hy)) ?_
      refine j_iload_n d_Cr_takeStep_34 rfl ?_
      refine j_callV (As := [.ref y, .int (nI ch.2.2)]) d_Cr_takeStep_35 cb_Cr_85 vv_Cr_look hx0 rfl rfl rfl rfl (Nat.le_of_ble_eq_true rfl) (show D + 3 + 1 ≤ D + 4 by omega) (Nat.zero_le _) (Nat.zero_le _) (c_Cr_look F0 O0 hcr hx hlay) (fun v' h' n' q _ => ?_)
      obtain ⟨rfl, rfl, q3⟩ := q; have q3 := q3.symm; subst q3
      generalize hlk : lkF K N M vf tkf (φ c) ch.2.2 x.1 x.2 = lk
      have hlkB : WB lk.2 := by rw [← hlk]; exact lkF_WB hx
      have hlk54 : lk.1.2.2.2.2.2.2.1 ≤ 54 := by rw [← hlk, lkF_k]; exact hx54
      have hy0 := hCr_0 (E := E) (h := h) (a := a) (p := p) (od := od) (K := K) (s := lk.1) (ws := lk.2)
      have e1 : tsL K N M vf tkf φ ch.2.2 (k + 1) c x = if 0 < cuF K lk.1 then (1, xoF K lk.1 c (cuF K lk.1), lk.2) else tsL K N M vf tkf φ ch.2.2 k (c + 1) lk := by rw [← hlk]; rfl
      rw [e1]
      refine j_aload_n d_Cr_takeStep_38 rfl ?_
      refine j_pV (As := []) d_Cr_takeStep_39 cb_Cr_89 vv_Cr_countUnseen hy0 rfl rfl rfl rfl (Nat.le_of_ble_eq_true rfl) (show 1 + 1 ≤ D + 4 by omega) (c_Cr_countUnseen hp hpa hK) ?_
      rcases hx3 with rfl | ⟨v3, rfl⟩
      all_goals
        refine j_istore_n d_Cr_takeStep_42 (by decide) ?_
        refine j_iload_n d_Cr_takeStep_43 rfl ?_
        refine j_if_le (tgt := 55) d_Cr_takeStep_44 (by decide) (fun c3 => ?_) (fun c3 => ?_)
        · rw [if_neg (Int32.not_lt.mpr c3)]
          refine j_iinc (v := nI (c + 1)) d_Cr_takeStep_55 rfl (nI_succ c).symm (by decide) ?_
          refine j_goto (tgt := 14) d_Cr_takeStep_58 (by decide) ?_
          exact ih (c + 1) lk [(3, .int (cuF K lk.1))] (by omega) hlkB hlk54 (Or.inr ⟨_, rfl⟩)
        · rw [if_pos (Int32.not_le.mp c3)]
          refine j_aload_n d_Cr_takeStep_47 rfl ?_
          refine j_iload_n d_Cr_takeStep_48 rfl ?_
          refine j_iload_n d_Cr_takeStep_49 rfl ?_
          refine j_callV (As := [.int (nI c), .int (cuF K lk.1)]) d_Cr_takeStep_50 cb_Cr_92 vv_Cr_crossOut hy0 rfl rfl rfl rfl (Nat.le_of_ble_eq_true rfl) (show 1 + 1 ≤ D + 4 by omega) (Nat.zero_le _) (Nat.zero_le _) (c_Cr_crossOut hb hp hpa hK hlk54) (fun v' h' n' q _ => ?_)
          obtain ⟨rfl, rfl, q3⟩ := q; have q3 := q3.symm; subst q3
          refine j_iconst (v := 1) d_Cr_takeStep_53 (by decide) ?_
          exact j_zret d_Cr_takeStep_54 rfl (Or.inr rfl) ⟨rfl, rfl, rfl⟩
  exact loop cc 0 (s, (ch.1, ch.2.1, ws.2.2)) [] (by omega) hs1 hst (Or.inl rfl)
end CR3
end
section
section CTO
variable {E : EV} {h : HP} {n a p od K : Nat}
theorem xoF_54 {s : XS} {c : Nat} {u : Int32} (h : s.2.2.2.2.2.2.1 ≤ 54) : (xoF K s c u).2.2.2.2.2.2.1 ≤ 54 := by
  unfold xoF
  split
  · show s.2.2.2.2.2.2.1 + 1 ≤ 54; omega
  · exact h
theorem tsL_B {N M lay : Nat} {vf : Nat → Nat} {tkf : Nat → Int32} {φ : Nat → (Nat → Int32) → Int32} : ∀ (k c : Nat) (x : XS × WS), WB x.2 → x.1.2.2.2.2.2.2.1 ≤ 54 → WB (tsL K N M vf tkf φ lay k c x).2.2 ∧ (tsL K N M vf tkf φ lay k c x).2.1.2.2.2.2.2.2.1 ≤ 54
  | 0, _, _, h1, h2 => ⟨h1, h2⟩
  | k + 1, c, x, h1, h2 => by
    have e : (lkF K N M vf tkf (φ c) lay x.1 x.2).1.2.2.2.2.2.2.1 ≤ 54 := by rw [lkF_k]; exact h2
    have w : WB (lkF K N M vf tkf (φ c) lay x.1 x.2).2 := lkF_WB h1
    unfold tsL
    split
    · exact ⟨w, xoF_54 e⟩
    · exact tsL_B k (c + 1) _ w e
theorem tsF_B {N M cc cnt : Nat} {vf : Nat → Nat} {tkf : Nat → Int32} {φ : Nat → (Nat → Int32) → Int32} {s : XS} {ws : WS} (hc : cnt ≤ 24) (h1 : WB ws) (h2 : s.2.2.2.2.2.2.1 ≤ 54) : WB (tsF K N M cc cnt vf tkf φ s ws).2.2 ∧ (tsF K N M cc cnt vf tkf φ s ws).2.1.2.2.2.2.2.2.1 ≤ 54 := by
  have hchB := chF_B (tkf := tkf) (my := s.1) hc K 0 (ws.1, ws.2.1, 1) h1.1 h1.2.1
  exact tsL_B cc 0 (s, ((chF tkf cnt K s.1 ws.1 ws.2.1).1, (chF tkf cnt K s.1 ws.1 ws.2.1).2.1, ws.2.2)) ⟨hchB.1, hchB.2.1, h1.2.2⟩ h2
theorem c_Cr_finish {N M cc D tk vl cnt : Nat} {al : Int32} {tkf : Nat → Int32} {vf : Nat → Nat} {φ : Nat → (Nat → Int32) → Int32} {s : XS} {ws : WS} (F : PzG E h a p od K N M cc D φ) (O : OdF E h a od N tk vl cnt al tkf vf) (hs : WB ws) (hst : s.2.2.2.2.2.2.1 ≤ 54) (hf : s.2.2.2.2.2.2.2 = 0) :
    Ct E m_Cr_finish (D + 5) 0 0 [.ref a] (hCr E h a p od K s ws) n (Rt none (hCr E h a p od K (fiL K N M cc cnt vf tkf φ 54 1 ((s.1, s.2.1, s.2.2.1, s.2.2.2.1, s.2.2.2.2.1, s.2.2.2.2.2.1, s.2.2.2.2.2.2.1, 1), ws)).1 (fiL K N M cc cnt vf tkf φ 54 1 ((s.1, s.2.1, s.2.2.1, s.2.2.2.1, s.2.2.2.2.1, s.2.2.2.2.2.1, s.2.2.2.2.2.2.1, 1), ws)).2) n) := by
  have hb : E.2.2.2.1 ≤ a := by obtain ⟨_, _, _, _, _, _, _, _, _, _, _, _, _, _, _, hb⟩ := F; exact hb
  have hcnt : cnt ≤ 24 := O.2.2.2.2.2.2.1
  refine Ct.go rfl rfl rfl ?_
  obtain ⟨my, sn, mb, sb, sc, sk, st, fi⟩ := s
  dsimp only at hst hf
  subst hf
  have hw0 := hCr_0 (E := E) (h := h) (a := a) (p := p) (od := od) (K := K) (s := (my, sn, mb, sb, sc, sk, st, 0)) (ws := ws)
  refine j_aload_n d_Cr_finish_0 rfl ?_
  refine j_get d_Cr_finish_1 fl_Cr_66 (by first | assumption | exact hset_s _ _ _ | (rw [hset_n _ _ (by omega)]; first | assumption | exact hset_s _ _ _ | (rw [hset_n _ _ (by omega)]; first | assumption | exact hset_s _ _ _ | (rw [hset_n _ _ (by omega)]; first | assumption | exact hset_s _ _ _ | (rw [hset_n _ _ (by omega)]; first | assumption | exact hset_s _ _ _))))) rfl ?_
  refine j_if_eq (tgt := 8) d_Cr_finish_4 (by decide) (fun c2 => ?_) (fun c2 => absurd rfl c2)
  refine j_aload_n d_Cr_finish_8 rfl ?_
  refine j_iconst (v := 1) d_Cr_finish_9 (by decide) ?_
  refine j_put d_Cr_finish_10 fl_Cr_66 fp_Cr (Or.inl rfl) hw0 hb rfl rfl (Nat.le_of_ble_eq_true rfl) ?_
  refine J.conv (L := _) rfl (show _ = hCr E h a p od K (my, sn, mb, sb, sc, sk, st, 1) ws from hCr_s0) ?_
  refine j_iconst (v := 1) d_Cr_finish_13 (by decide) ?_
  refine j_istore_n d_Cr_finish_14 (by decide) ?_
  refine j_iconst (v := 0) d_Cr_finish_15 (by decide) ?_
  refine j_istore_n d_Cr_finish_16 (by decide) ?_
  have loop : ∀ (k i : Nat) (m : Int32) (x : XS × WS), i + k = 54 → WB x.2 → x.1.2.2.2.2.2.2.1 ≤ 54 → J E m_Cr_finish (D + 5) 0 0 17 [(0, .ref a), (1, .int m), (2, .int (nI i))] [] (hCr E h a p od K x.1 x.2) n (Rt none (hCr E h a p od K (fiL K N M cc cnt vf tkf φ k m x).1 (fiL K N M cc cnt vf tkf φ k m x).2) n) := by
    intro k
    induction k with
    | zero =>
      intro i m x hi hx hx54
      have hi : i = 54 := by omega
      subst hi
      refine j_iload_n d_Cr_finish_17 rfl ?_
      refine j_bipush (v := 54) d_Cr_finish_18 (by decide) ?_
      refine j_icmp_ge (tgt := 38) d_Cr_finish_20 (by decide) (fun c2 => ?_) (fun c2 => absurd (by decide) c2)
      exact j_vret d_Cr_finish_38 rfl ⟨rfl, rfl, rfl⟩
    | succ k ih =>
      intro i m x hi hx hx54
      have hx0 := hCr_0 (E := E) (h := h) (a := a) (p := p) (od := od) (K := K) (s := x.1) (ws := x.2)
      refine j_iload_n d_Cr_finish_17 rfl ?_
      refine j_bipush (v := 54) d_Cr_finish_18 (by decide) ?_
      refine j_icmp_ge (tgt := 38) d_Cr_finish_20 (by decide) (fun c2 => absurd c2 (nI_ge (a := i) (b := 54) (by omega) (by omega))) (fun c2 => ?_)
      refine j_iload_n d_Cr_finish_23 rfl ?_
      refine j_if_eq (tgt := 38) d_Cr_finish_24 (by decide) (fun c3 => ?_) (fun c3 => ?_)
      · rw [show fiL K N M cc cnt vf tkf φ (k + 1) m x = x from if_pos c3]
        exact j_vret d_Cr_finish_38 rfl ⟨rfl, rfl, rfl⟩
      · rw [show fiL K N M cc cnt vf tkf φ (k + 1) m x = fiL K N M cc cnt vf tkf φ k (tsF K N M cc cnt vf tkf φ x.1 x.2).1 (tsF K N M cc cnt vf tkf φ x.1 x.2).2 from if_neg c3]
        refine j_aload_n d_Cr_finish_27 rfl ?_
        refine j_callV (As := []) d_Cr_finish_28 cb_Cr_70 vv_Cr_takeStep hx0 rfl rfl rfl rfl (Nat.le_of_ble_eq_true rfl) (show D + 4 + 1 ≤ D + 5 by omega) (Nat.zero_le _) (Nat.zero_le _) (c_Cr_takeStep F O hx hx54) (fun v' h' n' q _ => ?_)
        obtain ⟨rfl, rfl, q3⟩ := q; have q3 := q3.symm; subst q3
        have hB := tsF_B (N := N) (M := M) (cc := cc) (vf := vf) (tkf := tkf) (φ := φ) hcnt hx hx54 (K := K)
        refine j_istore_n d_Cr_finish_31 (by decide) ?_
        refine j_iinc (v := nI (i + 1)) d_Cr_finish_32 rfl (nI_succ i).symm (by decide) ?_
        refine j_goto (tgt := 17) d_Cr_finish_35 (by decide) ?_
        exact ih (i + 1) _ (tsF K N M cc cnt vf tkf φ x.1 x.2).2 (by omega) hB.1 hB.2
  exact loop 54 0 1 ((my, sn, mb, sb, sc, sk, st, 1), ws) (by omega) hs hst
theorem c_Cr_finish2 {d : Nat} {s : XS} {ws : WS} (hf : ¬ s.2.2.2.2.2.2.2 = 0) : Ct E m_Cr_finish d 0 0 [.ref a] (hCr E h a p od K s ws) n (Rt none (hCr E h a p od K s ws) n) := by
  refine Ct.go rfl rfl rfl ?_
  have hw0 := hCr_0 (E := E) (h := h) (a := a) (p := p) (od := od) (K := K) (s := s) (ws := ws)
  refine j_aload_n d_Cr_finish_0 rfl ?_
  refine j_get d_Cr_finish_1 fl_Cr_66 (by first | assumption | exact hset_s _ _ _ | (rw [hset_n _ _ (by omega)]; first | assumption | exact hset_s _ _ _ | (rw [hset_n _ _ (by omega)]; first | assumption | exact hset_s _ _ _ | (rw [hset_n _ _ (by omega)]; first | assumption | exact hset_s _ _ _ | (rw [hset_n _ _ (by omega)]; first | assumption | exact hset_s _ _ _))))) rfl ?_
  refine j_if_eq (tgt := 8) d_Cr_finish_4 (by decide) (fun c2 => absurd c2 hf) (fun c2 => ?_)
  exact j_vret d_Cr_finish_7 rfl ⟨rfl, rfl, rfl⟩
/-! countWith -/
def cwF (cnt : Nat) (vf : Nat → Nat) (co : Nat → Int32) (t kd v : Nat) : Int32 := (List.range' 0 cnt).foldl (fun u o => if vf (4 * o + t) = v then u + co (24 * kd + o) else u) 0
theorem c_An_countWith {cp N M cc tk vl cnt t kd v : Nat} {al : Int32} {tkf : Nat → Int32} {vf : Nat → Nat} {s : AS} {ws : WS} (hp : h p = some (oPz (nI N) (nI K) (nI M) od cp (nI cc))) (hpa : p < a) (O : OdF E h a od N tk vl cnt al tkf vf) (ht : t < 4) (hkd : kd < 3) (hv : v < 4) :
    Ct E m_An_countWith 1 0 0 [.ref a, .int (nI t), .int (nI kd), .int (nI v)] (hAn E h a p od K s ws) n (Rt (some (.int (cwF cnt vf s.2.2.1 t kd v))) (hAn E h a p od K s ws) n) := by
  obtain ⟨o1, o2, o3, o4, o5, o6, o7, o8, o9⟩ := O
  refine Ct.go rfl rfl rfl ?_
  have hw0 := hAn_0 (E := E) (h := h) (a := a) (p := p) (od := od) (K := K) (s := s) (ws := ws)
  have hw3 := hAn_3 (E := E) (h := h) (a := a) (p := p) (od := od) (K := K) (s := s) (ws := ws)
  have hwp : hAn E h a p od K s ws p = some (oPz (nI N) (nI K) (nI M) od cp (nI cc)) := (hAn_x (Or.inl hpa)).trans hp
  have hwo : hAn E h a p od K s ws od = some (oOd (nI N) tk vl (nI cnt) al) := (hAn_x (Or.inl o4)).trans o1
  have hwv : hAn E h a p od K s ws vl = some (arI E 0 96 (nA vf)) := (hAn_x (Or.inl o6)).trans o3
  refine j_iconst (v := 0) d_An_countWith_0 (by decide) ?_
  refine j_istore d_An_countWith_1 (by decide) ?_
  refine j_iconst (v := 0) d_An_countWith_3 (by decide) ?_
  refine j_istore d_An_countWith_4 (by decide) ?_
  have loop : ∀ (k o : Nat) (u : Int32), o + k = cnt → J E m_An_countWith 1 0 0 6 [(0, .ref a), (1, .int (nI t)), (2, .int (nI kd)), (3, .int (nI v)), (4, .int u), (5, .int (nI o))] [] (hAn E h a p od K s ws) n (Rt (some (.int ((List.range' o k).foldl (fun u o => if vf (4 * o + t) = v then u + s.2.2.1 (24 * kd + o) else u) u))) (hAn E h a p od K s ws) n) := by
    intro k
    induction k with
    | zero =>
      intro o u ho
      have ho : o = cnt := by omega
      subst ho
      refine j_iload d_An_countWith_6 rfl ?_
      refine j_aload_n d_An_countWith_8 rfl ?_
      refine j_get d_An_countWith_9 fl_An_28 (by first | assumption | exact hset_s _ _ _ | (rw [hset_n _ _ (by omega)]; first | assumption | exact hset_s _ _ _ | (rw [hset_n _ _ (by omega)]; first | assumption | exact hset_s _ _ _ | (rw [hset_n _ _ (by omega)]; first | assumption | exact hset_s _ _ _ | (rw [hset_n _ _ (by omega)]; first | assumption | exact hset_s _ _ _))))) rfl ?_
      refine j_pV (As := []) d_An_countWith_12 cb_An_48 vv_Pz_orders hwp rfl rfl rfl rfl (Nat.le_of_ble_eq_true rfl) (by decide) (c_Pz_orders hwp rfl) ?_
      refine j_pV (As := []) d_An_countWith_15 cb_An_63 vv_Od_count hwo rfl rfl rfl rfl (Nat.le_of_ble_eq_true rfl) (by decide) (c_Od_count hwo rfl) ?_
      refine j_icmp_ge (tgt := 61) d_An_countWith_18 (by decide) (fun c2 => ?_) (fun c2 => absurd (nI_le (Nat.le_refl _) (by omega)) c2)
      refine j_iload d_An_countWith_61 rfl ?_
      exact j_iret d_An_countWith_63 rfl ⟨rfl, rfl, rfl⟩
    | succ k ih =>
      intro o u ho
      have hb := o9 (4 * o + t)
      have e1 : 4 * nI o + nI t = nI (4 * o + t) := nI_4 _ _
      refine j_iload d_An_countWith_6 rfl ?_
      refine j_aload_n d_An_countWith_8 rfl ?_
      refine j_get d_An_countWith_9 fl_An_28 (by first | assumption | exact hset_s _ _ _ | (rw [hset_n _ _ (by omega)]; first | assumption | exact hset_s _ _ _ | (rw [hset_n _ _ (by omega)]; first | assumption | exact hset_s _ _ _ | (rw [hset_n _ _ (by omega)]; first | assumption | exact hset_s _ _ _ | (rw [hset_n _ _ (by omega)]; first | assumption | exact hset_s _ _ _))))) rfl ?_
      refine j_pV (As := []) d_An_countWith_12 cb_An_48 vv_Pz_orders hwp rfl rfl rfl rfl (Nat.le_of_ble_eq_true rfl) (by decide) (c_Pz_orders hwp rfl) ?_
      refine j_pV (As := []) d_An_countWith_15 cb_An_63 vv_Od_count hwo rfl rfl rfl rfl (Nat.le_of_ble_eq_true rfl) (by decide) (c_Od_count hwo rfl) ?_
      refine j_icmp_ge (tgt := 61) d_An_countWith_18 (by decide) (fun c2 => absurd c2 (nI_ge (by omega) (by omega))) (fun c2 => ?_)
      refine j_aload_n d_An_countWith_21 rfl ?_
      refine j_get d_An_countWith_22 fl_An_28 (by first | assumption | exact hset_s _ _ _ | (rw [hset_n _ _ (by omega)]; first | assumption | exact hset_s _ _ _ | (rw [hset_n _ _ (by omega)]; first | assumption | exact hset_s _ _ _ | (rw [hset_n _ _ (by omega)]; first | assumption | exact hset_s _ _ _ | (rw [hset_n _ _ (by omega)]; first | assumption | exact hset_s _ _ _))))) rfl ?_
      refine j_pV (As := []) d_An_countWith_25 cb_An_48 vv_Pz_orders hwp rfl rfl rfl rfl (Nat.le_of_ble_eq_true rfl) (by decide) (c_Pz_orders hwp rfl) ?_
      refine j_iload d_An_countWith_28 rfl ?_
      refine j_iload_n d_An_countWith_30 rfl ?_
      refine j_pV (As := [.int _, .int _]) d_An_countWith_31 cb_An_54 vv_Od_value hwo rfl rfl rfl rfl (Nat.le_of_ble_eq_true rfl) (by decide) (c_Od_value hwo hwv (by rw [e1]; exact vp_in_nI (by omega) (by omega))) ?_
      rw [e1, nI_clamp (by omega)]
      refine j_iload_n d_An_countWith_34 rfl ?_
      rw [List.range'_succ, List.foldl_cons]
      refine j_icmp_ne (tgt := 55) d_An_countWith_35 (by decide) (fun c3 => ?_) (fun c3 => ?_)
      · rw [if_neg (fun q => c3 (congrArg nI q))]
        refine j_iinc (v := nI (o + 1)) d_An_countWith_55 rfl (nI_succ o).symm (by decide) ?_
        refine j_goto (tgt := 6) d_An_countWith_58 (by decide) ?_
        exact ih (o + 1) u (by omega)
      · rw [if_pos ((nI_eq (by omega) (by omega)).mp c3)]
        have e2 : (24 * nI kd + nI o) = nI (24 * kd + o) := n24 _ _
        refine j_iload d_An_countWith_38 rfl ?_
        refine j_aload_n d_An_countWith_40 rfl ?_
        refine j_get d_An_countWith_41 fl_An_18 (by first | assumption | exact hset_s _ _ _ | (rw [hset_n _ _ (by omega)]; first | assumption | exact hset_s _ _ _ | (rw [hset_n _ _ (by omega)]; first | assumption | exact hset_s _ _ _ | (rw [hset_n _ _ (by omega)]; first | assumption | exact hset_s _ _ _ | (rw [hset_n _ _ (by omega)]; first | assumption | exact hset_s _ _ _))))) rfl ?_
        refine j_bipush (v := 24) d_An_countWith_44 (by decide) ?_
        refine j_iload_n d_An_countWith_46 rfl ?_
        refine j_imul d_An_countWith_47 ?_
        refine j_iload d_An_countWith_48 rfl ?_
        refine j_iadd d_An_countWith_50 ?_
        refine j_iald (t := 0) (x := s.2.2.1 (24 * kd + o)) d_An_countWith_51 rfl hw3 (by rw [e2]; exact vp_in_nI (by omega) (by omega)) (by rw [e2, nI_clamp (by omega)]) ?_
        refine j_iadd d_An_countWith_52 ?_
        refine j_istore d_An_countWith_53 (by decide) ?_
        refine j_iinc (v := nI (o + 1)) d_An_countWith_55 rfl (nI_succ o).symm (by decide) ?_
        refine j_goto (tgt := 6) d_An_countWith_58 (by decide) ?_
        exact ih (o + 1) _ (by omega)
  exact loop cnt 0 0 (by omega)
/-! new objects -/
theorem c_Ov_init {sg v w : Int32} (h0 : E.2.2.2.1 ≤ n) : Ct E m_Ov_init 1 0 0 [.ref n, .int sg, .int v, .int w] (hset h n (.inr (5, [.int 0, .int 0, .int 0]))) (n + 1) (Rt none (hset h n (oOv sg v w)) (n + 1)) := by
  refine Ct.go rfl rfl rfl ?_
  refine j_aload_n d_Ov_init_0 rfl ?_
  refine j_obj d_Ov_init_1 ob_Ov_1 obi obc (by decide) (by decide) ?_
  refine j_aload_n d_Ov_init_4 rfl ?_
  refine j_iload_n d_Ov_init_5 rfl ?_
  refine j_put d_Ov_init_6 fl_Ov_7 fp_Ov (Or.inr ⟨rfl, rfl, rfl⟩) (by first | assumption | exact hset_s _ _ _ | (rw [hset_n _ _ (by omega)]; first | assumption | exact hset_s _ _ _ | (rw [hset_n _ _ (by omega)]; first | assumption | exact hset_s _ _ _ | (rw [hset_n _ _ (by omega)]; first | assumption | exact hset_s _ _ _ | (rw [hset_n _ _ (by omega)]; first | assumption | exact hset_s _ _ _))))) (by omega) rfl rfl (Nat.le_of_ble_eq_true rfl) ?_
  refine j_aload_n d_Ov_init_9 rfl ?_
  refine j_iload_n d_Ov_init_10 rfl ?_
  refine j_put d_Ov_init_11 fl_Ov_13 fp_Ov (Or.inr ⟨rfl, rfl, rfl⟩) (by first | assumption | exact hset_s _ _ _ | (rw [hset_n _ _ (by omega)]; first | assumption | exact hset_s _ _ _ | (rw [hset_n _ _ (by omega)]; first | assumption | exact hset_s _ _ _ | (rw [hset_n _ _ (by omega)]; first | assumption | exact hset_s _ _ _ | (rw [hset_n _ _ (by omega)]; first | assumption | exact hset_s _ _ _))))) (by omega) rfl rfl (Nat.le_of_ble_eq_true rfl) ?_
  refine j_aload_n d_Ov_init_14 rfl ?_
  refine j_iload_n d_Ov_init_15 rfl ?_
  refine j_put d_Ov_init_16 fl_Ov_16 fp_Ov (Or.inr ⟨rfl, rfl, rfl⟩) (by first | assumption | exact hset_s _ _ _ | (rw [hset_n _ _ (by omega)]; first | assumption | exact hset_s _ _ _ | (rw [hset_n _ _ (by omega)]; first | assumption | exact hset_s _ _ _ | (rw [hset_n _ _ (by omega)]; first | assumption | exact hset_s _ _ _ | (rw [hset_n _ _ (by omega)]; first | assumption | exact hset_s _ _ _))))) (by omega) rfl rfl (Nat.le_of_ble_eq_true rfl) ?_
  exact j_vret d_Ov_init_19 rfl ⟨rfl, by simp only [hset_hset]; rfl, rfl⟩
theorem c_Op_init {q : Nat} (h0 : E.2.2.2.1 ≤ n) (hq : q < 3) (ht : h (E.2.2.2.2 0) = some (arI E 0 3 truthF)) (hn : E.2.2.2.2 0 < n) : Ct E m_Op_init 1 0 0 [.ref n, .int (nI q)] (hset h n (.inr (4, [.int 0]))) (n + 1) (Rt none (hset h n (oOp (truthF q))) (n + 1)) := by
  refine Ct.go rfl rfl rfl ?_
  have ht2 : hset h n (.inr (4, [.int 0])) (E.2.2.2.2 0) = some (arI E 0 3 truthF) := by rw [hset_n _ _ (by omega)]; exact ht
  refine j_aload_n d_Op_init_0 rfl ?_
  refine j_obj d_Op_init_1 ob_Op_1 obi obc (by decide) (by decide) ?_
  refine j_aload_n d_Op_init_4 rfl ?_
  refine j_getsN (C := "ClueLogic") (nm := "TRUTHFUL") (ds := "[I") (host := "ClueLogic") (v := .ref (E.2.2.2.2 0)) d_Op_init_5 (by simp [stats]) (by decide +kernel) ?_
  refine j_iload_n d_Op_init_8 rfl ?_
  refine j_iald (t := 0) (x := truthF q) d_Op_init_9 rfl ht2 (vp_in_nI hq (by omega)) (by rw [nI_clamp (by omega)]) ?_
  refine j_put d_Op_init_10 fl_Op_13 fp_Op (Or.inr ⟨rfl, rfl, rfl⟩) (by first | assumption | exact hset_s _ _ _ | (rw [hset_n _ _ (by omega)]; first | assumption | exact hset_s _ _ _ | (rw [hset_n _ _ (by omega)]; first | assumption | exact hset_s _ _ _ | (rw [hset_n _ _ (by omega)]; first | assumption | exact hset_s _ _ _ | (rw [hset_n _ _ (by omega)]; first | assumption | exact hset_s _ _ _))))) (by omega) rfl rfl (Nat.le_of_ble_eq_true rfl) ?_
  exact j_vret d_Op_init_13 rfl ⟨rfl, by simp only [hset_hset]; rfl, rfl⟩
theorem c_Tu_init {t : Int32} {q : Nat} (h0 : E.2.2.2.1 ≤ n) : Ct E m_Tu_init 1 0 0 [.ref n, .int t, .ref q] (hset h n (.inr (9, [.int 0, .null]))) (n + 1) (Rt none (hset h n (oTu t q)) (n + 1)) := by
  refine Ct.go rfl rfl rfl ?_
  refine j_aload_n d_Tu_init_0 rfl ?_
  refine j_obj d_Tu_init_1 ob_Tu_1 obi obc (by decide) (by decide) ?_
  refine j_aload_n d_Tu_init_4 rfl ?_
  refine j_iload_n d_Tu_init_5 rfl ?_
  refine j_put d_Tu_init_6 fl_Tu_7 fp_Tu (Or.inr ⟨rfl, rfl, rfl⟩) (by first | assumption | exact hset_s _ _ _ | (rw [hset_n _ _ (by omega)]; first | assumption | exact hset_s _ _ _ | (rw [hset_n _ _ (by omega)]; first | assumption | exact hset_s _ _ _ | (rw [hset_n _ _ (by omega)]; first | assumption | exact hset_s _ _ _ | (rw [hset_n _ _ (by omega)]; first | assumption | exact hset_s _ _ _))))) (by omega) rfl rfl (Nat.le_of_ble_eq_true rfl) ?_
  refine j_aload_n d_Tu_init_9 rfl ?_
  refine j_aload_n d_Tu_init_10 rfl ?_
  refine j_put d_Tu_init_11 fl_Tu_13 fp_Tu (Or.inr ⟨rfl, rfl, rfl⟩) (by first | assumption | exact hset_s _ _ _ | (rw [hset_n _ _ (by omega)]; first | assumption | exact hset_s _ _ _ | (rw [hset_n _ _ (by omega)]; first | assumption | exact hset_s _ _ _ | (rw [hset_n _ _ (by omega)]; first | assumption | exact hset_s _ _ _ | (rw [hset_n _ _ (by omega)]; first | assumption | exact hset_s _ _ _))))) (by omega) rfl rfl (Nat.le_of_ble_eq_true rfl) ?_
  exact j_vret d_Tu_init_14 rfl ⟨rfl, by simp only [hset_hset]; rfl, rfl⟩
theorem c_Jo_init {b : Int32} {q r : Nat} (h0 : E.2.2.2.1 ≤ n) (hb : b = 0 ∨ b = 1) : Ct E m_Jo_init 1 0 0 [.ref n, .int b, .ref q, .ref r] (hset h n (.inr (3, [.int 0, .null, .null]))) (n + 1) (Rt none (hset h n (oJo b q r)) (n + 1)) := by
  refine Ct.go rfl rfl rfl ?_
  refine j_aload_n d_Jo_init_0 rfl ?_
  refine j_obj d_Jo_init_1 ob_Jo_1 obi obc (by decide) (by decide) ?_
  refine j_aload_n d_Jo_init_4 rfl ?_
  refine j_iload_n d_Jo_init_5 rfl ?_
  refine j_put d_Jo_init_6 fl_Jo_7 fp_Jo (Or.inr ⟨rfl, rfl, rfl⟩) (hset_s _ _ _) h0 (by rcases hb with rfl | rfl <;> rfl) (by rcases hb with rfl | rfl <;> rfl) (Nat.le_of_ble_eq_true rfl) ?_
  refine j_aload_n d_Jo_init_9 rfl ?_
  refine j_aload_n d_Jo_init_10 rfl ?_
  refine j_put d_Jo_init_11 fl_Jo_13 fp_Jo (Or.inr ⟨rfl, rfl, rfl⟩) (by first | assumption | exact hset_s _ _ _ | (rw [hset_n _ _ (by omega)]; first | assumption | exact hset_s _ _ _ | (rw [hset_n _ _ (by omega)]; first | assumption | exact hset_s _ _ _ | (rw [hset_n _ _ (by omega)]; first | assumption | exact hset_s _ _ _ | (rw [hset_n _ _ (by omega)]; first | assumption | exact hset_s _ _ _))))) (by omega) rfl rfl (Nat.le_of_ble_eq_true rfl) ?_
  refine j_aload_n d_Jo_init_14 rfl ?_
  refine j_aload_n d_Jo_init_15 rfl ?_
  refine j_put d_Jo_init_16 fl_Jo_17 fp_Jo (Or.inr ⟨rfl, rfl, rfl⟩) (by first | assumption | exact hset_s _ _ _ | (rw [hset_n _ _ (by omega)]; first | assumption | exact hset_s _ _ _ | (rw [hset_n _ _ (by omega)]; first | assumption | exact hset_s _ _ _ | (rw [hset_n _ _ (by omega)]; first | assumption | exact hset_s _ _ _ | (rw [hset_n _ _ (by omega)]; first | assumption | exact hset_s _ _ _))))) (by omega) rfl rfl (Nat.le_of_ble_eq_true rfl) ?_
  exact j_vret d_Jo_init_19 rfl ⟨rfl, by simp only [hset_hset]; rfl, rfl⟩
end CTO
end
