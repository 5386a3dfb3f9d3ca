theorem wd_1 : (Jvm.Cond.initialized "ClueLogic") ∈ GW := mwT 1 (by decide +kernel) rfl
theorem wd_2 : (Jvm.Cond.initialized "ClueLogic$Puzzle") ∈ GW := mwT 2 (by decide +kernel) rfl
theorem wd_3 : (Jvm.Cond.initialized "ClueLogic$Orders") ∈ GW := mwT 3 (by decide +kernel) rfl
theorem wd_4 : (Jvm.Cond.initialized "java/lang/Integer") ∈ GW := mwT 4 (by decide +kernel) rfl
theorem wd_5 : (Jvm.Cond.initialized "ClueLogic$Answers") ∈ GW := mwT 5 (by decide +kernel) rfl
theorem wd_6 : (Jvm.Cond.initialized "ClueLogic$Walk") ∈ GW := mwT 6 (by decide +kernel) rfl
theorem wd_7 : (Jvm.Cond.initialized "ClueLogic$Crossing") ∈ GW := mwT 7 (by decide +kernel) rfl
theorem wd_8 : (Jvm.Cond.initialized "ClueLogicModel") ∈ GW := mwT 8 (by decide +kernel) rfl
theorem wd_9 : (Jvm.Cond.initialized "ClueLogic$Reader") ∈ GW := mwT 9 (by decide +kernel) rfl
theorem wd_10 : (Jvm.Cond.initialized "java/lang/String") ∈ GW := mwT 10 (by decide +kernel) rfl
theorem wd_11 : (Jvm.Cond.initialized "java/lang/StringLatin1") ∈ GW := mwT 11 (by decide +kernel) rfl
theorem wd_12 : (Jvm.Cond.initialized "java/lang/Math") ∈ GW := mwT 12 (by decide +kernel) rfl
theorem wd_13 : (Jvm.Cond.initialized "java/lang/StringUTF16") ∈ GW := mwT 13 (by decide +kernel) rfl
theorem wd_14 : (Jvm.Cond.initialized "jdk/internal/util/Preconditions") ∈ GW := mwT 14 (by decide +kernel) rfl
theorem wd_15 : (Jvm.Cond.initialized "java/lang/Character") ∈ GW := mwT 15 (by decide +kernel) rfl
theorem wd_16 : (Jvm.Cond.initialized "ClueLogic$OfPerson") ∈ GW := mwT 16 (by decide +kernel) rfl
theorem wd_17 : (Jvm.Cond.initialized "ClueLogic$Turned") ∈ GW := mwT 17 (by decide +kernel) rfl
theorem wd_18 : (Jvm.Cond.initialized "ClueLogic$Joined") ∈ GW := mwT 18 (by decide +kernel) rfl
theorem wd_19 : (Jvm.Cond.initialized "ClueLogic$OfValues") ∈ GW := mwT 19 (by decide +kernel) rfl
theorem wd_20 : (Jvm.Cond.initialized "java/util/Arrays") ∈ GW := mwT 20 (by decide +kernel) rfl
theorem wd_21 : (Jvm.Cond.classLink "ClueLogicLaw" (7 : Nat) "ClueLogic") ∈ GW := mwT 21 (by decide +kernel) rfl
theorem wd_22 : (Jvm.Cond.instantiable "ClueLogic" (6 : Nat)) ∈ GW := mwT 22 (by decide +kernel) rfl
theorem wd_23 : (Jvm.Cond.methodLink "ClueLogicLaw" (9 : Nat) ({ cls := "ClueLogic", name := "<init>", desc := "()V" } : Jvm.MethodName)) ∈ GW := mwT 23 (by decide +kernel) rfl
theorem wd_24 : (Jvm.Cond.instanceMethod ({ cls := "ClueLogic", name := "<init>", desc := "()V" } : Jvm.MethodName)) ∈ GW := mwT 24 (by decide +kernel) rfl
theorem wd_25 : (Jvm.Cond.code ({ cls := "ClueLogic", name := "<init>", desc := "()V" } : Jvm.MethodName) prog_1_method_1_code (1 : Nat) (Option.none : Option Jvm.ClassFile.FieldType)) ∈ GW := mwT 25 (by decide +kernel) rfl
theorem wd_26 : (Jvm.Cond.methodLink "ClueLogic" (3 : Nat) ({ cls := "java/lang/Object", name := "<init>", desc := "()V" } : Jvm.MethodName)) ∈ GW := mwT 26 (by decide +kernel) rfl
theorem wd_27 : (Jvm.Cond.instanceMethod ({ cls := "java/lang/Object", name := "<init>", desc := "()V" } : Jvm.MethodName)) ∈ GW := mwT 27 (by decide +kernel) rfl
theorem wd_28 : (Jvm.Cond.code ({ cls := "java/lang/Object", name := "<init>", desc := "()V" } : Jvm.MethodName) object_method_1_code (1 : Nat) (Option.none : Option Jvm.ClassFile.FieldType)) ∈ GW := mwT 28 (by decide +kernel) rfl
theorem wd_29 : (Jvm.Cond.classLink "ClueLogic" (13 : Nat) "ClueLogic$Puzzle") ∈ GW := mwT 29 (by decide +kernel) rfl
theorem wd_30 : (Jvm.Cond.instantiable "ClueLogic$Puzzle" (6 : Nat)) ∈ GW := mwT 30 (by decide +kernel) rfl
theorem wd_31 : (Jvm.Cond.methodLink "ClueLogic" (15 : Nat) ({ cls := "ClueLogic$Puzzle", name := "<init>", desc := "(III)V" } : Jvm.MethodName)) ∈ GW := mwT 31 (by decide +kernel) rfl
theorem wd_32 : (Jvm.Cond.instanceMethod ({ cls := "ClueLogic$Puzzle", name := "<init>", desc := "(III)V" } : Jvm.MethodName)) ∈ GW := mwT 32 (by decide +kernel) rfl
theorem wd_33 : (Jvm.Cond.code ({ cls := "ClueLogic$Puzzle", name := "<init>", desc := "(III)V" } : Jvm.MethodName) prog_9_method_1_code (4 : Nat) (Option.none : Option Jvm.ClassFile.FieldType)) ∈ GW := mwT 33 (by decide +kernel) rfl
theorem wd_34 : (Jvm.Cond.methodLink "ClueLogic$Puzzle" (3 : Nat) ({ cls := "java/lang/Object", name := "<init>", desc := "()V" } : Jvm.MethodName)) ∈ GW := mwT 34 (by decide +kernel) rfl
theorem wd_35 : (Jvm.Cond.classLink "ClueLogic$Puzzle" (9 : Nat) "ClueLogic$Clue") ∈ GW := mwT 35 (by decide +kernel) rfl
theorem wd_37 : (Jvm.Cond.classLink "ClueLogic$Puzzle" (27 : Nat) "ClueLogic$Orders") ∈ GW := mwT 37 (by decide +kernel) rfl
theorem wd_38 : (Jvm.Cond.instantiable "ClueLogic$Orders" (5 : Nat)) ∈ GW := mwT 38 (by decide +kernel) rfl
theorem wd_39 : (Jvm.Cond.methodLink "ClueLogic$Puzzle" (29 : Nat) ({ cls := "ClueLogic$Orders", name := "<init>", desc := "(I)V" } : Jvm.MethodName)) ∈ GW := mwT 39 (by decide +kernel) rfl
theorem wd_40 : (Jvm.Cond.instanceMethod ({ cls := "ClueLogic$Orders", name := "<init>", desc := "(I)V" } : Jvm.MethodName)) ∈ GW := mwT 40 (by decide +kernel) rfl
theorem wd_41 : (Jvm.Cond.code ({ cls := "ClueLogic$Orders", name := "<init>", desc := "(I)V" } : Jvm.MethodName) prog_8_method_1_code (2 : Nat) (Option.none : Option Jvm.ClassFile.FieldType)) ∈ GW := mwT 41 (by decide +kernel) rfl
theorem wd_42 : (Jvm.Cond.methodLink "ClueLogic$Orders" (3 : Nat) ({ cls := "java/lang/Object", name := "<init>", desc := "()V" } : Jvm.MethodName)) ∈ GW := mwT 42 (by decide +kernel) rfl
theorem wd_43 : (Jvm.Cond.methodLink "ClueLogic$Orders" (22 : Nat) ({ cls := "ClueLogic$Orders", name := "fill", desc := "(II)V" } : Jvm.MethodName)) ∈ GW := mwT 43 (by decide +kernel) rfl
theorem wd_45 : (Jvm.Cond.instanceMethod ({ cls := "ClueLogic$Orders", name := "fill", desc := "(II)V" } : Jvm.MethodName)) ∈ GW := mwT 45 (by decide +kernel) rfl
theorem wd_46 : (Jvm.Cond.code ({ cls := "ClueLogic$Orders", name := "fill", desc := "(II)V" } : Jvm.MethodName) prog_8_method_7_code (4 : Nat) (Option.none : Option Jvm.ClassFile.FieldType)) ∈ GW := mwT 46 (by decide +kernel) rfl
theorem wd_47 : (Jvm.Cond.methodLink "ClueLogic$Orders" (32 : Nat) ({ cls := "ClueLogic$Orders", name := "add", desc := "(I)V" } : Jvm.MethodName)) ∈ GW := mwT 47 (by decide +kernel) rfl
theorem wd_49 : (Jvm.Cond.instanceMethod ({ cls := "ClueLogic$Orders", name := "add", desc := "(I)V" } : Jvm.MethodName)) ∈ GW := mwT 49 (by decide +kernel) rfl
theorem wd_50 : (Jvm.Cond.code ({ cls := "ClueLogic$Orders", name := "add", desc := "(I)V" } : Jvm.MethodName) prog_8_method_8_code (4 : Nat) (Option.none : Option Jvm.ClassFile.FieldType)) ∈ GW := mwT 50 (by decide +kernel) rfl
theorem wd_51 : (Jvm.Cond.methodLink "ClueLogic$Orders" (36 : Nat) ({ cls := "java/lang/Integer", name := "bitCount", desc := "(I)I" } : Jvm.MethodName)) ∈ GW := mwT 51 (by decide +kernel) rfl
theorem wd_52 : (Jvm.Cond.static ({ cls := "java/lang/Integer", name := "bitCount", desc := "(I)I" } : Jvm.MethodName)) ∈ GW := mwT 52 (by decide +kernel) rfl
theorem wd_53 : (Jvm.Cond.code ({ cls := "java/lang/Integer", name := "bitCount", desc := "(I)I" } : Jvm.MethodName) prog_16_method_49_code (1 : Nat) (Option.some Jvm.ClassFile.FieldType.int)) ∈ GW := mwT 53 (by decide +kernel) rfl
theorem wd_54 : (Jvm.Cond.constant "java/lang/Integer" (265 : Nat) (1431655765 : Int32)) ∈ GW := mwT 54 (by decide +kernel) rfl
theorem wd_55 : (Jvm.Cond.constant "java/lang/Integer" (266 : Nat) (858993459 : Int32)) ∈ GW := mwT 55 (by decide +kernel) rfl
theorem wd_56 : (Jvm.Cond.constant "java/lang/Integer" (267 : Nat) (252645135 : Int32)) ∈ GW := mwT 56 (by decide +kernel) rfl
theorem wd_57 : (Jvm.Cond.fieldLink "ClueLogic$Orders" (18 : Nat) "ClueLogic$Orders" "things" "I") ∈ GW := mwT 57 (by decide +kernel) rfl
theorem wd_58 : (Jvm.Cond.fieldLink "ClueLogic$Orders" (9 : Nat) "ClueLogic$Orders" "ticks" "[I") ∈ GW := mwT 58 (by decide +kernel) rfl
theorem wd_59 : (Jvm.Cond.fieldLink "ClueLogic$Orders" (15 : Nat) "ClueLogic$Orders" "value" "[I") ∈ GW := mwT 59 (by decide +kernel) rfl
theorem wd_60 : (Jvm.Cond.fieldLink "ClueLogic$Orders" (26 : Nat) "ClueLogic$Orders" "count" "I") ∈ GW := mwT 60 (by decide +kernel) rfl
theorem wd_61 : (Jvm.Cond.fieldLink "ClueLogic$Orders" (29 : Nat) "ClueLogic$Orders" "allTicks" "I") ∈ GW := mwT 61 (by decide +kernel) rfl
theorem wd_62 : (Jvm.Cond.laysFinal "ClueLogic$Orders" "ClueLogic$Orders" "things" "I") ∈ GW := mwT 62 (by decide +kernel) rfl
theorem wd_64 : (Jvm.Cond.laysFinal "ClueLogic$Orders" "ClueLogic$Orders" "ticks" "[I") ∈ GW := mwT 64 (by decide +kernel) rfl
theorem wd_66 : (Jvm.Cond.laysFinal "ClueLogic$Orders" "ClueLogic$Orders" "value" "[I") ∈ GW := mwT 66 (by decide +kernel) rfl
theorem wd_68 : (Jvm.Cond.lays "ClueLogic$Orders" "ClueLogic$Orders" "count" "I") ∈ GW := mwT 68 (by decide +kernel) rfl
theorem wd_70 : (Jvm.Cond.lays "ClueLogic$Orders" "ClueLogic$Orders" "allTicks" "I") ∈ GW := mwT 70 (by decide +kernel) rfl
theorem wd_73 : (Jvm.Cond.arrayClass Jvm.ClassFile.FieldType.int) ∈ GW := mwT 73 (by decide +kernel) rfl
theorem wd_74 : (Jvm.Cond.fieldLink "ClueLogic$Puzzle" (17 : Nat) "ClueLogic$Puzzle" "things" "I") ∈ GW := mwT 74 (by decide +kernel) rfl
theorem wd_75 : (Jvm.Cond.fieldLink "ClueLogic$Puzzle" (21 : Nat) "ClueLogic$Puzzle" "kinds" "I") ∈ GW := mwT 75 (by decide +kernel) rfl
theorem wd_76 : (Jvm.Cond.fieldLink "ClueLogic$Puzzle" (24 : Nat) "ClueLogic$Puzzle" "persons" "I") ∈ GW := mwT 76 (by decide +kernel) rfl
theorem wd_77 : (Jvm.Cond.fieldLink "ClueLogic$Puzzle" (32 : Nat) "ClueLogic$Puzzle" "orders" "LClueLogic$Orders;") ∈ GW := mwT 77 (by decide +kernel) rfl
theorem wd_78 : (Jvm.Cond.fieldLink "ClueLogic$Puzzle" (11 : Nat) "ClueLogic$Puzzle" "clues" "[LClueLogic$Clue;") ∈ GW := mwT 78 (by decide +kernel) rfl
theorem wd_79 : (Jvm.Cond.fieldLink "ClueLogic$Puzzle" (36 : Nat) "ClueLogic$Puzzle" "clueCount" "I") ∈ GW := mwT 79 (by decide +kernel) rfl
theorem wd_80 : (Jvm.Cond.laysFinal "ClueLogic$Puzzle" "ClueLogic$Puzzle" "things" "I") ∈ GW := mwT 80 (by decide +kernel) rfl
theorem wd_82 : (Jvm.Cond.laysFinal "ClueLogic$Puzzle" "ClueLogic$Puzzle" "kinds" "I") ∈ GW := mwT 82 (by decide +kernel) rfl
theorem wd_84 : (Jvm.Cond.laysFinal "ClueLogic$Puzzle" "ClueLogic$Puzzle" "persons" "I") ∈ GW := mwT 84 (by decide +kernel) rfl
theorem wd_86 : (Jvm.Cond.laysFinal "ClueLogic$Puzzle" "ClueLogic$Puzzle" "orders" "LClueLogic$Orders;") ∈ GW := mwT 86 (by decide +kernel) rfl
theorem wd_88 : (Jvm.Cond.laysFinal "ClueLogic$Puzzle" "ClueLogic$Puzzle" "clues" "[LClueLogic$Clue;") ∈ GW := mwT 88 (by decide +kernel) rfl
theorem wd_90 : (Jvm.Cond.lays "ClueLogic$Puzzle" "ClueLogic$Puzzle" "clueCount" "I") ∈ GW := mwT 90 (by decide +kernel) rfl
theorem wd_93 : (Jvm.Cond.methodLink "ClueLogic" (18 : Nat) ({ cls := "ClueLogic", name := "begin", desc := "(LClueLogic$Puzzle;)V" } : Jvm.MethodName)) ∈ GW := mwT 93 (by decide +kernel) rfl
theorem wd_95 : (Jvm.Cond.instanceMethod ({ cls := "ClueLogic", name := "begin", desc := "(LClueLogic$Puzzle;)V" } : Jvm.MethodName)) ∈ GW := mwT 95 (by decide +kernel) rfl
theorem wd_96 : (Jvm.Cond.code ({ cls := "ClueLogic", name := "begin", desc := "(LClueLogic$Puzzle;)V" } : Jvm.MethodName) prog_1_method_14_code (2 : Nat) (Option.none : Option Jvm.ClassFile.FieldType)) ∈ GW := mwT 96 (by decide +kernel) rfl
theorem wd_97 : (Jvm.Cond.classLink "ClueLogic" (63 : Nat) "ClueLogic$Answers") ∈ GW := mwT 97 (by decide +kernel) rfl
theorem wd_98 : (Jvm.Cond.instantiable "ClueLogic$Answers" (10 : Nat)) ∈ GW := mwT 98 (by decide +kernel) rfl
theorem wd_99 : (Jvm.Cond.methodLink "ClueLogic" (129 : Nat) ({ cls := "ClueLogic$Answers", name := "<init>", desc := "(LClueLogic$Puzzle;)V" } : Jvm.MethodName)) ∈ GW := mwT 99 (by decide +kernel) rfl
theorem wd_100 : (Jvm.Cond.instanceMethod ({ cls := "ClueLogic$Answers", name := "<init>", desc := "(LClueLogic$Puzzle;)V" } : Jvm.MethodName)) ∈ GW := mwT 100 (by decide +kernel) rfl
theorem wd_101 : (Jvm.Cond.code ({ cls := "ClueLogic$Answers", name := "<init>", desc := "(LClueLogic$Puzzle;)V" } : Jvm.MethodName) prog_2_method_1_code (2 : Nat) (Option.none : Option Jvm.ClassFile.FieldType)) ∈ GW := mwT 101 (by decide +kernel) rfl
theorem wd_102 : (Jvm.Cond.methodLink "ClueLogic$Answers" (3 : Nat) ({ cls := "java/lang/Object", name := "<init>", desc := "()V" } : Jvm.MethodName)) ∈ GW := mwT 102 (by decide +kernel) rfl
theorem wd_103 : (Jvm.Cond.classLink "ClueLogic$Answers" (32 : Nat) "ClueLogic$Walk") ∈ GW := mwT 103 (by decide +kernel) rfl
theorem wd_104 : (Jvm.Cond.instantiable "ClueLogic$Walk" (6 : Nat)) ∈ GW := mwT 104 (by decide +kernel) rfl
theorem wd_105 : (Jvm.Cond.methodLink "ClueLogic$Answers" (34 : Nat) ({ cls := "ClueLogic$Walk", name := "<init>", desc := "(LClueLogic$Puzzle;)V" } : Jvm.MethodName)) ∈ GW := mwT 105 (by decide +kernel) rfl
theorem wd_106 : (Jvm.Cond.instanceMethod ({ cls := "ClueLogic$Walk", name := "<init>", desc := "(LClueLogic$Puzzle;)V" } : Jvm.MethodName)) ∈ GW := mwT 106 (by decide +kernel) rfl
theorem wd_107 : (Jvm.Cond.code ({ cls := "ClueLogic$Walk", name := "<init>", desc := "(LClueLogic$Puzzle;)V" } : Jvm.MethodName) prog_12_method_1_code (2 : Nat) (Option.none : Option Jvm.ClassFile.FieldType)) ∈ GW := mwT 107 (by decide +kernel) rfl
theorem wd_108 : (Jvm.Cond.methodLink "ClueLogic$Walk" (3 : Nat) ({ cls := "java/lang/Object", name := "<init>", desc := "()V" } : Jvm.MethodName)) ∈ GW := mwT 108 (by decide +kernel) rfl
theorem wd_109 : (Jvm.Cond.methodLink "ClueLogic$Walk" (24 : Nat) ({ cls := "ClueLogic$Puzzle", name := "orders", desc := "()LClueLogic$Orders;" } : Jvm.MethodName)) ∈ GW := mwT 109 (by decide +kernel) rfl
theorem wd_110 : (Jvm.Cond.instanceMethod ({ cls := "ClueLogic$Puzzle", name := "orders", desc := "()LClueLogic$Orders;" } : Jvm.MethodName)) ∈ GW := mwT 110 (by decide +kernel) rfl
theorem wd_111 : (Jvm.Cond.selects "ClueLogic$Puzzle" ({ cls := "ClueLogic$Puzzle", name := "orders", desc := "()LClueLogic$Orders;" } : Jvm.MethodName) ({ cls := "ClueLogic$Puzzle", name := "orders", desc := "()LClueLogic$Orders;" } : Jvm.MethodName)) ∈ GW := mwT 111 (by decide +kernel) rfl
theorem wd_112 : (Jvm.Cond.code ({ cls := "ClueLogic$Puzzle", name := "orders", desc := "()LClueLogic$Orders;" } : Jvm.MethodName) prog_9_method_7_code (1 : Nat) (Option.some (Jvm.ClassFile.FieldType.object "ClueLogic$Orders"))) ∈ GW := mwT 112 (by decide +kernel) rfl
theorem wd_113 : (Jvm.Cond.methodLink "ClueLogic$Walk" (33 : Nat) ({ cls := "ClueLogic$Puzzle", name := "kinds", desc := "()I" } : Jvm.MethodName)) ∈ GW := mwT 113 (by decide +kernel) rfl
theorem wd_114 : (Jvm.Cond.instanceMethod ({ cls := "ClueLogic$Puzzle", name := "kinds", desc := "()I" } : Jvm.MethodName)) ∈ GW := mwT 114 (by decide +kernel) rfl
theorem wd_115 : (Jvm.Cond.selects "ClueLogic$Puzzle" ({ cls := "ClueLogic$Puzzle", name := "kinds", desc := "()I" } : Jvm.MethodName) ({ cls := "ClueLogic$Puzzle", name := "kinds", desc := "()I" } : Jvm.MethodName)) ∈ GW := mwT 115 (by decide +kernel) rfl
theorem wd_116 : (Jvm.Cond.code ({ cls := "ClueLogic$Puzzle", name := "kinds", desc := "()I" } : Jvm.MethodName) prog_9_method_4_code (1 : Nat) (Option.some Jvm.ClassFile.FieldType.int)) ∈ GW := mwT 116 (by decide +kernel) rfl
theorem wd_117 : (Jvm.Cond.fieldLink "ClueLogic$Walk" (30 : Nat) "ClueLogic$Walk" "orders" "LClueLogic$Orders;") ∈ GW := mwT 117 (by decide +kernel) rfl
theorem wd_118 : (Jvm.Cond.fieldLink "ClueLogic$Walk" (37 : Nat) "ClueLogic$Walk" "kinds" "I") ∈ GW := mwT 118 (by decide +kernel) rfl
theorem wd_119 : (Jvm.Cond.fieldLink "ClueLogic$Walk" (9 : Nat) "ClueLogic$Walk" "open" "[I") ∈ GW := mwT 119 (by decide +kernel) rfl
theorem wd_120 : (Jvm.Cond.fieldLink "ClueLogic$Walk" (15 : Nat) "ClueLogic$Walk" "openCount" "[I") ∈ GW := mwT 120 (by decide +kernel) rfl
theorem wd_121 : (Jvm.Cond.fieldLink "ClueLogic$Walk" (18 : Nat) "ClueLogic$Walk" "at" "[I") ∈ GW := mwT 121 (by decide +kernel) rfl
theorem wd_122 : (Jvm.Cond.fieldLink "ClueLogic$Walk" (21 : Nat) "ClueLogic$Walk" "thing" "[I") ∈ GW := mwT 122 (by decide +kernel) rfl
theorem wd_123 : (Jvm.Cond.laysFinal "ClueLogic$Walk" "ClueLogic$Walk" "orders" "LClueLogic$Orders;") ∈ GW := mwT 123 (by decide +kernel) rfl
theorem wd_125 : (Jvm.Cond.laysFinal "ClueLogic$Walk" "ClueLogic$Walk" "kinds" "I") ∈ GW := mwT 125 (by decide +kernel) rfl
theorem wd_127 : (Jvm.Cond.laysFinal "ClueLogic$Walk" "ClueLogic$Walk" "open" "[I") ∈ GW := mwT 127 (by decide +kernel) rfl
theorem wd_129 : (Jvm.Cond.laysFinal "ClueLogic$Walk" "ClueLogic$Walk" "openCount" "[I") ∈ GW := mwT 129 (by decide +kernel) rfl
theorem wd_131 : (Jvm.Cond.laysFinal "ClueLogic$Walk" "ClueLogic$Walk" "at" "[I") ∈ GW := mwT 131 (by decide +kernel) rfl
theorem wd_133 : (Jvm.Cond.laysFinal "ClueLogic$Walk" "ClueLogic$Walk" "thing" "[I") ∈ GW := mwT 133 (by decide +kernel) rfl
theorem wd_136 : (Jvm.Cond.arrayClass Jvm.ClassFile.FieldType.boolean) ∈ GW := mwT 136 (by decide +kernel) rfl
theorem wd_137 : (Jvm.Cond.fieldLink "ClueLogic$Answers" (28 : Nat) "ClueLogic$Answers" "puzzle" "LClueLogic$Puzzle;") ∈ GW := mwT 137 (by decide +kernel) rfl
theorem wd_138 : (Jvm.Cond.fieldLink "ClueLogic$Answers" (37 : Nat) "ClueLogic$Answers" "walk" "LClueLogic$Walk;") ∈ GW := mwT 138 (by decide +kernel) rfl
theorem wd_139 : (Jvm.Cond.fieldLink "ClueLogic$Answers" (9 : Nat) "ClueLogic$Answers" "keptOrder" "[I") ∈ GW := mwT 139 (by decide +kernel) rfl
theorem wd_140 : (Jvm.Cond.fieldLink "ClueLogic$Answers" (15 : Nat) "ClueLogic$Answers" "keptParty" "[I") ∈ GW := mwT 140 (by decide +kernel) rfl
theorem wd_141 : (Jvm.Cond.fieldLink "ClueLogic$Answers" (18 : Nat) "ClueLogic$Answers" "countWithOrder" "[I") ∈ GW := mwT 141 (by decide +kernel) rfl
theorem wd_142 : (Jvm.Cond.fieldLink "ClueLogic$Answers" (21 : Nat) "ClueLogic$Answers" "holding" "[I") ∈ GW := mwT 142 (by decide +kernel) rfl
theorem wd_143 : (Jvm.Cond.fieldLink "ClueLogic$Answers" (24 : Nat) "ClueLogic$Answers" "needed" "[Z") ∈ GW := mwT 143 (by decide +kernel) rfl
theorem wd_144 : (Jvm.Cond.fieldLink "ClueLogic$Answers" (41 : Nat) "ClueLogic$Answers" "count" "I") ∈ GW := mwT 144 (by decide +kernel) rfl
theorem wd_145 : (Jvm.Cond.fieldLink "ClueLogic$Answers" (45 : Nat) "ClueLogic$Answers" "kept" "I") ∈ GW := mwT 145 (by decide +kernel) rfl
theorem wd_146 : (Jvm.Cond.fieldLink "ClueLogic$Answers" (66 : Nat) "ClueLogic$Answers" "found" "Z") ∈ GW := mwT 146 (by decide +kernel) rfl
theorem wd_147 : (Jvm.Cond.laysFinal "ClueLogic$Answers" "ClueLogic$Answers" "puzzle" "LClueLogic$Puzzle;") ∈ GW := mwT 147 (by decide +kernel) rfl
theorem wd_149 : (Jvm.Cond.laysFinal "ClueLogic$Answers" "ClueLogic$Answers" "walk" "LClueLogic$Walk;") ∈ GW := mwT 149 (by decide +kernel) rfl
theorem wd_151 : (Jvm.Cond.laysFinal "ClueLogic$Answers" "ClueLogic$Answers" "keptOrder" "[I") ∈ GW := mwT 151 (by decide +kernel) rfl
theorem wd_153 : (Jvm.Cond.laysFinal "ClueLogic$Answers" "ClueLogic$Answers" "keptParty" "[I") ∈ GW := mwT 153 (by decide +kernel) rfl
theorem wd_155 : (Jvm.Cond.laysFinal "ClueLogic$Answers" "ClueLogic$Answers" "countWithOrder" "[I") ∈ GW := mwT 155 (by decide +kernel) rfl
theorem wd_157 : (Jvm.Cond.laysFinal "ClueLogic$Answers" "ClueLogic$Answers" "holding" "[I") ∈ GW := mwT 157 (by decide +kernel) rfl
theorem wd_159 : (Jvm.Cond.laysFinal "ClueLogic$Answers" "ClueLogic$Answers" "needed" "[Z") ∈ GW := mwT 159 (by decide +kernel) rfl
theorem wd_161 : (Jvm.Cond.lays "ClueLogic$Answers" "ClueLogic$Answers" "count" "I") ∈ GW := mwT 161 (by decide +kernel) rfl
theorem wd_163 : (Jvm.Cond.lays "ClueLogic$Answers" "ClueLogic$Answers" "kept" "I") ∈ GW := mwT 163 (by decide +kernel) rfl
theorem wd_165 : (Jvm.Cond.lays "ClueLogic$Answers" "ClueLogic$Answers" "found" "Z") ∈ GW := mwT 165 (by decide +kernel) rfl
theorem wd_168 : (Jvm.Cond.classLink "ClueLogic" (108 : Nat) "ClueLogic$Crossing") ∈ GW := mwT 168 (by decide +kernel) rfl
theorem wd_169 : (Jvm.Cond.instantiable "ClueLogic$Crossing" (10 : Nat)) ∈ GW := mwT 169 (by decide +kernel) rfl
theorem wd_170 : (Jvm.Cond.methodLink "ClueLogic" (131 : Nat) ({ cls := "ClueLogic$Crossing", name := "<init>", desc := "(LClueLogic$Puzzle;)V" } : Jvm.MethodName)) ∈ GW := mwT 170 (by decide +kernel) rfl
theorem wd_171 : (Jvm.Cond.instanceMethod ({ cls := "ClueLogic$Crossing", name := "<init>", desc := "(LClueLogic$Puzzle;)V" } : Jvm.MethodName)) ∈ GW := mwT 171 (by decide +kernel) rfl
theorem wd_172 : (Jvm.Cond.code ({ cls := "ClueLogic$Crossing", name := "<init>", desc := "(LClueLogic$Puzzle;)V" } : Jvm.MethodName) prog_4_method_1_code (3 : Nat) (Option.none : Option Jvm.ClassFile.FieldType)) ∈ GW := mwT 172 (by decide +kernel) rfl
theorem wd_173 : (Jvm.Cond.methodLink "ClueLogic$Crossing" (3 : Nat) ({ cls := "java/lang/Object", name := "<init>", desc := "()V" } : Jvm.MethodName)) ∈ GW := mwT 173 (by decide +kernel) rfl
theorem wd_174 : (Jvm.Cond.classLink "ClueLogic$Crossing" (28 : Nat) "ClueLogic$Walk") ∈ GW := mwT 174 (by decide +kernel) rfl
theorem wd_175 : (Jvm.Cond.methodLink "ClueLogic$Crossing" (30 : Nat) ({ cls := "ClueLogic$Walk", name := "<init>", desc := "(LClueLogic$Puzzle;)V" } : Jvm.MethodName)) ∈ GW := mwT 175 (by decide +kernel) rfl
theorem wd_176 : (Jvm.Cond.methodLink "ClueLogic$Crossing" (37 : Nat) ({ cls := "ClueLogic$Puzzle", name := "kinds", desc := "()I" } : Jvm.MethodName)) ∈ GW := mwT 176 (by decide +kernel) rfl
theorem wd_177 : (Jvm.Cond.methodLink "ClueLogic$Crossing" (43 : Nat) ({ cls := "ClueLogic$Puzzle", name := "orders", desc := "()LClueLogic$Orders;" } : Jvm.MethodName)) ∈ GW := mwT 177 (by decide +kernel) rfl
theorem wd_178 : (Jvm.Cond.methodLink "ClueLogic$Crossing" (47 : Nat) ({ cls := "ClueLogic$Orders", name := "allTicks", desc := "()I" } : Jvm.MethodName)) ∈ GW := mwT 178 (by decide +kernel) rfl
theorem wd_179 : (Jvm.Cond.instanceMethod ({ cls := "ClueLogic$Orders", name := "allTicks", desc := "()I" } : Jvm.MethodName)) ∈ GW := mwT 179 (by decide +kernel) rfl
theorem wd_180 : (Jvm.Cond.selects "ClueLogic$Orders" ({ cls := "ClueLogic$Orders", name := "allTicks", desc := "()I" } : Jvm.MethodName) ({ cls := "ClueLogic$Orders", name := "allTicks", desc := "()I" } : Jvm.MethodName)) ∈ GW := mwT 180 (by decide +kernel) rfl
theorem wd_181 : (Jvm.Cond.code ({ cls := "ClueLogic$Orders", name := "allTicks", desc := "()I" } : Jvm.MethodName) prog_8_method_5_code (1 : Nat) (Option.some Jvm.ClassFile.FieldType.int)) ∈ GW := mwT 181 (by decide +kernel) rfl
theorem wd_182 : (Jvm.Cond.methodLink "ClueLogic$Crossing" (52 : Nat) ({ cls := "ClueLogic$Puzzle", name := "parties", desc := "()I" } : Jvm.MethodName)) ∈ GW := mwT 182 (by decide +kernel) rfl
theorem wd_183 : (Jvm.Cond.instanceMethod ({ cls := "ClueLogic$Puzzle", name := "parties", desc := "()I" } : Jvm.MethodName)) ∈ GW := mwT 183 (by decide +kernel) rfl
theorem wd_184 : (Jvm.Cond.selects "ClueLogic$Puzzle" ({ cls := "ClueLogic$Puzzle", name := "parties", desc := "()I" } : Jvm.MethodName) ({ cls := "ClueLogic$Puzzle", name := "parties", desc := "()I" } : Jvm.MethodName)) ∈ GW := mwT 184 (by decide +kernel) rfl
theorem wd_185 : (Jvm.Cond.code ({ cls := "ClueLogic$Puzzle", name := "parties", desc := "()I" } : Jvm.MethodName) prog_9_method_14_code (1 : Nat) (Option.some Jvm.ClassFile.FieldType.int)) ∈ GW := mwT 185 (by decide +kernel) rfl
theorem wd_188 : (Jvm.Cond.methodLink "ClueLogic$Crossing" (55 : Nat) ({ cls := "ClueLogic$Crossing", name := "waysIn", desc := "(I)I" } : Jvm.MethodName)) ∈ GW := mwT 188 (by decide +kernel) rfl
theorem wd_190 : (Jvm.Cond.instanceMethod ({ cls := "ClueLogic$Crossing", name := "waysIn", desc := "(I)I" } : Jvm.MethodName)) ∈ GW := mwT 190 (by decide +kernel) rfl
theorem wd_191 : (Jvm.Cond.code ({ cls := "ClueLogic$Crossing", name := "waysIn", desc := "(I)I" } : Jvm.MethodName) prog_4_method_12_code (6 : Nat) (Option.some Jvm.ClassFile.FieldType.int)) ∈ GW := mwT 191 (by decide +kernel) rfl
theorem wd_192 : (Jvm.Cond.methodLink "ClueLogic$Crossing" (132 : Nat) ({ cls := "ClueLogic$Puzzle", name := "persons", desc := "()I" } : Jvm.MethodName)) ∈ GW := mwT 192 (by decide +kernel) rfl
theorem wd_193 : (Jvm.Cond.instanceMethod ({ cls := "ClueLogic$Puzzle", name := "persons", desc := "()I" } : Jvm.MethodName)) ∈ GW := mwT 193 (by decide +kernel) rfl
theorem wd_194 : (Jvm.Cond.selects "ClueLogic$Puzzle" ({ cls := "ClueLogic$Puzzle", name := "persons", desc := "()I" } : Jvm.MethodName) ({ cls := "ClueLogic$Puzzle", name := "persons", desc := "()I" } : Jvm.MethodName)) ∈ GW := mwT 194 (by decide +kernel) rfl
theorem wd_195 : (Jvm.Cond.code ({ cls := "ClueLogic$Puzzle", name := "persons", desc := "()I" } : Jvm.MethodName) prog_9_method_5_code (1 : Nat) (Option.some Jvm.ClassFile.FieldType.int)) ∈ GW := mwT 195 (by decide +kernel) rfl
theorem wd_198 : (Jvm.Cond.fieldLink "ClueLogic$Crossing" (24 : Nat) "ClueLogic$Crossing" "puzzle" "LClueLogic$Puzzle;") ∈ GW := mwT 198 (by decide +kernel) rfl
theorem wd_199 : (Jvm.Cond.fieldLink "ClueLogic$Crossing" (33 : Nat) "ClueLogic$Crossing" "walk" "LClueLogic$Walk;") ∈ GW := mwT 199 (by decide +kernel) rfl
theorem wd_200 : (Jvm.Cond.fieldLink "ClueLogic$Crossing" (9 : Nat) "ClueLogic$Crossing" "may" "[I") ∈ GW := mwT 200 (by decide +kernel) rfl
theorem wd_201 : (Jvm.Cond.fieldLink "ClueLogic$Crossing" (15 : Nat) "ClueLogic$Crossing" "seen" "[I") ∈ GW := mwT 201 (by decide +kernel) rfl
theorem wd_202 : (Jvm.Cond.fieldLink "ClueLogic$Crossing" (59 : Nat) "ClueLogic$Crossing" "mayBe" "I") ∈ GW := mwT 202 (by decide +kernel) rfl
theorem wd_203 : (Jvm.Cond.fieldLink "ClueLogic$Crossing" (123 : Nat) "ClueLogic$Crossing" "seenToBe" "I") ∈ GW := mwT 203 (by decide +kernel) rfl
theorem wd_204 : (Jvm.Cond.fieldLink "ClueLogic$Crossing" (18 : Nat) "ClueLogic$Crossing" "stepClue" "[I") ∈ GW := mwT 204 (by decide +kernel) rfl
theorem wd_205 : (Jvm.Cond.fieldLink "ClueLogic$Crossing" (21 : Nat) "ClueLogic$Crossing" "stepCrossed" "[I") ∈ GW := mwT 205 (by decide +kernel) rfl
theorem wd_206 : (Jvm.Cond.fieldLink "ClueLogic$Crossing" (63 : Nat) "ClueLogic$Crossing" "steps" "I") ∈ GW := mwT 206 (by decide +kernel) rfl
theorem wd_207 : (Jvm.Cond.fieldLink "ClueLogic$Crossing" (66 : Nat) "ClueLogic$Crossing" "finished" "Z") ∈ GW := mwT 207 (by decide +kernel) rfl
theorem wd_208 : (Jvm.Cond.laysFinal "ClueLogic$Crossing" "ClueLogic$Crossing" "puzzle" "LClueLogic$Puzzle;") ∈ GW := mwT 208 (by decide +kernel) rfl
theorem wd_210 : (Jvm.Cond.laysFinal "ClueLogic$Crossing" "ClueLogic$Crossing" "walk" "LClueLogic$Walk;") ∈ GW := mwT 210 (by decide +kernel) rfl
theorem wd_212 : (Jvm.Cond.laysFinal "ClueLogic$Crossing" "ClueLogic$Crossing" "may" "[I") ∈ GW := mwT 212 (by decide +kernel) rfl
theorem wd_214 : (Jvm.Cond.laysFinal "ClueLogic$Crossing" "ClueLogic$Crossing" "seen" "[I") ∈ GW := mwT 214 (by decide +kernel) rfl
theorem wd_216 : (Jvm.Cond.lays "ClueLogic$Crossing" "ClueLogic$Crossing" "mayBe" "I") ∈ GW := mwT 216 (by decide +kernel) rfl
theorem wd_218 : (Jvm.Cond.lays "ClueLogic$Crossing" "ClueLogic$Crossing" "seenToBe" "I") ∈ GW := mwT 218 (by decide +kernel) rfl
theorem wd_220 : (Jvm.Cond.laysFinal "ClueLogic$Crossing" "ClueLogic$Crossing" "stepClue" "[I") ∈ GW := mwT 220 (by decide +kernel) rfl
theorem wd_222 : (Jvm.Cond.laysFinal "ClueLogic$Crossing" "ClueLogic$Crossing" "stepCrossed" "[I") ∈ GW := mwT 222 (by decide +kernel) rfl
theorem wd_224 : (Jvm.Cond.lays "ClueLogic$Crossing" "ClueLogic$Crossing" "steps" "I") ∈ GW := mwT 224 (by decide +kernel) rfl
theorem wd_226 : (Jvm.Cond.lays "ClueLogic$Crossing" "ClueLogic$Crossing" "finished" "Z") ∈ GW := mwT 226 (by decide +kernel) rfl
theorem wd_229 : (Jvm.Cond.fieldLink "ClueLogic" (9 : Nat) "ClueLogic" "text" "[I") ∈ GW := mwT 229 (by decide +kernel) rfl
theorem wd_230 : (Jvm.Cond.fieldLink "ClueLogic" (22 : Nat) "ClueLogic" "length" "I") ∈ GW := mwT 230 (by decide +kernel) rfl
theorem wd_231 : (Jvm.Cond.fieldLink "ClueLogic" (42 : Nat) "ClueLogic" "puzzle" "LClueLogic$Puzzle;") ∈ GW := mwT 231 (by decide +kernel) rfl
theorem wd_232 : (Jvm.Cond.fieldLink "ClueLogic" (58 : Nat) "ClueLogic" "answers" "LClueLogic$Answers;") ∈ GW := mwT 232 (by decide +kernel) rfl
theorem wd_233 : (Jvm.Cond.fieldLink "ClueLogic" (103 : Nat) "ClueLogic" "crossing" "LClueLogic$Crossing;") ∈ GW := mwT 233 (by decide +kernel) rfl
theorem wd_234 : (Jvm.Cond.fieldLink "ClueLogic" (54 : Nat) "ClueLogic" "ran" "Z") ∈ GW := mwT 234 (by decide +kernel) rfl
theorem wd_235 : (Jvm.Cond.laysFinal "ClueLogic" "ClueLogic" "text" "[I") ∈ GW := mwT 235 (by decide +kernel) rfl
theorem wd_237 : (Jvm.Cond.lays "ClueLogic" "ClueLogic" "length" "I") ∈ GW := mwT 237 (by decide +kernel) rfl
theorem wd_239 : (Jvm.Cond.lays "ClueLogic" "ClueLogic" "puzzle" "LClueLogic$Puzzle;") ∈ GW := mwT 239 (by decide +kernel) rfl
theorem wd_241 : (Jvm.Cond.lays "ClueLogic" "ClueLogic" "answers" "LClueLogic$Answers;") ∈ GW := mwT 241 (by decide +kernel) rfl
theorem wd_243 : (Jvm.Cond.lays "ClueLogic" "ClueLogic" "crossing" "LClueLogic$Crossing;") ∈ GW := mwT 243 (by decide +kernel) rfl
theorem wd_245 : (Jvm.Cond.lays "ClueLogic" "ClueLogic" "ran" "Z") ∈ GW := mwT 245 (by decide +kernel) rfl
theorem wd_248 : (Jvm.Cond.methodLink "ClueLogicLaw" (13 : Nat) ({ cls := "ClueLogic", name := "unit", desc := "(I)Z" } : Jvm.MethodName)) ∈ GW := mwT 248 (by decide +kernel) rfl
theorem wd_249 : (Jvm.Cond.instanceMethod ({ cls := "ClueLogic", name := "unit", desc := "(I)Z" } : Jvm.MethodName)) ∈ GW := mwT 249 (by decide +kernel) rfl
theorem wd_250 : (Jvm.Cond.selects "ClueLogic" ({ cls := "ClueLogic", name := "unit", desc := "(I)Z" } : Jvm.MethodName) ({ cls := "ClueLogic", name := "unit", desc := "(I)Z" } : Jvm.MethodName)) ∈ GW := mwT 250 (by decide +kernel) rfl
theorem wd_251 : (Jvm.Cond.code ({ cls := "ClueLogic", name := "unit", desc := "(I)Z" } : Jvm.MethodName) prog_1_method_2_code (2 : Nat) (Option.some Jvm.ClassFile.FieldType.boolean)) ∈ GW := mwT 251 (by decide +kernel) rfl
theorem wd_252 : (Jvm.Cond.methodLink "ClueLogicLaw" (18 : Nat) ({ cls := "ClueLogic", name := "read", desc := "()I" } : Jvm.MethodName)) ∈ GW := mwT 252 (by decide +kernel) rfl
theorem wd_253 : (Jvm.Cond.instanceMethod ({ cls := "ClueLogic", name := "read", desc := "()I" } : Jvm.MethodName)) ∈ GW := mwT 253 (by decide +kernel) rfl
theorem wd_254 : (Jvm.Cond.selects "ClueLogic" ({ cls := "ClueLogic", name := "read", desc := "()I" } : Jvm.MethodName) ({ cls := "ClueLogic", name := "read", desc := "()I" } : Jvm.MethodName)) ∈ GW := mwT 254 (by decide +kernel) rfl
theorem wd_255 : (Jvm.Cond.code ({ cls := "ClueLogic", name := "read", desc := "()I" } : Jvm.MethodName) prog_1_method_3_code (3 : Nat) (Option.some Jvm.ClassFile.FieldType.int)) ∈ GW := mwT 255 (by decide +kernel) rfl
theorem wd_256 : (Jvm.Cond.classLink "ClueLogic" (26 : Nat) "ClueLogic$Reader") ∈ GW := mwT 256 (by decide +kernel) rfl
theorem wd_257 : (Jvm.Cond.instantiable "ClueLogic$Reader" (7 : Nat)) ∈ GW := mwT 257 (by decide +kernel) rfl
theorem wd_258 : (Jvm.Cond.methodLink "ClueLogic" (28 : Nat) ({ cls := "ClueLogic$Reader", name := "<init>", desc := "([II)V" } : Jvm.MethodName)) ∈ GW := mwT 258 (by decide +kernel) rfl
theorem wd_259 : (Jvm.Cond.instanceMethod ({ cls := "ClueLogic$Reader", name := "<init>", desc := "([II)V" } : Jvm.MethodName)) ∈ GW := mwT 259 (by decide +kernel) rfl
theorem wd_260 : (Jvm.Cond.code ({ cls := "ClueLogic$Reader", name := "<init>", desc := "([II)V" } : Jvm.MethodName) prog_10_method_1_code (3 : Nat) (Option.none : Option Jvm.ClassFile.FieldType)) ∈ GW := mwT 260 (by decide +kernel) rfl
theorem wd_261 : (Jvm.Cond.methodLink "ClueLogic$Reader" (3 : Nat) ({ cls := "java/lang/Object", name := "<init>", desc := "()V" } : Jvm.MethodName)) ∈ GW := mwT 261 (by decide +kernel) rfl
theorem wd_262 : (Jvm.Cond.fieldLink "ClueLogic$Reader" (9 : Nat) "ClueLogic$Reader" "text" "[I") ∈ GW := mwT 262 (by decide +kernel) rfl
theorem wd_263 : (Jvm.Cond.fieldLink "ClueLogic$Reader" (15 : Nat) "ClueLogic$Reader" "length" "I") ∈ GW := mwT 263 (by decide +kernel) rfl
theorem wd_264 : (Jvm.Cond.fieldLink "ClueLogic$Reader" (19 : Nat) "ClueLogic$Reader" "place" "I") ∈ GW := mwT 264 (by decide +kernel) rfl
theorem wd_265 : (Jvm.Cond.fieldLink "ClueLogic$Reader" (31 : Nat) "ClueLogic$Reader" "kinds" "I") ∈ GW := mwT 265 (by decide +kernel) rfl
theorem wd_266 : (Jvm.Cond.fieldLink "ClueLogic$Reader" (28 : Nat) "ClueLogic$Reader" "things" "I") ∈ GW := mwT 266 (by decide +kernel) rfl
theorem wd_267 : (Jvm.Cond.fieldLink "ClueLogic$Reader" (34 : Nat) "ClueLogic$Reader" "persons" "I") ∈ GW := mwT 267 (by decide +kernel) rfl
theorem wd_268 : (Jvm.Cond.fieldLink "ClueLogic$Reader" (40 : Nat) "ClueLogic$Reader" "signs" "I") ∈ GW := mwT 268 (by decide +kernel) rfl
theorem wd_269 : (Jvm.Cond.laysFinal "ClueLogic$Reader" "ClueLogic$Reader" "text" "[I") ∈ GW := mwT 269 (by decide +kernel) rfl
theorem wd_271 : (Jvm.Cond.laysFinal "ClueLogic$Reader" "ClueLogic$Reader" "length" "I") ∈ GW := mwT 271 (by decide +kernel) rfl
theorem wd_273 : (Jvm.Cond.lays "ClueLogic$Reader" "ClueLogic$Reader" "place" "I") ∈ GW := mwT 273 (by decide +kernel) rfl
theorem wd_275 : (Jvm.Cond.lays "ClueLogic$Reader" "ClueLogic$Reader" "kinds" "I") ∈ GW := mwT 275 (by decide +kernel) rfl
theorem wd_277 : (Jvm.Cond.lays "ClueLogic$Reader" "ClueLogic$Reader" "things" "I") ∈ GW := mwT 277 (by decide +kernel) rfl
theorem wd_279 : (Jvm.Cond.lays "ClueLogic$Reader" "ClueLogic$Reader" "persons" "I") ∈ GW := mwT 279 (by decide +kernel) rfl
theorem wd_281 : (Jvm.Cond.lays "ClueLogic$Reader" "ClueLogic$Reader" "signs" "I") ∈ GW := mwT 281 (by decide +kernel) rfl
theorem wd_284 : (Jvm.Cond.methodLink "ClueLogic" (31 : Nat) ({ cls := "ClueLogic$Reader", name := "puzzle", desc := "()LClueLogic$Puzzle;" } : Jvm.MethodName)) ∈ GW := mwT 284 (by decide +kernel) rfl
theorem wd_285 : (Jvm.Cond.instanceMethod ({ cls := "ClueLogic$Reader", name := "puzzle", desc := "()LClueLogic$Puzzle;" } : Jvm.MethodName)) ∈ GW := mwT 285 (by decide +kernel) rfl
theorem wd_286 : (Jvm.Cond.selects "ClueLogic$Reader" ({ cls := "ClueLogic$Reader", name := "puzzle", desc := "()LClueLogic$Puzzle;" } : Jvm.MethodName) ({ cls := "ClueLogic$Reader", name := "puzzle", desc := "()LClueLogic$Puzzle;" } : Jvm.MethodName)) ∈ GW := mwT 286 (by decide +kernel) rfl
theorem wd_287 : (Jvm.Cond.code ({ cls := "ClueLogic$Reader", name := "puzzle", desc := "()LClueLogic$Puzzle;" } : Jvm.MethodName) prog_10_method_3_code (4 : Nat) (Option.some (Jvm.ClassFile.FieldType.object "ClueLogic$Puzzle"))) ∈ GW := mwT 287 (by decide +kernel) rfl
theorem wd_288 : (Jvm.Cond.methodLink "ClueLogic$Reader" (22 : Nat) ({ cls := "ClueLogic$Reader", name := "passHead", desc := "()Z" } : Jvm.MethodName)) ∈ GW := mwT 288 (by decide +kernel) rfl
theorem wd_290 : (Jvm.Cond.instanceMethod ({ cls := "ClueLogic$Reader", name := "passHead", desc := "()Z" } : Jvm.MethodName)) ∈ GW := mwT 290 (by decide +kernel) rfl
theorem wd_291 : (Jvm.Cond.code ({ cls := "ClueLogic$Reader", name := "passHead", desc := "()Z" } : Jvm.MethodName) prog_10_method_4_code (1 : Nat) (Option.some Jvm.ClassFile.FieldType.boolean)) ∈ GW := mwT 291 (by decide +kernel) rfl
theorem wd_292 : (Jvm.Cond.methodLink "ClueLogic$Reader" (54 : Nat) ({ cls := "ClueLogic$Reader", name := "take", desc := "(III)I" } : Jvm.MethodName)) ∈ GW := mwT 292 (by decide +kernel) rfl
theorem wd_294 : (Jvm.Cond.instanceMethod ({ cls := "ClueLogic$Reader", name := "take", desc := "(III)I" } : Jvm.MethodName)) ∈ GW := mwT 294 (by decide +kernel) rfl
theorem wd_295 : (Jvm.Cond.code ({ cls := "ClueLogic$Reader", name := "take", desc := "(III)I" } : Jvm.MethodName) prog_10_method_13_code (5 : Nat) (Option.some Jvm.ClassFile.FieldType.int)) ∈ GW := mwT 295 (by decide +kernel) rfl
theorem wd_296 : (Jvm.Cond.methodLink "ClueLogic$Reader" (47 : Nat) ({ cls := "ClueLogic$Reader", name := "passSemicolon", desc := "()Z" } : Jvm.MethodName)) ∈ GW := mwT 296 (by decide +kernel) rfl
theorem wd_298 : (Jvm.Cond.instanceMethod ({ cls := "ClueLogic$Reader", name := "passSemicolon", desc := "()Z" } : Jvm.MethodName)) ∈ GW := mwT 298 (by decide +kernel) rfl
theorem wd_299 : (Jvm.Cond.code ({ cls := "ClueLogic$Reader", name := "passSemicolon", desc := "()Z" } : Jvm.MethodName) prog_10_method_12_code (1 : Nat) (Option.some Jvm.ClassFile.FieldType.boolean)) ∈ GW := mwT 299 (by decide +kernel) rfl
theorem wd_300 : (Jvm.Cond.classLink "ClueLogic$Reader" (26 : Nat) "ClueLogic$Puzzle") ∈ GW := mwT 300 (by decide +kernel) rfl
theorem wd_301 : (Jvm.Cond.methodLink "ClueLogic$Reader" (37 : Nat) ({ cls := "ClueLogic$Puzzle", name := "<init>", desc := "(III)V" } : Jvm.MethodName)) ∈ GW := mwT 301 (by decide +kernel) rfl
theorem wd_302 : (Jvm.Cond.methodLink "ClueLogic$Reader" (43 : Nat) ({ cls := "ClueLogic$Reader", name := "clue", desc := "()LClueLogic$Clue;" } : Jvm.MethodName)) ∈ GW := mwT 302 (by decide +kernel) rfl
theorem wd_304 : (Jvm.Cond.instanceMethod ({ cls := "ClueLogic$Reader", name := "clue", desc := "()LClueLogic$Clue;" } : Jvm.MethodName)) ∈ GW := mwT 304 (by decide +kernel) rfl
theorem wd_305 : (Jvm.Cond.code ({ cls := "ClueLogic$Reader", name := "clue", desc := "()LClueLogic$Clue;" } : Jvm.MethodName) prog_10_method_5_code (2 : Nat) (Option.some (Jvm.ClassFile.FieldType.object "ClueLogic$Clue"))) ∈ GW := mwT 305 (by decide +kernel) rfl
theorem wd_307 : (Jvm.Cond.methodLink "ClueLogic$Reader" (60 : Nat) ({ cls := "java/lang/String", name := "indexOf", desc := "(I)I" } : Jvm.MethodName)) ∈ GW := mwT 307 (by decide +kernel) rfl
theorem wd_308 : (Jvm.Cond.instanceMethod ({ cls := "java/lang/String", name := "indexOf", desc := "(I)I" } : Jvm.MethodName)) ∈ GW := mwT 308 (by decide +kernel) rfl
theorem wd_309 : (Jvm.Cond.selects "java/lang/String" ({ cls := "java/lang/String", name := "indexOf", desc := "(I)I" } : Jvm.MethodName) ({ cls := "java/lang/String", name := "indexOf", desc := "(I)I" } : Jvm.MethodName)) ∈ GW := mwT 309 (by decide +kernel) rfl
theorem wd_310 : (Jvm.Cond.code ({ cls := "java/lang/String", name := "indexOf", desc := "(I)I" } : Jvm.MethodName) prog_18_method_79_code (2 : Nat) (Option.some Jvm.ClassFile.FieldType.int)) ∈ GW := mwT 310 (by decide +kernel) rfl
theorem wd_311 : (Jvm.Cond.methodLink "java/lang/String" (633 : Nat) ({ cls := "java/lang/String", name := "indexOf", desc := "(II)I" } : Jvm.MethodName)) ∈ GW := mwT 311 (by decide +kernel) rfl
theorem wd_312 : (Jvm.Cond.instanceMethod ({ cls := "java/lang/String", name := "indexOf", desc := "(II)I" } : Jvm.MethodName)) ∈ GW := mwT 312 (by decide +kernel) rfl
theorem wd_313 : (Jvm.Cond.selects "java/lang/String" ({ cls := "java/lang/String", name := "indexOf", desc := "(II)I" } : Jvm.MethodName) ({ cls := "java/lang/String", name := "indexOf", desc := "(II)I" } : Jvm.MethodName)) ∈ GW := mwT 313 (by decide +kernel) rfl
theorem wd_314 : (Jvm.Cond.code ({ cls := "java/lang/String", name := "indexOf", desc := "(II)I" } : Jvm.MethodName) prog_18_method_80_code (3 : Nat) (Option.some Jvm.ClassFile.FieldType.int)) ∈ GW := mwT 314 (by decide +kernel) rfl
theorem wd_315 : (Jvm.Cond.methodLink "java/lang/String" (492 : Nat) ({ cls := "java/lang/String", name := "isLatin1", desc := "()Z" } : Jvm.MethodName)) ∈ GW := mwT 315 (by decide +kernel) rfl
theorem wd_316 : (Jvm.Cond.instanceMethod ({ cls := "java/lang/String", name := "isLatin1", desc := "()Z" } : Jvm.MethodName)) ∈ GW := mwT 316 (by decide +kernel) rfl
theorem wd_317 : (Jvm.Cond.selects "java/lang/String" ({ cls := "java/lang/String", name := "isLatin1", desc := "()Z" } : Jvm.MethodName) ({ cls := "java/lang/String", name := "isLatin1", desc := "()Z" } : Jvm.MethodName)) ∈ GW := mwT 317 (by decide +kernel) rfl
theorem wd_318 : (Jvm.Cond.code ({ cls := "java/lang/String", name := "isLatin1", desc := "()Z" } : Jvm.MethodName) prog_18_method_154_code (1 : Nat) (Option.some Jvm.ClassFile.FieldType.boolean)) ∈ GW := mwT 318 (by decide +kernel) rfl
theorem wd_319 : (Jvm.Cond.fieldLink "java/lang/String" (38 : Nat) "java/lang/String" "COMPACT_STRINGS" "Z") ∈ GW := mwT 319 (by decide +kernel) rfl
theorem wd_321 : (Jvm.Cond.methodLink "java/lang/String" (505 : Nat) ({ cls := "java/lang/String", name := "length", desc := "()I" } : Jvm.MethodName)) ∈ GW := mwT 321 (by decide +kernel) rfl
theorem wd_322 : (Jvm.Cond.instanceMethod ({ cls := "java/lang/String", name := "length", desc := "()I" } : Jvm.MethodName)) ∈ GW := mwT 322 (by decide +kernel) rfl
theorem wd_323 : (Jvm.Cond.selects "java/lang/String" ({ cls := "java/lang/String", name := "length", desc := "()I" } : Jvm.MethodName) ({ cls := "java/lang/String", name := "length", desc := "()I" } : Jvm.MethodName)) ∈ GW := mwT 323 (by decide +kernel) rfl
theorem wd_324 : (Jvm.Cond.code ({ cls := "java/lang/String", name := "length", desc := "()I" } : Jvm.MethodName) prog_18_method_54_code (1 : Nat) (Option.some Jvm.ClassFile.FieldType.int)) ∈ GW := mwT 324 (by decide +kernel) rfl
theorem wd_325 : (Jvm.Cond.methodLink "java/lang/String" (335 : Nat) ({ cls := "java/lang/String", name := "coder", desc := "()B" } : Jvm.MethodName)) ∈ GW := mwT 325 (by decide +kernel) rfl
theorem wd_326 : (Jvm.Cond.instanceMethod ({ cls := "java/lang/String", name := "coder", desc := "()B" } : Jvm.MethodName)) ∈ GW := mwT 326 (by decide +kernel) rfl
theorem wd_327 : (Jvm.Cond.selects "java/lang/String" ({ cls := "java/lang/String", name := "coder", desc := "()B" } : Jvm.MethodName) ({ cls := "java/lang/String", name := "coder", desc := "()B" } : Jvm.MethodName)) ∈ GW := mwT 327 (by decide +kernel) rfl
theorem wd_328 : (Jvm.Cond.code ({ cls := "java/lang/String", name := "coder", desc := "()B" } : Jvm.MethodName) prog_18_method_152_code (1 : Nat) (Option.some Jvm.ClassFile.FieldType.byte)) ∈ GW := mwT 328 (by decide +kernel) rfl
theorem wd_329 : (Jvm.Cond.methodLink "java/lang/String" (637 : Nat) ({ cls := "java/lang/StringLatin1", name := "indexOf", desc := "([BIII)I" } : Jvm.MethodName)) ∈ GW := mwT 329 (by decide +kernel) rfl
theorem wd_330 : (Jvm.Cond.static ({ cls := "java/lang/StringLatin1", name := "indexOf", desc := "([BIII)I" } : Jvm.MethodName)) ∈ GW := mwT 330 (by decide +kernel) rfl
theorem wd_331 : (Jvm.Cond.code ({ cls := "java/lang/StringLatin1", name := "indexOf", desc := "([BIII)I" } : Jvm.MethodName) prog_19_method_22_code (4 : Nat) (Option.some Jvm.ClassFile.FieldType.int)) ∈ GW := mwT 331 (by decide +kernel) rfl
theorem wd_332 : (Jvm.Cond.methodLink "java/lang/StringLatin1" (88 : Nat) ({ cls := "java/lang/StringLatin1", name := "canEncode", desc := "(I)Z" } : Jvm.MethodName)) ∈ GW := mwT 332 (by decide +kernel) rfl
theorem wd_333 : (Jvm.Cond.static ({ cls := "java/lang/StringLatin1", name := "canEncode", desc := "(I)Z" } : Jvm.MethodName)) ∈ GW := mwT 333 (by decide +kernel) rfl
theorem wd_334 : (Jvm.Cond.code ({ cls := "java/lang/StringLatin1", name := "canEncode", desc := "(I)Z" } : Jvm.MethodName) prog_19_method_4_code (1 : Nat) (Option.some Jvm.ClassFile.FieldType.boolean)) ∈ GW := mwT 334 (by decide +kernel) rfl
theorem wd_335 : (Jvm.Cond.methodLink "java/lang/StringLatin1" (92 : Nat) ({ cls := "java/lang/Math", name := "max", desc := "(II)I" } : Jvm.MethodName)) ∈ GW := mwT 335 (by decide +kernel) rfl
theorem wd_336 : (Jvm.Cond.static ({ cls := "java/lang/Math", name := "max", desc := "(II)I" } : Jvm.MethodName)) ∈ GW := mwT 336 (by decide +kernel) rfl
theorem wd_337 : (Jvm.Cond.code ({ cls := "java/lang/Math", name := "max", desc := "(II)I" } : Jvm.MethodName) prog_17_method_65_code (2 : Nat) (Option.some Jvm.ClassFile.FieldType.int)) ∈ GW := mwT 337 (by decide +kernel) rfl
theorem wd_338 : (Jvm.Cond.methodLink "java/lang/StringLatin1" (38 : Nat) ({ cls := "java/lang/Math", name := "min", desc := "(II)I" } : Jvm.MethodName)) ∈ GW := mwT 338 (by decide +kernel) rfl
theorem wd_339 : (Jvm.Cond.static ({ cls := "java/lang/Math", name := "min", desc := "(II)I" } : Jvm.MethodName)) ∈ GW := mwT 339 (by decide +kernel) rfl
theorem wd_340 : (Jvm.Cond.code ({ cls := "java/lang/Math", name := "min", desc := "(II)I" } : Jvm.MethodName) prog_17_method_69_code (2 : Nat) (Option.some Jvm.ClassFile.FieldType.int)) ∈ GW := mwT 340 (by decide +kernel) rfl
theorem wd_341 : (Jvm.Cond.methodLink "java/lang/StringLatin1" (95 : Nat) ({ cls := "java/lang/StringLatin1", name := "indexOfChar", desc := "([BIII)I" } : Jvm.MethodName)) ∈ GW := mwT 341 (by decide +kernel) rfl
theorem wd_342 : (Jvm.Cond.static ({ cls := "java/lang/StringLatin1", name := "indexOfChar", desc := "([BIII)I" } : Jvm.MethodName)) ∈ GW := mwT 342 (by decide +kernel) rfl
theorem wd_343 : (Jvm.Cond.code ({ cls := "java/lang/StringLatin1", name := "indexOfChar", desc := "([BIII)I" } : Jvm.MethodName) prog_19_method_23_code (6 : Nat) (Option.some Jvm.ClassFile.FieldType.int)) ∈ GW := mwT 343 (by decide +kernel) rfl
theorem wd_344 : (Jvm.Cond.methodLink "java/lang/String" (640 : Nat) ({ cls := "java/lang/StringUTF16", name := "indexOf", desc := "([BIII)I" } : Jvm.MethodName)) ∈ GW := mwT 344 (by decide +kernel) rfl
theorem wd_345 : (Jvm.Cond.static ({ cls := "java/lang/StringUTF16", name := "indexOf", desc := "([BIII)I" } : Jvm.MethodName)) ∈ GW := mwT 345 (by decide +kernel) rfl
theorem wd_346 : (Jvm.Cond.code ({ cls := "java/lang/StringUTF16", name := "indexOf", desc := "([BIII)I" } : Jvm.MethodName) prog_20_method_40_code (4 : Nat) (Option.some Jvm.ClassFile.FieldType.int)) ∈ GW := mwT 346 (by decide +kernel) rfl
theorem wd_347 : (Jvm.Cond.methodLink "java/lang/StringUTF16" (224 : Nat) ({ cls := "java/lang/Math", name := "max", desc := "(II)I" } : Jvm.MethodName)) ∈ GW := mwT 347 (by decide +kernel) rfl
theorem wd_348 : (Jvm.Cond.methodLink "java/lang/StringUTF16" (183 : Nat) ({ cls := "java/lang/Math", name := "min", desc := "(II)I" } : Jvm.MethodName)) ∈ GW := mwT 348 (by decide +kernel) rfl
theorem wd_349 : (Jvm.Cond.constant "java/lang/StringUTF16" (227 : Nat) (65536 : Int32)) ∈ GW := mwT 349 (by decide +kernel) rfl
theorem wd_350 : (Jvm.Cond.methodLink "java/lang/StringUTF16" (228 : Nat) ({ cls := "java/lang/StringUTF16", name := "indexOfChar", desc := "([BIII)I" } : Jvm.MethodName)) ∈ GW := mwT 350 (by decide +kernel) rfl
theorem wd_351 : (Jvm.Cond.static ({ cls := "java/lang/StringUTF16", name := "indexOfChar", desc := "([BIII)I" } : Jvm.MethodName)) ∈ GW := mwT 351 (by decide +kernel) rfl
theorem wd_352 : (Jvm.Cond.code ({ cls := "java/lang/StringUTF16", name := "indexOfChar", desc := "([BIII)I" } : Jvm.MethodName) prog_20_method_47_code (4 : Nat) (Option.some Jvm.ClassFile.FieldType.int)) ∈ GW := mwT 352 (by decide +kernel) rfl
theorem wd_353 : (Jvm.Cond.methodLink "java/lang/StringUTF16" (96 : Nat) ({ cls := "java/lang/StringUTF16", name := "checkBoundsBeginEnd", desc := "(II[B)V" } : Jvm.MethodName)) ∈ GW := mwT 353 (by decide +kernel) rfl
theorem wd_354 : (Jvm.Cond.static ({ cls := "java/lang/StringUTF16", name := "checkBoundsBeginEnd", desc := "(II[B)V" } : Jvm.MethodName)) ∈ GW := mwT 354 (by decide +kernel) rfl
theorem wd_355 : (Jvm.Cond.code ({ cls := "java/lang/StringUTF16", name := "checkBoundsBeginEnd", desc := "(II[B)V" } : Jvm.MethodName) prog_20_method_93_code (3 : Nat) (Option.none : Option Jvm.ClassFile.FieldType)) ∈ GW := mwT 355 (by decide +kernel) rfl
theorem wd_356 : (Jvm.Cond.methodLink "java/lang/StringUTF16" (48 : Nat) ({ cls := "java/lang/StringUTF16", name := "length", desc := "([B)I" } : Jvm.MethodName)) ∈ GW := mwT 356 (by decide +kernel) rfl
theorem wd_357 : (Jvm.Cond.static ({ cls := "java/lang/StringUTF16", name := "length", desc := "([B)I" } : Jvm.MethodName)) ∈ GW := mwT 357 (by decide +kernel) rfl
theorem wd_358 : (Jvm.Cond.code ({ cls := "java/lang/StringUTF16", name := "length", desc := "([B)I" } : Jvm.MethodName) prog_20_method_6_code (1 : Nat) (Option.some Jvm.ClassFile.FieldType.int)) ∈ GW := mwT 358 (by decide +kernel) rfl
theorem wd_359 : (Jvm.Cond.methodLink "java/lang/StringUTF16" (241 : Nat) ({ cls := "java/lang/String", name := "checkBoundsBeginEnd", desc := "(III)V" } : Jvm.MethodName)) ∈ GW := mwT 359 (by decide +kernel) rfl
theorem wd_360 : (Jvm.Cond.static ({ cls := "java/lang/String", name := "checkBoundsBeginEnd", desc := "(III)V" } : Jvm.MethodName)) ∈ GW := mwT 360 (by decide +kernel) rfl
theorem wd_361 : (Jvm.Cond.code ({ cls := "java/lang/String", name := "checkBoundsBeginEnd", desc := "(III)V" } : Jvm.MethodName) prog_18_method_158_code (3 : Nat) (Option.none : Option Jvm.ClassFile.FieldType)) ∈ GW := mwT 361 (by decide +kernel) rfl
theorem wd_364 : (Jvm.Cond.methodLink "java/lang/String" (1062 : Nat) ({ cls := "jdk/internal/util/Preconditions", name := "checkFromToIndex", desc := "(IIILjava/util/function/BiFunction;)I" } : Jvm.MethodName)) ∈ GW := mwT 364 (by decide +kernel) rfl
theorem wd_365 : (Jvm.Cond.static ({ cls := "jdk/internal/util/Preconditions", name := "checkFromToIndex", desc := "(IIILjava/util/function/BiFunction;)I" } : Jvm.MethodName)) ∈ GW := mwT 365 (by decide +kernel) rfl
theorem wd_366 : (Jvm.Cond.code ({ cls := "jdk/internal/util/Preconditions", name := "checkFromToIndex", desc := "(IIILjava/util/function/BiFunction;)I" } : Jvm.MethodName) prog_22_method_12_code (4 : Nat) (Option.some Jvm.ClassFile.FieldType.int)) ∈ GW := mwT 366 (by decide +kernel) rfl
theorem wd_367 : (Jvm.Cond.methodLink "java/lang/StringUTF16" (244 : Nat) ({ cls := "java/lang/StringUTF16", name := "indexOfCharUnsafe", desc := "([BIII)I" } : Jvm.MethodName)) ∈ GW := mwT 367 (by decide +kernel) rfl
theorem wd_368 : (Jvm.Cond.static ({ cls := "java/lang/StringUTF16", name := "indexOfCharUnsafe", desc := "([BIII)I" } : Jvm.MethodName)) ∈ GW := mwT 368 (by decide +kernel) rfl
theorem wd_369 : (Jvm.Cond.code ({ cls := "java/lang/StringUTF16", name := "indexOfCharUnsafe", desc := "([BIII)I" } : Jvm.MethodName) prog_20_method_48_code (5 : Nat) (Option.some Jvm.ClassFile.FieldType.int)) ∈ GW := mwT 369 (by decide +kernel) rfl
theorem wd_370 : (Jvm.Cond.methodLink "java/lang/StringUTF16" (71 : Nat) ({ cls := "java/lang/StringUTF16", name := "getChar", desc := "([BI)C" } : Jvm.MethodName)) ∈ GW := mwT 370 (by decide +kernel) rfl
theorem wd_371 : (Jvm.Cond.static ({ cls := "java/lang/StringUTF16", name := "getChar", desc := "([BI)C" } : Jvm.MethodName)) ∈ GW := mwT 371 (by decide +kernel) rfl
theorem wd_372 : (Jvm.Cond.code ({ cls := "java/lang/StringUTF16", name := "getChar", desc := "([BI)C" } : Jvm.MethodName) prog_20_method_5_code (2 : Nat) (Option.some Jvm.ClassFile.FieldType.char)) ∈ GW := mwT 372 (by decide +kernel) rfl
theorem wd_379 : (Jvm.Cond.methodLink "java/lang/StringUTF16" (232 : Nat) ({ cls := "java/lang/StringUTF16", name := "indexOfSupplementary", desc := "([BIII)I" } : Jvm.MethodName)) ∈ GW := mwT 379 (by decide +kernel) rfl
theorem wd_380 : (Jvm.Cond.static ({ cls := "java/lang/StringUTF16", name := "indexOfSupplementary", desc := "([BIII)I" } : Jvm.MethodName)) ∈ GW := mwT 380 (by decide +kernel) rfl
theorem wd_381 : (Jvm.Cond.code ({ cls := "java/lang/StringUTF16", name := "indexOfSupplementary", desc := "([BIII)I" } : Jvm.MethodName) prog_20_method_49_code (7 : Nat) (Option.some Jvm.ClassFile.FieldType.int)) ∈ GW := mwT 381 (by decide +kernel) rfl
theorem wd_382 : (Jvm.Cond.methodLink "java/lang/StringUTF16" (164 : Nat) ({ cls := "java/lang/Character", name := "isValidCodePoint", desc := "(I)Z" } : Jvm.MethodName)) ∈ GW := mwT 382 (by decide +kernel) rfl
theorem wd_383 : (Jvm.Cond.static ({ cls := "java/lang/Character", name := "isValidCodePoint", desc := "(I)Z" } : Jvm.MethodName)) ∈ GW := mwT 383 (by decide +kernel) rfl
theorem wd_384 : (Jvm.Cond.code ({ cls := "java/lang/Character", name := "isValidCodePoint", desc := "(I)Z" } : Jvm.MethodName) prog_15_method_11_code (2 : Nat) (Option.some Jvm.ClassFile.FieldType.boolean)) ∈ GW := mwT 384 (by decide +kernel) rfl
theorem wd_385 : (Jvm.Cond.methodLink "java/lang/StringUTF16" (157 : Nat) ({ cls := "java/lang/Character", name := "highSurrogate", desc := "(I)C" } : Jvm.MethodName)) ∈ GW := mwT 385 (by decide +kernel) rfl
theorem wd_386 : (Jvm.Cond.static ({ cls := "java/lang/Character", name := "highSurrogate", desc := "(I)C" } : Jvm.MethodName)) ∈ GW := mwT 386 (by decide +kernel) rfl
theorem wd_387 : (Jvm.Cond.code ({ cls := "java/lang/Character", name := "highSurrogate", desc := "(I)C" } : Jvm.MethodName) prog_15_method_28_code (1 : Nat) (Option.some Jvm.ClassFile.FieldType.char)) ∈ GW := mwT 387 (by decide +kernel) rfl
theorem wd_388 : (Jvm.Cond.constant "java/lang/Character" (110 : Nat) (55232 : Int32)) ∈ GW := mwT 388 (by decide +kernel) rfl
theorem wd_389 : (Jvm.Cond.methodLink "java/lang/StringUTF16" (161 : Nat) ({ cls := "java/lang/Character", name := "lowSurrogate", desc := "(I)C" } : Jvm.MethodName)) ∈ GW := mwT 389 (by decide +kernel) rfl
theorem wd_390 : (Jvm.Cond.static ({ cls := "java/lang/Character", name := "lowSurrogate", desc := "(I)C" } : Jvm.MethodName)) ∈ GW := mwT 390 (by decide +kernel) rfl
theorem wd_391 : (Jvm.Cond.code ({ cls := "java/lang/Character", name := "lowSurrogate", desc := "(I)C" } : Jvm.MethodName) prog_15_method_29_code (1 : Nat) (Option.some Jvm.ClassFile.FieldType.char)) ∈ GW := mwT 391 (by decide +kernel) rfl
theorem wd_392 : (Jvm.Cond.constant "java/lang/Character" (76 : Nat) (56320 : Int32)) ∈ GW := mwT 392 (by decide +kernel) rfl
theorem wd_393 : (Jvm.Cond.methodLink "ClueLogic$Reader" (66 : Nat) ({ cls := "ClueLogic$Reader", name := "ofPerson", desc := "()LClueLogic$Clue;" } : Jvm.MethodName)) ∈ GW := mwT 393 (by decide +kernel) rfl
theorem wd_395 : (Jvm.Cond.instanceMethod ({ cls := "ClueLogic$Reader", name := "ofPerson", desc := "()LClueLogic$Clue;" } : Jvm.MethodName)) ∈ GW := mwT 395 (by decide +kernel) rfl
theorem wd_396 : (Jvm.Cond.code ({ cls := "ClueLogic$Reader", name := "ofPerson", desc := "()LClueLogic$Clue;" } : Jvm.MethodName) prog_10_method_6_code (2 : Nat) (Option.some (Jvm.ClassFile.FieldType.object "ClueLogic$Clue"))) ∈ GW := mwT 396 (by decide +kernel) rfl
theorem wd_397 : (Jvm.Cond.classLink "ClueLogic$Reader" (83 : Nat) "ClueLogic$OfPerson") ∈ GW := mwT 397 (by decide +kernel) rfl
theorem wd_398 : (Jvm.Cond.instantiable "ClueLogic$OfPerson" (1 : Nat)) ∈ GW := mwT 398 (by decide +kernel) rfl
theorem wd_399 : (Jvm.Cond.methodLink "ClueLogic$Reader" (85 : Nat) ({ cls := "ClueLogic$OfPerson", name := "<init>", desc := "(I)V" } : Jvm.MethodName)) ∈ GW := mwT 399 (by decide +kernel) rfl
theorem wd_400 : (Jvm.Cond.instanceMethod ({ cls := "ClueLogic$OfPerson", name := "<init>", desc := "(I)V" } : Jvm.MethodName)) ∈ GW := mwT 400 (by decide +kernel) rfl
theorem wd_401 : (Jvm.Cond.code ({ cls := "ClueLogic$OfPerson", name := "<init>", desc := "(I)V" } : Jvm.MethodName) prog_6_method_1_code (2 : Nat) (Option.none : Option Jvm.ClassFile.FieldType)) ∈ GW := mwT 401 (by decide +kernel) rfl
theorem wd_402 : (Jvm.Cond.methodLink "ClueLogic$OfPerson" (1 : Nat) ({ cls := "java/lang/Object", name := "<init>", desc := "()V" } : Jvm.MethodName)) ∈ GW := mwT 402 (by decide +kernel) rfl
theorem wd_404 : (Jvm.Cond.fieldLink "ClueLogic$OfPerson" (13 : Nat) "ClueLogic$OfPerson" "parties" "I") ∈ GW := mwT 404 (by decide +kernel) rfl
theorem wd_405 : (Jvm.Cond.laysFinal "ClueLogic$OfPerson" "ClueLogic$OfPerson" "parties" "I") ∈ GW := mwT 405 (by decide +kernel) rfl
theorem wd_408 : (Jvm.Cond.arrayClass Jvm.ClassFile.FieldType.byte) ∈ GW := mwT 408 (by decide +kernel) rfl
theorem wd_409 : (Jvm.Cond.methodLink "ClueLogic$Reader" (69 : Nat) ({ cls := "ClueLogic$Reader", name := "saying", desc := "()LClueLogic$Clue;" } : Jvm.MethodName)) ∈ GW := mwT 409 (by decide +kernel) rfl
theorem wd_411 : (Jvm.Cond.instanceMethod ({ cls := "ClueLogic$Reader", name := "saying", desc := "()LClueLogic$Clue;" } : Jvm.MethodName)) ∈ GW := mwT 411 (by decide +kernel) rfl
theorem wd_412 : (Jvm.Cond.code ({ cls := "ClueLogic$Reader", name := "saying", desc := "()LClueLogic$Clue;" } : Jvm.MethodName) prog_10_method_7_code (2 : Nat) (Option.some (Jvm.ClassFile.FieldType.object "ClueLogic$Clue"))) ∈ GW := mwT 412 (by decide +kernel) rfl
theorem wd_414 : (Jvm.Cond.methodLink "ClueLogic$Reader" (72 : Nat) ({ cls := "ClueLogic$Reader", name := "turned", desc := "(I)LClueLogic$Clue;" } : Jvm.MethodName)) ∈ GW := mwT 414 (by decide +kernel) rfl
theorem wd_416 : (Jvm.Cond.instanceMethod ({ cls := "ClueLogic$Reader", name := "turned", desc := "(I)LClueLogic$Clue;" } : Jvm.MethodName)) ∈ GW := mwT 416 (by decide +kernel) rfl
theorem wd_417 : (Jvm.Cond.code ({ cls := "ClueLogic$Reader", name := "turned", desc := "(I)LClueLogic$Clue;" } : Jvm.MethodName) prog_10_method_8_code (3 : Nat) (Option.some (Jvm.ClassFile.FieldType.object "ClueLogic$Clue"))) ∈ GW := mwT 417 (by decide +kernel) rfl
theorem wd_418 : (Jvm.Cond.classLink "ClueLogic$Reader" (91 : Nat) "ClueLogic$Turned") ∈ GW := mwT 418 (by decide +kernel) rfl
theorem wd_419 : (Jvm.Cond.instantiable "ClueLogic$Turned" (2 : Nat)) ∈ GW := mwT 419 (by decide +kernel) rfl
theorem wd_420 : (Jvm.Cond.methodLink "ClueLogic$Reader" (93 : Nat) ({ cls := "ClueLogic$Turned", name := "<init>", desc := "(ILClueLogic$Clue;)V" } : Jvm.MethodName)) ∈ GW := mwT 420 (by decide +kernel) rfl
theorem wd_421 : (Jvm.Cond.instanceMethod ({ cls := "ClueLogic$Turned", name := "<init>", desc := "(ILClueLogic$Clue;)V" } : Jvm.MethodName)) ∈ GW := mwT 421 (by decide +kernel) rfl
theorem wd_422 : (Jvm.Cond.code ({ cls := "ClueLogic$Turned", name := "<init>", desc := "(ILClueLogic$Clue;)V" } : Jvm.MethodName) prog_11_method_1_code (3 : Nat) (Option.none : Option Jvm.ClassFile.FieldType)) ∈ GW := mwT 422 (by decide +kernel) rfl
theorem wd_423 : (Jvm.Cond.methodLink "ClueLogic$Turned" (1 : Nat) ({ cls := "java/lang/Object", name := "<init>", desc := "()V" } : Jvm.MethodName)) ∈ GW := mwT 423 (by decide +kernel) rfl
theorem wd_424 : (Jvm.Cond.fieldLink "ClueLogic$Turned" (7 : Nat) "ClueLogic$Turned" "turning" "I") ∈ GW := mwT 424 (by decide +kernel) rfl
theorem wd_425 : (Jvm.Cond.fieldLink "ClueLogic$Turned" (13 : Nat) "ClueLogic$Turned" "part" "LClueLogic$Clue;") ∈ GW := mwT 425 (by decide +kernel) rfl
theorem wd_426 : (Jvm.Cond.laysFinal "ClueLogic$Turned" "ClueLogic$Turned" "turning" "I") ∈ GW := mwT 426 (by decide +kernel) rfl
theorem wd_428 : (Jvm.Cond.laysFinal "ClueLogic$Turned" "ClueLogic$Turned" "part" "LClueLogic$Clue;") ∈ GW := mwT 428 (by decide +kernel) rfl
theorem wd_431 : (Jvm.Cond.methodLink "ClueLogic$Reader" (76 : Nat) ({ cls := "ClueLogic$Reader", name := "joined", desc := "(Z)LClueLogic$Clue;" } : Jvm.MethodName)) ∈ GW := mwT 431 (by decide +kernel) rfl
theorem wd_433 : (Jvm.Cond.instanceMethod ({ cls := "ClueLogic$Reader", name := "joined", desc := "(Z)LClueLogic$Clue;" } : Jvm.MethodName)) ∈ GW := mwT 433 (by decide +kernel) rfl
theorem wd_434 : (Jvm.Cond.code ({ cls := "ClueLogic$Reader", name := "joined", desc := "(Z)LClueLogic$Clue;" } : Jvm.MethodName) prog_10_method_9_code (4 : Nat) (Option.some (Jvm.ClassFile.FieldType.object "ClueLogic$Clue"))) ∈ GW := mwT 434 (by decide +kernel) rfl
theorem wd_435 : (Jvm.Cond.classLink "ClueLogic$Reader" (96 : Nat) "ClueLogic$Joined") ∈ GW := mwT 435 (by decide +kernel) rfl
theorem wd_436 : (Jvm.Cond.instantiable "ClueLogic$Joined" (3 : Nat)) ∈ GW := mwT 436 (by decide +kernel) rfl
theorem wd_437 : (Jvm.Cond.methodLink "ClueLogic$Reader" (98 : Nat) ({ cls := "ClueLogic$Joined", name := "<init>", desc := "(ZLClueLogic$Clue;LClueLogic$Clue;)V" } : Jvm.MethodName)) ∈ GW := mwT 437 (by decide +kernel) rfl
theorem wd_438 : (Jvm.Cond.instanceMethod ({ cls := "ClueLogic$Joined", name := "<init>", desc := "(ZLClueLogic$Clue;LClueLogic$Clue;)V" } : Jvm.MethodName)) ∈ GW := mwT 438 (by decide +kernel) rfl
theorem wd_439 : (Jvm.Cond.code ({ cls := "ClueLogic$Joined", name := "<init>", desc := "(ZLClueLogic$Clue;LClueLogic$Clue;)V" } : Jvm.MethodName) prog_5_method_1_code (4 : Nat) (Option.none : Option Jvm.ClassFile.FieldType)) ∈ GW := mwT 439 (by decide +kernel) rfl
theorem wd_440 : (Jvm.Cond.methodLink "ClueLogic$Joined" (1 : Nat) ({ cls := "java/lang/Object", name := "<init>", desc := "()V" } : Jvm.MethodName)) ∈ GW := mwT 440 (by decide +kernel) rfl
theorem wd_441 : (Jvm.Cond.fieldLink "ClueLogic$Joined" (7 : Nat) "ClueLogic$Joined" "both" "Z") ∈ GW := mwT 441 (by decide +kernel) rfl
theorem wd_442 : (Jvm.Cond.fieldLink "ClueLogic$Joined" (13 : Nat) "ClueLogic$Joined" "first" "LClueLogic$Clue;") ∈ GW := mwT 442 (by decide +kernel) rfl
theorem wd_443 : (Jvm.Cond.fieldLink "ClueLogic$Joined" (17 : Nat) "ClueLogic$Joined" "second" "LClueLogic$Clue;") ∈ GW := mwT 443 (by decide +kernel) rfl
theorem wd_444 : (Jvm.Cond.laysFinal "ClueLogic$Joined" "ClueLogic$Joined" "both" "Z") ∈ GW := mwT 444 (by decide +kernel) rfl
theorem wd_446 : (Jvm.Cond.laysFinal "ClueLogic$Joined" "ClueLogic$Joined" "first" "LClueLogic$Clue;") ∈ GW := mwT 446 (by decide +kernel) rfl
theorem wd_448 : (Jvm.Cond.laysFinal "ClueLogic$Joined" "ClueLogic$Joined" "second" "LClueLogic$Clue;") ∈ GW := mwT 448 (by decide +kernel) rfl
theorem wd_451 : (Jvm.Cond.methodLink "ClueLogic$Reader" (80 : Nat) ({ cls := "ClueLogic$Reader", name := "ofValues", desc := "(I)LClueLogic$Clue;" } : Jvm.MethodName)) ∈ GW := mwT 451 (by decide +kernel) rfl
theorem wd_453 : (Jvm.Cond.instanceMethod ({ cls := "ClueLogic$Reader", name := "ofValues", desc := "(I)LClueLogic$Clue;" } : Jvm.MethodName)) ∈ GW := mwT 453 (by decide +kernel) rfl
theorem wd_454 : (Jvm.Cond.code ({ cls := "ClueLogic$Reader", name := "ofValues", desc := "(I)LClueLogic$Clue;" } : Jvm.MethodName) prog_10_method_10_code (4 : Nat) (Option.some (Jvm.ClassFile.FieldType.object "ClueLogic$Clue"))) ∈ GW := mwT 454 (by decide +kernel) rfl
theorem wd_455 : (Jvm.Cond.methodLink "ClueLogic$Reader" (101 : Nat) ({ cls := "ClueLogic$Reader", name := "takeValue", desc := "()I" } : Jvm.MethodName)) ∈ GW := mwT 455 (by decide +kernel) rfl
theorem wd_457 : (Jvm.Cond.instanceMethod ({ cls := "ClueLogic$Reader", name := "takeValue", desc := "()I" } : Jvm.MethodName)) ∈ GW := mwT 457 (by decide +kernel) rfl
theorem wd_458 : (Jvm.Cond.code ({ cls := "ClueLogic$Reader", name := "takeValue", desc := "()I" } : Jvm.MethodName) prog_10_method_11_code (3 : Nat) (Option.some Jvm.ClassFile.FieldType.int)) ∈ GW := mwT 458 (by decide +kernel) rfl
theorem wd_459 : (Jvm.Cond.classLink "ClueLogic$Reader" (105 : Nat) "ClueLogic$OfValues") ∈ GW := mwT 459 (by decide +kernel) rfl
theorem wd_460 : (Jvm.Cond.instantiable "ClueLogic$OfValues" (3 : Nat)) ∈ GW := mwT 460 (by decide +kernel) rfl
theorem wd_461 : (Jvm.Cond.methodLink "ClueLogic$Reader" (107 : Nat) ({ cls := "ClueLogic$OfValues", name := "<init>", desc := "(III)V" } : Jvm.MethodName)) ∈ GW := mwT 461 (by decide +kernel) rfl
theorem wd_462 : (Jvm.Cond.instanceMethod ({ cls := "ClueLogic$OfValues", name := "<init>", desc := "(III)V" } : Jvm.MethodName)) ∈ GW := mwT 462 (by decide +kernel) rfl
theorem wd_463 : (Jvm.Cond.code ({ cls := "ClueLogic$OfValues", name := "<init>", desc := "(III)V" } : Jvm.MethodName) prog_7_method_1_code (4 : Nat) (Option.none : Option Jvm.ClassFile.FieldType)) ∈ GW := mwT 463 (by decide +kernel) rfl
theorem wd_464 : (Jvm.Cond.methodLink "ClueLogic$OfValues" (1 : Nat) ({ cls := "java/lang/Object", name := "<init>", desc := "()V" } : Jvm.MethodName)) ∈ GW := mwT 464 (by decide +kernel) rfl
theorem wd_465 : (Jvm.Cond.fieldLink "ClueLogic$OfValues" (7 : Nat) "ClueLogic$OfValues" "sign" "I") ∈ GW := mwT 465 (by decide +kernel) rfl
theorem wd_466 : (Jvm.Cond.fieldLink "ClueLogic$OfValues" (13 : Nat) "ClueLogic$OfValues" "v" "I") ∈ GW := mwT 466 (by decide +kernel) rfl
theorem wd_467 : (Jvm.Cond.fieldLink "ClueLogic$OfValues" (16 : Nat) "ClueLogic$OfValues" "w" "I") ∈ GW := mwT 467 (by decide +kernel) rfl
theorem wd_468 : (Jvm.Cond.laysFinal "ClueLogic$OfValues" "ClueLogic$OfValues" "sign" "I") ∈ GW := mwT 468 (by decide +kernel) rfl
theorem wd_470 : (Jvm.Cond.laysFinal "ClueLogic$OfValues" "ClueLogic$OfValues" "v" "I") ∈ GW := mwT 470 (by decide +kernel) rfl
theorem wd_472 : (Jvm.Cond.laysFinal "ClueLogic$OfValues" "ClueLogic$OfValues" "w" "I") ∈ GW := mwT 472 (by decide +kernel) rfl
theorem wd_475 : (Jvm.Cond.methodLink "ClueLogic$Reader" (50 : Nat) ({ cls := "ClueLogic$Puzzle", name := "add", desc := "(LClueLogic$Clue;)V" } : Jvm.MethodName)) ∈ GW := mwT 475 (by decide +kernel) rfl
theorem wd_476 : (Jvm.Cond.instanceMethod ({ cls := "ClueLogic$Puzzle", name := "add", desc := "(LClueLogic$Clue;)V" } : Jvm.MethodName)) ∈ GW := mwT 476 (by decide +kernel) rfl
theorem wd_477 : (Jvm.Cond.selects "ClueLogic$Puzzle" ({ cls := "ClueLogic$Puzzle", name := "add", desc := "(LClueLogic$Clue;)V" } : Jvm.MethodName) ({ cls := "ClueLogic$Puzzle", name := "add", desc := "(LClueLogic$Clue;)V" } : Jvm.MethodName)) ∈ GW := mwT 477 (by decide +kernel) rfl
theorem wd_478 : (Jvm.Cond.code ({ cls := "ClueLogic$Puzzle", name := "add", desc := "(LClueLogic$Clue;)V" } : Jvm.MethodName) prog_9_method_2_code (2 : Nat) (Option.none : Option Jvm.ClassFile.FieldType)) ∈ GW := mwT 478 (by decide +kernel) rfl
theorem wd_479 : (Jvm.Cond.methodLink "ClueLogic" (35 : Nat) ({ cls := "ClueLogic$Reader", name := "place", desc := "()I" } : Jvm.MethodName)) ∈ GW := mwT 479 (by decide +kernel) rfl
theorem wd_480 : (Jvm.Cond.instanceMethod ({ cls := "ClueLogic$Reader", name := "place", desc := "()I" } : Jvm.MethodName)) ∈ GW := mwT 480 (by decide +kernel) rfl
theorem wd_481 : (Jvm.Cond.selects "ClueLogic$Reader" ({ cls := "ClueLogic$Reader", name := "place", desc := "()I" } : Jvm.MethodName) ({ cls := "ClueLogic$Reader", name := "place", desc := "()I" } : Jvm.MethodName)) ∈ GW := mwT 481 (by decide +kernel) rfl
theorem wd_482 : (Jvm.Cond.code ({ cls := "ClueLogic$Reader", name := "place", desc := "()I" } : Jvm.MethodName) prog_10_method_2_code (1 : Nat) (Option.some Jvm.ClassFile.FieldType.int)) ∈ GW := mwT 482 (by decide +kernel) rfl
theorem wd_483 : (Jvm.Cond.methodLink "ClueLogic" (39 : Nat) ({ cls := "ClueLogic$Puzzle", name := "clueCount", desc := "()I" } : Jvm.MethodName)) ∈ GW := mwT 483 (by decide +kernel) rfl
theorem wd_484 : (Jvm.Cond.instanceMethod ({ cls := "ClueLogic$Puzzle", name := "clueCount", desc := "()I" } : Jvm.MethodName)) ∈ GW := mwT 484 (by decide +kernel) rfl
theorem wd_485 : (Jvm.Cond.selects "ClueLogic$Puzzle" ({ cls := "ClueLogic$Puzzle", name := "clueCount", desc := "()I" } : Jvm.MethodName) ({ cls := "ClueLogic$Puzzle", name := "clueCount", desc := "()I" } : Jvm.MethodName)) ∈ GW := mwT 485 (by decide +kernel) rfl
theorem wd_486 : (Jvm.Cond.code ({ cls := "ClueLogic$Puzzle", name := "clueCount", desc := "()I" } : Jvm.MethodName) prog_9_method_6_code (1 : Nat) (Option.some Jvm.ClassFile.FieldType.int)) ∈ GW := mwT 486 (by decide +kernel) rfl
theorem wd_487 : (Jvm.Cond.methodLink "ClueLogicLaw" (23 : Nat) ({ cls := "ClueLogic", name := "told", desc := "(I)I" } : Jvm.MethodName)) ∈ GW := mwT 487 (by decide +kernel) rfl
theorem wd_488 : (Jvm.Cond.instanceMethod ({ cls := "ClueLogic", name := "told", desc := "(I)I" } : Jvm.MethodName)) ∈ GW := mwT 488 (by decide +kernel) rfl
theorem wd_489 : (Jvm.Cond.selects "ClueLogic" ({ cls := "ClueLogic", name := "told", desc := "(I)I" } : Jvm.MethodName) ({ cls := "ClueLogic", name := "told", desc := "(I)I" } : Jvm.MethodName)) ∈ GW := mwT 489 (by decide +kernel) rfl
theorem wd_490 : (Jvm.Cond.code ({ cls := "ClueLogic", name := "told", desc := "(I)I" } : Jvm.MethodName) prog_1_method_4_code (2 : Nat) (Option.some Jvm.ClassFile.FieldType.int)) ∈ GW := mwT 490 (by decide +kernel) rfl
theorem wd_491 : (Jvm.Cond.methodLink "ClueLogic" (45 : Nat) ({ cls := "ClueLogic$Puzzle", name := "things", desc := "()I" } : Jvm.MethodName)) ∈ GW := mwT 491 (by decide +kernel) rfl
theorem wd_492 : (Jvm.Cond.instanceMethod ({ cls := "ClueLogic$Puzzle", name := "things", desc := "()I" } : Jvm.MethodName)) ∈ GW := mwT 492 (by decide +kernel) rfl
theorem wd_493 : (Jvm.Cond.selects "ClueLogic$Puzzle" ({ cls := "ClueLogic$Puzzle", name := "things", desc := "()I" } : Jvm.MethodName) ({ cls := "ClueLogic$Puzzle", name := "things", desc := "()I" } : Jvm.MethodName)) ∈ GW := mwT 493 (by decide +kernel) rfl
theorem wd_494 : (Jvm.Cond.code ({ cls := "ClueLogic$Puzzle", name := "things", desc := "()I" } : Jvm.MethodName) prog_9_method_3_code (1 : Nat) (Option.some Jvm.ClassFile.FieldType.int)) ∈ GW := mwT 494 (by decide +kernel) rfl
theorem wd_495 : (Jvm.Cond.methodLink "ClueLogic" (48 : Nat) ({ cls := "ClueLogic$Puzzle", name := "kinds", desc := "()I" } : Jvm.MethodName)) ∈ GW := mwT 495 (by decide +kernel) rfl
theorem wd_496 : (Jvm.Cond.methodLink "ClueLogic" (51 : Nat) ({ cls := "ClueLogic$Puzzle", name := "persons", desc := "()I" } : Jvm.MethodName)) ∈ GW := mwT 496 (by decide +kernel) rfl
theorem wd_497 : (Jvm.Cond.methodLink "ClueLogicLaw" (28 : Nat) ({ cls := "ClueLogic", name := "run", desc := "()I" } : Jvm.MethodName)) ∈ GW := mwT 497 (by decide +kernel) rfl
theorem wd_498 : (Jvm.Cond.instanceMethod ({ cls := "ClueLogic", name := "run", desc := "()I" } : Jvm.MethodName)) ∈ GW := mwT 498 (by decide +kernel) rfl
theorem wd_499 : (Jvm.Cond.selects "ClueLogic" ({ cls := "ClueLogic", name := "run", desc := "()I" } : Jvm.MethodName) ({ cls := "ClueLogic", name := "run", desc := "()I" } : Jvm.MethodName)) ∈ GW := mwT 499 (by decide +kernel) rfl
theorem wd_500 : (Jvm.Cond.code ({ cls := "ClueLogic", name := "run", desc := "()I" } : Jvm.MethodName) prog_1_method_5_code (1 : Nat) (Option.some Jvm.ClassFile.FieldType.int)) ∈ GW := mwT 500 (by decide +kernel) rfl
theorem wd_501 : (Jvm.Cond.methodLink "ClueLogic" (62 : Nat) ({ cls := "ClueLogic$Answers", name := "find", desc := "()V" } : Jvm.MethodName)) ∈ GW := mwT 501 (by decide +kernel) rfl
theorem wd_502 : (Jvm.Cond.instanceMethod ({ cls := "ClueLogic$Answers", name := "find", desc := "()V" } : Jvm.MethodName)) ∈ GW := mwT 502 (by decide +kernel) rfl
theorem wd_503 : (Jvm.Cond.selects "ClueLogic$Answers" ({ cls := "ClueLogic$Answers", name := "find", desc := "()V" } : Jvm.MethodName) ({ cls := "ClueLogic$Answers", name := "find", desc := "()V" } : Jvm.MethodName)) ∈ GW := mwT 503 (by decide +kernel) rfl
theorem wd_504 : (Jvm.Cond.code ({ cls := "ClueLogic$Answers", name := "find", desc := "()V" } : Jvm.MethodName) prog_2_method_8_code (4 : Nat) (Option.none : Option Jvm.ClassFile.FieldType)) ∈ GW := mwT 504 (by decide +kernel) rfl
theorem wd_505 : (Jvm.Cond.methodLink "ClueLogic$Answers" (48 : Nat) ({ cls := "ClueLogic$Puzzle", name := "orders", desc := "()LClueLogic$Orders;" } : Jvm.MethodName)) ∈ GW := mwT 505 (by decide +kernel) rfl
theorem wd_506 : (Jvm.Cond.methodLink "ClueLogic$Answers" (70 : Nat) ({ cls := "ClueLogic$Orders", name := "allTicks", desc := "()I" } : Jvm.MethodName)) ∈ GW := mwT 506 (by decide +kernel) rfl
theorem wd_507 : (Jvm.Cond.methodLink "ClueLogic$Answers" (73 : Nat) ({ cls := "java/util/Arrays", name := "fill", desc := "([II)V" } : Jvm.MethodName)) ∈ GW := mwT 507 (by decide +kernel) rfl
theorem wd_508 : (Jvm.Cond.static ({ cls := "java/util/Arrays", name := "fill", desc := "([II)V" } : Jvm.MethodName)) ∈ GW := mwT 508 (by decide +kernel) rfl
theorem wd_509 : (Jvm.Cond.code ({ cls := "java/util/Arrays", name := "fill", desc := "([II)V" } : Jvm.MethodName) prog_21_method_103_code (4 : Nat) (Option.none : Option Jvm.ClassFile.FieldType)) ∈ GW := mwT 509 (by decide +kernel) rfl
theorem wd_510 : (Jvm.Cond.methodLink "ClueLogic$Answers" (79 : Nat) ({ cls := "ClueLogic$Walk", name := "choose", desc := "([I)I" } : Jvm.MethodName)) ∈ GW := mwT 510 (by decide +kernel) rfl
theorem wd_511 : (Jvm.Cond.instanceMethod ({ cls := "ClueLogic$Walk", name := "choose", desc := "([I)I" } : Jvm.MethodName)) ∈ GW := mwT 511 (by decide +kernel) rfl
theorem wd_512 : (Jvm.Cond.selects "ClueLogic$Walk" ({ cls := "ClueLogic$Walk", name := "choose", desc := "([I)I" } : Jvm.MethodName) ({ cls := "ClueLogic$Walk", name := "choose", desc := "([I)I" } : Jvm.MethodName)) ∈ GW := mwT 512 (by decide +kernel) rfl
theorem wd_513 : (Jvm.Cond.code ({ cls := "ClueLogic$Walk", name := "choose", desc := "([I)I" } : Jvm.MethodName) prog_12_method_2_code (4 : Nat) (Option.some Jvm.ClassFile.FieldType.int)) ∈ GW := mwT 513 (by decide +kernel) rfl
theorem wd_514 : (Jvm.Cond.methodLink "ClueLogic$Walk" (40 : Nat) ({ cls := "ClueLogic$Walk", name := "chooseOrders", desc := "(II)I" } : Jvm.MethodName)) ∈ GW := mwT 514 (by decide +kernel) rfl
theorem wd_516 : (Jvm.Cond.instanceMethod ({ cls := "ClueLogic$Walk", name := "chooseOrders", desc := "(II)I" } : Jvm.MethodName)) ∈ GW := mwT 516 (by decide +kernel) rfl
theorem wd_517 : (Jvm.Cond.code ({ cls := "ClueLogic$Walk", name := "chooseOrders", desc := "(II)I" } : Jvm.MethodName) prog_12_method_3_code (5 : Nat) (Option.some Jvm.ClassFile.FieldType.int)) ∈ GW := mwT 517 (by decide +kernel) rfl
theorem wd_518 : (Jvm.Cond.methodLink "ClueLogic$Walk" (44 : Nat) ({ cls := "ClueLogic$Orders", name := "count", desc := "()I" } : Jvm.MethodName)) ∈ GW := mwT 518 (by decide +kernel) rfl
theorem wd_519 : (Jvm.Cond.instanceMethod ({ cls := "ClueLogic$Orders", name := "count", desc := "()I" } : Jvm.MethodName)) ∈ GW := mwT 519 (by decide +kernel) rfl
theorem wd_520 : (Jvm.Cond.selects "ClueLogic$Orders" ({ cls := "ClueLogic$Orders", name := "count", desc := "()I" } : Jvm.MethodName) ({ cls := "ClueLogic$Orders", name := "count", desc := "()I" } : Jvm.MethodName)) ∈ GW := mwT 520 (by decide +kernel) rfl
theorem wd_521 : (Jvm.Cond.code ({ cls := "ClueLogic$Orders", name := "count", desc := "()I" } : Jvm.MethodName) prog_8_method_3_code (1 : Nat) (Option.some Jvm.ClassFile.FieldType.int)) ∈ GW := mwT 521 (by decide +kernel) rfl
theorem wd_522 : (Jvm.Cond.methodLink "ClueLogic$Walk" (49 : Nat) ({ cls := "ClueLogic$Orders", name := "ticks", desc := "(I)I" } : Jvm.MethodName)) ∈ GW := mwT 522 (by decide +kernel) rfl
theorem wd_523 : (Jvm.Cond.instanceMethod ({ cls := "ClueLogic$Orders", name := "ticks", desc := "(I)I" } : Jvm.MethodName)) ∈ GW := mwT 523 (by decide +kernel) rfl
theorem wd_524 : (Jvm.Cond.selects "ClueLogic$Orders" ({ cls := "ClueLogic$Orders", name := "ticks", desc := "(I)I" } : Jvm.MethodName) ({ cls := "ClueLogic$Orders", name := "ticks", desc := "(I)I" } : Jvm.MethodName)) ∈ GW := mwT 524 (by decide +kernel) rfl
theorem wd_525 : (Jvm.Cond.code ({ cls := "ClueLogic$Orders", name := "ticks", desc := "(I)I" } : Jvm.MethodName) prog_8_method_4_code (2 : Nat) (Option.some Jvm.ClassFile.FieldType.int)) ∈ GW := mwT 525 (by decide +kernel) rfl
theorem wd_526 : (Jvm.Cond.methodLink "ClueLogic$Answers" (83 : Nat) ({ cls := "ClueLogic$Walk", name := "start", desc := "()V" } : Jvm.MethodName)) ∈ GW := mwT 526 (by decide +kernel) rfl
theorem wd_527 : (Jvm.Cond.instanceMethod ({ cls := "ClueLogic$Walk", name := "start", desc := "()V" } : Jvm.MethodName)) ∈ GW := mwT 527 (by decide +kernel) rfl
theorem wd_528 : (Jvm.Cond.selects "ClueLogic$Walk" ({ cls := "ClueLogic$Walk", name := "start", desc := "()V" } : Jvm.MethodName) ({ cls := "ClueLogic$Walk", name := "start", desc := "()V" } : Jvm.MethodName)) ∈ GW := mwT 528 (by decide +kernel) rfl
theorem wd_529 : (Jvm.Cond.code ({ cls := "ClueLogic$Walk", name := "start", desc := "()V" } : Jvm.MethodName) prog_12_method_4_code (2 : Nat) (Option.none : Option Jvm.ClassFile.FieldType)) ∈ GW := mwT 529 (by decide +kernel) rfl
theorem wd_530 : (Jvm.Cond.methodLink "ClueLogic$Walk" (53 : Nat) ({ cls := "ClueLogic$Walk", name := "go", desc := "(II)V" } : Jvm.MethodName)) ∈ GW := mwT 530 (by decide +kernel) rfl
theorem wd_532 : (Jvm.Cond.instanceMethod ({ cls := "ClueLogic$Walk", name := "go", desc := "(II)V" } : Jvm.MethodName)) ∈ GW := mwT 532 (by decide +kernel) rfl
theorem wd_533 : (Jvm.Cond.code ({ cls := "ClueLogic$Walk", name := "go", desc := "(II)V" } : Jvm.MethodName) prog_12_method_8_code (5 : Nat) (Option.none : Option Jvm.ClassFile.FieldType)) ∈ GW := mwT 533 (by decide +kernel) rfl
theorem wd_534 : (Jvm.Cond.methodLink "ClueLogic$Walk" (57 : Nat) ({ cls := "ClueLogic$Walk", name := "order", desc := "(I)I" } : Jvm.MethodName)) ∈ GW := mwT 534 (by decide +kernel) rfl
theorem wd_535 : (Jvm.Cond.instanceMethod ({ cls := "ClueLogic$Walk", name := "order", desc := "(I)I" } : Jvm.MethodName)) ∈ GW := mwT 535 (by decide +kernel) rfl
theorem wd_536 : (Jvm.Cond.selects "ClueLogic$Walk" ({ cls := "ClueLogic$Walk", name := "order", desc := "(I)I" } : Jvm.MethodName) ({ cls := "ClueLogic$Walk", name := "order", desc := "(I)I" } : Jvm.MethodName)) ∈ GW := mwT 536 (by decide +kernel) rfl
theorem wd_537 : (Jvm.Cond.code ({ cls := "ClueLogic$Walk", name := "order", desc := "(I)I" } : Jvm.MethodName) prog_12_method_6_code (2 : Nat) (Option.some Jvm.ClassFile.FieldType.int)) ∈ GW := mwT 537 (by decide +kernel) rfl
theorem wd_538 : (Jvm.Cond.methodLink "ClueLogic$Walk" (60 : Nat) ({ cls := "ClueLogic$Orders", name := "things", desc := "()I" } : Jvm.MethodName)) ∈ GW := mwT 538 (by decide +kernel) rfl
theorem wd_539 : (Jvm.Cond.instanceMethod ({ cls := "ClueLogic$Orders", name := "things", desc := "()I" } : Jvm.MethodName)) ∈ GW := mwT 539 (by decide +kernel) rfl
theorem wd_540 : (Jvm.Cond.selects "ClueLogic$Orders" ({ cls := "ClueLogic$Orders", name := "things", desc := "()I" } : Jvm.MethodName) ({ cls := "ClueLogic$Orders", name := "things", desc := "()I" } : Jvm.MethodName)) ∈ GW := mwT 540 (by decide +kernel) rfl
theorem wd_541 : (Jvm.Cond.code ({ cls := "ClueLogic$Orders", name := "things", desc := "()I" } : Jvm.MethodName) prog_8_method_2_code (1 : Nat) (Option.some Jvm.ClassFile.FieldType.int)) ∈ GW := mwT 541 (by decide +kernel) rfl
theorem wd_542 : (Jvm.Cond.methodLink "ClueLogic$Walk" (63 : Nat) ({ cls := "ClueLogic$Orders", name := "value", desc := "(II)I" } : Jvm.MethodName)) ∈ GW := mwT 542 (by decide +kernel) rfl
theorem wd_543 : (Jvm.Cond.instanceMethod ({ cls := "ClueLogic$Orders", name := "value", desc := "(II)I" } : Jvm.MethodName)) ∈ GW := mwT 543 (by decide +kernel) rfl
theorem wd_544 : (Jvm.Cond.selects "ClueLogic$Orders" ({ cls := "ClueLogic$Orders", name := "value", desc := "(II)I" } : Jvm.MethodName) ({ cls := "ClueLogic$Orders", name := "value", desc := "(II)I" } : Jvm.MethodName)) ∈ GW := mwT 544 (by decide +kernel) rfl
theorem wd_545 : (Jvm.Cond.code ({ cls := "ClueLogic$Orders", name := "value", desc := "(II)I" } : Jvm.MethodName) prog_8_method_6_code (3 : Nat) (Option.some Jvm.ClassFile.FieldType.int)) ∈ GW := mwT 545 (by decide +kernel) rfl
theorem wd_546 : (Jvm.Cond.methodLink "ClueLogic$Answers" (86 : Nat) ({ cls := "ClueLogic$Answers", name := "weigh", desc := "()V" } : Jvm.MethodName)) ∈ GW := mwT 546 (by decide +kernel) rfl
theorem wd_548 : (Jvm.Cond.instanceMethod ({ cls := "ClueLogic$Answers", name := "weigh", desc := "()V" } : Jvm.MethodName)) ∈ GW := mwT 548 (by decide +kernel) rfl
theorem wd_549 : (Jvm.Cond.code ({ cls := "ClueLogic$Answers", name := "weigh", desc := "()V" } : Jvm.MethodName) prog_2_method_9_code (5 : Nat) (Option.none : Option Jvm.ClassFile.FieldType)) ∈ GW := mwT 549 (by decide +kernel) rfl
theorem wd_550 : (Jvm.Cond.methodLink "ClueLogic$Answers" (92 : Nat) ({ cls := "ClueLogic$Puzzle", name := "parties", desc := "()I" } : Jvm.MethodName)) ∈ GW := mwT 550 (by decide +kernel) rfl
theorem wd_551 : (Jvm.Cond.methodLink "ClueLogic$Answers" (95 : Nat) ({ cls := "ClueLogic$Puzzle", name := "clueCount", desc := "()I" } : Jvm.MethodName)) ∈ GW := mwT 551 (by decide +kernel) rfl
theorem wd_552 : (Jvm.Cond.methodLink "ClueLogic$Answers" (98 : Nat) ({ cls := "ClueLogic$Puzzle", name := "clue", desc := "(I)LClueLogic$Clue;" } : Jvm.MethodName)) ∈ GW := mwT 552 (by decide +kernel) rfl
theorem wd_553 : (Jvm.Cond.instanceMethod ({ cls := "ClueLogic$Puzzle", name := "clue", desc := "(I)LClueLogic$Clue;" } : Jvm.MethodName)) ∈ GW := mwT 553 (by decide +kernel) rfl
theorem wd_554 : (Jvm.Cond.selects "ClueLogic$Puzzle" ({ cls := "ClueLogic$Puzzle", name := "clue", desc := "(I)LClueLogic$Clue;" } : Jvm.MethodName) ({ cls := "ClueLogic$Puzzle", name := "clue", desc := "(I)LClueLogic$Clue;" } : Jvm.MethodName)) ∈ GW := mwT 554 (by decide +kernel) rfl
theorem wd_555 : (Jvm.Cond.code ({ cls := "ClueLogic$Puzzle", name := "clue", desc := "(I)LClueLogic$Clue;" } : Jvm.MethodName) prog_9_method_8_code (2 : Nat) (Option.some (Jvm.ClassFile.FieldType.object "ClueLogic$Clue"))) ∈ GW := mwT 555 (by decide +kernel) rfl
theorem wd_556 : (Jvm.Cond.methodLink "ClueLogic$Answers" (102 : Nat) ({ cls := "ClueLogic$Walk", name := "thing", desc := "()[I" } : Jvm.MethodName)) ∈ GW := mwT 556 (by decide +kernel) rfl
theorem wd_557 : (Jvm.Cond.instanceMethod ({ cls := "ClueLogic$Walk", name := "thing", desc := "()[I" } : Jvm.MethodName)) ∈ GW := mwT 557 (by decide +kernel) rfl
theorem wd_558 : (Jvm.Cond.selects "ClueLogic$Walk" ({ cls := "ClueLogic$Walk", name := "thing", desc := "()[I" } : Jvm.MethodName) ({ cls := "ClueLogic$Walk", name := "thing", desc := "()[I" } : Jvm.MethodName)) ∈ GW := mwT 558 (by decide +kernel) rfl
theorem wd_559 : (Jvm.Cond.code ({ cls := "ClueLogic$Walk", name := "thing", desc := "()[I" } : Jvm.MethodName) prog_12_method_7_code (1 : Nat) (Option.some (Jvm.ClassFile.FieldType.array Jvm.ClassFile.FieldType.int))) ∈ GW := mwT 559 (by decide +kernel) rfl
theorem wd_561 : (Jvm.Cond.methodLink "ClueLogic$Answers" (106 : Nat) ({ cls := "ClueLogic$Clue", name := "holds", desc := "([I)I" } : Jvm.MethodName)) ∈ GW := mwT 561 (by decide +kernel) rfl
theorem wd_565 : (Jvm.Cond.selects "ClueLogic$Joined" ({ cls := "ClueLogic$Clue", name := "holds", desc := "([I)I" } : Jvm.MethodName) ({ cls := "ClueLogic$Joined", name := "holds", desc := "([I)I" } : Jvm.MethodName)) ∈ GW := mwT 565 (by decide +kernel) rfl
theorem wd_567 : (Jvm.Cond.instanceMethod ({ cls := "ClueLogic$Joined", name := "holds", desc := "([I)I" } : Jvm.MethodName)) ∈ GW := mwT 567 (by decide +kernel) rfl
theorem wd_569 : (Jvm.Cond.code ({ cls := "ClueLogic$Joined", name := "holds", desc := "([I)I" } : Jvm.MethodName) prog_5_method_2_code (4 : Nat) (Option.some Jvm.ClassFile.FieldType.int)) ∈ GW := mwT 569 (by decide +kernel) rfl
theorem wd_571 : (Jvm.Cond.methodLink "ClueLogic$Joined" (20 : Nat) ({ cls := "ClueLogic$Clue", name := "holds", desc := "([I)I" } : Jvm.MethodName)) ∈ GW := mwT 571 (by decide +kernel) rfl
theorem wd_573 : (Jvm.Cond.selects "ClueLogic$OfPerson" ({ cls := "ClueLogic$Clue", name := "holds", desc := "([I)I" } : Jvm.MethodName) ({ cls := "ClueLogic$OfPerson", name := "holds", desc := "([I)I" } : Jvm.MethodName)) ∈ GW := mwT 573 (by decide +kernel) rfl
theorem wd_575 : (Jvm.Cond.instanceMethod ({ cls := "ClueLogic$OfPerson", name := "holds", desc := "([I)I" } : Jvm.MethodName)) ∈ GW := mwT 575 (by decide +kernel) rfl
theorem wd_577 : (Jvm.Cond.code ({ cls := "ClueLogic$OfPerson", name := "holds", desc := "([I)I" } : Jvm.MethodName) prog_6_method_2_code (2 : Nat) (Option.some Jvm.ClassFile.FieldType.int)) ∈ GW := mwT 577 (by decide +kernel) rfl
theorem wd_579 : (Jvm.Cond.selects "ClueLogic$OfValues" ({ cls := "ClueLogic$Clue", name := "holds", desc := "([I)I" } : Jvm.MethodName) ({ cls := "ClueLogic$OfValues", name := "holds", desc := "([I)I" } : Jvm.MethodName)) ∈ GW := mwT 579 (by decide +kernel) rfl
theorem wd_581 : (Jvm.Cond.instanceMethod ({ cls := "ClueLogic$OfValues", name := "holds", desc := "([I)I" } : Jvm.MethodName)) ∈ GW := mwT 581 (by decide +kernel) rfl
theorem wd_583 : (Jvm.Cond.code ({ cls := "ClueLogic$OfValues", name := "holds", desc := "([I)I" } : Jvm.MethodName) prog_7_method_2_code (2 : Nat) (Option.some Jvm.ClassFile.FieldType.int)) ∈ GW := mwT 583 (by decide +kernel) rfl
theorem wd_584 : (Jvm.Cond.methodLink "ClueLogic$OfValues" (19 : Nat) ({ cls := "ClueLogic$OfValues", name := "relates", desc := "(II)Z" } : Jvm.MethodName)) ∈ GW := mwT 584 (by decide +kernel) rfl
theorem wd_586 : (Jvm.Cond.instanceMethod ({ cls := "ClueLogic$OfValues", name := "relates", desc := "(II)Z" } : Jvm.MethodName)) ∈ GW := mwT 586 (by decide +kernel) rfl
theorem wd_587 : (Jvm.Cond.code ({ cls := "ClueLogic$OfValues", name := "relates", desc := "(II)Z" } : Jvm.MethodName) prog_7_method_3_code (3 : Nat) (Option.some Jvm.ClassFile.FieldType.boolean)) ∈ GW := mwT 587 (by decide +kernel) rfl
theorem wd_589 : (Jvm.Cond.selects "ClueLogic$Turned" ({ cls := "ClueLogic$Clue", name := "holds", desc := "([I)I" } : Jvm.MethodName) ({ cls := "ClueLogic$Turned", name := "holds", desc := "([I)I" } : Jvm.MethodName)) ∈ GW := mwT 589 (by decide +kernel) rfl
theorem wd_591 : (Jvm.Cond.instanceMethod ({ cls := "ClueLogic$Turned", name := "holds", desc := "([I)I" } : Jvm.MethodName)) ∈ GW := mwT 591 (by decide +kernel) rfl
theorem wd_593 : (Jvm.Cond.code ({ cls := "ClueLogic$Turned", name := "holds", desc := "([I)I" } : Jvm.MethodName) prog_11_method_2_code (2 : Nat) (Option.some Jvm.ClassFile.FieldType.int)) ∈ GW := mwT 593 (by decide +kernel) rfl
theorem wd_595 : (Jvm.Cond.methodLink "ClueLogic$Turned" (17 : Nat) ({ cls := "ClueLogic$Clue", name := "holds", desc := "([I)I" } : Jvm.MethodName)) ∈ GW := mwT 595 (by decide +kernel) rfl
theorem wd_596 : (Jvm.Cond.methodLink "ClueLogic$Answers" (111 : Nat) ({ cls := "ClueLogic$Answers", name := "add", desc := "(I)V" } : Jvm.MethodName)) ∈ GW := mwT 596 (by decide +kernel) rfl
theorem wd_598 : (Jvm.Cond.instanceMethod ({ cls := "ClueLogic$Answers", name := "add", desc := "(I)V" } : Jvm.MethodName)) ∈ GW := mwT 598 (by decide +kernel) rfl
theorem wd_599 : (Jvm.Cond.code ({ cls := "ClueLogic$Answers", name := "add", desc := "(I)V" } : Jvm.MethodName) prog_2_method_10_code (4 : Nat) (Option.none : Option Jvm.ClassFile.FieldType)) ∈ GW := mwT 599 (by decide +kernel) rfl
theorem wd_600 : (Jvm.Cond.methodLink "ClueLogic$Answers" (118 : Nat) ({ cls := "java/lang/Integer", name := "bitCount", desc := "(I)I" } : Jvm.MethodName)) ∈ GW := mwT 600 (by decide +kernel) rfl
theorem wd_601 : (Jvm.Cond.methodLink "ClueLogic$Answers" (124 : Nat) ({ cls := "ClueLogic$Puzzle", name := "kinds", desc := "()I" } : Jvm.MethodName)) ∈ GW := mwT 601 (by decide +kernel) rfl
theorem wd_602 : (Jvm.Cond.methodLink "ClueLogic$Answers" (127 : Nat) ({ cls := "ClueLogic$Walk", name := "order", desc := "(I)I" } : Jvm.MethodName)) ∈ GW := mwT 602 (by decide +kernel) rfl
theorem wd_603 : (Jvm.Cond.methodLink "ClueLogic$Answers" (130 : Nat) ({ cls := "ClueLogic$Answers", name := "keep", desc := "(I)V" } : Jvm.MethodName)) ∈ GW := mwT 603 (by decide +kernel) rfl
theorem wd_605 : (Jvm.Cond.instanceMethod ({ cls := "ClueLogic$Answers", name := "keep", desc := "(I)V" } : Jvm.MethodName)) ∈ GW := mwT 605 (by decide +kernel) rfl
theorem wd_606 : (Jvm.Cond.code ({ cls := "ClueLogic$Answers", name := "keep", desc := "(I)V" } : Jvm.MethodName) prog_2_method_11_code (3 : Nat) (Option.none : Option Jvm.ClassFile.FieldType)) ∈ GW := mwT 606 (by decide +kernel) rfl
theorem wd_607 : (Jvm.Cond.methodLink "ClueLogic$Answers" (115 : Nat) ({ cls := "ClueLogic$Answers", name := "need", desc := "(I)V" } : Jvm.MethodName)) ∈ GW := mwT 607 (by decide +kernel) rfl
theorem wd_609 : (Jvm.Cond.instanceMethod ({ cls := "ClueLogic$Answers", name := "need", desc := "(I)V" } : Jvm.MethodName)) ∈ GW := mwT 609 (by decide +kernel) rfl
theorem wd_610 : (Jvm.Cond.code ({ cls := "ClueLogic$Answers", name := "need", desc := "(I)V" } : Jvm.MethodName) prog_2_method_12_code (3 : Nat) (Option.none : Option Jvm.ClassFile.FieldType)) ∈ GW := mwT 610 (by decide +kernel) rfl
theorem wd_611 : (Jvm.Cond.methodLink "ClueLogic$Answers" (89 : Nat) ({ cls := "ClueLogic$Walk", name := "next", desc := "()V" } : Jvm.MethodName)) ∈ GW := mwT 611 (by decide +kernel) rfl
theorem wd_612 : (Jvm.Cond.instanceMethod ({ cls := "ClueLogic$Walk", name := "next", desc := "()V" } : Jvm.MethodName)) ∈ GW := mwT 612 (by decide +kernel) rfl
theorem wd_613 : (Jvm.Cond.selects "ClueLogic$Walk" ({ cls := "ClueLogic$Walk", name := "next", desc := "()V" } : Jvm.MethodName) ({ cls := "ClueLogic$Walk", name := "next", desc := "()V" } : Jvm.MethodName)) ∈ GW := mwT 613 (by decide +kernel) rfl
theorem wd_614 : (Jvm.Cond.code ({ cls := "ClueLogic$Walk", name := "next", desc := "()V" } : Jvm.MethodName) prog_12_method_5_code (2 : Nat) (Option.none : Option Jvm.ClassFile.FieldType)) ∈ GW := mwT 614 (by decide +kernel) rfl
theorem wd_615 : (Jvm.Cond.methodLink "ClueLogic" (67 : Nat) ({ cls := "ClueLogic$Answers", name := "count", desc := "()I" } : Jvm.MethodName)) ∈ GW := mwT 615 (by decide +kernel) rfl
theorem wd_616 : (Jvm.Cond.instanceMethod ({ cls := "ClueLogic$Answers", name := "count", desc := "()I" } : Jvm.MethodName)) ∈ GW := mwT 616 (by decide +kernel) rfl
theorem wd_617 : (Jvm.Cond.selects "ClueLogic$Answers" ({ cls := "ClueLogic$Answers", name := "count", desc := "()I" } : Jvm.MethodName) ({ cls := "ClueLogic$Answers", name := "count", desc := "()I" } : Jvm.MethodName)) ∈ GW := mwT 617 (by decide +kernel) rfl
theorem wd_618 : (Jvm.Cond.code ({ cls := "ClueLogic$Answers", name := "count", desc := "()I" } : Jvm.MethodName) prog_2_method_2_code (1 : Nat) (Option.some Jvm.ClassFile.FieldType.int)) ∈ GW := mwT 618 (by decide +kernel) rfl
theorem wd_619 : (Jvm.Cond.methodLink "ClueLogicLaw" (32 : Nat) ({ cls := "ClueLogic", name := "answer", desc := "(III)I" } : Jvm.MethodName)) ∈ GW := mwT 619 (by decide +kernel) rfl
theorem wd_620 : (Jvm.Cond.instanceMethod ({ cls := "ClueLogic", name := "answer", desc := "(III)I" } : Jvm.MethodName)) ∈ GW := mwT 620 (by decide +kernel) rfl
theorem wd_621 : (Jvm.Cond.selects "ClueLogic" ({ cls := "ClueLogic", name := "answer", desc := "(III)I" } : Jvm.MethodName) ({ cls := "ClueLogic", name := "answer", desc := "(III)I" } : Jvm.MethodName)) ∈ GW := mwT 621 (by decide +kernel) rfl
theorem wd_622 : (Jvm.Cond.code ({ cls := "ClueLogic", name := "answer", desc := "(III)I" } : Jvm.MethodName) prog_1_method_6_code (4 : Nat) (Option.some Jvm.ClassFile.FieldType.int)) ∈ GW := mwT 622 (by decide +kernel) rfl
theorem wd_623 : (Jvm.Cond.methodLink "ClueLogic" (70 : Nat) ({ cls := "ClueLogic", name := "isKept", desc := "(I)Z" } : Jvm.MethodName)) ∈ GW := mwT 623 (by decide +kernel) rfl
theorem wd_625 : (Jvm.Cond.instanceMethod ({ cls := "ClueLogic", name := "isKept", desc := "(I)Z" } : Jvm.MethodName)) ∈ GW := mwT 625 (by decide +kernel) rfl
theorem wd_626 : (Jvm.Cond.code ({ cls := "ClueLogic", name := "isKept", desc := "(I)Z" } : Jvm.MethodName) prog_1_method_15_code (2 : Nat) (Option.some Jvm.ClassFile.FieldType.boolean)) ∈ GW := mwT 626 (by decide +kernel) rfl
theorem wd_627 : (Jvm.Cond.methodLink "ClueLogic" (132 : Nat) ({ cls := "ClueLogic$Answers", name := "kept", desc := "()I" } : Jvm.MethodName)) ∈ GW := mwT 627 (by decide +kernel) rfl
theorem wd_628 : (Jvm.Cond.instanceMethod ({ cls := "ClueLogic$Answers", name := "kept", desc := "()I" } : Jvm.MethodName)) ∈ GW := mwT 628 (by decide +kernel) rfl
theorem wd_629 : (Jvm.Cond.selects "ClueLogic$Answers" ({ cls := "ClueLogic$Answers", name := "kept", desc := "()I" } : Jvm.MethodName) ({ cls := "ClueLogic$Answers", name := "kept", desc := "()I" } : Jvm.MethodName)) ∈ GW := mwT 629 (by decide +kernel) rfl
theorem wd_630 : (Jvm.Cond.code ({ cls := "ClueLogic$Answers", name := "kept", desc := "()I" } : Jvm.MethodName) prog_2_method_3_code (1 : Nat) (Option.some Jvm.ClassFile.FieldType.int)) ∈ GW := mwT 630 (by decide +kernel) rfl
theorem wd_631 : (Jvm.Cond.methodLink "ClueLogic" (74 : Nat) ({ cls := "ClueLogic$Puzzle", name := "hasThing", desc := "(I)Z" } : Jvm.MethodName)) ∈ GW := mwT 631 (by decide +kernel) rfl
theorem wd_632 : (Jvm.Cond.instanceMethod ({ cls := "ClueLogic$Puzzle", name := "hasThing", desc := "(I)Z" } : Jvm.MethodName)) ∈ GW := mwT 632 (by decide +kernel) rfl
theorem wd_633 : (Jvm.Cond.selects "ClueLogic$Puzzle" ({ cls := "ClueLogic$Puzzle", name := "hasThing", desc := "(I)Z" } : Jvm.MethodName) ({ cls := "ClueLogic$Puzzle", name := "hasThing", desc := "(I)Z" } : Jvm.MethodName)) ∈ GW := mwT 633 (by decide +kernel) rfl
theorem wd_634 : (Jvm.Cond.code ({ cls := "ClueLogic$Puzzle", name := "hasThing", desc := "(I)Z" } : Jvm.MethodName) prog_9_method_9_code (2 : Nat) (Option.some Jvm.ClassFile.FieldType.boolean)) ∈ GW := mwT 634 (by decide +kernel) rfl
theorem wd_635 : (Jvm.Cond.methodLink "ClueLogic" (77 : Nat) ({ cls := "ClueLogic$Puzzle", name := "hasKind", desc := "(I)Z" } : Jvm.MethodName)) ∈ GW := mwT 635 (by decide +kernel) rfl
theorem wd_636 : (Jvm.Cond.instanceMethod ({ cls := "ClueLogic$Puzzle", name := "hasKind", desc := "(I)Z" } : Jvm.MethodName)) ∈ GW := mwT 636 (by decide +kernel) rfl
theorem wd_637 : (Jvm.Cond.selects "ClueLogic$Puzzle" ({ cls := "ClueLogic$Puzzle", name := "hasKind", desc := "(I)Z" } : Jvm.MethodName) ({ cls := "ClueLogic$Puzzle", name := "hasKind", desc := "(I)Z" } : Jvm.MethodName)) ∈ GW := mwT 637 (by decide +kernel) rfl
theorem wd_638 : (Jvm.Cond.code ({ cls := "ClueLogic$Puzzle", name := "hasKind", desc := "(I)Z" } : Jvm.MethodName) prog_9_method_10_code (2 : Nat) (Option.some Jvm.ClassFile.FieldType.boolean)) ∈ GW := mwT 638 (by decide +kernel) rfl
theorem wd_639 : (Jvm.Cond.methodLink "ClueLogic" (80 : Nat) ({ cls := "ClueLogic$Answers", name := "value", desc := "(III)I" } : Jvm.MethodName)) ∈ GW := mwT 639 (by decide +kernel) rfl
theorem wd_640 : (Jvm.Cond.instanceMethod ({ cls := "ClueLogic$Answers", name := "value", desc := "(III)I" } : Jvm.MethodName)) ∈ GW := mwT 640 (by decide +kernel) rfl
theorem wd_641 : (Jvm.Cond.selects "ClueLogic$Answers" ({ cls := "ClueLogic$Answers", name := "value", desc := "(III)I" } : Jvm.MethodName) ({ cls := "ClueLogic$Answers", name := "value", desc := "(III)I" } : Jvm.MethodName)) ∈ GW := mwT 641 (by decide +kernel) rfl
theorem wd_642 : (Jvm.Cond.code ({ cls := "ClueLogic$Answers", name := "value", desc := "(III)I" } : Jvm.MethodName) prog_2_method_4_code (4 : Nat) (Option.some Jvm.ClassFile.FieldType.int)) ∈ GW := mwT 642 (by decide +kernel) rfl
theorem wd_643 : (Jvm.Cond.methodLink "ClueLogic$Answers" (54 : Nat) ({ cls := "ClueLogic$Orders", name := "value", desc := "(II)I" } : Jvm.MethodName)) ∈ GW := mwT 643 (by decide +kernel) rfl
theorem wd_644 : (Jvm.Cond.methodLink "ClueLogicLaw" (37 : Nat) ({ cls := "ClueLogic", name := "truth", desc := "(II)I" } : Jvm.MethodName)) ∈ GW := mwT 644 (by decide +kernel) rfl
theorem wd_645 : (Jvm.Cond.instanceMethod ({ cls := "ClueLogic", name := "truth", desc := "(II)I" } : Jvm.MethodName)) ∈ GW := mwT 645 (by decide +kernel) rfl
theorem wd_646 : (Jvm.Cond.selects "ClueLogic" ({ cls := "ClueLogic", name := "truth", desc := "(II)I" } : Jvm.MethodName) ({ cls := "ClueLogic", name := "truth", desc := "(II)I" } : Jvm.MethodName)) ∈ GW := mwT 646 (by decide +kernel) rfl
theorem wd_647 : (Jvm.Cond.code ({ cls := "ClueLogic", name := "truth", desc := "(II)I" } : Jvm.MethodName) prog_1_method_7_code (3 : Nat) (Option.some Jvm.ClassFile.FieldType.int)) ∈ GW := mwT 647 (by decide +kernel) rfl
theorem wd_648 : (Jvm.Cond.methodLink "ClueLogic" (84 : Nat) ({ cls := "ClueLogic$Puzzle", name := "hasPerson", desc := "(I)Z" } : Jvm.MethodName)) ∈ GW := mwT 648 (by decide +kernel) rfl
theorem wd_649 : (Jvm.Cond.instanceMethod ({ cls := "ClueLogic$Puzzle", name := "hasPerson", desc := "(I)Z" } : Jvm.MethodName)) ∈ GW := mwT 649 (by decide +kernel) rfl
theorem wd_650 : (Jvm.Cond.selects "ClueLogic$Puzzle" ({ cls := "ClueLogic$Puzzle", name := "hasPerson", desc := "(I)Z" } : Jvm.MethodName) ({ cls := "ClueLogic$Puzzle", name := "hasPerson", desc := "(I)Z" } : Jvm.MethodName)) ∈ GW := mwT 650 (by decide +kernel) rfl
theorem wd_651 : (Jvm.Cond.code ({ cls := "ClueLogic$Puzzle", name := "hasPerson", desc := "(I)Z" } : Jvm.MethodName) prog_9_method_12_code (2 : Nat) (Option.some Jvm.ClassFile.FieldType.boolean)) ∈ GW := mwT 651 (by decide +kernel) rfl
theorem wd_652 : (Jvm.Cond.methodLink "ClueLogic" (87 : Nat) ({ cls := "ClueLogic$Answers", name := "isTruthful", desc := "(II)Z" } : Jvm.MethodName)) ∈ GW := mwT 652 (by decide +kernel) rfl
theorem wd_653 : (Jvm.Cond.instanceMethod ({ cls := "ClueLogic$Answers", name := "isTruthful", desc := "(II)Z" } : Jvm.MethodName)) ∈ GW := mwT 653 (by decide +kernel) rfl
theorem wd_654 : (Jvm.Cond.selects "ClueLogic$Answers" ({ cls := "ClueLogic$Answers", name := "isTruthful", desc := "(II)Z" } : Jvm.MethodName) ({ cls := "ClueLogic$Answers", name := "isTruthful", desc := "(II)Z" } : Jvm.MethodName)) ∈ GW := mwT 654 (by decide +kernel) rfl
theorem wd_655 : (Jvm.Cond.code ({ cls := "ClueLogic$Answers", name := "isTruthful", desc := "(II)Z" } : Jvm.MethodName) prog_2_method_5_code (3 : Nat) (Option.some Jvm.ClassFile.FieldType.boolean)) ∈ GW := mwT 655 (by decide +kernel) rfl
theorem wd_657 : (Jvm.Cond.methodLink "ClueLogicLaw" (42 : Nat) ({ cls := "ClueLogic", name := "often", desc := "(III)I" } : Jvm.MethodName)) ∈ GW := mwT 657 (by decide +kernel) rfl
theorem wd_658 : (Jvm.Cond.instanceMethod ({ cls := "ClueLogic", name := "often", desc := "(III)I" } : Jvm.MethodName)) ∈ GW := mwT 658 (by decide +kernel) rfl
theorem wd_659 : (Jvm.Cond.selects "ClueLogic" ({ cls := "ClueLogic", name := "often", desc := "(III)I" } : Jvm.MethodName) ({ cls := "ClueLogic", name := "often", desc := "(III)I" } : Jvm.MethodName)) ∈ GW := mwT 659 (by decide +kernel) rfl
theorem wd_660 : (Jvm.Cond.code ({ cls := "ClueLogic", name := "often", desc := "(III)I" } : Jvm.MethodName) prog_1_method_8_code (4 : Nat) (Option.some Jvm.ClassFile.FieldType.int)) ∈ GW := mwT 660 (by decide +kernel) rfl
theorem wd_661 : (Jvm.Cond.methodLink "ClueLogic" (91 : Nat) ({ cls := "ClueLogic$Puzzle", name := "hasValue", desc := "(I)Z" } : Jvm.MethodName)) ∈ GW := mwT 661 (by decide +kernel) rfl
theorem wd_662 : (Jvm.Cond.instanceMethod ({ cls := "ClueLogic$Puzzle", name := "hasValue", desc := "(I)Z" } : Jvm.MethodName)) ∈ GW := mwT 662 (by decide +kernel) rfl
theorem wd_663 : (Jvm.Cond.selects "ClueLogic$Puzzle" ({ cls := "ClueLogic$Puzzle", name := "hasValue", desc := "(I)Z" } : Jvm.MethodName) ({ cls := "ClueLogic$Puzzle", name := "hasValue", desc := "(I)Z" } : Jvm.MethodName)) ∈ GW := mwT 663 (by decide +kernel) rfl
theorem wd_664 : (Jvm.Cond.code ({ cls := "ClueLogic$Puzzle", name := "hasValue", desc := "(I)Z" } : Jvm.MethodName) prog_9_method_11_code (2 : Nat) (Option.some Jvm.ClassFile.FieldType.boolean)) ∈ GW := mwT 664 (by decide +kernel) rfl
theorem wd_665 : (Jvm.Cond.methodLink "ClueLogic" (94 : Nat) ({ cls := "ClueLogic$Answers", name := "countWith", desc := "(III)I" } : Jvm.MethodName)) ∈ GW := mwT 665 (by decide +kernel) rfl
theorem wd_666 : (Jvm.Cond.instanceMethod ({ cls := "ClueLogic$Answers", name := "countWith", desc := "(III)I" } : Jvm.MethodName)) ∈ GW := mwT 666 (by decide +kernel) rfl
theorem wd_667 : (Jvm.Cond.selects "ClueLogic$Answers" ({ cls := "ClueLogic$Answers", name := "countWith", desc := "(III)I" } : Jvm.MethodName) ({ cls := "ClueLogic$Answers", name := "countWith", desc := "(III)I" } : Jvm.MethodName)) ∈ GW := mwT 667 (by decide +kernel) rfl
theorem wd_668 : (Jvm.Cond.code ({ cls := "ClueLogic$Answers", name := "countWith", desc := "(III)I" } : Jvm.MethodName) prog_2_method_6_code (6 : Nat) (Option.some Jvm.ClassFile.FieldType.int)) ∈ GW := mwT 668 (by decide +kernel) rfl
theorem wd_669 : (Jvm.Cond.methodLink "ClueLogic$Answers" (63 : Nat) ({ cls := "ClueLogic$Orders", name := "count", desc := "()I" } : Jvm.MethodName)) ∈ GW := mwT 669 (by decide +kernel) rfl
theorem wd_670 : (Jvm.Cond.methodLink "ClueLogicLaw" (46 : Nat) ({ cls := "ClueLogic", name := "spare", desc := "(I)Z" } : Jvm.MethodName)) ∈ GW := mwT 670 (by decide +kernel) rfl
theorem wd_671 : (Jvm.Cond.instanceMethod ({ cls := "ClueLogic", name := "spare", desc := "(I)Z" } : Jvm.MethodName)) ∈ GW := mwT 671 (by decide +kernel) rfl
theorem wd_672 : (Jvm.Cond.selects "ClueLogic" ({ cls := "ClueLogic", name := "spare", desc := "(I)Z" } : Jvm.MethodName) ({ cls := "ClueLogic", name := "spare", desc := "(I)Z" } : Jvm.MethodName)) ∈ GW := mwT 672 (by decide +kernel) rfl
theorem wd_673 : (Jvm.Cond.code ({ cls := "ClueLogic", name := "spare", desc := "(I)Z" } : Jvm.MethodName) prog_1_method_9_code (2 : Nat) (Option.some Jvm.ClassFile.FieldType.boolean)) ∈ GW := mwT 673 (by decide +kernel) rfl
theorem wd_674 : (Jvm.Cond.methodLink "ClueLogic" (97 : Nat) ({ cls := "ClueLogic$Puzzle", name := "hasClue", desc := "(I)Z" } : Jvm.MethodName)) ∈ GW := mwT 674 (by decide +kernel) rfl
theorem wd_675 : (Jvm.Cond.instanceMethod ({ cls := "ClueLogic$Puzzle", name := "hasClue", desc := "(I)Z" } : Jvm.MethodName)) ∈ GW := mwT 675 (by decide +kernel) rfl
theorem wd_676 : (Jvm.Cond.selects "ClueLogic$Puzzle" ({ cls := "ClueLogic$Puzzle", name := "hasClue", desc := "(I)Z" } : Jvm.MethodName) ({ cls := "ClueLogic$Puzzle", name := "hasClue", desc := "(I)Z" } : Jvm.MethodName)) ∈ GW := mwT 676 (by decide +kernel) rfl
theorem wd_677 : (Jvm.Cond.code ({ cls := "ClueLogic$Puzzle", name := "hasClue", desc := "(I)Z" } : Jvm.MethodName) prog_9_method_13_code (2 : Nat) (Option.some Jvm.ClassFile.FieldType.boolean)) ∈ GW := mwT 677 (by decide +kernel) rfl
theorem wd_678 : (Jvm.Cond.methodLink "ClueLogic" (100 : Nat) ({ cls := "ClueLogic$Answers", name := "isNeeded", desc := "(I)Z" } : Jvm.MethodName)) ∈ GW := mwT 678 (by decide +kernel) rfl
theorem wd_679 : (Jvm.Cond.instanceMethod ({ cls := "ClueLogic$Answers", name := "isNeeded", desc := "(I)Z" } : Jvm.MethodName)) ∈ GW := mwT 679 (by decide +kernel) rfl
theorem wd_680 : (Jvm.Cond.selects "ClueLogic$Answers" ({ cls := "ClueLogic$Answers", name := "isNeeded", desc := "(I)Z" } : Jvm.MethodName) ({ cls := "ClueLogic$Answers", name := "isNeeded", desc := "(I)Z" } : Jvm.MethodName)) ∈ GW := mwT 680 (by decide +kernel) rfl
theorem wd_681 : (Jvm.Cond.code ({ cls := "ClueLogic$Answers", name := "isNeeded", desc := "(I)Z" } : Jvm.MethodName) prog_2_method_7_code (2 : Nat) (Option.some Jvm.ClassFile.FieldType.boolean)) ∈ GW := mwT 681 (by decide +kernel) rfl
theorem wd_682 : (Jvm.Cond.methodLink "ClueLogicLaw" (50 : Nat) ({ cls := "ClueLogic", name := "cross", desc := "()I" } : Jvm.MethodName)) ∈ GW := mwT 682 (by decide +kernel) rfl
theorem wd_683 : (Jvm.Cond.instanceMethod ({ cls := "ClueLogic", name := "cross", desc := "()I" } : Jvm.MethodName)) ∈ GW := mwT 683 (by decide +kernel) rfl
theorem wd_684 : (Jvm.Cond.selects "ClueLogic" ({ cls := "ClueLogic", name := "cross", desc := "()I" } : Jvm.MethodName) ({ cls := "ClueLogic", name := "cross", desc := "()I" } : Jvm.MethodName)) ∈ GW := mwT 684 (by decide +kernel) rfl
theorem wd_685 : (Jvm.Cond.code ({ cls := "ClueLogic", name := "cross", desc := "()I" } : Jvm.MethodName) prog_1_method_10_code (1 : Nat) (Option.some Jvm.ClassFile.FieldType.int)) ∈ GW := mwT 685 (by decide +kernel) rfl
theorem wd_686 : (Jvm.Cond.methodLink "ClueLogic" (107 : Nat) ({ cls := "ClueLogic$Crossing", name := "finish", desc := "()V" } : Jvm.MethodName)) ∈ GW := mwT 686 (by decide +kernel) rfl
theorem wd_687 : (Jvm.Cond.instanceMethod ({ cls := "ClueLogic$Crossing", name := "finish", desc := "()V" } : Jvm.MethodName)) ∈ GW := mwT 687 (by decide +kernel) rfl
theorem wd_688 : (Jvm.Cond.selects "ClueLogic$Crossing" ({ cls := "ClueLogic$Crossing", name := "finish", desc := "()V" } : Jvm.MethodName) ({ cls := "ClueLogic$Crossing", name := "finish", desc := "()V" } : Jvm.MethodName)) ∈ GW := mwT 688 (by decide +kernel) rfl
theorem wd_689 : (Jvm.Cond.code ({ cls := "ClueLogic$Crossing", name := "finish", desc := "()V" } : Jvm.MethodName) prog_4_method_7_code (3 : Nat) (Option.none : Option Jvm.ClassFile.FieldType)) ∈ GW := mwT 689 (by decide +kernel) rfl
theorem wd_690 : (Jvm.Cond.methodLink "ClueLogic$Crossing" (70 : Nat) ({ cls := "ClueLogic$Crossing", name := "takeStep", desc := "()Z" } : Jvm.MethodName)) ∈ GW := mwT 690 (by decide +kernel) rfl
theorem wd_692 : (Jvm.Cond.instanceMethod ({ cls := "ClueLogic$Crossing", name := "takeStep", desc := "()Z" } : Jvm.MethodName)) ∈ GW := mwT 692 (by decide +kernel) rfl
theorem wd_693 : (Jvm.Cond.code ({ cls := "ClueLogic$Crossing", name := "takeStep", desc := "()Z" } : Jvm.MethodName) prog_4_method_8_code (4 : Nat) (Option.some Jvm.ClassFile.FieldType.boolean)) ∈ GW := mwT 693 (by decide +kernel) rfl
theorem wd_694 : (Jvm.Cond.methodLink "ClueLogic$Crossing" (74 : Nat) ({ cls := "ClueLogic$Walk", name := "choose", desc := "([I)I" } : Jvm.MethodName)) ∈ GW := mwT 694 (by decide +kernel) rfl
theorem wd_695 : (Jvm.Cond.methodLink "ClueLogic$Crossing" (78 : Nat) ({ cls := "ClueLogic$Puzzle", name := "clueCount", desc := "()I" } : Jvm.MethodName)) ∈ GW := mwT 695 (by decide +kernel) rfl
theorem wd_696 : (Jvm.Cond.methodLink "ClueLogic$Crossing" (81 : Nat) ({ cls := "ClueLogic$Puzzle", name := "clue", desc := "(I)LClueLogic$Clue;" } : Jvm.MethodName)) ∈ GW := mwT 696 (by decide +kernel) rfl
theorem wd_697 : (Jvm.Cond.methodLink "ClueLogic$Crossing" (85 : Nat) ({ cls := "ClueLogic$Crossing", name := "look", desc := "(LClueLogic$Clue;I)V" } : Jvm.MethodName)) ∈ GW := mwT 697 (by decide +kernel) rfl
theorem wd_699 : (Jvm.Cond.instanceMethod ({ cls := "ClueLogic$Crossing", name := "look", desc := "(LClueLogic$Clue;I)V" } : Jvm.MethodName)) ∈ GW := mwT 699 (by decide +kernel) rfl
theorem wd_700 : (Jvm.Cond.code ({ cls := "ClueLogic$Crossing", name := "look", desc := "(LClueLogic$Clue;I)V" } : Jvm.MethodName) prog_4_method_9_code (7 : Nat) (Option.none : Option Jvm.ClassFile.FieldType)) ∈ GW := mwT 700 (by decide +kernel) rfl
theorem wd_701 : (Jvm.Cond.methodLink "ClueLogic$Crossing" (96 : Nat) ({ cls := "java/util/Arrays", name := "fill", desc := "([II)V" } : Jvm.MethodName)) ∈ GW := mwT 701 (by decide +kernel) rfl
theorem wd_702 : (Jvm.Cond.methodLink "ClueLogic$Crossing" (102 : Nat) ({ cls := "ClueLogic$Crossing", name := "openParties", desc := "()I" } : Jvm.MethodName)) ∈ GW := mwT 702 (by decide +kernel) rfl
theorem wd_704 : (Jvm.Cond.instanceMethod ({ cls := "ClueLogic$Crossing", name := "openParties", desc := "()I" } : Jvm.MethodName)) ∈ GW := mwT 704 (by decide +kernel) rfl
theorem wd_705 : (Jvm.Cond.code ({ cls := "ClueLogic$Crossing", name := "openParties", desc := "()I" } : Jvm.MethodName) prog_4_method_11_code (6 : Nat) (Option.some Jvm.ClassFile.FieldType.int)) ∈ GW := mwT 705 (by decide +kernel) rfl
theorem wd_706 : (Jvm.Cond.methodLink "ClueLogic$Crossing" (135 : Nat) ({ cls := "ClueLogic$Crossing", name := "waysLeft", desc := "(I)I" } : Jvm.MethodName)) ∈ GW := mwT 706 (by decide +kernel) rfl
theorem wd_707 : (Jvm.Cond.instanceMethod ({ cls := "ClueLogic$Crossing", name := "waysLeft", desc := "(I)I" } : Jvm.MethodName)) ∈ GW := mwT 707 (by decide +kernel) rfl
theorem wd_708 : (Jvm.Cond.selects "ClueLogic$Crossing" ({ cls := "ClueLogic$Crossing", name := "waysLeft", desc := "(I)I" } : Jvm.MethodName) ({ cls := "ClueLogic$Crossing", name := "waysLeft", desc := "(I)I" } : Jvm.MethodName)) ∈ GW := mwT 708 (by decide +kernel) rfl
theorem wd_709 : (Jvm.Cond.code ({ cls := "ClueLogic$Crossing", name := "waysLeft", desc := "(I)I" } : Jvm.MethodName) prog_4_method_6_code (2 : Nat) (Option.some Jvm.ClassFile.FieldType.int)) ∈ GW := mwT 709 (by decide +kernel) rfl
theorem wd_710 : (Jvm.Cond.methodLink "ClueLogic$Crossing" (105 : Nat) ({ cls := "ClueLogic$Walk", name := "start", desc := "()V" } : Jvm.MethodName)) ∈ GW := mwT 710 (by decide +kernel) rfl
theorem wd_711 : (Jvm.Cond.methodLink "ClueLogic$Crossing" (108 : Nat) ({ cls := "ClueLogic$Walk", name := "thing", desc := "()[I" } : Jvm.MethodName)) ∈ GW := mwT 711 (by decide +kernel) rfl
theorem wd_713 : (Jvm.Cond.methodLink "ClueLogic$Crossing" (112 : Nat) ({ cls := "ClueLogic$Clue", name := "holds", desc := "([I)I" } : Jvm.MethodName)) ∈ GW := mwT 713 (by decide +kernel) rfl
theorem wd_714 : (Jvm.Cond.methodLink "ClueLogic$Crossing" (117 : Nat) ({ cls := "ClueLogic$Crossing", name := "seeLayout", desc := "()V" } : Jvm.MethodName)) ∈ GW := mwT 714 (by decide +kernel) rfl
theorem wd_716 : (Jvm.Cond.instanceMethod ({ cls := "ClueLogic$Crossing", name := "seeLayout", desc := "()V" } : Jvm.MethodName)) ∈ GW := mwT 716 (by decide +kernel) rfl
theorem wd_717 : (Jvm.Cond.code ({ cls := "ClueLogic$Crossing", name := "seeLayout", desc := "()V" } : Jvm.MethodName) prog_4_method_10_code (2 : Nat) (Option.none : Option Jvm.ClassFile.FieldType)) ∈ GW := mwT 717 (by decide +kernel) rfl
theorem wd_718 : (Jvm.Cond.methodLink "ClueLogic$Crossing" (126 : Nat) ({ cls := "ClueLogic$Walk", name := "order", desc := "(I)I" } : Jvm.MethodName)) ∈ GW := mwT 718 (by decide +kernel) rfl
theorem wd_719 : (Jvm.Cond.methodLink "ClueLogic$Crossing" (129 : Nat) ({ cls := "ClueLogic$Orders", name := "ticks", desc := "(I)I" } : Jvm.MethodName)) ∈ GW := mwT 719 (by decide +kernel) rfl
theorem wd_720 : (Jvm.Cond.methodLink "ClueLogic$Crossing" (120 : Nat) ({ cls := "ClueLogic$Walk", name := "next", desc := "()V" } : Jvm.MethodName)) ∈ GW := mwT 720 (by decide +kernel) rfl
theorem wd_721 : (Jvm.Cond.methodLink "ClueLogic$Crossing" (89 : Nat) ({ cls := "ClueLogic$Crossing", name := "countUnseen", desc := "()I" } : Jvm.MethodName)) ∈ GW := mwT 721 (by decide +kernel) rfl
theorem wd_723 : (Jvm.Cond.instanceMethod ({ cls := "ClueLogic$Crossing", name := "countUnseen", desc := "()I" } : Jvm.MethodName)) ∈ GW := mwT 723 (by decide +kernel) rfl
theorem wd_724 : (Jvm.Cond.code ({ cls := "ClueLogic$Crossing", name := "countUnseen", desc := "()I" } : Jvm.MethodName) prog_4_method_13_code (3 : Nat) (Option.some Jvm.ClassFile.FieldType.int)) ∈ GW := mwT 724 (by decide +kernel) rfl
theorem wd_725 : (Jvm.Cond.methodLink "ClueLogic$Crossing" (141 : Nat) ({ cls := "java/lang/Integer", name := "bitCount", desc := "(I)I" } : Jvm.MethodName)) ∈ GW := mwT 725 (by decide +kernel) rfl
theorem wd_726 : (Jvm.Cond.methodLink "ClueLogic$Crossing" (92 : Nat) ({ cls := "ClueLogic$Crossing", name := "crossOut", desc := "(II)V" } : Jvm.MethodName)) ∈ GW := mwT 726 (by decide +kernel) rfl
theorem wd_728 : (Jvm.Cond.instanceMethod ({ cls := "ClueLogic$Crossing", name := "crossOut", desc := "(II)V" } : Jvm.MethodName)) ∈ GW := mwT 728 (by decide +kernel) rfl
theorem wd_729 : (Jvm.Cond.code ({ cls := "ClueLogic$Crossing", name := "crossOut", desc := "(II)V" } : Jvm.MethodName) prog_4_method_14_code (4 : Nat) (Option.none : Option Jvm.ClassFile.FieldType)) ∈ GW := mwT 729 (by decide +kernel) rfl
theorem wd_730 : (Jvm.Cond.methodLink "ClueLogic" (112 : Nat) ({ cls := "ClueLogic$Crossing", name := "steps", desc := "()I" } : Jvm.MethodName)) ∈ GW := mwT 730 (by decide +kernel) rfl
theorem wd_731 : (Jvm.Cond.instanceMethod ({ cls := "ClueLogic$Crossing", name := "steps", desc := "()I" } : Jvm.MethodName)) ∈ GW := mwT 731 (by decide +kernel) rfl
theorem wd_732 : (Jvm.Cond.selects "ClueLogic$Crossing" ({ cls := "ClueLogic$Crossing", name := "steps", desc := "()I" } : Jvm.MethodName) ({ cls := "ClueLogic$Crossing", name := "steps", desc := "()I" } : Jvm.MethodName)) ∈ GW := mwT 732 (by decide +kernel) rfl
theorem wd_733 : (Jvm.Cond.code ({ cls := "ClueLogic$Crossing", name := "steps", desc := "()I" } : Jvm.MethodName) prog_4_method_2_code (1 : Nat) (Option.some Jvm.ClassFile.FieldType.int)) ∈ GW := mwT 733 (by decide +kernel) rfl
theorem wd_734 : (Jvm.Cond.methodLink "ClueLogicLaw" (54 : Nat) ({ cls := "ClueLogic", name := "step", desc := "(II)I" } : Jvm.MethodName)) ∈ GW := mwT 734 (by decide +kernel) rfl
theorem wd_735 : (Jvm.Cond.instanceMethod ({ cls := "ClueLogic", name := "step", desc := "(II)I" } : Jvm.MethodName)) ∈ GW := mwT 735 (by decide +kernel) rfl
theorem wd_736 : (Jvm.Cond.selects "ClueLogic" ({ cls := "ClueLogic", name := "step", desc := "(II)I" } : Jvm.MethodName) ({ cls := "ClueLogic", name := "step", desc := "(II)I" } : Jvm.MethodName)) ∈ GW := mwT 736 (by decide +kernel) rfl
theorem wd_737 : (Jvm.Cond.code ({ cls := "ClueLogic", name := "step", desc := "(II)I" } : Jvm.MethodName) prog_1_method_11_code (3 : Nat) (Option.some Jvm.ClassFile.FieldType.int)) ∈ GW := mwT 737 (by decide +kernel) rfl
theorem wd_738 : (Jvm.Cond.methodLink "ClueLogic" (115 : Nat) ({ cls := "ClueLogic$Crossing", name := "clueOf", desc := "(I)I" } : Jvm.MethodName)) ∈ GW := mwT 738 (by decide +kernel) rfl
theorem wd_739 : (Jvm.Cond.instanceMethod ({ cls := "ClueLogic$Crossing", name := "clueOf", desc := "(I)I" } : Jvm.MethodName)) ∈ GW := mwT 739 (by decide +kernel) rfl
theorem wd_740 : (Jvm.Cond.selects "ClueLogic$Crossing" ({ cls := "ClueLogic$Crossing", name := "clueOf", desc := "(I)I" } : Jvm.MethodName) ({ cls := "ClueLogic$Crossing", name := "clueOf", desc := "(I)I" } : Jvm.MethodName)) ∈ GW := mwT 740 (by decide +kernel) rfl
theorem wd_741 : (Jvm.Cond.code ({ cls := "ClueLogic$Crossing", name := "clueOf", desc := "(I)I" } : Jvm.MethodName) prog_4_method_3_code (2 : Nat) (Option.some Jvm.ClassFile.FieldType.int)) ∈ GW := mwT 741 (by decide +kernel) rfl
theorem wd_742 : (Jvm.Cond.methodLink "ClueLogic" (119 : Nat) ({ cls := "ClueLogic$Crossing", name := "crossedBy", desc := "(I)I" } : Jvm.MethodName)) ∈ GW := mwT 742 (by decide +kernel) rfl
theorem wd_743 : (Jvm.Cond.instanceMethod ({ cls := "ClueLogic$Crossing", name := "crossedBy", desc := "(I)I" } : Jvm.MethodName)) ∈ GW := mwT 743 (by decide +kernel) rfl
theorem wd_744 : (Jvm.Cond.selects "ClueLogic$Crossing" ({ cls := "ClueLogic$Crossing", name := "crossedBy", desc := "(I)I" } : Jvm.MethodName) ({ cls := "ClueLogic$Crossing", name := "crossedBy", desc := "(I)I" } : Jvm.MethodName)) ∈ GW := mwT 744 (by decide +kernel) rfl
theorem wd_745 : (Jvm.Cond.code ({ cls := "ClueLogic$Crossing", name := "crossedBy", desc := "(I)I" } : Jvm.MethodName) prog_4_method_4_code (2 : Nat) (Option.some Jvm.ClassFile.FieldType.int)) ∈ GW := mwT 745 (by decide +kernel) rfl
theorem wd_746 : (Jvm.Cond.methodLink "ClueLogicLaw" (58 : Nat) ({ cls := "ClueLogic", name := "may", desc := "(II)I" } : Jvm.MethodName)) ∈ GW := mwT 746 (by decide +kernel) rfl
theorem wd_747 : (Jvm.Cond.instanceMethod ({ cls := "ClueLogic", name := "may", desc := "(II)I" } : Jvm.MethodName)) ∈ GW := mwT 747 (by decide +kernel) rfl
theorem wd_748 : (Jvm.Cond.selects "ClueLogic" ({ cls := "ClueLogic", name := "may", desc := "(II)I" } : Jvm.MethodName) ({ cls := "ClueLogic", name := "may", desc := "(II)I" } : Jvm.MethodName)) ∈ GW := mwT 748 (by decide +kernel) rfl
theorem wd_749 : (Jvm.Cond.code ({ cls := "ClueLogic", name := "may", desc := "(II)I" } : Jvm.MethodName) prog_1_method_12_code (3 : Nat) (Option.some Jvm.ClassFile.FieldType.int)) ∈ GW := mwT 749 (by decide +kernel) rfl
theorem wd_750 : (Jvm.Cond.methodLink "ClueLogic" (122 : Nat) ({ cls := "ClueLogic$Crossing", name := "valuesLeft", desc := "(II)I" } : Jvm.MethodName)) ∈ GW := mwT 750 (by decide +kernel) rfl
theorem wd_751 : (Jvm.Cond.instanceMethod ({ cls := "ClueLogic$Crossing", name := "valuesLeft", desc := "(II)I" } : Jvm.MethodName)) ∈ GW := mwT 751 (by decide +kernel) rfl
theorem wd_752 : (Jvm.Cond.selects "ClueLogic$Crossing" ({ cls := "ClueLogic$Crossing", name := "valuesLeft", desc := "(II)I" } : Jvm.MethodName) ({ cls := "ClueLogic$Crossing", name := "valuesLeft", desc := "(II)I" } : Jvm.MethodName)) ∈ GW := mwT 752 (by decide +kernel) rfl
theorem wd_753 : (Jvm.Cond.code ({ cls := "ClueLogic$Crossing", name := "valuesLeft", desc := "(II)I" } : Jvm.MethodName) prog_4_method_5_code (3 : Nat) (Option.some Jvm.ClassFile.FieldType.int)) ∈ GW := mwT 753 (by decide +kernel) rfl
theorem wd_754 : (Jvm.Cond.methodLink "ClueLogicLaw" (62 : Nat) ({ cls := "ClueLogic", name := "mayBe", desc := "(I)I" } : Jvm.MethodName)) ∈ GW := mwT 754 (by decide +kernel) rfl
theorem wd_755 : (Jvm.Cond.instanceMethod ({ cls := "ClueLogic", name := "mayBe", desc := "(I)I" } : Jvm.MethodName)) ∈ GW := mwT 755 (by decide +kernel) rfl
theorem wd_756 : (Jvm.Cond.selects "ClueLogic" ({ cls := "ClueLogic", name := "mayBe", desc := "(I)I" } : Jvm.MethodName) ({ cls := "ClueLogic", name := "mayBe", desc := "(I)I" } : Jvm.MethodName)) ∈ GW := mwT 756 (by decide +kernel) rfl
theorem wd_757 : (Jvm.Cond.code ({ cls := "ClueLogic", name := "mayBe", desc := "(I)I" } : Jvm.MethodName) prog_1_method_13_code (2 : Nat) (Option.some Jvm.ClassFile.FieldType.int)) ∈ GW := mwT 757 (by decide +kernel) rfl
theorem wd_758 : (Jvm.Cond.methodLink "ClueLogic" (126 : Nat) ({ cls := "ClueLogic$Crossing", name := "waysLeft", desc := "(I)I" } : Jvm.MethodName)) ∈ GW := mwT 758 (by decide +kernel) rfl
theorem wd_759 : (Jvm.Cond.classLink "ClueLogicLaw" (10 : Nat) "ClueLogicModel") ∈ GW := mwT 759 (by decide +kernel) rfl
theorem wd_760 : (Jvm.Cond.instantiable "ClueLogicModel" (36 : Nat)) ∈ GW := mwT 760 (by decide +kernel) rfl
theorem wd_761 : (Jvm.Cond.methodLink "ClueLogicLaw" (12 : Nat) ({ cls := "ClueLogicModel", name := "<init>", desc := "()V" } : Jvm.MethodName)) ∈ GW := mwT 761 (by decide +kernel) rfl
theorem wd_762 : (Jvm.Cond.instanceMethod ({ cls := "ClueLogicModel", name := "<init>", desc := "()V" } : Jvm.MethodName)) ∈ GW := mwT 762 (by decide +kernel) rfl
theorem wd_763 : (Jvm.Cond.code ({ cls := "ClueLogicModel", name := "<init>", desc := "()V" } : Jvm.MethodName) prog_14_method_1_code (1 : Nat) (Option.none : Option Jvm.ClassFile.FieldType)) ∈ GW := mwT 763 (by decide +kernel) rfl
theorem wd_764 : (Jvm.Cond.methodLink "ClueLogicModel" (1 : Nat) ({ cls := "java/lang/Object", name := "<init>", desc := "()V" } : Jvm.MethodName)) ∈ GW := mwT 764 (by decide +kernel) rfl
theorem wd_765 : (Jvm.Cond.constant "ClueLogicModel" (47 : Nat) (110592 : Int32)) ∈ GW := mwT 765 (by decide +kernel) rfl
theorem wd_766 : (Jvm.Cond.methodLink "ClueLogicModel" (76 : Nat) ({ cls := "ClueLogicModel", name := "fresh", desc := "()V" } : Jvm.MethodName)) ∈ GW := mwT 766 (by decide +kernel) rfl
theorem wd_768 : (Jvm.Cond.instanceMethod ({ cls := "ClueLogicModel", name := "fresh", desc := "()V" } : Jvm.MethodName)) ∈ GW := mwT 768 (by decide +kernel) rfl
theorem wd_769 : (Jvm.Cond.code ({ cls := "ClueLogicModel", name := "fresh", desc := "()V" } : Jvm.MethodName) prog_14_method_3_code (1 : Nat) (Option.none : Option Jvm.ClassFile.FieldType)) ∈ GW := mwT 769 (by decide +kernel) rfl
theorem wd_770 : (Jvm.Cond.methodLink "ClueLogicModel" (95 : Nat) ({ cls := "ClueLogicModel", name := "all", desc := "()V" } : Jvm.MethodName)) ∈ GW := mwT 770 (by decide +kernel) rfl
theorem wd_772 : (Jvm.Cond.instanceMethod ({ cls := "ClueLogicModel", name := "all", desc := "()V" } : Jvm.MethodName)) ∈ GW := mwT 772 (by decide +kernel) rfl
theorem wd_773 : (Jvm.Cond.code ({ cls := "ClueLogicModel", name := "all", desc := "()V" } : Jvm.MethodName) prog_14_method_4_code (2 : Nat) (Option.none : Option Jvm.ClassFile.FieldType)) ∈ GW := mwT 773 (by decide +kernel) rfl
theorem wd_774 : (Jvm.Cond.fieldLink "ClueLogicModel" (79 : Nat) "ClueLogicModel" "thrown" "I") ∈ GW := mwT 774 (by decide +kernel) rfl
theorem wd_775 : (Jvm.Cond.fieldLink "ClueLogicModel" (98 : Nat) "ClueLogicModel" "size" "I") ∈ GW := mwT 775 (by decide +kernel) rfl
theorem wd_776 : (Jvm.Cond.fieldLink "ClueLogicModel" (7 : Nat) "ClueLogicModel" "text" "[I") ∈ GW := mwT 776 (by decide +kernel) rfl
theorem wd_777 : (Jvm.Cond.fieldLink "ClueLogicModel" (13 : Nat) "ClueLogicModel" "things" "I") ∈ GW := mwT 777 (by decide +kernel) rfl
theorem wd_778 : (Jvm.Cond.fieldLink "ClueLogicModel" (138 : Nat) "ClueLogicModel" "kinds" "I") ∈ GW := mwT 778 (by decide +kernel) rfl
theorem wd_779 : (Jvm.Cond.fieldLink "ClueLogicModel" (141 : Nat) "ClueLogicModel" "persons" "I") ∈ GW := mwT 779 (by decide +kernel) rfl
theorem wd_780 : (Jvm.Cond.fieldLink "ClueLogicModel" (144 : Nat) "ClueLogicModel" "clues" "I") ∈ GW := mwT 780 (by decide +kernel) rfl
theorem wd_781 : (Jvm.Cond.fieldLink "ClueLogicModel" (17 : Nat) "ClueLogicModel" "begins" "[I") ∈ GW := mwT 781 (by decide +kernel) rfl
theorem wd_782 : (Jvm.Cond.fieldLink "ClueLogicModel" (20 : Nat) "ClueLogicModel" "signs" "[I") ∈ GW := mwT 782 (by decide +kernel) rfl
theorem wd_783 : (Jvm.Cond.fieldLink "ClueLogicModel" (23 : Nat) "ClueLogicModel" "ones" "[I") ∈ GW := mwT 783 (by decide +kernel) rfl
theorem wd_784 : (Jvm.Cond.fieldLink "ClueLogicModel" (26 : Nat) "ClueLogicModel" "twos" "[I") ∈ GW := mwT 784 (by decide +kernel) rfl
theorem wd_785 : (Jvm.Cond.fieldLink "ClueLogicModel" (111 : Nat) "ClueLogicModel" "newThings" "I") ∈ GW := mwT 785 (by decide +kernel) rfl
theorem wd_786 : (Jvm.Cond.fieldLink "ClueLogicModel" (108 : Nat) "ClueLogicModel" "newKinds" "I") ∈ GW := mwT 786 (by decide +kernel) rfl
theorem wd_787 : (Jvm.Cond.fieldLink "ClueLogicModel" (128 : Nat) "ClueLogicModel" "newPersons" "I") ∈ GW := mwT 787 (by decide +kernel) rfl
theorem wd_788 : (Jvm.Cond.fieldLink "ClueLogicModel" (118 : Nat) "ClueLogicModel" "newClues" "I") ∈ GW := mwT 788 (by decide +kernel) rfl
theorem wd_789 : (Jvm.Cond.fieldLink "ClueLogicModel" (101 : Nat) "ClueLogicModel" "at" "I") ∈ GW := mwT 789 (by decide +kernel) rfl
theorem wd_790 : (Jvm.Cond.fieldLink "ClueLogicModel" (29 : Nat) "ClueLogicModel" "newBegins" "[I") ∈ GW := mwT 790 (by decide +kernel) rfl
theorem wd_791 : (Jvm.Cond.fieldLink "ClueLogicModel" (32 : Nat) "ClueLogicModel" "newSigns" "[I") ∈ GW := mwT 791 (by decide +kernel) rfl
theorem wd_792 : (Jvm.Cond.fieldLink "ClueLogicModel" (35 : Nat) "ClueLogicModel" "newOnes" "[I") ∈ GW := mwT 792 (by decide +kernel) rfl
theorem wd_793 : (Jvm.Cond.fieldLink "ClueLogicModel" (38 : Nat) "ClueLogicModel" "newTwos" "[I") ∈ GW := mwT 793 (by decide +kernel) rfl
theorem wd_794 : (Jvm.Cond.fieldLink "ClueLogicModel" (147 : Nat) "ClueLogicModel" "orders" "I") ∈ GW := mwT 794 (by decide +kernel) rfl
theorem wd_795 : (Jvm.Cond.fieldLink "ClueLogicModel" (41 : Nat) "ClueLogicModel" "values" "[I") ∈ GW := mwT 795 (by decide +kernel) rfl
theorem wd_796 : (Jvm.Cond.fieldLink "ClueLogicModel" (44 : Nat) "ClueLogicModel" "seats" "[I") ∈ GW := mwT 796 (by decide +kernel) rfl
theorem wd_797 : (Jvm.Cond.fieldLink "ClueLogicModel" (82 : Nat) "ClueLogicModel" "isKnown" "Z") ∈ GW := mwT 797 (by decide +kernel) rfl
theorem wd_798 : (Jvm.Cond.fieldLink "ClueLogicModel" (86 : Nat) "ClueLogicModel" "isCrossed" "Z") ∈ GW := mwT 798 (by decide +kernel) rfl
theorem wd_799 : (Jvm.Cond.fieldLink "ClueLogicModel" (48 : Nat) "ClueLogicModel" "holds" "[I") ∈ GW := mwT 799 (by decide +kernel) rfl
theorem wd_800 : (Jvm.Cond.fieldLink "ClueLogicModel" (51 : Nat) "ClueLogicModel" "pile" "[Z") ∈ GW := mwT 800 (by decide +kernel) rfl
theorem wd_801 : (Jvm.Cond.fieldLink "ClueLogicModel" (89 : Nat) "ClueLogicModel" "kept" "I") ∈ GW := mwT 801 (by decide +kernel) rfl
theorem wd_802 : (Jvm.Cond.fieldLink "ClueLogicModel" (55 : Nat) "ClueLogicModel" "answers" "[I") ∈ GW := mwT 802 (by decide +kernel) rfl
theorem wd_803 : (Jvm.Cond.fieldLink "ClueLogicModel" (58 : Nat) "ClueLogicModel" "may" "[I") ∈ GW := mwT 803 (by decide +kernel) rfl
theorem wd_804 : (Jvm.Cond.fieldLink "ClueLogicModel" (61 : Nat) "ClueLogicModel" "mayBe" "[I") ∈ GW := mwT 804 (by decide +kernel) rfl
theorem wd_805 : (Jvm.Cond.fieldLink "ClueLogicModel" (64 : Nat) "ClueLogicModel" "some" "[I") ∈ GW := mwT 805 (by decide +kernel) rfl
theorem wd_806 : (Jvm.Cond.fieldLink "ClueLogicModel" (67 : Nat) "ClueLogicModel" "someBe" "[I") ∈ GW := mwT 806 (by decide +kernel) rfl
theorem wd_807 : (Jvm.Cond.fieldLink "ClueLogicModel" (92 : Nat) "ClueLogicModel" "steps" "I") ∈ GW := mwT 807 (by decide +kernel) rfl
theorem wd_808 : (Jvm.Cond.fieldLink "ClueLogicModel" (70 : Nat) "ClueLogicModel" "stepClue" "[I") ∈ GW := mwT 808 (by decide +kernel) rfl
theorem wd_809 : (Jvm.Cond.fieldLink "ClueLogicModel" (73 : Nat) "ClueLogicModel" "stepMuch" "[I") ∈ GW := mwT 809 (by decide +kernel) rfl
theorem wd_810 : (Jvm.Cond.lays "ClueLogicModel" "ClueLogicModel" "thrown" "I") ∈ GW := mwT 810 (by decide +kernel) rfl
theorem wd_812 : (Jvm.Cond.lays "ClueLogicModel" "ClueLogicModel" "size" "I") ∈ GW := mwT 812 (by decide +kernel) rfl
theorem wd_814 : (Jvm.Cond.laysFinal "ClueLogicModel" "ClueLogicModel" "text" "[I") ∈ GW := mwT 814 (by decide +kernel) rfl
theorem wd_816 : (Jvm.Cond.lays "ClueLogicModel" "ClueLogicModel" "things" "I") ∈ GW := mwT 816 (by decide +kernel) rfl
theorem wd_818 : (Jvm.Cond.lays "ClueLogicModel" "ClueLogicModel" "kinds" "I") ∈ GW := mwT 818 (by decide +kernel) rfl
theorem wd_820 : (Jvm.Cond.lays "ClueLogicModel" "ClueLogicModel" "persons" "I") ∈ GW := mwT 820 (by decide +kernel) rfl
theorem wd_822 : (Jvm.Cond.lays "ClueLogicModel" "ClueLogicModel" "clues" "I") ∈ GW := mwT 822 (by decide +kernel) rfl
theorem wd_824 : (Jvm.Cond.laysFinal "ClueLogicModel" "ClueLogicModel" "begins" "[I") ∈ GW := mwT 824 (by decide +kernel) rfl
theorem wd_826 : (Jvm.Cond.laysFinal "ClueLogicModel" "ClueLogicModel" "signs" "[I") ∈ GW := mwT 826 (by decide +kernel) rfl
theorem wd_828 : (Jvm.Cond.laysFinal "ClueLogicModel" "ClueLogicModel" "ones" "[I") ∈ GW := mwT 828 (by decide +kernel) rfl
theorem wd_830 : (Jvm.Cond.laysFinal "ClueLogicModel" "ClueLogicModel" "twos" "[I") ∈ GW := mwT 830 (by decide +kernel) rfl
theorem wd_832 : (Jvm.Cond.lays "ClueLogicModel" "ClueLogicModel" "newThings" "I") ∈ GW := mwT 832 (by decide +kernel) rfl
theorem wd_834 : (Jvm.Cond.lays "ClueLogicModel" "ClueLogicModel" "newKinds" "I") ∈ GW := mwT 834 (by decide +kernel) rfl
theorem wd_836 : (Jvm.Cond.lays "ClueLogicModel" "ClueLogicModel" "newPersons" "I") ∈ GW := mwT 836 (by decide +kernel) rfl
theorem wd_838 : (Jvm.Cond.lays "ClueLogicModel" "ClueLogicModel" "newClues" "I") ∈ GW := mwT 838 (by decide +kernel) rfl
theorem wd_840 : (Jvm.Cond.lays "ClueLogicModel" "ClueLogicModel" "at" "I") ∈ GW := mwT 840 (by decide +kernel) rfl
theorem wd_842 : (Jvm.Cond.laysFinal "ClueLogicModel" "ClueLogicModel" "newBegins" "[I") ∈ GW := mwT 842 (by decide +kernel) rfl
theorem wd_844 : (Jvm.Cond.laysFinal "ClueLogicModel" "ClueLogicModel" "newSigns" "[I") ∈ GW := mwT 844 (by decide +kernel) rfl
theorem wd_846 : (Jvm.Cond.laysFinal "ClueLogicModel" "ClueLogicModel" "newOnes" "[I") ∈ GW := mwT 846 (by decide +kernel) rfl
theorem wd_848 : (Jvm.Cond.laysFinal "ClueLogicModel" "ClueLogicModel" "newTwos" "[I") ∈ GW := mwT 848 (by decide +kernel) rfl
theorem wd_850 : (Jvm.Cond.lays "ClueLogicModel" "ClueLogicModel" "orders" "I") ∈ GW := mwT 850 (by decide +kernel) rfl
theorem wd_852 : (Jvm.Cond.laysFinal "ClueLogicModel" "ClueLogicModel" "values" "[I") ∈ GW := mwT 852 (by decide +kernel) rfl
theorem wd_854 : (Jvm.Cond.laysFinal "ClueLogicModel" "ClueLogicModel" "seats" "[I") ∈ GW := mwT 854 (by decide +kernel) rfl
theorem wd_856 : (Jvm.Cond.lays "ClueLogicModel" "ClueLogicModel" "isKnown" "Z") ∈ GW := mwT 856 (by decide +kernel) rfl
theorem wd_858 : (Jvm.Cond.lays "ClueLogicModel" "ClueLogicModel" "isCrossed" "Z") ∈ GW := mwT 858 (by decide +kernel) rfl
theorem wd_860 : (Jvm.Cond.laysFinal "ClueLogicModel" "ClueLogicModel" "holds" "[I") ∈ GW := mwT 860 (by decide +kernel) rfl
theorem wd_862 : (Jvm.Cond.laysFinal "ClueLogicModel" "ClueLogicModel" "pile" "[Z") ∈ GW := mwT 862 (by decide +kernel) rfl
theorem wd_864 : (Jvm.Cond.lays "ClueLogicModel" "ClueLogicModel" "kept" "I") ∈ GW := mwT 864 (by decide +kernel) rfl
theorem wd_866 : (Jvm.Cond.laysFinal "ClueLogicModel" "ClueLogicModel" "answers" "[I") ∈ GW := mwT 866 (by decide +kernel) rfl
theorem wd_868 : (Jvm.Cond.laysFinal "ClueLogicModel" "ClueLogicModel" "may" "[I") ∈ GW := mwT 868 (by decide +kernel) rfl
theorem wd_870 : (Jvm.Cond.laysFinal "ClueLogicModel" "ClueLogicModel" "mayBe" "[I") ∈ GW := mwT 870 (by decide +kernel) rfl
theorem wd_872 : (Jvm.Cond.laysFinal "ClueLogicModel" "ClueLogicModel" "some" "[I") ∈ GW := mwT 872 (by decide +kernel) rfl
theorem wd_874 : (Jvm.Cond.laysFinal "ClueLogicModel" "ClueLogicModel" "someBe" "[I") ∈ GW := mwT 874 (by decide +kernel) rfl
theorem wd_876 : (Jvm.Cond.lays "ClueLogicModel" "ClueLogicModel" "steps" "I") ∈ GW := mwT 876 (by decide +kernel) rfl
theorem wd_878 : (Jvm.Cond.laysFinal "ClueLogicModel" "ClueLogicModel" "stepClue" "[I") ∈ GW := mwT 878 (by decide +kernel) rfl
theorem wd_880 : (Jvm.Cond.laysFinal "ClueLogicModel" "ClueLogicModel" "stepMuch" "[I") ∈ GW := mwT 880 (by decide +kernel) rfl
theorem wd_883 : (Jvm.Cond.methodLink "ClueLogicLaw" (17 : Nat) ({ cls := "ClueLogicModel", name := "unit", desc := "(I)Z" } : Jvm.MethodName)) ∈ GW := mwT 883 (by decide +kernel) rfl
theorem wd_884 : (Jvm.Cond.instanceMethod ({ cls := "ClueLogicModel", name := "unit", desc := "(I)Z" } : Jvm.MethodName)) ∈ GW := mwT 884 (by decide +kernel) rfl
theorem wd_885 : (Jvm.Cond.selects "ClueLogicModel" ({ cls := "ClueLogicModel", name := "unit", desc := "(I)Z" } : Jvm.MethodName) ({ cls := "ClueLogicModel", name := "unit", desc := "(I)Z" } : Jvm.MethodName)) ∈ GW := mwT 885 (by decide +kernel) rfl
theorem wd_886 : (Jvm.Cond.code ({ cls := "ClueLogicModel", name := "unit", desc := "(I)Z" } : Jvm.MethodName) prog_14_method_5_code (2 : Nat) (Option.some Jvm.ClassFile.FieldType.boolean)) ∈ GW := mwT 886 (by decide +kernel) rfl
theorem wd_887 : (Jvm.Cond.methodLink "ClueLogicLaw" (22 : Nat) ({ cls := "ClueLogicModel", name := "read", desc := "()I" } : Jvm.MethodName)) ∈ GW := mwT 887 (by decide +kernel) rfl
theorem wd_888 : (Jvm.Cond.instanceMethod ({ cls := "ClueLogicModel", name := "read", desc := "()I" } : Jvm.MethodName)) ∈ GW := mwT 888 (by decide +kernel) rfl
theorem wd_889 : (Jvm.Cond.selects "ClueLogicModel" ({ cls := "ClueLogicModel", name := "read", desc := "()I" } : Jvm.MethodName) ({ cls := "ClueLogicModel", name := "read", desc := "()I" } : Jvm.MethodName)) ∈ GW := mwT 889 (by decide +kernel) rfl
theorem wd_890 : (Jvm.Cond.code ({ cls := "ClueLogicModel", name := "read", desc := "()I" } : Jvm.MethodName) prog_14_method_12_code (3 : Nat) (Option.some Jvm.ClassFile.FieldType.int)) ∈ GW := mwT 890 (by decide +kernel) rfl
theorem wd_891 : (Jvm.Cond.methodLink "ClueLogicModel" (135 : Nat) ({ cls := "ClueLogicModel", name := "readAll", desc := "()Z" } : Jvm.MethodName)) ∈ GW := mwT 891 (by decide +kernel) rfl
theorem wd_893 : (Jvm.Cond.instanceMethod ({ cls := "ClueLogicModel", name := "readAll", desc := "()Z" } : Jvm.MethodName)) ∈ GW := mwT 893 (by decide +kernel) rfl
theorem wd_894 : (Jvm.Cond.code ({ cls := "ClueLogicModel", name := "readAll", desc := "()Z" } : Jvm.MethodName) prog_14_method_11_code (1 : Nat) (Option.some Jvm.ClassFile.FieldType.boolean)) ∈ GW := mwT 894 (by decide +kernel) rfl
theorem wd_895 : (Jvm.Cond.methodLink "ClueLogicModel" (114 : Nat) ({ cls := "ClueLogicModel", name := "digit", desc := "(II)I" } : Jvm.MethodName)) ∈ GW := mwT 895 (by decide +kernel) rfl
theorem wd_897 : (Jvm.Cond.instanceMethod ({ cls := "ClueLogicModel", name := "digit", desc := "(II)I" } : Jvm.MethodName)) ∈ GW := mwT 897 (by decide +kernel) rfl
theorem wd_898 : (Jvm.Cond.code ({ cls := "ClueLogicModel", name := "digit", desc := "(II)I" } : Jvm.MethodName) prog_14_method_7_code (4 : Nat) (Option.some Jvm.ClassFile.FieldType.int)) ∈ GW := mwT 898 (by decide +kernel) rfl
theorem wd_899 : (Jvm.Cond.methodLink "ClueLogicModel" (104 : Nat) ({ cls := "ClueLogicModel", name := "byteAt", desc := "(I)I" } : Jvm.MethodName)) ∈ GW := mwT 899 (by decide +kernel) rfl
theorem wd_901 : (Jvm.Cond.instanceMethod ({ cls := "ClueLogicModel", name := "byteAt", desc := "(I)I" } : Jvm.MethodName)) ∈ GW := mwT 901 (by decide +kernel) rfl
theorem wd_902 : (Jvm.Cond.code ({ cls := "ClueLogicModel", name := "byteAt", desc := "(I)I" } : Jvm.MethodName) prog_14_method_6_code (2 : Nat) (Option.some Jvm.ClassFile.FieldType.int)) ∈ GW := mwT 902 (by decide +kernel) rfl
theorem wd_903 : (Jvm.Cond.methodLink "ClueLogicModel" (131 : Nat) ({ cls := "ClueLogicModel", name := "readClue", desc := "()Z" } : Jvm.MethodName)) ∈ GW := mwT 903 (by decide +kernel) rfl
theorem wd_905 : (Jvm.Cond.instanceMethod ({ cls := "ClueLogicModel", name := "readClue", desc := "()Z" } : Jvm.MethodName)) ∈ GW := mwT 905 (by decide +kernel) rfl
theorem wd_906 : (Jvm.Cond.code ({ cls := "ClueLogicModel", name := "readClue", desc := "()Z" } : Jvm.MethodName) prog_14_method_10_code (4 : Nat) (Option.some Jvm.ClassFile.FieldType.boolean)) ∈ GW := mwT 906 (by decide +kernel) rfl
theorem wd_907 : (Jvm.Cond.methodLink "ClueLogicModel" (121 : Nat) ({ cls := "ClueLogicModel", name := "signOf", desc := "(I)I" } : Jvm.MethodName)) ∈ GW := mwT 907 (by decide +kernel) rfl
theorem wd_908 : (Jvm.Cond.static ({ cls := "ClueLogicModel", name := "signOf", desc := "(I)I" } : Jvm.MethodName)) ∈ GW := mwT 908 (by decide +kernel) rfl
theorem wd_909 : (Jvm.Cond.code ({ cls := "ClueLogicModel", name := "signOf", desc := "(I)I" } : Jvm.MethodName) prog_14_method_9_code (1 : Nat) (Option.some Jvm.ClassFile.FieldType.int)) ∈ GW := mwT 909 (by decide +kernel) rfl
theorem wd_910 : (Jvm.Cond.methodLink "ClueLogicModel" (124 : Nat) ({ cls := "ClueLogicModel", name := "value", desc := "()I" } : Jvm.MethodName)) ∈ GW := mwT 910 (by decide +kernel) rfl
theorem wd_912 : (Jvm.Cond.instanceMethod ({ cls := "ClueLogicModel", name := "value", desc := "()I" } : Jvm.MethodName)) ∈ GW := mwT 912 (by decide +kernel) rfl
theorem wd_913 : (Jvm.Cond.code ({ cls := "ClueLogicModel", name := "value", desc := "()I" } : Jvm.MethodName) prog_14_method_8_code (3 : Nat) (Option.some Jvm.ClassFile.FieldType.int)) ∈ GW := mwT 913 (by decide +kernel) rfl
theorem wd_914 : (Jvm.Cond.methodLink "ClueLogicLaw" (27 : Nat) ({ cls := "ClueLogicModel", name := "told", desc := "(I)I" } : Jvm.MethodName)) ∈ GW := mwT 914 (by decide +kernel) rfl
theorem wd_915 : (Jvm.Cond.instanceMethod ({ cls := "ClueLogicModel", name := "told", desc := "(I)I" } : Jvm.MethodName)) ∈ GW := mwT 915 (by decide +kernel) rfl
theorem wd_916 : (Jvm.Cond.selects "ClueLogicModel" ({ cls := "ClueLogicModel", name := "told", desc := "(I)I" } : Jvm.MethodName) ({ cls := "ClueLogicModel", name := "told", desc := "(I)I" } : Jvm.MethodName)) ∈ GW := mwT 916 (by decide +kernel) rfl
theorem wd_917 : (Jvm.Cond.code ({ cls := "ClueLogicModel", name := "told", desc := "(I)I" } : Jvm.MethodName) prog_14_method_13_code (2 : Nat) (Option.some Jvm.ClassFile.FieldType.int)) ∈ GW := mwT 917 (by decide +kernel) rfl
theorem wd_918 : (Jvm.Cond.methodLink "ClueLogicLaw" (31 : Nat) ({ cls := "ClueLogicModel", name := "run", desc := "()I" } : Jvm.MethodName)) ∈ GW := mwT 918 (by decide +kernel) rfl
theorem wd_919 : (Jvm.Cond.instanceMethod ({ cls := "ClueLogicModel", name := "run", desc := "()I" } : Jvm.MethodName)) ∈ GW := mwT 919 (by decide +kernel) rfl
theorem wd_920 : (Jvm.Cond.selects "ClueLogicModel" ({ cls := "ClueLogicModel", name := "run", desc := "()I" } : Jvm.MethodName) ({ cls := "ClueLogicModel", name := "run", desc := "()I" } : Jvm.MethodName)) ∈ GW := mwT 920 (by decide +kernel) rfl
theorem wd_921 : (Jvm.Cond.code ({ cls := "ClueLogicModel", name := "run", desc := "()I" } : Jvm.MethodName) prog_14_method_23_code (3 : Nat) (Option.some Jvm.ClassFile.FieldType.int)) ∈ GW := mwT 921 (by decide +kernel) rfl
theorem wd_922 : (Jvm.Cond.methodLink "ClueLogicModel" (169 : Nat) ({ cls := "ClueLogicModel", name := "know", desc := "()V" } : Jvm.MethodName)) ∈ GW := mwT 922 (by decide +kernel) rfl
theorem wd_924 : (Jvm.Cond.instanceMethod ({ cls := "ClueLogicModel", name := "know", desc := "()V" } : Jvm.MethodName)) ∈ GW := mwT 924 (by decide +kernel) rfl
theorem wd_925 : (Jvm.Cond.code ({ cls := "ClueLogicModel", name := "know", desc := "()V" } : Jvm.MethodName) prog_14_method_21_code (3 : Nat) (Option.none : Option Jvm.ClassFile.FieldType)) ∈ GW := mwT 925 (by decide +kernel) rfl
theorem wd_926 : (Jvm.Cond.methodLink "ClueLogicModel" (160 : Nat) ({ cls := "ClueLogicModel", name := "order", desc := "()V" } : Jvm.MethodName)) ∈ GW := mwT 926 (by decide +kernel) rfl
theorem wd_928 : (Jvm.Cond.instanceMethod ({ cls := "ClueLogicModel", name := "order", desc := "()V" } : Jvm.MethodName)) ∈ GW := mwT 928 (by decide +kernel) rfl
theorem wd_929 : (Jvm.Cond.code ({ cls := "ClueLogicModel", name := "order", desc := "()V" } : Jvm.MethodName) prog_14_method_14_code (6 : Nat) (Option.none : Option Jvm.ClassFile.FieldType)) ∈ GW := mwT 929 (by decide +kernel) rfl
theorem wd_930 : (Jvm.Cond.methodLink "ClueLogicModel" (163 : Nat) ({ cls := "ClueLogicModel", name := "states", desc := "()I" } : Jvm.MethodName)) ∈ GW := mwT 930 (by decide +kernel) rfl
theorem wd_932 : (Jvm.Cond.instanceMethod ({ cls := "ClueLogicModel", name := "states", desc := "()I" } : Jvm.MethodName)) ∈ GW := mwT 932 (by decide +kernel) rfl
theorem wd_933 : (Jvm.Cond.code ({ cls := "ClueLogicModel", name := "states", desc := "()I" } : Jvm.MethodName) prog_14_method_15_code (3 : Nat) (Option.some Jvm.ClassFile.FieldType.int)) ∈ GW := mwT 933 (by decide +kernel) rfl
theorem wd_934 : (Jvm.Cond.methodLink "ClueLogicModel" (166 : Nat) ({ cls := "ClueLogicModel", name := "isSo", desc := "(II)Z" } : Jvm.MethodName)) ∈ GW := mwT 934 (by decide +kernel) rfl
theorem wd_936 : (Jvm.Cond.instanceMethod ({ cls := "ClueLogicModel", name := "isSo", desc := "(II)Z" } : Jvm.MethodName)) ∈ GW := mwT 936 (by decide +kernel) rfl
theorem wd_937 : (Jvm.Cond.code ({ cls := "ClueLogicModel", name := "isSo", desc := "(II)Z" } : Jvm.MethodName) prog_14_method_20_code (8 : Nat) (Option.some Jvm.ClassFile.FieldType.boolean)) ∈ GW := mwT 937 (by decide +kernel) rfl
theorem wd_938 : (Jvm.Cond.methodLink "ClueLogicModel" (153 : Nat) ({ cls := "ClueLogicModel", name := "seat", desc := "(II)I" } : Jvm.MethodName)) ∈ GW := mwT 938 (by decide +kernel) rfl
theorem wd_940 : (Jvm.Cond.instanceMethod ({ cls := "ClueLogicModel", name := "seat", desc := "(II)I" } : Jvm.MethodName)) ∈ GW := mwT 940 (by decide +kernel) rfl
theorem wd_941 : (Jvm.Cond.code ({ cls := "ClueLogicModel", name := "seat", desc := "(II)I" } : Jvm.MethodName) prog_14_method_19_code (3 : Nat) (Option.some Jvm.ClassFile.FieldType.int)) ∈ GW := mwT 941 (by decide +kernel) rfl
theorem wd_942 : (Jvm.Cond.methodLink "ClueLogicModel" (150 : Nat) ({ cls := "ClueLogicModel", name := "orderOf", desc := "(II)I" } : Jvm.MethodName)) ∈ GW := mwT 942 (by decide +kernel) rfl
theorem wd_944 : (Jvm.Cond.instanceMethod ({ cls := "ClueLogicModel", name := "orderOf", desc := "(II)I" } : Jvm.MethodName)) ∈ GW := mwT 944 (by decide +kernel) rfl
theorem wd_945 : (Jvm.Cond.code ({ cls := "ClueLogicModel", name := "orderOf", desc := "(II)I" } : Jvm.MethodName) prog_14_method_16_code (5 : Nat) (Option.some Jvm.ClassFile.FieldType.int)) ∈ GW := mwT 945 (by decide +kernel) rfl
theorem wd_946 : (Jvm.Cond.methodLink "ClueLogicModel" (156 : Nat) ({ cls := "ClueLogicModel", name := "isTruthful", desc := "(II)Z" } : Jvm.MethodName)) ∈ GW := mwT 946 (by decide +kernel) rfl
theorem wd_948 : (Jvm.Cond.instanceMethod ({ cls := "ClueLogicModel", name := "isTruthful", desc := "(II)Z" } : Jvm.MethodName)) ∈ GW := mwT 948 (by decide +kernel) rfl
theorem wd_949 : (Jvm.Cond.code ({ cls := "ClueLogicModel", name := "isTruthful", desc := "(II)Z" } : Jvm.MethodName) prog_14_method_17_code (3 : Nat) (Option.some Jvm.ClassFile.FieldType.boolean)) ∈ GW := mwT 949 (by decide +kernel) rfl
theorem wd_950 : (Jvm.Cond.methodLink "ClueLogicModel" (172 : Nat) ({ cls := "ClueLogicModel", name := "isAnswer", desc := "(I)Z" } : Jvm.MethodName)) ∈ GW := mwT 950 (by decide +kernel) rfl
theorem wd_952 : (Jvm.Cond.instanceMethod ({ cls := "ClueLogicModel", name := "isAnswer", desc := "(I)Z" } : Jvm.MethodName)) ∈ GW := mwT 952 (by decide +kernel) rfl
theorem wd_953 : (Jvm.Cond.code ({ cls := "ClueLogicModel", name := "isAnswer", desc := "(I)Z" } : Jvm.MethodName) prog_14_method_22_code (2 : Nat) (Option.some Jvm.ClassFile.FieldType.boolean)) ∈ GW := mwT 953 (by decide +kernel) rfl
theorem wd_954 : (Jvm.Cond.methodLink "ClueLogicLaw" (36 : Nat) ({ cls := "ClueLogicModel", name := "answer", desc := "(III)I" } : Jvm.MethodName)) ∈ GW := mwT 954 (by decide +kernel) rfl
theorem wd_955 : (Jvm.Cond.instanceMethod ({ cls := "ClueLogicModel", name := "answer", desc := "(III)I" } : Jvm.MethodName)) ∈ GW := mwT 955 (by decide +kernel) rfl
theorem wd_956 : (Jvm.Cond.selects "ClueLogicModel" ({ cls := "ClueLogicModel", name := "answer", desc := "(III)I" } : Jvm.MethodName) ({ cls := "ClueLogicModel", name := "answer", desc := "(III)I" } : Jvm.MethodName)) ∈ GW := mwT 956 (by decide +kernel) rfl
theorem wd_957 : (Jvm.Cond.code ({ cls := "ClueLogicModel", name := "answer", desc := "(III)I" } : Jvm.MethodName) prog_14_method_27_code (4 : Nat) (Option.some Jvm.ClassFile.FieldType.int)) ∈ GW := mwT 957 (by decide +kernel) rfl
theorem wd_958 : (Jvm.Cond.methodLink "ClueLogicModel" (176 : Nat) ({ cls := "ClueLogicModel", name := "isKept", desc := "(I)Z" } : Jvm.MethodName)) ∈ GW := mwT 958 (by decide +kernel) rfl
theorem wd_960 : (Jvm.Cond.instanceMethod ({ cls := "ClueLogicModel", name := "isKept", desc := "(I)Z" } : Jvm.MethodName)) ∈ GW := mwT 960 (by decide +kernel) rfl
theorem wd_961 : (Jvm.Cond.code ({ cls := "ClueLogicModel", name := "isKept", desc := "(I)Z" } : Jvm.MethodName) prog_14_method_24_code (2 : Nat) (Option.some Jvm.ClassFile.FieldType.boolean)) ∈ GW := mwT 961 (by decide +kernel) rfl
theorem wd_962 : (Jvm.Cond.methodLink "ClueLogicModel" (179 : Nat) ({ cls := "ClueLogicModel", name := "isOf", desc := "(II)Z" } : Jvm.MethodName)) ∈ GW := mwT 962 (by decide +kernel) rfl
theorem wd_964 : (Jvm.Cond.instanceMethod ({ cls := "ClueLogicModel", name := "isOf", desc := "(II)Z" } : Jvm.MethodName)) ∈ GW := mwT 964 (by decide +kernel) rfl
theorem wd_965 : (Jvm.Cond.code ({ cls := "ClueLogicModel", name := "isOf", desc := "(II)Z" } : Jvm.MethodName) prog_14_method_25_code (3 : Nat) (Option.some Jvm.ClassFile.FieldType.boolean)) ∈ GW := mwT 965 (by decide +kernel) rfl
theorem wd_966 : (Jvm.Cond.methodLink "ClueLogicModel" (182 : Nat) ({ cls := "ClueLogicModel", name := "valueOf", desc := "(III)I" } : Jvm.MethodName)) ∈ GW := mwT 966 (by decide +kernel) rfl
theorem wd_968 : (Jvm.Cond.instanceMethod ({ cls := "ClueLogicModel", name := "valueOf", desc := "(III)I" } : Jvm.MethodName)) ∈ GW := mwT 968 (by decide +kernel) rfl
theorem wd_969 : (Jvm.Cond.code ({ cls := "ClueLogicModel", name := "valueOf", desc := "(III)I" } : Jvm.MethodName) prog_14_method_18_code (4 : Nat) (Option.some Jvm.ClassFile.FieldType.int)) ∈ GW := mwT 969 (by decide +kernel) rfl
theorem wd_970 : (Jvm.Cond.methodLink "ClueLogicLaw" (41 : Nat) ({ cls := "ClueLogicModel", name := "truth", desc := "(II)I" } : Jvm.MethodName)) ∈ GW := mwT 970 (by decide +kernel) rfl
theorem wd_971 : (Jvm.Cond.instanceMethod ({ cls := "ClueLogicModel", name := "truth", desc := "(II)I" } : Jvm.MethodName)) ∈ GW := mwT 971 (by decide +kernel) rfl
theorem wd_972 : (Jvm.Cond.selects "ClueLogicModel" ({ cls := "ClueLogicModel", name := "truth", desc := "(II)I" } : Jvm.MethodName) ({ cls := "ClueLogicModel", name := "truth", desc := "(II)I" } : Jvm.MethodName)) ∈ GW := mwT 972 (by decide +kernel) rfl
theorem wd_973 : (Jvm.Cond.code ({ cls := "ClueLogicModel", name := "truth", desc := "(II)I" } : Jvm.MethodName) prog_14_method_28_code (3 : Nat) (Option.some Jvm.ClassFile.FieldType.int)) ∈ GW := mwT 973 (by decide +kernel) rfl
theorem wd_974 : (Jvm.Cond.methodLink "ClueLogicModel" (186 : Nat) ({ cls := "ClueLogicModel", name := "isPerson", desc := "(I)Z" } : Jvm.MethodName)) ∈ GW := mwT 974 (by decide +kernel) rfl
theorem wd_976 : (Jvm.Cond.instanceMethod ({ cls := "ClueLogicModel", name := "isPerson", desc := "(I)Z" } : Jvm.MethodName)) ∈ GW := mwT 976 (by decide +kernel) rfl
theorem wd_977 : (Jvm.Cond.code ({ cls := "ClueLogicModel", name := "isPerson", desc := "(I)Z" } : Jvm.MethodName) prog_14_method_26_code (2 : Nat) (Option.some Jvm.ClassFile.FieldType.boolean)) ∈ GW := mwT 977 (by decide +kernel) rfl
theorem wd_978 : (Jvm.Cond.methodLink "ClueLogicLaw" (45 : Nat) ({ cls := "ClueLogicModel", name := "often", desc := "(III)I" } : Jvm.MethodName)) ∈ GW := mwT 978 (by decide +kernel) rfl
theorem wd_979 : (Jvm.Cond.instanceMethod ({ cls := "ClueLogicModel", name := "often", desc := "(III)I" } : Jvm.MethodName)) ∈ GW := mwT 979 (by decide +kernel) rfl
theorem wd_980 : (Jvm.Cond.selects "ClueLogicModel" ({ cls := "ClueLogicModel", name := "often", desc := "(III)I" } : Jvm.MethodName) ({ cls := "ClueLogicModel", name := "often", desc := "(III)I" } : Jvm.MethodName)) ∈ GW := mwT 980 (by decide +kernel) rfl
theorem wd_981 : (Jvm.Cond.code ({ cls := "ClueLogicModel", name := "often", desc := "(III)I" } : Jvm.MethodName) prog_14_method_29_code (6 : Nat) (Option.some Jvm.ClassFile.FieldType.int)) ∈ GW := mwT 981 (by decide +kernel) rfl
theorem wd_982 : (Jvm.Cond.methodLink "ClueLogicLaw" (49 : Nat) ({ cls := "ClueLogicModel", name := "spare", desc := "(I)Z" } : Jvm.MethodName)) ∈ GW := mwT 982 (by decide +kernel) rfl
theorem wd_983 : (Jvm.Cond.instanceMethod ({ cls := "ClueLogicModel", name := "spare", desc := "(I)Z" } : Jvm.MethodName)) ∈ GW := mwT 983 (by decide +kernel) rfl
theorem wd_984 : (Jvm.Cond.selects "ClueLogicModel" ({ cls := "ClueLogicModel", name := "spare", desc := "(I)Z" } : Jvm.MethodName) ({ cls := "ClueLogicModel", name := "spare", desc := "(I)Z" } : Jvm.MethodName)) ∈ GW := mwT 984 (by decide +kernel) rfl
theorem wd_985 : (Jvm.Cond.code ({ cls := "ClueLogicModel", name := "spare", desc := "(I)Z" } : Jvm.MethodName) prog_14_method_30_code (4 : Nat) (Option.some Jvm.ClassFile.FieldType.boolean)) ∈ GW := mwT 985 (by decide +kernel) rfl
theorem wd_986 : (Jvm.Cond.methodLink "ClueLogicLaw" (53 : Nat) ({ cls := "ClueLogicModel", name := "cross", desc := "()I" } : Jvm.MethodName)) ∈ GW := mwT 986 (by decide +kernel) rfl
theorem wd_987 : (Jvm.Cond.instanceMethod ({ cls := "ClueLogicModel", name := "cross", desc := "()I" } : Jvm.MethodName)) ∈ GW := mwT 987 (by decide +kernel) rfl
theorem wd_988 : (Jvm.Cond.selects "ClueLogicModel" ({ cls := "ClueLogicModel", name := "cross", desc := "()I" } : Jvm.MethodName) ({ cls := "ClueLogicModel", name := "cross", desc := "()I" } : Jvm.MethodName)) ∈ GW := mwT 988 (by decide +kernel) rfl
theorem wd_989 : (Jvm.Cond.code ({ cls := "ClueLogicModel", name := "cross", desc := "()I" } : Jvm.MethodName) prog_14_method_34_code (3 : Nat) (Option.some Jvm.ClassFile.FieldType.int)) ∈ GW := mwT 989 (by decide +kernel) rfl
theorem wd_990 : (Jvm.Cond.methodLink "ClueLogicModel" (195 : Nat) ({ cls := "ClueLogicModel", name := "crossBy", desc := "(I)I" } : Jvm.MethodName)) ∈ GW := mwT 990 (by decide +kernel) rfl
theorem wd_992 : (Jvm.Cond.instanceMethod ({ cls := "ClueLogicModel", name := "crossBy", desc := "(I)I" } : Jvm.MethodName)) ∈ GW := mwT 992 (by decide +kernel) rfl
theorem wd_993 : (Jvm.Cond.code ({ cls := "ClueLogicModel", name := "crossBy", desc := "(I)I" } : Jvm.MethodName) prog_14_method_33_code (5 : Nat) (Option.some Jvm.ClassFile.FieldType.int)) ∈ GW := mwT 993 (by decide +kernel) rfl
theorem wd_994 : (Jvm.Cond.methodLink "ClueLogicModel" (189 : Nat) ({ cls := "ClueLogicModel", name := "isOpen", desc := "(I)Z" } : Jvm.MethodName)) ∈ GW := mwT 994 (by decide +kernel) rfl
theorem wd_996 : (Jvm.Cond.instanceMethod ({ cls := "ClueLogicModel", name := "isOpen", desc := "(I)Z" } : Jvm.MethodName)) ∈ GW := mwT 996 (by decide +kernel) rfl
theorem wd_997 : (Jvm.Cond.code ({ cls := "ClueLogicModel", name := "isOpen", desc := "(I)Z" } : Jvm.MethodName) prog_14_method_31_code (4 : Nat) (Option.some Jvm.ClassFile.FieldType.boolean)) ∈ GW := mwT 997 (by decide +kernel) rfl
theorem wd_998 : (Jvm.Cond.methodLink "ClueLogicModel" (192 : Nat) ({ cls := "ClueLogicModel", name := "countOf", desc := "(I)I" } : Jvm.MethodName)) ∈ GW := mwT 998 (by decide +kernel) rfl
theorem wd_999 : (Jvm.Cond.static ({ cls := "ClueLogicModel", name := "countOf", desc := "(I)I" } : Jvm.MethodName)) ∈ GW := mwT 999 (by decide +kernel) rfl
theorem wd_1000 : (Jvm.Cond.code ({ cls := "ClueLogicModel", name := "countOf", desc := "(I)I" } : Jvm.MethodName) prog_14_method_32_code (3 : Nat) (Option.some Jvm.ClassFile.FieldType.int)) ∈ GW := mwT 1000 (by decide +kernel) rfl
theorem wd_1001 : (Jvm.Cond.methodLink "ClueLogicLaw" (57 : Nat) ({ cls := "ClueLogicModel", name := "step", desc := "(II)I" } : Jvm.MethodName)) ∈ GW := mwT 1001 (by decide +kernel) rfl
theorem wd_1002 : (Jvm.Cond.instanceMethod ({ cls := "ClueLogicModel", name := "step", desc := "(II)I" } : Jvm.MethodName)) ∈ GW := mwT 1002 (by decide +kernel) rfl
theorem wd_1003 : (Jvm.Cond.selects "ClueLogicModel" ({ cls := "ClueLogicModel", name := "step", desc := "(II)I" } : Jvm.MethodName) ({ cls := "ClueLogicModel", name := "step", desc := "(II)I" } : Jvm.MethodName)) ∈ GW := mwT 1003 (by decide +kernel) rfl
theorem wd_1004 : (Jvm.Cond.code ({ cls := "ClueLogicModel", name := "step", desc := "(II)I" } : Jvm.MethodName) prog_14_method_35_code (3 : Nat) (Option.some Jvm.ClassFile.FieldType.int)) ∈ GW := mwT 1004 (by decide +kernel) rfl
theorem wd_1005 : (Jvm.Cond.methodLink "ClueLogicLaw" (61 : Nat) ({ cls := "ClueLogicModel", name := "may", desc := "(II)I" } : Jvm.MethodName)) ∈ GW := mwT 1005 (by decide +kernel) rfl
theorem wd_1006 : (Jvm.Cond.instanceMethod ({ cls := "ClueLogicModel", name := "may", desc := "(II)I" } : Jvm.MethodName)) ∈ GW := mwT 1006 (by decide +kernel) rfl
theorem wd_1007 : (Jvm.Cond.selects "ClueLogicModel" ({ cls := "ClueLogicModel", name := "may", desc := "(II)I" } : Jvm.MethodName) ({ cls := "ClueLogicModel", name := "may", desc := "(II)I" } : Jvm.MethodName)) ∈ GW := mwT 1007 (by decide +kernel) rfl
theorem wd_1008 : (Jvm.Cond.code ({ cls := "ClueLogicModel", name := "may", desc := "(II)I" } : Jvm.MethodName) prog_14_method_36_code (3 : Nat) (Option.some Jvm.ClassFile.FieldType.int)) ∈ GW := mwT 1008 (by decide +kernel) rfl
theorem wd_1009 : (Jvm.Cond.methodLink "ClueLogicLaw" (65 : Nat) ({ cls := "ClueLogicModel", name := "mayBe", desc := "(I)I" } : Jvm.MethodName)) ∈ GW := mwT 1009 (by decide +kernel) rfl
theorem wd_1010 : (Jvm.Cond.instanceMethod ({ cls := "ClueLogicModel", name := "mayBe", desc := "(I)I" } : Jvm.MethodName)) ∈ GW := mwT 1010 (by decide +kernel) rfl
theorem wd_1011 : (Jvm.Cond.selects "ClueLogicModel" ({ cls := "ClueLogicModel", name := "mayBe", desc := "(I)I" } : Jvm.MethodName) ({ cls := "ClueLogicModel", name := "mayBe", desc := "(I)I" } : Jvm.MethodName)) ∈ GW := mwT 1011 (by decide +kernel) rfl
theorem wd_1012 : (Jvm.Cond.code ({ cls := "ClueLogicModel", name := "mayBe", desc := "(I)I" } : Jvm.MethodName) prog_14_method_37_code (2 : Nat) (Option.some Jvm.ClassFile.FieldType.int)) ∈ GW := mwT 1012 (by decide +kernel) rfl
theorem wd_1013 : (Jvm.Cond.fieldLink "java/lang/String" (15 : Nat) "java/lang/String" "coder" "B") ∈ GW := mwT 1013 (by decide +kernel) rfl
theorem wd_1014 : (Jvm.Cond.fieldLink "java/lang/String" (9 : Nat) "java/lang/String" "value" "[B") ∈ GW := mwT 1014 (by decide +kernel) rfl
theorem sp_0 : Cond.selects m_Od_fill.1.cls m_Od_fill.1 m_Od_fill.1 ∈ GW := mwS (q := (m_Od_fill.1, 5)) 0 (by decide +kernel)
theorem sp_1 : Cond.selects m_Od_add.1.cls m_Od_add.1 m_Od_add.1 ∈ GW := mwS (q := (m_Od_add.1, 5)) 1 (by decide +kernel)
theorem sp_2 : Cond.selects m_C_begin.1.cls m_C_begin.1 m_C_begin.1 ∈ GW := mwS (q := (m_C_begin.1, 6)) 2 (by decide +kernel)
theorem sp_3 : Cond.selects m_Cr_waysIn.1.cls m_Cr_waysIn.1 m_Cr_waysIn.1 ∈ GW := mwS (q := (m_Cr_waysIn.1, 10)) 3 (by decide +kernel)
theorem sp_4 : Cond.selects m_Rd_passHead.1.cls m_Rd_passHead.1 m_Rd_passHead.1 ∈ GW := mwS (q := (m_Rd_passHead.1, 7)) 4 (by decide +kernel)
theorem sp_5 : Cond.selects m_Rd_take.1.cls m_Rd_take.1 m_Rd_take.1 ∈ GW := mwS (q := (m_Rd_take.1, 7)) 5 (by decide +kernel)
theorem sp_6 : Cond.selects m_Rd_passSemicolon.1.cls m_Rd_passSemicolon.1 m_Rd_passSemicolon.1 ∈ GW := mwS (q := (m_Rd_passSemicolon.1, 7)) 6 (by decide +kernel)
theorem sp_7 : Cond.selects m_Rd_clue.1.cls m_Rd_clue.1 m_Rd_clue.1 ∈ GW := mwS (q := (m_Rd_clue.1, 7)) 7 (by decide +kernel)
theorem sp_8 : Cond.selects m_Rd_ofPerson.1.cls m_Rd_ofPerson.1 m_Rd_ofPerson.1 ∈ GW := mwS (q := (m_Rd_ofPerson.1, 7)) 8 (by decide +kernel)
theorem sp_9 : Cond.selects m_Rd_saying.1.cls m_Rd_saying.1 m_Rd_saying.1 ∈ GW := mwS (q := (m_Rd_saying.1, 7)) 9 (by decide +kernel)
theorem sp_10 : Cond.selects m_Rd_turned.1.cls m_Rd_turned.1 m_Rd_turned.1 ∈ GW := mwS (q := (m_Rd_turned.1, 7)) 10 (by decide +kernel)
theorem sp_11 : Cond.selects m_Rd_joined.1.cls m_Rd_joined.1 m_Rd_joined.1 ∈ GW := mwS (q := (m_Rd_joined.1, 7)) 11 (by decide +kernel)
theorem sp_12 : Cond.selects m_Rd_ofValues.1.cls m_Rd_ofValues.1 m_Rd_ofValues.1 ∈ GW := mwS (q := (m_Rd_ofValues.1, 7)) 12 (by decide +kernel)
theorem sp_13 : Cond.selects m_Rd_takeValue.1.cls m_Rd_takeValue.1 m_Rd_takeValue.1 ∈ GW := mwS (q := (m_Rd_takeValue.1, 7)) 13 (by decide +kernel)
theorem sp_14 : Cond.selects m_Wk_chooseOrders.1.cls m_Wk_chooseOrders.1 m_Wk_chooseOrders.1 ∈ GW := mwS (q := (m_Wk_chooseOrders.1, 6)) 14 (by decide +kernel)
theorem sp_15 : Cond.selects m_Wk_go.1.cls m_Wk_go.1 m_Wk_go.1 ∈ GW := mwS (q := (m_Wk_go.1, 6)) 15 (by decide +kernel)
theorem sp_16 : Cond.selects m_An_weigh.1.cls m_An_weigh.1 m_An_weigh.1 ∈ GW := mwS (q := (m_An_weigh.1, 10)) 16 (by decide +kernel)
theorem sp_17 : Cond.selects m_Ov_relates.1.cls m_Ov_relates.1 m_Ov_relates.1 ∈ GW := mwS (q := (m_Ov_relates.1, 3)) 17 (by decide +kernel)
theorem sp_18 : Cond.selects m_An_add.1.cls m_An_add.1 m_An_add.1 ∈ GW := mwS (q := (m_An_add.1, 10)) 18 (by decide +kernel)
theorem sp_19 : Cond.selects m_An_keep.1.cls m_An_keep.1 m_An_keep.1 ∈ GW := mwS (q := (m_An_keep.1, 10)) 19 (by decide +kernel)
theorem sp_20 : Cond.selects m_An_need.1.cls m_An_need.1 m_An_need.1 ∈ GW := mwS (q := (m_An_need.1, 10)) 20 (by decide +kernel)
theorem sp_21 : Cond.selects m_C_isKept.1.cls m_C_isKept.1 m_C_isKept.1 ∈ GW := mwS (q := (m_C_isKept.1, 6)) 21 (by decide +kernel)
theorem sp_22 : Cond.selects m_Cr_takeStep.1.cls m_Cr_takeStep.1 m_Cr_takeStep.1 ∈ GW := mwS (q := (m_Cr_takeStep.1, 10)) 22 (by decide +kernel)
theorem sp_23 : Cond.selects m_Cr_look.1.cls m_Cr_look.1 m_Cr_look.1 ∈ GW := mwS (q := (m_Cr_look.1, 10)) 23 (by decide +kernel)
theorem sp_24 : Cond.selects m_Cr_openParties.1.cls m_Cr_openParties.1 m_Cr_openParties.1 ∈ GW := mwS (q := (m_Cr_openParties.1, 10)) 24 (by decide +kernel)
theorem sp_25 : Cond.selects m_Cr_seeLayout.1.cls m_Cr_seeLayout.1 m_Cr_seeLayout.1 ∈ GW := mwS (q := (m_Cr_seeLayout.1, 10)) 25 (by decide +kernel)
theorem sp_26 : Cond.selects m_Cr_countUnseen.1.cls m_Cr_countUnseen.1 m_Cr_countUnseen.1 ∈ GW := mwS (q := (m_Cr_countUnseen.1, 10)) 26 (by decide +kernel)
theorem sp_27 : Cond.selects m_Cr_crossOut.1.cls m_Cr_crossOut.1 m_Cr_crossOut.1 ∈ GW := mwS (q := (m_Cr_crossOut.1, 10)) 27 (by decide +kernel)
theorem sp_28 : Cond.selects m_Md_fresh.1.cls m_Md_fresh.1 m_Md_fresh.1 ∈ GW := mwS (q := (m_Md_fresh.1, 36)) 28 (by decide +kernel)
theorem sp_29 : Cond.selects m_Md_all.1.cls m_Md_all.1 m_Md_all.1 ∈ GW := mwS (q := (m_Md_all.1, 36)) 29 (by decide +kernel)
theorem sp_30 : Cond.selects m_Md_readAll.1.cls m_Md_readAll.1 m_Md_readAll.1 ∈ GW := mwS (q := (m_Md_readAll.1, 36)) 30 (by decide +kernel)
theorem sp_31 : Cond.selects m_Md_digit.1.cls m_Md_digit.1 m_Md_digit.1 ∈ GW := mwS (q := (m_Md_digit.1, 36)) 31 (by decide +kernel)
theorem sp_32 : Cond.selects m_Md_byteAt.1.cls m_Md_byteAt.1 m_Md_byteAt.1 ∈ GW := mwS (q := (m_Md_byteAt.1, 36)) 32 (by decide +kernel)
theorem sp_33 : Cond.selects m_Md_readClue.1.cls m_Md_readClue.1 m_Md_readClue.1 ∈ GW := mwS (q := (m_Md_readClue.1, 36)) 33 (by decide +kernel)
theorem sp_34 : Cond.selects m_Md_value.1.cls m_Md_value.1 m_Md_value.1 ∈ GW := mwS (q := (m_Md_value.1, 36)) 34 (by decide +kernel)
theorem sp_35 : Cond.selects m_Md_know.1.cls m_Md_know.1 m_Md_know.1 ∈ GW := mwS (q := (m_Md_know.1, 36)) 35 (by decide +kernel)
theorem sp_36 : Cond.selects m_Md_order.1.cls m_Md_order.1 m_Md_order.1 ∈ GW := mwS (q := (m_Md_order.1, 36)) 36 (by decide +kernel)
theorem sp_37 : Cond.selects m_Md_states.1.cls m_Md_states.1 m_Md_states.1 ∈ GW := mwS (q := (m_Md_states.1, 36)) 37 (by decide +kernel)
theorem sp_38 : Cond.selects m_Md_isSo.1.cls m_Md_isSo.1 m_Md_isSo.1 ∈ GW := mwS (q := (m_Md_isSo.1, 36)) 38 (by decide +kernel)
theorem sp_39 : Cond.selects m_Md_seat.1.cls m_Md_seat.1 m_Md_seat.1 ∈ GW := mwS (q := (m_Md_seat.1, 36)) 39 (by decide +kernel)
theorem sp_40 : Cond.selects m_Md_orderOf.1.cls m_Md_orderOf.1 m_Md_orderOf.1 ∈ GW := mwS (q := (m_Md_orderOf.1, 36)) 40 (by decide +kernel)
theorem sp_41 : Cond.selects m_Md_isTruthful.1.cls m_Md_isTruthful.1 m_Md_isTruthful.1 ∈ GW := mwS (q := (m_Md_isTruthful.1, 36)) 41 (by decide +kernel)
theorem sp_42 : Cond.selects m_Md_isAnswer.1.cls m_Md_isAnswer.1 m_Md_isAnswer.1 ∈ GW := mwS (q := (m_Md_isAnswer.1, 36)) 42 (by decide +kernel)
theorem sp_43 : Cond.selects m_Md_isKept.1.cls m_Md_isKept.1 m_Md_isKept.1 ∈ GW := mwS (q := (m_Md_isKept.1, 36)) 43 (by decide +kernel)
theorem sp_44 : Cond.selects m_Md_isOf.1.cls m_Md_isOf.1 m_Md_isOf.1 ∈ GW := mwS (q := (m_Md_isOf.1, 36)) 44 (by decide +kernel)
theorem sp_45 : Cond.selects m_Md_valueOf.1.cls m_Md_valueOf.1 m_Md_valueOf.1 ∈ GW := mwS (q := (m_Md_valueOf.1, 36)) 45 (by decide +kernel)
theorem sp_46 : Cond.selects m_Md_isPerson.1.cls m_Md_isPerson.1 m_Md_isPerson.1 ∈ GW := mwS (q := (m_Md_isPerson.1, 36)) 46 (by decide +kernel)
theorem sp_47 : Cond.selects m_Md_crossBy.1.cls m_Md_crossBy.1 m_Md_crossBy.1 ∈ GW := mwS (q := (m_Md_crossBy.1, 36)) 47 (by decide +kernel)
theorem sp_48 : Cond.selects m_Md_isOpen.1.cls m_Md_isOpen.1 m_Md_isOpen.1 ∈ GW := mwS (q := (m_Md_isOpen.1, 36)) 48 (by decide +kernel)
