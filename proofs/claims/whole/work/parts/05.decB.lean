theorem d_Wk_order_0 : decode prog_12_method_6_code 0 = .ok (.aload_n 0, 1) := by decide +kernel
theorem d_Wk_order_1 : decode prog_12_method_6_code 1 = .ok (.getfield 9, 3) := by decide +kernel
theorem d_Wk_order_4 : decode prog_12_method_6_code 4 = .ok (.bipush 24, 2) := by decide +kernel
theorem d_Wk_order_6 : decode prog_12_method_6_code 6 = .ok (.iload_n 1, 1) := by decide +kernel
theorem d_Wk_order_7 : decode prog_12_method_6_code 7 = .ok (.imul, 1) := by decide +kernel
theorem d_Wk_order_8 : decode prog_12_method_6_code 8 = .ok (.aload_n 0, 1) := by decide +kernel
theorem d_Wk_order_9 : decode prog_12_method_6_code 9 = .ok (.getfield 18, 3) := by decide +kernel
theorem d_Wk_order_12 : decode prog_12_method_6_code 12 = .ok (.iload_n 1, 1) := by decide +kernel
theorem d_Wk_order_13 : decode prog_12_method_6_code 13 = .ok (.iaload, 1) := by decide +kernel
theorem d_Wk_order_14 : decode prog_12_method_6_code 14 = .ok (.iadd, 1) := by decide +kernel
theorem d_Wk_order_15 : decode prog_12_method_6_code 15 = .ok (.iaload, 1) := by decide +kernel
theorem d_Wk_order_16 : decode prog_12_method_6_code 16 = .ok (.ireturn, 1) := by decide +kernel
theorem d_Od_things_0 : decode prog_8_method_2_code 0 = .ok (.aload_n 0, 1) := by decide +kernel
theorem d_Od_things_1 : decode prog_8_method_2_code 1 = .ok (.getfield 18, 3) := by decide +kernel
theorem d_Od_things_4 : decode prog_8_method_2_code 4 = .ok (.ireturn, 1) := by decide +kernel
theorem d_Od_value_0 : decode prog_8_method_6_code 0 = .ok (.aload_n 0, 1) := by decide +kernel
theorem d_Od_value_1 : decode prog_8_method_6_code 1 = .ok (.getfield 15, 3) := by decide +kernel
theorem d_Od_value_4 : decode prog_8_method_6_code 4 = .ok (.iconst 4, 1) := by decide +kernel
theorem d_Od_value_5 : decode prog_8_method_6_code 5 = .ok (.iload_n 1, 1) := by decide +kernel
theorem d_Od_value_6 : decode prog_8_method_6_code 6 = .ok (.imul, 1) := by decide +kernel
theorem d_Od_value_7 : decode prog_8_method_6_code 7 = .ok (.iload_n 2, 1) := by decide +kernel
theorem d_Od_value_8 : decode prog_8_method_6_code 8 = .ok (.iadd, 1) := by decide +kernel
theorem d_Od_value_9 : decode prog_8_method_6_code 9 = .ok (.iaload, 1) := by decide +kernel
theorem d_Od_value_10 : decode prog_8_method_6_code 10 = .ok (.ireturn, 1) := by decide +kernel
theorem d_An_weigh_0 : decode prog_2_method_9_code 0 = .ok (.aload_n 0, 1) := by decide +kernel
theorem d_An_weigh_1 : decode prog_2_method_9_code 1 = .ok (.getfield 28, 3) := by decide +kernel
theorem d_An_weigh_4 : decode prog_2_method_9_code 4 = .ok (.invokevirtual 92, 3) := by decide +kernel
theorem d_An_weigh_7 : decode prog_2_method_9_code 7 = .ok (.istore_n 1, 1) := by decide +kernel
theorem d_An_weigh_8 : decode prog_2_method_9_code 8 = .ok (.iconst 0, 1) := by decide +kernel
theorem d_An_weigh_9 : decode prog_2_method_9_code 9 = .ok (.istore_n 2, 1) := by decide +kernel
theorem d_An_weigh_10 : decode prog_2_method_9_code 10 = .ok (.iconst 0, 1) := by decide +kernel
theorem d_An_weigh_11 : decode prog_2_method_9_code 11 = .ok (.istore_n 3, 1) := by decide +kernel
theorem d_An_weigh_12 : decode prog_2_method_9_code 12 = .ok (.iload_n 3, 1) := by decide +kernel
theorem d_An_weigh_13 : decode prog_2_method_9_code 13 = .ok (.aload_n 0, 1) := by decide +kernel
theorem d_An_weigh_14 : decode prog_2_method_9_code 14 = .ok (.getfield 28, 3) := by decide +kernel
theorem d_An_weigh_17 : decode prog_2_method_9_code 17 = .ok (.invokevirtual 95, 3) := by decide +kernel
theorem d_An_weigh_20 : decode prog_2_method_9_code 20 = .ok (.if_icmp .ge 62, 3) := by decide +kernel
theorem d_An_weigh_23 : decode prog_2_method_9_code 23 = .ok (.iload_n 1, 1) := by decide +kernel
theorem d_An_weigh_24 : decode prog_2_method_9_code 24 = .ok (.iload_n 2, 1) := by decide +kernel
theorem d_An_weigh_25 : decode prog_2_method_9_code 25 = .ok (.ior, 1) := by decide +kernel
theorem d_An_weigh_26 : decode prog_2_method_9_code 26 = .ok (.ifCond .eq 56, 3) := by decide +kernel
theorem d_An_weigh_29 : decode prog_2_method_9_code 29 = .ok (.aload_n 0, 1) := by decide +kernel
theorem d_An_weigh_30 : decode prog_2_method_9_code 30 = .ok (.getfield 28, 3) := by decide +kernel
theorem d_An_weigh_33 : decode prog_2_method_9_code 33 = .ok (.iload_n 3, 1) := by decide +kernel
theorem d_An_weigh_34 : decode prog_2_method_9_code 34 = .ok (.invokevirtual 98, 3) := by decide +kernel
theorem d_An_weigh_37 : decode prog_2_method_9_code 37 = .ok (.aload_n 0, 1) := by decide +kernel
theorem d_An_weigh_38 : decode prog_2_method_9_code 38 = .ok (.getfield 37, 3) := by decide +kernel
theorem d_An_weigh_41 : decode prog_2_method_9_code 41 = .ok (.invokevirtual 102, 3) := by decide +kernel
theorem d_An_weigh_44 : decode prog_2_method_9_code 44 = .ok (.invokeinterface 106 2, 5) := by decide +kernel
theorem d_An_weigh_49 : decode prog_2_method_9_code 49 = .ok (.istore 4, 2) := by decide +kernel
theorem d_An_weigh_51 : decode prog_2_method_9_code 51 = .ok (.aload_n 0, 1) := by decide +kernel
theorem d_An_weigh_52 : decode prog_2_method_9_code 52 = .ok (.getfield 21, 3) := by decide +kernel
theorem d_An_weigh_55 : decode prog_2_method_9_code 55 = .ok (.iload_n 3, 1) := by decide +kernel
theorem d_An_weigh_56 : decode prog_2_method_9_code 56 = .ok (.iload 4, 2) := by decide +kernel
theorem d_An_weigh_58 : decode prog_2_method_9_code 58 = .ok (.iastore, 1) := by decide +kernel
theorem d_An_weigh_59 : decode prog_2_method_9_code 59 = .ok (.iload_n 2, 1) := by decide +kernel
theorem d_An_weigh_60 : decode prog_2_method_9_code 60 = .ok (.iload 4, 2) := by decide +kernel
theorem d_An_weigh_62 : decode prog_2_method_9_code 62 = .ok (.iand, 1) := by decide +kernel
theorem d_An_weigh_63 : decode prog_2_method_9_code 63 = .ok (.iload_n 1, 1) := by decide +kernel
theorem d_An_weigh_64 : decode prog_2_method_9_code 64 = .ok (.iload 4, 2) := by decide +kernel
theorem d_An_weigh_66 : decode prog_2_method_9_code 66 = .ok (.iconst (-1), 1) := by decide +kernel
theorem d_An_weigh_67 : decode prog_2_method_9_code 67 = .ok (.ixor, 1) := by decide +kernel
theorem d_An_weigh_68 : decode prog_2_method_9_code 68 = .ok (.iand, 1) := by decide +kernel
theorem d_An_weigh_69 : decode prog_2_method_9_code 69 = .ok (.ior, 1) := by decide +kernel
theorem d_An_weigh_70 : decode prog_2_method_9_code 70 = .ok (.istore_n 2, 1) := by decide +kernel
theorem d_An_weigh_71 : decode prog_2_method_9_code 71 = .ok (.iload_n 1, 1) := by decide +kernel
theorem d_An_weigh_72 : decode prog_2_method_9_code 72 = .ok (.iload 4, 2) := by decide +kernel
theorem d_An_weigh_74 : decode prog_2_method_9_code 74 = .ok (.iand, 1) := by decide +kernel
theorem d_An_weigh_75 : decode prog_2_method_9_code 75 = .ok (.istore_n 1, 1) := by decide +kernel
theorem d_An_weigh_76 : decode prog_2_method_9_code 76 = .ok (.iinc 3 1, 3) := by decide +kernel
theorem d_An_weigh_79 : decode prog_2_method_9_code 79 = .ok (.goto (-67), 3) := by decide +kernel
theorem d_An_weigh_82 : decode prog_2_method_9_code 82 = .ok (.iload_n 1, 1) := by decide +kernel
theorem d_An_weigh_83 : decode prog_2_method_9_code 83 = .ok (.ifCond .eq 8, 3) := by decide +kernel
theorem d_An_weigh_86 : decode prog_2_method_9_code 86 = .ok (.aload_n 0, 1) := by decide +kernel
theorem d_An_weigh_87 : decode prog_2_method_9_code 87 = .ok (.iload_n 1, 1) := by decide +kernel
theorem d_An_weigh_88 : decode prog_2_method_9_code 88 = .ok (.invokevirtual 111, 3) := by decide +kernel
theorem d_An_weigh_91 : decode prog_2_method_9_code 91 = .ok (.iload_n 2, 1) := by decide +kernel
theorem d_An_weigh_92 : decode prog_2_method_9_code 92 = .ok (.ifCond .eq 8, 3) := by decide +kernel
theorem d_An_weigh_95 : decode prog_2_method_9_code 95 = .ok (.aload_n 0, 1) := by decide +kernel
theorem d_An_weigh_96 : decode prog_2_method_9_code 96 = .ok (.iload_n 2, 1) := by decide +kernel
theorem d_An_weigh_97 : decode prog_2_method_9_code 97 = .ok (.invokevirtual 115, 3) := by decide +kernel
theorem d_An_weigh_100 : decode prog_2_method_9_code 100 = .ok (.return_, 1) := by decide +kernel
theorem d_Pz_clue_0 : decode prog_9_method_8_code 0 = .ok (.aload_n 0, 1) := by decide +kernel
theorem d_Pz_clue_1 : decode prog_9_method_8_code 1 = .ok (.getfield 11, 3) := by decide +kernel
theorem d_Pz_clue_4 : decode prog_9_method_8_code 4 = .ok (.iload_n 1, 1) := by decide +kernel
theorem d_Pz_clue_5 : decode prog_9_method_8_code 5 = .ok (.aaload, 1) := by decide +kernel
theorem d_Pz_clue_6 : decode prog_9_method_8_code 6 = .ok (.areturn, 1) := by decide +kernel
theorem d_Wk_thing_0 : decode prog_12_method_7_code 0 = .ok (.aload_n 0, 1) := by decide +kernel
theorem d_Wk_thing_1 : decode prog_12_method_7_code 1 = .ok (.getfield 21, 3) := by decide +kernel
theorem d_Wk_thing_4 : decode prog_12_method_7_code 4 = .ok (.areturn, 1) := by decide +kernel
theorem d_Jo_holds_0 : decode prog_5_method_2_code 0 = .ok (.aload_n 0, 1) := by decide +kernel
theorem d_Jo_holds_1 : decode prog_5_method_2_code 1 = .ok (.getfield 13, 3) := by decide +kernel
theorem d_Jo_holds_4 : decode prog_5_method_2_code 4 = .ok (.aload_n 1, 1) := by decide +kernel
theorem d_Jo_holds_5 : decode prog_5_method_2_code 5 = .ok (.invokeinterface 20 2, 5) := by decide +kernel
theorem d_Jo_holds_10 : decode prog_5_method_2_code 10 = .ok (.istore_n 2, 1) := by decide +kernel
theorem d_Jo_holds_11 : decode prog_5_method_2_code 11 = .ok (.aload_n 0, 1) := by decide +kernel
theorem d_Jo_holds_12 : decode prog_5_method_2_code 12 = .ok (.getfield 17, 3) := by decide +kernel
theorem d_Jo_holds_15 : decode prog_5_method_2_code 15 = .ok (.aload_n 1, 1) := by decide +kernel
theorem d_Jo_holds_16 : decode prog_5_method_2_code 16 = .ok (.invokeinterface 20 2, 5) := by decide +kernel
theorem d_Jo_holds_21 : decode prog_5_method_2_code 21 = .ok (.istore_n 3, 1) := by decide +kernel
theorem d_Jo_holds_22 : decode prog_5_method_2_code 22 = .ok (.aload_n 0, 1) := by decide +kernel
theorem d_Jo_holds_23 : decode prog_5_method_2_code 23 = .ok (.getfield 7, 3) := by decide +kernel
theorem d_Jo_holds_26 : decode prog_5_method_2_code 26 = .ok (.ifCond .eq 9, 3) := by decide +kernel
theorem d_Jo_holds_29 : decode prog_5_method_2_code 29 = .ok (.iload_n 2, 1) := by decide +kernel
theorem d_Jo_holds_30 : decode prog_5_method_2_code 30 = .ok (.iload_n 3, 1) := by decide +kernel
theorem d_Jo_holds_31 : decode prog_5_method_2_code 31 = .ok (.iand, 1) := by decide +kernel
theorem d_Jo_holds_32 : decode prog_5_method_2_code 32 = .ok (.goto 6, 3) := by decide +kernel
theorem d_Jo_holds_35 : decode prog_5_method_2_code 35 = .ok (.iload_n 2, 1) := by decide +kernel
theorem d_Jo_holds_36 : decode prog_5_method_2_code 36 = .ok (.iload_n 3, 1) := by decide +kernel
theorem d_Jo_holds_37 : decode prog_5_method_2_code 37 = .ok (.ior, 1) := by decide +kernel
theorem d_Jo_holds_38 : decode prog_5_method_2_code 38 = .ok (.ireturn, 1) := by decide +kernel
theorem d_Op_holds_0 : decode prog_6_method_2_code 0 = .ok (.aload_n 0, 1) := by decide +kernel
theorem d_Op_holds_1 : decode prog_6_method_2_code 1 = .ok (.getfield 13, 3) := by decide +kernel
theorem d_Op_holds_4 : decode prog_6_method_2_code 4 = .ok (.ireturn, 1) := by decide +kernel
theorem d_Ov_holds_0 : decode prog_7_method_2_code 0 = .ok (.aload_n 0, 1) := by decide +kernel
theorem d_Ov_holds_1 : decode prog_7_method_2_code 1 = .ok (.aload_n 1, 1) := by decide +kernel
theorem d_Ov_holds_2 : decode prog_7_method_2_code 2 = .ok (.aload_n 0, 1) := by decide +kernel
theorem d_Ov_holds_3 : decode prog_7_method_2_code 3 = .ok (.getfield 13, 3) := by decide +kernel
theorem d_Ov_holds_6 : decode prog_7_method_2_code 6 = .ok (.iaload, 1) := by decide +kernel
theorem d_Ov_holds_7 : decode prog_7_method_2_code 7 = .ok (.aload_n 1, 1) := by decide +kernel
theorem d_Ov_holds_8 : decode prog_7_method_2_code 8 = .ok (.aload_n 0, 1) := by decide +kernel
theorem d_Ov_holds_9 : decode prog_7_method_2_code 9 = .ok (.getfield 16, 3) := by decide +kernel
theorem d_Ov_holds_12 : decode prog_7_method_2_code 12 = .ok (.iaload, 1) := by decide +kernel
theorem d_Ov_holds_13 : decode prog_7_method_2_code 13 = .ok (.invokevirtual 19, 3) := by decide +kernel
theorem d_Ov_holds_16 : decode prog_7_method_2_code 16 = .ok (.ifCond .eq 7, 3) := by decide +kernel
theorem d_Ov_holds_19 : decode prog_7_method_2_code 19 = .ok (.iconst (-1), 1) := by decide +kernel
theorem d_Ov_holds_20 : decode prog_7_method_2_code 20 = .ok (.goto 4, 3) := by decide +kernel
theorem d_Ov_holds_23 : decode prog_7_method_2_code 23 = .ok (.iconst 0, 1) := by decide +kernel
theorem d_Ov_holds_24 : decode prog_7_method_2_code 24 = .ok (.ireturn, 1) := by decide +kernel
theorem d_Ov_relates_0 : decode prog_7_method_3_code 0 = .ok (.aload_n 0, 1) := by decide +kernel
theorem d_Ov_relates_1 : decode prog_7_method_3_code 1 = .ok (.getfield 7, 3) := by decide +kernel
theorem d_Ov_relates_4 : decode prog_7_method_3_code 4 = .ok (.lookupswitch 69 #[(33, 47), (60, 58), (61, 36)], 36) := by decide +kernel
theorem d_Ov_relates_40 : decode prog_7_method_3_code 40 = .ok (.iload_n 1, 1) := by decide +kernel
theorem d_Ov_relates_41 : decode prog_7_method_3_code 41 = .ok (.iload_n 2, 1) := by decide +kernel
theorem d_Ov_relates_42 : decode prog_7_method_3_code 42 = .ok (.if_icmp .ne 7, 3) := by decide +kernel
theorem d_Ov_relates_45 : decode prog_7_method_3_code 45 = .ok (.iconst 1, 1) := by decide +kernel
theorem d_Ov_relates_46 : decode prog_7_method_3_code 46 = .ok (.goto 4, 3) := by decide +kernel
theorem d_Ov_relates_49 : decode prog_7_method_3_code 49 = .ok (.iconst 0, 1) := by decide +kernel
theorem d_Ov_relates_50 : decode prog_7_method_3_code 50 = .ok (.ireturn, 1) := by decide +kernel
theorem d_Ov_relates_51 : decode prog_7_method_3_code 51 = .ok (.iload_n 1, 1) := by decide +kernel
theorem d_Ov_relates_52 : decode prog_7_method_3_code 52 = .ok (.iload_n 2, 1) := by decide +kernel
theorem d_Ov_relates_53 : decode prog_7_method_3_code 53 = .ok (.if_icmp .eq 7, 3) := by decide +kernel
theorem d_Ov_relates_56 : decode prog_7_method_3_code 56 = .ok (.iconst 1, 1) := by decide +kernel
theorem d_Ov_relates_57 : decode prog_7_method_3_code 57 = .ok (.goto 4, 3) := by decide +kernel
theorem d_Ov_relates_60 : decode prog_7_method_3_code 60 = .ok (.iconst 0, 1) := by decide +kernel
theorem d_Ov_relates_61 : decode prog_7_method_3_code 61 = .ok (.ireturn, 1) := by decide +kernel
theorem d_Ov_relates_62 : decode prog_7_method_3_code 62 = .ok (.iload_n 1, 1) := by decide +kernel
theorem d_Ov_relates_63 : decode prog_7_method_3_code 63 = .ok (.iload_n 2, 1) := by decide +kernel
theorem d_Ov_relates_64 : decode prog_7_method_3_code 64 = .ok (.if_icmp .ge 7, 3) := by decide +kernel
theorem d_Ov_relates_67 : decode prog_7_method_3_code 67 = .ok (.iconst 1, 1) := by decide +kernel
theorem d_Ov_relates_68 : decode prog_7_method_3_code 68 = .ok (.goto 4, 3) := by decide +kernel
theorem d_Ov_relates_71 : decode prog_7_method_3_code 71 = .ok (.iconst 0, 1) := by decide +kernel
theorem d_Ov_relates_72 : decode prog_7_method_3_code 72 = .ok (.ireturn, 1) := by decide +kernel
theorem d_Ov_relates_73 : decode prog_7_method_3_code 73 = .ok (.iload_n 1, 1) := by decide +kernel
theorem d_Ov_relates_74 : decode prog_7_method_3_code 74 = .ok (.iload_n 2, 1) := by decide +kernel
theorem d_Ov_relates_75 : decode prog_7_method_3_code 75 = .ok (.isub, 1) := by decide +kernel
theorem d_Ov_relates_76 : decode prog_7_method_3_code 76 = .ok (.iconst 1, 1) := by decide +kernel
theorem d_Ov_relates_77 : decode prog_7_method_3_code 77 = .ok (.if_icmp .eq 10, 3) := by decide +kernel
theorem d_Ov_relates_80 : decode prog_7_method_3_code 80 = .ok (.iload_n 2, 1) := by decide +kernel
theorem d_Ov_relates_81 : decode prog_7_method_3_code 81 = .ok (.iload_n 1, 1) := by decide +kernel
theorem d_Ov_relates_82 : decode prog_7_method_3_code 82 = .ok (.isub, 1) := by decide +kernel
theorem d_Ov_relates_83 : decode prog_7_method_3_code 83 = .ok (.iconst 1, 1) := by decide +kernel
theorem d_Ov_relates_84 : decode prog_7_method_3_code 84 = .ok (.if_icmp .ne 7, 3) := by decide +kernel
theorem d_Ov_relates_87 : decode prog_7_method_3_code 87 = .ok (.iconst 1, 1) := by decide +kernel
theorem d_Ov_relates_88 : decode prog_7_method_3_code 88 = .ok (.goto 4, 3) := by decide +kernel
theorem d_Ov_relates_91 : decode prog_7_method_3_code 91 = .ok (.iconst 0, 1) := by decide +kernel
theorem d_Ov_relates_92 : decode prog_7_method_3_code 92 = .ok (.ireturn, 1) := by decide +kernel
theorem d_Tu_holds_0 : decode prog_11_method_2_code 0 = .ok (.aload_n 0, 1) := by decide +kernel
theorem d_Tu_holds_1 : decode prog_11_method_2_code 1 = .ok (.getfield 7, 3) := by decide +kernel
theorem d_Tu_holds_4 : decode prog_11_method_2_code 4 = .ok (.aload_n 0, 1) := by decide +kernel
theorem d_Tu_holds_5 : decode prog_11_method_2_code 5 = .ok (.getfield 13, 3) := by decide +kernel
theorem d_Tu_holds_8 : decode prog_11_method_2_code 8 = .ok (.aload_n 1, 1) := by decide +kernel
theorem d_Tu_holds_9 : decode prog_11_method_2_code 9 = .ok (.invokeinterface 17 2, 5) := by decide +kernel
theorem d_Tu_holds_14 : decode prog_11_method_2_code 14 = .ok (.ixor, 1) := by decide +kernel
theorem d_Tu_holds_15 : decode prog_11_method_2_code 15 = .ok (.ireturn, 1) := by decide +kernel
theorem d_An_add_0 : decode prog_2_method_10_code 0 = .ok (.iload_n 1, 1) := by decide +kernel
theorem d_An_add_1 : decode prog_2_method_10_code 1 = .ok (.invokestatic 118, 3) := by decide +kernel
theorem d_An_add_4 : decode prog_2_method_10_code 4 = .ok (.istore_n 2, 1) := by decide +kernel
theorem d_An_add_5 : decode prog_2_method_10_code 5 = .ok (.aload_n 0, 1) := by decide +kernel
theorem d_An_add_6 : decode prog_2_method_10_code 6 = .ok (.dup, 1) := by decide +kernel
theorem d_An_add_7 : decode prog_2_method_10_code 7 = .ok (.getfield 41, 3) := by decide +kernel
theorem d_An_add_10 : decode prog_2_method_10_code 10 = .ok (.iload_n 2, 1) := by decide +kernel
theorem d_An_add_11 : decode prog_2_method_10_code 11 = .ok (.iadd, 1) := by decide +kernel
theorem d_An_add_12 : decode prog_2_method_10_code 12 = .ok (.putfield 41, 3) := by decide +kernel
theorem d_An_add_15 : decode prog_2_method_10_code 15 = .ok (.iconst 0, 1) := by decide +kernel
theorem d_An_add_16 : decode prog_2_method_10_code 16 = .ok (.istore_n 3, 1) := by decide +kernel
theorem d_An_add_17 : decode prog_2_method_10_code 17 = .ok (.iload_n 3, 1) := by decide +kernel
theorem d_An_add_18 : decode prog_2_method_10_code 18 = .ok (.aload_n 0, 1) := by decide +kernel
theorem d_An_add_19 : decode prog_2_method_10_code 19 = .ok (.getfield 28, 3) := by decide +kernel
theorem d_An_add_22 : decode prog_2_method_10_code 22 = .ok (.invokevirtual 124, 3) := by decide +kernel
theorem d_An_add_25 : decode prog_2_method_10_code 25 = .ok (.if_icmp .ge 31, 3) := by decide +kernel
theorem d_An_add_28 : decode prog_2_method_10_code 28 = .ok (.aload_n 0, 1) := by decide +kernel
theorem d_An_add_29 : decode prog_2_method_10_code 29 = .ok (.getfield 18, 3) := by decide +kernel
theorem d_An_add_32 : decode prog_2_method_10_code 32 = .ok (.bipush 24, 2) := by decide +kernel
theorem d_An_add_34 : decode prog_2_method_10_code 34 = .ok (.iload_n 3, 1) := by decide +kernel
theorem d_An_add_35 : decode prog_2_method_10_code 35 = .ok (.imul, 1) := by decide +kernel
theorem d_An_add_36 : decode prog_2_method_10_code 36 = .ok (.aload_n 0, 1) := by decide +kernel
theorem d_An_add_37 : decode prog_2_method_10_code 37 = .ok (.getfield 37, 3) := by decide +kernel
theorem d_An_add_40 : decode prog_2_method_10_code 40 = .ok (.iload_n 3, 1) := by decide +kernel
theorem d_An_add_41 : decode prog_2_method_10_code 41 = .ok (.invokevirtual 127, 3) := by decide +kernel
theorem d_An_add_44 : decode prog_2_method_10_code 44 = .ok (.iadd, 1) := by decide +kernel
theorem d_An_add_45 : decode prog_2_method_10_code 45 = .ok (.dup2, 1) := by decide +kernel
theorem d_An_add_46 : decode prog_2_method_10_code 46 = .ok (.iaload, 1) := by decide +kernel
theorem d_An_add_47 : decode prog_2_method_10_code 47 = .ok (.iload_n 2, 1) := by decide +kernel
theorem d_An_add_48 : decode prog_2_method_10_code 48 = .ok (.iadd, 1) := by decide +kernel
theorem d_An_add_49 : decode prog_2_method_10_code 49 = .ok (.iastore, 1) := by decide +kernel
theorem d_An_add_50 : decode prog_2_method_10_code 50 = .ok (.iinc 3 1, 3) := by decide +kernel
theorem d_An_add_53 : decode prog_2_method_10_code 53 = .ok (.goto (-36), 3) := by decide +kernel
theorem d_An_add_56 : decode prog_2_method_10_code 56 = .ok (.iconst 0, 1) := by decide +kernel
theorem d_An_add_57 : decode prog_2_method_10_code 57 = .ok (.istore_n 3, 1) := by decide +kernel
theorem d_An_add_58 : decode prog_2_method_10_code 58 = .ok (.iload_n 3, 1) := by decide +kernel
theorem d_An_add_59 : decode prog_2_method_10_code 59 = .ok (.bipush 8, 2) := by decide +kernel
theorem d_An_add_61 : decode prog_2_method_10_code 61 = .ok (.if_icmp .ge 31, 3) := by decide +kernel
theorem d_An_add_64 : decode prog_2_method_10_code 64 = .ok (.aload_n 0, 1) := by decide +kernel
theorem d_An_add_65 : decode prog_2_method_10_code 65 = .ok (.getfield 45, 3) := by decide +kernel
theorem d_An_add_68 : decode prog_2_method_10_code 68 = .ok (.bipush 100, 2) := by decide +kernel
theorem d_An_add_70 : decode prog_2_method_10_code 70 = .ok (.if_icmp .ge 22, 3) := by decide +kernel
theorem d_An_add_73 : decode prog_2_method_10_code 73 = .ok (.iload_n 1, 1) := by decide +kernel
theorem d_An_add_74 : decode prog_2_method_10_code 74 = .ok (.iload_n 3, 1) := by decide +kernel
theorem d_An_add_75 : decode prog_2_method_10_code 75 = .ok (.ishr, 1) := by decide +kernel
theorem d_An_add_76 : decode prog_2_method_10_code 76 = .ok (.iconst 1, 1) := by decide +kernel
theorem d_An_add_77 : decode prog_2_method_10_code 77 = .ok (.iand, 1) := by decide +kernel
theorem d_An_add_78 : decode prog_2_method_10_code 78 = .ok (.ifCond .eq 8, 3) := by decide +kernel
theorem d_An_add_81 : decode prog_2_method_10_code 81 = .ok (.aload_n 0, 1) := by decide +kernel
theorem d_An_add_82 : decode prog_2_method_10_code 82 = .ok (.iload_n 3, 1) := by decide +kernel
theorem d_An_add_83 : decode prog_2_method_10_code 83 = .ok (.invokevirtual 130, 3) := by decide +kernel
theorem d_An_add_86 : decode prog_2_method_10_code 86 = .ok (.iinc 3 1, 3) := by decide +kernel
theorem d_An_add_89 : decode prog_2_method_10_code 89 = .ok (.goto (-31), 3) := by decide +kernel
theorem d_An_add_92 : decode prog_2_method_10_code 92 = .ok (.return_, 1) := by decide +kernel
theorem d_An_keep_0 : decode prog_2_method_11_code 0 = .ok (.iconst 0, 1) := by decide +kernel
theorem d_An_keep_1 : decode prog_2_method_11_code 1 = .ok (.istore_n 2, 1) := by decide +kernel
theorem d_An_keep_2 : decode prog_2_method_11_code 2 = .ok (.iload_n 2, 1) := by decide +kernel
theorem d_An_keep_3 : decode prog_2_method_11_code 3 = .ok (.aload_n 0, 1) := by decide +kernel
theorem d_An_keep_4 : decode prog_2_method_11_code 4 = .ok (.getfield 28, 3) := by decide +kernel
theorem d_An_keep_7 : decode prog_2_method_11_code 7 = .ok (.invokevirtual 124, 3) := by decide +kernel
theorem d_An_keep_10 : decode prog_2_method_11_code 10 = .ok (.if_icmp .ge 30, 3) := by decide +kernel
theorem d_An_keep_13 : decode prog_2_method_11_code 13 = .ok (.aload_n 0, 1) := by decide +kernel
theorem d_An_keep_14 : decode prog_2_method_11_code 14 = .ok (.getfield 9, 3) := by decide +kernel
theorem d_An_keep_17 : decode prog_2_method_11_code 17 = .ok (.iconst 3, 1) := by decide +kernel
theorem d_An_keep_18 : decode prog_2_method_11_code 18 = .ok (.aload_n 0, 1) := by decide +kernel
theorem d_An_keep_19 : decode prog_2_method_11_code 19 = .ok (.getfield 45, 3) := by decide +kernel
theorem d_An_keep_22 : decode prog_2_method_11_code 22 = .ok (.imul, 1) := by decide +kernel
theorem d_An_keep_23 : decode prog_2_method_11_code 23 = .ok (.iload_n 2, 1) := by decide +kernel
theorem d_An_keep_24 : decode prog_2_method_11_code 24 = .ok (.iadd, 1) := by decide +kernel
theorem d_An_keep_25 : decode prog_2_method_11_code 25 = .ok (.aload_n 0, 1) := by decide +kernel
theorem d_An_keep_26 : decode prog_2_method_11_code 26 = .ok (.getfield 37, 3) := by decide +kernel
theorem d_An_keep_29 : decode prog_2_method_11_code 29 = .ok (.iload_n 2, 1) := by decide +kernel
theorem d_An_keep_30 : decode prog_2_method_11_code 30 = .ok (.invokevirtual 127, 3) := by decide +kernel
theorem d_An_keep_33 : decode prog_2_method_11_code 33 = .ok (.iastore, 1) := by decide +kernel
theorem d_An_keep_34 : decode prog_2_method_11_code 34 = .ok (.iinc 2 1, 3) := by decide +kernel
theorem d_An_keep_37 : decode prog_2_method_11_code 37 = .ok (.goto (-35), 3) := by decide +kernel
theorem d_An_keep_40 : decode prog_2_method_11_code 40 = .ok (.aload_n 0, 1) := by decide +kernel
theorem d_An_keep_41 : decode prog_2_method_11_code 41 = .ok (.getfield 15, 3) := by decide +kernel
theorem d_An_keep_44 : decode prog_2_method_11_code 44 = .ok (.aload_n 0, 1) := by decide +kernel
theorem d_An_keep_45 : decode prog_2_method_11_code 45 = .ok (.getfield 45, 3) := by decide +kernel
theorem d_An_keep_48 : decode prog_2_method_11_code 48 = .ok (.iload_n 1, 1) := by decide +kernel
theorem d_An_keep_49 : decode prog_2_method_11_code 49 = .ok (.iastore, 1) := by decide +kernel
theorem d_An_keep_50 : decode prog_2_method_11_code 50 = .ok (.aload_n 0, 1) := by decide +kernel
theorem d_An_keep_51 : decode prog_2_method_11_code 51 = .ok (.dup, 1) := by decide +kernel
theorem d_An_keep_52 : decode prog_2_method_11_code 52 = .ok (.getfield 45, 3) := by decide +kernel
theorem d_An_keep_55 : decode prog_2_method_11_code 55 = .ok (.iconst 1, 1) := by decide +kernel
theorem d_An_keep_56 : decode prog_2_method_11_code 56 = .ok (.iadd, 1) := by decide +kernel
theorem d_An_keep_57 : decode prog_2_method_11_code 57 = .ok (.putfield 45, 3) := by decide +kernel
theorem d_An_keep_60 : decode prog_2_method_11_code 60 = .ok (.return_, 1) := by decide +kernel
theorem d_An_need_0 : decode prog_2_method_12_code 0 = .ok (.iconst 0, 1) := by decide +kernel
theorem d_An_need_1 : decode prog_2_method_12_code 1 = .ok (.istore_n 2, 1) := by decide +kernel
theorem d_An_need_2 : decode prog_2_method_12_code 2 = .ok (.iload_n 2, 1) := by decide +kernel
theorem d_An_need_3 : decode prog_2_method_12_code 3 = .ok (.aload_n 0, 1) := by decide +kernel
theorem d_An_need_4 : decode prog_2_method_12_code 4 = .ok (.getfield 28, 3) := by decide +kernel
theorem d_An_need_7 : decode prog_2_method_12_code 7 = .ok (.invokevirtual 95, 3) := by decide +kernel
theorem d_An_need_10 : decode prog_2_method_12_code 10 = .ok (.if_icmp .ge 29, 3) := by decide +kernel
theorem d_An_need_13 : decode prog_2_method_12_code 13 = .ok (.iload_n 1, 1) := by decide +kernel
theorem d_An_need_14 : decode prog_2_method_12_code 14 = .ok (.aload_n 0, 1) := by decide +kernel
theorem d_An_need_15 : decode prog_2_method_12_code 15 = .ok (.getfield 21, 3) := by decide +kernel
theorem d_An_need_18 : decode prog_2_method_12_code 18 = .ok (.iload_n 2, 1) := by decide +kernel
theorem d_An_need_19 : decode prog_2_method_12_code 19 = .ok (.iaload, 1) := by decide +kernel
theorem d_An_need_20 : decode prog_2_method_12_code 20 = .ok (.iconst (-1), 1) := by decide +kernel
theorem d_An_need_21 : decode prog_2_method_12_code 21 = .ok (.ixor, 1) := by decide +kernel
theorem d_An_need_22 : decode prog_2_method_12_code 22 = .ok (.iand, 1) := by decide +kernel
theorem d_An_need_23 : decode prog_2_method_12_code 23 = .ok (.ifCond .eq 10, 3) := by decide +kernel
theorem d_An_need_26 : decode prog_2_method_12_code 26 = .ok (.aload_n 0, 1) := by decide +kernel
theorem d_An_need_27 : decode prog_2_method_12_code 27 = .ok (.getfield 24, 3) := by decide +kernel
theorem d_An_need_30 : decode prog_2_method_12_code 30 = .ok (.iload_n 2, 1) := by decide +kernel
theorem d_An_need_31 : decode prog_2_method_12_code 31 = .ok (.iconst 1, 1) := by decide +kernel
theorem d_An_need_32 : decode prog_2_method_12_code 32 = .ok (.bastore, 1) := by decide +kernel
theorem d_An_need_33 : decode prog_2_method_12_code 33 = .ok (.iinc 2 1, 3) := by decide +kernel
theorem d_An_need_36 : decode prog_2_method_12_code 36 = .ok (.goto (-34), 3) := by decide +kernel
theorem d_An_need_39 : decode prog_2_method_12_code 39 = .ok (.return_, 1) := by decide +kernel
theorem d_Wk_next_0 : decode prog_12_method_5_code 0 = .ok (.aload_n 0, 1) := by decide +kernel
theorem d_Wk_next_1 : decode prog_12_method_5_code 1 = .ok (.getfield 37, 3) := by decide +kernel
theorem d_Wk_next_4 : decode prog_12_method_5_code 4 = .ok (.iconst 1, 1) := by decide +kernel
theorem d_Wk_next_5 : decode prog_12_method_5_code 5 = .ok (.isub, 1) := by decide +kernel
theorem d_Wk_next_6 : decode prog_12_method_5_code 6 = .ok (.istore_n 1, 1) := by decide +kernel
theorem d_Wk_next_7 : decode prog_12_method_5_code 7 = .ok (.iload_n 1, 1) := by decide +kernel
theorem d_Wk_next_8 : decode prog_12_method_5_code 8 = .ok (.ifCond .lt 46, 3) := by decide +kernel
theorem d_Wk_next_11 : decode prog_12_method_5_code 11 = .ok (.aload_n 0, 1) := by decide +kernel
theorem d_Wk_next_12 : decode prog_12_method_5_code 12 = .ok (.getfield 18, 3) := by decide +kernel
theorem d_Wk_next_15 : decode prog_12_method_5_code 15 = .ok (.iload_n 1, 1) := by decide +kernel
theorem d_Wk_next_16 : decode prog_12_method_5_code 16 = .ok (.iaload, 1) := by decide +kernel
theorem d_Wk_next_17 : decode prog_12_method_5_code 17 = .ok (.iconst 1, 1) := by decide +kernel
theorem d_Wk_next_18 : decode prog_12_method_5_code 18 = .ok (.iadd, 1) := by decide +kernel
theorem d_Wk_next_19 : decode prog_12_method_5_code 19 = .ok (.aload_n 0, 1) := by decide +kernel
theorem d_Wk_next_20 : decode prog_12_method_5_code 20 = .ok (.getfield 15, 3) := by decide +kernel
theorem d_Wk_next_23 : decode prog_12_method_5_code 23 = .ok (.iload_n 1, 1) := by decide +kernel
theorem d_Wk_next_24 : decode prog_12_method_5_code 24 = .ok (.iaload, 1) := by decide +kernel
theorem d_Wk_next_25 : decode prog_12_method_5_code 25 = .ok (.if_icmp .ge 17, 3) := by decide +kernel
theorem d_Wk_next_28 : decode prog_12_method_5_code 28 = .ok (.aload_n 0, 1) := by decide +kernel
theorem d_Wk_next_29 : decode prog_12_method_5_code 29 = .ok (.iload_n 1, 1) := by decide +kernel
theorem d_Wk_next_30 : decode prog_12_method_5_code 30 = .ok (.aload_n 0, 1) := by decide +kernel
theorem d_Wk_next_31 : decode prog_12_method_5_code 31 = .ok (.getfield 18, 3) := by decide +kernel
theorem d_Wk_next_34 : decode prog_12_method_5_code 34 = .ok (.iload_n 1, 1) := by decide +kernel
theorem d_Wk_next_35 : decode prog_12_method_5_code 35 = .ok (.iaload, 1) := by decide +kernel
theorem d_Wk_next_36 : decode prog_12_method_5_code 36 = .ok (.iconst 1, 1) := by decide +kernel
theorem d_Wk_next_37 : decode prog_12_method_5_code 37 = .ok (.iadd, 1) := by decide +kernel
theorem d_Wk_next_38 : decode prog_12_method_5_code 38 = .ok (.invokevirtual 53, 3) := by decide +kernel
theorem d_Wk_next_41 : decode prog_12_method_5_code 41 = .ok (.return_, 1) := by decide +kernel
theorem d_Wk_next_42 : decode prog_12_method_5_code 42 = .ok (.aload_n 0, 1) := by decide +kernel
theorem d_Wk_next_43 : decode prog_12_method_5_code 43 = .ok (.iload_n 1, 1) := by decide +kernel
theorem d_Wk_next_44 : decode prog_12_method_5_code 44 = .ok (.iconst 0, 1) := by decide +kernel
theorem d_Wk_next_45 : decode prog_12_method_5_code 45 = .ok (.invokevirtual 53, 3) := by decide +kernel
theorem d_Wk_next_48 : decode prog_12_method_5_code 48 = .ok (.iinc 1 (-1), 3) := by decide +kernel
theorem d_Wk_next_51 : decode prog_12_method_5_code 51 = .ok (.goto (-44), 3) := by decide +kernel
theorem d_Wk_next_54 : decode prog_12_method_5_code 54 = .ok (.return_, 1) := by decide +kernel
theorem d_An_count_0 : decode prog_2_method_2_code 0 = .ok (.aload_n 0, 1) := by decide +kernel
theorem d_An_count_1 : decode prog_2_method_2_code 1 = .ok (.getfield 41, 3) := by decide +kernel
theorem d_An_count_4 : decode prog_2_method_2_code 4 = .ok (.ireturn, 1) := by decide +kernel
theorem d_C_answer_0 : decode prog_1_method_6_code 0 = .ok (.aload_n 0, 1) := by decide +kernel
theorem d_C_answer_1 : decode prog_1_method_6_code 1 = .ok (.iload_n 1, 1) := by decide +kernel
theorem d_C_answer_2 : decode prog_1_method_6_code 2 = .ok (.invokevirtual 70, 3) := by decide +kernel
theorem d_C_answer_5 : decode prog_1_method_6_code 5 = .ok (.ifCond .eq 25, 3) := by decide +kernel
theorem d_C_answer_8 : decode prog_1_method_6_code 8 = .ok (.aload_n 0, 1) := by decide +kernel
theorem d_C_answer_9 : decode prog_1_method_6_code 9 = .ok (.getfield 42, 3) := by decide +kernel
theorem d_C_answer_12 : decode prog_1_method_6_code 12 = .ok (.iload_n 2, 1) := by decide +kernel
theorem d_C_answer_13 : decode prog_1_method_6_code 13 = .ok (.invokevirtual 74, 3) := by decide +kernel
theorem d_C_answer_16 : decode prog_1_method_6_code 16 = .ok (.ifCond .eq 14, 3) := by decide +kernel
theorem d_C_answer_19 : decode prog_1_method_6_code 19 = .ok (.aload_n 0, 1) := by decide +kernel
theorem d_C_answer_20 : decode prog_1_method_6_code 20 = .ok (.getfield 42, 3) := by decide +kernel
theorem d_C_answer_23 : decode prog_1_method_6_code 23 = .ok (.iload_n 3, 1) := by decide +kernel
theorem d_C_answer_24 : decode prog_1_method_6_code 24 = .ok (.invokevirtual 77, 3) := by decide +kernel
theorem d_C_answer_27 : decode prog_1_method_6_code 27 = .ok (.ifCond .ne 5, 3) := by decide +kernel
theorem d_C_answer_30 : decode prog_1_method_6_code 30 = .ok (.iconst (-1), 1) := by decide +kernel
theorem d_C_answer_31 : decode prog_1_method_6_code 31 = .ok (.ireturn, 1) := by decide +kernel
theorem d_C_answer_32 : decode prog_1_method_6_code 32 = .ok (.aload_n 0, 1) := by decide +kernel
theorem d_C_answer_33 : decode prog_1_method_6_code 33 = .ok (.getfield 58, 3) := by decide +kernel
theorem d_C_answer_36 : decode prog_1_method_6_code 36 = .ok (.iload_n 1, 1) := by decide +kernel
theorem d_C_answer_37 : decode prog_1_method_6_code 37 = .ok (.iload_n 2, 1) := by decide +kernel
theorem d_C_answer_38 : decode prog_1_method_6_code 38 = .ok (.iload_n 3, 1) := by decide +kernel
theorem d_C_answer_39 : decode prog_1_method_6_code 39 = .ok (.invokevirtual 80, 3) := by decide +kernel
theorem d_C_answer_42 : decode prog_1_method_6_code 42 = .ok (.ireturn, 1) := by decide +kernel
theorem d_C_isKept_0 : decode prog_1_method_15_code 0 = .ok (.aload_n 0, 1) := by decide +kernel
theorem d_C_isKept_1 : decode prog_1_method_15_code 1 = .ok (.getfield 54, 3) := by decide +kernel
theorem d_C_isKept_4 : decode prog_1_method_15_code 4 = .ok (.ifCond .eq 22, 3) := by decide +kernel
theorem d_C_isKept_7 : decode prog_1_method_15_code 7 = .ok (.iload_n 1, 1) := by decide +kernel
theorem d_C_isKept_8 : decode prog_1_method_15_code 8 = .ok (.ifCond .lt 18, 3) := by decide +kernel
theorem d_C_isKept_11 : decode prog_1_method_15_code 11 = .ok (.iload_n 1, 1) := by decide +kernel
theorem d_C_isKept_12 : decode prog_1_method_15_code 12 = .ok (.aload_n 0, 1) := by decide +kernel
theorem d_C_isKept_13 : decode prog_1_method_15_code 13 = .ok (.getfield 58, 3) := by decide +kernel
theorem d_C_isKept_16 : decode prog_1_method_15_code 16 = .ok (.invokevirtual 132, 3) := by decide +kernel
theorem d_C_isKept_19 : decode prog_1_method_15_code 19 = .ok (.if_icmp .ge 7, 3) := by decide +kernel
theorem d_C_isKept_22 : decode prog_1_method_15_code 22 = .ok (.iconst 1, 1) := by decide +kernel
theorem d_C_isKept_23 : decode prog_1_method_15_code 23 = .ok (.goto 4, 3) := by decide +kernel
theorem d_C_isKept_26 : decode prog_1_method_15_code 26 = .ok (.iconst 0, 1) := by decide +kernel
theorem d_C_isKept_27 : decode prog_1_method_15_code 27 = .ok (.ireturn, 1) := by decide +kernel
theorem d_An_kept_0 : decode prog_2_method_3_code 0 = .ok (.aload_n 0, 1) := by decide +kernel
theorem d_An_kept_1 : decode prog_2_method_3_code 1 = .ok (.getfield 45, 3) := by decide +kernel
theorem d_An_kept_4 : decode prog_2_method_3_code 4 = .ok (.ireturn, 1) := by decide +kernel
theorem d_Pz_hasThing_0 : decode prog_9_method_9_code 0 = .ok (.iload_n 1, 1) := by decide +kernel
theorem d_Pz_hasThing_1 : decode prog_9_method_9_code 1 = .ok (.ifCond .lt 15, 3) := by decide +kernel
theorem d_Pz_hasThing_4 : decode prog_9_method_9_code 4 = .ok (.iload_n 1, 1) := by decide +kernel
theorem d_Pz_hasThing_5 : decode prog_9_method_9_code 5 = .ok (.aload_n 0, 1) := by decide +kernel
theorem d_Pz_hasThing_6 : decode prog_9_method_9_code 6 = .ok (.getfield 17, 3) := by decide +kernel
theorem d_Pz_hasThing_9 : decode prog_9_method_9_code 9 = .ok (.if_icmp .ge 7, 3) := by decide +kernel
theorem d_Pz_hasThing_12 : decode prog_9_method_9_code 12 = .ok (.iconst 1, 1) := by decide +kernel
theorem d_Pz_hasThing_13 : decode prog_9_method_9_code 13 = .ok (.goto 4, 3) := by decide +kernel
theorem d_Pz_hasThing_16 : decode prog_9_method_9_code 16 = .ok (.iconst 0, 1) := by decide +kernel
theorem d_Pz_hasThing_17 : decode prog_9_method_9_code 17 = .ok (.ireturn, 1) := by decide +kernel
theorem d_Pz_hasKind_0 : decode prog_9_method_10_code 0 = .ok (.iload_n 1, 1) := by decide +kernel
theorem d_Pz_hasKind_1 : decode prog_9_method_10_code 1 = .ok (.ifCond .lt 15, 3) := by decide +kernel
theorem d_Pz_hasKind_4 : decode prog_9_method_10_code 4 = .ok (.iload_n 1, 1) := by decide +kernel
theorem d_Pz_hasKind_5 : decode prog_9_method_10_code 5 = .ok (.aload_n 0, 1) := by decide +kernel
theorem d_Pz_hasKind_6 : decode prog_9_method_10_code 6 = .ok (.getfield 21, 3) := by decide +kernel
theorem d_Pz_hasKind_9 : decode prog_9_method_10_code 9 = .ok (.if_icmp .ge 7, 3) := by decide +kernel
theorem d_Pz_hasKind_12 : decode prog_9_method_10_code 12 = .ok (.iconst 1, 1) := by decide +kernel
theorem d_Pz_hasKind_13 : decode prog_9_method_10_code 13 = .ok (.goto 4, 3) := by decide +kernel
theorem d_Pz_hasKind_16 : decode prog_9_method_10_code 16 = .ok (.iconst 0, 1) := by decide +kernel
theorem d_Pz_hasKind_17 : decode prog_9_method_10_code 17 = .ok (.ireturn, 1) := by decide +kernel
theorem d_An_value_0 : decode prog_2_method_4_code 0 = .ok (.aload_n 0, 1) := by decide +kernel
theorem d_An_value_1 : decode prog_2_method_4_code 1 = .ok (.getfield 28, 3) := by decide +kernel
theorem d_An_value_4 : decode prog_2_method_4_code 4 = .ok (.invokevirtual 48, 3) := by decide +kernel
theorem d_An_value_7 : decode prog_2_method_4_code 7 = .ok (.aload_n 0, 1) := by decide +kernel
theorem d_An_value_8 : decode prog_2_method_4_code 8 = .ok (.getfield 9, 3) := by decide +kernel
theorem d_An_value_11 : decode prog_2_method_4_code 11 = .ok (.iconst 3, 1) := by decide +kernel
theorem d_An_value_12 : decode prog_2_method_4_code 12 = .ok (.iload_n 1, 1) := by decide +kernel
theorem d_An_value_13 : decode prog_2_method_4_code 13 = .ok (.imul, 1) := by decide +kernel
theorem d_An_value_14 : decode prog_2_method_4_code 14 = .ok (.iload_n 3, 1) := by decide +kernel
theorem d_An_value_15 : decode prog_2_method_4_code 15 = .ok (.iadd, 1) := by decide +kernel
theorem d_An_value_16 : decode prog_2_method_4_code 16 = .ok (.iaload, 1) := by decide +kernel
theorem d_An_value_17 : decode prog_2_method_4_code 17 = .ok (.iload_n 2, 1) := by decide +kernel
theorem d_An_value_18 : decode prog_2_method_4_code 18 = .ok (.invokevirtual 54, 3) := by decide +kernel
theorem d_An_value_21 : decode prog_2_method_4_code 21 = .ok (.ireturn, 1) := by decide +kernel
theorem d_C_truth_0 : decode prog_1_method_7_code 0 = .ok (.aload_n 0, 1) := by decide +kernel
theorem d_C_truth_1 : decode prog_1_method_7_code 1 = .ok (.iload_n 1, 1) := by decide +kernel
theorem d_C_truth_2 : decode prog_1_method_7_code 2 = .ok (.invokevirtual 70, 3) := by decide +kernel
theorem d_C_truth_5 : decode prog_1_method_7_code 5 = .ok (.ifCond .eq 14, 3) := by decide +kernel
theorem d_C_truth_8 : decode prog_1_method_7_code 8 = .ok (.aload_n 0, 1) := by decide +kernel
theorem d_C_truth_9 : decode prog_1_method_7_code 9 = .ok (.getfield 42, 3) := by decide +kernel
theorem d_C_truth_12 : decode prog_1_method_7_code 12 = .ok (.iload_n 2, 1) := by decide +kernel
theorem d_C_truth_13 : decode prog_1_method_7_code 13 = .ok (.invokevirtual 84, 3) := by decide +kernel
theorem d_C_truth_16 : decode prog_1_method_7_code 16 = .ok (.ifCond .ne 5, 3) := by decide +kernel
theorem d_C_truth_19 : decode prog_1_method_7_code 19 = .ok (.iconst (-1), 1) := by decide +kernel
theorem d_C_truth_20 : decode prog_1_method_7_code 20 = .ok (.ireturn, 1) := by decide +kernel
theorem d_C_truth_21 : decode prog_1_method_7_code 21 = .ok (.aload_n 0, 1) := by decide +kernel
theorem d_C_truth_22 : decode prog_1_method_7_code 22 = .ok (.getfield 58, 3) := by decide +kernel
theorem d_C_truth_25 : decode prog_1_method_7_code 25 = .ok (.iload_n 1, 1) := by decide +kernel
theorem d_C_truth_26 : decode prog_1_method_7_code 26 = .ok (.iload_n 2, 1) := by decide +kernel
theorem d_C_truth_27 : decode prog_1_method_7_code 27 = .ok (.invokevirtual 87, 3) := by decide +kernel
theorem d_C_truth_30 : decode prog_1_method_7_code 30 = .ok (.ifCond .eq 7, 3) := by decide +kernel
theorem d_C_truth_33 : decode prog_1_method_7_code 33 = .ok (.iconst 1, 1) := by decide +kernel
theorem d_C_truth_34 : decode prog_1_method_7_code 34 = .ok (.goto 4, 3) := by decide +kernel
theorem d_C_truth_37 : decode prog_1_method_7_code 37 = .ok (.iconst 0, 1) := by decide +kernel
theorem d_C_truth_38 : decode prog_1_method_7_code 38 = .ok (.ireturn, 1) := by decide +kernel
theorem d_Pz_hasPerson_0 : decode prog_9_method_12_code 0 = .ok (.iload_n 1, 1) := by decide +kernel
theorem d_Pz_hasPerson_1 : decode prog_9_method_12_code 1 = .ok (.ifCond .lt 15, 3) := by decide +kernel
theorem d_Pz_hasPerson_4 : decode prog_9_method_12_code 4 = .ok (.iload_n 1, 1) := by decide +kernel
theorem d_Pz_hasPerson_5 : decode prog_9_method_12_code 5 = .ok (.aload_n 0, 1) := by decide +kernel
theorem d_Pz_hasPerson_6 : decode prog_9_method_12_code 6 = .ok (.getfield 24, 3) := by decide +kernel
theorem d_Pz_hasPerson_9 : decode prog_9_method_12_code 9 = .ok (.if_icmp .ge 7, 3) := by decide +kernel
theorem d_Pz_hasPerson_12 : decode prog_9_method_12_code 12 = .ok (.iconst 1, 1) := by decide +kernel
theorem d_Pz_hasPerson_13 : decode prog_9_method_12_code 13 = .ok (.goto 4, 3) := by decide +kernel
theorem d_Pz_hasPerson_16 : decode prog_9_method_12_code 16 = .ok (.iconst 0, 1) := by decide +kernel
theorem d_Pz_hasPerson_17 : decode prog_9_method_12_code 17 = .ok (.ireturn, 1) := by decide +kernel
theorem d_An_isTruthful_0 : decode prog_2_method_5_code 0 = .ok (.getstatic 60, 3) := by decide +kernel
theorem d_An_isTruthful_3 : decode prog_2_method_5_code 3 = .ok (.iload_n 2, 1) := by decide +kernel
theorem d_An_isTruthful_4 : decode prog_2_method_5_code 4 = .ok (.iaload, 1) := by decide +kernel
theorem d_An_isTruthful_5 : decode prog_2_method_5_code 5 = .ok (.aload_n 0, 1) := by decide +kernel
theorem d_An_isTruthful_6 : decode prog_2_method_5_code 6 = .ok (.getfield 15, 3) := by decide +kernel
theorem d_An_isTruthful_9 : decode prog_2_method_5_code 9 = .ok (.iload_n 1, 1) := by decide +kernel
theorem d_An_isTruthful_10 : decode prog_2_method_5_code 10 = .ok (.iaload, 1) := by decide +kernel
theorem d_An_isTruthful_11 : decode prog_2_method_5_code 11 = .ok (.ishr, 1) := by decide +kernel
theorem d_An_isTruthful_12 : decode prog_2_method_5_code 12 = .ok (.iconst 1, 1) := by decide +kernel
theorem d_An_isTruthful_13 : decode prog_2_method_5_code 13 = .ok (.iand, 1) := by decide +kernel
theorem d_An_isTruthful_14 : decode prog_2_method_5_code 14 = .ok (.ifCond .eq 7, 3) := by decide +kernel
theorem d_An_isTruthful_17 : decode prog_2_method_5_code 17 = .ok (.iconst 1, 1) := by decide +kernel
theorem d_An_isTruthful_18 : decode prog_2_method_5_code 18 = .ok (.goto 4, 3) := by decide +kernel
theorem d_An_isTruthful_21 : decode prog_2_method_5_code 21 = .ok (.iconst 0, 1) := by decide +kernel
theorem d_An_isTruthful_22 : decode prog_2_method_5_code 22 = .ok (.ireturn, 1) := by decide +kernel
theorem d_C_often_0 : decode prog_1_method_8_code 0 = .ok (.aload_n 0, 1) := by decide +kernel
theorem d_C_often_1 : decode prog_1_method_8_code 1 = .ok (.getfield 42, 3) := by decide +kernel
theorem d_C_often_4 : decode prog_1_method_8_code 4 = .ok (.iload_n 1, 1) := by decide +kernel
theorem d_C_often_5 : decode prog_1_method_8_code 5 = .ok (.invokevirtual 74, 3) := by decide +kernel
theorem d_C_often_8 : decode prog_1_method_8_code 8 = .ok (.ifCond .eq 25, 3) := by decide +kernel
theorem d_C_often_11 : decode prog_1_method_8_code 11 = .ok (.aload_n 0, 1) := by decide +kernel
theorem d_C_often_12 : decode prog_1_method_8_code 12 = .ok (.getfield 42, 3) := by decide +kernel
theorem d_C_often_15 : decode prog_1_method_8_code 15 = .ok (.iload_n 2, 1) := by decide +kernel
theorem d_C_often_16 : decode prog_1_method_8_code 16 = .ok (.invokevirtual 77, 3) := by decide +kernel
theorem d_C_often_19 : decode prog_1_method_8_code 19 = .ok (.ifCond .eq 14, 3) := by decide +kernel
theorem d_C_often_22 : decode prog_1_method_8_code 22 = .ok (.aload_n 0, 1) := by decide +kernel
theorem d_C_often_23 : decode prog_1_method_8_code 23 = .ok (.getfield 42, 3) := by decide +kernel
theorem d_C_often_26 : decode prog_1_method_8_code 26 = .ok (.iload_n 3, 1) := by decide +kernel
theorem d_C_often_27 : decode prog_1_method_8_code 27 = .ok (.invokevirtual 91, 3) := by decide +kernel
theorem d_C_often_30 : decode prog_1_method_8_code 30 = .ok (.ifCond .ne 5, 3) := by decide +kernel
theorem d_C_often_33 : decode prog_1_method_8_code 33 = .ok (.iconst (-1), 1) := by decide +kernel
theorem d_C_often_34 : decode prog_1_method_8_code 34 = .ok (.ireturn, 1) := by decide +kernel
theorem d_C_often_35 : decode prog_1_method_8_code 35 = .ok (.aload_n 0, 1) := by decide +kernel
theorem d_C_often_36 : decode prog_1_method_8_code 36 = .ok (.getfield 58, 3) := by decide +kernel
theorem d_C_often_39 : decode prog_1_method_8_code 39 = .ok (.invokevirtual 62, 3) := by decide +kernel
theorem d_C_often_42 : decode prog_1_method_8_code 42 = .ok (.aload_n 0, 1) := by decide +kernel
theorem d_C_often_43 : decode prog_1_method_8_code 43 = .ok (.getfield 58, 3) := by decide +kernel
theorem d_C_often_46 : decode prog_1_method_8_code 46 = .ok (.iload_n 1, 1) := by decide +kernel
theorem d_C_often_47 : decode prog_1_method_8_code 47 = .ok (.iload_n 2, 1) := by decide +kernel
theorem d_C_often_48 : decode prog_1_method_8_code 48 = .ok (.iload_n 3, 1) := by decide +kernel
theorem d_C_often_49 : decode prog_1_method_8_code 49 = .ok (.invokevirtual 94, 3) := by decide +kernel
theorem d_C_often_52 : decode prog_1_method_8_code 52 = .ok (.ireturn, 1) := by decide +kernel
theorem d_Pz_hasValue_0 : decode prog_9_method_11_code 0 = .ok (.iload_n 1, 1) := by decide +kernel
theorem d_Pz_hasValue_1 : decode prog_9_method_11_code 1 = .ok (.ifCond .lt 15, 3) := by decide +kernel
theorem d_Pz_hasValue_4 : decode prog_9_method_11_code 4 = .ok (.iload_n 1, 1) := by decide +kernel
theorem d_Pz_hasValue_5 : decode prog_9_method_11_code 5 = .ok (.aload_n 0, 1) := by decide +kernel
theorem d_Pz_hasValue_6 : decode prog_9_method_11_code 6 = .ok (.getfield 17, 3) := by decide +kernel
theorem d_Pz_hasValue_9 : decode prog_9_method_11_code 9 = .ok (.if_icmp .ge 7, 3) := by decide +kernel
theorem d_Pz_hasValue_12 : decode prog_9_method_11_code 12 = .ok (.iconst 1, 1) := by decide +kernel
theorem d_Pz_hasValue_13 : decode prog_9_method_11_code 13 = .ok (.goto 4, 3) := by decide +kernel
theorem d_Pz_hasValue_16 : decode prog_9_method_11_code 16 = .ok (.iconst 0, 1) := by decide +kernel
theorem d_Pz_hasValue_17 : decode prog_9_method_11_code 17 = .ok (.ireturn, 1) := by decide +kernel
theorem d_An_countWith_0 : decode prog_2_method_6_code 0 = .ok (.iconst 0, 1) := by decide +kernel
theorem d_An_countWith_1 : decode prog_2_method_6_code 1 = .ok (.istore 4, 2) := by decide +kernel
theorem d_An_countWith_3 : decode prog_2_method_6_code 3 = .ok (.iconst 0, 1) := by decide +kernel
theorem d_An_countWith_4 : decode prog_2_method_6_code 4 = .ok (.istore 5, 2) := by decide +kernel
theorem d_An_countWith_6 : decode prog_2_method_6_code 6 = .ok (.iload 5, 2) := by decide +kernel
theorem d_An_countWith_8 : decode prog_2_method_6_code 8 = .ok (.aload_n 0, 1) := by decide +kernel
theorem d_An_countWith_9 : decode prog_2_method_6_code 9 = .ok (.getfield 28, 3) := by decide +kernel
theorem d_An_countWith_12 : decode prog_2_method_6_code 12 = .ok (.invokevirtual 48, 3) := by decide +kernel
theorem d_An_countWith_15 : decode prog_2_method_6_code 15 = .ok (.invokevirtual 63, 3) := by decide +kernel
theorem d_An_countWith_18 : decode prog_2_method_6_code 18 = .ok (.if_icmp .ge 43, 3) := by decide +kernel
theorem d_An_countWith_21 : decode prog_2_method_6_code 21 = .ok (.aload_n 0, 1) := by decide +kernel
theorem d_An_countWith_22 : decode prog_2_method_6_code 22 = .ok (.getfield 28, 3) := by decide +kernel
theorem d_An_countWith_25 : decode prog_2_method_6_code 25 = .ok (.invokevirtual 48, 3) := by decide +kernel
theorem d_An_countWith_28 : decode prog_2_method_6_code 28 = .ok (.iload 5, 2) := by decide +kernel
theorem d_An_countWith_30 : decode prog_2_method_6_code 30 = .ok (.iload_n 1, 1) := by decide +kernel
theorem d_An_countWith_31 : decode prog_2_method_6_code 31 = .ok (.invokevirtual 54, 3) := by decide +kernel
theorem d_An_countWith_34 : decode prog_2_method_6_code 34 = .ok (.iload_n 3, 1) := by decide +kernel
theorem d_An_countWith_35 : decode prog_2_method_6_code 35 = .ok (.if_icmp .ne 20, 3) := by decide +kernel
theorem d_An_countWith_38 : decode prog_2_method_6_code 38 = .ok (.iload 4, 2) := by decide +kernel
theorem d_An_countWith_40 : decode prog_2_method_6_code 40 = .ok (.aload_n 0, 1) := by decide +kernel
theorem d_An_countWith_41 : decode prog_2_method_6_code 41 = .ok (.getfield 18, 3) := by decide +kernel
theorem d_An_countWith_44 : decode prog_2_method_6_code 44 = .ok (.bipush 24, 2) := by decide +kernel
theorem d_An_countWith_46 : decode prog_2_method_6_code 46 = .ok (.iload_n 2, 1) := by decide +kernel
theorem d_An_countWith_47 : decode prog_2_method_6_code 47 = .ok (.imul, 1) := by decide +kernel
theorem d_An_countWith_48 : decode prog_2_method_6_code 48 = .ok (.iload 5, 2) := by decide +kernel
theorem d_An_countWith_50 : decode prog_2_method_6_code 50 = .ok (.iadd, 1) := by decide +kernel
theorem d_An_countWith_51 : decode prog_2_method_6_code 51 = .ok (.iaload, 1) := by decide +kernel
theorem d_An_countWith_52 : decode prog_2_method_6_code 52 = .ok (.iadd, 1) := by decide +kernel
theorem d_An_countWith_53 : decode prog_2_method_6_code 53 = .ok (.istore 4, 2) := by decide +kernel
theorem d_An_countWith_55 : decode prog_2_method_6_code 55 = .ok (.iinc 5 1, 3) := by decide +kernel
theorem d_An_countWith_58 : decode prog_2_method_6_code 58 = .ok (.goto (-52), 3) := by decide +kernel
theorem d_An_countWith_61 : decode prog_2_method_6_code 61 = .ok (.iload 4, 2) := by decide +kernel
theorem d_An_countWith_63 : decode prog_2_method_6_code 63 = .ok (.ireturn, 1) := by decide +kernel
theorem d_C_spare_0 : decode prog_1_method_9_code 0 = .ok (.aload_n 0, 1) := by decide +kernel
theorem d_C_spare_1 : decode prog_1_method_9_code 1 = .ok (.getfield 42, 3) := by decide +kernel
theorem d_C_spare_4 : decode prog_1_method_9_code 4 = .ok (.iload_n 1, 1) := by decide +kernel
theorem d_C_spare_5 : decode prog_1_method_9_code 5 = .ok (.invokevirtual 97, 3) := by decide +kernel
theorem d_C_spare_8 : decode prog_1_method_9_code 8 = .ok (.ifCond .ne 5, 3) := by decide +kernel
theorem d_C_spare_11 : decode prog_1_method_9_code 11 = .ok (.iconst 0, 1) := by decide +kernel
theorem d_C_spare_12 : decode prog_1_method_9_code 12 = .ok (.ireturn, 1) := by decide +kernel
theorem d_C_spare_13 : decode prog_1_method_9_code 13 = .ok (.aload_n 0, 1) := by decide +kernel
theorem d_C_spare_14 : decode prog_1_method_9_code 14 = .ok (.getfield 58, 3) := by decide +kernel
theorem d_C_spare_17 : decode prog_1_method_9_code 17 = .ok (.invokevirtual 62, 3) := by decide +kernel
theorem d_C_spare_20 : decode prog_1_method_9_code 20 = .ok (.aload_n 0, 1) := by decide +kernel
theorem d_C_spare_21 : decode prog_1_method_9_code 21 = .ok (.getfield 58, 3) := by decide +kernel
theorem d_C_spare_24 : decode prog_1_method_9_code 24 = .ok (.iload_n 1, 1) := by decide +kernel
theorem d_C_spare_25 : decode prog_1_method_9_code 25 = .ok (.invokevirtual 100, 3) := by decide +kernel
theorem d_C_spare_28 : decode prog_1_method_9_code 28 = .ok (.ifCond .ne 7, 3) := by decide +kernel
theorem d_C_spare_31 : decode prog_1_method_9_code 31 = .ok (.iconst 1, 1) := by decide +kernel
theorem d_C_spare_32 : decode prog_1_method_9_code 32 = .ok (.goto 4, 3) := by decide +kernel
theorem d_C_spare_35 : decode prog_1_method_9_code 35 = .ok (.iconst 0, 1) := by decide +kernel
theorem d_C_spare_36 : decode prog_1_method_9_code 36 = .ok (.ireturn, 1) := by decide +kernel
theorem d_Pz_hasClue_0 : decode prog_9_method_13_code 0 = .ok (.iload_n 1, 1) := by decide +kernel
theorem d_Pz_hasClue_1 : decode prog_9_method_13_code 1 = .ok (.ifCond .lt 15, 3) := by decide +kernel
theorem d_Pz_hasClue_4 : decode prog_9_method_13_code 4 = .ok (.iload_n 1, 1) := by decide +kernel
theorem d_Pz_hasClue_5 : decode prog_9_method_13_code 5 = .ok (.aload_n 0, 1) := by decide +kernel
theorem d_Pz_hasClue_6 : decode prog_9_method_13_code 6 = .ok (.getfield 36, 3) := by decide +kernel
theorem d_Pz_hasClue_9 : decode prog_9_method_13_code 9 = .ok (.if_icmp .ge 7, 3) := by decide +kernel
theorem d_Pz_hasClue_12 : decode prog_9_method_13_code 12 = .ok (.iconst 1, 1) := by decide +kernel
theorem d_Pz_hasClue_13 : decode prog_9_method_13_code 13 = .ok (.goto 4, 3) := by decide +kernel
theorem d_Pz_hasClue_16 : decode prog_9_method_13_code 16 = .ok (.iconst 0, 1) := by decide +kernel
theorem d_Pz_hasClue_17 : decode prog_9_method_13_code 17 = .ok (.ireturn, 1) := by decide +kernel
theorem d_An_isNeeded_0 : decode prog_2_method_7_code 0 = .ok (.aload_n 0, 1) := by decide +kernel
theorem d_An_isNeeded_1 : decode prog_2_method_7_code 1 = .ok (.getfield 24, 3) := by decide +kernel
theorem d_An_isNeeded_4 : decode prog_2_method_7_code 4 = .ok (.iload_n 1, 1) := by decide +kernel
theorem d_An_isNeeded_5 : decode prog_2_method_7_code 5 = .ok (.baload, 1) := by decide +kernel
theorem d_An_isNeeded_6 : decode prog_2_method_7_code 6 = .ok (.ireturn, 1) := by decide +kernel
theorem d_C_cross_0 : decode prog_1_method_10_code 0 = .ok (.aload_n 0, 1) := by decide +kernel
theorem d_C_cross_1 : decode prog_1_method_10_code 1 = .ok (.getfield 103, 3) := by decide +kernel
theorem d_C_cross_4 : decode prog_1_method_10_code 4 = .ok (.invokevirtual 107, 3) := by decide +kernel
theorem d_C_cross_7 : decode prog_1_method_10_code 7 = .ok (.aload_n 0, 1) := by decide +kernel
theorem d_C_cross_8 : decode prog_1_method_10_code 8 = .ok (.getfield 103, 3) := by decide +kernel
theorem d_C_cross_11 : decode prog_1_method_10_code 11 = .ok (.invokevirtual 112, 3) := by decide +kernel
theorem d_C_cross_14 : decode prog_1_method_10_code 14 = .ok (.ireturn, 1) := by decide +kernel
theorem d_Cr_finish_0 : decode prog_4_method_7_code 0 = .ok (.aload_n 0, 1) := by decide +kernel
theorem d_Cr_finish_1 : decode prog_4_method_7_code 1 = .ok (.getfield 66, 3) := by decide +kernel
theorem d_Cr_finish_4 : decode prog_4_method_7_code 4 = .ok (.ifCond .eq 4, 3) := by decide +kernel
theorem d_Cr_finish_7 : decode prog_4_method_7_code 7 = .ok (.return_, 1) := by decide +kernel
theorem d_Cr_finish_8 : decode prog_4_method_7_code 8 = .ok (.aload_n 0, 1) := by decide +kernel
theorem d_Cr_finish_9 : decode prog_4_method_7_code 9 = .ok (.iconst 1, 1) := by decide +kernel
theorem d_Cr_finish_10 : decode prog_4_method_7_code 10 = .ok (.putfield 66, 3) := by decide +kernel
theorem d_Cr_finish_13 : decode prog_4_method_7_code 13 = .ok (.iconst 1, 1) := by decide +kernel
theorem d_Cr_finish_14 : decode prog_4_method_7_code 14 = .ok (.istore_n 1, 1) := by decide +kernel
theorem d_Cr_finish_15 : decode prog_4_method_7_code 15 = .ok (.iconst 0, 1) := by decide +kernel
theorem d_Cr_finish_16 : decode prog_4_method_7_code 16 = .ok (.istore_n 2, 1) := by decide +kernel
theorem d_Cr_finish_17 : decode prog_4_method_7_code 17 = .ok (.iload_n 2, 1) := by decide +kernel
theorem d_Cr_finish_18 : decode prog_4_method_7_code 18 = .ok (.bipush 54, 2) := by decide +kernel
theorem d_Cr_finish_20 : decode prog_4_method_7_code 20 = .ok (.if_icmp .ge 18, 3) := by decide +kernel
theorem d_Cr_finish_23 : decode prog_4_method_7_code 23 = .ok (.iload_n 1, 1) := by decide +kernel
theorem d_Cr_finish_24 : decode prog_4_method_7_code 24 = .ok (.ifCond .eq 14, 3) := by decide +kernel
theorem d_Cr_finish_27 : decode prog_4_method_7_code 27 = .ok (.aload_n 0, 1) := by decide +kernel
theorem d_Cr_finish_28 : decode prog_4_method_7_code 28 = .ok (.invokevirtual 70, 3) := by decide +kernel
theorem d_Cr_finish_31 : decode prog_4_method_7_code 31 = .ok (.istore_n 1, 1) := by decide +kernel
theorem d_Cr_finish_32 : decode prog_4_method_7_code 32 = .ok (.iinc 2 1, 3) := by decide +kernel
theorem d_Cr_finish_35 : decode prog_4_method_7_code 35 = .ok (.goto (-18), 3) := by decide +kernel
theorem d_Cr_finish_38 : decode prog_4_method_7_code 38 = .ok (.return_, 1) := by decide +kernel
theorem d_Cr_takeStep_0 : decode prog_4_method_8_code 0 = .ok (.aload_n 0, 1) := by decide +kernel
theorem d_Cr_takeStep_1 : decode prog_4_method_8_code 1 = .ok (.getfield 33, 3) := by decide +kernel
theorem d_Cr_takeStep_4 : decode prog_4_method_8_code 4 = .ok (.aload_n 0, 1) := by decide +kernel
theorem d_Cr_takeStep_5 : decode prog_4_method_8_code 5 = .ok (.getfield 9, 3) := by decide +kernel
theorem d_Cr_takeStep_8 : decode prog_4_method_8_code 8 = .ok (.invokevirtual 74, 3) := by decide +kernel
theorem d_Cr_takeStep_11 : decode prog_4_method_8_code 11 = .ok (.istore_n 1, 1) := by decide +kernel
theorem d_Cr_takeStep_12 : decode prog_4_method_8_code 12 = .ok (.iconst 0, 1) := by decide +kernel
theorem d_Cr_takeStep_13 : decode prog_4_method_8_code 13 = .ok (.istore_n 2, 1) := by decide +kernel
theorem d_Cr_takeStep_14 : decode prog_4_method_8_code 14 = .ok (.iload_n 2, 1) := by decide +kernel
theorem d_Cr_takeStep_15 : decode prog_4_method_8_code 15 = .ok (.aload_n 0, 1) := by decide +kernel
theorem d_Cr_takeStep_16 : decode prog_4_method_8_code 16 = .ok (.getfield 24, 3) := by decide +kernel
theorem d_Cr_takeStep_19 : decode prog_4_method_8_code 19 = .ok (.invokevirtual 78, 3) := by decide +kernel
theorem d_Cr_takeStep_22 : decode prog_4_method_8_code 22 = .ok (.if_icmp .ge 39, 3) := by decide +kernel
theorem d_Cr_takeStep_25 : decode prog_4_method_8_code 25 = .ok (.aload_n 0, 1) := by decide +kernel
theorem d_Cr_takeStep_26 : decode prog_4_method_8_code 26 = .ok (.aload_n 0, 1) := by decide +kernel
theorem d_Cr_takeStep_27 : decode prog_4_method_8_code 27 = .ok (.getfield 24, 3) := by decide +kernel
theorem d_Cr_takeStep_30 : decode prog_4_method_8_code 30 = .ok (.iload_n 2, 1) := by decide +kernel
theorem d_Cr_takeStep_31 : decode prog_4_method_8_code 31 = .ok (.invokevirtual 81, 3) := by decide +kernel
theorem d_Cr_takeStep_34 : decode prog_4_method_8_code 34 = .ok (.iload_n 1, 1) := by decide +kernel
theorem d_Cr_takeStep_35 : decode prog_4_method_8_code 35 = .ok (.invokevirtual 85, 3) := by decide +kernel
theorem d_Cr_takeStep_38 : decode prog_4_method_8_code 38 = .ok (.aload_n 0, 1) := by decide +kernel
theorem d_Cr_takeStep_39 : decode prog_4_method_8_code 39 = .ok (.invokevirtual 89, 3) := by decide +kernel
theorem d_Cr_takeStep_42 : decode prog_4_method_8_code 42 = .ok (.istore_n 3, 1) := by decide +kernel
theorem d_Cr_takeStep_43 : decode prog_4_method_8_code 43 = .ok (.iload_n 3, 1) := by decide +kernel
theorem d_Cr_takeStep_44 : decode prog_4_method_8_code 44 = .ok (.ifCond .le 11, 3) := by decide +kernel
theorem d_Cr_takeStep_47 : decode prog_4_method_8_code 47 = .ok (.aload_n 0, 1) := by decide +kernel
theorem d_Cr_takeStep_48 : decode prog_4_method_8_code 48 = .ok (.iload_n 2, 1) := by decide +kernel
theorem d_Cr_takeStep_49 : decode prog_4_method_8_code 49 = .ok (.iload_n 3, 1) := by decide +kernel
theorem d_Cr_takeStep_50 : decode prog_4_method_8_code 50 = .ok (.invokevirtual 92, 3) := by decide +kernel
theorem d_Cr_takeStep_53 : decode prog_4_method_8_code 53 = .ok (.iconst 1, 1) := by decide +kernel
theorem d_Cr_takeStep_54 : decode prog_4_method_8_code 54 = .ok (.ireturn, 1) := by decide +kernel
theorem d_Cr_takeStep_55 : decode prog_4_method_8_code 55 = .ok (.iinc 2 1, 3) := by decide +kernel
theorem d_Cr_takeStep_58 : decode prog_4_method_8_code 58 = .ok (.goto (-44), 3) := by decide +kernel
theorem d_Cr_takeStep_61 : decode prog_4_method_8_code 61 = .ok (.iconst 0, 1) := by decide +kernel
theorem d_Cr_takeStep_62 : decode prog_4_method_8_code 62 = .ok (.ireturn, 1) := by decide +kernel
theorem d_Cr_look_0 : decode prog_4_method_9_code 0 = .ok (.aload_n 0, 1) := by decide +kernel
theorem d_Cr_look_1 : decode prog_4_method_9_code 1 = .ok (.getfield 15, 3) := by decide +kernel
theorem d_Cr_look_4 : decode prog_4_method_9_code 4 = .ok (.iconst 0, 1) := by decide +kernel
theorem d_Cr_look_5 : decode prog_4_method_9_code 5 = .ok (.invokestatic 96, 3) := by decide +kernel
theorem d_Cr_look_8 : decode prog_4_method_9_code 8 = .ok (.aload_n 0, 1) := by decide +kernel
theorem d_Cr_look_9 : decode prog_4_method_9_code 9 = .ok (.invokevirtual 102, 3) := by decide +kernel
theorem d_Cr_look_12 : decode prog_4_method_9_code 12 = .ok (.istore_n 3, 1) := by decide +kernel
theorem d_Cr_look_13 : decode prog_4_method_9_code 13 = .ok (.iconst 0, 1) := by decide +kernel
theorem d_Cr_look_14 : decode prog_4_method_9_code 14 = .ok (.istore 4, 2) := by decide +kernel
theorem d_Cr_look_16 : decode prog_4_method_9_code 16 = .ok (.aload_n 0, 1) := by decide +kernel
theorem d_Cr_look_17 : decode prog_4_method_9_code 17 = .ok (.getfield 33, 3) := by decide +kernel
theorem d_Cr_look_20 : decode prog_4_method_9_code 20 = .ok (.invokevirtual 105, 3) := by decide +kernel
theorem d_Cr_look_23 : decode prog_4_method_9_code 23 = .ok (.iconst 0, 1) := by decide +kernel
theorem d_Cr_look_24 : decode prog_4_method_9_code 24 = .ok (.istore 5, 2) := by decide +kernel
theorem d_Cr_look_26 : decode prog_4_method_9_code 26 = .ok (.iload 5, 2) := by decide +kernel
theorem d_Cr_look_28 : decode prog_4_method_9_code 28 = .ok (.iload_n 2, 1) := by decide +kernel
theorem d_Cr_look_29 : decode prog_4_method_9_code 29 = .ok (.if_icmp .ge 49, 3) := by decide +kernel
theorem d_Cr_look_32 : decode prog_4_method_9_code 32 = .ok (.aload_n 1, 1) := by decide +kernel
theorem d_Cr_look_33 : decode prog_4_method_9_code 33 = .ok (.aload_n 0, 1) := by decide +kernel
theorem d_Cr_look_34 : decode prog_4_method_9_code 34 = .ok (.getfield 33, 3) := by decide +kernel
theorem d_Cr_look_37 : decode prog_4_method_9_code 37 = .ok (.invokevirtual 108, 3) := by decide +kernel
theorem d_Cr_look_40 : decode prog_4_method_9_code 40 = .ok (.invokeinterface 112 2, 5) := by decide +kernel
theorem d_Cr_look_45 : decode prog_4_method_9_code 45 = .ok (.iload_n 3, 1) := by decide +kernel
theorem d_Cr_look_46 : decode prog_4_method_9_code 46 = .ok (.iand, 1) := by decide +kernel
theorem d_Cr_look_47 : decode prog_4_method_9_code 47 = .ok (.istore 6, 2) := by decide +kernel
theorem d_Cr_look_49 : decode prog_4_method_9_code 49 = .ok (.iload 6, 2) := by decide +kernel
theorem d_Cr_look_51 : decode prog_4_method_9_code 51 = .ok (.ifCond .eq 14, 3) := by decide +kernel
theorem d_Cr_look_54 : decode prog_4_method_9_code 54 = .ok (.iload 4, 2) := by decide +kernel
theorem d_Cr_look_56 : decode prog_4_method_9_code 56 = .ok (.iload 6, 2) := by decide +kernel
theorem d_Cr_look_58 : decode prog_4_method_9_code 58 = .ok (.ior, 1) := by decide +kernel
theorem d_Cr_look_59 : decode prog_4_method_9_code 59 = .ok (.istore 4, 2) := by decide +kernel
theorem d_Cr_look_61 : decode prog_4_method_9_code 61 = .ok (.aload_n 0, 1) := by decide +kernel
theorem d_Cr_look_62 : decode prog_4_method_9_code 62 = .ok (.invokevirtual 117, 3) := by decide +kernel
theorem d_Cr_look_65 : decode prog_4_method_9_code 65 = .ok (.aload_n 0, 1) := by decide +kernel
theorem d_Cr_look_66 : decode prog_4_method_9_code 66 = .ok (.getfield 33, 3) := by decide +kernel
theorem d_Cr_look_69 : decode prog_4_method_9_code 69 = .ok (.invokevirtual 120, 3) := by decide +kernel
theorem d_Cr_look_72 : decode prog_4_method_9_code 72 = .ok (.iinc 5 1, 3) := by decide +kernel
theorem d_Cr_look_75 : decode prog_4_method_9_code 75 = .ok (.goto (-49), 3) := by decide +kernel
theorem d_Cr_look_78 : decode prog_4_method_9_code 78 = .ok (.aload_n 0, 1) := by decide +kernel
theorem d_Cr_look_79 : decode prog_4_method_9_code 79 = .ok (.aload_n 0, 1) := by decide +kernel
theorem d_Cr_look_80 : decode prog_4_method_9_code 80 = .ok (.iload 4, 2) := by decide +kernel
theorem d_Cr_look_82 : decode prog_4_method_9_code 82 = .ok (.invokevirtual 55, 3) := by decide +kernel
theorem d_Cr_look_85 : decode prog_4_method_9_code 85 = .ok (.putfield 123, 3) := by decide +kernel
theorem d_Cr_look_88 : decode prog_4_method_9_code 88 = .ok (.return_, 1) := by decide +kernel
theorem d_Cr_openParties_0 : decode prog_4_method_11_code 0 = .ok (.aload_n 0, 1) := by decide +kernel
theorem d_Cr_openParties_1 : decode prog_4_method_11_code 1 = .ok (.getfield 24, 3) := by decide +kernel
theorem d_Cr_openParties_4 : decode prog_4_method_11_code 4 = .ok (.invokevirtual 52, 3) := by decide +kernel
theorem d_Cr_openParties_7 : decode prog_4_method_11_code 7 = .ok (.istore_n 1, 1) := by decide +kernel
theorem d_Cr_openParties_8 : decode prog_4_method_11_code 8 = .ok (.iconst 0, 1) := by decide +kernel
theorem d_Cr_openParties_9 : decode prog_4_method_11_code 9 = .ok (.istore_n 2, 1) := by decide +kernel
theorem d_Cr_openParties_10 : decode prog_4_method_11_code 10 = .ok (.iload_n 2, 1) := by decide +kernel
theorem d_Cr_openParties_11 : decode prog_4_method_11_code 11 = .ok (.aload_n 0, 1) := by decide +kernel
theorem d_Cr_openParties_12 : decode prog_4_method_11_code 12 = .ok (.getfield 24, 3) := by decide +kernel
theorem d_Cr_openParties_15 : decode prog_4_method_11_code 15 = .ok (.invokevirtual 132, 3) := by decide +kernel
theorem d_Cr_openParties_18 : decode prog_4_method_11_code 18 = .ok (.if_icmp .ge 59, 3) := by decide +kernel
theorem d_Cr_openParties_21 : decode prog_4_method_11_code 21 = .ok (.aload_n 0, 1) := by decide +kernel
theorem d_Cr_openParties_22 : decode prog_4_method_11_code 22 = .ok (.iload_n 2, 1) := by decide +kernel
theorem d_Cr_openParties_23 : decode prog_4_method_11_code 23 = .ok (.invokevirtual 135, 3) := by decide +kernel
theorem d_Cr_openParties_26 : decode prog_4_method_11_code 26 = .ok (.istore_n 3, 1) := by decide +kernel
theorem d_Cr_openParties_27 : decode prog_4_method_11_code 27 = .ok (.iload_n 3, 1) := by decide +kernel
theorem d_Cr_openParties_28 : decode prog_4_method_11_code 28 = .ok (.iconst 1, 1) := by decide +kernel
theorem d_Cr_openParties_29 : decode prog_4_method_11_code 29 = .ok (.iand, 1) := by decide +kernel
theorem d_Cr_openParties_30 : decode prog_4_method_11_code 30 = .ok (.ifCond .eq 13, 3) := by decide +kernel
theorem d_Cr_openParties_33 : decode prog_4_method_11_code 33 = .ok (.getstatic 138, 3) := by decide +kernel
theorem d_Cr_openParties_36 : decode prog_4_method_11_code 36 = .ok (.iload_n 2, 1) := by decide +kernel
theorem d_Cr_openParties_37 : decode prog_4_method_11_code 37 = .ok (.iaload, 1) := by decide +kernel
theorem d_Cr_openParties_38 : decode prog_4_method_11_code 38 = .ok (.iconst (-1), 1) := by decide +kernel
theorem d_Cr_openParties_39 : decode prog_4_method_11_code 39 = .ok (.ixor, 1) := by decide +kernel
theorem d_Cr_openParties_40 : decode prog_4_method_11_code 40 = .ok (.goto 4, 3) := by decide +kernel
theorem d_Cr_openParties_43 : decode prog_4_method_11_code 43 = .ok (.iconst 0, 1) := by decide +kernel
theorem d_Cr_openParties_44 : decode prog_4_method_11_code 44 = .ok (.istore 4, 2) := by decide +kernel
theorem d_Cr_openParties_46 : decode prog_4_method_11_code 46 = .ok (.iload_n 3, 1) := by decide +kernel
theorem d_Cr_openParties_47 : decode prog_4_method_11_code 47 = .ok (.iconst 2, 1) := by decide +kernel
theorem d_Cr_openParties_48 : decode prog_4_method_11_code 48 = .ok (.iand, 1) := by decide +kernel
theorem d_Cr_openParties_49 : decode prog_4_method_11_code 49 = .ok (.ifCond .eq 11, 3) := by decide +kernel
theorem d_Cr_openParties_52 : decode prog_4_method_11_code 52 = .ok (.getstatic 138, 3) := by decide +kernel
theorem d_Cr_openParties_55 : decode prog_4_method_11_code 55 = .ok (.iload_n 2, 1) := by decide +kernel
theorem d_Cr_openParties_56 : decode prog_4_method_11_code 56 = .ok (.iaload, 1) := by decide +kernel
theorem d_Cr_openParties_57 : decode prog_4_method_11_code 57 = .ok (.goto 4, 3) := by decide +kernel
theorem d_Cr_openParties_60 : decode prog_4_method_11_code 60 = .ok (.iconst 0, 1) := by decide +kernel
theorem d_Cr_openParties_61 : decode prog_4_method_11_code 61 = .ok (.istore 5, 2) := by decide +kernel
theorem d_Cr_openParties_63 : decode prog_4_method_11_code 63 = .ok (.iload_n 1, 1) := by decide +kernel
theorem d_Cr_openParties_64 : decode prog_4_method_11_code 64 = .ok (.iload 4, 2) := by decide +kernel
theorem d_Cr_openParties_66 : decode prog_4_method_11_code 66 = .ok (.iload 5, 2) := by decide +kernel
theorem d_Cr_openParties_68 : decode prog_4_method_11_code 68 = .ok (.ior, 1) := by decide +kernel
theorem d_Cr_openParties_69 : decode prog_4_method_11_code 69 = .ok (.iand, 1) := by decide +kernel
theorem d_Cr_openParties_70 : decode prog_4_method_11_code 70 = .ok (.istore_n 1, 1) := by decide +kernel
theorem d_Cr_openParties_71 : decode prog_4_method_11_code 71 = .ok (.iinc 2 1, 3) := by decide +kernel
theorem d_Cr_openParties_74 : decode prog_4_method_11_code 74 = .ok (.goto (-64), 3) := by decide +kernel
theorem d_Cr_openParties_77 : decode prog_4_method_11_code 77 = .ok (.iload_n 1, 1) := by decide +kernel
theorem d_Cr_openParties_78 : decode prog_4_method_11_code 78 = .ok (.ireturn, 1) := by decide +kernel
theorem d_Cr_waysLeft_0 : decode prog_4_method_6_code 0 = .ok (.aload_n 0, 1) := by decide +kernel
theorem d_Cr_waysLeft_1 : decode prog_4_method_6_code 1 = .ok (.getfield 59, 3) := by decide +kernel
theorem d_Cr_waysLeft_4 : decode prog_4_method_6_code 4 = .ok (.iconst 2, 1) := by decide +kernel
theorem d_Cr_waysLeft_5 : decode prog_4_method_6_code 5 = .ok (.iload_n 1, 1) := by decide +kernel
theorem d_Cr_waysLeft_6 : decode prog_4_method_6_code 6 = .ok (.imul, 1) := by decide +kernel
theorem d_Cr_waysLeft_7 : decode prog_4_method_6_code 7 = .ok (.ishr, 1) := by decide +kernel
theorem d_Cr_waysLeft_8 : decode prog_4_method_6_code 8 = .ok (.iconst 3, 1) := by decide +kernel
theorem d_Cr_waysLeft_9 : decode prog_4_method_6_code 9 = .ok (.iand, 1) := by decide +kernel
theorem d_Cr_waysLeft_10 : decode prog_4_method_6_code 10 = .ok (.ireturn, 1) := by decide +kernel
theorem d_Cr_seeLayout_0 : decode prog_4_method_10_code 0 = .ok (.iconst 0, 1) := by decide +kernel
theorem d_Cr_seeLayout_1 : decode prog_4_method_10_code 1 = .ok (.istore_n 1, 1) := by decide +kernel
theorem d_Cr_seeLayout_2 : decode prog_4_method_10_code 2 = .ok (.iload_n 1, 1) := by decide +kernel
theorem d_Cr_seeLayout_3 : decode prog_4_method_10_code 3 = .ok (.aload_n 0, 1) := by decide +kernel
theorem d_Cr_seeLayout_4 : decode prog_4_method_10_code 4 = .ok (.getfield 24, 3) := by decide +kernel
theorem d_Cr_seeLayout_7 : decode prog_4_method_10_code 7 = .ok (.invokevirtual 37, 3) := by decide +kernel
theorem d_Cr_seeLayout_10 : decode prog_4_method_10_code 10 = .ok (.if_icmp .ge 36, 3) := by decide +kernel
theorem d_Cr_seeLayout_13 : decode prog_4_method_10_code 13 = .ok (.aload_n 0, 1) := by decide +kernel
theorem d_Cr_seeLayout_14 : decode prog_4_method_10_code 14 = .ok (.getfield 15, 3) := by decide +kernel
theorem d_Cr_seeLayout_17 : decode prog_4_method_10_code 17 = .ok (.iload_n 1, 1) := by decide +kernel
theorem d_Cr_seeLayout_18 : decode prog_4_method_10_code 18 = .ok (.dup2, 1) := by decide +kernel
theorem d_Cr_seeLayout_19 : decode prog_4_method_10_code 19 = .ok (.iaload, 1) := by decide +kernel
theorem d_Cr_seeLayout_20 : decode prog_4_method_10_code 20 = .ok (.aload_n 0, 1) := by decide +kernel
theorem d_Cr_seeLayout_21 : decode prog_4_method_10_code 21 = .ok (.getfield 24, 3) := by decide +kernel
theorem d_Cr_seeLayout_24 : decode prog_4_method_10_code 24 = .ok (.invokevirtual 43, 3) := by decide +kernel
theorem d_Cr_seeLayout_27 : decode prog_4_method_10_code 27 = .ok (.aload_n 0, 1) := by decide +kernel
theorem d_Cr_seeLayout_28 : decode prog_4_method_10_code 28 = .ok (.getfield 33, 3) := by decide +kernel
theorem d_Cr_seeLayout_31 : decode prog_4_method_10_code 31 = .ok (.iload_n 1, 1) := by decide +kernel
theorem d_Cr_seeLayout_32 : decode prog_4_method_10_code 32 = .ok (.invokevirtual 126, 3) := by decide +kernel
theorem d_Cr_seeLayout_35 : decode prog_4_method_10_code 35 = .ok (.invokevirtual 129, 3) := by decide +kernel
theorem d_Cr_seeLayout_38 : decode prog_4_method_10_code 38 = .ok (.ior, 1) := by decide +kernel
theorem d_Cr_seeLayout_39 : decode prog_4_method_10_code 39 = .ok (.iastore, 1) := by decide +kernel
theorem d_Cr_seeLayout_40 : decode prog_4_method_10_code 40 = .ok (.iinc 1 1, 3) := by decide +kernel
theorem d_Cr_seeLayout_43 : decode prog_4_method_10_code 43 = .ok (.goto (-41), 3) := by decide +kernel
theorem d_Cr_seeLayout_46 : decode prog_4_method_10_code 46 = .ok (.return_, 1) := by decide +kernel
theorem d_Cr_countUnseen_0 : decode prog_4_method_13_code 0 = .ok (.aload_n 0, 1) := by decide +kernel
theorem d_Cr_countUnseen_1 : decode prog_4_method_13_code 1 = .ok (.getfield 59, 3) := by decide +kernel
theorem d_Cr_countUnseen_4 : decode prog_4_method_13_code 4 = .ok (.aload_n 0, 1) := by decide +kernel
theorem d_Cr_countUnseen_5 : decode prog_4_method_13_code 5 = .ok (.getfield 123, 3) := by decide +kernel
theorem d_Cr_countUnseen_8 : decode prog_4_method_13_code 8 = .ok (.iconst (-1), 1) := by decide +kernel
theorem d_Cr_countUnseen_9 : decode prog_4_method_13_code 9 = .ok (.ixor, 1) := by decide +kernel
theorem d_Cr_countUnseen_10 : decode prog_4_method_13_code 10 = .ok (.iand, 1) := by decide +kernel
theorem d_Cr_countUnseen_11 : decode prog_4_method_13_code 11 = .ok (.invokestatic 141, 3) := by decide +kernel
theorem d_Cr_countUnseen_14 : decode prog_4_method_13_code 14 = .ok (.istore_n 1, 1) := by decide +kernel
theorem d_Cr_countUnseen_15 : decode prog_4_method_13_code 15 = .ok (.iconst 0, 1) := by decide +kernel
theorem d_Cr_countUnseen_16 : decode prog_4_method_13_code 16 = .ok (.istore_n 2, 1) := by decide +kernel
theorem d_Cr_countUnseen_17 : decode prog_4_method_13_code 17 = .ok (.iload_n 2, 1) := by decide +kernel
theorem d_Cr_countUnseen_18 : decode prog_4_method_13_code 18 = .ok (.aload_n 0, 1) := by decide +kernel
theorem d_Cr_countUnseen_19 : decode prog_4_method_13_code 19 = .ok (.getfield 24, 3) := by decide +kernel
theorem d_Cr_countUnseen_22 : decode prog_4_method_13_code 22 = .ok (.invokevirtual 37, 3) := by decide +kernel
theorem d_Cr_countUnseen_25 : decode prog_4_method_13_code 25 = .ok (.if_icmp .ge 30, 3) := by decide +kernel
theorem d_Cr_countUnseen_28 : decode prog_4_method_13_code 28 = .ok (.iload_n 1, 1) := by decide +kernel
theorem d_Cr_countUnseen_29 : decode prog_4_method_13_code 29 = .ok (.aload_n 0, 1) := by decide +kernel
theorem d_Cr_countUnseen_30 : decode prog_4_method_13_code 30 = .ok (.getfield 9, 3) := by decide +kernel
theorem d_Cr_countUnseen_33 : decode prog_4_method_13_code 33 = .ok (.iload_n 2, 1) := by decide +kernel
theorem d_Cr_countUnseen_34 : decode prog_4_method_13_code 34 = .ok (.iaload, 1) := by decide +kernel
theorem d_Cr_countUnseen_35 : decode prog_4_method_13_code 35 = .ok (.aload_n 0, 1) := by decide +kernel
theorem d_Cr_countUnseen_36 : decode prog_4_method_13_code 36 = .ok (.getfield 15, 3) := by decide +kernel
theorem d_Cr_countUnseen_39 : decode prog_4_method_13_code 39 = .ok (.iload_n 2, 1) := by decide +kernel
theorem d_Cr_countUnseen_40 : decode prog_4_method_13_code 40 = .ok (.iaload, 1) := by decide +kernel
theorem d_Cr_countUnseen_41 : decode prog_4_method_13_code 41 = .ok (.iconst (-1), 1) := by decide +kernel
theorem d_Cr_countUnseen_42 : decode prog_4_method_13_code 42 = .ok (.ixor, 1) := by decide +kernel
theorem d_Cr_countUnseen_43 : decode prog_4_method_13_code 43 = .ok (.iand, 1) := by decide +kernel
theorem d_Cr_countUnseen_44 : decode prog_4_method_13_code 44 = .ok (.invokestatic 141, 3) := by decide +kernel
theorem d_Cr_countUnseen_47 : decode prog_4_method_13_code 47 = .ok (.iadd, 1) := by decide +kernel
theorem d_Cr_countUnseen_48 : decode prog_4_method_13_code 48 = .ok (.istore_n 1, 1) := by decide +kernel
theorem d_Cr_countUnseen_49 : decode prog_4_method_13_code 49 = .ok (.iinc 2 1, 3) := by decide +kernel
theorem d_Cr_countUnseen_52 : decode prog_4_method_13_code 52 = .ok (.goto (-35), 3) := by decide +kernel
theorem d_Cr_countUnseen_55 : decode prog_4_method_13_code 55 = .ok (.iload_n 1, 1) := by decide +kernel
theorem d_Cr_countUnseen_56 : decode prog_4_method_13_code 56 = .ok (.ireturn, 1) := by decide +kernel
theorem d_Cr_crossOut_0 : decode prog_4_method_14_code 0 = .ok (.iconst 0, 1) := by decide +kernel
theorem d_Cr_crossOut_1 : decode prog_4_method_14_code 1 = .ok (.istore_n 3, 1) := by decide +kernel
theorem d_Cr_crossOut_2 : decode prog_4_method_14_code 2 = .ok (.iload_n 3, 1) := by decide +kernel
theorem d_Cr_crossOut_3 : decode prog_4_method_14_code 3 = .ok (.aload_n 0, 1) := by decide +kernel
theorem d_Cr_crossOut_4 : decode prog_4_method_14_code 4 = .ok (.getfield 24, 3) := by decide +kernel
theorem d_Cr_crossOut_7 : decode prog_4_method_14_code 7 = .ok (.invokevirtual 37, 3) := by decide +kernel
theorem d_Cr_crossOut_10 : decode prog_4_method_14_code 10 = .ok (.if_icmp .ge 21, 3) := by decide +kernel
theorem d_Cr_crossOut_13 : decode prog_4_method_14_code 13 = .ok (.aload_n 0, 1) := by decide +kernel
theorem d_Cr_crossOut_14 : decode prog_4_method_14_code 14 = .ok (.getfield 9, 3) := by decide +kernel
theorem d_Cr_crossOut_17 : decode prog_4_method_14_code 17 = .ok (.iload_n 3, 1) := by decide +kernel
theorem d_Cr_crossOut_18 : decode prog_4_method_14_code 18 = .ok (.aload_n 0, 1) := by decide +kernel
theorem d_Cr_crossOut_19 : decode prog_4_method_14_code 19 = .ok (.getfield 15, 3) := by decide +kernel
theorem d_Cr_crossOut_22 : decode prog_4_method_14_code 22 = .ok (.iload_n 3, 1) := by decide +kernel
theorem d_Cr_crossOut_23 : decode prog_4_method_14_code 23 = .ok (.iaload, 1) := by decide +kernel
theorem d_Cr_crossOut_24 : decode prog_4_method_14_code 24 = .ok (.iastore, 1) := by decide +kernel
theorem d_Cr_crossOut_25 : decode prog_4_method_14_code 25 = .ok (.iinc 3 1, 3) := by decide +kernel
theorem d_Cr_crossOut_28 : decode prog_4_method_14_code 28 = .ok (.goto (-26), 3) := by decide +kernel
theorem d_Cr_crossOut_31 : decode prog_4_method_14_code 31 = .ok (.aload_n 0, 1) := by decide +kernel
theorem d_Cr_crossOut_32 : decode prog_4_method_14_code 32 = .ok (.aload_n 0, 1) := by decide +kernel
theorem d_Cr_crossOut_33 : decode prog_4_method_14_code 33 = .ok (.getfield 123, 3) := by decide +kernel
theorem d_Cr_crossOut_36 : decode prog_4_method_14_code 36 = .ok (.putfield 59, 3) := by decide +kernel
theorem d_Cr_crossOut_39 : decode prog_4_method_14_code 39 = .ok (.aload_n 0, 1) := by decide +kernel
theorem d_Cr_crossOut_40 : decode prog_4_method_14_code 40 = .ok (.getfield 63, 3) := by decide +kernel
theorem d_Cr_crossOut_43 : decode prog_4_method_14_code 43 = .ok (.bipush 54, 2) := by decide +kernel
theorem d_Cr_crossOut_45 : decode prog_4_method_14_code 45 = .ok (.if_icmp .ge 33, 3) := by decide +kernel
theorem d_Cr_crossOut_48 : decode prog_4_method_14_code 48 = .ok (.aload_n 0, 1) := by decide +kernel
theorem d_Cr_crossOut_49 : decode prog_4_method_14_code 49 = .ok (.getfield 18, 3) := by decide +kernel
theorem d_Cr_crossOut_52 : decode prog_4_method_14_code 52 = .ok (.aload_n 0, 1) := by decide +kernel
theorem d_Cr_crossOut_53 : decode prog_4_method_14_code 53 = .ok (.getfield 63, 3) := by decide +kernel
theorem d_Cr_crossOut_56 : decode prog_4_method_14_code 56 = .ok (.iload_n 1, 1) := by decide +kernel
theorem d_Cr_crossOut_57 : decode prog_4_method_14_code 57 = .ok (.iastore, 1) := by decide +kernel
theorem d_Cr_crossOut_58 : decode prog_4_method_14_code 58 = .ok (.aload_n 0, 1) := by decide +kernel
theorem d_Cr_crossOut_59 : decode prog_4_method_14_code 59 = .ok (.getfield 21, 3) := by decide +kernel
theorem d_Cr_crossOut_62 : decode prog_4_method_14_code 62 = .ok (.aload_n 0, 1) := by decide +kernel
theorem d_Cr_crossOut_63 : decode prog_4_method_14_code 63 = .ok (.getfield 63, 3) := by decide +kernel
theorem d_Cr_crossOut_66 : decode prog_4_method_14_code 66 = .ok (.iload_n 2, 1) := by decide +kernel
theorem d_Cr_crossOut_67 : decode prog_4_method_14_code 67 = .ok (.iastore, 1) := by decide +kernel
theorem d_Cr_crossOut_68 : decode prog_4_method_14_code 68 = .ok (.aload_n 0, 1) := by decide +kernel
theorem d_Cr_crossOut_69 : decode prog_4_method_14_code 69 = .ok (.dup, 1) := by decide +kernel
theorem d_Cr_crossOut_70 : decode prog_4_method_14_code 70 = .ok (.getfield 63, 3) := by decide +kernel
theorem d_Cr_crossOut_73 : decode prog_4_method_14_code 73 = .ok (.iconst 1, 1) := by decide +kernel
theorem d_Cr_crossOut_74 : decode prog_4_method_14_code 74 = .ok (.iadd, 1) := by decide +kernel
theorem d_Cr_crossOut_75 : decode prog_4_method_14_code 75 = .ok (.putfield 63, 3) := by decide +kernel
theorem d_Cr_crossOut_78 : decode prog_4_method_14_code 78 = .ok (.return_, 1) := by decide +kernel
theorem d_Cr_steps_0 : decode prog_4_method_2_code 0 = .ok (.aload_n 0, 1) := by decide +kernel
theorem d_Cr_steps_1 : decode prog_4_method_2_code 1 = .ok (.getfield 63, 3) := by decide +kernel
theorem d_Cr_steps_4 : decode prog_4_method_2_code 4 = .ok (.ireturn, 1) := by decide +kernel
theorem d_C_step_0 : decode prog_1_method_11_code 0 = .ok (.iload_n 1, 1) := by decide +kernel
theorem d_C_step_1 : decode prog_1_method_11_code 1 = .ok (.ifCond .lt 14, 3) := by decide +kernel
theorem d_C_step_4 : decode prog_1_method_11_code 4 = .ok (.iload_n 1, 1) := by decide +kernel
theorem d_C_step_5 : decode prog_1_method_11_code 5 = .ok (.aload_n 0, 1) := by decide +kernel
theorem d_C_step_6 : decode prog_1_method_11_code 6 = .ok (.getfield 103, 3) := by decide +kernel
theorem d_C_step_9 : decode prog_1_method_11_code 9 = .ok (.invokevirtual 112, 3) := by decide +kernel
theorem d_C_step_12 : decode prog_1_method_11_code 12 = .ok (.if_icmp .lt 5, 3) := by decide +kernel
theorem d_C_step_15 : decode prog_1_method_11_code 15 = .ok (.iconst (-1), 1) := by decide +kernel
theorem d_C_step_16 : decode prog_1_method_11_code 16 = .ok (.ireturn, 1) := by decide +kernel
theorem d_C_step_17 : decode prog_1_method_11_code 17 = .ok (.iload_n 2, 1) := by decide +kernel
theorem d_C_step_18 : decode prog_1_method_11_code 18 = .ok (.lookupswitch 44 #[(0, 26), (1, 35)], 26) := by decide +kernel
theorem d_C_step_44 : decode prog_1_method_11_code 44 = .ok (.aload_n 0, 1) := by decide +kernel
theorem d_C_step_45 : decode prog_1_method_11_code 45 = .ok (.getfield 103, 3) := by decide +kernel
theorem d_C_step_48 : decode prog_1_method_11_code 48 = .ok (.iload_n 1, 1) := by decide +kernel
theorem d_C_step_49 : decode prog_1_method_11_code 49 = .ok (.invokevirtual 115, 3) := by decide +kernel
theorem d_C_step_52 : decode prog_1_method_11_code 52 = .ok (.ireturn, 1) := by decide +kernel
theorem d_C_step_53 : decode prog_1_method_11_code 53 = .ok (.aload_n 0, 1) := by decide +kernel
theorem d_C_step_54 : decode prog_1_method_11_code 54 = .ok (.getfield 103, 3) := by decide +kernel
theorem d_C_step_57 : decode prog_1_method_11_code 57 = .ok (.iload_n 1, 1) := by decide +kernel
theorem d_C_step_58 : decode prog_1_method_11_code 58 = .ok (.invokevirtual 119, 3) := by decide +kernel
theorem d_C_step_61 : decode prog_1_method_11_code 61 = .ok (.ireturn, 1) := by decide +kernel
theorem d_C_step_62 : decode prog_1_method_11_code 62 = .ok (.iconst (-1), 1) := by decide +kernel
theorem d_C_step_63 : decode prog_1_method_11_code 63 = .ok (.ireturn, 1) := by decide +kernel
theorem d_Cr_clueOf_0 : decode prog_4_method_3_code 0 = .ok (.aload_n 0, 1) := by decide +kernel
theorem d_Cr_clueOf_1 : decode prog_4_method_3_code 1 = .ok (.getfield 18, 3) := by decide +kernel
theorem d_Cr_clueOf_4 : decode prog_4_method_3_code 4 = .ok (.iload_n 1, 1) := by decide +kernel
theorem d_Cr_clueOf_5 : decode prog_4_method_3_code 5 = .ok (.iaload, 1) := by decide +kernel
theorem d_Cr_clueOf_6 : decode prog_4_method_3_code 6 = .ok (.ireturn, 1) := by decide +kernel
theorem d_Cr_crossedBy_0 : decode prog_4_method_4_code 0 = .ok (.aload_n 0, 1) := by decide +kernel
theorem d_Cr_crossedBy_1 : decode prog_4_method_4_code 1 = .ok (.getfield 21, 3) := by decide +kernel
theorem d_Cr_crossedBy_4 : decode prog_4_method_4_code 4 = .ok (.iload_n 1, 1) := by decide +kernel
theorem d_Cr_crossedBy_5 : decode prog_4_method_4_code 5 = .ok (.iaload, 1) := by decide +kernel
theorem d_Cr_crossedBy_6 : decode prog_4_method_4_code 6 = .ok (.ireturn, 1) := by decide +kernel
theorem d_C_may_0 : decode prog_1_method_12_code 0 = .ok (.aload_n 0, 1) := by decide +kernel
theorem d_C_may_1 : decode prog_1_method_12_code 1 = .ok (.getfield 42, 3) := by decide +kernel
theorem d_C_may_4 : decode prog_1_method_12_code 4 = .ok (.iload_n 1, 1) := by decide +kernel
theorem d_C_may_5 : decode prog_1_method_12_code 5 = .ok (.invokevirtual 74, 3) := by decide +kernel
theorem d_C_may_8 : decode prog_1_method_12_code 8 = .ok (.ifCond .eq 14, 3) := by decide +kernel
theorem d_C_may_11 : decode prog_1_method_12_code 11 = .ok (.aload_n 0, 1) := by decide +kernel
theorem d_C_may_12 : decode prog_1_method_12_code 12 = .ok (.getfield 42, 3) := by decide +kernel
theorem d_C_may_15 : decode prog_1_method_12_code 15 = .ok (.iload_n 2, 1) := by decide +kernel
theorem d_C_may_16 : decode prog_1_method_12_code 16 = .ok (.invokevirtual 77, 3) := by decide +kernel
theorem d_C_may_19 : decode prog_1_method_12_code 19 = .ok (.ifCond .ne 5, 3) := by decide +kernel
theorem d_C_may_22 : decode prog_1_method_12_code 22 = .ok (.iconst (-1), 1) := by decide +kernel
theorem d_C_may_23 : decode prog_1_method_12_code 23 = .ok (.ireturn, 1) := by decide +kernel
theorem d_C_may_24 : decode prog_1_method_12_code 24 = .ok (.aload_n 0, 1) := by decide +kernel
theorem d_C_may_25 : decode prog_1_method_12_code 25 = .ok (.getfield 103, 3) := by decide +kernel
theorem d_C_may_28 : decode prog_1_method_12_code 28 = .ok (.iload_n 1, 1) := by decide +kernel
theorem d_C_may_29 : decode prog_1_method_12_code 29 = .ok (.iload_n 2, 1) := by decide +kernel
theorem d_C_may_30 : decode prog_1_method_12_code 30 = .ok (.invokevirtual 122, 3) := by decide +kernel
theorem d_C_may_33 : decode prog_1_method_12_code 33 = .ok (.ireturn, 1) := by decide +kernel
theorem d_Cr_valuesLeft_0 : decode prog_4_method_5_code 0 = .ok (.aload_n 0, 1) := by decide +kernel
theorem d_Cr_valuesLeft_1 : decode prog_4_method_5_code 1 = .ok (.getfield 9, 3) := by decide +kernel
theorem d_Cr_valuesLeft_4 : decode prog_4_method_5_code 4 = .ok (.iload_n 2, 1) := by decide +kernel
theorem d_Cr_valuesLeft_5 : decode prog_4_method_5_code 5 = .ok (.iaload, 1) := by decide +kernel
theorem d_Cr_valuesLeft_6 : decode prog_4_method_5_code 6 = .ok (.iconst 4, 1) := by decide +kernel
theorem d_Cr_valuesLeft_7 : decode prog_4_method_5_code 7 = .ok (.iload_n 1, 1) := by decide +kernel
theorem d_Cr_valuesLeft_8 : decode prog_4_method_5_code 8 = .ok (.imul, 1) := by decide +kernel
theorem d_Cr_valuesLeft_9 : decode prog_4_method_5_code 9 = .ok (.ishr, 1) := by decide +kernel
theorem d_Cr_valuesLeft_10 : decode prog_4_method_5_code 10 = .ok (.bipush 15, 2) := by decide +kernel
theorem d_Cr_valuesLeft_12 : decode prog_4_method_5_code 12 = .ok (.iand, 1) := by decide +kernel
theorem d_Cr_valuesLeft_13 : decode prog_4_method_5_code 13 = .ok (.ireturn, 1) := by decide +kernel
theorem d_C_mayBe_0 : decode prog_1_method_13_code 0 = .ok (.aload_n 0, 1) := by decide +kernel
theorem d_C_mayBe_1 : decode prog_1_method_13_code 1 = .ok (.getfield 42, 3) := by decide +kernel
theorem d_C_mayBe_4 : decode prog_1_method_13_code 4 = .ok (.iload_n 1, 1) := by decide +kernel
theorem d_C_mayBe_5 : decode prog_1_method_13_code 5 = .ok (.invokevirtual 84, 3) := by decide +kernel
theorem d_C_mayBe_8 : decode prog_1_method_13_code 8 = .ok (.ifCond .ne 5, 3) := by decide +kernel
theorem d_C_mayBe_11 : decode prog_1_method_13_code 11 = .ok (.iconst (-1), 1) := by decide +kernel
theorem d_C_mayBe_12 : decode prog_1_method_13_code 12 = .ok (.ireturn, 1) := by decide +kernel
theorem d_C_mayBe_13 : decode prog_1_method_13_code 13 = .ok (.aload_n 0, 1) := by decide +kernel
theorem d_C_mayBe_14 : decode prog_1_method_13_code 14 = .ok (.getfield 103, 3) := by decide +kernel
theorem d_C_mayBe_17 : decode prog_1_method_13_code 17 = .ok (.iload_n 1, 1) := by decide +kernel
theorem d_C_mayBe_18 : decode prog_1_method_13_code 18 = .ok (.invokevirtual 126, 3) := by decide +kernel
theorem d_C_mayBe_21 : decode prog_1_method_13_code 21 = .ok (.ireturn, 1) := by decide +kernel
