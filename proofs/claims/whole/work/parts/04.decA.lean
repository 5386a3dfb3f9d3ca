theorem d_C_init_0 : decode prog_1_method_1_code 0 = .ok (.aload_n 0, 1) := by decide +kernel
theorem d_C_init_1 : decode prog_1_method_1_code 1 = .ok (.invokespecial 3, 3) := by decide +kernel
theorem d_C_init_4 : decode prog_1_method_1_code 4 = .ok (.aload_n 0, 1) := by decide +kernel
theorem d_C_init_5 : decode prog_1_method_1_code 5 = .ok (.sipush 300, 3) := by decide +kernel
theorem d_C_init_8 : decode prog_1_method_1_code 8 = .ok (.newarray .int, 2) := by decide +kernel
theorem d_C_init_10 : decode prog_1_method_1_code 10 = .ok (.putfield 9, 3) := by decide +kernel
theorem d_C_init_13 : decode prog_1_method_1_code 13 = .ok (.aload_n 0, 1) := by decide +kernel
theorem d_C_init_14 : decode prog_1_method_1_code 14 = .ok (.new 13, 3) := by decide +kernel
theorem d_C_init_17 : decode prog_1_method_1_code 17 = .ok (.dup, 1) := by decide +kernel
theorem d_C_init_18 : decode prog_1_method_1_code 18 = .ok (.iconst 1, 1) := by decide +kernel
theorem d_C_init_19 : decode prog_1_method_1_code 19 = .ok (.iconst 0, 1) := by decide +kernel
theorem d_C_init_20 : decode prog_1_method_1_code 20 = .ok (.iconst 0, 1) := by decide +kernel
theorem d_C_init_21 : decode prog_1_method_1_code 21 = .ok (.invokespecial 15, 3) := by decide +kernel
theorem d_C_init_24 : decode prog_1_method_1_code 24 = .ok (.invokevirtual 18, 3) := by decide +kernel
theorem d_C_init_27 : decode prog_1_method_1_code 27 = .ok (.return_, 1) := by decide +kernel
theorem d_Pz_init_0 : decode prog_9_method_1_code 0 = .ok (.aload_n 0, 1) := by decide +kernel
theorem d_Pz_init_1 : decode prog_9_method_1_code 1 = .ok (.invokespecial 3, 3) := by decide +kernel
theorem d_Pz_init_4 : decode prog_9_method_1_code 4 = .ok (.aload_n 0, 1) := by decide +kernel
theorem d_Pz_init_5 : decode prog_9_method_1_code 5 = .ok (.bipush 20, 2) := by decide +kernel
theorem d_Pz_init_7 : decode prog_9_method_1_code 7 = .ok (.anewarray 9, 3) := by decide +kernel
theorem d_Pz_init_10 : decode prog_9_method_1_code 10 = .ok (.putfield 11, 3) := by decide +kernel
theorem d_Pz_init_13 : decode prog_9_method_1_code 13 = .ok (.aload_n 0, 1) := by decide +kernel
theorem d_Pz_init_14 : decode prog_9_method_1_code 14 = .ok (.iload_n 1, 1) := by decide +kernel
theorem d_Pz_init_15 : decode prog_9_method_1_code 15 = .ok (.putfield 17, 3) := by decide +kernel
theorem d_Pz_init_18 : decode prog_9_method_1_code 18 = .ok (.aload_n 0, 1) := by decide +kernel
theorem d_Pz_init_19 : decode prog_9_method_1_code 19 = .ok (.iload_n 2, 1) := by decide +kernel
theorem d_Pz_init_20 : decode prog_9_method_1_code 20 = .ok (.putfield 21, 3) := by decide +kernel
theorem d_Pz_init_23 : decode prog_9_method_1_code 23 = .ok (.aload_n 0, 1) := by decide +kernel
theorem d_Pz_init_24 : decode prog_9_method_1_code 24 = .ok (.iload_n 3, 1) := by decide +kernel
theorem d_Pz_init_25 : decode prog_9_method_1_code 25 = .ok (.putfield 24, 3) := by decide +kernel
theorem d_Pz_init_28 : decode prog_9_method_1_code 28 = .ok (.aload_n 0, 1) := by decide +kernel
theorem d_Pz_init_29 : decode prog_9_method_1_code 29 = .ok (.new 27, 3) := by decide +kernel
theorem d_Pz_init_32 : decode prog_9_method_1_code 32 = .ok (.dup, 1) := by decide +kernel
theorem d_Pz_init_33 : decode prog_9_method_1_code 33 = .ok (.iload_n 1, 1) := by decide +kernel
theorem d_Pz_init_34 : decode prog_9_method_1_code 34 = .ok (.invokespecial 29, 3) := by decide +kernel
theorem d_Pz_init_37 : decode prog_9_method_1_code 37 = .ok (.putfield 32, 3) := by decide +kernel
theorem d_Pz_init_40 : decode prog_9_method_1_code 40 = .ok (.return_, 1) := by decide +kernel
theorem d_Od_init_0 : decode prog_8_method_1_code 0 = .ok (.aload_n 0, 1) := by decide +kernel
theorem d_Od_init_1 : decode prog_8_method_1_code 1 = .ok (.invokespecial 3, 3) := by decide +kernel
theorem d_Od_init_4 : decode prog_8_method_1_code 4 = .ok (.aload_n 0, 1) := by decide +kernel
theorem d_Od_init_5 : decode prog_8_method_1_code 5 = .ok (.bipush 24, 2) := by decide +kernel
theorem d_Od_init_7 : decode prog_8_method_1_code 7 = .ok (.newarray .int, 2) := by decide +kernel
theorem d_Od_init_9 : decode prog_8_method_1_code 9 = .ok (.putfield 9, 3) := by decide +kernel
theorem d_Od_init_12 : decode prog_8_method_1_code 12 = .ok (.aload_n 0, 1) := by decide +kernel
theorem d_Od_init_13 : decode prog_8_method_1_code 13 = .ok (.bipush 96, 2) := by decide +kernel
theorem d_Od_init_15 : decode prog_8_method_1_code 15 = .ok (.newarray .int, 2) := by decide +kernel
theorem d_Od_init_17 : decode prog_8_method_1_code 17 = .ok (.putfield 15, 3) := by decide +kernel
theorem d_Od_init_20 : decode prog_8_method_1_code 20 = .ok (.aload_n 0, 1) := by decide +kernel
theorem d_Od_init_21 : decode prog_8_method_1_code 21 = .ok (.iload_n 1, 1) := by decide +kernel
theorem d_Od_init_22 : decode prog_8_method_1_code 22 = .ok (.putfield 18, 3) := by decide +kernel
theorem d_Od_init_25 : decode prog_8_method_1_code 25 = .ok (.aload_n 0, 1) := by decide +kernel
theorem d_Od_init_26 : decode prog_8_method_1_code 26 = .ok (.iconst 0, 1) := by decide +kernel
theorem d_Od_init_27 : decode prog_8_method_1_code 27 = .ok (.iconst 0, 1) := by decide +kernel
theorem d_Od_init_28 : decode prog_8_method_1_code 28 = .ok (.invokevirtual 22, 3) := by decide +kernel
theorem d_Od_init_31 : decode prog_8_method_1_code 31 = .ok (.return_, 1) := by decide +kernel
theorem d_Od_fill_0 : decode prog_8_method_7_code 0 = .ok (.iload_n 1, 1) := by decide +kernel
theorem d_Od_fill_1 : decode prog_8_method_7_code 1 = .ok (.aload_n 0, 1) := by decide +kernel
theorem d_Od_fill_2 : decode prog_8_method_7_code 2 = .ok (.getfield 18, 3) := by decide +kernel
theorem d_Od_fill_5 : decode prog_8_method_7_code 5 = .ok (.if_icmp .lt 9, 3) := by decide +kernel
theorem d_Od_fill_8 : decode prog_8_method_7_code 8 = .ok (.aload_n 0, 1) := by decide +kernel
theorem d_Od_fill_9 : decode prog_8_method_7_code 9 = .ok (.iload_n 2, 1) := by decide +kernel
theorem d_Od_fill_10 : decode prog_8_method_7_code 10 = .ok (.invokevirtual 32, 3) := by decide +kernel
theorem d_Od_fill_13 : decode prog_8_method_7_code 13 = .ok (.return_, 1) := by decide +kernel
theorem d_Od_fill_14 : decode prog_8_method_7_code 14 = .ok (.iconst 0, 1) := by decide +kernel
theorem d_Od_fill_15 : decode prog_8_method_7_code 15 = .ok (.istore_n 3, 1) := by decide +kernel
theorem d_Od_fill_16 : decode prog_8_method_7_code 16 = .ok (.iload_n 3, 1) := by decide +kernel
theorem d_Od_fill_17 : decode prog_8_method_7_code 17 = .ok (.aload_n 0, 1) := by decide +kernel
theorem d_Od_fill_18 : decode prog_8_method_7_code 18 = .ok (.getfield 18, 3) := by decide +kernel
theorem d_Od_fill_21 : decode prog_8_method_7_code 21 = .ok (.if_icmp .ge 35, 3) := by decide +kernel
theorem d_Od_fill_24 : decode prog_8_method_7_code 24 = .ok (.iload_n 2, 1) := by decide +kernel
theorem d_Od_fill_25 : decode prog_8_method_7_code 25 = .ok (.sipush 4369, 3) := by decide +kernel
theorem d_Od_fill_28 : decode prog_8_method_7_code 28 = .ok (.iload_n 3, 1) := by decide +kernel
theorem d_Od_fill_29 : decode prog_8_method_7_code 29 = .ok (.ishl, 1) := by decide +kernel
theorem d_Od_fill_30 : decode prog_8_method_7_code 30 = .ok (.iand, 1) := by decide +kernel
theorem d_Od_fill_31 : decode prog_8_method_7_code 31 = .ok (.ifCond .ne 19, 3) := by decide +kernel
theorem d_Od_fill_34 : decode prog_8_method_7_code 34 = .ok (.aload_n 0, 1) := by decide +kernel
theorem d_Od_fill_35 : decode prog_8_method_7_code 35 = .ok (.iload_n 1, 1) := by decide +kernel
theorem d_Od_fill_36 : decode prog_8_method_7_code 36 = .ok (.iconst 1, 1) := by decide +kernel
theorem d_Od_fill_37 : decode prog_8_method_7_code 37 = .ok (.iadd, 1) := by decide +kernel
theorem d_Od_fill_38 : decode prog_8_method_7_code 38 = .ok (.iload_n 2, 1) := by decide +kernel
theorem d_Od_fill_39 : decode prog_8_method_7_code 39 = .ok (.iconst 1, 1) := by decide +kernel
theorem d_Od_fill_40 : decode prog_8_method_7_code 40 = .ok (.iconst 4, 1) := by decide +kernel
theorem d_Od_fill_41 : decode prog_8_method_7_code 41 = .ok (.iload_n 1, 1) := by decide +kernel
theorem d_Od_fill_42 : decode prog_8_method_7_code 42 = .ok (.imul, 1) := by decide +kernel
theorem d_Od_fill_43 : decode prog_8_method_7_code 43 = .ok (.iload_n 3, 1) := by decide +kernel
theorem d_Od_fill_44 : decode prog_8_method_7_code 44 = .ok (.iadd, 1) := by decide +kernel
theorem d_Od_fill_45 : decode prog_8_method_7_code 45 = .ok (.ishl, 1) := by decide +kernel
theorem d_Od_fill_46 : decode prog_8_method_7_code 46 = .ok (.ior, 1) := by decide +kernel
theorem d_Od_fill_47 : decode prog_8_method_7_code 47 = .ok (.invokevirtual 22, 3) := by decide +kernel
theorem d_Od_fill_50 : decode prog_8_method_7_code 50 = .ok (.iinc 3 1, 3) := by decide +kernel
theorem d_Od_fill_53 : decode prog_8_method_7_code 53 = .ok (.goto (-37), 3) := by decide +kernel
theorem d_Od_fill_56 : decode prog_8_method_7_code 56 = .ok (.return_, 1) := by decide +kernel
theorem d_Od_add_0 : decode prog_8_method_8_code 0 = .ok (.aload_n 0, 1) := by decide +kernel
theorem d_Od_add_1 : decode prog_8_method_8_code 1 = .ok (.getfield 26, 3) := by decide +kernel
theorem d_Od_add_4 : decode prog_8_method_8_code 4 = .ok (.bipush 24, 2) := by decide +kernel
theorem d_Od_add_6 : decode prog_8_method_8_code 6 = .ok (.if_icmp .lt 4, 3) := by decide +kernel
theorem d_Od_add_9 : decode prog_8_method_8_code 9 = .ok (.return_, 1) := by decide +kernel
theorem d_Od_add_10 : decode prog_8_method_8_code 10 = .ok (.aload_n 0, 1) := by decide +kernel
theorem d_Od_add_11 : decode prog_8_method_8_code 11 = .ok (.getfield 9, 3) := by decide +kernel
theorem d_Od_add_14 : decode prog_8_method_8_code 14 = .ok (.aload_n 0, 1) := by decide +kernel
theorem d_Od_add_15 : decode prog_8_method_8_code 15 = .ok (.getfield 26, 3) := by decide +kernel
theorem d_Od_add_18 : decode prog_8_method_8_code 18 = .ok (.iload_n 1, 1) := by decide +kernel
theorem d_Od_add_19 : decode prog_8_method_8_code 19 = .ok (.iastore, 1) := by decide +kernel
theorem d_Od_add_20 : decode prog_8_method_8_code 20 = .ok (.aload_n 0, 1) := by decide +kernel
theorem d_Od_add_21 : decode prog_8_method_8_code 21 = .ok (.dup, 1) := by decide +kernel
theorem d_Od_add_22 : decode prog_8_method_8_code 22 = .ok (.getfield 29, 3) := by decide +kernel
theorem d_Od_add_25 : decode prog_8_method_8_code 25 = .ok (.iload_n 1, 1) := by decide +kernel
theorem d_Od_add_26 : decode prog_8_method_8_code 26 = .ok (.ior, 1) := by decide +kernel
theorem d_Od_add_27 : decode prog_8_method_8_code 27 = .ok (.putfield 29, 3) := by decide +kernel
theorem d_Od_add_30 : decode prog_8_method_8_code 30 = .ok (.iconst 0, 1) := by decide +kernel
theorem d_Od_add_31 : decode prog_8_method_8_code 31 = .ok (.istore_n 2, 1) := by decide +kernel
theorem d_Od_add_32 : decode prog_8_method_8_code 32 = .ok (.iload_n 2, 1) := by decide +kernel
theorem d_Od_add_33 : decode prog_8_method_8_code 33 = .ok (.aload_n 0, 1) := by decide +kernel
theorem d_Od_add_34 : decode prog_8_method_8_code 34 = .ok (.getfield 18, 3) := by decide +kernel
theorem d_Od_add_37 : decode prog_8_method_8_code 37 = .ok (.if_icmp .ge 37, 3) := by decide +kernel
theorem d_Od_add_40 : decode prog_8_method_8_code 40 = .ok (.iload_n 1, 1) := by decide +kernel
theorem d_Od_add_41 : decode prog_8_method_8_code 41 = .ok (.iconst 4, 1) := by decide +kernel
theorem d_Od_add_42 : decode prog_8_method_8_code 42 = .ok (.iload_n 2, 1) := by decide +kernel
theorem d_Od_add_43 : decode prog_8_method_8_code 43 = .ok (.imul, 1) := by decide +kernel
theorem d_Od_add_44 : decode prog_8_method_8_code 44 = .ok (.ishr, 1) := by decide +kernel
theorem d_Od_add_45 : decode prog_8_method_8_code 45 = .ok (.bipush 15, 2) := by decide +kernel
theorem d_Od_add_47 : decode prog_8_method_8_code 47 = .ok (.iand, 1) := by decide +kernel
theorem d_Od_add_48 : decode prog_8_method_8_code 48 = .ok (.istore_n 3, 1) := by decide +kernel
theorem d_Od_add_49 : decode prog_8_method_8_code 49 = .ok (.aload_n 0, 1) := by decide +kernel
theorem d_Od_add_50 : decode prog_8_method_8_code 50 = .ok (.getfield 15, 3) := by decide +kernel
theorem d_Od_add_53 : decode prog_8_method_8_code 53 = .ok (.iconst 4, 1) := by decide +kernel
theorem d_Od_add_54 : decode prog_8_method_8_code 54 = .ok (.aload_n 0, 1) := by decide +kernel
theorem d_Od_add_55 : decode prog_8_method_8_code 55 = .ok (.getfield 26, 3) := by decide +kernel
theorem d_Od_add_58 : decode prog_8_method_8_code 58 = .ok (.imul, 1) := by decide +kernel
theorem d_Od_add_59 : decode prog_8_method_8_code 59 = .ok (.iload_n 2, 1) := by decide +kernel
theorem d_Od_add_60 : decode prog_8_method_8_code 60 = .ok (.iadd, 1) := by decide +kernel
theorem d_Od_add_61 : decode prog_8_method_8_code 61 = .ok (.iload_n 3, 1) := by decide +kernel
theorem d_Od_add_62 : decode prog_8_method_8_code 62 = .ok (.iconst 1, 1) := by decide +kernel
theorem d_Od_add_63 : decode prog_8_method_8_code 63 = .ok (.isub, 1) := by decide +kernel
theorem d_Od_add_64 : decode prog_8_method_8_code 64 = .ok (.invokestatic 36, 3) := by decide +kernel
theorem d_Od_add_67 : decode prog_8_method_8_code 67 = .ok (.iastore, 1) := by decide +kernel
theorem d_Od_add_68 : decode prog_8_method_8_code 68 = .ok (.iinc 2 1, 3) := by decide +kernel
theorem d_Od_add_71 : decode prog_8_method_8_code 71 = .ok (.goto (-39), 3) := by decide +kernel
theorem d_Od_add_74 : decode prog_8_method_8_code 74 = .ok (.aload_n 0, 1) := by decide +kernel
theorem d_Od_add_75 : decode prog_8_method_8_code 75 = .ok (.dup, 1) := by decide +kernel
theorem d_Od_add_76 : decode prog_8_method_8_code 76 = .ok (.getfield 26, 3) := by decide +kernel
theorem d_Od_add_79 : decode prog_8_method_8_code 79 = .ok (.iconst 1, 1) := by decide +kernel
theorem d_Od_add_80 : decode prog_8_method_8_code 80 = .ok (.iadd, 1) := by decide +kernel
theorem d_Od_add_81 : decode prog_8_method_8_code 81 = .ok (.putfield 26, 3) := by decide +kernel
theorem d_Od_add_84 : decode prog_8_method_8_code 84 = .ok (.return_, 1) := by decide +kernel
theorem d_C_begin_0 : decode prog_1_method_14_code 0 = .ok (.aload_n 0, 1) := by decide +kernel
theorem d_C_begin_1 : decode prog_1_method_14_code 1 = .ok (.aload_n 1, 1) := by decide +kernel
theorem d_C_begin_2 : decode prog_1_method_14_code 2 = .ok (.putfield 42, 3) := by decide +kernel
theorem d_C_begin_5 : decode prog_1_method_14_code 5 = .ok (.aload_n 0, 1) := by decide +kernel
theorem d_C_begin_6 : decode prog_1_method_14_code 6 = .ok (.new 63, 3) := by decide +kernel
theorem d_C_begin_9 : decode prog_1_method_14_code 9 = .ok (.dup, 1) := by decide +kernel
theorem d_C_begin_10 : decode prog_1_method_14_code 10 = .ok (.aload_n 1, 1) := by decide +kernel
theorem d_C_begin_11 : decode prog_1_method_14_code 11 = .ok (.invokespecial 129, 3) := by decide +kernel
theorem d_C_begin_14 : decode prog_1_method_14_code 14 = .ok (.putfield 58, 3) := by decide +kernel
theorem d_C_begin_17 : decode prog_1_method_14_code 17 = .ok (.aload_n 0, 1) := by decide +kernel
theorem d_C_begin_18 : decode prog_1_method_14_code 18 = .ok (.new 108, 3) := by decide +kernel
theorem d_C_begin_21 : decode prog_1_method_14_code 21 = .ok (.dup, 1) := by decide +kernel
theorem d_C_begin_22 : decode prog_1_method_14_code 22 = .ok (.aload_n 1, 1) := by decide +kernel
theorem d_C_begin_23 : decode prog_1_method_14_code 23 = .ok (.invokespecial 131, 3) := by decide +kernel
theorem d_C_begin_26 : decode prog_1_method_14_code 26 = .ok (.putfield 103, 3) := by decide +kernel
theorem d_C_begin_29 : decode prog_1_method_14_code 29 = .ok (.aload_n 0, 1) := by decide +kernel
theorem d_C_begin_30 : decode prog_1_method_14_code 30 = .ok (.iconst 0, 1) := by decide +kernel
theorem d_C_begin_31 : decode prog_1_method_14_code 31 = .ok (.putfield 54, 3) := by decide +kernel
theorem d_C_begin_34 : decode prog_1_method_14_code 34 = .ok (.return_, 1) := by decide +kernel
theorem d_An_init_0 : decode prog_2_method_1_code 0 = .ok (.aload_n 0, 1) := by decide +kernel
theorem d_An_init_1 : decode prog_2_method_1_code 1 = .ok (.invokespecial 3, 3) := by decide +kernel
theorem d_An_init_4 : decode prog_2_method_1_code 4 = .ok (.aload_n 0, 1) := by decide +kernel
theorem d_An_init_5 : decode prog_2_method_1_code 5 = .ok (.sipush 300, 3) := by decide +kernel
theorem d_An_init_8 : decode prog_2_method_1_code 8 = .ok (.newarray .int, 2) := by decide +kernel
theorem d_An_init_10 : decode prog_2_method_1_code 10 = .ok (.putfield 9, 3) := by decide +kernel
theorem d_An_init_13 : decode prog_2_method_1_code 13 = .ok (.aload_n 0, 1) := by decide +kernel
theorem d_An_init_14 : decode prog_2_method_1_code 14 = .ok (.bipush 100, 2) := by decide +kernel
theorem d_An_init_16 : decode prog_2_method_1_code 16 = .ok (.newarray .int, 2) := by decide +kernel
theorem d_An_init_18 : decode prog_2_method_1_code 18 = .ok (.putfield 15, 3) := by decide +kernel
theorem d_An_init_21 : decode prog_2_method_1_code 21 = .ok (.aload_n 0, 1) := by decide +kernel
theorem d_An_init_22 : decode prog_2_method_1_code 22 = .ok (.bipush 72, 2) := by decide +kernel
theorem d_An_init_24 : decode prog_2_method_1_code 24 = .ok (.newarray .int, 2) := by decide +kernel
theorem d_An_init_26 : decode prog_2_method_1_code 26 = .ok (.putfield 18, 3) := by decide +kernel
theorem d_An_init_29 : decode prog_2_method_1_code 29 = .ok (.aload_n 0, 1) := by decide +kernel
theorem d_An_init_30 : decode prog_2_method_1_code 30 = .ok (.bipush 20, 2) := by decide +kernel
theorem d_An_init_32 : decode prog_2_method_1_code 32 = .ok (.newarray .int, 2) := by decide +kernel
theorem d_An_init_34 : decode prog_2_method_1_code 34 = .ok (.putfield 21, 3) := by decide +kernel
theorem d_An_init_37 : decode prog_2_method_1_code 37 = .ok (.aload_n 0, 1) := by decide +kernel
theorem d_An_init_38 : decode prog_2_method_1_code 38 = .ok (.bipush 20, 2) := by decide +kernel
theorem d_An_init_40 : decode prog_2_method_1_code 40 = .ok (.newarray .boolean, 2) := by decide +kernel
theorem d_An_init_42 : decode prog_2_method_1_code 42 = .ok (.putfield 24, 3) := by decide +kernel
theorem d_An_init_45 : decode prog_2_method_1_code 45 = .ok (.aload_n 0, 1) := by decide +kernel
theorem d_An_init_46 : decode prog_2_method_1_code 46 = .ok (.aload_n 1, 1) := by decide +kernel
theorem d_An_init_47 : decode prog_2_method_1_code 47 = .ok (.putfield 28, 3) := by decide +kernel
theorem d_An_init_50 : decode prog_2_method_1_code 50 = .ok (.aload_n 0, 1) := by decide +kernel
theorem d_An_init_51 : decode prog_2_method_1_code 51 = .ok (.new 32, 3) := by decide +kernel
theorem d_An_init_54 : decode prog_2_method_1_code 54 = .ok (.dup, 1) := by decide +kernel
theorem d_An_init_55 : decode prog_2_method_1_code 55 = .ok (.aload_n 1, 1) := by decide +kernel
theorem d_An_init_56 : decode prog_2_method_1_code 56 = .ok (.invokespecial 34, 3) := by decide +kernel
theorem d_An_init_59 : decode prog_2_method_1_code 59 = .ok (.putfield 37, 3) := by decide +kernel
theorem d_An_init_62 : decode prog_2_method_1_code 62 = .ok (.return_, 1) := by decide +kernel
theorem d_Wk_init_0 : decode prog_12_method_1_code 0 = .ok (.aload_n 0, 1) := by decide +kernel
theorem d_Wk_init_1 : decode prog_12_method_1_code 1 = .ok (.invokespecial 3, 3) := by decide +kernel
theorem d_Wk_init_4 : decode prog_12_method_1_code 4 = .ok (.aload_n 0, 1) := by decide +kernel
theorem d_Wk_init_5 : decode prog_12_method_1_code 5 = .ok (.bipush 72, 2) := by decide +kernel
theorem d_Wk_init_7 : decode prog_12_method_1_code 7 = .ok (.newarray .int, 2) := by decide +kernel
theorem d_Wk_init_9 : decode prog_12_method_1_code 9 = .ok (.putfield 9, 3) := by decide +kernel
theorem d_Wk_init_12 : decode prog_12_method_1_code 12 = .ok (.aload_n 0, 1) := by decide +kernel
theorem d_Wk_init_13 : decode prog_12_method_1_code 13 = .ok (.iconst 3, 1) := by decide +kernel
theorem d_Wk_init_14 : decode prog_12_method_1_code 14 = .ok (.newarray .int, 2) := by decide +kernel
theorem d_Wk_init_16 : decode prog_12_method_1_code 16 = .ok (.putfield 15, 3) := by decide +kernel
theorem d_Wk_init_19 : decode prog_12_method_1_code 19 = .ok (.aload_n 0, 1) := by decide +kernel
theorem d_Wk_init_20 : decode prog_12_method_1_code 20 = .ok (.iconst 3, 1) := by decide +kernel
theorem d_Wk_init_21 : decode prog_12_method_1_code 21 = .ok (.newarray .int, 2) := by decide +kernel
theorem d_Wk_init_23 : decode prog_12_method_1_code 23 = .ok (.putfield 18, 3) := by decide +kernel
theorem d_Wk_init_26 : decode prog_12_method_1_code 26 = .ok (.aload_n 0, 1) := by decide +kernel
theorem d_Wk_init_27 : decode prog_12_method_1_code 27 = .ok (.bipush 12, 2) := by decide +kernel
theorem d_Wk_init_29 : decode prog_12_method_1_code 29 = .ok (.newarray .int, 2) := by decide +kernel
theorem d_Wk_init_31 : decode prog_12_method_1_code 31 = .ok (.putfield 21, 3) := by decide +kernel
theorem d_Wk_init_34 : decode prog_12_method_1_code 34 = .ok (.aload_n 0, 1) := by decide +kernel
theorem d_Wk_init_35 : decode prog_12_method_1_code 35 = .ok (.aload_n 1, 1) := by decide +kernel
theorem d_Wk_init_36 : decode prog_12_method_1_code 36 = .ok (.invokevirtual 24, 3) := by decide +kernel
theorem d_Wk_init_39 : decode prog_12_method_1_code 39 = .ok (.putfield 30, 3) := by decide +kernel
theorem d_Wk_init_42 : decode prog_12_method_1_code 42 = .ok (.aload_n 0, 1) := by decide +kernel
theorem d_Wk_init_43 : decode prog_12_method_1_code 43 = .ok (.aload_n 1, 1) := by decide +kernel
theorem d_Wk_init_44 : decode prog_12_method_1_code 44 = .ok (.invokevirtual 33, 3) := by decide +kernel
theorem d_Wk_init_47 : decode prog_12_method_1_code 47 = .ok (.putfield 37, 3) := by decide +kernel
theorem d_Wk_init_50 : decode prog_12_method_1_code 50 = .ok (.return_, 1) := by decide +kernel
theorem d_Pz_orders_0 : decode prog_9_method_7_code 0 = .ok (.aload_n 0, 1) := by decide +kernel
theorem d_Pz_orders_1 : decode prog_9_method_7_code 1 = .ok (.getfield 32, 3) := by decide +kernel
theorem d_Pz_orders_4 : decode prog_9_method_7_code 4 = .ok (.areturn, 1) := by decide +kernel
theorem d_Pz_kinds_0 : decode prog_9_method_4_code 0 = .ok (.aload_n 0, 1) := by decide +kernel
theorem d_Pz_kinds_1 : decode prog_9_method_4_code 1 = .ok (.getfield 21, 3) := by decide +kernel
theorem d_Pz_kinds_4 : decode prog_9_method_4_code 4 = .ok (.ireturn, 1) := by decide +kernel
theorem d_Cr_init_0 : decode prog_4_method_1_code 0 = .ok (.aload_n 0, 1) := by decide +kernel
theorem d_Cr_init_1 : decode prog_4_method_1_code 1 = .ok (.invokespecial 3, 3) := by decide +kernel
theorem d_Cr_init_4 : decode prog_4_method_1_code 4 = .ok (.aload_n 0, 1) := by decide +kernel
theorem d_Cr_init_5 : decode prog_4_method_1_code 5 = .ok (.iconst 3, 1) := by decide +kernel
theorem d_Cr_init_6 : decode prog_4_method_1_code 6 = .ok (.newarray .int, 2) := by decide +kernel
theorem d_Cr_init_8 : decode prog_4_method_1_code 8 = .ok (.putfield 9, 3) := by decide +kernel
theorem d_Cr_init_11 : decode prog_4_method_1_code 11 = .ok (.aload_n 0, 1) := by decide +kernel
theorem d_Cr_init_12 : decode prog_4_method_1_code 12 = .ok (.iconst 3, 1) := by decide +kernel
theorem d_Cr_init_13 : decode prog_4_method_1_code 13 = .ok (.newarray .int, 2) := by decide +kernel
theorem d_Cr_init_15 : decode prog_4_method_1_code 15 = .ok (.putfield 15, 3) := by decide +kernel
theorem d_Cr_init_18 : decode prog_4_method_1_code 18 = .ok (.aload_n 0, 1) := by decide +kernel
theorem d_Cr_init_19 : decode prog_4_method_1_code 19 = .ok (.bipush 54, 2) := by decide +kernel
theorem d_Cr_init_21 : decode prog_4_method_1_code 21 = .ok (.newarray .int, 2) := by decide +kernel
theorem d_Cr_init_23 : decode prog_4_method_1_code 23 = .ok (.putfield 18, 3) := by decide +kernel
theorem d_Cr_init_26 : decode prog_4_method_1_code 26 = .ok (.aload_n 0, 1) := by decide +kernel
theorem d_Cr_init_27 : decode prog_4_method_1_code 27 = .ok (.bipush 54, 2) := by decide +kernel
theorem d_Cr_init_29 : decode prog_4_method_1_code 29 = .ok (.newarray .int, 2) := by decide +kernel
theorem d_Cr_init_31 : decode prog_4_method_1_code 31 = .ok (.putfield 21, 3) := by decide +kernel
theorem d_Cr_init_34 : decode prog_4_method_1_code 34 = .ok (.aload_n 0, 1) := by decide +kernel
theorem d_Cr_init_35 : decode prog_4_method_1_code 35 = .ok (.aload_n 1, 1) := by decide +kernel
theorem d_Cr_init_36 : decode prog_4_method_1_code 36 = .ok (.putfield 24, 3) := by decide +kernel
theorem d_Cr_init_39 : decode prog_4_method_1_code 39 = .ok (.aload_n 0, 1) := by decide +kernel
theorem d_Cr_init_40 : decode prog_4_method_1_code 40 = .ok (.new 28, 3) := by decide +kernel
theorem d_Cr_init_43 : decode prog_4_method_1_code 43 = .ok (.dup, 1) := by decide +kernel
theorem d_Cr_init_44 : decode prog_4_method_1_code 44 = .ok (.aload_n 1, 1) := by decide +kernel
theorem d_Cr_init_45 : decode prog_4_method_1_code 45 = .ok (.invokespecial 30, 3) := by decide +kernel
theorem d_Cr_init_48 : decode prog_4_method_1_code 48 = .ok (.putfield 33, 3) := by decide +kernel
theorem d_Cr_init_51 : decode prog_4_method_1_code 51 = .ok (.iconst 0, 1) := by decide +kernel
theorem d_Cr_init_52 : decode prog_4_method_1_code 52 = .ok (.istore_n 2, 1) := by decide +kernel
theorem d_Cr_init_53 : decode prog_4_method_1_code 53 = .ok (.iload_n 2, 1) := by decide +kernel
theorem d_Cr_init_54 : decode prog_4_method_1_code 54 = .ok (.aload_n 1, 1) := by decide +kernel
theorem d_Cr_init_55 : decode prog_4_method_1_code 55 = .ok (.invokevirtual 37, 3) := by decide +kernel
theorem d_Cr_init_58 : decode prog_4_method_1_code 58 = .ok (.if_icmp .ge 22, 3) := by decide +kernel
theorem d_Cr_init_61 : decode prog_4_method_1_code 61 = .ok (.aload_n 0, 1) := by decide +kernel
theorem d_Cr_init_62 : decode prog_4_method_1_code 62 = .ok (.getfield 9, 3) := by decide +kernel
theorem d_Cr_init_65 : decode prog_4_method_1_code 65 = .ok (.iload_n 2, 1) := by decide +kernel
theorem d_Cr_init_66 : decode prog_4_method_1_code 66 = .ok (.aload_n 1, 1) := by decide +kernel
theorem d_Cr_init_67 : decode prog_4_method_1_code 67 = .ok (.invokevirtual 43, 3) := by decide +kernel
theorem d_Cr_init_70 : decode prog_4_method_1_code 70 = .ok (.invokevirtual 47, 3) := by decide +kernel
theorem d_Cr_init_73 : decode prog_4_method_1_code 73 = .ok (.iastore, 1) := by decide +kernel
theorem d_Cr_init_74 : decode prog_4_method_1_code 74 = .ok (.iinc 2 1, 3) := by decide +kernel
theorem d_Cr_init_77 : decode prog_4_method_1_code 77 = .ok (.goto (-24), 3) := by decide +kernel
theorem d_Cr_init_80 : decode prog_4_method_1_code 80 = .ok (.aload_n 0, 1) := by decide +kernel
theorem d_Cr_init_81 : decode prog_4_method_1_code 81 = .ok (.aload_n 0, 1) := by decide +kernel
theorem d_Cr_init_82 : decode prog_4_method_1_code 82 = .ok (.aload_n 1, 1) := by decide +kernel
theorem d_Cr_init_83 : decode prog_4_method_1_code 83 = .ok (.invokevirtual 52, 3) := by decide +kernel
theorem d_Cr_init_86 : decode prog_4_method_1_code 86 = .ok (.invokevirtual 55, 3) := by decide +kernel
theorem d_Cr_init_89 : decode prog_4_method_1_code 89 = .ok (.putfield 59, 3) := by decide +kernel
theorem d_Cr_init_92 : decode prog_4_method_1_code 92 = .ok (.return_, 1) := by decide +kernel
theorem d_Od_allTicks_0 : decode prog_8_method_5_code 0 = .ok (.aload_n 0, 1) := by decide +kernel
theorem d_Od_allTicks_1 : decode prog_8_method_5_code 1 = .ok (.getfield 29, 3) := by decide +kernel
theorem d_Od_allTicks_4 : decode prog_8_method_5_code 4 = .ok (.ireturn, 1) := by decide +kernel
theorem d_Pz_parties_0 : decode prog_9_method_14_code 0 = .ok (.getstatic 39, 3) := by decide +kernel
theorem d_Pz_parties_3 : decode prog_9_method_14_code 3 = .ok (.aload_n 0, 1) := by decide +kernel
theorem d_Pz_parties_4 : decode prog_9_method_14_code 4 = .ok (.getfield 24, 3) := by decide +kernel
theorem d_Pz_parties_7 : decode prog_9_method_14_code 7 = .ok (.iaload, 1) := by decide +kernel
theorem d_Pz_parties_8 : decode prog_9_method_14_code 8 = .ok (.ireturn, 1) := by decide +kernel
theorem d_Cr_waysIn_0 : decode prog_4_method_12_code 0 = .ok (.iconst 0, 1) := by decide +kernel
theorem d_Cr_waysIn_1 : decode prog_4_method_12_code 1 = .ok (.istore_n 2, 1) := by decide +kernel
theorem d_Cr_waysIn_2 : decode prog_4_method_12_code 2 = .ok (.iconst 0, 1) := by decide +kernel
theorem d_Cr_waysIn_3 : decode prog_4_method_12_code 3 = .ok (.istore_n 3, 1) := by decide +kernel
theorem d_Cr_waysIn_4 : decode prog_4_method_12_code 4 = .ok (.iload_n 3, 1) := by decide +kernel
theorem d_Cr_waysIn_5 : decode prog_4_method_12_code 5 = .ok (.aload_n 0, 1) := by decide +kernel
theorem d_Cr_waysIn_6 : decode prog_4_method_12_code 6 = .ok (.getfield 24, 3) := by decide +kernel
theorem d_Cr_waysIn_9 : decode prog_4_method_12_code 9 = .ok (.invokevirtual 132, 3) := by decide +kernel
theorem d_Cr_waysIn_12 : decode prog_4_method_12_code 12 = .ok (.if_icmp .ge 57, 3) := by decide +kernel
theorem d_Cr_waysIn_15 : decode prog_4_method_12_code 15 = .ok (.iload_n 1, 1) := by decide +kernel
theorem d_Cr_waysIn_16 : decode prog_4_method_12_code 16 = .ok (.getstatic 138, 3) := by decide +kernel
theorem d_Cr_waysIn_19 : decode prog_4_method_12_code 19 = .ok (.iload_n 3, 1) := by decide +kernel
theorem d_Cr_waysIn_20 : decode prog_4_method_12_code 20 = .ok (.iaload, 1) := by decide +kernel
theorem d_Cr_waysIn_21 : decode prog_4_method_12_code 21 = .ok (.iconst (-1), 1) := by decide +kernel
theorem d_Cr_waysIn_22 : decode prog_4_method_12_code 22 = .ok (.ixor, 1) := by decide +kernel
theorem d_Cr_waysIn_23 : decode prog_4_method_12_code 23 = .ok (.iand, 1) := by decide +kernel
theorem d_Cr_waysIn_24 : decode prog_4_method_12_code 24 = .ok (.ifCond .eq 7, 3) := by decide +kernel
theorem d_Cr_waysIn_27 : decode prog_4_method_12_code 27 = .ok (.iconst 1, 1) := by decide +kernel
theorem d_Cr_waysIn_28 : decode prog_4_method_12_code 28 = .ok (.goto 4, 3) := by decide +kernel
theorem d_Cr_waysIn_31 : decode prog_4_method_12_code 31 = .ok (.iconst 0, 1) := by decide +kernel
theorem d_Cr_waysIn_32 : decode prog_4_method_12_code 32 = .ok (.istore 4, 2) := by decide +kernel
theorem d_Cr_waysIn_34 : decode prog_4_method_12_code 34 = .ok (.iload_n 1, 1) := by decide +kernel
theorem d_Cr_waysIn_35 : decode prog_4_method_12_code 35 = .ok (.getstatic 138, 3) := by decide +kernel
theorem d_Cr_waysIn_38 : decode prog_4_method_12_code 38 = .ok (.iload_n 3, 1) := by decide +kernel
theorem d_Cr_waysIn_39 : decode prog_4_method_12_code 39 = .ok (.iaload, 1) := by decide +kernel
theorem d_Cr_waysIn_40 : decode prog_4_method_12_code 40 = .ok (.iand, 1) := by decide +kernel
theorem d_Cr_waysIn_41 : decode prog_4_method_12_code 41 = .ok (.ifCond .eq 7, 3) := by decide +kernel
theorem d_Cr_waysIn_44 : decode prog_4_method_12_code 44 = .ok (.iconst 2, 1) := by decide +kernel
theorem d_Cr_waysIn_45 : decode prog_4_method_12_code 45 = .ok (.goto 4, 3) := by decide +kernel
theorem d_Cr_waysIn_48 : decode prog_4_method_12_code 48 = .ok (.iconst 0, 1) := by decide +kernel
theorem d_Cr_waysIn_49 : decode prog_4_method_12_code 49 = .ok (.istore 5, 2) := by decide +kernel
theorem d_Cr_waysIn_51 : decode prog_4_method_12_code 51 = .ok (.iload_n 2, 1) := by decide +kernel
theorem d_Cr_waysIn_52 : decode prog_4_method_12_code 52 = .ok (.iload 4, 2) := by decide +kernel
theorem d_Cr_waysIn_54 : decode prog_4_method_12_code 54 = .ok (.iload 5, 2) := by decide +kernel
theorem d_Cr_waysIn_56 : decode prog_4_method_12_code 56 = .ok (.ior, 1) := by decide +kernel
theorem d_Cr_waysIn_57 : decode prog_4_method_12_code 57 = .ok (.iconst 2, 1) := by decide +kernel
theorem d_Cr_waysIn_58 : decode prog_4_method_12_code 58 = .ok (.iload_n 3, 1) := by decide +kernel
theorem d_Cr_waysIn_59 : decode prog_4_method_12_code 59 = .ok (.imul, 1) := by decide +kernel
theorem d_Cr_waysIn_60 : decode prog_4_method_12_code 60 = .ok (.ishl, 1) := by decide +kernel
theorem d_Cr_waysIn_61 : decode prog_4_method_12_code 61 = .ok (.ior, 1) := by decide +kernel
theorem d_Cr_waysIn_62 : decode prog_4_method_12_code 62 = .ok (.istore_n 2, 1) := by decide +kernel
theorem d_Cr_waysIn_63 : decode prog_4_method_12_code 63 = .ok (.iinc 3 1, 3) := by decide +kernel
theorem d_Cr_waysIn_66 : decode prog_4_method_12_code 66 = .ok (.goto (-62), 3) := by decide +kernel
theorem d_Cr_waysIn_69 : decode prog_4_method_12_code 69 = .ok (.iload_n 2, 1) := by decide +kernel
theorem d_Cr_waysIn_70 : decode prog_4_method_12_code 70 = .ok (.ireturn, 1) := by decide +kernel
theorem d_Pz_persons_0 : decode prog_9_method_5_code 0 = .ok (.aload_n 0, 1) := by decide +kernel
theorem d_Pz_persons_1 : decode prog_9_method_5_code 1 = .ok (.getfield 24, 3) := by decide +kernel
theorem d_Pz_persons_4 : decode prog_9_method_5_code 4 = .ok (.ireturn, 1) := by decide +kernel
theorem d_C_unit_0 : decode prog_1_method_2_code 0 = .ok (.iload_n 1, 1) := by decide +kernel
theorem d_C_unit_1 : decode prog_1_method_2_code 1 = .ok (.ifCond .lt 20, 3) := by decide +kernel
theorem d_C_unit_4 : decode prog_1_method_2_code 4 = .ok (.iload_n 1, 1) := by decide +kernel
theorem d_C_unit_5 : decode prog_1_method_2_code 5 = .ok (.sipush 255, 3) := by decide +kernel
theorem d_C_unit_8 : decode prog_1_method_2_code 8 = .ok (.if_icmp .gt 13, 3) := by decide +kernel
theorem d_C_unit_11 : decode prog_1_method_2_code 11 = .ok (.aload_n 0, 1) := by decide +kernel
theorem d_C_unit_12 : decode prog_1_method_2_code 12 = .ok (.getfield 22, 3) := by decide +kernel
theorem d_C_unit_15 : decode prog_1_method_2_code 15 = .ok (.sipush 300, 3) := by decide +kernel
theorem d_C_unit_18 : decode prog_1_method_2_code 18 = .ok (.if_icmp .lt 5, 3) := by decide +kernel
theorem d_C_unit_21 : decode prog_1_method_2_code 21 = .ok (.iconst 0, 1) := by decide +kernel
theorem d_C_unit_22 : decode prog_1_method_2_code 22 = .ok (.ireturn, 1) := by decide +kernel
theorem d_C_unit_23 : decode prog_1_method_2_code 23 = .ok (.aload_n 0, 1) := by decide +kernel
theorem d_C_unit_24 : decode prog_1_method_2_code 24 = .ok (.getfield 9, 3) := by decide +kernel
theorem d_C_unit_27 : decode prog_1_method_2_code 27 = .ok (.aload_n 0, 1) := by decide +kernel
theorem d_C_unit_28 : decode prog_1_method_2_code 28 = .ok (.getfield 22, 3) := by decide +kernel
theorem d_C_unit_31 : decode prog_1_method_2_code 31 = .ok (.iload_n 1, 1) := by decide +kernel
theorem d_C_unit_32 : decode prog_1_method_2_code 32 = .ok (.iastore, 1) := by decide +kernel
theorem d_C_unit_33 : decode prog_1_method_2_code 33 = .ok (.aload_n 0, 1) := by decide +kernel
theorem d_C_unit_34 : decode prog_1_method_2_code 34 = .ok (.dup, 1) := by decide +kernel
theorem d_C_unit_35 : decode prog_1_method_2_code 35 = .ok (.getfield 22, 3) := by decide +kernel
theorem d_C_unit_38 : decode prog_1_method_2_code 38 = .ok (.iconst 1, 1) := by decide +kernel
theorem d_C_unit_39 : decode prog_1_method_2_code 39 = .ok (.iadd, 1) := by decide +kernel
theorem d_C_unit_40 : decode prog_1_method_2_code 40 = .ok (.putfield 22, 3) := by decide +kernel
theorem d_C_unit_43 : decode prog_1_method_2_code 43 = .ok (.iconst 1, 1) := by decide +kernel
theorem d_C_unit_44 : decode prog_1_method_2_code 44 = .ok (.ireturn, 1) := by decide +kernel
theorem d_C_read_0 : decode prog_1_method_3_code 0 = .ok (.new 26, 3) := by decide +kernel
theorem d_C_read_3 : decode prog_1_method_3_code 3 = .ok (.dup, 1) := by decide +kernel
theorem d_C_read_4 : decode prog_1_method_3_code 4 = .ok (.aload_n 0, 1) := by decide +kernel
theorem d_C_read_5 : decode prog_1_method_3_code 5 = .ok (.getfield 9, 3) := by decide +kernel
theorem d_C_read_8 : decode prog_1_method_3_code 8 = .ok (.aload_n 0, 1) := by decide +kernel
theorem d_C_read_9 : decode prog_1_method_3_code 9 = .ok (.getfield 22, 3) := by decide +kernel
theorem d_C_read_12 : decode prog_1_method_3_code 12 = .ok (.invokespecial 28, 3) := by decide +kernel
theorem d_C_read_15 : decode prog_1_method_3_code 15 = .ok (.astore_n 1, 1) := by decide +kernel
theorem d_C_read_16 : decode prog_1_method_3_code 16 = .ok (.aload_n 1, 1) := by decide +kernel
theorem d_C_read_17 : decode prog_1_method_3_code 17 = .ok (.invokevirtual 31, 3) := by decide +kernel
theorem d_C_read_20 : decode prog_1_method_3_code 20 = .ok (.astore_n 2, 1) := by decide +kernel
theorem d_C_read_21 : decode prog_1_method_3_code 21 = .ok (.aload_n 0, 1) := by decide +kernel
theorem d_C_read_22 : decode prog_1_method_3_code 22 = .ok (.iconst 0, 1) := by decide +kernel
theorem d_C_read_23 : decode prog_1_method_3_code 23 = .ok (.putfield 22, 3) := by decide +kernel
theorem d_C_read_26 : decode prog_1_method_3_code 26 = .ok (.aload_n 2, 1) := by decide +kernel
theorem d_C_read_27 : decode prog_1_method_3_code 27 = .ok (.ifnonnull 10, 3) := by decide +kernel
theorem d_C_read_30 : decode prog_1_method_3_code 30 = .ok (.iconst (-1), 1) := by decide +kernel
theorem d_C_read_31 : decode prog_1_method_3_code 31 = .ok (.aload_n 1, 1) := by decide +kernel
theorem d_C_read_32 : decode prog_1_method_3_code 32 = .ok (.invokevirtual 35, 3) := by decide +kernel
theorem d_C_read_35 : decode prog_1_method_3_code 35 = .ok (.isub, 1) := by decide +kernel
theorem d_C_read_36 : decode prog_1_method_3_code 36 = .ok (.ireturn, 1) := by decide +kernel
theorem d_C_read_37 : decode prog_1_method_3_code 37 = .ok (.aload_n 0, 1) := by decide +kernel
theorem d_C_read_38 : decode prog_1_method_3_code 38 = .ok (.aload_n 2, 1) := by decide +kernel
theorem d_C_read_39 : decode prog_1_method_3_code 39 = .ok (.invokevirtual 18, 3) := by decide +kernel
theorem d_C_read_42 : decode prog_1_method_3_code 42 = .ok (.aload_n 2, 1) := by decide +kernel
theorem d_C_read_43 : decode prog_1_method_3_code 43 = .ok (.invokevirtual 39, 3) := by decide +kernel
theorem d_C_read_46 : decode prog_1_method_3_code 46 = .ok (.ireturn, 1) := by decide +kernel
theorem d_Rd_init_0 : decode prog_10_method_1_code 0 = .ok (.aload_n 0, 1) := by decide +kernel
theorem d_Rd_init_1 : decode prog_10_method_1_code 1 = .ok (.invokespecial 3, 3) := by decide +kernel
theorem d_Rd_init_4 : decode prog_10_method_1_code 4 = .ok (.aload_n 0, 1) := by decide +kernel
theorem d_Rd_init_5 : decode prog_10_method_1_code 5 = .ok (.aload_n 1, 1) := by decide +kernel
theorem d_Rd_init_6 : decode prog_10_method_1_code 6 = .ok (.putfield 9, 3) := by decide +kernel
theorem d_Rd_init_9 : decode prog_10_method_1_code 9 = .ok (.aload_n 0, 1) := by decide +kernel
theorem d_Rd_init_10 : decode prog_10_method_1_code 10 = .ok (.iload_n 2, 1) := by decide +kernel
theorem d_Rd_init_11 : decode prog_10_method_1_code 11 = .ok (.putfield 15, 3) := by decide +kernel
theorem d_Rd_init_14 : decode prog_10_method_1_code 14 = .ok (.return_, 1) := by decide +kernel
theorem d_Rd_puzzle_0 : decode prog_10_method_3_code 0 = .ok (.aload_n 0, 1) := by decide +kernel
theorem d_Rd_puzzle_1 : decode prog_10_method_3_code 1 = .ok (.invokevirtual 22, 3) := by decide +kernel
theorem d_Rd_puzzle_4 : decode prog_10_method_3_code 4 = .ok (.ifCond .ne 5, 3) := by decide +kernel
theorem d_Rd_puzzle_7 : decode prog_10_method_3_code 7 = .ok (.aconst_null, 1) := by decide +kernel
theorem d_Rd_puzzle_8 : decode prog_10_method_3_code 8 = .ok (.areturn, 1) := by decide +kernel
theorem d_Rd_puzzle_9 : decode prog_10_method_3_code 9 = .ok (.new 26, 3) := by decide +kernel
theorem d_Rd_puzzle_12 : decode prog_10_method_3_code 12 = .ok (.dup, 1) := by decide +kernel
theorem d_Rd_puzzle_13 : decode prog_10_method_3_code 13 = .ok (.aload_n 0, 1) := by decide +kernel
theorem d_Rd_puzzle_14 : decode prog_10_method_3_code 14 = .ok (.getfield 28, 3) := by decide +kernel
theorem d_Rd_puzzle_17 : decode prog_10_method_3_code 17 = .ok (.aload_n 0, 1) := by decide +kernel
theorem d_Rd_puzzle_18 : decode prog_10_method_3_code 18 = .ok (.getfield 31, 3) := by decide +kernel
theorem d_Rd_puzzle_21 : decode prog_10_method_3_code 21 = .ok (.aload_n 0, 1) := by decide +kernel
theorem d_Rd_puzzle_22 : decode prog_10_method_3_code 22 = .ok (.getfield 34, 3) := by decide +kernel
theorem d_Rd_puzzle_25 : decode prog_10_method_3_code 25 = .ok (.invokespecial 37, 3) := by decide +kernel
theorem d_Rd_puzzle_28 : decode prog_10_method_3_code 28 = .ok (.astore_n 1, 1) := by decide +kernel
theorem d_Rd_puzzle_29 : decode prog_10_method_3_code 29 = .ok (.iconst 0, 1) := by decide +kernel
theorem d_Rd_puzzle_30 : decode prog_10_method_3_code 30 = .ok (.istore_n 2, 1) := by decide +kernel
theorem d_Rd_puzzle_31 : decode prog_10_method_3_code 31 = .ok (.iload_n 2, 1) := by decide +kernel
theorem d_Rd_puzzle_32 : decode prog_10_method_3_code 32 = .ok (.bipush 20, 2) := by decide +kernel
theorem d_Rd_puzzle_34 : decode prog_10_method_3_code 34 = .ok (.if_icmp .gt 54, 3) := by decide +kernel
theorem d_Rd_puzzle_37 : decode prog_10_method_3_code 37 = .ok (.aload_n 0, 1) := by decide +kernel
theorem d_Rd_puzzle_38 : decode prog_10_method_3_code 38 = .ok (.getfield 19, 3) := by decide +kernel
theorem d_Rd_puzzle_41 : decode prog_10_method_3_code 41 = .ok (.aload_n 0, 1) := by decide +kernel
theorem d_Rd_puzzle_42 : decode prog_10_method_3_code 42 = .ok (.getfield 15, 3) := by decide +kernel
theorem d_Rd_puzzle_45 : decode prog_10_method_3_code 45 = .ok (.if_icmp .ge 43, 3) := by decide +kernel
theorem d_Rd_puzzle_48 : decode prog_10_method_3_code 48 = .ok (.aload_n 0, 1) := by decide +kernel
theorem d_Rd_puzzle_49 : decode prog_10_method_3_code 49 = .ok (.iconst 0, 1) := by decide +kernel
theorem d_Rd_puzzle_50 : decode prog_10_method_3_code 50 = .ok (.putfield 40, 3) := by decide +kernel
theorem d_Rd_puzzle_53 : decode prog_10_method_3_code 53 = .ok (.aload_n 0, 1) := by decide +kernel
theorem d_Rd_puzzle_54 : decode prog_10_method_3_code 54 = .ok (.invokevirtual 43, 3) := by decide +kernel
theorem d_Rd_puzzle_57 : decode prog_10_method_3_code 57 = .ok (.astore_n 3, 1) := by decide +kernel
theorem d_Rd_puzzle_58 : decode prog_10_method_3_code 58 = .ok (.aload_n 3, 1) := by decide +kernel
theorem d_Rd_puzzle_59 : decode prog_10_method_3_code 59 = .ok (.ifnull 16, 3) := by decide +kernel
theorem d_Rd_puzzle_62 : decode prog_10_method_3_code 62 = .ok (.iload_n 2, 1) := by decide +kernel
theorem d_Rd_puzzle_63 : decode prog_10_method_3_code 63 = .ok (.bipush 20, 2) := by decide +kernel
theorem d_Rd_puzzle_65 : decode prog_10_method_3_code 65 = .ok (.if_icmp .eq 10, 3) := by decide +kernel
theorem d_Rd_puzzle_68 : decode prog_10_method_3_code 68 = .ok (.aload_n 0, 1) := by decide +kernel
theorem d_Rd_puzzle_69 : decode prog_10_method_3_code 69 = .ok (.invokevirtual 47, 3) := by decide +kernel
theorem d_Rd_puzzle_72 : decode prog_10_method_3_code 72 = .ok (.ifCond .ne 5, 3) := by decide +kernel
theorem d_Rd_puzzle_75 : decode prog_10_method_3_code 75 = .ok (.aconst_null, 1) := by decide +kernel
theorem d_Rd_puzzle_76 : decode prog_10_method_3_code 76 = .ok (.areturn, 1) := by decide +kernel
theorem d_Rd_puzzle_77 : decode prog_10_method_3_code 77 = .ok (.aload_n 1, 1) := by decide +kernel
theorem d_Rd_puzzle_78 : decode prog_10_method_3_code 78 = .ok (.aload_n 3, 1) := by decide +kernel
theorem d_Rd_puzzle_79 : decode prog_10_method_3_code 79 = .ok (.invokevirtual 50, 3) := by decide +kernel
theorem d_Rd_puzzle_82 : decode prog_10_method_3_code 82 = .ok (.iinc 2 1, 3) := by decide +kernel
theorem d_Rd_puzzle_85 : decode prog_10_method_3_code 85 = .ok (.goto (-54), 3) := by decide +kernel
theorem d_Rd_puzzle_88 : decode prog_10_method_3_code 88 = .ok (.aload_n 1, 1) := by decide +kernel
theorem d_Rd_puzzle_89 : decode prog_10_method_3_code 89 = .ok (.areturn, 1) := by decide +kernel
theorem d_Rd_passHead_0 : decode prog_10_method_4_code 0 = .ok (.aload_n 0, 1) := by decide +kernel
theorem d_Rd_passHead_1 : decode prog_10_method_4_code 1 = .ok (.aload_n 0, 1) := by decide +kernel
theorem d_Rd_passHead_2 : decode prog_10_method_4_code 2 = .ok (.bipush 48, 2) := by decide +kernel
theorem d_Rd_passHead_4 : decode prog_10_method_4_code 4 = .ok (.iconst 1, 1) := by decide +kernel
theorem d_Rd_passHead_5 : decode prog_10_method_4_code 5 = .ok (.iconst 4, 1) := by decide +kernel
theorem d_Rd_passHead_6 : decode prog_10_method_4_code 6 = .ok (.invokevirtual 54, 3) := by decide +kernel
theorem d_Rd_passHead_9 : decode prog_10_method_4_code 9 = .ok (.putfield 28, 3) := by decide +kernel
theorem d_Rd_passHead_12 : decode prog_10_method_4_code 12 = .ok (.aload_n 0, 1) := by decide +kernel
theorem d_Rd_passHead_13 : decode prog_10_method_4_code 13 = .ok (.getfield 28, 3) := by decide +kernel
theorem d_Rd_passHead_16 : decode prog_10_method_4_code 16 = .ok (.iconst (-1), 1) := by decide +kernel
theorem d_Rd_passHead_17 : decode prog_10_method_4_code 17 = .ok (.if_icmp .ne 5, 3) := by decide +kernel
theorem d_Rd_passHead_20 : decode prog_10_method_4_code 20 = .ok (.iconst 0, 1) := by decide +kernel
theorem d_Rd_passHead_21 : decode prog_10_method_4_code 21 = .ok (.ireturn, 1) := by decide +kernel
theorem d_Rd_passHead_22 : decode prog_10_method_4_code 22 = .ok (.aload_n 0, 1) := by decide +kernel
theorem d_Rd_passHead_23 : decode prog_10_method_4_code 23 = .ok (.aload_n 0, 1) := by decide +kernel
theorem d_Rd_passHead_24 : decode prog_10_method_4_code 24 = .ok (.bipush 48, 2) := by decide +kernel
theorem d_Rd_passHead_26 : decode prog_10_method_4_code 26 = .ok (.iconst 0, 1) := by decide +kernel
theorem d_Rd_passHead_27 : decode prog_10_method_4_code 27 = .ok (.iconst 3, 1) := by decide +kernel
theorem d_Rd_passHead_28 : decode prog_10_method_4_code 28 = .ok (.invokevirtual 54, 3) := by decide +kernel
theorem d_Rd_passHead_31 : decode prog_10_method_4_code 31 = .ok (.putfield 31, 3) := by decide +kernel
theorem d_Rd_passHead_34 : decode prog_10_method_4_code 34 = .ok (.aload_n 0, 1) := by decide +kernel
theorem d_Rd_passHead_35 : decode prog_10_method_4_code 35 = .ok (.getfield 31, 3) := by decide +kernel
theorem d_Rd_passHead_38 : decode prog_10_method_4_code 38 = .ok (.iconst (-1), 1) := by decide +kernel
theorem d_Rd_passHead_39 : decode prog_10_method_4_code 39 = .ok (.if_icmp .ne 5, 3) := by decide +kernel
theorem d_Rd_passHead_42 : decode prog_10_method_4_code 42 = .ok (.iconst 0, 1) := by decide +kernel
theorem d_Rd_passHead_43 : decode prog_10_method_4_code 43 = .ok (.ireturn, 1) := by decide +kernel
theorem d_Rd_passHead_44 : decode prog_10_method_4_code 44 = .ok (.aload_n 0, 1) := by decide +kernel
theorem d_Rd_passHead_45 : decode prog_10_method_4_code 45 = .ok (.aload_n 0, 1) := by decide +kernel
theorem d_Rd_passHead_46 : decode prog_10_method_4_code 46 = .ok (.bipush 48, 2) := by decide +kernel
theorem d_Rd_passHead_48 : decode prog_10_method_4_code 48 = .ok (.iconst 0, 1) := by decide +kernel
theorem d_Rd_passHead_49 : decode prog_10_method_4_code 49 = .ok (.iconst 3, 1) := by decide +kernel
theorem d_Rd_passHead_50 : decode prog_10_method_4_code 50 = .ok (.invokevirtual 54, 3) := by decide +kernel
theorem d_Rd_passHead_53 : decode prog_10_method_4_code 53 = .ok (.putfield 34, 3) := by decide +kernel
theorem d_Rd_passHead_56 : decode prog_10_method_4_code 56 = .ok (.aload_n 0, 1) := by decide +kernel
theorem d_Rd_passHead_57 : decode prog_10_method_4_code 57 = .ok (.getfield 34, 3) := by decide +kernel
theorem d_Rd_passHead_60 : decode prog_10_method_4_code 60 = .ok (.iconst (-1), 1) := by decide +kernel
theorem d_Rd_passHead_61 : decode prog_10_method_4_code 61 = .ok (.if_icmp .eq 14, 3) := by decide +kernel
theorem d_Rd_passHead_64 : decode prog_10_method_4_code 64 = .ok (.aload_n 0, 1) := by decide +kernel
theorem d_Rd_passHead_65 : decode prog_10_method_4_code 65 = .ok (.invokevirtual 47, 3) := by decide +kernel
theorem d_Rd_passHead_68 : decode prog_10_method_4_code 68 = .ok (.ifCond .eq 7, 3) := by decide +kernel
theorem d_Rd_passHead_71 : decode prog_10_method_4_code 71 = .ok (.iconst 1, 1) := by decide +kernel
theorem d_Rd_passHead_72 : decode prog_10_method_4_code 72 = .ok (.goto 4, 3) := by decide +kernel
theorem d_Rd_passHead_75 : decode prog_10_method_4_code 75 = .ok (.iconst 0, 1) := by decide +kernel
theorem d_Rd_passHead_76 : decode prog_10_method_4_code 76 = .ok (.ireturn, 1) := by decide +kernel
theorem d_Rd_take_0 : decode prog_10_method_13_code 0 = .ok (.aload_n 0, 1) := by decide +kernel
theorem d_Rd_take_1 : decode prog_10_method_13_code 1 = .ok (.getfield 19, 3) := by decide +kernel
theorem d_Rd_take_4 : decode prog_10_method_13_code 4 = .ok (.aload_n 0, 1) := by decide +kernel
theorem d_Rd_take_5 : decode prog_10_method_13_code 5 = .ok (.getfield 15, 3) := by decide +kernel
theorem d_Rd_take_8 : decode prog_10_method_13_code 8 = .ok (.if_icmp .lt 5, 3) := by decide +kernel
theorem d_Rd_take_11 : decode prog_10_method_13_code 11 = .ok (.iconst (-1), 1) := by decide +kernel
theorem d_Rd_take_12 : decode prog_10_method_13_code 12 = .ok (.ireturn, 1) := by decide +kernel
theorem d_Rd_take_13 : decode prog_10_method_13_code 13 = .ok (.aload_n 0, 1) := by decide +kernel
theorem d_Rd_take_14 : decode prog_10_method_13_code 14 = .ok (.getfield 9, 3) := by decide +kernel
theorem d_Rd_take_17 : decode prog_10_method_13_code 17 = .ok (.aload_n 0, 1) := by decide +kernel
theorem d_Rd_take_18 : decode prog_10_method_13_code 18 = .ok (.getfield 19, 3) := by decide +kernel
theorem d_Rd_take_21 : decode prog_10_method_13_code 21 = .ok (.iaload, 1) := by decide +kernel
theorem d_Rd_take_22 : decode prog_10_method_13_code 22 = .ok (.iload_n 1, 1) := by decide +kernel
theorem d_Rd_take_23 : decode prog_10_method_13_code 23 = .ok (.isub, 1) := by decide +kernel
theorem d_Rd_take_24 : decode prog_10_method_13_code 24 = .ok (.istore 4, 2) := by decide +kernel
theorem d_Rd_take_26 : decode prog_10_method_13_code 26 = .ok (.iload 4, 2) := by decide +kernel
theorem d_Rd_take_28 : decode prog_10_method_13_code 28 = .ok (.iload_n 2, 1) := by decide +kernel
theorem d_Rd_take_29 : decode prog_10_method_13_code 29 = .ok (.if_icmp .lt 9, 3) := by decide +kernel
theorem d_Rd_take_32 : decode prog_10_method_13_code 32 = .ok (.iload 4, 2) := by decide +kernel
theorem d_Rd_take_34 : decode prog_10_method_13_code 34 = .ok (.iload_n 3, 1) := by decide +kernel
theorem d_Rd_take_35 : decode prog_10_method_13_code 35 = .ok (.if_icmp .le 5, 3) := by decide +kernel
theorem d_Rd_take_38 : decode prog_10_method_13_code 38 = .ok (.iconst (-1), 1) := by decide +kernel
theorem d_Rd_take_39 : decode prog_10_method_13_code 39 = .ok (.ireturn, 1) := by decide +kernel
theorem d_Rd_take_40 : decode prog_10_method_13_code 40 = .ok (.aload_n 0, 1) := by decide +kernel
theorem d_Rd_take_41 : decode prog_10_method_13_code 41 = .ok (.dup, 1) := by decide +kernel
theorem d_Rd_take_42 : decode prog_10_method_13_code 42 = .ok (.getfield 19, 3) := by decide +kernel
theorem d_Rd_take_45 : decode prog_10_method_13_code 45 = .ok (.iconst 1, 1) := by decide +kernel
theorem d_Rd_take_46 : decode prog_10_method_13_code 46 = .ok (.iadd, 1) := by decide +kernel
theorem d_Rd_take_47 : decode prog_10_method_13_code 47 = .ok (.putfield 19, 3) := by decide +kernel
theorem d_Rd_take_50 : decode prog_10_method_13_code 50 = .ok (.iload 4, 2) := by decide +kernel
theorem d_Rd_take_52 : decode prog_10_method_13_code 52 = .ok (.ireturn, 1) := by decide +kernel
theorem d_Rd_passSemicolon_0 : decode prog_10_method_12_code 0 = .ok (.aload_n 0, 1) := by decide +kernel
theorem d_Rd_passSemicolon_1 : decode prog_10_method_12_code 1 = .ok (.bipush 59, 2) := by decide +kernel
theorem d_Rd_passSemicolon_3 : decode prog_10_method_12_code 3 = .ok (.iconst 0, 1) := by decide +kernel
theorem d_Rd_passSemicolon_4 : decode prog_10_method_12_code 4 = .ok (.iconst 0, 1) := by decide +kernel
theorem d_Rd_passSemicolon_5 : decode prog_10_method_12_code 5 = .ok (.invokevirtual 54, 3) := by decide +kernel
theorem d_Rd_passSemicolon_8 : decode prog_10_method_12_code 8 = .ok (.iconst (-1), 1) := by decide +kernel
theorem d_Rd_passSemicolon_9 : decode prog_10_method_12_code 9 = .ok (.if_icmp .eq 7, 3) := by decide +kernel
theorem d_Rd_passSemicolon_12 : decode prog_10_method_12_code 12 = .ok (.iconst 1, 1) := by decide +kernel
theorem d_Rd_passSemicolon_13 : decode prog_10_method_12_code 13 = .ok (.goto 4, 3) := by decide +kernel
theorem d_Rd_passSemicolon_16 : decode prog_10_method_12_code 16 = .ok (.iconst 0, 1) := by decide +kernel
theorem d_Rd_passSemicolon_17 : decode prog_10_method_12_code 17 = .ok (.ireturn, 1) := by decide +kernel
theorem d_Rd_clue_0 : decode prog_10_method_5_code 0 = .ok (.aload_n 0, 1) := by decide +kernel
theorem d_Rd_clue_1 : decode prog_10_method_5_code 1 = .ok (.getfield 19, 3) := by decide +kernel
theorem d_Rd_clue_4 : decode prog_10_method_5_code 4 = .ok (.aload_n 0, 1) := by decide +kernel
theorem d_Rd_clue_5 : decode prog_10_method_5_code 5 = .ok (.getfield 15, 3) := by decide +kernel
theorem d_Rd_clue_8 : decode prog_10_method_5_code 8 = .ok (.if_icmp .ge 30, 3) := by decide +kernel
theorem d_Rd_clue_11 : decode prog_10_method_5_code 11 = .ok (.aload_n 0, 1) := by decide +kernel
theorem d_Rd_clue_12 : decode prog_10_method_5_code 12 = .ok (.getfield 40, 3) := by decide +kernel
theorem d_Rd_clue_15 : decode prog_10_method_5_code 15 = .ok (.bipush 30, 2) := by decide +kernel
theorem d_Rd_clue_17 : decode prog_10_method_5_code 17 = .ok (.if_icmp .ge 21, 3) := by decide +kernel
theorem d_Rd_clue_20 : decode prog_10_method_5_code 20 = .ok (.ldc 58, 2) := by decide +kernel
theorem d_Rd_clue_22 : decode prog_10_method_5_code 22 = .ok (.aload_n 0, 1) := by decide +kernel
theorem d_Rd_clue_23 : decode prog_10_method_5_code 23 = .ok (.getfield 9, 3) := by decide +kernel
theorem d_Rd_clue_26 : decode prog_10_method_5_code 26 = .ok (.aload_n 0, 1) := by decide +kernel
theorem d_Rd_clue_27 : decode prog_10_method_5_code 27 = .ok (.getfield 19, 3) := by decide +kernel
theorem d_Rd_clue_30 : decode prog_10_method_5_code 30 = .ok (.iaload, 1) := by decide +kernel
theorem d_Rd_clue_31 : decode prog_10_method_5_code 31 = .ok (.i2c, 1) := by decide +kernel
theorem d_Rd_clue_32 : decode prog_10_method_5_code 32 = .ok (.invokevirtual 60, 3) := by decide +kernel
theorem d_Rd_clue_35 : decode prog_10_method_5_code 35 = .ok (.ifCond .ge 5, 3) := by decide +kernel
theorem d_Rd_clue_38 : decode prog_10_method_5_code 38 = .ok (.aconst_null, 1) := by decide +kernel
theorem d_Rd_clue_39 : decode prog_10_method_5_code 39 = .ok (.areturn, 1) := by decide +kernel
theorem d_Rd_clue_40 : decode prog_10_method_5_code 40 = .ok (.aload_n 0, 1) := by decide +kernel
theorem d_Rd_clue_41 : decode prog_10_method_5_code 41 = .ok (.getfield 9, 3) := by decide +kernel
theorem d_Rd_clue_44 : decode prog_10_method_5_code 44 = .ok (.aload_n 0, 1) := by decide +kernel
theorem d_Rd_clue_45 : decode prog_10_method_5_code 45 = .ok (.getfield 19, 3) := by decide +kernel
theorem d_Rd_clue_48 : decode prog_10_method_5_code 48 = .ok (.iaload, 1) := by decide +kernel
theorem d_Rd_clue_49 : decode prog_10_method_5_code 49 = .ok (.istore_n 1, 1) := by decide +kernel
theorem d_Rd_clue_50 : decode prog_10_method_5_code 50 = .ok (.aload_n 0, 1) := by decide +kernel
theorem d_Rd_clue_51 : decode prog_10_method_5_code 51 = .ok (.dup, 1) := by decide +kernel
theorem d_Rd_clue_52 : decode prog_10_method_5_code 52 = .ok (.getfield 19, 3) := by decide +kernel
theorem d_Rd_clue_55 : decode prog_10_method_5_code 55 = .ok (.iconst 1, 1) := by decide +kernel
theorem d_Rd_clue_56 : decode prog_10_method_5_code 56 = .ok (.iadd, 1) := by decide +kernel
theorem d_Rd_clue_57 : decode prog_10_method_5_code 57 = .ok (.putfield 19, 3) := by decide +kernel
theorem d_Rd_clue_60 : decode prog_10_method_5_code 60 = .ok (.aload_n 0, 1) := by decide +kernel
theorem d_Rd_clue_61 : decode prog_10_method_5_code 61 = .ok (.dup, 1) := by decide +kernel
theorem d_Rd_clue_62 : decode prog_10_method_5_code 62 = .ok (.getfield 40, 3) := by decide +kernel
theorem d_Rd_clue_65 : decode prog_10_method_5_code 65 = .ok (.iconst 1, 1) := by decide +kernel
theorem d_Rd_clue_66 : decode prog_10_method_5_code 66 = .ok (.iadd, 1) := by decide +kernel
theorem d_Rd_clue_67 : decode prog_10_method_5_code 67 = .ok (.putfield 40, 3) := by decide +kernel
theorem d_Rd_clue_70 : decode prog_10_method_5_code 70 = .ok (.iload_n 1, 1) := by decide +kernel
theorem d_Rd_clue_71 : decode prog_10_method_5_code 71 = .ok (.lookupswitch 81 #[(38, 65), (112, 54), (116, 49), (124, 65), (126, 59)], 49) := by decide +kernel
theorem d_Rd_clue_120 : decode prog_10_method_5_code 120 = .ok (.aload_n 0, 1) := by decide +kernel
theorem d_Rd_clue_121 : decode prog_10_method_5_code 121 = .ok (.invokevirtual 66, 3) := by decide +kernel
theorem d_Rd_clue_124 : decode prog_10_method_5_code 124 = .ok (.areturn, 1) := by decide +kernel
theorem d_Rd_clue_125 : decode prog_10_method_5_code 125 = .ok (.aload_n 0, 1) := by decide +kernel
theorem d_Rd_clue_126 : decode prog_10_method_5_code 126 = .ok (.invokevirtual 69, 3) := by decide +kernel
theorem d_Rd_clue_129 : decode prog_10_method_5_code 129 = .ok (.areturn, 1) := by decide +kernel
theorem d_Rd_clue_130 : decode prog_10_method_5_code 130 = .ok (.aload_n 0, 1) := by decide +kernel
theorem d_Rd_clue_131 : decode prog_10_method_5_code 131 = .ok (.iconst (-1), 1) := by decide +kernel
theorem d_Rd_clue_132 : decode prog_10_method_5_code 132 = .ok (.invokevirtual 72, 3) := by decide +kernel
theorem d_Rd_clue_135 : decode prog_10_method_5_code 135 = .ok (.areturn, 1) := by decide +kernel
theorem d_Rd_clue_136 : decode prog_10_method_5_code 136 = .ok (.aload_n 0, 1) := by decide +kernel
theorem d_Rd_clue_137 : decode prog_10_method_5_code 137 = .ok (.iload_n 1, 1) := by decide +kernel
theorem d_Rd_clue_138 : decode prog_10_method_5_code 138 = .ok (.bipush 38, 2) := by decide +kernel
theorem d_Rd_clue_140 : decode prog_10_method_5_code 140 = .ok (.if_icmp .ne 7, 3) := by decide +kernel
theorem d_Rd_clue_143 : decode prog_10_method_5_code 143 = .ok (.iconst 1, 1) := by decide +kernel
theorem d_Rd_clue_144 : decode prog_10_method_5_code 144 = .ok (.goto 4, 3) := by decide +kernel
theorem d_Rd_clue_147 : decode prog_10_method_5_code 147 = .ok (.iconst 0, 1) := by decide +kernel
theorem d_Rd_clue_148 : decode prog_10_method_5_code 148 = .ok (.invokevirtual 76, 3) := by decide +kernel
theorem d_Rd_clue_151 : decode prog_10_method_5_code 151 = .ok (.areturn, 1) := by decide +kernel
theorem d_Rd_clue_152 : decode prog_10_method_5_code 152 = .ok (.aload_n 0, 1) := by decide +kernel
theorem d_Rd_clue_153 : decode prog_10_method_5_code 153 = .ok (.iload_n 1, 1) := by decide +kernel
theorem d_Rd_clue_154 : decode prog_10_method_5_code 154 = .ok (.invokevirtual 80, 3) := by decide +kernel
theorem d_Rd_clue_157 : decode prog_10_method_5_code 157 = .ok (.areturn, 1) := by decide +kernel
theorem d_Rd_ofPerson_0 : decode prog_10_method_6_code 0 = .ok (.aload_n 0, 1) := by decide +kernel
theorem d_Rd_ofPerson_1 : decode prog_10_method_6_code 1 = .ok (.bipush 48, 2) := by decide +kernel
theorem d_Rd_ofPerson_3 : decode prog_10_method_6_code 3 = .ok (.iconst 0, 1) := by decide +kernel
theorem d_Rd_ofPerson_4 : decode prog_10_method_6_code 4 = .ok (.aload_n 0, 1) := by decide +kernel
theorem d_Rd_ofPerson_5 : decode prog_10_method_6_code 5 = .ok (.getfield 34, 3) := by decide +kernel
theorem d_Rd_ofPerson_8 : decode prog_10_method_6_code 8 = .ok (.iconst 1, 1) := by decide +kernel
theorem d_Rd_ofPerson_9 : decode prog_10_method_6_code 9 = .ok (.isub, 1) := by decide +kernel
theorem d_Rd_ofPerson_10 : decode prog_10_method_6_code 10 = .ok (.invokevirtual 54, 3) := by decide +kernel
theorem d_Rd_ofPerson_13 : decode prog_10_method_6_code 13 = .ok (.istore_n 1, 1) := by decide +kernel
theorem d_Rd_ofPerson_14 : decode prog_10_method_6_code 14 = .ok (.iload_n 1, 1) := by decide +kernel
theorem d_Rd_ofPerson_15 : decode prog_10_method_6_code 15 = .ok (.iconst (-1), 1) := by decide +kernel
theorem d_Rd_ofPerson_16 : decode prog_10_method_6_code 16 = .ok (.if_icmp .ne 7, 3) := by decide +kernel
theorem d_Rd_ofPerson_19 : decode prog_10_method_6_code 19 = .ok (.aconst_null, 1) := by decide +kernel
theorem d_Rd_ofPerson_20 : decode prog_10_method_6_code 20 = .ok (.goto 11, 3) := by decide +kernel
theorem d_Rd_ofPerson_23 : decode prog_10_method_6_code 23 = .ok (.new 83, 3) := by decide +kernel
theorem d_Rd_ofPerson_26 : decode prog_10_method_6_code 26 = .ok (.dup, 1) := by decide +kernel
theorem d_Rd_ofPerson_27 : decode prog_10_method_6_code 27 = .ok (.iload_n 1, 1) := by decide +kernel
theorem d_Rd_ofPerson_28 : decode prog_10_method_6_code 28 = .ok (.invokespecial 85, 3) := by decide +kernel
theorem d_Rd_ofPerson_31 : decode prog_10_method_6_code 31 = .ok (.areturn, 1) := by decide +kernel
theorem d_Op_init_0 : decode prog_6_method_1_code 0 = .ok (.aload_n 0, 1) := by decide +kernel
theorem d_Op_init_1 : decode prog_6_method_1_code 1 = .ok (.invokespecial 1, 3) := by decide +kernel
theorem d_Op_init_4 : decode prog_6_method_1_code 4 = .ok (.aload_n 0, 1) := by decide +kernel
theorem d_Op_init_5 : decode prog_6_method_1_code 5 = .ok (.getstatic 7, 3) := by decide +kernel
theorem d_Op_init_8 : decode prog_6_method_1_code 8 = .ok (.iload_n 1, 1) := by decide +kernel
theorem d_Op_init_9 : decode prog_6_method_1_code 9 = .ok (.iaload, 1) := by decide +kernel
theorem d_Op_init_10 : decode prog_6_method_1_code 10 = .ok (.putfield 13, 3) := by decide +kernel
theorem d_Op_init_13 : decode prog_6_method_1_code 13 = .ok (.return_, 1) := by decide +kernel
theorem d_Rd_saying_0 : decode prog_10_method_7_code 0 = .ok (.aload_n 0, 1) := by decide +kernel
theorem d_Rd_saying_1 : decode prog_10_method_7_code 1 = .ok (.bipush 48, 2) := by decide +kernel
theorem d_Rd_saying_3 : decode prog_10_method_7_code 3 = .ok (.iconst 0, 1) := by decide +kernel
theorem d_Rd_saying_4 : decode prog_10_method_7_code 4 = .ok (.aload_n 0, 1) := by decide +kernel
theorem d_Rd_saying_5 : decode prog_10_method_7_code 5 = .ok (.getfield 34, 3) := by decide +kernel
theorem d_Rd_saying_8 : decode prog_10_method_7_code 8 = .ok (.iconst 1, 1) := by decide +kernel
theorem d_Rd_saying_9 : decode prog_10_method_7_code 9 = .ok (.isub, 1) := by decide +kernel
theorem d_Rd_saying_10 : decode prog_10_method_7_code 10 = .ok (.invokevirtual 54, 3) := by decide +kernel
theorem d_Rd_saying_13 : decode prog_10_method_7_code 13 = .ok (.istore_n 1, 1) := by decide +kernel
theorem d_Rd_saying_14 : decode prog_10_method_7_code 14 = .ok (.iload_n 1, 1) := by decide +kernel
theorem d_Rd_saying_15 : decode prog_10_method_7_code 15 = .ok (.iconst (-1), 1) := by decide +kernel
theorem d_Rd_saying_16 : decode prog_10_method_7_code 16 = .ok (.if_icmp .ne 7, 3) := by decide +kernel
theorem d_Rd_saying_19 : decode prog_10_method_7_code 19 = .ok (.aconst_null, 1) := by decide +kernel
theorem d_Rd_saying_20 : decode prog_10_method_7_code 20 = .ok (.goto 14, 3) := by decide +kernel
theorem d_Rd_saying_23 : decode prog_10_method_7_code 23 = .ok (.aload_n 0, 1) := by decide +kernel
theorem d_Rd_saying_24 : decode prog_10_method_7_code 24 = .ok (.getstatic 88, 3) := by decide +kernel
theorem d_Rd_saying_27 : decode prog_10_method_7_code 27 = .ok (.iload_n 1, 1) := by decide +kernel
theorem d_Rd_saying_28 : decode prog_10_method_7_code 28 = .ok (.iaload, 1) := by decide +kernel
theorem d_Rd_saying_29 : decode prog_10_method_7_code 29 = .ok (.iconst (-1), 1) := by decide +kernel
theorem d_Rd_saying_30 : decode prog_10_method_7_code 30 = .ok (.ixor, 1) := by decide +kernel
theorem d_Rd_saying_31 : decode prog_10_method_7_code 31 = .ok (.invokevirtual 72, 3) := by decide +kernel
theorem d_Rd_saying_34 : decode prog_10_method_7_code 34 = .ok (.areturn, 1) := by decide +kernel
theorem d_Rd_turned_0 : decode prog_10_method_8_code 0 = .ok (.aload_n 0, 1) := by decide +kernel
theorem d_Rd_turned_1 : decode prog_10_method_8_code 1 = .ok (.invokevirtual 43, 3) := by decide +kernel
theorem d_Rd_turned_4 : decode prog_10_method_8_code 4 = .ok (.astore_n 2, 1) := by decide +kernel
theorem d_Rd_turned_5 : decode prog_10_method_8_code 5 = .ok (.aload_n 2, 1) := by decide +kernel
theorem d_Rd_turned_6 : decode prog_10_method_8_code 6 = .ok (.ifnonnull 7, 3) := by decide +kernel
theorem d_Rd_turned_9 : decode prog_10_method_8_code 9 = .ok (.aconst_null, 1) := by decide +kernel
theorem d_Rd_turned_10 : decode prog_10_method_8_code 10 = .ok (.goto 12, 3) := by decide +kernel
theorem d_Rd_turned_13 : decode prog_10_method_8_code 13 = .ok (.new 91, 3) := by decide +kernel
theorem d_Rd_turned_16 : decode prog_10_method_8_code 16 = .ok (.dup, 1) := by decide +kernel
theorem d_Rd_turned_17 : decode prog_10_method_8_code 17 = .ok (.iload_n 1, 1) := by decide +kernel
theorem d_Rd_turned_18 : decode prog_10_method_8_code 18 = .ok (.aload_n 2, 1) := by decide +kernel
theorem d_Rd_turned_19 : decode prog_10_method_8_code 19 = .ok (.invokespecial 93, 3) := by decide +kernel
theorem d_Rd_turned_22 : decode prog_10_method_8_code 22 = .ok (.areturn, 1) := by decide +kernel
theorem d_Tu_init_0 : decode prog_11_method_1_code 0 = .ok (.aload_n 0, 1) := by decide +kernel
theorem d_Tu_init_1 : decode prog_11_method_1_code 1 = .ok (.invokespecial 1, 3) := by decide +kernel
theorem d_Tu_init_4 : decode prog_11_method_1_code 4 = .ok (.aload_n 0, 1) := by decide +kernel
theorem d_Tu_init_5 : decode prog_11_method_1_code 5 = .ok (.iload_n 1, 1) := by decide +kernel
theorem d_Tu_init_6 : decode prog_11_method_1_code 6 = .ok (.putfield 7, 3) := by decide +kernel
theorem d_Tu_init_9 : decode prog_11_method_1_code 9 = .ok (.aload_n 0, 1) := by decide +kernel
theorem d_Tu_init_10 : decode prog_11_method_1_code 10 = .ok (.aload_n 2, 1) := by decide +kernel
theorem d_Tu_init_11 : decode prog_11_method_1_code 11 = .ok (.putfield 13, 3) := by decide +kernel
theorem d_Tu_init_14 : decode prog_11_method_1_code 14 = .ok (.return_, 1) := by decide +kernel
theorem d_Rd_joined_0 : decode prog_10_method_9_code 0 = .ok (.aload_n 0, 1) := by decide +kernel
theorem d_Rd_joined_1 : decode prog_10_method_9_code 1 = .ok (.invokevirtual 43, 3) := by decide +kernel
theorem d_Rd_joined_4 : decode prog_10_method_9_code 4 = .ok (.astore_n 2, 1) := by decide +kernel
theorem d_Rd_joined_5 : decode prog_10_method_9_code 5 = .ok (.aload_n 2, 1) := by decide +kernel
theorem d_Rd_joined_6 : decode prog_10_method_9_code 6 = .ok (.ifnonnull 5, 3) := by decide +kernel
theorem d_Rd_joined_9 : decode prog_10_method_9_code 9 = .ok (.aconst_null, 1) := by decide +kernel
theorem d_Rd_joined_10 : decode prog_10_method_9_code 10 = .ok (.areturn, 1) := by decide +kernel
theorem d_Rd_joined_11 : decode prog_10_method_9_code 11 = .ok (.aload_n 0, 1) := by decide +kernel
theorem d_Rd_joined_12 : decode prog_10_method_9_code 12 = .ok (.invokevirtual 43, 3) := by decide +kernel
theorem d_Rd_joined_15 : decode prog_10_method_9_code 15 = .ok (.astore_n 3, 1) := by decide +kernel
theorem d_Rd_joined_16 : decode prog_10_method_9_code 16 = .ok (.aload_n 3, 1) := by decide +kernel
theorem d_Rd_joined_17 : decode prog_10_method_9_code 17 = .ok (.ifnonnull 7, 3) := by decide +kernel
theorem d_Rd_joined_20 : decode prog_10_method_9_code 20 = .ok (.aconst_null, 1) := by decide +kernel
theorem d_Rd_joined_21 : decode prog_10_method_9_code 21 = .ok (.goto 13, 3) := by decide +kernel
theorem d_Rd_joined_24 : decode prog_10_method_9_code 24 = .ok (.new 96, 3) := by decide +kernel
theorem d_Rd_joined_27 : decode prog_10_method_9_code 27 = .ok (.dup, 1) := by decide +kernel
theorem d_Rd_joined_28 : decode prog_10_method_9_code 28 = .ok (.iload_n 1, 1) := by decide +kernel
theorem d_Rd_joined_29 : decode prog_10_method_9_code 29 = .ok (.aload_n 2, 1) := by decide +kernel
theorem d_Rd_joined_30 : decode prog_10_method_9_code 30 = .ok (.aload_n 3, 1) := by decide +kernel
theorem d_Rd_joined_31 : decode prog_10_method_9_code 31 = .ok (.invokespecial 98, 3) := by decide +kernel
theorem d_Rd_joined_34 : decode prog_10_method_9_code 34 = .ok (.areturn, 1) := by decide +kernel
theorem d_Jo_init_0 : decode prog_5_method_1_code 0 = .ok (.aload_n 0, 1) := by decide +kernel
theorem d_Jo_init_1 : decode prog_5_method_1_code 1 = .ok (.invokespecial 1, 3) := by decide +kernel
theorem d_Jo_init_4 : decode prog_5_method_1_code 4 = .ok (.aload_n 0, 1) := by decide +kernel
theorem d_Jo_init_5 : decode prog_5_method_1_code 5 = .ok (.iload_n 1, 1) := by decide +kernel
theorem d_Jo_init_6 : decode prog_5_method_1_code 6 = .ok (.putfield 7, 3) := by decide +kernel
theorem d_Jo_init_9 : decode prog_5_method_1_code 9 = .ok (.aload_n 0, 1) := by decide +kernel
theorem d_Jo_init_10 : decode prog_5_method_1_code 10 = .ok (.aload_n 2, 1) := by decide +kernel
theorem d_Jo_init_11 : decode prog_5_method_1_code 11 = .ok (.putfield 13, 3) := by decide +kernel
theorem d_Jo_init_14 : decode prog_5_method_1_code 14 = .ok (.aload_n 0, 1) := by decide +kernel
theorem d_Jo_init_15 : decode prog_5_method_1_code 15 = .ok (.aload_n 3, 1) := by decide +kernel
theorem d_Jo_init_16 : decode prog_5_method_1_code 16 = .ok (.putfield 17, 3) := by decide +kernel
theorem d_Jo_init_19 : decode prog_5_method_1_code 19 = .ok (.return_, 1) := by decide +kernel
theorem d_Rd_ofValues_0 : decode prog_10_method_10_code 0 = .ok (.aload_n 0, 1) := by decide +kernel
theorem d_Rd_ofValues_1 : decode prog_10_method_10_code 1 = .ok (.invokevirtual 101, 3) := by decide +kernel
theorem d_Rd_ofValues_4 : decode prog_10_method_10_code 4 = .ok (.istore_n 2, 1) := by decide +kernel
theorem d_Rd_ofValues_5 : decode prog_10_method_10_code 5 = .ok (.iload_n 2, 1) := by decide +kernel
theorem d_Rd_ofValues_6 : decode prog_10_method_10_code 6 = .ok (.iconst (-1), 1) := by decide +kernel
theorem d_Rd_ofValues_7 : decode prog_10_method_10_code 7 = .ok (.if_icmp .ne 5, 3) := by decide +kernel
theorem d_Rd_ofValues_10 : decode prog_10_method_10_code 10 = .ok (.aconst_null, 1) := by decide +kernel
theorem d_Rd_ofValues_11 : decode prog_10_method_10_code 11 = .ok (.areturn, 1) := by decide +kernel
theorem d_Rd_ofValues_12 : decode prog_10_method_10_code 12 = .ok (.aload_n 0, 1) := by decide +kernel
theorem d_Rd_ofValues_13 : decode prog_10_method_10_code 13 = .ok (.invokevirtual 101, 3) := by decide +kernel
theorem d_Rd_ofValues_16 : decode prog_10_method_10_code 16 = .ok (.istore_n 3, 1) := by decide +kernel
theorem d_Rd_ofValues_17 : decode prog_10_method_10_code 17 = .ok (.iload_n 3, 1) := by decide +kernel
theorem d_Rd_ofValues_18 : decode prog_10_method_10_code 18 = .ok (.iconst (-1), 1) := by decide +kernel
theorem d_Rd_ofValues_19 : decode prog_10_method_10_code 19 = .ok (.if_icmp .ne 7, 3) := by decide +kernel
theorem d_Rd_ofValues_22 : decode prog_10_method_10_code 22 = .ok (.aconst_null, 1) := by decide +kernel
theorem d_Rd_ofValues_23 : decode prog_10_method_10_code 23 = .ok (.goto 13, 3) := by decide +kernel
theorem d_Rd_ofValues_26 : decode prog_10_method_10_code 26 = .ok (.new 105, 3) := by decide +kernel
theorem d_Rd_ofValues_29 : decode prog_10_method_10_code 29 = .ok (.dup, 1) := by decide +kernel
theorem d_Rd_ofValues_30 : decode prog_10_method_10_code 30 = .ok (.iload_n 1, 1) := by decide +kernel
theorem d_Rd_ofValues_31 : decode prog_10_method_10_code 31 = .ok (.iload_n 2, 1) := by decide +kernel
theorem d_Rd_ofValues_32 : decode prog_10_method_10_code 32 = .ok (.iload_n 3, 1) := by decide +kernel
theorem d_Rd_ofValues_33 : decode prog_10_method_10_code 33 = .ok (.invokespecial 107, 3) := by decide +kernel
theorem d_Rd_ofValues_36 : decode prog_10_method_10_code 36 = .ok (.areturn, 1) := by decide +kernel
theorem d_Rd_takeValue_0 : decode prog_10_method_11_code 0 = .ok (.aload_n 0, 1) := by decide +kernel
theorem d_Rd_takeValue_1 : decode prog_10_method_11_code 1 = .ok (.bipush 97, 2) := by decide +kernel
theorem d_Rd_takeValue_3 : decode prog_10_method_11_code 3 = .ok (.iconst 0, 1) := by decide +kernel
theorem d_Rd_takeValue_4 : decode prog_10_method_11_code 4 = .ok (.aload_n 0, 1) := by decide +kernel
theorem d_Rd_takeValue_5 : decode prog_10_method_11_code 5 = .ok (.getfield 31, 3) := by decide +kernel
theorem d_Rd_takeValue_8 : decode prog_10_method_11_code 8 = .ok (.iconst 1, 1) := by decide +kernel
theorem d_Rd_takeValue_9 : decode prog_10_method_11_code 9 = .ok (.isub, 1) := by decide +kernel
theorem d_Rd_takeValue_10 : decode prog_10_method_11_code 10 = .ok (.invokevirtual 54, 3) := by decide +kernel
theorem d_Rd_takeValue_13 : decode prog_10_method_11_code 13 = .ok (.istore_n 1, 1) := by decide +kernel
theorem d_Rd_takeValue_14 : decode prog_10_method_11_code 14 = .ok (.iload_n 1, 1) := by decide +kernel
theorem d_Rd_takeValue_15 : decode prog_10_method_11_code 15 = .ok (.iconst (-1), 1) := by decide +kernel
theorem d_Rd_takeValue_16 : decode prog_10_method_11_code 16 = .ok (.if_icmp .ne 5, 3) := by decide +kernel
theorem d_Rd_takeValue_19 : decode prog_10_method_11_code 19 = .ok (.iconst (-1), 1) := by decide +kernel
theorem d_Rd_takeValue_20 : decode prog_10_method_11_code 20 = .ok (.ireturn, 1) := by decide +kernel
theorem d_Rd_takeValue_21 : decode prog_10_method_11_code 21 = .ok (.aload_n 0, 1) := by decide +kernel
theorem d_Rd_takeValue_22 : decode prog_10_method_11_code 22 = .ok (.bipush 48, 2) := by decide +kernel
theorem d_Rd_takeValue_24 : decode prog_10_method_11_code 24 = .ok (.iconst 0, 1) := by decide +kernel
theorem d_Rd_takeValue_25 : decode prog_10_method_11_code 25 = .ok (.aload_n 0, 1) := by decide +kernel
theorem d_Rd_takeValue_26 : decode prog_10_method_11_code 26 = .ok (.getfield 28, 3) := by decide +kernel
theorem d_Rd_takeValue_29 : decode prog_10_method_11_code 29 = .ok (.iconst 1, 1) := by decide +kernel
theorem d_Rd_takeValue_30 : decode prog_10_method_11_code 30 = .ok (.isub, 1) := by decide +kernel
theorem d_Rd_takeValue_31 : decode prog_10_method_11_code 31 = .ok (.invokevirtual 54, 3) := by decide +kernel
theorem d_Rd_takeValue_34 : decode prog_10_method_11_code 34 = .ok (.istore_n 2, 1) := by decide +kernel
theorem d_Rd_takeValue_35 : decode prog_10_method_11_code 35 = .ok (.iload_n 2, 1) := by decide +kernel
theorem d_Rd_takeValue_36 : decode prog_10_method_11_code 36 = .ok (.iconst (-1), 1) := by decide +kernel
theorem d_Rd_takeValue_37 : decode prog_10_method_11_code 37 = .ok (.if_icmp .ne 7, 3) := by decide +kernel
theorem d_Rd_takeValue_40 : decode prog_10_method_11_code 40 = .ok (.iconst (-1), 1) := by decide +kernel
theorem d_Rd_takeValue_41 : decode prog_10_method_11_code 41 = .ok (.goto 8, 3) := by decide +kernel
theorem d_Rd_takeValue_44 : decode prog_10_method_11_code 44 = .ok (.iconst 4, 1) := by decide +kernel
theorem d_Rd_takeValue_45 : decode prog_10_method_11_code 45 = .ok (.iload_n 1, 1) := by decide +kernel
theorem d_Rd_takeValue_46 : decode prog_10_method_11_code 46 = .ok (.imul, 1) := by decide +kernel
theorem d_Rd_takeValue_47 : decode prog_10_method_11_code 47 = .ok (.iload_n 2, 1) := by decide +kernel
theorem d_Rd_takeValue_48 : decode prog_10_method_11_code 48 = .ok (.iadd, 1) := by decide +kernel
theorem d_Rd_takeValue_49 : decode prog_10_method_11_code 49 = .ok (.ireturn, 1) := by decide +kernel
theorem d_Ov_init_0 : decode prog_7_method_1_code 0 = .ok (.aload_n 0, 1) := by decide +kernel
theorem d_Ov_init_1 : decode prog_7_method_1_code 1 = .ok (.invokespecial 1, 3) := by decide +kernel
theorem d_Ov_init_4 : decode prog_7_method_1_code 4 = .ok (.aload_n 0, 1) := by decide +kernel
theorem d_Ov_init_5 : decode prog_7_method_1_code 5 = .ok (.iload_n 1, 1) := by decide +kernel
theorem d_Ov_init_6 : decode prog_7_method_1_code 6 = .ok (.putfield 7, 3) := by decide +kernel
theorem d_Ov_init_9 : decode prog_7_method_1_code 9 = .ok (.aload_n 0, 1) := by decide +kernel
theorem d_Ov_init_10 : decode prog_7_method_1_code 10 = .ok (.iload_n 2, 1) := by decide +kernel
theorem d_Ov_init_11 : decode prog_7_method_1_code 11 = .ok (.putfield 13, 3) := by decide +kernel
theorem d_Ov_init_14 : decode prog_7_method_1_code 14 = .ok (.aload_n 0, 1) := by decide +kernel
theorem d_Ov_init_15 : decode prog_7_method_1_code 15 = .ok (.iload_n 3, 1) := by decide +kernel
theorem d_Ov_init_16 : decode prog_7_method_1_code 16 = .ok (.putfield 16, 3) := by decide +kernel
theorem d_Ov_init_19 : decode prog_7_method_1_code 19 = .ok (.return_, 1) := by decide +kernel
theorem d_Pz_add_0 : decode prog_9_method_2_code 0 = .ok (.aload_n 0, 1) := by decide +kernel
theorem d_Pz_add_1 : decode prog_9_method_2_code 1 = .ok (.getfield 36, 3) := by decide +kernel
theorem d_Pz_add_4 : decode prog_9_method_2_code 4 = .ok (.bipush 20, 2) := by decide +kernel
theorem d_Pz_add_6 : decode prog_9_method_2_code 6 = .ok (.if_icmp .ge 23, 3) := by decide +kernel
theorem d_Pz_add_9 : decode prog_9_method_2_code 9 = .ok (.aload_n 0, 1) := by decide +kernel
theorem d_Pz_add_10 : decode prog_9_method_2_code 10 = .ok (.getfield 11, 3) := by decide +kernel
theorem d_Pz_add_13 : decode prog_9_method_2_code 13 = .ok (.aload_n 0, 1) := by decide +kernel
theorem d_Pz_add_14 : decode prog_9_method_2_code 14 = .ok (.getfield 36, 3) := by decide +kernel
theorem d_Pz_add_17 : decode prog_9_method_2_code 17 = .ok (.aload_n 1, 1) := by decide +kernel
theorem d_Pz_add_18 : decode prog_9_method_2_code 18 = .ok (.aastore, 1) := by decide +kernel
theorem d_Pz_add_19 : decode prog_9_method_2_code 19 = .ok (.aload_n 0, 1) := by decide +kernel
theorem d_Pz_add_20 : decode prog_9_method_2_code 20 = .ok (.dup, 1) := by decide +kernel
theorem d_Pz_add_21 : decode prog_9_method_2_code 21 = .ok (.getfield 36, 3) := by decide +kernel
theorem d_Pz_add_24 : decode prog_9_method_2_code 24 = .ok (.iconst 1, 1) := by decide +kernel
theorem d_Pz_add_25 : decode prog_9_method_2_code 25 = .ok (.iadd, 1) := by decide +kernel
theorem d_Pz_add_26 : decode prog_9_method_2_code 26 = .ok (.putfield 36, 3) := by decide +kernel
theorem d_Pz_add_29 : decode prog_9_method_2_code 29 = .ok (.return_, 1) := by decide +kernel
theorem d_Rd_place_0 : decode prog_10_method_2_code 0 = .ok (.aload_n 0, 1) := by decide +kernel
theorem d_Rd_place_1 : decode prog_10_method_2_code 1 = .ok (.getfield 19, 3) := by decide +kernel
theorem d_Rd_place_4 : decode prog_10_method_2_code 4 = .ok (.ireturn, 1) := by decide +kernel
theorem d_Pz_clueCount_0 : decode prog_9_method_6_code 0 = .ok (.aload_n 0, 1) := by decide +kernel
theorem d_Pz_clueCount_1 : decode prog_9_method_6_code 1 = .ok (.getfield 36, 3) := by decide +kernel
theorem d_Pz_clueCount_4 : decode prog_9_method_6_code 4 = .ok (.ireturn, 1) := by decide +kernel
theorem d_C_told_0 : decode prog_1_method_4_code 0 = .ok (.iload_n 1, 1) := by decide +kernel
theorem d_C_told_1 : decode prog_1_method_4_code 1 = .ok (.tableswitch 51 0 2 #[27, 35, 43], 27) := by decide +kernel
theorem d_C_told_28 : decode prog_1_method_4_code 28 = .ok (.aload_n 0, 1) := by decide +kernel
theorem d_C_told_29 : decode prog_1_method_4_code 29 = .ok (.getfield 42, 3) := by decide +kernel
theorem d_C_told_32 : decode prog_1_method_4_code 32 = .ok (.invokevirtual 45, 3) := by decide +kernel
theorem d_C_told_35 : decode prog_1_method_4_code 35 = .ok (.ireturn, 1) := by decide +kernel
theorem d_C_told_36 : decode prog_1_method_4_code 36 = .ok (.aload_n 0, 1) := by decide +kernel
theorem d_C_told_37 : decode prog_1_method_4_code 37 = .ok (.getfield 42, 3) := by decide +kernel
theorem d_C_told_40 : decode prog_1_method_4_code 40 = .ok (.invokevirtual 48, 3) := by decide +kernel
theorem d_C_told_43 : decode prog_1_method_4_code 43 = .ok (.ireturn, 1) := by decide +kernel
theorem d_C_told_44 : decode prog_1_method_4_code 44 = .ok (.aload_n 0, 1) := by decide +kernel
theorem d_C_told_45 : decode prog_1_method_4_code 45 = .ok (.getfield 42, 3) := by decide +kernel
theorem d_C_told_48 : decode prog_1_method_4_code 48 = .ok (.invokevirtual 51, 3) := by decide +kernel
theorem d_C_told_51 : decode prog_1_method_4_code 51 = .ok (.ireturn, 1) := by decide +kernel
theorem d_C_told_52 : decode prog_1_method_4_code 52 = .ok (.iconst (-1), 1) := by decide +kernel
theorem d_C_told_53 : decode prog_1_method_4_code 53 = .ok (.ireturn, 1) := by decide +kernel
theorem d_Pz_things_0 : decode prog_9_method_3_code 0 = .ok (.aload_n 0, 1) := by decide +kernel
theorem d_Pz_things_1 : decode prog_9_method_3_code 1 = .ok (.getfield 17, 3) := by decide +kernel
theorem d_Pz_things_4 : decode prog_9_method_3_code 4 = .ok (.ireturn, 1) := by decide +kernel
theorem d_C_run_0 : decode prog_1_method_5_code 0 = .ok (.aload_n 0, 1) := by decide +kernel
theorem d_C_run_1 : decode prog_1_method_5_code 1 = .ok (.iconst 1, 1) := by decide +kernel
theorem d_C_run_2 : decode prog_1_method_5_code 2 = .ok (.putfield 54, 3) := by decide +kernel
theorem d_C_run_5 : decode prog_1_method_5_code 5 = .ok (.aload_n 0, 1) := by decide +kernel
theorem d_C_run_6 : decode prog_1_method_5_code 6 = .ok (.getfield 58, 3) := by decide +kernel
theorem d_C_run_9 : decode prog_1_method_5_code 9 = .ok (.invokevirtual 62, 3) := by decide +kernel
theorem d_C_run_12 : decode prog_1_method_5_code 12 = .ok (.aload_n 0, 1) := by decide +kernel
theorem d_C_run_13 : decode prog_1_method_5_code 13 = .ok (.getfield 58, 3) := by decide +kernel
theorem d_C_run_16 : decode prog_1_method_5_code 16 = .ok (.invokevirtual 67, 3) := by decide +kernel
theorem d_C_run_19 : decode prog_1_method_5_code 19 = .ok (.ireturn, 1) := by decide +kernel
theorem d_An_find_0 : decode prog_2_method_8_code 0 = .ok (.aload_n 0, 1) := by decide +kernel
theorem d_An_find_1 : decode prog_2_method_8_code 1 = .ok (.getfield 66, 3) := by decide +kernel
theorem d_An_find_4 : decode prog_2_method_8_code 4 = .ok (.ifCond .eq 4, 3) := by decide +kernel
theorem d_An_find_7 : decode prog_2_method_8_code 7 = .ok (.return_, 1) := by decide +kernel
theorem d_An_find_8 : decode prog_2_method_8_code 8 = .ok (.aload_n 0, 1) := by decide +kernel
theorem d_An_find_9 : decode prog_2_method_8_code 9 = .ok (.iconst 1, 1) := by decide +kernel
theorem d_An_find_10 : decode prog_2_method_8_code 10 = .ok (.putfield 66, 3) := by decide +kernel
theorem d_An_find_13 : decode prog_2_method_8_code 13 = .ok (.iconst 3, 1) := by decide +kernel
theorem d_An_find_14 : decode prog_2_method_8_code 14 = .ok (.newarray .int, 2) := by decide +kernel
theorem d_An_find_16 : decode prog_2_method_8_code 16 = .ok (.astore_n 1, 1) := by decide +kernel
theorem d_An_find_17 : decode prog_2_method_8_code 17 = .ok (.aload_n 1, 1) := by decide +kernel
theorem d_An_find_18 : decode prog_2_method_8_code 18 = .ok (.aload_n 0, 1) := by decide +kernel
theorem d_An_find_19 : decode prog_2_method_8_code 19 = .ok (.getfield 28, 3) := by decide +kernel
theorem d_An_find_22 : decode prog_2_method_8_code 22 = .ok (.invokevirtual 48, 3) := by decide +kernel
theorem d_An_find_25 : decode prog_2_method_8_code 25 = .ok (.invokevirtual 70, 3) := by decide +kernel
theorem d_An_find_28 : decode prog_2_method_8_code 28 = .ok (.invokestatic 73, 3) := by decide +kernel
theorem d_An_find_31 : decode prog_2_method_8_code 31 = .ok (.aload_n 0, 1) := by decide +kernel
theorem d_An_find_32 : decode prog_2_method_8_code 32 = .ok (.getfield 37, 3) := by decide +kernel
theorem d_An_find_35 : decode prog_2_method_8_code 35 = .ok (.aload_n 1, 1) := by decide +kernel
theorem d_An_find_36 : decode prog_2_method_8_code 36 = .ok (.invokevirtual 79, 3) := by decide +kernel
theorem d_An_find_39 : decode prog_2_method_8_code 39 = .ok (.istore_n 2, 1) := by decide +kernel
theorem d_An_find_40 : decode prog_2_method_8_code 40 = .ok (.aload_n 0, 1) := by decide +kernel
theorem d_An_find_41 : decode prog_2_method_8_code 41 = .ok (.getfield 37, 3) := by decide +kernel
theorem d_An_find_44 : decode prog_2_method_8_code 44 = .ok (.invokevirtual 83, 3) := by decide +kernel
theorem d_An_find_47 : decode prog_2_method_8_code 47 = .ok (.iconst 0, 1) := by decide +kernel
theorem d_An_find_48 : decode prog_2_method_8_code 48 = .ok (.istore_n 3, 1) := by decide +kernel
theorem d_An_find_49 : decode prog_2_method_8_code 49 = .ok (.iload_n 3, 1) := by decide +kernel
theorem d_An_find_50 : decode prog_2_method_8_code 50 = .ok (.iload_n 2, 1) := by decide +kernel
theorem d_An_find_51 : decode prog_2_method_8_code 51 = .ok (.if_icmp .ge 20, 3) := by decide +kernel
theorem d_An_find_54 : decode prog_2_method_8_code 54 = .ok (.aload_n 0, 1) := by decide +kernel
theorem d_An_find_55 : decode prog_2_method_8_code 55 = .ok (.invokevirtual 86, 3) := by decide +kernel
theorem d_An_find_58 : decode prog_2_method_8_code 58 = .ok (.aload_n 0, 1) := by decide +kernel
theorem d_An_find_59 : decode prog_2_method_8_code 59 = .ok (.getfield 37, 3) := by decide +kernel
theorem d_An_find_62 : decode prog_2_method_8_code 62 = .ok (.invokevirtual 89, 3) := by decide +kernel
theorem d_An_find_65 : decode prog_2_method_8_code 65 = .ok (.iinc 3 1, 3) := by decide +kernel
theorem d_An_find_68 : decode prog_2_method_8_code 68 = .ok (.goto (-19), 3) := by decide +kernel
theorem d_An_find_71 : decode prog_2_method_8_code 71 = .ok (.return_, 1) := by decide +kernel
theorem d_Wk_choose_0 : decode prog_12_method_2_code 0 = .ok (.iconst 1, 1) := by decide +kernel
theorem d_Wk_choose_1 : decode prog_12_method_2_code 1 = .ok (.istore_n 2, 1) := by decide +kernel
theorem d_Wk_choose_2 : decode prog_12_method_2_code 2 = .ok (.iconst 0, 1) := by decide +kernel
theorem d_Wk_choose_3 : decode prog_12_method_2_code 3 = .ok (.istore_n 3, 1) := by decide +kernel
theorem d_Wk_choose_4 : decode prog_12_method_2_code 4 = .ok (.iload_n 3, 1) := by decide +kernel
theorem d_Wk_choose_5 : decode prog_12_method_2_code 5 = .ok (.aload_n 0, 1) := by decide +kernel
theorem d_Wk_choose_6 : decode prog_12_method_2_code 6 = .ok (.getfield 37, 3) := by decide +kernel
theorem d_Wk_choose_9 : decode prog_12_method_2_code 9 = .ok (.if_icmp .ge 32, 3) := by decide +kernel
theorem d_Wk_choose_12 : decode prog_12_method_2_code 12 = .ok (.aload_n 0, 1) := by decide +kernel
theorem d_Wk_choose_13 : decode prog_12_method_2_code 13 = .ok (.getfield 15, 3) := by decide +kernel
theorem d_Wk_choose_16 : decode prog_12_method_2_code 16 = .ok (.iload_n 3, 1) := by decide +kernel
theorem d_Wk_choose_17 : decode prog_12_method_2_code 17 = .ok (.aload_n 0, 1) := by decide +kernel
theorem d_Wk_choose_18 : decode prog_12_method_2_code 18 = .ok (.iload_n 3, 1) := by decide +kernel
theorem d_Wk_choose_19 : decode prog_12_method_2_code 19 = .ok (.aload_n 1, 1) := by decide +kernel
theorem d_Wk_choose_20 : decode prog_12_method_2_code 20 = .ok (.iload_n 3, 1) := by decide +kernel
theorem d_Wk_choose_21 : decode prog_12_method_2_code 21 = .ok (.iaload, 1) := by decide +kernel
theorem d_Wk_choose_22 : decode prog_12_method_2_code 22 = .ok (.invokevirtual 40, 3) := by decide +kernel
theorem d_Wk_choose_25 : decode prog_12_method_2_code 25 = .ok (.iastore, 1) := by decide +kernel
theorem d_Wk_choose_26 : decode prog_12_method_2_code 26 = .ok (.iload_n 2, 1) := by decide +kernel
theorem d_Wk_choose_27 : decode prog_12_method_2_code 27 = .ok (.aload_n 0, 1) := by decide +kernel
theorem d_Wk_choose_28 : decode prog_12_method_2_code 28 = .ok (.getfield 15, 3) := by decide +kernel
theorem d_Wk_choose_31 : decode prog_12_method_2_code 31 = .ok (.iload_n 3, 1) := by decide +kernel
theorem d_Wk_choose_32 : decode prog_12_method_2_code 32 = .ok (.iaload, 1) := by decide +kernel
theorem d_Wk_choose_33 : decode prog_12_method_2_code 33 = .ok (.imul, 1) := by decide +kernel
theorem d_Wk_choose_34 : decode prog_12_method_2_code 34 = .ok (.istore_n 2, 1) := by decide +kernel
theorem d_Wk_choose_35 : decode prog_12_method_2_code 35 = .ok (.iinc 3 1, 3) := by decide +kernel
theorem d_Wk_choose_38 : decode prog_12_method_2_code 38 = .ok (.goto (-34), 3) := by decide +kernel
theorem d_Wk_choose_41 : decode prog_12_method_2_code 41 = .ok (.iload_n 2, 1) := by decide +kernel
theorem d_Wk_choose_42 : decode prog_12_method_2_code 42 = .ok (.ireturn, 1) := by decide +kernel
theorem d_Wk_chooseOrders_0 : decode prog_12_method_3_code 0 = .ok (.iconst 0, 1) := by decide +kernel
theorem d_Wk_chooseOrders_1 : decode prog_12_method_3_code 1 = .ok (.istore_n 3, 1) := by decide +kernel
theorem d_Wk_chooseOrders_2 : decode prog_12_method_3_code 2 = .ok (.iconst 0, 1) := by decide +kernel
theorem d_Wk_chooseOrders_3 : decode prog_12_method_3_code 3 = .ok (.istore 4, 2) := by decide +kernel
theorem d_Wk_chooseOrders_5 : decode prog_12_method_3_code 5 = .ok (.iload 4, 2) := by decide +kernel
theorem d_Wk_chooseOrders_7 : decode prog_12_method_3_code 7 = .ok (.aload_n 0, 1) := by decide +kernel
theorem d_Wk_chooseOrders_8 : decode prog_12_method_3_code 8 = .ok (.getfield 30, 3) := by decide +kernel
theorem d_Wk_chooseOrders_11 : decode prog_12_method_3_code 11 = .ok (.invokevirtual 44, 3) := by decide +kernel
theorem d_Wk_chooseOrders_14 : decode prog_12_method_3_code 14 = .ok (.if_icmp .ge 41, 3) := by decide +kernel
theorem d_Wk_chooseOrders_17 : decode prog_12_method_3_code 17 = .ok (.aload_n 0, 1) := by decide +kernel
theorem d_Wk_chooseOrders_18 : decode prog_12_method_3_code 18 = .ok (.getfield 30, 3) := by decide +kernel
theorem d_Wk_chooseOrders_21 : decode prog_12_method_3_code 21 = .ok (.iload 4, 2) := by decide +kernel
theorem d_Wk_chooseOrders_23 : decode prog_12_method_3_code 23 = .ok (.invokevirtual 49, 3) := by decide +kernel
theorem d_Wk_chooseOrders_26 : decode prog_12_method_3_code 26 = .ok (.iload_n 2, 1) := by decide +kernel
theorem d_Wk_chooseOrders_27 : decode prog_12_method_3_code 27 = .ok (.iconst (-1), 1) := by decide +kernel
theorem d_Wk_chooseOrders_28 : decode prog_12_method_3_code 28 = .ok (.ixor, 1) := by decide +kernel
theorem d_Wk_chooseOrders_29 : decode prog_12_method_3_code 29 = .ok (.iand, 1) := by decide +kernel
theorem d_Wk_chooseOrders_30 : decode prog_12_method_3_code 30 = .ok (.ifCond .ne 19, 3) := by decide +kernel
theorem d_Wk_chooseOrders_33 : decode prog_12_method_3_code 33 = .ok (.aload_n 0, 1) := by decide +kernel
theorem d_Wk_chooseOrders_34 : decode prog_12_method_3_code 34 = .ok (.getfield 9, 3) := by decide +kernel
theorem d_Wk_chooseOrders_37 : decode prog_12_method_3_code 37 = .ok (.bipush 24, 2) := by decide +kernel
theorem d_Wk_chooseOrders_39 : decode prog_12_method_3_code 39 = .ok (.iload_n 1, 1) := by decide +kernel
theorem d_Wk_chooseOrders_40 : decode prog_12_method_3_code 40 = .ok (.imul, 1) := by decide +kernel
theorem d_Wk_chooseOrders_41 : decode prog_12_method_3_code 41 = .ok (.iload_n 3, 1) := by decide +kernel
theorem d_Wk_chooseOrders_42 : decode prog_12_method_3_code 42 = .ok (.iadd, 1) := by decide +kernel
theorem d_Wk_chooseOrders_43 : decode prog_12_method_3_code 43 = .ok (.iload 4, 2) := by decide +kernel
theorem d_Wk_chooseOrders_45 : decode prog_12_method_3_code 45 = .ok (.iastore, 1) := by decide +kernel
theorem d_Wk_chooseOrders_46 : decode prog_12_method_3_code 46 = .ok (.iinc 3 1, 3) := by decide +kernel
theorem d_Wk_chooseOrders_49 : decode prog_12_method_3_code 49 = .ok (.iinc 4 1, 3) := by decide +kernel
theorem d_Wk_chooseOrders_52 : decode prog_12_method_3_code 52 = .ok (.goto (-47), 3) := by decide +kernel
theorem d_Wk_chooseOrders_55 : decode prog_12_method_3_code 55 = .ok (.iload_n 3, 1) := by decide +kernel
theorem d_Wk_chooseOrders_56 : decode prog_12_method_3_code 56 = .ok (.ireturn, 1) := by decide +kernel
theorem d_Od_count_0 : decode prog_8_method_3_code 0 = .ok (.aload_n 0, 1) := by decide +kernel
theorem d_Od_count_1 : decode prog_8_method_3_code 1 = .ok (.getfield 26, 3) := by decide +kernel
theorem d_Od_count_4 : decode prog_8_method_3_code 4 = .ok (.ireturn, 1) := by decide +kernel
theorem d_Od_ticks_0 : decode prog_8_method_4_code 0 = .ok (.aload_n 0, 1) := by decide +kernel
theorem d_Od_ticks_1 : decode prog_8_method_4_code 1 = .ok (.getfield 9, 3) := by decide +kernel
theorem d_Od_ticks_4 : decode prog_8_method_4_code 4 = .ok (.iload_n 1, 1) := by decide +kernel
theorem d_Od_ticks_5 : decode prog_8_method_4_code 5 = .ok (.iaload, 1) := by decide +kernel
theorem d_Od_ticks_6 : decode prog_8_method_4_code 6 = .ok (.ireturn, 1) := by decide +kernel
theorem d_Wk_start_0 : decode prog_12_method_4_code 0 = .ok (.iconst 0, 1) := by decide +kernel
theorem d_Wk_start_1 : decode prog_12_method_4_code 1 = .ok (.istore_n 1, 1) := by decide +kernel
theorem d_Wk_start_2 : decode prog_12_method_4_code 2 = .ok (.iload_n 1, 1) := by decide +kernel
theorem d_Wk_start_3 : decode prog_12_method_4_code 3 = .ok (.aload_n 0, 1) := by decide +kernel
theorem d_Wk_start_4 : decode prog_12_method_4_code 4 = .ok (.getfield 37, 3) := by decide +kernel
theorem d_Wk_start_7 : decode prog_12_method_4_code 7 = .ok (.if_icmp .ge 15, 3) := by decide +kernel
theorem d_Wk_start_10 : decode prog_12_method_4_code 10 = .ok (.aload_n 0, 1) := by decide +kernel
theorem d_Wk_start_11 : decode prog_12_method_4_code 11 = .ok (.iload_n 1, 1) := by decide +kernel
theorem d_Wk_start_12 : decode prog_12_method_4_code 12 = .ok (.iconst 0, 1) := by decide +kernel
theorem d_Wk_start_13 : decode prog_12_method_4_code 13 = .ok (.invokevirtual 53, 3) := by decide +kernel
theorem d_Wk_start_16 : decode prog_12_method_4_code 16 = .ok (.iinc 1 1, 3) := by decide +kernel
theorem d_Wk_start_19 : decode prog_12_method_4_code 19 = .ok (.goto (-17), 3) := by decide +kernel
theorem d_Wk_start_22 : decode prog_12_method_4_code 22 = .ok (.return_, 1) := by decide +kernel
theorem d_Wk_go_0 : decode prog_12_method_8_code 0 = .ok (.aload_n 0, 1) := by decide +kernel
theorem d_Wk_go_1 : decode prog_12_method_8_code 1 = .ok (.getfield 18, 3) := by decide +kernel
theorem d_Wk_go_4 : decode prog_12_method_8_code 4 = .ok (.iload_n 1, 1) := by decide +kernel
theorem d_Wk_go_5 : decode prog_12_method_8_code 5 = .ok (.iload_n 2, 1) := by decide +kernel
theorem d_Wk_go_6 : decode prog_12_method_8_code 6 = .ok (.iastore, 1) := by decide +kernel
theorem d_Wk_go_7 : decode prog_12_method_8_code 7 = .ok (.aload_n 0, 1) := by decide +kernel
theorem d_Wk_go_8 : decode prog_12_method_8_code 8 = .ok (.iload_n 1, 1) := by decide +kernel
theorem d_Wk_go_9 : decode prog_12_method_8_code 9 = .ok (.invokevirtual 57, 3) := by decide +kernel
theorem d_Wk_go_12 : decode prog_12_method_8_code 12 = .ok (.istore_n 3, 1) := by decide +kernel
theorem d_Wk_go_13 : decode prog_12_method_8_code 13 = .ok (.iconst 0, 1) := by decide +kernel
theorem d_Wk_go_14 : decode prog_12_method_8_code 14 = .ok (.istore 4, 2) := by decide +kernel
theorem d_Wk_go_16 : decode prog_12_method_8_code 16 = .ok (.iload 4, 2) := by decide +kernel
theorem d_Wk_go_18 : decode prog_12_method_8_code 18 = .ok (.aload_n 0, 1) := by decide +kernel
theorem d_Wk_go_19 : decode prog_12_method_8_code 19 = .ok (.getfield 30, 3) := by decide +kernel
theorem d_Wk_go_22 : decode prog_12_method_8_code 22 = .ok (.invokevirtual 60, 3) := by decide +kernel
theorem d_Wk_go_25 : decode prog_12_method_8_code 25 = .ok (.if_icmp .ge 30, 3) := by decide +kernel
theorem d_Wk_go_28 : decode prog_12_method_8_code 28 = .ok (.aload_n 0, 1) := by decide +kernel
theorem d_Wk_go_29 : decode prog_12_method_8_code 29 = .ok (.getfield 21, 3) := by decide +kernel
theorem d_Wk_go_32 : decode prog_12_method_8_code 32 = .ok (.iconst 4, 1) := by decide +kernel
theorem d_Wk_go_33 : decode prog_12_method_8_code 33 = .ok (.iload_n 1, 1) := by decide +kernel
theorem d_Wk_go_34 : decode prog_12_method_8_code 34 = .ok (.imul, 1) := by decide +kernel
theorem d_Wk_go_35 : decode prog_12_method_8_code 35 = .ok (.aload_n 0, 1) := by decide +kernel
theorem d_Wk_go_36 : decode prog_12_method_8_code 36 = .ok (.getfield 30, 3) := by decide +kernel
theorem d_Wk_go_39 : decode prog_12_method_8_code 39 = .ok (.iload_n 3, 1) := by decide +kernel
theorem d_Wk_go_40 : decode prog_12_method_8_code 40 = .ok (.iload 4, 2) := by decide +kernel
theorem d_Wk_go_42 : decode prog_12_method_8_code 42 = .ok (.invokevirtual 63, 3) := by decide +kernel
theorem d_Wk_go_45 : decode prog_12_method_8_code 45 = .ok (.iadd, 1) := by decide +kernel
theorem d_Wk_go_46 : decode prog_12_method_8_code 46 = .ok (.iload 4, 2) := by decide +kernel
theorem d_Wk_go_48 : decode prog_12_method_8_code 48 = .ok (.iastore, 1) := by decide +kernel
theorem d_Wk_go_49 : decode prog_12_method_8_code 49 = .ok (.iinc 4 1, 3) := by decide +kernel
theorem d_Wk_go_52 : decode prog_12_method_8_code 52 = .ok (.goto (-36), 3) := by decide +kernel
theorem d_Wk_go_55 : decode prog_12_method_8_code 55 = .ok (.return_, 1) := by decide +kernel
theorem d_In_bitCount_0 : decode prog_16_method_49_code 0 = .ok (.iload_n 0, 1) := by decide +kernel
theorem d_In_bitCount_1 : decode prog_16_method_49_code 1 = .ok (.iload_n 0, 1) := by decide +kernel
theorem d_In_bitCount_2 : decode prog_16_method_49_code 2 = .ok (.iconst 1, 1) := by decide +kernel
theorem d_In_bitCount_3 : decode prog_16_method_49_code 3 = .ok (.iushr, 1) := by decide +kernel
theorem d_In_bitCount_4 : decode prog_16_method_49_code 4 = .ok (.ldc_w 265, 3) := by decide +kernel
theorem d_In_bitCount_7 : decode prog_16_method_49_code 7 = .ok (.iand, 1) := by decide +kernel
theorem d_In_bitCount_8 : decode prog_16_method_49_code 8 = .ok (.isub, 1) := by decide +kernel
theorem d_In_bitCount_9 : decode prog_16_method_49_code 9 = .ok (.istore_n 0, 1) := by decide +kernel
theorem d_In_bitCount_10 : decode prog_16_method_49_code 10 = .ok (.iload_n 0, 1) := by decide +kernel
theorem d_In_bitCount_11 : decode prog_16_method_49_code 11 = .ok (.ldc_w 266, 3) := by decide +kernel
theorem d_In_bitCount_14 : decode prog_16_method_49_code 14 = .ok (.iand, 1) := by decide +kernel
theorem d_In_bitCount_15 : decode prog_16_method_49_code 15 = .ok (.iload_n 0, 1) := by decide +kernel
theorem d_In_bitCount_16 : decode prog_16_method_49_code 16 = .ok (.iconst 2, 1) := by decide +kernel
theorem d_In_bitCount_17 : decode prog_16_method_49_code 17 = .ok (.iushr, 1) := by decide +kernel
theorem d_In_bitCount_18 : decode prog_16_method_49_code 18 = .ok (.ldc_w 266, 3) := by decide +kernel
theorem d_In_bitCount_21 : decode prog_16_method_49_code 21 = .ok (.iand, 1) := by decide +kernel
theorem d_In_bitCount_22 : decode prog_16_method_49_code 22 = .ok (.iadd, 1) := by decide +kernel
theorem d_In_bitCount_23 : decode prog_16_method_49_code 23 = .ok (.istore_n 0, 1) := by decide +kernel
theorem d_In_bitCount_24 : decode prog_16_method_49_code 24 = .ok (.iload_n 0, 1) := by decide +kernel
theorem d_In_bitCount_25 : decode prog_16_method_49_code 25 = .ok (.iload_n 0, 1) := by decide +kernel
theorem d_In_bitCount_26 : decode prog_16_method_49_code 26 = .ok (.iconst 4, 1) := by decide +kernel
theorem d_In_bitCount_27 : decode prog_16_method_49_code 27 = .ok (.iushr, 1) := by decide +kernel
theorem d_In_bitCount_28 : decode prog_16_method_49_code 28 = .ok (.iadd, 1) := by decide +kernel
theorem d_In_bitCount_29 : decode prog_16_method_49_code 29 = .ok (.ldc_w 267, 3) := by decide +kernel
theorem d_In_bitCount_32 : decode prog_16_method_49_code 32 = .ok (.iand, 1) := by decide +kernel
theorem d_In_bitCount_33 : decode prog_16_method_49_code 33 = .ok (.istore_n 0, 1) := by decide +kernel
theorem d_In_bitCount_34 : decode prog_16_method_49_code 34 = .ok (.iload_n 0, 1) := by decide +kernel
theorem d_In_bitCount_35 : decode prog_16_method_49_code 35 = .ok (.iload_n 0, 1) := by decide +kernel
theorem d_In_bitCount_36 : decode prog_16_method_49_code 36 = .ok (.bipush 8, 2) := by decide +kernel
theorem d_In_bitCount_38 : decode prog_16_method_49_code 38 = .ok (.iushr, 1) := by decide +kernel
theorem d_In_bitCount_39 : decode prog_16_method_49_code 39 = .ok (.iadd, 1) := by decide +kernel
theorem d_In_bitCount_40 : decode prog_16_method_49_code 40 = .ok (.istore_n 0, 1) := by decide +kernel
theorem d_In_bitCount_41 : decode prog_16_method_49_code 41 = .ok (.iload_n 0, 1) := by decide +kernel
theorem d_In_bitCount_42 : decode prog_16_method_49_code 42 = .ok (.iload_n 0, 1) := by decide +kernel
theorem d_In_bitCount_43 : decode prog_16_method_49_code 43 = .ok (.bipush 16, 2) := by decide +kernel
theorem d_In_bitCount_45 : decode prog_16_method_49_code 45 = .ok (.iushr, 1) := by decide +kernel
theorem d_In_bitCount_46 : decode prog_16_method_49_code 46 = .ok (.iadd, 1) := by decide +kernel
theorem d_In_bitCount_47 : decode prog_16_method_49_code 47 = .ok (.istore_n 0, 1) := by decide +kernel
theorem d_In_bitCount_48 : decode prog_16_method_49_code 48 = .ok (.iload_n 0, 1) := by decide +kernel
theorem d_In_bitCount_49 : decode prog_16_method_49_code 49 = .ok (.bipush 63, 2) := by decide +kernel
theorem d_In_bitCount_51 : decode prog_16_method_49_code 51 = .ok (.iand, 1) := by decide +kernel
theorem d_In_bitCount_52 : decode prog_16_method_49_code 52 = .ok (.ireturn, 1) := by decide +kernel
theorem d_Ar_fill_0 : decode prog_21_method_103_code 0 = .ok (.iconst 0, 1) := by decide +kernel
theorem d_Ar_fill_1 : decode prog_21_method_103_code 1 = .ok (.istore_n 2, 1) := by decide +kernel
theorem d_Ar_fill_2 : decode prog_21_method_103_code 2 = .ok (.aload_n 0, 1) := by decide +kernel
theorem d_Ar_fill_3 : decode prog_21_method_103_code 3 = .ok (.arraylength, 1) := by decide +kernel
theorem d_Ar_fill_4 : decode prog_21_method_103_code 4 = .ok (.istore_n 3, 1) := by decide +kernel
theorem d_Ar_fill_5 : decode prog_21_method_103_code 5 = .ok (.iload_n 2, 1) := by decide +kernel
theorem d_Ar_fill_6 : decode prog_21_method_103_code 6 = .ok (.iload_n 3, 1) := by decide +kernel
theorem d_Ar_fill_7 : decode prog_21_method_103_code 7 = .ok (.if_icmp .ge 13, 3) := by decide +kernel
theorem d_Ar_fill_10 : decode prog_21_method_103_code 10 = .ok (.aload_n 0, 1) := by decide +kernel
theorem d_Ar_fill_11 : decode prog_21_method_103_code 11 = .ok (.iload_n 2, 1) := by decide +kernel
theorem d_Ar_fill_12 : decode prog_21_method_103_code 12 = .ok (.iload_n 1, 1) := by decide +kernel
theorem d_Ar_fill_13 : decode prog_21_method_103_code 13 = .ok (.iastore, 1) := by decide +kernel
theorem d_Ar_fill_14 : decode prog_21_method_103_code 14 = .ok (.iinc 2 1, 3) := by decide +kernel
theorem d_Ar_fill_17 : decode prog_21_method_103_code 17 = .ok (.goto (-12), 3) := by decide +kernel
theorem d_Ar_fill_20 : decode prog_21_method_103_code 20 = .ok (.return_, 1) := by decide +kernel
