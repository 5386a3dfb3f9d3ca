theorem d_Md_init_0 : decode prog_14_method_1_code 0 = .ok (.aload_n 0, 1) := by decide +kernel
theorem d_Md_init_1 : decode prog_14_method_1_code 1 = .ok (.invokespecial 1, 3) := by decide +kernel
theorem d_Md_init_4 : decode prog_14_method_1_code 4 = .ok (.aload_n 0, 1) := by decide +kernel
theorem d_Md_init_5 : decode prog_14_method_1_code 5 = .ok (.sipush 300, 3) := by decide +kernel
theorem d_Md_init_8 : decode prog_14_method_1_code 8 = .ok (.newarray .int, 2) := by decide +kernel
theorem d_Md_init_10 : decode prog_14_method_1_code 10 = .ok (.putfield 7, 3) := by decide +kernel
theorem d_Md_init_13 : decode prog_14_method_1_code 13 = .ok (.aload_n 0, 1) := by decide +kernel
theorem d_Md_init_14 : decode prog_14_method_1_code 14 = .ok (.iconst 1, 1) := by decide +kernel
theorem d_Md_init_15 : decode prog_14_method_1_code 15 = .ok (.putfield 13, 3) := by decide +kernel
theorem d_Md_init_18 : decode prog_14_method_1_code 18 = .ok (.aload_n 0, 1) := by decide +kernel
theorem d_Md_init_19 : decode prog_14_method_1_code 19 = .ok (.bipush 21, 2) := by decide +kernel
theorem d_Md_init_21 : decode prog_14_method_1_code 21 = .ok (.newarray .int, 2) := by decide +kernel
theorem d_Md_init_23 : decode prog_14_method_1_code 23 = .ok (.putfield 17, 3) := by decide +kernel
theorem d_Md_init_26 : decode prog_14_method_1_code 26 = .ok (.aload_n 0, 1) := by decide +kernel
theorem d_Md_init_27 : decode prog_14_method_1_code 27 = .ok (.sipush 600, 3) := by decide +kernel
theorem d_Md_init_30 : decode prog_14_method_1_code 30 = .ok (.newarray .int, 2) := by decide +kernel
theorem d_Md_init_32 : decode prog_14_method_1_code 32 = .ok (.putfield 20, 3) := by decide +kernel
theorem d_Md_init_35 : decode prog_14_method_1_code 35 = .ok (.aload_n 0, 1) := by decide +kernel
theorem d_Md_init_36 : decode prog_14_method_1_code 36 = .ok (.sipush 600, 3) := by decide +kernel
theorem d_Md_init_39 : decode prog_14_method_1_code 39 = .ok (.newarray .int, 2) := by decide +kernel
theorem d_Md_init_41 : decode prog_14_method_1_code 41 = .ok (.putfield 23, 3) := by decide +kernel
theorem d_Md_init_44 : decode prog_14_method_1_code 44 = .ok (.aload_n 0, 1) := by decide +kernel
theorem d_Md_init_45 : decode prog_14_method_1_code 45 = .ok (.sipush 600, 3) := by decide +kernel
theorem d_Md_init_48 : decode prog_14_method_1_code 48 = .ok (.newarray .int, 2) := by decide +kernel
theorem d_Md_init_50 : decode prog_14_method_1_code 50 = .ok (.putfield 26, 3) := by decide +kernel
theorem d_Md_init_53 : decode prog_14_method_1_code 53 = .ok (.aload_n 0, 1) := by decide +kernel
theorem d_Md_init_54 : decode prog_14_method_1_code 54 = .ok (.bipush 22, 2) := by decide +kernel
theorem d_Md_init_56 : decode prog_14_method_1_code 56 = .ok (.newarray .int, 2) := by decide +kernel
theorem d_Md_init_58 : decode prog_14_method_1_code 58 = .ok (.putfield 29, 3) := by decide +kernel
theorem d_Md_init_61 : decode prog_14_method_1_code 61 = .ok (.aload_n 0, 1) := by decide +kernel
theorem d_Md_init_62 : decode prog_14_method_1_code 62 = .ok (.sipush 640, 3) := by decide +kernel
theorem d_Md_init_65 : decode prog_14_method_1_code 65 = .ok (.newarray .int, 2) := by decide +kernel
theorem d_Md_init_67 : decode prog_14_method_1_code 67 = .ok (.putfield 32, 3) := by decide +kernel
theorem d_Md_init_70 : decode prog_14_method_1_code 70 = .ok (.aload_n 0, 1) := by decide +kernel
theorem d_Md_init_71 : decode prog_14_method_1_code 71 = .ok (.sipush 640, 3) := by decide +kernel
theorem d_Md_init_74 : decode prog_14_method_1_code 74 = .ok (.newarray .int, 2) := by decide +kernel
theorem d_Md_init_76 : decode prog_14_method_1_code 76 = .ok (.putfield 35, 3) := by decide +kernel
theorem d_Md_init_79 : decode prog_14_method_1_code 79 = .ok (.aload_n 0, 1) := by decide +kernel
theorem d_Md_init_80 : decode prog_14_method_1_code 80 = .ok (.sipush 640, 3) := by decide +kernel
theorem d_Md_init_83 : decode prog_14_method_1_code 83 = .ok (.newarray .int, 2) := by decide +kernel
theorem d_Md_init_85 : decode prog_14_method_1_code 85 = .ok (.putfield 38, 3) := by decide +kernel
theorem d_Md_init_88 : decode prog_14_method_1_code 88 = .ok (.aload_n 0, 1) := by decide +kernel
theorem d_Md_init_89 : decode prog_14_method_1_code 89 = .ok (.bipush 96, 2) := by decide +kernel
theorem d_Md_init_91 : decode prog_14_method_1_code 91 = .ok (.newarray .int, 2) := by decide +kernel
theorem d_Md_init_93 : decode prog_14_method_1_code 93 = .ok (.putfield 41, 3) := by decide +kernel
theorem d_Md_init_96 : decode prog_14_method_1_code 96 = .ok (.aload_n 0, 1) := by decide +kernel
theorem d_Md_init_97 : decode prog_14_method_1_code 97 = .ok (.bipush 96, 2) := by decide +kernel
theorem d_Md_init_99 : decode prog_14_method_1_code 99 = .ok (.newarray .int, 2) := by decide +kernel
theorem d_Md_init_101 : decode prog_14_method_1_code 101 = .ok (.putfield 44, 3) := by decide +kernel
theorem d_Md_init_104 : decode prog_14_method_1_code 104 = .ok (.aload_n 0, 1) := by decide +kernel
theorem d_Md_init_105 : decode prog_14_method_1_code 105 = .ok (.ldc 47, 2) := by decide +kernel
theorem d_Md_init_107 : decode prog_14_method_1_code 107 = .ok (.newarray .int, 2) := by decide +kernel
theorem d_Md_init_109 : decode prog_14_method_1_code 109 = .ok (.putfield 48, 3) := by decide +kernel
theorem d_Md_init_112 : decode prog_14_method_1_code 112 = .ok (.aload_n 0, 1) := by decide +kernel
theorem d_Md_init_113 : decode prog_14_method_1_code 113 = .ok (.bipush 32, 2) := by decide +kernel
theorem d_Md_init_115 : decode prog_14_method_1_code 115 = .ok (.newarray .boolean, 2) := by decide +kernel
theorem d_Md_init_117 : decode prog_14_method_1_code 117 = .ok (.putfield 51, 3) := by decide +kernel
theorem d_Md_init_120 : decode prog_14_method_1_code 120 = .ok (.aload_n 0, 1) := by decide +kernel
theorem d_Md_init_121 : decode prog_14_method_1_code 121 = .ok (.bipush 100, 2) := by decide +kernel
theorem d_Md_init_123 : decode prog_14_method_1_code 123 = .ok (.newarray .int, 2) := by decide +kernel
theorem d_Md_init_125 : decode prog_14_method_1_code 125 = .ok (.putfield 55, 3) := by decide +kernel
theorem d_Md_init_128 : decode prog_14_method_1_code 128 = .ok (.aload_n 0, 1) := by decide +kernel
theorem d_Md_init_129 : decode prog_14_method_1_code 129 = .ok (.bipush 12, 2) := by decide +kernel
theorem d_Md_init_131 : decode prog_14_method_1_code 131 = .ok (.newarray .int, 2) := by decide +kernel
theorem d_Md_init_133 : decode prog_14_method_1_code 133 = .ok (.putfield 58, 3) := by decide +kernel
theorem d_Md_init_136 : decode prog_14_method_1_code 136 = .ok (.aload_n 0, 1) := by decide +kernel
theorem d_Md_init_137 : decode prog_14_method_1_code 137 = .ok (.iconst 3, 1) := by decide +kernel
theorem d_Md_init_138 : decode prog_14_method_1_code 138 = .ok (.newarray .int, 2) := by decide +kernel
theorem d_Md_init_140 : decode prog_14_method_1_code 140 = .ok (.putfield 61, 3) := by decide +kernel
theorem d_Md_init_143 : decode prog_14_method_1_code 143 = .ok (.aload_n 0, 1) := by decide +kernel
theorem d_Md_init_144 : decode prog_14_method_1_code 144 = .ok (.bipush 12, 2) := by decide +kernel
theorem d_Md_init_146 : decode prog_14_method_1_code 146 = .ok (.newarray .int, 2) := by decide +kernel
theorem d_Md_init_148 : decode prog_14_method_1_code 148 = .ok (.putfield 64, 3) := by decide +kernel
theorem d_Md_init_151 : decode prog_14_method_1_code 151 = .ok (.aload_n 0, 1) := by decide +kernel
theorem d_Md_init_152 : decode prog_14_method_1_code 152 = .ok (.iconst 3, 1) := by decide +kernel
theorem d_Md_init_153 : decode prog_14_method_1_code 153 = .ok (.newarray .int, 2) := by decide +kernel
theorem d_Md_init_155 : decode prog_14_method_1_code 155 = .ok (.putfield 67, 3) := by decide +kernel
theorem d_Md_init_158 : decode prog_14_method_1_code 158 = .ok (.aload_n 0, 1) := by decide +kernel
theorem d_Md_init_159 : decode prog_14_method_1_code 159 = .ok (.bipush 60, 2) := by decide +kernel
theorem d_Md_init_161 : decode prog_14_method_1_code 161 = .ok (.newarray .int, 2) := by decide +kernel
theorem d_Md_init_163 : decode prog_14_method_1_code 163 = .ok (.putfield 70, 3) := by decide +kernel
theorem d_Md_init_166 : decode prog_14_method_1_code 166 = .ok (.aload_n 0, 1) := by decide +kernel
theorem d_Md_init_167 : decode prog_14_method_1_code 167 = .ok (.bipush 60, 2) := by decide +kernel
theorem d_Md_init_169 : decode prog_14_method_1_code 169 = .ok (.newarray .int, 2) := by decide +kernel
theorem d_Md_init_171 : decode prog_14_method_1_code 171 = .ok (.putfield 73, 3) := by decide +kernel
theorem d_Md_init_174 : decode prog_14_method_1_code 174 = .ok (.aload_n 0, 1) := by decide +kernel
theorem d_Md_init_175 : decode prog_14_method_1_code 175 = .ok (.invokevirtual 76, 3) := by decide +kernel
theorem d_Md_init_178 : decode prog_14_method_1_code 178 = .ok (.return_, 1) := by decide +kernel
theorem d_Md_fresh_0 : decode prog_14_method_3_code 0 = .ok (.aload_n 0, 1) := by decide +kernel
theorem d_Md_fresh_1 : decode prog_14_method_3_code 1 = .ok (.iconst 0, 1) := by decide +kernel
theorem d_Md_fresh_2 : decode prog_14_method_3_code 2 = .ok (.putfield 82, 3) := by decide +kernel
theorem d_Md_fresh_5 : decode prog_14_method_3_code 5 = .ok (.aload_n 0, 1) := by decide +kernel
theorem d_Md_fresh_6 : decode prog_14_method_3_code 6 = .ok (.iconst 0, 1) := by decide +kernel
theorem d_Md_fresh_7 : decode prog_14_method_3_code 7 = .ok (.putfield 86, 3) := by decide +kernel
theorem d_Md_fresh_10 : decode prog_14_method_3_code 10 = .ok (.aload_n 0, 1) := by decide +kernel
theorem d_Md_fresh_11 : decode prog_14_method_3_code 11 = .ok (.iconst 0, 1) := by decide +kernel
theorem d_Md_fresh_12 : decode prog_14_method_3_code 12 = .ok (.putfield 89, 3) := by decide +kernel
theorem d_Md_fresh_15 : decode prog_14_method_3_code 15 = .ok (.aload_n 0, 1) := by decide +kernel
theorem d_Md_fresh_16 : decode prog_14_method_3_code 16 = .ok (.iconst 0, 1) := by decide +kernel
theorem d_Md_fresh_17 : decode prog_14_method_3_code 17 = .ok (.putfield 92, 3) := by decide +kernel
theorem d_Md_fresh_20 : decode prog_14_method_3_code 20 = .ok (.aload_n 0, 1) := by decide +kernel
theorem d_Md_fresh_21 : decode prog_14_method_3_code 21 = .ok (.invokevirtual 95, 3) := by decide +kernel
theorem d_Md_fresh_24 : decode prog_14_method_3_code 24 = .ok (.return_, 1) := by decide +kernel
theorem d_Md_all_0 : decode prog_14_method_4_code 0 = .ok (.iconst 0, 1) := by decide +kernel
theorem d_Md_all_1 : decode prog_14_method_4_code 1 = .ok (.istore_n 1, 1) := by decide +kernel
theorem d_Md_all_2 : decode prog_14_method_4_code 2 = .ok (.iload_n 1, 1) := by decide +kernel
theorem d_Md_all_3 : decode prog_14_method_4_code 3 = .ok (.bipush 12, 2) := by decide +kernel
theorem d_Md_all_5 : decode prog_14_method_4_code 5 = .ok (.if_icmp .ge 23, 3) := by decide +kernel
theorem d_Md_all_8 : decode prog_14_method_4_code 8 = .ok (.aload_n 0, 1) := by decide +kernel
theorem d_Md_all_9 : decode prog_14_method_4_code 9 = .ok (.getfield 58, 3) := by decide +kernel
theorem d_Md_all_12 : decode prog_14_method_4_code 12 = .ok (.iload_n 1, 1) := by decide +kernel
theorem d_Md_all_13 : decode prog_14_method_4_code 13 = .ok (.iconst 1, 1) := by decide +kernel
theorem d_Md_all_14 : decode prog_14_method_4_code 14 = .ok (.aload_n 0, 1) := by decide +kernel
theorem d_Md_all_15 : decode prog_14_method_4_code 15 = .ok (.getfield 13, 3) := by decide +kernel
theorem d_Md_all_18 : decode prog_14_method_4_code 18 = .ok (.ishl, 1) := by decide +kernel
theorem d_Md_all_19 : decode prog_14_method_4_code 19 = .ok (.iconst 1, 1) := by decide +kernel
theorem d_Md_all_20 : decode prog_14_method_4_code 20 = .ok (.isub, 1) := by decide +kernel
theorem d_Md_all_21 : decode prog_14_method_4_code 21 = .ok (.iastore, 1) := by decide +kernel
theorem d_Md_all_22 : decode prog_14_method_4_code 22 = .ok (.iinc 1 1, 3) := by decide +kernel
theorem d_Md_all_25 : decode prog_14_method_4_code 25 = .ok (.goto (-23), 3) := by decide +kernel
theorem d_Md_all_28 : decode prog_14_method_4_code 28 = .ok (.iconst 0, 1) := by decide +kernel
theorem d_Md_all_29 : decode prog_14_method_4_code 29 = .ok (.istore_n 1, 1) := by decide +kernel
theorem d_Md_all_30 : decode prog_14_method_4_code 30 = .ok (.iload_n 1, 1) := by decide +kernel
theorem d_Md_all_31 : decode prog_14_method_4_code 31 = .ok (.iconst 3, 1) := by decide +kernel
theorem d_Md_all_32 : decode prog_14_method_4_code 32 = .ok (.if_icmp .ge 16, 3) := by decide +kernel
theorem d_Md_all_35 : decode prog_14_method_4_code 35 = .ok (.aload_n 0, 1) := by decide +kernel
theorem d_Md_all_36 : decode prog_14_method_4_code 36 = .ok (.getfield 61, 3) := by decide +kernel
theorem d_Md_all_39 : decode prog_14_method_4_code 39 = .ok (.iload_n 1, 1) := by decide +kernel
theorem d_Md_all_40 : decode prog_14_method_4_code 40 = .ok (.iconst 3, 1) := by decide +kernel
theorem d_Md_all_41 : decode prog_14_method_4_code 41 = .ok (.iastore, 1) := by decide +kernel
theorem d_Md_all_42 : decode prog_14_method_4_code 42 = .ok (.iinc 1 1, 3) := by decide +kernel
theorem d_Md_all_45 : decode prog_14_method_4_code 45 = .ok (.goto (-15), 3) := by decide +kernel
theorem d_Md_all_48 : decode prog_14_method_4_code 48 = .ok (.return_, 1) := by decide +kernel
theorem d_Md_unit_0 : decode prog_14_method_5_code 0 = .ok (.aload_n 0, 1) := by decide +kernel
theorem d_Md_unit_1 : decode prog_14_method_5_code 1 = .ok (.iconst 0, 1) := by decide +kernel
theorem d_Md_unit_2 : decode prog_14_method_5_code 2 = .ok (.putfield 79, 3) := by decide +kernel
theorem d_Md_unit_5 : decode prog_14_method_5_code 5 = .ok (.iload_n 1, 1) := by decide +kernel
theorem d_Md_unit_6 : decode prog_14_method_5_code 6 = .ok (.ifCond .lt 20, 3) := by decide +kernel
theorem d_Md_unit_9 : decode prog_14_method_5_code 9 = .ok (.iload_n 1, 1) := by decide +kernel
theorem d_Md_unit_10 : decode prog_14_method_5_code 10 = .ok (.sipush 255, 3) := by decide +kernel
theorem d_Md_unit_13 : decode prog_14_method_5_code 13 = .ok (.if_icmp .gt 13, 3) := by decide +kernel
theorem d_Md_unit_16 : decode prog_14_method_5_code 16 = .ok (.aload_n 0, 1) := by decide +kernel
theorem d_Md_unit_17 : decode prog_14_method_5_code 17 = .ok (.getfield 98, 3) := by decide +kernel
theorem d_Md_unit_20 : decode prog_14_method_5_code 20 = .ok (.sipush 300, 3) := by decide +kernel
theorem d_Md_unit_23 : decode prog_14_method_5_code 23 = .ok (.if_icmp .ne 5, 3) := by decide +kernel
theorem d_Md_unit_26 : decode prog_14_method_5_code 26 = .ok (.iconst 0, 1) := by decide +kernel
theorem d_Md_unit_27 : decode prog_14_method_5_code 27 = .ok (.ireturn, 1) := by decide +kernel
theorem d_Md_unit_28 : decode prog_14_method_5_code 28 = .ok (.aload_n 0, 1) := by decide +kernel
theorem d_Md_unit_29 : decode prog_14_method_5_code 29 = .ok (.getfield 7, 3) := by decide +kernel
theorem d_Md_unit_32 : decode prog_14_method_5_code 32 = .ok (.aload_n 0, 1) := by decide +kernel
theorem d_Md_unit_33 : decode prog_14_method_5_code 33 = .ok (.getfield 98, 3) := by decide +kernel
theorem d_Md_unit_36 : decode prog_14_method_5_code 36 = .ok (.iload_n 1, 1) := by decide +kernel
theorem d_Md_unit_37 : decode prog_14_method_5_code 37 = .ok (.iastore, 1) := by decide +kernel
theorem d_Md_unit_38 : decode prog_14_method_5_code 38 = .ok (.aload_n 0, 1) := by decide +kernel
theorem d_Md_unit_39 : decode prog_14_method_5_code 39 = .ok (.dup, 1) := by decide +kernel
theorem d_Md_unit_40 : decode prog_14_method_5_code 40 = .ok (.getfield 98, 3) := by decide +kernel
theorem d_Md_unit_43 : decode prog_14_method_5_code 43 = .ok (.iconst 1, 1) := by decide +kernel
theorem d_Md_unit_44 : decode prog_14_method_5_code 44 = .ok (.iadd, 1) := by decide +kernel
theorem d_Md_unit_45 : decode prog_14_method_5_code 45 = .ok (.putfield 98, 3) := by decide +kernel
theorem d_Md_unit_48 : decode prog_14_method_5_code 48 = .ok (.iconst 1, 1) := by decide +kernel
theorem d_Md_unit_49 : decode prog_14_method_5_code 49 = .ok (.ireturn, 1) := by decide +kernel
theorem d_Md_read_0 : decode prog_14_method_12_code 0 = .ok (.aload_n 0, 1) := by decide +kernel
theorem d_Md_read_1 : decode prog_14_method_12_code 1 = .ok (.iconst 0, 1) := by decide +kernel
theorem d_Md_read_2 : decode prog_14_method_12_code 2 = .ok (.putfield 79, 3) := by decide +kernel
theorem d_Md_read_5 : decode prog_14_method_12_code 5 = .ok (.aload_n 0, 1) := by decide +kernel
theorem d_Md_read_6 : decode prog_14_method_12_code 6 = .ok (.invokevirtual 135, 3) := by decide +kernel
theorem d_Md_read_9 : decode prog_14_method_12_code 9 = .ok (.istore_n 1, 1) := by decide +kernel
theorem d_Md_read_10 : decode prog_14_method_12_code 10 = .ok (.aload_n 0, 1) := by decide +kernel
theorem d_Md_read_11 : decode prog_14_method_12_code 11 = .ok (.iconst 0, 1) := by decide +kernel
theorem d_Md_read_12 : decode prog_14_method_12_code 12 = .ok (.putfield 98, 3) := by decide +kernel
theorem d_Md_read_15 : decode prog_14_method_12_code 15 = .ok (.iload_n 1, 1) := by decide +kernel
theorem d_Md_read_16 : decode prog_14_method_12_code 16 = .ok (.ifCond .ne 10, 3) := by decide +kernel
theorem d_Md_read_19 : decode prog_14_method_12_code 19 = .ok (.iconst (-1), 1) := by decide +kernel
theorem d_Md_read_20 : decode prog_14_method_12_code 20 = .ok (.aload_n 0, 1) := by decide +kernel
theorem d_Md_read_21 : decode prog_14_method_12_code 21 = .ok (.getfield 101, 3) := by decide +kernel
theorem d_Md_read_24 : decode prog_14_method_12_code 24 = .ok (.isub, 1) := by decide +kernel
theorem d_Md_read_25 : decode prog_14_method_12_code 25 = .ok (.ireturn, 1) := by decide +kernel
theorem d_Md_read_26 : decode prog_14_method_12_code 26 = .ok (.aload_n 0, 1) := by decide +kernel
theorem d_Md_read_27 : decode prog_14_method_12_code 27 = .ok (.aload_n 0, 1) := by decide +kernel
theorem d_Md_read_28 : decode prog_14_method_12_code 28 = .ok (.getfield 111, 3) := by decide +kernel
theorem d_Md_read_31 : decode prog_14_method_12_code 31 = .ok (.putfield 13, 3) := by decide +kernel
theorem d_Md_read_34 : decode prog_14_method_12_code 34 = .ok (.aload_n 0, 1) := by decide +kernel
theorem d_Md_read_35 : decode prog_14_method_12_code 35 = .ok (.aload_n 0, 1) := by decide +kernel
theorem d_Md_read_36 : decode prog_14_method_12_code 36 = .ok (.getfield 108, 3) := by decide +kernel
theorem d_Md_read_39 : decode prog_14_method_12_code 39 = .ok (.putfield 138, 3) := by decide +kernel
theorem d_Md_read_42 : decode prog_14_method_12_code 42 = .ok (.aload_n 0, 1) := by decide +kernel
theorem d_Md_read_43 : decode prog_14_method_12_code 43 = .ok (.aload_n 0, 1) := by decide +kernel
theorem d_Md_read_44 : decode prog_14_method_12_code 44 = .ok (.getfield 128, 3) := by decide +kernel
theorem d_Md_read_47 : decode prog_14_method_12_code 47 = .ok (.putfield 141, 3) := by decide +kernel
theorem d_Md_read_50 : decode prog_14_method_12_code 50 = .ok (.aload_n 0, 1) := by decide +kernel
theorem d_Md_read_51 : decode prog_14_method_12_code 51 = .ok (.aload_n 0, 1) := by decide +kernel
theorem d_Md_read_52 : decode prog_14_method_12_code 52 = .ok (.getfield 118, 3) := by decide +kernel
theorem d_Md_read_55 : decode prog_14_method_12_code 55 = .ok (.putfield 144, 3) := by decide +kernel
theorem d_Md_read_58 : decode prog_14_method_12_code 58 = .ok (.iconst 0, 1) := by decide +kernel
theorem d_Md_read_59 : decode prog_14_method_12_code 59 = .ok (.istore_n 2, 1) := by decide +kernel
theorem d_Md_read_60 : decode prog_14_method_12_code 60 = .ok (.iload_n 2, 1) := by decide +kernel
theorem d_Md_read_61 : decode prog_14_method_12_code 61 = .ok (.aload_n 0, 1) := by decide +kernel
theorem d_Md_read_62 : decode prog_14_method_12_code 62 = .ok (.getfield 144, 3) := by decide +kernel
theorem d_Md_read_65 : decode prog_14_method_12_code 65 = .ok (.if_icmp .gt 21, 3) := by decide +kernel
theorem d_Md_read_68 : decode prog_14_method_12_code 68 = .ok (.aload_n 0, 1) := by decide +kernel
theorem d_Md_read_69 : decode prog_14_method_12_code 69 = .ok (.getfield 17, 3) := by decide +kernel
theorem d_Md_read_72 : decode prog_14_method_12_code 72 = .ok (.iload_n 2, 1) := by decide +kernel
theorem d_Md_read_73 : decode prog_14_method_12_code 73 = .ok (.aload_n 0, 1) := by decide +kernel
theorem d_Md_read_74 : decode prog_14_method_12_code 74 = .ok (.getfield 29, 3) := by decide +kernel
theorem d_Md_read_77 : decode prog_14_method_12_code 77 = .ok (.iload_n 2, 1) := by decide +kernel
theorem d_Md_read_78 : decode prog_14_method_12_code 78 = .ok (.iaload, 1) := by decide +kernel
theorem d_Md_read_79 : decode prog_14_method_12_code 79 = .ok (.iastore, 1) := by decide +kernel
theorem d_Md_read_80 : decode prog_14_method_12_code 80 = .ok (.iinc 2 1, 3) := by decide +kernel
theorem d_Md_read_83 : decode prog_14_method_12_code 83 = .ok (.goto (-23), 3) := by decide +kernel
theorem d_Md_read_86 : decode prog_14_method_12_code 86 = .ok (.iconst 0, 1) := by decide +kernel
theorem d_Md_read_87 : decode prog_14_method_12_code 87 = .ok (.istore_n 2, 1) := by decide +kernel
theorem d_Md_read_88 : decode prog_14_method_12_code 88 = .ok (.iload_n 2, 1) := by decide +kernel
theorem d_Md_read_89 : decode prog_14_method_12_code 89 = .ok (.aload_n 0, 1) := by decide +kernel
theorem d_Md_read_90 : decode prog_14_method_12_code 90 = .ok (.getfield 17, 3) := by decide +kernel
theorem d_Md_read_93 : decode prog_14_method_12_code 93 = .ok (.aload_n 0, 1) := by decide +kernel
theorem d_Md_read_94 : decode prog_14_method_12_code 94 = .ok (.getfield 144, 3) := by decide +kernel
theorem d_Md_read_97 : decode prog_14_method_12_code 97 = .ok (.iaload, 1) := by decide +kernel
theorem d_Md_read_98 : decode prog_14_method_12_code 98 = .ok (.if_icmp .ge 45, 3) := by decide +kernel
theorem d_Md_read_101 : decode prog_14_method_12_code 101 = .ok (.aload_n 0, 1) := by decide +kernel
theorem d_Md_read_102 : decode prog_14_method_12_code 102 = .ok (.getfield 20, 3) := by decide +kernel
theorem d_Md_read_105 : decode prog_14_method_12_code 105 = .ok (.iload_n 2, 1) := by decide +kernel
theorem d_Md_read_106 : decode prog_14_method_12_code 106 = .ok (.aload_n 0, 1) := by decide +kernel
theorem d_Md_read_107 : decode prog_14_method_12_code 107 = .ok (.getfield 32, 3) := by decide +kernel
theorem d_Md_read_110 : decode prog_14_method_12_code 110 = .ok (.iload_n 2, 1) := by decide +kernel
theorem d_Md_read_111 : decode prog_14_method_12_code 111 = .ok (.iaload, 1) := by decide +kernel
theorem d_Md_read_112 : decode prog_14_method_12_code 112 = .ok (.iastore, 1) := by decide +kernel
theorem d_Md_read_113 : decode prog_14_method_12_code 113 = .ok (.aload_n 0, 1) := by decide +kernel
theorem d_Md_read_114 : decode prog_14_method_12_code 114 = .ok (.getfield 23, 3) := by decide +kernel
theorem d_Md_read_117 : decode prog_14_method_12_code 117 = .ok (.iload_n 2, 1) := by decide +kernel
theorem d_Md_read_118 : decode prog_14_method_12_code 118 = .ok (.aload_n 0, 1) := by decide +kernel
theorem d_Md_read_119 : decode prog_14_method_12_code 119 = .ok (.getfield 35, 3) := by decide +kernel
theorem d_Md_read_122 : decode prog_14_method_12_code 122 = .ok (.iload_n 2, 1) := by decide +kernel
theorem d_Md_read_123 : decode prog_14_method_12_code 123 = .ok (.iaload, 1) := by decide +kernel
theorem d_Md_read_124 : decode prog_14_method_12_code 124 = .ok (.iastore, 1) := by decide +kernel
theorem d_Md_read_125 : decode prog_14_method_12_code 125 = .ok (.aload_n 0, 1) := by decide +kernel
theorem d_Md_read_126 : decode prog_14_method_12_code 126 = .ok (.getfield 26, 3) := by decide +kernel
theorem d_Md_read_129 : decode prog_14_method_12_code 129 = .ok (.iload_n 2, 1) := by decide +kernel
theorem d_Md_read_130 : decode prog_14_method_12_code 130 = .ok (.aload_n 0, 1) := by decide +kernel
theorem d_Md_read_131 : decode prog_14_method_12_code 131 = .ok (.getfield 38, 3) := by decide +kernel
theorem d_Md_read_134 : decode prog_14_method_12_code 134 = .ok (.iload_n 2, 1) := by decide +kernel
theorem d_Md_read_135 : decode prog_14_method_12_code 135 = .ok (.iaload, 1) := by decide +kernel
theorem d_Md_read_136 : decode prog_14_method_12_code 136 = .ok (.iastore, 1) := by decide +kernel
theorem d_Md_read_137 : decode prog_14_method_12_code 137 = .ok (.iinc 2 1, 3) := by decide +kernel
theorem d_Md_read_140 : decode prog_14_method_12_code 140 = .ok (.goto (-52), 3) := by decide +kernel
theorem d_Md_read_143 : decode prog_14_method_12_code 143 = .ok (.aload_n 0, 1) := by decide +kernel
theorem d_Md_read_144 : decode prog_14_method_12_code 144 = .ok (.invokevirtual 76, 3) := by decide +kernel
theorem d_Md_read_147 : decode prog_14_method_12_code 147 = .ok (.aload_n 0, 1) := by decide +kernel
theorem d_Md_read_148 : decode prog_14_method_12_code 148 = .ok (.getfield 144, 3) := by decide +kernel
theorem d_Md_read_151 : decode prog_14_method_12_code 151 = .ok (.ireturn, 1) := by decide +kernel
theorem d_Md_readAll_0 : decode prog_14_method_11_code 0 = .ok (.aload_n 0, 1) := by decide +kernel
theorem d_Md_readAll_1 : decode prog_14_method_11_code 1 = .ok (.iconst 0, 1) := by decide +kernel
theorem d_Md_readAll_2 : decode prog_14_method_11_code 2 = .ok (.putfield 101, 3) := by decide +kernel
theorem d_Md_readAll_5 : decode prog_14_method_11_code 5 = .ok (.aload_n 0, 1) := by decide +kernel
theorem d_Md_readAll_6 : decode prog_14_method_11_code 6 = .ok (.iconst 0, 1) := by decide +kernel
theorem d_Md_readAll_7 : decode prog_14_method_11_code 7 = .ok (.putfield 118, 3) := by decide +kernel
theorem d_Md_readAll_10 : decode prog_14_method_11_code 10 = .ok (.aload_n 0, 1) := by decide +kernel
theorem d_Md_readAll_11 : decode prog_14_method_11_code 11 = .ok (.getfield 29, 3) := by decide +kernel
theorem d_Md_readAll_14 : decode prog_14_method_11_code 14 = .ok (.iconst 0, 1) := by decide +kernel
theorem d_Md_readAll_15 : decode prog_14_method_11_code 15 = .ok (.iconst 0, 1) := by decide +kernel
theorem d_Md_readAll_16 : decode prog_14_method_11_code 16 = .ok (.iastore, 1) := by decide +kernel
theorem d_Md_readAll_17 : decode prog_14_method_11_code 17 = .ok (.aload_n 0, 1) := by decide +kernel
theorem d_Md_readAll_18 : decode prog_14_method_11_code 18 = .ok (.aload_n 0, 1) := by decide +kernel
theorem d_Md_readAll_19 : decode prog_14_method_11_code 19 = .ok (.iconst 1, 1) := by decide +kernel
theorem d_Md_readAll_20 : decode prog_14_method_11_code 20 = .ok (.iconst 4, 1) := by decide +kernel
theorem d_Md_readAll_21 : decode prog_14_method_11_code 21 = .ok (.invokevirtual 114, 3) := by decide +kernel
theorem d_Md_readAll_24 : decode prog_14_method_11_code 24 = .ok (.putfield 111, 3) := by decide +kernel
theorem d_Md_readAll_27 : decode prog_14_method_11_code 27 = .ok (.aload_n 0, 1) := by decide +kernel
theorem d_Md_readAll_28 : decode prog_14_method_11_code 28 = .ok (.getfield 111, 3) := by decide +kernel
theorem d_Md_readAll_31 : decode prog_14_method_11_code 31 = .ok (.ifCond .ge 5, 3) := by decide +kernel
theorem d_Md_readAll_34 : decode prog_14_method_11_code 34 = .ok (.iconst 0, 1) := by decide +kernel
theorem d_Md_readAll_35 : decode prog_14_method_11_code 35 = .ok (.ireturn, 1) := by decide +kernel
theorem d_Md_readAll_36 : decode prog_14_method_11_code 36 = .ok (.aload_n 0, 1) := by decide +kernel
theorem d_Md_readAll_37 : decode prog_14_method_11_code 37 = .ok (.aload_n 0, 1) := by decide +kernel
theorem d_Md_readAll_38 : decode prog_14_method_11_code 38 = .ok (.iconst 0, 1) := by decide +kernel
theorem d_Md_readAll_39 : decode prog_14_method_11_code 39 = .ok (.iconst 3, 1) := by decide +kernel
theorem d_Md_readAll_40 : decode prog_14_method_11_code 40 = .ok (.invokevirtual 114, 3) := by decide +kernel
theorem d_Md_readAll_43 : decode prog_14_method_11_code 43 = .ok (.putfield 108, 3) := by decide +kernel
theorem d_Md_readAll_46 : decode prog_14_method_11_code 46 = .ok (.aload_n 0, 1) := by decide +kernel
theorem d_Md_readAll_47 : decode prog_14_method_11_code 47 = .ok (.getfield 108, 3) := by decide +kernel
theorem d_Md_readAll_50 : decode prog_14_method_11_code 50 = .ok (.ifCond .ge 5, 3) := by decide +kernel
theorem d_Md_readAll_53 : decode prog_14_method_11_code 53 = .ok (.iconst 0, 1) := by decide +kernel
theorem d_Md_readAll_54 : decode prog_14_method_11_code 54 = .ok (.ireturn, 1) := by decide +kernel
theorem d_Md_readAll_55 : decode prog_14_method_11_code 55 = .ok (.aload_n 0, 1) := by decide +kernel
theorem d_Md_readAll_56 : decode prog_14_method_11_code 56 = .ok (.aload_n 0, 1) := by decide +kernel
theorem d_Md_readAll_57 : decode prog_14_method_11_code 57 = .ok (.iconst 0, 1) := by decide +kernel
theorem d_Md_readAll_58 : decode prog_14_method_11_code 58 = .ok (.iconst 3, 1) := by decide +kernel
theorem d_Md_readAll_59 : decode prog_14_method_11_code 59 = .ok (.invokevirtual 114, 3) := by decide +kernel
theorem d_Md_readAll_62 : decode prog_14_method_11_code 62 = .ok (.putfield 128, 3) := by decide +kernel
theorem d_Md_readAll_65 : decode prog_14_method_11_code 65 = .ok (.aload_n 0, 1) := by decide +kernel
theorem d_Md_readAll_66 : decode prog_14_method_11_code 66 = .ok (.getfield 128, 3) := by decide +kernel
theorem d_Md_readAll_69 : decode prog_14_method_11_code 69 = .ok (.ifCond .lt 16, 3) := by decide +kernel
theorem d_Md_readAll_72 : decode prog_14_method_11_code 72 = .ok (.aload_n 0, 1) := by decide +kernel
theorem d_Md_readAll_73 : decode prog_14_method_11_code 73 = .ok (.aload_n 0, 1) := by decide +kernel
theorem d_Md_readAll_74 : decode prog_14_method_11_code 74 = .ok (.getfield 101, 3) := by decide +kernel
theorem d_Md_readAll_77 : decode prog_14_method_11_code 77 = .ok (.invokevirtual 104, 3) := by decide +kernel
theorem d_Md_readAll_80 : decode prog_14_method_11_code 80 = .ok (.bipush 59, 2) := by decide +kernel
theorem d_Md_readAll_82 : decode prog_14_method_11_code 82 = .ok (.if_icmp .eq 5, 3) := by decide +kernel
theorem d_Md_readAll_85 : decode prog_14_method_11_code 85 = .ok (.iconst 0, 1) := by decide +kernel
theorem d_Md_readAll_86 : decode prog_14_method_11_code 86 = .ok (.ireturn, 1) := by decide +kernel
theorem d_Md_readAll_87 : decode prog_14_method_11_code 87 = .ok (.aload_n 0, 1) := by decide +kernel
theorem d_Md_readAll_88 : decode prog_14_method_11_code 88 = .ok (.dup, 1) := by decide +kernel
theorem d_Md_readAll_89 : decode prog_14_method_11_code 89 = .ok (.getfield 101, 3) := by decide +kernel
theorem d_Md_readAll_92 : decode prog_14_method_11_code 92 = .ok (.iconst 1, 1) := by decide +kernel
theorem d_Md_readAll_93 : decode prog_14_method_11_code 93 = .ok (.iadd, 1) := by decide +kernel
theorem d_Md_readAll_94 : decode prog_14_method_11_code 94 = .ok (.putfield 101, 3) := by decide +kernel
theorem d_Md_readAll_97 : decode prog_14_method_11_code 97 = .ok (.aload_n 0, 1) := by decide +kernel
theorem d_Md_readAll_98 : decode prog_14_method_11_code 98 = .ok (.getfield 101, 3) := by decide +kernel
theorem d_Md_readAll_101 : decode prog_14_method_11_code 101 = .ok (.aload_n 0, 1) := by decide +kernel
theorem d_Md_readAll_102 : decode prog_14_method_11_code 102 = .ok (.getfield 98, 3) := by decide +kernel
theorem d_Md_readAll_105 : decode prog_14_method_11_code 105 = .ok (.if_icmp .ge 57, 3) := by decide +kernel
theorem d_Md_readAll_108 : decode prog_14_method_11_code 108 = .ok (.aload_n 0, 1) := by decide +kernel
theorem d_Md_readAll_109 : decode prog_14_method_11_code 109 = .ok (.invokevirtual 131, 3) := by decide +kernel
theorem d_Md_readAll_112 : decode prog_14_method_11_code 112 = .ok (.ifCond .eq 25, 3) := by decide +kernel
theorem d_Md_readAll_115 : decode prog_14_method_11_code 115 = .ok (.aload_n 0, 1) := by decide +kernel
theorem d_Md_readAll_116 : decode prog_14_method_11_code 116 = .ok (.aload_n 0, 1) := by decide +kernel
theorem d_Md_readAll_117 : decode prog_14_method_11_code 117 = .ok (.getfield 101, 3) := by decide +kernel
theorem d_Md_readAll_120 : decode prog_14_method_11_code 120 = .ok (.invokevirtual 104, 3) := by decide +kernel
theorem d_Md_readAll_123 : decode prog_14_method_11_code 123 = .ok (.bipush 59, 2) := by decide +kernel
theorem d_Md_readAll_125 : decode prog_14_method_11_code 125 = .ok (.if_icmp .ne 12, 3) := by decide +kernel
theorem d_Md_readAll_128 : decode prog_14_method_11_code 128 = .ok (.aload_n 0, 1) := by decide +kernel
theorem d_Md_readAll_129 : decode prog_14_method_11_code 129 = .ok (.getfield 118, 3) := by decide +kernel
theorem d_Md_readAll_132 : decode prog_14_method_11_code 132 = .ok (.bipush 20, 2) := by decide +kernel
theorem d_Md_readAll_134 : decode prog_14_method_11_code 134 = .ok (.if_icmp .ne 5, 3) := by decide +kernel
theorem d_Md_readAll_137 : decode prog_14_method_11_code 137 = .ok (.iconst 0, 1) := by decide +kernel
theorem d_Md_readAll_138 : decode prog_14_method_11_code 138 = .ok (.ireturn, 1) := by decide +kernel
theorem d_Md_readAll_139 : decode prog_14_method_11_code 139 = .ok (.aload_n 0, 1) := by decide +kernel
theorem d_Md_readAll_140 : decode prog_14_method_11_code 140 = .ok (.dup, 1) := by decide +kernel
theorem d_Md_readAll_141 : decode prog_14_method_11_code 141 = .ok (.getfield 101, 3) := by decide +kernel
theorem d_Md_readAll_144 : decode prog_14_method_11_code 144 = .ok (.iconst 1, 1) := by decide +kernel
theorem d_Md_readAll_145 : decode prog_14_method_11_code 145 = .ok (.iadd, 1) := by decide +kernel
theorem d_Md_readAll_146 : decode prog_14_method_11_code 146 = .ok (.putfield 101, 3) := by decide +kernel
theorem d_Md_readAll_149 : decode prog_14_method_11_code 149 = .ok (.aload_n 0, 1) := by decide +kernel
theorem d_Md_readAll_150 : decode prog_14_method_11_code 150 = .ok (.dup, 1) := by decide +kernel
theorem d_Md_readAll_151 : decode prog_14_method_11_code 151 = .ok (.getfield 118, 3) := by decide +kernel
theorem d_Md_readAll_154 : decode prog_14_method_11_code 154 = .ok (.iconst 1, 1) := by decide +kernel
theorem d_Md_readAll_155 : decode prog_14_method_11_code 155 = .ok (.iadd, 1) := by decide +kernel
theorem d_Md_readAll_156 : decode prog_14_method_11_code 156 = .ok (.putfield 118, 3) := by decide +kernel
theorem d_Md_readAll_159 : decode prog_14_method_11_code 159 = .ok (.goto (-62), 3) := by decide +kernel
theorem d_Md_readAll_162 : decode prog_14_method_11_code 162 = .ok (.iconst 1, 1) := by decide +kernel
theorem d_Md_readAll_163 : decode prog_14_method_11_code 163 = .ok (.ireturn, 1) := by decide +kernel
theorem d_Md_digit_0 : decode prog_14_method_7_code 0 = .ok (.aload_n 0, 1) := by decide +kernel
theorem d_Md_digit_1 : decode prog_14_method_7_code 1 = .ok (.aload_n 0, 1) := by decide +kernel
theorem d_Md_digit_2 : decode prog_14_method_7_code 2 = .ok (.getfield 101, 3) := by decide +kernel
theorem d_Md_digit_5 : decode prog_14_method_7_code 5 = .ok (.invokevirtual 104, 3) := by decide +kernel
theorem d_Md_digit_8 : decode prog_14_method_7_code 8 = .ok (.bipush 48, 2) := by decide +kernel
theorem d_Md_digit_10 : decode prog_14_method_7_code 10 = .ok (.isub, 1) := by decide +kernel
theorem d_Md_digit_11 : decode prog_14_method_7_code 11 = .ok (.istore_n 3, 1) := by decide +kernel
theorem d_Md_digit_12 : decode prog_14_method_7_code 12 = .ok (.aload_n 0, 1) := by decide +kernel
theorem d_Md_digit_13 : decode prog_14_method_7_code 13 = .ok (.getfield 101, 3) := by decide +kernel
theorem d_Md_digit_16 : decode prog_14_method_7_code 16 = .ok (.aload_n 0, 1) := by decide +kernel
theorem d_Md_digit_17 : decode prog_14_method_7_code 17 = .ok (.getfield 98, 3) := by decide +kernel
theorem d_Md_digit_20 : decode prog_14_method_7_code 20 = .ok (.if_icmp .ge 13, 3) := by decide +kernel
theorem d_Md_digit_23 : decode prog_14_method_7_code 23 = .ok (.iload_n 3, 1) := by decide +kernel
theorem d_Md_digit_24 : decode prog_14_method_7_code 24 = .ok (.iload_n 1, 1) := by decide +kernel
theorem d_Md_digit_25 : decode prog_14_method_7_code 25 = .ok (.if_icmp .lt 8, 3) := by decide +kernel
theorem d_Md_digit_28 : decode prog_14_method_7_code 28 = .ok (.iload_n 3, 1) := by decide +kernel
theorem d_Md_digit_29 : decode prog_14_method_7_code 29 = .ok (.iload_n 2, 1) := by decide +kernel
theorem d_Md_digit_30 : decode prog_14_method_7_code 30 = .ok (.if_icmp .le 5, 3) := by decide +kernel
theorem d_Md_digit_33 : decode prog_14_method_7_code 33 = .ok (.iconst (-1), 1) := by decide +kernel
theorem d_Md_digit_34 : decode prog_14_method_7_code 34 = .ok (.ireturn, 1) := by decide +kernel
theorem d_Md_digit_35 : decode prog_14_method_7_code 35 = .ok (.aload_n 0, 1) := by decide +kernel
theorem d_Md_digit_36 : decode prog_14_method_7_code 36 = .ok (.dup, 1) := by decide +kernel
theorem d_Md_digit_37 : decode prog_14_method_7_code 37 = .ok (.getfield 101, 3) := by decide +kernel
theorem d_Md_digit_40 : decode prog_14_method_7_code 40 = .ok (.iconst 1, 1) := by decide +kernel
theorem d_Md_digit_41 : decode prog_14_method_7_code 41 = .ok (.iadd, 1) := by decide +kernel
theorem d_Md_digit_42 : decode prog_14_method_7_code 42 = .ok (.putfield 101, 3) := by decide +kernel
theorem d_Md_digit_45 : decode prog_14_method_7_code 45 = .ok (.iload_n 3, 1) := by decide +kernel
theorem d_Md_digit_46 : decode prog_14_method_7_code 46 = .ok (.ireturn, 1) := by decide +kernel
theorem d_Md_byteAt_0 : decode prog_14_method_6_code 0 = .ok (.iload_n 1, 1) := by decide +kernel
theorem d_Md_byteAt_1 : decode prog_14_method_6_code 1 = .ok (.aload_n 0, 1) := by decide +kernel
theorem d_Md_byteAt_2 : decode prog_14_method_6_code 2 = .ok (.getfield 98, 3) := by decide +kernel
theorem d_Md_byteAt_5 : decode prog_14_method_6_code 5 = .ok (.if_icmp .ge 12, 3) := by decide +kernel
theorem d_Md_byteAt_8 : decode prog_14_method_6_code 8 = .ok (.aload_n 0, 1) := by decide +kernel
theorem d_Md_byteAt_9 : decode prog_14_method_6_code 9 = .ok (.getfield 7, 3) := by decide +kernel
theorem d_Md_byteAt_12 : decode prog_14_method_6_code 12 = .ok (.iload_n 1, 1) := by decide +kernel
theorem d_Md_byteAt_13 : decode prog_14_method_6_code 13 = .ok (.iaload, 1) := by decide +kernel
theorem d_Md_byteAt_14 : decode prog_14_method_6_code 14 = .ok (.goto 4, 3) := by decide +kernel
theorem d_Md_byteAt_17 : decode prog_14_method_6_code 17 = .ok (.iconst (-1), 1) := by decide +kernel
theorem d_Md_byteAt_18 : decode prog_14_method_6_code 18 = .ok (.ireturn, 1) := by decide +kernel
theorem d_Md_readClue_0 : decode prog_14_method_10_code 0 = .ok (.iconst 1, 1) := by decide +kernel
theorem d_Md_readClue_1 : decode prog_14_method_10_code 1 = .ok (.istore_n 1, 1) := by decide +kernel
theorem d_Md_readClue_2 : decode prog_14_method_10_code 2 = .ok (.aload_n 0, 1) := by decide +kernel
theorem d_Md_readClue_3 : decode prog_14_method_10_code 3 = .ok (.getfield 29, 3) := by decide +kernel
theorem d_Md_readClue_6 : decode prog_14_method_10_code 6 = .ok (.aload_n 0, 1) := by decide +kernel
theorem d_Md_readClue_7 : decode prog_14_method_10_code 7 = .ok (.getfield 118, 3) := by decide +kernel
theorem d_Md_readClue_10 : decode prog_14_method_10_code 10 = .ok (.iaload, 1) := by decide +kernel
theorem d_Md_readClue_11 : decode prog_14_method_10_code 11 = .ok (.istore_n 2, 1) := by decide +kernel
theorem d_Md_readClue_12 : decode prog_14_method_10_code 12 = .ok (.iload_n 1, 1) := by decide +kernel
theorem d_Md_readClue_13 : decode prog_14_method_10_code 13 = .ok (.ifCond .le 170, 3) := by decide +kernel
theorem d_Md_readClue_16 : decode prog_14_method_10_code 16 = .ok (.aload_n 0, 1) := by decide +kernel
theorem d_Md_readClue_17 : decode prog_14_method_10_code 17 = .ok (.aload_n 0, 1) := by decide +kernel
theorem d_Md_readClue_18 : decode prog_14_method_10_code 18 = .ok (.getfield 101, 3) := by decide +kernel
theorem d_Md_readClue_21 : decode prog_14_method_10_code 21 = .ok (.invokevirtual 104, 3) := by decide +kernel
theorem d_Md_readClue_24 : decode prog_14_method_10_code 24 = .ok (.invokestatic 121, 3) := by decide +kernel
theorem d_Md_readClue_27 : decode prog_14_method_10_code 27 = .ok (.istore_n 3, 1) := by decide +kernel
theorem d_Md_readClue_28 : decode prog_14_method_10_code 28 = .ok (.iload_n 3, 1) := by decide +kernel
theorem d_Md_readClue_29 : decode prog_14_method_10_code 29 = .ok (.ifCond .lt 19, 3) := by decide +kernel
theorem d_Md_readClue_32 : decode prog_14_method_10_code 32 = .ok (.iload_n 2, 1) := by decide +kernel
theorem d_Md_readClue_33 : decode prog_14_method_10_code 33 = .ok (.aload_n 0, 1) := by decide +kernel
theorem d_Md_readClue_34 : decode prog_14_method_10_code 34 = .ok (.getfield 29, 3) := by decide +kernel
theorem d_Md_readClue_37 : decode prog_14_method_10_code 37 = .ok (.aload_n 0, 1) := by decide +kernel
theorem d_Md_readClue_38 : decode prog_14_method_10_code 38 = .ok (.getfield 118, 3) := by decide +kernel
theorem d_Md_readClue_41 : decode prog_14_method_10_code 41 = .ok (.iaload, 1) := by decide +kernel
theorem d_Md_readClue_42 : decode prog_14_method_10_code 42 = .ok (.bipush 30, 2) := by decide +kernel
theorem d_Md_readClue_44 : decode prog_14_method_10_code 44 = .ok (.iadd, 1) := by decide +kernel
theorem d_Md_readClue_45 : decode prog_14_method_10_code 45 = .ok (.if_icmp .ne 5, 3) := by decide +kernel
theorem d_Md_readClue_48 : decode prog_14_method_10_code 48 = .ok (.iconst 0, 1) := by decide +kernel
theorem d_Md_readClue_49 : decode prog_14_method_10_code 49 = .ok (.ireturn, 1) := by decide +kernel
theorem d_Md_readClue_50 : decode prog_14_method_10_code 50 = .ok (.aload_n 0, 1) := by decide +kernel
theorem d_Md_readClue_51 : decode prog_14_method_10_code 51 = .ok (.dup, 1) := by decide +kernel
theorem d_Md_readClue_52 : decode prog_14_method_10_code 52 = .ok (.getfield 101, 3) := by decide +kernel
theorem d_Md_readClue_55 : decode prog_14_method_10_code 55 = .ok (.iconst 1, 1) := by decide +kernel
theorem d_Md_readClue_56 : decode prog_14_method_10_code 56 = .ok (.iadd, 1) := by decide +kernel
theorem d_Md_readClue_57 : decode prog_14_method_10_code 57 = .ok (.putfield 101, 3) := by decide +kernel
theorem d_Md_readClue_60 : decode prog_14_method_10_code 60 = .ok (.aload_n 0, 1) := by decide +kernel
theorem d_Md_readClue_61 : decode prog_14_method_10_code 61 = .ok (.getfield 32, 3) := by decide +kernel
theorem d_Md_readClue_64 : decode prog_14_method_10_code 64 = .ok (.iload_n 2, 1) := by decide +kernel
theorem d_Md_readClue_65 : decode prog_14_method_10_code 65 = .ok (.iload_n 3, 1) := by decide +kernel
theorem d_Md_readClue_66 : decode prog_14_method_10_code 66 = .ok (.iastore, 1) := by decide +kernel
theorem d_Md_readClue_67 : decode prog_14_method_10_code 67 = .ok (.aload_n 0, 1) := by decide +kernel
theorem d_Md_readClue_68 : decode prog_14_method_10_code 68 = .ok (.getfield 35, 3) := by decide +kernel
theorem d_Md_readClue_71 : decode prog_14_method_10_code 71 = .ok (.iload_n 2, 1) := by decide +kernel
theorem d_Md_readClue_72 : decode prog_14_method_10_code 72 = .ok (.iload_n 3, 1) := by decide +kernel
theorem d_Md_readClue_73 : decode prog_14_method_10_code 73 = .ok (.iconst 4, 1) := by decide +kernel
theorem d_Md_readClue_74 : decode prog_14_method_10_code 74 = .ok (.if_icmp .ge 10, 3) := by decide +kernel
theorem d_Md_readClue_77 : decode prog_14_method_10_code 77 = .ok (.aload_n 0, 1) := by decide +kernel
theorem d_Md_readClue_78 : decode prog_14_method_10_code 78 = .ok (.invokevirtual 124, 3) := by decide +kernel
theorem d_Md_readClue_81 : decode prog_14_method_10_code 81 = .ok (.goto 24, 3) := by decide +kernel
theorem d_Md_readClue_84 : decode prog_14_method_10_code 84 = .ok (.iload_n 3, 1) := by decide +kernel
theorem d_Md_readClue_85 : decode prog_14_method_10_code 85 = .ok (.bipush 6, 2) := by decide +kernel
theorem d_Md_readClue_87 : decode prog_14_method_10_code 87 = .ok (.if_icmp .ge 17, 3) := by decide +kernel
theorem d_Md_readClue_90 : decode prog_14_method_10_code 90 = .ok (.aload_n 0, 1) := by decide +kernel
theorem d_Md_readClue_91 : decode prog_14_method_10_code 91 = .ok (.iconst 0, 1) := by decide +kernel
theorem d_Md_readClue_92 : decode prog_14_method_10_code 92 = .ok (.aload_n 0, 1) := by decide +kernel
theorem d_Md_readClue_93 : decode prog_14_method_10_code 93 = .ok (.getfield 128, 3) := by decide +kernel
theorem d_Md_readClue_96 : decode prog_14_method_10_code 96 = .ok (.iconst 1, 1) := by decide +kernel
theorem d_Md_readClue_97 : decode prog_14_method_10_code 97 = .ok (.isub, 1) := by decide +kernel
theorem d_Md_readClue_98 : decode prog_14_method_10_code 98 = .ok (.invokevirtual 114, 3) := by decide +kernel
theorem d_Md_readClue_101 : decode prog_14_method_10_code 101 = .ok (.goto 4, 3) := by decide +kernel
theorem d_Md_readClue_104 : decode prog_14_method_10_code 104 = .ok (.iconst 0, 1) := by decide +kernel
theorem d_Md_readClue_105 : decode prog_14_method_10_code 105 = .ok (.iastore, 1) := by decide +kernel
theorem d_Md_readClue_106 : decode prog_14_method_10_code 106 = .ok (.aload_n 0, 1) := by decide +kernel
theorem d_Md_readClue_107 : decode prog_14_method_10_code 107 = .ok (.getfield 38, 3) := by decide +kernel
theorem d_Md_readClue_110 : decode prog_14_method_10_code 110 = .ok (.iload_n 2, 1) := by decide +kernel
theorem d_Md_readClue_111 : decode prog_14_method_10_code 111 = .ok (.iload_n 3, 1) := by decide +kernel
theorem d_Md_readClue_112 : decode prog_14_method_10_code 112 = .ok (.iconst 4, 1) := by decide +kernel
theorem d_Md_readClue_113 : decode prog_14_method_10_code 113 = .ok (.if_icmp .ge 19, 3) := by decide +kernel
theorem d_Md_readClue_116 : decode prog_14_method_10_code 116 = .ok (.aload_n 0, 1) := by decide +kernel
theorem d_Md_readClue_117 : decode prog_14_method_10_code 117 = .ok (.getfield 35, 3) := by decide +kernel
theorem d_Md_readClue_120 : decode prog_14_method_10_code 120 = .ok (.iload_n 2, 1) := by decide +kernel
theorem d_Md_readClue_121 : decode prog_14_method_10_code 121 = .ok (.iaload, 1) := by decide +kernel
theorem d_Md_readClue_122 : decode prog_14_method_10_code 122 = .ok (.ifCond .lt 10, 3) := by decide +kernel
theorem d_Md_readClue_125 : decode prog_14_method_10_code 125 = .ok (.aload_n 0, 1) := by decide +kernel
theorem d_Md_readClue_126 : decode prog_14_method_10_code 126 = .ok (.invokevirtual 124, 3) := by decide +kernel
theorem d_Md_readClue_129 : decode prog_14_method_10_code 129 = .ok (.goto 4, 3) := by decide +kernel
theorem d_Md_readClue_132 : decode prog_14_method_10_code 132 = .ok (.iconst 0, 1) := by decide +kernel
theorem d_Md_readClue_133 : decode prog_14_method_10_code 133 = .ok (.iastore, 1) := by decide +kernel
theorem d_Md_readClue_134 : decode prog_14_method_10_code 134 = .ok (.aload_n 0, 1) := by decide +kernel
theorem d_Md_readClue_135 : decode prog_14_method_10_code 135 = .ok (.getfield 35, 3) := by decide +kernel
theorem d_Md_readClue_138 : decode prog_14_method_10_code 138 = .ok (.iload_n 2, 1) := by decide +kernel
theorem d_Md_readClue_139 : decode prog_14_method_10_code 139 = .ok (.iaload, 1) := by decide +kernel
theorem d_Md_readClue_140 : decode prog_14_method_10_code 140 = .ok (.ifCond .lt 12, 3) := by decide +kernel
theorem d_Md_readClue_143 : decode prog_14_method_10_code 143 = .ok (.aload_n 0, 1) := by decide +kernel
theorem d_Md_readClue_144 : decode prog_14_method_10_code 144 = .ok (.getfield 38, 3) := by decide +kernel
theorem d_Md_readClue_147 : decode prog_14_method_10_code 147 = .ok (.iload_n 2, 1) := by decide +kernel
theorem d_Md_readClue_148 : decode prog_14_method_10_code 148 = .ok (.iaload, 1) := by decide +kernel
theorem d_Md_readClue_149 : decode prog_14_method_10_code 149 = .ok (.ifCond .ge 5, 3) := by decide +kernel
theorem d_Md_readClue_152 : decode prog_14_method_10_code 152 = .ok (.iconst 0, 1) := by decide +kernel
theorem d_Md_readClue_153 : decode prog_14_method_10_code 153 = .ok (.ireturn, 1) := by decide +kernel
theorem d_Md_readClue_154 : decode prog_14_method_10_code 154 = .ok (.iload_n 1, 1) := by decide +kernel
theorem d_Md_readClue_155 : decode prog_14_method_10_code 155 = .ok (.iload_n 3, 1) := by decide +kernel
theorem d_Md_readClue_156 : decode prog_14_method_10_code 156 = .ok (.iconst 5, 1) := by decide +kernel
theorem d_Md_readClue_157 : decode prog_14_method_10_code 157 = .ok (.if_icmp .ge 7, 3) := by decide +kernel
theorem d_Md_readClue_160 : decode prog_14_method_10_code 160 = .ok (.iconst (-1), 1) := by decide +kernel
theorem d_Md_readClue_161 : decode prog_14_method_10_code 161 = .ok (.goto 14, 3) := by decide +kernel
theorem d_Md_readClue_164 : decode prog_14_method_10_code 164 = .ok (.iload_n 3, 1) := by decide +kernel
theorem d_Md_readClue_165 : decode prog_14_method_10_code 165 = .ok (.bipush 7, 2) := by decide +kernel
theorem d_Md_readClue_167 : decode prog_14_method_10_code 167 = .ok (.if_icmp .ge 7, 3) := by decide +kernel
theorem d_Md_readClue_170 : decode prog_14_method_10_code 170 = .ok (.iconst 0, 1) := by decide +kernel
theorem d_Md_readClue_171 : decode prog_14_method_10_code 171 = .ok (.goto 4, 3) := by decide +kernel
theorem d_Md_readClue_174 : decode prog_14_method_10_code 174 = .ok (.iconst 1, 1) := by decide +kernel
theorem d_Md_readClue_175 : decode prog_14_method_10_code 175 = .ok (.iadd, 1) := by decide +kernel
theorem d_Md_readClue_176 : decode prog_14_method_10_code 176 = .ok (.istore_n 1, 1) := by decide +kernel
theorem d_Md_readClue_177 : decode prog_14_method_10_code 177 = .ok (.iinc 2 1, 3) := by decide +kernel
theorem d_Md_readClue_180 : decode prog_14_method_10_code 180 = .ok (.goto (-168), 3) := by decide +kernel
theorem d_Md_readClue_183 : decode prog_14_method_10_code 183 = .ok (.aload_n 0, 1) := by decide +kernel
theorem d_Md_readClue_184 : decode prog_14_method_10_code 184 = .ok (.getfield 29, 3) := by decide +kernel
theorem d_Md_readClue_187 : decode prog_14_method_10_code 187 = .ok (.aload_n 0, 1) := by decide +kernel
theorem d_Md_readClue_188 : decode prog_14_method_10_code 188 = .ok (.getfield 118, 3) := by decide +kernel
theorem d_Md_readClue_191 : decode prog_14_method_10_code 191 = .ok (.iconst 1, 1) := by decide +kernel
theorem d_Md_readClue_192 : decode prog_14_method_10_code 192 = .ok (.iadd, 1) := by decide +kernel
theorem d_Md_readClue_193 : decode prog_14_method_10_code 193 = .ok (.iload_n 2, 1) := by decide +kernel
theorem d_Md_readClue_194 : decode prog_14_method_10_code 194 = .ok (.iastore, 1) := by decide +kernel
theorem d_Md_readClue_195 : decode prog_14_method_10_code 195 = .ok (.iconst 1, 1) := by decide +kernel
theorem d_Md_readClue_196 : decode prog_14_method_10_code 196 = .ok (.ireturn, 1) := by decide +kernel
theorem d_Md_signOf_0 : decode prog_14_method_9_code 0 = .ok (.iload_n 0, 1) := by decide +kernel
theorem d_Md_signOf_1 : decode prog_14_method_9_code 1 = .ok (.lookupswitch 104 #[(33, 85), (38, 98), (43, 89), (60, 87), (61, 83), (112, 93), (116, 91), (124, 101), (126, 95)], 83) := by decide +kernel
theorem d_Md_signOf_84 : decode prog_14_method_9_code 84 = .ok (.iconst 0, 1) := by decide +kernel
theorem d_Md_signOf_85 : decode prog_14_method_9_code 85 = .ok (.ireturn, 1) := by decide +kernel
theorem d_Md_signOf_86 : decode prog_14_method_9_code 86 = .ok (.iconst 1, 1) := by decide +kernel
theorem d_Md_signOf_87 : decode prog_14_method_9_code 87 = .ok (.ireturn, 1) := by decide +kernel
theorem d_Md_signOf_88 : decode prog_14_method_9_code 88 = .ok (.iconst 2, 1) := by decide +kernel
theorem d_Md_signOf_89 : decode prog_14_method_9_code 89 = .ok (.ireturn, 1) := by decide +kernel
theorem d_Md_signOf_90 : decode prog_14_method_9_code 90 = .ok (.iconst 3, 1) := by decide +kernel
theorem d_Md_signOf_91 : decode prog_14_method_9_code 91 = .ok (.ireturn, 1) := by decide +kernel
theorem d_Md_signOf_92 : decode prog_14_method_9_code 92 = .ok (.iconst 4, 1) := by decide +kernel
theorem d_Md_signOf_93 : decode prog_14_method_9_code 93 = .ok (.ireturn, 1) := by decide +kernel
theorem d_Md_signOf_94 : decode prog_14_method_9_code 94 = .ok (.iconst 5, 1) := by decide +kernel
theorem d_Md_signOf_95 : decode prog_14_method_9_code 95 = .ok (.ireturn, 1) := by decide +kernel
theorem d_Md_signOf_96 : decode prog_14_method_9_code 96 = .ok (.bipush 6, 2) := by decide +kernel
theorem d_Md_signOf_98 : decode prog_14_method_9_code 98 = .ok (.ireturn, 1) := by decide +kernel
theorem d_Md_signOf_99 : decode prog_14_method_9_code 99 = .ok (.bipush 7, 2) := by decide +kernel
theorem d_Md_signOf_101 : decode prog_14_method_9_code 101 = .ok (.ireturn, 1) := by decide +kernel
theorem d_Md_signOf_102 : decode prog_14_method_9_code 102 = .ok (.bipush 8, 2) := by decide +kernel
theorem d_Md_signOf_104 : decode prog_14_method_9_code 104 = .ok (.ireturn, 1) := by decide +kernel
theorem d_Md_signOf_105 : decode prog_14_method_9_code 105 = .ok (.iconst (-1), 1) := by decide +kernel
theorem d_Md_signOf_106 : decode prog_14_method_9_code 106 = .ok (.ireturn, 1) := by decide +kernel
theorem d_Md_value_0 : decode prog_14_method_8_code 0 = .ok (.aload_n 0, 1) := by decide +kernel
theorem d_Md_value_1 : decode prog_14_method_8_code 1 = .ok (.aload_n 0, 1) := by decide +kernel
theorem d_Md_value_2 : decode prog_14_method_8_code 2 = .ok (.getfield 101, 3) := by decide +kernel
theorem d_Md_value_5 : decode prog_14_method_8_code 5 = .ok (.invokevirtual 104, 3) := by decide +kernel
theorem d_Md_value_8 : decode prog_14_method_8_code 8 = .ok (.bipush 97, 2) := by decide +kernel
theorem d_Md_value_10 : decode prog_14_method_8_code 10 = .ok (.isub, 1) := by decide +kernel
theorem d_Md_value_11 : decode prog_14_method_8_code 11 = .ok (.istore_n 1, 1) := by decide +kernel
theorem d_Md_value_12 : decode prog_14_method_8_code 12 = .ok (.aload_n 0, 1) := by decide +kernel
theorem d_Md_value_13 : decode prog_14_method_8_code 13 = .ok (.getfield 101, 3) := by decide +kernel
theorem d_Md_value_16 : decode prog_14_method_8_code 16 = .ok (.aload_n 0, 1) := by decide +kernel
theorem d_Md_value_17 : decode prog_14_method_8_code 17 = .ok (.getfield 98, 3) := by decide +kernel
theorem d_Md_value_20 : decode prog_14_method_8_code 20 = .ok (.if_icmp .ge 15, 3) := by decide +kernel
theorem d_Md_value_23 : decode prog_14_method_8_code 23 = .ok (.iload_n 1, 1) := by decide +kernel
theorem d_Md_value_24 : decode prog_14_method_8_code 24 = .ok (.ifCond .lt 11, 3) := by decide +kernel
theorem d_Md_value_27 : decode prog_14_method_8_code 27 = .ok (.iload_n 1, 1) := by decide +kernel
theorem d_Md_value_28 : decode prog_14_method_8_code 28 = .ok (.aload_n 0, 1) := by decide +kernel
theorem d_Md_value_29 : decode prog_14_method_8_code 29 = .ok (.getfield 108, 3) := by decide +kernel
theorem d_Md_value_32 : decode prog_14_method_8_code 32 = .ok (.if_icmp .lt 5, 3) := by decide +kernel
theorem d_Md_value_35 : decode prog_14_method_8_code 35 = .ok (.iconst (-1), 1) := by decide +kernel
theorem d_Md_value_36 : decode prog_14_method_8_code 36 = .ok (.ireturn, 1) := by decide +kernel
theorem d_Md_value_37 : decode prog_14_method_8_code 37 = .ok (.aload_n 0, 1) := by decide +kernel
theorem d_Md_value_38 : decode prog_14_method_8_code 38 = .ok (.dup, 1) := by decide +kernel
theorem d_Md_value_39 : decode prog_14_method_8_code 39 = .ok (.getfield 101, 3) := by decide +kernel
theorem d_Md_value_42 : decode prog_14_method_8_code 42 = .ok (.iconst 1, 1) := by decide +kernel
theorem d_Md_value_43 : decode prog_14_method_8_code 43 = .ok (.iadd, 1) := by decide +kernel
theorem d_Md_value_44 : decode prog_14_method_8_code 44 = .ok (.putfield 101, 3) := by decide +kernel
theorem d_Md_value_47 : decode prog_14_method_8_code 47 = .ok (.aload_n 0, 1) := by decide +kernel
theorem d_Md_value_48 : decode prog_14_method_8_code 48 = .ok (.iconst 0, 1) := by decide +kernel
theorem d_Md_value_49 : decode prog_14_method_8_code 49 = .ok (.aload_n 0, 1) := by decide +kernel
theorem d_Md_value_50 : decode prog_14_method_8_code 50 = .ok (.getfield 111, 3) := by decide +kernel
theorem d_Md_value_53 : decode prog_14_method_8_code 53 = .ok (.iconst 1, 1) := by decide +kernel
theorem d_Md_value_54 : decode prog_14_method_8_code 54 = .ok (.isub, 1) := by decide +kernel
theorem d_Md_value_55 : decode prog_14_method_8_code 55 = .ok (.invokevirtual 114, 3) := by decide +kernel
theorem d_Md_value_58 : decode prog_14_method_8_code 58 = .ok (.istore_n 2, 1) := by decide +kernel
theorem d_Md_value_59 : decode prog_14_method_8_code 59 = .ok (.iload_n 2, 1) := by decide +kernel
theorem d_Md_value_60 : decode prog_14_method_8_code 60 = .ok (.ifCond .ge 7, 3) := by decide +kernel
theorem d_Md_value_63 : decode prog_14_method_8_code 63 = .ok (.iconst (-1), 1) := by decide +kernel
theorem d_Md_value_64 : decode prog_14_method_8_code 64 = .ok (.goto 8, 3) := by decide +kernel
theorem d_Md_value_67 : decode prog_14_method_8_code 67 = .ok (.iconst 4, 1) := by decide +kernel
theorem d_Md_value_68 : decode prog_14_method_8_code 68 = .ok (.iload_n 1, 1) := by decide +kernel
theorem d_Md_value_69 : decode prog_14_method_8_code 69 = .ok (.imul, 1) := by decide +kernel
theorem d_Md_value_70 : decode prog_14_method_8_code 70 = .ok (.iload_n 2, 1) := by decide +kernel
theorem d_Md_value_71 : decode prog_14_method_8_code 71 = .ok (.iadd, 1) := by decide +kernel
theorem d_Md_value_72 : decode prog_14_method_8_code 72 = .ok (.ireturn, 1) := by decide +kernel
theorem d_Md_told_0 : decode prog_14_method_13_code 0 = .ok (.aload_n 0, 1) := by decide +kernel
theorem d_Md_told_1 : decode prog_14_method_13_code 1 = .ok (.iconst 0, 1) := by decide +kernel
theorem d_Md_told_2 : decode prog_14_method_13_code 2 = .ok (.putfield 79, 3) := by decide +kernel
theorem d_Md_told_5 : decode prog_14_method_13_code 5 = .ok (.iload_n 1, 1) := by decide +kernel
theorem d_Md_told_6 : decode prog_14_method_13_code 6 = .ok (.ifCond .ne 10, 3) := by decide +kernel
theorem d_Md_told_9 : decode prog_14_method_13_code 9 = .ok (.aload_n 0, 1) := by decide +kernel
theorem d_Md_told_10 : decode prog_14_method_13_code 10 = .ok (.getfield 13, 3) := by decide +kernel
theorem d_Md_told_13 : decode prog_14_method_13_code 13 = .ok (.goto 28, 3) := by decide +kernel
theorem d_Md_told_16 : decode prog_14_method_13_code 16 = .ok (.iload_n 1, 1) := by decide +kernel
theorem d_Md_told_17 : decode prog_14_method_13_code 17 = .ok (.iconst 1, 1) := by decide +kernel
theorem d_Md_told_18 : decode prog_14_method_13_code 18 = .ok (.if_icmp .ne 10, 3) := by decide +kernel
theorem d_Md_told_21 : decode prog_14_method_13_code 21 = .ok (.aload_n 0, 1) := by decide +kernel
theorem d_Md_told_22 : decode prog_14_method_13_code 22 = .ok (.getfield 138, 3) := by decide +kernel
theorem d_Md_told_25 : decode prog_14_method_13_code 25 = .ok (.goto 16, 3) := by decide +kernel
theorem d_Md_told_28 : decode prog_14_method_13_code 28 = .ok (.iload_n 1, 1) := by decide +kernel
theorem d_Md_told_29 : decode prog_14_method_13_code 29 = .ok (.iconst 2, 1) := by decide +kernel
theorem d_Md_told_30 : decode prog_14_method_13_code 30 = .ok (.if_icmp .ne 10, 3) := by decide +kernel
theorem d_Md_told_33 : decode prog_14_method_13_code 33 = .ok (.aload_n 0, 1) := by decide +kernel
theorem d_Md_told_34 : decode prog_14_method_13_code 34 = .ok (.getfield 141, 3) := by decide +kernel
theorem d_Md_told_37 : decode prog_14_method_13_code 37 = .ok (.goto 4, 3) := by decide +kernel
theorem d_Md_told_40 : decode prog_14_method_13_code 40 = .ok (.iconst (-1), 1) := by decide +kernel
theorem d_Md_told_41 : decode prog_14_method_13_code 41 = .ok (.ireturn, 1) := by decide +kernel
theorem d_Md_run_0 : decode prog_14_method_23_code 0 = .ok (.aload_n 0, 1) := by decide +kernel
theorem d_Md_run_1 : decode prog_14_method_23_code 1 = .ok (.iconst 0, 1) := by decide +kernel
theorem d_Md_run_2 : decode prog_14_method_23_code 2 = .ok (.putfield 79, 3) := by decide +kernel
theorem d_Md_run_5 : decode prog_14_method_23_code 5 = .ok (.aload_n 0, 1) := by decide +kernel
theorem d_Md_run_6 : decode prog_14_method_23_code 6 = .ok (.invokevirtual 169, 3) := by decide +kernel
theorem d_Md_run_9 : decode prog_14_method_23_code 9 = .ok (.aload_n 0, 1) := by decide +kernel
theorem d_Md_run_10 : decode prog_14_method_23_code 10 = .ok (.iconst 0, 1) := by decide +kernel
theorem d_Md_run_11 : decode prog_14_method_23_code 11 = .ok (.putfield 89, 3) := by decide +kernel
theorem d_Md_run_14 : decode prog_14_method_23_code 14 = .ok (.iconst 0, 1) := by decide +kernel
theorem d_Md_run_15 : decode prog_14_method_23_code 15 = .ok (.istore_n 1, 1) := by decide +kernel
theorem d_Md_run_16 : decode prog_14_method_23_code 16 = .ok (.iconst 0, 1) := by decide +kernel
theorem d_Md_run_17 : decode prog_14_method_23_code 17 = .ok (.istore_n 2, 1) := by decide +kernel
theorem d_Md_run_18 : decode prog_14_method_23_code 18 = .ok (.iload_n 2, 1) := by decide +kernel
theorem d_Md_run_19 : decode prog_14_method_23_code 19 = .ok (.aload_n 0, 1) := by decide +kernel
theorem d_Md_run_20 : decode prog_14_method_23_code 20 = .ok (.invokevirtual 163, 3) := by decide +kernel
theorem d_Md_run_23 : decode prog_14_method_23_code 23 = .ok (.if_icmp .ge 55, 3) := by decide +kernel
theorem d_Md_run_26 : decode prog_14_method_23_code 26 = .ok (.aload_n 0, 1) := by decide +kernel
theorem d_Md_run_27 : decode prog_14_method_23_code 27 = .ok (.iload_n 2, 1) := by decide +kernel
theorem d_Md_run_28 : decode prog_14_method_23_code 28 = .ok (.invokevirtual 172, 3) := by decide +kernel
theorem d_Md_run_31 : decode prog_14_method_23_code 31 = .ok (.ifCond .ne 6, 3) := by decide +kernel
theorem d_Md_run_34 : decode prog_14_method_23_code 34 = .ok (.goto 38, 3) := by decide +kernel
theorem d_Md_run_37 : decode prog_14_method_23_code 37 = .ok (.iinc 1 1, 3) := by decide +kernel
theorem d_Md_run_40 : decode prog_14_method_23_code 40 = .ok (.aload_n 0, 1) := by decide +kernel
theorem d_Md_run_41 : decode prog_14_method_23_code 41 = .ok (.getfield 89, 3) := by decide +kernel
theorem d_Md_run_44 : decode prog_14_method_23_code 44 = .ok (.bipush 100, 2) := by decide +kernel
theorem d_Md_run_46 : decode prog_14_method_23_code 46 = .ok (.if_icmp .ne 6, 3) := by decide +kernel
theorem d_Md_run_49 : decode prog_14_method_23_code 49 = .ok (.goto 23, 3) := by decide +kernel
theorem d_Md_run_52 : decode prog_14_method_23_code 52 = .ok (.aload_n 0, 1) := by decide +kernel
theorem d_Md_run_53 : decode prog_14_method_23_code 53 = .ok (.getfield 55, 3) := by decide +kernel
theorem d_Md_run_56 : decode prog_14_method_23_code 56 = .ok (.aload_n 0, 1) := by decide +kernel
theorem d_Md_run_57 : decode prog_14_method_23_code 57 = .ok (.getfield 89, 3) := by decide +kernel
theorem d_Md_run_60 : decode prog_14_method_23_code 60 = .ok (.iload_n 2, 1) := by decide +kernel
theorem d_Md_run_61 : decode prog_14_method_23_code 61 = .ok (.iastore, 1) := by decide +kernel
theorem d_Md_run_62 : decode prog_14_method_23_code 62 = .ok (.aload_n 0, 1) := by decide +kernel
theorem d_Md_run_63 : decode prog_14_method_23_code 63 = .ok (.dup, 1) := by decide +kernel
theorem d_Md_run_64 : decode prog_14_method_23_code 64 = .ok (.getfield 89, 3) := by decide +kernel
theorem d_Md_run_67 : decode prog_14_method_23_code 67 = .ok (.iconst 1, 1) := by decide +kernel
theorem d_Md_run_68 : decode prog_14_method_23_code 68 = .ok (.iadd, 1) := by decide +kernel
theorem d_Md_run_69 : decode prog_14_method_23_code 69 = .ok (.putfield 89, 3) := by decide +kernel
theorem d_Md_run_72 : decode prog_14_method_23_code 72 = .ok (.iinc 2 1, 3) := by decide +kernel
theorem d_Md_run_75 : decode prog_14_method_23_code 75 = .ok (.goto (-57), 3) := by decide +kernel
theorem d_Md_run_78 : decode prog_14_method_23_code 78 = .ok (.iload_n 1, 1) := by decide +kernel
theorem d_Md_run_79 : decode prog_14_method_23_code 79 = .ok (.ireturn, 1) := by decide +kernel
theorem d_Md_know_0 : decode prog_14_method_21_code 0 = .ok (.aload_n 0, 1) := by decide +kernel
theorem d_Md_know_1 : decode prog_14_method_21_code 1 = .ok (.getfield 82, 3) := by decide +kernel
theorem d_Md_know_4 : decode prog_14_method_21_code 4 = .ok (.ifCond .eq 4, 3) := by decide +kernel
theorem d_Md_know_7 : decode prog_14_method_21_code 7 = .ok (.return_, 1) := by decide +kernel
theorem d_Md_know_8 : decode prog_14_method_21_code 8 = .ok (.aload_n 0, 1) := by decide +kernel
theorem d_Md_know_9 : decode prog_14_method_21_code 9 = .ok (.iconst 1, 1) := by decide +kernel
theorem d_Md_know_10 : decode prog_14_method_21_code 10 = .ok (.putfield 82, 3) := by decide +kernel
theorem d_Md_know_13 : decode prog_14_method_21_code 13 = .ok (.aload_n 0, 1) := by decide +kernel
theorem d_Md_know_14 : decode prog_14_method_21_code 14 = .ok (.invokevirtual 160, 3) := by decide +kernel
theorem d_Md_know_17 : decode prog_14_method_21_code 17 = .ok (.iconst 0, 1) := by decide +kernel
theorem d_Md_know_18 : decode prog_14_method_21_code 18 = .ok (.istore_n 1, 1) := by decide +kernel
theorem d_Md_know_19 : decode prog_14_method_21_code 19 = .ok (.iload_n 1, 1) := by decide +kernel
theorem d_Md_know_20 : decode prog_14_method_21_code 20 = .ok (.aload_n 0, 1) := by decide +kernel
theorem d_Md_know_21 : decode prog_14_method_21_code 21 = .ok (.invokevirtual 163, 3) := by decide +kernel
theorem d_Md_know_24 : decode prog_14_method_21_code 24 = .ok (.if_icmp .ge 61, 3) := by decide +kernel
theorem d_Md_know_27 : decode prog_14_method_21_code 27 = .ok (.aload_n 0, 1) := by decide +kernel
theorem d_Md_know_28 : decode prog_14_method_21_code 28 = .ok (.getfield 48, 3) := by decide +kernel
theorem d_Md_know_31 : decode prog_14_method_21_code 31 = .ok (.iload_n 1, 1) := by decide +kernel
theorem d_Md_know_32 : decode prog_14_method_21_code 32 = .ok (.iconst 0, 1) := by decide +kernel
theorem d_Md_know_33 : decode prog_14_method_21_code 33 = .ok (.iastore, 1) := by decide +kernel
theorem d_Md_know_34 : decode prog_14_method_21_code 34 = .ok (.iconst 0, 1) := by decide +kernel
theorem d_Md_know_35 : decode prog_14_method_21_code 35 = .ok (.istore_n 2, 1) := by decide +kernel
theorem d_Md_know_36 : decode prog_14_method_21_code 36 = .ok (.iload_n 2, 1) := by decide +kernel
theorem d_Md_know_37 : decode prog_14_method_21_code 37 = .ok (.aload_n 0, 1) := by decide +kernel
theorem d_Md_know_38 : decode prog_14_method_21_code 38 = .ok (.getfield 144, 3) := by decide +kernel
theorem d_Md_know_41 : decode prog_14_method_21_code 41 = .ok (.if_icmp .ge 38, 3) := by decide +kernel
theorem d_Md_know_44 : decode prog_14_method_21_code 44 = .ok (.aload_n 0, 1) := by decide +kernel
theorem d_Md_know_45 : decode prog_14_method_21_code 45 = .ok (.getfield 48, 3) := by decide +kernel
theorem d_Md_know_48 : decode prog_14_method_21_code 48 = .ok (.iload_n 1, 1) := by decide +kernel
theorem d_Md_know_49 : decode prog_14_method_21_code 49 = .ok (.aload_n 0, 1) := by decide +kernel
theorem d_Md_know_50 : decode prog_14_method_21_code 50 = .ok (.getfield 48, 3) := by decide +kernel
theorem d_Md_know_53 : decode prog_14_method_21_code 53 = .ok (.iload_n 1, 1) := by decide +kernel
theorem d_Md_know_54 : decode prog_14_method_21_code 54 = .ok (.iaload, 1) := by decide +kernel
theorem d_Md_know_55 : decode prog_14_method_21_code 55 = .ok (.aload_n 0, 1) := by decide +kernel
theorem d_Md_know_56 : decode prog_14_method_21_code 56 = .ok (.iload_n 1, 1) := by decide +kernel
theorem d_Md_know_57 : decode prog_14_method_21_code 57 = .ok (.iload_n 2, 1) := by decide +kernel
theorem d_Md_know_58 : decode prog_14_method_21_code 58 = .ok (.invokevirtual 166, 3) := by decide +kernel
theorem d_Md_know_61 : decode prog_14_method_21_code 61 = .ok (.ifCond .eq 9, 3) := by decide +kernel
theorem d_Md_know_64 : decode prog_14_method_21_code 64 = .ok (.iconst 1, 1) := by decide +kernel
theorem d_Md_know_65 : decode prog_14_method_21_code 65 = .ok (.iload_n 2, 1) := by decide +kernel
theorem d_Md_know_66 : decode prog_14_method_21_code 66 = .ok (.ishl, 1) := by decide +kernel
theorem d_Md_know_67 : decode prog_14_method_21_code 67 = .ok (.goto 4, 3) := by decide +kernel
theorem d_Md_know_70 : decode prog_14_method_21_code 70 = .ok (.iconst 0, 1) := by decide +kernel
theorem d_Md_know_71 : decode prog_14_method_21_code 71 = .ok (.ior, 1) := by decide +kernel
theorem d_Md_know_72 : decode prog_14_method_21_code 72 = .ok (.iastore, 1) := by decide +kernel
theorem d_Md_know_73 : decode prog_14_method_21_code 73 = .ok (.iinc 2 1, 3) := by decide +kernel
theorem d_Md_know_76 : decode prog_14_method_21_code 76 = .ok (.goto (-40), 3) := by decide +kernel
theorem d_Md_know_79 : decode prog_14_method_21_code 79 = .ok (.iinc 1 1, 3) := by decide +kernel
theorem d_Md_know_82 : decode prog_14_method_21_code 82 = .ok (.goto (-63), 3) := by decide +kernel
theorem d_Md_know_85 : decode prog_14_method_21_code 85 = .ok (.return_, 1) := by decide +kernel
theorem d_Md_order_0 : decode prog_14_method_14_code 0 = .ok (.aload_n 0, 1) := by decide +kernel
theorem d_Md_order_1 : decode prog_14_method_14_code 1 = .ok (.iconst 0, 1) := by decide +kernel
theorem d_Md_order_2 : decode prog_14_method_14_code 2 = .ok (.putfield 147, 3) := by decide +kernel
theorem d_Md_order_5 : decode prog_14_method_14_code 5 = .ok (.iconst 1, 1) := by decide +kernel
theorem d_Md_order_6 : decode prog_14_method_14_code 6 = .ok (.istore_n 1, 1) := by decide +kernel
theorem d_Md_order_7 : decode prog_14_method_14_code 7 = .ok (.iconst 0, 1) := by decide +kernel
theorem d_Md_order_8 : decode prog_14_method_14_code 8 = .ok (.istore_n 2, 1) := by decide +kernel
theorem d_Md_order_9 : decode prog_14_method_14_code 9 = .ok (.iload_n 2, 1) := by decide +kernel
theorem d_Md_order_10 : decode prog_14_method_14_code 10 = .ok (.aload_n 0, 1) := by decide +kernel
theorem d_Md_order_11 : decode prog_14_method_14_code 11 = .ok (.getfield 13, 3) := by decide +kernel
theorem d_Md_order_14 : decode prog_14_method_14_code 14 = .ok (.if_icmp .ge 16, 3) := by decide +kernel
theorem d_Md_order_17 : decode prog_14_method_14_code 17 = .ok (.iload_n 1, 1) := by decide +kernel
theorem d_Md_order_18 : decode prog_14_method_14_code 18 = .ok (.aload_n 0, 1) := by decide +kernel
theorem d_Md_order_19 : decode prog_14_method_14_code 19 = .ok (.getfield 13, 3) := by decide +kernel
theorem d_Md_order_22 : decode prog_14_method_14_code 22 = .ok (.imul, 1) := by decide +kernel
theorem d_Md_order_23 : decode prog_14_method_14_code 23 = .ok (.istore_n 1, 1) := by decide +kernel
theorem d_Md_order_24 : decode prog_14_method_14_code 24 = .ok (.iinc 2 1, 3) := by decide +kernel
theorem d_Md_order_27 : decode prog_14_method_14_code 27 = .ok (.goto (-18), 3) := by decide +kernel
theorem d_Md_order_30 : decode prog_14_method_14_code 30 = .ok (.iconst 0, 1) := by decide +kernel
theorem d_Md_order_31 : decode prog_14_method_14_code 31 = .ok (.istore_n 2, 1) := by decide +kernel
theorem d_Md_order_32 : decode prog_14_method_14_code 32 = .ok (.iload_n 2, 1) := by decide +kernel
theorem d_Md_order_33 : decode prog_14_method_14_code 33 = .ok (.iload_n 1, 1) := by decide +kernel
theorem d_Md_order_34 : decode prog_14_method_14_code 34 = .ok (.if_icmp .ge 129, 3) := by decide +kernel
theorem d_Md_order_37 : decode prog_14_method_14_code 37 = .ok (.iload_n 2, 1) := by decide +kernel
theorem d_Md_order_38 : decode prog_14_method_14_code 38 = .ok (.istore_n 3, 1) := by decide +kernel
theorem d_Md_order_39 : decode prog_14_method_14_code 39 = .ok (.iconst 0, 1) := by decide +kernel
theorem d_Md_order_40 : decode prog_14_method_14_code 40 = .ok (.istore 4, 2) := by decide +kernel
theorem d_Md_order_42 : decode prog_14_method_14_code 42 = .ok (.aload_n 0, 1) := by decide +kernel
theorem d_Md_order_43 : decode prog_14_method_14_code 43 = .ok (.getfield 13, 3) := by decide +kernel
theorem d_Md_order_46 : decode prog_14_method_14_code 46 = .ok (.iconst 1, 1) := by decide +kernel
theorem d_Md_order_47 : decode prog_14_method_14_code 47 = .ok (.isub, 1) := by decide +kernel
theorem d_Md_order_48 : decode prog_14_method_14_code 48 = .ok (.istore 5, 2) := by decide +kernel
theorem d_Md_order_50 : decode prog_14_method_14_code 50 = .ok (.iload 5, 2) := by decide +kernel
theorem d_Md_order_52 : decode prog_14_method_14_code 52 = .ok (.ifCond .lt 69, 3) := by decide +kernel
theorem d_Md_order_55 : decode prog_14_method_14_code 55 = .ok (.aload_n 0, 1) := by decide +kernel
theorem d_Md_order_56 : decode prog_14_method_14_code 56 = .ok (.getfield 41, 3) := by decide +kernel
theorem d_Md_order_59 : decode prog_14_method_14_code 59 = .ok (.iconst 4, 1) := by decide +kernel
theorem d_Md_order_60 : decode prog_14_method_14_code 60 = .ok (.aload_n 0, 1) := by decide +kernel
theorem d_Md_order_61 : decode prog_14_method_14_code 61 = .ok (.getfield 147, 3) := by decide +kernel
theorem d_Md_order_64 : decode prog_14_method_14_code 64 = .ok (.imul, 1) := by decide +kernel
theorem d_Md_order_65 : decode prog_14_method_14_code 65 = .ok (.iload 5, 2) := by decide +kernel
theorem d_Md_order_67 : decode prog_14_method_14_code 67 = .ok (.iadd, 1) := by decide +kernel
theorem d_Md_order_68 : decode prog_14_method_14_code 68 = .ok (.iload_n 3, 1) := by decide +kernel
theorem d_Md_order_69 : decode prog_14_method_14_code 69 = .ok (.aload_n 0, 1) := by decide +kernel
theorem d_Md_order_70 : decode prog_14_method_14_code 70 = .ok (.getfield 13, 3) := by decide +kernel
theorem d_Md_order_73 : decode prog_14_method_14_code 73 = .ok (.irem, 1) := by decide +kernel
theorem d_Md_order_74 : decode prog_14_method_14_code 74 = .ok (.iastore, 1) := by decide +kernel
theorem d_Md_order_75 : decode prog_14_method_14_code 75 = .ok (.aload_n 0, 1) := by decide +kernel
theorem d_Md_order_76 : decode prog_14_method_14_code 76 = .ok (.getfield 44, 3) := by decide +kernel
theorem d_Md_order_79 : decode prog_14_method_14_code 79 = .ok (.iconst 4, 1) := by decide +kernel
theorem d_Md_order_80 : decode prog_14_method_14_code 80 = .ok (.aload_n 0, 1) := by decide +kernel
theorem d_Md_order_81 : decode prog_14_method_14_code 81 = .ok (.getfield 147, 3) := by decide +kernel
theorem d_Md_order_84 : decode prog_14_method_14_code 84 = .ok (.imul, 1) := by decide +kernel
theorem d_Md_order_85 : decode prog_14_method_14_code 85 = .ok (.iload_n 3, 1) := by decide +kernel
theorem d_Md_order_86 : decode prog_14_method_14_code 86 = .ok (.aload_n 0, 1) := by decide +kernel
theorem d_Md_order_87 : decode prog_14_method_14_code 87 = .ok (.getfield 13, 3) := by decide +kernel
theorem d_Md_order_90 : decode prog_14_method_14_code 90 = .ok (.irem, 1) := by decide +kernel
theorem d_Md_order_91 : decode prog_14_method_14_code 91 = .ok (.iadd, 1) := by decide +kernel
theorem d_Md_order_92 : decode prog_14_method_14_code 92 = .ok (.iload 5, 2) := by decide +kernel
theorem d_Md_order_94 : decode prog_14_method_14_code 94 = .ok (.iastore, 1) := by decide +kernel
theorem d_Md_order_95 : decode prog_14_method_14_code 95 = .ok (.iload 4, 2) := by decide +kernel
theorem d_Md_order_97 : decode prog_14_method_14_code 97 = .ok (.iconst 1, 1) := by decide +kernel
theorem d_Md_order_98 : decode prog_14_method_14_code 98 = .ok (.iload_n 3, 1) := by decide +kernel
theorem d_Md_order_99 : decode prog_14_method_14_code 99 = .ok (.aload_n 0, 1) := by decide +kernel
theorem d_Md_order_100 : decode prog_14_method_14_code 100 = .ok (.getfield 13, 3) := by decide +kernel
theorem d_Md_order_103 : decode prog_14_method_14_code 103 = .ok (.irem, 1) := by decide +kernel
theorem d_Md_order_104 : decode prog_14_method_14_code 104 = .ok (.ishl, 1) := by decide +kernel
theorem d_Md_order_105 : decode prog_14_method_14_code 105 = .ok (.ior, 1) := by decide +kernel
theorem d_Md_order_106 : decode prog_14_method_14_code 106 = .ok (.istore 4, 2) := by decide +kernel
theorem d_Md_order_108 : decode prog_14_method_14_code 108 = .ok (.iload_n 3, 1) := by decide +kernel
theorem d_Md_order_109 : decode prog_14_method_14_code 109 = .ok (.aload_n 0, 1) := by decide +kernel
theorem d_Md_order_110 : decode prog_14_method_14_code 110 = .ok (.getfield 13, 3) := by decide +kernel
theorem d_Md_order_113 : decode prog_14_method_14_code 113 = .ok (.idiv, 1) := by decide +kernel
theorem d_Md_order_114 : decode prog_14_method_14_code 114 = .ok (.istore_n 3, 1) := by decide +kernel
theorem d_Md_order_115 : decode prog_14_method_14_code 115 = .ok (.iinc 5 (-1), 3) := by decide +kernel
theorem d_Md_order_118 : decode prog_14_method_14_code 118 = .ok (.goto (-68), 3) := by decide +kernel
theorem d_Md_order_121 : decode prog_14_method_14_code 121 = .ok (.iload 4, 2) := by decide +kernel
theorem d_Md_order_123 : decode prog_14_method_14_code 123 = .ok (.iconst 1, 1) := by decide +kernel
theorem d_Md_order_124 : decode prog_14_method_14_code 124 = .ok (.aload_n 0, 1) := by decide +kernel
theorem d_Md_order_125 : decode prog_14_method_14_code 125 = .ok (.getfield 13, 3) := by decide +kernel
theorem d_Md_order_128 : decode prog_14_method_14_code 128 = .ok (.ishl, 1) := by decide +kernel
theorem d_Md_order_129 : decode prog_14_method_14_code 129 = .ok (.iconst 1, 1) := by decide +kernel
theorem d_Md_order_130 : decode prog_14_method_14_code 130 = .ok (.isub, 1) := by decide +kernel
theorem d_Md_order_131 : decode prog_14_method_14_code 131 = .ok (.if_icmp .eq 6, 3) := by decide +kernel
theorem d_Md_order_134 : decode prog_14_method_14_code 134 = .ok (.goto 23, 3) := by decide +kernel
theorem d_Md_order_137 : decode prog_14_method_14_code 137 = .ok (.aload_n 0, 1) := by decide +kernel
theorem d_Md_order_138 : decode prog_14_method_14_code 138 = .ok (.dup, 1) := by decide +kernel
theorem d_Md_order_139 : decode prog_14_method_14_code 139 = .ok (.getfield 147, 3) := by decide +kernel
theorem d_Md_order_142 : decode prog_14_method_14_code 142 = .ok (.iconst 1, 1) := by decide +kernel
theorem d_Md_order_143 : decode prog_14_method_14_code 143 = .ok (.iadd, 1) := by decide +kernel
theorem d_Md_order_144 : decode prog_14_method_14_code 144 = .ok (.putfield 147, 3) := by decide +kernel
theorem d_Md_order_147 : decode prog_14_method_14_code 147 = .ok (.aload_n 0, 1) := by decide +kernel
theorem d_Md_order_148 : decode prog_14_method_14_code 148 = .ok (.getfield 147, 3) := by decide +kernel
theorem d_Md_order_151 : decode prog_14_method_14_code 151 = .ok (.bipush 24, 2) := by decide +kernel
theorem d_Md_order_153 : decode prog_14_method_14_code 153 = .ok (.if_icmp .ne 4, 3) := by decide +kernel
theorem d_Md_order_156 : decode prog_14_method_14_code 156 = .ok (.return_, 1) := by decide +kernel
theorem d_Md_order_157 : decode prog_14_method_14_code 157 = .ok (.iinc 2 1, 3) := by decide +kernel
theorem d_Md_order_160 : decode prog_14_method_14_code 160 = .ok (.goto (-128), 3) := by decide +kernel
theorem d_Md_order_163 : decode prog_14_method_14_code 163 = .ok (.return_, 1) := by decide +kernel
theorem d_Md_states_0 : decode prog_14_method_15_code 0 = .ok (.iconst 1, 1) := by decide +kernel
theorem d_Md_states_1 : decode prog_14_method_15_code 1 = .ok (.aload_n 0, 1) := by decide +kernel
theorem d_Md_states_2 : decode prog_14_method_15_code 2 = .ok (.getfield 141, 3) := by decide +kernel
theorem d_Md_states_5 : decode prog_14_method_15_code 5 = .ok (.ishl, 1) := by decide +kernel
theorem d_Md_states_6 : decode prog_14_method_15_code 6 = .ok (.istore_n 1, 1) := by decide +kernel
theorem d_Md_states_7 : decode prog_14_method_15_code 7 = .ok (.iconst 0, 1) := by decide +kernel
theorem d_Md_states_8 : decode prog_14_method_15_code 8 = .ok (.istore_n 2, 1) := by decide +kernel
theorem d_Md_states_9 : decode prog_14_method_15_code 9 = .ok (.iload_n 2, 1) := by decide +kernel
theorem d_Md_states_10 : decode prog_14_method_15_code 10 = .ok (.aload_n 0, 1) := by decide +kernel
theorem d_Md_states_11 : decode prog_14_method_15_code 11 = .ok (.getfield 138, 3) := by decide +kernel
theorem d_Md_states_14 : decode prog_14_method_15_code 14 = .ok (.if_icmp .ge 16, 3) := by decide +kernel
theorem d_Md_states_17 : decode prog_14_method_15_code 17 = .ok (.iload_n 1, 1) := by decide +kernel
theorem d_Md_states_18 : decode prog_14_method_15_code 18 = .ok (.aload_n 0, 1) := by decide +kernel
theorem d_Md_states_19 : decode prog_14_method_15_code 19 = .ok (.getfield 147, 3) := by decide +kernel
theorem d_Md_states_22 : decode prog_14_method_15_code 22 = .ok (.imul, 1) := by decide +kernel
theorem d_Md_states_23 : decode prog_14_method_15_code 23 = .ok (.istore_n 1, 1) := by decide +kernel
theorem d_Md_states_24 : decode prog_14_method_15_code 24 = .ok (.iinc 2 1, 3) := by decide +kernel
theorem d_Md_states_27 : decode prog_14_method_15_code 27 = .ok (.goto (-18), 3) := by decide +kernel
theorem d_Md_states_30 : decode prog_14_method_15_code 30 = .ok (.iload_n 1, 1) := by decide +kernel
theorem d_Md_states_31 : decode prog_14_method_15_code 31 = .ok (.ireturn, 1) := by decide +kernel
theorem d_Md_isSo_0 : decode prog_14_method_20_code 0 = .ok (.iconst 0, 1) := by decide +kernel
theorem d_Md_isSo_1 : decode prog_14_method_20_code 1 = .ok (.istore_n 3, 1) := by decide +kernel
theorem d_Md_isSo_2 : decode prog_14_method_20_code 2 = .ok (.aload_n 0, 1) := by decide +kernel
theorem d_Md_isSo_3 : decode prog_14_method_20_code 3 = .ok (.getfield 17, 3) := by decide +kernel
theorem d_Md_isSo_6 : decode prog_14_method_20_code 6 = .ok (.iload_n 2, 1) := by decide +kernel
theorem d_Md_isSo_7 : decode prog_14_method_20_code 7 = .ok (.iconst 1, 1) := by decide +kernel
theorem d_Md_isSo_8 : decode prog_14_method_20_code 8 = .ok (.iadd, 1) := by decide +kernel
theorem d_Md_isSo_9 : decode prog_14_method_20_code 9 = .ok (.iaload, 1) := by decide +kernel
theorem d_Md_isSo_10 : decode prog_14_method_20_code 10 = .ok (.iconst 1, 1) := by decide +kernel
theorem d_Md_isSo_11 : decode prog_14_method_20_code 11 = .ok (.isub, 1) := by decide +kernel
theorem d_Md_isSo_12 : decode prog_14_method_20_code 12 = .ok (.istore 4, 2) := by decide +kernel
theorem d_Md_isSo_14 : decode prog_14_method_20_code 14 = .ok (.iload 4, 2) := by decide +kernel
theorem d_Md_isSo_16 : decode prog_14_method_20_code 16 = .ok (.aload_n 0, 1) := by decide +kernel
theorem d_Md_isSo_17 : decode prog_14_method_20_code 17 = .ok (.getfield 17, 3) := by decide +kernel
theorem d_Md_isSo_20 : decode prog_14_method_20_code 20 = .ok (.iload_n 2, 1) := by decide +kernel
theorem d_Md_isSo_21 : decode prog_14_method_20_code 21 = .ok (.iaload, 1) := by decide +kernel
theorem d_Md_isSo_22 : decode prog_14_method_20_code 22 = .ok (.if_icmp .lt 333, 3) := by decide +kernel
theorem d_Md_isSo_25 : decode prog_14_method_20_code 25 = .ok (.aload_n 0, 1) := by decide +kernel
theorem d_Md_isSo_26 : decode prog_14_method_20_code 26 = .ok (.getfield 20, 3) := by decide +kernel
theorem d_Md_isSo_29 : decode prog_14_method_20_code 29 = .ok (.iload 4, 2) := by decide +kernel
theorem d_Md_isSo_31 : decode prog_14_method_20_code 31 = .ok (.iaload, 1) := by decide +kernel
theorem d_Md_isSo_32 : decode prog_14_method_20_code 32 = .ok (.istore 5, 2) := by decide +kernel
theorem d_Md_isSo_34 : decode prog_14_method_20_code 34 = .ok (.iload 5, 2) := by decide +kernel
theorem d_Md_isSo_36 : decode prog_14_method_20_code 36 = .ok (.iconst 4, 1) := by decide +kernel
theorem d_Md_isSo_37 : decode prog_14_method_20_code 37 = .ok (.if_icmp .ge 128, 3) := by decide +kernel
theorem d_Md_isSo_40 : decode prog_14_method_20_code 40 = .ok (.aload_n 0, 1) := by decide +kernel
theorem d_Md_isSo_41 : decode prog_14_method_20_code 41 = .ok (.iload_n 1, 1) := by decide +kernel
theorem d_Md_isSo_42 : decode prog_14_method_20_code 42 = .ok (.aload_n 0, 1) := by decide +kernel
theorem d_Md_isSo_43 : decode prog_14_method_20_code 43 = .ok (.getfield 23, 3) := by decide +kernel
theorem d_Md_isSo_46 : decode prog_14_method_20_code 46 = .ok (.iload 4, 2) := by decide +kernel
theorem d_Md_isSo_48 : decode prog_14_method_20_code 48 = .ok (.iaload, 1) := by decide +kernel
theorem d_Md_isSo_49 : decode prog_14_method_20_code 49 = .ok (.invokevirtual 153, 3) := by decide +kernel
theorem d_Md_isSo_52 : decode prog_14_method_20_code 52 = .ok (.istore 6, 2) := by decide +kernel
theorem d_Md_isSo_54 : decode prog_14_method_20_code 54 = .ok (.aload_n 0, 1) := by decide +kernel
theorem d_Md_isSo_55 : decode prog_14_method_20_code 55 = .ok (.iload_n 1, 1) := by decide +kernel
theorem d_Md_isSo_56 : decode prog_14_method_20_code 56 = .ok (.aload_n 0, 1) := by decide +kernel
theorem d_Md_isSo_57 : decode prog_14_method_20_code 57 = .ok (.getfield 26, 3) := by decide +kernel
theorem d_Md_isSo_60 : decode prog_14_method_20_code 60 = .ok (.iload 4, 2) := by decide +kernel
theorem d_Md_isSo_62 : decode prog_14_method_20_code 62 = .ok (.iaload, 1) := by decide +kernel
theorem d_Md_isSo_63 : decode prog_14_method_20_code 63 = .ok (.invokevirtual 153, 3) := by decide +kernel
theorem d_Md_isSo_66 : decode prog_14_method_20_code 66 = .ok (.istore 7, 2) := by decide +kernel
theorem d_Md_isSo_68 : decode prog_14_method_20_code 68 = .ok (.aload_n 0, 1) := by decide +kernel
theorem d_Md_isSo_69 : decode prog_14_method_20_code 69 = .ok (.getfield 51, 3) := by decide +kernel
theorem d_Md_isSo_72 : decode prog_14_method_20_code 72 = .ok (.iload_n 3, 1) := by decide +kernel
theorem d_Md_isSo_73 : decode prog_14_method_20_code 73 = .ok (.iload 5, 2) := by decide +kernel
theorem d_Md_isSo_75 : decode prog_14_method_20_code 75 = .ok (.ifCond .ne 18, 3) := by decide +kernel
theorem d_Md_isSo_78 : decode prog_14_method_20_code 78 = .ok (.iload 6, 2) := by decide +kernel
theorem d_Md_isSo_80 : decode prog_14_method_20_code 80 = .ok (.iload 7, 2) := by decide +kernel
theorem d_Md_isSo_82 : decode prog_14_method_20_code 82 = .ok (.if_icmp .ne 7, 3) := by decide +kernel
theorem d_Md_isSo_85 : decode prog_14_method_20_code 85 = .ok (.iconst 1, 1) := by decide +kernel
theorem d_Md_isSo_86 : decode prog_14_method_20_code 86 = .ok (.goto 72, 3) := by decide +kernel
theorem d_Md_isSo_89 : decode prog_14_method_20_code 89 = .ok (.iconst 0, 1) := by decide +kernel
theorem d_Md_isSo_90 : decode prog_14_method_20_code 90 = .ok (.goto 68, 3) := by decide +kernel
theorem d_Md_isSo_93 : decode prog_14_method_20_code 93 = .ok (.iload 5, 2) := by decide +kernel
theorem d_Md_isSo_95 : decode prog_14_method_20_code 95 = .ok (.iconst 1, 1) := by decide +kernel
theorem d_Md_isSo_96 : decode prog_14_method_20_code 96 = .ok (.if_icmp .ne 18, 3) := by decide +kernel
theorem d_Md_isSo_99 : decode prog_14_method_20_code 99 = .ok (.iload 6, 2) := by decide +kernel
theorem d_Md_isSo_101 : decode prog_14_method_20_code 101 = .ok (.iload 7, 2) := by decide +kernel
theorem d_Md_isSo_103 : decode prog_14_method_20_code 103 = .ok (.if_icmp .eq 7, 3) := by decide +kernel
theorem d_Md_isSo_106 : decode prog_14_method_20_code 106 = .ok (.iconst 1, 1) := by decide +kernel
theorem d_Md_isSo_107 : decode prog_14_method_20_code 107 = .ok (.goto 51, 3) := by decide +kernel
theorem d_Md_isSo_110 : decode prog_14_method_20_code 110 = .ok (.iconst 0, 1) := by decide +kernel
theorem d_Md_isSo_111 : decode prog_14_method_20_code 111 = .ok (.goto 47, 3) := by decide +kernel
theorem d_Md_isSo_114 : decode prog_14_method_20_code 114 = .ok (.iload 5, 2) := by decide +kernel
theorem d_Md_isSo_116 : decode prog_14_method_20_code 116 = .ok (.iconst 2, 1) := by decide +kernel
theorem d_Md_isSo_117 : decode prog_14_method_20_code 117 = .ok (.if_icmp .ne 18, 3) := by decide +kernel
theorem d_Md_isSo_120 : decode prog_14_method_20_code 120 = .ok (.iload 6, 2) := by decide +kernel
theorem d_Md_isSo_122 : decode prog_14_method_20_code 122 = .ok (.iload 7, 2) := by decide +kernel
theorem d_Md_isSo_124 : decode prog_14_method_20_code 124 = .ok (.if_icmp .ge 7, 3) := by decide +kernel
theorem d_Md_isSo_127 : decode prog_14_method_20_code 127 = .ok (.iconst 1, 1) := by decide +kernel
theorem d_Md_isSo_128 : decode prog_14_method_20_code 128 = .ok (.goto 30, 3) := by decide +kernel
theorem d_Md_isSo_131 : decode prog_14_method_20_code 131 = .ok (.iconst 0, 1) := by decide +kernel
theorem d_Md_isSo_132 : decode prog_14_method_20_code 132 = .ok (.goto 26, 3) := by decide +kernel
theorem d_Md_isSo_135 : decode prog_14_method_20_code 135 = .ok (.iload 6, 2) := by decide +kernel
theorem d_Md_isSo_137 : decode prog_14_method_20_code 137 = .ok (.iload 7, 2) := by decide +kernel
theorem d_Md_isSo_139 : decode prog_14_method_20_code 139 = .ok (.iconst 1, 1) := by decide +kernel
theorem d_Md_isSo_140 : decode prog_14_method_20_code 140 = .ok (.iadd, 1) := by decide +kernel
theorem d_Md_isSo_141 : decode prog_14_method_20_code 141 = .ok (.if_icmp .eq 12, 3) := by decide +kernel
theorem d_Md_isSo_144 : decode prog_14_method_20_code 144 = .ok (.iload 7, 2) := by decide +kernel
theorem d_Md_isSo_146 : decode prog_14_method_20_code 146 = .ok (.iload 6, 2) := by decide +kernel
theorem d_Md_isSo_148 : decode prog_14_method_20_code 148 = .ok (.iconst 1, 1) := by decide +kernel
theorem d_Md_isSo_149 : decode prog_14_method_20_code 149 = .ok (.iadd, 1) := by decide +kernel
theorem d_Md_isSo_150 : decode prog_14_method_20_code 150 = .ok (.if_icmp .ne 7, 3) := by decide +kernel
theorem d_Md_isSo_153 : decode prog_14_method_20_code 153 = .ok (.iconst 1, 1) := by decide +kernel
theorem d_Md_isSo_154 : decode prog_14_method_20_code 154 = .ok (.goto 4, 3) := by decide +kernel
theorem d_Md_isSo_157 : decode prog_14_method_20_code 157 = .ok (.iconst 0, 1) := by decide +kernel
theorem d_Md_isSo_158 : decode prog_14_method_20_code 158 = .ok (.bastore, 1) := by decide +kernel
theorem d_Md_isSo_159 : decode prog_14_method_20_code 159 = .ok (.iinc 3 1, 3) := by decide +kernel
theorem d_Md_isSo_162 : decode prog_14_method_20_code 162 = .ok (.goto 187, 3) := by decide +kernel
theorem d_Md_isSo_165 : decode prog_14_method_20_code 165 = .ok (.iload 5, 2) := by decide +kernel
theorem d_Md_isSo_167 : decode prog_14_method_20_code 167 = .ok (.iconst 4, 1) := by decide +kernel
theorem d_Md_isSo_168 : decode prog_14_method_20_code 168 = .ok (.if_icmp .ne 27, 3) := by decide +kernel
theorem d_Md_isSo_171 : decode prog_14_method_20_code 171 = .ok (.aload_n 0, 1) := by decide +kernel
theorem d_Md_isSo_172 : decode prog_14_method_20_code 172 = .ok (.getfield 51, 3) := by decide +kernel
theorem d_Md_isSo_175 : decode prog_14_method_20_code 175 = .ok (.iload_n 3, 1) := by decide +kernel
theorem d_Md_isSo_176 : decode prog_14_method_20_code 176 = .ok (.aload_n 0, 1) := by decide +kernel
theorem d_Md_isSo_177 : decode prog_14_method_20_code 177 = .ok (.iload_n 1, 1) := by decide +kernel
theorem d_Md_isSo_178 : decode prog_14_method_20_code 178 = .ok (.aload_n 0, 1) := by decide +kernel
theorem d_Md_isSo_179 : decode prog_14_method_20_code 179 = .ok (.getfield 23, 3) := by decide +kernel
theorem d_Md_isSo_182 : decode prog_14_method_20_code 182 = .ok (.iload 4, 2) := by decide +kernel
theorem d_Md_isSo_184 : decode prog_14_method_20_code 184 = .ok (.iaload, 1) := by decide +kernel
theorem d_Md_isSo_185 : decode prog_14_method_20_code 185 = .ok (.invokevirtual 156, 3) := by decide +kernel
theorem d_Md_isSo_188 : decode prog_14_method_20_code 188 = .ok (.bastore, 1) := by decide +kernel
theorem d_Md_isSo_189 : decode prog_14_method_20_code 189 = .ok (.iinc 3 1, 3) := by decide +kernel
theorem d_Md_isSo_192 : decode prog_14_method_20_code 192 = .ok (.goto 157, 3) := by decide +kernel
theorem d_Md_isSo_195 : decode prog_14_method_20_code 195 = .ok (.iload 5, 2) := by decide +kernel
theorem d_Md_isSo_197 : decode prog_14_method_20_code 197 = .ok (.iconst 5, 1) := by decide +kernel
theorem d_Md_isSo_198 : decode prog_14_method_20_code 198 = .ok (.if_icmp .ne 42, 3) := by decide +kernel
theorem d_Md_isSo_201 : decode prog_14_method_20_code 201 = .ok (.aload_n 0, 1) := by decide +kernel
theorem d_Md_isSo_202 : decode prog_14_method_20_code 202 = .ok (.getfield 51, 3) := by decide +kernel
theorem d_Md_isSo_205 : decode prog_14_method_20_code 205 = .ok (.iload_n 3, 1) := by decide +kernel
theorem d_Md_isSo_206 : decode prog_14_method_20_code 206 = .ok (.iconst 1, 1) := by decide +kernel
theorem d_Md_isSo_207 : decode prog_14_method_20_code 207 = .ok (.isub, 1) := by decide +kernel
theorem d_Md_isSo_208 : decode prog_14_method_20_code 208 = .ok (.aload_n 0, 1) := by decide +kernel
theorem d_Md_isSo_209 : decode prog_14_method_20_code 209 = .ok (.getfield 51, 3) := by decide +kernel
theorem d_Md_isSo_212 : decode prog_14_method_20_code 212 = .ok (.iload_n 3, 1) := by decide +kernel
theorem d_Md_isSo_213 : decode prog_14_method_20_code 213 = .ok (.iconst 1, 1) := by decide +kernel
theorem d_Md_isSo_214 : decode prog_14_method_20_code 214 = .ok (.isub, 1) := by decide +kernel
theorem d_Md_isSo_215 : decode prog_14_method_20_code 215 = .ok (.baload, 1) := by decide +kernel
theorem d_Md_isSo_216 : decode prog_14_method_20_code 216 = .ok (.aload_n 0, 1) := by decide +kernel
theorem d_Md_isSo_217 : decode prog_14_method_20_code 217 = .ok (.iload_n 1, 1) := by decide +kernel
theorem d_Md_isSo_218 : decode prog_14_method_20_code 218 = .ok (.aload_n 0, 1) := by decide +kernel
theorem d_Md_isSo_219 : decode prog_14_method_20_code 219 = .ok (.getfield 23, 3) := by decide +kernel
theorem d_Md_isSo_222 : decode prog_14_method_20_code 222 = .ok (.iload 4, 2) := by decide +kernel
theorem d_Md_isSo_224 : decode prog_14_method_20_code 224 = .ok (.iaload, 1) := by decide +kernel
theorem d_Md_isSo_225 : decode prog_14_method_20_code 225 = .ok (.invokevirtual 156, 3) := by decide +kernel
theorem d_Md_isSo_228 : decode prog_14_method_20_code 228 = .ok (.if_icmp .ne 7, 3) := by decide +kernel
theorem d_Md_isSo_231 : decode prog_14_method_20_code 231 = .ok (.iconst 1, 1) := by decide +kernel
theorem d_Md_isSo_232 : decode prog_14_method_20_code 232 = .ok (.goto 4, 3) := by decide +kernel
theorem d_Md_isSo_235 : decode prog_14_method_20_code 235 = .ok (.iconst 0, 1) := by decide +kernel
theorem d_Md_isSo_236 : decode prog_14_method_20_code 236 = .ok (.bastore, 1) := by decide +kernel
theorem d_Md_isSo_237 : decode prog_14_method_20_code 237 = .ok (.goto 112, 3) := by decide +kernel
theorem d_Md_isSo_240 : decode prog_14_method_20_code 240 = .ok (.iload 5, 2) := by decide +kernel
theorem d_Md_isSo_242 : decode prog_14_method_20_code 242 = .ok (.bipush 6, 2) := by decide +kernel
theorem d_Md_isSo_244 : decode prog_14_method_20_code 244 = .ok (.if_icmp .ne 30, 3) := by decide +kernel
theorem d_Md_isSo_247 : decode prog_14_method_20_code 247 = .ok (.aload_n 0, 1) := by decide +kernel
theorem d_Md_isSo_248 : decode prog_14_method_20_code 248 = .ok (.getfield 51, 3) := by decide +kernel
theorem d_Md_isSo_251 : decode prog_14_method_20_code 251 = .ok (.iload_n 3, 1) := by decide +kernel
theorem d_Md_isSo_252 : decode prog_14_method_20_code 252 = .ok (.iconst 1, 1) := by decide +kernel
theorem d_Md_isSo_253 : decode prog_14_method_20_code 253 = .ok (.isub, 1) := by decide +kernel
theorem d_Md_isSo_254 : decode prog_14_method_20_code 254 = .ok (.aload_n 0, 1) := by decide +kernel
theorem d_Md_isSo_255 : decode prog_14_method_20_code 255 = .ok (.getfield 51, 3) := by decide +kernel
theorem d_Md_isSo_258 : decode prog_14_method_20_code 258 = .ok (.iload_n 3, 1) := by decide +kernel
theorem d_Md_isSo_259 : decode prog_14_method_20_code 259 = .ok (.iconst 1, 1) := by decide +kernel
theorem d_Md_isSo_260 : decode prog_14_method_20_code 260 = .ok (.isub, 1) := by decide +kernel
theorem d_Md_isSo_261 : decode prog_14_method_20_code 261 = .ok (.baload, 1) := by decide +kernel
theorem d_Md_isSo_262 : decode prog_14_method_20_code 262 = .ok (.ifCond .ne 7, 3) := by decide +kernel
theorem d_Md_isSo_265 : decode prog_14_method_20_code 265 = .ok (.iconst 1, 1) := by decide +kernel
theorem d_Md_isSo_266 : decode prog_14_method_20_code 266 = .ok (.goto 4, 3) := by decide +kernel
theorem d_Md_isSo_269 : decode prog_14_method_20_code 269 = .ok (.iconst 0, 1) := by decide +kernel
theorem d_Md_isSo_270 : decode prog_14_method_20_code 270 = .ok (.bastore, 1) := by decide +kernel
theorem d_Md_isSo_271 : decode prog_14_method_20_code 271 = .ok (.goto 78, 3) := by decide +kernel
theorem d_Md_isSo_274 : decode prog_14_method_20_code 274 = .ok (.aload_n 0, 1) := by decide +kernel
theorem d_Md_isSo_275 : decode prog_14_method_20_code 275 = .ok (.getfield 51, 3) := by decide +kernel
theorem d_Md_isSo_278 : decode prog_14_method_20_code 278 = .ok (.iload_n 3, 1) := by decide +kernel
theorem d_Md_isSo_279 : decode prog_14_method_20_code 279 = .ok (.iconst 2, 1) := by decide +kernel
theorem d_Md_isSo_280 : decode prog_14_method_20_code 280 = .ok (.isub, 1) := by decide +kernel
theorem d_Md_isSo_281 : decode prog_14_method_20_code 281 = .ok (.iload 5, 2) := by decide +kernel
theorem d_Md_isSo_283 : decode prog_14_method_20_code 283 = .ok (.bipush 7, 2) := by decide +kernel
theorem d_Md_isSo_285 : decode prog_14_method_20_code 285 = .ok (.if_icmp .ne 33, 3) := by decide +kernel
theorem d_Md_isSo_288 : decode prog_14_method_20_code 288 = .ok (.aload_n 0, 1) := by decide +kernel
theorem d_Md_isSo_289 : decode prog_14_method_20_code 289 = .ok (.getfield 51, 3) := by decide +kernel
theorem d_Md_isSo_292 : decode prog_14_method_20_code 292 = .ok (.iload_n 3, 1) := by decide +kernel
theorem d_Md_isSo_293 : decode prog_14_method_20_code 293 = .ok (.iconst 1, 1) := by decide +kernel
theorem d_Md_isSo_294 : decode prog_14_method_20_code 294 = .ok (.isub, 1) := by decide +kernel
theorem d_Md_isSo_295 : decode prog_14_method_20_code 295 = .ok (.baload, 1) := by decide +kernel
theorem d_Md_isSo_296 : decode prog_14_method_20_code 296 = .ok (.ifCond .eq 18, 3) := by decide +kernel
theorem d_Md_isSo_299 : decode prog_14_method_20_code 299 = .ok (.aload_n 0, 1) := by decide +kernel
theorem d_Md_isSo_300 : decode prog_14_method_20_code 300 = .ok (.getfield 51, 3) := by decide +kernel
theorem d_Md_isSo_303 : decode prog_14_method_20_code 303 = .ok (.iload_n 3, 1) := by decide +kernel
theorem d_Md_isSo_304 : decode prog_14_method_20_code 304 = .ok (.iconst 2, 1) := by decide +kernel
theorem d_Md_isSo_305 : decode prog_14_method_20_code 305 = .ok (.isub, 1) := by decide +kernel
theorem d_Md_isSo_306 : decode prog_14_method_20_code 306 = .ok (.baload, 1) := by decide +kernel
theorem d_Md_isSo_307 : decode prog_14_method_20_code 307 = .ok (.ifCond .eq 7, 3) := by decide +kernel
theorem d_Md_isSo_310 : decode prog_14_method_20_code 310 = .ok (.iconst 1, 1) := by decide +kernel
theorem d_Md_isSo_311 : decode prog_14_method_20_code 311 = .ok (.goto 34, 3) := by decide +kernel
theorem d_Md_isSo_314 : decode prog_14_method_20_code 314 = .ok (.iconst 0, 1) := by decide +kernel
theorem d_Md_isSo_315 : decode prog_14_method_20_code 315 = .ok (.goto 30, 3) := by decide +kernel
theorem d_Md_isSo_318 : decode prog_14_method_20_code 318 = .ok (.aload_n 0, 1) := by decide +kernel
theorem d_Md_isSo_319 : decode prog_14_method_20_code 319 = .ok (.getfield 51, 3) := by decide +kernel
theorem d_Md_isSo_322 : decode prog_14_method_20_code 322 = .ok (.iload_n 3, 1) := by decide +kernel
theorem d_Md_isSo_323 : decode prog_14_method_20_code 323 = .ok (.iconst 1, 1) := by decide +kernel
theorem d_Md_isSo_324 : decode prog_14_method_20_code 324 = .ok (.isub, 1) := by decide +kernel
theorem d_Md_isSo_325 : decode prog_14_method_20_code 325 = .ok (.baload, 1) := by decide +kernel
theorem d_Md_isSo_326 : decode prog_14_method_20_code 326 = .ok (.ifCond .ne 14, 3) := by decide +kernel
theorem d_Md_isSo_329 : decode prog_14_method_20_code 329 = .ok (.aload_n 0, 1) := by decide +kernel
theorem d_Md_isSo_330 : decode prog_14_method_20_code 330 = .ok (.getfield 51, 3) := by decide +kernel
theorem d_Md_isSo_333 : decode prog_14_method_20_code 333 = .ok (.iload_n 3, 1) := by decide +kernel
theorem d_Md_isSo_334 : decode prog_14_method_20_code 334 = .ok (.iconst 2, 1) := by decide +kernel
theorem d_Md_isSo_335 : decode prog_14_method_20_code 335 = .ok (.isub, 1) := by decide +kernel
theorem d_Md_isSo_336 : decode prog_14_method_20_code 336 = .ok (.baload, 1) := by decide +kernel
theorem d_Md_isSo_337 : decode prog_14_method_20_code 337 = .ok (.ifCond .eq 7, 3) := by decide +kernel
theorem d_Md_isSo_340 : decode prog_14_method_20_code 340 = .ok (.iconst 1, 1) := by decide +kernel
theorem d_Md_isSo_341 : decode prog_14_method_20_code 341 = .ok (.goto 4, 3) := by decide +kernel
theorem d_Md_isSo_344 : decode prog_14_method_20_code 344 = .ok (.iconst 0, 1) := by decide +kernel
theorem d_Md_isSo_345 : decode prog_14_method_20_code 345 = .ok (.bastore, 1) := by decide +kernel
theorem d_Md_isSo_346 : decode prog_14_method_20_code 346 = .ok (.iinc 3 (-1), 3) := by decide +kernel
theorem d_Md_isSo_349 : decode prog_14_method_20_code 349 = .ok (.iinc 4 (-1), 3) := by decide +kernel
theorem d_Md_isSo_352 : decode prog_14_method_20_code 352 = .ok (.goto (-338), 3) := by decide +kernel
theorem d_Md_isSo_355 : decode prog_14_method_20_code 355 = .ok (.aload_n 0, 1) := by decide +kernel
theorem d_Md_isSo_356 : decode prog_14_method_20_code 356 = .ok (.getfield 51, 3) := by decide +kernel
theorem d_Md_isSo_359 : decode prog_14_method_20_code 359 = .ok (.iconst 0, 1) := by decide +kernel
theorem d_Md_isSo_360 : decode prog_14_method_20_code 360 = .ok (.baload, 1) := by decide +kernel
theorem d_Md_isSo_361 : decode prog_14_method_20_code 361 = .ok (.ireturn, 1) := by decide +kernel
theorem d_Md_seat_0 : decode prog_14_method_19_code 0 = .ok (.aload_n 0, 1) := by decide +kernel
theorem d_Md_seat_1 : decode prog_14_method_19_code 1 = .ok (.getfield 44, 3) := by decide +kernel
theorem d_Md_seat_4 : decode prog_14_method_19_code 4 = .ok (.iconst 4, 1) := by decide +kernel
theorem d_Md_seat_5 : decode prog_14_method_19_code 5 = .ok (.aload_n 0, 1) := by decide +kernel
theorem d_Md_seat_6 : decode prog_14_method_19_code 6 = .ok (.iload_n 1, 1) := by decide +kernel
theorem d_Md_seat_7 : decode prog_14_method_19_code 7 = .ok (.iload_n 2, 1) := by decide +kernel
theorem d_Md_seat_8 : decode prog_14_method_19_code 8 = .ok (.iconst 4, 1) := by decide +kernel
theorem d_Md_seat_9 : decode prog_14_method_19_code 9 = .ok (.idiv, 1) := by decide +kernel
theorem d_Md_seat_10 : decode prog_14_method_19_code 10 = .ok (.invokevirtual 150, 3) := by decide +kernel
theorem d_Md_seat_13 : decode prog_14_method_19_code 13 = .ok (.imul, 1) := by decide +kernel
theorem d_Md_seat_14 : decode prog_14_method_19_code 14 = .ok (.iload_n 2, 1) := by decide +kernel
theorem d_Md_seat_15 : decode prog_14_method_19_code 15 = .ok (.iconst 4, 1) := by decide +kernel
theorem d_Md_seat_16 : decode prog_14_method_19_code 16 = .ok (.irem, 1) := by decide +kernel
theorem d_Md_seat_17 : decode prog_14_method_19_code 17 = .ok (.iadd, 1) := by decide +kernel
theorem d_Md_seat_18 : decode prog_14_method_19_code 18 = .ok (.iaload, 1) := by decide +kernel
theorem d_Md_seat_19 : decode prog_14_method_19_code 19 = .ok (.ireturn, 1) := by decide +kernel
