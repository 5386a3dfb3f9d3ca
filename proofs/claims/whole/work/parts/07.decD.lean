theorem d_Md_orderOf_0 : decode prog_14_method_16_code 0 = .ok (.iload_n 1, 1) := by decide +kernel
theorem d_Md_orderOf_1 : decode prog_14_method_16_code 1 = .ok (.aload_n 0, 1) := by decide +kernel
theorem d_Md_orderOf_2 : decode prog_14_method_16_code 2 = .ok (.getfield 141, 3) := by decide +kernel
theorem d_Md_orderOf_5 : decode prog_14_method_16_code 5 = .ok (.ishr, 1) := by decide +kernel
theorem d_Md_orderOf_6 : decode prog_14_method_16_code 6 = .ok (.istore_n 3, 1) := by decide +kernel
theorem d_Md_orderOf_7 : decode prog_14_method_16_code 7 = .ok (.aload_n 0, 1) := by decide +kernel
theorem d_Md_orderOf_8 : decode prog_14_method_16_code 8 = .ok (.getfield 138, 3) := by decide +kernel
theorem d_Md_orderOf_11 : decode prog_14_method_16_code 11 = .ok (.iconst 1, 1) := by decide +kernel
theorem d_Md_orderOf_12 : decode prog_14_method_16_code 12 = .ok (.isub, 1) := by decide +kernel
theorem d_Md_orderOf_13 : decode prog_14_method_16_code 13 = .ok (.istore 4, 2) := by decide +kernel
theorem d_Md_orderOf_15 : decode prog_14_method_16_code 15 = .ok (.iload 4, 2) := by decide +kernel
theorem d_Md_orderOf_17 : decode prog_14_method_16_code 17 = .ok (.iload_n 2, 1) := by decide +kernel
theorem d_Md_orderOf_18 : decode prog_14_method_16_code 18 = .ok (.if_icmp .le 16, 3) := by decide +kernel
theorem d_Md_orderOf_21 : decode prog_14_method_16_code 21 = .ok (.iload_n 3, 1) := by decide +kernel
theorem d_Md_orderOf_22 : decode prog_14_method_16_code 22 = .ok (.aload_n 0, 1) := by decide +kernel
theorem d_Md_orderOf_23 : decode prog_14_method_16_code 23 = .ok (.getfield 147, 3) := by decide +kernel
theorem d_Md_orderOf_26 : decode prog_14_method_16_code 26 = .ok (.idiv, 1) := by decide +kernel
theorem d_Md_orderOf_27 : decode prog_14_method_16_code 27 = .ok (.istore_n 3, 1) := by decide +kernel
theorem d_Md_orderOf_28 : decode prog_14_method_16_code 28 = .ok (.iinc 4 (-1), 3) := by decide +kernel
theorem d_Md_orderOf_31 : decode prog_14_method_16_code 31 = .ok (.goto (-16), 3) := by decide +kernel
theorem d_Md_orderOf_34 : decode prog_14_method_16_code 34 = .ok (.iload_n 3, 1) := by decide +kernel
theorem d_Md_orderOf_35 : decode prog_14_method_16_code 35 = .ok (.aload_n 0, 1) := by decide +kernel
theorem d_Md_orderOf_36 : decode prog_14_method_16_code 36 = .ok (.getfield 147, 3) := by decide +kernel
theorem d_Md_orderOf_39 : decode prog_14_method_16_code 39 = .ok (.irem, 1) := by decide +kernel
theorem d_Md_orderOf_40 : decode prog_14_method_16_code 40 = .ok (.ireturn, 1) := by decide +kernel
theorem d_Md_isTruthful_0 : decode prog_14_method_17_code 0 = .ok (.iload_n 1, 1) := by decide +kernel
theorem d_Md_isTruthful_1 : decode prog_14_method_17_code 1 = .ok (.aload_n 0, 1) := by decide +kernel
theorem d_Md_isTruthful_2 : decode prog_14_method_17_code 2 = .ok (.getfield 141, 3) := by decide +kernel
theorem d_Md_isTruthful_5 : decode prog_14_method_17_code 5 = .ok (.iconst 1, 1) := by decide +kernel
theorem d_Md_isTruthful_6 : decode prog_14_method_17_code 6 = .ok (.isub, 1) := by decide +kernel
theorem d_Md_isTruthful_7 : decode prog_14_method_17_code 7 = .ok (.iload_n 2, 1) := by decide +kernel
theorem d_Md_isTruthful_8 : decode prog_14_method_17_code 8 = .ok (.isub, 1) := by decide +kernel
theorem d_Md_isTruthful_9 : decode prog_14_method_17_code 9 = .ok (.ishr, 1) := by decide +kernel
theorem d_Md_isTruthful_10 : decode prog_14_method_17_code 10 = .ok (.iconst 1, 1) := by decide +kernel
theorem d_Md_isTruthful_11 : decode prog_14_method_17_code 11 = .ok (.iand, 1) := by decide +kernel
theorem d_Md_isTruthful_12 : decode prog_14_method_17_code 12 = .ok (.iconst 1, 1) := by decide +kernel
theorem d_Md_isTruthful_13 : decode prog_14_method_17_code 13 = .ok (.if_icmp .ne 7, 3) := by decide +kernel
theorem d_Md_isTruthful_16 : decode prog_14_method_17_code 16 = .ok (.iconst 1, 1) := by decide +kernel
theorem d_Md_isTruthful_17 : decode prog_14_method_17_code 17 = .ok (.goto 4, 3) := by decide +kernel
theorem d_Md_isTruthful_20 : decode prog_14_method_17_code 20 = .ok (.iconst 0, 1) := by decide +kernel
theorem d_Md_isTruthful_21 : decode prog_14_method_17_code 21 = .ok (.ireturn, 1) := by decide +kernel
theorem d_Md_isAnswer_0 : decode prog_14_method_22_code 0 = .ok (.aload_n 0, 1) := by decide +kernel
theorem d_Md_isAnswer_1 : decode prog_14_method_22_code 1 = .ok (.getfield 48, 3) := by decide +kernel
theorem d_Md_isAnswer_4 : decode prog_14_method_22_code 4 = .ok (.iload_n 1, 1) := by decide +kernel
theorem d_Md_isAnswer_5 : decode prog_14_method_22_code 5 = .ok (.iaload, 1) := by decide +kernel
theorem d_Md_isAnswer_6 : decode prog_14_method_22_code 6 = .ok (.iconst 1, 1) := by decide +kernel
theorem d_Md_isAnswer_7 : decode prog_14_method_22_code 7 = .ok (.aload_n 0, 1) := by decide +kernel
theorem d_Md_isAnswer_8 : decode prog_14_method_22_code 8 = .ok (.getfield 144, 3) := by decide +kernel
theorem d_Md_isAnswer_11 : decode prog_14_method_22_code 11 = .ok (.ishl, 1) := by decide +kernel
theorem d_Md_isAnswer_12 : decode prog_14_method_22_code 12 = .ok (.iconst 1, 1) := by decide +kernel
theorem d_Md_isAnswer_13 : decode prog_14_method_22_code 13 = .ok (.isub, 1) := by decide +kernel
theorem d_Md_isAnswer_14 : decode prog_14_method_22_code 14 = .ok (.if_icmp .ne 7, 3) := by decide +kernel
theorem d_Md_isAnswer_17 : decode prog_14_method_22_code 17 = .ok (.iconst 1, 1) := by decide +kernel
theorem d_Md_isAnswer_18 : decode prog_14_method_22_code 18 = .ok (.goto 4, 3) := by decide +kernel
theorem d_Md_isAnswer_21 : decode prog_14_method_22_code 21 = .ok (.iconst 0, 1) := by decide +kernel
theorem d_Md_isAnswer_22 : decode prog_14_method_22_code 22 = .ok (.ireturn, 1) := by decide +kernel
theorem d_Md_answer_0 : decode prog_14_method_27_code 0 = .ok (.aload_n 0, 1) := by decide +kernel
theorem d_Md_answer_1 : decode prog_14_method_27_code 1 = .ok (.iconst 0, 1) := by decide +kernel
theorem d_Md_answer_2 : decode prog_14_method_27_code 2 = .ok (.putfield 79, 3) := by decide +kernel
theorem d_Md_answer_5 : decode prog_14_method_27_code 5 = .ok (.aload_n 0, 1) := by decide +kernel
theorem d_Md_answer_6 : decode prog_14_method_27_code 6 = .ok (.iload_n 1, 1) := by decide +kernel
theorem d_Md_answer_7 : decode prog_14_method_27_code 7 = .ok (.invokevirtual 176, 3) := by decide +kernel
theorem d_Md_answer_10 : decode prog_14_method_27_code 10 = .ok (.ifCond .eq 27, 3) := by decide +kernel
theorem d_Md_answer_13 : decode prog_14_method_27_code 13 = .ok (.aload_n 0, 1) := by decide +kernel
theorem d_Md_answer_14 : decode prog_14_method_27_code 14 = .ok (.iload_n 2, 1) := by decide +kernel
theorem d_Md_answer_15 : decode prog_14_method_27_code 15 = .ok (.iload_n 3, 1) := by decide +kernel
theorem d_Md_answer_16 : decode prog_14_method_27_code 16 = .ok (.invokevirtual 179, 3) := by decide +kernel
theorem d_Md_answer_19 : decode prog_14_method_27_code 19 = .ok (.ifCond .eq 18, 3) := by decide +kernel
theorem d_Md_answer_22 : decode prog_14_method_27_code 22 = .ok (.aload_n 0, 1) := by decide +kernel
theorem d_Md_answer_23 : decode prog_14_method_27_code 23 = .ok (.aload_n 0, 1) := by decide +kernel
theorem d_Md_answer_24 : decode prog_14_method_27_code 24 = .ok (.getfield 55, 3) := by decide +kernel
theorem d_Md_answer_27 : decode prog_14_method_27_code 27 = .ok (.iload_n 1, 1) := by decide +kernel
theorem d_Md_answer_28 : decode prog_14_method_27_code 28 = .ok (.iaload, 1) := by decide +kernel
theorem d_Md_answer_29 : decode prog_14_method_27_code 29 = .ok (.iload_n 2, 1) := by decide +kernel
theorem d_Md_answer_30 : decode prog_14_method_27_code 30 = .ok (.iload_n 3, 1) := by decide +kernel
theorem d_Md_answer_31 : decode prog_14_method_27_code 31 = .ok (.invokevirtual 182, 3) := by decide +kernel
theorem d_Md_answer_34 : decode prog_14_method_27_code 34 = .ok (.goto 4, 3) := by decide +kernel
theorem d_Md_answer_37 : decode prog_14_method_27_code 37 = .ok (.iconst (-1), 1) := by decide +kernel
theorem d_Md_answer_38 : decode prog_14_method_27_code 38 = .ok (.ireturn, 1) := by decide +kernel
theorem d_Md_isKept_0 : decode prog_14_method_24_code 0 = .ok (.iload_n 1, 1) := by decide +kernel
theorem d_Md_isKept_1 : decode prog_14_method_24_code 1 = .ok (.ifCond .lt 15, 3) := by decide +kernel
theorem d_Md_isKept_4 : decode prog_14_method_24_code 4 = .ok (.iload_n 1, 1) := by decide +kernel
theorem d_Md_isKept_5 : decode prog_14_method_24_code 5 = .ok (.aload_n 0, 1) := by decide +kernel
theorem d_Md_isKept_6 : decode prog_14_method_24_code 6 = .ok (.getfield 89, 3) := by decide +kernel
theorem d_Md_isKept_9 : decode prog_14_method_24_code 9 = .ok (.if_icmp .ge 7, 3) := by decide +kernel
theorem d_Md_isKept_12 : decode prog_14_method_24_code 12 = .ok (.iconst 1, 1) := by decide +kernel
theorem d_Md_isKept_13 : decode prog_14_method_24_code 13 = .ok (.goto 4, 3) := by decide +kernel
theorem d_Md_isKept_16 : decode prog_14_method_24_code 16 = .ok (.iconst 0, 1) := by decide +kernel
theorem d_Md_isKept_17 : decode prog_14_method_24_code 17 = .ok (.ireturn, 1) := by decide +kernel
theorem d_Md_isOf_0 : decode prog_14_method_25_code 0 = .ok (.iload_n 1, 1) := by decide +kernel
theorem d_Md_isOf_1 : decode prog_14_method_25_code 1 = .ok (.ifCond .lt 27, 3) := by decide +kernel
theorem d_Md_isOf_4 : decode prog_14_method_25_code 4 = .ok (.iload_n 1, 1) := by decide +kernel
theorem d_Md_isOf_5 : decode prog_14_method_25_code 5 = .ok (.aload_n 0, 1) := by decide +kernel
theorem d_Md_isOf_6 : decode prog_14_method_25_code 6 = .ok (.getfield 13, 3) := by decide +kernel
theorem d_Md_isOf_9 : decode prog_14_method_25_code 9 = .ok (.if_icmp .ge 19, 3) := by decide +kernel
theorem d_Md_isOf_12 : decode prog_14_method_25_code 12 = .ok (.iload_n 2, 1) := by decide +kernel
theorem d_Md_isOf_13 : decode prog_14_method_25_code 13 = .ok (.ifCond .lt 15, 3) := by decide +kernel
theorem d_Md_isOf_16 : decode prog_14_method_25_code 16 = .ok (.iload_n 2, 1) := by decide +kernel
theorem d_Md_isOf_17 : decode prog_14_method_25_code 17 = .ok (.aload_n 0, 1) := by decide +kernel
theorem d_Md_isOf_18 : decode prog_14_method_25_code 18 = .ok (.getfield 138, 3) := by decide +kernel
theorem d_Md_isOf_21 : decode prog_14_method_25_code 21 = .ok (.if_icmp .ge 7, 3) := by decide +kernel
theorem d_Md_isOf_24 : decode prog_14_method_25_code 24 = .ok (.iconst 1, 1) := by decide +kernel
theorem d_Md_isOf_25 : decode prog_14_method_25_code 25 = .ok (.goto 4, 3) := by decide +kernel
theorem d_Md_isOf_28 : decode prog_14_method_25_code 28 = .ok (.iconst 0, 1) := by decide +kernel
theorem d_Md_isOf_29 : decode prog_14_method_25_code 29 = .ok (.ireturn, 1) := by decide +kernel
theorem d_Md_valueOf_0 : decode prog_14_method_18_code 0 = .ok (.aload_n 0, 1) := by decide +kernel
theorem d_Md_valueOf_1 : decode prog_14_method_18_code 1 = .ok (.getfield 41, 3) := by decide +kernel
theorem d_Md_valueOf_4 : decode prog_14_method_18_code 4 = .ok (.iconst 4, 1) := by decide +kernel
theorem d_Md_valueOf_5 : decode prog_14_method_18_code 5 = .ok (.aload_n 0, 1) := by decide +kernel
theorem d_Md_valueOf_6 : decode prog_14_method_18_code 6 = .ok (.iload_n 1, 1) := by decide +kernel
theorem d_Md_valueOf_7 : decode prog_14_method_18_code 7 = .ok (.iload_n 3, 1) := by decide +kernel
theorem d_Md_valueOf_8 : decode prog_14_method_18_code 8 = .ok (.invokevirtual 150, 3) := by decide +kernel
theorem d_Md_valueOf_11 : decode prog_14_method_18_code 11 = .ok (.imul, 1) := by decide +kernel
theorem d_Md_valueOf_12 : decode prog_14_method_18_code 12 = .ok (.iload_n 2, 1) := by decide +kernel
theorem d_Md_valueOf_13 : decode prog_14_method_18_code 13 = .ok (.iadd, 1) := by decide +kernel
theorem d_Md_valueOf_14 : decode prog_14_method_18_code 14 = .ok (.iaload, 1) := by decide +kernel
theorem d_Md_valueOf_15 : decode prog_14_method_18_code 15 = .ok (.ireturn, 1) := by decide +kernel
theorem d_Md_truth_0 : decode prog_14_method_28_code 0 = .ok (.aload_n 0, 1) := by decide +kernel
theorem d_Md_truth_1 : decode prog_14_method_28_code 1 = .ok (.iconst 0, 1) := by decide +kernel
theorem d_Md_truth_2 : decode prog_14_method_28_code 2 = .ok (.putfield 79, 3) := by decide +kernel
theorem d_Md_truth_5 : decode prog_14_method_28_code 5 = .ok (.aload_n 0, 1) := by decide +kernel
theorem d_Md_truth_6 : decode prog_14_method_28_code 6 = .ok (.iload_n 1, 1) := by decide +kernel
theorem d_Md_truth_7 : decode prog_14_method_28_code 7 = .ok (.invokevirtual 176, 3) := by decide +kernel
theorem d_Md_truth_10 : decode prog_14_method_28_code 10 = .ok (.ifCond .eq 11, 3) := by decide +kernel
theorem d_Md_truth_13 : decode prog_14_method_28_code 13 = .ok (.aload_n 0, 1) := by decide +kernel
theorem d_Md_truth_14 : decode prog_14_method_28_code 14 = .ok (.iload_n 2, 1) := by decide +kernel
theorem d_Md_truth_15 : decode prog_14_method_28_code 15 = .ok (.invokevirtual 186, 3) := by decide +kernel
theorem d_Md_truth_18 : decode prog_14_method_28_code 18 = .ok (.ifCond .ne 7, 3) := by decide +kernel
theorem d_Md_truth_21 : decode prog_14_method_28_code 21 = .ok (.iconst (-1), 1) := by decide +kernel
theorem d_Md_truth_22 : decode prog_14_method_28_code 22 = .ok (.goto 22, 3) := by decide +kernel
theorem d_Md_truth_25 : decode prog_14_method_28_code 25 = .ok (.aload_n 0, 1) := by decide +kernel
theorem d_Md_truth_26 : decode prog_14_method_28_code 26 = .ok (.aload_n 0, 1) := by decide +kernel
theorem d_Md_truth_27 : decode prog_14_method_28_code 27 = .ok (.getfield 55, 3) := by decide +kernel
theorem d_Md_truth_30 : decode prog_14_method_28_code 30 = .ok (.iload_n 1, 1) := by decide +kernel
theorem d_Md_truth_31 : decode prog_14_method_28_code 31 = .ok (.iaload, 1) := by decide +kernel
theorem d_Md_truth_32 : decode prog_14_method_28_code 32 = .ok (.iload_n 2, 1) := by decide +kernel
theorem d_Md_truth_33 : decode prog_14_method_28_code 33 = .ok (.invokevirtual 156, 3) := by decide +kernel
theorem d_Md_truth_36 : decode prog_14_method_28_code 36 = .ok (.ifCond .eq 7, 3) := by decide +kernel
theorem d_Md_truth_39 : decode prog_14_method_28_code 39 = .ok (.iconst 1, 1) := by decide +kernel
theorem d_Md_truth_40 : decode prog_14_method_28_code 40 = .ok (.goto 4, 3) := by decide +kernel
theorem d_Md_truth_43 : decode prog_14_method_28_code 43 = .ok (.iconst 0, 1) := by decide +kernel
theorem d_Md_truth_44 : decode prog_14_method_28_code 44 = .ok (.ireturn, 1) := by decide +kernel
theorem d_Md_isPerson_0 : decode prog_14_method_26_code 0 = .ok (.iload_n 1, 1) := by decide +kernel
theorem d_Md_isPerson_1 : decode prog_14_method_26_code 1 = .ok (.ifCond .lt 15, 3) := by decide +kernel
theorem d_Md_isPerson_4 : decode prog_14_method_26_code 4 = .ok (.iload_n 1, 1) := by decide +kernel
theorem d_Md_isPerson_5 : decode prog_14_method_26_code 5 = .ok (.aload_n 0, 1) := by decide +kernel
theorem d_Md_isPerson_6 : decode prog_14_method_26_code 6 = .ok (.getfield 141, 3) := by decide +kernel
theorem d_Md_isPerson_9 : decode prog_14_method_26_code 9 = .ok (.if_icmp .ge 7, 3) := by decide +kernel
theorem d_Md_isPerson_12 : decode prog_14_method_26_code 12 = .ok (.iconst 1, 1) := by decide +kernel
theorem d_Md_isPerson_13 : decode prog_14_method_26_code 13 = .ok (.goto 4, 3) := by decide +kernel
theorem d_Md_isPerson_16 : decode prog_14_method_26_code 16 = .ok (.iconst 0, 1) := by decide +kernel
theorem d_Md_isPerson_17 : decode prog_14_method_26_code 17 = .ok (.ireturn, 1) := by decide +kernel
theorem d_Md_often_0 : decode prog_14_method_29_code 0 = .ok (.aload_n 0, 1) := by decide +kernel
theorem d_Md_often_1 : decode prog_14_method_29_code 1 = .ok (.iconst 0, 1) := by decide +kernel
theorem d_Md_often_2 : decode prog_14_method_29_code 2 = .ok (.putfield 79, 3) := by decide +kernel
theorem d_Md_often_5 : decode prog_14_method_29_code 5 = .ok (.aload_n 0, 1) := by decide +kernel
theorem d_Md_often_6 : decode prog_14_method_29_code 6 = .ok (.iload_n 1, 1) := by decide +kernel
theorem d_Md_often_7 : decode prog_14_method_29_code 7 = .ok (.iload_n 2, 1) := by decide +kernel
theorem d_Md_often_8 : decode prog_14_method_29_code 8 = .ok (.invokevirtual 179, 3) := by decide +kernel
theorem d_Md_often_11 : decode prog_14_method_29_code 11 = .ok (.ifCond .eq 15, 3) := by decide +kernel
theorem d_Md_often_14 : decode prog_14_method_29_code 14 = .ok (.iload_n 3, 1) := by decide +kernel
theorem d_Md_often_15 : decode prog_14_method_29_code 15 = .ok (.ifCond .lt 11, 3) := by decide +kernel
theorem d_Md_often_18 : decode prog_14_method_29_code 18 = .ok (.iload_n 3, 1) := by decide +kernel
theorem d_Md_often_19 : decode prog_14_method_29_code 19 = .ok (.aload_n 0, 1) := by decide +kernel
theorem d_Md_often_20 : decode prog_14_method_29_code 20 = .ok (.getfield 13, 3) := by decide +kernel
theorem d_Md_often_23 : decode prog_14_method_29_code 23 = .ok (.if_icmp .lt 5, 3) := by decide +kernel
theorem d_Md_often_26 : decode prog_14_method_29_code 26 = .ok (.iconst (-1), 1) := by decide +kernel
theorem d_Md_often_27 : decode prog_14_method_29_code 27 = .ok (.ireturn, 1) := by decide +kernel
theorem d_Md_often_28 : decode prog_14_method_29_code 28 = .ok (.aload_n 0, 1) := by decide +kernel
theorem d_Md_often_29 : decode prog_14_method_29_code 29 = .ok (.invokevirtual 169, 3) := by decide +kernel
theorem d_Md_often_32 : decode prog_14_method_29_code 32 = .ok (.iconst 0, 1) := by decide +kernel
theorem d_Md_often_33 : decode prog_14_method_29_code 33 = .ok (.istore 4, 2) := by decide +kernel
theorem d_Md_often_35 : decode prog_14_method_29_code 35 = .ok (.iconst 0, 1) := by decide +kernel
theorem d_Md_often_36 : decode prog_14_method_29_code 36 = .ok (.istore 5, 2) := by decide +kernel
theorem d_Md_often_38 : decode prog_14_method_29_code 38 = .ok (.iload 5, 2) := by decide +kernel
theorem d_Md_often_40 : decode prog_14_method_29_code 40 = .ok (.aload_n 0, 1) := by decide +kernel
theorem d_Md_often_41 : decode prog_14_method_29_code 41 = .ok (.invokevirtual 163, 3) := by decide +kernel
theorem d_Md_often_44 : decode prog_14_method_29_code 44 = .ok (.if_icmp .ge 40, 3) := by decide +kernel
theorem d_Md_often_47 : decode prog_14_method_29_code 47 = .ok (.iload 4, 2) := by decide +kernel
theorem d_Md_often_49 : decode prog_14_method_29_code 49 = .ok (.aload_n 0, 1) := by decide +kernel
theorem d_Md_often_50 : decode prog_14_method_29_code 50 = .ok (.iload 5, 2) := by decide +kernel
theorem d_Md_often_52 : decode prog_14_method_29_code 52 = .ok (.invokevirtual 172, 3) := by decide +kernel
theorem d_Md_often_55 : decode prog_14_method_29_code 55 = .ok (.ifCond .eq 19, 3) := by decide +kernel
theorem d_Md_often_58 : decode prog_14_method_29_code 58 = .ok (.aload_n 0, 1) := by decide +kernel
theorem d_Md_often_59 : decode prog_14_method_29_code 59 = .ok (.iload 5, 2) := by decide +kernel
theorem d_Md_often_61 : decode prog_14_method_29_code 61 = .ok (.iload_n 1, 1) := by decide +kernel
theorem d_Md_often_62 : decode prog_14_method_29_code 62 = .ok (.iload_n 2, 1) := by decide +kernel
theorem d_Md_often_63 : decode prog_14_method_29_code 63 = .ok (.invokevirtual 182, 3) := by decide +kernel
theorem d_Md_often_66 : decode prog_14_method_29_code 66 = .ok (.iload_n 3, 1) := by decide +kernel
theorem d_Md_often_67 : decode prog_14_method_29_code 67 = .ok (.if_icmp .ne 7, 3) := by decide +kernel
theorem d_Md_often_70 : decode prog_14_method_29_code 70 = .ok (.iconst 1, 1) := by decide +kernel
theorem d_Md_often_71 : decode prog_14_method_29_code 71 = .ok (.goto 4, 3) := by decide +kernel
theorem d_Md_often_74 : decode prog_14_method_29_code 74 = .ok (.iconst 0, 1) := by decide +kernel
theorem d_Md_often_75 : decode prog_14_method_29_code 75 = .ok (.iadd, 1) := by decide +kernel
theorem d_Md_often_76 : decode prog_14_method_29_code 76 = .ok (.istore 4, 2) := by decide +kernel
theorem d_Md_often_78 : decode prog_14_method_29_code 78 = .ok (.iinc 5 1, 3) := by decide +kernel
theorem d_Md_often_81 : decode prog_14_method_29_code 81 = .ok (.goto (-43), 3) := by decide +kernel
theorem d_Md_often_84 : decode prog_14_method_29_code 84 = .ok (.iload 4, 2) := by decide +kernel
theorem d_Md_often_86 : decode prog_14_method_29_code 86 = .ok (.ireturn, 1) := by decide +kernel
theorem d_Md_spare_0 : decode prog_14_method_30_code 0 = .ok (.aload_n 0, 1) := by decide +kernel
theorem d_Md_spare_1 : decode prog_14_method_30_code 1 = .ok (.iconst 0, 1) := by decide +kernel
theorem d_Md_spare_2 : decode prog_14_method_30_code 2 = .ok (.putfield 79, 3) := by decide +kernel
theorem d_Md_spare_5 : decode prog_14_method_30_code 5 = .ok (.iload_n 1, 1) := by decide +kernel
theorem d_Md_spare_6 : decode prog_14_method_30_code 6 = .ok (.ifCond .lt 11, 3) := by decide +kernel
theorem d_Md_spare_9 : decode prog_14_method_30_code 9 = .ok (.iload_n 1, 1) := by decide +kernel
theorem d_Md_spare_10 : decode prog_14_method_30_code 10 = .ok (.aload_n 0, 1) := by decide +kernel
theorem d_Md_spare_11 : decode prog_14_method_30_code 11 = .ok (.getfield 144, 3) := by decide +kernel
theorem d_Md_spare_14 : decode prog_14_method_30_code 14 = .ok (.if_icmp .lt 5, 3) := by decide +kernel
theorem d_Md_spare_17 : decode prog_14_method_30_code 17 = .ok (.iconst 0, 1) := by decide +kernel
theorem d_Md_spare_18 : decode prog_14_method_30_code 18 = .ok (.ireturn, 1) := by decide +kernel
theorem d_Md_spare_19 : decode prog_14_method_30_code 19 = .ok (.aload_n 0, 1) := by decide +kernel
theorem d_Md_spare_20 : decode prog_14_method_30_code 20 = .ok (.invokevirtual 169, 3) := by decide +kernel
theorem d_Md_spare_23 : decode prog_14_method_30_code 23 = .ok (.iconst 1, 1) := by decide +kernel
theorem d_Md_spare_24 : decode prog_14_method_30_code 24 = .ok (.aload_n 0, 1) := by decide +kernel
theorem d_Md_spare_25 : decode prog_14_method_30_code 25 = .ok (.getfield 144, 3) := by decide +kernel
theorem d_Md_spare_28 : decode prog_14_method_30_code 28 = .ok (.ishl, 1) := by decide +kernel
theorem d_Md_spare_29 : decode prog_14_method_30_code 29 = .ok (.iconst 1, 1) := by decide +kernel
theorem d_Md_spare_30 : decode prog_14_method_30_code 30 = .ok (.isub, 1) := by decide +kernel
theorem d_Md_spare_31 : decode prog_14_method_30_code 31 = .ok (.iconst 1, 1) := by decide +kernel
theorem d_Md_spare_32 : decode prog_14_method_30_code 32 = .ok (.iload_n 1, 1) := by decide +kernel
theorem d_Md_spare_33 : decode prog_14_method_30_code 33 = .ok (.ishl, 1) := by decide +kernel
theorem d_Md_spare_34 : decode prog_14_method_30_code 34 = .ok (.iconst (-1), 1) := by decide +kernel
theorem d_Md_spare_35 : decode prog_14_method_30_code 35 = .ok (.ixor, 1) := by decide +kernel
theorem d_Md_spare_36 : decode prog_14_method_30_code 36 = .ok (.iand, 1) := by decide +kernel
theorem d_Md_spare_37 : decode prog_14_method_30_code 37 = .ok (.istore_n 2, 1) := by decide +kernel
theorem d_Md_spare_38 : decode prog_14_method_30_code 38 = .ok (.iconst 0, 1) := by decide +kernel
theorem d_Md_spare_39 : decode prog_14_method_30_code 39 = .ok (.istore_n 3, 1) := by decide +kernel
theorem d_Md_spare_40 : decode prog_14_method_30_code 40 = .ok (.iload_n 3, 1) := by decide +kernel
theorem d_Md_spare_41 : decode prog_14_method_30_code 41 = .ok (.aload_n 0, 1) := by decide +kernel
theorem d_Md_spare_42 : decode prog_14_method_30_code 42 = .ok (.invokevirtual 163, 3) := by decide +kernel
theorem d_Md_spare_45 : decode prog_14_method_30_code 45 = .ok (.if_icmp .ge 21, 3) := by decide +kernel
theorem d_Md_spare_48 : decode prog_14_method_30_code 48 = .ok (.aload_n 0, 1) := by decide +kernel
theorem d_Md_spare_49 : decode prog_14_method_30_code 49 = .ok (.getfield 48, 3) := by decide +kernel
theorem d_Md_spare_52 : decode prog_14_method_30_code 52 = .ok (.iload_n 3, 1) := by decide +kernel
theorem d_Md_spare_53 : decode prog_14_method_30_code 53 = .ok (.iaload, 1) := by decide +kernel
theorem d_Md_spare_54 : decode prog_14_method_30_code 54 = .ok (.iload_n 2, 1) := by decide +kernel
theorem d_Md_spare_55 : decode prog_14_method_30_code 55 = .ok (.if_icmp .ne 5, 3) := by decide +kernel
theorem d_Md_spare_58 : decode prog_14_method_30_code 58 = .ok (.iconst 0, 1) := by decide +kernel
theorem d_Md_spare_59 : decode prog_14_method_30_code 59 = .ok (.ireturn, 1) := by decide +kernel
theorem d_Md_spare_60 : decode prog_14_method_30_code 60 = .ok (.iinc 3 1, 3) := by decide +kernel
theorem d_Md_spare_63 : decode prog_14_method_30_code 63 = .ok (.goto (-23), 3) := by decide +kernel
theorem d_Md_spare_66 : decode prog_14_method_30_code 66 = .ok (.iconst 1, 1) := by decide +kernel
theorem d_Md_spare_67 : decode prog_14_method_30_code 67 = .ok (.ireturn, 1) := by decide +kernel
theorem d_Md_cross_0 : decode prog_14_method_34_code 0 = .ok (.aload_n 0, 1) := by decide +kernel
theorem d_Md_cross_1 : decode prog_14_method_34_code 1 = .ok (.iconst 0, 1) := by decide +kernel
theorem d_Md_cross_2 : decode prog_14_method_34_code 2 = .ok (.putfield 79, 3) := by decide +kernel
theorem d_Md_cross_5 : decode prog_14_method_34_code 5 = .ok (.aload_n 0, 1) := by decide +kernel
theorem d_Md_cross_6 : decode prog_14_method_34_code 6 = .ok (.invokevirtual 169, 3) := by decide +kernel
theorem d_Md_cross_9 : decode prog_14_method_34_code 9 = .ok (.aload_n 0, 1) := by decide +kernel
theorem d_Md_cross_10 : decode prog_14_method_34_code 10 = .ok (.getfield 86, 3) := by decide +kernel
theorem d_Md_cross_13 : decode prog_14_method_34_code 13 = .ok (.ifCond .eq 8, 3) := by decide +kernel
theorem d_Md_cross_16 : decode prog_14_method_34_code 16 = .ok (.aload_n 0, 1) := by decide +kernel
theorem d_Md_cross_17 : decode prog_14_method_34_code 17 = .ok (.getfield 92, 3) := by decide +kernel
theorem d_Md_cross_20 : decode prog_14_method_34_code 20 = .ok (.ireturn, 1) := by decide +kernel
theorem d_Md_cross_21 : decode prog_14_method_34_code 21 = .ok (.aload_n 0, 1) := by decide +kernel
theorem d_Md_cross_22 : decode prog_14_method_34_code 22 = .ok (.iconst 1, 1) := by decide +kernel
theorem d_Md_cross_23 : decode prog_14_method_34_code 23 = .ok (.putfield 86, 3) := by decide +kernel
theorem d_Md_cross_26 : decode prog_14_method_34_code 26 = .ok (.aload_n 0, 1) := by decide +kernel
theorem d_Md_cross_27 : decode prog_14_method_34_code 27 = .ok (.iconst 0, 1) := by decide +kernel
theorem d_Md_cross_28 : decode prog_14_method_34_code 28 = .ok (.putfield 92, 3) := by decide +kernel
theorem d_Md_cross_31 : decode prog_14_method_34_code 31 = .ok (.aload_n 0, 1) := by decide +kernel
theorem d_Md_cross_32 : decode prog_14_method_34_code 32 = .ok (.invokevirtual 95, 3) := by decide +kernel
theorem d_Md_cross_35 : decode prog_14_method_34_code 35 = .ok (.iconst 0, 1) := by decide +kernel
theorem d_Md_cross_36 : decode prog_14_method_34_code 36 = .ok (.istore_n 1, 1) := by decide +kernel
theorem d_Md_cross_37 : decode prog_14_method_34_code 37 = .ok (.iload_n 1, 1) := by decide +kernel
theorem d_Md_cross_38 : decode prog_14_method_34_code 38 = .ok (.aload_n 0, 1) := by decide +kernel
theorem d_Md_cross_39 : decode prog_14_method_34_code 39 = .ok (.getfield 144, 3) := by decide +kernel
theorem d_Md_cross_42 : decode prog_14_method_34_code 42 = .ok (.if_icmp .ge 54, 3) := by decide +kernel
theorem d_Md_cross_45 : decode prog_14_method_34_code 45 = .ok (.aload_n 0, 1) := by decide +kernel
theorem d_Md_cross_46 : decode prog_14_method_34_code 46 = .ok (.iload_n 1, 1) := by decide +kernel
theorem d_Md_cross_47 : decode prog_14_method_34_code 47 = .ok (.invokevirtual 195, 3) := by decide +kernel
theorem d_Md_cross_50 : decode prog_14_method_34_code 50 = .ok (.istore_n 2, 1) := by decide +kernel
theorem d_Md_cross_51 : decode prog_14_method_34_code 51 = .ok (.iload_n 2, 1) := by decide +kernel
theorem d_Md_cross_52 : decode prog_14_method_34_code 52 = .ok (.ifCond .ne 9, 3) := by decide +kernel
theorem d_Md_cross_55 : decode prog_14_method_34_code 55 = .ok (.iinc 1 1, 3) := by decide +kernel
theorem d_Md_cross_58 : decode prog_14_method_34_code 58 = .ok (.goto (-21), 3) := by decide +kernel
theorem d_Md_cross_61 : decode prog_14_method_34_code 61 = .ok (.aload_n 0, 1) := by decide +kernel
theorem d_Md_cross_62 : decode prog_14_method_34_code 62 = .ok (.getfield 70, 3) := by decide +kernel
theorem d_Md_cross_65 : decode prog_14_method_34_code 65 = .ok (.aload_n 0, 1) := by decide +kernel
theorem d_Md_cross_66 : decode prog_14_method_34_code 66 = .ok (.getfield 92, 3) := by decide +kernel
theorem d_Md_cross_69 : decode prog_14_method_34_code 69 = .ok (.iload_n 1, 1) := by decide +kernel
theorem d_Md_cross_70 : decode prog_14_method_34_code 70 = .ok (.iastore, 1) := by decide +kernel
theorem d_Md_cross_71 : decode prog_14_method_34_code 71 = .ok (.aload_n 0, 1) := by decide +kernel
theorem d_Md_cross_72 : decode prog_14_method_34_code 72 = .ok (.getfield 73, 3) := by decide +kernel
theorem d_Md_cross_75 : decode prog_14_method_34_code 75 = .ok (.aload_n 0, 1) := by decide +kernel
theorem d_Md_cross_76 : decode prog_14_method_34_code 76 = .ok (.getfield 92, 3) := by decide +kernel
theorem d_Md_cross_79 : decode prog_14_method_34_code 79 = .ok (.iload_n 2, 1) := by decide +kernel
theorem d_Md_cross_80 : decode prog_14_method_34_code 80 = .ok (.iastore, 1) := by decide +kernel
theorem d_Md_cross_81 : decode prog_14_method_34_code 81 = .ok (.aload_n 0, 1) := by decide +kernel
theorem d_Md_cross_82 : decode prog_14_method_34_code 82 = .ok (.dup, 1) := by decide +kernel
theorem d_Md_cross_83 : decode prog_14_method_34_code 83 = .ok (.getfield 92, 3) := by decide +kernel
theorem d_Md_cross_86 : decode prog_14_method_34_code 86 = .ok (.iconst 1, 1) := by decide +kernel
theorem d_Md_cross_87 : decode prog_14_method_34_code 87 = .ok (.iadd, 1) := by decide +kernel
theorem d_Md_cross_88 : decode prog_14_method_34_code 88 = .ok (.putfield 92, 3) := by decide +kernel
theorem d_Md_cross_91 : decode prog_14_method_34_code 91 = .ok (.iconst 0, 1) := by decide +kernel
theorem d_Md_cross_92 : decode prog_14_method_34_code 92 = .ok (.istore_n 1, 1) := by decide +kernel
theorem d_Md_cross_93 : decode prog_14_method_34_code 93 = .ok (.goto (-56), 3) := by decide +kernel
theorem d_Md_cross_96 : decode prog_14_method_34_code 96 = .ok (.aload_n 0, 1) := by decide +kernel
theorem d_Md_cross_97 : decode prog_14_method_34_code 97 = .ok (.getfield 92, 3) := by decide +kernel
theorem d_Md_cross_100 : decode prog_14_method_34_code 100 = .ok (.ireturn, 1) := by decide +kernel
theorem d_Md_crossBy_0 : decode prog_14_method_33_code 0 = .ok (.iconst 0, 1) := by decide +kernel
theorem d_Md_crossBy_1 : decode prog_14_method_33_code 1 = .ok (.istore_n 2, 1) := by decide +kernel
theorem d_Md_crossBy_2 : decode prog_14_method_33_code 2 = .ok (.iload_n 2, 1) := by decide +kernel
theorem d_Md_crossBy_3 : decode prog_14_method_33_code 3 = .ok (.bipush 12, 2) := by decide +kernel
theorem d_Md_crossBy_5 : decode prog_14_method_33_code 5 = .ok (.if_icmp .ge 16, 3) := by decide +kernel
theorem d_Md_crossBy_8 : decode prog_14_method_33_code 8 = .ok (.aload_n 0, 1) := by decide +kernel
theorem d_Md_crossBy_9 : decode prog_14_method_33_code 9 = .ok (.getfield 64, 3) := by decide +kernel
theorem d_Md_crossBy_12 : decode prog_14_method_33_code 12 = .ok (.iload_n 2, 1) := by decide +kernel
theorem d_Md_crossBy_13 : decode prog_14_method_33_code 13 = .ok (.iconst 0, 1) := by decide +kernel
theorem d_Md_crossBy_14 : decode prog_14_method_33_code 14 = .ok (.iastore, 1) := by decide +kernel
theorem d_Md_crossBy_15 : decode prog_14_method_33_code 15 = .ok (.iinc 2 1, 3) := by decide +kernel
theorem d_Md_crossBy_18 : decode prog_14_method_33_code 18 = .ok (.goto (-16), 3) := by decide +kernel
theorem d_Md_crossBy_21 : decode prog_14_method_33_code 21 = .ok (.iconst 0, 1) := by decide +kernel
theorem d_Md_crossBy_22 : decode prog_14_method_33_code 22 = .ok (.istore_n 2, 1) := by decide +kernel
theorem d_Md_crossBy_23 : decode prog_14_method_33_code 23 = .ok (.iload_n 2, 1) := by decide +kernel
theorem d_Md_crossBy_24 : decode prog_14_method_33_code 24 = .ok (.iconst 3, 1) := by decide +kernel
theorem d_Md_crossBy_25 : decode prog_14_method_33_code 25 = .ok (.if_icmp .ge 16, 3) := by decide +kernel
theorem d_Md_crossBy_28 : decode prog_14_method_33_code 28 = .ok (.aload_n 0, 1) := by decide +kernel
theorem d_Md_crossBy_29 : decode prog_14_method_33_code 29 = .ok (.getfield 67, 3) := by decide +kernel
theorem d_Md_crossBy_32 : decode prog_14_method_33_code 32 = .ok (.iload_n 2, 1) := by decide +kernel
theorem d_Md_crossBy_33 : decode prog_14_method_33_code 33 = .ok (.iconst 0, 1) := by decide +kernel
theorem d_Md_crossBy_34 : decode prog_14_method_33_code 34 = .ok (.iastore, 1) := by decide +kernel
theorem d_Md_crossBy_35 : decode prog_14_method_33_code 35 = .ok (.iinc 2 1, 3) := by decide +kernel
theorem d_Md_crossBy_38 : decode prog_14_method_33_code 38 = .ok (.goto (-15), 3) := by decide +kernel
theorem d_Md_crossBy_41 : decode prog_14_method_33_code 41 = .ok (.iconst 0, 1) := by decide +kernel
theorem d_Md_crossBy_42 : decode prog_14_method_33_code 42 = .ok (.istore_n 2, 1) := by decide +kernel
theorem d_Md_crossBy_43 : decode prog_14_method_33_code 43 = .ok (.iload_n 2, 1) := by decide +kernel
theorem d_Md_crossBy_44 : decode prog_14_method_33_code 44 = .ok (.aload_n 0, 1) := by decide +kernel
theorem d_Md_crossBy_45 : decode prog_14_method_33_code 45 = .ok (.invokevirtual 163, 3) := by decide +kernel
theorem d_Md_crossBy_48 : decode prog_14_method_33_code 48 = .ok (.if_icmp .ge 143, 3) := by decide +kernel
theorem d_Md_crossBy_51 : decode prog_14_method_33_code 51 = .ok (.aload_n 0, 1) := by decide +kernel
theorem d_Md_crossBy_52 : decode prog_14_method_33_code 52 = .ok (.getfield 48, 3) := by decide +kernel
theorem d_Md_crossBy_55 : decode prog_14_method_33_code 55 = .ok (.iload_n 2, 1) := by decide +kernel
theorem d_Md_crossBy_56 : decode prog_14_method_33_code 56 = .ok (.iaload, 1) := by decide +kernel
theorem d_Md_crossBy_57 : decode prog_14_method_33_code 57 = .ok (.iload_n 1, 1) := by decide +kernel
theorem d_Md_crossBy_58 : decode prog_14_method_33_code 58 = .ok (.ishr, 1) := by decide +kernel
theorem d_Md_crossBy_59 : decode prog_14_method_33_code 59 = .ok (.iconst 1, 1) := by decide +kernel
theorem d_Md_crossBy_60 : decode prog_14_method_33_code 60 = .ok (.iand, 1) := by decide +kernel
theorem d_Md_crossBy_61 : decode prog_14_method_33_code 61 = .ok (.ifCond .eq 124, 3) := by decide +kernel
theorem d_Md_crossBy_64 : decode prog_14_method_33_code 64 = .ok (.aload_n 0, 1) := by decide +kernel
theorem d_Md_crossBy_65 : decode prog_14_method_33_code 65 = .ok (.iload_n 2, 1) := by decide +kernel
theorem d_Md_crossBy_66 : decode prog_14_method_33_code 66 = .ok (.invokevirtual 189, 3) := by decide +kernel
theorem d_Md_crossBy_69 : decode prog_14_method_33_code 69 = .ok (.ifCond .ne 6, 3) := by decide +kernel
theorem d_Md_crossBy_72 : decode prog_14_method_33_code 72 = .ok (.goto 113, 3) := by decide +kernel
theorem d_Md_crossBy_75 : decode prog_14_method_33_code 75 = .ok (.iconst 0, 1) := by decide +kernel
theorem d_Md_crossBy_76 : decode prog_14_method_33_code 76 = .ok (.istore_n 3, 1) := by decide +kernel
theorem d_Md_crossBy_77 : decode prog_14_method_33_code 77 = .ok (.iload_n 3, 1) := by decide +kernel
theorem d_Md_crossBy_78 : decode prog_14_method_33_code 78 = .ok (.aload_n 0, 1) := by decide +kernel
theorem d_Md_crossBy_79 : decode prog_14_method_33_code 79 = .ok (.getfield 138, 3) := by decide +kernel
theorem d_Md_crossBy_82 : decode prog_14_method_33_code 82 = .ok (.if_icmp .ge 60, 3) := by decide +kernel
theorem d_Md_crossBy_85 : decode prog_14_method_33_code 85 = .ok (.iconst 0, 1) := by decide +kernel
theorem d_Md_crossBy_86 : decode prog_14_method_33_code 86 = .ok (.istore 4, 2) := by decide +kernel
theorem d_Md_crossBy_88 : decode prog_14_method_33_code 88 = .ok (.iload 4, 2) := by decide +kernel
theorem d_Md_crossBy_90 : decode prog_14_method_33_code 90 = .ok (.aload_n 0, 1) := by decide +kernel
theorem d_Md_crossBy_91 : decode prog_14_method_33_code 91 = .ok (.getfield 13, 3) := by decide +kernel
theorem d_Md_crossBy_94 : decode prog_14_method_33_code 94 = .ok (.if_icmp .ge 42, 3) := by decide +kernel
theorem d_Md_crossBy_97 : decode prog_14_method_33_code 97 = .ok (.aload_n 0, 1) := by decide +kernel
theorem d_Md_crossBy_98 : decode prog_14_method_33_code 98 = .ok (.getfield 64, 3) := by decide +kernel
theorem d_Md_crossBy_101 : decode prog_14_method_33_code 101 = .ok (.iconst 4, 1) := by decide +kernel
theorem d_Md_crossBy_102 : decode prog_14_method_33_code 102 = .ok (.iload_n 3, 1) := by decide +kernel
theorem d_Md_crossBy_103 : decode prog_14_method_33_code 103 = .ok (.imul, 1) := by decide +kernel
theorem d_Md_crossBy_104 : decode prog_14_method_33_code 104 = .ok (.iload 4, 2) := by decide +kernel
theorem d_Md_crossBy_106 : decode prog_14_method_33_code 106 = .ok (.iadd, 1) := by decide +kernel
theorem d_Md_crossBy_107 : decode prog_14_method_33_code 107 = .ok (.aload_n 0, 1) := by decide +kernel
theorem d_Md_crossBy_108 : decode prog_14_method_33_code 108 = .ok (.getfield 64, 3) := by decide +kernel
theorem d_Md_crossBy_111 : decode prog_14_method_33_code 111 = .ok (.iconst 4, 1) := by decide +kernel
theorem d_Md_crossBy_112 : decode prog_14_method_33_code 112 = .ok (.iload_n 3, 1) := by decide +kernel
theorem d_Md_crossBy_113 : decode prog_14_method_33_code 113 = .ok (.imul, 1) := by decide +kernel
theorem d_Md_crossBy_114 : decode prog_14_method_33_code 114 = .ok (.iload 4, 2) := by decide +kernel
theorem d_Md_crossBy_116 : decode prog_14_method_33_code 116 = .ok (.iadd, 1) := by decide +kernel
theorem d_Md_crossBy_117 : decode prog_14_method_33_code 117 = .ok (.iaload, 1) := by decide +kernel
theorem d_Md_crossBy_118 : decode prog_14_method_33_code 118 = .ok (.iconst 1, 1) := by decide +kernel
theorem d_Md_crossBy_119 : decode prog_14_method_33_code 119 = .ok (.aload_n 0, 1) := by decide +kernel
theorem d_Md_crossBy_120 : decode prog_14_method_33_code 120 = .ok (.iload_n 2, 1) := by decide +kernel
theorem d_Md_crossBy_121 : decode prog_14_method_33_code 121 = .ok (.iload 4, 2) := by decide +kernel
theorem d_Md_crossBy_123 : decode prog_14_method_33_code 123 = .ok (.iload_n 3, 1) := by decide +kernel
theorem d_Md_crossBy_124 : decode prog_14_method_33_code 124 = .ok (.invokevirtual 182, 3) := by decide +kernel
theorem d_Md_crossBy_127 : decode prog_14_method_33_code 127 = .ok (.ishl, 1) := by decide +kernel
theorem d_Md_crossBy_128 : decode prog_14_method_33_code 128 = .ok (.ior, 1) := by decide +kernel
theorem d_Md_crossBy_129 : decode prog_14_method_33_code 129 = .ok (.iastore, 1) := by decide +kernel
theorem d_Md_crossBy_130 : decode prog_14_method_33_code 130 = .ok (.iinc 4 1, 3) := by decide +kernel
theorem d_Md_crossBy_133 : decode prog_14_method_33_code 133 = .ok (.goto (-45), 3) := by decide +kernel
theorem d_Md_crossBy_136 : decode prog_14_method_33_code 136 = .ok (.iinc 3 1, 3) := by decide +kernel
theorem d_Md_crossBy_139 : decode prog_14_method_33_code 139 = .ok (.goto (-62), 3) := by decide +kernel
theorem d_Md_crossBy_142 : decode prog_14_method_33_code 142 = .ok (.iconst 0, 1) := by decide +kernel
theorem d_Md_crossBy_143 : decode prog_14_method_33_code 143 = .ok (.istore_n 3, 1) := by decide +kernel
theorem d_Md_crossBy_144 : decode prog_14_method_33_code 144 = .ok (.iload_n 3, 1) := by decide +kernel
theorem d_Md_crossBy_145 : decode prog_14_method_33_code 145 = .ok (.aload_n 0, 1) := by decide +kernel
theorem d_Md_crossBy_146 : decode prog_14_method_33_code 146 = .ok (.getfield 141, 3) := by decide +kernel
theorem d_Md_crossBy_149 : decode prog_14_method_33_code 149 = .ok (.if_icmp .ge 36, 3) := by decide +kernel
theorem d_Md_crossBy_152 : decode prog_14_method_33_code 152 = .ok (.aload_n 0, 1) := by decide +kernel
theorem d_Md_crossBy_153 : decode prog_14_method_33_code 153 = .ok (.getfield 67, 3) := by decide +kernel
theorem d_Md_crossBy_156 : decode prog_14_method_33_code 156 = .ok (.iload_n 3, 1) := by decide +kernel
theorem d_Md_crossBy_157 : decode prog_14_method_33_code 157 = .ok (.aload_n 0, 1) := by decide +kernel
theorem d_Md_crossBy_158 : decode prog_14_method_33_code 158 = .ok (.getfield 67, 3) := by decide +kernel
theorem d_Md_crossBy_161 : decode prog_14_method_33_code 161 = .ok (.iload_n 3, 1) := by decide +kernel
theorem d_Md_crossBy_162 : decode prog_14_method_33_code 162 = .ok (.iaload, 1) := by decide +kernel
theorem d_Md_crossBy_163 : decode prog_14_method_33_code 163 = .ok (.aload_n 0, 1) := by decide +kernel
theorem d_Md_crossBy_164 : decode prog_14_method_33_code 164 = .ok (.iload_n 2, 1) := by decide +kernel
theorem d_Md_crossBy_165 : decode prog_14_method_33_code 165 = .ok (.iload_n 3, 1) := by decide +kernel
theorem d_Md_crossBy_166 : decode prog_14_method_33_code 166 = .ok (.invokevirtual 156, 3) := by decide +kernel
theorem d_Md_crossBy_169 : decode prog_14_method_33_code 169 = .ok (.ifCond .eq 7, 3) := by decide +kernel
theorem d_Md_crossBy_172 : decode prog_14_method_33_code 172 = .ok (.iconst 2, 1) := by decide +kernel
theorem d_Md_crossBy_173 : decode prog_14_method_33_code 173 = .ok (.goto 4, 3) := by decide +kernel
theorem d_Md_crossBy_176 : decode prog_14_method_33_code 176 = .ok (.iconst 1, 1) := by decide +kernel
theorem d_Md_crossBy_177 : decode prog_14_method_33_code 177 = .ok (.ior, 1) := by decide +kernel
theorem d_Md_crossBy_178 : decode prog_14_method_33_code 178 = .ok (.iastore, 1) := by decide +kernel
theorem d_Md_crossBy_179 : decode prog_14_method_33_code 179 = .ok (.iinc 3 1, 3) := by decide +kernel
theorem d_Md_crossBy_182 : decode prog_14_method_33_code 182 = .ok (.goto (-38), 3) := by decide +kernel
theorem d_Md_crossBy_185 : decode prog_14_method_33_code 185 = .ok (.iinc 2 1, 3) := by decide +kernel
theorem d_Md_crossBy_188 : decode prog_14_method_33_code 188 = .ok (.goto (-145), 3) := by decide +kernel
theorem d_Md_crossBy_191 : decode prog_14_method_33_code 191 = .ok (.iconst 0, 1) := by decide +kernel
theorem d_Md_crossBy_192 : decode prog_14_method_33_code 192 = .ok (.istore_n 2, 1) := by decide +kernel
theorem d_Md_crossBy_193 : decode prog_14_method_33_code 193 = .ok (.iconst 0, 1) := by decide +kernel
theorem d_Md_crossBy_194 : decode prog_14_method_33_code 194 = .ok (.istore_n 3, 1) := by decide +kernel
theorem d_Md_crossBy_195 : decode prog_14_method_33_code 195 = .ok (.iload_n 3, 1) := by decide +kernel
theorem d_Md_crossBy_196 : decode prog_14_method_33_code 196 = .ok (.aload_n 0, 1) := by decide +kernel
theorem d_Md_crossBy_197 : decode prog_14_method_33_code 197 = .ok (.getfield 138, 3) := by decide +kernel
theorem d_Md_crossBy_200 : decode prog_14_method_33_code 200 = .ok (.if_icmp .ge 92, 3) := by decide +kernel
theorem d_Md_crossBy_203 : decode prog_14_method_33_code 203 = .ok (.iconst 0, 1) := by decide +kernel
theorem d_Md_crossBy_204 : decode prog_14_method_33_code 204 = .ok (.istore 4, 2) := by decide +kernel
theorem d_Md_crossBy_206 : decode prog_14_method_33_code 206 = .ok (.iload 4, 2) := by decide +kernel
theorem d_Md_crossBy_208 : decode prog_14_method_33_code 208 = .ok (.aload_n 0, 1) := by decide +kernel
theorem d_Md_crossBy_209 : decode prog_14_method_33_code 209 = .ok (.getfield 13, 3) := by decide +kernel
theorem d_Md_crossBy_212 : decode prog_14_method_33_code 212 = .ok (.if_icmp .ge 74, 3) := by decide +kernel
theorem d_Md_crossBy_215 : decode prog_14_method_33_code 215 = .ok (.iload_n 2, 1) := by decide +kernel
theorem d_Md_crossBy_216 : decode prog_14_method_33_code 216 = .ok (.aload_n 0, 1) := by decide +kernel
theorem d_Md_crossBy_217 : decode prog_14_method_33_code 217 = .ok (.getfield 58, 3) := by decide +kernel
theorem d_Md_crossBy_220 : decode prog_14_method_33_code 220 = .ok (.iconst 4, 1) := by decide +kernel
theorem d_Md_crossBy_221 : decode prog_14_method_33_code 221 = .ok (.iload_n 3, 1) := by decide +kernel
theorem d_Md_crossBy_222 : decode prog_14_method_33_code 222 = .ok (.imul, 1) := by decide +kernel
theorem d_Md_crossBy_223 : decode prog_14_method_33_code 223 = .ok (.iload 4, 2) := by decide +kernel
theorem d_Md_crossBy_225 : decode prog_14_method_33_code 225 = .ok (.iadd, 1) := by decide +kernel
theorem d_Md_crossBy_226 : decode prog_14_method_33_code 226 = .ok (.iaload, 1) := by decide +kernel
theorem d_Md_crossBy_227 : decode prog_14_method_33_code 227 = .ok (.aload_n 0, 1) := by decide +kernel
theorem d_Md_crossBy_228 : decode prog_14_method_33_code 228 = .ok (.getfield 64, 3) := by decide +kernel
theorem d_Md_crossBy_231 : decode prog_14_method_33_code 231 = .ok (.iconst 4, 1) := by decide +kernel
theorem d_Md_crossBy_232 : decode prog_14_method_33_code 232 = .ok (.iload_n 3, 1) := by decide +kernel
theorem d_Md_crossBy_233 : decode prog_14_method_33_code 233 = .ok (.imul, 1) := by decide +kernel
theorem d_Md_crossBy_234 : decode prog_14_method_33_code 234 = .ok (.iload 4, 2) := by decide +kernel
theorem d_Md_crossBy_236 : decode prog_14_method_33_code 236 = .ok (.iadd, 1) := by decide +kernel
theorem d_Md_crossBy_237 : decode prog_14_method_33_code 237 = .ok (.iaload, 1) := by decide +kernel
theorem d_Md_crossBy_238 : decode prog_14_method_33_code 238 = .ok (.iconst (-1), 1) := by decide +kernel
theorem d_Md_crossBy_239 : decode prog_14_method_33_code 239 = .ok (.ixor, 1) := by decide +kernel
theorem d_Md_crossBy_240 : decode prog_14_method_33_code 240 = .ok (.iand, 1) := by decide +kernel
theorem d_Md_crossBy_241 : decode prog_14_method_33_code 241 = .ok (.invokestatic 192, 3) := by decide +kernel
theorem d_Md_crossBy_244 : decode prog_14_method_33_code 244 = .ok (.iadd, 1) := by decide +kernel
theorem d_Md_crossBy_245 : decode prog_14_method_33_code 245 = .ok (.istore_n 2, 1) := by decide +kernel
theorem d_Md_crossBy_246 : decode prog_14_method_33_code 246 = .ok (.aload_n 0, 1) := by decide +kernel
theorem d_Md_crossBy_247 : decode prog_14_method_33_code 247 = .ok (.getfield 58, 3) := by decide +kernel
theorem d_Md_crossBy_250 : decode prog_14_method_33_code 250 = .ok (.iconst 4, 1) := by decide +kernel
theorem d_Md_crossBy_251 : decode prog_14_method_33_code 251 = .ok (.iload_n 3, 1) := by decide +kernel
theorem d_Md_crossBy_252 : decode prog_14_method_33_code 252 = .ok (.imul, 1) := by decide +kernel
theorem d_Md_crossBy_253 : decode prog_14_method_33_code 253 = .ok (.iload 4, 2) := by decide +kernel
theorem d_Md_crossBy_255 : decode prog_14_method_33_code 255 = .ok (.iadd, 1) := by decide +kernel
theorem d_Md_crossBy_256 : decode prog_14_method_33_code 256 = .ok (.aload_n 0, 1) := by decide +kernel
theorem d_Md_crossBy_257 : decode prog_14_method_33_code 257 = .ok (.getfield 58, 3) := by decide +kernel
theorem d_Md_crossBy_260 : decode prog_14_method_33_code 260 = .ok (.iconst 4, 1) := by decide +kernel
theorem d_Md_crossBy_261 : decode prog_14_method_33_code 261 = .ok (.iload_n 3, 1) := by decide +kernel
theorem d_Md_crossBy_262 : decode prog_14_method_33_code 262 = .ok (.imul, 1) := by decide +kernel
theorem d_Md_crossBy_263 : decode prog_14_method_33_code 263 = .ok (.iload 4, 2) := by decide +kernel
theorem d_Md_crossBy_265 : decode prog_14_method_33_code 265 = .ok (.iadd, 1) := by decide +kernel
theorem d_Md_crossBy_266 : decode prog_14_method_33_code 266 = .ok (.iaload, 1) := by decide +kernel
theorem d_Md_crossBy_267 : decode prog_14_method_33_code 267 = .ok (.aload_n 0, 1) := by decide +kernel
theorem d_Md_crossBy_268 : decode prog_14_method_33_code 268 = .ok (.getfield 64, 3) := by decide +kernel
theorem d_Md_crossBy_271 : decode prog_14_method_33_code 271 = .ok (.iconst 4, 1) := by decide +kernel
theorem d_Md_crossBy_272 : decode prog_14_method_33_code 272 = .ok (.iload_n 3, 1) := by decide +kernel
theorem d_Md_crossBy_273 : decode prog_14_method_33_code 273 = .ok (.imul, 1) := by decide +kernel
theorem d_Md_crossBy_274 : decode prog_14_method_33_code 274 = .ok (.iload 4, 2) := by decide +kernel
theorem d_Md_crossBy_276 : decode prog_14_method_33_code 276 = .ok (.iadd, 1) := by decide +kernel
theorem d_Md_crossBy_277 : decode prog_14_method_33_code 277 = .ok (.iaload, 1) := by decide +kernel
theorem d_Md_crossBy_278 : decode prog_14_method_33_code 278 = .ok (.iand, 1) := by decide +kernel
theorem d_Md_crossBy_279 : decode prog_14_method_33_code 279 = .ok (.iastore, 1) := by decide +kernel
theorem d_Md_crossBy_280 : decode prog_14_method_33_code 280 = .ok (.iinc 4 1, 3) := by decide +kernel
theorem d_Md_crossBy_283 : decode prog_14_method_33_code 283 = .ok (.goto (-77), 3) := by decide +kernel
theorem d_Md_crossBy_286 : decode prog_14_method_33_code 286 = .ok (.iinc 3 1, 3) := by decide +kernel
theorem d_Md_crossBy_289 : decode prog_14_method_33_code 289 = .ok (.goto (-94), 3) := by decide +kernel
theorem d_Md_crossBy_292 : decode prog_14_method_33_code 292 = .ok (.iconst 0, 1) := by decide +kernel
theorem d_Md_crossBy_293 : decode prog_14_method_33_code 293 = .ok (.istore_n 3, 1) := by decide +kernel
theorem d_Md_crossBy_294 : decode prog_14_method_33_code 294 = .ok (.iload_n 3, 1) := by decide +kernel
theorem d_Md_crossBy_295 : decode prog_14_method_33_code 295 = .ok (.aload_n 0, 1) := by decide +kernel
theorem d_Md_crossBy_296 : decode prog_14_method_33_code 296 = .ok (.getfield 141, 3) := by decide +kernel
theorem d_Md_crossBy_299 : decode prog_14_method_33_code 299 = .ok (.if_icmp .ge 49, 3) := by decide +kernel
theorem d_Md_crossBy_302 : decode prog_14_method_33_code 302 = .ok (.iload_n 2, 1) := by decide +kernel
theorem d_Md_crossBy_303 : decode prog_14_method_33_code 303 = .ok (.aload_n 0, 1) := by decide +kernel
theorem d_Md_crossBy_304 : decode prog_14_method_33_code 304 = .ok (.getfield 61, 3) := by decide +kernel
theorem d_Md_crossBy_307 : decode prog_14_method_33_code 307 = .ok (.iload_n 3, 1) := by decide +kernel
theorem d_Md_crossBy_308 : decode prog_14_method_33_code 308 = .ok (.iaload, 1) := by decide +kernel
theorem d_Md_crossBy_309 : decode prog_14_method_33_code 309 = .ok (.aload_n 0, 1) := by decide +kernel
theorem d_Md_crossBy_310 : decode prog_14_method_33_code 310 = .ok (.getfield 67, 3) := by decide +kernel
theorem d_Md_crossBy_313 : decode prog_14_method_33_code 313 = .ok (.iload_n 3, 1) := by decide +kernel
theorem d_Md_crossBy_314 : decode prog_14_method_33_code 314 = .ok (.iaload, 1) := by decide +kernel
theorem d_Md_crossBy_315 : decode prog_14_method_33_code 315 = .ok (.iconst (-1), 1) := by decide +kernel
theorem d_Md_crossBy_316 : decode prog_14_method_33_code 316 = .ok (.ixor, 1) := by decide +kernel
theorem d_Md_crossBy_317 : decode prog_14_method_33_code 317 = .ok (.iand, 1) := by decide +kernel
theorem d_Md_crossBy_318 : decode prog_14_method_33_code 318 = .ok (.invokestatic 192, 3) := by decide +kernel
theorem d_Md_crossBy_321 : decode prog_14_method_33_code 321 = .ok (.iadd, 1) := by decide +kernel
theorem d_Md_crossBy_322 : decode prog_14_method_33_code 322 = .ok (.istore_n 2, 1) := by decide +kernel
theorem d_Md_crossBy_323 : decode prog_14_method_33_code 323 = .ok (.aload_n 0, 1) := by decide +kernel
theorem d_Md_crossBy_324 : decode prog_14_method_33_code 324 = .ok (.getfield 61, 3) := by decide +kernel
theorem d_Md_crossBy_327 : decode prog_14_method_33_code 327 = .ok (.iload_n 3, 1) := by decide +kernel
theorem d_Md_crossBy_328 : decode prog_14_method_33_code 328 = .ok (.aload_n 0, 1) := by decide +kernel
theorem d_Md_crossBy_329 : decode prog_14_method_33_code 329 = .ok (.getfield 61, 3) := by decide +kernel
theorem d_Md_crossBy_332 : decode prog_14_method_33_code 332 = .ok (.iload_n 3, 1) := by decide +kernel
theorem d_Md_crossBy_333 : decode prog_14_method_33_code 333 = .ok (.iaload, 1) := by decide +kernel
theorem d_Md_crossBy_334 : decode prog_14_method_33_code 334 = .ok (.aload_n 0, 1) := by decide +kernel
theorem d_Md_crossBy_335 : decode prog_14_method_33_code 335 = .ok (.getfield 67, 3) := by decide +kernel
theorem d_Md_crossBy_338 : decode prog_14_method_33_code 338 = .ok (.iload_n 3, 1) := by decide +kernel
theorem d_Md_crossBy_339 : decode prog_14_method_33_code 339 = .ok (.iaload, 1) := by decide +kernel
theorem d_Md_crossBy_340 : decode prog_14_method_33_code 340 = .ok (.iand, 1) := by decide +kernel
theorem d_Md_crossBy_341 : decode prog_14_method_33_code 341 = .ok (.iastore, 1) := by decide +kernel
theorem d_Md_crossBy_342 : decode prog_14_method_33_code 342 = .ok (.iinc 3 1, 3) := by decide +kernel
theorem d_Md_crossBy_345 : decode prog_14_method_33_code 345 = .ok (.goto (-51), 3) := by decide +kernel
theorem d_Md_crossBy_348 : decode prog_14_method_33_code 348 = .ok (.iload_n 2, 1) := by decide +kernel
theorem d_Md_crossBy_349 : decode prog_14_method_33_code 349 = .ok (.ireturn, 1) := by decide +kernel
theorem d_Md_isOpen_0 : decode prog_14_method_31_code 0 = .ok (.iconst 0, 1) := by decide +kernel
theorem d_Md_isOpen_1 : decode prog_14_method_31_code 1 = .ok (.istore_n 2, 1) := by decide +kernel
theorem d_Md_isOpen_2 : decode prog_14_method_31_code 2 = .ok (.iload_n 2, 1) := by decide +kernel
theorem d_Md_isOpen_3 : decode prog_14_method_31_code 3 = .ok (.aload_n 0, 1) := by decide +kernel
theorem d_Md_isOpen_4 : decode prog_14_method_31_code 4 = .ok (.getfield 138, 3) := by decide +kernel
theorem d_Md_isOpen_7 : decode prog_14_method_31_code 7 = .ok (.if_icmp .ge 50, 3) := by decide +kernel
theorem d_Md_isOpen_10 : decode prog_14_method_31_code 10 = .ok (.iconst 0, 1) := by decide +kernel
theorem d_Md_isOpen_11 : decode prog_14_method_31_code 11 = .ok (.istore_n 3, 1) := by decide +kernel
theorem d_Md_isOpen_12 : decode prog_14_method_31_code 12 = .ok (.iload_n 3, 1) := by decide +kernel
theorem d_Md_isOpen_13 : decode prog_14_method_31_code 13 = .ok (.aload_n 0, 1) := by decide +kernel
theorem d_Md_isOpen_14 : decode prog_14_method_31_code 14 = .ok (.getfield 13, 3) := by decide +kernel
theorem d_Md_isOpen_17 : decode prog_14_method_31_code 17 = .ok (.if_icmp .ge 34, 3) := by decide +kernel
theorem d_Md_isOpen_20 : decode prog_14_method_31_code 20 = .ok (.aload_n 0, 1) := by decide +kernel
theorem d_Md_isOpen_21 : decode prog_14_method_31_code 21 = .ok (.getfield 58, 3) := by decide +kernel
theorem d_Md_isOpen_24 : decode prog_14_method_31_code 24 = .ok (.iconst 4, 1) := by decide +kernel
theorem d_Md_isOpen_25 : decode prog_14_method_31_code 25 = .ok (.iload_n 2, 1) := by decide +kernel
theorem d_Md_isOpen_26 : decode prog_14_method_31_code 26 = .ok (.imul, 1) := by decide +kernel
theorem d_Md_isOpen_27 : decode prog_14_method_31_code 27 = .ok (.iload_n 3, 1) := by decide +kernel
theorem d_Md_isOpen_28 : decode prog_14_method_31_code 28 = .ok (.iadd, 1) := by decide +kernel
theorem d_Md_isOpen_29 : decode prog_14_method_31_code 29 = .ok (.iaload, 1) := by decide +kernel
theorem d_Md_isOpen_30 : decode prog_14_method_31_code 30 = .ok (.aload_n 0, 1) := by decide +kernel
theorem d_Md_isOpen_31 : decode prog_14_method_31_code 31 = .ok (.iload_n 1, 1) := by decide +kernel
theorem d_Md_isOpen_32 : decode prog_14_method_31_code 32 = .ok (.iload_n 3, 1) := by decide +kernel
theorem d_Md_isOpen_33 : decode prog_14_method_31_code 33 = .ok (.iload_n 2, 1) := by decide +kernel
theorem d_Md_isOpen_34 : decode prog_14_method_31_code 34 = .ok (.invokevirtual 182, 3) := by decide +kernel
theorem d_Md_isOpen_37 : decode prog_14_method_31_code 37 = .ok (.ishr, 1) := by decide +kernel
theorem d_Md_isOpen_38 : decode prog_14_method_31_code 38 = .ok (.iconst 1, 1) := by decide +kernel
theorem d_Md_isOpen_39 : decode prog_14_method_31_code 39 = .ok (.iand, 1) := by decide +kernel
theorem d_Md_isOpen_40 : decode prog_14_method_31_code 40 = .ok (.ifCond .ne 5, 3) := by decide +kernel
theorem d_Md_isOpen_43 : decode prog_14_method_31_code 43 = .ok (.iconst 0, 1) := by decide +kernel
theorem d_Md_isOpen_44 : decode prog_14_method_31_code 44 = .ok (.ireturn, 1) := by decide +kernel
theorem d_Md_isOpen_45 : decode prog_14_method_31_code 45 = .ok (.iinc 3 1, 3) := by decide +kernel
theorem d_Md_isOpen_48 : decode prog_14_method_31_code 48 = .ok (.goto (-36), 3) := by decide +kernel
theorem d_Md_isOpen_51 : decode prog_14_method_31_code 51 = .ok (.iinc 2 1, 3) := by decide +kernel
theorem d_Md_isOpen_54 : decode prog_14_method_31_code 54 = .ok (.goto (-52), 3) := by decide +kernel
theorem d_Md_isOpen_57 : decode prog_14_method_31_code 57 = .ok (.iconst 0, 1) := by decide +kernel
theorem d_Md_isOpen_58 : decode prog_14_method_31_code 58 = .ok (.istore_n 2, 1) := by decide +kernel
theorem d_Md_isOpen_59 : decode prog_14_method_31_code 59 = .ok (.iload_n 2, 1) := by decide +kernel
theorem d_Md_isOpen_60 : decode prog_14_method_31_code 60 = .ok (.aload_n 0, 1) := by decide +kernel
theorem d_Md_isOpen_61 : decode prog_14_method_31_code 61 = .ok (.getfield 141, 3) := by decide +kernel
theorem d_Md_isOpen_64 : decode prog_14_method_31_code 64 = .ok (.if_icmp .ge 37, 3) := by decide +kernel
theorem d_Md_isOpen_67 : decode prog_14_method_31_code 67 = .ok (.aload_n 0, 1) := by decide +kernel
theorem d_Md_isOpen_68 : decode prog_14_method_31_code 68 = .ok (.getfield 61, 3) := by decide +kernel
theorem d_Md_isOpen_71 : decode prog_14_method_31_code 71 = .ok (.iload_n 2, 1) := by decide +kernel
theorem d_Md_isOpen_72 : decode prog_14_method_31_code 72 = .ok (.iaload, 1) := by decide +kernel
theorem d_Md_isOpen_73 : decode prog_14_method_31_code 73 = .ok (.aload_n 0, 1) := by decide +kernel
theorem d_Md_isOpen_74 : decode prog_14_method_31_code 74 = .ok (.iload_n 1, 1) := by decide +kernel
theorem d_Md_isOpen_75 : decode prog_14_method_31_code 75 = .ok (.iload_n 2, 1) := by decide +kernel
theorem d_Md_isOpen_76 : decode prog_14_method_31_code 76 = .ok (.invokevirtual 156, 3) := by decide +kernel
theorem d_Md_isOpen_79 : decode prog_14_method_31_code 79 = .ok (.ifCond .eq 7, 3) := by decide +kernel
theorem d_Md_isOpen_82 : decode prog_14_method_31_code 82 = .ok (.iconst 1, 1) := by decide +kernel
theorem d_Md_isOpen_83 : decode prog_14_method_31_code 83 = .ok (.goto 4, 3) := by decide +kernel
theorem d_Md_isOpen_86 : decode prog_14_method_31_code 86 = .ok (.iconst 0, 1) := by decide +kernel
theorem d_Md_isOpen_87 : decode prog_14_method_31_code 87 = .ok (.ishr, 1) := by decide +kernel
theorem d_Md_isOpen_88 : decode prog_14_method_31_code 88 = .ok (.iconst 1, 1) := by decide +kernel
theorem d_Md_isOpen_89 : decode prog_14_method_31_code 89 = .ok (.iand, 1) := by decide +kernel
theorem d_Md_isOpen_90 : decode prog_14_method_31_code 90 = .ok (.ifCond .ne 5, 3) := by decide +kernel
theorem d_Md_isOpen_93 : decode prog_14_method_31_code 93 = .ok (.iconst 0, 1) := by decide +kernel
theorem d_Md_isOpen_94 : decode prog_14_method_31_code 94 = .ok (.ireturn, 1) := by decide +kernel
theorem d_Md_isOpen_95 : decode prog_14_method_31_code 95 = .ok (.iinc 2 1, 3) := by decide +kernel
theorem d_Md_isOpen_98 : decode prog_14_method_31_code 98 = .ok (.goto (-39), 3) := by decide +kernel
theorem d_Md_isOpen_101 : decode prog_14_method_31_code 101 = .ok (.iconst 1, 1) := by decide +kernel
theorem d_Md_isOpen_102 : decode prog_14_method_31_code 102 = .ok (.ireturn, 1) := by decide +kernel
theorem d_Md_countOf_0 : decode prog_14_method_32_code 0 = .ok (.iconst 0, 1) := by decide +kernel
theorem d_Md_countOf_1 : decode prog_14_method_32_code 1 = .ok (.istore_n 1, 1) := by decide +kernel
theorem d_Md_countOf_2 : decode prog_14_method_32_code 2 = .ok (.iconst 0, 1) := by decide +kernel
theorem d_Md_countOf_3 : decode prog_14_method_32_code 3 = .ok (.istore_n 2, 1) := by decide +kernel
theorem d_Md_countOf_4 : decode prog_14_method_32_code 4 = .ok (.iload_n 2, 1) := by decide +kernel
theorem d_Md_countOf_5 : decode prog_14_method_32_code 5 = .ok (.iconst 4, 1) := by decide +kernel
theorem d_Md_countOf_6 : decode prog_14_method_32_code 6 = .ok (.if_icmp .ge 17, 3) := by decide +kernel
theorem d_Md_countOf_9 : decode prog_14_method_32_code 9 = .ok (.iload_n 1, 1) := by decide +kernel
theorem d_Md_countOf_10 : decode prog_14_method_32_code 10 = .ok (.iload_n 0, 1) := by decide +kernel
theorem d_Md_countOf_11 : decode prog_14_method_32_code 11 = .ok (.iload_n 2, 1) := by decide +kernel
theorem d_Md_countOf_12 : decode prog_14_method_32_code 12 = .ok (.ishr, 1) := by decide +kernel
theorem d_Md_countOf_13 : decode prog_14_method_32_code 13 = .ok (.iconst 1, 1) := by decide +kernel
theorem d_Md_countOf_14 : decode prog_14_method_32_code 14 = .ok (.iand, 1) := by decide +kernel
theorem d_Md_countOf_15 : decode prog_14_method_32_code 15 = .ok (.iadd, 1) := by decide +kernel
theorem d_Md_countOf_16 : decode prog_14_method_32_code 16 = .ok (.istore_n 1, 1) := by decide +kernel
theorem d_Md_countOf_17 : decode prog_14_method_32_code 17 = .ok (.iinc 2 1, 3) := by decide +kernel
theorem d_Md_countOf_20 : decode prog_14_method_32_code 20 = .ok (.goto (-16), 3) := by decide +kernel
theorem d_Md_countOf_23 : decode prog_14_method_32_code 23 = .ok (.iload_n 1, 1) := by decide +kernel
theorem d_Md_countOf_24 : decode prog_14_method_32_code 24 = .ok (.ireturn, 1) := by decide +kernel
theorem d_Md_step_0 : decode prog_14_method_35_code 0 = .ok (.aload_n 0, 1) := by decide +kernel
theorem d_Md_step_1 : decode prog_14_method_35_code 1 = .ok (.iconst 0, 1) := by decide +kernel
theorem d_Md_step_2 : decode prog_14_method_35_code 2 = .ok (.putfield 79, 3) := by decide +kernel
theorem d_Md_step_5 : decode prog_14_method_35_code 5 = .ok (.iload_n 1, 1) := by decide +kernel
theorem d_Md_step_6 : decode prog_14_method_35_code 6 = .ok (.ifCond .lt 11, 3) := by decide +kernel
theorem d_Md_step_9 : decode prog_14_method_35_code 9 = .ok (.iload_n 1, 1) := by decide +kernel
theorem d_Md_step_10 : decode prog_14_method_35_code 10 = .ok (.aload_n 0, 1) := by decide +kernel
theorem d_Md_step_11 : decode prog_14_method_35_code 11 = .ok (.getfield 92, 3) := by decide +kernel
theorem d_Md_step_14 : decode prog_14_method_35_code 14 = .ok (.if_icmp .lt 5, 3) := by decide +kernel
theorem d_Md_step_17 : decode prog_14_method_35_code 17 = .ok (.iconst (-1), 1) := by decide +kernel
theorem d_Md_step_18 : decode prog_14_method_35_code 18 = .ok (.ireturn, 1) := by decide +kernel
theorem d_Md_step_19 : decode prog_14_method_35_code 19 = .ok (.iload_n 2, 1) := by decide +kernel
theorem d_Md_step_20 : decode prog_14_method_35_code 20 = .ok (.ifCond .ne 12, 3) := by decide +kernel
theorem d_Md_step_23 : decode prog_14_method_35_code 23 = .ok (.aload_n 0, 1) := by decide +kernel
theorem d_Md_step_24 : decode prog_14_method_35_code 24 = .ok (.getfield 70, 3) := by decide +kernel
theorem d_Md_step_27 : decode prog_14_method_35_code 27 = .ok (.iload_n 1, 1) := by decide +kernel
theorem d_Md_step_28 : decode prog_14_method_35_code 28 = .ok (.iaload, 1) := by decide +kernel
theorem d_Md_step_29 : decode prog_14_method_35_code 29 = .ok (.goto 18, 3) := by decide +kernel
theorem d_Md_step_32 : decode prog_14_method_35_code 32 = .ok (.iload_n 2, 1) := by decide +kernel
theorem d_Md_step_33 : decode prog_14_method_35_code 33 = .ok (.iconst 1, 1) := by decide +kernel
theorem d_Md_step_34 : decode prog_14_method_35_code 34 = .ok (.if_icmp .ne 12, 3) := by decide +kernel
theorem d_Md_step_37 : decode prog_14_method_35_code 37 = .ok (.aload_n 0, 1) := by decide +kernel
theorem d_Md_step_38 : decode prog_14_method_35_code 38 = .ok (.getfield 73, 3) := by decide +kernel
theorem d_Md_step_41 : decode prog_14_method_35_code 41 = .ok (.iload_n 1, 1) := by decide +kernel
theorem d_Md_step_42 : decode prog_14_method_35_code 42 = .ok (.iaload, 1) := by decide +kernel
theorem d_Md_step_43 : decode prog_14_method_35_code 43 = .ok (.goto 4, 3) := by decide +kernel
theorem d_Md_step_46 : decode prog_14_method_35_code 46 = .ok (.iconst (-1), 1) := by decide +kernel
theorem d_Md_step_47 : decode prog_14_method_35_code 47 = .ok (.ireturn, 1) := by decide +kernel
theorem d_Md_may_0 : decode prog_14_method_36_code 0 = .ok (.aload_n 0, 1) := by decide +kernel
theorem d_Md_may_1 : decode prog_14_method_36_code 1 = .ok (.iconst 0, 1) := by decide +kernel
theorem d_Md_may_2 : decode prog_14_method_36_code 2 = .ok (.putfield 79, 3) := by decide +kernel
theorem d_Md_may_5 : decode prog_14_method_36_code 5 = .ok (.aload_n 0, 1) := by decide +kernel
theorem d_Md_may_6 : decode prog_14_method_36_code 6 = .ok (.iload_n 1, 1) := by decide +kernel
theorem d_Md_may_7 : decode prog_14_method_36_code 7 = .ok (.iload_n 2, 1) := by decide +kernel
theorem d_Md_may_8 : decode prog_14_method_36_code 8 = .ok (.invokevirtual 179, 3) := by decide +kernel
theorem d_Md_may_11 : decode prog_14_method_36_code 11 = .ok (.ifCond .eq 16, 3) := by decide +kernel
theorem d_Md_may_14 : decode prog_14_method_36_code 14 = .ok (.aload_n 0, 1) := by decide +kernel
theorem d_Md_may_15 : decode prog_14_method_36_code 15 = .ok (.getfield 58, 3) := by decide +kernel
theorem d_Md_may_18 : decode prog_14_method_36_code 18 = .ok (.iconst 4, 1) := by decide +kernel
theorem d_Md_may_19 : decode prog_14_method_36_code 19 = .ok (.iload_n 2, 1) := by decide +kernel
theorem d_Md_may_20 : decode prog_14_method_36_code 20 = .ok (.imul, 1) := by decide +kernel
theorem d_Md_may_21 : decode prog_14_method_36_code 21 = .ok (.iload_n 1, 1) := by decide +kernel
theorem d_Md_may_22 : decode prog_14_method_36_code 22 = .ok (.iadd, 1) := by decide +kernel
theorem d_Md_may_23 : decode prog_14_method_36_code 23 = .ok (.iaload, 1) := by decide +kernel
theorem d_Md_may_24 : decode prog_14_method_36_code 24 = .ok (.goto 4, 3) := by decide +kernel
theorem d_Md_may_27 : decode prog_14_method_36_code 27 = .ok (.iconst (-1), 1) := by decide +kernel
theorem d_Md_may_28 : decode prog_14_method_36_code 28 = .ok (.ireturn, 1) := by decide +kernel
theorem d_Md_mayBe_0 : decode prog_14_method_37_code 0 = .ok (.aload_n 0, 1) := by decide +kernel
theorem d_Md_mayBe_1 : decode prog_14_method_37_code 1 = .ok (.iconst 0, 1) := by decide +kernel
theorem d_Md_mayBe_2 : decode prog_14_method_37_code 2 = .ok (.putfield 79, 3) := by decide +kernel
theorem d_Md_mayBe_5 : decode prog_14_method_37_code 5 = .ok (.aload_n 0, 1) := by decide +kernel
theorem d_Md_mayBe_6 : decode prog_14_method_37_code 6 = .ok (.iload_n 1, 1) := by decide +kernel
theorem d_Md_mayBe_7 : decode prog_14_method_37_code 7 = .ok (.invokevirtual 186, 3) := by decide +kernel
theorem d_Md_mayBe_10 : decode prog_14_method_37_code 10 = .ok (.ifCond .eq 12, 3) := by decide +kernel
theorem d_Md_mayBe_13 : decode prog_14_method_37_code 13 = .ok (.aload_n 0, 1) := by decide +kernel
theorem d_Md_mayBe_14 : decode prog_14_method_37_code 14 = .ok (.getfield 61, 3) := by decide +kernel
theorem d_Md_mayBe_17 : decode prog_14_method_37_code 17 = .ok (.iload_n 1, 1) := by decide +kernel
theorem d_Md_mayBe_18 : decode prog_14_method_37_code 18 = .ok (.iaload, 1) := by decide +kernel
theorem d_Md_mayBe_19 : decode prog_14_method_37_code 19 = .ok (.goto 4, 3) := by decide +kernel
theorem d_Md_mayBe_22 : decode prog_14_method_37_code 22 = .ok (.iconst (-1), 1) := by decide +kernel
theorem d_Md_mayBe_23 : decode prog_14_method_37_code 23 = .ok (.ireturn, 1) := by decide +kernel
