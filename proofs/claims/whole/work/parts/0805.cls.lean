/-! methods of the class: what each does is its function -/
theorem dX2_expression_0 : decode cX2_expression 0 = .ok (.aload_n 0, 1) := by decide +kernel
theorem dX2_expression_1 : decode cX2_expression 1 = .ok (.invokevirtual 194, 3) := by decide +kernel
theorem dX2_expression_4 : decode cX2_expression 4 = .ok (.iconst 0, 1) := by decide +kernel
theorem dX2_expression_5 : decode cX2_expression 5 = .ok (.istore_n 1, 1) := by decide +kernel
theorem dX2_expression_6 : decode cX2_expression 6 = .ok (.iload_n 1, 1) := by decide +kernel
theorem dX2_expression_7 : decode cX2_expression 7 = .ok (.aload_n 0, 1) := by decide +kernel
theorem dX2_expression_8 : decode cX2_expression 8 = .ok (.getfield 9, 3) := by decide +kernel
theorem dX2_expression_11 : decode cX2_expression 11 = .ok (.getfield 38, 3) := by decide +kernel
theorem dX2_expression_14 : decode cX2_expression 14 = .ok (.if_icmp .ge 51, 3) := by decide +kernel
theorem dX2_expression_17 : decode cX2_expression 17 = .ok (.aload_n 0, 1) := by decide +kernel
theorem dX2_expression_18 : decode cX2_expression 18 = .ok (.sipush 217, 3) := by decide +kernel
theorem dX2_expression_21 : decode cX2_expression 21 = .ok (.invokevirtual 126, 3) := by decide +kernel
theorem dX2_expression_24 : decode cX2_expression 24 = .ok (.ifCond .eq 41, 3) := by decide +kernel
theorem dX2_expression_27 : decode cX2_expression 27 = .ok (.aload_n 0, 1) := by decide +kernel
theorem dX2_expression_28 : decode cX2_expression 28 = .ok (.getfield 15, 3) := by decide +kernel
theorem dX2_expression_31 : decode cX2_expression 31 = .ok (.bipush 44, 2) := by decide +kernel
theorem dX2_expression_33 : decode cX2_expression 33 = .ok (.iconst 0, 1) := by decide +kernel
theorem dX2_expression_34 : decode cX2_expression 34 = .ok (.invokevirtual 176, 3) := by decide +kernel
theorem dX2_expression_37 : decode cX2_expression 37 = .ok (.istore_n 2, 1) := by decide +kernel
theorem dX2_expression_38 : decode cX2_expression 38 = .ok (.aload_n 0, 1) := by decide +kernel
theorem dX2_expression_39 : decode cX2_expression 39 = .ok (.invokevirtual 194, 3) := by decide +kernel
theorem dX2_expression_42 : decode cX2_expression 42 = .ok (.aload_n 0, 1) := by decide +kernel
theorem dX2_expression_43 : decode cX2_expression 43 = .ok (.getfield 15, 3) := by decide +kernel
theorem dX2_expression_46 : decode cX2_expression 46 = .ok (.bipush 7, 2) := by decide +kernel
theorem dX2_expression_48 : decode cX2_expression 48 = .ok (.invokevirtual 90, 3) := by decide +kernel
theorem dX2_expression_51 : decode cX2_expression 51 = .ok (.aload_n 0, 1) := by decide +kernel
theorem dX2_expression_52 : decode cX2_expression 52 = .ok (.getfield 15, 3) := by decide +kernel
theorem dX2_expression_55 : decode cX2_expression 55 = .ok (.iload_n 2, 1) := by decide +kernel
theorem dX2_expression_56 : decode cX2_expression 56 = .ok (.invokevirtual 188, 3) := by decide +kernel
theorem dX2_expression_59 : decode cX2_expression 59 = .ok (.iinc 1 1, 3) := by decide +kernel
theorem dX2_expression_62 : decode cX2_expression 62 = .ok (.goto (-56), 3) := by decide +kernel
theorem dX2_expression_65 : decode cX2_expression 65 = .ok (.return_, 1) := by decide +kernel
theorem dX2_both_0 : decode cX2_both 0 = .ok (.aload_n 0, 1) := by decide +kernel
theorem dX2_both_1 : decode cX2_both 1 = .ok (.invokevirtual 197, 3) := by decide +kernel
theorem dX2_both_4 : decode cX2_both 4 = .ok (.iconst 0, 1) := by decide +kernel
theorem dX2_both_5 : decode cX2_both 5 = .ok (.istore_n 1, 1) := by decide +kernel
theorem dX2_both_6 : decode cX2_both 6 = .ok (.iload_n 1, 1) := by decide +kernel
theorem dX2_both_7 : decode cX2_both 7 = .ok (.aload_n 0, 1) := by decide +kernel
theorem dX2_both_8 : decode cX2_both 8 = .ok (.getfield 9, 3) := by decide +kernel
theorem dX2_both_11 : decode cX2_both 11 = .ok (.getfield 38, 3) := by decide +kernel
theorem dX2_both_14 : decode cX2_both 14 = .ok (.if_icmp .ge 51, 3) := by decide +kernel
theorem dX2_both_17 : decode cX2_both 17 = .ok (.aload_n 0, 1) := by decide +kernel
theorem dX2_both_18 : decode cX2_both 18 = .ok (.sipush 216, 3) := by decide +kernel
theorem dX2_both_21 : decode cX2_both 21 = .ok (.invokevirtual 126, 3) := by decide +kernel
theorem dX2_both_24 : decode cX2_both 24 = .ok (.ifCond .eq 41, 3) := by decide +kernel
theorem dX2_both_27 : decode cX2_both 27 = .ok (.aload_n 0, 1) := by decide +kernel
theorem dX2_both_28 : decode cX2_both 28 = .ok (.getfield 15, 3) := by decide +kernel
theorem dX2_both_31 : decode cX2_both 31 = .ok (.bipush 43, 2) := by decide +kernel
theorem dX2_both_33 : decode cX2_both 33 = .ok (.iconst 0, 1) := by decide +kernel
theorem dX2_both_34 : decode cX2_both 34 = .ok (.invokevirtual 176, 3) := by decide +kernel
theorem dX2_both_37 : decode cX2_both 37 = .ok (.istore_n 2, 1) := by decide +kernel
theorem dX2_both_38 : decode cX2_both 38 = .ok (.aload_n 0, 1) := by decide +kernel
theorem dX2_both_39 : decode cX2_both 39 = .ok (.invokevirtual 197, 3) := by decide +kernel
theorem dX2_both_42 : decode cX2_both 42 = .ok (.aload_n 0, 1) := by decide +kernel
theorem dX2_both_43 : decode cX2_both 43 = .ok (.getfield 15, 3) := by decide +kernel
theorem dX2_both_46 : decode cX2_both 46 = .ok (.bipush 7, 2) := by decide +kernel
theorem dX2_both_48 : decode cX2_both 48 = .ok (.invokevirtual 90, 3) := by decide +kernel
theorem dX2_both_51 : decode cX2_both 51 = .ok (.aload_n 0, 1) := by decide +kernel
theorem dX2_both_52 : decode cX2_both 52 = .ok (.getfield 15, 3) := by decide +kernel
theorem dX2_both_55 : decode cX2_both 55 = .ok (.iload_n 2, 1) := by decide +kernel
theorem dX2_both_56 : decode cX2_both 56 = .ok (.invokevirtual 188, 3) := by decide +kernel
theorem dX2_both_59 : decode cX2_both 59 = .ok (.iinc 1 1, 3) := by decide +kernel
theorem dX2_both_62 : decode cX2_both 62 = .ok (.goto (-56), 3) := by decide +kernel
theorem dX2_both_65 : decode cX2_both 65 = .ok (.return_, 1) := by decide +kernel
theorem dX2_step_0 : decode cX2_step 0 = .ok (.aload_n 0, 1) := by decide +kernel
theorem dX2_step_1 : decode cX2_step 1 = .ok (.getfield 29, 3) := by decide +kernel
theorem dX2_step_4 : decode cX2_step 4 = .ok (.sipush 218, 3) := by decide +kernel
theorem dX2_step_7 : decode cX2_step 7 = .ok (.if_icmp .ne 31, 3) := by decide +kernel
theorem dX2_step_10 : decode cX2_step 10 = .ok (.aload_n 0, 1) := by decide +kernel
theorem dX2_step_11 : decode cX2_step 11 = .ok (.invokevirtual 117, 3) := by decide +kernel
theorem dX2_step_14 : decode cX2_step 14 = .ok (.aload_n 0, 1) := by decide +kernel
theorem dX2_step_15 : decode cX2_step 15 = .ok (.invokevirtual 197, 3) := by decide +kernel
theorem dX2_step_18 : decode cX2_step 18 = .ok (.aload_n 0, 1) := by decide +kernel
theorem dX2_step_19 : decode cX2_step 19 = .ok (.dup, 1) := by decide +kernel
theorem dX2_step_20 : decode cX2_step 20 = .ok (.getfield 32, 3) := by decide +kernel
theorem dX2_step_23 : decode cX2_step 23 = .ok (.iconst 1, 1) := by decide +kernel
theorem dX2_step_24 : decode cX2_step 24 = .ok (.isub, 1) := by decide +kernel
theorem dX2_step_25 : decode cX2_step 25 = .ok (.putfield 32, 3) := by decide +kernel
theorem dX2_step_28 : decode cX2_step 28 = .ok (.aload_n 0, 1) := by decide +kernel
theorem dX2_step_29 : decode cX2_step 29 = .ok (.getfield 15, 3) := by decide +kernel
theorem dX2_step_32 : decode cX2_step 32 = .ok (.bipush 8, 2) := by decide +kernel
theorem dX2_step_34 : decode cX2_step 34 = .ok (.invokevirtual 90, 3) := by decide +kernel
theorem dX2_step_37 : decode cX2_step 37 = .ok (.return_, 1) := by decide +kernel
theorem dX2_step_38 : decode cX2_step 38 = .ok (.aload_n 0, 1) := by decide +kernel
theorem dX2_step_39 : decode cX2_step 39 = .ok (.invokevirtual 200, 3) := by decide +kernel
theorem dX2_step_42 : decode cX2_step 42 = .ok (.aload_n 0, 1) := by decide +kernel
theorem dX2_step_43 : decode cX2_step 43 = .ok (.getfield 29, 3) := by decide +kernel
theorem dX2_step_46 : decode cX2_step 46 = .ok (.invokestatic 203, 3) := by decide +kernel
theorem dX2_step_49 : decode cX2_step 49 = .ok (.istore_n 1, 1) := by decide +kernel
theorem dX2_step_50 : decode cX2_step 50 = .ok (.iload_n 1, 1) := by decide +kernel
theorem dX2_step_51 : decode cX2_step 51 = .ok (.bipush 46, 2) := by decide +kernel
theorem dX2_step_53 : decode cX2_step 53 = .ok (.if_icmp .ne 15, 3) := by decide +kernel
theorem dX2_step_56 : decode cX2_step 56 = .ok (.aload_n 0, 1) := by decide +kernel
theorem dX2_step_57 : decode cX2_step 57 = .ok (.invokevirtual 107, 3) := by decide +kernel
theorem dX2_step_60 : decode cX2_step 60 = .ok (.aload_n 0, 1) := by decide +kernel
theorem dX2_step_61 : decode cX2_step 61 = .ok (.iload_n 1, 1) := by decide +kernel
theorem dX2_step_62 : decode cX2_step 62 = .ok (.invokevirtual 170, 3) := by decide +kernel
theorem dX2_step_65 : decode cX2_step 65 = .ok (.goto 24, 3) := by decide +kernel
theorem dX2_step_68 : decode cX2_step 68 = .ok (.iload_n 1, 1) := by decide +kernel
theorem dX2_step_69 : decode cX2_step 69 = .ok (.iconst (-1), 1) := by decide +kernel
theorem dX2_step_70 : decode cX2_step 70 = .ok (.if_icmp .eq 19, 3) := by decide +kernel
theorem dX2_step_73 : decode cX2_step 73 = .ok (.aload_n 0, 1) := by decide +kernel
theorem dX2_step_74 : decode cX2_step 74 = .ok (.invokevirtual 107, 3) := by decide +kernel
theorem dX2_step_77 : decode cX2_step 77 = .ok (.aload_n 0, 1) := by decide +kernel
theorem dX2_step_78 : decode cX2_step 78 = .ok (.invokevirtual 200, 3) := by decide +kernel
theorem dX2_step_81 : decode cX2_step 81 = .ok (.aload_n 0, 1) := by decide +kernel
theorem dX2_step_82 : decode cX2_step 82 = .ok (.getfield 15, 3) := by decide +kernel
theorem dX2_step_85 : decode cX2_step 85 = .ok (.iload_n 1, 1) := by decide +kernel
theorem dX2_step_86 : decode cX2_step 86 = .ok (.invokevirtual 90, 3) := by decide +kernel
theorem dX2_step_89 : decode cX2_step 89 = .ok (.return_, 1) := by decide +kernel
theorem dX2_sum_0 : decode cX2_sum 0 = .ok (.aload_n 0, 1) := by decide +kernel
theorem dX2_sum_1 : decode cX2_sum 1 = .ok (.invokevirtual 206, 3) := by decide +kernel
theorem dX2_sum_4 : decode cX2_sum 4 = .ok (.iconst 0, 1) := by decide +kernel
theorem dX2_sum_5 : decode cX2_sum 5 = .ok (.istore_n 1, 1) := by decide +kernel
theorem dX2_sum_6 : decode cX2_sum 6 = .ok (.iload_n 1, 1) := by decide +kernel
theorem dX2_sum_7 : decode cX2_sum 7 = .ok (.aload_n 0, 1) := by decide +kernel
theorem dX2_sum_8 : decode cX2_sum 8 = .ok (.getfield 9, 3) := by decide +kernel
theorem dX2_sum_11 : decode cX2_sum 11 = .ok (.getfield 38, 3) := by decide +kernel
theorem dX2_sum_14 : decode cX2_sum 14 = .ok (.if_icmp .ge 60, 3) := by decide +kernel
theorem dX2_sum_17 : decode cX2_sum 17 = .ok (.aload_n 0, 1) := by decide +kernel
theorem dX2_sum_18 : decode cX2_sum 18 = .ok (.getfield 29, 3) := by decide +kernel
theorem dX2_sum_21 : decode cX2_sum 21 = .ok (.bipush 43, 2) := by decide +kernel
theorem dX2_sum_23 : decode cX2_sum 23 = .ok (.if_icmp .eq 12, 3) := by decide +kernel
theorem dX2_sum_26 : decode cX2_sum 26 = .ok (.aload_n 0, 1) := by decide +kernel
theorem dX2_sum_27 : decode cX2_sum 27 = .ok (.getfield 29, 3) := by decide +kernel
theorem dX2_sum_30 : decode cX2_sum 30 = .ok (.bipush 45, 2) := by decide +kernel
theorem dX2_sum_32 : decode cX2_sum 32 = .ok (.if_icmp .ne 42, 3) := by decide +kernel
theorem dX2_sum_35 : decode cX2_sum 35 = .ok (.aload_n 0, 1) := by decide +kernel
theorem dX2_sum_36 : decode cX2_sum 36 = .ok (.getfield 29, 3) := by decide +kernel
theorem dX2_sum_39 : decode cX2_sum 39 = .ok (.bipush 43, 2) := by decide +kernel
theorem dX2_sum_41 : decode cX2_sum 41 = .ok (.if_icmp .ne 8, 3) := by decide +kernel
theorem dX2_sum_44 : decode cX2_sum 44 = .ok (.bipush 10, 2) := by decide +kernel
theorem dX2_sum_46 : decode cX2_sum 46 = .ok (.goto 5, 3) := by decide +kernel
theorem dX2_sum_49 : decode cX2_sum 49 = .ok (.bipush 11, 2) := by decide +kernel
theorem dX2_sum_51 : decode cX2_sum 51 = .ok (.istore_n 2, 1) := by decide +kernel
theorem dX2_sum_52 : decode cX2_sum 52 = .ok (.aload_n 0, 1) := by decide +kernel
theorem dX2_sum_53 : decode cX2_sum 53 = .ok (.invokevirtual 107, 3) := by decide +kernel
theorem dX2_sum_56 : decode cX2_sum 56 = .ok (.aload_n 0, 1) := by decide +kernel
theorem dX2_sum_57 : decode cX2_sum 57 = .ok (.invokevirtual 206, 3) := by decide +kernel
theorem dX2_sum_60 : decode cX2_sum 60 = .ok (.aload_n 0, 1) := by decide +kernel
theorem dX2_sum_61 : decode cX2_sum 61 = .ok (.getfield 15, 3) := by decide +kernel
theorem dX2_sum_64 : decode cX2_sum 64 = .ok (.iload_n 2, 1) := by decide +kernel
theorem dX2_sum_65 : decode cX2_sum 65 = .ok (.invokevirtual 90, 3) := by decide +kernel
theorem dX2_sum_68 : decode cX2_sum 68 = .ok (.iinc 1 1, 3) := by decide +kernel
theorem dX2_sum_71 : decode cX2_sum 71 = .ok (.goto (-65), 3) := by decide +kernel
theorem dX2_sum_74 : decode cX2_sum 74 = .ok (.return_, 1) := by decide +kernel
theorem dX2_term_0 : decode cX2_term 0 = .ok (.aload_n 0, 1) := by decide +kernel
theorem dX2_term_1 : decode cX2_term 1 = .ok (.invokevirtual 209, 3) := by decide +kernel
theorem dX2_term_4 : decode cX2_term 4 = .ok (.iconst 0, 1) := by decide +kernel
theorem dX2_term_5 : decode cX2_term 5 = .ok (.istore_n 1, 1) := by decide +kernel
theorem dX2_term_6 : decode cX2_term 6 = .ok (.iload_n 1, 1) := by decide +kernel
theorem dX2_term_7 : decode cX2_term 7 = .ok (.aload_n 0, 1) := by decide +kernel
theorem dX2_term_8 : decode cX2_term 8 = .ok (.getfield 9, 3) := by decide +kernel
theorem dX2_term_11 : decode cX2_term 11 = .ok (.getfield 38, 3) := by decide +kernel
theorem dX2_term_14 : decode cX2_term 14 = .ok (.if_icmp .ge 83, 3) := by decide +kernel
theorem dX2_term_17 : decode cX2_term 17 = .ok (.aload_n 0, 1) := by decide +kernel
theorem dX2_term_18 : decode cX2_term 18 = .ok (.getfield 29, 3) := by decide +kernel
theorem dX2_term_21 : decode cX2_term 21 = .ok (.bipush 42, 2) := by decide +kernel
theorem dX2_term_23 : decode cX2_term 23 = .ok (.if_icmp .eq 21, 3) := by decide +kernel
theorem dX2_term_26 : decode cX2_term 26 = .ok (.aload_n 0, 1) := by decide +kernel
theorem dX2_term_27 : decode cX2_term 27 = .ok (.getfield 29, 3) := by decide +kernel
theorem dX2_term_30 : decode cX2_term 30 = .ok (.bipush 47, 2) := by decide +kernel
theorem dX2_term_32 : decode cX2_term 32 = .ok (.if_icmp .eq 12, 3) := by decide +kernel
theorem dX2_term_35 : decode cX2_term 35 = .ok (.aload_n 0, 1) := by decide +kernel
theorem dX2_term_36 : decode cX2_term 36 = .ok (.getfield 29, 3) := by decide +kernel
theorem dX2_term_39 : decode cX2_term 39 = .ok (.bipush 37, 2) := by decide +kernel
theorem dX2_term_41 : decode cX2_term 41 = .ok (.if_icmp .ne 56, 3) := by decide +kernel
theorem dX2_term_44 : decode cX2_term 44 = .ok (.aload_n 0, 1) := by decide +kernel
theorem dX2_term_45 : decode cX2_term 45 = .ok (.getfield 29, 3) := by decide +kernel
theorem dX2_term_48 : decode cX2_term 48 = .ok (.bipush 42, 2) := by decide +kernel
theorem dX2_term_50 : decode cX2_term 50 = .ok (.if_icmp .ne 8, 3) := by decide +kernel
theorem dX2_term_53 : decode cX2_term 53 = .ok (.bipush 12, 2) := by decide +kernel
theorem dX2_term_55 : decode cX2_term 55 = .ok (.goto 19, 3) := by decide +kernel
theorem dX2_term_58 : decode cX2_term 58 = .ok (.aload_n 0, 1) := by decide +kernel
theorem dX2_term_59 : decode cX2_term 59 = .ok (.getfield 29, 3) := by decide +kernel
theorem dX2_term_62 : decode cX2_term 62 = .ok (.bipush 47, 2) := by decide +kernel
theorem dX2_term_64 : decode cX2_term 64 = .ok (.if_icmp .ne 8, 3) := by decide +kernel
theorem dX2_term_67 : decode cX2_term 67 = .ok (.bipush 13, 2) := by decide +kernel
theorem dX2_term_69 : decode cX2_term 69 = .ok (.goto 5, 3) := by decide +kernel
theorem dX2_term_72 : decode cX2_term 72 = .ok (.bipush 14, 2) := by decide +kernel
theorem dX2_term_74 : decode cX2_term 74 = .ok (.istore_n 2, 1) := by decide +kernel
theorem dX2_term_75 : decode cX2_term 75 = .ok (.aload_n 0, 1) := by decide +kernel
theorem dX2_term_76 : decode cX2_term 76 = .ok (.invokevirtual 107, 3) := by decide +kernel
theorem dX2_term_79 : decode cX2_term 79 = .ok (.aload_n 0, 1) := by decide +kernel
theorem dX2_term_80 : decode cX2_term 80 = .ok (.invokevirtual 209, 3) := by decide +kernel
theorem dX2_term_83 : decode cX2_term 83 = .ok (.aload_n 0, 1) := by decide +kernel
theorem dX2_term_84 : decode cX2_term 84 = .ok (.getfield 15, 3) := by decide +kernel
theorem dX2_term_87 : decode cX2_term 87 = .ok (.iload_n 2, 1) := by decide +kernel
theorem dX2_term_88 : decode cX2_term 88 = .ok (.invokevirtual 90, 3) := by decide +kernel
theorem dX2_term_91 : decode cX2_term 91 = .ok (.iinc 1 1, 3) := by decide +kernel
theorem dX2_term_94 : decode cX2_term 94 = .ok (.goto (-88), 3) := by decide +kernel
theorem dX2_term_97 : decode cX2_term 97 = .ok (.return_, 1) := by decide +kernel
theorem dX2_factor_0 : decode cX2_factor 0 = .ok (.aload_n 0, 1) := by decide +kernel
theorem dX2_factor_1 : decode cX2_factor 1 = .ok (.getfield 29, 3) := by decide +kernel
theorem dX2_factor_4 : decode cX2_factor 4 = .ok (.bipush 45, 2) := by decide +kernel
theorem dX2_factor_6 : decode cX2_factor 6 = .ok (.if_icmp .ne 33, 3) := by decide +kernel
theorem dX2_factor_9 : decode cX2_factor 9 = .ok (.aload_n 0, 1) := by decide +kernel
theorem dX2_factor_10 : decode cX2_factor 10 = .ok (.invokevirtual 117, 3) := by decide +kernel
theorem dX2_factor_13 : decode cX2_factor 13 = .ok (.aload_n 0, 1) := by decide +kernel
theorem dX2_factor_14 : decode cX2_factor 14 = .ok (.invokevirtual 209, 3) := by decide +kernel
theorem dX2_factor_17 : decode cX2_factor 17 = .ok (.aload_n 0, 1) := by decide +kernel
theorem dX2_factor_18 : decode cX2_factor 18 = .ok (.dup, 1) := by decide +kernel
theorem dX2_factor_19 : decode cX2_factor 19 = .ok (.getfield 32, 3) := by decide +kernel
theorem dX2_factor_22 : decode cX2_factor 22 = .ok (.iconst 1, 1) := by decide +kernel
theorem dX2_factor_23 : decode cX2_factor 23 = .ok (.isub, 1) := by decide +kernel
theorem dX2_factor_24 : decode cX2_factor 24 = .ok (.putfield 32, 3) := by decide +kernel
theorem dX2_factor_27 : decode cX2_factor 27 = .ok (.aload_n 0, 1) := by decide +kernel
theorem dX2_factor_28 : decode cX2_factor 28 = .ok (.getfield 15, 3) := by decide +kernel
theorem dX2_factor_31 : decode cX2_factor 31 = .ok (.bipush 9, 2) := by decide +kernel
theorem dX2_factor_33 : decode cX2_factor 33 = .ok (.invokevirtual 90, 3) := by decide +kernel
theorem dX2_factor_36 : decode cX2_factor 36 = .ok (.goto 7, 3) := by decide +kernel
theorem dX2_factor_39 : decode cX2_factor 39 = .ok (.aload_n 0, 1) := by decide +kernel
theorem dX2_factor_40 : decode cX2_factor 40 = .ok (.invokevirtual 179, 3) := by decide +kernel
theorem dX2_factor_43 : decode cX2_factor 43 = .ok (.return_, 1) := by decide +kernel
theorem dX2_primary_0 : decode cX2_primary 0 = .ok (.aload_n 0, 1) := by decide +kernel
theorem dX2_primary_1 : decode cX2_primary 1 = .ok (.getfield 29, 3) := by decide +kernel
theorem dX2_primary_4 : decode cX2_primary 4 = .ok (.istore_n 1, 1) := by decide +kernel
theorem dX2_primary_5 : decode cX2_primary 5 = .ok (.aload_n 0, 1) := by decide +kernel
theorem dX2_primary_6 : decode cX2_primary 6 = .ok (.getfield 19, 3) := by decide +kernel
theorem dX2_primary_9 : decode cX2_primary 9 = .ok (.istore_n 2, 1) := by decide +kernel
theorem dX2_primary_10 : decode cX2_primary 10 = .ok (.iload_n 1, 1) := by decide +kernel
theorem dX2_primary_11 : decode cX2_primary 11 = .ok (.lookupswitch 287 #[(2, 122), (3, 97), (40, 184), (221, 251), (222, 251), (223, 251), (224, 251), (225, 229), (226, 229), (227, 229), (228, 211)], 97) := by decide +kernel
theorem dX2_primary_108 : decode cX2_primary 108 = .ok (.aload_n 0, 1) := by decide +kernel
theorem dX2_primary_109 : decode cX2_primary 109 = .ok (.invokevirtual 107, 3) := by decide +kernel
theorem dX2_primary_112 : decode cX2_primary 112 = .ok (.aload_n 0, 1) := by decide +kernel
theorem dX2_primary_113 : decode cX2_primary 113 = .ok (.getfield 15, 3) := by decide +kernel
theorem dX2_primary_116 : decode cX2_primary 116 = .ok (.bipush 33, 2) := by decide +kernel
theorem dX2_primary_118 : decode cX2_primary 118 = .ok (.aload_n 0, 1) := by decide +kernel
theorem dX2_primary_119 : decode cX2_primary 119 = .ok (.getfield 9, 3) := by decide +kernel
theorem dX2_primary_122 : decode cX2_primary 122 = .ok (.iload_n 2, 1) := by decide +kernel
theorem dX2_primary_123 : decode cX2_primary 123 = .ok (.invokevirtual 173, 3) := by decide +kernel
theorem dX2_primary_126 : decode cX2_primary 126 = .ok (.invokevirtual 176, 3) := by decide +kernel
theorem dX2_primary_129 : decode cX2_primary 129 = .ok (.pop, 1) := by decide +kernel
theorem dX2_primary_130 : decode cX2_primary 130 = .ok (.goto 173, 3) := by decide +kernel
theorem dX2_primary_133 : decode cX2_primary 133 = .ok (.aload_n 0, 1) := by decide +kernel
theorem dX2_primary_134 : decode cX2_primary 134 = .ok (.invokevirtual 107, 3) := by decide +kernel
theorem dX2_primary_137 : decode cX2_primary 137 = .ok (.aload_n 0, 1) := by decide +kernel
theorem dX2_primary_138 : decode cX2_primary 138 = .ok (.getfield 29, 3) := by decide +kernel
theorem dX2_primary_141 : decode cX2_primary 141 = .ok (.bipush 40, 2) := by decide +kernel
theorem dX2_primary_143 : decode cX2_primary 143 = .ok (.if_icmp .ne 11, 3) := by decide +kernel
theorem dX2_primary_146 : decode cX2_primary 146 = .ok (.aload_n 0, 1) := by decide +kernel
theorem dX2_primary_147 : decode cX2_primary 147 = .ok (.iload_n 2, 1) := by decide +kernel
theorem dX2_primary_148 : decode cX2_primary 148 = .ok (.invokevirtual 182, 3) := by decide +kernel
theorem dX2_primary_151 : decode cX2_primary 151 = .ok (.goto 152, 3) := by decide +kernel
theorem dX2_primary_154 : decode cX2_primary 154 = .ok (.aload_n 0, 1) := by decide +kernel
theorem dX2_primary_155 : decode cX2_primary 155 = .ok (.getfield 29, 3) := by decide +kernel
theorem dX2_primary_158 : decode cX2_primary 158 = .ok (.bipush 91, 2) := by decide +kernel
theorem dX2_primary_160 : decode cX2_primary 160 = .ok (.if_icmp .ne 21, 3) := by decide +kernel
theorem dX2_primary_163 : decode cX2_primary 163 = .ok (.aload_n 0, 1) := by decide +kernel
theorem dX2_primary_164 : decode cX2_primary 164 = .ok (.invokevirtual 185, 3) := by decide +kernel
theorem dX2_primary_167 : decode cX2_primary 167 = .ok (.aload_n 0, 1) := by decide +kernel
theorem dX2_primary_168 : decode cX2_primary 168 = .ok (.getfield 15, 3) := by decide +kernel
theorem dX2_primary_171 : decode cX2_primary 171 = .ok (.bipush 36, 2) := by decide +kernel
theorem dX2_primary_173 : decode cX2_primary 173 = .ok (.iload_n 2, 1) := by decide +kernel
theorem dX2_primary_174 : decode cX2_primary 174 = .ok (.invokevirtual 176, 3) := by decide +kernel
theorem dX2_primary_177 : decode cX2_primary 177 = .ok (.pop, 1) := by decide +kernel
theorem dX2_primary_178 : decode cX2_primary 178 = .ok (.goto 125, 3) := by decide +kernel
theorem dX2_primary_181 : decode cX2_primary 181 = .ok (.aload_n 0, 1) := by decide +kernel
theorem dX2_primary_182 : decode cX2_primary 182 = .ok (.getfield 15, 3) := by decide +kernel
theorem dX2_primary_185 : decode cX2_primary 185 = .ok (.bipush 49, 2) := by decide +kernel
theorem dX2_primary_187 : decode cX2_primary 187 = .ok (.iload_n 2, 1) := by decide +kernel
theorem dX2_primary_188 : decode cX2_primary 188 = .ok (.invokevirtual 176, 3) := by decide +kernel
theorem dX2_primary_191 : decode cX2_primary 191 = .ok (.pop, 1) := by decide +kernel
theorem dX2_primary_192 : decode cX2_primary 192 = .ok (.goto 111, 3) := by decide +kernel
theorem dX2_primary_195 : decode cX2_primary 195 = .ok (.aload_n 0, 1) := by decide +kernel
theorem dX2_primary_196 : decode cX2_primary 196 = .ok (.invokevirtual 117, 3) := by decide +kernel
theorem dX2_primary_199 : decode cX2_primary 199 = .ok (.aload_n 0, 1) := by decide +kernel
theorem dX2_primary_200 : decode cX2_primary 200 = .ok (.invokevirtual 167, 3) := by decide +kernel
theorem dX2_primary_203 : decode cX2_primary 203 = .ok (.aload_n 0, 1) := by decide +kernel
theorem dX2_primary_204 : decode cX2_primary 204 = .ok (.dup, 1) := by decide +kernel
theorem dX2_primary_205 : decode cX2_primary 205 = .ok (.getfield 32, 3) := by decide +kernel
theorem dX2_primary_208 : decode cX2_primary 208 = .ok (.iconst 1, 1) := by decide +kernel
theorem dX2_primary_209 : decode cX2_primary 209 = .ok (.isub, 1) := by decide +kernel
theorem dX2_primary_210 : decode cX2_primary 210 = .ok (.putfield 32, 3) := by decide +kernel
theorem dX2_primary_213 : decode cX2_primary 213 = .ok (.aload_n 0, 1) := by decide +kernel
theorem dX2_primary_214 : decode cX2_primary 214 = .ok (.bipush 41, 2) := by decide +kernel
theorem dX2_primary_216 : decode cX2_primary 216 = .ok (.invokevirtual 120, 3) := by decide +kernel
theorem dX2_primary_219 : decode cX2_primary 219 = .ok (.goto 84, 3) := by decide +kernel
theorem dX2_primary_222 : decode cX2_primary 222 = .ok (.aload_n 0, 1) := by decide +kernel
theorem dX2_primary_223 : decode cX2_primary 223 = .ok (.invokevirtual 107, 3) := by decide +kernel
theorem dX2_primary_226 : decode cX2_primary 226 = .ok (.aload_n 0, 1) := by decide +kernel
theorem dX2_primary_227 : decode cX2_primary 227 = .ok (.getfield 15, 3) := by decide +kernel
theorem dX2_primary_230 : decode cX2_primary 230 = .ok (.bipush 33, 2) := by decide +kernel
theorem dX2_primary_232 : decode cX2_primary 232 = .ok (.iconst 1, 1) := by decide +kernel
theorem dX2_primary_233 : decode cX2_primary 233 = .ok (.invokevirtual 176, 3) := by decide +kernel
theorem dX2_primary_236 : decode cX2_primary 236 = .ok (.pop, 1) := by decide +kernel
theorem dX2_primary_237 : decode cX2_primary 237 = .ok (.goto 66, 3) := by decide +kernel
theorem dX2_primary_240 : decode cX2_primary 240 = .ok (.aload_n 0, 1) := by decide +kernel
theorem dX2_primary_241 : decode cX2_primary 241 = .ok (.invokevirtual 107, 3) := by decide +kernel
theorem dX2_primary_244 : decode cX2_primary 244 = .ok (.aload_n 0, 1) := by decide +kernel
theorem dX2_primary_245 : decode cX2_primary 245 = .ok (.getfield 15, 3) := by decide +kernel
theorem dX2_primary_248 : decode cX2_primary 248 = .ok (.bipush 28, 2) := by decide +kernel
theorem dX2_primary_250 : decode cX2_primary 250 = .ok (.iload_n 1, 1) := by decide +kernel
theorem dX2_primary_251 : decode cX2_primary 251 = .ok (.iadd, 1) := by decide +kernel
theorem dX2_primary_252 : decode cX2_primary 252 = .ok (.sipush 225, 3) := by decide +kernel
theorem dX2_primary_255 : decode cX2_primary 255 = .ok (.isub, 1) := by decide +kernel
theorem dX2_primary_256 : decode cX2_primary 256 = .ok (.invokevirtual 90, 3) := by decide +kernel
theorem dX2_primary_259 : decode cX2_primary 259 = .ok (.goto 44, 3) := by decide +kernel
theorem dX2_primary_262 : decode cX2_primary 262 = .ok (.aload_n 0, 1) := by decide +kernel
theorem dX2_primary_263 : decode cX2_primary 263 = .ok (.invokevirtual 117, 3) := by decide +kernel
theorem dX2_primary_266 : decode cX2_primary 266 = .ok (.aload_n 0, 1) := by decide +kernel
theorem dX2_primary_267 : decode cX2_primary 267 = .ok (.invokevirtual 179, 3) := by decide +kernel
theorem dX2_primary_270 : decode cX2_primary 270 = .ok (.aload_n 0, 1) := by decide +kernel
theorem dX2_primary_271 : decode cX2_primary 271 = .ok (.dup, 1) := by decide +kernel
theorem dX2_primary_272 : decode cX2_primary 272 = .ok (.getfield 32, 3) := by decide +kernel
theorem dX2_primary_275 : decode cX2_primary 275 = .ok (.iconst 1, 1) := by decide +kernel
theorem dX2_primary_276 : decode cX2_primary 276 = .ok (.isub, 1) := by decide +kernel
theorem dX2_primary_277 : decode cX2_primary 277 = .ok (.putfield 32, 3) := by decide +kernel
theorem dX2_primary_280 : decode cX2_primary 280 = .ok (.aload_n 0, 1) := by decide +kernel
theorem dX2_primary_281 : decode cX2_primary 281 = .ok (.getfield 15, 3) := by decide +kernel
theorem dX2_primary_284 : decode cX2_primary 284 = .ok (.bipush 24, 2) := by decide +kernel
theorem dX2_primary_286 : decode cX2_primary 286 = .ok (.iload_n 1, 1) := by decide +kernel
theorem dX2_primary_287 : decode cX2_primary 287 = .ok (.iadd, 1) := by decide +kernel
theorem dX2_primary_288 : decode cX2_primary 288 = .ok (.sipush 221, 3) := by decide +kernel
theorem dX2_primary_291 : decode cX2_primary 291 = .ok (.isub, 1) := by decide +kernel
theorem dX2_primary_292 : decode cX2_primary 292 = .ok (.invokevirtual 90, 3) := by decide +kernel
theorem dX2_primary_295 : decode cX2_primary 295 = .ok (.goto 8, 3) := by decide +kernel
theorem dX2_primary_298 : decode cX2_primary 298 = .ok (.aload_n 0, 1) := by decide +kernel
theorem dX2_primary_299 : decode cX2_primary 299 = .ok (.iconst 2, 1) := by decide +kernel
theorem dX2_primary_300 : decode cX2_primary 300 = .ok (.invokevirtual 110, 3) := by decide +kernel
theorem dX2_primary_303 : decode cX2_primary 303 = .ok (.return_, 1) := by decide +kernel
theorem dX2_arguments_0 : decode cX2_arguments 0 = .ok (.iconst 0, 1) := by decide +kernel
theorem dX2_arguments_1 : decode cX2_arguments 1 = .ok (.istore_n 2, 1) := by decide +kernel
theorem dX2_arguments_2 : decode cX2_arguments 2 = .ok (.aload_n 0, 1) := by decide +kernel
theorem dX2_arguments_3 : decode cX2_arguments 3 = .ok (.invokevirtual 117, 3) := by decide +kernel
theorem dX2_arguments_6 : decode cX2_arguments 6 = .ok (.aload_n 0, 1) := by decide +kernel
theorem dX2_arguments_7 : decode cX2_arguments 7 = .ok (.getfield 29, 3) := by decide +kernel
theorem dX2_arguments_10 : decode cX2_arguments 10 = .ok (.bipush 41, 2) := by decide +kernel
theorem dX2_arguments_12 : decode cX2_arguments 12 = .ok (.if_icmp .eq 39, 3) := by decide +kernel
theorem dX2_arguments_15 : decode cX2_arguments 15 = .ok (.aload_n 0, 1) := by decide +kernel
theorem dX2_arguments_16 : decode cX2_arguments 16 = .ok (.invokevirtual 167, 3) := by decide +kernel
theorem dX2_arguments_19 : decode cX2_arguments 19 = .ok (.iconst 1, 1) := by decide +kernel
theorem dX2_arguments_20 : decode cX2_arguments 20 = .ok (.istore_n 2, 1) := by decide +kernel
theorem dX2_arguments_21 : decode cX2_arguments 21 = .ok (.iload_n 2, 1) := by decide +kernel
theorem dX2_arguments_22 : decode cX2_arguments 22 = .ok (.aload_n 0, 1) := by decide +kernel
theorem dX2_arguments_23 : decode cX2_arguments 23 = .ok (.getfield 9, 3) := by decide +kernel
theorem dX2_arguments_26 : decode cX2_arguments 26 = .ok (.getfield 38, 3) := by decide +kernel
theorem dX2_arguments_29 : decode cX2_arguments 29 = .ok (.if_icmp .ge 22, 3) := by decide +kernel
theorem dX2_arguments_32 : decode cX2_arguments 32 = .ok (.aload_n 0, 1) := by decide +kernel
theorem dX2_arguments_33 : decode cX2_arguments 33 = .ok (.bipush 44, 2) := by decide +kernel
theorem dX2_arguments_35 : decode cX2_arguments 35 = .ok (.invokevirtual 126, 3) := by decide +kernel
theorem dX2_arguments_38 : decode cX2_arguments 38 = .ok (.ifCond .eq 13, 3) := by decide +kernel
theorem dX2_arguments_41 : decode cX2_arguments 41 = .ok (.aload_n 0, 1) := by decide +kernel
theorem dX2_arguments_42 : decode cX2_arguments 42 = .ok (.invokevirtual 167, 3) := by decide +kernel
theorem dX2_arguments_45 : decode cX2_arguments 45 = .ok (.iinc 2 1, 3) := by decide +kernel
theorem dX2_arguments_48 : decode cX2_arguments 48 = .ok (.goto (-27), 3) := by decide +kernel
theorem dX2_arguments_51 : decode cX2_arguments 51 = .ok (.aload_n 0, 1) := by decide +kernel
theorem dX2_arguments_52 : decode cX2_arguments 52 = .ok (.dup, 1) := by decide +kernel
theorem dX2_arguments_53 : decode cX2_arguments 53 = .ok (.getfield 32, 3) := by decide +kernel
theorem dX2_arguments_56 : decode cX2_arguments 56 = .ok (.iconst 1, 1) := by decide +kernel
theorem dX2_arguments_57 : decode cX2_arguments 57 = .ok (.isub, 1) := by decide +kernel
theorem dX2_arguments_58 : decode cX2_arguments 58 = .ok (.putfield 32, 3) := by decide +kernel
theorem dX2_arguments_61 : decode cX2_arguments 61 = .ok (.aload_n 0, 1) := by decide +kernel
theorem dX2_arguments_62 : decode cX2_arguments 62 = .ok (.bipush 41, 2) := by decide +kernel
theorem dX2_arguments_64 : decode cX2_arguments 64 = .ok (.invokevirtual 120, 3) := by decide +kernel
theorem dX2_arguments_67 : decode cX2_arguments 67 = .ok (.aload_n 0, 1) := by decide +kernel
theorem dX2_arguments_68 : decode cX2_arguments 68 = .ok (.getfield 9, 3) := by decide +kernel
theorem dX2_arguments_71 : decode cX2_arguments 71 = .ok (.getfield 96, 3) := by decide +kernel
theorem dX2_arguments_74 : decode cX2_arguments 74 = .ok (.iload_n 1, 1) := by decide +kernel
theorem dX2_arguments_75 : decode cX2_arguments 75 = .ok (.iload_n 2, 1) := by decide +kernel
theorem dX2_arguments_76 : decode cX2_arguments 76 = .ok (.invokestatic 100, 3) := by decide +kernel
theorem dX2_arguments_79 : decode cX2_arguments 79 = .ok (.aload_n 0, 1) := by decide +kernel
theorem dX2_arguments_80 : decode cX2_arguments 80 = .ok (.getfield 15, 3) := by decide +kernel
theorem dX2_arguments_83 : decode cX2_arguments 83 = .ok (.bipush 40, 2) := by decide +kernel
theorem dX2_arguments_85 : decode cX2_arguments 85 = .ok (.iload_n 1, 1) := by decide +kernel
theorem dX2_arguments_86 : decode cX2_arguments 86 = .ok (.invokevirtual 176, 3) := by decide +kernel
theorem dX2_arguments_89 : decode cX2_arguments 89 = .ok (.pop, 1) := by decide +kernel
theorem dX2_arguments_90 : decode cX2_arguments 90 = .ok (.return_, 1) := by decide +kernel
theorem dX2_index_0 : decode cX2_index 0 = .ok (.aload_n 0, 1) := by decide +kernel
theorem dX2_index_1 : decode cX2_index 1 = .ok (.invokevirtual 117, 3) := by decide +kernel
theorem dX2_index_4 : decode cX2_index 4 = .ok (.aload_n 0, 1) := by decide +kernel
theorem dX2_index_5 : decode cX2_index 5 = .ok (.invokevirtual 167, 3) := by decide +kernel
theorem dX2_index_8 : decode cX2_index 8 = .ok (.aload_n 0, 1) := by decide +kernel
theorem dX2_index_9 : decode cX2_index 9 = .ok (.dup, 1) := by decide +kernel
theorem dX2_index_10 : decode cX2_index 10 = .ok (.getfield 32, 3) := by decide +kernel
theorem dX2_index_13 : decode cX2_index 13 = .ok (.iconst 1, 1) := by decide +kernel
theorem dX2_index_14 : decode cX2_index 14 = .ok (.isub, 1) := by decide +kernel
theorem dX2_index_15 : decode cX2_index 15 = .ok (.putfield 32, 3) := by decide +kernel
theorem dX2_index_18 : decode cX2_index 18 = .ok (.aload_n 0, 1) := by decide +kernel
theorem dX2_index_19 : decode cX2_index 19 = .ok (.bipush 93, 2) := by decide +kernel
theorem dX2_index_21 : decode cX2_index 21 = .ok (.invokevirtual 120, 3) := by decide +kernel
theorem dX2_index_24 : decode cX2_index 24 = .ok (.return_, 1) := by decide +kernel
def F_X2_expression (rec : HG)  (Γ : HS) : HR :=
  (rec 1 0 0 0 Γ).bind fun u_1 =>
  loopF (fun (again_4 : (Int32 × HS) → HR) (s_3 : Int32 × HS) => (
    if ((s_3.2 1).1 2) ≤ s_3.1 then (
      some (0, s_3.2)
    ) else (
      (F_X2_accept 217 s_3.2).bind fun u_10 =>
      if u_10.1 = 0 then (
        some (0, u_10.2)
      ) else (
        (F_X0_add_ 44 0 u_10.2).bind fun u_15 =>
        bnd (mrg (fun j => j == 5) u_10.2 u_15.2) fun σ_17 =>
        (rec 1 0 0 0 σ_17).bind fun u_19 =>
        (F_X0_add 7 u_19.2).bind fun u_21 =>
        bnd (mrg (fun j => j == 5) u_19.2 u_21.2) fun σ_23 =>
        (F_X0_aim u_15.1 σ_23).bind fun u_25 =>
        bnd (mrg (fun j => j == 5) σ_23 u_25.2) fun σ_27 =>
        bnd (s_3.1 + 1) fun (x_29 : Int32) =>
        again_4 (x_29, σ_27)
      )
    )
  )) FU (0, u_1.2)
set_option maxHeartbeats 4000000 in
set_option maxRecDepth 100000 in
theorem k_X2_expression_st (l : Launch) (dC : Nat → ClassId) (dI : Nat → Nat → Nat) (cB cC cI cJ cZ cP : ClassId) (oA : Nat → Nat) (rA : Nat → Nat → Nat) (d : Nat) (rec : HG) (hI0 : ∀ (sz : Nat)  (Γ : HS) (res : Int32 × HS), rec 0 0 0 0 Γ = some res → Met l yX2_expression (g_ws yX2_expression cX2_expression 3 none) ({ frames := 4 + d, cells := 0, slots := 0, locals := 102 + 22 * d }) (va_Pc [.ref (oA 2)] (g_B (dC, dI) [(cB, .byte), (cC, .char), (cI, .int), (cJ, .long), (cZ, .boolean), (cP, .object "StoryHouse$Play")] sz (b_g cB cC cI cJ cZ oA rA Γ ++ b_w cB cC cI cJ cZ oA rA Γ ++ b_c cB cC cI cJ cZ oA rA Γ) g_0)) (va_Qv (fun (_ : Unit) => True) (g_Bo (dC, dI) (va_A (b_g cB cC cI cJ cZ oA rA Γ ++ b_w cB cC cI cJ cZ oA rA Γ ++ b_c cB cC cI cJ cZ oA rA Γ) sz) (fun (_ : Unit) => (b_g cB cC cI cJ cZ oA rA res.2 ++ b_w cB cC cI cJ cZ oA rA res.2 ++ b_c cB cC cI cJ cZ oA rA res.2))) (va_A (b_g cB cC cI cJ cZ oA rA Γ ++ b_w cB cC cI cJ cZ oA rA Γ ++ b_c cB cC cI cJ cZ oA rA Γ) sz)) 0 0 (va_A (b_g cB cC cI cJ cZ oA rA Γ ++ b_w cB cC cI cJ cZ oA rA Γ ++ b_c cB cC cI cJ cZ oA rA Γ) sz)) (hI1 : ∀ (sz : Nat)  (Γ : HS) (res : Int32 × HS), rec 1 0 0 0 Γ = some res → Met l yX2_both (g_ws yX2_both cX2_both 3 none) ({ frames := 4 + d, cells := 0, slots := 0, locals := 102 + 22 * d }) (va_Pc [.ref (oA 2)] (g_B (dC, dI) [(cB, .byte), (cC, .char), (cI, .int), (cJ, .long), (cZ, .boolean), (cP, .object "StoryHouse$Play")] sz (b_g cB cC cI cJ cZ oA rA Γ ++ b_w cB cC cI cJ cZ oA rA Γ ++ b_c cB cC cI cJ cZ oA rA Γ) g_0)) (va_Qv (fun (_ : Unit) => True) (g_Bo (dC, dI) (va_A (b_g cB cC cI cJ cZ oA rA Γ ++ b_w cB cC cI cJ cZ oA rA Γ ++ b_c cB cC cI cJ cZ oA rA Γ) sz) (fun (_ : Unit) => (b_g cB cC cI cJ cZ oA rA res.2 ++ b_w cB cC cI cJ cZ oA rA res.2 ++ b_c cB cC cI cJ cZ oA rA res.2))) (va_A (b_g cB cC cI cJ cZ oA rA Γ ++ b_w cB cC cI cJ cZ oA rA Γ ++ b_c cB cC cI cJ cZ oA rA Γ) sz)) 0 0 (va_A (b_g cB cC cI cJ cZ oA rA Γ ++ b_w cB cC cI cJ cZ oA rA Γ ++ b_c cB cC cI cJ cZ oA rA Γ) sz)) (hI2 : ∀ (sz : Nat)  (Γ : HS) (res : Int32 × HS), rec 2 0 0 0 Γ = some res → Met l yX2_step (g_ws yX2_step cX2_step 2 none) ({ frames := 4 + d, cells := 0, slots := 0, locals := 102 + 22 * d }) (va_Pc [.ref (oA 2)] (g_B (dC, dI) [(cB, .byte), (cC, .char), (cI, .int), (cJ, .long), (cZ, .boolean), (cP, .object "StoryHouse$Play")] sz (b_g cB cC cI cJ cZ oA rA Γ ++ b_w cB cC cI cJ cZ oA rA Γ ++ b_c cB cC cI cJ cZ oA rA Γ) g_0)) (va_Qv (fun (_ : Unit) => True) (g_Bo (dC, dI) (va_A (b_g cB cC cI cJ cZ oA rA Γ ++ b_w cB cC cI cJ cZ oA rA Γ ++ b_c cB cC cI cJ cZ oA rA Γ) sz) (fun (_ : Unit) => (b_g cB cC cI cJ cZ oA rA res.2 ++ b_w cB cC cI cJ cZ oA rA res.2 ++ b_c cB cC cI cJ cZ oA rA res.2))) (va_A (b_g cB cC cI cJ cZ oA rA Γ ++ b_w cB cC cI cJ cZ oA rA Γ ++ b_c cB cC cI cJ cZ oA rA Γ) sz)) 0 0 (va_A (b_g cB cC cI cJ cZ oA rA Γ ++ b_w cB cC cI cJ cZ oA rA Γ ++ b_c cB cC cI cJ cZ oA rA Γ) sz)) (hI3 : ∀ (sz : Nat)  (Γ : HS) (res : Int32 × HS), rec 3 0 0 0 Γ = some res → Met l yX2_sum (g_ws yX2_sum cX2_sum 3 none) ({ frames := 4 + d, cells := 0, slots := 0, locals := 102 + 22 * d }) (va_Pc [.ref (oA 2)] (g_B (dC, dI) [(cB, .byte), (cC, .char), (cI, .int), (cJ, .long), (cZ, .boolean), (cP, .object "StoryHouse$Play")] sz (b_g cB cC cI cJ cZ oA rA Γ ++ b_w cB cC cI cJ cZ oA rA Γ ++ b_c cB cC cI cJ cZ oA rA Γ) g_0)) (va_Qv (fun (_ : Unit) => True) (g_Bo (dC, dI) (va_A (b_g cB cC cI cJ cZ oA rA Γ ++ b_w cB cC cI cJ cZ oA rA Γ ++ b_c cB cC cI cJ cZ oA rA Γ) sz) (fun (_ : Unit) => (b_g cB cC cI cJ cZ oA rA res.2 ++ b_w cB cC cI cJ cZ oA rA res.2 ++ b_c cB cC cI cJ cZ oA rA res.2))) (va_A (b_g cB cC cI cJ cZ oA rA Γ ++ b_w cB cC cI cJ cZ oA rA Γ ++ b_c cB cC cI cJ cZ oA rA Γ) sz)) 0 0 (va_A (b_g cB cC cI cJ cZ oA rA Γ ++ b_w cB cC cI cJ cZ oA rA Γ ++ b_c cB cC cI cJ cZ oA rA Γ) sz)) (hI4 : ∀ (sz : Nat)  (Γ : HS) (res : Int32 × HS), rec 4 0 0 0 Γ = some res → Met l yX2_term (g_ws yX2_term cX2_term 3 none) ({ frames := 4 + d, cells := 0, slots := 0, locals := 102 + 22 * d }) (va_Pc [.ref (oA 2)] (g_B (dC, dI) [(cB, .byte), (cC, .char), (cI, .int), (cJ, .long), (cZ, .boolean), (cP, .object "StoryHouse$Play")] sz (b_g cB cC cI cJ cZ oA rA Γ ++ b_w cB cC cI cJ cZ oA rA Γ ++ b_c cB cC cI cJ cZ oA rA Γ) g_0)) (va_Qv (fun (_ : Unit) => True) (g_Bo (dC, dI) (va_A (b_g cB cC cI cJ cZ oA rA Γ ++ b_w cB cC cI cJ cZ oA rA Γ ++ b_c cB cC cI cJ cZ oA rA Γ) sz) (fun (_ : Unit) => (b_g cB cC cI cJ cZ oA rA res.2 ++ b_w cB cC cI cJ cZ oA rA res.2 ++ b_c cB cC cI cJ cZ oA rA res.2))) (va_A (b_g cB cC cI cJ cZ oA rA Γ ++ b_w cB cC cI cJ cZ oA rA Γ ++ b_c cB cC cI cJ cZ oA rA Γ) sz)) 0 0 (va_A (b_g cB cC cI cJ cZ oA rA Γ ++ b_w cB cC cI cJ cZ oA rA Γ ++ b_c cB cC cI cJ cZ oA rA Γ) sz)) (hI5 : ∀ (sz : Nat)  (Γ : HS) (res : Int32 × HS), rec 5 0 0 0 Γ = some res → Met l yX2_factor (g_ws yX2_factor cX2_factor 1 none) ({ frames := 4 + d, cells := 0, slots := 0, locals := 102 + 22 * d }) (va_Pc [.ref (oA 2)] (g_B (dC, dI) [(cB, .byte), (cC, .char), (cI, .int), (cJ, .long), (cZ, .boolean), (cP, .object "StoryHouse$Play")] sz (b_g cB cC cI cJ cZ oA rA Γ ++ b_w cB cC cI cJ cZ oA rA Γ ++ b_c cB cC cI cJ cZ oA rA Γ) g_0)) (va_Qv (fun (_ : Unit) => True) (g_Bo (dC, dI) (va_A (b_g cB cC cI cJ cZ oA rA Γ ++ b_w cB cC cI cJ cZ oA rA Γ ++ b_c cB cC cI cJ cZ oA rA Γ) sz) (fun (_ : Unit) => (b_g cB cC cI cJ cZ oA rA res.2 ++ b_w cB cC cI cJ cZ oA rA res.2 ++ b_c cB cC cI cJ cZ oA rA res.2))) (va_A (b_g cB cC cI cJ cZ oA rA Γ ++ b_w cB cC cI cJ cZ oA rA Γ ++ b_c cB cC cI cJ cZ oA rA Γ) sz)) 0 0 (va_A (b_g cB cC cI cJ cZ oA rA Γ ++ b_w cB cC cI cJ cZ oA rA Γ ++ b_c cB cC cI cJ cZ oA rA Γ) sz)) (hI6 : ∀ (sz : Nat)  (Γ : HS) (res : Int32 × HS), rec 6 0 0 0 Γ = some res → Met l yX2_primary (g_ws yX2_primary cX2_primary 3 none) ({ frames := 4 + d, cells := 0, slots := 0, locals := 102 + 22 * d }) (va_Pc [.ref (oA 2)] (g_B (dC, dI) [(cB, .byte), (cC, .char), (cI, .int), (cJ, .long), (cZ, .boolean), (cP, .object "StoryHouse$Play")] sz (b_g cB cC cI cJ cZ oA rA Γ ++ b_w cB cC cI cJ cZ oA rA Γ ++ b_c cB cC cI cJ cZ oA rA Γ) g_0)) (va_Qv (fun (_ : Unit) => True) (g_Bo (dC, dI) (va_A (b_g cB cC cI cJ cZ oA rA Γ ++ b_w cB cC cI cJ cZ oA rA Γ ++ b_c cB cC cI cJ cZ oA rA Γ) sz) (fun (_ : Unit) => (b_g cB cC cI cJ cZ oA rA res.2 ++ b_w cB cC cI cJ cZ oA rA res.2 ++ b_c cB cC cI cJ cZ oA rA res.2))) (va_A (b_g cB cC cI cJ cZ oA rA Γ ++ b_w cB cC cI cJ cZ oA rA Γ ++ b_c cB cC cI cJ cZ oA rA Γ) sz)) 0 0 (va_A (b_g cB cC cI cJ cZ oA rA Γ ++ b_w cB cC cI cJ cZ oA rA Γ ++ b_c cB cC cI cJ cZ oA rA Γ) sz)) (hI7 : ∀ (sz : Nat) (p0 : Int32) (Γ : HS) (res : Int32 × HS), rec 7 p0 0 0 Γ = some res → Met l yX2_arguments (g_ws yX2_arguments cX2_arguments 3 none) ({ frames := 4 + d, cells := 0, slots := 0, locals := 102 + 22 * d }) (va_Pc [.ref (oA 2), .int p0] (g_B (dC, dI) [(cB, .byte), (cC, .char), (cI, .int), (cJ, .long), (cZ, .boolean), (cP, .object "StoryHouse$Play")] sz (b_g cB cC cI cJ cZ oA rA Γ ++ b_w cB cC cI cJ cZ oA rA Γ ++ b_c cB cC cI cJ cZ oA rA Γ) g_0)) (va_Qv (fun (_ : Unit) => True) (g_Bo (dC, dI) (va_A (b_g cB cC cI cJ cZ oA rA Γ ++ b_w cB cC cI cJ cZ oA rA Γ ++ b_c cB cC cI cJ cZ oA rA Γ) sz) (fun (_ : Unit) => (b_g cB cC cI cJ cZ oA rA res.2 ++ b_w cB cC cI cJ cZ oA rA res.2 ++ b_c cB cC cI cJ cZ oA rA res.2))) (va_A (b_g cB cC cI cJ cZ oA rA Γ ++ b_w cB cC cI cJ cZ oA rA Γ ++ b_c cB cC cI cJ cZ oA rA Γ) sz)) 0 0 (va_A (b_g cB cC cI cJ cZ oA rA Γ ++ b_w cB cC cI cJ cZ oA rA Γ ++ b_c cB cC cI cJ cZ oA rA Γ) sz)) (hI8 : ∀ (sz : Nat)  (Γ : HS) (res : Int32 × HS), rec 8 0 0 0 Γ = some res → Met l yX2_index (g_ws yX2_index cX2_index 1 none) ({ frames := 4 + d, cells := 0, slots := 0, locals := 102 + 22 * d }) (va_Pc [.ref (oA 2)] (g_B (dC, dI) [(cB, .byte), (cC, .char), (cI, .int), (cJ, .long), (cZ, .boolean), (cP, .object "StoryHouse$Play")] sz (b_g cB cC cI cJ cZ oA rA Γ ++ b_w cB cC cI cJ cZ oA rA Γ ++ b_c cB cC cI cJ cZ oA rA Γ) g_0)) (va_Qv (fun (_ : Unit) => True) (g_Bo (dC, dI) (va_A (b_g cB cC cI cJ cZ oA rA Γ ++ b_w cB cC cI cJ cZ oA rA Γ ++ b_c cB cC cI cJ cZ oA rA Γ) sz) (fun (_ : Unit) => (b_g cB cC cI cJ cZ oA rA res.2 ++ b_w cB cC cI cJ cZ oA rA res.2 ++ b_c cB cC cI cJ cZ oA rA res.2))) (va_A (b_g cB cC cI cJ cZ oA rA Γ ++ b_w cB cC cI cJ cZ oA rA Γ ++ b_c cB cC cI cJ cZ oA rA Γ) sz)) 0 0 (va_A (b_g cB cC cI cJ cZ oA rA Γ ++ b_w cB cC cI cJ cZ oA rA Γ ++ b_c cB cC cI cJ cZ oA rA Γ) sz)) (sz : Nat)   (Γ : HS) (res : Int32 × HS) (hF : F_X2_expression rec  Γ = some res) : Met l yX2_expression (g_ws yX2_expression cX2_expression 3 none) ({ frames := 4 + (d + 1), cells := 0, slots := 0, locals := 102 + 22 * (d + 1) }) (va_Pc [.ref (oA 2)] (g_B (dC, dI) [(cB, .byte), (cC, .char), (cI, .int), (cJ, .long), (cZ, .boolean), (cP, .object "StoryHouse$Play")] sz (b_g cB cC cI cJ cZ oA rA Γ ++ b_w cB cC cI cJ cZ oA rA Γ ++ b_c cB cC cI cJ cZ oA rA Γ) g_0)) (va_Qv (fun (_ : Unit) => True) (g_Bo (dC, dI) (va_A (b_g cB cC cI cJ cZ oA rA Γ ++ b_w cB cC cI cJ cZ oA rA Γ ++ b_c cB cC cI cJ cZ oA rA Γ) sz) (fun (_ : Unit) => (b_g cB cC cI cJ cZ oA rA res.2 ++ b_w cB cC cI cJ cZ oA rA res.2 ++ b_c cB cC cI cJ cZ oA rA res.2))) (va_A (b_g cB cC cI cJ cZ oA rA Γ ++ b_w cB cC cI cJ cZ oA rA Γ ++ b_c cB cC cI cJ cZ oA rA Γ) sz)) 0 0 (va_A (b_g cB cC cI cJ cZ oA rA Γ ++ b_w cB cC cI cJ cZ oA rA Γ ++ b_c cB cC cI cJ cZ oA rA Γ) sz) := by
  refine Met.ofW (cc := cX2_expression) (maxL := 3) (ret := none) (by decide) rfl ?_
  intro p e s m args below meth c s₁ B hml hv
  obtain ⟨rfl, hsz, hP, hK, hD0, hE, hX⟩ := hv
  have hx := B.exec
  have hb := B.bytes
  have hr := B.returns
  have hts0 := atoms_spec (ws := g_ws yX2_expression cX2_expression 3 none) B.pre
  have hts : ∀ w ∈ lw_good, w.before ([.ref (oA 2)] : List Value).toArray s = true := fun w z => hts0 w (List.mem_cons_of_mem _ z)
  have hown : s.vm.findClass RX2 = some m.cls := findClass_of_methodNamed B.named
  have hlocks := B.notSynchronized
  subst hsz
  have hD1 := hD0.self (sz := s.heap.size)
  generalize hAe : va_A (b_g cB cC cI cJ cZ oA rA Γ ++ b_w cB cC cI cJ cZ oA rA Γ ++ b_c cB cC cI cJ cZ oA rA Γ) s.heap.size = A at hD1 hE hX ⊢
  have hA : ∀ q : Nat, s.heap.size ≤ q → A q := fun q z => by rw [← hAe]; exact Or.inr z
  have hDD : ∀ Γ : HS, va_D A (b_g cB cC cI cJ cZ oA rA Γ ++ b_w cB cC cI cJ cZ oA rA Γ ++ b_c cB cC cI cJ cZ oA rA Γ) := fun Γ9 => va_D_fst (ws := (b_g cB cC cI cJ cZ oA rA Γ ++ b_w cB cC cI cJ cZ oA rA Γ ++ b_c cB cC cI cJ cZ oA rA Γ)) (ws' := (b_g cB cC cI cJ cZ oA rA Γ9 ++ b_w cB cC cI cJ cZ oA rA Γ9 ++ b_c cB cC cI cJ cZ oA rA Γ9)) rfl hD1
  have hN := hE.1
  have hS : va_S A s.heap s.heap [] := va_S.rf
  have hl := lv_entry ([.ref (oA 2)]) (n := 3) (Nat.le_of_ble_eq_true rfl)
  rw [lg_entry_eq]
  generalize (lg_sl ([.ref (oA 2)]) ++ List.replicate (3 - (lg_sl ([.ref (oA 2)])).length) Slot.unset).toArray = ls at hl ⊢
  have hl : lv_has ls 3 [(0, .ref (oA 2))] := hl
  unfold F_X2_expression at hF
  refine lv_aload_n hx hb dX2_expression_0 rfl (lv_at hl 0 rfl) ?_
  obtain ⟨u_1, hu_1, hF_2⟩ := Option.bind_eq_some_iff.mp hF
  clear hF
  have hPc := bx_P (bs := [b_g cB cC cI cJ cZ oA rA Γ, b_w cB cC cI cJ cZ oA rA Γ, b_c cB cC cI cJ cZ oA rA Γ]) (bs' := [b_g cB cC cI cJ cZ oA rA Γ, b_w cB cC cI cJ cZ oA rA Γ, b_c cB cC cI cJ cZ oA rA Γ]) (ws' := (b_g cB cC cI cJ cZ oA rA Γ ++ b_w cB cC cI cJ cZ oA rA Γ ++ b_c cB cC cI cJ cZ oA rA Γ)) hP fl_3 fl_3 [0, 1, 2] rfl
  have hDc := bx_D (bs := [b_g cB cC cI cJ cZ oA rA Γ, b_w cB cC cI cJ cZ oA rA Γ, b_c cB cC cI cJ cZ oA rA Γ]) (bs' := [b_g cB cC cI cJ cZ oA rA Γ, b_w cB cC cI cJ cZ oA rA Γ, b_c cB cC cI cJ cZ oA rA Γ]) (ws' := (b_g cB cC cI cJ cZ oA rA Γ ++ b_w cB cC cI cJ cZ oA rA Γ ++ b_c cB cC cI cJ cZ oA rA Γ)) (hDD Γ) fl_3 fl_3 [0, 1, 2] (by decide +kernel) rfl
  have hFc := bx_F (bs := [b_g cB cC cI cJ cZ oA rA Γ, b_w cB cC cI cJ cZ oA rA Γ, b_c cB cC cI cJ cZ oA rA Γ]) (bs' := [b_g cB cC cI cJ cZ oA rA Γ, b_w cB cC cI cJ cZ oA rA Γ, b_c cB cC cI cJ cZ oA rA Γ]) (wc := (b_g cB cC cI cJ cZ oA rA Γ ++ b_w cB cC cI cJ cZ oA rA Γ ++ b_c cB cC cI cJ cZ oA rA Γ)) (hDD Γ) hS hA fl_3 fl_3 [0, 1, 2] rfl
  refine g_ofv (wc := (b_g cB cC cI cJ cZ oA rA Γ ++ b_w cB cC cI cJ cZ oA rA Γ ++ b_c cB cC cI cJ cZ oA rA Γ)) (wr := ([] : va_W)) hP (hDD Γ) hS hFc (bx_ix [b_g cB cC cI cJ cZ oA rA Γ, b_w cB cC cI cJ cZ oA rA Γ, b_c cB cC cI cJ cZ oA rA Γ] [0, 1, 2]) (bx_ix [b_g cB cC cI cJ cZ oA rA Γ, b_w cB cC cI cJ cZ oA rA Γ, b_c cB cC cI cJ cZ oA rA Γ] []) (bx_C (bs := [b_g cB cC cI cJ cZ oA rA Γ, b_w cB cC cI cJ cZ oA rA Γ, b_c cB cC cI cJ cZ oA rA Γ]) (bs' := [b_g cB cC cI cJ cZ oA rA Γ, b_w cB cC cI cJ cZ oA rA Γ, b_c cB cC cI cJ cZ oA rA Γ]) (is := [0, 1, 2]) fl_3 fl_3 rfl) (bx_C (bs := [b_g cB cC cI cJ cZ oA rA Γ, b_w cB cC cI cJ cZ oA rA Γ, b_c cB cC cI cJ cZ oA rA Γ]) (bs' := []) (is := []) fl_3 fl_0 rfl) (bx_n (by decide +kernel)) (bx_d (by decide +kernel)) (va_runV (As := []) (rest := []) ⟨hx, hb, hml, hown, hts⟩ (hI1 s.heap.size Γ _ hu_1) (cwV 0 hts (g_gV wq_630 wq_631 wq_2017 wq_3 wq_632) rfl rfl rfl (by decide +kernel) ⟨by show 4 + d + 1 ≤ 4 + (d + 1); omega, by show 8 + (3 + 11) + (102 + 22 * d) ≤ 102 + 22 * (d + 1); omega⟩) (g_preV g_bl0 hK hPc hDc hS hE hFc g_to0 (q0 := 0) (ci := 2) rfl rfl) rfl rfl hl.1 rfl (lv_room (Nat.le_of_ble_eq_true rfl)) dX2_expression_1 ⟨Nat.le_of_ble_eq_true rfl, Nat.le_of_ble_eq_true rfl⟩) (fun u9 H locs hw9 hP' hD' hS => ?_)
  clear hPc hDc hFc
  have hP : va_P (dC, dI) vwCl (b_g cB cC cI cJ cZ oA rA u_1.2 ++ b_w cB cC cI cJ cZ oA rA u_1.2 ++ b_c cB cC cI cJ cZ oA rA u_1.2) H := hP'
  clear hP' hD'
  refine lv_iconst (v := 0) hx hb dX2_expression_4 (by decide +kernel) ?_
  refine lv_istore_n (lv' := [(1, .int 0), (0, .ref (oA 2))]) hx hb dX2_expression_5 rfl hl (by decide) rfl (fun ls hl => ?_)
  refine loopF_ind (P := fun (s_3 : Int32 × HS) => ∀ (H : Heap) (locs : List Loc), va_P (dC, dI) vwCl (b_g cB cC cI cJ cZ oA rA s_3.2 ++ b_w cB cC cI cJ cZ oA rA s_3.2 ++ b_c cB cC cI cJ cZ oA rA s_3.2) H → va_S A s.heap H locs → ∀ ls : Array Slot, lv_has ls 3 [(0, .ref (oA 2)), (1, .int s_3.1)] → W p l e (headSpec (g_ws yX2_expression cX2_expression 3 none) { frames := 4 + (d + 1), cells := 0, slots := 0, locals := 102 + 22 * (d + 1) }).room s m ([.ref (oA 2)] : List Value).toArray below meth c H locs 0 0 (MQ below (va_Qv (fun (_ : Unit) => True) (g_Bo (dC, dI) A (fun (_ : Unit) => (b_g cB cC cI cJ cZ oA rA res.2 ++ b_w cB cC cI cJ cZ oA rA res.2 ++ b_c cB cC cI cJ cZ oA rA res.2))) A) ([.ref (oA 2)] : List Value).toArray s 0 0 A) (F0 m 6 ls [])) ?_ _ _ hF_2 _ _ hP hS ls (lv_sub hl [1, 0] rfl)
  intro again_4 s_3 ih_5 hF_6
  intro H locs hP hS ls hl
  refine lv_iload_n hx hb dX2_expression_6 rfl (lv_at hl 1 rfl) ?_
  refine lv_aload_n hx hb dX2_expression_7 rfl (lv_at hl 0 rfl) ?_
  refine va_get (D := (dC, dI)) (ci := 2) (v := .ref (oA 1)) (C := RX2) (T := TX2) (N := 8) hx hb hts ii_X2 hown hK hP 0 rfl rfl 0 (by decide) (hts (.fieldLink RX2 9 "StoryHouse$Grammar" "words" "LStoryHouse$Words;") wq_71) (fun _ h9 => h9) rfl dX2_expression_8 ?_
  refine va_get (D := (dC, dI)) (ci := 10) (v := .int ((s_3.2 1).1 2)) (C := RX10) (T := TX10) (N := 12) hx hb hts ii_X10 hown hK hP 1 rfl rfl 2 (by decide) (hts (.fieldLink RX2 38 "StoryHouse$Words" "count" "I") wq_47) (fun _ h9 => h9) rfl dX2_expression_11 ?_
  refine lv_icmp_ge (tgt := 65) hx hb dX2_expression_14 (by decide) (fun c_7 => ?_) (fun c_7 => ?_)
  · have hF_8 := ipos c_7 hF_6
    clear hF_6
    have h9 := Option.some.inj hF_8
    subst h9
    exact W.vret hx hb hr (fun t ht hW => ⟨⟨(), rfl, trivial, m_end ht hP, hDD _⟩, hS.F ht⟩) hS.2.2 dX2_expression_65
  · have hF_9 := ineg c_7 hF_6
    clear hF_6
    refine lv_aload_n hx hb dX2_expression_17 rfl (lv_at hl 0 rfl) ?_
    refine lv_sipush (v := 217) hx hb dX2_expression_18 (by decide +kernel) ?_
    obtain ⟨u_10, hu_10, hF_11⟩ := Option.bind_eq_some_iff.mp hF_9
    clear hF_9
    have hPc := bx_P (bs := [b_g cB cC cI cJ cZ oA rA s_3.2, b_w cB cC cI cJ cZ oA rA s_3.2, b_c cB cC cI cJ cZ oA rA s_3.2]) (bs' := [b_g cB cC cI cJ cZ oA rA s_3.2, b_w cB cC cI cJ cZ oA rA s_3.2, b_c cB cC cI cJ cZ oA rA s_3.2]) (ws' := (b_g cB cC cI cJ cZ oA rA s_3.2 ++ b_w cB cC cI cJ cZ oA rA s_3.2 ++ b_c cB cC cI cJ cZ oA rA s_3.2)) hP fl_3 fl_3 [0, 1, 2] rfl
    have hDc := bx_D (bs := [b_g cB cC cI cJ cZ oA rA s_3.2, b_w cB cC cI cJ cZ oA rA s_3.2, b_c cB cC cI cJ cZ oA rA s_3.2]) (bs' := [b_g cB cC cI cJ cZ oA rA s_3.2, b_w cB cC cI cJ cZ oA rA s_3.2, b_c cB cC cI cJ cZ oA rA s_3.2]) (ws' := (b_g cB cC cI cJ cZ oA rA s_3.2 ++ b_w cB cC cI cJ cZ oA rA s_3.2 ++ b_c cB cC cI cJ cZ oA rA s_3.2)) (hDD s_3.2) fl_3 fl_3 [0, 1, 2] (by decide +kernel) rfl
    have hFc := bx_F (bs := [b_g cB cC cI cJ cZ oA rA s_3.2, b_w cB cC cI cJ cZ oA rA s_3.2, b_c cB cC cI cJ cZ oA rA s_3.2]) (bs' := [b_g cB cC cI cJ cZ oA rA s_3.2, b_w cB cC cI cJ cZ oA rA s_3.2, b_c cB cC cI cJ cZ oA rA s_3.2]) (wc := (b_g cB cC cI cJ cZ oA rA s_3.2 ++ b_w cB cC cI cJ cZ oA rA s_3.2 ++ b_c cB cC cI cJ cZ oA rA s_3.2)) (hDD s_3.2) hS hA fl_3 fl_3 [0, 1, 2] rfl
    refine g_ofi (wc := (b_g cB cC cI cJ cZ oA rA s_3.2 ++ b_w cB cC cI cJ cZ oA rA s_3.2 ++ b_c cB cC cI cJ cZ oA rA s_3.2)) (wr := ([] : va_W)) hP (hDD s_3.2) hS hFc (bx_ix [b_g cB cC cI cJ cZ oA rA s_3.2, b_w cB cC cI cJ cZ oA rA s_3.2, b_c cB cC cI cJ cZ oA rA s_3.2] [0, 1, 2]) (bx_ix [b_g cB cC cI cJ cZ oA rA s_3.2, b_w cB cC cI cJ cZ oA rA s_3.2, b_c cB cC cI cJ cZ oA rA s_3.2] []) (bx_C (bs := [b_g cB cC cI cJ cZ oA rA s_3.2, b_w cB cC cI cJ cZ oA rA s_3.2, b_c cB cC cI cJ cZ oA rA s_3.2]) (bs' := [b_g cB cC cI cJ cZ oA rA s_3.2, b_w cB cC cI cJ cZ oA rA s_3.2, b_c cB cC cI cJ cZ oA rA s_3.2]) (is := [0, 1, 2]) fl_3 fl_3 rfl) (bx_C (bs := [b_g cB cC cI cJ cZ oA rA s_3.2, b_w cB cC cI cJ cZ oA rA s_3.2, b_c cB cC cI cJ cZ oA rA s_3.2]) (bs' := []) (is := []) fl_3 fl_0 rfl) (bx_n (by decide +kernel)) (bx_d (by decide +kernel)) (va_runV (As := [.int 217]) (rest := []) ⟨hx, hb, hml, hown, hts⟩ (k_X2_accept l dC dI cB cC cI cJ cZ cP oA rA H.size  217 s_3.2 _ hu_10) (cwV 1 hts (g_gV wq_573 wq_574 wq_2003 wq_3 wq_575) rfl rfl rfl (by decide +kernel) ⟨by show 2 + 1 ≤ 4 + (d + 1); omega, by show 8 + (2 + 11) + 60 ≤ 102 + 22 * (d + 1); omega⟩) (g_preV g_bl0 hK hPc hDc hS hE hFc g_to0 (q0 := 0) (ci := 2) rfl rfl) rfl rfl hl.1 rfl (lv_room (Nat.le_of_ble_eq_true rfl)) dX2_expression_21 ⟨Nat.le_of_ble_eq_true rfl, Nat.le_of_ble_eq_true rfl⟩) (fun r9 u9 H locs hw9 hP' hD' hS => ?_)
    clear hPc hDc hFc
    subst hw9
    have hP : va_P (dC, dI) vwCl (b_g cB cC cI cJ cZ oA rA u_10.2 ++ b_w cB cC cI cJ cZ oA rA u_10.2 ++ b_c cB cC cI cJ cZ oA rA u_10.2) H := hP'
    clear hP' hD'
    refine lv_if_eq (tgt := 65) hx hb dX2_expression_24 (by decide) (fun c_12 => ?_) (fun c_12 => ?_)
    · have hF_13 := ipos c_12 hF_11
      clear hF_11
      have h9 := Option.some.inj hF_13
      subst h9
      exact W.vret hx hb hr (fun t ht hW => ⟨⟨(), rfl, trivial, m_end ht hP, hDD _⟩, hS.F ht⟩) hS.2.2 dX2_expression_65
    · have hF_14 := ineg c_12 hF_11
      clear hF_11
      refine lv_aload_n hx hb dX2_expression_27 rfl (lv_at hl 0 rfl) ?_
      refine va_get (D := (dC, dI)) (ci := 2) (v := .ref (oA 5)) (C := RX2) (T := TX2) (N := 8) hx hb hts ii_X2 hown hK hP 0 rfl rfl 1 (by decide) (hts (.fieldLink RX2 15 "StoryHouse$Grammar" "code" "LStoryHouse$Code;") wq_72) (fun _ h9 => h9) rfl dX2_expression_28 ?_
      refine lv_bipush (v := 44) hx hb dX2_expression_31 (by decide +kernel) ?_
      refine lv_iconst (v := 0) hx hb dX2_expression_33 (by decide +kernel) ?_
      obtain ⟨u_15, hu_15, hF_16⟩ := Option.bind_eq_some_iff.mp hF_14
      clear hF_14
      have hPc := bx_P (bs := [b_g cB cC cI cJ cZ oA rA u_10.2, b_w cB cC cI cJ cZ oA rA u_10.2, b_c cB cC cI cJ cZ oA rA u_10.2]) (bs' := [b_c cB cC cI cJ cZ oA rA u_10.2]) (ws' := (b_c cB cC cI cJ cZ oA rA u_10.2)) hP fl_3 fl_1 [2] rfl
      have hDc := bx_D (bs := [b_g cB cC cI cJ cZ oA rA u_10.2, b_w cB cC cI cJ cZ oA rA u_10.2, b_c cB cC cI cJ cZ oA rA u_10.2]) (bs' := [b_c cB cC cI cJ cZ oA rA u_10.2]) (ws' := (b_c cB cC cI cJ cZ oA rA u_10.2)) (hDD u_10.2) fl_3 fl_1 [2] (by decide +kernel) rfl
      have hFc := bx_F (bs := [b_g cB cC cI cJ cZ oA rA u_10.2, b_w cB cC cI cJ cZ oA rA u_10.2, b_c cB cC cI cJ cZ oA rA u_10.2]) (bs' := [b_c cB cC cI cJ cZ oA rA u_10.2]) (wc := (b_c cB cC cI cJ cZ oA rA u_10.2)) (hDD u_10.2) hS hA fl_3 fl_1 [2] rfl
      refine g_ofi (wc := (b_c cB cC cI cJ cZ oA rA u_10.2)) (wr := (b_g cB cC cI cJ cZ oA rA u_10.2 ++ b_w cB cC cI cJ cZ oA rA u_10.2)) hP (hDD u_10.2) hS hFc (bx_ix [b_g cB cC cI cJ cZ oA rA u_10.2, b_w cB cC cI cJ cZ oA rA u_10.2, b_c cB cC cI cJ cZ oA rA u_10.2] [2]) (bx_ix [b_g cB cC cI cJ cZ oA rA u_10.2, b_w cB cC cI cJ cZ oA rA u_10.2, b_c cB cC cI cJ cZ oA rA u_10.2] [0, 1]) (bx_C (bs := [b_g cB cC cI cJ cZ oA rA u_10.2, b_w cB cC cI cJ cZ oA rA u_10.2, b_c cB cC cI cJ cZ oA rA u_10.2]) (bs' := [b_c cB cC cI cJ cZ oA rA u_10.2]) (is := [2]) fl_3 fl_1 rfl) (bx_C (bs := [b_g cB cC cI cJ cZ oA rA u_10.2, b_w cB cC cI cJ cZ oA rA u_10.2, b_c cB cC cI cJ cZ oA rA u_10.2]) (bs' := [b_g cB cC cI cJ cZ oA rA u_10.2, b_w cB cC cI cJ cZ oA rA u_10.2]) (is := [0, 1]) fl_3 fl_2 rfl) (bx_n (by decide +kernel)) (bx_d (by decide +kernel)) (va_runV (As := [.int 44, .int 0]) (rest := []) ⟨hx, hb, hml, hown, hts⟩ (k_X0_add_ l dC dI cB cC cI cJ cZ cP oA rA H.size  44 0 u_10.2 _ hu_15) (cwV 2 hts (g_gV wq_656 wq_657 wq_658 wq_6 wq_659) rfl rfl rfl (by decide +kernel) ⟨by show 1 + 1 ≤ 4 + (d + 1); omega, by show 8 + (3 + 11) + 40 ≤ 102 + 22 * (d + 1); omega⟩) (g_preV g_bl0 hK hPc hDc hS hE hFc g_to0 (q0 := 0) (ci := 0) rfl rfl) rfl rfl hl.1 rfl (lv_room (Nat.le_of_ble_eq_true rfl)) dX2_expression_34 ⟨Nat.le_of_ble_eq_true rfl, Nat.le_of_ble_eq_true rfl⟩) (fun r9 u9 H locs hw9 hP' hD' hS => ?_)
      clear hPc hDc hFc
      subst hw9
      obtain ⟨σ_17, eσ_17, hF_18⟩ := bnd_e hF_16
      clear hF_16
      have hP : va_P (dC, dI) vwCl (b_g cB cC cI cJ cZ oA rA σ_17 ++ b_w cB cC cI cJ cZ oA rA σ_17 ++ b_c cB cC cI cJ cZ oA rA σ_17) H := by rw [eσ_17]; exact bx_P (bs := [b_g cB cC cI cJ cZ oA rA u_10.2, b_w cB cC cI cJ cZ oA rA u_10.2] ++ [b_c cB cC cI cJ cZ oA rA u_15.2]) (bs' := [b_g cB cC cI cJ cZ oA rA (mrg (fun j => j == 5) u_10.2 u_15.2), b_w cB cC cI cJ cZ oA rA (mrg (fun j => j == 5) u_10.2 u_15.2), b_c cB cC cI cJ cZ oA rA (mrg (fun j => j == 5) u_10.2 u_15.2)]) hP' (fl_a fl_2 fl_1) fl_3 [0, 1, 2] rfl
      clear hP' hD'
      refine lv_istore_n (lv' := [(2, .int u_15.1), (0, .ref (oA 2)), (1, .int s_3.1)]) hx hb dX2_expression_37 rfl hl (by decide) rfl (fun ls hl => ?_)
      refine lv_aload_n hx hb dX2_expression_38 rfl (lv_at hl 1 rfl) ?_
      obtain ⟨u_19, hu_19, hF_20⟩ := Option.bind_eq_some_iff.mp hF_18
      clear hF_18
      have hPc := bx_P (bs := [b_g cB cC cI cJ cZ oA rA σ_17, b_w cB cC cI cJ cZ oA rA σ_17, b_c cB cC cI cJ cZ oA rA σ_17]) (bs' := [b_g cB cC cI cJ cZ oA rA σ_17, b_w cB cC cI cJ cZ oA rA σ_17, b_c cB cC cI cJ cZ oA rA σ_17]) (ws' := (b_g cB cC cI cJ cZ oA rA σ_17 ++ b_w cB cC cI cJ cZ oA rA σ_17 ++ b_c cB cC cI cJ cZ oA rA σ_17)) hP fl_3 fl_3 [0, 1, 2] rfl
      have hDc := bx_D (bs := [b_g cB cC cI cJ cZ oA rA σ_17, b_w cB cC cI cJ cZ oA rA σ_17, b_c cB cC cI cJ cZ oA rA σ_17]) (bs' := [b_g cB cC cI cJ cZ oA rA σ_17, b_w cB cC cI cJ cZ oA rA σ_17, b_c cB cC cI cJ cZ oA rA σ_17]) (ws' := (b_g cB cC cI cJ cZ oA rA σ_17 ++ b_w cB cC cI cJ cZ oA rA σ_17 ++ b_c cB cC cI cJ cZ oA rA σ_17)) (hDD σ_17) fl_3 fl_3 [0, 1, 2] (by decide +kernel) rfl
      have hFc := bx_F (bs := [b_g cB cC cI cJ cZ oA rA σ_17, b_w cB cC cI cJ cZ oA rA σ_17, b_c cB cC cI cJ cZ oA rA σ_17]) (bs' := [b_g cB cC cI cJ cZ oA rA σ_17, b_w cB cC cI cJ cZ oA rA σ_17, b_c cB cC cI cJ cZ oA rA σ_17]) (wc := (b_g cB cC cI cJ cZ oA rA σ_17 ++ b_w cB cC cI cJ cZ oA rA σ_17 ++ b_c cB cC cI cJ cZ oA rA σ_17)) (hDD σ_17) hS hA fl_3 fl_3 [0, 1, 2] rfl
      refine g_ofv (wc := (b_g cB cC cI cJ cZ oA rA σ_17 ++ b_w cB cC cI cJ cZ oA rA σ_17 ++ b_c cB cC cI cJ cZ oA rA σ_17)) (wr := ([] : va_W)) hP (hDD σ_17) hS hFc (bx_ix [b_g cB cC cI cJ cZ oA rA σ_17, b_w cB cC cI cJ cZ oA rA σ_17, b_c cB cC cI cJ cZ oA rA σ_17] [0, 1, 2]) (bx_ix [b_g cB cC cI cJ cZ oA rA σ_17, b_w cB cC cI cJ cZ oA rA σ_17, b_c cB cC cI cJ cZ oA rA σ_17] []) (bx_C (bs := [b_g cB cC cI cJ cZ oA rA σ_17, b_w cB cC cI cJ cZ oA rA σ_17, b_c cB cC cI cJ cZ oA rA σ_17]) (bs' := [b_g cB cC cI cJ cZ oA rA σ_17, b_w cB cC cI cJ cZ oA rA σ_17, b_c cB cC cI cJ cZ oA rA σ_17]) (is := [0, 1, 2]) fl_3 fl_3 rfl) (bx_C (bs := [b_g cB cC cI cJ cZ oA rA σ_17, b_w cB cC cI cJ cZ oA rA σ_17, b_c cB cC cI cJ cZ oA rA σ_17]) (bs' := []) (is := []) fl_3 fl_0 rfl) (bx_n (by decide +kernel)) (bx_d (by decide +kernel)) (va_runV (As := []) (rest := []) ⟨hx, hb, hml, hown, hts⟩ (hI1 H.size σ_17 _ hu_19) (cwV 0 hts (g_gV wq_630 wq_631 wq_2017 wq_3 wq_632) rfl rfl rfl (by decide +kernel) ⟨by show 4 + d + 1 ≤ 4 + (d + 1); omega, by show 8 + (3 + 11) + (102 + 22 * d) ≤ 102 + 22 * (d + 1); omega⟩) (g_preV g_bl0 hK hPc hDc hS hE hFc g_to0 (q0 := 0) (ci := 2) rfl rfl) rfl rfl hl.1 rfl (lv_room (Nat.le_of_ble_eq_true rfl)) dX2_expression_39 ⟨Nat.le_of_ble_eq_true rfl, Nat.le_of_ble_eq_true rfl⟩) (fun u9 H locs hw9 hP' hD' hS => ?_)
      clear hPc hDc hFc
      have hP : va_P (dC, dI) vwCl (b_g cB cC cI cJ cZ oA rA u_19.2 ++ b_w cB cC cI cJ cZ oA rA u_19.2 ++ b_c cB cC cI cJ cZ oA rA u_19.2) H := hP'
      clear hP' hD'
      refine lv_aload_n hx hb dX2_expression_42 rfl (lv_at hl 1 rfl) ?_
      refine va_get (D := (dC, dI)) (ci := 2) (v := .ref (oA 5)) (C := RX2) (T := TX2) (N := 8) hx hb hts ii_X2 hown hK hP 0 rfl rfl 1 (by decide) (hts (.fieldLink RX2 15 "StoryHouse$Grammar" "code" "LStoryHouse$Code;") wq_72) (fun _ h9 => h9) rfl dX2_expression_43 ?_
      refine lv_bipush (v := 7) hx hb dX2_expression_46 (by decide +kernel) ?_
      obtain ⟨u_21, hu_21, hF_22⟩ := Option.bind_eq_some_iff.mp hF_20
      clear hF_20
      have hPc := bx_P (bs := [b_g cB cC cI cJ cZ oA rA u_19.2, b_w cB cC cI cJ cZ oA rA u_19.2, b_c cB cC cI cJ cZ oA rA u_19.2]) (bs' := [b_c cB cC cI cJ cZ oA rA u_19.2]) (ws' := (b_c cB cC cI cJ cZ oA rA u_19.2)) hP fl_3 fl_1 [2] rfl
      have hDc := bx_D (bs := [b_g cB cC cI cJ cZ oA rA u_19.2, b_w cB cC cI cJ cZ oA rA u_19.2, b_c cB cC cI cJ cZ oA rA u_19.2]) (bs' := [b_c cB cC cI cJ cZ oA rA u_19.2]) (ws' := (b_c cB cC cI cJ cZ oA rA u_19.2)) (hDD u_19.2) fl_3 fl_1 [2] (by decide +kernel) rfl
      have hFc := bx_F (bs := [b_g cB cC cI cJ cZ oA rA u_19.2, b_w cB cC cI cJ cZ oA rA u_19.2, b_c cB cC cI cJ cZ oA rA u_19.2]) (bs' := [b_c cB cC cI cJ cZ oA rA u_19.2]) (wc := (b_c cB cC cI cJ cZ oA rA u_19.2)) (hDD u_19.2) hS hA fl_3 fl_1 [2] rfl
      refine g_ofv (wc := (b_c cB cC cI cJ cZ oA rA u_19.2)) (wr := (b_g cB cC cI cJ cZ oA rA u_19.2 ++ b_w cB cC cI cJ cZ oA rA u_19.2)) hP (hDD u_19.2) hS hFc (bx_ix [b_g cB cC cI cJ cZ oA rA u_19.2, b_w cB cC cI cJ cZ oA rA u_19.2, b_c cB cC cI cJ cZ oA rA u_19.2] [2]) (bx_ix [b_g cB cC cI cJ cZ oA rA u_19.2, b_w cB cC cI cJ cZ oA rA u_19.2, b_c cB cC cI cJ cZ oA rA u_19.2] [0, 1]) (bx_C (bs := [b_g cB cC cI cJ cZ oA rA u_19.2, b_w cB cC cI cJ cZ oA rA u_19.2, b_c cB cC cI cJ cZ oA rA u_19.2]) (bs' := [b_c cB cC cI cJ cZ oA rA u_19.2]) (is := [2]) fl_3 fl_1 rfl) (bx_C (bs := [b_g cB cC cI cJ cZ oA rA u_19.2, b_w cB cC cI cJ cZ oA rA u_19.2, b_c cB cC cI cJ cZ oA rA u_19.2]) (bs' := [b_g cB cC cI cJ cZ oA rA u_19.2, b_w cB cC cI cJ cZ oA rA u_19.2]) (is := [0, 1]) fl_3 fl_2 rfl) (bx_n (by decide +kernel)) (bx_d (by decide +kernel)) (va_runV (As := [.int 7]) (rest := []) ⟨hx, hb, hml, hown, hts⟩ (k_X0_add l dC dI cB cC cI cJ cZ cP oA rA H.size  7 u_19.2 _ hu_21) (cwV 1 hts (g_gV wq_636 wq_637 wq_638 wq_6 wq_639) rfl rfl rfl (by decide +kernel) ⟨by show 1 + 1 ≤ 4 + (d + 1); omega, by show 8 + (2 + 11) + 40 ≤ 102 + 22 * (d + 1); omega⟩) (g_preV g_bl0 hK hPc hDc hS hE hFc g_to0 (q0 := 0) (ci := 0) rfl rfl) rfl rfl hl.1 rfl (lv_room (Nat.le_of_ble_eq_true rfl)) dX2_expression_48 ⟨Nat.le_of_ble_eq_true rfl, Nat.le_of_ble_eq_true rfl⟩) (fun u9 H locs hw9 hP' hD' hS => ?_)
      clear hPc hDc hFc
      obtain ⟨σ_23, eσ_23, hF_24⟩ := bnd_e hF_22
      clear hF_22
      have hP : va_P (dC, dI) vwCl (b_g cB cC cI cJ cZ oA rA σ_23 ++ b_w cB cC cI cJ cZ oA rA σ_23 ++ b_c cB cC cI cJ cZ oA rA σ_23) H := by rw [eσ_23]; exact bx_P (bs := [b_g cB cC cI cJ cZ oA rA u_19.2, b_w cB cC cI cJ cZ oA rA u_19.2] ++ [b_c cB cC cI cJ cZ oA rA u_21.2]) (bs' := [b_g cB cC cI cJ cZ oA rA (mrg (fun j => j == 5) u_19.2 u_21.2), b_w cB cC cI cJ cZ oA rA (mrg (fun j => j == 5) u_19.2 u_21.2), b_c cB cC cI cJ cZ oA rA (mrg (fun j => j == 5) u_19.2 u_21.2)]) hP' (fl_a fl_2 fl_1) fl_3 [0, 1, 2] rfl
      clear hP' hD'
      refine lv_aload_n hx hb dX2_expression_51 rfl (lv_at hl 1 rfl) ?_
      refine va_get (D := (dC, dI)) (ci := 2) (v := .ref (oA 5)) (C := RX2) (T := TX2) (N := 8) hx hb hts ii_X2 hown hK hP 0 rfl rfl 1 (by decide) (hts (.fieldLink RX2 15 "StoryHouse$Grammar" "code" "LStoryHouse$Code;") wq_72) (fun _ h9 => h9) rfl dX2_expression_52 ?_
      refine lv_iload_n hx hb dX2_expression_55 rfl (lv_at hl 0 rfl) ?_
      obtain ⟨u_25, hu_25, hF_26⟩ := Option.bind_eq_some_iff.mp hF_24
      clear hF_24
      have hPc := bx_P (bs := [b_g cB cC cI cJ cZ oA rA σ_23, b_w cB cC cI cJ cZ oA rA σ_23, b_c cB cC cI cJ cZ oA rA σ_23]) (bs' := [b_c cB cC cI cJ cZ oA rA σ_23]) (ws' := (b_c cB cC cI cJ cZ oA rA σ_23)) hP fl_3 fl_1 [2] rfl
      have hDc := bx_D (bs := [b_g cB cC cI cJ cZ oA rA σ_23, b_w cB cC cI cJ cZ oA rA σ_23, b_c cB cC cI cJ cZ oA rA σ_23]) (bs' := [b_c cB cC cI cJ cZ oA rA σ_23]) (ws' := (b_c cB cC cI cJ cZ oA rA σ_23)) (hDD σ_23) fl_3 fl_1 [2] (by decide +kernel) rfl
      have hFc := bx_F (bs := [b_g cB cC cI cJ cZ oA rA σ_23, b_w cB cC cI cJ cZ oA rA σ_23, b_c cB cC cI cJ cZ oA rA σ_23]) (bs' := [b_c cB cC cI cJ cZ oA rA σ_23]) (wc := (b_c cB cC cI cJ cZ oA rA σ_23)) (hDD σ_23) hS hA fl_3 fl_1 [2] rfl
      refine g_ofv (wc := (b_c cB cC cI cJ cZ oA rA σ_23)) (wr := (b_g cB cC cI cJ cZ oA rA σ_23 ++ b_w cB cC cI cJ cZ oA rA σ_23)) hP (hDD σ_23) hS hFc (bx_ix [b_g cB cC cI cJ cZ oA rA σ_23, b_w cB cC cI cJ cZ oA rA σ_23, b_c cB cC cI cJ cZ oA rA σ_23] [2]) (bx_ix [b_g cB cC cI cJ cZ oA rA σ_23, b_w cB cC cI cJ cZ oA rA σ_23, b_c cB cC cI cJ cZ oA rA σ_23] [0, 1]) (bx_C (bs := [b_g cB cC cI cJ cZ oA rA σ_23, b_w cB cC cI cJ cZ oA rA σ_23, b_c cB cC cI cJ cZ oA rA σ_23]) (bs' := [b_c cB cC cI cJ cZ oA rA σ_23]) (is := [2]) fl_3 fl_1 rfl) (bx_C (bs := [b_g cB cC cI cJ cZ oA rA σ_23, b_w cB cC cI cJ cZ oA rA σ_23, b_c cB cC cI cJ cZ oA rA σ_23]) (bs' := [b_g cB cC cI cJ cZ oA rA σ_23, b_w cB cC cI cJ cZ oA rA σ_23]) (is := [0, 1]) fl_3 fl_2 rfl) (bx_n (by decide +kernel)) (bx_d (by decide +kernel)) (va_runV (As := [.int u_15.1]) (rest := []) ⟨hx, hb, hml, hown, hts⟩ (k_X0_aim l dC dI cB cC cI cJ cZ cP oA rA H.size  u_15.1 σ_23 _ hu_25) (cwV 1 hts (g_gV wq_672 wq_673 wq_674 wq_6 wq_675) rfl rfl rfl (by decide +kernel) ⟨by show 2 + 1 ≤ 4 + (d + 1); omega, by show 8 + (2 + 11) + 62 ≤ 102 + 22 * (d + 1); omega⟩) (g_preV g_bl0 hK hPc hDc hS hE hFc g_to0 (q0 := 0) (ci := 0) rfl rfl) rfl rfl hl.1 rfl (lv_room (Nat.le_of_ble_eq_true rfl)) dX2_expression_56 ⟨Nat.le_of_ble_eq_true rfl, Nat.le_of_ble_eq_true rfl⟩) (fun u9 H locs hw9 hP' hD' hS => ?_)
      clear hPc hDc hFc
      obtain ⟨σ_27, eσ_27, hF_28⟩ := bnd_e hF_26
      clear hF_26
      have hP : va_P (dC, dI) vwCl (b_g cB cC cI cJ cZ oA rA σ_27 ++ b_w cB cC cI cJ cZ oA rA σ_27 ++ b_c cB cC cI cJ cZ oA rA σ_27) H := by rw [eσ_27]; exact bx_P (bs := [b_g cB cC cI cJ cZ oA rA σ_23, b_w cB cC cI cJ cZ oA rA σ_23] ++ [b_c cB cC cI cJ cZ oA rA u_25.2]) (bs' := [b_g cB cC cI cJ cZ oA rA (mrg (fun j => j == 5) σ_23 u_25.2), b_w cB cC cI cJ cZ oA rA (mrg (fun j => j == 5) σ_23 u_25.2), b_c cB cC cI cJ cZ oA rA (mrg (fun j => j == 5) σ_23 u_25.2)]) hP' (fl_a fl_2 fl_1) fl_3 [0, 1, 2] rfl
      clear hP' hD'
      obtain ⟨x_29, ex_29, hF_30⟩ := bnd_e hF_28
      clear hF_28
      refine lv_iinc (v := x_29) (lv' := [(1, .int x_29), (2, .int u_15.1), (0, .ref (oA 2))]) hx hb dX2_expression_59 hl (k := 2) rfl (by rw [ex_29]; rfl) (by decide) rfl (fun ls hl => ?_)
      refine lv_goto (tgt := 6) hx hb dX2_expression_62 (by decide) ?_
      exact ih_5 (x_29, σ_27) hF_30 _ _ hP hS ls (lv_sub hl [2, 0] rfl)

def F_X2_both (rec : HG)  (Γ : HS) : HR :=
  (rec 2 0 0 0 Γ).bind fun u_1 =>
  loopF (fun (again_4 : (Int32 × HS) → HR) (s_3 : Int32 × HS) => (
    if ((s_3.2 1).1 2) ≤ s_3.1 then (
      some (0, s_3.2)
    ) else (
      (F_X2_accept 216 s_3.2).bind fun u_10 =>
      if u_10.1 = 0 then (
        some (0, u_10.2)
      ) else (
        (F_X0_add_ 43 0 u_10.2).bind fun u_15 =>
        bnd (mrg (fun j => j == 5) u_10.2 u_15.2) fun σ_17 =>
        (rec 2 0 0 0 σ_17).bind fun u_19 =>
        (F_X0_add 7 u_19.2).bind fun u_21 =>
        bnd (mrg (fun j => j == 5) u_19.2 u_21.2) fun σ_23 =>
        (F_X0_aim u_15.1 σ_23).bind fun u_25 =>
        bnd (mrg (fun j => j == 5) σ_23 u_25.2) fun σ_27 =>
        bnd (s_3.1 + 1) fun (x_29 : Int32) =>
        again_4 (x_29, σ_27)
      )
    )
  )) FU (0, u_1.2)
set_option maxHeartbeats 4000000 in
set_option maxRecDepth 100000 in
theorem k_X2_both_st (l : Launch) (dC : Nat → ClassId) (dI : Nat → Nat → Nat) (cB cC cI cJ cZ cP : ClassId) (oA : Nat → Nat) (rA : Nat → Nat → Nat) (d : Nat) (rec : HG) (hI0 : ∀ (sz : Nat)  (Γ : HS) (res : Int32 × HS), rec 0 0 0 0 Γ = some res → Met l yX2_expression (g_ws yX2_expression cX2_expression 3 none) ({ frames := 4 + d, cells := 0, slots := 0, locals := 102 + 22 * d }) (va_Pc [.ref (oA 2)] (g_B (dC, dI) [(cB, .byte), (cC, .char), (cI, .int), (cJ, .long), (cZ, .boolean), (cP, .object "StoryHouse$Play")] sz (b_g cB cC cI cJ cZ oA rA Γ ++ b_w cB cC cI cJ cZ oA rA Γ ++ b_c cB cC cI cJ cZ oA rA Γ) g_0)) (va_Qv (fun (_ : Unit) => True) (g_Bo (dC, dI) (va_A (b_g cB cC cI cJ cZ oA rA Γ ++ b_w cB cC cI cJ cZ oA rA Γ ++ b_c cB cC cI cJ cZ oA rA Γ) sz) (fun (_ : Unit) => (b_g cB cC cI cJ cZ oA rA res.2 ++ b_w cB cC cI cJ cZ oA rA res.2 ++ b_c cB cC cI cJ cZ oA rA res.2))) (va_A (b_g cB cC cI cJ cZ oA rA Γ ++ b_w cB cC cI cJ cZ oA rA Γ ++ b_c cB cC cI cJ cZ oA rA Γ) sz)) 0 0 (va_A (b_g cB cC cI cJ cZ oA rA Γ ++ b_w cB cC cI cJ cZ oA rA Γ ++ b_c cB cC cI cJ cZ oA rA Γ) sz)) (hI1 : ∀ (sz : Nat)  (Γ : HS) (res : Int32 × HS), rec 1 0 0 0 Γ = some res → Met l yX2_both (g_ws yX2_both cX2_both 3 none) ({ frames := 4 + d, cells := 0, slots := 0, locals := 102 + 22 * d }) (va_Pc [.ref (oA 2)] (g_B (dC, dI) [(cB, .byte), (cC, .char), (cI, .int), (cJ, .long), (cZ, .boolean), (cP, .object "StoryHouse$Play")] sz (b_g cB cC cI cJ cZ oA rA Γ ++ b_w cB cC cI cJ cZ oA rA Γ ++ b_c cB cC cI cJ cZ oA rA Γ) g_0)) (va_Qv (fun (_ : Unit) => True) (g_Bo (dC, dI) (va_A (b_g cB cC cI cJ cZ oA rA Γ ++ b_w cB cC cI cJ cZ oA rA Γ ++ b_c cB cC cI cJ cZ oA rA Γ) sz) (fun (_ : Unit) => (b_g cB cC cI cJ cZ oA rA res.2 ++ b_w cB cC cI cJ cZ oA rA res.2 ++ b_c cB cC cI cJ cZ oA rA res.2))) (va_A (b_g cB cC cI cJ cZ oA rA Γ ++ b_w cB cC cI cJ cZ oA rA Γ ++ b_c cB cC cI cJ cZ oA rA Γ) sz)) 0 0 (va_A (b_g cB cC cI cJ cZ oA rA Γ ++ b_w cB cC cI cJ cZ oA rA Γ ++ b_c cB cC cI cJ cZ oA rA Γ) sz)) (hI2 : ∀ (sz : Nat)  (Γ : HS) (res : Int32 × HS), rec 2 0 0 0 Γ = some res → Met l yX2_step (g_ws yX2_step cX2_step 2 none) ({ frames := 4 + d, cells := 0, slots := 0, locals := 102 + 22 * d }) (va_Pc [.ref (oA 2)] (g_B (dC, dI) [(cB, .byte), (cC, .char), (cI, .int), (cJ, .long), (cZ, .boolean), (cP, .object "StoryHouse$Play")] sz (b_g cB cC cI cJ cZ oA rA Γ ++ b_w cB cC cI cJ cZ oA rA Γ ++ b_c cB cC cI cJ cZ oA rA Γ) g_0)) (va_Qv (fun (_ : Unit) => True) (g_Bo (dC, dI) (va_A (b_g cB cC cI cJ cZ oA rA Γ ++ b_w cB cC cI cJ cZ oA rA Γ ++ b_c cB cC cI cJ cZ oA rA Γ) sz) (fun (_ : Unit) => (b_g cB cC cI cJ cZ oA rA res.2 ++ b_w cB cC cI cJ cZ oA rA res.2 ++ b_c cB cC cI cJ cZ oA rA res.2))) (va_A (b_g cB cC cI cJ cZ oA rA Γ ++ b_w cB cC cI cJ cZ oA rA Γ ++ b_c cB cC cI cJ cZ oA rA Γ) sz)) 0 0 (va_A (b_g cB cC cI cJ cZ oA rA Γ ++ b_w cB cC cI cJ cZ oA rA Γ ++ b_c cB cC cI cJ cZ oA rA Γ) sz)) (hI3 : ∀ (sz : Nat)  (Γ : HS) (res : Int32 × HS), rec 3 0 0 0 Γ = some res → Met l yX2_sum (g_ws yX2_sum cX2_sum 3 none) ({ frames := 4 + d, cells := 0, slots := 0, locals := 102 + 22 * d }) (va_Pc [.ref (oA 2)] (g_B (dC, dI) [(cB, .byte), (cC, .char), (cI, .int), (cJ, .long), (cZ, .boolean), (cP, .object "StoryHouse$Play")] sz (b_g cB cC cI cJ cZ oA rA Γ ++ b_w cB cC cI cJ cZ oA rA Γ ++ b_c cB cC cI cJ cZ oA rA Γ) g_0)) (va_Qv (fun (_ : Unit) => True) (g_Bo (dC, dI) (va_A (b_g cB cC cI cJ cZ oA rA Γ ++ b_w cB cC cI cJ cZ oA rA Γ ++ b_c cB cC cI cJ cZ oA rA Γ) sz) (fun (_ : Unit) => (b_g cB cC cI cJ cZ oA rA res.2 ++ b_w cB cC cI cJ cZ oA rA res.2 ++ b_c cB cC cI cJ cZ oA rA res.2))) (va_A (b_g cB cC cI cJ cZ oA rA Γ ++ b_w cB cC cI cJ cZ oA rA Γ ++ b_c cB cC cI cJ cZ oA rA Γ) sz)) 0 0 (va_A (b_g cB cC cI cJ cZ oA rA Γ ++ b_w cB cC cI cJ cZ oA rA Γ ++ b_c cB cC cI cJ cZ oA rA Γ) sz)) (hI4 : ∀ (sz : Nat)  (Γ : HS) (res : Int32 × HS), rec 4 0 0 0 Γ = some res → Met l yX2_term (g_ws yX2_term cX2_term 3 none) ({ frames := 4 + d, cells := 0, slots := 0, locals := 102 + 22 * d }) (va_Pc [.ref (oA 2)] (g_B (dC, dI) [(cB, .byte), (cC, .char), (cI, .int), (cJ, .long), (cZ, .boolean), (cP, .object "StoryHouse$Play")] sz (b_g cB cC cI cJ cZ oA rA Γ ++ b_w cB cC cI cJ cZ oA rA Γ ++ b_c cB cC cI cJ cZ oA rA Γ) g_0)) (va_Qv (fun (_ : Unit) => True) (g_Bo (dC, dI) (va_A (b_g cB cC cI cJ cZ oA rA Γ ++ b_w cB cC cI cJ cZ oA rA Γ ++ b_c cB cC cI cJ cZ oA rA Γ) sz) (fun (_ : Unit) => (b_g cB cC cI cJ cZ oA rA res.2 ++ b_w cB cC cI cJ cZ oA rA res.2 ++ b_c cB cC cI cJ cZ oA rA res.2))) (va_A (b_g cB cC cI cJ cZ oA rA Γ ++ b_w cB cC cI cJ cZ oA rA Γ ++ b_c cB cC cI cJ cZ oA rA Γ) sz)) 0 0 (va_A (b_g cB cC cI cJ cZ oA rA Γ ++ b_w cB cC cI cJ cZ oA rA Γ ++ b_c cB cC cI cJ cZ oA rA Γ) sz)) (hI5 : ∀ (sz : Nat)  (Γ : HS) (res : Int32 × HS), rec 5 0 0 0 Γ = some res → Met l yX2_factor (g_ws yX2_factor cX2_factor 1 none) ({ frames := 4 + d, cells := 0, slots := 0, locals := 102 + 22 * d }) (va_Pc [.ref (oA 2)] (g_B (dC, dI) [(cB, .byte), (cC, .char), (cI, .int), (cJ, .long), (cZ, .boolean), (cP, .object "StoryHouse$Play")] sz (b_g cB cC cI cJ cZ oA rA Γ ++ b_w cB cC cI cJ cZ oA rA Γ ++ b_c cB cC cI cJ cZ oA rA Γ) g_0)) (va_Qv (fun (_ : Unit) => True) (g_Bo (dC, dI) (va_A (b_g cB cC cI cJ cZ oA rA Γ ++ b_w cB cC cI cJ cZ oA rA Γ ++ b_c cB cC cI cJ cZ oA rA Γ) sz) (fun (_ : Unit) => (b_g cB cC cI cJ cZ oA rA res.2 ++ b_w cB cC cI cJ cZ oA rA res.2 ++ b_c cB cC cI cJ cZ oA rA res.2))) (va_A (b_g cB cC cI cJ cZ oA rA Γ ++ b_w cB cC cI cJ cZ oA rA Γ ++ b_c cB cC cI cJ cZ oA rA Γ) sz)) 0 0 (va_A (b_g cB cC cI cJ cZ oA rA Γ ++ b_w cB cC cI cJ cZ oA rA Γ ++ b_c cB cC cI cJ cZ oA rA Γ) sz)) (hI6 : ∀ (sz : Nat)  (Γ : HS) (res : Int32 × HS), rec 6 0 0 0 Γ = some res → Met l yX2_primary (g_ws yX2_primary cX2_primary 3 none) ({ frames := 4 + d, cells := 0, slots := 0, locals := 102 + 22 * d }) (va_Pc [.ref (oA 2)] (g_B (dC, dI) [(cB, .byte), (cC, .char), (cI, .int), (cJ, .long), (cZ, .boolean), (cP, .object "StoryHouse$Play")] sz (b_g cB cC cI cJ cZ oA rA Γ ++ b_w cB cC cI cJ cZ oA rA Γ ++ b_c cB cC cI cJ cZ oA rA Γ) g_0)) (va_Qv (fun (_ : Unit) => True) (g_Bo (dC, dI) (va_A (b_g cB cC cI cJ cZ oA rA Γ ++ b_w cB cC cI cJ cZ oA rA Γ ++ b_c cB cC cI cJ cZ oA rA Γ) sz) (fun (_ : Unit) => (b_g cB cC cI cJ cZ oA rA res.2 ++ b_w cB cC cI cJ cZ oA rA res.2 ++ b_c cB cC cI cJ cZ oA rA res.2))) (va_A (b_g cB cC cI cJ cZ oA rA Γ ++ b_w cB cC cI cJ cZ oA rA Γ ++ b_c cB cC cI cJ cZ oA rA Γ) sz)) 0 0 (va_A (b_g cB cC cI cJ cZ oA rA Γ ++ b_w cB cC cI cJ cZ oA rA Γ ++ b_c cB cC cI cJ cZ oA rA Γ) sz)) (hI7 : ∀ (sz : Nat) (p0 : Int32) (Γ : HS) (res : Int32 × HS), rec 7 p0 0 0 Γ = some res → Met l yX2_arguments (g_ws yX2_arguments cX2_arguments 3 none) ({ frames := 4 + d, cells := 0, slots := 0, locals := 102 + 22 * d }) (va_Pc [.ref (oA 2), .int p0] (g_B (dC, dI) [(cB, .byte), (cC, .char), (cI, .int), (cJ, .long), (cZ, .boolean), (cP, .object "StoryHouse$Play")] sz (b_g cB cC cI cJ cZ oA rA Γ ++ b_w cB cC cI cJ cZ oA rA Γ ++ b_c cB cC cI cJ cZ oA rA Γ) g_0)) (va_Qv (fun (_ : Unit) => True) (g_Bo (dC, dI) (va_A (b_g cB cC cI cJ cZ oA rA Γ ++ b_w cB cC cI cJ cZ oA rA Γ ++ b_c cB cC cI cJ cZ oA rA Γ) sz) (fun (_ : Unit) => (b_g cB cC cI cJ cZ oA rA res.2 ++ b_w cB cC cI cJ cZ oA rA res.2 ++ b_c cB cC cI cJ cZ oA rA res.2))) (va_A (b_g cB cC cI cJ cZ oA rA Γ ++ b_w cB cC cI cJ cZ oA rA Γ ++ b_c cB cC cI cJ cZ oA rA Γ) sz)) 0 0 (va_A (b_g cB cC cI cJ cZ oA rA Γ ++ b_w cB cC cI cJ cZ oA rA Γ ++ b_c cB cC cI cJ cZ oA rA Γ) sz)) (hI8 : ∀ (sz : Nat)  (Γ : HS) (res : Int32 × HS), rec 8 0 0 0 Γ = some res → Met l yX2_index (g_ws yX2_index cX2_index 1 none) ({ frames := 4 + d, cells := 0, slots := 0, locals := 102 + 22 * d }) (va_Pc [.ref (oA 2)] (g_B (dC, dI) [(cB, .byte), (cC, .char), (cI, .int), (cJ, .long), (cZ, .boolean), (cP, .object "StoryHouse$Play")] sz (b_g cB cC cI cJ cZ oA rA Γ ++ b_w cB cC cI cJ cZ oA rA Γ ++ b_c cB cC cI cJ cZ oA rA Γ) g_0)) (va_Qv (fun (_ : Unit) => True) (g_Bo (dC, dI) (va_A (b_g cB cC cI cJ cZ oA rA Γ ++ b_w cB cC cI cJ cZ oA rA Γ ++ b_c cB cC cI cJ cZ oA rA Γ) sz) (fun (_ : Unit) => (b_g cB cC cI cJ cZ oA rA res.2 ++ b_w cB cC cI cJ cZ oA rA res.2 ++ b_c cB cC cI cJ cZ oA rA res.2))) (va_A (b_g cB cC cI cJ cZ oA rA Γ ++ b_w cB cC cI cJ cZ oA rA Γ ++ b_c cB cC cI cJ cZ oA rA Γ) sz)) 0 0 (va_A (b_g cB cC cI cJ cZ oA rA Γ ++ b_w cB cC cI cJ cZ oA rA Γ ++ b_c cB cC cI cJ cZ oA rA Γ) sz)) (sz : Nat)   (Γ : HS) (res : Int32 × HS) (hF : F_X2_both rec  Γ = some res) : Met l yX2_both (g_ws yX2_both cX2_both 3 none) ({ frames := 4 + (d + 1), cells := 0, slots := 0, locals := 102 + 22 * (d + 1) }) (va_Pc [.ref (oA 2)] (g_B (dC, dI) [(cB, .byte), (cC, .char), (cI, .int), (cJ, .long), (cZ, .boolean), (cP, .object "StoryHouse$Play")] sz (b_g cB cC cI cJ cZ oA rA Γ ++ b_w cB cC cI cJ cZ oA rA Γ ++ b_c cB cC cI cJ cZ oA rA Γ) g_0)) (va_Qv (fun (_ : Unit) => True) (g_Bo (dC, dI) (va_A (b_g cB cC cI cJ cZ oA rA Γ ++ b_w cB cC cI cJ cZ oA rA Γ ++ b_c cB cC cI cJ cZ oA rA Γ) sz) (fun (_ : Unit) => (b_g cB cC cI cJ cZ oA rA res.2 ++ b_w cB cC cI cJ cZ oA rA res.2 ++ b_c cB cC cI cJ cZ oA rA res.2))) (va_A (b_g cB cC cI cJ cZ oA rA Γ ++ b_w cB cC cI cJ cZ oA rA Γ ++ b_c cB cC cI cJ cZ oA rA Γ) sz)) 0 0 (va_A (b_g cB cC cI cJ cZ oA rA Γ ++ b_w cB cC cI cJ cZ oA rA Γ ++ b_c cB cC cI cJ cZ oA rA Γ) sz) := by
  refine Met.ofW (cc := cX2_both) (maxL := 3) (ret := none) (by decide) rfl ?_
  intro p e s m args below meth c s₁ B hml hv
  obtain ⟨rfl, hsz, hP, hK, hD0, hE, hX⟩ := hv
  have hx := B.exec
  have hb := B.bytes
  have hr := B.returns
  have hts0 := atoms_spec (ws := g_ws yX2_both cX2_both 3 none) B.pre
  have hts : ∀ w ∈ lw_good, w.before ([.ref (oA 2)] : List Value).toArray s = true := fun w z => hts0 w (List.mem_cons_of_mem _ z)
  have hown : s.vm.findClass RX2 = some m.cls := findClass_of_methodNamed B.named
  have hlocks := B.notSynchronized
  subst hsz
  have hD1 := hD0.self (sz := s.heap.size)
  generalize hAe : va_A (b_g cB cC cI cJ cZ oA rA Γ ++ b_w cB cC cI cJ cZ oA rA Γ ++ b_c cB cC cI cJ cZ oA rA Γ) s.heap.size = A at hD1 hE hX ⊢
  have hA : ∀ q : Nat, s.heap.size ≤ q → A q := fun q z => by rw [← hAe]; exact Or.inr z
  have hDD : ∀ Γ : HS, va_D A (b_g cB cC cI cJ cZ oA rA Γ ++ b_w cB cC cI cJ cZ oA rA Γ ++ b_c cB cC cI cJ cZ oA rA Γ) := fun Γ9 => va_D_fst (ws := (b_g cB cC cI cJ cZ oA rA Γ ++ b_w cB cC cI cJ cZ oA rA Γ ++ b_c cB cC cI cJ cZ oA rA Γ)) (ws' := (b_g cB cC cI cJ cZ oA rA Γ9 ++ b_w cB cC cI cJ cZ oA rA Γ9 ++ b_c cB cC cI cJ cZ oA rA Γ9)) rfl hD1
  have hN := hE.1
  have hS : va_S A s.heap s.heap [] := va_S.rf
  have hl := lv_entry ([.ref (oA 2)]) (n := 3) (Nat.le_of_ble_eq_true rfl)
  rw [lg_entry_eq]
  generalize (lg_sl ([.ref (oA 2)]) ++ List.replicate (3 - (lg_sl ([.ref (oA 2)])).length) Slot.unset).toArray = ls at hl ⊢
  have hl : lv_has ls 3 [(0, .ref (oA 2))] := hl
  unfold F_X2_both at hF
  refine lv_aload_n hx hb dX2_both_0 rfl (lv_at hl 0 rfl) ?_
  obtain ⟨u_1, hu_1, hF_2⟩ := Option.bind_eq_some_iff.mp hF
  clear hF
  have hPc := bx_P (bs := [b_g cB cC cI cJ cZ oA rA Γ, b_w cB cC cI cJ cZ oA rA Γ, b_c cB cC cI cJ cZ oA rA Γ]) (bs' := [b_g cB cC cI cJ cZ oA rA Γ, b_w cB cC cI cJ cZ oA rA Γ, b_c cB cC cI cJ cZ oA rA Γ]) (ws' := (b_g cB cC cI cJ cZ oA rA Γ ++ b_w cB cC cI cJ cZ oA rA Γ ++ b_c cB cC cI cJ cZ oA rA Γ)) hP fl_3 fl_3 [0, 1, 2] rfl
  have hDc := bx_D (bs := [b_g cB cC cI cJ cZ oA rA Γ, b_w cB cC cI cJ cZ oA rA Γ, b_c cB cC cI cJ cZ oA rA Γ]) (bs' := [b_g cB cC cI cJ cZ oA rA Γ, b_w cB cC cI cJ cZ oA rA Γ, b_c cB cC cI cJ cZ oA rA Γ]) (ws' := (b_g cB cC cI cJ cZ oA rA Γ ++ b_w cB cC cI cJ cZ oA rA Γ ++ b_c cB cC cI cJ cZ oA rA Γ)) (hDD Γ) fl_3 fl_3 [0, 1, 2] (by decide +kernel) rfl
  have hFc := bx_F (bs := [b_g cB cC cI cJ cZ oA rA Γ, b_w cB cC cI cJ cZ oA rA Γ, b_c cB cC cI cJ cZ oA rA Γ]) (bs' := [b_g cB cC cI cJ cZ oA rA Γ, b_w cB cC cI cJ cZ oA rA Γ, b_c cB cC cI cJ cZ oA rA Γ]) (wc := (b_g cB cC cI cJ cZ oA rA Γ ++ b_w cB cC cI cJ cZ oA rA Γ ++ b_c cB cC cI cJ cZ oA rA Γ)) (hDD Γ) hS hA fl_3 fl_3 [0, 1, 2] rfl
  refine g_ofv (wc := (b_g cB cC cI cJ cZ oA rA Γ ++ b_w cB cC cI cJ cZ oA rA Γ ++ b_c cB cC cI cJ cZ oA rA Γ)) (wr := ([] : va_W)) hP (hDD Γ) hS hFc (bx_ix [b_g cB cC cI cJ cZ oA rA Γ, b_w cB cC cI cJ cZ oA rA Γ, b_c cB cC cI cJ cZ oA rA Γ] [0, 1, 2]) (bx_ix [b_g cB cC cI cJ cZ oA rA Γ, b_w cB cC cI cJ cZ oA rA Γ, b_c cB cC cI cJ cZ oA rA Γ] []) (bx_C (bs := [b_g cB cC cI cJ cZ oA rA Γ, b_w cB cC cI cJ cZ oA rA Γ, b_c cB cC cI cJ cZ oA rA Γ]) (bs' := [b_g cB cC cI cJ cZ oA rA Γ, b_w cB cC cI cJ cZ oA rA Γ, b_c cB cC cI cJ cZ oA rA Γ]) (is := [0, 1, 2]) fl_3 fl_3 rfl) (bx_C (bs := [b_g cB cC cI cJ cZ oA rA Γ, b_w cB cC cI cJ cZ oA rA Γ, b_c cB cC cI cJ cZ oA rA Γ]) (bs' := []) (is := []) fl_3 fl_0 rfl) (bx_n (by decide +kernel)) (bx_d (by decide +kernel)) (va_runV (As := []) (rest := []) ⟨hx, hb, hml, hown, hts⟩ (hI2 s.heap.size Γ _ hu_1) (cwV 0 hts (g_gV wq_633 wq_634 wq_2018 wq_3 wq_635) rfl rfl rfl (by decide +kernel) ⟨by show 4 + d + 1 ≤ 4 + (d + 1); omega, by show 8 + (2 + 11) + (102 + 22 * d) ≤ 102 + 22 * (d + 1); omega⟩) (g_preV g_bl0 hK hPc hDc hS hE hFc g_to0 (q0 := 0) (ci := 2) rfl rfl) rfl rfl hl.1 rfl (lv_room (Nat.le_of_ble_eq_true rfl)) dX2_both_1 ⟨Nat.le_of_ble_eq_true rfl, Nat.le_of_ble_eq_true rfl⟩) (fun u9 H locs hw9 hP' hD' hS => ?_)
  clear hPc hDc hFc
  have hP : va_P (dC, dI) vwCl (b_g cB cC cI cJ cZ oA rA u_1.2 ++ b_w cB cC cI cJ cZ oA rA u_1.2 ++ b_c cB cC cI cJ cZ oA rA u_1.2) H := hP'
  clear hP' hD'
  refine lv_iconst (v := 0) hx hb dX2_both_4 (by decide +kernel) ?_
  refine lv_istore_n (lv' := [(1, .int 0), (0, .ref (oA 2))]) hx hb dX2_both_5 rfl hl (by decide) rfl (fun ls hl => ?_)
  refine loopF_ind (P := fun (s_3 : Int32 × HS) => ∀ (H : Heap) (locs : List Loc), va_P (dC, dI) vwCl (b_g cB cC cI cJ cZ oA rA s_3.2 ++ b_w cB cC cI cJ cZ oA rA s_3.2 ++ b_c cB cC cI cJ cZ oA rA s_3.2) H → va_S A s.heap H locs → ∀ ls : Array Slot, lv_has ls 3 [(0, .ref (oA 2)), (1, .int s_3.1)] → W p l e (headSpec (g_ws yX2_both cX2_both 3 none) { frames := 4 + (d + 1), cells := 0, slots := 0, locals := 102 + 22 * (d + 1) }).room s m ([.ref (oA 2)] : List Value).toArray below meth c H locs 0 0 (MQ below (va_Qv (fun (_ : Unit) => True) (g_Bo (dC, dI) A (fun (_ : Unit) => (b_g cB cC cI cJ cZ oA rA res.2 ++ b_w cB cC cI cJ cZ oA rA res.2 ++ b_c cB cC cI cJ cZ oA rA res.2))) A) ([.ref (oA 2)] : List Value).toArray s 0 0 A) (F0 m 6 ls [])) ?_ _ _ hF_2 _ _ hP hS ls (lv_sub hl [1, 0] rfl)
  intro again_4 s_3 ih_5 hF_6
  intro H locs hP hS ls hl
  refine lv_iload_n hx hb dX2_both_6 rfl (lv_at hl 1 rfl) ?_
  refine lv_aload_n hx hb dX2_both_7 rfl (lv_at hl 0 rfl) ?_
  refine va_get (D := (dC, dI)) (ci := 2) (v := .ref (oA 1)) (C := RX2) (T := TX2) (N := 8) hx hb hts ii_X2 hown hK hP 0 rfl rfl 0 (by decide) (hts (.fieldLink RX2 9 "StoryHouse$Grammar" "words" "LStoryHouse$Words;") wq_71) (fun _ h9 => h9) rfl dX2_both_8 ?_
  refine va_get (D := (dC, dI)) (ci := 10) (v := .int ((s_3.2 1).1 2)) (C := RX10) (T := TX10) (N := 12) hx hb hts ii_X10 hown hK hP 1 rfl rfl 2 (by decide) (hts (.fieldLink RX2 38 "StoryHouse$Words" "count" "I") wq_47) (fun _ h9 => h9) rfl dX2_both_11 ?_
  refine lv_icmp_ge (tgt := 65) hx hb dX2_both_14 (by decide) (fun c_7 => ?_) (fun c_7 => ?_)
  · have hF_8 := ipos c_7 hF_6
    clear hF_6
    have h9 := Option.some.inj hF_8
    subst h9
    exact W.vret hx hb hr (fun t ht hW => ⟨⟨(), rfl, trivial, m_end ht hP, hDD _⟩, hS.F ht⟩) hS.2.2 dX2_both_65
  · have hF_9 := ineg c_7 hF_6
    clear hF_6
    refine lv_aload_n hx hb dX2_both_17 rfl (lv_at hl 0 rfl) ?_
    refine lv_sipush (v := 216) hx hb dX2_both_18 (by decide +kernel) ?_
    obtain ⟨u_10, hu_10, hF_11⟩ := Option.bind_eq_some_iff.mp hF_9
    clear hF_9
    have hPc := bx_P (bs := [b_g cB cC cI cJ cZ oA rA s_3.2, b_w cB cC cI cJ cZ oA rA s_3.2, b_c cB cC cI cJ cZ oA rA s_3.2]) (bs' := [b_g cB cC cI cJ cZ oA rA s_3.2, b_w cB cC cI cJ cZ oA rA s_3.2, b_c cB cC cI cJ cZ oA rA s_3.2]) (ws' := (b_g cB cC cI cJ cZ oA rA s_3.2 ++ b_w cB cC cI cJ cZ oA rA s_3.2 ++ b_c cB cC cI cJ cZ oA rA s_3.2)) hP fl_3 fl_3 [0, 1, 2] rfl
    have hDc := bx_D (bs := [b_g cB cC cI cJ cZ oA rA s_3.2, b_w cB cC cI cJ cZ oA rA s_3.2, b_c cB cC cI cJ cZ oA rA s_3.2]) (bs' := [b_g cB cC cI cJ cZ oA rA s_3.2, b_w cB cC cI cJ cZ oA rA s_3.2, b_c cB cC cI cJ cZ oA rA s_3.2]) (ws' := (b_g cB cC cI cJ cZ oA rA s_3.2 ++ b_w cB cC cI cJ cZ oA rA s_3.2 ++ b_c cB cC cI cJ cZ oA rA s_3.2)) (hDD s_3.2) fl_3 fl_3 [0, 1, 2] (by decide +kernel) rfl
    have hFc := bx_F (bs := [b_g cB cC cI cJ cZ oA rA s_3.2, b_w cB cC cI cJ cZ oA rA s_3.2, b_c cB cC cI cJ cZ oA rA s_3.2]) (bs' := [b_g cB cC cI cJ cZ oA rA s_3.2, b_w cB cC cI cJ cZ oA rA s_3.2, b_c cB cC cI cJ cZ oA rA s_3.2]) (wc := (b_g cB cC cI cJ cZ oA rA s_3.2 ++ b_w cB cC cI cJ cZ oA rA s_3.2 ++ b_c cB cC cI cJ cZ oA rA s_3.2)) (hDD s_3.2) hS hA fl_3 fl_3 [0, 1, 2] rfl
    refine g_ofi (wc := (b_g cB cC cI cJ cZ oA rA s_3.2 ++ b_w cB cC cI cJ cZ oA rA s_3.2 ++ b_c cB cC cI cJ cZ oA rA s_3.2)) (wr := ([] : va_W)) hP (hDD s_3.2) hS hFc (bx_ix [b_g cB cC cI cJ cZ oA rA s_3.2, b_w cB cC cI cJ cZ oA rA s_3.2, b_c cB cC cI cJ cZ oA rA s_3.2] [0, 1, 2]) (bx_ix [b_g cB cC cI cJ cZ oA rA s_3.2, b_w cB cC cI cJ cZ oA rA s_3.2, b_c cB cC cI cJ cZ oA rA s_3.2] []) (bx_C (bs := [b_g cB cC cI cJ cZ oA rA s_3.2, b_w cB cC cI cJ cZ oA rA s_3.2, b_c cB cC cI cJ cZ oA rA s_3.2]) (bs' := [b_g cB cC cI cJ cZ oA rA s_3.2, b_w cB cC cI cJ cZ oA rA s_3.2, b_c cB cC cI cJ cZ oA rA s_3.2]) (is := [0, 1, 2]) fl_3 fl_3 rfl) (bx_C (bs := [b_g cB cC cI cJ cZ oA rA s_3.2, b_w cB cC cI cJ cZ oA rA s_3.2, b_c cB cC cI cJ cZ oA rA s_3.2]) (bs' := []) (is := []) fl_3 fl_0 rfl) (bx_n (by decide +kernel)) (bx_d (by decide +kernel)) (va_runV (As := [.int 216]) (rest := []) ⟨hx, hb, hml, hown, hts⟩ (k_X2_accept l dC dI cB cC cI cJ cZ cP oA rA H.size  216 s_3.2 _ hu_10) (cwV 1 hts (g_gV wq_573 wq_574 wq_2003 wq_3 wq_575) rfl rfl rfl (by decide +kernel) ⟨by show 2 + 1 ≤ 4 + (d + 1); omega, by show 8 + (2 + 11) + 60 ≤ 102 + 22 * (d + 1); omega⟩) (g_preV g_bl0 hK hPc hDc hS hE hFc g_to0 (q0 := 0) (ci := 2) rfl rfl) rfl rfl hl.1 rfl (lv_room (Nat.le_of_ble_eq_true rfl)) dX2_both_21 ⟨Nat.le_of_ble_eq_true rfl, Nat.le_of_ble_eq_true rfl⟩) (fun r9 u9 H locs hw9 hP' hD' hS => ?_)
    clear hPc hDc hFc
    subst hw9
    have hP : va_P (dC, dI) vwCl (b_g cB cC cI cJ cZ oA rA u_10.2 ++ b_w cB cC cI cJ cZ oA rA u_10.2 ++ b_c cB cC cI cJ cZ oA rA u_10.2) H := hP'
    clear hP' hD'
    refine lv_if_eq (tgt := 65) hx hb dX2_both_24 (by decide) (fun c_12 => ?_) (fun c_12 => ?_)
    · have hF_13 := ipos c_12 hF_11
      clear hF_11
      have h9 := Option.some.inj hF_13
      subst h9
      exact W.vret hx hb hr (fun t ht hW => ⟨⟨(), rfl, trivial, m_end ht hP, hDD _⟩, hS.F ht⟩) hS.2.2 dX2_both_65
    · have hF_14 := ineg c_12 hF_11
      clear hF_11
      refine lv_aload_n hx hb dX2_both_27 rfl (lv_at hl 0 rfl) ?_
      refine va_get (D := (dC, dI)) (ci := 2) (v := .ref (oA 5)) (C := RX2) (T := TX2) (N := 8) hx hb hts ii_X2 hown hK hP 0 rfl rfl 1 (by decide) (hts (.fieldLink RX2 15 "StoryHouse$Grammar" "code" "LStoryHouse$Code;") wq_72) (fun _ h9 => h9) rfl dX2_both_28 ?_
      refine lv_bipush (v := 43) hx hb dX2_both_31 (by decide +kernel) ?_
      refine lv_iconst (v := 0) hx hb dX2_both_33 (by decide +kernel) ?_
      obtain ⟨u_15, hu_15, hF_16⟩ := Option.bind_eq_some_iff.mp hF_14
      clear hF_14
      have hPc := bx_P (bs := [b_g cB cC cI cJ cZ oA rA u_10.2, b_w cB cC cI cJ cZ oA rA u_10.2, b_c cB cC cI cJ cZ oA rA u_10.2]) (bs' := [b_c cB cC cI cJ cZ oA rA u_10.2]) (ws' := (b_c cB cC cI cJ cZ oA rA u_10.2)) hP fl_3 fl_1 [2] rfl
      have hDc := bx_D (bs := [b_g cB cC cI cJ cZ oA rA u_10.2, b_w cB cC cI cJ cZ oA rA u_10.2, b_c cB cC cI cJ cZ oA rA u_10.2]) (bs' := [b_c cB cC cI cJ cZ oA rA u_10.2]) (ws' := (b_c cB cC cI cJ cZ oA rA u_10.2)) (hDD u_10.2) fl_3 fl_1 [2] (by decide +kernel) rfl
      have hFc := bx_F (bs := [b_g cB cC cI cJ cZ oA rA u_10.2, b_w cB cC cI cJ cZ oA rA u_10.2, b_c cB cC cI cJ cZ oA rA u_10.2]) (bs' := [b_c cB cC cI cJ cZ oA rA u_10.2]) (wc := (b_c cB cC cI cJ cZ oA rA u_10.2)) (hDD u_10.2) hS hA fl_3 fl_1 [2] rfl
      refine g_ofi (wc := (b_c cB cC cI cJ cZ oA rA u_10.2)) (wr := (b_g cB cC cI cJ cZ oA rA u_10.2 ++ b_w cB cC cI cJ cZ oA rA u_10.2)) hP (hDD u_10.2) hS hFc (bx_ix [b_g cB cC cI cJ cZ oA rA u_10.2, b_w cB cC cI cJ cZ oA rA u_10.2, b_c cB cC cI cJ cZ oA rA u_10.2] [2]) (bx_ix [b_g cB cC cI cJ cZ oA rA u_10.2, b_w cB cC cI cJ cZ oA rA u_10.2, b_c cB cC cI cJ cZ oA rA u_10.2] [0, 1]) (bx_C (bs := [b_g cB cC cI cJ cZ oA rA u_10.2, b_w cB cC cI cJ cZ oA rA u_10.2, b_c cB cC cI cJ cZ oA rA u_10.2]) (bs' := [b_c cB cC cI cJ cZ oA rA u_10.2]) (is := [2]) fl_3 fl_1 rfl) (bx_C (bs := [b_g cB cC cI cJ cZ oA rA u_10.2, b_w cB cC cI cJ cZ oA rA u_10.2, b_c cB cC cI cJ cZ oA rA u_10.2]) (bs' := [b_g cB cC cI cJ cZ oA rA u_10.2, b_w cB cC cI cJ cZ oA rA u_10.2]) (is := [0, 1]) fl_3 fl_2 rfl) (bx_n (by decide +kernel)) (bx_d (by decide +kernel)) (va_runV (As := [.int 43, .int 0]) (rest := []) ⟨hx, hb, hml, hown, hts⟩ (k_X0_add_ l dC dI cB cC cI cJ cZ cP oA rA H.size  43 0 u_10.2 _ hu_15) (cwV 2 hts (g_gV wq_656 wq_657 wq_658 wq_6 wq_659) rfl rfl rfl (by decide +kernel) ⟨by show 1 + 1 ≤ 4 + (d + 1); omega, by show 8 + (3 + 11) + 40 ≤ 102 + 22 * (d + 1); omega⟩) (g_preV g_bl0 hK hPc hDc hS hE hFc g_to0 (q0 := 0) (ci := 0) rfl rfl) rfl rfl hl.1 rfl (lv_room (Nat.le_of_ble_eq_true rfl)) dX2_both_34 ⟨Nat.le_of_ble_eq_true rfl, Nat.le_of_ble_eq_true rfl⟩) (fun r9 u9 H locs hw9 hP' hD' hS => ?_)
      clear hPc hDc hFc
      subst hw9
      obtain ⟨σ_17, eσ_17, hF_18⟩ := bnd_e hF_16
      clear hF_16
      have hP : va_P (dC, dI) vwCl (b_g cB cC cI cJ cZ oA rA σ_17 ++ b_w cB cC cI cJ cZ oA rA σ_17 ++ b_c cB cC cI cJ cZ oA rA σ_17) H := by rw [eσ_17]; exact bx_P (bs := [b_g cB cC cI cJ cZ oA rA u_10.2, b_w cB cC cI cJ cZ oA rA u_10.2] ++ [b_c cB cC cI cJ cZ oA rA u_15.2]) (bs' := [b_g cB cC cI cJ cZ oA rA (mrg (fun j => j == 5) u_10.2 u_15.2), b_w cB cC cI cJ cZ oA rA (mrg (fun j => j == 5) u_10.2 u_15.2), b_c cB cC cI cJ cZ oA rA (mrg (fun j => j == 5) u_10.2 u_15.2)]) hP' (fl_a fl_2 fl_1) fl_3 [0, 1, 2] rfl
      clear hP' hD'
      refine lv_istore_n (lv' := [(2, .int u_15.1), (0, .ref (oA 2)), (1, .int s_3.1)]) hx hb dX2_both_37 rfl hl (by decide) rfl (fun ls hl => ?_)
      refine lv_aload_n hx hb dX2_both_38 rfl (lv_at hl 1 rfl) ?_
      obtain ⟨u_19, hu_19, hF_20⟩ := Option.bind_eq_some_iff.mp hF_18
      clear hF_18
      have hPc := bx_P (bs := [b_g cB cC cI cJ cZ oA rA σ_17, b_w cB cC cI cJ cZ oA rA σ_17, b_c cB cC cI cJ cZ oA rA σ_17]) (bs' := [b_g cB cC cI cJ cZ oA rA σ_17, b_w cB cC cI cJ cZ oA rA σ_17, b_c cB cC cI cJ cZ oA rA σ_17]) (ws' := (b_g cB cC cI cJ cZ oA rA σ_17 ++ b_w cB cC cI cJ cZ oA rA σ_17 ++ b_c cB cC cI cJ cZ oA rA σ_17)) hP fl_3 fl_3 [0, 1, 2] rfl
      have hDc := bx_D (bs := [b_g cB cC cI cJ cZ oA rA σ_17, b_w cB cC cI cJ cZ oA rA σ_17, b_c cB cC cI cJ cZ oA rA σ_17]) (bs' := [b_g cB cC cI cJ cZ oA rA σ_17, b_w cB cC cI cJ cZ oA rA σ_17, b_c cB cC cI cJ cZ oA rA σ_17]) (ws' := (b_g cB cC cI cJ cZ oA rA σ_17 ++ b_w cB cC cI cJ cZ oA rA σ_17 ++ b_c cB cC cI cJ cZ oA rA σ_17)) (hDD σ_17) fl_3 fl_3 [0, 1, 2] (by decide +kernel) rfl
      have hFc := bx_F (bs := [b_g cB cC cI cJ cZ oA rA σ_17, b_w cB cC cI cJ cZ oA rA σ_17, b_c cB cC cI cJ cZ oA rA σ_17]) (bs' := [b_g cB cC cI cJ cZ oA rA σ_17, b_w cB cC cI cJ cZ oA rA σ_17, b_c cB cC cI cJ cZ oA rA σ_17]) (wc := (b_g cB cC cI cJ cZ oA rA σ_17 ++ b_w cB cC cI cJ cZ oA rA σ_17 ++ b_c cB cC cI cJ cZ oA rA σ_17)) (hDD σ_17) hS hA fl_3 fl_3 [0, 1, 2] rfl
      refine g_ofv (wc := (b_g cB cC cI cJ cZ oA rA σ_17 ++ b_w cB cC cI cJ cZ oA rA σ_17 ++ b_c cB cC cI cJ cZ oA rA σ_17)) (wr := ([] : va_W)) hP (hDD σ_17) hS hFc (bx_ix [b_g cB cC cI cJ cZ oA rA σ_17, b_w cB cC cI cJ cZ oA rA σ_17, b_c cB cC cI cJ cZ oA rA σ_17] [0, 1, 2]) (bx_ix [b_g cB cC cI cJ cZ oA rA σ_17, b_w cB cC cI cJ cZ oA rA σ_17, b_c cB cC cI cJ cZ oA rA σ_17] []) (bx_C (bs := [b_g cB cC cI cJ cZ oA rA σ_17, b_w cB cC cI cJ cZ oA rA σ_17, b_c cB cC cI cJ cZ oA rA σ_17]) (bs' := [b_g cB cC cI cJ cZ oA rA σ_17, b_w cB cC cI cJ cZ oA rA σ_17, b_c cB cC cI cJ cZ oA rA σ_17]) (is := [0, 1, 2]) fl_3 fl_3 rfl) (bx_C (bs := [b_g cB cC cI cJ cZ oA rA σ_17, b_w cB cC cI cJ cZ oA rA σ_17, b_c cB cC cI cJ cZ oA rA σ_17]) (bs' := []) (is := []) fl_3 fl_0 rfl) (bx_n (by decide +kernel)) (bx_d (by decide +kernel)) (va_runV (As := []) (rest := []) ⟨hx, hb, hml, hown, hts⟩ (hI2 H.size σ_17 _ hu_19) (cwV 0 hts (g_gV wq_633 wq_634 wq_2018 wq_3 wq_635) rfl rfl rfl (by decide +kernel) ⟨by show 4 + d + 1 ≤ 4 + (d + 1); omega, by show 8 + (2 + 11) + (102 + 22 * d) ≤ 102 + 22 * (d + 1); omega⟩) (g_preV g_bl0 hK hPc hDc hS hE hFc g_to0 (q0 := 0) (ci := 2) rfl rfl) rfl rfl hl.1 rfl (lv_room (Nat.le_of_ble_eq_true rfl)) dX2_both_39 ⟨Nat.le_of_ble_eq_true rfl, Nat.le_of_ble_eq_true rfl⟩) (fun u9 H locs hw9 hP' hD' hS => ?_)
      clear hPc hDc hFc
      have hP : va_P (dC, dI) vwCl (b_g cB cC cI cJ cZ oA rA u_19.2 ++ b_w cB cC cI cJ cZ oA rA u_19.2 ++ b_c cB cC cI cJ cZ oA rA u_19.2) H := hP'
      clear hP' hD'
      refine lv_aload_n hx hb dX2_both_42 rfl (lv_at hl 1 rfl) ?_
      refine va_get (D := (dC, dI)) (ci := 2) (v := .ref (oA 5)) (C := RX2) (T := TX2) (N := 8) hx hb hts ii_X2 hown hK hP 0 rfl rfl 1 (by decide) (hts (.fieldLink RX2 15 "StoryHouse$Grammar" "code" "LStoryHouse$Code;") wq_72) (fun _ h9 => h9) rfl dX2_both_43 ?_
      refine lv_bipush (v := 7) hx hb dX2_both_46 (by decide +kernel) ?_
      obtain ⟨u_21, hu_21, hF_22⟩ := Option.bind_eq_some_iff.mp hF_20
      clear hF_20
      have hPc := bx_P (bs := [b_g cB cC cI cJ cZ oA rA u_19.2, b_w cB cC cI cJ cZ oA rA u_19.2, b_c cB cC cI cJ cZ oA rA u_19.2]) (bs' := [b_c cB cC cI cJ cZ oA rA u_19.2]) (ws' := (b_c cB cC cI cJ cZ oA rA u_19.2)) hP fl_3 fl_1 [2] rfl
      have hDc := bx_D (bs := [b_g cB cC cI cJ cZ oA rA u_19.2, b_w cB cC cI cJ cZ oA rA u_19.2, b_c cB cC cI cJ cZ oA rA u_19.2]) (bs' := [b_c cB cC cI cJ cZ oA rA u_19.2]) (ws' := (b_c cB cC cI cJ cZ oA rA u_19.2)) (hDD u_19.2) fl_3 fl_1 [2] (by decide +kernel) rfl
      have hFc := bx_F (bs := [b_g cB cC cI cJ cZ oA rA u_19.2, b_w cB cC cI cJ cZ oA rA u_19.2, b_c cB cC cI cJ cZ oA rA u_19.2]) (bs' := [b_c cB cC cI cJ cZ oA rA u_19.2]) (wc := (b_c cB cC cI cJ cZ oA rA u_19.2)) (hDD u_19.2) hS hA fl_3 fl_1 [2] rfl
      refine g_ofv (wc := (b_c cB cC cI cJ cZ oA rA u_19.2)) (wr := (b_g cB cC cI cJ cZ oA rA u_19.2 ++ b_w cB cC cI cJ cZ oA rA u_19.2)) hP (hDD u_19.2) hS hFc (bx_ix [b_g cB cC cI cJ cZ oA rA u_19.2, b_w cB cC cI cJ cZ oA rA u_19.2, b_c cB cC cI cJ cZ oA rA u_19.2] [2]) (bx_ix [b_g cB cC cI cJ cZ oA rA u_19.2, b_w cB cC cI cJ cZ oA rA u_19.2, b_c cB cC cI cJ cZ oA rA u_19.2] [0, 1]) (bx_C (bs := [b_g cB cC cI cJ cZ oA rA u_19.2, b_w cB cC cI cJ cZ oA rA u_19.2, b_c cB cC cI cJ cZ oA rA u_19.2]) (bs' := [b_c cB cC cI cJ cZ oA rA u_19.2]) (is := [2]) fl_3 fl_1 rfl) (bx_C (bs := [b_g cB cC cI cJ cZ oA rA u_19.2, b_w cB cC cI cJ cZ oA rA u_19.2, b_c cB cC cI cJ cZ oA rA u_19.2]) (bs' := [b_g cB cC cI cJ cZ oA rA u_19.2, b_w cB cC cI cJ cZ oA rA u_19.2]) (is := [0, 1]) fl_3 fl_2 rfl) (bx_n (by decide +kernel)) (bx_d (by decide +kernel)) (va_runV (As := [.int 7]) (rest := []) ⟨hx, hb, hml, hown, hts⟩ (k_X0_add l dC dI cB cC cI cJ cZ cP oA rA H.size  7 u_19.2 _ hu_21) (cwV 1 hts (g_gV wq_636 wq_637 wq_638 wq_6 wq_639) rfl rfl rfl (by decide +kernel) ⟨by show 1 + 1 ≤ 4 + (d + 1); omega, by show 8 + (2 + 11) + 40 ≤ 102 + 22 * (d + 1); omega⟩) (g_preV g_bl0 hK hPc hDc hS hE hFc g_to0 (q0 := 0) (ci := 0) rfl rfl) rfl rfl hl.1 rfl (lv_room (Nat.le_of_ble_eq_true rfl)) dX2_both_48 ⟨Nat.le_of_ble_eq_true rfl, Nat.le_of_ble_eq_true rfl⟩) (fun u9 H locs hw9 hP' hD' hS => ?_)
      clear hPc hDc hFc
      obtain ⟨σ_23, eσ_23, hF_24⟩ := bnd_e hF_22
      clear hF_22
      have hP : va_P (dC, dI) vwCl (b_g cB cC cI cJ cZ oA rA σ_23 ++ b_w cB cC cI cJ cZ oA rA σ_23 ++ b_c cB cC cI cJ cZ oA rA σ_23) H := by rw [eσ_23]; exact bx_P (bs := [b_g cB cC cI cJ cZ oA rA u_19.2, b_w cB cC cI cJ cZ oA rA u_19.2] ++ [b_c cB cC cI cJ cZ oA rA u_21.2]) (bs' := [b_g cB cC cI cJ cZ oA rA (mrg (fun j => j == 5) u_19.2 u_21.2), b_w cB cC cI cJ cZ oA rA (mrg (fun j => j == 5) u_19.2 u_21.2), b_c cB cC cI cJ cZ oA rA (mrg (fun j => j == 5) u_19.2 u_21.2)]) hP' (fl_a fl_2 fl_1) fl_3 [0, 1, 2] rfl
      clear hP' hD'
      refine lv_aload_n hx hb dX2_both_51 rfl (lv_at hl 1 rfl) ?_
      refine va_get (D := (dC, dI)) (ci := 2) (v := .ref (oA 5)) (C := RX2) (T := TX2) (N := 8) hx hb hts ii_X2 hown hK hP 0 rfl rfl 1 (by decide) (hts (.fieldLink RX2 15 "StoryHouse$Grammar" "code" "LStoryHouse$Code;") wq_72) (fun _ h9 => h9) rfl dX2_both_52 ?_
      refine lv_iload_n hx hb dX2_both_55 rfl (lv_at hl 0 rfl) ?_
      obtain ⟨u_25, hu_25, hF_26⟩ := Option.bind_eq_some_iff.mp hF_24
      clear hF_24
      have hPc := bx_P (bs := [b_g cB cC cI cJ cZ oA rA σ_23, b_w cB cC cI cJ cZ oA rA σ_23, b_c cB cC cI cJ cZ oA rA σ_23]) (bs' := [b_c cB cC cI cJ cZ oA rA σ_23]) (ws' := (b_c cB cC cI cJ cZ oA rA σ_23)) hP fl_3 fl_1 [2] rfl
      have hDc := bx_D (bs := [b_g cB cC cI cJ cZ oA rA σ_23, b_w cB cC cI cJ cZ oA rA σ_23, b_c cB cC cI cJ cZ oA rA σ_23]) (bs' := [b_c cB cC cI cJ cZ oA rA σ_23]) (ws' := (b_c cB cC cI cJ cZ oA rA σ_23)) (hDD σ_23) fl_3 fl_1 [2] (by decide +kernel) rfl
      have hFc := bx_F (bs := [b_g cB cC cI cJ cZ oA rA σ_23, b_w cB cC cI cJ cZ oA rA σ_23, b_c cB cC cI cJ cZ oA rA σ_23]) (bs' := [b_c cB cC cI cJ cZ oA rA σ_23]) (wc := (b_c cB cC cI cJ cZ oA rA σ_23)) (hDD σ_23) hS hA fl_3 fl_1 [2] rfl
      refine g_ofv (wc := (b_c cB cC cI cJ cZ oA rA σ_23)) (wr := (b_g cB cC cI cJ cZ oA rA σ_23 ++ b_w cB cC cI cJ cZ oA rA σ_23)) hP (hDD σ_23) hS hFc (bx_ix [b_g cB cC cI cJ cZ oA rA σ_23, b_w cB cC cI cJ cZ oA rA σ_23, b_c cB cC cI cJ cZ oA rA σ_23] [2]) (bx_ix [b_g cB cC cI cJ cZ oA rA σ_23, b_w cB cC cI cJ cZ oA rA σ_23, b_c cB cC cI cJ cZ oA rA σ_23] [0, 1]) (bx_C (bs := [b_g cB cC cI cJ cZ oA rA σ_23, b_w cB cC cI cJ cZ oA rA σ_23, b_c cB cC cI cJ cZ oA rA σ_23]) (bs' := [b_c cB cC cI cJ cZ oA rA σ_23]) (is := [2]) fl_3 fl_1 rfl) (bx_C (bs := [b_g cB cC cI cJ cZ oA rA σ_23, b_w cB cC cI cJ cZ oA rA σ_23, b_c cB cC cI cJ cZ oA rA σ_23]) (bs' := [b_g cB cC cI cJ cZ oA rA σ_23, b_w cB cC cI cJ cZ oA rA σ_23]) (is := [0, 1]) fl_3 fl_2 rfl) (bx_n (by decide +kernel)) (bx_d (by decide +kernel)) (va_runV (As := [.int u_15.1]) (rest := []) ⟨hx, hb, hml, hown, hts⟩ (k_X0_aim l dC dI cB cC cI cJ cZ cP oA rA H.size  u_15.1 σ_23 _ hu_25) (cwV 1 hts (g_gV wq_672 wq_673 wq_674 wq_6 wq_675) rfl rfl rfl (by decide +kernel) ⟨by show 2 + 1 ≤ 4 + (d + 1); omega, by show 8 + (2 + 11) + 62 ≤ 102 + 22 * (d + 1); omega⟩) (g_preV g_bl0 hK hPc hDc hS hE hFc g_to0 (q0 := 0) (ci := 0) rfl rfl) rfl rfl hl.1 rfl (lv_room (Nat.le_of_ble_eq_true rfl)) dX2_both_56 ⟨Nat.le_of_ble_eq_true rfl, Nat.le_of_ble_eq_true rfl⟩) (fun u9 H locs hw9 hP' hD' hS => ?_)
      clear hPc hDc hFc
      obtain ⟨σ_27, eσ_27, hF_28⟩ := bnd_e hF_26
      clear hF_26
      have hP : va_P (dC, dI) vwCl (b_g cB cC cI cJ cZ oA rA σ_27 ++ b_w cB cC cI cJ cZ oA rA σ_27 ++ b_c cB cC cI cJ cZ oA rA σ_27) H := by rw [eσ_27]; exact bx_P (bs := [b_g cB cC cI cJ cZ oA rA σ_23, b_w cB cC cI cJ cZ oA rA σ_23] ++ [b_c cB cC cI cJ cZ oA rA u_25.2]) (bs' := [b_g cB cC cI cJ cZ oA rA (mrg (fun j => j == 5) σ_23 u_25.2), b_w cB cC cI cJ cZ oA rA (mrg (fun j => j == 5) σ_23 u_25.2), b_c cB cC cI cJ cZ oA rA (mrg (fun j => j == 5) σ_23 u_25.2)]) hP' (fl_a fl_2 fl_1) fl_3 [0, 1, 2] rfl
      clear hP' hD'
      obtain ⟨x_29, ex_29, hF_30⟩ := bnd_e hF_28
      clear hF_28
      refine lv_iinc (v := x_29) (lv' := [(1, .int x_29), (2, .int u_15.1), (0, .ref (oA 2))]) hx hb dX2_both_59 hl (k := 2) rfl (by rw [ex_29]; rfl) (by decide) rfl (fun ls hl => ?_)
      refine lv_goto (tgt := 6) hx hb dX2_both_62 (by decide) ?_
      exact ih_5 (x_29, σ_27) hF_30 _ _ hP hS ls (lv_sub hl [2, 0] rfl)

def F_X2_step (rec : HG)  (Γ : HS) : HR :=
  if ((Γ 2).1 3) = 218 then (
    (F_X2_deepen Γ).bind fun u_3 =>
    (rec 2 0 0 0 u_3.2).bind fun u_5 =>
    bnd (cI' u_5.2 2 4 (((u_5.2 2).1 4) - 1)) fun σ_7 =>
    (F_X0_add 8 σ_7).bind fun u_9 =>
    bnd (mrg (fun j => j == 5) σ_7 u_9.2) fun σ_11 =>
    some (0, σ_11)
  ) else (
    (rec 3 0 0 0 Γ).bind fun u_14 =>
    (F_X2_comparing ((u_14.2 2).1 3) u_14.2).bind fun u_16 =>
    if u_16.1 = 46 then (
      (F_X2_pass u_14.2).bind fun u_20 =>
      (F_X2_attribute u_16.1 u_20.2).bind fun u_22 =>
      some (0, u_22.2)
    ) else (
      if u_16.1 = (-1) then (
        some (0, u_14.2)
      ) else (
        (F_X2_pass u_14.2).bind fun u_28 =>
        (rec 3 0 0 0 u_28.2).bind fun u_30 =>
        (F_X0_add u_16.1 u_30.2).bind fun u_32 =>
        bnd (mrg (fun j => j == 5) u_30.2 u_32.2) fun σ_34 =>
        some (0, σ_34)
      )
    )
  )
set_option maxHeartbeats 4000000 in
set_option maxRecDepth 100000 in
theorem k_X2_step_st (l : Launch) (dC : Nat → ClassId) (dI : Nat → Nat → Nat) (cB cC cI cJ cZ cP : ClassId) (oA : Nat → Nat) (rA : Nat → Nat → Nat) (d : Nat) (rec : HG) (hI0 : ∀ (sz : Nat)  (Γ : HS) (res : Int32 × HS), rec 0 0 0 0 Γ = some res → Met l yX2_expression (g_ws yX2_expression cX2_expression 3 none) ({ frames := 4 + d, cells := 0, slots := 0, locals := 102 + 22 * d }) (va_Pc [.ref (oA 2)] (g_B (dC, dI) [(cB, .byte), (cC, .char), (cI, .int), (cJ, .long), (cZ, .boolean), (cP, .object "StoryHouse$Play")] sz (b_g cB cC cI cJ cZ oA rA Γ ++ b_w cB cC cI cJ cZ oA rA Γ ++ b_c cB cC cI cJ cZ oA rA Γ) g_0)) (va_Qv (fun (_ : Unit) => True) (g_Bo (dC, dI) (va_A (b_g cB cC cI cJ cZ oA rA Γ ++ b_w cB cC cI cJ cZ oA rA Γ ++ b_c cB cC cI cJ cZ oA rA Γ) sz) (fun (_ : Unit) => (b_g cB cC cI cJ cZ oA rA res.2 ++ b_w cB cC cI cJ cZ oA rA res.2 ++ b_c cB cC cI cJ cZ oA rA res.2))) (va_A (b_g cB cC cI cJ cZ oA rA Γ ++ b_w cB cC cI cJ cZ oA rA Γ ++ b_c cB cC cI cJ cZ oA rA Γ) sz)) 0 0 (va_A (b_g cB cC cI cJ cZ oA rA Γ ++ b_w cB cC cI cJ cZ oA rA Γ ++ b_c cB cC cI cJ cZ oA rA Γ) sz)) (hI1 : ∀ (sz : Nat)  (Γ : HS) (res : Int32 × HS), rec 1 0 0 0 Γ = some res → Met l yX2_both (g_ws yX2_both cX2_both 3 none) ({ frames := 4 + d, cells := 0, slots := 0, locals := 102 + 22 * d }) (va_Pc [.ref (oA 2)] (g_B (dC, dI) [(cB, .byte), (cC, .char), (cI, .int), (cJ, .long), (cZ, .boolean), (cP, .object "StoryHouse$Play")] sz (b_g cB cC cI cJ cZ oA rA Γ ++ b_w cB cC cI cJ cZ oA rA Γ ++ b_c cB cC cI cJ cZ oA rA Γ) g_0)) (va_Qv (fun (_ : Unit) => True) (g_Bo (dC, dI) (va_A (b_g cB cC cI cJ cZ oA rA Γ ++ b_w cB cC cI cJ cZ oA rA Γ ++ b_c cB cC cI cJ cZ oA rA Γ) sz) (fun (_ : Unit) => (b_g cB cC cI cJ cZ oA rA res.2 ++ b_w cB cC cI cJ cZ oA rA res.2 ++ b_c cB cC cI cJ cZ oA rA res.2))) (va_A (b_g cB cC cI cJ cZ oA rA Γ ++ b_w cB cC cI cJ cZ oA rA Γ ++ b_c cB cC cI cJ cZ oA rA Γ) sz)) 0 0 (va_A (b_g cB cC cI cJ cZ oA rA Γ ++ b_w cB cC cI cJ cZ oA rA Γ ++ b_c cB cC cI cJ cZ oA rA Γ) sz)) (hI2 : ∀ (sz : Nat)  (Γ : HS) (res : Int32 × HS), rec 2 0 0 0 Γ = some res → Met l yX2_step (g_ws yX2_step cX2_step 2 none) ({ frames := 4 + d, cells := 0, slots := 0, locals := 102 + 22 * d }) (va_Pc [.ref (oA 2)] (g_B (dC, dI) [(cB, .byte), (cC, .char), (cI, .int), (cJ, .long), (cZ, .boolean), (cP, .object "StoryHouse$Play")] sz (b_g cB cC cI cJ cZ oA rA Γ ++ b_w cB cC cI cJ cZ oA rA Γ ++ b_c cB cC cI cJ cZ oA rA Γ) g_0)) (va_Qv (fun (_ : Unit) => True) (g_Bo (dC, dI) (va_A (b_g cB cC cI cJ cZ oA rA Γ ++ b_w cB cC cI cJ cZ oA rA Γ ++ b_c cB cC cI cJ cZ oA rA Γ) sz) (fun (_ : Unit) => (b_g cB cC cI cJ cZ oA rA res.2 ++ b_w cB cC cI cJ cZ oA rA res.2 ++ b_c cB cC cI cJ cZ oA rA res.2))) (va_A (b_g cB cC cI cJ cZ oA rA Γ ++ b_w cB cC cI cJ cZ oA rA Γ ++ b_c cB cC cI cJ cZ oA rA Γ) sz)) 0 0 (va_A (b_g cB cC cI cJ cZ oA rA Γ ++ b_w cB cC cI cJ cZ oA rA Γ ++ b_c cB cC cI cJ cZ oA rA Γ) sz)) (hI3 : ∀ (sz : Nat)  (Γ : HS) (res : Int32 × HS), rec 3 0 0 0 Γ = some res → Met l yX2_sum (g_ws yX2_sum cX2_sum 3 none) ({ frames := 4 + d, cells := 0, slots := 0, locals := 102 + 22 * d }) (va_Pc [.ref (oA 2)] (g_B (dC, dI) [(cB, .byte), (cC, .char), (cI, .int), (cJ, .long), (cZ, .boolean), (cP, .object "StoryHouse$Play")] sz (b_g cB cC cI cJ cZ oA rA Γ ++ b_w cB cC cI cJ cZ oA rA Γ ++ b_c cB cC cI cJ cZ oA rA Γ) g_0)) (va_Qv (fun (_ : Unit) => True) (g_Bo (dC, dI) (va_A (b_g cB cC cI cJ cZ oA rA Γ ++ b_w cB cC cI cJ cZ oA rA Γ ++ b_c cB cC cI cJ cZ oA rA Γ) sz) (fun (_ : Unit) => (b_g cB cC cI cJ cZ oA rA res.2 ++ b_w cB cC cI cJ cZ oA rA res.2 ++ b_c cB cC cI cJ cZ oA rA res.2))) (va_A (b_g cB cC cI cJ cZ oA rA Γ ++ b_w cB cC cI cJ cZ oA rA Γ ++ b_c cB cC cI cJ cZ oA rA Γ) sz)) 0 0 (va_A (b_g cB cC cI cJ cZ oA rA Γ ++ b_w cB cC cI cJ cZ oA rA Γ ++ b_c cB cC cI cJ cZ oA rA Γ) sz)) (hI4 : ∀ (sz : Nat)  (Γ : HS) (res : Int32 × HS), rec 4 0 0 0 Γ = some res → Met l yX2_term (g_ws yX2_term cX2_term 3 none) ({ frames := 4 + d, cells := 0, slots := 0, locals := 102 + 22 * d }) (va_Pc [.ref (oA 2)] (g_B (dC, dI) [(cB, .byte), (cC, .char), (cI, .int), (cJ, .long), (cZ, .boolean), (cP, .object "StoryHouse$Play")] sz (b_g cB cC cI cJ cZ oA rA Γ ++ b_w cB cC cI cJ cZ oA rA Γ ++ b_c cB cC cI cJ cZ oA rA Γ) g_0)) (va_Qv (fun (_ : Unit) => True) (g_Bo (dC, dI) (va_A (b_g cB cC cI cJ cZ oA rA Γ ++ b_w cB cC cI cJ cZ oA rA Γ ++ b_c cB cC cI cJ cZ oA rA Γ) sz) (fun (_ : Unit) => (b_g cB cC cI cJ cZ oA rA res.2 ++ b_w cB cC cI cJ cZ oA rA res.2 ++ b_c cB cC cI cJ cZ oA rA res.2))) (va_A (b_g cB cC cI cJ cZ oA rA Γ ++ b_w cB cC cI cJ cZ oA rA Γ ++ b_c cB cC cI cJ cZ oA rA Γ) sz)) 0 0 (va_A (b_g cB cC cI cJ cZ oA rA Γ ++ b_w cB cC cI cJ cZ oA rA Γ ++ b_c cB cC cI cJ cZ oA rA Γ) sz)) (hI5 : ∀ (sz : Nat)  (Γ : HS) (res : Int32 × HS), rec 5 0 0 0 Γ = some res → Met l yX2_factor (g_ws yX2_factor cX2_factor 1 none) ({ frames := 4 + d, cells := 0, slots := 0, locals := 102 + 22 * d }) (va_Pc [.ref (oA 2)] (g_B (dC, dI) [(cB, .byte), (cC, .char), (cI, .int), (cJ, .long), (cZ, .boolean), (cP, .object "StoryHouse$Play")] sz (b_g cB cC cI cJ cZ oA rA Γ ++ b_w cB cC cI cJ cZ oA rA Γ ++ b_c cB cC cI cJ cZ oA rA Γ) g_0)) (va_Qv (fun (_ : Unit) => True) (g_Bo (dC, dI) (va_A (b_g cB cC cI cJ cZ oA rA Γ ++ b_w cB cC cI cJ cZ oA rA Γ ++ b_c cB cC cI cJ cZ oA rA Γ) sz) (fun (_ : Unit) => (b_g cB cC cI cJ cZ oA rA res.2 ++ b_w cB cC cI cJ cZ oA rA res.2 ++ b_c cB cC cI cJ cZ oA rA res.2))) (va_A (b_g cB cC cI cJ cZ oA rA Γ ++ b_w cB cC cI cJ cZ oA rA Γ ++ b_c cB cC cI cJ cZ oA rA Γ) sz)) 0 0 (va_A (b_g cB cC cI cJ cZ oA rA Γ ++ b_w cB cC cI cJ cZ oA rA Γ ++ b_c cB cC cI cJ cZ oA rA Γ) sz)) (hI6 : ∀ (sz : Nat)  (Γ : HS) (res : Int32 × HS), rec 6 0 0 0 Γ = some res → Met l yX2_primary (g_ws yX2_primary cX2_primary 3 none) ({ frames := 4 + d, cells := 0, slots := 0, locals := 102 + 22 * d }) (va_Pc [.ref (oA 2)] (g_B (dC, dI) [(cB, .byte), (cC, .char), (cI, .int), (cJ, .long), (cZ, .boolean), (cP, .object "StoryHouse$Play")] sz (b_g cB cC cI cJ cZ oA rA Γ ++ b_w cB cC cI cJ cZ oA rA Γ ++ b_c cB cC cI cJ cZ oA rA Γ) g_0)) (va_Qv (fun (_ : Unit) => True) (g_Bo (dC, dI) (va_A (b_g cB cC cI cJ cZ oA rA Γ ++ b_w cB cC cI cJ cZ oA rA Γ ++ b_c cB cC cI cJ cZ oA rA Γ) sz) (fun (_ : Unit) => (b_g cB cC cI cJ cZ oA rA res.2 ++ b_w cB cC cI cJ cZ oA rA res.2 ++ b_c cB cC cI cJ cZ oA rA res.2))) (va_A (b_g cB cC cI cJ cZ oA rA Γ ++ b_w cB cC cI cJ cZ oA rA Γ ++ b_c cB cC cI cJ cZ oA rA Γ) sz)) 0 0 (va_A (b_g cB cC cI cJ cZ oA rA Γ ++ b_w cB cC cI cJ cZ oA rA Γ ++ b_c cB cC cI cJ cZ oA rA Γ) sz)) (hI7 : ∀ (sz : Nat) (p0 : Int32) (Γ : HS) (res : Int32 × HS), rec 7 p0 0 0 Γ = some res → Met l yX2_arguments (g_ws yX2_arguments cX2_arguments 3 none) ({ frames := 4 + d, cells := 0, slots := 0, locals := 102 + 22 * d }) (va_Pc [.ref (oA 2), .int p0] (g_B (dC, dI) [(cB, .byte), (cC, .char), (cI, .int), (cJ, .long), (cZ, .boolean), (cP, .object "StoryHouse$Play")] sz (b_g cB cC cI cJ cZ oA rA Γ ++ b_w cB cC cI cJ cZ oA rA Γ ++ b_c cB cC cI cJ cZ oA rA Γ) g_0)) (va_Qv (fun (_ : Unit) => True) (g_Bo (dC, dI) (va_A (b_g cB cC cI cJ cZ oA rA Γ ++ b_w cB cC cI cJ cZ oA rA Γ ++ b_c cB cC cI cJ cZ oA rA Γ) sz) (fun (_ : Unit) => (b_g cB cC cI cJ cZ oA rA res.2 ++ b_w cB cC cI cJ cZ oA rA res.2 ++ b_c cB cC cI cJ cZ oA rA res.2))) (va_A (b_g cB cC cI cJ cZ oA rA Γ ++ b_w cB cC cI cJ cZ oA rA Γ ++ b_c cB cC cI cJ cZ oA rA Γ) sz)) 0 0 (va_A (b_g cB cC cI cJ cZ oA rA Γ ++ b_w cB cC cI cJ cZ oA rA Γ ++ b_c cB cC cI cJ cZ oA rA Γ) sz)) (hI8 : ∀ (sz : Nat)  (Γ : HS) (res : Int32 × HS), rec 8 0 0 0 Γ = some res → Met l yX2_index (g_ws yX2_index cX2_index 1 none) ({ frames := 4 + d, cells := 0, slots := 0, locals := 102 + 22 * d }) (va_Pc [.ref (oA 2)] (g_B (dC, dI) [(cB, .byte), (cC, .char), (cI, .int), (cJ, .long), (cZ, .boolean), (cP, .object "StoryHouse$Play")] sz (b_g cB cC cI cJ cZ oA rA Γ ++ b_w cB cC cI cJ cZ oA rA Γ ++ b_c cB cC cI cJ cZ oA rA Γ) g_0)) (va_Qv (fun (_ : Unit) => True) (g_Bo (dC, dI) (va_A (b_g cB cC cI cJ cZ oA rA Γ ++ b_w cB cC cI cJ cZ oA rA Γ ++ b_c cB cC cI cJ cZ oA rA Γ) sz) (fun (_ : Unit) => (b_g cB cC cI cJ cZ oA rA res.2 ++ b_w cB cC cI cJ cZ oA rA res.2 ++ b_c cB cC cI cJ cZ oA rA res.2))) (va_A (b_g cB cC cI cJ cZ oA rA Γ ++ b_w cB cC cI cJ cZ oA rA Γ ++ b_c cB cC cI cJ cZ oA rA Γ) sz)) 0 0 (va_A (b_g cB cC cI cJ cZ oA rA Γ ++ b_w cB cC cI cJ cZ oA rA Γ ++ b_c cB cC cI cJ cZ oA rA Γ) sz)) (sz : Nat)   (Γ : HS) (res : Int32 × HS) (hF : F_X2_step rec  Γ = some res) : Met l yX2_step (g_ws yX2_step cX2_step 2 none) ({ frames := 4 + (d + 1), cells := 0, slots := 0, locals := 102 + 22 * (d + 1) }) (va_Pc [.ref (oA 2)] (g_B (dC, dI) [(cB, .byte), (cC, .char), (cI, .int), (cJ, .long), (cZ, .boolean), (cP, .object "StoryHouse$Play")] sz (b_g cB cC cI cJ cZ oA rA Γ ++ b_w cB cC cI cJ cZ oA rA Γ ++ b_c cB cC cI cJ cZ oA rA Γ) g_0)) (va_Qv (fun (_ : Unit) => True) (g_Bo (dC, dI) (va_A (b_g cB cC cI cJ cZ oA rA Γ ++ b_w cB cC cI cJ cZ oA rA Γ ++ b_c cB cC cI cJ cZ oA rA Γ) sz) (fun (_ : Unit) => (b_g cB cC cI cJ cZ oA rA res.2 ++ b_w cB cC cI cJ cZ oA rA res.2 ++ b_c cB cC cI cJ cZ oA rA res.2))) (va_A (b_g cB cC cI cJ cZ oA rA Γ ++ b_w cB cC cI cJ cZ oA rA Γ ++ b_c cB cC cI cJ cZ oA rA Γ) sz)) 0 0 (va_A (b_g cB cC cI cJ cZ oA rA Γ ++ b_w cB cC cI cJ cZ oA rA Γ ++ b_c cB cC cI cJ cZ oA rA Γ) sz) := by
  refine Met.ofW (cc := cX2_step) (maxL := 2) (ret := none) (by decide) rfl ?_
  intro p e s m args below meth c s₁ B hml hv
  obtain ⟨rfl, hsz, hP, hK, hD0, hE, hX⟩ := hv
  have hx := B.exec
  have hb := B.bytes
  have hr := B.returns
  have hts0 := atoms_spec (ws := g_ws yX2_step cX2_step 2 none) B.pre
  have hts : ∀ w ∈ lw_good, w.before ([.ref (oA 2)] : List Value).toArray s = true := fun w z => hts0 w (List.mem_cons_of_mem _ z)
  have hown : s.vm.findClass RX2 = some m.cls := findClass_of_methodNamed B.named
  have hlocks := B.notSynchronized
  subst hsz
  have hD1 := hD0.self (sz := s.heap.size)
  generalize hAe : va_A (b_g cB cC cI cJ cZ oA rA Γ ++ b_w cB cC cI cJ cZ oA rA Γ ++ b_c cB cC cI cJ cZ oA rA Γ) s.heap.size = A at hD1 hE hX ⊢
  have hA : ∀ q : Nat, s.heap.size ≤ q → A q := fun q z => by rw [← hAe]; exact Or.inr z
  have hDD : ∀ Γ : HS, va_D A (b_g cB cC cI cJ cZ oA rA Γ ++ b_w cB cC cI cJ cZ oA rA Γ ++ b_c cB cC cI cJ cZ oA rA Γ) := fun Γ9 => va_D_fst (ws := (b_g cB cC cI cJ cZ oA rA Γ ++ b_w cB cC cI cJ cZ oA rA Γ ++ b_c cB cC cI cJ cZ oA rA Γ)) (ws' := (b_g cB cC cI cJ cZ oA rA Γ9 ++ b_w cB cC cI cJ cZ oA rA Γ9 ++ b_c cB cC cI cJ cZ oA rA Γ9)) rfl hD1
  have hN := hE.1
  have hS : va_S A s.heap s.heap [] := va_S.rf
  have hl := lv_entry ([.ref (oA 2)]) (n := 2) (Nat.le_of_ble_eq_true rfl)
  rw [lg_entry_eq]
  generalize (lg_sl ([.ref (oA 2)]) ++ List.replicate (2 - (lg_sl ([.ref (oA 2)])).length) Slot.unset).toArray = ls at hl ⊢
  have hl : lv_has ls 2 [(0, .ref (oA 2))] := hl
  unfold F_X2_step at hF
  refine lv_aload_n hx hb dX2_step_0 rfl (lv_at hl 0 rfl) ?_
  refine va_get (D := (dC, dI)) (ci := 2) (v := .int ((Γ 2).1 3)) (C := RX2) (T := TX2) (N := 8) hx hb hts ii_X2 hown hK hP 0 rfl rfl 3 (by decide) (hts (.fieldLink RX2 29 "StoryHouse$Grammar" "kind" "I") wq_74) (fun _ h9 => h9) rfl dX2_step_1 ?_
  refine lv_sipush (v := 218) hx hb dX2_step_4 (by decide +kernel) ?_
  refine lv_icmp_ne (tgt := 38) hx hb dX2_step_7 (by decide) (fun c_1 => ?_) (fun c_1 => ?_)
  · have hF_13 := ineg c_1 hF
    clear hF
    refine lv_aload_n hx hb dX2_step_38 rfl (lv_at hl 0 rfl) ?_
    obtain ⟨u_14, hu_14, hF_15⟩ := Option.bind_eq_some_iff.mp hF_13
    clear hF_13
    have hPc := bx_P (bs := [b_g cB cC cI cJ cZ oA rA Γ, b_w cB cC cI cJ cZ oA rA Γ, b_c cB cC cI cJ cZ oA rA Γ]) (bs' := [b_g cB cC cI cJ cZ oA rA Γ, b_w cB cC cI cJ cZ oA rA Γ, b_c cB cC cI cJ cZ oA rA Γ]) (ws' := (b_g cB cC cI cJ cZ oA rA Γ ++ b_w cB cC cI cJ cZ oA rA Γ ++ b_c cB cC cI cJ cZ oA rA Γ)) hP fl_3 fl_3 [0, 1, 2] rfl
    have hDc := bx_D (bs := [b_g cB cC cI cJ cZ oA rA Γ, b_w cB cC cI cJ cZ oA rA Γ, b_c cB cC cI cJ cZ oA rA Γ]) (bs' := [b_g cB cC cI cJ cZ oA rA Γ, b_w cB cC cI cJ cZ oA rA Γ, b_c cB cC cI cJ cZ oA rA Γ]) (ws' := (b_g cB cC cI cJ cZ oA rA Γ ++ b_w cB cC cI cJ cZ oA rA Γ ++ b_c cB cC cI cJ cZ oA rA Γ)) (hDD Γ) fl_3 fl_3 [0, 1, 2] (by decide +kernel) rfl
    have hFc := bx_F (bs := [b_g cB cC cI cJ cZ oA rA Γ, b_w cB cC cI cJ cZ oA rA Γ, b_c cB cC cI cJ cZ oA rA Γ]) (bs' := [b_g cB cC cI cJ cZ oA rA Γ, b_w cB cC cI cJ cZ oA rA Γ, b_c cB cC cI cJ cZ oA rA Γ]) (wc := (b_g cB cC cI cJ cZ oA rA Γ ++ b_w cB cC cI cJ cZ oA rA Γ ++ b_c cB cC cI cJ cZ oA rA Γ)) (hDD Γ) hS hA fl_3 fl_3 [0, 1, 2] rfl
    refine g_ofv (wc := (b_g cB cC cI cJ cZ oA rA Γ ++ b_w cB cC cI cJ cZ oA rA Γ ++ b_c cB cC cI cJ cZ oA rA Γ)) (wr := ([] : va_W)) hP (hDD Γ) hS hFc (bx_ix [b_g cB cC cI cJ cZ oA rA Γ, b_w cB cC cI cJ cZ oA rA Γ, b_c cB cC cI cJ cZ oA rA Γ] [0, 1, 2]) (bx_ix [b_g cB cC cI cJ cZ oA rA Γ, b_w cB cC cI cJ cZ oA rA Γ, b_c cB cC cI cJ cZ oA rA Γ] []) (bx_C (bs := [b_g cB cC cI cJ cZ oA rA Γ, b_w cB cC cI cJ cZ oA rA Γ, b_c cB cC cI cJ cZ oA rA Γ]) (bs' := [b_g cB cC cI cJ cZ oA rA Γ, b_w cB cC cI cJ cZ oA rA Γ, b_c cB cC cI cJ cZ oA rA Γ]) (is := [0, 1, 2]) fl_3 fl_3 rfl) (bx_C (bs := [b_g cB cC cI cJ cZ oA rA Γ, b_w cB cC cI cJ cZ oA rA Γ, b_c cB cC cI cJ cZ oA rA Γ]) (bs' := []) (is := []) fl_3 fl_0 rfl) (bx_n (by decide +kernel)) (bx_d (by decide +kernel)) (va_runV (As := []) (rest := []) ⟨hx, hb, hml, hown, hts⟩ (hI3 s.heap.size Γ _ hu_14) (cwV 0 hts (g_gV wq_640 wq_641 wq_2019 wq_3 wq_642) rfl rfl rfl (by decide +kernel) ⟨by show 4 + d + 1 ≤ 4 + (d + 1); omega, by show 8 + (3 + 11) + (102 + 22 * d) ≤ 102 + 22 * (d + 1); omega⟩) (g_preV g_bl0 hK hPc hDc hS hE hFc g_to0 (q0 := 0) (ci := 2) rfl rfl) rfl rfl hl.1 rfl (lv_room (Nat.le_of_ble_eq_true rfl)) dX2_step_39 ⟨Nat.le_of_ble_eq_true rfl, Nat.le_of_ble_eq_true rfl⟩) (fun u9 H locs hw9 hP' hD' hS => ?_)
    clear hPc hDc hFc
    have hP : va_P (dC, dI) vwCl (b_g cB cC cI cJ cZ oA rA u_14.2 ++ b_w cB cC cI cJ cZ oA rA u_14.2 ++ b_c cB cC cI cJ cZ oA rA u_14.2) H := hP'
    clear hP' hD'
    refine lv_aload_n hx hb dX2_step_42 rfl (lv_at hl 0 rfl) ?_
    refine va_get (D := (dC, dI)) (ci := 2) (v := .int ((u_14.2 2).1 3)) (C := RX2) (T := TX2) (N := 8) hx hb hts ii_X2 hown hK hP 0 rfl rfl 3 (by decide) (hts (.fieldLink RX2 29 "StoryHouse$Grammar" "kind" "I") wq_74) (fun _ h9 => h9) rfl dX2_step_43 ?_
    obtain ⟨u_16, hu_16, hF_17⟩ := Option.bind_eq_some_iff.mp hF_15
    clear hF_15
    have hPc : va_P (dC, dI) vwCl [] H := fun k q z => by simp at z
    have hDc : va_D A [] := ⟨fun i j p q z => by simp at z, fun k q z => by simp at z⟩
    have hFc := c_nil hA hS
    refine c_cs (v := u_16.1) hA hP hS (va_runS (As := [.int ((u_14.2 2).1 3)]) (rest := []) ⟨hx, hb, hml, hown, hts⟩ (k_X2_comparing l dC dI cB cC cI cJ cZ cP oA rA H.size  ((u_14.2 2).1 3) u_14.2 _ hu_16) (va_cwS 1 hts (g_gS wq_666 wq_667 wq_3 wq_668) rfl rfl rfl (by decide +kernel) ⟨by show 1 + 1 ≤ 4 + (d + 1); omega, by show 8 + (1 + 11) + 40 ≤ 102 + 22 * (d + 1); omega⟩) (g_preS g_bl0 hK hPc hDc hS hE hFc g_to0) rfl rfl hl.1 rfl (lv_room (Nat.le_of_ble_eq_true rfl)) dX2_step_46 ⟨Nat.le_of_ble_eq_true rfl, Nat.le_of_ble_eq_true rfl⟩) (fun H locs hP hS => ?_)
    clear hPc hDc hFc
    refine lv_istore_n (lv' := [(1, .int u_16.1), (0, .ref (oA 2))]) hx hb dX2_step_49 rfl hl (by decide) rfl (fun ls hl => ?_)
    refine lv_iload_n hx hb dX2_step_50 rfl (lv_at hl 0 rfl) ?_
    refine lv_bipush (v := 46) hx hb dX2_step_51 (by decide +kernel) ?_
    refine lv_icmp_ne (tgt := 68) hx hb dX2_step_53 (by decide) (fun c_18 => ?_) (fun c_18 => ?_)
    · have hF_24 := ineg c_18 hF_17
      clear hF_17
      refine lv_iload_n hx hb dX2_step_68 rfl (lv_at hl 0 rfl) ?_
      refine lv_iconst (v := (-1)) hx hb dX2_step_69 (by decide +kernel) ?_
      refine lv_icmp_eq (tgt := 89) hx hb dX2_step_70 (by decide) (fun c_25 => ?_) (fun c_25 => ?_)
      · have hF_26 := ipos c_25 hF_24
        clear hF_24
        have h9 := Option.some.inj hF_26
        subst h9
        exact W.vret hx hb hr (fun t ht hW => ⟨⟨(), rfl, trivial, m_end ht hP, hDD _⟩, hS.F ht⟩) hS.2.2 dX2_step_89
      · have hF_27 := ineg c_25 hF_24
        clear hF_24
        refine lv_aload_n hx hb dX2_step_73 rfl (lv_at hl 1 rfl) ?_
        obtain ⟨u_28, hu_28, hF_29⟩ := Option.bind_eq_some_iff.mp hF_27
        clear hF_27
        have hPc := bx_P (bs := [b_g cB cC cI cJ cZ oA rA u_14.2, b_w cB cC cI cJ cZ oA rA u_14.2, b_c cB cC cI cJ cZ oA rA u_14.2]) (bs' := [b_g cB cC cI cJ cZ oA rA u_14.2, b_w cB cC cI cJ cZ oA rA u_14.2, b_c cB cC cI cJ cZ oA rA u_14.2]) (ws' := (b_g cB cC cI cJ cZ oA rA u_14.2 ++ b_w cB cC cI cJ cZ oA rA u_14.2 ++ b_c cB cC cI cJ cZ oA rA u_14.2)) hP fl_3 fl_3 [0, 1, 2] rfl
        have hDc := bx_D (bs := [b_g cB cC cI cJ cZ oA rA u_14.2, b_w cB cC cI cJ cZ oA rA u_14.2, b_c cB cC cI cJ cZ oA rA u_14.2]) (bs' := [b_g cB cC cI cJ cZ oA rA u_14.2, b_w cB cC cI cJ cZ oA rA u_14.2, b_c cB cC cI cJ cZ oA rA u_14.2]) (ws' := (b_g cB cC cI cJ cZ oA rA u_14.2 ++ b_w cB cC cI cJ cZ oA rA u_14.2 ++ b_c cB cC cI cJ cZ oA rA u_14.2)) (hDD u_14.2) fl_3 fl_3 [0, 1, 2] (by decide +kernel) rfl
        have hFc := bx_F (bs := [b_g cB cC cI cJ cZ oA rA u_14.2, b_w cB cC cI cJ cZ oA rA u_14.2, b_c cB cC cI cJ cZ oA rA u_14.2]) (bs' := [b_g cB cC cI cJ cZ oA rA u_14.2, b_w cB cC cI cJ cZ oA rA u_14.2, b_c cB cC cI cJ cZ oA rA u_14.2]) (wc := (b_g cB cC cI cJ cZ oA rA u_14.2 ++ b_w cB cC cI cJ cZ oA rA u_14.2 ++ b_c cB cC cI cJ cZ oA rA u_14.2)) (hDD u_14.2) hS hA fl_3 fl_3 [0, 1, 2] rfl
        refine g_ofv (wc := (b_g cB cC cI cJ cZ oA rA u_14.2 ++ b_w cB cC cI cJ cZ oA rA u_14.2 ++ b_c cB cC cI cJ cZ oA rA u_14.2)) (wr := ([] : va_W)) hP (hDD u_14.2) hS hFc (bx_ix [b_g cB cC cI cJ cZ oA rA u_14.2, b_w cB cC cI cJ cZ oA rA u_14.2, b_c cB cC cI cJ cZ oA rA u_14.2] [0, 1, 2]) (bx_ix [b_g cB cC cI cJ cZ oA rA u_14.2, b_w cB cC cI cJ cZ oA rA u_14.2, b_c cB cC cI cJ cZ oA rA u_14.2] []) (bx_C (bs := [b_g cB cC cI cJ cZ oA rA u_14.2, b_w cB cC cI cJ cZ oA rA u_14.2, b_c cB cC cI cJ cZ oA rA u_14.2]) (bs' := [b_g cB cC cI cJ cZ oA rA u_14.2, b_w cB cC cI cJ cZ oA rA u_14.2, b_c cB cC cI cJ cZ oA rA u_14.2]) (is := [0, 1, 2]) fl_3 fl_3 rfl) (bx_C (bs := [b_g cB cC cI cJ cZ oA rA u_14.2, b_w cB cC cI cJ cZ oA rA u_14.2, b_c cB cC cI cJ cZ oA rA u_14.2]) (bs' := []) (is := []) fl_3 fl_0 rfl) (bx_n (by decide +kernel)) (bx_d (by decide +kernel)) (va_runV (As := []) (rest := []) ⟨hx, hb, hml, hown, hts⟩ (k_X2_pass l dC dI cB cC cI cJ cZ cP oA rA H.size  u_14.2 _ hu_28) (cwV 0 hts (g_gV wq_555 wq_556 wq_1997 wq_3 wq_557) rfl rfl rfl (by decide +kernel) ⟨by show 1 + 1 ≤ 4 + (d + 1); omega, by show 8 + (1 + 11) + 40 ≤ 102 + 22 * (d + 1); omega⟩) (g_preV g_bl0 hK hPc hDc hS hE hFc g_to0 (q0 := 0) (ci := 2) rfl rfl) rfl rfl hl.1 rfl (lv_room (Nat.le_of_ble_eq_true rfl)) dX2_step_74 ⟨Nat.le_of_ble_eq_true rfl, Nat.le_of_ble_eq_true rfl⟩) (fun u9 H locs hw9 hP' hD' hS => ?_)
        clear hPc hDc hFc
        have hP : va_P (dC, dI) vwCl (b_g cB cC cI cJ cZ oA rA u_28.2 ++ b_w cB cC cI cJ cZ oA rA u_28.2 ++ b_c cB cC cI cJ cZ oA rA u_28.2) H := hP'
        clear hP' hD'
        refine lv_aload_n hx hb dX2_step_77 rfl (lv_at hl 1 rfl) ?_
        obtain ⟨u_30, hu_30, hF_31⟩ := Option.bind_eq_some_iff.mp hF_29
        clear hF_29
        have hPc := bx_P (bs := [b_g cB cC cI cJ cZ oA rA u_28.2, b_w cB cC cI cJ cZ oA rA u_28.2, b_c cB cC cI cJ cZ oA rA u_28.2]) (bs' := [b_g cB cC cI cJ cZ oA rA u_28.2, b_w cB cC cI cJ cZ oA rA u_28.2, b_c cB cC cI cJ cZ oA rA u_28.2]) (ws' := (b_g cB cC cI cJ cZ oA rA u_28.2 ++ b_w cB cC cI cJ cZ oA rA u_28.2 ++ b_c cB cC cI cJ cZ oA rA u_28.2)) hP fl_3 fl_3 [0, 1, 2] rfl
        have hDc := bx_D (bs := [b_g cB cC cI cJ cZ oA rA u_28.2, b_w cB cC cI cJ cZ oA rA u_28.2, b_c cB cC cI cJ cZ oA rA u_28.2]) (bs' := [b_g cB cC cI cJ cZ oA rA u_28.2, b_w cB cC cI cJ cZ oA rA u_28.2, b_c cB cC cI cJ cZ oA rA u_28.2]) (ws' := (b_g cB cC cI cJ cZ oA rA u_28.2 ++ b_w cB cC cI cJ cZ oA rA u_28.2 ++ b_c cB cC cI cJ cZ oA rA u_28.2)) (hDD u_28.2) fl_3 fl_3 [0, 1, 2] (by decide +kernel) rfl
        have hFc := bx_F (bs := [b_g cB cC cI cJ cZ oA rA u_28.2, b_w cB cC cI cJ cZ oA rA u_28.2, b_c cB cC cI cJ cZ oA rA u_28.2]) (bs' := [b_g cB cC cI cJ cZ oA rA u_28.2, b_w cB cC cI cJ cZ oA rA u_28.2, b_c cB cC cI cJ cZ oA rA u_28.2]) (wc := (b_g cB cC cI cJ cZ oA rA u_28.2 ++ b_w cB cC cI cJ cZ oA rA u_28.2 ++ b_c cB cC cI cJ cZ oA rA u_28.2)) (hDD u_28.2) hS hA fl_3 fl_3 [0, 1, 2] rfl
        refine g_ofv (wc := (b_g cB cC cI cJ cZ oA rA u_28.2 ++ b_w cB cC cI cJ cZ oA rA u_28.2 ++ b_c cB cC cI cJ cZ oA rA u_28.2)) (wr := ([] : va_W)) hP (hDD u_28.2) hS hFc (bx_ix [b_g cB cC cI cJ cZ oA rA u_28.2, b_w cB cC cI cJ cZ oA rA u_28.2, b_c cB cC cI cJ cZ oA rA u_28.2] [0, 1, 2]) (bx_ix [b_g cB cC cI cJ cZ oA rA u_28.2, b_w cB cC cI cJ cZ oA rA u_28.2, b_c cB cC cI cJ cZ oA rA u_28.2] []) (bx_C (bs := [b_g cB cC cI cJ cZ oA rA u_28.2, b_w cB cC cI cJ cZ oA rA u_28.2, b_c cB cC cI cJ cZ oA rA u_28.2]) (bs' := [b_g cB cC cI cJ cZ oA rA u_28.2, b_w cB cC cI cJ cZ oA rA u_28.2, b_c cB cC cI cJ cZ oA rA u_28.2]) (is := [0, 1, 2]) fl_3 fl_3 rfl) (bx_C (bs := [b_g cB cC cI cJ cZ oA rA u_28.2, b_w cB cC cI cJ cZ oA rA u_28.2, b_c cB cC cI cJ cZ oA rA u_28.2]) (bs' := []) (is := []) fl_3 fl_0 rfl) (bx_n (by decide +kernel)) (bx_d (by decide +kernel)) (va_runV (As := []) (rest := []) ⟨hx, hb, hml, hown, hts⟩ (hI3 H.size u_28.2 _ hu_30) (cwV 0 hts (g_gV wq_640 wq_641 wq_2019 wq_3 wq_642) rfl rfl rfl (by decide +kernel) ⟨by show 4 + d + 1 ≤ 4 + (d + 1); omega, by show 8 + (3 + 11) + (102 + 22 * d) ≤ 102 + 22 * (d + 1); omega⟩) (g_preV g_bl0 hK hPc hDc hS hE hFc g_to0 (q0 := 0) (ci := 2) rfl rfl) rfl rfl hl.1 rfl (lv_room (Nat.le_of_ble_eq_true rfl)) dX2_step_78 ⟨Nat.le_of_ble_eq_true rfl, Nat.le_of_ble_eq_true rfl⟩) (fun u9 H locs hw9 hP' hD' hS => ?_)
        clear hPc hDc hFc
        have hP : va_P (dC, dI) vwCl (b_g cB cC cI cJ cZ oA rA u_30.2 ++ b_w cB cC cI cJ cZ oA rA u_30.2 ++ b_c cB cC cI cJ cZ oA rA u_30.2) H := hP'
        clear hP' hD'
        refine lv_aload_n hx hb dX2_step_81 rfl (lv_at hl 1 rfl) ?_
        refine va_get (D := (dC, dI)) (ci := 2) (v := .ref (oA 5)) (C := RX2) (T := TX2) (N := 8) hx hb hts ii_X2 hown hK hP 0 rfl rfl 1 (by decide) (hts (.fieldLink RX2 15 "StoryHouse$Grammar" "code" "LStoryHouse$Code;") wq_72) (fun _ h9 => h9) rfl dX2_step_82 ?_
        refine lv_iload_n hx hb dX2_step_85 rfl (lv_at hl 0 rfl) ?_
        obtain ⟨u_32, hu_32, hF_33⟩ := Option.bind_eq_some_iff.mp hF_31
        clear hF_31
        have hPc := bx_P (bs := [b_g cB cC cI cJ cZ oA rA u_30.2, b_w cB cC cI cJ cZ oA rA u_30.2, b_c cB cC cI cJ cZ oA rA u_30.2]) (bs' := [b_c cB cC cI cJ cZ oA rA u_30.2]) (ws' := (b_c cB cC cI cJ cZ oA rA u_30.2)) hP fl_3 fl_1 [2] rfl
        have hDc := bx_D (bs := [b_g cB cC cI cJ cZ oA rA u_30.2, b_w cB cC cI cJ cZ oA rA u_30.2, b_c cB cC cI cJ cZ oA rA u_30.2]) (bs' := [b_c cB cC cI cJ cZ oA rA u_30.2]) (ws' := (b_c cB cC cI cJ cZ oA rA u_30.2)) (hDD u_30.2) fl_3 fl_1 [2] (by decide +kernel) rfl
        have hFc := bx_F (bs := [b_g cB cC cI cJ cZ oA rA u_30.2, b_w cB cC cI cJ cZ oA rA u_30.2, b_c cB cC cI cJ cZ oA rA u_30.2]) (bs' := [b_c cB cC cI cJ cZ oA rA u_30.2]) (wc := (b_c cB cC cI cJ cZ oA rA u_30.2)) (hDD u_30.2) hS hA fl_3 fl_1 [2] rfl
        refine g_ofv (wc := (b_c cB cC cI cJ cZ oA rA u_30.2)) (wr := (b_g cB cC cI cJ cZ oA rA u_30.2 ++ b_w cB cC cI cJ cZ oA rA u_30.2)) hP (hDD u_30.2) hS hFc (bx_ix [b_g cB cC cI cJ cZ oA rA u_30.2, b_w cB cC cI cJ cZ oA rA u_30.2, b_c cB cC cI cJ cZ oA rA u_30.2] [2]) (bx_ix [b_g cB cC cI cJ cZ oA rA u_30.2, b_w cB cC cI cJ cZ oA rA u_30.2, b_c cB cC cI cJ cZ oA rA u_30.2] [0, 1]) (bx_C (bs := [b_g cB cC cI cJ cZ oA rA u_30.2, b_w cB cC cI cJ cZ oA rA u_30.2, b_c cB cC cI cJ cZ oA rA u_30.2]) (bs' := [b_c cB cC cI cJ cZ oA rA u_30.2]) (is := [2]) fl_3 fl_1 rfl) (bx_C (bs := [b_g cB cC cI cJ cZ oA rA u_30.2, b_w cB cC cI cJ cZ oA rA u_30.2, b_c cB cC cI cJ cZ oA rA u_30.2]) (bs' := [b_g cB cC cI cJ cZ oA rA u_30.2, b_w cB cC cI cJ cZ oA rA u_30.2]) (is := [0, 1]) fl_3 fl_2 rfl) (bx_n (by decide +kernel)) (bx_d (by decide +kernel)) (va_runV (As := [.int u_16.1]) (rest := []) ⟨hx, hb, hml, hown, hts⟩ (k_X0_add l dC dI cB cC cI cJ cZ cP oA rA H.size  u_16.1 u_30.2 _ hu_32) (cwV 1 hts (g_gV wq_636 wq_637 wq_638 wq_6 wq_639) rfl rfl rfl (by decide +kernel) ⟨by show 1 + 1 ≤ 4 + (d + 1); omega, by show 8 + (2 + 11) + 40 ≤ 102 + 22 * (d + 1); omega⟩) (g_preV g_bl0 hK hPc hDc hS hE hFc g_to0 (q0 := 0) (ci := 0) rfl rfl) rfl rfl hl.1 rfl (lv_room (Nat.le_of_ble_eq_true rfl)) dX2_step_86 ⟨Nat.le_of_ble_eq_true rfl, Nat.le_of_ble_eq_true rfl⟩) (fun u9 H locs hw9 hP' hD' hS => ?_)
        clear hPc hDc hFc
        obtain ⟨σ_34, eσ_34, hF_35⟩ := bnd_e hF_33
        clear hF_33
        have hP : va_P (dC, dI) vwCl (b_g cB cC cI cJ cZ oA rA σ_34 ++ b_w cB cC cI cJ cZ oA rA σ_34 ++ b_c cB cC cI cJ cZ oA rA σ_34) H := by rw [eσ_34]; exact bx_P (bs := [b_g cB cC cI cJ cZ oA rA u_30.2, b_w cB cC cI cJ cZ oA rA u_30.2] ++ [b_c cB cC cI cJ cZ oA rA u_32.2]) (bs' := [b_g cB cC cI cJ cZ oA rA (mrg (fun j => j == 5) u_30.2 u_32.2), b_w cB cC cI cJ cZ oA rA (mrg (fun j => j == 5) u_30.2 u_32.2), b_c cB cC cI cJ cZ oA rA (mrg (fun j => j == 5) u_30.2 u_32.2)]) hP' (fl_a fl_2 fl_1) fl_3 [0, 1, 2] rfl
        clear hP' hD'
        have h9 := Option.some.inj hF_35
        subst h9
        exact W.vret hx hb hr (fun t ht hW => ⟨⟨(), rfl, trivial, m_end ht hP, hDD _⟩, hS.F ht⟩) hS.2.2 dX2_step_89
    · have hF_19 := ipos c_18 hF_17
      clear hF_17
      refine lv_aload_n hx hb dX2_step_56 rfl (lv_at hl 1 rfl) ?_
      obtain ⟨u_20, hu_20, hF_21⟩ := Option.bind_eq_some_iff.mp hF_19
      clear hF_19
      have hPc := bx_P (bs := [b_g cB cC cI cJ cZ oA rA u_14.2, b_w cB cC cI cJ cZ oA rA u_14.2, b_c cB cC cI cJ cZ oA rA u_14.2]) (bs' := [b_g cB cC cI cJ cZ oA rA u_14.2, b_w cB cC cI cJ cZ oA rA u_14.2, b_c cB cC cI cJ cZ oA rA u_14.2]) (ws' := (b_g cB cC cI cJ cZ oA rA u_14.2 ++ b_w cB cC cI cJ cZ oA rA u_14.2 ++ b_c cB cC cI cJ cZ oA rA u_14.2)) hP fl_3 fl_3 [0, 1, 2] rfl
      have hDc := bx_D (bs := [b_g cB cC cI cJ cZ oA rA u_14.2, b_w cB cC cI cJ cZ oA rA u_14.2, b_c cB cC cI cJ cZ oA rA u_14.2]) (bs' := [b_g cB cC cI cJ cZ oA rA u_14.2, b_w cB cC cI cJ cZ oA rA u_14.2, b_c cB cC cI cJ cZ oA rA u_14.2]) (ws' := (b_g cB cC cI cJ cZ oA rA u_14.2 ++ b_w cB cC cI cJ cZ oA rA u_14.2 ++ b_c cB cC cI cJ cZ oA rA u_14.2)) (hDD u_14.2) fl_3 fl_3 [0, 1, 2] (by decide +kernel) rfl
      have hFc := bx_F (bs := [b_g cB cC cI cJ cZ oA rA u_14.2, b_w cB cC cI cJ cZ oA rA u_14.2, b_c cB cC cI cJ cZ oA rA u_14.2]) (bs' := [b_g cB cC cI cJ cZ oA rA u_14.2, b_w cB cC cI cJ cZ oA rA u_14.2, b_c cB cC cI cJ cZ oA rA u_14.2]) (wc := (b_g cB cC cI cJ cZ oA rA u_14.2 ++ b_w cB cC cI cJ cZ oA rA u_14.2 ++ b_c cB cC cI cJ cZ oA rA u_14.2)) (hDD u_14.2) hS hA fl_3 fl_3 [0, 1, 2] rfl
      refine g_ofv (wc := (b_g cB cC cI cJ cZ oA rA u_14.2 ++ b_w cB cC cI cJ cZ oA rA u_14.2 ++ b_c cB cC cI cJ cZ oA rA u_14.2)) (wr := ([] : va_W)) hP (hDD u_14.2) hS hFc (bx_ix [b_g cB cC cI cJ cZ oA rA u_14.2, b_w cB cC cI cJ cZ oA rA u_14.2, b_c cB cC cI cJ cZ oA rA u_14.2] [0, 1, 2]) (bx_ix [b_g cB cC cI cJ cZ oA rA u_14.2, b_w cB cC cI cJ cZ oA rA u_14.2, b_c cB cC cI cJ cZ oA rA u_14.2] []) (bx_C (bs := [b_g cB cC cI cJ cZ oA rA u_14.2, b_w cB cC cI cJ cZ oA rA u_14.2, b_c cB cC cI cJ cZ oA rA u_14.2]) (bs' := [b_g cB cC cI cJ cZ oA rA u_14.2, b_w cB cC cI cJ cZ oA rA u_14.2, b_c cB cC cI cJ cZ oA rA u_14.2]) (is := [0, 1, 2]) fl_3 fl_3 rfl) (bx_C (bs := [b_g cB cC cI cJ cZ oA rA u_14.2, b_w cB cC cI cJ cZ oA rA u_14.2, b_c cB cC cI cJ cZ oA rA u_14.2]) (bs' := []) (is := []) fl_3 fl_0 rfl) (bx_n (by decide +kernel)) (bx_d (by decide +kernel)) (va_runV (As := []) (rest := []) ⟨hx, hb, hml, hown, hts⟩ (k_X2_pass l dC dI cB cC cI cJ cZ cP oA rA H.size  u_14.2 _ hu_20) (cwV 0 hts (g_gV wq_555 wq_556 wq_1997 wq_3 wq_557) rfl rfl rfl (by decide +kernel) ⟨by show 1 + 1 ≤ 4 + (d + 1); omega, by show 8 + (1 + 11) + 40 ≤ 102 + 22 * (d + 1); omega⟩) (g_preV g_bl0 hK hPc hDc hS hE hFc g_to0 (q0 := 0) (ci := 2) rfl rfl) rfl rfl hl.1 rfl (lv_room (Nat.le_of_ble_eq_true rfl)) dX2_step_57 ⟨Nat.le_of_ble_eq_true rfl, Nat.le_of_ble_eq_true rfl⟩) (fun u9 H locs hw9 hP' hD' hS => ?_)
      clear hPc hDc hFc
      have hP : va_P (dC, dI) vwCl (b_g cB cC cI cJ cZ oA rA u_20.2 ++ b_w cB cC cI cJ cZ oA rA u_20.2 ++ b_c cB cC cI cJ cZ oA rA u_20.2) H := hP'
      clear hP' hD'
      refine lv_aload_n hx hb dX2_step_60 rfl (lv_at hl 1 rfl) ?_
      refine lv_iload_n hx hb dX2_step_61 rfl (lv_at hl 0 rfl) ?_
      obtain ⟨u_22, hu_22, hF_23⟩ := Option.bind_eq_some_iff.mp hF_21
      clear hF_21
      have hPc := bx_P (bs := [b_g cB cC cI cJ cZ oA rA u_20.2, b_w cB cC cI cJ cZ oA rA u_20.2, b_c cB cC cI cJ cZ oA rA u_20.2]) (bs' := [b_g cB cC cI cJ cZ oA rA u_20.2, b_w cB cC cI cJ cZ oA rA u_20.2, b_c cB cC cI cJ cZ oA rA u_20.2]) (ws' := (b_g cB cC cI cJ cZ oA rA u_20.2 ++ b_w cB cC cI cJ cZ oA rA u_20.2 ++ b_c cB cC cI cJ cZ oA rA u_20.2)) hP fl_3 fl_3 [0, 1, 2] rfl
      have hDc := bx_D (bs := [b_g cB cC cI cJ cZ oA rA u_20.2, b_w cB cC cI cJ cZ oA rA u_20.2, b_c cB cC cI cJ cZ oA rA u_20.2]) (bs' := [b_g cB cC cI cJ cZ oA rA u_20.2, b_w cB cC cI cJ cZ oA rA u_20.2, b_c cB cC cI cJ cZ oA rA u_20.2]) (ws' := (b_g cB cC cI cJ cZ oA rA u_20.2 ++ b_w cB cC cI cJ cZ oA rA u_20.2 ++ b_c cB cC cI cJ cZ oA rA u_20.2)) (hDD u_20.2) fl_3 fl_3 [0, 1, 2] (by decide +kernel) rfl
      have hFc := bx_F (bs := [b_g cB cC cI cJ cZ oA rA u_20.2, b_w cB cC cI cJ cZ oA rA u_20.2, b_c cB cC cI cJ cZ oA rA u_20.2]) (bs' := [b_g cB cC cI cJ cZ oA rA u_20.2, b_w cB cC cI cJ cZ oA rA u_20.2, b_c cB cC cI cJ cZ oA rA u_20.2]) (wc := (b_g cB cC cI cJ cZ oA rA u_20.2 ++ b_w cB cC cI cJ cZ oA rA u_20.2 ++ b_c cB cC cI cJ cZ oA rA u_20.2)) (hDD u_20.2) hS hA fl_3 fl_3 [0, 1, 2] rfl
      refine g_ofv (wc := (b_g cB cC cI cJ cZ oA rA u_20.2 ++ b_w cB cC cI cJ cZ oA rA u_20.2 ++ b_c cB cC cI cJ cZ oA rA u_20.2)) (wr := ([] : va_W)) hP (hDD u_20.2) hS hFc (bx_ix [b_g cB cC cI cJ cZ oA rA u_20.2, b_w cB cC cI cJ cZ oA rA u_20.2, b_c cB cC cI cJ cZ oA rA u_20.2] [0, 1, 2]) (bx_ix [b_g cB cC cI cJ cZ oA rA u_20.2, b_w cB cC cI cJ cZ oA rA u_20.2, b_c cB cC cI cJ cZ oA rA u_20.2] []) (bx_C (bs := [b_g cB cC cI cJ cZ oA rA u_20.2, b_w cB cC cI cJ cZ oA rA u_20.2, b_c cB cC cI cJ cZ oA rA u_20.2]) (bs' := [b_g cB cC cI cJ cZ oA rA u_20.2, b_w cB cC cI cJ cZ oA rA u_20.2, b_c cB cC cI cJ cZ oA rA u_20.2]) (is := [0, 1, 2]) fl_3 fl_3 rfl) (bx_C (bs := [b_g cB cC cI cJ cZ oA rA u_20.2, b_w cB cC cI cJ cZ oA rA u_20.2, b_c cB cC cI cJ cZ oA rA u_20.2]) (bs' := []) (is := []) fl_3 fl_0 rfl) (bx_n (by decide +kernel)) (bx_d (by decide +kernel)) (va_runV (As := [.int u_16.1]) (rest := []) ⟨hx, hb, hml, hown, hts⟩ (k_X2_attribute l dC dI cB cC cI cJ cZ cP oA rA H.size  u_16.1 u_20.2 _ hu_22) (cwV 1 hts (g_gV wq_669 wq_670 wq_2025 wq_3 wq_671) rfl rfl rfl (by decide +kernel) ⟨by show 2 + 1 ≤ 4 + (d + 1); omega, by show 8 + (2 + 11) + 62 ≤ 102 + 22 * (d + 1); omega⟩) (g_preV g_bl0 hK hPc hDc hS hE hFc g_to0 (q0 := 0) (ci := 2) rfl rfl) rfl rfl hl.1 rfl (lv_room (Nat.le_of_ble_eq_true rfl)) dX2_step_62 ⟨Nat.le_of_ble_eq_true rfl, Nat.le_of_ble_eq_true rfl⟩) (fun u9 H locs hw9 hP' hD' hS => ?_)
      clear hPc hDc hFc
      have hP : va_P (dC, dI) vwCl (b_g cB cC cI cJ cZ oA rA u_22.2 ++ b_w cB cC cI cJ cZ oA rA u_22.2 ++ b_c cB cC cI cJ cZ oA rA u_22.2) H := hP'
      clear hP' hD'
      refine lv_goto (tgt := 89) hx hb dX2_step_65 (by decide) ?_
      have h9 := Option.some.inj hF_23
      subst h9
      exact W.vret hx hb hr (fun t ht hW => ⟨⟨(), rfl, trivial, m_end ht hP, hDD _⟩, hS.F ht⟩) hS.2.2 dX2_step_89
  · have hF_2 := ipos c_1 hF
    clear hF
    refine lv_aload_n hx hb dX2_step_10 rfl (lv_at hl 0 rfl) ?_
    obtain ⟨u_3, hu_3, hF_4⟩ := Option.bind_eq_some_iff.mp hF_2
    clear hF_2
    have hPc := bx_P (bs := [b_g cB cC cI cJ cZ oA rA Γ, b_w cB cC cI cJ cZ oA rA Γ, b_c cB cC cI cJ cZ oA rA Γ]) (bs' := [b_g cB cC cI cJ cZ oA rA Γ, b_w cB cC cI cJ cZ oA rA Γ, b_c cB cC cI cJ cZ oA rA Γ]) (ws' := (b_g cB cC cI cJ cZ oA rA Γ ++ b_w cB cC cI cJ cZ oA rA Γ ++ b_c cB cC cI cJ cZ oA rA Γ)) hP fl_3 fl_3 [0, 1, 2] rfl
    have hDc := bx_D (bs := [b_g cB cC cI cJ cZ oA rA Γ, b_w cB cC cI cJ cZ oA rA Γ, b_c cB cC cI cJ cZ oA rA Γ]) (bs' := [b_g cB cC cI cJ cZ oA rA Γ, b_w cB cC cI cJ cZ oA rA Γ, b_c cB cC cI cJ cZ oA rA Γ]) (ws' := (b_g cB cC cI cJ cZ oA rA Γ ++ b_w cB cC cI cJ cZ oA rA Γ ++ b_c cB cC cI cJ cZ oA rA Γ)) (hDD Γ) fl_3 fl_3 [0, 1, 2] (by decide +kernel) rfl
    have hFc := bx_F (bs := [b_g cB cC cI cJ cZ oA rA Γ, b_w cB cC cI cJ cZ oA rA Γ, b_c cB cC cI cJ cZ oA rA Γ]) (bs' := [b_g cB cC cI cJ cZ oA rA Γ, b_w cB cC cI cJ cZ oA rA Γ, b_c cB cC cI cJ cZ oA rA Γ]) (wc := (b_g cB cC cI cJ cZ oA rA Γ ++ b_w cB cC cI cJ cZ oA rA Γ ++ b_c cB cC cI cJ cZ oA rA Γ)) (hDD Γ) hS hA fl_3 fl_3 [0, 1, 2] rfl
    refine g_ofv (wc := (b_g cB cC cI cJ cZ oA rA Γ ++ b_w cB cC cI cJ cZ oA rA Γ ++ b_c cB cC cI cJ cZ oA rA Γ)) (wr := ([] : va_W)) hP (hDD Γ) hS hFc (bx_ix [b_g cB cC cI cJ cZ oA rA Γ, b_w cB cC cI cJ cZ oA rA Γ, b_c cB cC cI cJ cZ oA rA Γ] [0, 1, 2]) (bx_ix [b_g cB cC cI cJ cZ oA rA Γ, b_w cB cC cI cJ cZ oA rA Γ, b_c cB cC cI cJ cZ oA rA Γ] []) (bx_C (bs := [b_g cB cC cI cJ cZ oA rA Γ, b_w cB cC cI cJ cZ oA rA Γ, b_c cB cC cI cJ cZ oA rA Γ]) (bs' := [b_g cB cC cI cJ cZ oA rA Γ, b_w cB cC cI cJ cZ oA rA Γ, b_c cB cC cI cJ cZ oA rA Γ]) (is := [0, 1, 2]) fl_3 fl_3 rfl) (bx_C (bs := [b_g cB cC cI cJ cZ oA rA Γ, b_w cB cC cI cJ cZ oA rA Γ, b_c cB cC cI cJ cZ oA rA Γ]) (bs' := []) (is := []) fl_3 fl_0 rfl) (bx_n (by decide +kernel)) (bx_d (by decide +kernel)) (va_runV (As := []) (rest := []) ⟨hx, hb, hml, hown, hts⟩ (k_X2_deepen l dC dI cB cC cI cJ cZ cP oA rA s.heap.size  Γ _ hu_3) (cwV 0 hts (g_gV wq_570 wq_571 wq_2002 wq_3 wq_572) rfl rfl rfl (by decide +kernel) ⟨by show 2 + 1 ≤ 4 + (d + 1); omega, by show 8 + (1 + 11) + 61 ≤ 102 + 22 * (d + 1); omega⟩) (g_preV g_bl0 hK hPc hDc hS hE hFc g_to0 (q0 := 0) (ci := 2) rfl rfl) rfl rfl hl.1 rfl (lv_room (Nat.le_of_ble_eq_true rfl)) dX2_step_11 ⟨Nat.le_of_ble_eq_true rfl, Nat.le_of_ble_eq_true rfl⟩) (fun u9 H locs hw9 hP' hD' hS => ?_)
    clear hPc hDc hFc
    have hP : va_P (dC, dI) vwCl (b_g cB cC cI cJ cZ oA rA u_3.2 ++ b_w cB cC cI cJ cZ oA rA u_3.2 ++ b_c cB cC cI cJ cZ oA rA u_3.2) H := hP'
    clear hP' hD'
    refine lv_aload_n hx hb dX2_step_14 rfl (lv_at hl 0 rfl) ?_
    obtain ⟨u_5, hu_5, hF_6⟩ := Option.bind_eq_some_iff.mp hF_4
    clear hF_4
    have hPc := bx_P (bs := [b_g cB cC cI cJ cZ oA rA u_3.2, b_w cB cC cI cJ cZ oA rA u_3.2, b_c cB cC cI cJ cZ oA rA u_3.2]) (bs' := [b_g cB cC cI cJ cZ oA rA u_3.2, b_w cB cC cI cJ cZ oA rA u_3.2, b_c cB cC cI cJ cZ oA rA u_3.2]) (ws' := (b_g cB cC cI cJ cZ oA rA u_3.2 ++ b_w cB cC cI cJ cZ oA rA u_3.2 ++ b_c cB cC cI cJ cZ oA rA u_3.2)) hP fl_3 fl_3 [0, 1, 2] rfl
    have hDc := bx_D (bs := [b_g cB cC cI cJ cZ oA rA u_3.2, b_w cB cC cI cJ cZ oA rA u_3.2, b_c cB cC cI cJ cZ oA rA u_3.2]) (bs' := [b_g cB cC cI cJ cZ oA rA u_3.2, b_w cB cC cI cJ cZ oA rA u_3.2, b_c cB cC cI cJ cZ oA rA u_3.2]) (ws' := (b_g cB cC cI cJ cZ oA rA u_3.2 ++ b_w cB cC cI cJ cZ oA rA u_3.2 ++ b_c cB cC cI cJ cZ oA rA u_3.2)) (hDD u_3.2) fl_3 fl_3 [0, 1, 2] (by decide +kernel) rfl
    have hFc := bx_F (bs := [b_g cB cC cI cJ cZ oA rA u_3.2, b_w cB cC cI cJ cZ oA rA u_3.2, b_c cB cC cI cJ cZ oA rA u_3.2]) (bs' := [b_g cB cC cI cJ cZ oA rA u_3.2, b_w cB cC cI cJ cZ oA rA u_3.2, b_c cB cC cI cJ cZ oA rA u_3.2]) (wc := (b_g cB cC cI cJ cZ oA rA u_3.2 ++ b_w cB cC cI cJ cZ oA rA u_3.2 ++ b_c cB cC cI cJ cZ oA rA u_3.2)) (hDD u_3.2) hS hA fl_3 fl_3 [0, 1, 2] rfl
    refine g_ofv (wc := (b_g cB cC cI cJ cZ oA rA u_3.2 ++ b_w cB cC cI cJ cZ oA rA u_3.2 ++ b_c cB cC cI cJ cZ oA rA u_3.2)) (wr := ([] : va_W)) hP (hDD u_3.2) hS hFc (bx_ix [b_g cB cC cI cJ cZ oA rA u_3.2, b_w cB cC cI cJ cZ oA rA u_3.2, b_c cB cC cI cJ cZ oA rA u_3.2] [0, 1, 2]) (bx_ix [b_g cB cC cI cJ cZ oA rA u_3.2, b_w cB cC cI cJ cZ oA rA u_3.2, b_c cB cC cI cJ cZ oA rA u_3.2] []) (bx_C (bs := [b_g cB cC cI cJ cZ oA rA u_3.2, b_w cB cC cI cJ cZ oA rA u_3.2, b_c cB cC cI cJ cZ oA rA u_3.2]) (bs' := [b_g cB cC cI cJ cZ oA rA u_3.2, b_w cB cC cI cJ cZ oA rA u_3.2, b_c cB cC cI cJ cZ oA rA u_3.2]) (is := [0, 1, 2]) fl_3 fl_3 rfl) (bx_C (bs := [b_g cB cC cI cJ cZ oA rA u_3.2, b_w cB cC cI cJ cZ oA rA u_3.2, b_c cB cC cI cJ cZ oA rA u_3.2]) (bs' := []) (is := []) fl_3 fl_0 rfl) (bx_n (by decide +kernel)) (bx_d (by decide +kernel)) (va_runV (As := []) (rest := []) ⟨hx, hb, hml, hown, hts⟩ (hI2 H.size u_3.2 _ hu_5) (cwV 0 hts (g_gV wq_633 wq_634 wq_2018 wq_3 wq_635) rfl rfl rfl (by decide +kernel) ⟨by show 4 + d + 1 ≤ 4 + (d + 1); omega, by show 8 + (2 + 11) + (102 + 22 * d) ≤ 102 + 22 * (d + 1); omega⟩) (g_preV g_bl0 hK hPc hDc hS hE hFc g_to0 (q0 := 0) (ci := 2) rfl rfl) rfl rfl hl.1 rfl (lv_room (Nat.le_of_ble_eq_true rfl)) dX2_step_15 ⟨Nat.le_of_ble_eq_true rfl, Nat.le_of_ble_eq_true rfl⟩) (fun u9 H locs hw9 hP' hD' hS => ?_)
    clear hPc hDc hFc
    have hP : va_P (dC, dI) vwCl (b_g cB cC cI cJ cZ oA rA u_5.2 ++ b_w cB cC cI cJ cZ oA rA u_5.2 ++ b_c cB cC cI cJ cZ oA rA u_5.2) H := hP'
    clear hP' hD'
    refine lv_aload_n hx hb dX2_step_18 rfl (lv_at hl 0 rfl) ?_
    refine lv_dup hx hb dX2_step_19 rfl ?_
    refine va_get (D := (dC, dI)) (ci := 2) (v := .int ((u_5.2 2).1 4)) (C := RX2) (T := TX2) (N := 8) hx hb hts ii_X2 hown hK hP 0 rfl rfl 4 (by decide) (hts (.fieldLink RX2 32 "StoryHouse$Grammar" "nest" "I") wq_75) (fun _ h9 => h9) rfl dX2_step_20 ?_
    refine lv_iconst (v := 1) hx hb dX2_step_23 (by decide +kernel) ?_
    refine lv_isub hx hb dX2_step_24 ?_
    obtain ⟨σ_7, eσ_7, hF_8⟩ := bnd_e hF_6
    clear hF_6
    refine va_put (D := (dC, dI)) (ci := 2) (v := .int (((u_5.2 2).1 4) - 1)) (ty := .int) (C := RX2) (T := TX2) (N := 8) hx hb hts ii_X2 tyX2 tyX2_ok nmX2 hown hK hP (hDD _) hS 0 rfl rfl 4 (by decide) (hts (.fieldLink RX2 32 "StoryHouse$Grammar" "nest" "I") wq_75) (fun _ h9 => h9) rfl (by decide +kernel) rfl rfl (Nat.le_of_ble_eq_true rfl) dX2_step_25 (fun H locs hP' _ hS => ?_)
    have hP : va_P (dC, dI) vwCl (b_g cB cC cI cJ cZ oA rA σ_7 ++ b_w cB cC cI cJ cZ oA rA σ_7 ++ b_c cB cC cI cJ cZ oA rA σ_7) H := by rw [eσ_7]; exact cs_gwc_g_4 ▸ hP'
    clear hP'
    refine lv_aload_n hx hb dX2_step_28 rfl (lv_at hl 0 rfl) ?_
    refine va_get (D := (dC, dI)) (ci := 2) (v := .ref (oA 5)) (C := RX2) (T := TX2) (N := 8) hx hb hts ii_X2 hown hK hP 0 rfl rfl 1 (by decide) (hts (.fieldLink RX2 15 "StoryHouse$Grammar" "code" "LStoryHouse$Code;") wq_72) (fun _ h9 => h9) rfl dX2_step_29 ?_
    refine lv_bipush (v := 8) hx hb dX2_step_32 (by decide +kernel) ?_
    obtain ⟨u_9, hu_9, hF_10⟩ := Option.bind_eq_some_iff.mp hF_8
    clear hF_8
    have hPc := bx_P (bs := [b_g cB cC cI cJ cZ oA rA σ_7, b_w cB cC cI cJ cZ oA rA σ_7, b_c cB cC cI cJ cZ oA rA σ_7]) (bs' := [b_c cB cC cI cJ cZ oA rA σ_7]) (ws' := (b_c cB cC cI cJ cZ oA rA σ_7)) hP fl_3 fl_1 [2] rfl
    have hDc := bx_D (bs := [b_g cB cC cI cJ cZ oA rA σ_7, b_w cB cC cI cJ cZ oA rA σ_7, b_c cB cC cI cJ cZ oA rA σ_7]) (bs' := [b_c cB cC cI cJ cZ oA rA σ_7]) (ws' := (b_c cB cC cI cJ cZ oA rA σ_7)) (hDD σ_7) fl_3 fl_1 [2] (by decide +kernel) rfl
    have hFc := bx_F (bs := [b_g cB cC cI cJ cZ oA rA σ_7, b_w cB cC cI cJ cZ oA rA σ_7, b_c cB cC cI cJ cZ oA rA σ_7]) (bs' := [b_c cB cC cI cJ cZ oA rA σ_7]) (wc := (b_c cB cC cI cJ cZ oA rA σ_7)) (hDD σ_7) hS hA fl_3 fl_1 [2] rfl
    refine g_ofv (wc := (b_c cB cC cI cJ cZ oA rA σ_7)) (wr := (b_g cB cC cI cJ cZ oA rA σ_7 ++ b_w cB cC cI cJ cZ oA rA σ_7)) hP (hDD σ_7) hS hFc (bx_ix [b_g cB cC cI cJ cZ oA rA σ_7, b_w cB cC cI cJ cZ oA rA σ_7, b_c cB cC cI cJ cZ oA rA σ_7] [2]) (bx_ix [b_g cB cC cI cJ cZ oA rA σ_7, b_w cB cC cI cJ cZ oA rA σ_7, b_c cB cC cI cJ cZ oA rA σ_7] [0, 1]) (bx_C (bs := [b_g cB cC cI cJ cZ oA rA σ_7, b_w cB cC cI cJ cZ oA rA σ_7, b_c cB cC cI cJ cZ oA rA σ_7]) (bs' := [b_c cB cC cI cJ cZ oA rA σ_7]) (is := [2]) fl_3 fl_1 rfl) (bx_C (bs := [b_g cB cC cI cJ cZ oA rA σ_7, b_w cB cC cI cJ cZ oA rA σ_7, b_c cB cC cI cJ cZ oA rA σ_7]) (bs' := [b_g cB cC cI cJ cZ oA rA σ_7, b_w cB cC cI cJ cZ oA rA σ_7]) (is := [0, 1]) fl_3 fl_2 rfl) (bx_n (by decide +kernel)) (bx_d (by decide +kernel)) (va_runV (As := [.int 8]) (rest := []) ⟨hx, hb, hml, hown, hts⟩ (k_X0_add l dC dI cB cC cI cJ cZ cP oA rA H.size  8 σ_7 _ hu_9) (cwV 1 hts (g_gV wq_636 wq_637 wq_638 wq_6 wq_639) rfl rfl rfl (by decide +kernel) ⟨by show 1 + 1 ≤ 4 + (d + 1); omega, by show 8 + (2 + 11) + 40 ≤ 102 + 22 * (d + 1); omega⟩) (g_preV g_bl0 hK hPc hDc hS hE hFc g_to0 (q0 := 0) (ci := 0) rfl rfl) rfl rfl hl.1 rfl (lv_room (Nat.le_of_ble_eq_true rfl)) dX2_step_34 ⟨Nat.le_of_ble_eq_true rfl, Nat.le_of_ble_eq_true rfl⟩) (fun u9 H locs hw9 hP' hD' hS => ?_)
    clear hPc hDc hFc
    obtain ⟨σ_11, eσ_11, hF_12⟩ := bnd_e hF_10
    clear hF_10
    have hP : va_P (dC, dI) vwCl (b_g cB cC cI cJ cZ oA rA σ_11 ++ b_w cB cC cI cJ cZ oA rA σ_11 ++ b_c cB cC cI cJ cZ oA rA σ_11) H := by rw [eσ_11]; exact bx_P (bs := [b_g cB cC cI cJ cZ oA rA σ_7, b_w cB cC cI cJ cZ oA rA σ_7] ++ [b_c cB cC cI cJ cZ oA rA u_9.2]) (bs' := [b_g cB cC cI cJ cZ oA rA (mrg (fun j => j == 5) σ_7 u_9.2), b_w cB cC cI cJ cZ oA rA (mrg (fun j => j == 5) σ_7 u_9.2), b_c cB cC cI cJ cZ oA rA (mrg (fun j => j == 5) σ_7 u_9.2)]) hP' (fl_a fl_2 fl_1) fl_3 [0, 1, 2] rfl
    clear hP' hD'
    have h9 := Option.some.inj hF_12
    subst h9
    exact W.vret hx hb hr (fun t ht hW => ⟨⟨(), rfl, trivial, m_end ht hP, hDD _⟩, hS.F ht⟩) hS.2.2 dX2_step_37

def F_X2_sum (rec : HG)  (Γ : HS) : HR :=
  (rec 4 0 0 0 Γ).bind fun u_1 =>
  loopF (fun (again_4 : (Int32 × HS) → HR) (s_3 : Int32 × HS) => (
    if ((s_3.2 1).1 2) ≤ s_3.1 then (
      some (0, s_3.2)
    ) else (
      bnd (fun  (σ_10 : HS) => (
        bnd (fun (t_14 : Int32) (σ_15 : HS) => (
          (F_X2_pass σ_15).bind fun u_19 =>
          (rec 4 0 0 0 u_19.2).bind fun u_21 =>
          (F_X0_add t_14 u_21.2).bind fun u_23 =>
          bnd (mrg (fun j => j == 5) u_21.2 u_23.2) fun σ_25 =>
          bnd (s_3.1 + 1) fun (x_27 : Int32) =>
          again_4 (x_27, σ_25)
        ) : Int32 → HS → HR) fun j_16 =>
        if ((σ_10 2).1 3) = 43 then (
          j_16 10 σ_10
        ) else (
          j_16 11 σ_10
        )
      ) : HS → HR) fun j_11 =>
      if ((s_3.2 2).1 3) = 43 then (
        j_11  s_3.2
      ) else (
        if ((s_3.2 2).1 3) = 45 then (
          j_11  s_3.2
        ) else (
          some (0, s_3.2)
        )
      )
    )
  )) FU (0, u_1.2)
set_option maxHeartbeats 4000000 in
set_option maxRecDepth 100000 in
theorem k_X2_sum_st (l : Launch) (dC : Nat → ClassId) (dI : Nat → Nat → Nat) (cB cC cI cJ cZ cP : ClassId) (oA : Nat → Nat) (rA : Nat → Nat → Nat) (d : Nat) (rec : HG) (hI0 : ∀ (sz : Nat)  (Γ : HS) (res : Int32 × HS), rec 0 0 0 0 Γ = some res → Met l yX2_expression (g_ws yX2_expression cX2_expression 3 none) ({ frames := 4 + d, cells := 0, slots := 0, locals := 102 + 22 * d }) (va_Pc [.ref (oA 2)] (g_B (dC, dI) [(cB, .byte), (cC, .char), (cI, .int), (cJ, .long), (cZ, .boolean), (cP, .object "StoryHouse$Play")] sz (b_g cB cC cI cJ cZ oA rA Γ ++ b_w cB cC cI cJ cZ oA rA Γ ++ b_c cB cC cI cJ cZ oA rA Γ) g_0)) (va_Qv (fun (_ : Unit) => True) (g_Bo (dC, dI) (va_A (b_g cB cC cI cJ cZ oA rA Γ ++ b_w cB cC cI cJ cZ oA rA Γ ++ b_c cB cC cI cJ cZ oA rA Γ) sz) (fun (_ : Unit) => (b_g cB cC cI cJ cZ oA rA res.2 ++ b_w cB cC cI cJ cZ oA rA res.2 ++ b_c cB cC cI cJ cZ oA rA res.2))) (va_A (b_g cB cC cI cJ cZ oA rA Γ ++ b_w cB cC cI cJ cZ oA rA Γ ++ b_c cB cC cI cJ cZ oA rA Γ) sz)) 0 0 (va_A (b_g cB cC cI cJ cZ oA rA Γ ++ b_w cB cC cI cJ cZ oA rA Γ ++ b_c cB cC cI cJ cZ oA rA Γ) sz)) (hI1 : ∀ (sz : Nat)  (Γ : HS) (res : Int32 × HS), rec 1 0 0 0 Γ = some res → Met l yX2_both (g_ws yX2_both cX2_both 3 none) ({ frames := 4 + d, cells := 0, slots := 0, locals := 102 + 22 * d }) (va_Pc [.ref (oA 2)] (g_B (dC, dI) [(cB, .byte), (cC, .char), (cI, .int), (cJ, .long), (cZ, .boolean), (cP, .object "StoryHouse$Play")] sz (b_g cB cC cI cJ cZ oA rA Γ ++ b_w cB cC cI cJ cZ oA rA Γ ++ b_c cB cC cI cJ cZ oA rA Γ) g_0)) (va_Qv (fun (_ : Unit) => True) (g_Bo (dC, dI) (va_A (b_g cB cC cI cJ cZ oA rA Γ ++ b_w cB cC cI cJ cZ oA rA Γ ++ b_c cB cC cI cJ cZ oA rA Γ) sz) (fun (_ : Unit) => (b_g cB cC cI cJ cZ oA rA res.2 ++ b_w cB cC cI cJ cZ oA rA res.2 ++ b_c cB cC cI cJ cZ oA rA res.2))) (va_A (b_g cB cC cI cJ cZ oA rA Γ ++ b_w cB cC cI cJ cZ oA rA Γ ++ b_c cB cC cI cJ cZ oA rA Γ) sz)) 0 0 (va_A (b_g cB cC cI cJ cZ oA rA Γ ++ b_w cB cC cI cJ cZ oA rA Γ ++ b_c cB cC cI cJ cZ oA rA Γ) sz)) (hI2 : ∀ (sz : Nat)  (Γ : HS) (res : Int32 × HS), rec 2 0 0 0 Γ = some res → Met l yX2_step (g_ws yX2_step cX2_step 2 none) ({ frames := 4 + d, cells := 0, slots := 0, locals := 102 + 22 * d }) (va_Pc [.ref (oA 2)] (g_B (dC, dI) [(cB, .byte), (cC, .char), (cI, .int), (cJ, .long), (cZ, .boolean), (cP, .object "StoryHouse$Play")] sz (b_g cB cC cI cJ cZ oA rA Γ ++ b_w cB cC cI cJ cZ oA rA Γ ++ b_c cB cC cI cJ cZ oA rA Γ) g_0)) (va_Qv (fun (_ : Unit) => True) (g_Bo (dC, dI) (va_A (b_g cB cC cI cJ cZ oA rA Γ ++ b_w cB cC cI cJ cZ oA rA Γ ++ b_c cB cC cI cJ cZ oA rA Γ) sz) (fun (_ : Unit) => (b_g cB cC cI cJ cZ oA rA res.2 ++ b_w cB cC cI cJ cZ oA rA res.2 ++ b_c cB cC cI cJ cZ oA rA res.2))) (va_A (b_g cB cC cI cJ cZ oA rA Γ ++ b_w cB cC cI cJ cZ oA rA Γ ++ b_c cB cC cI cJ cZ oA rA Γ) sz)) 0 0 (va_A (b_g cB cC cI cJ cZ oA rA Γ ++ b_w cB cC cI cJ cZ oA rA Γ ++ b_c cB cC cI cJ cZ oA rA Γ) sz)) (hI3 : ∀ (sz : Nat)  (Γ : HS) (res : Int32 × HS), rec 3 0 0 0 Γ = some res → Met l yX2_sum (g_ws yX2_sum cX2_sum 3 none) ({ frames := 4 + d, cells := 0, slots := 0, locals := 102 + 22 * d }) (va_Pc [.ref (oA 2)] (g_B (dC, dI) [(cB, .byte), (cC, .char), (cI, .int), (cJ, .long), (cZ, .boolean), (cP, .object "StoryHouse$Play")] sz (b_g cB cC cI cJ cZ oA rA Γ ++ b_w cB cC cI cJ cZ oA rA Γ ++ b_c cB cC cI cJ cZ oA rA Γ) g_0)) (va_Qv (fun (_ : Unit) => True) (g_Bo (dC, dI) (va_A (b_g cB cC cI cJ cZ oA rA Γ ++ b_w cB cC cI cJ cZ oA rA Γ ++ b_c cB cC cI cJ cZ oA rA Γ) sz) (fun (_ : Unit) => (b_g cB cC cI cJ cZ oA rA res.2 ++ b_w cB cC cI cJ cZ oA rA res.2 ++ b_c cB cC cI cJ cZ oA rA res.2))) (va_A (b_g cB cC cI cJ cZ oA rA Γ ++ b_w cB cC cI cJ cZ oA rA Γ ++ b_c cB cC cI cJ cZ oA rA Γ) sz)) 0 0 (va_A (b_g cB cC cI cJ cZ oA rA Γ ++ b_w cB cC cI cJ cZ oA rA Γ ++ b_c cB cC cI cJ cZ oA rA Γ) sz)) (hI4 : ∀ (sz : Nat)  (Γ : HS) (res : Int32 × HS), rec 4 0 0 0 Γ = some res → Met l yX2_term (g_ws yX2_term cX2_term 3 none) ({ frames := 4 + d, cells := 0, slots := 0, locals := 102 + 22 * d }) (va_Pc [.ref (oA 2)] (g_B (dC, dI) [(cB, .byte), (cC, .char), (cI, .int), (cJ, .long), (cZ, .boolean), (cP, .object "StoryHouse$Play")] sz (b_g cB cC cI cJ cZ oA rA Γ ++ b_w cB cC cI cJ cZ oA rA Γ ++ b_c cB cC cI cJ cZ oA rA Γ) g_0)) (va_Qv (fun (_ : Unit) => True) (g_Bo (dC, dI) (va_A (b_g cB cC cI cJ cZ oA rA Γ ++ b_w cB cC cI cJ cZ oA rA Γ ++ b_c cB cC cI cJ cZ oA rA Γ) sz) (fun (_ : Unit) => (b_g cB cC cI cJ cZ oA rA res.2 ++ b_w cB cC cI cJ cZ oA rA res.2 ++ b_c cB cC cI cJ cZ oA rA res.2))) (va_A (b_g cB cC cI cJ cZ oA rA Γ ++ b_w cB cC cI cJ cZ oA rA Γ ++ b_c cB cC cI cJ cZ oA rA Γ) sz)) 0 0 (va_A (b_g cB cC cI cJ cZ oA rA Γ ++ b_w cB cC cI cJ cZ oA rA Γ ++ b_c cB cC cI cJ cZ oA rA Γ) sz)) (hI5 : ∀ (sz : Nat)  (Γ : HS) (res : Int32 × HS), rec 5 0 0 0 Γ = some res → Met l yX2_factor (g_ws yX2_factor cX2_factor 1 none) ({ frames := 4 + d, cells := 0, slots := 0, locals := 102 + 22 * d }) (va_Pc [.ref (oA 2)] (g_B (dC, dI) [(cB, .byte), (cC, .char), (cI, .int), (cJ, .long), (cZ, .boolean), (cP, .object "StoryHouse$Play")] sz (b_g cB cC cI cJ cZ oA rA Γ ++ b_w cB cC cI cJ cZ oA rA Γ ++ b_c cB cC cI cJ cZ oA rA Γ) g_0)) (va_Qv (fun (_ : Unit) => True) (g_Bo (dC, dI) (va_A (b_g cB cC cI cJ cZ oA rA Γ ++ b_w cB cC cI cJ cZ oA rA Γ ++ b_c cB cC cI cJ cZ oA rA Γ) sz) (fun (_ : Unit) => (b_g cB cC cI cJ cZ oA rA res.2 ++ b_w cB cC cI cJ cZ oA rA res.2 ++ b_c cB cC cI cJ cZ oA rA res.2))) (va_A (b_g cB cC cI cJ cZ oA rA Γ ++ b_w cB cC cI cJ cZ oA rA Γ ++ b_c cB cC cI cJ cZ oA rA Γ) sz)) 0 0 (va_A (b_g cB cC cI cJ cZ oA rA Γ ++ b_w cB cC cI cJ cZ oA rA Γ ++ b_c cB cC cI cJ cZ oA rA Γ) sz)) (hI6 : ∀ (sz : Nat)  (Γ : HS) (res : Int32 × HS), rec 6 0 0 0 Γ = some res → Met l yX2_primary (g_ws yX2_primary cX2_primary 3 none) ({ frames := 4 + d, cells := 0, slots := 0, locals := 102 + 22 * d }) (va_Pc [.ref (oA 2)] (g_B (dC, dI) [(cB, .byte), (cC, .char), (cI, .int), (cJ, .long), (cZ, .boolean), (cP, .object "StoryHouse$Play")] sz (b_g cB cC cI cJ cZ oA rA Γ ++ b_w cB cC cI cJ cZ oA rA Γ ++ b_c cB cC cI cJ cZ oA rA Γ) g_0)) (va_Qv (fun (_ : Unit) => True) (g_Bo (dC, dI) (va_A (b_g cB cC cI cJ cZ oA rA Γ ++ b_w cB cC cI cJ cZ oA rA Γ ++ b_c cB cC cI cJ cZ oA rA Γ) sz) (fun (_ : Unit) => (b_g cB cC cI cJ cZ oA rA res.2 ++ b_w cB cC cI cJ cZ oA rA res.2 ++ b_c cB cC cI cJ cZ oA rA res.2))) (va_A (b_g cB cC cI cJ cZ oA rA Γ ++ b_w cB cC cI cJ cZ oA rA Γ ++ b_c cB cC cI cJ cZ oA rA Γ) sz)) 0 0 (va_A (b_g cB cC cI cJ cZ oA rA Γ ++ b_w cB cC cI cJ cZ oA rA Γ ++ b_c cB cC cI cJ cZ oA rA Γ) sz)) (hI7 : ∀ (sz : Nat) (p0 : Int32) (Γ : HS) (res : Int32 × HS), rec 7 p0 0 0 Γ = some res → Met l yX2_arguments (g_ws yX2_arguments cX2_arguments 3 none) ({ frames := 4 + d, cells := 0, slots := 0, locals := 102 + 22 * d }) (va_Pc [.ref (oA 2), .int p0] (g_B (dC, dI) [(cB, .byte), (cC, .char), (cI, .int), (cJ, .long), (cZ, .boolean), (cP, .object "StoryHouse$Play")] sz (b_g cB cC cI cJ cZ oA rA Γ ++ b_w cB cC cI cJ cZ oA rA Γ ++ b_c cB cC cI cJ cZ oA rA Γ) g_0)) (va_Qv (fun (_ : Unit) => True) (g_Bo (dC, dI) (va_A (b_g cB cC cI cJ cZ oA rA Γ ++ b_w cB cC cI cJ cZ oA rA Γ ++ b_c cB cC cI cJ cZ oA rA Γ) sz) (fun (_ : Unit) => (b_g cB cC cI cJ cZ oA rA res.2 ++ b_w cB cC cI cJ cZ oA rA res.2 ++ b_c cB cC cI cJ cZ oA rA res.2))) (va_A (b_g cB cC cI cJ cZ oA rA Γ ++ b_w cB cC cI cJ cZ oA rA Γ ++ b_c cB cC cI cJ cZ oA rA Γ) sz)) 0 0 (va_A (b_g cB cC cI cJ cZ oA rA Γ ++ b_w cB cC cI cJ cZ oA rA Γ ++ b_c cB cC cI cJ cZ oA rA Γ) sz)) (hI8 : ∀ (sz : Nat)  (Γ : HS) (res : Int32 × HS), rec 8 0 0 0 Γ = some res → Met l yX2_index (g_ws yX2_index cX2_index 1 none) ({ frames := 4 + d, cells := 0, slots := 0, locals := 102 + 22 * d }) (va_Pc [.ref (oA 2)] (g_B (dC, dI) [(cB, .byte), (cC, .char), (cI, .int), (cJ, .long), (cZ, .boolean), (cP, .object "StoryHouse$Play")] sz (b_g cB cC cI cJ cZ oA rA Γ ++ b_w cB cC cI cJ cZ oA rA Γ ++ b_c cB cC cI cJ cZ oA rA Γ) g_0)) (va_Qv (fun (_ : Unit) => True) (g_Bo (dC, dI) (va_A (b_g cB cC cI cJ cZ oA rA Γ ++ b_w cB cC cI cJ cZ oA rA Γ ++ b_c cB cC cI cJ cZ oA rA Γ) sz) (fun (_ : Unit) => (b_g cB cC cI cJ cZ oA rA res.2 ++ b_w cB cC cI cJ cZ oA rA res.2 ++ b_c cB cC cI cJ cZ oA rA res.2))) (va_A (b_g cB cC cI cJ cZ oA rA Γ ++ b_w cB cC cI cJ cZ oA rA Γ ++ b_c cB cC cI cJ cZ oA rA Γ) sz)) 0 0 (va_A (b_g cB cC cI cJ cZ oA rA Γ ++ b_w cB cC cI cJ cZ oA rA Γ ++ b_c cB cC cI cJ cZ oA rA Γ) sz)) (sz : Nat)   (Γ : HS) (res : Int32 × HS) (hF : F_X2_sum rec  Γ = some res) : Met l yX2_sum (g_ws yX2_sum cX2_sum 3 none) ({ frames := 4 + (d + 1), cells := 0, slots := 0, locals := 102 + 22 * (d + 1) }) (va_Pc [.ref (oA 2)] (g_B (dC, dI) [(cB, .byte), (cC, .char), (cI, .int), (cJ, .long), (cZ, .boolean), (cP, .object "StoryHouse$Play")] sz (b_g cB cC cI cJ cZ oA rA Γ ++ b_w cB cC cI cJ cZ oA rA Γ ++ b_c cB cC cI cJ cZ oA rA Γ) g_0)) (va_Qv (fun (_ : Unit) => True) (g_Bo (dC, dI) (va_A (b_g cB cC cI cJ cZ oA rA Γ ++ b_w cB cC cI cJ cZ oA rA Γ ++ b_c cB cC cI cJ cZ oA rA Γ) sz) (fun (_ : Unit) => (b_g cB cC cI cJ cZ oA rA res.2 ++ b_w cB cC cI cJ cZ oA rA res.2 ++ b_c cB cC cI cJ cZ oA rA res.2))) (va_A (b_g cB cC cI cJ cZ oA rA Γ ++ b_w cB cC cI cJ cZ oA rA Γ ++ b_c cB cC cI cJ cZ oA rA Γ) sz)) 0 0 (va_A (b_g cB cC cI cJ cZ oA rA Γ ++ b_w cB cC cI cJ cZ oA rA Γ ++ b_c cB cC cI cJ cZ oA rA Γ) sz) := by
  refine Met.ofW (cc := cX2_sum) (maxL := 3) (ret := none) (by decide) rfl ?_
  intro p e s m args below meth c s₁ B hml hv
  obtain ⟨rfl, hsz, hP, hK, hD0, hE, hX⟩ := hv
  have hx := B.exec
  have hb := B.bytes
  have hr := B.returns
  have hts0 := atoms_spec (ws := g_ws yX2_sum cX2_sum 3 none) B.pre
  have hts : ∀ w ∈ lw_good, w.before ([.ref (oA 2)] : List Value).toArray s = true := fun w z => hts0 w (List.mem_cons_of_mem _ z)
  have hown : s.vm.findClass RX2 = some m.cls := findClass_of_methodNamed B.named
  have hlocks := B.notSynchronized
  subst hsz
  have hD1 := hD0.self (sz := s.heap.size)
  generalize hAe : va_A (b_g cB cC cI cJ cZ oA rA Γ ++ b_w cB cC cI cJ cZ oA rA Γ ++ b_c cB cC cI cJ cZ oA rA Γ) s.heap.size = A at hD1 hE hX ⊢
  have hA : ∀ q : Nat, s.heap.size ≤ q → A q := fun q z => by rw [← hAe]; exact Or.inr z
  have hDD : ∀ Γ : HS, va_D A (b_g cB cC cI cJ cZ oA rA Γ ++ b_w cB cC cI cJ cZ oA rA Γ ++ b_c cB cC cI cJ cZ oA rA Γ) := fun Γ9 => va_D_fst (ws := (b_g cB cC cI cJ cZ oA rA Γ ++ b_w cB cC cI cJ cZ oA rA Γ ++ b_c cB cC cI cJ cZ oA rA Γ)) (ws' := (b_g cB cC cI cJ cZ oA rA Γ9 ++ b_w cB cC cI cJ cZ oA rA Γ9 ++ b_c cB cC cI cJ cZ oA rA Γ9)) rfl hD1
  have hN := hE.1
  have hS : va_S A s.heap s.heap [] := va_S.rf
  have hl := lv_entry ([.ref (oA 2)]) (n := 3) (Nat.le_of_ble_eq_true rfl)
  rw [lg_entry_eq]
  generalize (lg_sl ([.ref (oA 2)]) ++ List.replicate (3 - (lg_sl ([.ref (oA 2)])).length) Slot.unset).toArray = ls at hl ⊢
  have hl : lv_has ls 3 [(0, .ref (oA 2))] := hl
  unfold F_X2_sum at hF
  refine lv_aload_n hx hb dX2_sum_0 rfl (lv_at hl 0 rfl) ?_
  obtain ⟨u_1, hu_1, hF_2⟩ := Option.bind_eq_some_iff.mp hF
  clear hF
  have hPc := bx_P (bs := [b_g cB cC cI cJ cZ oA rA Γ, b_w cB cC cI cJ cZ oA rA Γ, b_c cB cC cI cJ cZ oA rA Γ]) (bs' := [b_g cB cC cI cJ cZ oA rA Γ, b_w cB cC cI cJ cZ oA rA Γ, b_c cB cC cI cJ cZ oA rA Γ]) (ws' := (b_g cB cC cI cJ cZ oA rA Γ ++ b_w cB cC cI cJ cZ oA rA Γ ++ b_c cB cC cI cJ cZ oA rA Γ)) hP fl_3 fl_3 [0, 1, 2] rfl
  have hDc := bx_D (bs := [b_g cB cC cI cJ cZ oA rA Γ, b_w cB cC cI cJ cZ oA rA Γ, b_c cB cC cI cJ cZ oA rA Γ]) (bs' := [b_g cB cC cI cJ cZ oA rA Γ, b_w cB cC cI cJ cZ oA rA Γ, b_c cB cC cI cJ cZ oA rA Γ]) (ws' := (b_g cB cC cI cJ cZ oA rA Γ ++ b_w cB cC cI cJ cZ oA rA Γ ++ b_c cB cC cI cJ cZ oA rA Γ)) (hDD Γ) fl_3 fl_3 [0, 1, 2] (by decide +kernel) rfl
  have hFc := bx_F (bs := [b_g cB cC cI cJ cZ oA rA Γ, b_w cB cC cI cJ cZ oA rA Γ, b_c cB cC cI cJ cZ oA rA Γ]) (bs' := [b_g cB cC cI cJ cZ oA rA Γ, b_w cB cC cI cJ cZ oA rA Γ, b_c cB cC cI cJ cZ oA rA Γ]) (wc := (b_g cB cC cI cJ cZ oA rA Γ ++ b_w cB cC cI cJ cZ oA rA Γ ++ b_c cB cC cI cJ cZ oA rA Γ)) (hDD Γ) hS hA fl_3 fl_3 [0, 1, 2] rfl
  refine g_ofv (wc := (b_g cB cC cI cJ cZ oA rA Γ ++ b_w cB cC cI cJ cZ oA rA Γ ++ b_c cB cC cI cJ cZ oA rA Γ)) (wr := ([] : va_W)) hP (hDD Γ) hS hFc (bx_ix [b_g cB cC cI cJ cZ oA rA Γ, b_w cB cC cI cJ cZ oA rA Γ, b_c cB cC cI cJ cZ oA rA Γ] [0, 1, 2]) (bx_ix [b_g cB cC cI cJ cZ oA rA Γ, b_w cB cC cI cJ cZ oA rA Γ, b_c cB cC cI cJ cZ oA rA Γ] []) (bx_C (bs := [b_g cB cC cI cJ cZ oA rA Γ, b_w cB cC cI cJ cZ oA rA Γ, b_c cB cC cI cJ cZ oA rA Γ]) (bs' := [b_g cB cC cI cJ cZ oA rA Γ, b_w cB cC cI cJ cZ oA rA Γ, b_c cB cC cI cJ cZ oA rA Γ]) (is := [0, 1, 2]) fl_3 fl_3 rfl) (bx_C (bs := [b_g cB cC cI cJ cZ oA rA Γ, b_w cB cC cI cJ cZ oA rA Γ, b_c cB cC cI cJ cZ oA rA Γ]) (bs' := []) (is := []) fl_3 fl_0 rfl) (bx_n (by decide +kernel)) (bx_d (by decide +kernel)) (va_runV (As := []) (rest := []) ⟨hx, hb, hml, hown, hts⟩ (hI4 s.heap.size Γ _ hu_1) (cwV 0 hts (g_gV wq_643 wq_644 wq_2020 wq_3 wq_645) rfl rfl rfl (by decide +kernel) ⟨by show 4 + d + 1 ≤ 4 + (d + 1); omega, by show 8 + (3 + 11) + (102 + 22 * d) ≤ 102 + 22 * (d + 1); omega⟩) (g_preV g_bl0 hK hPc hDc hS hE hFc g_to0 (q0 := 0) (ci := 2) rfl rfl) rfl rfl hl.1 rfl (lv_room (Nat.le_of_ble_eq_true rfl)) dX2_sum_1 ⟨Nat.le_of_ble_eq_true rfl, Nat.le_of_ble_eq_true rfl⟩) (fun u9 H locs hw9 hP' hD' hS => ?_)
  clear hPc hDc hFc
  have hP : va_P (dC, dI) vwCl (b_g cB cC cI cJ cZ oA rA u_1.2 ++ b_w cB cC cI cJ cZ oA rA u_1.2 ++ b_c cB cC cI cJ cZ oA rA u_1.2) H := hP'
  clear hP' hD'
  refine lv_iconst (v := 0) hx hb dX2_sum_4 (by decide +kernel) ?_
  refine lv_istore_n (lv' := [(1, .int 0), (0, .ref (oA 2))]) hx hb dX2_sum_5 rfl hl (by decide) rfl (fun ls hl => ?_)
  refine loopF_ind (P := fun (s_3 : Int32 × HS) => ∀ (H : Heap) (locs : List Loc), va_P (dC, dI) vwCl (b_g cB cC cI cJ cZ oA rA s_3.2 ++ b_w cB cC cI cJ cZ oA rA s_3.2 ++ b_c cB cC cI cJ cZ oA rA s_3.2) H → va_S A s.heap H locs → ∀ ls : Array Slot, lv_has ls 3 [(0, .ref (oA 2)), (1, .int s_3.1)] → W p l e (headSpec (g_ws yX2_sum cX2_sum 3 none) { frames := 4 + (d + 1), cells := 0, slots := 0, locals := 102 + 22 * (d + 1) }).room s m ([.ref (oA 2)] : List Value).toArray below meth c H locs 0 0 (MQ below (va_Qv (fun (_ : Unit) => True) (g_Bo (dC, dI) A (fun (_ : Unit) => (b_g cB cC cI cJ cZ oA rA res.2 ++ b_w cB cC cI cJ cZ oA rA res.2 ++ b_c cB cC cI cJ cZ oA rA res.2))) A) ([.ref (oA 2)] : List Value).toArray s 0 0 A) (F0 m 6 ls [])) ?_ _ _ hF_2 _ _ hP hS ls (lv_sub hl [1, 0] rfl)
  intro again_4 s_3 ih_5 hF_6
  intro H locs hP hS ls hl
  refine lv_iload_n hx hb dX2_sum_6 rfl (lv_at hl 1 rfl) ?_
  refine lv_aload_n hx hb dX2_sum_7 rfl (lv_at hl 0 rfl) ?_
  refine va_get (D := (dC, dI)) (ci := 2) (v := .ref (oA 1)) (C := RX2) (T := TX2) (N := 8) hx hb hts ii_X2 hown hK hP 0 rfl rfl 0 (by decide) (hts (.fieldLink RX2 9 "StoryHouse$Grammar" "words" "LStoryHouse$Words;") wq_71) (fun _ h9 => h9) rfl dX2_sum_8 ?_
  refine va_get (D := (dC, dI)) (ci := 10) (v := .int ((s_3.2 1).1 2)) (C := RX10) (T := TX10) (N := 12) hx hb hts ii_X10 hown hK hP 1 rfl rfl 2 (by decide) (hts (.fieldLink RX2 38 "StoryHouse$Words" "count" "I") wq_47) (fun _ h9 => h9) rfl dX2_sum_11 ?_
  refine lv_icmp_ge (tgt := 74) hx hb dX2_sum_14 (by decide) (fun c_7 => ?_) (fun c_7 => ?_)
  · have hF_8 := ipos c_7 hF_6
    clear hF_6
    have h9 := Option.some.inj hF_8
    subst h9
    exact W.vret hx hb hr (fun t ht hW => ⟨⟨(), rfl, trivial, m_end ht hP, hDD _⟩, hS.F ht⟩) hS.2.2 dX2_sum_74
  · have hF_9 := ineg c_7 hF_6
    clear hF_6
    refine lv_aload_n hx hb dX2_sum_17 rfl (lv_at hl 0 rfl) ?_
    refine va_get (D := (dC, dI)) (ci := 2) (v := .int ((s_3.2 2).1 3)) (C := RX2) (T := TX2) (N := 8) hx hb hts ii_X2 hown hK hP 0 rfl rfl 3 (by decide) (hts (.fieldLink RX2 29 "StoryHouse$Grammar" "kind" "I") wq_74) (fun _ h9 => h9) rfl dX2_sum_18 ?_
    refine lv_bipush (v := 43) hx hb dX2_sum_21 (by decide +kernel) ?_
    obtain ⟨j_11, ej_11, hF_12⟩ := bnd_e hF_9
    clear hF_9
    have Jj_11 : ∀  (σ_10 : HS), j_11  σ_10 = some res → ∀ (H : Heap) (locs : List Loc), va_P (dC, dI) vwCl (b_g cB cC cI cJ cZ oA rA σ_10 ++ b_w cB cC cI cJ cZ oA rA σ_10 ++ b_c cB cC cI cJ cZ oA rA σ_10) H → va_S A s.heap H locs → ∀ ls : Array Slot, lv_has ls 3 [(0, .ref (oA 2)), (1, .int s_3.1)] → W p l e (headSpec (g_ws yX2_sum cX2_sum 3 none) { frames := 4 + (d + 1), cells := 0, slots := 0, locals := 102 + 22 * (d + 1) }).room s m ([.ref (oA 2)] : List Value).toArray below meth c H locs 0 0 (MQ below (va_Qv (fun (_ : Unit) => True) (g_Bo (dC, dI) A (fun (_ : Unit) => (b_g cB cC cI cJ cZ oA rA res.2 ++ b_w cB cC cI cJ cZ oA rA res.2 ++ b_c cB cC cI cJ cZ oA rA res.2))) A) ([.ref (oA 2)] : List Value).toArray s 0 0 A) (F0 m 35 ls []) := by
      intro  σ_10 hF0 H locs hP hS ls hl
      subst ej_11
      have hF_13 := hF0
      clear hF0
      refine lv_aload_n hx hb dX2_sum_35 rfl (lv_at hl 0 rfl) ?_
      refine va_get (D := (dC, dI)) (ci := 2) (v := .int ((σ_10 2).1 3)) (C := RX2) (T := TX2) (N := 8) hx hb hts ii_X2 hown hK hP 0 rfl rfl 3 (by decide) (hts (.fieldLink RX2 29 "StoryHouse$Grammar" "kind" "I") wq_74) (fun _ h9 => h9) rfl dX2_sum_36 ?_
      refine lv_bipush (v := 43) hx hb dX2_sum_39 (by decide +kernel) ?_
      obtain ⟨j_16, ej_16, hF_17⟩ := bnd_e hF_13
      clear hF_13
      have Jj_16 : ∀ (t_14 : Int32) (σ_15 : HS), j_16 t_14 σ_15 = some res → ∀ (H : Heap) (locs : List Loc), va_P (dC, dI) vwCl (b_g cB cC cI cJ cZ oA rA σ_15 ++ b_w cB cC cI cJ cZ oA rA σ_15 ++ b_c cB cC cI cJ cZ oA rA σ_15) H → va_S A s.heap H locs → ∀ ls : Array Slot, lv_has ls 3 [(0, .ref (oA 2)), (1, .int s_3.1)] → W p l e (headSpec (g_ws yX2_sum cX2_sum 3 none) { frames := 4 + (d + 1), cells := 0, slots := 0, locals := 102 + 22 * (d + 1) }).room s m ([.ref (oA 2)] : List Value).toArray below meth c H locs 0 0 (MQ below (va_Qv (fun (_ : Unit) => True) (g_Bo (dC, dI) A (fun (_ : Unit) => (b_g cB cC cI cJ cZ oA rA res.2 ++ b_w cB cC cI cJ cZ oA rA res.2 ++ b_c cB cC cI cJ cZ oA rA res.2))) A) ([.ref (oA 2)] : List Value).toArray s 0 0 A) (F0 m 51 ls [.int t_14]) := by
        intro t_14 σ_15 hF0 H locs hP hS ls hl
        subst ej_16
        have hF_18 := hF0
        clear hF0
        refine lv_istore_n (lv' := [(2, .int t_14), (0, .ref (oA 2)), (1, .int s_3.1)]) hx hb dX2_sum_51 rfl hl (by decide) rfl (fun ls hl => ?_)
        refine lv_aload_n hx hb dX2_sum_52 rfl (lv_at hl 1 rfl) ?_
        obtain ⟨u_19, hu_19, hF_20⟩ := Option.bind_eq_some_iff.mp hF_18
        clear hF_18
        have hPc := bx_P (bs := [b_g cB cC cI cJ cZ oA rA σ_15, b_w cB cC cI cJ cZ oA rA σ_15, b_c cB cC cI cJ cZ oA rA σ_15]) (bs' := [b_g cB cC cI cJ cZ oA rA σ_15, b_w cB cC cI cJ cZ oA rA σ_15, b_c cB cC cI cJ cZ oA rA σ_15]) (ws' := (b_g cB cC cI cJ cZ oA rA σ_15 ++ b_w cB cC cI cJ cZ oA rA σ_15 ++ b_c cB cC cI cJ cZ oA rA σ_15)) hP fl_3 fl_3 [0, 1, 2] rfl
        have hDc := bx_D (bs := [b_g cB cC cI cJ cZ oA rA σ_15, b_w cB cC cI cJ cZ oA rA σ_15, b_c cB cC cI cJ cZ oA rA σ_15]) (bs' := [b_g cB cC cI cJ cZ oA rA σ_15, b_w cB cC cI cJ cZ oA rA σ_15, b_c cB cC cI cJ cZ oA rA σ_15]) (ws' := (b_g cB cC cI cJ cZ oA rA σ_15 ++ b_w cB cC cI cJ cZ oA rA σ_15 ++ b_c cB cC cI cJ cZ oA rA σ_15)) (hDD σ_15) fl_3 fl_3 [0, 1, 2] (by decide +kernel) rfl
        have hFc := bx_F (bs := [b_g cB cC cI cJ cZ oA rA σ_15, b_w cB cC cI cJ cZ oA rA σ_15, b_c cB cC cI cJ cZ oA rA σ_15]) (bs' := [b_g cB cC cI cJ cZ oA rA σ_15, b_w cB cC cI cJ cZ oA rA σ_15, b_c cB cC cI cJ cZ oA rA σ_15]) (wc := (b_g cB cC cI cJ cZ oA rA σ_15 ++ b_w cB cC cI cJ cZ oA rA σ_15 ++ b_c cB cC cI cJ cZ oA rA σ_15)) (hDD σ_15) hS hA fl_3 fl_3 [0, 1, 2] rfl
        refine g_ofv (wc := (b_g cB cC cI cJ cZ oA rA σ_15 ++ b_w cB cC cI cJ cZ oA rA σ_15 ++ b_c cB cC cI cJ cZ oA rA σ_15)) (wr := ([] : va_W)) hP (hDD σ_15) hS hFc (bx_ix [b_g cB cC cI cJ cZ oA rA σ_15, b_w cB cC cI cJ cZ oA rA σ_15, b_c cB cC cI cJ cZ oA rA σ_15] [0, 1, 2]) (bx_ix [b_g cB cC cI cJ cZ oA rA σ_15, b_w cB cC cI cJ cZ oA rA σ_15, b_c cB cC cI cJ cZ oA rA σ_15] []) (bx_C (bs := [b_g cB cC cI cJ cZ oA rA σ_15, b_w cB cC cI cJ cZ oA rA σ_15, b_c cB cC cI cJ cZ oA rA σ_15]) (bs' := [b_g cB cC cI cJ cZ oA rA σ_15, b_w cB cC cI cJ cZ oA rA σ_15, b_c cB cC cI cJ cZ oA rA σ_15]) (is := [0, 1, 2]) fl_3 fl_3 rfl) (bx_C (bs := [b_g cB cC cI cJ cZ oA rA σ_15, b_w cB cC cI cJ cZ oA rA σ_15, b_c cB cC cI cJ cZ oA rA σ_15]) (bs' := []) (is := []) fl_3 fl_0 rfl) (bx_n (by decide +kernel)) (bx_d (by decide +kernel)) (va_runV (As := []) (rest := []) ⟨hx, hb, hml, hown, hts⟩ (k_X2_pass l dC dI cB cC cI cJ cZ cP oA rA H.size  σ_15 _ hu_19) (cwV 0 hts (g_gV wq_555 wq_556 wq_1997 wq_3 wq_557) rfl rfl rfl (by decide +kernel) ⟨by show 1 + 1 ≤ 4 + (d + 1); omega, by show 8 + (1 + 11) + 40 ≤ 102 + 22 * (d + 1); omega⟩) (g_preV g_bl0 hK hPc hDc hS hE hFc g_to0 (q0 := 0) (ci := 2) rfl rfl) rfl rfl hl.1 rfl (lv_room (Nat.le_of_ble_eq_true rfl)) dX2_sum_53 ⟨Nat.le_of_ble_eq_true rfl, Nat.le_of_ble_eq_true rfl⟩) (fun u9 H locs hw9 hP' hD' hS => ?_)
        clear hPc hDc hFc
        have hP : va_P (dC, dI) vwCl (b_g cB cC cI cJ cZ oA rA u_19.2 ++ b_w cB cC cI cJ cZ oA rA u_19.2 ++ b_c cB cC cI cJ cZ oA rA u_19.2) H := hP'
        clear hP' hD'
        refine lv_aload_n hx hb dX2_sum_56 rfl (lv_at hl 1 rfl) ?_
        obtain ⟨u_21, hu_21, hF_22⟩ := Option.bind_eq_some_iff.mp hF_20
        clear hF_20
        have hPc := bx_P (bs := [b_g cB cC cI cJ cZ oA rA u_19.2, b_w cB cC cI cJ cZ oA rA u_19.2, b_c cB cC cI cJ cZ oA rA u_19.2]) (bs' := [b_g cB cC cI cJ cZ oA rA u_19.2, b_w cB cC cI cJ cZ oA rA u_19.2, b_c cB cC cI cJ cZ oA rA u_19.2]) (ws' := (b_g cB cC cI cJ cZ oA rA u_19.2 ++ b_w cB cC cI cJ cZ oA rA u_19.2 ++ b_c cB cC cI cJ cZ oA rA u_19.2)) hP fl_3 fl_3 [0, 1, 2] rfl
        have hDc := bx_D (bs := [b_g cB cC cI cJ cZ oA rA u_19.2, b_w cB cC cI cJ cZ oA rA u_19.2, b_c cB cC cI cJ cZ oA rA u_19.2]) (bs' := [b_g cB cC cI cJ cZ oA rA u_19.2, b_w cB cC cI cJ cZ oA rA u_19.2, b_c cB cC cI cJ cZ oA rA u_19.2]) (ws' := (b_g cB cC cI cJ cZ oA rA u_19.2 ++ b_w cB cC cI cJ cZ oA rA u_19.2 ++ b_c cB cC cI cJ cZ oA rA u_19.2)) (hDD u_19.2) fl_3 fl_3 [0, 1, 2] (by decide +kernel) rfl
        have hFc := bx_F (bs := [b_g cB cC cI cJ cZ oA rA u_19.2, b_w cB cC cI cJ cZ oA rA u_19.2, b_c cB cC cI cJ cZ oA rA u_19.2]) (bs' := [b_g cB cC cI cJ cZ oA rA u_19.2, b_w cB cC cI cJ cZ oA rA u_19.2, b_c cB cC cI cJ cZ oA rA u_19.2]) (wc := (b_g cB cC cI cJ cZ oA rA u_19.2 ++ b_w cB cC cI cJ cZ oA rA u_19.2 ++ b_c cB cC cI cJ cZ oA rA u_19.2)) (hDD u_19.2) hS hA fl_3 fl_3 [0, 1, 2] rfl
        refine g_ofv (wc := (b_g cB cC cI cJ cZ oA rA u_19.2 ++ b_w cB cC cI cJ cZ oA rA u_19.2 ++ b_c cB cC cI cJ cZ oA rA u_19.2)) (wr := ([] : va_W)) hP (hDD u_19.2) hS hFc (bx_ix [b_g cB cC cI cJ cZ oA rA u_19.2, b_w cB cC cI cJ cZ oA rA u_19.2, b_c cB cC cI cJ cZ oA rA u_19.2] [0, 1, 2]) (bx_ix [b_g cB cC cI cJ cZ oA rA u_19.2, b_w cB cC cI cJ cZ oA rA u_19.2, b_c cB cC cI cJ cZ oA rA u_19.2] []) (bx_C (bs := [b_g cB cC cI cJ cZ oA rA u_19.2, b_w cB cC cI cJ cZ oA rA u_19.2, b_c cB cC cI cJ cZ oA rA u_19.2]) (bs' := [b_g cB cC cI cJ cZ oA rA u_19.2, b_w cB cC cI cJ cZ oA rA u_19.2, b_c cB cC cI cJ cZ oA rA u_19.2]) (is := [0, 1, 2]) fl_3 fl_3 rfl) (bx_C (bs := [b_g cB cC cI cJ cZ oA rA u_19.2, b_w cB cC cI cJ cZ oA rA u_19.2, b_c cB cC cI cJ cZ oA rA u_19.2]) (bs' := []) (is := []) fl_3 fl_0 rfl) (bx_n (by decide +kernel)) (bx_d (by decide +kernel)) (va_runV (As := []) (rest := []) ⟨hx, hb, hml, hown, hts⟩ (hI4 H.size u_19.2 _ hu_21) (cwV 0 hts (g_gV wq_643 wq_644 wq_2020 wq_3 wq_645) rfl rfl rfl (by decide +kernel) ⟨by show 4 + d + 1 ≤ 4 + (d + 1); omega, by show 8 + (3 + 11) + (102 + 22 * d) ≤ 102 + 22 * (d + 1); omega⟩) (g_preV g_bl0 hK hPc hDc hS hE hFc g_to0 (q0 := 0) (ci := 2) rfl rfl) rfl rfl hl.1 rfl (lv_room (Nat.le_of_ble_eq_true rfl)) dX2_sum_57 ⟨Nat.le_of_ble_eq_true rfl, Nat.le_of_ble_eq_true rfl⟩) (fun u9 H locs hw9 hP' hD' hS => ?_)
        clear hPc hDc hFc
        have hP : va_P (dC, dI) vwCl (b_g cB cC cI cJ cZ oA rA u_21.2 ++ b_w cB cC cI cJ cZ oA rA u_21.2 ++ b_c cB cC cI cJ cZ oA rA u_21.2) H := hP'
        clear hP' hD'
        refine lv_aload_n hx hb dX2_sum_60 rfl (lv_at hl 1 rfl) ?_
        refine va_get (D := (dC, dI)) (ci := 2) (v := .ref (oA 5)) (C := RX2) (T := TX2) (N := 8) hx hb hts ii_X2 hown hK hP 0 rfl rfl 1 (by decide) (hts (.fieldLink RX2 15 "StoryHouse$Grammar" "code" "LStoryHouse$Code;") wq_72) (fun _ h9 => h9) rfl dX2_sum_61 ?_
        refine lv_iload_n hx hb dX2_sum_64 rfl (lv_at hl 0 rfl) ?_
        obtain ⟨u_23, hu_23, hF_24⟩ := Option.bind_eq_some_iff.mp hF_22
        clear hF_22
        have hPc := bx_P (bs := [b_g cB cC cI cJ cZ oA rA u_21.2, b_w cB cC cI cJ cZ oA rA u_21.2, b_c cB cC cI cJ cZ oA rA u_21.2]) (bs' := [b_c cB cC cI cJ cZ oA rA u_21.2]) (ws' := (b_c cB cC cI cJ cZ oA rA u_21.2)) hP fl_3 fl_1 [2] rfl
        have hDc := bx_D (bs := [b_g cB cC cI cJ cZ oA rA u_21.2, b_w cB cC cI cJ cZ oA rA u_21.2, b_c cB cC cI cJ cZ oA rA u_21.2]) (bs' := [b_c cB cC cI cJ cZ oA rA u_21.2]) (ws' := (b_c cB cC cI cJ cZ oA rA u_21.2)) (hDD u_21.2) fl_3 fl_1 [2] (by decide +kernel) rfl
        have hFc := bx_F (bs := [b_g cB cC cI cJ cZ oA rA u_21.2, b_w cB cC cI cJ cZ oA rA u_21.2, b_c cB cC cI cJ cZ oA rA u_21.2]) (bs' := [b_c cB cC cI cJ cZ oA rA u_21.2]) (wc := (b_c cB cC cI cJ cZ oA rA u_21.2)) (hDD u_21.2) hS hA fl_3 fl_1 [2] rfl
        refine g_ofv (wc := (b_c cB cC cI cJ cZ oA rA u_21.2)) (wr := (b_g cB cC cI cJ cZ oA rA u_21.2 ++ b_w cB cC cI cJ cZ oA rA u_21.2)) hP (hDD u_21.2) hS hFc (bx_ix [b_g cB cC cI cJ cZ oA rA u_21.2, b_w cB cC cI cJ cZ oA rA u_21.2, b_c cB cC cI cJ cZ oA rA u_21.2] [2]) (bx_ix [b_g cB cC cI cJ cZ oA rA u_21.2, b_w cB cC cI cJ cZ oA rA u_21.2, b_c cB cC cI cJ cZ oA rA u_21.2] [0, 1]) (bx_C (bs := [b_g cB cC cI cJ cZ oA rA u_21.2, b_w cB cC cI cJ cZ oA rA u_21.2, b_c cB cC cI cJ cZ oA rA u_21.2]) (bs' := [b_c cB cC cI cJ cZ oA rA u_21.2]) (is := [2]) fl_3 fl_1 rfl) (bx_C (bs := [b_g cB cC cI cJ cZ oA rA u_21.2, b_w cB cC cI cJ cZ oA rA u_21.2, b_c cB cC cI cJ cZ oA rA u_21.2]) (bs' := [b_g cB cC cI cJ cZ oA rA u_21.2, b_w cB cC cI cJ cZ oA rA u_21.2]) (is := [0, 1]) fl_3 fl_2 rfl) (bx_n (by decide +kernel)) (bx_d (by decide +kernel)) (va_runV (As := [.int t_14]) (rest := []) ⟨hx, hb, hml, hown, hts⟩ (k_X0_add l dC dI cB cC cI cJ cZ cP oA rA H.size  t_14 u_21.2 _ hu_23) (cwV 1 hts (g_gV wq_636 wq_637 wq_638 wq_6 wq_639) rfl rfl rfl (by decide +kernel) ⟨by show 1 + 1 ≤ 4 + (d + 1); omega, by show 8 + (2 + 11) + 40 ≤ 102 + 22 * (d + 1); omega⟩) (g_preV g_bl0 hK hPc hDc hS hE hFc g_to0 (q0 := 0) (ci := 0) rfl rfl) rfl rfl hl.1 rfl (lv_room (Nat.le_of_ble_eq_true rfl)) dX2_sum_65 ⟨Nat.le_of_ble_eq_true rfl, Nat.le_of_ble_eq_true rfl⟩) (fun u9 H locs hw9 hP' hD' hS => ?_)
        clear hPc hDc hFc
        obtain ⟨σ_25, eσ_25, hF_26⟩ := bnd_e hF_24
        clear hF_24
        have hP : va_P (dC, dI) vwCl (b_g cB cC cI cJ cZ oA rA σ_25 ++ b_w cB cC cI cJ cZ oA rA σ_25 ++ b_c cB cC cI cJ cZ oA rA σ_25) H := by rw [eσ_25]; exact bx_P (bs := [b_g cB cC cI cJ cZ oA rA u_21.2, b_w cB cC cI cJ cZ oA rA u_21.2] ++ [b_c cB cC cI cJ cZ oA rA u_23.2]) (bs' := [b_g cB cC cI cJ cZ oA rA (mrg (fun j => j == 5) u_21.2 u_23.2), b_w cB cC cI cJ cZ oA rA (mrg (fun j => j == 5) u_21.2 u_23.2), b_c cB cC cI cJ cZ oA rA (mrg (fun j => j == 5) u_21.2 u_23.2)]) hP' (fl_a fl_2 fl_1) fl_3 [0, 1, 2] rfl
        clear hP' hD'
        obtain ⟨x_27, ex_27, hF_28⟩ := bnd_e hF_26
        clear hF_26
        refine lv_iinc (v := x_27) (lv' := [(1, .int x_27), (2, .int t_14), (0, .ref (oA 2))]) hx hb dX2_sum_68 hl (k := 2) rfl (by rw [ex_27]; rfl) (by decide) rfl (fun ls hl => ?_)
        refine lv_goto (tgt := 6) hx hb dX2_sum_71 (by decide) ?_
        exact ih_5 (x_27, σ_25) hF_28 _ _ hP hS ls (lv_sub hl [2, 0] rfl)
      refine lv_icmp_ne (tgt := 49) hx hb dX2_sum_41 (by decide) (fun c_29 => ?_) (fun c_29 => ?_)
      · have hF_31 := ineg c_29 hF_17
        clear hF_17
        refine lv_bipush (v := 11) hx hb dX2_sum_49 (by decide +kernel) ?_
        exact Jj_16 11 σ_10 hF_31 _ _ hP hS ls (lv_sub hl [0, 1] rfl)
      · have hF_30 := ipos c_29 hF_17
        clear hF_17
        refine lv_bipush (v := 10) hx hb dX2_sum_44 (by decide +kernel) ?_
        refine lv_goto (tgt := 51) hx hb dX2_sum_46 (by decide) ?_
        exact Jj_16 10 σ_10 hF_30 _ _ hP hS ls (lv_sub hl [0, 1] rfl)
    refine lv_icmp_eq (tgt := 35) hx hb dX2_sum_23 (by decide) (fun c_32 => ?_) (fun c_32 => ?_)
    · have hF_33 := ipos c_32 hF_12
      clear hF_12
      exact Jj_11  s_3.2 hF_33 _ _ hP hS ls (lv_sub hl [0, 1] rfl)
    · have hF_34 := ineg c_32 hF_12
      clear hF_12
      refine lv_aload_n hx hb dX2_sum_26 rfl (lv_at hl 0 rfl) ?_
      refine va_get (D := (dC, dI)) (ci := 2) (v := .int ((s_3.2 2).1 3)) (C := RX2) (T := TX2) (N := 8) hx hb hts ii_X2 hown hK hP 0 rfl rfl 3 (by decide) (hts (.fieldLink RX2 29 "StoryHouse$Grammar" "kind" "I") wq_74) (fun _ h9 => h9) rfl dX2_sum_27 ?_
      refine lv_bipush (v := 45) hx hb dX2_sum_30 (by decide +kernel) ?_
      refine lv_icmp_ne (tgt := 74) hx hb dX2_sum_32 (by decide) (fun c_35 => ?_) (fun c_35 => ?_)
      · have hF_37 := ineg c_35 hF_34
        clear hF_34
        have h9 := Option.some.inj hF_37
        subst h9
        exact W.vret hx hb hr (fun t ht hW => ⟨⟨(), rfl, trivial, m_end ht hP, hDD _⟩, hS.F ht⟩) hS.2.2 dX2_sum_74
      · have hF_36 := ipos c_35 hF_34
        clear hF_34
        exact Jj_11  s_3.2 hF_36 _ _ hP hS ls (lv_sub hl [0, 1] rfl)

def F_X2_term (rec : HG)  (Γ : HS) : HR :=
  (rec 5 0 0 0 Γ).bind fun u_1 =>
  loopF (fun (again_4 : (Int32 × HS) → HR) (s_3 : Int32 × HS) => (
    if ((s_3.2 1).1 2) ≤ s_3.1 then (
      some (0, s_3.2)
    ) else (
      bnd (fun  (σ_10 : HS) => (
        bnd (fun (t_14 : Int32) (σ_15 : HS) => (
          (F_X2_pass σ_15).bind fun u_19 =>
          (rec 5 0 0 0 u_19.2).bind fun u_21 =>
          (F_X0_add t_14 u_21.2).bind fun u_23 =>
          bnd (mrg (fun j => j == 5) u_21.2 u_23.2) fun σ_25 =>
          bnd (s_3.1 + 1) fun (x_27 : Int32) =>
          again_4 (x_27, σ_25)
        ) : Int32 → HS → HR) fun j_16 =>
        if ((σ_10 2).1 3) = 42 then (
          j_16 12 σ_10
        ) else (
          if ((σ_10 2).1 3) = 47 then (
            j_16 13 σ_10
          ) else (
            j_16 14 σ_10
          )
        )
      ) : HS → HR) fun j_11 =>
      if ((s_3.2 2).1 3) = 42 then (
        j_11  s_3.2
      ) else (
        if ((s_3.2 2).1 3) = 47 then (
          j_11  s_3.2
        ) else (
          if ((s_3.2 2).1 3) = 37 then (
            j_11  s_3.2
          ) else (
            some (0, s_3.2)
          )
        )
      )
    )
  )) FU (0, u_1.2)
set_option maxHeartbeats 4000000 in
set_option maxRecDepth 100000 in
theorem k_X2_term_st (l : Launch) (dC : Nat → ClassId) (dI : Nat → Nat → Nat) (cB cC cI cJ cZ cP : ClassId) (oA : Nat → Nat) (rA : Nat → Nat → Nat) (d : Nat) (rec : HG) (hI0 : ∀ (sz : Nat)  (Γ : HS) (res : Int32 × HS), rec 0 0 0 0 Γ = some res → Met l yX2_expression (g_ws yX2_expression cX2_expression 3 none) ({ frames := 4 + d, cells := 0, slots := 0, locals := 102 + 22 * d }) (va_Pc [.ref (oA 2)] (g_B (dC, dI) [(cB, .byte), (cC, .char), (cI, .int), (cJ, .long), (cZ, .boolean), (cP, .object "StoryHouse$Play")] sz (b_g cB cC cI cJ cZ oA rA Γ ++ b_w cB cC cI cJ cZ oA rA Γ ++ b_c cB cC cI cJ cZ oA rA Γ) g_0)) (va_Qv (fun (_ : Unit) => True) (g_Bo (dC, dI) (va_A (b_g cB cC cI cJ cZ oA rA Γ ++ b_w cB cC cI cJ cZ oA rA Γ ++ b_c cB cC cI cJ cZ oA rA Γ) sz) (fun (_ : Unit) => (b_g cB cC cI cJ cZ oA rA res.2 ++ b_w cB cC cI cJ cZ oA rA res.2 ++ b_c cB cC cI cJ cZ oA rA res.2))) (va_A (b_g cB cC cI cJ cZ oA rA Γ ++ b_w cB cC cI cJ cZ oA rA Γ ++ b_c cB cC cI cJ cZ oA rA Γ) sz)) 0 0 (va_A (b_g cB cC cI cJ cZ oA rA Γ ++ b_w cB cC cI cJ cZ oA rA Γ ++ b_c cB cC cI cJ cZ oA rA Γ) sz)) (hI1 : ∀ (sz : Nat)  (Γ : HS) (res : Int32 × HS), rec 1 0 0 0 Γ = some res → Met l yX2_both (g_ws yX2_both cX2_both 3 none) ({ frames := 4 + d, cells := 0, slots := 0, locals := 102 + 22 * d }) (va_Pc [.ref (oA 2)] (g_B (dC, dI) [(cB, .byte), (cC, .char), (cI, .int), (cJ, .long), (cZ, .boolean), (cP, .object "StoryHouse$Play")] sz (b_g cB cC cI cJ cZ oA rA Γ ++ b_w cB cC cI cJ cZ oA rA Γ ++ b_c cB cC cI cJ cZ oA rA Γ) g_0)) (va_Qv (fun (_ : Unit) => True) (g_Bo (dC, dI) (va_A (b_g cB cC cI cJ cZ oA rA Γ ++ b_w cB cC cI cJ cZ oA rA Γ ++ b_c cB cC cI cJ cZ oA rA Γ) sz) (fun (_ : Unit) => (b_g cB cC cI cJ cZ oA rA res.2 ++ b_w cB cC cI cJ cZ oA rA res.2 ++ b_c cB cC cI cJ cZ oA rA res.2))) (va_A (b_g cB cC cI cJ cZ oA rA Γ ++ b_w cB cC cI cJ cZ oA rA Γ ++ b_c cB cC cI cJ cZ oA rA Γ) sz)) 0 0 (va_A (b_g cB cC cI cJ cZ oA rA Γ ++ b_w cB cC cI cJ cZ oA rA Γ ++ b_c cB cC cI cJ cZ oA rA Γ) sz)) (hI2 : ∀ (sz : Nat)  (Γ : HS) (res : Int32 × HS), rec 2 0 0 0 Γ = some res → Met l yX2_step (g_ws yX2_step cX2_step 2 none) ({ frames := 4 + d, cells := 0, slots := 0, locals := 102 + 22 * d }) (va_Pc [.ref (oA 2)] (g_B (dC, dI) [(cB, .byte), (cC, .char), (cI, .int), (cJ, .long), (cZ, .boolean), (cP, .object "StoryHouse$Play")] sz (b_g cB cC cI cJ cZ oA rA Γ ++ b_w cB cC cI cJ cZ oA rA Γ ++ b_c cB cC cI cJ cZ oA rA Γ) g_0)) (va_Qv (fun (_ : Unit) => True) (g_Bo (dC, dI) (va_A (b_g cB cC cI cJ cZ oA rA Γ ++ b_w cB cC cI cJ cZ oA rA Γ ++ b_c cB cC cI cJ cZ oA rA Γ) sz) (fun (_ : Unit) => (b_g cB cC cI cJ cZ oA rA res.2 ++ b_w cB cC cI cJ cZ oA rA res.2 ++ b_c cB cC cI cJ cZ oA rA res.2))) (va_A (b_g cB cC cI cJ cZ oA rA Γ ++ b_w cB cC cI cJ cZ oA rA Γ ++ b_c cB cC cI cJ cZ oA rA Γ) sz)) 0 0 (va_A (b_g cB cC cI cJ cZ oA rA Γ ++ b_w cB cC cI cJ cZ oA rA Γ ++ b_c cB cC cI cJ cZ oA rA Γ) sz)) (hI3 : ∀ (sz : Nat)  (Γ : HS) (res : Int32 × HS), rec 3 0 0 0 Γ = some res → Met l yX2_sum (g_ws yX2_sum cX2_sum 3 none) ({ frames := 4 + d, cells := 0, slots := 0, locals := 102 + 22 * d }) (va_Pc [.ref (oA 2)] (g_B (dC, dI) [(cB, .byte), (cC, .char), (cI, .int), (cJ, .long), (cZ, .boolean), (cP, .object "StoryHouse$Play")] sz (b_g cB cC cI cJ cZ oA rA Γ ++ b_w cB cC cI cJ cZ oA rA Γ ++ b_c cB cC cI cJ cZ oA rA Γ) g_0)) (va_Qv (fun (_ : Unit) => True) (g_Bo (dC, dI) (va_A (b_g cB cC cI cJ cZ oA rA Γ ++ b_w cB cC cI cJ cZ oA rA Γ ++ b_c cB cC cI cJ cZ oA rA Γ) sz) (fun (_ : Unit) => (b_g cB cC cI cJ cZ oA rA res.2 ++ b_w cB cC cI cJ cZ oA rA res.2 ++ b_c cB cC cI cJ cZ oA rA res.2))) (va_A (b_g cB cC cI cJ cZ oA rA Γ ++ b_w cB cC cI cJ cZ oA rA Γ ++ b_c cB cC cI cJ cZ oA rA Γ) sz)) 0 0 (va_A (b_g cB cC cI cJ cZ oA rA Γ ++ b_w cB cC cI cJ cZ oA rA Γ ++ b_c cB cC cI cJ cZ oA rA Γ) sz)) (hI4 : ∀ (sz : Nat)  (Γ : HS) (res : Int32 × HS), rec 4 0 0 0 Γ = some res → Met l yX2_term (g_ws yX2_term cX2_term 3 none) ({ frames := 4 + d, cells := 0, slots := 0, locals := 102 + 22 * d }) (va_Pc [.ref (oA 2)] (g_B (dC, dI) [(cB, .byte), (cC, .char), (cI, .int), (cJ, .long), (cZ, .boolean), (cP, .object "StoryHouse$Play")] sz (b_g cB cC cI cJ cZ oA rA Γ ++ b_w cB cC cI cJ cZ oA rA Γ ++ b_c cB cC cI cJ cZ oA rA Γ) g_0)) (va_Qv (fun (_ : Unit) => True) (g_Bo (dC, dI) (va_A (b_g cB cC cI cJ cZ oA rA Γ ++ b_w cB cC cI cJ cZ oA rA Γ ++ b_c cB cC cI cJ cZ oA rA Γ) sz) (fun (_ : Unit) => (b_g cB cC cI cJ cZ oA rA res.2 ++ b_w cB cC cI cJ cZ oA rA res.2 ++ b_c cB cC cI cJ cZ oA rA res.2))) (va_A (b_g cB cC cI cJ cZ oA rA Γ ++ b_w cB cC cI cJ cZ oA rA Γ ++ b_c cB cC cI cJ cZ oA rA Γ) sz)) 0 0 (va_A (b_g cB cC cI cJ cZ oA rA Γ ++ b_w cB cC cI cJ cZ oA rA Γ ++ b_c cB cC cI cJ cZ oA rA Γ) sz)) (hI5 : ∀ (sz : Nat)  (Γ : HS) (res : Int32 × HS), rec 5 0 0 0 Γ = some res → Met l yX2_factor (g_ws yX2_factor cX2_factor 1 none) ({ frames := 4 + d, cells := 0, slots := 0, locals := 102 + 22 * d }) (va_Pc [.ref (oA 2)] (g_B (dC, dI) [(cB, .byte), (cC, .char), (cI, .int), (cJ, .long), (cZ, .boolean), (cP, .object "StoryHouse$Play")] sz (b_g cB cC cI cJ cZ oA rA Γ ++ b_w cB cC cI cJ cZ oA rA Γ ++ b_c cB cC cI cJ cZ oA rA Γ) g_0)) (va_Qv (fun (_ : Unit) => True) (g_Bo (dC, dI) (va_A (b_g cB cC cI cJ cZ oA rA Γ ++ b_w cB cC cI cJ cZ oA rA Γ ++ b_c cB cC cI cJ cZ oA rA Γ) sz) (fun (_ : Unit) => (b_g cB cC cI cJ cZ oA rA res.2 ++ b_w cB cC cI cJ cZ oA rA res.2 ++ b_c cB cC cI cJ cZ oA rA res.2))) (va_A (b_g cB cC cI cJ cZ oA rA Γ ++ b_w cB cC cI cJ cZ oA rA Γ ++ b_c cB cC cI cJ cZ oA rA Γ) sz)) 0 0 (va_A (b_g cB cC cI cJ cZ oA rA Γ ++ b_w cB cC cI cJ cZ oA rA Γ ++ b_c cB cC cI cJ cZ oA rA Γ) sz)) (hI6 : ∀ (sz : Nat)  (Γ : HS) (res : Int32 × HS), rec 6 0 0 0 Γ = some res → Met l yX2_primary (g_ws yX2_primary cX2_primary 3 none) ({ frames := 4 + d, cells := 0, slots := 0, locals := 102 + 22 * d }) (va_Pc [.ref (oA 2)] (g_B (dC, dI) [(cB, .byte), (cC, .char), (cI, .int), (cJ, .long), (cZ, .boolean), (cP, .object "StoryHouse$Play")] sz (b_g cB cC cI cJ cZ oA rA Γ ++ b_w cB cC cI cJ cZ oA rA Γ ++ b_c cB cC cI cJ cZ oA rA Γ) g_0)) (va_Qv (fun (_ : Unit) => True) (g_Bo (dC, dI) (va_A (b_g cB cC cI cJ cZ oA rA Γ ++ b_w cB cC cI cJ cZ oA rA Γ ++ b_c cB cC cI cJ cZ oA rA Γ) sz) (fun (_ : Unit) => (b_g cB cC cI cJ cZ oA rA res.2 ++ b_w cB cC cI cJ cZ oA rA res.2 ++ b_c cB cC cI cJ cZ oA rA res.2))) (va_A (b_g cB cC cI cJ cZ oA rA Γ ++ b_w cB cC cI cJ cZ oA rA Γ ++ b_c cB cC cI cJ cZ oA rA Γ) sz)) 0 0 (va_A (b_g cB cC cI cJ cZ oA rA Γ ++ b_w cB cC cI cJ cZ oA rA Γ ++ b_c cB cC cI cJ cZ oA rA Γ) sz)) (hI7 : ∀ (sz : Nat) (p0 : Int32) (Γ : HS) (res : Int32 × HS), rec 7 p0 0 0 Γ = some res → Met l yX2_arguments (g_ws yX2_arguments cX2_arguments 3 none) ({ frames := 4 + d, cells := 0, slots := 0, locals := 102 + 22 * d }) (va_Pc [.ref (oA 2), .int p0] (g_B (dC, dI) [(cB, .byte), (cC, .char), (cI, .int), (cJ, .long), (cZ, .boolean), (cP, .object "StoryHouse$Play")] sz (b_g cB cC cI cJ cZ oA rA Γ ++ b_w cB cC cI cJ cZ oA rA Γ ++ b_c cB cC cI cJ cZ oA rA Γ) g_0)) (va_Qv (fun (_ : Unit) => True) (g_Bo (dC, dI) (va_A (b_g cB cC cI cJ cZ oA rA Γ ++ b_w cB cC cI cJ cZ oA rA Γ ++ b_c cB cC cI cJ cZ oA rA Γ) sz) (fun (_ : Unit) => (b_g cB cC cI cJ cZ oA rA res.2 ++ b_w cB cC cI cJ cZ oA rA res.2 ++ b_c cB cC cI cJ cZ oA rA res.2))) (va_A (b_g cB cC cI cJ cZ oA rA Γ ++ b_w cB cC cI cJ cZ oA rA Γ ++ b_c cB cC cI cJ cZ oA rA Γ) sz)) 0 0 (va_A (b_g cB cC cI cJ cZ oA rA Γ ++ b_w cB cC cI cJ cZ oA rA Γ ++ b_c cB cC cI cJ cZ oA rA Γ) sz)) (hI8 : ∀ (sz : Nat)  (Γ : HS) (res : Int32 × HS), rec 8 0 0 0 Γ = some res → Met l yX2_index (g_ws yX2_index cX2_index 1 none) ({ frames := 4 + d, cells := 0, slots := 0, locals := 102 + 22 * d }) (va_Pc [.ref (oA 2)] (g_B (dC, dI) [(cB, .byte), (cC, .char), (cI, .int), (cJ, .long), (cZ, .boolean), (cP, .object "StoryHouse$Play")] sz (b_g cB cC cI cJ cZ oA rA Γ ++ b_w cB cC cI cJ cZ oA rA Γ ++ b_c cB cC cI cJ cZ oA rA Γ) g_0)) (va_Qv (fun (_ : Unit) => True) (g_Bo (dC, dI) (va_A (b_g cB cC cI cJ cZ oA rA Γ ++ b_w cB cC cI cJ cZ oA rA Γ ++ b_c cB cC cI cJ cZ oA rA Γ) sz) (fun (_ : Unit) => (b_g cB cC cI cJ cZ oA rA res.2 ++ b_w cB cC cI cJ cZ oA rA res.2 ++ b_c cB cC cI cJ cZ oA rA res.2))) (va_A (b_g cB cC cI cJ cZ oA rA Γ ++ b_w cB cC cI cJ cZ oA rA Γ ++ b_c cB cC cI cJ cZ oA rA Γ) sz)) 0 0 (va_A (b_g cB cC cI cJ cZ oA rA Γ ++ b_w cB cC cI cJ cZ oA rA Γ ++ b_c cB cC cI cJ cZ oA rA Γ) sz)) (sz : Nat)   (Γ : HS) (res : Int32 × HS) (hF : F_X2_term rec  Γ = some res) : Met l yX2_term (g_ws yX2_term cX2_term 3 none) ({ frames := 4 + (d + 1), cells := 0, slots := 0, locals := 102 + 22 * (d + 1) }) (va_Pc [.ref (oA 2)] (g_B (dC, dI) [(cB, .byte), (cC, .char), (cI, .int), (cJ, .long), (cZ, .boolean), (cP, .object "StoryHouse$Play")] sz (b_g cB cC cI cJ cZ oA rA Γ ++ b_w cB cC cI cJ cZ oA rA Γ ++ b_c cB cC cI cJ cZ oA rA Γ) g_0)) (va_Qv (fun (_ : Unit) => True) (g_Bo (dC, dI) (va_A (b_g cB cC cI cJ cZ oA rA Γ ++ b_w cB cC cI cJ cZ oA rA Γ ++ b_c cB cC cI cJ cZ oA rA Γ) sz) (fun (_ : Unit) => (b_g cB cC cI cJ cZ oA rA res.2 ++ b_w cB cC cI cJ cZ oA rA res.2 ++ b_c cB cC cI cJ cZ oA rA res.2))) (va_A (b_g cB cC cI cJ cZ oA rA Γ ++ b_w cB cC cI cJ cZ oA rA Γ ++ b_c cB cC cI cJ cZ oA rA Γ) sz)) 0 0 (va_A (b_g cB cC cI cJ cZ oA rA Γ ++ b_w cB cC cI cJ cZ oA rA Γ ++ b_c cB cC cI cJ cZ oA rA Γ) sz) := by
  refine Met.ofW (cc := cX2_term) (maxL := 3) (ret := none) (by decide) rfl ?_
  intro p e s m args below meth c s₁ B hml hv
  obtain ⟨rfl, hsz, hP, hK, hD0, hE, hX⟩ := hv
  have hx := B.exec
  have hb := B.bytes
  have hr := B.returns
  have hts0 := atoms_spec (ws := g_ws yX2_term cX2_term 3 none) B.pre
  have hts : ∀ w ∈ lw_good, w.before ([.ref (oA 2)] : List Value).toArray s = true := fun w z => hts0 w (List.mem_cons_of_mem _ z)
  have hown : s.vm.findClass RX2 = some m.cls := findClass_of_methodNamed B.named
  have hlocks := B.notSynchronized
  subst hsz
  have hD1 := hD0.self (sz := s.heap.size)
  generalize hAe : va_A (b_g cB cC cI cJ cZ oA rA Γ ++ b_w cB cC cI cJ cZ oA rA Γ ++ b_c cB cC cI cJ cZ oA rA Γ) s.heap.size = A at hD1 hE hX ⊢
  have hA : ∀ q : Nat, s.heap.size ≤ q → A q := fun q z => by rw [← hAe]; exact Or.inr z
  have hDD : ∀ Γ : HS, va_D A (b_g cB cC cI cJ cZ oA rA Γ ++ b_w cB cC cI cJ cZ oA rA Γ ++ b_c cB cC cI cJ cZ oA rA Γ) := fun Γ9 => va_D_fst (ws := (b_g cB cC cI cJ cZ oA rA Γ ++ b_w cB cC cI cJ cZ oA rA Γ ++ b_c cB cC cI cJ cZ oA rA Γ)) (ws' := (b_g cB cC cI cJ cZ oA rA Γ9 ++ b_w cB cC cI cJ cZ oA rA Γ9 ++ b_c cB cC cI cJ cZ oA rA Γ9)) rfl hD1
  have hN := hE.1
  have hS : va_S A s.heap s.heap [] := va_S.rf
  have hl := lv_entry ([.ref (oA 2)]) (n := 3) (Nat.le_of_ble_eq_true rfl)
  rw [lg_entry_eq]
  generalize (lg_sl ([.ref (oA 2)]) ++ List.replicate (3 - (lg_sl ([.ref (oA 2)])).length) Slot.unset).toArray = ls at hl ⊢
  have hl : lv_has ls 3 [(0, .ref (oA 2))] := hl
  unfold F_X2_term at hF
  refine lv_aload_n hx hb dX2_term_0 rfl (lv_at hl 0 rfl) ?_
  obtain ⟨u_1, hu_1, hF_2⟩ := Option.bind_eq_some_iff.mp hF
  clear hF
  have hPc := bx_P (bs := [b_g cB cC cI cJ cZ oA rA Γ, b_w cB cC cI cJ cZ oA rA Γ, b_c cB cC cI cJ cZ oA rA Γ]) (bs' := [b_g cB cC cI cJ cZ oA rA Γ, b_w cB cC cI cJ cZ oA rA Γ, b_c cB cC cI cJ cZ oA rA Γ]) (ws' := (b_g cB cC cI cJ cZ oA rA Γ ++ b_w cB cC cI cJ cZ oA rA Γ ++ b_c cB cC cI cJ cZ oA rA Γ)) hP fl_3 fl_3 [0, 1, 2] rfl
  have hDc := bx_D (bs := [b_g cB cC cI cJ cZ oA rA Γ, b_w cB cC cI cJ cZ oA rA Γ, b_c cB cC cI cJ cZ oA rA Γ]) (bs' := [b_g cB cC cI cJ cZ oA rA Γ, b_w cB cC cI cJ cZ oA rA Γ, b_c cB cC cI cJ cZ oA rA Γ]) (ws' := (b_g cB cC cI cJ cZ oA rA Γ ++ b_w cB cC cI cJ cZ oA rA Γ ++ b_c cB cC cI cJ cZ oA rA Γ)) (hDD Γ) fl_3 fl_3 [0, 1, 2] (by decide +kernel) rfl
  have hFc := bx_F (bs := [b_g cB cC cI cJ cZ oA rA Γ, b_w cB cC cI cJ cZ oA rA Γ, b_c cB cC cI cJ cZ oA rA Γ]) (bs' := [b_g cB cC cI cJ cZ oA rA Γ, b_w cB cC cI cJ cZ oA rA Γ, b_c cB cC cI cJ cZ oA rA Γ]) (wc := (b_g cB cC cI cJ cZ oA rA Γ ++ b_w cB cC cI cJ cZ oA rA Γ ++ b_c cB cC cI cJ cZ oA rA Γ)) (hDD Γ) hS hA fl_3 fl_3 [0, 1, 2] rfl
  refine g_ofv (wc := (b_g cB cC cI cJ cZ oA rA Γ ++ b_w cB cC cI cJ cZ oA rA Γ ++ b_c cB cC cI cJ cZ oA rA Γ)) (wr := ([] : va_W)) hP (hDD Γ) hS hFc (bx_ix [b_g cB cC cI cJ cZ oA rA Γ, b_w cB cC cI cJ cZ oA rA Γ, b_c cB cC cI cJ cZ oA rA Γ] [0, 1, 2]) (bx_ix [b_g cB cC cI cJ cZ oA rA Γ, b_w cB cC cI cJ cZ oA rA Γ, b_c cB cC cI cJ cZ oA rA Γ] []) (bx_C (bs := [b_g cB cC cI cJ cZ oA rA Γ, b_w cB cC cI cJ cZ oA rA Γ, b_c cB cC cI cJ cZ oA rA Γ]) (bs' := [b_g cB cC cI cJ cZ oA rA Γ, b_w cB cC cI cJ cZ oA rA Γ, b_c cB cC cI cJ cZ oA rA Γ]) (is := [0, 1, 2]) fl_3 fl_3 rfl) (bx_C (bs := [b_g cB cC cI cJ cZ oA rA Γ, b_w cB cC cI cJ cZ oA rA Γ, b_c cB cC cI cJ cZ oA rA Γ]) (bs' := []) (is := []) fl_3 fl_0 rfl) (bx_n (by decide +kernel)) (bx_d (by decide +kernel)) (va_runV (As := []) (rest := []) ⟨hx, hb, hml, hown, hts⟩ (hI5 s.heap.size Γ _ hu_1) (cwV 0 hts (g_gV wq_646 wq_647 wq_2021 wq_3 wq_648) rfl rfl rfl (by decide +kernel) ⟨by show 4 + d + 1 ≤ 4 + (d + 1); omega, by show 8 + (1 + 11) + (102 + 22 * d) ≤ 102 + 22 * (d + 1); omega⟩) (g_preV g_bl0 hK hPc hDc hS hE hFc g_to0 (q0 := 0) (ci := 2) rfl rfl) rfl rfl hl.1 rfl (lv_room (Nat.le_of_ble_eq_true rfl)) dX2_term_1 ⟨Nat.le_of_ble_eq_true rfl, Nat.le_of_ble_eq_true rfl⟩) (fun u9 H locs hw9 hP' hD' hS => ?_)
  clear hPc hDc hFc
  have hP : va_P (dC, dI) vwCl (b_g cB cC cI cJ cZ oA rA u_1.2 ++ b_w cB cC cI cJ cZ oA rA u_1.2 ++ b_c cB cC cI cJ cZ oA rA u_1.2) H := hP'
  clear hP' hD'
  refine lv_iconst (v := 0) hx hb dX2_term_4 (by decide +kernel) ?_
  refine lv_istore_n (lv' := [(1, .int 0), (0, .ref (oA 2))]) hx hb dX2_term_5 rfl hl (by decide) rfl (fun ls hl => ?_)
  refine loopF_ind (P := fun (s_3 : Int32 × HS) => ∀ (H : Heap) (locs : List Loc), va_P (dC, dI) vwCl (b_g cB cC cI cJ cZ oA rA s_3.2 ++ b_w cB cC cI cJ cZ oA rA s_3.2 ++ b_c cB cC cI cJ cZ oA rA s_3.2) H → va_S A s.heap H locs → ∀ ls : Array Slot, lv_has ls 3 [(0, .ref (oA 2)), (1, .int s_3.1)] → W p l e (headSpec (g_ws yX2_term cX2_term 3 none) { frames := 4 + (d + 1), cells := 0, slots := 0, locals := 102 + 22 * (d + 1) }).room s m ([.ref (oA 2)] : List Value).toArray below meth c H locs 0 0 (MQ below (va_Qv (fun (_ : Unit) => True) (g_Bo (dC, dI) A (fun (_ : Unit) => (b_g cB cC cI cJ cZ oA rA res.2 ++ b_w cB cC cI cJ cZ oA rA res.2 ++ b_c cB cC cI cJ cZ oA rA res.2))) A) ([.ref (oA 2)] : List Value).toArray s 0 0 A) (F0 m 6 ls [])) ?_ _ _ hF_2 _ _ hP hS ls (lv_sub hl [1, 0] rfl)
  intro again_4 s_3 ih_5 hF_6
  intro H locs hP hS ls hl
  refine lv_iload_n hx hb dX2_term_6 rfl (lv_at hl 1 rfl) ?_
  refine lv_aload_n hx hb dX2_term_7 rfl (lv_at hl 0 rfl) ?_
  refine va_get (D := (dC, dI)) (ci := 2) (v := .ref (oA 1)) (C := RX2) (T := TX2) (N := 8) hx hb hts ii_X2 hown hK hP 0 rfl rfl 0 (by decide) (hts (.fieldLink RX2 9 "StoryHouse$Grammar" "words" "LStoryHouse$Words;") wq_71) (fun _ h9 => h9) rfl dX2_term_8 ?_
  refine va_get (D := (dC, dI)) (ci := 10) (v := .int ((s_3.2 1).1 2)) (C := RX10) (T := TX10) (N := 12) hx hb hts ii_X10 hown hK hP 1 rfl rfl 2 (by decide) (hts (.fieldLink RX2 38 "StoryHouse$Words" "count" "I") wq_47) (fun _ h9 => h9) rfl dX2_term_11 ?_
  refine lv_icmp_ge (tgt := 97) hx hb dX2_term_14 (by decide) (fun c_7 => ?_) (fun c_7 => ?_)
  · have hF_8 := ipos c_7 hF_6
    clear hF_6
    have h9 := Option.some.inj hF_8
    subst h9
    exact W.vret hx hb hr (fun t ht hW => ⟨⟨(), rfl, trivial, m_end ht hP, hDD _⟩, hS.F ht⟩) hS.2.2 dX2_term_97
  · have hF_9 := ineg c_7 hF_6
    clear hF_6
    refine lv_aload_n hx hb dX2_term_17 rfl (lv_at hl 0 rfl) ?_
    refine va_get (D := (dC, dI)) (ci := 2) (v := .int ((s_3.2 2).1 3)) (C := RX2) (T := TX2) (N := 8) hx hb hts ii_X2 hown hK hP 0 rfl rfl 3 (by decide) (hts (.fieldLink RX2 29 "StoryHouse$Grammar" "kind" "I") wq_74) (fun _ h9 => h9) rfl dX2_term_18 ?_
    refine lv_bipush (v := 42) hx hb dX2_term_21 (by decide +kernel) ?_
    obtain ⟨j_11, ej_11, hF_12⟩ := bnd_e hF_9
    clear hF_9
    have Jj_11 : ∀  (σ_10 : HS), j_11  σ_10 = some res → ∀ (H : Heap) (locs : List Loc), va_P (dC, dI) vwCl (b_g cB cC cI cJ cZ oA rA σ_10 ++ b_w cB cC cI cJ cZ oA rA σ_10 ++ b_c cB cC cI cJ cZ oA rA σ_10) H → va_S A s.heap H locs → ∀ ls : Array Slot, lv_has ls 3 [(0, .ref (oA 2)), (1, .int s_3.1)] → W p l e (headSpec (g_ws yX2_term cX2_term 3 none) { frames := 4 + (d + 1), cells := 0, slots := 0, locals := 102 + 22 * (d + 1) }).room s m ([.ref (oA 2)] : List Value).toArray below meth c H locs 0 0 (MQ below (va_Qv (fun (_ : Unit) => True) (g_Bo (dC, dI) A (fun (_ : Unit) => (b_g cB cC cI cJ cZ oA rA res.2 ++ b_w cB cC cI cJ cZ oA rA res.2 ++ b_c cB cC cI cJ cZ oA rA res.2))) A) ([.ref (oA 2)] : List Value).toArray s 0 0 A) (F0 m 44 ls []) := by
      intro  σ_10 hF0 H locs hP hS ls hl
      subst ej_11
      have hF_13 := hF0
      clear hF0
      refine lv_aload_n hx hb dX2_term_44 rfl (lv_at hl 0 rfl) ?_
      refine va_get (D := (dC, dI)) (ci := 2) (v := .int ((σ_10 2).1 3)) (C := RX2) (T := TX2) (N := 8) hx hb hts ii_X2 hown hK hP 0 rfl rfl 3 (by decide) (hts (.fieldLink RX2 29 "StoryHouse$Grammar" "kind" "I") wq_74) (fun _ h9 => h9) rfl dX2_term_45 ?_
      refine lv_bipush (v := 42) hx hb dX2_term_48 (by decide +kernel) ?_
      obtain ⟨j_16, ej_16, hF_17⟩ := bnd_e hF_13
      clear hF_13
      have Jj_16 : ∀ (t_14 : Int32) (σ_15 : HS), j_16 t_14 σ_15 = some res → ∀ (H : Heap) (locs : List Loc), va_P (dC, dI) vwCl (b_g cB cC cI cJ cZ oA rA σ_15 ++ b_w cB cC cI cJ cZ oA rA σ_15 ++ b_c cB cC cI cJ cZ oA rA σ_15) H → va_S A s.heap H locs → ∀ ls : Array Slot, lv_has ls 3 [(0, .ref (oA 2)), (1, .int s_3.1)] → W p l e (headSpec (g_ws yX2_term cX2_term 3 none) { frames := 4 + (d + 1), cells := 0, slots := 0, locals := 102 + 22 * (d + 1) }).room s m ([.ref (oA 2)] : List Value).toArray below meth c H locs 0 0 (MQ below (va_Qv (fun (_ : Unit) => True) (g_Bo (dC, dI) A (fun (_ : Unit) => (b_g cB cC cI cJ cZ oA rA res.2 ++ b_w cB cC cI cJ cZ oA rA res.2 ++ b_c cB cC cI cJ cZ oA rA res.2))) A) ([.ref (oA 2)] : List Value).toArray s 0 0 A) (F0 m 74 ls [.int t_14]) := by
        intro t_14 σ_15 hF0 H locs hP hS ls hl
        subst ej_16
        have hF_18 := hF0
        clear hF0
        refine lv_istore_n (lv' := [(2, .int t_14), (0, .ref (oA 2)), (1, .int s_3.1)]) hx hb dX2_term_74 rfl hl (by decide) rfl (fun ls hl => ?_)
        refine lv_aload_n hx hb dX2_term_75 rfl (lv_at hl 1 rfl) ?_
        obtain ⟨u_19, hu_19, hF_20⟩ := Option.bind_eq_some_iff.mp hF_18
        clear hF_18
        have hPc := bx_P (bs := [b_g cB cC cI cJ cZ oA rA σ_15, b_w cB cC cI cJ cZ oA rA σ_15, b_c cB cC cI cJ cZ oA rA σ_15]) (bs' := [b_g cB cC cI cJ cZ oA rA σ_15, b_w cB cC cI cJ cZ oA rA σ_15, b_c cB cC cI cJ cZ oA rA σ_15]) (ws' := (b_g cB cC cI cJ cZ oA rA σ_15 ++ b_w cB cC cI cJ cZ oA rA σ_15 ++ b_c cB cC cI cJ cZ oA rA σ_15)) hP fl_3 fl_3 [0, 1, 2] rfl
        have hDc := bx_D (bs := [b_g cB cC cI cJ cZ oA rA σ_15, b_w cB cC cI cJ cZ oA rA σ_15, b_c cB cC cI cJ cZ oA rA σ_15]) (bs' := [b_g cB cC cI cJ cZ oA rA σ_15, b_w cB cC cI cJ cZ oA rA σ_15, b_c cB cC cI cJ cZ oA rA σ_15]) (ws' := (b_g cB cC cI cJ cZ oA rA σ_15 ++ b_w cB cC cI cJ cZ oA rA σ_15 ++ b_c cB cC cI cJ cZ oA rA σ_15)) (hDD σ_15) fl_3 fl_3 [0, 1, 2] (by decide +kernel) rfl
        have hFc := bx_F (bs := [b_g cB cC cI cJ cZ oA rA σ_15, b_w cB cC cI cJ cZ oA rA σ_15, b_c cB cC cI cJ cZ oA rA σ_15]) (bs' := [b_g cB cC cI cJ cZ oA rA σ_15, b_w cB cC cI cJ cZ oA rA σ_15, b_c cB cC cI cJ cZ oA rA σ_15]) (wc := (b_g cB cC cI cJ cZ oA rA σ_15 ++ b_w cB cC cI cJ cZ oA rA σ_15 ++ b_c cB cC cI cJ cZ oA rA σ_15)) (hDD σ_15) hS hA fl_3 fl_3 [0, 1, 2] rfl
        refine g_ofv (wc := (b_g cB cC cI cJ cZ oA rA σ_15 ++ b_w cB cC cI cJ cZ oA rA σ_15 ++ b_c cB cC cI cJ cZ oA rA σ_15)) (wr := ([] : va_W)) hP (hDD σ_15) hS hFc (bx_ix [b_g cB cC cI cJ cZ oA rA σ_15, b_w cB cC cI cJ cZ oA rA σ_15, b_c cB cC cI cJ cZ oA rA σ_15] [0, 1, 2]) (bx_ix [b_g cB cC cI cJ cZ oA rA σ_15, b_w cB cC cI cJ cZ oA rA σ_15, b_c cB cC cI cJ cZ oA rA σ_15] []) (bx_C (bs := [b_g cB cC cI cJ cZ oA rA σ_15, b_w cB cC cI cJ cZ oA rA σ_15, b_c cB cC cI cJ cZ oA rA σ_15]) (bs' := [b_g cB cC cI cJ cZ oA rA σ_15, b_w cB cC cI cJ cZ oA rA σ_15, b_c cB cC cI cJ cZ oA rA σ_15]) (is := [0, 1, 2]) fl_3 fl_3 rfl) (bx_C (bs := [b_g cB cC cI cJ cZ oA rA σ_15, b_w cB cC cI cJ cZ oA rA σ_15, b_c cB cC cI cJ cZ oA rA σ_15]) (bs' := []) (is := []) fl_3 fl_0 rfl) (bx_n (by decide +kernel)) (bx_d (by decide +kernel)) (va_runV (As := []) (rest := []) ⟨hx, hb, hml, hown, hts⟩ (k_X2_pass l dC dI cB cC cI cJ cZ cP oA rA H.size  σ_15 _ hu_19) (cwV 0 hts (g_gV wq_555 wq_556 wq_1997 wq_3 wq_557) rfl rfl rfl (by decide +kernel) ⟨by show 1 + 1 ≤ 4 + (d + 1); omega, by show 8 + (1 + 11) + 40 ≤ 102 + 22 * (d + 1); omega⟩) (g_preV g_bl0 hK hPc hDc hS hE hFc g_to0 (q0 := 0) (ci := 2) rfl rfl) rfl rfl hl.1 rfl (lv_room (Nat.le_of_ble_eq_true rfl)) dX2_term_76 ⟨Nat.le_of_ble_eq_true rfl, Nat.le_of_ble_eq_true rfl⟩) (fun u9 H locs hw9 hP' hD' hS => ?_)
        clear hPc hDc hFc
        have hP : va_P (dC, dI) vwCl (b_g cB cC cI cJ cZ oA rA u_19.2 ++ b_w cB cC cI cJ cZ oA rA u_19.2 ++ b_c cB cC cI cJ cZ oA rA u_19.2) H := hP'
        clear hP' hD'
        refine lv_aload_n hx hb dX2_term_79 rfl (lv_at hl 1 rfl) ?_
        obtain ⟨u_21, hu_21, hF_22⟩ := Option.bind_eq_some_iff.mp hF_20
        clear hF_20
        have hPc := bx_P (bs := [b_g cB cC cI cJ cZ oA rA u_19.2, b_w cB cC cI cJ cZ oA rA u_19.2, b_c cB cC cI cJ cZ oA rA u_19.2]) (bs' := [b_g cB cC cI cJ cZ oA rA u_19.2, b_w cB cC cI cJ cZ oA rA u_19.2, b_c cB cC cI cJ cZ oA rA u_19.2]) (ws' := (b_g cB cC cI cJ cZ oA rA u_19.2 ++ b_w cB cC cI cJ cZ oA rA u_19.2 ++ b_c cB cC cI cJ cZ oA rA u_19.2)) hP fl_3 fl_3 [0, 1, 2] rfl
        have hDc := bx_D (bs := [b_g cB cC cI cJ cZ oA rA u_19.2, b_w cB cC cI cJ cZ oA rA u_19.2, b_c cB cC cI cJ cZ oA rA u_19.2]) (bs' := [b_g cB cC cI cJ cZ oA rA u_19.2, b_w cB cC cI cJ cZ oA rA u_19.2, b_c cB cC cI cJ cZ oA rA u_19.2]) (ws' := (b_g cB cC cI cJ cZ oA rA u_19.2 ++ b_w cB cC cI cJ cZ oA rA u_19.2 ++ b_c cB cC cI cJ cZ oA rA u_19.2)) (hDD u_19.2) fl_3 fl_3 [0, 1, 2] (by decide +kernel) rfl
        have hFc := bx_F (bs := [b_g cB cC cI cJ cZ oA rA u_19.2, b_w cB cC cI cJ cZ oA rA u_19.2, b_c cB cC cI cJ cZ oA rA u_19.2]) (bs' := [b_g cB cC cI cJ cZ oA rA u_19.2, b_w cB cC cI cJ cZ oA rA u_19.2, b_c cB cC cI cJ cZ oA rA u_19.2]) (wc := (b_g cB cC cI cJ cZ oA rA u_19.2 ++ b_w cB cC cI cJ cZ oA rA u_19.2 ++ b_c cB cC cI cJ cZ oA rA u_19.2)) (hDD u_19.2) hS hA fl_3 fl_3 [0, 1, 2] rfl
        refine g_ofv (wc := (b_g cB cC cI cJ cZ oA rA u_19.2 ++ b_w cB cC cI cJ cZ oA rA u_19.2 ++ b_c cB cC cI cJ cZ oA rA u_19.2)) (wr := ([] : va_W)) hP (hDD u_19.2) hS hFc (bx_ix [b_g cB cC cI cJ cZ oA rA u_19.2, b_w cB cC cI cJ cZ oA rA u_19.2, b_c cB cC cI cJ cZ oA rA u_19.2] [0, 1, 2]) (bx_ix [b_g cB cC cI cJ cZ oA rA u_19.2, b_w cB cC cI cJ cZ oA rA u_19.2, b_c cB cC cI cJ cZ oA rA u_19.2] []) (bx_C (bs := [b_g cB cC cI cJ cZ oA rA u_19.2, b_w cB cC cI cJ cZ oA rA u_19.2, b_c cB cC cI cJ cZ oA rA u_19.2]) (bs' := [b_g cB cC cI cJ cZ oA rA u_19.2, b_w cB cC cI cJ cZ oA rA u_19.2, b_c cB cC cI cJ cZ oA rA u_19.2]) (is := [0, 1, 2]) fl_3 fl_3 rfl) (bx_C (bs := [b_g cB cC cI cJ cZ oA rA u_19.2, b_w cB cC cI cJ cZ oA rA u_19.2, b_c cB cC cI cJ cZ oA rA u_19.2]) (bs' := []) (is := []) fl_3 fl_0 rfl) (bx_n (by decide +kernel)) (bx_d (by decide +kernel)) (va_runV (As := []) (rest := []) ⟨hx, hb, hml, hown, hts⟩ (hI5 H.size u_19.2 _ hu_21) (cwV 0 hts (g_gV wq_646 wq_647 wq_2021 wq_3 wq_648) rfl rfl rfl (by decide +kernel) ⟨by show 4 + d + 1 ≤ 4 + (d + 1); omega, by show 8 + (1 + 11) + (102 + 22 * d) ≤ 102 + 22 * (d + 1); omega⟩) (g_preV g_bl0 hK hPc hDc hS hE hFc g_to0 (q0 := 0) (ci := 2) rfl rfl) rfl rfl hl.1 rfl (lv_room (Nat.le_of_ble_eq_true rfl)) dX2_term_80 ⟨Nat.le_of_ble_eq_true rfl, Nat.le_of_ble_eq_true rfl⟩) (fun u9 H locs hw9 hP' hD' hS => ?_)
        clear hPc hDc hFc
        have hP : va_P (dC, dI) vwCl (b_g cB cC cI cJ cZ oA rA u_21.2 ++ b_w cB cC cI cJ cZ oA rA u_21.2 ++ b_c cB cC cI cJ cZ oA rA u_21.2) H := hP'
        clear hP' hD'
        refine lv_aload_n hx hb dX2_term_83 rfl (lv_at hl 1 rfl) ?_
        refine va_get (D := (dC, dI)) (ci := 2) (v := .ref (oA 5)) (C := RX2) (T := TX2) (N := 8) hx hb hts ii_X2 hown hK hP 0 rfl rfl 1 (by decide) (hts (.fieldLink RX2 15 "StoryHouse$Grammar" "code" "LStoryHouse$Code;") wq_72) (fun _ h9 => h9) rfl dX2_term_84 ?_
        refine lv_iload_n hx hb dX2_term_87 rfl (lv_at hl 0 rfl) ?_
        obtain ⟨u_23, hu_23, hF_24⟩ := Option.bind_eq_some_iff.mp hF_22
        clear hF_22
        have hPc := bx_P (bs := [b_g cB cC cI cJ cZ oA rA u_21.2, b_w cB cC cI cJ cZ oA rA u_21.2, b_c cB cC cI cJ cZ oA rA u_21.2]) (bs' := [b_c cB cC cI cJ cZ oA rA u_21.2]) (ws' := (b_c cB cC cI cJ cZ oA rA u_21.2)) hP fl_3 fl_1 [2] rfl
        have hDc := bx_D (bs := [b_g cB cC cI cJ cZ oA rA u_21.2, b_w cB cC cI cJ cZ oA rA u_21.2, b_c cB cC cI cJ cZ oA rA u_21.2]) (bs' := [b_c cB cC cI cJ cZ oA rA u_21.2]) (ws' := (b_c cB cC cI cJ cZ oA rA u_21.2)) (hDD u_21.2) fl_3 fl_1 [2] (by decide +kernel) rfl
        have hFc := bx_F (bs := [b_g cB cC cI cJ cZ oA rA u_21.2, b_w cB cC cI cJ cZ oA rA u_21.2, b_c cB cC cI cJ cZ oA rA u_21.2]) (bs' := [b_c cB cC cI cJ cZ oA rA u_21.2]) (wc := (b_c cB cC cI cJ cZ oA rA u_21.2)) (hDD u_21.2) hS hA fl_3 fl_1 [2] rfl
        refine g_ofv (wc := (b_c cB cC cI cJ cZ oA rA u_21.2)) (wr := (b_g cB cC cI cJ cZ oA rA u_21.2 ++ b_w cB cC cI cJ cZ oA rA u_21.2)) hP (hDD u_21.2) hS hFc (bx_ix [b_g cB cC cI cJ cZ oA rA u_21.2, b_w cB cC cI cJ cZ oA rA u_21.2, b_c cB cC cI cJ cZ oA rA u_21.2] [2]) (bx_ix [b_g cB cC cI cJ cZ oA rA u_21.2, b_w cB cC cI cJ cZ oA rA u_21.2, b_c cB cC cI cJ cZ oA rA u_21.2] [0, 1]) (bx_C (bs := [b_g cB cC cI cJ cZ oA rA u_21.2, b_w cB cC cI cJ cZ oA rA u_21.2, b_c cB cC cI cJ cZ oA rA u_21.2]) (bs' := [b_c cB cC cI cJ cZ oA rA u_21.2]) (is := [2]) fl_3 fl_1 rfl) (bx_C (bs := [b_g cB cC cI cJ cZ oA rA u_21.2, b_w cB cC cI cJ cZ oA rA u_21.2, b_c cB cC cI cJ cZ oA rA u_21.2]) (bs' := [b_g cB cC cI cJ cZ oA rA u_21.2, b_w cB cC cI cJ cZ oA rA u_21.2]) (is := [0, 1]) fl_3 fl_2 rfl) (bx_n (by decide +kernel)) (bx_d (by decide +kernel)) (va_runV (As := [.int t_14]) (rest := []) ⟨hx, hb, hml, hown, hts⟩ (k_X0_add l dC dI cB cC cI cJ cZ cP oA rA H.size  t_14 u_21.2 _ hu_23) (cwV 1 hts (g_gV wq_636 wq_637 wq_638 wq_6 wq_639) rfl rfl rfl (by decide +kernel) ⟨by show 1 + 1 ≤ 4 + (d + 1); omega, by show 8 + (2 + 11) + 40 ≤ 102 + 22 * (d + 1); omega⟩) (g_preV g_bl0 hK hPc hDc hS hE hFc g_to0 (q0 := 0) (ci := 0) rfl rfl) rfl rfl hl.1 rfl (lv_room (Nat.le_of_ble_eq_true rfl)) dX2_term_88 ⟨Nat.le_of_ble_eq_true rfl, Nat.le_of_ble_eq_true rfl⟩) (fun u9 H locs hw9 hP' hD' hS => ?_)
        clear hPc hDc hFc
        obtain ⟨σ_25, eσ_25, hF_26⟩ := bnd_e hF_24
        clear hF_24
        have hP : va_P (dC, dI) vwCl (b_g cB cC cI cJ cZ oA rA σ_25 ++ b_w cB cC cI cJ cZ oA rA σ_25 ++ b_c cB cC cI cJ cZ oA rA σ_25) H := by rw [eσ_25]; exact bx_P (bs := [b_g cB cC cI cJ cZ oA rA u_21.2, b_w cB cC cI cJ cZ oA rA u_21.2] ++ [b_c cB cC cI cJ cZ oA rA u_23.2]) (bs' := [b_g cB cC cI cJ cZ oA rA (mrg (fun j => j == 5) u_21.2 u_23.2), b_w cB cC cI cJ cZ oA rA (mrg (fun j => j == 5) u_21.2 u_23.2), b_c cB cC cI cJ cZ oA rA (mrg (fun j => j == 5) u_21.2 u_23.2)]) hP' (fl_a fl_2 fl_1) fl_3 [0, 1, 2] rfl
        clear hP' hD'
        obtain ⟨x_27, ex_27, hF_28⟩ := bnd_e hF_26
        clear hF_26
        refine lv_iinc (v := x_27) (lv' := [(1, .int x_27), (2, .int t_14), (0, .ref (oA 2))]) hx hb dX2_term_91 hl (k := 2) rfl (by rw [ex_27]; rfl) (by decide) rfl (fun ls hl => ?_)
        refine lv_goto (tgt := 6) hx hb dX2_term_94 (by decide) ?_
        exact ih_5 (x_27, σ_25) hF_28 _ _ hP hS ls (lv_sub hl [2, 0] rfl)
      refine lv_icmp_ne (tgt := 58) hx hb dX2_term_50 (by decide) (fun c_29 => ?_) (fun c_29 => ?_)
      · have hF_31 := ineg c_29 hF_17
        clear hF_17
        refine lv_aload_n hx hb dX2_term_58 rfl (lv_at hl 0 rfl) ?_
        refine va_get (D := (dC, dI)) (ci := 2) (v := .int ((σ_10 2).1 3)) (C := RX2) (T := TX2) (N := 8) hx hb hts ii_X2 hown hK hP 0 rfl rfl 3 (by decide) (hts (.fieldLink RX2 29 "StoryHouse$Grammar" "kind" "I") wq_74) (fun _ h9 => h9) rfl dX2_term_59 ?_
        refine lv_bipush (v := 47) hx hb dX2_term_62 (by decide +kernel) ?_
        refine lv_icmp_ne (tgt := 72) hx hb dX2_term_64 (by decide) (fun c_32 => ?_) (fun c_32 => ?_)
        · have hF_34 := ineg c_32 hF_31
          clear hF_31
          refine lv_bipush (v := 14) hx hb dX2_term_72 (by decide +kernel) ?_
          exact Jj_16 14 σ_10 hF_34 _ _ hP hS ls (lv_sub hl [0, 1] rfl)
        · have hF_33 := ipos c_32 hF_31
          clear hF_31
          refine lv_bipush (v := 13) hx hb dX2_term_67 (by decide +kernel) ?_
          refine lv_goto (tgt := 74) hx hb dX2_term_69 (by decide) ?_
          exact Jj_16 13 σ_10 hF_33 _ _ hP hS ls (lv_sub hl [0, 1] rfl)
      · have hF_30 := ipos c_29 hF_17
        clear hF_17
        refine lv_bipush (v := 12) hx hb dX2_term_53 (by decide +kernel) ?_
        refine lv_goto (tgt := 74) hx hb dX2_term_55 (by decide) ?_
        exact Jj_16 12 σ_10 hF_30 _ _ hP hS ls (lv_sub hl [0, 1] rfl)
    refine lv_icmp_eq (tgt := 44) hx hb dX2_term_23 (by decide) (fun c_35 => ?_) (fun c_35 => ?_)
    · have hF_36 := ipos c_35 hF_12
      clear hF_12
      exact Jj_11  s_3.2 hF_36 _ _ hP hS ls (lv_sub hl [0, 1] rfl)
    · have hF_37 := ineg c_35 hF_12
      clear hF_12
      refine lv_aload_n hx hb dX2_term_26 rfl (lv_at hl 0 rfl) ?_
      refine va_get (D := (dC, dI)) (ci := 2) (v := .int ((s_3.2 2).1 3)) (C := RX2) (T := TX2) (N := 8) hx hb hts ii_X2 hown hK hP 0 rfl rfl 3 (by decide) (hts (.fieldLink RX2 29 "StoryHouse$Grammar" "kind" "I") wq_74) (fun _ h9 => h9) rfl dX2_term_27 ?_
      refine lv_bipush (v := 47) hx hb dX2_term_30 (by decide +kernel) ?_
      refine lv_icmp_eq (tgt := 44) hx hb dX2_term_32 (by decide) (fun c_38 => ?_) (fun c_38 => ?_)
      · have hF_39 := ipos c_38 hF_37
        clear hF_37
        exact Jj_11  s_3.2 hF_39 _ _ hP hS ls (lv_sub hl [0, 1] rfl)
      · have hF_40 := ineg c_38 hF_37
        clear hF_37
        refine lv_aload_n hx hb dX2_term_35 rfl (lv_at hl 0 rfl) ?_
        refine va_get (D := (dC, dI)) (ci := 2) (v := .int ((s_3.2 2).1 3)) (C := RX2) (T := TX2) (N := 8) hx hb hts ii_X2 hown hK hP 0 rfl rfl 3 (by decide) (hts (.fieldLink RX2 29 "StoryHouse$Grammar" "kind" "I") wq_74) (fun _ h9 => h9) rfl dX2_term_36 ?_
        refine lv_bipush (v := 37) hx hb dX2_term_39 (by decide +kernel) ?_
        refine lv_icmp_ne (tgt := 97) hx hb dX2_term_41 (by decide) (fun c_41 => ?_) (fun c_41 => ?_)
        · have hF_43 := ineg c_41 hF_40
          clear hF_40
          have h9 := Option.some.inj hF_43
          subst h9
          exact W.vret hx hb hr (fun t ht hW => ⟨⟨(), rfl, trivial, m_end ht hP, hDD _⟩, hS.F ht⟩) hS.2.2 dX2_term_97
        · have hF_42 := ipos c_41 hF_40
          clear hF_40
          exact Jj_11  s_3.2 hF_42 _ _ hP hS ls (lv_sub hl [0, 1] rfl)

def F_X2_factor (rec : HG)  (Γ : HS) : HR :=
  if ((Γ 2).1 3) = 45 then (
    (F_X2_deepen Γ).bind fun u_3 =>
    (rec 5 0 0 0 u_3.2).bind fun u_5 =>
    bnd (cI' u_5.2 2 4 (((u_5.2 2).1 4) - 1)) fun σ_7 =>
    (F_X0_add 9 σ_7).bind fun u_9 =>
    bnd (mrg (fun j => j == 5) σ_7 u_9.2) fun σ_11 =>
    some (0, σ_11)
  ) else (
    (rec 6 0 0 0 Γ).bind fun u_14 =>
    some (0, u_14.2)
  )
set_option maxHeartbeats 4000000 in
set_option maxRecDepth 100000 in
theorem k_X2_factor_st (l : Launch) (dC : Nat → ClassId) (dI : Nat → Nat → Nat) (cB cC cI cJ cZ cP : ClassId) (oA : Nat → Nat) (rA : Nat → Nat → Nat) (d : Nat) (rec : HG) (hI0 : ∀ (sz : Nat)  (Γ : HS) (res : Int32 × HS), rec 0 0 0 0 Γ = some res → Met l yX2_expression (g_ws yX2_expression cX2_expression 3 none) ({ frames := 4 + d, cells := 0, slots := 0, locals := 102 + 22 * d }) (va_Pc [.ref (oA 2)] (g_B (dC, dI) [(cB, .byte), (cC, .char), (cI, .int), (cJ, .long), (cZ, .boolean), (cP, .object "StoryHouse$Play")] sz (b_g cB cC cI cJ cZ oA rA Γ ++ b_w cB cC cI cJ cZ oA rA Γ ++ b_c cB cC cI cJ cZ oA rA Γ) g_0)) (va_Qv (fun (_ : Unit) => True) (g_Bo (dC, dI) (va_A (b_g cB cC cI cJ cZ oA rA Γ ++ b_w cB cC cI cJ cZ oA rA Γ ++ b_c cB cC cI cJ cZ oA rA Γ) sz) (fun (_ : Unit) => (b_g cB cC cI cJ cZ oA rA res.2 ++ b_w cB cC cI cJ cZ oA rA res.2 ++ b_c cB cC cI cJ cZ oA rA res.2))) (va_A (b_g cB cC cI cJ cZ oA rA Γ ++ b_w cB cC cI cJ cZ oA rA Γ ++ b_c cB cC cI cJ cZ oA rA Γ) sz)) 0 0 (va_A (b_g cB cC cI cJ cZ oA rA Γ ++ b_w cB cC cI cJ cZ oA rA Γ ++ b_c cB cC cI cJ cZ oA rA Γ) sz)) (hI1 : ∀ (sz : Nat)  (Γ : HS) (res : Int32 × HS), rec 1 0 0 0 Γ = some res → Met l yX2_both (g_ws yX2_both cX2_both 3 none) ({ frames := 4 + d, cells := 0, slots := 0, locals := 102 + 22 * d }) (va_Pc [.ref (oA 2)] (g_B (dC, dI) [(cB, .byte), (cC, .char), (cI, .int), (cJ, .long), (cZ, .boolean), (cP, .object "StoryHouse$Play")] sz (b_g cB cC cI cJ cZ oA rA Γ ++ b_w cB cC cI cJ cZ oA rA Γ ++ b_c cB cC cI cJ cZ oA rA Γ) g_0)) (va_Qv (fun (_ : Unit) => True) (g_Bo (dC, dI) (va_A (b_g cB cC cI cJ cZ oA rA Γ ++ b_w cB cC cI cJ cZ oA rA Γ ++ b_c cB cC cI cJ cZ oA rA Γ) sz) (fun (_ : Unit) => (b_g cB cC cI cJ cZ oA rA res.2 ++ b_w cB cC cI cJ cZ oA rA res.2 ++ b_c cB cC cI cJ cZ oA rA res.2))) (va_A (b_g cB cC cI cJ cZ oA rA Γ ++ b_w cB cC cI cJ cZ oA rA Γ ++ b_c cB cC cI cJ cZ oA rA Γ) sz)) 0 0 (va_A (b_g cB cC cI cJ cZ oA rA Γ ++ b_w cB cC cI cJ cZ oA rA Γ ++ b_c cB cC cI cJ cZ oA rA Γ) sz)) (hI2 : ∀ (sz : Nat)  (Γ : HS) (res : Int32 × HS), rec 2 0 0 0 Γ = some res → Met l yX2_step (g_ws yX2_step cX2_step 2 none) ({ frames := 4 + d, cells := 0, slots := 0, locals := 102 + 22 * d }) (va_Pc [.ref (oA 2)] (g_B (dC, dI) [(cB, .byte), (cC, .char), (cI, .int), (cJ, .long), (cZ, .boolean), (cP, .object "StoryHouse$Play")] sz (b_g cB cC cI cJ cZ oA rA Γ ++ b_w cB cC cI cJ cZ oA rA Γ ++ b_c cB cC cI cJ cZ oA rA Γ) g_0)) (va_Qv (fun (_ : Unit) => True) (g_Bo (dC, dI) (va_A (b_g cB cC cI cJ cZ oA rA Γ ++ b_w cB cC cI cJ cZ oA rA Γ ++ b_c cB cC cI cJ cZ oA rA Γ) sz) (fun (_ : Unit) => (b_g cB cC cI cJ cZ oA rA res.2 ++ b_w cB cC cI cJ cZ oA rA res.2 ++ b_c cB cC cI cJ cZ oA rA res.2))) (va_A (b_g cB cC cI cJ cZ oA rA Γ ++ b_w cB cC cI cJ cZ oA rA Γ ++ b_c cB cC cI cJ cZ oA rA Γ) sz)) 0 0 (va_A (b_g cB cC cI cJ cZ oA rA Γ ++ b_w cB cC cI cJ cZ oA rA Γ ++ b_c cB cC cI cJ cZ oA rA Γ) sz)) (hI3 : ∀ (sz : Nat)  (Γ : HS) (res : Int32 × HS), rec 3 0 0 0 Γ = some res → Met l yX2_sum (g_ws yX2_sum cX2_sum 3 none) ({ frames := 4 + d, cells := 0, slots := 0, locals := 102 + 22 * d }) (va_Pc [.ref (oA 2)] (g_B (dC, dI) [(cB, .byte), (cC, .char), (cI, .int), (cJ, .long), (cZ, .boolean), (cP, .object "StoryHouse$Play")] sz (b_g cB cC cI cJ cZ oA rA Γ ++ b_w cB cC cI cJ cZ oA rA Γ ++ b_c cB cC cI cJ cZ oA rA Γ) g_0)) (va_Qv (fun (_ : Unit) => True) (g_Bo (dC, dI) (va_A (b_g cB cC cI cJ cZ oA rA Γ ++ b_w cB cC cI cJ cZ oA rA Γ ++ b_c cB cC cI cJ cZ oA rA Γ) sz) (fun (_ : Unit) => (b_g cB cC cI cJ cZ oA rA res.2 ++ b_w cB cC cI cJ cZ oA rA res.2 ++ b_c cB cC cI cJ cZ oA rA res.2))) (va_A (b_g cB cC cI cJ cZ oA rA Γ ++ b_w cB cC cI cJ cZ oA rA Γ ++ b_c cB cC cI cJ cZ oA rA Γ) sz)) 0 0 (va_A (b_g cB cC cI cJ cZ oA rA Γ ++ b_w cB cC cI cJ cZ oA rA Γ ++ b_c cB cC cI cJ cZ oA rA Γ) sz)) (hI4 : ∀ (sz : Nat)  (Γ : HS) (res : Int32 × HS), rec 4 0 0 0 Γ = some res → Met l yX2_term (g_ws yX2_term cX2_term 3 none) ({ frames := 4 + d, cells := 0, slots := 0, locals := 102 + 22 * d }) (va_Pc [.ref (oA 2)] (g_B (dC, dI) [(cB, .byte), (cC, .char), (cI, .int), (cJ, .long), (cZ, .boolean), (cP, .object "StoryHouse$Play")] sz (b_g cB cC cI cJ cZ oA rA Γ ++ b_w cB cC cI cJ cZ oA rA Γ ++ b_c cB cC cI cJ cZ oA rA Γ) g_0)) (va_Qv (fun (_ : Unit) => True) (g_Bo (dC, dI) (va_A (b_g cB cC cI cJ cZ oA rA Γ ++ b_w cB cC cI cJ cZ oA rA Γ ++ b_c cB cC cI cJ cZ oA rA Γ) sz) (fun (_ : Unit) => (b_g cB cC cI cJ cZ oA rA res.2 ++ b_w cB cC cI cJ cZ oA rA res.2 ++ b_c cB cC cI cJ cZ oA rA res.2))) (va_A (b_g cB cC cI cJ cZ oA rA Γ ++ b_w cB cC cI cJ cZ oA rA Γ ++ b_c cB cC cI cJ cZ oA rA Γ) sz)) 0 0 (va_A (b_g cB cC cI cJ cZ oA rA Γ ++ b_w cB cC cI cJ cZ oA rA Γ ++ b_c cB cC cI cJ cZ oA rA Γ) sz)) (hI5 : ∀ (sz : Nat)  (Γ : HS) (res : Int32 × HS), rec 5 0 0 0 Γ = some res → Met l yX2_factor (g_ws yX2_factor cX2_factor 1 none) ({ frames := 4 + d, cells := 0, slots := 0, locals := 102 + 22 * d }) (va_Pc [.ref (oA 2)] (g_B (dC, dI) [(cB, .byte), (cC, .char), (cI, .int), (cJ, .long), (cZ, .boolean), (cP, .object "StoryHouse$Play")] sz (b_g cB cC cI cJ cZ oA rA Γ ++ b_w cB cC cI cJ cZ oA rA Γ ++ b_c cB cC cI cJ cZ oA rA Γ) g_0)) (va_Qv (fun (_ : Unit) => True) (g_Bo (dC, dI) (va_A (b_g cB cC cI cJ cZ oA rA Γ ++ b_w cB cC cI cJ cZ oA rA Γ ++ b_c cB cC cI cJ cZ oA rA Γ) sz) (fun (_ : Unit) => (b_g cB cC cI cJ cZ oA rA res.2 ++ b_w cB cC cI cJ cZ oA rA res.2 ++ b_c cB cC cI cJ cZ oA rA res.2))) (va_A (b_g cB cC cI cJ cZ oA rA Γ ++ b_w cB cC cI cJ cZ oA rA Γ ++ b_c cB cC cI cJ cZ oA rA Γ) sz)) 0 0 (va_A (b_g cB cC cI cJ cZ oA rA Γ ++ b_w cB cC cI cJ cZ oA rA Γ ++ b_c cB cC cI cJ cZ oA rA Γ) sz)) (hI6 : ∀ (sz : Nat)  (Γ : HS) (res : Int32 × HS), rec 6 0 0 0 Γ = some res → Met l yX2_primary (g_ws yX2_primary cX2_primary 3 none) ({ frames := 4 + d, cells := 0, slots := 0, locals := 102 + 22 * d }) (va_Pc [.ref (oA 2)] (g_B (dC, dI) [(cB, .byte), (cC, .char), (cI, .int), (cJ, .long), (cZ, .boolean), (cP, .object "StoryHouse$Play")] sz (b_g cB cC cI cJ cZ oA rA Γ ++ b_w cB cC cI cJ cZ oA rA Γ ++ b_c cB cC cI cJ cZ oA rA Γ) g_0)) (va_Qv (fun (_ : Unit) => True) (g_Bo (dC, dI) (va_A (b_g cB cC cI cJ cZ oA rA Γ ++ b_w cB cC cI cJ cZ oA rA Γ ++ b_c cB cC cI cJ cZ oA rA Γ) sz) (fun (_ : Unit) => (b_g cB cC cI cJ cZ oA rA res.2 ++ b_w cB cC cI cJ cZ oA rA res.2 ++ b_c cB cC cI cJ cZ oA rA res.2))) (va_A (b_g cB cC cI cJ cZ oA rA Γ ++ b_w cB cC cI cJ cZ oA rA Γ ++ b_c cB cC cI cJ cZ oA rA Γ) sz)) 0 0 (va_A (b_g cB cC cI cJ cZ oA rA Γ ++ b_w cB cC cI cJ cZ oA rA Γ ++ b_c cB cC cI cJ cZ oA rA Γ) sz)) (hI7 : ∀ (sz : Nat) (p0 : Int32) (Γ : HS) (res : Int32 × HS), rec 7 p0 0 0 Γ = some res → Met l yX2_arguments (g_ws yX2_arguments cX2_arguments 3 none) ({ frames := 4 + d, cells := 0, slots := 0, locals := 102 + 22 * d }) (va_Pc [.ref (oA 2), .int p0] (g_B (dC, dI) [(cB, .byte), (cC, .char), (cI, .int), (cJ, .long), (cZ, .boolean), (cP, .object "StoryHouse$Play")] sz (b_g cB cC cI cJ cZ oA rA Γ ++ b_w cB cC cI cJ cZ oA rA Γ ++ b_c cB cC cI cJ cZ oA rA Γ) g_0)) (va_Qv (fun (_ : Unit) => True) (g_Bo (dC, dI) (va_A (b_g cB cC cI cJ cZ oA rA Γ ++ b_w cB cC cI cJ cZ oA rA Γ ++ b_c cB cC cI cJ cZ oA rA Γ) sz) (fun (_ : Unit) => (b_g cB cC cI cJ cZ oA rA res.2 ++ b_w cB cC cI cJ cZ oA rA res.2 ++ b_c cB cC cI cJ cZ oA rA res.2))) (va_A (b_g cB cC cI cJ cZ oA rA Γ ++ b_w cB cC cI cJ cZ oA rA Γ ++ b_c cB cC cI cJ cZ oA rA Γ) sz)) 0 0 (va_A (b_g cB cC cI cJ cZ oA rA Γ ++ b_w cB cC cI cJ cZ oA rA Γ ++ b_c cB cC cI cJ cZ oA rA Γ) sz)) (hI8 : ∀ (sz : Nat)  (Γ : HS) (res : Int32 × HS), rec 8 0 0 0 Γ = some res → Met l yX2_index (g_ws yX2_index cX2_index 1 none) ({ frames := 4 + d, cells := 0, slots := 0, locals := 102 + 22 * d }) (va_Pc [.ref (oA 2)] (g_B (dC, dI) [(cB, .byte), (cC, .char), (cI, .int), (cJ, .long), (cZ, .boolean), (cP, .object "StoryHouse$Play")] sz (b_g cB cC cI cJ cZ oA rA Γ ++ b_w cB cC cI cJ cZ oA rA Γ ++ b_c cB cC cI cJ cZ oA rA Γ) g_0)) (va_Qv (fun (_ : Unit) => True) (g_Bo (dC, dI) (va_A (b_g cB cC cI cJ cZ oA rA Γ ++ b_w cB cC cI cJ cZ oA rA Γ ++ b_c cB cC cI cJ cZ oA rA Γ) sz) (fun (_ : Unit) => (b_g cB cC cI cJ cZ oA rA res.2 ++ b_w cB cC cI cJ cZ oA rA res.2 ++ b_c cB cC cI cJ cZ oA rA res.2))) (va_A (b_g cB cC cI cJ cZ oA rA Γ ++ b_w cB cC cI cJ cZ oA rA Γ ++ b_c cB cC cI cJ cZ oA rA Γ) sz)) 0 0 (va_A (b_g cB cC cI cJ cZ oA rA Γ ++ b_w cB cC cI cJ cZ oA rA Γ ++ b_c cB cC cI cJ cZ oA rA Γ) sz)) (sz : Nat)   (Γ : HS) (res : Int32 × HS) (hF : F_X2_factor rec  Γ = some res) : Met l yX2_factor (g_ws yX2_factor cX2_factor 1 none) ({ frames := 4 + (d + 1), cells := 0, slots := 0, locals := 102 + 22 * (d + 1) }) (va_Pc [.ref (oA 2)] (g_B (dC, dI) [(cB, .byte), (cC, .char), (cI, .int), (cJ, .long), (cZ, .boolean), (cP, .object "StoryHouse$Play")] sz (b_g cB cC cI cJ cZ oA rA Γ ++ b_w cB cC cI cJ cZ oA rA Γ ++ b_c cB cC cI cJ cZ oA rA Γ) g_0)) (va_Qv (fun (_ : Unit) => True) (g_Bo (dC, dI) (va_A (b_g cB cC cI cJ cZ oA rA Γ ++ b_w cB cC cI cJ cZ oA rA Γ ++ b_c cB cC cI cJ cZ oA rA Γ) sz) (fun (_ : Unit) => (b_g cB cC cI cJ cZ oA rA res.2 ++ b_w cB cC cI cJ cZ oA rA res.2 ++ b_c cB cC cI cJ cZ oA rA res.2))) (va_A (b_g cB cC cI cJ cZ oA rA Γ ++ b_w cB cC cI cJ cZ oA rA Γ ++ b_c cB cC cI cJ cZ oA rA Γ) sz)) 0 0 (va_A (b_g cB cC cI cJ cZ oA rA Γ ++ b_w cB cC cI cJ cZ oA rA Γ ++ b_c cB cC cI cJ cZ oA rA Γ) sz) := by
  refine Met.ofW (cc := cX2_factor) (maxL := 1) (ret := none) (by decide) rfl ?_
  intro p e s m args below meth c s₁ B hml hv
  obtain ⟨rfl, hsz, hP, hK, hD0, hE, hX⟩ := hv
  have hx := B.exec
  have hb := B.bytes
  have hr := B.returns
  have hts0 := atoms_spec (ws := g_ws yX2_factor cX2_factor 1 none) B.pre
  have hts : ∀ w ∈ lw_good, w.before ([.ref (oA 2)] : List Value).toArray s = true := fun w z => hts0 w (List.mem_cons_of_mem _ z)
  have hown : s.vm.findClass RX2 = some m.cls := findClass_of_methodNamed B.named
  have hlocks := B.notSynchronized
  subst hsz
  have hD1 := hD0.self (sz := s.heap.size)
  generalize hAe : va_A (b_g cB cC cI cJ cZ oA rA Γ ++ b_w cB cC cI cJ cZ oA rA Γ ++ b_c cB cC cI cJ cZ oA rA Γ) s.heap.size = A at hD1 hE hX ⊢
  have hA : ∀ q : Nat, s.heap.size ≤ q → A q := fun q z => by rw [← hAe]; exact Or.inr z
  have hDD : ∀ Γ : HS, va_D A (b_g cB cC cI cJ cZ oA rA Γ ++ b_w cB cC cI cJ cZ oA rA Γ ++ b_c cB cC cI cJ cZ oA rA Γ) := fun Γ9 => va_D_fst (ws := (b_g cB cC cI cJ cZ oA rA Γ ++ b_w cB cC cI cJ cZ oA rA Γ ++ b_c cB cC cI cJ cZ oA rA Γ)) (ws' := (b_g cB cC cI cJ cZ oA rA Γ9 ++ b_w cB cC cI cJ cZ oA rA Γ9 ++ b_c cB cC cI cJ cZ oA rA Γ9)) rfl hD1
  have hN := hE.1
  have hS : va_S A s.heap s.heap [] := va_S.rf
  have hl := lv_entry ([.ref (oA 2)]) (n := 1) (Nat.le_of_ble_eq_true rfl)
  rw [lg_entry_eq]
  generalize (lg_sl ([.ref (oA 2)]) ++ List.replicate (1 - (lg_sl ([.ref (oA 2)])).length) Slot.unset).toArray = ls at hl ⊢
  have hl : lv_has ls 1 [(0, .ref (oA 2))] := hl
  unfold F_X2_factor at hF
  refine lv_aload_n hx hb dX2_factor_0 rfl (lv_at hl 0 rfl) ?_
  refine va_get (D := (dC, dI)) (ci := 2) (v := .int ((Γ 2).1 3)) (C := RX2) (T := TX2) (N := 8) hx hb hts ii_X2 hown hK hP 0 rfl rfl 3 (by decide) (hts (.fieldLink RX2 29 "StoryHouse$Grammar" "kind" "I") wq_74) (fun _ h9 => h9) rfl dX2_factor_1 ?_
  refine lv_bipush (v := 45) hx hb dX2_factor_4 (by decide +kernel) ?_
  refine lv_icmp_ne (tgt := 39) hx hb dX2_factor_6 (by decide) (fun c_1 => ?_) (fun c_1 => ?_)
  · have hF_13 := ineg c_1 hF
    clear hF
    refine lv_aload_n hx hb dX2_factor_39 rfl (lv_at hl 0 rfl) ?_
    obtain ⟨u_14, hu_14, hF_15⟩ := Option.bind_eq_some_iff.mp hF_13
    clear hF_13
    have hPc := bx_P (bs := [b_g cB cC cI cJ cZ oA rA Γ, b_w cB cC cI cJ cZ oA rA Γ, b_c cB cC cI cJ cZ oA rA Γ]) (bs' := [b_g cB cC cI cJ cZ oA rA Γ, b_w cB cC cI cJ cZ oA rA Γ, b_c cB cC cI cJ cZ oA rA Γ]) (ws' := (b_g cB cC cI cJ cZ oA rA Γ ++ b_w cB cC cI cJ cZ oA rA Γ ++ b_c cB cC cI cJ cZ oA rA Γ)) hP fl_3 fl_3 [0, 1, 2] rfl
    have hDc := bx_D (bs := [b_g cB cC cI cJ cZ oA rA Γ, b_w cB cC cI cJ cZ oA rA Γ, b_c cB cC cI cJ cZ oA rA Γ]) (bs' := [b_g cB cC cI cJ cZ oA rA Γ, b_w cB cC cI cJ cZ oA rA Γ, b_c cB cC cI cJ cZ oA rA Γ]) (ws' := (b_g cB cC cI cJ cZ oA rA Γ ++ b_w cB cC cI cJ cZ oA rA Γ ++ b_c cB cC cI cJ cZ oA rA Γ)) (hDD Γ) fl_3 fl_3 [0, 1, 2] (by decide +kernel) rfl
    have hFc := bx_F (bs := [b_g cB cC cI cJ cZ oA rA Γ, b_w cB cC cI cJ cZ oA rA Γ, b_c cB cC cI cJ cZ oA rA Γ]) (bs' := [b_g cB cC cI cJ cZ oA rA Γ, b_w cB cC cI cJ cZ oA rA Γ, b_c cB cC cI cJ cZ oA rA Γ]) (wc := (b_g cB cC cI cJ cZ oA rA Γ ++ b_w cB cC cI cJ cZ oA rA Γ ++ b_c cB cC cI cJ cZ oA rA Γ)) (hDD Γ) hS hA fl_3 fl_3 [0, 1, 2] rfl
    refine g_ofv (wc := (b_g cB cC cI cJ cZ oA rA Γ ++ b_w cB cC cI cJ cZ oA rA Γ ++ b_c cB cC cI cJ cZ oA rA Γ)) (wr := ([] : va_W)) hP (hDD Γ) hS hFc (bx_ix [b_g cB cC cI cJ cZ oA rA Γ, b_w cB cC cI cJ cZ oA rA Γ, b_c cB cC cI cJ cZ oA rA Γ] [0, 1, 2]) (bx_ix [b_g cB cC cI cJ cZ oA rA Γ, b_w cB cC cI cJ cZ oA rA Γ, b_c cB cC cI cJ cZ oA rA Γ] []) (bx_C (bs := [b_g cB cC cI cJ cZ oA rA Γ, b_w cB cC cI cJ cZ oA rA Γ, b_c cB cC cI cJ cZ oA rA Γ]) (bs' := [b_g cB cC cI cJ cZ oA rA Γ, b_w cB cC cI cJ cZ oA rA Γ, b_c cB cC cI cJ cZ oA rA Γ]) (is := [0, 1, 2]) fl_3 fl_3 rfl) (bx_C (bs := [b_g cB cC cI cJ cZ oA rA Γ, b_w cB cC cI cJ cZ oA rA Γ, b_c cB cC cI cJ cZ oA rA Γ]) (bs' := []) (is := []) fl_3 fl_0 rfl) (bx_n (by decide +kernel)) (bx_d (by decide +kernel)) (va_runV (As := []) (rest := []) ⟨hx, hb, hml, hown, hts⟩ (hI6 s.heap.size Γ _ hu_14) (cwV 0 hts (g_gV wq_649 wq_650 wq_2022 wq_3 wq_651) rfl rfl rfl (by decide +kernel) ⟨by show 4 + d + 1 ≤ 4 + (d + 1); omega, by show 8 + (3 + 11) + (102 + 22 * d) ≤ 102 + 22 * (d + 1); omega⟩) (g_preV g_bl0 hK hPc hDc hS hE hFc g_to0 (q0 := 0) (ci := 2) rfl rfl) rfl rfl hl.1 rfl (lv_room (Nat.le_of_ble_eq_true rfl)) dX2_factor_40 ⟨Nat.le_of_ble_eq_true rfl, Nat.le_of_ble_eq_true rfl⟩) (fun u9 H locs hw9 hP' hD' hS => ?_)
    clear hPc hDc hFc
    have hP : va_P (dC, dI) vwCl (b_g cB cC cI cJ cZ oA rA u_14.2 ++ b_w cB cC cI cJ cZ oA rA u_14.2 ++ b_c cB cC cI cJ cZ oA rA u_14.2) H := hP'
    clear hP' hD'
    have h9 := Option.some.inj hF_15
    subst h9
    exact W.vret hx hb hr (fun t ht hW => ⟨⟨(), rfl, trivial, m_end ht hP, hDD _⟩, hS.F ht⟩) hS.2.2 dX2_factor_43
  · have hF_2 := ipos c_1 hF
    clear hF
    refine lv_aload_n hx hb dX2_factor_9 rfl (lv_at hl 0 rfl) ?_
    obtain ⟨u_3, hu_3, hF_4⟩ := Option.bind_eq_some_iff.mp hF_2
    clear hF_2
    have hPc := bx_P (bs := [b_g cB cC cI cJ cZ oA rA Γ, b_w cB cC cI cJ cZ oA rA Γ, b_c cB cC cI cJ cZ oA rA Γ]) (bs' := [b_g cB cC cI cJ cZ oA rA Γ, b_w cB cC cI cJ cZ oA rA Γ, b_c cB cC cI cJ cZ oA rA Γ]) (ws' := (b_g cB cC cI cJ cZ oA rA Γ ++ b_w cB cC cI cJ cZ oA rA Γ ++ b_c cB cC cI cJ cZ oA rA Γ)) hP fl_3 fl_3 [0, 1, 2] rfl
    have hDc := bx_D (bs := [b_g cB cC cI cJ cZ oA rA Γ, b_w cB cC cI cJ cZ oA rA Γ, b_c cB cC cI cJ cZ oA rA Γ]) (bs' := [b_g cB cC cI cJ cZ oA rA Γ, b_w cB cC cI cJ cZ oA rA Γ, b_c cB cC cI cJ cZ oA rA Γ]) (ws' := (b_g cB cC cI cJ cZ oA rA Γ ++ b_w cB cC cI cJ cZ oA rA Γ ++ b_c cB cC cI cJ cZ oA rA Γ)) (hDD Γ) fl_3 fl_3 [0, 1, 2] (by decide +kernel) rfl
    have hFc := bx_F (bs := [b_g cB cC cI cJ cZ oA rA Γ, b_w cB cC cI cJ cZ oA rA Γ, b_c cB cC cI cJ cZ oA rA Γ]) (bs' := [b_g cB cC cI cJ cZ oA rA Γ, b_w cB cC cI cJ cZ oA rA Γ, b_c cB cC cI cJ cZ oA rA Γ]) (wc := (b_g cB cC cI cJ cZ oA rA Γ ++ b_w cB cC cI cJ cZ oA rA Γ ++ b_c cB cC cI cJ cZ oA rA Γ)) (hDD Γ) hS hA fl_3 fl_3 [0, 1, 2] rfl
    refine g_ofv (wc := (b_g cB cC cI cJ cZ oA rA Γ ++ b_w cB cC cI cJ cZ oA rA Γ ++ b_c cB cC cI cJ cZ oA rA Γ)) (wr := ([] : va_W)) hP (hDD Γ) hS hFc (bx_ix [b_g cB cC cI cJ cZ oA rA Γ, b_w cB cC cI cJ cZ oA rA Γ, b_c cB cC cI cJ cZ oA rA Γ] [0, 1, 2]) (bx_ix [b_g cB cC cI cJ cZ oA rA Γ, b_w cB cC cI cJ cZ oA rA Γ, b_c cB cC cI cJ cZ oA rA Γ] []) (bx_C (bs := [b_g cB cC cI cJ cZ oA rA Γ, b_w cB cC cI cJ cZ oA rA Γ, b_c cB cC cI cJ cZ oA rA Γ]) (bs' := [b_g cB cC cI cJ cZ oA rA Γ, b_w cB cC cI cJ cZ oA rA Γ, b_c cB cC cI cJ cZ oA rA Γ]) (is := [0, 1, 2]) fl_3 fl_3 rfl) (bx_C (bs := [b_g cB cC cI cJ cZ oA rA Γ, b_w cB cC cI cJ cZ oA rA Γ, b_c cB cC cI cJ cZ oA rA Γ]) (bs' := []) (is := []) fl_3 fl_0 rfl) (bx_n (by decide +kernel)) (bx_d (by decide +kernel)) (va_runV (As := []) (rest := []) ⟨hx, hb, hml, hown, hts⟩ (k_X2_deepen l dC dI cB cC cI cJ cZ cP oA rA s.heap.size  Γ _ hu_3) (cwV 0 hts (g_gV wq_570 wq_571 wq_2002 wq_3 wq_572) rfl rfl rfl (by decide +kernel) ⟨by show 2 + 1 ≤ 4 + (d + 1); omega, by show 8 + (1 + 11) + 61 ≤ 102 + 22 * (d + 1); omega⟩) (g_preV g_bl0 hK hPc hDc hS hE hFc g_to0 (q0 := 0) (ci := 2) rfl rfl) rfl rfl hl.1 rfl (lv_room (Nat.le_of_ble_eq_true rfl)) dX2_factor_10 ⟨Nat.le_of_ble_eq_true rfl, Nat.le_of_ble_eq_true rfl⟩) (fun u9 H locs hw9 hP' hD' hS => ?_)
    clear hPc hDc hFc
    have hP : va_P (dC, dI) vwCl (b_g cB cC cI cJ cZ oA rA u_3.2 ++ b_w cB cC cI cJ cZ oA rA u_3.2 ++ b_c cB cC cI cJ cZ oA rA u_3.2) H := hP'
    clear hP' hD'
    refine lv_aload_n hx hb dX2_factor_13 rfl (lv_at hl 0 rfl) ?_
    obtain ⟨u_5, hu_5, hF_6⟩ := Option.bind_eq_some_iff.mp hF_4
    clear hF_4
    have hPc := bx_P (bs := [b_g cB cC cI cJ cZ oA rA u_3.2, b_w cB cC cI cJ cZ oA rA u_3.2, b_c cB cC cI cJ cZ oA rA u_3.2]) (bs' := [b_g cB cC cI cJ cZ oA rA u_3.2, b_w cB cC cI cJ cZ oA rA u_3.2, b_c cB cC cI cJ cZ oA rA u_3.2]) (ws' := (b_g cB cC cI cJ cZ oA rA u_3.2 ++ b_w cB cC cI cJ cZ oA rA u_3.2 ++ b_c cB cC cI cJ cZ oA rA u_3.2)) hP fl_3 fl_3 [0, 1, 2] rfl
    have hDc := bx_D (bs := [b_g cB cC cI cJ cZ oA rA u_3.2, b_w cB cC cI cJ cZ oA rA u_3.2, b_c cB cC cI cJ cZ oA rA u_3.2]) (bs' := [b_g cB cC cI cJ cZ oA rA u_3.2, b_w cB cC cI cJ cZ oA rA u_3.2, b_c cB cC cI cJ cZ oA rA u_3.2]) (ws' := (b_g cB cC cI cJ cZ oA rA u_3.2 ++ b_w cB cC cI cJ cZ oA rA u_3.2 ++ b_c cB cC cI cJ cZ oA rA u_3.2)) (hDD u_3.2) fl_3 fl_3 [0, 1, 2] (by decide +kernel) rfl
    have hFc := bx_F (bs := [b_g cB cC cI cJ cZ oA rA u_3.2, b_w cB cC cI cJ cZ oA rA u_3.2, b_c cB cC cI cJ cZ oA rA u_3.2]) (bs' := [b_g cB cC cI cJ cZ oA rA u_3.2, b_w cB cC cI cJ cZ oA rA u_3.2, b_c cB cC cI cJ cZ oA rA u_3.2]) (wc := (b_g cB cC cI cJ cZ oA rA u_3.2 ++ b_w cB cC cI cJ cZ oA rA u_3.2 ++ b_c cB cC cI cJ cZ oA rA u_3.2)) (hDD u_3.2) hS hA fl_3 fl_3 [0, 1, 2] rfl
    refine g_ofv (wc := (b_g cB cC cI cJ cZ oA rA u_3.2 ++ b_w cB cC cI cJ cZ oA rA u_3.2 ++ b_c cB cC cI cJ cZ oA rA u_3.2)) (wr := ([] : va_W)) hP (hDD u_3.2) hS hFc (bx_ix [b_g cB cC cI cJ cZ oA rA u_3.2, b_w cB cC cI cJ cZ oA rA u_3.2, b_c cB cC cI cJ cZ oA rA u_3.2] [0, 1, 2]) (bx_ix [b_g cB cC cI cJ cZ oA rA u_3.2, b_w cB cC cI cJ cZ oA rA u_3.2, b_c cB cC cI cJ cZ oA rA u_3.2] []) (bx_C (bs := [b_g cB cC cI cJ cZ oA rA u_3.2, b_w cB cC cI cJ cZ oA rA u_3.2, b_c cB cC cI cJ cZ oA rA u_3.2]) (bs' := [b_g cB cC cI cJ cZ oA rA u_3.2, b_w cB cC cI cJ cZ oA rA u_3.2, b_c cB cC cI cJ cZ oA rA u_3.2]) (is := [0, 1, 2]) fl_3 fl_3 rfl) (bx_C (bs := [b_g cB cC cI cJ cZ oA rA u_3.2, b_w cB cC cI cJ cZ oA rA u_3.2, b_c cB cC cI cJ cZ oA rA u_3.2]) (bs' := []) (is := []) fl_3 fl_0 rfl) (bx_n (by decide +kernel)) (bx_d (by decide +kernel)) (va_runV (As := []) (rest := []) ⟨hx, hb, hml, hown, hts⟩ (hI5 H.size u_3.2 _ hu_5) (cwV 0 hts (g_gV wq_646 wq_647 wq_2021 wq_3 wq_648) rfl rfl rfl (by decide +kernel) ⟨by show 4 + d + 1 ≤ 4 + (d + 1); omega, by show 8 + (1 + 11) + (102 + 22 * d) ≤ 102 + 22 * (d + 1); omega⟩) (g_preV g_bl0 hK hPc hDc hS hE hFc g_to0 (q0 := 0) (ci := 2) rfl rfl) rfl rfl hl.1 rfl (lv_room (Nat.le_of_ble_eq_true rfl)) dX2_factor_14 ⟨Nat.le_of_ble_eq_true rfl, Nat.le_of_ble_eq_true rfl⟩) (fun u9 H locs hw9 hP' hD' hS => ?_)
    clear hPc hDc hFc
    have hP : va_P (dC, dI) vwCl (b_g cB cC cI cJ cZ oA rA u_5.2 ++ b_w cB cC cI cJ cZ oA rA u_5.2 ++ b_c cB cC cI cJ cZ oA rA u_5.2) H := hP'
    clear hP' hD'
    refine lv_aload_n hx hb dX2_factor_17 rfl (lv_at hl 0 rfl) ?_
    refine lv_dup hx hb dX2_factor_18 rfl ?_
    refine va_get (D := (dC, dI)) (ci := 2) (v := .int ((u_5.2 2).1 4)) (C := RX2) (T := TX2) (N := 8) hx hb hts ii_X2 hown hK hP 0 rfl rfl 4 (by decide) (hts (.fieldLink RX2 32 "StoryHouse$Grammar" "nest" "I") wq_75) (fun _ h9 => h9) rfl dX2_factor_19 ?_
    refine lv_iconst (v := 1) hx hb dX2_factor_22 (by decide +kernel) ?_
    refine lv_isub hx hb dX2_factor_23 ?_
    obtain ⟨σ_7, eσ_7, hF_8⟩ := bnd_e hF_6
    clear hF_6
    refine va_put (D := (dC, dI)) (ci := 2) (v := .int (((u_5.2 2).1 4) - 1)) (ty := .int) (C := RX2) (T := TX2) (N := 8) hx hb hts ii_X2 tyX2 tyX2_ok nmX2 hown hK hP (hDD _) hS 0 rfl rfl 4 (by decide) (hts (.fieldLink RX2 32 "StoryHouse$Grammar" "nest" "I") wq_75) (fun _ h9 => h9) rfl (by decide +kernel) rfl rfl (Nat.le_of_ble_eq_true rfl) dX2_factor_24 (fun H locs hP' _ hS => ?_)
    have hP : va_P (dC, dI) vwCl (b_g cB cC cI cJ cZ oA rA σ_7 ++ b_w cB cC cI cJ cZ oA rA σ_7 ++ b_c cB cC cI cJ cZ oA rA σ_7) H := by rw [eσ_7]; exact cs_gwc_g_4 ▸ hP'
    clear hP'
    refine lv_aload_n hx hb dX2_factor_27 rfl (lv_at hl 0 rfl) ?_
    refine va_get (D := (dC, dI)) (ci := 2) (v := .ref (oA 5)) (C := RX2) (T := TX2) (N := 8) hx hb hts ii_X2 hown hK hP 0 rfl rfl 1 (by decide) (hts (.fieldLink RX2 15 "StoryHouse$Grammar" "code" "LStoryHouse$Code;") wq_72) (fun _ h9 => h9) rfl dX2_factor_28 ?_
    refine lv_bipush (v := 9) hx hb dX2_factor_31 (by decide +kernel) ?_
    obtain ⟨u_9, hu_9, hF_10⟩ := Option.bind_eq_some_iff.mp hF_8
    clear hF_8
    have hPc := bx_P (bs := [b_g cB cC cI cJ cZ oA rA σ_7, b_w cB cC cI cJ cZ oA rA σ_7, b_c cB cC cI cJ cZ oA rA σ_7]) (bs' := [b_c cB cC cI cJ cZ oA rA σ_7]) (ws' := (b_c cB cC cI cJ cZ oA rA σ_7)) hP fl_3 fl_1 [2] rfl
    have hDc := bx_D (bs := [b_g cB cC cI cJ cZ oA rA σ_7, b_w cB cC cI cJ cZ oA rA σ_7, b_c cB cC cI cJ cZ oA rA σ_7]) (bs' := [b_c cB cC cI cJ cZ oA rA σ_7]) (ws' := (b_c cB cC cI cJ cZ oA rA σ_7)) (hDD σ_7) fl_3 fl_1 [2] (by decide +kernel) rfl
    have hFc := bx_F (bs := [b_g cB cC cI cJ cZ oA rA σ_7, b_w cB cC cI cJ cZ oA rA σ_7, b_c cB cC cI cJ cZ oA rA σ_7]) (bs' := [b_c cB cC cI cJ cZ oA rA σ_7]) (wc := (b_c cB cC cI cJ cZ oA rA σ_7)) (hDD σ_7) hS hA fl_3 fl_1 [2] rfl
    refine g_ofv (wc := (b_c cB cC cI cJ cZ oA rA σ_7)) (wr := (b_g cB cC cI cJ cZ oA rA σ_7 ++ b_w cB cC cI cJ cZ oA rA σ_7)) hP (hDD σ_7) hS hFc (bx_ix [b_g cB cC cI cJ cZ oA rA σ_7, b_w cB cC cI cJ cZ oA rA σ_7, b_c cB cC cI cJ cZ oA rA σ_7] [2]) (bx_ix [b_g cB cC cI cJ cZ oA rA σ_7, b_w cB cC cI cJ cZ oA rA σ_7, b_c cB cC cI cJ cZ oA rA σ_7] [0, 1]) (bx_C (bs := [b_g cB cC cI cJ cZ oA rA σ_7, b_w cB cC cI cJ cZ oA rA σ_7, b_c cB cC cI cJ cZ oA rA σ_7]) (bs' := [b_c cB cC cI cJ cZ oA rA σ_7]) (is := [2]) fl_3 fl_1 rfl) (bx_C (bs := [b_g cB cC cI cJ cZ oA rA σ_7, b_w cB cC cI cJ cZ oA rA σ_7, b_c cB cC cI cJ cZ oA rA σ_7]) (bs' := [b_g cB cC cI cJ cZ oA rA σ_7, b_w cB cC cI cJ cZ oA rA σ_7]) (is := [0, 1]) fl_3 fl_2 rfl) (bx_n (by decide +kernel)) (bx_d (by decide +kernel)) (va_runV (As := [.int 9]) (rest := []) ⟨hx, hb, hml, hown, hts⟩ (k_X0_add l dC dI cB cC cI cJ cZ cP oA rA H.size  9 σ_7 _ hu_9) (cwV 1 hts (g_gV wq_636 wq_637 wq_638 wq_6 wq_639) rfl rfl rfl (by decide +kernel) ⟨by show 1 + 1 ≤ 4 + (d + 1); omega, by show 8 + (2 + 11) + 40 ≤ 102 + 22 * (d + 1); omega⟩) (g_preV g_bl0 hK hPc hDc hS hE hFc g_to0 (q0 := 0) (ci := 0) rfl rfl) rfl rfl hl.1 rfl (lv_room (Nat.le_of_ble_eq_true rfl)) dX2_factor_33 ⟨Nat.le_of_ble_eq_true rfl, Nat.le_of_ble_eq_true rfl⟩) (fun u9 H locs hw9 hP' hD' hS => ?_)
    clear hPc hDc hFc
    obtain ⟨σ_11, eσ_11, hF_12⟩ := bnd_e hF_10
    clear hF_10
    have hP : va_P (dC, dI) vwCl (b_g cB cC cI cJ cZ oA rA σ_11 ++ b_w cB cC cI cJ cZ oA rA σ_11 ++ b_c cB cC cI cJ cZ oA rA σ_11) H := by rw [eσ_11]; exact bx_P (bs := [b_g cB cC cI cJ cZ oA rA σ_7, b_w cB cC cI cJ cZ oA rA σ_7] ++ [b_c cB cC cI cJ cZ oA rA u_9.2]) (bs' := [b_g cB cC cI cJ cZ oA rA (mrg (fun j => j == 5) σ_7 u_9.2), b_w cB cC cI cJ cZ oA rA (mrg (fun j => j == 5) σ_7 u_9.2), b_c cB cC cI cJ cZ oA rA (mrg (fun j => j == 5) σ_7 u_9.2)]) hP' (fl_a fl_2 fl_1) fl_3 [0, 1, 2] rfl
    clear hP' hD'
    refine lv_goto (tgt := 43) hx hb dX2_factor_36 (by decide) ?_
    have h9 := Option.some.inj hF_12
    subst h9
    exact W.vret hx hb hr (fun t ht hW => ⟨⟨(), rfl, trivial, m_end ht hP, hDD _⟩, hS.F ht⟩) hS.2.2 dX2_factor_43

def F_X2_primary (rec : HG)  (Γ : HS) : HR :=
  bnd (((Γ 2).1 3)) fun (x_1 : Int32) =>
  bnd (((Γ 2).1 2)) fun (x_3 : Int32) =>
  if x_1 = 2 then (
    (F_X2_pass Γ).bind fun u_7 =>
    if ((u_7.2 2).1 3) = 40 then (
      (rec 7 x_3 0 0 u_7.2).bind fun u_11 =>
      some (0, u_11.2)
    ) else (
      if ((u_7.2 2).1 3) = 91 then (
        (rec 8 0 0 0 u_7.2).bind fun u_16 =>
        (F_X0_add_ 36 x_3 u_16.2).bind fun u_18 =>
        bnd (mrg (fun j => j == 5) u_16.2 u_18.2) fun σ_20 =>
        some (0, σ_20)
      ) else (
        (F_X0_add_ 49 x_3 u_7.2).bind fun u_23 =>
        bnd (mrg (fun j => j == 5) u_7.2 u_23.2) fun σ_25 =>
        some (0, σ_25)
      )
    )
  ) else
  if x_1 = 3 then (
    (F_X2_pass Γ).bind fun u_30 =>
    (F_X10_worthOf x_3 u_30.2).bind fun u_32 =>
    bnd (mrg (fun j => j == 1) u_30.2 u_32.2) fun σ_34 =>
    (F_X0_add_ 33 u_32.1 σ_34).bind fun u_36 =>
    bnd (mrg (fun j => j == 5) σ_34 u_36.2) fun σ_38 =>
    some (0, σ_38)
  ) else
  if x_1 = 40 then (
    (F_X2_deepen Γ).bind fun u_43 =>
    (rec 0 0 0 0 u_43.2).bind fun u_45 =>
    bnd (cI' u_45.2 2 4 (((u_45.2 2).1 4) - 1)) fun σ_47 =>
    (F_X2_need 41 σ_47).bind fun u_49 =>
    some (0, u_49.2)
  ) else
  if x_1 = 221 ∨ x_1 = 222 ∨ x_1 = 223 ∨ x_1 = 224 then (
    (F_X2_deepen Γ).bind fun u_54 =>
    (rec 6 0 0 0 u_54.2).bind fun u_56 =>
    bnd (cI' u_56.2 2 4 (((u_56.2 2).1 4) - 1)) fun σ_58 =>
    (F_X0_add ((24 + x_1) - 221) σ_58).bind fun u_60 =>
    bnd (mrg (fun j => j == 5) σ_58 u_60.2) fun σ_62 =>
    some (0, σ_62)
  ) else
  if x_1 = 225 ∨ x_1 = 226 ∨ x_1 = 227 then (
    (F_X2_pass Γ).bind fun u_67 =>
    (F_X0_add ((28 + x_1) - 225) u_67.2).bind fun u_69 =>
    bnd (mrg (fun j => j == 5) u_67.2 u_69.2) fun σ_71 =>
    some (0, σ_71)
  ) else
  if x_1 = 228 then (
    (F_X2_pass Γ).bind fun u_76 =>
    (F_X0_add_ 33 1 u_76.2).bind fun u_78 =>
    bnd (mrg (fun j => j == 5) u_76.2 u_78.2) fun σ_80 =>
    some (0, σ_80)
  ) else
  (
    (F_X2_fail 2 Γ).bind fun u_83 =>
    some (0, u_83.2)
  )
set_option maxHeartbeats 4000000 in
set_option maxRecDepth 100000 in
theorem k_X2_primary_st (l : Launch) (dC : Nat → ClassId) (dI : Nat → Nat → Nat) (cB cC cI cJ cZ cP : ClassId) (oA : Nat → Nat) (rA : Nat → Nat → Nat) (d : Nat) (rec : HG) (hI0 : ∀ (sz : Nat)  (Γ : HS) (res : Int32 × HS), rec 0 0 0 0 Γ = some res → Met l yX2_expression (g_ws yX2_expression cX2_expression 3 none) ({ frames := 4 + d, cells := 0, slots := 0, locals := 102 + 22 * d }) (va_Pc [.ref (oA 2)] (g_B (dC, dI) [(cB, .byte), (cC, .char), (cI, .int), (cJ, .long), (cZ, .boolean), (cP, .object "StoryHouse$Play")] sz (b_g cB cC cI cJ cZ oA rA Γ ++ b_w cB cC cI cJ cZ oA rA Γ ++ b_c cB cC cI cJ cZ oA rA Γ) g_0)) (va_Qv (fun (_ : Unit) => True) (g_Bo (dC, dI) (va_A (b_g cB cC cI cJ cZ oA rA Γ ++ b_w cB cC cI cJ cZ oA rA Γ ++ b_c cB cC cI cJ cZ oA rA Γ) sz) (fun (_ : Unit) => (b_g cB cC cI cJ cZ oA rA res.2 ++ b_w cB cC cI cJ cZ oA rA res.2 ++ b_c cB cC cI cJ cZ oA rA res.2))) (va_A (b_g cB cC cI cJ cZ oA rA Γ ++ b_w cB cC cI cJ cZ oA rA Γ ++ b_c cB cC cI cJ cZ oA rA Γ) sz)) 0 0 (va_A (b_g cB cC cI cJ cZ oA rA Γ ++ b_w cB cC cI cJ cZ oA rA Γ ++ b_c cB cC cI cJ cZ oA rA Γ) sz)) (hI1 : ∀ (sz : Nat)  (Γ : HS) (res : Int32 × HS), rec 1 0 0 0 Γ = some res → Met l yX2_both (g_ws yX2_both cX2_both 3 none) ({ frames := 4 + d, cells := 0, slots := 0, locals := 102 + 22 * d }) (va_Pc [.ref (oA 2)] (g_B (dC, dI) [(cB, .byte), (cC, .char), (cI, .int), (cJ, .long), (cZ, .boolean), (cP, .object "StoryHouse$Play")] sz (b_g cB cC cI cJ cZ oA rA Γ ++ b_w cB cC cI cJ cZ oA rA Γ ++ b_c cB cC cI cJ cZ oA rA Γ) g_0)) (va_Qv (fun (_ : Unit) => True) (g_Bo (dC, dI) (va_A (b_g cB cC cI cJ cZ oA rA Γ ++ b_w cB cC cI cJ cZ oA rA Γ ++ b_c cB cC cI cJ cZ oA rA Γ) sz) (fun (_ : Unit) => (b_g cB cC cI cJ cZ oA rA res.2 ++ b_w cB cC cI cJ cZ oA rA res.2 ++ b_c cB cC cI cJ cZ oA rA res.2))) (va_A (b_g cB cC cI cJ cZ oA rA Γ ++ b_w cB cC cI cJ cZ oA rA Γ ++ b_c cB cC cI cJ cZ oA rA Γ) sz)) 0 0 (va_A (b_g cB cC cI cJ cZ oA rA Γ ++ b_w cB cC cI cJ cZ oA rA Γ ++ b_c cB cC cI cJ cZ oA rA Γ) sz)) (hI2 : ∀ (sz : Nat)  (Γ : HS) (res : Int32 × HS), rec 2 0 0 0 Γ = some res → Met l yX2_step (g_ws yX2_step cX2_step 2 none) ({ frames := 4 + d, cells := 0, slots := 0, locals := 102 + 22 * d }) (va_Pc [.ref (oA 2)] (g_B (dC, dI) [(cB, .byte), (cC, .char), (cI, .int), (cJ, .long), (cZ, .boolean), (cP, .object "StoryHouse$Play")] sz (b_g cB cC cI cJ cZ oA rA Γ ++ b_w cB cC cI cJ cZ oA rA Γ ++ b_c cB cC cI cJ cZ oA rA Γ) g_0)) (va_Qv (fun (_ : Unit) => True) (g_Bo (dC, dI) (va_A (b_g cB cC cI cJ cZ oA rA Γ ++ b_w cB cC cI cJ cZ oA rA Γ ++ b_c cB cC cI cJ cZ oA rA Γ) sz) (fun (_ : Unit) => (b_g cB cC cI cJ cZ oA rA res.2 ++ b_w cB cC cI cJ cZ oA rA res.2 ++ b_c cB cC cI cJ cZ oA rA res.2))) (va_A (b_g cB cC cI cJ cZ oA rA Γ ++ b_w cB cC cI cJ cZ oA rA Γ ++ b_c cB cC cI cJ cZ oA rA Γ) sz)) 0 0 (va_A (b_g cB cC cI cJ cZ oA rA Γ ++ b_w cB cC cI cJ cZ oA rA Γ ++ b_c cB cC cI cJ cZ oA rA Γ) sz)) (hI3 : ∀ (sz : Nat)  (Γ : HS) (res : Int32 × HS), rec 3 0 0 0 Γ = some res → Met l yX2_sum (g_ws yX2_sum cX2_sum 3 none) ({ frames := 4 + d, cells := 0, slots := 0, locals := 102 + 22 * d }) (va_Pc [.ref (oA 2)] (g_B (dC, dI) [(cB, .byte), (cC, .char), (cI, .int), (cJ, .long), (cZ, .boolean), (cP, .object "StoryHouse$Play")] sz (b_g cB cC cI cJ cZ oA rA Γ ++ b_w cB cC cI cJ cZ oA rA Γ ++ b_c cB cC cI cJ cZ oA rA Γ) g_0)) (va_Qv (fun (_ : Unit) => True) (g_Bo (dC, dI) (va_A (b_g cB cC cI cJ cZ oA rA Γ ++ b_w cB cC cI cJ cZ oA rA Γ ++ b_c cB cC cI cJ cZ oA rA Γ) sz) (fun (_ : Unit) => (b_g cB cC cI cJ cZ oA rA res.2 ++ b_w cB cC cI cJ cZ oA rA res.2 ++ b_c cB cC cI cJ cZ oA rA res.2))) (va_A (b_g cB cC cI cJ cZ oA rA Γ ++ b_w cB cC cI cJ cZ oA rA Γ ++ b_c cB cC cI cJ cZ oA rA Γ) sz)) 0 0 (va_A (b_g cB cC cI cJ cZ oA rA Γ ++ b_w cB cC cI cJ cZ oA rA Γ ++ b_c cB cC cI cJ cZ oA rA Γ) sz)) (hI4 : ∀ (sz : Nat)  (Γ : HS) (res : Int32 × HS), rec 4 0 0 0 Γ = some res → Met l yX2_term (g_ws yX2_term cX2_term 3 none) ({ frames := 4 + d, cells := 0, slots := 0, locals := 102 + 22 * d }) (va_Pc [.ref (oA 2)] (g_B (dC, dI) [(cB, .byte), (cC, .char), (cI, .int), (cJ, .long), (cZ, .boolean), (cP, .object "StoryHouse$Play")] sz (b_g cB cC cI cJ cZ oA rA Γ ++ b_w cB cC cI cJ cZ oA rA Γ ++ b_c cB cC cI cJ cZ oA rA Γ) g_0)) (va_Qv (fun (_ : Unit) => True) (g_Bo (dC, dI) (va_A (b_g cB cC cI cJ cZ oA rA Γ ++ b_w cB cC cI cJ cZ oA rA Γ ++ b_c cB cC cI cJ cZ oA rA Γ) sz) (fun (_ : Unit) => (b_g cB cC cI cJ cZ oA rA res.2 ++ b_w cB cC cI cJ cZ oA rA res.2 ++ b_c cB cC cI cJ cZ oA rA res.2))) (va_A (b_g cB cC cI cJ cZ oA rA Γ ++ b_w cB cC cI cJ cZ oA rA Γ ++ b_c cB cC cI cJ cZ oA rA Γ) sz)) 0 0 (va_A (b_g cB cC cI cJ cZ oA rA Γ ++ b_w cB cC cI cJ cZ oA rA Γ ++ b_c cB cC cI cJ cZ oA rA Γ) sz)) (hI5 : ∀ (sz : Nat)  (Γ : HS) (res : Int32 × HS), rec 5 0 0 0 Γ = some res → Met l yX2_factor (g_ws yX2_factor cX2_factor 1 none) ({ frames := 4 + d, cells := 0, slots := 0, locals := 102 + 22 * d }) (va_Pc [.ref (oA 2)] (g_B (dC, dI) [(cB, .byte), (cC, .char), (cI, .int), (cJ, .long), (cZ, .boolean), (cP, .object "StoryHouse$Play")] sz (b_g cB cC cI cJ cZ oA rA Γ ++ b_w cB cC cI cJ cZ oA rA Γ ++ b_c cB cC cI cJ cZ oA rA Γ) g_0)) (va_Qv (fun (_ : Unit) => True) (g_Bo (dC, dI) (va_A (b_g cB cC cI cJ cZ oA rA Γ ++ b_w cB cC cI cJ cZ oA rA Γ ++ b_c cB cC cI cJ cZ oA rA Γ) sz) (fun (_ : Unit) => (b_g cB cC cI cJ cZ oA rA res.2 ++ b_w cB cC cI cJ cZ oA rA res.2 ++ b_c cB cC cI cJ cZ oA rA res.2))) (va_A (b_g cB cC cI cJ cZ oA rA Γ ++ b_w cB cC cI cJ cZ oA rA Γ ++ b_c cB cC cI cJ cZ oA rA Γ) sz)) 0 0 (va_A (b_g cB cC cI cJ cZ oA rA Γ ++ b_w cB cC cI cJ cZ oA rA Γ ++ b_c cB cC cI cJ cZ oA rA Γ) sz)) (hI6 : ∀ (sz : Nat)  (Γ : HS) (res : Int32 × HS), rec 6 0 0 0 Γ = some res → Met l yX2_primary (g_ws yX2_primary cX2_primary 3 none) ({ frames := 4 + d, cells := 0, slots := 0, locals := 102 + 22 * d }) (va_Pc [.ref (oA 2)] (g_B (dC, dI) [(cB, .byte), (cC, .char), (cI, .int), (cJ, .long), (cZ, .boolean), (cP, .object "StoryHouse$Play")] sz (b_g cB cC cI cJ cZ oA rA Γ ++ b_w cB cC cI cJ cZ oA rA Γ ++ b_c cB cC cI cJ cZ oA rA Γ) g_0)) (va_Qv (fun (_ : Unit) => True) (g_Bo (dC, dI) (va_A (b_g cB cC cI cJ cZ oA rA Γ ++ b_w cB cC cI cJ cZ oA rA Γ ++ b_c cB cC cI cJ cZ oA rA Γ) sz) (fun (_ : Unit) => (b_g cB cC cI cJ cZ oA rA res.2 ++ b_w cB cC cI cJ cZ oA rA res.2 ++ b_c cB cC cI cJ cZ oA rA res.2))) (va_A (b_g cB cC cI cJ cZ oA rA Γ ++ b_w cB cC cI cJ cZ oA rA Γ ++ b_c cB cC cI cJ cZ oA rA Γ) sz)) 0 0 (va_A (b_g cB cC cI cJ cZ oA rA Γ ++ b_w cB cC cI cJ cZ oA rA Γ ++ b_c cB cC cI cJ cZ oA rA Γ) sz)) (hI7 : ∀ (sz : Nat) (p0 : Int32) (Γ : HS) (res : Int32 × HS), rec 7 p0 0 0 Γ = some res → Met l yX2_arguments (g_ws yX2_arguments cX2_arguments 3 none) ({ frames := 4 + d, cells := 0, slots := 0, locals := 102 + 22 * d }) (va_Pc [.ref (oA 2), .int p0] (g_B (dC, dI) [(cB, .byte), (cC, .char), (cI, .int), (cJ, .long), (cZ, .boolean), (cP, .object "StoryHouse$Play")] sz (b_g cB cC cI cJ cZ oA rA Γ ++ b_w cB cC cI cJ cZ oA rA Γ ++ b_c cB cC cI cJ cZ oA rA Γ) g_0)) (va_Qv (fun (_ : Unit) => True) (g_Bo (dC, dI) (va_A (b_g cB cC cI cJ cZ oA rA Γ ++ b_w cB cC cI cJ cZ oA rA Γ ++ b_c cB cC cI cJ cZ oA rA Γ) sz) (fun (_ : Unit) => (b_g cB cC cI cJ cZ oA rA res.2 ++ b_w cB cC cI cJ cZ oA rA res.2 ++ b_c cB cC cI cJ cZ oA rA res.2))) (va_A (b_g cB cC cI cJ cZ oA rA Γ ++ b_w cB cC cI cJ cZ oA rA Γ ++ b_c cB cC cI cJ cZ oA rA Γ) sz)) 0 0 (va_A (b_g cB cC cI cJ cZ oA rA Γ ++ b_w cB cC cI cJ cZ oA rA Γ ++ b_c cB cC cI cJ cZ oA rA Γ) sz)) (hI8 : ∀ (sz : Nat)  (Γ : HS) (res : Int32 × HS), rec 8 0 0 0 Γ = some res → Met l yX2_index (g_ws yX2_index cX2_index 1 none) ({ frames := 4 + d, cells := 0, slots := 0, locals := 102 + 22 * d }) (va_Pc [.ref (oA 2)] (g_B (dC, dI) [(cB, .byte), (cC, .char), (cI, .int), (cJ, .long), (cZ, .boolean), (cP, .object "StoryHouse$Play")] sz (b_g cB cC cI cJ cZ oA rA Γ ++ b_w cB cC cI cJ cZ oA rA Γ ++ b_c cB cC cI cJ cZ oA rA Γ) g_0)) (va_Qv (fun (_ : Unit) => True) (g_Bo (dC, dI) (va_A (b_g cB cC cI cJ cZ oA rA Γ ++ b_w cB cC cI cJ cZ oA rA Γ ++ b_c cB cC cI cJ cZ oA rA Γ) sz) (fun (_ : Unit) => (b_g cB cC cI cJ cZ oA rA res.2 ++ b_w cB cC cI cJ cZ oA rA res.2 ++ b_c cB cC cI cJ cZ oA rA res.2))) (va_A (b_g cB cC cI cJ cZ oA rA Γ ++ b_w cB cC cI cJ cZ oA rA Γ ++ b_c cB cC cI cJ cZ oA rA Γ) sz)) 0 0 (va_A (b_g cB cC cI cJ cZ oA rA Γ ++ b_w cB cC cI cJ cZ oA rA Γ ++ b_c cB cC cI cJ cZ oA rA Γ) sz)) (sz : Nat)   (Γ : HS) (res : Int32 × HS) (hF : F_X2_primary rec  Γ = some res) : Met l yX2_primary (g_ws yX2_primary cX2_primary 3 none) ({ frames := 4 + (d + 1), cells := 0, slots := 0, locals := 102 + 22 * (d + 1) }) (va_Pc [.ref (oA 2)] (g_B (dC, dI) [(cB, .byte), (cC, .char), (cI, .int), (cJ, .long), (cZ, .boolean), (cP, .object "StoryHouse$Play")] sz (b_g cB cC cI cJ cZ oA rA Γ ++ b_w cB cC cI cJ cZ oA rA Γ ++ b_c cB cC cI cJ cZ oA rA Γ) g_0)) (va_Qv (fun (_ : Unit) => True) (g_Bo (dC, dI) (va_A (b_g cB cC cI cJ cZ oA rA Γ ++ b_w cB cC cI cJ cZ oA rA Γ ++ b_c cB cC cI cJ cZ oA rA Γ) sz) (fun (_ : Unit) => (b_g cB cC cI cJ cZ oA rA res.2 ++ b_w cB cC cI cJ cZ oA rA res.2 ++ b_c cB cC cI cJ cZ oA rA res.2))) (va_A (b_g cB cC cI cJ cZ oA rA Γ ++ b_w cB cC cI cJ cZ oA rA Γ ++ b_c cB cC cI cJ cZ oA rA Γ) sz)) 0 0 (va_A (b_g cB cC cI cJ cZ oA rA Γ ++ b_w cB cC cI cJ cZ oA rA Γ ++ b_c cB cC cI cJ cZ oA rA Γ) sz) := by
  refine Met.ofW (cc := cX2_primary) (maxL := 3) (ret := none) (by decide) rfl ?_
  intro p e s m args below meth c s₁ B hml hv
  obtain ⟨rfl, hsz, hP, hK, hD0, hE, hX⟩ := hv
  have hx := B.exec
  have hb := B.bytes
  have hr := B.returns
  have hts0 := atoms_spec (ws := g_ws yX2_primary cX2_primary 3 none) B.pre
  have hts : ∀ w ∈ lw_good, w.before ([.ref (oA 2)] : List Value).toArray s = true := fun w z => hts0 w (List.mem_cons_of_mem _ z)
  have hown : s.vm.findClass RX2 = some m.cls := findClass_of_methodNamed B.named
  have hlocks := B.notSynchronized
  subst hsz
  have hD1 := hD0.self (sz := s.heap.size)
  generalize hAe : va_A (b_g cB cC cI cJ cZ oA rA Γ ++ b_w cB cC cI cJ cZ oA rA Γ ++ b_c cB cC cI cJ cZ oA rA Γ) s.heap.size = A at hD1 hE hX ⊢
  have hA : ∀ q : Nat, s.heap.size ≤ q → A q := fun q z => by rw [← hAe]; exact Or.inr z
  have hDD : ∀ Γ : HS, va_D A (b_g cB cC cI cJ cZ oA rA Γ ++ b_w cB cC cI cJ cZ oA rA Γ ++ b_c cB cC cI cJ cZ oA rA Γ) := fun Γ9 => va_D_fst (ws := (b_g cB cC cI cJ cZ oA rA Γ ++ b_w cB cC cI cJ cZ oA rA Γ ++ b_c cB cC cI cJ cZ oA rA Γ)) (ws' := (b_g cB cC cI cJ cZ oA rA Γ9 ++ b_w cB cC cI cJ cZ oA rA Γ9 ++ b_c cB cC cI cJ cZ oA rA Γ9)) rfl hD1
  have hN := hE.1
  have hS : va_S A s.heap s.heap [] := va_S.rf
  have hl := lv_entry ([.ref (oA 2)]) (n := 3) (Nat.le_of_ble_eq_true rfl)
  rw [lg_entry_eq]
  generalize (lg_sl ([.ref (oA 2)]) ++ List.replicate (3 - (lg_sl ([.ref (oA 2)])).length) Slot.unset).toArray = ls at hl ⊢
  have hl : lv_has ls 3 [(0, .ref (oA 2))] := hl
  unfold F_X2_primary at hF
  refine lv_aload_n hx hb dX2_primary_0 rfl (lv_at hl 0 rfl) ?_
  refine va_get (D := (dC, dI)) (ci := 2) (v := .int ((Γ 2).1 3)) (C := RX2) (T := TX2) (N := 8) hx hb hts ii_X2 hown hK hP 0 rfl rfl 3 (by decide) (hts (.fieldLink RX2 29 "StoryHouse$Grammar" "kind" "I") wq_74) (fun _ h9 => h9) rfl dX2_primary_1 ?_
  obtain ⟨x_1, ex_1, hF_2⟩ := bnd_e hF
  clear hF
  refine m_top ex_1 ?_
  refine lv_istore_n (lv' := [(1, .int x_1), (0, .ref (oA 2))]) hx hb dX2_primary_4 rfl hl (by decide) rfl (fun ls hl => ?_)
  refine lv_aload_n hx hb dX2_primary_5 rfl (lv_at hl 1 rfl) ?_
  refine va_get (D := (dC, dI)) (ci := 2) (v := .int ((Γ 2).1 2)) (C := RX2) (T := TX2) (N := 8) hx hb hts ii_X2 hown hK hP 0 rfl rfl 2 (by decide) (hts (.fieldLink RX2 19 "StoryHouse$Grammar" "at" "I") wq_73) (fun _ h9 => h9) rfl dX2_primary_6 ?_
  obtain ⟨x_3, ex_3, hF_4⟩ := bnd_e hF_2
  clear hF_2
  refine m_top ex_3 ?_
  refine lv_istore_n (lv' := [(2, .int x_3), (1, .int x_1), (0, .ref (oA 2))]) hx hb dX2_primary_9 rfl hl (by decide) rfl (fun ls hl => ?_)
  refine lv_iload_n hx hb dX2_primary_10 rfl (lv_at hl 1 rfl) ?_
  by_cases c_5 : x_1 = 2
  · have hF_6 := ipos c_5 hF_4
    clear hF_4
    refine lv_lookup (off := 122) (tgt := 133) hx hb dX2_primary_11 (by decide +kernel) (by rw [c_5]; decide +kernel) (by decide) ?_
    refine lv_aload_n hx hb dX2_primary_133 rfl (lv_at hl 2 rfl) ?_
    obtain ⟨u_7, hu_7, hF_8⟩ := Option.bind_eq_some_iff.mp hF_6
    clear hF_6
    have hPc := bx_P (bs := [b_g cB cC cI cJ cZ oA rA Γ, b_w cB cC cI cJ cZ oA rA Γ, b_c cB cC cI cJ cZ oA rA Γ]) (bs' := [b_g cB cC cI cJ cZ oA rA Γ, b_w cB cC cI cJ cZ oA rA Γ, b_c cB cC cI cJ cZ oA rA Γ]) (ws' := (b_g cB cC cI cJ cZ oA rA Γ ++ b_w cB cC cI cJ cZ oA rA Γ ++ b_c cB cC cI cJ cZ oA rA Γ)) hP fl_3 fl_3 [0, 1, 2] rfl
    have hDc := bx_D (bs := [b_g cB cC cI cJ cZ oA rA Γ, b_w cB cC cI cJ cZ oA rA Γ, b_c cB cC cI cJ cZ oA rA Γ]) (bs' := [b_g cB cC cI cJ cZ oA rA Γ, b_w cB cC cI cJ cZ oA rA Γ, b_c cB cC cI cJ cZ oA rA Γ]) (ws' := (b_g cB cC cI cJ cZ oA rA Γ ++ b_w cB cC cI cJ cZ oA rA Γ ++ b_c cB cC cI cJ cZ oA rA Γ)) (hDD Γ) fl_3 fl_3 [0, 1, 2] (by decide +kernel) rfl
    have hFc := bx_F (bs := [b_g cB cC cI cJ cZ oA rA Γ, b_w cB cC cI cJ cZ oA rA Γ, b_c cB cC cI cJ cZ oA rA Γ]) (bs' := [b_g cB cC cI cJ cZ oA rA Γ, b_w cB cC cI cJ cZ oA rA Γ, b_c cB cC cI cJ cZ oA rA Γ]) (wc := (b_g cB cC cI cJ cZ oA rA Γ ++ b_w cB cC cI cJ cZ oA rA Γ ++ b_c cB cC cI cJ cZ oA rA Γ)) (hDD Γ) hS hA fl_3 fl_3 [0, 1, 2] rfl
    refine g_ofv (wc := (b_g cB cC cI cJ cZ oA rA Γ ++ b_w cB cC cI cJ cZ oA rA Γ ++ b_c cB cC cI cJ cZ oA rA Γ)) (wr := ([] : va_W)) hP (hDD Γ) hS hFc (bx_ix [b_g cB cC cI cJ cZ oA rA Γ, b_w cB cC cI cJ cZ oA rA Γ, b_c cB cC cI cJ cZ oA rA Γ] [0, 1, 2]) (bx_ix [b_g cB cC cI cJ cZ oA rA Γ, b_w cB cC cI cJ cZ oA rA Γ, b_c cB cC cI cJ cZ oA rA Γ] []) (bx_C (bs := [b_g cB cC cI cJ cZ oA rA Γ, b_w cB cC cI cJ cZ oA rA Γ, b_c cB cC cI cJ cZ oA rA Γ]) (bs' := [b_g cB cC cI cJ cZ oA rA Γ, b_w cB cC cI cJ cZ oA rA Γ, b_c cB cC cI cJ cZ oA rA Γ]) (is := [0, 1, 2]) fl_3 fl_3 rfl) (bx_C (bs := [b_g cB cC cI cJ cZ oA rA Γ, b_w cB cC cI cJ cZ oA rA Γ, b_c cB cC cI cJ cZ oA rA Γ]) (bs' := []) (is := []) fl_3 fl_0 rfl) (bx_n (by decide +kernel)) (bx_d (by decide +kernel)) (va_runV (As := []) (rest := []) ⟨hx, hb, hml, hown, hts⟩ (k_X2_pass l dC dI cB cC cI cJ cZ cP oA rA s.heap.size  Γ _ hu_7) (cwV 0 hts (g_gV wq_555 wq_556 wq_1997 wq_3 wq_557) rfl rfl rfl (by decide +kernel) ⟨by show 1 + 1 ≤ 4 + (d + 1); omega, by show 8 + (1 + 11) + 40 ≤ 102 + 22 * (d + 1); omega⟩) (g_preV g_bl0 hK hPc hDc hS hE hFc g_to0 (q0 := 0) (ci := 2) rfl rfl) rfl rfl hl.1 rfl (lv_room (Nat.le_of_ble_eq_true rfl)) dX2_primary_134 ⟨Nat.le_of_ble_eq_true rfl, Nat.le_of_ble_eq_true rfl⟩) (fun u9 H locs hw9 hP' hD' hS => ?_)
    clear hPc hDc hFc
    have hP : va_P (dC, dI) vwCl (b_g cB cC cI cJ cZ oA rA u_7.2 ++ b_w cB cC cI cJ cZ oA rA u_7.2 ++ b_c cB cC cI cJ cZ oA rA u_7.2) H := hP'
    clear hP' hD'
    refine lv_aload_n hx hb dX2_primary_137 rfl (lv_at hl 2 rfl) ?_
    refine va_get (D := (dC, dI)) (ci := 2) (v := .int ((u_7.2 2).1 3)) (C := RX2) (T := TX2) (N := 8) hx hb hts ii_X2 hown hK hP 0 rfl rfl 3 (by decide) (hts (.fieldLink RX2 29 "StoryHouse$Grammar" "kind" "I") wq_74) (fun _ h9 => h9) rfl dX2_primary_138 ?_
    refine lv_bipush (v := 40) hx hb dX2_primary_141 (by decide +kernel) ?_
    refine lv_icmp_ne (tgt := 154) hx hb dX2_primary_143 (by decide) (fun c_9 => ?_) (fun c_9 => ?_)
    · have hF_13 := ineg c_9 hF_8
      clear hF_8
      refine lv_aload_n hx hb dX2_primary_154 rfl (lv_at hl 2 rfl) ?_
      refine va_get (D := (dC, dI)) (ci := 2) (v := .int ((u_7.2 2).1 3)) (C := RX2) (T := TX2) (N := 8) hx hb hts ii_X2 hown hK hP 0 rfl rfl 3 (by decide) (hts (.fieldLink RX2 29 "StoryHouse$Grammar" "kind" "I") wq_74) (fun _ h9 => h9) rfl dX2_primary_155 ?_
      refine lv_bipush (v := 91) hx hb dX2_primary_158 (by decide +kernel) ?_
      refine lv_icmp_ne (tgt := 181) hx hb dX2_primary_160 (by decide) (fun c_14 => ?_) (fun c_14 => ?_)
      · have hF_22 := ineg c_14 hF_13
        clear hF_13
        refine lv_aload_n hx hb dX2_primary_181 rfl (lv_at hl 2 rfl) ?_
        refine va_get (D := (dC, dI)) (ci := 2) (v := .ref (oA 5)) (C := RX2) (T := TX2) (N := 8) hx hb hts ii_X2 hown hK hP 0 rfl rfl 1 (by decide) (hts (.fieldLink RX2 15 "StoryHouse$Grammar" "code" "LStoryHouse$Code;") wq_72) (fun _ h9 => h9) rfl dX2_primary_182 ?_
        refine lv_bipush (v := 49) hx hb dX2_primary_185 (by decide +kernel) ?_
        refine lv_iload_n hx hb dX2_primary_187 rfl (lv_at hl 0 rfl) ?_
        obtain ⟨u_23, hu_23, hF_24⟩ := Option.bind_eq_some_iff.mp hF_22
        clear hF_22
        have hPc := bx_P (bs := [b_g cB cC cI cJ cZ oA rA u_7.2, b_w cB cC cI cJ cZ oA rA u_7.2, b_c cB cC cI cJ cZ oA rA u_7.2]) (bs' := [b_c cB cC cI cJ cZ oA rA u_7.2]) (ws' := (b_c cB cC cI cJ cZ oA rA u_7.2)) hP fl_3 fl_1 [2] rfl
        have hDc := bx_D (bs := [b_g cB cC cI cJ cZ oA rA u_7.2, b_w cB cC cI cJ cZ oA rA u_7.2, b_c cB cC cI cJ cZ oA rA u_7.2]) (bs' := [b_c cB cC cI cJ cZ oA rA u_7.2]) (ws' := (b_c cB cC cI cJ cZ oA rA u_7.2)) (hDD u_7.2) fl_3 fl_1 [2] (by decide +kernel) rfl
        have hFc := bx_F (bs := [b_g cB cC cI cJ cZ oA rA u_7.2, b_w cB cC cI cJ cZ oA rA u_7.2, b_c cB cC cI cJ cZ oA rA u_7.2]) (bs' := [b_c cB cC cI cJ cZ oA rA u_7.2]) (wc := (b_c cB cC cI cJ cZ oA rA u_7.2)) (hDD u_7.2) hS hA fl_3 fl_1 [2] rfl
        refine g_ofi (wc := (b_c cB cC cI cJ cZ oA rA u_7.2)) (wr := (b_g cB cC cI cJ cZ oA rA u_7.2 ++ b_w cB cC cI cJ cZ oA rA u_7.2)) hP (hDD u_7.2) hS hFc (bx_ix [b_g cB cC cI cJ cZ oA rA u_7.2, b_w cB cC cI cJ cZ oA rA u_7.2, b_c cB cC cI cJ cZ oA rA u_7.2] [2]) (bx_ix [b_g cB cC cI cJ cZ oA rA u_7.2, b_w cB cC cI cJ cZ oA rA u_7.2, b_c cB cC cI cJ cZ oA rA u_7.2] [0, 1]) (bx_C (bs := [b_g cB cC cI cJ cZ oA rA u_7.2, b_w cB cC cI cJ cZ oA rA u_7.2, b_c cB cC cI cJ cZ oA rA u_7.2]) (bs' := [b_c cB cC cI cJ cZ oA rA u_7.2]) (is := [2]) fl_3 fl_1 rfl) (bx_C (bs := [b_g cB cC cI cJ cZ oA rA u_7.2, b_w cB cC cI cJ cZ oA rA u_7.2, b_c cB cC cI cJ cZ oA rA u_7.2]) (bs' := [b_g cB cC cI cJ cZ oA rA u_7.2, b_w cB cC cI cJ cZ oA rA u_7.2]) (is := [0, 1]) fl_3 fl_2 rfl) (bx_n (by decide +kernel)) (bx_d (by decide +kernel)) (va_runV (As := [.int 49, .int x_3]) (rest := []) ⟨hx, hb, hml, hown, hts⟩ (k_X0_add_ l dC dI cB cC cI cJ cZ cP oA rA H.size  49 x_3 u_7.2 _ hu_23) (cwV 2 hts (g_gV wq_656 wq_657 wq_658 wq_6 wq_659) rfl rfl rfl (by decide +kernel) ⟨by show 1 + 1 ≤ 4 + (d + 1); omega, by show 8 + (3 + 11) + 40 ≤ 102 + 22 * (d + 1); omega⟩) (g_preV g_bl0 hK hPc hDc hS hE hFc g_to0 (q0 := 0) (ci := 0) rfl rfl) rfl rfl hl.1 rfl (lv_room (Nat.le_of_ble_eq_true rfl)) dX2_primary_188 ⟨Nat.le_of_ble_eq_true rfl, Nat.le_of_ble_eq_true rfl⟩) (fun r9 u9 H locs hw9 hP' hD' hS => ?_)
        clear hPc hDc hFc
        subst hw9
        obtain ⟨σ_25, eσ_25, hF_26⟩ := bnd_e hF_24
        clear hF_24
        have hP : va_P (dC, dI) vwCl (b_g cB cC cI cJ cZ oA rA σ_25 ++ b_w cB cC cI cJ cZ oA rA σ_25 ++ b_c cB cC cI cJ cZ oA rA σ_25) H := by rw [eσ_25]; exact bx_P (bs := [b_g cB cC cI cJ cZ oA rA u_7.2, b_w cB cC cI cJ cZ oA rA u_7.2] ++ [b_c cB cC cI cJ cZ oA rA u_23.2]) (bs' := [b_g cB cC cI cJ cZ oA rA (mrg (fun j => j == 5) u_7.2 u_23.2), b_w cB cC cI cJ cZ oA rA (mrg (fun j => j == 5) u_7.2 u_23.2), b_c cB cC cI cJ cZ oA rA (mrg (fun j => j == 5) u_7.2 u_23.2)]) hP' (fl_a fl_2 fl_1) fl_3 [0, 1, 2] rfl
        clear hP' hD'
        refine lv_pop hx hb dX2_primary_191 rfl ?_
        refine lv_goto (tgt := 303) hx hb dX2_primary_192 (by decide) ?_
        have h9 := Option.some.inj hF_26
        subst h9
        exact W.vret hx hb hr (fun t ht hW => ⟨⟨(), rfl, trivial, m_end ht hP, hDD _⟩, hS.F ht⟩) hS.2.2 dX2_primary_303
      · have hF_15 := ipos c_14 hF_13
        clear hF_13
        refine lv_aload_n hx hb dX2_primary_163 rfl (lv_at hl 2 rfl) ?_
        obtain ⟨u_16, hu_16, hF_17⟩ := Option.bind_eq_some_iff.mp hF_15
        clear hF_15
        have hPc := bx_P (bs := [b_g cB cC cI cJ cZ oA rA u_7.2, b_w cB cC cI cJ cZ oA rA u_7.2, b_c cB cC cI cJ cZ oA rA u_7.2]) (bs' := [b_g cB cC cI cJ cZ oA rA u_7.2, b_w cB cC cI cJ cZ oA rA u_7.2, b_c cB cC cI cJ cZ oA rA u_7.2]) (ws' := (b_g cB cC cI cJ cZ oA rA u_7.2 ++ b_w cB cC cI cJ cZ oA rA u_7.2 ++ b_c cB cC cI cJ cZ oA rA u_7.2)) hP fl_3 fl_3 [0, 1, 2] rfl
        have hDc := bx_D (bs := [b_g cB cC cI cJ cZ oA rA u_7.2, b_w cB cC cI cJ cZ oA rA u_7.2, b_c cB cC cI cJ cZ oA rA u_7.2]) (bs' := [b_g cB cC cI cJ cZ oA rA u_7.2, b_w cB cC cI cJ cZ oA rA u_7.2, b_c cB cC cI cJ cZ oA rA u_7.2]) (ws' := (b_g cB cC cI cJ cZ oA rA u_7.2 ++ b_w cB cC cI cJ cZ oA rA u_7.2 ++ b_c cB cC cI cJ cZ oA rA u_7.2)) (hDD u_7.2) fl_3 fl_3 [0, 1, 2] (by decide +kernel) rfl
        have hFc := bx_F (bs := [b_g cB cC cI cJ cZ oA rA u_7.2, b_w cB cC cI cJ cZ oA rA u_7.2, b_c cB cC cI cJ cZ oA rA u_7.2]) (bs' := [b_g cB cC cI cJ cZ oA rA u_7.2, b_w cB cC cI cJ cZ oA rA u_7.2, b_c cB cC cI cJ cZ oA rA u_7.2]) (wc := (b_g cB cC cI cJ cZ oA rA u_7.2 ++ b_w cB cC cI cJ cZ oA rA u_7.2 ++ b_c cB cC cI cJ cZ oA rA u_7.2)) (hDD u_7.2) hS hA fl_3 fl_3 [0, 1, 2] rfl
        refine g_ofv (wc := (b_g cB cC cI cJ cZ oA rA u_7.2 ++ b_w cB cC cI cJ cZ oA rA u_7.2 ++ b_c cB cC cI cJ cZ oA rA u_7.2)) (wr := ([] : va_W)) hP (hDD u_7.2) hS hFc (bx_ix [b_g cB cC cI cJ cZ oA rA u_7.2, b_w cB cC cI cJ cZ oA rA u_7.2, b_c cB cC cI cJ cZ oA rA u_7.2] [0, 1, 2]) (bx_ix [b_g cB cC cI cJ cZ oA rA u_7.2, b_w cB cC cI cJ cZ oA rA u_7.2, b_c cB cC cI cJ cZ oA rA u_7.2] []) (bx_C (bs := [b_g cB cC cI cJ cZ oA rA u_7.2, b_w cB cC cI cJ cZ oA rA u_7.2, b_c cB cC cI cJ cZ oA rA u_7.2]) (bs' := [b_g cB cC cI cJ cZ oA rA u_7.2, b_w cB cC cI cJ cZ oA rA u_7.2, b_c cB cC cI cJ cZ oA rA u_7.2]) (is := [0, 1, 2]) fl_3 fl_3 rfl) (bx_C (bs := [b_g cB cC cI cJ cZ oA rA u_7.2, b_w cB cC cI cJ cZ oA rA u_7.2, b_c cB cC cI cJ cZ oA rA u_7.2]) (bs' := []) (is := []) fl_3 fl_0 rfl) (bx_n (by decide +kernel)) (bx_d (by decide +kernel)) (va_runV (As := []) (rest := []) ⟨hx, hb, hml, hown, hts⟩ (hI8 H.size u_7.2 _ hu_16) (cwV 0 hts (g_gV wq_663 wq_664 wq_2024 wq_3 wq_665) rfl rfl rfl (by decide +kernel) ⟨by show 4 + d + 1 ≤ 4 + (d + 1); omega, by show 8 + (1 + 11) + (102 + 22 * d) ≤ 102 + 22 * (d + 1); omega⟩) (g_preV g_bl0 hK hPc hDc hS hE hFc g_to0 (q0 := 0) (ci := 2) rfl rfl) rfl rfl hl.1 rfl (lv_room (Nat.le_of_ble_eq_true rfl)) dX2_primary_164 ⟨Nat.le_of_ble_eq_true rfl, Nat.le_of_ble_eq_true rfl⟩) (fun u9 H locs hw9 hP' hD' hS => ?_)
        clear hPc hDc hFc
        have hP : va_P (dC, dI) vwCl (b_g cB cC cI cJ cZ oA rA u_16.2 ++ b_w cB cC cI cJ cZ oA rA u_16.2 ++ b_c cB cC cI cJ cZ oA rA u_16.2) H := hP'
        clear hP' hD'
        refine lv_aload_n hx hb dX2_primary_167 rfl (lv_at hl 2 rfl) ?_
        refine va_get (D := (dC, dI)) (ci := 2) (v := .ref (oA 5)) (C := RX2) (T := TX2) (N := 8) hx hb hts ii_X2 hown hK hP 0 rfl rfl 1 (by decide) (hts (.fieldLink RX2 15 "StoryHouse$Grammar" "code" "LStoryHouse$Code;") wq_72) (fun _ h9 => h9) rfl dX2_primary_168 ?_
        refine lv_bipush (v := 36) hx hb dX2_primary_171 (by decide +kernel) ?_
        refine lv_iload_n hx hb dX2_primary_173 rfl (lv_at hl 0 rfl) ?_
        obtain ⟨u_18, hu_18, hF_19⟩ := Option.bind_eq_some_iff.mp hF_17
        clear hF_17
        have hPc := bx_P (bs := [b_g cB cC cI cJ cZ oA rA u_16.2, b_w cB cC cI cJ cZ oA rA u_16.2, b_c cB cC cI cJ cZ oA rA u_16.2]) (bs' := [b_c cB cC cI cJ cZ oA rA u_16.2]) (ws' := (b_c cB cC cI cJ cZ oA rA u_16.2)) hP fl_3 fl_1 [2] rfl
        have hDc := bx_D (bs := [b_g cB cC cI cJ cZ oA rA u_16.2, b_w cB cC cI cJ cZ oA rA u_16.2, b_c cB cC cI cJ cZ oA rA u_16.2]) (bs' := [b_c cB cC cI cJ cZ oA rA u_16.2]) (ws' := (b_c cB cC cI cJ cZ oA rA u_16.2)) (hDD u_16.2) fl_3 fl_1 [2] (by decide +kernel) rfl
        have hFc := bx_F (bs := [b_g cB cC cI cJ cZ oA rA u_16.2, b_w cB cC cI cJ cZ oA rA u_16.2, b_c cB cC cI cJ cZ oA rA u_16.2]) (bs' := [b_c cB cC cI cJ cZ oA rA u_16.2]) (wc := (b_c cB cC cI cJ cZ oA rA u_16.2)) (hDD u_16.2) hS hA fl_3 fl_1 [2] rfl
        refine g_ofi (wc := (b_c cB cC cI cJ cZ oA rA u_16.2)) (wr := (b_g cB cC cI cJ cZ oA rA u_16.2 ++ b_w cB cC cI cJ cZ oA rA u_16.2)) hP (hDD u_16.2) hS hFc (bx_ix [b_g cB cC cI cJ cZ oA rA u_16.2, b_w cB cC cI cJ cZ oA rA u_16.2, b_c cB cC cI cJ cZ oA rA u_16.2] [2]) (bx_ix [b_g cB cC cI cJ cZ oA rA u_16.2, b_w cB cC cI cJ cZ oA rA u_16.2, b_c cB cC cI cJ cZ oA rA u_16.2] [0, 1]) (bx_C (bs := [b_g cB cC cI cJ cZ oA rA u_16.2, b_w cB cC cI cJ cZ oA rA u_16.2, b_c cB cC cI cJ cZ oA rA u_16.2]) (bs' := [b_c cB cC cI cJ cZ oA rA u_16.2]) (is := [2]) fl_3 fl_1 rfl) (bx_C (bs := [b_g cB cC cI cJ cZ oA rA u_16.2, b_w cB cC cI cJ cZ oA rA u_16.2, b_c cB cC cI cJ cZ oA rA u_16.2]) (bs' := [b_g cB cC cI cJ cZ oA rA u_16.2, b_w cB cC cI cJ cZ oA rA u_16.2]) (is := [0, 1]) fl_3 fl_2 rfl) (bx_n (by decide +kernel)) (bx_d (by decide +kernel)) (va_runV (As := [.int 36, .int x_3]) (rest := []) ⟨hx, hb, hml, hown, hts⟩ (k_X0_add_ l dC dI cB cC cI cJ cZ cP oA rA H.size  36 x_3 u_16.2 _ hu_18) (cwV 2 hts (g_gV wq_656 wq_657 wq_658 wq_6 wq_659) rfl rfl rfl (by decide +kernel) ⟨by show 1 + 1 ≤ 4 + (d + 1); omega, by show 8 + (3 + 11) + 40 ≤ 102 + 22 * (d + 1); omega⟩) (g_preV g_bl0 hK hPc hDc hS hE hFc g_to0 (q0 := 0) (ci := 0) rfl rfl) rfl rfl hl.1 rfl (lv_room (Nat.le_of_ble_eq_true rfl)) dX2_primary_174 ⟨Nat.le_of_ble_eq_true rfl, Nat.le_of_ble_eq_true rfl⟩) (fun r9 u9 H locs hw9 hP' hD' hS => ?_)
        clear hPc hDc hFc
        subst hw9
        obtain ⟨σ_20, eσ_20, hF_21⟩ := bnd_e hF_19
        clear hF_19
        have hP : va_P (dC, dI) vwCl (b_g cB cC cI cJ cZ oA rA σ_20 ++ b_w cB cC cI cJ cZ oA rA σ_20 ++ b_c cB cC cI cJ cZ oA rA σ_20) H := by rw [eσ_20]; exact bx_P (bs := [b_g cB cC cI cJ cZ oA rA u_16.2, b_w cB cC cI cJ cZ oA rA u_16.2] ++ [b_c cB cC cI cJ cZ oA rA u_18.2]) (bs' := [b_g cB cC cI cJ cZ oA rA (mrg (fun j => j == 5) u_16.2 u_18.2), b_w cB cC cI cJ cZ oA rA (mrg (fun j => j == 5) u_16.2 u_18.2), b_c cB cC cI cJ cZ oA rA (mrg (fun j => j == 5) u_16.2 u_18.2)]) hP' (fl_a fl_2 fl_1) fl_3 [0, 1, 2] rfl
        clear hP' hD'
        refine lv_pop hx hb dX2_primary_177 rfl ?_
        refine lv_goto (tgt := 303) hx hb dX2_primary_178 (by decide) ?_
        have h9 := Option.some.inj hF_21
        subst h9
        exact W.vret hx hb hr (fun t ht hW => ⟨⟨(), rfl, trivial, m_end ht hP, hDD _⟩, hS.F ht⟩) hS.2.2 dX2_primary_303
    · have hF_10 := ipos c_9 hF_8
      clear hF_8
      refine lv_aload_n hx hb dX2_primary_146 rfl (lv_at hl 2 rfl) ?_
      refine lv_iload_n hx hb dX2_primary_147 rfl (lv_at hl 0 rfl) ?_
      obtain ⟨u_11, hu_11, hF_12⟩ := Option.bind_eq_some_iff.mp hF_10
      clear hF_10
      have hPc := bx_P (bs := [b_g cB cC cI cJ cZ oA rA u_7.2, b_w cB cC cI cJ cZ oA rA u_7.2, b_c cB cC cI cJ cZ oA rA u_7.2]) (bs' := [b_g cB cC cI cJ cZ oA rA u_7.2, b_w cB cC cI cJ cZ oA rA u_7.2, b_c cB cC cI cJ cZ oA rA u_7.2]) (ws' := (b_g cB cC cI cJ cZ oA rA u_7.2 ++ b_w cB cC cI cJ cZ oA rA u_7.2 ++ b_c cB cC cI cJ cZ oA rA u_7.2)) hP fl_3 fl_3 [0, 1, 2] rfl
      have hDc := bx_D (bs := [b_g cB cC cI cJ cZ oA rA u_7.2, b_w cB cC cI cJ cZ oA rA u_7.2, b_c cB cC cI cJ cZ oA rA u_7.2]) (bs' := [b_g cB cC cI cJ cZ oA rA u_7.2, b_w cB cC cI cJ cZ oA rA u_7.2, b_c cB cC cI cJ cZ oA rA u_7.2]) (ws' := (b_g cB cC cI cJ cZ oA rA u_7.2 ++ b_w cB cC cI cJ cZ oA rA u_7.2 ++ b_c cB cC cI cJ cZ oA rA u_7.2)) (hDD u_7.2) fl_3 fl_3 [0, 1, 2] (by decide +kernel) rfl
      have hFc := bx_F (bs := [b_g cB cC cI cJ cZ oA rA u_7.2, b_w cB cC cI cJ cZ oA rA u_7.2, b_c cB cC cI cJ cZ oA rA u_7.2]) (bs' := [b_g cB cC cI cJ cZ oA rA u_7.2, b_w cB cC cI cJ cZ oA rA u_7.2, b_c cB cC cI cJ cZ oA rA u_7.2]) (wc := (b_g cB cC cI cJ cZ oA rA u_7.2 ++ b_w cB cC cI cJ cZ oA rA u_7.2 ++ b_c cB cC cI cJ cZ oA rA u_7.2)) (hDD u_7.2) hS hA fl_3 fl_3 [0, 1, 2] rfl
      refine g_ofv (wc := (b_g cB cC cI cJ cZ oA rA u_7.2 ++ b_w cB cC cI cJ cZ oA rA u_7.2 ++ b_c cB cC cI cJ cZ oA rA u_7.2)) (wr := ([] : va_W)) hP (hDD u_7.2) hS hFc (bx_ix [b_g cB cC cI cJ cZ oA rA u_7.2, b_w cB cC cI cJ cZ oA rA u_7.2, b_c cB cC cI cJ cZ oA rA u_7.2] [0, 1, 2]) (bx_ix [b_g cB cC cI cJ cZ oA rA u_7.2, b_w cB cC cI cJ cZ oA rA u_7.2, b_c cB cC cI cJ cZ oA rA u_7.2] []) (bx_C (bs := [b_g cB cC cI cJ cZ oA rA u_7.2, b_w cB cC cI cJ cZ oA rA u_7.2, b_c cB cC cI cJ cZ oA rA u_7.2]) (bs' := [b_g cB cC cI cJ cZ oA rA u_7.2, b_w cB cC cI cJ cZ oA rA u_7.2, b_c cB cC cI cJ cZ oA rA u_7.2]) (is := [0, 1, 2]) fl_3 fl_3 rfl) (bx_C (bs := [b_g cB cC cI cJ cZ oA rA u_7.2, b_w cB cC cI cJ cZ oA rA u_7.2, b_c cB cC cI cJ cZ oA rA u_7.2]) (bs' := []) (is := []) fl_3 fl_0 rfl) (bx_n (by decide +kernel)) (bx_d (by decide +kernel)) (va_runV (As := [.int x_3]) (rest := []) ⟨hx, hb, hml, hown, hts⟩ (hI7 H.size x_3 u_7.2 _ hu_11) (cwV 1 hts (g_gV wq_660 wq_661 wq_2023 wq_3 wq_662) rfl rfl rfl (by decide +kernel) ⟨by show 4 + d + 1 ≤ 4 + (d + 1); omega, by show 8 + (3 + 11) + (102 + 22 * d) ≤ 102 + 22 * (d + 1); omega⟩) (g_preV g_bl0 hK hPc hDc hS hE hFc g_to0 (q0 := 0) (ci := 2) rfl rfl) rfl rfl hl.1 rfl (lv_room (Nat.le_of_ble_eq_true rfl)) dX2_primary_148 ⟨Nat.le_of_ble_eq_true rfl, Nat.le_of_ble_eq_true rfl⟩) (fun u9 H locs hw9 hP' hD' hS => ?_)
      clear hPc hDc hFc
      have hP : va_P (dC, dI) vwCl (b_g cB cC cI cJ cZ oA rA u_11.2 ++ b_w cB cC cI cJ cZ oA rA u_11.2 ++ b_c cB cC cI cJ cZ oA rA u_11.2) H := hP'
      clear hP' hD'
      refine lv_goto (tgt := 303) hx hb dX2_primary_151 (by decide) ?_
      have h9 := Option.some.inj hF_12
      subst h9
      exact W.vret hx hb hr (fun t ht hW => ⟨⟨(), rfl, trivial, m_end ht hP, hDD _⟩, hS.F ht⟩) hS.2.2 dX2_primary_303
  have hF_27 := ineg c_5 hF_4
  clear hF_4
  by_cases c_28 : x_1 = 3
  · have hF_29 := ipos c_28 hF_27
    clear hF_27
    refine lv_lookup (off := 97) (tgt := 108) hx hb dX2_primary_11 (by decide +kernel) (by rw [c_28]; decide +kernel) (by decide) ?_
    refine lv_aload_n hx hb dX2_primary_108 rfl (lv_at hl 2 rfl) ?_
    obtain ⟨u_30, hu_30, hF_31⟩ := Option.bind_eq_some_iff.mp hF_29
    clear hF_29
    have hPc := bx_P (bs := [b_g cB cC cI cJ cZ oA rA Γ, b_w cB cC cI cJ cZ oA rA Γ, b_c cB cC cI cJ cZ oA rA Γ]) (bs' := [b_g cB cC cI cJ cZ oA rA Γ, b_w cB cC cI cJ cZ oA rA Γ, b_c cB cC cI cJ cZ oA rA Γ]) (ws' := (b_g cB cC cI cJ cZ oA rA Γ ++ b_w cB cC cI cJ cZ oA rA Γ ++ b_c cB cC cI cJ cZ oA rA Γ)) hP fl_3 fl_3 [0, 1, 2] rfl
    have hDc := bx_D (bs := [b_g cB cC cI cJ cZ oA rA Γ, b_w cB cC cI cJ cZ oA rA Γ, b_c cB cC cI cJ cZ oA rA Γ]) (bs' := [b_g cB cC cI cJ cZ oA rA Γ, b_w cB cC cI cJ cZ oA rA Γ, b_c cB cC cI cJ cZ oA rA Γ]) (ws' := (b_g cB cC cI cJ cZ oA rA Γ ++ b_w cB cC cI cJ cZ oA rA Γ ++ b_c cB cC cI cJ cZ oA rA Γ)) (hDD Γ) fl_3 fl_3 [0, 1, 2] (by decide +kernel) rfl
    have hFc := bx_F (bs := [b_g cB cC cI cJ cZ oA rA Γ, b_w cB cC cI cJ cZ oA rA Γ, b_c cB cC cI cJ cZ oA rA Γ]) (bs' := [b_g cB cC cI cJ cZ oA rA Γ, b_w cB cC cI cJ cZ oA rA Γ, b_c cB cC cI cJ cZ oA rA Γ]) (wc := (b_g cB cC cI cJ cZ oA rA Γ ++ b_w cB cC cI cJ cZ oA rA Γ ++ b_c cB cC cI cJ cZ oA rA Γ)) (hDD Γ) hS hA fl_3 fl_3 [0, 1, 2] rfl
    refine g_ofv (wc := (b_g cB cC cI cJ cZ oA rA Γ ++ b_w cB cC cI cJ cZ oA rA Γ ++ b_c cB cC cI cJ cZ oA rA Γ)) (wr := ([] : va_W)) hP (hDD Γ) hS hFc (bx_ix [b_g cB cC cI cJ cZ oA rA Γ, b_w cB cC cI cJ cZ oA rA Γ, b_c cB cC cI cJ cZ oA rA Γ] [0, 1, 2]) (bx_ix [b_g cB cC cI cJ cZ oA rA Γ, b_w cB cC cI cJ cZ oA rA Γ, b_c cB cC cI cJ cZ oA rA Γ] []) (bx_C (bs := [b_g cB cC cI cJ cZ oA rA Γ, b_w cB cC cI cJ cZ oA rA Γ, b_c cB cC cI cJ cZ oA rA Γ]) (bs' := [b_g cB cC cI cJ cZ oA rA Γ, b_w cB cC cI cJ cZ oA rA Γ, b_c cB cC cI cJ cZ oA rA Γ]) (is := [0, 1, 2]) fl_3 fl_3 rfl) (bx_C (bs := [b_g cB cC cI cJ cZ oA rA Γ, b_w cB cC cI cJ cZ oA rA Γ, b_c cB cC cI cJ cZ oA rA Γ]) (bs' := []) (is := []) fl_3 fl_0 rfl) (bx_n (by decide +kernel)) (bx_d (by decide +kernel)) (va_runV (As := []) (rest := []) ⟨hx, hb, hml, hown, hts⟩ (k_X2_pass l dC dI cB cC cI cJ cZ cP oA rA s.heap.size  Γ _ hu_30) (cwV 0 hts (g_gV wq_555 wq_556 wq_1997 wq_3 wq_557) rfl rfl rfl (by decide +kernel) ⟨by show 1 + 1 ≤ 4 + (d + 1); omega, by show 8 + (1 + 11) + 40 ≤ 102 + 22 * (d + 1); omega⟩) (g_preV g_bl0 hK hPc hDc hS hE hFc g_to0 (q0 := 0) (ci := 2) rfl rfl) rfl rfl hl.1 rfl (lv_room (Nat.le_of_ble_eq_true rfl)) dX2_primary_109 ⟨Nat.le_of_ble_eq_true rfl, Nat.le_of_ble_eq_true rfl⟩) (fun u9 H locs hw9 hP' hD' hS => ?_)
    clear hPc hDc hFc
    have hP : va_P (dC, dI) vwCl (b_g cB cC cI cJ cZ oA rA u_30.2 ++ b_w cB cC cI cJ cZ oA rA u_30.2 ++ b_c cB cC cI cJ cZ oA rA u_30.2) H := hP'
    clear hP' hD'
    refine lv_aload_n hx hb dX2_primary_112 rfl (lv_at hl 2 rfl) ?_
    refine va_get (D := (dC, dI)) (ci := 2) (v := .ref (oA 5)) (C := RX2) (T := TX2) (N := 8) hx hb hts ii_X2 hown hK hP 0 rfl rfl 1 (by decide) (hts (.fieldLink RX2 15 "StoryHouse$Grammar" "code" "LStoryHouse$Code;") wq_72) (fun _ h9 => h9) rfl dX2_primary_113 ?_
    refine lv_bipush (v := 33) hx hb dX2_primary_116 (by decide +kernel) ?_
    refine lv_aload_n hx hb dX2_primary_118 rfl (lv_at hl 2 rfl) ?_
    refine va_get (D := (dC, dI)) (ci := 2) (v := .ref (oA 1)) (C := RX2) (T := TX2) (N := 8) hx hb hts ii_X2 hown hK hP 0 rfl rfl 0 (by decide) (hts (.fieldLink RX2 9 "StoryHouse$Grammar" "words" "LStoryHouse$Words;") wq_71) (fun _ h9 => h9) rfl dX2_primary_119 ?_
    refine lv_iload_n hx hb dX2_primary_122 rfl (lv_at hl 0 rfl) ?_
    obtain ⟨u_32, hu_32, hF_33⟩ := Option.bind_eq_some_iff.mp hF_31
    clear hF_31
    have hPc := bx_P (bs := [b_g cB cC cI cJ cZ oA rA u_30.2, b_w cB cC cI cJ cZ oA rA u_30.2, b_c cB cC cI cJ cZ oA rA u_30.2]) (bs' := [b_w cB cC cI cJ cZ oA rA u_30.2]) (ws' := (b_w cB cC cI cJ cZ oA rA u_30.2)) hP fl_3 fl_1 [1] rfl
    have hDc := bx_D (bs := [b_g cB cC cI cJ cZ oA rA u_30.2, b_w cB cC cI cJ cZ oA rA u_30.2, b_c cB cC cI cJ cZ oA rA u_30.2]) (bs' := [b_w cB cC cI cJ cZ oA rA u_30.2]) (ws' := (b_w cB cC cI cJ cZ oA rA u_30.2)) (hDD u_30.2) fl_3 fl_1 [1] (by decide +kernel) rfl
    have hFc := bx_F (bs := [b_g cB cC cI cJ cZ oA rA u_30.2, b_w cB cC cI cJ cZ oA rA u_30.2, b_c cB cC cI cJ cZ oA rA u_30.2]) (bs' := [b_w cB cC cI cJ cZ oA rA u_30.2]) (wc := (b_w cB cC cI cJ cZ oA rA u_30.2)) (hDD u_30.2) hS hA fl_3 fl_1 [1] rfl
    refine g_ofi (wc := (b_w cB cC cI cJ cZ oA rA u_30.2)) (wr := (b_g cB cC cI cJ cZ oA rA u_30.2 ++ b_c cB cC cI cJ cZ oA rA u_30.2)) hP (hDD u_30.2) hS hFc (bx_ix [b_g cB cC cI cJ cZ oA rA u_30.2, b_w cB cC cI cJ cZ oA rA u_30.2, b_c cB cC cI cJ cZ oA rA u_30.2] [1]) (bx_ix [b_g cB cC cI cJ cZ oA rA u_30.2, b_w cB cC cI cJ cZ oA rA u_30.2, b_c cB cC cI cJ cZ oA rA u_30.2] [0, 2]) (bx_C (bs := [b_g cB cC cI cJ cZ oA rA u_30.2, b_w cB cC cI cJ cZ oA rA u_30.2, b_c cB cC cI cJ cZ oA rA u_30.2]) (bs' := [b_w cB cC cI cJ cZ oA rA u_30.2]) (is := [1]) fl_3 fl_1 rfl) (bx_C (bs := [b_g cB cC cI cJ cZ oA rA u_30.2, b_w cB cC cI cJ cZ oA rA u_30.2, b_c cB cC cI cJ cZ oA rA u_30.2]) (bs' := [b_g cB cC cI cJ cZ oA rA u_30.2, b_c cB cC cI cJ cZ oA rA u_30.2]) (is := [0, 2]) fl_3 fl_2 rfl) (bx_n (by decide +kernel)) (bx_d (by decide +kernel)) (va_runV (As := [.int x_3]) (rest := [.int 33, .ref (oA 5)]) ⟨hx, hb, hml, hown, hts⟩ (k_X10_worthOf l dC dI cB cC cI cJ cZ cP oA rA H.size  x_3 u_30.2 _ hu_32) (cwV 1 hts (g_gV wq_652 wq_653 wq_654 wq_2 wq_655) rfl rfl rfl (by decide +kernel) ⟨by show 3 + 1 ≤ 4 + (d + 1); omega, by show 8 + (2 + 11) + 81 ≤ 102 + 22 * (d + 1); omega⟩) (g_preV g_bl0 hK hPc hDc hS hE hFc g_to0 (q0 := 0) (ci := 10) rfl rfl) rfl rfl hl.1 rfl (lv_room (Nat.le_of_ble_eq_true rfl)) dX2_primary_123 ⟨Nat.le_of_ble_eq_true rfl, Nat.le_of_ble_eq_true rfl⟩) (fun r9 u9 H locs hw9 hP' hD' hS => ?_)
    clear hPc hDc hFc
    subst hw9
    obtain ⟨σ_34, eσ_34, hF_35⟩ := bnd_e hF_33
    clear hF_33
    have hP : va_P (dC, dI) vwCl (b_g cB cC cI cJ cZ oA rA σ_34 ++ b_w cB cC cI cJ cZ oA rA σ_34 ++ b_c cB cC cI cJ cZ oA rA σ_34) H := by rw [eσ_34]; exact bx_P (bs := [b_g cB cC cI cJ cZ oA rA u_30.2, b_c cB cC cI cJ cZ oA rA u_30.2] ++ [b_w cB cC cI cJ cZ oA rA u_32.2]) (bs' := [b_g cB cC cI cJ cZ oA rA (mrg (fun j => j == 1) u_30.2 u_32.2), b_w cB cC cI cJ cZ oA rA (mrg (fun j => j == 1) u_30.2 u_32.2), b_c cB cC cI cJ cZ oA rA (mrg (fun j => j == 1) u_30.2 u_32.2)]) hP' (fl_a fl_2 fl_1) fl_3 [0, 2, 1] rfl
    clear hP' hD'
    obtain ⟨u_36, hu_36, hF_37⟩ := Option.bind_eq_some_iff.mp hF_35
    clear hF_35
    have hPc := bx_P (bs := [b_g cB cC cI cJ cZ oA rA σ_34, b_w cB cC cI cJ cZ oA rA σ_34, b_c cB cC cI cJ cZ oA rA σ_34]) (bs' := [b_c cB cC cI cJ cZ oA rA σ_34]) (ws' := (b_c cB cC cI cJ cZ oA rA σ_34)) hP fl_3 fl_1 [2] rfl
    have hDc := bx_D (bs := [b_g cB cC cI cJ cZ oA rA σ_34, b_w cB cC cI cJ cZ oA rA σ_34, b_c cB cC cI cJ cZ oA rA σ_34]) (bs' := [b_c cB cC cI cJ cZ oA rA σ_34]) (ws' := (b_c cB cC cI cJ cZ oA rA σ_34)) (hDD σ_34) fl_3 fl_1 [2] (by decide +kernel) rfl
    have hFc := bx_F (bs := [b_g cB cC cI cJ cZ oA rA σ_34, b_w cB cC cI cJ cZ oA rA σ_34, b_c cB cC cI cJ cZ oA rA σ_34]) (bs' := [b_c cB cC cI cJ cZ oA rA σ_34]) (wc := (b_c cB cC cI cJ cZ oA rA σ_34)) (hDD σ_34) hS hA fl_3 fl_1 [2] rfl
    refine g_ofi (wc := (b_c cB cC cI cJ cZ oA rA σ_34)) (wr := (b_g cB cC cI cJ cZ oA rA σ_34 ++ b_w cB cC cI cJ cZ oA rA σ_34)) hP (hDD σ_34) hS hFc (bx_ix [b_g cB cC cI cJ cZ oA rA σ_34, b_w cB cC cI cJ cZ oA rA σ_34, b_c cB cC cI cJ cZ oA rA σ_34] [2]) (bx_ix [b_g cB cC cI cJ cZ oA rA σ_34, b_w cB cC cI cJ cZ oA rA σ_34, b_c cB cC cI cJ cZ oA rA σ_34] [0, 1]) (bx_C (bs := [b_g cB cC cI cJ cZ oA rA σ_34, b_w cB cC cI cJ cZ oA rA σ_34, b_c cB cC cI cJ cZ oA rA σ_34]) (bs' := [b_c cB cC cI cJ cZ oA rA σ_34]) (is := [2]) fl_3 fl_1 rfl) (bx_C (bs := [b_g cB cC cI cJ cZ oA rA σ_34, b_w cB cC cI cJ cZ oA rA σ_34, b_c cB cC cI cJ cZ oA rA σ_34]) (bs' := [b_g cB cC cI cJ cZ oA rA σ_34, b_w cB cC cI cJ cZ oA rA σ_34]) (is := [0, 1]) fl_3 fl_2 rfl) (bx_n (by decide +kernel)) (bx_d (by decide +kernel)) (va_runV (As := [.int 33, .int u_32.1]) (rest := []) ⟨hx, hb, hml, hown, hts⟩ (k_X0_add_ l dC dI cB cC cI cJ cZ cP oA rA H.size  33 u_32.1 σ_34 _ hu_36) (cwV 2 hts (g_gV wq_656 wq_657 wq_658 wq_6 wq_659) rfl rfl rfl (by decide +kernel) ⟨by show 1 + 1 ≤ 4 + (d + 1); omega, by show 8 + (3 + 11) + 40 ≤ 102 + 22 * (d + 1); omega⟩) (g_preV g_bl0 hK hPc hDc hS hE hFc g_to0 (q0 := 0) (ci := 0) rfl rfl) rfl rfl hl.1 rfl (lv_room (Nat.le_of_ble_eq_true rfl)) dX2_primary_126 ⟨Nat.le_of_ble_eq_true rfl, Nat.le_of_ble_eq_true rfl⟩) (fun r9 u9 H locs hw9 hP' hD' hS => ?_)
    clear hPc hDc hFc
    subst hw9
    obtain ⟨σ_38, eσ_38, hF_39⟩ := bnd_e hF_37
    clear hF_37
    have hP : va_P (dC, dI) vwCl (b_g cB cC cI cJ cZ oA rA σ_38 ++ b_w cB cC cI cJ cZ oA rA σ_38 ++ b_c cB cC cI cJ cZ oA rA σ_38) H := by rw [eσ_38]; exact bx_P (bs := [b_g cB cC cI cJ cZ oA rA σ_34, b_w cB cC cI cJ cZ oA rA σ_34] ++ [b_c cB cC cI cJ cZ oA rA u_36.2]) (bs' := [b_g cB cC cI cJ cZ oA rA (mrg (fun j => j == 5) σ_34 u_36.2), b_w cB cC cI cJ cZ oA rA (mrg (fun j => j == 5) σ_34 u_36.2), b_c cB cC cI cJ cZ oA rA (mrg (fun j => j == 5) σ_34 u_36.2)]) hP' (fl_a fl_2 fl_1) fl_3 [0, 1, 2] rfl
    clear hP' hD'
    refine lv_pop hx hb dX2_primary_129 rfl ?_
    refine lv_goto (tgt := 303) hx hb dX2_primary_130 (by decide) ?_
    have h9 := Option.some.inj hF_39
    subst h9
    exact W.vret hx hb hr (fun t ht hW => ⟨⟨(), rfl, trivial, m_end ht hP, hDD _⟩, hS.F ht⟩) hS.2.2 dX2_primary_303
  have hF_40 := ineg c_28 hF_27
  clear hF_27
  by_cases c_41 : x_1 = 40
  · have hF_42 := ipos c_41 hF_40
    clear hF_40
    refine lv_lookup (off := 184) (tgt := 195) hx hb dX2_primary_11 (by decide +kernel) (by rw [c_41]; decide +kernel) (by decide) ?_
    refine lv_aload_n hx hb dX2_primary_195 rfl (lv_at hl 2 rfl) ?_
    obtain ⟨u_43, hu_43, hF_44⟩ := Option.bind_eq_some_iff.mp hF_42
    clear hF_42
    have hPc := bx_P (bs := [b_g cB cC cI cJ cZ oA rA Γ, b_w cB cC cI cJ cZ oA rA Γ, b_c cB cC cI cJ cZ oA rA Γ]) (bs' := [b_g cB cC cI cJ cZ oA rA Γ, b_w cB cC cI cJ cZ oA rA Γ, b_c cB cC cI cJ cZ oA rA Γ]) (ws' := (b_g cB cC cI cJ cZ oA rA Γ ++ b_w cB cC cI cJ cZ oA rA Γ ++ b_c cB cC cI cJ cZ oA rA Γ)) hP fl_3 fl_3 [0, 1, 2] rfl
    have hDc := bx_D (bs := [b_g cB cC cI cJ cZ oA rA Γ, b_w cB cC cI cJ cZ oA rA Γ, b_c cB cC cI cJ cZ oA rA Γ]) (bs' := [b_g cB cC cI cJ cZ oA rA Γ, b_w cB cC cI cJ cZ oA rA Γ, b_c cB cC cI cJ cZ oA rA Γ]) (ws' := (b_g cB cC cI cJ cZ oA rA Γ ++ b_w cB cC cI cJ cZ oA rA Γ ++ b_c cB cC cI cJ cZ oA rA Γ)) (hDD Γ) fl_3 fl_3 [0, 1, 2] (by decide +kernel) rfl
    have hFc := bx_F (bs := [b_g cB cC cI cJ cZ oA rA Γ, b_w cB cC cI cJ cZ oA rA Γ, b_c cB cC cI cJ cZ oA rA Γ]) (bs' := [b_g cB cC cI cJ cZ oA rA Γ, b_w cB cC cI cJ cZ oA rA Γ, b_c cB cC cI cJ cZ oA rA Γ]) (wc := (b_g cB cC cI cJ cZ oA rA Γ ++ b_w cB cC cI cJ cZ oA rA Γ ++ b_c cB cC cI cJ cZ oA rA Γ)) (hDD Γ) hS hA fl_3 fl_3 [0, 1, 2] rfl
    refine g_ofv (wc := (b_g cB cC cI cJ cZ oA rA Γ ++ b_w cB cC cI cJ cZ oA rA Γ ++ b_c cB cC cI cJ cZ oA rA Γ)) (wr := ([] : va_W)) hP (hDD Γ) hS hFc (bx_ix [b_g cB cC cI cJ cZ oA rA Γ, b_w cB cC cI cJ cZ oA rA Γ, b_c cB cC cI cJ cZ oA rA Γ] [0, 1, 2]) (bx_ix [b_g cB cC cI cJ cZ oA rA Γ, b_w cB cC cI cJ cZ oA rA Γ, b_c cB cC cI cJ cZ oA rA Γ] []) (bx_C (bs := [b_g cB cC cI cJ cZ oA rA Γ, b_w cB cC cI cJ cZ oA rA Γ, b_c cB cC cI cJ cZ oA rA Γ]) (bs' := [b_g cB cC cI cJ cZ oA rA Γ, b_w cB cC cI cJ cZ oA rA Γ, b_c cB cC cI cJ cZ oA rA Γ]) (is := [0, 1, 2]) fl_3 fl_3 rfl) (bx_C (bs := [b_g cB cC cI cJ cZ oA rA Γ, b_w cB cC cI cJ cZ oA rA Γ, b_c cB cC cI cJ cZ oA rA Γ]) (bs' := []) (is := []) fl_3 fl_0 rfl) (bx_n (by decide +kernel)) (bx_d (by decide +kernel)) (va_runV (As := []) (rest := []) ⟨hx, hb, hml, hown, hts⟩ (k_X2_deepen l dC dI cB cC cI cJ cZ cP oA rA s.heap.size  Γ _ hu_43) (cwV 0 hts (g_gV wq_570 wq_571 wq_2002 wq_3 wq_572) rfl rfl rfl (by decide +kernel) ⟨by show 2 + 1 ≤ 4 + (d + 1); omega, by show 8 + (1 + 11) + 61 ≤ 102 + 22 * (d + 1); omega⟩) (g_preV g_bl0 hK hPc hDc hS hE hFc g_to0 (q0 := 0) (ci := 2) rfl rfl) rfl rfl hl.1 rfl (lv_room (Nat.le_of_ble_eq_true rfl)) dX2_primary_196 ⟨Nat.le_of_ble_eq_true rfl, Nat.le_of_ble_eq_true rfl⟩) (fun u9 H locs hw9 hP' hD' hS => ?_)
    clear hPc hDc hFc
    have hP : va_P (dC, dI) vwCl (b_g cB cC cI cJ cZ oA rA u_43.2 ++ b_w cB cC cI cJ cZ oA rA u_43.2 ++ b_c cB cC cI cJ cZ oA rA u_43.2) H := hP'
    clear hP' hD'
    refine lv_aload_n hx hb dX2_primary_199 rfl (lv_at hl 2 rfl) ?_
    obtain ⟨u_45, hu_45, hF_46⟩ := Option.bind_eq_some_iff.mp hF_44
    clear hF_44
    have hPc := bx_P (bs := [b_g cB cC cI cJ cZ oA rA u_43.2, b_w cB cC cI cJ cZ oA rA u_43.2, b_c cB cC cI cJ cZ oA rA u_43.2]) (bs' := [b_g cB cC cI cJ cZ oA rA u_43.2, b_w cB cC cI cJ cZ oA rA u_43.2, b_c cB cC cI cJ cZ oA rA u_43.2]) (ws' := (b_g cB cC cI cJ cZ oA rA u_43.2 ++ b_w cB cC cI cJ cZ oA rA u_43.2 ++ b_c cB cC cI cJ cZ oA rA u_43.2)) hP fl_3 fl_3 [0, 1, 2] rfl
    have hDc := bx_D (bs := [b_g cB cC cI cJ cZ oA rA u_43.2, b_w cB cC cI cJ cZ oA rA u_43.2, b_c cB cC cI cJ cZ oA rA u_43.2]) (bs' := [b_g cB cC cI cJ cZ oA rA u_43.2, b_w cB cC cI cJ cZ oA rA u_43.2, b_c cB cC cI cJ cZ oA rA u_43.2]) (ws' := (b_g cB cC cI cJ cZ oA rA u_43.2 ++ b_w cB cC cI cJ cZ oA rA u_43.2 ++ b_c cB cC cI cJ cZ oA rA u_43.2)) (hDD u_43.2) fl_3 fl_3 [0, 1, 2] (by decide +kernel) rfl
    have hFc := bx_F (bs := [b_g cB cC cI cJ cZ oA rA u_43.2, b_w cB cC cI cJ cZ oA rA u_43.2, b_c cB cC cI cJ cZ oA rA u_43.2]) (bs' := [b_g cB cC cI cJ cZ oA rA u_43.2, b_w cB cC cI cJ cZ oA rA u_43.2, b_c cB cC cI cJ cZ oA rA u_43.2]) (wc := (b_g cB cC cI cJ cZ oA rA u_43.2 ++ b_w cB cC cI cJ cZ oA rA u_43.2 ++ b_c cB cC cI cJ cZ oA rA u_43.2)) (hDD u_43.2) hS hA fl_3 fl_3 [0, 1, 2] rfl
    refine g_ofv (wc := (b_g cB cC cI cJ cZ oA rA u_43.2 ++ b_w cB cC cI cJ cZ oA rA u_43.2 ++ b_c cB cC cI cJ cZ oA rA u_43.2)) (wr := ([] : va_W)) hP (hDD u_43.2) hS hFc (bx_ix [b_g cB cC cI cJ cZ oA rA u_43.2, b_w cB cC cI cJ cZ oA rA u_43.2, b_c cB cC cI cJ cZ oA rA u_43.2] [0, 1, 2]) (bx_ix [b_g cB cC cI cJ cZ oA rA u_43.2, b_w cB cC cI cJ cZ oA rA u_43.2, b_c cB cC cI cJ cZ oA rA u_43.2] []) (bx_C (bs := [b_g cB cC cI cJ cZ oA rA u_43.2, b_w cB cC cI cJ cZ oA rA u_43.2, b_c cB cC cI cJ cZ oA rA u_43.2]) (bs' := [b_g cB cC cI cJ cZ oA rA u_43.2, b_w cB cC cI cJ cZ oA rA u_43.2, b_c cB cC cI cJ cZ oA rA u_43.2]) (is := [0, 1, 2]) fl_3 fl_3 rfl) (bx_C (bs := [b_g cB cC cI cJ cZ oA rA u_43.2, b_w cB cC cI cJ cZ oA rA u_43.2, b_c cB cC cI cJ cZ oA rA u_43.2]) (bs' := []) (is := []) fl_3 fl_0 rfl) (bx_n (by decide +kernel)) (bx_d (by decide +kernel)) (va_runV (As := []) (rest := []) ⟨hx, hb, hml, hown, hts⟩ (hI0 H.size u_43.2 _ hu_45) (cwV 0 hts (g_gV wq_627 wq_628 wq_2016 wq_3 wq_629) rfl rfl rfl (by decide +kernel) ⟨by show 4 + d + 1 ≤ 4 + (d + 1); omega, by show 8 + (3 + 11) + (102 + 22 * d) ≤ 102 + 22 * (d + 1); omega⟩) (g_preV g_bl0 hK hPc hDc hS hE hFc g_to0 (q0 := 0) (ci := 2) rfl rfl) rfl rfl hl.1 rfl (lv_room (Nat.le_of_ble_eq_true rfl)) dX2_primary_200 ⟨Nat.le_of_ble_eq_true rfl, Nat.le_of_ble_eq_true rfl⟩) (fun u9 H locs hw9 hP' hD' hS => ?_)
    clear hPc hDc hFc
    have hP : va_P (dC, dI) vwCl (b_g cB cC cI cJ cZ oA rA u_45.2 ++ b_w cB cC cI cJ cZ oA rA u_45.2 ++ b_c cB cC cI cJ cZ oA rA u_45.2) H := hP'
    clear hP' hD'
    refine lv_aload_n hx hb dX2_primary_203 rfl (lv_at hl 2 rfl) ?_
    refine lv_dup hx hb dX2_primary_204 rfl ?_
    refine va_get (D := (dC, dI)) (ci := 2) (v := .int ((u_45.2 2).1 4)) (C := RX2) (T := TX2) (N := 8) hx hb hts ii_X2 hown hK hP 0 rfl rfl 4 (by decide) (hts (.fieldLink RX2 32 "StoryHouse$Grammar" "nest" "I") wq_75) (fun _ h9 => h9) rfl dX2_primary_205 ?_
    refine lv_iconst (v := 1) hx hb dX2_primary_208 (by decide +kernel) ?_
    refine lv_isub hx hb dX2_primary_209 ?_
    obtain ⟨σ_47, eσ_47, hF_48⟩ := bnd_e hF_46
    clear hF_46
    refine va_put (D := (dC, dI)) (ci := 2) (v := .int (((u_45.2 2).1 4) - 1)) (ty := .int) (C := RX2) (T := TX2) (N := 8) hx hb hts ii_X2 tyX2 tyX2_ok nmX2 hown hK hP (hDD _) hS 0 rfl rfl 4 (by decide) (hts (.fieldLink RX2 32 "StoryHouse$Grammar" "nest" "I") wq_75) (fun _ h9 => h9) rfl (by decide +kernel) rfl rfl (Nat.le_of_ble_eq_true rfl) dX2_primary_210 (fun H locs hP' _ hS => ?_)
    have hP : va_P (dC, dI) vwCl (b_g cB cC cI cJ cZ oA rA σ_47 ++ b_w cB cC cI cJ cZ oA rA σ_47 ++ b_c cB cC cI cJ cZ oA rA σ_47) H := by rw [eσ_47]; exact cs_gwc_g_4 ▸ hP'
    clear hP'
    refine lv_aload_n hx hb dX2_primary_213 rfl (lv_at hl 2 rfl) ?_
    refine lv_bipush (v := 41) hx hb dX2_primary_214 (by decide +kernel) ?_
    obtain ⟨u_49, hu_49, hF_50⟩ := Option.bind_eq_some_iff.mp hF_48
    clear hF_48
    have hPc := bx_P (bs := [b_g cB cC cI cJ cZ oA rA σ_47, b_w cB cC cI cJ cZ oA rA σ_47, b_c cB cC cI cJ cZ oA rA σ_47]) (bs' := [b_g cB cC cI cJ cZ oA rA σ_47, b_w cB cC cI cJ cZ oA rA σ_47, b_c cB cC cI cJ cZ oA rA σ_47]) (ws' := (b_g cB cC cI cJ cZ oA rA σ_47 ++ b_w cB cC cI cJ cZ oA rA σ_47 ++ b_c cB cC cI cJ cZ oA rA σ_47)) hP fl_3 fl_3 [0, 1, 2] rfl
    have hDc := bx_D (bs := [b_g cB cC cI cJ cZ oA rA σ_47, b_w cB cC cI cJ cZ oA rA σ_47, b_c cB cC cI cJ cZ oA rA σ_47]) (bs' := [b_g cB cC cI cJ cZ oA rA σ_47, b_w cB cC cI cJ cZ oA rA σ_47, b_c cB cC cI cJ cZ oA rA σ_47]) (ws' := (b_g cB cC cI cJ cZ oA rA σ_47 ++ b_w cB cC cI cJ cZ oA rA σ_47 ++ b_c cB cC cI cJ cZ oA rA σ_47)) (hDD σ_47) fl_3 fl_3 [0, 1, 2] (by decide +kernel) rfl
    have hFc := bx_F (bs := [b_g cB cC cI cJ cZ oA rA σ_47, b_w cB cC cI cJ cZ oA rA σ_47, b_c cB cC cI cJ cZ oA rA σ_47]) (bs' := [b_g cB cC cI cJ cZ oA rA σ_47, b_w cB cC cI cJ cZ oA rA σ_47, b_c cB cC cI cJ cZ oA rA σ_47]) (wc := (b_g cB cC cI cJ cZ oA rA σ_47 ++ b_w cB cC cI cJ cZ oA rA σ_47 ++ b_c cB cC cI cJ cZ oA rA σ_47)) (hDD σ_47) hS hA fl_3 fl_3 [0, 1, 2] rfl
    refine g_ofv (wc := (b_g cB cC cI cJ cZ oA rA σ_47 ++ b_w cB cC cI cJ cZ oA rA σ_47 ++ b_c cB cC cI cJ cZ oA rA σ_47)) (wr := ([] : va_W)) hP (hDD σ_47) hS hFc (bx_ix [b_g cB cC cI cJ cZ oA rA σ_47, b_w cB cC cI cJ cZ oA rA σ_47, b_c cB cC cI cJ cZ oA rA σ_47] [0, 1, 2]) (bx_ix [b_g cB cC cI cJ cZ oA rA σ_47, b_w cB cC cI cJ cZ oA rA σ_47, b_c cB cC cI cJ cZ oA rA σ_47] []) (bx_C (bs := [b_g cB cC cI cJ cZ oA rA σ_47, b_w cB cC cI cJ cZ oA rA σ_47, b_c cB cC cI cJ cZ oA rA σ_47]) (bs' := [b_g cB cC cI cJ cZ oA rA σ_47, b_w cB cC cI cJ cZ oA rA σ_47, b_c cB cC cI cJ cZ oA rA σ_47]) (is := [0, 1, 2]) fl_3 fl_3 rfl) (bx_C (bs := [b_g cB cC cI cJ cZ oA rA σ_47, b_w cB cC cI cJ cZ oA rA σ_47, b_c cB cC cI cJ cZ oA rA σ_47]) (bs' := []) (is := []) fl_3 fl_0 rfl) (bx_n (by decide +kernel)) (bx_d (by decide +kernel)) (va_runV (As := [.int 41]) (rest := []) ⟨hx, hb, hml, hown, hts⟩ (k_X2_need l dC dI cB cC cI cJ cZ cP oA rA H.size  41 σ_47 _ hu_49) (cwV 1 hts (g_gV wq_564 wq_565 wq_2000 wq_3 wq_566) rfl rfl rfl (by decide +kernel) ⟨by show 2 + 1 ≤ 4 + (d + 1); omega, by show 8 + (2 + 11) + 61 ≤ 102 + 22 * (d + 1); omega⟩) (g_preV g_bl0 hK hPc hDc hS hE hFc g_to0 (q0 := 0) (ci := 2) rfl rfl) rfl rfl hl.1 rfl (lv_room (Nat.le_of_ble_eq_true rfl)) dX2_primary_216 ⟨Nat.le_of_ble_eq_true rfl, Nat.le_of_ble_eq_true rfl⟩) (fun u9 H locs hw9 hP' hD' hS => ?_)
    clear hPc hDc hFc
    have hP : va_P (dC, dI) vwCl (b_g cB cC cI cJ cZ oA rA u_49.2 ++ b_w cB cC cI cJ cZ oA rA u_49.2 ++ b_c cB cC cI cJ cZ oA rA u_49.2) H := hP'
    clear hP' hD'
    refine lv_goto (tgt := 303) hx hb dX2_primary_219 (by decide) ?_
    have h9 := Option.some.inj hF_50
    subst h9
    exact W.vret hx hb hr (fun t ht hW => ⟨⟨(), rfl, trivial, m_end ht hP, hDD _⟩, hS.F ht⟩) hS.2.2 dX2_primary_303
  have hF_51 := ineg c_41 hF_40
  clear hF_40
  by_cases c_52 : x_1 = 221 ∨ x_1 = 222 ∨ x_1 = 223 ∨ x_1 = 224
  · have hF_53 := ipos c_52 hF_51
    clear hF_51
    refine lv_lookup (off := 251) (tgt := 262) hx hb dX2_primary_11 (by decide +kernel) (by rcases c_52 with q9 | q9 | q9 | q9 <;> (rw [q9]; decide +kernel)) (by decide) ?_
    refine lv_aload_n hx hb dX2_primary_262 rfl (lv_at hl 2 rfl) ?_
    obtain ⟨u_54, hu_54, hF_55⟩ := Option.bind_eq_some_iff.mp hF_53
    clear hF_53
    have hPc := bx_P (bs := [b_g cB cC cI cJ cZ oA rA Γ, b_w cB cC cI cJ cZ oA rA Γ, b_c cB cC cI cJ cZ oA rA Γ]) (bs' := [b_g cB cC cI cJ cZ oA rA Γ, b_w cB cC cI cJ cZ oA rA Γ, b_c cB cC cI cJ cZ oA rA Γ]) (ws' := (b_g cB cC cI cJ cZ oA rA Γ ++ b_w cB cC cI cJ cZ oA rA Γ ++ b_c cB cC cI cJ cZ oA rA Γ)) hP fl_3 fl_3 [0, 1, 2] rfl
    have hDc := bx_D (bs := [b_g cB cC cI cJ cZ oA rA Γ, b_w cB cC cI cJ cZ oA rA Γ, b_c cB cC cI cJ cZ oA rA Γ]) (bs' := [b_g cB cC cI cJ cZ oA rA Γ, b_w cB cC cI cJ cZ oA rA Γ, b_c cB cC cI cJ cZ oA rA Γ]) (ws' := (b_g cB cC cI cJ cZ oA rA Γ ++ b_w cB cC cI cJ cZ oA rA Γ ++ b_c cB cC cI cJ cZ oA rA Γ)) (hDD Γ) fl_3 fl_3 [0, 1, 2] (by decide +kernel) rfl
    have hFc := bx_F (bs := [b_g cB cC cI cJ cZ oA rA Γ, b_w cB cC cI cJ cZ oA rA Γ, b_c cB cC cI cJ cZ oA rA Γ]) (bs' := [b_g cB cC cI cJ cZ oA rA Γ, b_w cB cC cI cJ cZ oA rA Γ, b_c cB cC cI cJ cZ oA rA Γ]) (wc := (b_g cB cC cI cJ cZ oA rA Γ ++ b_w cB cC cI cJ cZ oA rA Γ ++ b_c cB cC cI cJ cZ oA rA Γ)) (hDD Γ) hS hA fl_3 fl_3 [0, 1, 2] rfl
    refine g_ofv (wc := (b_g cB cC cI cJ cZ oA rA Γ ++ b_w cB cC cI cJ cZ oA rA Γ ++ b_c cB cC cI cJ cZ oA rA Γ)) (wr := ([] : va_W)) hP (hDD Γ) hS hFc (bx_ix [b_g cB cC cI cJ cZ oA rA Γ, b_w cB cC cI cJ cZ oA rA Γ, b_c cB cC cI cJ cZ oA rA Γ] [0, 1, 2]) (bx_ix [b_g cB cC cI cJ cZ oA rA Γ, b_w cB cC cI cJ cZ oA rA Γ, b_c cB cC cI cJ cZ oA rA Γ] []) (bx_C (bs := [b_g cB cC cI cJ cZ oA rA Γ, b_w cB cC cI cJ cZ oA rA Γ, b_c cB cC cI cJ cZ oA rA Γ]) (bs' := [b_g cB cC cI cJ cZ oA rA Γ, b_w cB cC cI cJ cZ oA rA Γ, b_c cB cC cI cJ cZ oA rA Γ]) (is := [0, 1, 2]) fl_3 fl_3 rfl) (bx_C (bs := [b_g cB cC cI cJ cZ oA rA Γ, b_w cB cC cI cJ cZ oA rA Γ, b_c cB cC cI cJ cZ oA rA Γ]) (bs' := []) (is := []) fl_3 fl_0 rfl) (bx_n (by decide +kernel)) (bx_d (by decide +kernel)) (va_runV (As := []) (rest := []) ⟨hx, hb, hml, hown, hts⟩ (k_X2_deepen l dC dI cB cC cI cJ cZ cP oA rA s.heap.size  Γ _ hu_54) (cwV 0 hts (g_gV wq_570 wq_571 wq_2002 wq_3 wq_572) rfl rfl rfl (by decide +kernel) ⟨by show 2 + 1 ≤ 4 + (d + 1); omega, by show 8 + (1 + 11) + 61 ≤ 102 + 22 * (d + 1); omega⟩) (g_preV g_bl0 hK hPc hDc hS hE hFc g_to0 (q0 := 0) (ci := 2) rfl rfl) rfl rfl hl.1 rfl (lv_room (Nat.le_of_ble_eq_true rfl)) dX2_primary_263 ⟨Nat.le_of_ble_eq_true rfl, Nat.le_of_ble_eq_true rfl⟩) (fun u9 H locs hw9 hP' hD' hS => ?_)
    clear hPc hDc hFc
    have hP : va_P (dC, dI) vwCl (b_g cB cC cI cJ cZ oA rA u_54.2 ++ b_w cB cC cI cJ cZ oA rA u_54.2 ++ b_c cB cC cI cJ cZ oA rA u_54.2) H := hP'
    clear hP' hD'
    refine lv_aload_n hx hb dX2_primary_266 rfl (lv_at hl 2 rfl) ?_
    obtain ⟨u_56, hu_56, hF_57⟩ := Option.bind_eq_some_iff.mp hF_55
    clear hF_55
    have hPc := bx_P (bs := [b_g cB cC cI cJ cZ oA rA u_54.2, b_w cB cC cI cJ cZ oA rA u_54.2, b_c cB cC cI cJ cZ oA rA u_54.2]) (bs' := [b_g cB cC cI cJ cZ oA rA u_54.2, b_w cB cC cI cJ cZ oA rA u_54.2, b_c cB cC cI cJ cZ oA rA u_54.2]) (ws' := (b_g cB cC cI cJ cZ oA rA u_54.2 ++ b_w cB cC cI cJ cZ oA rA u_54.2 ++ b_c cB cC cI cJ cZ oA rA u_54.2)) hP fl_3 fl_3 [0, 1, 2] rfl
    have hDc := bx_D (bs := [b_g cB cC cI cJ cZ oA rA u_54.2, b_w cB cC cI cJ cZ oA rA u_54.2, b_c cB cC cI cJ cZ oA rA u_54.2]) (bs' := [b_g cB cC cI cJ cZ oA rA u_54.2, b_w cB cC cI cJ cZ oA rA u_54.2, b_c cB cC cI cJ cZ oA rA u_54.2]) (ws' := (b_g cB cC cI cJ cZ oA rA u_54.2 ++ b_w cB cC cI cJ cZ oA rA u_54.2 ++ b_c cB cC cI cJ cZ oA rA u_54.2)) (hDD u_54.2) fl_3 fl_3 [0, 1, 2] (by decide +kernel) rfl
    have hFc := bx_F (bs := [b_g cB cC cI cJ cZ oA rA u_54.2, b_w cB cC cI cJ cZ oA rA u_54.2, b_c cB cC cI cJ cZ oA rA u_54.2]) (bs' := [b_g cB cC cI cJ cZ oA rA u_54.2, b_w cB cC cI cJ cZ oA rA u_54.2, b_c cB cC cI cJ cZ oA rA u_54.2]) (wc := (b_g cB cC cI cJ cZ oA rA u_54.2 ++ b_w cB cC cI cJ cZ oA rA u_54.2 ++ b_c cB cC cI cJ cZ oA rA u_54.2)) (hDD u_54.2) hS hA fl_3 fl_3 [0, 1, 2] rfl
    refine g_ofv (wc := (b_g cB cC cI cJ cZ oA rA u_54.2 ++ b_w cB cC cI cJ cZ oA rA u_54.2 ++ b_c cB cC cI cJ cZ oA rA u_54.2)) (wr := ([] : va_W)) hP (hDD u_54.2) hS hFc (bx_ix [b_g cB cC cI cJ cZ oA rA u_54.2, b_w cB cC cI cJ cZ oA rA u_54.2, b_c cB cC cI cJ cZ oA rA u_54.2] [0, 1, 2]) (bx_ix [b_g cB cC cI cJ cZ oA rA u_54.2, b_w cB cC cI cJ cZ oA rA u_54.2, b_c cB cC cI cJ cZ oA rA u_54.2] []) (bx_C (bs := [b_g cB cC cI cJ cZ oA rA u_54.2, b_w cB cC cI cJ cZ oA rA u_54.2, b_c cB cC cI cJ cZ oA rA u_54.2]) (bs' := [b_g cB cC cI cJ cZ oA rA u_54.2, b_w cB cC cI cJ cZ oA rA u_54.2, b_c cB cC cI cJ cZ oA rA u_54.2]) (is := [0, 1, 2]) fl_3 fl_3 rfl) (bx_C (bs := [b_g cB cC cI cJ cZ oA rA u_54.2, b_w cB cC cI cJ cZ oA rA u_54.2, b_c cB cC cI cJ cZ oA rA u_54.2]) (bs' := []) (is := []) fl_3 fl_0 rfl) (bx_n (by decide +kernel)) (bx_d (by decide +kernel)) (va_runV (As := []) (rest := []) ⟨hx, hb, hml, hown, hts⟩ (hI6 H.size u_54.2 _ hu_56) (cwV 0 hts (g_gV wq_649 wq_650 wq_2022 wq_3 wq_651) rfl rfl rfl (by decide +kernel) ⟨by show 4 + d + 1 ≤ 4 + (d + 1); omega, by show 8 + (3 + 11) + (102 + 22 * d) ≤ 102 + 22 * (d + 1); omega⟩) (g_preV g_bl0 hK hPc hDc hS hE hFc g_to0 (q0 := 0) (ci := 2) rfl rfl) rfl rfl hl.1 rfl (lv_room (Nat.le_of_ble_eq_true rfl)) dX2_primary_267 ⟨Nat.le_of_ble_eq_true rfl, Nat.le_of_ble_eq_true rfl⟩) (fun u9 H locs hw9 hP' hD' hS => ?_)
    clear hPc hDc hFc
    have hP : va_P (dC, dI) vwCl (b_g cB cC cI cJ cZ oA rA u_56.2 ++ b_w cB cC cI cJ cZ oA rA u_56.2 ++ b_c cB cC cI cJ cZ oA rA u_56.2) H := hP'
    clear hP' hD'
    refine lv_aload_n hx hb dX2_primary_270 rfl (lv_at hl 2 rfl) ?_
    refine lv_dup hx hb dX2_primary_271 rfl ?_
    refine va_get (D := (dC, dI)) (ci := 2) (v := .int ((u_56.2 2).1 4)) (C := RX2) (T := TX2) (N := 8) hx hb hts ii_X2 hown hK hP 0 rfl rfl 4 (by decide) (hts (.fieldLink RX2 32 "StoryHouse$Grammar" "nest" "I") wq_75) (fun _ h9 => h9) rfl dX2_primary_272 ?_
    refine lv_iconst (v := 1) hx hb dX2_primary_275 (by decide +kernel) ?_
    refine lv_isub hx hb dX2_primary_276 ?_
    obtain ⟨σ_58, eσ_58, hF_59⟩ := bnd_e hF_57
    clear hF_57
    refine va_put (D := (dC, dI)) (ci := 2) (v := .int (((u_56.2 2).1 4) - 1)) (ty := .int) (C := RX2) (T := TX2) (N := 8) hx hb hts ii_X2 tyX2 tyX2_ok nmX2 hown hK hP (hDD _) hS 0 rfl rfl 4 (by decide) (hts (.fieldLink RX2 32 "StoryHouse$Grammar" "nest" "I") wq_75) (fun _ h9 => h9) rfl (by decide +kernel) rfl rfl (Nat.le_of_ble_eq_true rfl) dX2_primary_277 (fun H locs hP' _ hS => ?_)
    have hP : va_P (dC, dI) vwCl (b_g cB cC cI cJ cZ oA rA σ_58 ++ b_w cB cC cI cJ cZ oA rA σ_58 ++ b_c cB cC cI cJ cZ oA rA σ_58) H := by rw [eσ_58]; exact cs_gwc_g_4 ▸ hP'
    clear hP'
    refine lv_aload_n hx hb dX2_primary_280 rfl (lv_at hl 2 rfl) ?_
    refine va_get (D := (dC, dI)) (ci := 2) (v := .ref (oA 5)) (C := RX2) (T := TX2) (N := 8) hx hb hts ii_X2 hown hK hP 0 rfl rfl 1 (by decide) (hts (.fieldLink RX2 15 "StoryHouse$Grammar" "code" "LStoryHouse$Code;") wq_72) (fun _ h9 => h9) rfl dX2_primary_281 ?_
    refine lv_bipush (v := 24) hx hb dX2_primary_284 (by decide +kernel) ?_
    refine lv_iload_n hx hb dX2_primary_286 rfl (lv_at hl 1 rfl) ?_
    refine lv_iadd hx hb dX2_primary_287 ?_
    refine lv_sipush (v := 221) hx hb dX2_primary_288 (by decide +kernel) ?_
    refine lv_isub hx hb dX2_primary_291 ?_
    obtain ⟨u_60, hu_60, hF_61⟩ := Option.bind_eq_some_iff.mp hF_59
    clear hF_59
    have hPc := bx_P (bs := [b_g cB cC cI cJ cZ oA rA σ_58, b_w cB cC cI cJ cZ oA rA σ_58, b_c cB cC cI cJ cZ oA rA σ_58]) (bs' := [b_c cB cC cI cJ cZ oA rA σ_58]) (ws' := (b_c cB cC cI cJ cZ oA rA σ_58)) hP fl_3 fl_1 [2] rfl
    have hDc := bx_D (bs := [b_g cB cC cI cJ cZ oA rA σ_58, b_w cB cC cI cJ cZ oA rA σ_58, b_c cB cC cI cJ cZ oA rA σ_58]) (bs' := [b_c cB cC cI cJ cZ oA rA σ_58]) (ws' := (b_c cB cC cI cJ cZ oA rA σ_58)) (hDD σ_58) fl_3 fl_1 [2] (by decide +kernel) rfl
    have hFc := bx_F (bs := [b_g cB cC cI cJ cZ oA rA σ_58, b_w cB cC cI cJ cZ oA rA σ_58, b_c cB cC cI cJ cZ oA rA σ_58]) (bs' := [b_c cB cC cI cJ cZ oA rA σ_58]) (wc := (b_c cB cC cI cJ cZ oA rA σ_58)) (hDD σ_58) hS hA fl_3 fl_1 [2] rfl
    refine g_ofv (wc := (b_c cB cC cI cJ cZ oA rA σ_58)) (wr := (b_g cB cC cI cJ cZ oA rA σ_58 ++ b_w cB cC cI cJ cZ oA rA σ_58)) hP (hDD σ_58) hS hFc (bx_ix [b_g cB cC cI cJ cZ oA rA σ_58, b_w cB cC cI cJ cZ oA rA σ_58, b_c cB cC cI cJ cZ oA rA σ_58] [2]) (bx_ix [b_g cB cC cI cJ cZ oA rA σ_58, b_w cB cC cI cJ cZ oA rA σ_58, b_c cB cC cI cJ cZ oA rA σ_58] [0, 1]) (bx_C (bs := [b_g cB cC cI cJ cZ oA rA σ_58, b_w cB cC cI cJ cZ oA rA σ_58, b_c cB cC cI cJ cZ oA rA σ_58]) (bs' := [b_c cB cC cI cJ cZ oA rA σ_58]) (is := [2]) fl_3 fl_1 rfl) (bx_C (bs := [b_g cB cC cI cJ cZ oA rA σ_58, b_w cB cC cI cJ cZ oA rA σ_58, b_c cB cC cI cJ cZ oA rA σ_58]) (bs' := [b_g cB cC cI cJ cZ oA rA σ_58, b_w cB cC cI cJ cZ oA rA σ_58]) (is := [0, 1]) fl_3 fl_2 rfl) (bx_n (by decide +kernel)) (bx_d (by decide +kernel)) (va_runV (As := [.int ((24 + x_1) - 221)]) (rest := []) ⟨hx, hb, hml, hown, hts⟩ (k_X0_add l dC dI cB cC cI cJ cZ cP oA rA H.size  ((24 + x_1) - 221) σ_58 _ hu_60) (cwV 1 hts (g_gV wq_636 wq_637 wq_638 wq_6 wq_639) rfl rfl rfl (by decide +kernel) ⟨by show 1 + 1 ≤ 4 + (d + 1); omega, by show 8 + (2 + 11) + 40 ≤ 102 + 22 * (d + 1); omega⟩) (g_preV g_bl0 hK hPc hDc hS hE hFc g_to0 (q0 := 0) (ci := 0) rfl rfl) rfl rfl hl.1 rfl (lv_room (Nat.le_of_ble_eq_true rfl)) dX2_primary_292 ⟨Nat.le_of_ble_eq_true rfl, Nat.le_of_ble_eq_true rfl⟩) (fun u9 H locs hw9 hP' hD' hS => ?_)
    clear hPc hDc hFc
    obtain ⟨σ_62, eσ_62, hF_63⟩ := bnd_e hF_61
    clear hF_61
    have hP : va_P (dC, dI) vwCl (b_g cB cC cI cJ cZ oA rA σ_62 ++ b_w cB cC cI cJ cZ oA rA σ_62 ++ b_c cB cC cI cJ cZ oA rA σ_62) H := by rw [eσ_62]; exact bx_P (bs := [b_g cB cC cI cJ cZ oA rA σ_58, b_w cB cC cI cJ cZ oA rA σ_58] ++ [b_c cB cC cI cJ cZ oA rA u_60.2]) (bs' := [b_g cB cC cI cJ cZ oA rA (mrg (fun j => j == 5) σ_58 u_60.2), b_w cB cC cI cJ cZ oA rA (mrg (fun j => j == 5) σ_58 u_60.2), b_c cB cC cI cJ cZ oA rA (mrg (fun j => j == 5) σ_58 u_60.2)]) hP' (fl_a fl_2 fl_1) fl_3 [0, 1, 2] rfl
    clear hP' hD'
    refine lv_goto (tgt := 303) hx hb dX2_primary_295 (by decide) ?_
    have h9 := Option.some.inj hF_63
    subst h9
    exact W.vret hx hb hr (fun t ht hW => ⟨⟨(), rfl, trivial, m_end ht hP, hDD _⟩, hS.F ht⟩) hS.2.2 dX2_primary_303
  have hF_64 := ineg c_52 hF_51
  clear hF_51
  by_cases c_65 : x_1 = 225 ∨ x_1 = 226 ∨ x_1 = 227
  · have hF_66 := ipos c_65 hF_64
    clear hF_64
    refine lv_lookup (off := 229) (tgt := 240) hx hb dX2_primary_11 (by decide +kernel) (by rcases c_65 with q9 | q9 | q9 <;> (rw [q9]; decide +kernel)) (by decide) ?_
    refine lv_aload_n hx hb dX2_primary_240 rfl (lv_at hl 2 rfl) ?_
    obtain ⟨u_67, hu_67, hF_68⟩ := Option.bind_eq_some_iff.mp hF_66
    clear hF_66
    have hPc := bx_P (bs := [b_g cB cC cI cJ cZ oA rA Γ, b_w cB cC cI cJ cZ oA rA Γ, b_c cB cC cI cJ cZ oA rA Γ]) (bs' := [b_g cB cC cI cJ cZ oA rA Γ, b_w cB cC cI cJ cZ oA rA Γ, b_c cB cC cI cJ cZ oA rA Γ]) (ws' := (b_g cB cC cI cJ cZ oA rA Γ ++ b_w cB cC cI cJ cZ oA rA Γ ++ b_c cB cC cI cJ cZ oA rA Γ)) hP fl_3 fl_3 [0, 1, 2] rfl
    have hDc := bx_D (bs := [b_g cB cC cI cJ cZ oA rA Γ, b_w cB cC cI cJ cZ oA rA Γ, b_c cB cC cI cJ cZ oA rA Γ]) (bs' := [b_g cB cC cI cJ cZ oA rA Γ, b_w cB cC cI cJ cZ oA rA Γ, b_c cB cC cI cJ cZ oA rA Γ]) (ws' := (b_g cB cC cI cJ cZ oA rA Γ ++ b_w cB cC cI cJ cZ oA rA Γ ++ b_c cB cC cI cJ cZ oA rA Γ)) (hDD Γ) fl_3 fl_3 [0, 1, 2] (by decide +kernel) rfl
    have hFc := bx_F (bs := [b_g cB cC cI cJ cZ oA rA Γ, b_w cB cC cI cJ cZ oA rA Γ, b_c cB cC cI cJ cZ oA rA Γ]) (bs' := [b_g cB cC cI cJ cZ oA rA Γ, b_w cB cC cI cJ cZ oA rA Γ, b_c cB cC cI cJ cZ oA rA Γ]) (wc := (b_g cB cC cI cJ cZ oA rA Γ ++ b_w cB cC cI cJ cZ oA rA Γ ++ b_c cB cC cI cJ cZ oA rA Γ)) (hDD Γ) hS hA fl_3 fl_3 [0, 1, 2] rfl
    refine g_ofv (wc := (b_g cB cC cI cJ cZ oA rA Γ ++ b_w cB cC cI cJ cZ oA rA Γ ++ b_c cB cC cI cJ cZ oA rA Γ)) (wr := ([] : va_W)) hP (hDD Γ) hS hFc (bx_ix [b_g cB cC cI cJ cZ oA rA Γ, b_w cB cC cI cJ cZ oA rA Γ, b_c cB cC cI cJ cZ oA rA Γ] [0, 1, 2]) (bx_ix [b_g cB cC cI cJ cZ oA rA Γ, b_w cB cC cI cJ cZ oA rA Γ, b_c cB cC cI cJ cZ oA rA Γ] []) (bx_C (bs := [b_g cB cC cI cJ cZ oA rA Γ, b_w cB cC cI cJ cZ oA rA Γ, b_c cB cC cI cJ cZ oA rA Γ]) (bs' := [b_g cB cC cI cJ cZ oA rA Γ, b_w cB cC cI cJ cZ oA rA Γ, b_c cB cC cI cJ cZ oA rA Γ]) (is := [0, 1, 2]) fl_3 fl_3 rfl) (bx_C (bs := [b_g cB cC cI cJ cZ oA rA Γ, b_w cB cC cI cJ cZ oA rA Γ, b_c cB cC cI cJ cZ oA rA Γ]) (bs' := []) (is := []) fl_3 fl_0 rfl) (bx_n (by decide +kernel)) (bx_d (by decide +kernel)) (va_runV (As := []) (rest := []) ⟨hx, hb, hml, hown, hts⟩ (k_X2_pass l dC dI cB cC cI cJ cZ cP oA rA s.heap.size  Γ _ hu_67) (cwV 0 hts (g_gV wq_555 wq_556 wq_1997 wq_3 wq_557) rfl rfl rfl (by decide +kernel) ⟨by show 1 + 1 ≤ 4 + (d + 1); omega, by show 8 + (1 + 11) + 40 ≤ 102 + 22 * (d + 1); omega⟩) (g_preV g_bl0 hK hPc hDc hS hE hFc g_to0 (q0 := 0) (ci := 2) rfl rfl) rfl rfl hl.1 rfl (lv_room (Nat.le_of_ble_eq_true rfl)) dX2_primary_241 ⟨Nat.le_of_ble_eq_true rfl, Nat.le_of_ble_eq_true rfl⟩) (fun u9 H locs hw9 hP' hD' hS => ?_)
    clear hPc hDc hFc
    have hP : va_P (dC, dI) vwCl (b_g cB cC cI cJ cZ oA rA u_67.2 ++ b_w cB cC cI cJ cZ oA rA u_67.2 ++ b_c cB cC cI cJ cZ oA rA u_67.2) H := hP'
    clear hP' hD'
    refine lv_aload_n hx hb dX2_primary_244 rfl (lv_at hl 2 rfl) ?_
    refine va_get (D := (dC, dI)) (ci := 2) (v := .ref (oA 5)) (C := RX2) (T := TX2) (N := 8) hx hb hts ii_X2 hown hK hP 0 rfl rfl 1 (by decide) (hts (.fieldLink RX2 15 "StoryHouse$Grammar" "code" "LStoryHouse$Code;") wq_72) (fun _ h9 => h9) rfl dX2_primary_245 ?_
    refine lv_bipush (v := 28) hx hb dX2_primary_248 (by decide +kernel) ?_
    refine lv_iload_n hx hb dX2_primary_250 rfl (lv_at hl 1 rfl) ?_
    refine lv_iadd hx hb dX2_primary_251 ?_
    refine lv_sipush (v := 225) hx hb dX2_primary_252 (by decide +kernel) ?_
    refine lv_isub hx hb dX2_primary_255 ?_
    obtain ⟨u_69, hu_69, hF_70⟩ := Option.bind_eq_some_iff.mp hF_68
    clear hF_68
    have hPc := bx_P (bs := [b_g cB cC cI cJ cZ oA rA u_67.2, b_w cB cC cI cJ cZ oA rA u_67.2, b_c cB cC cI cJ cZ oA rA u_67.2]) (bs' := [b_c cB cC cI cJ cZ oA rA u_67.2]) (ws' := (b_c cB cC cI cJ cZ oA rA u_67.2)) hP fl_3 fl_1 [2] rfl
    have hDc := bx_D (bs := [b_g cB cC cI cJ cZ oA rA u_67.2, b_w cB cC cI cJ cZ oA rA u_67.2, b_c cB cC cI cJ cZ oA rA u_67.2]) (bs' := [b_c cB cC cI cJ cZ oA rA u_67.2]) (ws' := (b_c cB cC cI cJ cZ oA rA u_67.2)) (hDD u_67.2) fl_3 fl_1 [2] (by decide +kernel) rfl
    have hFc := bx_F (bs := [b_g cB cC cI cJ cZ oA rA u_67.2, b_w cB cC cI cJ cZ oA rA u_67.2, b_c cB cC cI cJ cZ oA rA u_67.2]) (bs' := [b_c cB cC cI cJ cZ oA rA u_67.2]) (wc := (b_c cB cC cI cJ cZ oA rA u_67.2)) (hDD u_67.2) hS hA fl_3 fl_1 [2] rfl
    refine g_ofv (wc := (b_c cB cC cI cJ cZ oA rA u_67.2)) (wr := (b_g cB cC cI cJ cZ oA rA u_67.2 ++ b_w cB cC cI cJ cZ oA rA u_67.2)) hP (hDD u_67.2) hS hFc (bx_ix [b_g cB cC cI cJ cZ oA rA u_67.2, b_w cB cC cI cJ cZ oA rA u_67.2, b_c cB cC cI cJ cZ oA rA u_67.2] [2]) (bx_ix [b_g cB cC cI cJ cZ oA rA u_67.2, b_w cB cC cI cJ cZ oA rA u_67.2, b_c cB cC cI cJ cZ oA rA u_67.2] [0, 1]) (bx_C (bs := [b_g cB cC cI cJ cZ oA rA u_67.2, b_w cB cC cI cJ cZ oA rA u_67.2, b_c cB cC cI cJ cZ oA rA u_67.2]) (bs' := [b_c cB cC cI cJ cZ oA rA u_67.2]) (is := [2]) fl_3 fl_1 rfl) (bx_C (bs := [b_g cB cC cI cJ cZ oA rA u_67.2, b_w cB cC cI cJ cZ oA rA u_67.2, b_c cB cC cI cJ cZ oA rA u_67.2]) (bs' := [b_g cB cC cI cJ cZ oA rA u_67.2, b_w cB cC cI cJ cZ oA rA u_67.2]) (is := [0, 1]) fl_3 fl_2 rfl) (bx_n (by decide +kernel)) (bx_d (by decide +kernel)) (va_runV (As := [.int ((28 + x_1) - 225)]) (rest := []) ⟨hx, hb, hml, hown, hts⟩ (k_X0_add l dC dI cB cC cI cJ cZ cP oA rA H.size  ((28 + x_1) - 225) u_67.2 _ hu_69) (cwV 1 hts (g_gV wq_636 wq_637 wq_638 wq_6 wq_639) rfl rfl rfl (by decide +kernel) ⟨by show 1 + 1 ≤ 4 + (d + 1); omega, by show 8 + (2 + 11) + 40 ≤ 102 + 22 * (d + 1); omega⟩) (g_preV g_bl0 hK hPc hDc hS hE hFc g_to0 (q0 := 0) (ci := 0) rfl rfl) rfl rfl hl.1 rfl (lv_room (Nat.le_of_ble_eq_true rfl)) dX2_primary_256 ⟨Nat.le_of_ble_eq_true rfl, Nat.le_of_ble_eq_true rfl⟩) (fun u9 H locs hw9 hP' hD' hS => ?_)
    clear hPc hDc hFc
    obtain ⟨σ_71, eσ_71, hF_72⟩ := bnd_e hF_70
    clear hF_70
    have hP : va_P (dC, dI) vwCl (b_g cB cC cI cJ cZ oA rA σ_71 ++ b_w cB cC cI cJ cZ oA rA σ_71 ++ b_c cB cC cI cJ cZ oA rA σ_71) H := by rw [eσ_71]; exact bx_P (bs := [b_g cB cC cI cJ cZ oA rA u_67.2, b_w cB cC cI cJ cZ oA rA u_67.2] ++ [b_c cB cC cI cJ cZ oA rA u_69.2]) (bs' := [b_g cB cC cI cJ cZ oA rA (mrg (fun j => j == 5) u_67.2 u_69.2), b_w cB cC cI cJ cZ oA rA (mrg (fun j => j == 5) u_67.2 u_69.2), b_c cB cC cI cJ cZ oA rA (mrg (fun j => j == 5) u_67.2 u_69.2)]) hP' (fl_a fl_2 fl_1) fl_3 [0, 1, 2] rfl
    clear hP' hD'
    refine lv_goto (tgt := 303) hx hb dX2_primary_259 (by decide) ?_
    have h9 := Option.some.inj hF_72
    subst h9
    exact W.vret hx hb hr (fun t ht hW => ⟨⟨(), rfl, trivial, m_end ht hP, hDD _⟩, hS.F ht⟩) hS.2.2 dX2_primary_303
  have hF_73 := ineg c_65 hF_64
  clear hF_64
  by_cases c_74 : x_1 = 228
  · have hF_75 := ipos c_74 hF_73
    clear hF_73
    refine lv_lookup (off := 211) (tgt := 222) hx hb dX2_primary_11 (by decide +kernel) (by rw [c_74]; decide +kernel) (by decide) ?_
    refine lv_aload_n hx hb dX2_primary_222 rfl (lv_at hl 2 rfl) ?_
    obtain ⟨u_76, hu_76, hF_77⟩ := Option.bind_eq_some_iff.mp hF_75
    clear hF_75
    have hPc := bx_P (bs := [b_g cB cC cI cJ cZ oA rA Γ, b_w cB cC cI cJ cZ oA rA Γ, b_c cB cC cI cJ cZ oA rA Γ]) (bs' := [b_g cB cC cI cJ cZ oA rA Γ, b_w cB cC cI cJ cZ oA rA Γ, b_c cB cC cI cJ cZ oA rA Γ]) (ws' := (b_g cB cC cI cJ cZ oA rA Γ ++ b_w cB cC cI cJ cZ oA rA Γ ++ b_c cB cC cI cJ cZ oA rA Γ)) hP fl_3 fl_3 [0, 1, 2] rfl
    have hDc := bx_D (bs := [b_g cB cC cI cJ cZ oA rA Γ, b_w cB cC cI cJ cZ oA rA Γ, b_c cB cC cI cJ cZ oA rA Γ]) (bs' := [b_g cB cC cI cJ cZ oA rA Γ, b_w cB cC cI cJ cZ oA rA Γ, b_c cB cC cI cJ cZ oA rA Γ]) (ws' := (b_g cB cC cI cJ cZ oA rA Γ ++ b_w cB cC cI cJ cZ oA rA Γ ++ b_c cB cC cI cJ cZ oA rA Γ)) (hDD Γ) fl_3 fl_3 [0, 1, 2] (by decide +kernel) rfl
    have hFc := bx_F (bs := [b_g cB cC cI cJ cZ oA rA Γ, b_w cB cC cI cJ cZ oA rA Γ, b_c cB cC cI cJ cZ oA rA Γ]) (bs' := [b_g cB cC cI cJ cZ oA rA Γ, b_w cB cC cI cJ cZ oA rA Γ, b_c cB cC cI cJ cZ oA rA Γ]) (wc := (b_g cB cC cI cJ cZ oA rA Γ ++ b_w cB cC cI cJ cZ oA rA Γ ++ b_c cB cC cI cJ cZ oA rA Γ)) (hDD Γ) hS hA fl_3 fl_3 [0, 1, 2] rfl
    refine g_ofv (wc := (b_g cB cC cI cJ cZ oA rA Γ ++ b_w cB cC cI cJ cZ oA rA Γ ++ b_c cB cC cI cJ cZ oA rA Γ)) (wr := ([] : va_W)) hP (hDD Γ) hS hFc (bx_ix [b_g cB cC cI cJ cZ oA rA Γ, b_w cB cC cI cJ cZ oA rA Γ, b_c cB cC cI cJ cZ oA rA Γ] [0, 1, 2]) (bx_ix [b_g cB cC cI cJ cZ oA rA Γ, b_w cB cC cI cJ cZ oA rA Γ, b_c cB cC cI cJ cZ oA rA Γ] []) (bx_C (bs := [b_g cB cC cI cJ cZ oA rA Γ, b_w cB cC cI cJ cZ oA rA Γ, b_c cB cC cI cJ cZ oA rA Γ]) (bs' := [b_g cB cC cI cJ cZ oA rA Γ, b_w cB cC cI cJ cZ oA rA Γ, b_c cB cC cI cJ cZ oA rA Γ]) (is := [0, 1, 2]) fl_3 fl_3 rfl) (bx_C (bs := [b_g cB cC cI cJ cZ oA rA Γ, b_w cB cC cI cJ cZ oA rA Γ, b_c cB cC cI cJ cZ oA rA Γ]) (bs' := []) (is := []) fl_3 fl_0 rfl) (bx_n (by decide +kernel)) (bx_d (by decide +kernel)) (va_runV (As := []) (rest := []) ⟨hx, hb, hml, hown, hts⟩ (k_X2_pass l dC dI cB cC cI cJ cZ cP oA rA s.heap.size  Γ _ hu_76) (cwV 0 hts (g_gV wq_555 wq_556 wq_1997 wq_3 wq_557) rfl rfl rfl (by decide +kernel) ⟨by show 1 + 1 ≤ 4 + (d + 1); omega, by show 8 + (1 + 11) + 40 ≤ 102 + 22 * (d + 1); omega⟩) (g_preV g_bl0 hK hPc hDc hS hE hFc g_to0 (q0 := 0) (ci := 2) rfl rfl) rfl rfl hl.1 rfl (lv_room (Nat.le_of_ble_eq_true rfl)) dX2_primary_223 ⟨Nat.le_of_ble_eq_true rfl, Nat.le_of_ble_eq_true rfl⟩) (fun u9 H locs hw9 hP' hD' hS => ?_)
    clear hPc hDc hFc
    have hP : va_P (dC, dI) vwCl (b_g cB cC cI cJ cZ oA rA u_76.2 ++ b_w cB cC cI cJ cZ oA rA u_76.2 ++ b_c cB cC cI cJ cZ oA rA u_76.2) H := hP'
    clear hP' hD'
    refine lv_aload_n hx hb dX2_primary_226 rfl (lv_at hl 2 rfl) ?_
    refine va_get (D := (dC, dI)) (ci := 2) (v := .ref (oA 5)) (C := RX2) (T := TX2) (N := 8) hx hb hts ii_X2 hown hK hP 0 rfl rfl 1 (by decide) (hts (.fieldLink RX2 15 "StoryHouse$Grammar" "code" "LStoryHouse$Code;") wq_72) (fun _ h9 => h9) rfl dX2_primary_227 ?_
    refine lv_bipush (v := 33) hx hb dX2_primary_230 (by decide +kernel) ?_
    refine lv_iconst (v := 1) hx hb dX2_primary_232 (by decide +kernel) ?_
    obtain ⟨u_78, hu_78, hF_79⟩ := Option.bind_eq_some_iff.mp hF_77
    clear hF_77
    have hPc := bx_P (bs := [b_g cB cC cI cJ cZ oA rA u_76.2, b_w cB cC cI cJ cZ oA rA u_76.2, b_c cB cC cI cJ cZ oA rA u_76.2]) (bs' := [b_c cB cC cI cJ cZ oA rA u_76.2]) (ws' := (b_c cB cC cI cJ cZ oA rA u_76.2)) hP fl_3 fl_1 [2] rfl
    have hDc := bx_D (bs := [b_g cB cC cI cJ cZ oA rA u_76.2, b_w cB cC cI cJ cZ oA rA u_76.2, b_c cB cC cI cJ cZ oA rA u_76.2]) (bs' := [b_c cB cC cI cJ cZ oA rA u_76.2]) (ws' := (b_c cB cC cI cJ cZ oA rA u_76.2)) (hDD u_76.2) fl_3 fl_1 [2] (by decide +kernel) rfl
    have hFc := bx_F (bs := [b_g cB cC cI cJ cZ oA rA u_76.2, b_w cB cC cI cJ cZ oA rA u_76.2, b_c cB cC cI cJ cZ oA rA u_76.2]) (bs' := [b_c cB cC cI cJ cZ oA rA u_76.2]) (wc := (b_c cB cC cI cJ cZ oA rA u_76.2)) (hDD u_76.2) hS hA fl_3 fl_1 [2] rfl
    refine g_ofi (wc := (b_c cB cC cI cJ cZ oA rA u_76.2)) (wr := (b_g cB cC cI cJ cZ oA rA u_76.2 ++ b_w cB cC cI cJ cZ oA rA u_76.2)) hP (hDD u_76.2) hS hFc (bx_ix [b_g cB cC cI cJ cZ oA rA u_76.2, b_w cB cC cI cJ cZ oA rA u_76.2, b_c cB cC cI cJ cZ oA rA u_76.2] [2]) (bx_ix [b_g cB cC cI cJ cZ oA rA u_76.2, b_w cB cC cI cJ cZ oA rA u_76.2, b_c cB cC cI cJ cZ oA rA u_76.2] [0, 1]) (bx_C (bs := [b_g cB cC cI cJ cZ oA rA u_76.2, b_w cB cC cI cJ cZ oA rA u_76.2, b_c cB cC cI cJ cZ oA rA u_76.2]) (bs' := [b_c cB cC cI cJ cZ oA rA u_76.2]) (is := [2]) fl_3 fl_1 rfl) (bx_C (bs := [b_g cB cC cI cJ cZ oA rA u_76.2, b_w cB cC cI cJ cZ oA rA u_76.2, b_c cB cC cI cJ cZ oA rA u_76.2]) (bs' := [b_g cB cC cI cJ cZ oA rA u_76.2, b_w cB cC cI cJ cZ oA rA u_76.2]) (is := [0, 1]) fl_3 fl_2 rfl) (bx_n (by decide +kernel)) (bx_d (by decide +kernel)) (va_runV (As := [.int 33, .int 1]) (rest := []) ⟨hx, hb, hml, hown, hts⟩ (k_X0_add_ l dC dI cB cC cI cJ cZ cP oA rA H.size  33 1 u_76.2 _ hu_78) (cwV 2 hts (g_gV wq_656 wq_657 wq_658 wq_6 wq_659) rfl rfl rfl (by decide +kernel) ⟨by show 1 + 1 ≤ 4 + (d + 1); omega, by show 8 + (3 + 11) + 40 ≤ 102 + 22 * (d + 1); omega⟩) (g_preV g_bl0 hK hPc hDc hS hE hFc g_to0 (q0 := 0) (ci := 0) rfl rfl) rfl rfl hl.1 rfl (lv_room (Nat.le_of_ble_eq_true rfl)) dX2_primary_233 ⟨Nat.le_of_ble_eq_true rfl, Nat.le_of_ble_eq_true rfl⟩) (fun r9 u9 H locs hw9 hP' hD' hS => ?_)
    clear hPc hDc hFc
    subst hw9
    obtain ⟨σ_80, eσ_80, hF_81⟩ := bnd_e hF_79
    clear hF_79
    have hP : va_P (dC, dI) vwCl (b_g cB cC cI cJ cZ oA rA σ_80 ++ b_w cB cC cI cJ cZ oA rA σ_80 ++ b_c cB cC cI cJ cZ oA rA σ_80) H := by rw [eσ_80]; exact bx_P (bs := [b_g cB cC cI cJ cZ oA rA u_76.2, b_w cB cC cI cJ cZ oA rA u_76.2] ++ [b_c cB cC cI cJ cZ oA rA u_78.2]) (bs' := [b_g cB cC cI cJ cZ oA rA (mrg (fun j => j == 5) u_76.2 u_78.2), b_w cB cC cI cJ cZ oA rA (mrg (fun j => j == 5) u_76.2 u_78.2), b_c cB cC cI cJ cZ oA rA (mrg (fun j => j == 5) u_76.2 u_78.2)]) hP' (fl_a fl_2 fl_1) fl_3 [0, 1, 2] rfl
    clear hP' hD'
    refine lv_pop hx hb dX2_primary_236 rfl ?_
    refine lv_goto (tgt := 303) hx hb dX2_primary_237 (by decide) ?_
    have h9 := Option.some.inj hF_81
    subst h9
    exact W.vret hx hb hr (fun t ht hW => ⟨⟨(), rfl, trivial, m_end ht hP, hDD _⟩, hS.F ht⟩) hS.2.2 dX2_primary_303
  have hF_82 := ineg c_74 hF_73
  clear hF_73
  refine lv_lookup (off := 287) (tgt := 298) hx hb dX2_primary_11 (by decide +kernel) ((lv_osw (k := 2) c_5 (by decide +kernel)).trans ((lv_osw (k := 3) c_28 (by decide +kernel)).trans ((lv_osw (k := 40) c_41 (by decide +kernel)).trans ((lv_osw (k := 221) (fun z9 => c_52 (Or.inl z9)) (by decide +kernel)).trans ((lv_osw (k := 222) (fun z9 => c_52 (Or.inr (Or.inl z9))) (by decide +kernel)).trans ((lv_osw (k := 223) (fun z9 => c_52 (Or.inr (Or.inr (Or.inl z9)))) (by decide +kernel)).trans ((lv_osw (k := 224) (fun z9 => c_52 (Or.inr (Or.inr (Or.inr (z9))))) (by decide +kernel)).trans ((lv_osw (k := 225) (fun z9 => c_65 (Or.inl z9)) (by decide +kernel)).trans ((lv_osw (k := 226) (fun z9 => c_65 (Or.inr (Or.inl z9))) (by decide +kernel)).trans ((lv_osw (k := 227) (fun z9 => c_65 (Or.inr (Or.inr (z9)))) (by decide +kernel)).trans ((lv_osw (k := 228) c_74 (by decide +kernel)).trans rfl))))))))))) (by decide) ?_
  refine lv_aload_n hx hb dX2_primary_298 rfl (lv_at hl 2 rfl) ?_
  refine lv_iconst (v := 2) hx hb dX2_primary_299 (by decide +kernel) ?_
  obtain ⟨u_83, hu_83, hF_84⟩ := Option.bind_eq_some_iff.mp hF_82
  clear hF_82
  have hPc := bx_P (bs := [b_g cB cC cI cJ cZ oA rA Γ, b_w cB cC cI cJ cZ oA rA Γ, b_c cB cC cI cJ cZ oA rA Γ]) (bs' := [b_g cB cC cI cJ cZ oA rA Γ, b_w cB cC cI cJ cZ oA rA Γ, b_c cB cC cI cJ cZ oA rA Γ]) (ws' := (b_g cB cC cI cJ cZ oA rA Γ ++ b_w cB cC cI cJ cZ oA rA Γ ++ b_c cB cC cI cJ cZ oA rA Γ)) hP fl_3 fl_3 [0, 1, 2] rfl
  have hDc := bx_D (bs := [b_g cB cC cI cJ cZ oA rA Γ, b_w cB cC cI cJ cZ oA rA Γ, b_c cB cC cI cJ cZ oA rA Γ]) (bs' := [b_g cB cC cI cJ cZ oA rA Γ, b_w cB cC cI cJ cZ oA rA Γ, b_c cB cC cI cJ cZ oA rA Γ]) (ws' := (b_g cB cC cI cJ cZ oA rA Γ ++ b_w cB cC cI cJ cZ oA rA Γ ++ b_c cB cC cI cJ cZ oA rA Γ)) (hDD Γ) fl_3 fl_3 [0, 1, 2] (by decide +kernel) rfl
  have hFc := bx_F (bs := [b_g cB cC cI cJ cZ oA rA Γ, b_w cB cC cI cJ cZ oA rA Γ, b_c cB cC cI cJ cZ oA rA Γ]) (bs' := [b_g cB cC cI cJ cZ oA rA Γ, b_w cB cC cI cJ cZ oA rA Γ, b_c cB cC cI cJ cZ oA rA Γ]) (wc := (b_g cB cC cI cJ cZ oA rA Γ ++ b_w cB cC cI cJ cZ oA rA Γ ++ b_c cB cC cI cJ cZ oA rA Γ)) (hDD Γ) hS hA fl_3 fl_3 [0, 1, 2] rfl
  refine g_ofv (wc := (b_g cB cC cI cJ cZ oA rA Γ ++ b_w cB cC cI cJ cZ oA rA Γ ++ b_c cB cC cI cJ cZ oA rA Γ)) (wr := ([] : va_W)) hP (hDD Γ) hS hFc (bx_ix [b_g cB cC cI cJ cZ oA rA Γ, b_w cB cC cI cJ cZ oA rA Γ, b_c cB cC cI cJ cZ oA rA Γ] [0, 1, 2]) (bx_ix [b_g cB cC cI cJ cZ oA rA Γ, b_w cB cC cI cJ cZ oA rA Γ, b_c cB cC cI cJ cZ oA rA Γ] []) (bx_C (bs := [b_g cB cC cI cJ cZ oA rA Γ, b_w cB cC cI cJ cZ oA rA Γ, b_c cB cC cI cJ cZ oA rA Γ]) (bs' := [b_g cB cC cI cJ cZ oA rA Γ, b_w cB cC cI cJ cZ oA rA Γ, b_c cB cC cI cJ cZ oA rA Γ]) (is := [0, 1, 2]) fl_3 fl_3 rfl) (bx_C (bs := [b_g cB cC cI cJ cZ oA rA Γ, b_w cB cC cI cJ cZ oA rA Γ, b_c cB cC cI cJ cZ oA rA Γ]) (bs' := []) (is := []) fl_3 fl_0 rfl) (bx_n (by decide +kernel)) (bx_d (by decide +kernel)) (va_runV (As := [.int 2]) (rest := []) ⟨hx, hb, hml, hown, hts⟩ (k_X2_fail l dC dI cB cC cI cJ cZ cP oA rA s.heap.size  2 Γ _ hu_83) (cwV 1 hts (g_gV wq_558 wq_559 wq_1998 wq_3 wq_560) rfl rfl rfl (by decide +kernel) ⟨by show 1 + 1 ≤ 4 + (d + 1); omega, by show 8 + (2 + 11) + 40 ≤ 102 + 22 * (d + 1); omega⟩) (g_preV g_bl0 hK hPc hDc hS hE hFc g_to0 (q0 := 0) (ci := 2) rfl rfl) rfl rfl hl.1 rfl (lv_room (Nat.le_of_ble_eq_true rfl)) dX2_primary_300 ⟨Nat.le_of_ble_eq_true rfl, Nat.le_of_ble_eq_true rfl⟩) (fun u9 H locs hw9 hP' hD' hS => ?_)
  clear hPc hDc hFc
  have hP : va_P (dC, dI) vwCl (b_g cB cC cI cJ cZ oA rA u_83.2 ++ b_w cB cC cI cJ cZ oA rA u_83.2 ++ b_c cB cC cI cJ cZ oA rA u_83.2) H := hP'
  clear hP' hD'
  have h9 := Option.some.inj hF_84
  subst h9
  exact W.vret hx hb hr (fun t ht hW => ⟨⟨(), rfl, trivial, m_end ht hP, hDD _⟩, hS.F ht⟩) hS.2.2 dX2_primary_303

def F_X2_arguments (rec : HG) (p0 : Int32) (Γ : HS) : HR :=
  (F_X2_deepen Γ).bind fun u_1 =>
  bnd (fun (v2_3 : Int32) (σ_4 : HS) => (
    bnd (cI' σ_4 2 4 (((σ_4 2).1 4) - 1)) fun σ_8 =>
    (F_X2_need 41 σ_8).bind fun u_10 =>
    bnd (cA' u_10.2 1 6 (g_put 16001 ((u_10.2 1).2.1 6) p0 v2_3)) fun σ_12 =>
    (F_X0_add_ 40 p0 σ_12).bind fun u_14 =>
    bnd (mrg (fun j => j == 5) σ_12 u_14.2) fun σ_16 =>
    some (0, σ_16)
  ) : Int32 → HS → HR) fun j_5 =>
  if ((u_1.2 2).1 3) = 41 then (
    j_5 0 u_1.2
  ) else (
    (rec 0 0 0 0 u_1.2).bind fun u_21 =>
    loopF (fun (again_24 : (Int32 × HS) → HR) (s_23 : Int32 × HS) => (
      if ((s_23.2 1).1 2) ≤ s_23.1 then (
        j_5 s_23.1 s_23.2
      ) else (
        (F_X2_accept 44 s_23.2).bind fun u_30 =>
        if u_30.1 = 0 then (
          j_5 s_23.1 u_30.2
        ) else (
          (rec 0 0 0 0 u_30.2).bind fun u_35 =>
          bnd (s_23.1 + 1) fun (x_37 : Int32) =>
          again_24 (x_37, u_35.2)
        )
      )
    )) FU (1, u_21.2)
  )
set_option maxHeartbeats 4000000 in
set_option maxRecDepth 100000 in
theorem k_X2_arguments_st (l : Launch) (dC : Nat → ClassId) (dI : Nat → Nat → Nat) (cB cC cI cJ cZ cP : ClassId) (oA : Nat → Nat) (rA : Nat → Nat → Nat) (d : Nat) (rec : HG) (hI0 : ∀ (sz : Nat)  (Γ : HS) (res : Int32 × HS), rec 0 0 0 0 Γ = some res → Met l yX2_expression (g_ws yX2_expression cX2_expression 3 none) ({ frames := 4 + d, cells := 0, slots := 0, locals := 102 + 22 * d }) (va_Pc [.ref (oA 2)] (g_B (dC, dI) [(cB, .byte), (cC, .char), (cI, .int), (cJ, .long), (cZ, .boolean), (cP, .object "StoryHouse$Play")] sz (b_g cB cC cI cJ cZ oA rA Γ ++ b_w cB cC cI cJ cZ oA rA Γ ++ b_c cB cC cI cJ cZ oA rA Γ) g_0)) (va_Qv (fun (_ : Unit) => True) (g_Bo (dC, dI) (va_A (b_g cB cC cI cJ cZ oA rA Γ ++ b_w cB cC cI cJ cZ oA rA Γ ++ b_c cB cC cI cJ cZ oA rA Γ) sz) (fun (_ : Unit) => (b_g cB cC cI cJ cZ oA rA res.2 ++ b_w cB cC cI cJ cZ oA rA res.2 ++ b_c cB cC cI cJ cZ oA rA res.2))) (va_A (b_g cB cC cI cJ cZ oA rA Γ ++ b_w cB cC cI cJ cZ oA rA Γ ++ b_c cB cC cI cJ cZ oA rA Γ) sz)) 0 0 (va_A (b_g cB cC cI cJ cZ oA rA Γ ++ b_w cB cC cI cJ cZ oA rA Γ ++ b_c cB cC cI cJ cZ oA rA Γ) sz)) (hI1 : ∀ (sz : Nat)  (Γ : HS) (res : Int32 × HS), rec 1 0 0 0 Γ = some res → Met l yX2_both (g_ws yX2_both cX2_both 3 none) ({ frames := 4 + d, cells := 0, slots := 0, locals := 102 + 22 * d }) (va_Pc [.ref (oA 2)] (g_B (dC, dI) [(cB, .byte), (cC, .char), (cI, .int), (cJ, .long), (cZ, .boolean), (cP, .object "StoryHouse$Play")] sz (b_g cB cC cI cJ cZ oA rA Γ ++ b_w cB cC cI cJ cZ oA rA Γ ++ b_c cB cC cI cJ cZ oA rA Γ) g_0)) (va_Qv (fun (_ : Unit) => True) (g_Bo (dC, dI) (va_A (b_g cB cC cI cJ cZ oA rA Γ ++ b_w cB cC cI cJ cZ oA rA Γ ++ b_c cB cC cI cJ cZ oA rA Γ) sz) (fun (_ : Unit) => (b_g cB cC cI cJ cZ oA rA res.2 ++ b_w cB cC cI cJ cZ oA rA res.2 ++ b_c cB cC cI cJ cZ oA rA res.2))) (va_A (b_g cB cC cI cJ cZ oA rA Γ ++ b_w cB cC cI cJ cZ oA rA Γ ++ b_c cB cC cI cJ cZ oA rA Γ) sz)) 0 0 (va_A (b_g cB cC cI cJ cZ oA rA Γ ++ b_w cB cC cI cJ cZ oA rA Γ ++ b_c cB cC cI cJ cZ oA rA Γ) sz)) (hI2 : ∀ (sz : Nat)  (Γ : HS) (res : Int32 × HS), rec 2 0 0 0 Γ = some res → Met l yX2_step (g_ws yX2_step cX2_step 2 none) ({ frames := 4 + d, cells := 0, slots := 0, locals := 102 + 22 * d }) (va_Pc [.ref (oA 2)] (g_B (dC, dI) [(cB, .byte), (cC, .char), (cI, .int), (cJ, .long), (cZ, .boolean), (cP, .object "StoryHouse$Play")] sz (b_g cB cC cI cJ cZ oA rA Γ ++ b_w cB cC cI cJ cZ oA rA Γ ++ b_c cB cC cI cJ cZ oA rA Γ) g_0)) (va_Qv (fun (_ : Unit) => True) (g_Bo (dC, dI) (va_A (b_g cB cC cI cJ cZ oA rA Γ ++ b_w cB cC cI cJ cZ oA rA Γ ++ b_c cB cC cI cJ cZ oA rA Γ) sz) (fun (_ : Unit) => (b_g cB cC cI cJ cZ oA rA res.2 ++ b_w cB cC cI cJ cZ oA rA res.2 ++ b_c cB cC cI cJ cZ oA rA res.2))) (va_A (b_g cB cC cI cJ cZ oA rA Γ ++ b_w cB cC cI cJ cZ oA rA Γ ++ b_c cB cC cI cJ cZ oA rA Γ) sz)) 0 0 (va_A (b_g cB cC cI cJ cZ oA rA Γ ++ b_w cB cC cI cJ cZ oA rA Γ ++ b_c cB cC cI cJ cZ oA rA Γ) sz)) (hI3 : ∀ (sz : Nat)  (Γ : HS) (res : Int32 × HS), rec 3 0 0 0 Γ = some res → Met l yX2_sum (g_ws yX2_sum cX2_sum 3 none) ({ frames := 4 + d, cells := 0, slots := 0, locals := 102 + 22 * d }) (va_Pc [.ref (oA 2)] (g_B (dC, dI) [(cB, .byte), (cC, .char), (cI, .int), (cJ, .long), (cZ, .boolean), (cP, .object "StoryHouse$Play")] sz (b_g cB cC cI cJ cZ oA rA Γ ++ b_w cB cC cI cJ cZ oA rA Γ ++ b_c cB cC cI cJ cZ oA rA Γ) g_0)) (va_Qv (fun (_ : Unit) => True) (g_Bo (dC, dI) (va_A (b_g cB cC cI cJ cZ oA rA Γ ++ b_w cB cC cI cJ cZ oA rA Γ ++ b_c cB cC cI cJ cZ oA rA Γ) sz) (fun (_ : Unit) => (b_g cB cC cI cJ cZ oA rA res.2 ++ b_w cB cC cI cJ cZ oA rA res.2 ++ b_c cB cC cI cJ cZ oA rA res.2))) (va_A (b_g cB cC cI cJ cZ oA rA Γ ++ b_w cB cC cI cJ cZ oA rA Γ ++ b_c cB cC cI cJ cZ oA rA Γ) sz)) 0 0 (va_A (b_g cB cC cI cJ cZ oA rA Γ ++ b_w cB cC cI cJ cZ oA rA Γ ++ b_c cB cC cI cJ cZ oA rA Γ) sz)) (hI4 : ∀ (sz : Nat)  (Γ : HS) (res : Int32 × HS), rec 4 0 0 0 Γ = some res → Met l yX2_term (g_ws yX2_term cX2_term 3 none) ({ frames := 4 + d, cells := 0, slots := 0, locals := 102 + 22 * d }) (va_Pc [.ref (oA 2)] (g_B (dC, dI) [(cB, .byte), (cC, .char), (cI, .int), (cJ, .long), (cZ, .boolean), (cP, .object "StoryHouse$Play")] sz (b_g cB cC cI cJ cZ oA rA Γ ++ b_w cB cC cI cJ cZ oA rA Γ ++ b_c cB cC cI cJ cZ oA rA Γ) g_0)) (va_Qv (fun (_ : Unit) => True) (g_Bo (dC, dI) (va_A (b_g cB cC cI cJ cZ oA rA Γ ++ b_w cB cC cI cJ cZ oA rA Γ ++ b_c cB cC cI cJ cZ oA rA Γ) sz) (fun (_ : Unit) => (b_g cB cC cI cJ cZ oA rA res.2 ++ b_w cB cC cI cJ cZ oA rA res.2 ++ b_c cB cC cI cJ cZ oA rA res.2))) (va_A (b_g cB cC cI cJ cZ oA rA Γ ++ b_w cB cC cI cJ cZ oA rA Γ ++ b_c cB cC cI cJ cZ oA rA Γ) sz)) 0 0 (va_A (b_g cB cC cI cJ cZ oA rA Γ ++ b_w cB cC cI cJ cZ oA rA Γ ++ b_c cB cC cI cJ cZ oA rA Γ) sz)) (hI5 : ∀ (sz : Nat)  (Γ : HS) (res : Int32 × HS), rec 5 0 0 0 Γ = some res → Met l yX2_factor (g_ws yX2_factor cX2_factor 1 none) ({ frames := 4 + d, cells := 0, slots := 0, locals := 102 + 22 * d }) (va_Pc [.ref (oA 2)] (g_B (dC, dI) [(cB, .byte), (cC, .char), (cI, .int), (cJ, .long), (cZ, .boolean), (cP, .object "StoryHouse$Play")] sz (b_g cB cC cI cJ cZ oA rA Γ ++ b_w cB cC cI cJ cZ oA rA Γ ++ b_c cB cC cI cJ cZ oA rA Γ) g_0)) (va_Qv (fun (_ : Unit) => True) (g_Bo (dC, dI) (va_A (b_g cB cC cI cJ cZ oA rA Γ ++ b_w cB cC cI cJ cZ oA rA Γ ++ b_c cB cC cI cJ cZ oA rA Γ) sz) (fun (_ : Unit) => (b_g cB cC cI cJ cZ oA rA res.2 ++ b_w cB cC cI cJ cZ oA rA res.2 ++ b_c cB cC cI cJ cZ oA rA res.2))) (va_A (b_g cB cC cI cJ cZ oA rA Γ ++ b_w cB cC cI cJ cZ oA rA Γ ++ b_c cB cC cI cJ cZ oA rA Γ) sz)) 0 0 (va_A (b_g cB cC cI cJ cZ oA rA Γ ++ b_w cB cC cI cJ cZ oA rA Γ ++ b_c cB cC cI cJ cZ oA rA Γ) sz)) (hI6 : ∀ (sz : Nat)  (Γ : HS) (res : Int32 × HS), rec 6 0 0 0 Γ = some res → Met l yX2_primary (g_ws yX2_primary cX2_primary 3 none) ({ frames := 4 + d, cells := 0, slots := 0, locals := 102 + 22 * d }) (va_Pc [.ref (oA 2)] (g_B (dC, dI) [(cB, .byte), (cC, .char), (cI, .int), (cJ, .long), (cZ, .boolean), (cP, .object "StoryHouse$Play")] sz (b_g cB cC cI cJ cZ oA rA Γ ++ b_w cB cC cI cJ cZ oA rA Γ ++ b_c cB cC cI cJ cZ oA rA Γ) g_0)) (va_Qv (fun (_ : Unit) => True) (g_Bo (dC, dI) (va_A (b_g cB cC cI cJ cZ oA rA Γ ++ b_w cB cC cI cJ cZ oA rA Γ ++ b_c cB cC cI cJ cZ oA rA Γ) sz) (fun (_ : Unit) => (b_g cB cC cI cJ cZ oA rA res.2 ++ b_w cB cC cI cJ cZ oA rA res.2 ++ b_c cB cC cI cJ cZ oA rA res.2))) (va_A (b_g cB cC cI cJ cZ oA rA Γ ++ b_w cB cC cI cJ cZ oA rA Γ ++ b_c cB cC cI cJ cZ oA rA Γ) sz)) 0 0 (va_A (b_g cB cC cI cJ cZ oA rA Γ ++ b_w cB cC cI cJ cZ oA rA Γ ++ b_c cB cC cI cJ cZ oA rA Γ) sz)) (hI7 : ∀ (sz : Nat) (p0 : Int32) (Γ : HS) (res : Int32 × HS), rec 7 p0 0 0 Γ = some res → Met l yX2_arguments (g_ws yX2_arguments cX2_arguments 3 none) ({ frames := 4 + d, cells := 0, slots := 0, locals := 102 + 22 * d }) (va_Pc [.ref (oA 2), .int p0] (g_B (dC, dI) [(cB, .byte), (cC, .char), (cI, .int), (cJ, .long), (cZ, .boolean), (cP, .object "StoryHouse$Play")] sz (b_g cB cC cI cJ cZ oA rA Γ ++ b_w cB cC cI cJ cZ oA rA Γ ++ b_c cB cC cI cJ cZ oA rA Γ) g_0)) (va_Qv (fun (_ : Unit) => True) (g_Bo (dC, dI) (va_A (b_g cB cC cI cJ cZ oA rA Γ ++ b_w cB cC cI cJ cZ oA rA Γ ++ b_c cB cC cI cJ cZ oA rA Γ) sz) (fun (_ : Unit) => (b_g cB cC cI cJ cZ oA rA res.2 ++ b_w cB cC cI cJ cZ oA rA res.2 ++ b_c cB cC cI cJ cZ oA rA res.2))) (va_A (b_g cB cC cI cJ cZ oA rA Γ ++ b_w cB cC cI cJ cZ oA rA Γ ++ b_c cB cC cI cJ cZ oA rA Γ) sz)) 0 0 (va_A (b_g cB cC cI cJ cZ oA rA Γ ++ b_w cB cC cI cJ cZ oA rA Γ ++ b_c cB cC cI cJ cZ oA rA Γ) sz)) (hI8 : ∀ (sz : Nat)  (Γ : HS) (res : Int32 × HS), rec 8 0 0 0 Γ = some res → Met l yX2_index (g_ws yX2_index cX2_index 1 none) ({ frames := 4 + d, cells := 0, slots := 0, locals := 102 + 22 * d }) (va_Pc [.ref (oA 2)] (g_B (dC, dI) [(cB, .byte), (cC, .char), (cI, .int), (cJ, .long), (cZ, .boolean), (cP, .object "StoryHouse$Play")] sz (b_g cB cC cI cJ cZ oA rA Γ ++ b_w cB cC cI cJ cZ oA rA Γ ++ b_c cB cC cI cJ cZ oA rA Γ) g_0)) (va_Qv (fun (_ : Unit) => True) (g_Bo (dC, dI) (va_A (b_g cB cC cI cJ cZ oA rA Γ ++ b_w cB cC cI cJ cZ oA rA Γ ++ b_c cB cC cI cJ cZ oA rA Γ) sz) (fun (_ : Unit) => (b_g cB cC cI cJ cZ oA rA res.2 ++ b_w cB cC cI cJ cZ oA rA res.2 ++ b_c cB cC cI cJ cZ oA rA res.2))) (va_A (b_g cB cC cI cJ cZ oA rA Γ ++ b_w cB cC cI cJ cZ oA rA Γ ++ b_c cB cC cI cJ cZ oA rA Γ) sz)) 0 0 (va_A (b_g cB cC cI cJ cZ oA rA Γ ++ b_w cB cC cI cJ cZ oA rA Γ ++ b_c cB cC cI cJ cZ oA rA Γ) sz)) (sz : Nat)  (p0 : Int32) (Γ : HS) (res : Int32 × HS) (hF : F_X2_arguments rec p0 Γ = some res) : Met l yX2_arguments (g_ws yX2_arguments cX2_arguments 3 none) ({ frames := 4 + (d + 1), cells := 0, slots := 0, locals := 102 + 22 * (d + 1) }) (va_Pc [.ref (oA 2), .int p0] (g_B (dC, dI) [(cB, .byte), (cC, .char), (cI, .int), (cJ, .long), (cZ, .boolean), (cP, .object "StoryHouse$Play")] sz (b_g cB cC cI cJ cZ oA rA Γ ++ b_w cB cC cI cJ cZ oA rA Γ ++ b_c cB cC cI cJ cZ oA rA Γ) g_0)) (va_Qv (fun (_ : Unit) => True) (g_Bo (dC, dI) (va_A (b_g cB cC cI cJ cZ oA rA Γ ++ b_w cB cC cI cJ cZ oA rA Γ ++ b_c cB cC cI cJ cZ oA rA Γ) sz) (fun (_ : Unit) => (b_g cB cC cI cJ cZ oA rA res.2 ++ b_w cB cC cI cJ cZ oA rA res.2 ++ b_c cB cC cI cJ cZ oA rA res.2))) (va_A (b_g cB cC cI cJ cZ oA rA Γ ++ b_w cB cC cI cJ cZ oA rA Γ ++ b_c cB cC cI cJ cZ oA rA Γ) sz)) 0 0 (va_A (b_g cB cC cI cJ cZ oA rA Γ ++ b_w cB cC cI cJ cZ oA rA Γ ++ b_c cB cC cI cJ cZ oA rA Γ) sz) := by
  refine Met.ofW (cc := cX2_arguments) (maxL := 3) (ret := none) (by decide) rfl ?_
  intro p e s m args below meth c s₁ B hml hv
  obtain ⟨rfl, hsz, hP, hK, hD0, hE, hX⟩ := hv
  have hx := B.exec
  have hb := B.bytes
  have hr := B.returns
  have hts0 := atoms_spec (ws := g_ws yX2_arguments cX2_arguments 3 none) B.pre
  have hts : ∀ w ∈ lw_good, w.before ([.ref (oA 2), .int p0] : List Value).toArray s = true := fun w z => hts0 w (List.mem_cons_of_mem _ z)
  have hown : s.vm.findClass RX2 = some m.cls := findClass_of_methodNamed B.named
  have hlocks := B.notSynchronized
  subst hsz
  have hD1 := hD0.self (sz := s.heap.size)
  generalize hAe : va_A (b_g cB cC cI cJ cZ oA rA Γ ++ b_w cB cC cI cJ cZ oA rA Γ ++ b_c cB cC cI cJ cZ oA rA Γ) s.heap.size = A at hD1 hE hX ⊢
  have hA : ∀ q : Nat, s.heap.size ≤ q → A q := fun q z => by rw [← hAe]; exact Or.inr z
  have hDD : ∀ Γ : HS, va_D A (b_g cB cC cI cJ cZ oA rA Γ ++ b_w cB cC cI cJ cZ oA rA Γ ++ b_c cB cC cI cJ cZ oA rA Γ) := fun Γ9 => va_D_fst (ws := (b_g cB cC cI cJ cZ oA rA Γ ++ b_w cB cC cI cJ cZ oA rA Γ ++ b_c cB cC cI cJ cZ oA rA Γ)) (ws' := (b_g cB cC cI cJ cZ oA rA Γ9 ++ b_w cB cC cI cJ cZ oA rA Γ9 ++ b_c cB cC cI cJ cZ oA rA Γ9)) rfl hD1
  have hN := hE.1
  have hS : va_S A s.heap s.heap [] := va_S.rf
  have hl := lv_entry ([.ref (oA 2), .int p0]) (n := 3) (Nat.le_of_ble_eq_true rfl)
  rw [lg_entry_eq]
  generalize (lg_sl ([.ref (oA 2), .int p0]) ++ List.replicate (3 - (lg_sl ([.ref (oA 2), .int p0])).length) Slot.unset).toArray = ls at hl ⊢
  have hl : lv_has ls 3 [(0, .ref (oA 2)), (1, .int p0)] := hl
  unfold F_X2_arguments at hF
  refine lv_iconst (v := 0) hx hb dX2_arguments_0 (by decide +kernel) ?_
  refine lv_istore_n (lv' := [(2, .int 0), (0, .ref (oA 2)), (1, .int p0)]) hx hb dX2_arguments_1 rfl hl (by decide) rfl (fun ls hl => ?_)
  refine lv_aload_n hx hb dX2_arguments_2 rfl (lv_at hl 1 rfl) ?_
  obtain ⟨u_1, hu_1, hF_2⟩ := Option.bind_eq_some_iff.mp hF
  clear hF
  have hPc := bx_P (bs := [b_g cB cC cI cJ cZ oA rA Γ, b_w cB cC cI cJ cZ oA rA Γ, b_c cB cC cI cJ cZ oA rA Γ]) (bs' := [b_g cB cC cI cJ cZ oA rA Γ, b_w cB cC cI cJ cZ oA rA Γ, b_c cB cC cI cJ cZ oA rA Γ]) (ws' := (b_g cB cC cI cJ cZ oA rA Γ ++ b_w cB cC cI cJ cZ oA rA Γ ++ b_c cB cC cI cJ cZ oA rA Γ)) hP fl_3 fl_3 [0, 1, 2] rfl
  have hDc := bx_D (bs := [b_g cB cC cI cJ cZ oA rA Γ, b_w cB cC cI cJ cZ oA rA Γ, b_c cB cC cI cJ cZ oA rA Γ]) (bs' := [b_g cB cC cI cJ cZ oA rA Γ, b_w cB cC cI cJ cZ oA rA Γ, b_c cB cC cI cJ cZ oA rA Γ]) (ws' := (b_g cB cC cI cJ cZ oA rA Γ ++ b_w cB cC cI cJ cZ oA rA Γ ++ b_c cB cC cI cJ cZ oA rA Γ)) (hDD Γ) fl_3 fl_3 [0, 1, 2] (by decide +kernel) rfl
  have hFc := bx_F (bs := [b_g cB cC cI cJ cZ oA rA Γ, b_w cB cC cI cJ cZ oA rA Γ, b_c cB cC cI cJ cZ oA rA Γ]) (bs' := [b_g cB cC cI cJ cZ oA rA Γ, b_w cB cC cI cJ cZ oA rA Γ, b_c cB cC cI cJ cZ oA rA Γ]) (wc := (b_g cB cC cI cJ cZ oA rA Γ ++ b_w cB cC cI cJ cZ oA rA Γ ++ b_c cB cC cI cJ cZ oA rA Γ)) (hDD Γ) hS hA fl_3 fl_3 [0, 1, 2] rfl
  refine g_ofv (wc := (b_g cB cC cI cJ cZ oA rA Γ ++ b_w cB cC cI cJ cZ oA rA Γ ++ b_c cB cC cI cJ cZ oA rA Γ)) (wr := ([] : va_W)) hP (hDD Γ) hS hFc (bx_ix [b_g cB cC cI cJ cZ oA rA Γ, b_w cB cC cI cJ cZ oA rA Γ, b_c cB cC cI cJ cZ oA rA Γ] [0, 1, 2]) (bx_ix [b_g cB cC cI cJ cZ oA rA Γ, b_w cB cC cI cJ cZ oA rA Γ, b_c cB cC cI cJ cZ oA rA Γ] []) (bx_C (bs := [b_g cB cC cI cJ cZ oA rA Γ, b_w cB cC cI cJ cZ oA rA Γ, b_c cB cC cI cJ cZ oA rA Γ]) (bs' := [b_g cB cC cI cJ cZ oA rA Γ, b_w cB cC cI cJ cZ oA rA Γ, b_c cB cC cI cJ cZ oA rA Γ]) (is := [0, 1, 2]) fl_3 fl_3 rfl) (bx_C (bs := [b_g cB cC cI cJ cZ oA rA Γ, b_w cB cC cI cJ cZ oA rA Γ, b_c cB cC cI cJ cZ oA rA Γ]) (bs' := []) (is := []) fl_3 fl_0 rfl) (bx_n (by decide +kernel)) (bx_d (by decide +kernel)) (va_runV (As := []) (rest := []) ⟨hx, hb, hml, hown, hts⟩ (k_X2_deepen l dC dI cB cC cI cJ cZ cP oA rA s.heap.size  Γ _ hu_1) (cwV 0 hts (g_gV wq_570 wq_571 wq_2002 wq_3 wq_572) rfl rfl rfl (by decide +kernel) ⟨by show 2 + 1 ≤ 4 + (d + 1); omega, by show 8 + (1 + 11) + 61 ≤ 102 + 22 * (d + 1); omega⟩) (g_preV g_bl0 hK hPc hDc hS hE hFc g_to0 (q0 := 0) (ci := 2) rfl rfl) rfl rfl hl.1 rfl (lv_room (Nat.le_of_ble_eq_true rfl)) dX2_arguments_3 ⟨Nat.le_of_ble_eq_true rfl, Nat.le_of_ble_eq_true rfl⟩) (fun u9 H locs hw9 hP' hD' hS => ?_)
  clear hPc hDc hFc
  have hP : va_P (dC, dI) vwCl (b_g cB cC cI cJ cZ oA rA u_1.2 ++ b_w cB cC cI cJ cZ oA rA u_1.2 ++ b_c cB cC cI cJ cZ oA rA u_1.2) H := hP'
  clear hP' hD'
  refine lv_aload_n hx hb dX2_arguments_6 rfl (lv_at hl 1 rfl) ?_
  refine va_get (D := (dC, dI)) (ci := 2) (v := .int ((u_1.2 2).1 3)) (C := RX2) (T := TX2) (N := 8) hx hb hts ii_X2 hown hK hP 0 rfl rfl 3 (by decide) (hts (.fieldLink RX2 29 "StoryHouse$Grammar" "kind" "I") wq_74) (fun _ h9 => h9) rfl dX2_arguments_7 ?_
  refine lv_bipush (v := 41) hx hb dX2_arguments_10 (by decide +kernel) ?_
  obtain ⟨j_5, ej_5, hF_6⟩ := bnd_e hF_2
  clear hF_2
  have Jj_5 : ∀ (v2_3 : Int32) (σ_4 : HS), j_5 v2_3 σ_4 = some res → ∀ (H : Heap) (locs : List Loc), va_P (dC, dI) vwCl (b_g cB cC cI cJ cZ oA rA σ_4 ++ b_w cB cC cI cJ cZ oA rA σ_4 ++ b_c cB cC cI cJ cZ oA rA σ_4) H → va_S A s.heap H locs → ∀ ls : Array Slot, lv_has ls 3 [(0, .ref (oA 2)), (1, .int p0), (2, .int v2_3)] → W p l e (headSpec (g_ws yX2_arguments cX2_arguments 3 none) { frames := 4 + (d + 1), cells := 0, slots := 0, locals := 102 + 22 * (d + 1) }).room s m ([.ref (oA 2), .int p0] : List Value).toArray below meth c H locs 0 0 (MQ below (va_Qv (fun (_ : Unit) => True) (g_Bo (dC, dI) A (fun (_ : Unit) => (b_g cB cC cI cJ cZ oA rA res.2 ++ b_w cB cC cI cJ cZ oA rA res.2 ++ b_c cB cC cI cJ cZ oA rA res.2))) A) ([.ref (oA 2), .int p0] : List Value).toArray s 0 0 A) (F0 m 51 ls []) := by
    intro v2_3 σ_4 hF0 H locs hP hS ls hl
    subst ej_5
    have hF_7 := hF0
    clear hF0
    refine lv_aload_n hx hb dX2_arguments_51 rfl (lv_at hl 0 rfl) ?_
    refine lv_dup hx hb dX2_arguments_52 rfl ?_
    refine va_get (D := (dC, dI)) (ci := 2) (v := .int ((σ_4 2).1 4)) (C := RX2) (T := TX2) (N := 8) hx hb hts ii_X2 hown hK hP 0 rfl rfl 4 (by decide) (hts (.fieldLink RX2 32 "StoryHouse$Grammar" "nest" "I") wq_75) (fun _ h9 => h9) rfl dX2_arguments_53 ?_
    refine lv_iconst (v := 1) hx hb dX2_arguments_56 (by decide +kernel) ?_
    refine lv_isub hx hb dX2_arguments_57 ?_
    obtain ⟨σ_8, eσ_8, hF_9⟩ := bnd_e hF_7
    clear hF_7
    refine va_put (D := (dC, dI)) (ci := 2) (v := .int (((σ_4 2).1 4) - 1)) (ty := .int) (C := RX2) (T := TX2) (N := 8) hx hb hts ii_X2 tyX2 tyX2_ok nmX2 hown hK hP (hDD _) hS 0 rfl rfl 4 (by decide) (hts (.fieldLink RX2 32 "StoryHouse$Grammar" "nest" "I") wq_75) (fun _ h9 => h9) rfl (by decide +kernel) rfl rfl (Nat.le_of_ble_eq_true rfl) dX2_arguments_58 (fun H locs hP' _ hS => ?_)
    have hP : va_P (dC, dI) vwCl (b_g cB cC cI cJ cZ oA rA σ_8 ++ b_w cB cC cI cJ cZ oA rA σ_8 ++ b_c cB cC cI cJ cZ oA rA σ_8) H := by rw [eσ_8]; exact cs_gwc_g_4 ▸ hP'
    clear hP'
    refine lv_aload_n hx hb dX2_arguments_61 rfl (lv_at hl 0 rfl) ?_
    refine lv_bipush (v := 41) hx hb dX2_arguments_62 (by decide +kernel) ?_
    obtain ⟨u_10, hu_10, hF_11⟩ := Option.bind_eq_some_iff.mp hF_9
    clear hF_9
    have hPc := bx_P (bs := [b_g cB cC cI cJ cZ oA rA σ_8, b_w cB cC cI cJ cZ oA rA σ_8, b_c cB cC cI cJ cZ oA rA σ_8]) (bs' := [b_g cB cC cI cJ cZ oA rA σ_8, b_w cB cC cI cJ cZ oA rA σ_8, b_c cB cC cI cJ cZ oA rA σ_8]) (ws' := (b_g cB cC cI cJ cZ oA rA σ_8 ++ b_w cB cC cI cJ cZ oA rA σ_8 ++ b_c cB cC cI cJ cZ oA rA σ_8)) hP fl_3 fl_3 [0, 1, 2] rfl
    have hDc := bx_D (bs := [b_g cB cC cI cJ cZ oA rA σ_8, b_w cB cC cI cJ cZ oA rA σ_8, b_c cB cC cI cJ cZ oA rA σ_8]) (bs' := [b_g cB cC cI cJ cZ oA rA σ_8, b_w cB cC cI cJ cZ oA rA σ_8, b_c cB cC cI cJ cZ oA rA σ_8]) (ws' := (b_g cB cC cI cJ cZ oA rA σ_8 ++ b_w cB cC cI cJ cZ oA rA σ_8 ++ b_c cB cC cI cJ cZ oA rA σ_8)) (hDD σ_8) fl_3 fl_3 [0, 1, 2] (by decide +kernel) rfl
    have hFc := bx_F (bs := [b_g cB cC cI cJ cZ oA rA σ_8, b_w cB cC cI cJ cZ oA rA σ_8, b_c cB cC cI cJ cZ oA rA σ_8]) (bs' := [b_g cB cC cI cJ cZ oA rA σ_8, b_w cB cC cI cJ cZ oA rA σ_8, b_c cB cC cI cJ cZ oA rA σ_8]) (wc := (b_g cB cC cI cJ cZ oA rA σ_8 ++ b_w cB cC cI cJ cZ oA rA σ_8 ++ b_c cB cC cI cJ cZ oA rA σ_8)) (hDD σ_8) hS hA fl_3 fl_3 [0, 1, 2] rfl
    refine g_ofv (wc := (b_g cB cC cI cJ cZ oA rA σ_8 ++ b_w cB cC cI cJ cZ oA rA σ_8 ++ b_c cB cC cI cJ cZ oA rA σ_8)) (wr := ([] : va_W)) hP (hDD σ_8) hS hFc (bx_ix [b_g cB cC cI cJ cZ oA rA σ_8, b_w cB cC cI cJ cZ oA rA σ_8, b_c cB cC cI cJ cZ oA rA σ_8] [0, 1, 2]) (bx_ix [b_g cB cC cI cJ cZ oA rA σ_8, b_w cB cC cI cJ cZ oA rA σ_8, b_c cB cC cI cJ cZ oA rA σ_8] []) (bx_C (bs := [b_g cB cC cI cJ cZ oA rA σ_8, b_w cB cC cI cJ cZ oA rA σ_8, b_c cB cC cI cJ cZ oA rA σ_8]) (bs' := [b_g cB cC cI cJ cZ oA rA σ_8, b_w cB cC cI cJ cZ oA rA σ_8, b_c cB cC cI cJ cZ oA rA σ_8]) (is := [0, 1, 2]) fl_3 fl_3 rfl) (bx_C (bs := [b_g cB cC cI cJ cZ oA rA σ_8, b_w cB cC cI cJ cZ oA rA σ_8, b_c cB cC cI cJ cZ oA rA σ_8]) (bs' := []) (is := []) fl_3 fl_0 rfl) (bx_n (by decide +kernel)) (bx_d (by decide +kernel)) (va_runV (As := [.int 41]) (rest := []) ⟨hx, hb, hml, hown, hts⟩ (k_X2_need l dC dI cB cC cI cJ cZ cP oA rA H.size  41 σ_8 _ hu_10) (cwV 1 hts (g_gV wq_564 wq_565 wq_2000 wq_3 wq_566) rfl rfl rfl (by decide +kernel) ⟨by show 2 + 1 ≤ 4 + (d + 1); omega, by show 8 + (2 + 11) + 61 ≤ 102 + 22 * (d + 1); omega⟩) (g_preV g_bl0 hK hPc hDc hS hE hFc g_to0 (q0 := 0) (ci := 2) rfl rfl) rfl rfl hl.1 rfl (lv_room (Nat.le_of_ble_eq_true rfl)) dX2_arguments_64 ⟨Nat.le_of_ble_eq_true rfl, Nat.le_of_ble_eq_true rfl⟩) (fun u9 H locs hw9 hP' hD' hS => ?_)
    clear hPc hDc hFc
    have hP : va_P (dC, dI) vwCl (b_g cB cC cI cJ cZ oA rA u_10.2 ++ b_w cB cC cI cJ cZ oA rA u_10.2 ++ b_c cB cC cI cJ cZ oA rA u_10.2) H := hP'
    clear hP' hD'
    refine lv_aload_n hx hb dX2_arguments_67 rfl (lv_at hl 0 rfl) ?_
    refine va_get (D := (dC, dI)) (ci := 2) (v := .ref (oA 1)) (C := RX2) (T := TX2) (N := 8) hx hb hts ii_X2 hown hK hP 0 rfl rfl 0 (by decide) (hts (.fieldLink RX2 9 "StoryHouse$Grammar" "words" "LStoryHouse$Words;") wq_71) (fun _ h9 => h9) rfl dX2_arguments_68 ?_
    refine va_get (D := (dC, dI)) (ci := 10) (v := .ref (rA 1 6)) (C := RX10) (T := TX10) (N := 12) hx hb hts ii_X10 hown hK hP 1 rfl rfl 6 (by decide) (hts (.fieldLink RX2 96 "StoryHouse$Words" "notes" "[I") wq_53) (fun _ h9 => h9) rfl dX2_arguments_71 ?_
    refine lv_iload_n hx hb dX2_arguments_74 rfl (lv_at hl 1 rfl) ?_
    refine lv_iload_n hx hb dX2_arguments_75 rfl (lv_at hl 2 rfl) ?_
    have hq9 : ((b_g cB cC cI cJ cZ oA rA u_10.2 ++ b_w cB cC cI cJ cZ oA rA u_10.2 ++ b_c cB cC cI cJ cZ oA rA u_10.2))[6]? = some (rA 1 6, .inl (cI, 16001, .inl ((u_10.2 1).2.1 6))) := rfl
    have hPc := hP.sub (ws' := [(rA 1 6, .inl (cI, 16001, .inl ((u_10.2 1).2.1 6)))]) [6] (pk_fm (er_C hq9))
    have hDc := (hDD u_10.2).sub (ws' := [(rA 1 6, .inl (cI, 16001, .inl ((u_10.2 1).2.1 6)))]) [6] (by decide +kernel) (er_C hq9)
    have hFc := va_free (wc := [(rA 1 6, .inl (cI, 16001, .inl ((u_10.2 1).2.1 6)))]) (hDD u_10.2) hS hA [6] (er_C hq9)
    refine g_ofv (wc := [(rA 1 6, .inl (cI, 16001, .inl ((u_10.2 1).2.1 6)))]) (wr := (((b_g cB cC cI cJ cZ oA rA u_10.2 ++ b_w cB cC cI cJ cZ oA rA u_10.2 ++ b_c cB cC cI cJ cZ oA rA u_10.2)).eraseIdx 6)) hP (hDD u_10.2) hS hFc [6] ((List.range ((b_g cB cC cI cJ cZ oA rA u_10.2 ++ b_w cB cC cI cJ cZ oA rA u_10.2 ++ b_c cB cC cI cJ cZ oA rA u_10.2)).length).eraseIdx 6) (er_C hq9) er_R er_n er_d (va_runSN (As := [.ref (rA 1 6), .int p0, .int v2_3]) (rest := []) ⟨hx, hb, hml, hown, hts⟩ (c_X11_put l dC dI cB cC cI cJ cZ cP H.size (rA 1 6) p0 v2_3 16001 ((u_10.2 1).2.1 6) (by decide)) ⟨va_cnB 3 hts (g_gA wq_412) rfl rfl rfl (nw_20 hN) (hts (.initialized RX11) wq_1) (by decide +kernel) ⟨by show 1 + 1 ≤ 4 + (d + 1); omega, by show 8 + (3 + 11) + 40 ≤ 102 + 22 * (d + 1); omega⟩, (hts (.static yX11_put) wq_411), trivial⟩ (g_preS g_bl0 hK hPc hDc hS hE hFc g_to0) rfl rfl hl.1 rfl (lv_room (Nat.le_of_ble_eq_true rfl)) dX2_arguments_76 ⟨Nat.le_of_ble_eq_true rfl, Nat.le_of_ble_eq_true rfl⟩) (fun g9 H locs hw9 hP' hD' hS => ?_)
    clear hPc hDc hFc hD'
    obtain ⟨σ_12, eσ_12, hF_13⟩ := bnd_e hF_11
    clear hF_11
    subst hw9
    have hP : va_P (dC, dI) vwCl (b_g cB cC cI cJ cZ oA rA σ_12 ++ b_w cB cC cI cJ cZ oA rA σ_12 ++ b_c cB cC cI cJ cZ oA rA σ_12) H := by rw [eσ_12]; exact cs_gwc_w_6 ▸ er_P hP' (er_lt hq9)
    clear hP' hq9
    refine lv_aload_n hx hb dX2_arguments_79 rfl (lv_at hl 0 rfl) ?_
    refine va_get (D := (dC, dI)) (ci := 2) (v := .ref (oA 5)) (C := RX2) (T := TX2) (N := 8) hx hb hts ii_X2 hown hK hP 0 rfl rfl 1 (by decide) (hts (.fieldLink RX2 15 "StoryHouse$Grammar" "code" "LStoryHouse$Code;") wq_72) (fun _ h9 => h9) rfl dX2_arguments_80 ?_
    refine lv_bipush (v := 40) hx hb dX2_arguments_83 (by decide +kernel) ?_
    refine lv_iload_n hx hb dX2_arguments_85 rfl (lv_at hl 1 rfl) ?_
    obtain ⟨u_14, hu_14, hF_15⟩ := Option.bind_eq_some_iff.mp hF_13
    clear hF_13
    have hPc := bx_P (bs := [b_g cB cC cI cJ cZ oA rA σ_12, b_w cB cC cI cJ cZ oA rA σ_12, b_c cB cC cI cJ cZ oA rA σ_12]) (bs' := [b_c cB cC cI cJ cZ oA rA σ_12]) (ws' := (b_c cB cC cI cJ cZ oA rA σ_12)) hP fl_3 fl_1 [2] rfl
    have hDc := bx_D (bs := [b_g cB cC cI cJ cZ oA rA σ_12, b_w cB cC cI cJ cZ oA rA σ_12, b_c cB cC cI cJ cZ oA rA σ_12]) (bs' := [b_c cB cC cI cJ cZ oA rA σ_12]) (ws' := (b_c cB cC cI cJ cZ oA rA σ_12)) (hDD σ_12) fl_3 fl_1 [2] (by decide +kernel) rfl
    have hFc := bx_F (bs := [b_g cB cC cI cJ cZ oA rA σ_12, b_w cB cC cI cJ cZ oA rA σ_12, b_c cB cC cI cJ cZ oA rA σ_12]) (bs' := [b_c cB cC cI cJ cZ oA rA σ_12]) (wc := (b_c cB cC cI cJ cZ oA rA σ_12)) (hDD σ_12) hS hA fl_3 fl_1 [2] rfl
    refine g_ofi (wc := (b_c cB cC cI cJ cZ oA rA σ_12)) (wr := (b_g cB cC cI cJ cZ oA rA σ_12 ++ b_w cB cC cI cJ cZ oA rA σ_12)) hP (hDD σ_12) hS hFc (bx_ix [b_g cB cC cI cJ cZ oA rA σ_12, b_w cB cC cI cJ cZ oA rA σ_12, b_c cB cC cI cJ cZ oA rA σ_12] [2]) (bx_ix [b_g cB cC cI cJ cZ oA rA σ_12, b_w cB cC cI cJ cZ oA rA σ_12, b_c cB cC cI cJ cZ oA rA σ_12] [0, 1]) (bx_C (bs := [b_g cB cC cI cJ cZ oA rA σ_12, b_w cB cC cI cJ cZ oA rA σ_12, b_c cB cC cI cJ cZ oA rA σ_12]) (bs' := [b_c cB cC cI cJ cZ oA rA σ_12]) (is := [2]) fl_3 fl_1 rfl) (bx_C (bs := [b_g cB cC cI cJ cZ oA rA σ_12, b_w cB cC cI cJ cZ oA rA σ_12, b_c cB cC cI cJ cZ oA rA σ_12]) (bs' := [b_g cB cC cI cJ cZ oA rA σ_12, b_w cB cC cI cJ cZ oA rA σ_12]) (is := [0, 1]) fl_3 fl_2 rfl) (bx_n (by decide +kernel)) (bx_d (by decide +kernel)) (va_runV (As := [.int 40, .int p0]) (rest := []) ⟨hx, hb, hml, hown, hts⟩ (k_X0_add_ l dC dI cB cC cI cJ cZ cP oA rA H.size  40 p0 σ_12 _ hu_14) (cwV 2 hts (g_gV wq_656 wq_657 wq_658 wq_6 wq_659) rfl rfl rfl (by decide +kernel) ⟨by show 1 + 1 ≤ 4 + (d + 1); omega, by show 8 + (3 + 11) + 40 ≤ 102 + 22 * (d + 1); omega⟩) (g_preV g_bl0 hK hPc hDc hS hE hFc g_to0 (q0 := 0) (ci := 0) rfl rfl) rfl rfl hl.1 rfl (lv_room (Nat.le_of_ble_eq_true rfl)) dX2_arguments_86 ⟨Nat.le_of_ble_eq_true rfl, Nat.le_of_ble_eq_true rfl⟩) (fun r9 u9 H locs hw9 hP' hD' hS => ?_)
    clear hPc hDc hFc
    subst hw9
    obtain ⟨σ_16, eσ_16, hF_17⟩ := bnd_e hF_15
    clear hF_15
    have hP : va_P (dC, dI) vwCl (b_g cB cC cI cJ cZ oA rA σ_16 ++ b_w cB cC cI cJ cZ oA rA σ_16 ++ b_c cB cC cI cJ cZ oA rA σ_16) H := by rw [eσ_16]; exact bx_P (bs := [b_g cB cC cI cJ cZ oA rA σ_12, b_w cB cC cI cJ cZ oA rA σ_12] ++ [b_c cB cC cI cJ cZ oA rA u_14.2]) (bs' := [b_g cB cC cI cJ cZ oA rA (mrg (fun j => j == 5) σ_12 u_14.2), b_w cB cC cI cJ cZ oA rA (mrg (fun j => j == 5) σ_12 u_14.2), b_c cB cC cI cJ cZ oA rA (mrg (fun j => j == 5) σ_12 u_14.2)]) hP' (fl_a fl_2 fl_1) fl_3 [0, 1, 2] rfl
    clear hP' hD'
    refine lv_pop hx hb dX2_arguments_89 rfl ?_
    have h9 := Option.some.inj hF_17
    subst h9
    exact W.vret hx hb hr (fun t ht hW => ⟨⟨(), rfl, trivial, m_end ht hP, hDD _⟩, hS.F ht⟩) hS.2.2 dX2_arguments_90
  refine lv_icmp_eq (tgt := 51) hx hb dX2_arguments_12 (by decide) (fun c_18 => ?_) (fun c_18 => ?_)
  · have hF_19 := ipos c_18 hF_6
    clear hF_6
    exact Jj_5 0 u_1.2 hF_19 _ _ hP hS ls (lv_sub hl [1, 2, 0] rfl)
  · have hF_20 := ineg c_18 hF_6
    clear hF_6
    refine lv_aload_n hx hb dX2_arguments_15 rfl (lv_at hl 1 rfl) ?_
    obtain ⟨u_21, hu_21, hF_22⟩ := Option.bind_eq_some_iff.mp hF_20
    clear hF_20
    have hPc := bx_P (bs := [b_g cB cC cI cJ cZ oA rA u_1.2, b_w cB cC cI cJ cZ oA rA u_1.2, b_c cB cC cI cJ cZ oA rA u_1.2]) (bs' := [b_g cB cC cI cJ cZ oA rA u_1.2, b_w cB cC cI cJ cZ oA rA u_1.2, b_c cB cC cI cJ cZ oA rA u_1.2]) (ws' := (b_g cB cC cI cJ cZ oA rA u_1.2 ++ b_w cB cC cI cJ cZ oA rA u_1.2 ++ b_c cB cC cI cJ cZ oA rA u_1.2)) hP fl_3 fl_3 [0, 1, 2] rfl
    have hDc := bx_D (bs := [b_g cB cC cI cJ cZ oA rA u_1.2, b_w cB cC cI cJ cZ oA rA u_1.2, b_c cB cC cI cJ cZ oA rA u_1.2]) (bs' := [b_g cB cC cI cJ cZ oA rA u_1.2, b_w cB cC cI cJ cZ oA rA u_1.2, b_c cB cC cI cJ cZ oA rA u_1.2]) (ws' := (b_g cB cC cI cJ cZ oA rA u_1.2 ++ b_w cB cC cI cJ cZ oA rA u_1.2 ++ b_c cB cC cI cJ cZ oA rA u_1.2)) (hDD u_1.2) fl_3 fl_3 [0, 1, 2] (by decide +kernel) rfl
    have hFc := bx_F (bs := [b_g cB cC cI cJ cZ oA rA u_1.2, b_w cB cC cI cJ cZ oA rA u_1.2, b_c cB cC cI cJ cZ oA rA u_1.2]) (bs' := [b_g cB cC cI cJ cZ oA rA u_1.2, b_w cB cC cI cJ cZ oA rA u_1.2, b_c cB cC cI cJ cZ oA rA u_1.2]) (wc := (b_g cB cC cI cJ cZ oA rA u_1.2 ++ b_w cB cC cI cJ cZ oA rA u_1.2 ++ b_c cB cC cI cJ cZ oA rA u_1.2)) (hDD u_1.2) hS hA fl_3 fl_3 [0, 1, 2] rfl
    refine g_ofv (wc := (b_g cB cC cI cJ cZ oA rA u_1.2 ++ b_w cB cC cI cJ cZ oA rA u_1.2 ++ b_c cB cC cI cJ cZ oA rA u_1.2)) (wr := ([] : va_W)) hP (hDD u_1.2) hS hFc (bx_ix [b_g cB cC cI cJ cZ oA rA u_1.2, b_w cB cC cI cJ cZ oA rA u_1.2, b_c cB cC cI cJ cZ oA rA u_1.2] [0, 1, 2]) (bx_ix [b_g cB cC cI cJ cZ oA rA u_1.2, b_w cB cC cI cJ cZ oA rA u_1.2, b_c cB cC cI cJ cZ oA rA u_1.2] []) (bx_C (bs := [b_g cB cC cI cJ cZ oA rA u_1.2, b_w cB cC cI cJ cZ oA rA u_1.2, b_c cB cC cI cJ cZ oA rA u_1.2]) (bs' := [b_g cB cC cI cJ cZ oA rA u_1.2, b_w cB cC cI cJ cZ oA rA u_1.2, b_c cB cC cI cJ cZ oA rA u_1.2]) (is := [0, 1, 2]) fl_3 fl_3 rfl) (bx_C (bs := [b_g cB cC cI cJ cZ oA rA u_1.2, b_w cB cC cI cJ cZ oA rA u_1.2, b_c cB cC cI cJ cZ oA rA u_1.2]) (bs' := []) (is := []) fl_3 fl_0 rfl) (bx_n (by decide +kernel)) (bx_d (by decide +kernel)) (va_runV (As := []) (rest := []) ⟨hx, hb, hml, hown, hts⟩ (hI0 H.size u_1.2 _ hu_21) (cwV 0 hts (g_gV wq_627 wq_628 wq_2016 wq_3 wq_629) rfl rfl rfl (by decide +kernel) ⟨by show 4 + d + 1 ≤ 4 + (d + 1); omega, by show 8 + (3 + 11) + (102 + 22 * d) ≤ 102 + 22 * (d + 1); omega⟩) (g_preV g_bl0 hK hPc hDc hS hE hFc g_to0 (q0 := 0) (ci := 2) rfl rfl) rfl rfl hl.1 rfl (lv_room (Nat.le_of_ble_eq_true rfl)) dX2_arguments_16 ⟨Nat.le_of_ble_eq_true rfl, Nat.le_of_ble_eq_true rfl⟩) (fun u9 H locs hw9 hP' hD' hS => ?_)
    clear hPc hDc hFc
    have hP : va_P (dC, dI) vwCl (b_g cB cC cI cJ cZ oA rA u_21.2 ++ b_w cB cC cI cJ cZ oA rA u_21.2 ++ b_c cB cC cI cJ cZ oA rA u_21.2) H := hP'
    clear hP' hD'
    refine lv_iconst (v := 1) hx hb dX2_arguments_19 (by decide +kernel) ?_
    refine lv_istore_n (lv' := [(2, .int 1), (0, .ref (oA 2)), (1, .int p0)]) hx hb dX2_arguments_20 rfl hl (by decide) rfl (fun ls hl => ?_)
    refine loopF_ind (P := fun (s_23 : Int32 × HS) => ∀ (H : Heap) (locs : List Loc), va_P (dC, dI) vwCl (b_g cB cC cI cJ cZ oA rA s_23.2 ++ b_w cB cC cI cJ cZ oA rA s_23.2 ++ b_c cB cC cI cJ cZ oA rA s_23.2) H → va_S A s.heap H locs → ∀ ls : Array Slot, lv_has ls 3 [(0, .ref (oA 2)), (1, .int p0), (2, .int s_23.1)] → W p l e (headSpec (g_ws yX2_arguments cX2_arguments 3 none) { frames := 4 + (d + 1), cells := 0, slots := 0, locals := 102 + 22 * (d + 1) }).room s m ([.ref (oA 2), .int p0] : List Value).toArray below meth c H locs 0 0 (MQ below (va_Qv (fun (_ : Unit) => True) (g_Bo (dC, dI) A (fun (_ : Unit) => (b_g cB cC cI cJ cZ oA rA res.2 ++ b_w cB cC cI cJ cZ oA rA res.2 ++ b_c cB cC cI cJ cZ oA rA res.2))) A) ([.ref (oA 2), .int p0] : List Value).toArray s 0 0 A) (F0 m 21 ls [])) ?_ _ _ hF_22 _ _ hP hS ls (lv_sub hl [1, 2, 0] rfl)
    intro again_24 s_23 ih_25 hF_26
    intro H locs hP hS ls hl
    refine lv_iload_n hx hb dX2_arguments_21 rfl (lv_at hl 2 rfl) ?_
    refine lv_aload_n hx hb dX2_arguments_22 rfl (lv_at hl 0 rfl) ?_
    refine va_get (D := (dC, dI)) (ci := 2) (v := .ref (oA 1)) (C := RX2) (T := TX2) (N := 8) hx hb hts ii_X2 hown hK hP 0 rfl rfl 0 (by decide) (hts (.fieldLink RX2 9 "StoryHouse$Grammar" "words" "LStoryHouse$Words;") wq_71) (fun _ h9 => h9) rfl dX2_arguments_23 ?_
    refine va_get (D := (dC, dI)) (ci := 10) (v := .int ((s_23.2 1).1 2)) (C := RX10) (T := TX10) (N := 12) hx hb hts ii_X10 hown hK hP 1 rfl rfl 2 (by decide) (hts (.fieldLink RX2 38 "StoryHouse$Words" "count" "I") wq_47) (fun _ h9 => h9) rfl dX2_arguments_26 ?_
    refine lv_icmp_ge (tgt := 51) hx hb dX2_arguments_29 (by decide) (fun c_27 => ?_) (fun c_27 => ?_)
    · have hF_28 := ipos c_27 hF_26
      clear hF_26
      exact Jj_5 s_23.1 s_23.2 hF_28 _ _ hP hS ls (lv_sub hl [0, 1, 2] rfl)
    · have hF_29 := ineg c_27 hF_26
      clear hF_26
      refine lv_aload_n hx hb dX2_arguments_32 rfl (lv_at hl 0 rfl) ?_
      refine lv_bipush (v := 44) hx hb dX2_arguments_33 (by decide +kernel) ?_
      obtain ⟨u_30, hu_30, hF_31⟩ := Option.bind_eq_some_iff.mp hF_29
      clear hF_29
      have hPc := bx_P (bs := [b_g cB cC cI cJ cZ oA rA s_23.2, b_w cB cC cI cJ cZ oA rA s_23.2, b_c cB cC cI cJ cZ oA rA s_23.2]) (bs' := [b_g cB cC cI cJ cZ oA rA s_23.2, b_w cB cC cI cJ cZ oA rA s_23.2, b_c cB cC cI cJ cZ oA rA s_23.2]) (ws' := (b_g cB cC cI cJ cZ oA rA s_23.2 ++ b_w cB cC cI cJ cZ oA rA s_23.2 ++ b_c cB cC cI cJ cZ oA rA s_23.2)) hP fl_3 fl_3 [0, 1, 2] rfl
      have hDc := bx_D (bs := [b_g cB cC cI cJ cZ oA rA s_23.2, b_w cB cC cI cJ cZ oA rA s_23.2, b_c cB cC cI cJ cZ oA rA s_23.2]) (bs' := [b_g cB cC cI cJ cZ oA rA s_23.2, b_w cB cC cI cJ cZ oA rA s_23.2, b_c cB cC cI cJ cZ oA rA s_23.2]) (ws' := (b_g cB cC cI cJ cZ oA rA s_23.2 ++ b_w cB cC cI cJ cZ oA rA s_23.2 ++ b_c cB cC cI cJ cZ oA rA s_23.2)) (hDD s_23.2) fl_3 fl_3 [0, 1, 2] (by decide +kernel) rfl
      have hFc := bx_F (bs := [b_g cB cC cI cJ cZ oA rA s_23.2, b_w cB cC cI cJ cZ oA rA s_23.2, b_c cB cC cI cJ cZ oA rA s_23.2]) (bs' := [b_g cB cC cI cJ cZ oA rA s_23.2, b_w cB cC cI cJ cZ oA rA s_23.2, b_c cB cC cI cJ cZ oA rA s_23.2]) (wc := (b_g cB cC cI cJ cZ oA rA s_23.2 ++ b_w cB cC cI cJ cZ oA rA s_23.2 ++ b_c cB cC cI cJ cZ oA rA s_23.2)) (hDD s_23.2) hS hA fl_3 fl_3 [0, 1, 2] rfl
      refine g_ofi (wc := (b_g cB cC cI cJ cZ oA rA s_23.2 ++ b_w cB cC cI cJ cZ oA rA s_23.2 ++ b_c cB cC cI cJ cZ oA rA s_23.2)) (wr := ([] : va_W)) hP (hDD s_23.2) hS hFc (bx_ix [b_g cB cC cI cJ cZ oA rA s_23.2, b_w cB cC cI cJ cZ oA rA s_23.2, b_c cB cC cI cJ cZ oA rA s_23.2] [0, 1, 2]) (bx_ix [b_g cB cC cI cJ cZ oA rA s_23.2, b_w cB cC cI cJ cZ oA rA s_23.2, b_c cB cC cI cJ cZ oA rA s_23.2] []) (bx_C (bs := [b_g cB cC cI cJ cZ oA rA s_23.2, b_w cB cC cI cJ cZ oA rA s_23.2, b_c cB cC cI cJ cZ oA rA s_23.2]) (bs' := [b_g cB cC cI cJ cZ oA rA s_23.2, b_w cB cC cI cJ cZ oA rA s_23.2, b_c cB cC cI cJ cZ oA rA s_23.2]) (is := [0, 1, 2]) fl_3 fl_3 rfl) (bx_C (bs := [b_g cB cC cI cJ cZ oA rA s_23.2, b_w cB cC cI cJ cZ oA rA s_23.2, b_c cB cC cI cJ cZ oA rA s_23.2]) (bs' := []) (is := []) fl_3 fl_0 rfl) (bx_n (by decide +kernel)) (bx_d (by decide +kernel)) (va_runV (As := [.int 44]) (rest := []) ⟨hx, hb, hml, hown, hts⟩ (k_X2_accept l dC dI cB cC cI cJ cZ cP oA rA H.size  44 s_23.2 _ hu_30) (cwV 1 hts (g_gV wq_573 wq_574 wq_2003 wq_3 wq_575) rfl rfl rfl (by decide +kernel) ⟨by show 2 + 1 ≤ 4 + (d + 1); omega, by show 8 + (2 + 11) + 60 ≤ 102 + 22 * (d + 1); omega⟩) (g_preV g_bl0 hK hPc hDc hS hE hFc g_to0 (q0 := 0) (ci := 2) rfl rfl) rfl rfl hl.1 rfl (lv_room (Nat.le_of_ble_eq_true rfl)) dX2_arguments_35 ⟨Nat.le_of_ble_eq_true rfl, Nat.le_of_ble_eq_true rfl⟩) (fun r9 u9 H locs hw9 hP' hD' hS => ?_)
      clear hPc hDc hFc
      subst hw9
      have hP : va_P (dC, dI) vwCl (b_g cB cC cI cJ cZ oA rA u_30.2 ++ b_w cB cC cI cJ cZ oA rA u_30.2 ++ b_c cB cC cI cJ cZ oA rA u_30.2) H := hP'
      clear hP' hD'
      refine lv_if_eq (tgt := 51) hx hb dX2_arguments_38 (by decide) (fun c_32 => ?_) (fun c_32 => ?_)
      · have hF_33 := ipos c_32 hF_31
        clear hF_31
        exact Jj_5 s_23.1 u_30.2 hF_33 _ _ hP hS ls (lv_sub hl [0, 1, 2] rfl)
      · have hF_34 := ineg c_32 hF_31
        clear hF_31
        refine lv_aload_n hx hb dX2_arguments_41 rfl (lv_at hl 0 rfl) ?_
        obtain ⟨u_35, hu_35, hF_36⟩ := Option.bind_eq_some_iff.mp hF_34
        clear hF_34
        have hPc := bx_P (bs := [b_g cB cC cI cJ cZ oA rA u_30.2, b_w cB cC cI cJ cZ oA rA u_30.2, b_c cB cC cI cJ cZ oA rA u_30.2]) (bs' := [b_g cB cC cI cJ cZ oA rA u_30.2, b_w cB cC cI cJ cZ oA rA u_30.2, b_c cB cC cI cJ cZ oA rA u_30.2]) (ws' := (b_g cB cC cI cJ cZ oA rA u_30.2 ++ b_w cB cC cI cJ cZ oA rA u_30.2 ++ b_c cB cC cI cJ cZ oA rA u_30.2)) hP fl_3 fl_3 [0, 1, 2] rfl
        have hDc := bx_D (bs := [b_g cB cC cI cJ cZ oA rA u_30.2, b_w cB cC cI cJ cZ oA rA u_30.2, b_c cB cC cI cJ cZ oA rA u_30.2]) (bs' := [b_g cB cC cI cJ cZ oA rA u_30.2, b_w cB cC cI cJ cZ oA rA u_30.2, b_c cB cC cI cJ cZ oA rA u_30.2]) (ws' := (b_g cB cC cI cJ cZ oA rA u_30.2 ++ b_w cB cC cI cJ cZ oA rA u_30.2 ++ b_c cB cC cI cJ cZ oA rA u_30.2)) (hDD u_30.2) fl_3 fl_3 [0, 1, 2] (by decide +kernel) rfl
        have hFc := bx_F (bs := [b_g cB cC cI cJ cZ oA rA u_30.2, b_w cB cC cI cJ cZ oA rA u_30.2, b_c cB cC cI cJ cZ oA rA u_30.2]) (bs' := [b_g cB cC cI cJ cZ oA rA u_30.2, b_w cB cC cI cJ cZ oA rA u_30.2, b_c cB cC cI cJ cZ oA rA u_30.2]) (wc := (b_g cB cC cI cJ cZ oA rA u_30.2 ++ b_w cB cC cI cJ cZ oA rA u_30.2 ++ b_c cB cC cI cJ cZ oA rA u_30.2)) (hDD u_30.2) hS hA fl_3 fl_3 [0, 1, 2] rfl
        refine g_ofv (wc := (b_g cB cC cI cJ cZ oA rA u_30.2 ++ b_w cB cC cI cJ cZ oA rA u_30.2 ++ b_c cB cC cI cJ cZ oA rA u_30.2)) (wr := ([] : va_W)) hP (hDD u_30.2) hS hFc (bx_ix [b_g cB cC cI cJ cZ oA rA u_30.2, b_w cB cC cI cJ cZ oA rA u_30.2, b_c cB cC cI cJ cZ oA rA u_30.2] [0, 1, 2]) (bx_ix [b_g cB cC cI cJ cZ oA rA u_30.2, b_w cB cC cI cJ cZ oA rA u_30.2, b_c cB cC cI cJ cZ oA rA u_30.2] []) (bx_C (bs := [b_g cB cC cI cJ cZ oA rA u_30.2, b_w cB cC cI cJ cZ oA rA u_30.2, b_c cB cC cI cJ cZ oA rA u_30.2]) (bs' := [b_g cB cC cI cJ cZ oA rA u_30.2, b_w cB cC cI cJ cZ oA rA u_30.2, b_c cB cC cI cJ cZ oA rA u_30.2]) (is := [0, 1, 2]) fl_3 fl_3 rfl) (bx_C (bs := [b_g cB cC cI cJ cZ oA rA u_30.2, b_w cB cC cI cJ cZ oA rA u_30.2, b_c cB cC cI cJ cZ oA rA u_30.2]) (bs' := []) (is := []) fl_3 fl_0 rfl) (bx_n (by decide +kernel)) (bx_d (by decide +kernel)) (va_runV (As := []) (rest := []) ⟨hx, hb, hml, hown, hts⟩ (hI0 H.size u_30.2 _ hu_35) (cwV 0 hts (g_gV wq_627 wq_628 wq_2016 wq_3 wq_629) rfl rfl rfl (by decide +kernel) ⟨by show 4 + d + 1 ≤ 4 + (d + 1); omega, by show 8 + (3 + 11) + (102 + 22 * d) ≤ 102 + 22 * (d + 1); omega⟩) (g_preV g_bl0 hK hPc hDc hS hE hFc g_to0 (q0 := 0) (ci := 2) rfl rfl) rfl rfl hl.1 rfl (lv_room (Nat.le_of_ble_eq_true rfl)) dX2_arguments_42 ⟨Nat.le_of_ble_eq_true rfl, Nat.le_of_ble_eq_true rfl⟩) (fun u9 H locs hw9 hP' hD' hS => ?_)
        clear hPc hDc hFc
        have hP : va_P (dC, dI) vwCl (b_g cB cC cI cJ cZ oA rA u_35.2 ++ b_w cB cC cI cJ cZ oA rA u_35.2 ++ b_c cB cC cI cJ cZ oA rA u_35.2) H := hP'
        clear hP' hD'
        obtain ⟨x_37, ex_37, hF_38⟩ := bnd_e hF_36
        clear hF_36
        refine lv_iinc (v := x_37) (lv' := [(2, .int x_37), (0, .ref (oA 2)), (1, .int p0)]) hx hb dX2_arguments_45 hl (k := 2) rfl (by rw [ex_37]; rfl) (by decide) rfl (fun ls hl => ?_)
        refine lv_goto (tgt := 21) hx hb dX2_arguments_48 (by decide) ?_
        exact ih_25 (x_37, u_35.2) hF_38 _ _ hP hS ls (lv_sub hl [1, 2, 0] rfl)

def F_X2_index (rec : HG)  (Γ : HS) : HR :=
  (F_X2_deepen Γ).bind fun u_1 =>
  (rec 0 0 0 0 u_1.2).bind fun u_3 =>
  bnd (cI' u_3.2 2 4 (((u_3.2 2).1 4) - 1)) fun σ_5 =>
  (F_X2_need 93 σ_5).bind fun u_7 =>
  some (0, u_7.2)
set_option maxHeartbeats 4000000 in
set_option maxRecDepth 100000 in
theorem k_X2_index_st (l : Launch) (dC : Nat → ClassId) (dI : Nat → Nat → Nat) (cB cC cI cJ cZ cP : ClassId) (oA : Nat → Nat) (rA : Nat → Nat → Nat) (d : Nat) (rec : HG) (hI0 : ∀ (sz : Nat)  (Γ : HS) (res : Int32 × HS), rec 0 0 0 0 Γ = some res → Met l yX2_expression (g_ws yX2_expression cX2_expression 3 none) ({ frames := 4 + d, cells := 0, slots := 0, locals := 102 + 22 * d }) (va_Pc [.ref (oA 2)] (g_B (dC, dI) [(cB, .byte), (cC, .char), (cI, .int), (cJ, .long), (cZ, .boolean), (cP, .object "StoryHouse$Play")] sz (b_g cB cC cI cJ cZ oA rA Γ ++ b_w cB cC cI cJ cZ oA rA Γ ++ b_c cB cC cI cJ cZ oA rA Γ) g_0)) (va_Qv (fun (_ : Unit) => True) (g_Bo (dC, dI) (va_A (b_g cB cC cI cJ cZ oA rA Γ ++ b_w cB cC cI cJ cZ oA rA Γ ++ b_c cB cC cI cJ cZ oA rA Γ) sz) (fun (_ : Unit) => (b_g cB cC cI cJ cZ oA rA res.2 ++ b_w cB cC cI cJ cZ oA rA res.2 ++ b_c cB cC cI cJ cZ oA rA res.2))) (va_A (b_g cB cC cI cJ cZ oA rA Γ ++ b_w cB cC cI cJ cZ oA rA Γ ++ b_c cB cC cI cJ cZ oA rA Γ) sz)) 0 0 (va_A (b_g cB cC cI cJ cZ oA rA Γ ++ b_w cB cC cI cJ cZ oA rA Γ ++ b_c cB cC cI cJ cZ oA rA Γ) sz)) (hI1 : ∀ (sz : Nat)  (Γ : HS) (res : Int32 × HS), rec 1 0 0 0 Γ = some res → Met l yX2_both (g_ws yX2_both cX2_both 3 none) ({ frames := 4 + d, cells := 0, slots := 0, locals := 102 + 22 * d }) (va_Pc [.ref (oA 2)] (g_B (dC, dI) [(cB, .byte), (cC, .char), (cI, .int), (cJ, .long), (cZ, .boolean), (cP, .object "StoryHouse$Play")] sz (b_g cB cC cI cJ cZ oA rA Γ ++ b_w cB cC cI cJ cZ oA rA Γ ++ b_c cB cC cI cJ cZ oA rA Γ) g_0)) (va_Qv (fun (_ : Unit) => True) (g_Bo (dC, dI) (va_A (b_g cB cC cI cJ cZ oA rA Γ ++ b_w cB cC cI cJ cZ oA rA Γ ++ b_c cB cC cI cJ cZ oA rA Γ) sz) (fun (_ : Unit) => (b_g cB cC cI cJ cZ oA rA res.2 ++ b_w cB cC cI cJ cZ oA rA res.2 ++ b_c cB cC cI cJ cZ oA rA res.2))) (va_A (b_g cB cC cI cJ cZ oA rA Γ ++ b_w cB cC cI cJ cZ oA rA Γ ++ b_c cB cC cI cJ cZ oA rA Γ) sz)) 0 0 (va_A (b_g cB cC cI cJ cZ oA rA Γ ++ b_w cB cC cI cJ cZ oA rA Γ ++ b_c cB cC cI cJ cZ oA rA Γ) sz)) (hI2 : ∀ (sz : Nat)  (Γ : HS) (res : Int32 × HS), rec 2 0 0 0 Γ = some res → Met l yX2_step (g_ws yX2_step cX2_step 2 none) ({ frames := 4 + d, cells := 0, slots := 0, locals := 102 + 22 * d }) (va_Pc [.ref (oA 2)] (g_B (dC, dI) [(cB, .byte), (cC, .char), (cI, .int), (cJ, .long), (cZ, .boolean), (cP, .object "StoryHouse$Play")] sz (b_g cB cC cI cJ cZ oA rA Γ ++ b_w cB cC cI cJ cZ oA rA Γ ++ b_c cB cC cI cJ cZ oA rA Γ) g_0)) (va_Qv (fun (_ : Unit) => True) (g_Bo (dC, dI) (va_A (b_g cB cC cI cJ cZ oA rA Γ ++ b_w cB cC cI cJ cZ oA rA Γ ++ b_c cB cC cI cJ cZ oA rA Γ) sz) (fun (_ : Unit) => (b_g cB cC cI cJ cZ oA rA res.2 ++ b_w cB cC cI cJ cZ oA rA res.2 ++ b_c cB cC cI cJ cZ oA rA res.2))) (va_A (b_g cB cC cI cJ cZ oA rA Γ ++ b_w cB cC cI cJ cZ oA rA Γ ++ b_c cB cC cI cJ cZ oA rA Γ) sz)) 0 0 (va_A (b_g cB cC cI cJ cZ oA rA Γ ++ b_w cB cC cI cJ cZ oA rA Γ ++ b_c cB cC cI cJ cZ oA rA Γ) sz)) (hI3 : ∀ (sz : Nat)  (Γ : HS) (res : Int32 × HS), rec 3 0 0 0 Γ = some res → Met l yX2_sum (g_ws yX2_sum cX2_sum 3 none) ({ frames := 4 + d, cells := 0, slots := 0, locals := 102 + 22 * d }) (va_Pc [.ref (oA 2)] (g_B (dC, dI) [(cB, .byte), (cC, .char), (cI, .int), (cJ, .long), (cZ, .boolean), (cP, .object "StoryHouse$Play")] sz (b_g cB cC cI cJ cZ oA rA Γ ++ b_w cB cC cI cJ cZ oA rA Γ ++ b_c cB cC cI cJ cZ oA rA Γ) g_0)) (va_Qv (fun (_ : Unit) => True) (g_Bo (dC, dI) (va_A (b_g cB cC cI cJ cZ oA rA Γ ++ b_w cB cC cI cJ cZ oA rA Γ ++ b_c cB cC cI cJ cZ oA rA Γ) sz) (fun (_ : Unit) => (b_g cB cC cI cJ cZ oA rA res.2 ++ b_w cB cC cI cJ cZ oA rA res.2 ++ b_c cB cC cI cJ cZ oA rA res.2))) (va_A (b_g cB cC cI cJ cZ oA rA Γ ++ b_w cB cC cI cJ cZ oA rA Γ ++ b_c cB cC cI cJ cZ oA rA Γ) sz)) 0 0 (va_A (b_g cB cC cI cJ cZ oA rA Γ ++ b_w cB cC cI cJ cZ oA rA Γ ++ b_c cB cC cI cJ cZ oA rA Γ) sz)) (hI4 : ∀ (sz : Nat)  (Γ : HS) (res : Int32 × HS), rec 4 0 0 0 Γ = some res → Met l yX2_term (g_ws yX2_term cX2_term 3 none) ({ frames := 4 + d, cells := 0, slots := 0, locals := 102 + 22 * d }) (va_Pc [.ref (oA 2)] (g_B (dC, dI) [(cB, .byte), (cC, .char), (cI, .int), (cJ, .long), (cZ, .boolean), (cP, .object "StoryHouse$Play")] sz (b_g cB cC cI cJ cZ oA rA Γ ++ b_w cB cC cI cJ cZ oA rA Γ ++ b_c cB cC cI cJ cZ oA rA Γ) g_0)) (va_Qv (fun (_ : Unit) => True) (g_Bo (dC, dI) (va_A (b_g cB cC cI cJ cZ oA rA Γ ++ b_w cB cC cI cJ cZ oA rA Γ ++ b_c cB cC cI cJ cZ oA rA Γ) sz) (fun (_ : Unit) => (b_g cB cC cI cJ cZ oA rA res.2 ++ b_w cB cC cI cJ cZ oA rA res.2 ++ b_c cB cC cI cJ cZ oA rA res.2))) (va_A (b_g cB cC cI cJ cZ oA rA Γ ++ b_w cB cC cI cJ cZ oA rA Γ ++ b_c cB cC cI cJ cZ oA rA Γ) sz)) 0 0 (va_A (b_g cB cC cI cJ cZ oA rA Γ ++ b_w cB cC cI cJ cZ oA rA Γ ++ b_c cB cC cI cJ cZ oA rA Γ) sz)) (hI5 : ∀ (sz : Nat)  (Γ : HS) (res : Int32 × HS), rec 5 0 0 0 Γ = some res → Met l yX2_factor (g_ws yX2_factor cX2_factor 1 none) ({ frames := 4 + d, cells := 0, slots := 0, locals := 102 + 22 * d }) (va_Pc [.ref (oA 2)] (g_B (dC, dI) [(cB, .byte), (cC, .char), (cI, .int), (cJ, .long), (cZ, .boolean), (cP, .object "StoryHouse$Play")] sz (b_g cB cC cI cJ cZ oA rA Γ ++ b_w cB cC cI cJ cZ oA rA Γ ++ b_c cB cC cI cJ cZ oA rA Γ) g_0)) (va_Qv (fun (_ : Unit) => True) (g_Bo (dC, dI) (va_A (b_g cB cC cI cJ cZ oA rA Γ ++ b_w cB cC cI cJ cZ oA rA Γ ++ b_c cB cC cI cJ cZ oA rA Γ) sz) (fun (_ : Unit) => (b_g cB cC cI cJ cZ oA rA res.2 ++ b_w cB cC cI cJ cZ oA rA res.2 ++ b_c cB cC cI cJ cZ oA rA res.2))) (va_A (b_g cB cC cI cJ cZ oA rA Γ ++ b_w cB cC cI cJ cZ oA rA Γ ++ b_c cB cC cI cJ cZ oA rA Γ) sz)) 0 0 (va_A (b_g cB cC cI cJ cZ oA rA Γ ++ b_w cB cC cI cJ cZ oA rA Γ ++ b_c cB cC cI cJ cZ oA rA Γ) sz)) (hI6 : ∀ (sz : Nat)  (Γ : HS) (res : Int32 × HS), rec 6 0 0 0 Γ = some res → Met l yX2_primary (g_ws yX2_primary cX2_primary 3 none) ({ frames := 4 + d, cells := 0, slots := 0, locals := 102 + 22 * d }) (va_Pc [.ref (oA 2)] (g_B (dC, dI) [(cB, .byte), (cC, .char), (cI, .int), (cJ, .long), (cZ, .boolean), (cP, .object "StoryHouse$Play")] sz (b_g cB cC cI cJ cZ oA rA Γ ++ b_w cB cC cI cJ cZ oA rA Γ ++ b_c cB cC cI cJ cZ oA rA Γ) g_0)) (va_Qv (fun (_ : Unit) => True) (g_Bo (dC, dI) (va_A (b_g cB cC cI cJ cZ oA rA Γ ++ b_w cB cC cI cJ cZ oA rA Γ ++ b_c cB cC cI cJ cZ oA rA Γ) sz) (fun (_ : Unit) => (b_g cB cC cI cJ cZ oA rA res.2 ++ b_w cB cC cI cJ cZ oA rA res.2 ++ b_c cB cC cI cJ cZ oA rA res.2))) (va_A (b_g cB cC cI cJ cZ oA rA Γ ++ b_w cB cC cI cJ cZ oA rA Γ ++ b_c cB cC cI cJ cZ oA rA Γ) sz)) 0 0 (va_A (b_g cB cC cI cJ cZ oA rA Γ ++ b_w cB cC cI cJ cZ oA rA Γ ++ b_c cB cC cI cJ cZ oA rA Γ) sz)) (hI7 : ∀ (sz : Nat) (p0 : Int32) (Γ : HS) (res : Int32 × HS), rec 7 p0 0 0 Γ = some res → Met l yX2_arguments (g_ws yX2_arguments cX2_arguments 3 none) ({ frames := 4 + d, cells := 0, slots := 0, locals := 102 + 22 * d }) (va_Pc [.ref (oA 2), .int p0] (g_B (dC, dI) [(cB, .byte), (cC, .char), (cI, .int), (cJ, .long), (cZ, .boolean), (cP, .object "StoryHouse$Play")] sz (b_g cB cC cI cJ cZ oA rA Γ ++ b_w cB cC cI cJ cZ oA rA Γ ++ b_c cB cC cI cJ cZ oA rA Γ) g_0)) (va_Qv (fun (_ : Unit) => True) (g_Bo (dC, dI) (va_A (b_g cB cC cI cJ cZ oA rA Γ ++ b_w cB cC cI cJ cZ oA rA Γ ++ b_c cB cC cI cJ cZ oA rA Γ) sz) (fun (_ : Unit) => (b_g cB cC cI cJ cZ oA rA res.2 ++ b_w cB cC cI cJ cZ oA rA res.2 ++ b_c cB cC cI cJ cZ oA rA res.2))) (va_A (b_g cB cC cI cJ cZ oA rA Γ ++ b_w cB cC cI cJ cZ oA rA Γ ++ b_c cB cC cI cJ cZ oA rA Γ) sz)) 0 0 (va_A (b_g cB cC cI cJ cZ oA rA Γ ++ b_w cB cC cI cJ cZ oA rA Γ ++ b_c cB cC cI cJ cZ oA rA Γ) sz)) (hI8 : ∀ (sz : Nat)  (Γ : HS) (res : Int32 × HS), rec 8 0 0 0 Γ = some res → Met l yX2_index (g_ws yX2_index cX2_index 1 none) ({ frames := 4 + d, cells := 0, slots := 0, locals := 102 + 22 * d }) (va_Pc [.ref (oA 2)] (g_B (dC, dI) [(cB, .byte), (cC, .char), (cI, .int), (cJ, .long), (cZ, .boolean), (cP, .object "StoryHouse$Play")] sz (b_g cB cC cI cJ cZ oA rA Γ ++ b_w cB cC cI cJ cZ oA rA Γ ++ b_c cB cC cI cJ cZ oA rA Γ) g_0)) (va_Qv (fun (_ : Unit) => True) (g_Bo (dC, dI) (va_A (b_g cB cC cI cJ cZ oA rA Γ ++ b_w cB cC cI cJ cZ oA rA Γ ++ b_c cB cC cI cJ cZ oA rA Γ) sz) (fun (_ : Unit) => (b_g cB cC cI cJ cZ oA rA res.2 ++ b_w cB cC cI cJ cZ oA rA res.2 ++ b_c cB cC cI cJ cZ oA rA res.2))) (va_A (b_g cB cC cI cJ cZ oA rA Γ ++ b_w cB cC cI cJ cZ oA rA Γ ++ b_c cB cC cI cJ cZ oA rA Γ) sz)) 0 0 (va_A (b_g cB cC cI cJ cZ oA rA Γ ++ b_w cB cC cI cJ cZ oA rA Γ ++ b_c cB cC cI cJ cZ oA rA Γ) sz)) (sz : Nat)   (Γ : HS) (res : Int32 × HS) (hF : F_X2_index rec  Γ = some res) : Met l yX2_index (g_ws yX2_index cX2_index 1 none) ({ frames := 4 + (d + 1), cells := 0, slots := 0, locals := 102 + 22 * (d + 1) }) (va_Pc [.ref (oA 2)] (g_B (dC, dI) [(cB, .byte), (cC, .char), (cI, .int), (cJ, .long), (cZ, .boolean), (cP, .object "StoryHouse$Play")] sz (b_g cB cC cI cJ cZ oA rA Γ ++ b_w cB cC cI cJ cZ oA rA Γ ++ b_c cB cC cI cJ cZ oA rA Γ) g_0)) (va_Qv (fun (_ : Unit) => True) (g_Bo (dC, dI) (va_A (b_g cB cC cI cJ cZ oA rA Γ ++ b_w cB cC cI cJ cZ oA rA Γ ++ b_c cB cC cI cJ cZ oA rA Γ) sz) (fun (_ : Unit) => (b_g cB cC cI cJ cZ oA rA res.2 ++ b_w cB cC cI cJ cZ oA rA res.2 ++ b_c cB cC cI cJ cZ oA rA res.2))) (va_A (b_g cB cC cI cJ cZ oA rA Γ ++ b_w cB cC cI cJ cZ oA rA Γ ++ b_c cB cC cI cJ cZ oA rA Γ) sz)) 0 0 (va_A (b_g cB cC cI cJ cZ oA rA Γ ++ b_w cB cC cI cJ cZ oA rA Γ ++ b_c cB cC cI cJ cZ oA rA Γ) sz) := by
  refine Met.ofW (cc := cX2_index) (maxL := 1) (ret := none) (by decide) rfl ?_
  intro p e s m args below meth c s₁ B hml hv
  obtain ⟨rfl, hsz, hP, hK, hD0, hE, hX⟩ := hv
  have hx := B.exec
  have hb := B.bytes
  have hr := B.returns
  have hts0 := atoms_spec (ws := g_ws yX2_index cX2_index 1 none) B.pre
  have hts : ∀ w ∈ lw_good, w.before ([.ref (oA 2)] : List Value).toArray s = true := fun w z => hts0 w (List.mem_cons_of_mem _ z)
  have hown : s.vm.findClass RX2 = some m.cls := findClass_of_methodNamed B.named
  have hlocks := B.notSynchronized
  subst hsz
  have hD1 := hD0.self (sz := s.heap.size)
  generalize hAe : va_A (b_g cB cC cI cJ cZ oA rA Γ ++ b_w cB cC cI cJ cZ oA rA Γ ++ b_c cB cC cI cJ cZ oA rA Γ) s.heap.size = A at hD1 hE hX ⊢
  have hA : ∀ q : Nat, s.heap.size ≤ q → A q := fun q z => by rw [← hAe]; exact Or.inr z
  have hDD : ∀ Γ : HS, va_D A (b_g cB cC cI cJ cZ oA rA Γ ++ b_w cB cC cI cJ cZ oA rA Γ ++ b_c cB cC cI cJ cZ oA rA Γ) := fun Γ9 => va_D_fst (ws := (b_g cB cC cI cJ cZ oA rA Γ ++ b_w cB cC cI cJ cZ oA rA Γ ++ b_c cB cC cI cJ cZ oA rA Γ)) (ws' := (b_g cB cC cI cJ cZ oA rA Γ9 ++ b_w cB cC cI cJ cZ oA rA Γ9 ++ b_c cB cC cI cJ cZ oA rA Γ9)) rfl hD1
  have hN := hE.1
  have hS : va_S A s.heap s.heap [] := va_S.rf
  have hl := lv_entry ([.ref (oA 2)]) (n := 1) (Nat.le_of_ble_eq_true rfl)
  rw [lg_entry_eq]
  generalize (lg_sl ([.ref (oA 2)]) ++ List.replicate (1 - (lg_sl ([.ref (oA 2)])).length) Slot.unset).toArray = ls at hl ⊢
  have hl : lv_has ls 1 [(0, .ref (oA 2))] := hl
  unfold F_X2_index at hF
  refine lv_aload_n hx hb dX2_index_0 rfl (lv_at hl 0 rfl) ?_
  obtain ⟨u_1, hu_1, hF_2⟩ := Option.bind_eq_some_iff.mp hF
  clear hF
  have hPc := bx_P (bs := [b_g cB cC cI cJ cZ oA rA Γ, b_w cB cC cI cJ cZ oA rA Γ, b_c cB cC cI cJ cZ oA rA Γ]) (bs' := [b_g cB cC cI cJ cZ oA rA Γ, b_w cB cC cI cJ cZ oA rA Γ, b_c cB cC cI cJ cZ oA rA Γ]) (ws' := (b_g cB cC cI cJ cZ oA rA Γ ++ b_w cB cC cI cJ cZ oA rA Γ ++ b_c cB cC cI cJ cZ oA rA Γ)) hP fl_3 fl_3 [0, 1, 2] rfl
  have hDc := bx_D (bs := [b_g cB cC cI cJ cZ oA rA Γ, b_w cB cC cI cJ cZ oA rA Γ, b_c cB cC cI cJ cZ oA rA Γ]) (bs' := [b_g cB cC cI cJ cZ oA rA Γ, b_w cB cC cI cJ cZ oA rA Γ, b_c cB cC cI cJ cZ oA rA Γ]) (ws' := (b_g cB cC cI cJ cZ oA rA Γ ++ b_w cB cC cI cJ cZ oA rA Γ ++ b_c cB cC cI cJ cZ oA rA Γ)) (hDD Γ) fl_3 fl_3 [0, 1, 2] (by decide +kernel) rfl
  have hFc := bx_F (bs := [b_g cB cC cI cJ cZ oA rA Γ, b_w cB cC cI cJ cZ oA rA Γ, b_c cB cC cI cJ cZ oA rA Γ]) (bs' := [b_g cB cC cI cJ cZ oA rA Γ, b_w cB cC cI cJ cZ oA rA Γ, b_c cB cC cI cJ cZ oA rA Γ]) (wc := (b_g cB cC cI cJ cZ oA rA Γ ++ b_w cB cC cI cJ cZ oA rA Γ ++ b_c cB cC cI cJ cZ oA rA Γ)) (hDD Γ) hS hA fl_3 fl_3 [0, 1, 2] rfl
  refine g_ofv (wc := (b_g cB cC cI cJ cZ oA rA Γ ++ b_w cB cC cI cJ cZ oA rA Γ ++ b_c cB cC cI cJ cZ oA rA Γ)) (wr := ([] : va_W)) hP (hDD Γ) hS hFc (bx_ix [b_g cB cC cI cJ cZ oA rA Γ, b_w cB cC cI cJ cZ oA rA Γ, b_c cB cC cI cJ cZ oA rA Γ] [0, 1, 2]) (bx_ix [b_g cB cC cI cJ cZ oA rA Γ, b_w cB cC cI cJ cZ oA rA Γ, b_c cB cC cI cJ cZ oA rA Γ] []) (bx_C (bs := [b_g cB cC cI cJ cZ oA rA Γ, b_w cB cC cI cJ cZ oA rA Γ, b_c cB cC cI cJ cZ oA rA Γ]) (bs' := [b_g cB cC cI cJ cZ oA rA Γ, b_w cB cC cI cJ cZ oA rA Γ, b_c cB cC cI cJ cZ oA rA Γ]) (is := [0, 1, 2]) fl_3 fl_3 rfl) (bx_C (bs := [b_g cB cC cI cJ cZ oA rA Γ, b_w cB cC cI cJ cZ oA rA Γ, b_c cB cC cI cJ cZ oA rA Γ]) (bs' := []) (is := []) fl_3 fl_0 rfl) (bx_n (by decide +kernel)) (bx_d (by decide +kernel)) (va_runV (As := []) (rest := []) ⟨hx, hb, hml, hown, hts⟩ (k_X2_deepen l dC dI cB cC cI cJ cZ cP oA rA s.heap.size  Γ _ hu_1) (cwV 0 hts (g_gV wq_570 wq_571 wq_2002 wq_3 wq_572) rfl rfl rfl (by decide +kernel) ⟨by show 2 + 1 ≤ 4 + (d + 1); omega, by show 8 + (1 + 11) + 61 ≤ 102 + 22 * (d + 1); omega⟩) (g_preV g_bl0 hK hPc hDc hS hE hFc g_to0 (q0 := 0) (ci := 2) rfl rfl) rfl rfl hl.1 rfl (lv_room (Nat.le_of_ble_eq_true rfl)) dX2_index_1 ⟨Nat.le_of_ble_eq_true rfl, Nat.le_of_ble_eq_true rfl⟩) (fun u9 H locs hw9 hP' hD' hS => ?_)
  clear hPc hDc hFc
  have hP : va_P (dC, dI) vwCl (b_g cB cC cI cJ cZ oA rA u_1.2 ++ b_w cB cC cI cJ cZ oA rA u_1.2 ++ b_c cB cC cI cJ cZ oA rA u_1.2) H := hP'
  clear hP' hD'
  refine lv_aload_n hx hb dX2_index_4 rfl (lv_at hl 0 rfl) ?_
  obtain ⟨u_3, hu_3, hF_4⟩ := Option.bind_eq_some_iff.mp hF_2
  clear hF_2
  have hPc := bx_P (bs := [b_g cB cC cI cJ cZ oA rA u_1.2, b_w cB cC cI cJ cZ oA rA u_1.2, b_c cB cC cI cJ cZ oA rA u_1.2]) (bs' := [b_g cB cC cI cJ cZ oA rA u_1.2, b_w cB cC cI cJ cZ oA rA u_1.2, b_c cB cC cI cJ cZ oA rA u_1.2]) (ws' := (b_g cB cC cI cJ cZ oA rA u_1.2 ++ b_w cB cC cI cJ cZ oA rA u_1.2 ++ b_c cB cC cI cJ cZ oA rA u_1.2)) hP fl_3 fl_3 [0, 1, 2] rfl
  have hDc := bx_D (bs := [b_g cB cC cI cJ cZ oA rA u_1.2, b_w cB cC cI cJ cZ oA rA u_1.2, b_c cB cC cI cJ cZ oA rA u_1.2]) (bs' := [b_g cB cC cI cJ cZ oA rA u_1.2, b_w cB cC cI cJ cZ oA rA u_1.2, b_c cB cC cI cJ cZ oA rA u_1.2]) (ws' := (b_g cB cC cI cJ cZ oA rA u_1.2 ++ b_w cB cC cI cJ cZ oA rA u_1.2 ++ b_c cB cC cI cJ cZ oA rA u_1.2)) (hDD u_1.2) fl_3 fl_3 [0, 1, 2] (by decide +kernel) rfl
  have hFc := bx_F (bs := [b_g cB cC cI cJ cZ oA rA u_1.2, b_w cB cC cI cJ cZ oA rA u_1.2, b_c cB cC cI cJ cZ oA rA u_1.2]) (bs' := [b_g cB cC cI cJ cZ oA rA u_1.2, b_w cB cC cI cJ cZ oA rA u_1.2, b_c cB cC cI cJ cZ oA rA u_1.2]) (wc := (b_g cB cC cI cJ cZ oA rA u_1.2 ++ b_w cB cC cI cJ cZ oA rA u_1.2 ++ b_c cB cC cI cJ cZ oA rA u_1.2)) (hDD u_1.2) hS hA fl_3 fl_3 [0, 1, 2] rfl
  refine g_ofv (wc := (b_g cB cC cI cJ cZ oA rA u_1.2 ++ b_w cB cC cI cJ cZ oA rA u_1.2 ++ b_c cB cC cI cJ cZ oA rA u_1.2)) (wr := ([] : va_W)) hP (hDD u_1.2) hS hFc (bx_ix [b_g cB cC cI cJ cZ oA rA u_1.2, b_w cB cC cI cJ cZ oA rA u_1.2, b_c cB cC cI cJ cZ oA rA u_1.2] [0, 1, 2]) (bx_ix [b_g cB cC cI cJ cZ oA rA u_1.2, b_w cB cC cI cJ cZ oA rA u_1.2, b_c cB cC cI cJ cZ oA rA u_1.2] []) (bx_C (bs := [b_g cB cC cI cJ cZ oA rA u_1.2, b_w cB cC cI cJ cZ oA rA u_1.2, b_c cB cC cI cJ cZ oA rA u_1.2]) (bs' := [b_g cB cC cI cJ cZ oA rA u_1.2, b_w cB cC cI cJ cZ oA rA u_1.2, b_c cB cC cI cJ cZ oA rA u_1.2]) (is := [0, 1, 2]) fl_3 fl_3 rfl) (bx_C (bs := [b_g cB cC cI cJ cZ oA rA u_1.2, b_w cB cC cI cJ cZ oA rA u_1.2, b_c cB cC cI cJ cZ oA rA u_1.2]) (bs' := []) (is := []) fl_3 fl_0 rfl) (bx_n (by decide +kernel)) (bx_d (by decide +kernel)) (va_runV (As := []) (rest := []) ⟨hx, hb, hml, hown, hts⟩ (hI0 H.size u_1.2 _ hu_3) (cwV 0 hts (g_gV wq_627 wq_628 wq_2016 wq_3 wq_629) rfl rfl rfl (by decide +kernel) ⟨by show 4 + d + 1 ≤ 4 + (d + 1); omega, by show 8 + (3 + 11) + (102 + 22 * d) ≤ 102 + 22 * (d + 1); omega⟩) (g_preV g_bl0 hK hPc hDc hS hE hFc g_to0 (q0 := 0) (ci := 2) rfl rfl) rfl rfl hl.1 rfl (lv_room (Nat.le_of_ble_eq_true rfl)) dX2_index_5 ⟨Nat.le_of_ble_eq_true rfl, Nat.le_of_ble_eq_true rfl⟩) (fun u9 H locs hw9 hP' hD' hS => ?_)
  clear hPc hDc hFc
  have hP : va_P (dC, dI) vwCl (b_g cB cC cI cJ cZ oA rA u_3.2 ++ b_w cB cC cI cJ cZ oA rA u_3.2 ++ b_c cB cC cI cJ cZ oA rA u_3.2) H := hP'
  clear hP' hD'
  refine lv_aload_n hx hb dX2_index_8 rfl (lv_at hl 0 rfl) ?_
  refine lv_dup hx hb dX2_index_9 rfl ?_
  refine va_get (D := (dC, dI)) (ci := 2) (v := .int ((u_3.2 2).1 4)) (C := RX2) (T := TX2) (N := 8) hx hb hts ii_X2 hown hK hP 0 rfl rfl 4 (by decide) (hts (.fieldLink RX2 32 "StoryHouse$Grammar" "nest" "I") wq_75) (fun _ h9 => h9) rfl dX2_index_10 ?_
  refine lv_iconst (v := 1) hx hb dX2_index_13 (by decide +kernel) ?_
  refine lv_isub hx hb dX2_index_14 ?_
  obtain ⟨σ_5, eσ_5, hF_6⟩ := bnd_e hF_4
  clear hF_4
  refine va_put (D := (dC, dI)) (ci := 2) (v := .int (((u_3.2 2).1 4) - 1)) (ty := .int) (C := RX2) (T := TX2) (N := 8) hx hb hts ii_X2 tyX2 tyX2_ok nmX2 hown hK hP (hDD _) hS 0 rfl rfl 4 (by decide) (hts (.fieldLink RX2 32 "StoryHouse$Grammar" "nest" "I") wq_75) (fun _ h9 => h9) rfl (by decide +kernel) rfl rfl (Nat.le_of_ble_eq_true rfl) dX2_index_15 (fun H locs hP' _ hS => ?_)
  have hP : va_P (dC, dI) vwCl (b_g cB cC cI cJ cZ oA rA σ_5 ++ b_w cB cC cI cJ cZ oA rA σ_5 ++ b_c cB cC cI cJ cZ oA rA σ_5) H := by rw [eσ_5]; exact cs_gwc_g_4 ▸ hP'
  clear hP'
  refine lv_aload_n hx hb dX2_index_18 rfl (lv_at hl 0 rfl) ?_
  refine lv_bipush (v := 93) hx hb dX2_index_19 (by decide +kernel) ?_
  obtain ⟨u_7, hu_7, hF_8⟩ := Option.bind_eq_some_iff.mp hF_6
  clear hF_6
  have hPc := bx_P (bs := [b_g cB cC cI cJ cZ oA rA σ_5, b_w cB cC cI cJ cZ oA rA σ_5, b_c cB cC cI cJ cZ oA rA σ_5]) (bs' := [b_g cB cC cI cJ cZ oA rA σ_5, b_w cB cC cI cJ cZ oA rA σ_5, b_c cB cC cI cJ cZ oA rA σ_5]) (ws' := (b_g cB cC cI cJ cZ oA rA σ_5 ++ b_w cB cC cI cJ cZ oA rA σ_5 ++ b_c cB cC cI cJ cZ oA rA σ_5)) hP fl_3 fl_3 [0, 1, 2] rfl
  have hDc := bx_D (bs := [b_g cB cC cI cJ cZ oA rA σ_5, b_w cB cC cI cJ cZ oA rA σ_5, b_c cB cC cI cJ cZ oA rA σ_5]) (bs' := [b_g cB cC cI cJ cZ oA rA σ_5, b_w cB cC cI cJ cZ oA rA σ_5, b_c cB cC cI cJ cZ oA rA σ_5]) (ws' := (b_g cB cC cI cJ cZ oA rA σ_5 ++ b_w cB cC cI cJ cZ oA rA σ_5 ++ b_c cB cC cI cJ cZ oA rA σ_5)) (hDD σ_5) fl_3 fl_3 [0, 1, 2] (by decide +kernel) rfl
  have hFc := bx_F (bs := [b_g cB cC cI cJ cZ oA rA σ_5, b_w cB cC cI cJ cZ oA rA σ_5, b_c cB cC cI cJ cZ oA rA σ_5]) (bs' := [b_g cB cC cI cJ cZ oA rA σ_5, b_w cB cC cI cJ cZ oA rA σ_5, b_c cB cC cI cJ cZ oA rA σ_5]) (wc := (b_g cB cC cI cJ cZ oA rA σ_5 ++ b_w cB cC cI cJ cZ oA rA σ_5 ++ b_c cB cC cI cJ cZ oA rA σ_5)) (hDD σ_5) hS hA fl_3 fl_3 [0, 1, 2] rfl
  refine g_ofv (wc := (b_g cB cC cI cJ cZ oA rA σ_5 ++ b_w cB cC cI cJ cZ oA rA σ_5 ++ b_c cB cC cI cJ cZ oA rA σ_5)) (wr := ([] : va_W)) hP (hDD σ_5) hS hFc (bx_ix [b_g cB cC cI cJ cZ oA rA σ_5, b_w cB cC cI cJ cZ oA rA σ_5, b_c cB cC cI cJ cZ oA rA σ_5] [0, 1, 2]) (bx_ix [b_g cB cC cI cJ cZ oA rA σ_5, b_w cB cC cI cJ cZ oA rA σ_5, b_c cB cC cI cJ cZ oA rA σ_5] []) (bx_C (bs := [b_g cB cC cI cJ cZ oA rA σ_5, b_w cB cC cI cJ cZ oA rA σ_5, b_c cB cC cI cJ cZ oA rA σ_5]) (bs' := [b_g cB cC cI cJ cZ oA rA σ_5, b_w cB cC cI cJ cZ oA rA σ_5, b_c cB cC cI cJ cZ oA rA σ_5]) (is := [0, 1, 2]) fl_3 fl_3 rfl) (bx_C (bs := [b_g cB cC cI cJ cZ oA rA σ_5, b_w cB cC cI cJ cZ oA rA σ_5, b_c cB cC cI cJ cZ oA rA σ_5]) (bs' := []) (is := []) fl_3 fl_0 rfl) (bx_n (by decide +kernel)) (bx_d (by decide +kernel)) (va_runV (As := [.int 93]) (rest := []) ⟨hx, hb, hml, hown, hts⟩ (k_X2_need l dC dI cB cC cI cJ cZ cP oA rA H.size  93 σ_5 _ hu_7) (cwV 1 hts (g_gV wq_564 wq_565 wq_2000 wq_3 wq_566) rfl rfl rfl (by decide +kernel) ⟨by show 2 + 1 ≤ 4 + (d + 1); omega, by show 8 + (2 + 11) + 61 ≤ 102 + 22 * (d + 1); omega⟩) (g_preV g_bl0 hK hPc hDc hS hE hFc g_to0 (q0 := 0) (ci := 2) rfl rfl) rfl rfl hl.1 rfl (lv_room (Nat.le_of_ble_eq_true rfl)) dX2_index_21 ⟨Nat.le_of_ble_eq_true rfl, Nat.le_of_ble_eq_true rfl⟩) (fun u9 H locs hw9 hP' hD' hS => ?_)
  clear hPc hDc hFc
  have hP : va_P (dC, dI) vwCl (b_g cB cC cI cJ cZ oA rA u_7.2 ++ b_w cB cC cI cJ cZ oA rA u_7.2 ++ b_c cB cC cI cJ cZ oA rA u_7.2) H := hP'
  clear hP' hD'
  have h9 := Option.some.inj hF_8
  subst h9
  exact W.vret hx hb hr (fun t ht hW => ⟨⟨(), rfl, trivial, m_end ht hP, hDD _⟩, hS.F ht⟩) hS.2.2 dX2_index_24

/-- the group, by its depth -/
def gG : Nat → HG
  | 0, _, _, _, _, _ => none
  | d + 1, t, a, b, c, Γ => if t = 0 then F_X2_expression (gG d)  Γ else if t = 1 then F_X2_both (gG d)  Γ else if t = 2 then F_X2_step (gG d)  Γ else if t = 3 then F_X2_sum (gG d)  Γ else if t = 4 then F_X2_term (gG d)  Γ else if t = 5 then F_X2_factor (gG d)  Γ else if t = 6 then F_X2_primary (gG d)  Γ else if t = 7 then F_X2_arguments (gG d) a Γ else if t = 8 then F_X2_index (gG d)  Γ else none
theorem gG_0 (d : Nat) (a b c : Int32) (Γ : HS) : gG (d + 1) 0 a b c Γ = F_X2_expression (gG d)  Γ := by
  rw [gG]
  exact if_pos rfl
theorem gG_1 (d : Nat) (a b c : Int32) (Γ : HS) : gG (d + 1) 1 a b c Γ = F_X2_both (gG d)  Γ := by
  rw [gG]
  exact (if_neg (by decide)).trans (if_pos rfl)
theorem gG_2 (d : Nat) (a b c : Int32) (Γ : HS) : gG (d + 1) 2 a b c Γ = F_X2_step (gG d)  Γ := by
  rw [gG]
  exact (if_neg (by decide)).trans ((if_neg (by decide)).trans (if_pos rfl))
theorem gG_3 (d : Nat) (a b c : Int32) (Γ : HS) : gG (d + 1) 3 a b c Γ = F_X2_sum (gG d)  Γ := by
  rw [gG]
  exact (if_neg (by decide)).trans ((if_neg (by decide)).trans ((if_neg (by decide)).trans (if_pos rfl)))
theorem gG_4 (d : Nat) (a b c : Int32) (Γ : HS) : gG (d + 1) 4 a b c Γ = F_X2_term (gG d)  Γ := by
  rw [gG]
  exact (if_neg (by decide)).trans ((if_neg (by decide)).trans ((if_neg (by decide)).trans ((if_neg (by decide)).trans (if_pos rfl))))
theorem gG_5 (d : Nat) (a b c : Int32) (Γ : HS) : gG (d + 1) 5 a b c Γ = F_X2_factor (gG d)  Γ := by
  rw [gG]
  exact (if_neg (by decide)).trans ((if_neg (by decide)).trans ((if_neg (by decide)).trans ((if_neg (by decide)).trans ((if_neg (by decide)).trans (if_pos rfl)))))
theorem gG_6 (d : Nat) (a b c : Int32) (Γ : HS) : gG (d + 1) 6 a b c Γ = F_X2_primary (gG d)  Γ := by
  rw [gG]
  exact (if_neg (by decide)).trans ((if_neg (by decide)).trans ((if_neg (by decide)).trans ((if_neg (by decide)).trans ((if_neg (by decide)).trans ((if_neg (by decide)).trans (if_pos rfl))))))
theorem gG_7 (d : Nat) (a b c : Int32) (Γ : HS) : gG (d + 1) 7 a b c Γ = F_X2_arguments (gG d) a Γ := by
  rw [gG]
  exact (if_neg (by decide)).trans ((if_neg (by decide)).trans ((if_neg (by decide)).trans ((if_neg (by decide)).trans ((if_neg (by decide)).trans ((if_neg (by decide)).trans ((if_neg (by decide)).trans (if_pos rfl)))))))
theorem gG_8 (d : Nat) (a b c : Int32) (Γ : HS) : gG (d + 1) 8 a b c Γ = F_X2_index (gG d)  Γ := by
  rw [gG]
  exact (if_neg (by decide)).trans ((if_neg (by decide)).trans ((if_neg (by decide)).trans ((if_neg (by decide)).trans ((if_neg (by decide)).trans ((if_neg (by decide)).trans ((if_neg (by decide)).trans ((if_neg (by decide)).trans (if_pos rfl))))))))
set_option maxHeartbeats 4000000 in
theorem gG_all (l : Launch) (dC : Nat → ClassId) (dI : Nat → Nat → Nat) (cB cC cI cJ cZ cP : ClassId) (oA : Nat → Nat) (rA : Nat → Nat → Nat) : ∀ d : Nat, (∀ (sz : Nat)  (Γ : HS) (res : Int32 × HS), gG d 0 0 0 0 Γ = some res → Met l yX2_expression (g_ws yX2_expression cX2_expression 3 none) ({ frames := 4 + d, cells := 0, slots := 0, locals := 102 + 22 * d }) (va_Pc [.ref (oA 2)] (g_B (dC, dI) [(cB, .byte), (cC, .char), (cI, .int), (cJ, .long), (cZ, .boolean), (cP, .object "StoryHouse$Play")] sz (b_g cB cC cI cJ cZ oA rA Γ ++ b_w cB cC cI cJ cZ oA rA Γ ++ b_c cB cC cI cJ cZ oA rA Γ) g_0)) (va_Qv (fun (_ : Unit) => True) (g_Bo (dC, dI) (va_A (b_g cB cC cI cJ cZ oA rA Γ ++ b_w cB cC cI cJ cZ oA rA Γ ++ b_c cB cC cI cJ cZ oA rA Γ) sz) (fun (_ : Unit) => (b_g cB cC cI cJ cZ oA rA res.2 ++ b_w cB cC cI cJ cZ oA rA res.2 ++ b_c cB cC cI cJ cZ oA rA res.2))) (va_A (b_g cB cC cI cJ cZ oA rA Γ ++ b_w cB cC cI cJ cZ oA rA Γ ++ b_c cB cC cI cJ cZ oA rA Γ) sz)) 0 0 (va_A (b_g cB cC cI cJ cZ oA rA Γ ++ b_w cB cC cI cJ cZ oA rA Γ ++ b_c cB cC cI cJ cZ oA rA Γ) sz)) ∧ (∀ (sz : Nat)  (Γ : HS) (res : Int32 × HS), gG d 1 0 0 0 Γ = some res → Met l yX2_both (g_ws yX2_both cX2_both 3 none) ({ frames := 4 + d, cells := 0, slots := 0, locals := 102 + 22 * d }) (va_Pc [.ref (oA 2)] (g_B (dC, dI) [(cB, .byte), (cC, .char), (cI, .int), (cJ, .long), (cZ, .boolean), (cP, .object "StoryHouse$Play")] sz (b_g cB cC cI cJ cZ oA rA Γ ++ b_w cB cC cI cJ cZ oA rA Γ ++ b_c cB cC cI cJ cZ oA rA Γ) g_0)) (va_Qv (fun (_ : Unit) => True) (g_Bo (dC, dI) (va_A (b_g cB cC cI cJ cZ oA rA Γ ++ b_w cB cC cI cJ cZ oA rA Γ ++ b_c cB cC cI cJ cZ oA rA Γ) sz) (fun (_ : Unit) => (b_g cB cC cI cJ cZ oA rA res.2 ++ b_w cB cC cI cJ cZ oA rA res.2 ++ b_c cB cC cI cJ cZ oA rA res.2))) (va_A (b_g cB cC cI cJ cZ oA rA Γ ++ b_w cB cC cI cJ cZ oA rA Γ ++ b_c cB cC cI cJ cZ oA rA Γ) sz)) 0 0 (va_A (b_g cB cC cI cJ cZ oA rA Γ ++ b_w cB cC cI cJ cZ oA rA Γ ++ b_c cB cC cI cJ cZ oA rA Γ) sz)) ∧ (∀ (sz : Nat)  (Γ : HS) (res : Int32 × HS), gG d 2 0 0 0 Γ = some res → Met l yX2_step (g_ws yX2_step cX2_step 2 none) ({ frames := 4 + d, cells := 0, slots := 0, locals := 102 + 22 * d }) (va_Pc [.ref (oA 2)] (g_B (dC, dI) [(cB, .byte), (cC, .char), (cI, .int), (cJ, .long), (cZ, .boolean), (cP, .object "StoryHouse$Play")] sz (b_g cB cC cI cJ cZ oA rA Γ ++ b_w cB cC cI cJ cZ oA rA Γ ++ b_c cB cC cI cJ cZ oA rA Γ) g_0)) (va_Qv (fun (_ : Unit) => True) (g_Bo (dC, dI) (va_A (b_g cB cC cI cJ cZ oA rA Γ ++ b_w cB cC cI cJ cZ oA rA Γ ++ b_c cB cC cI cJ cZ oA rA Γ) sz) (fun (_ : Unit) => (b_g cB cC cI cJ cZ oA rA res.2 ++ b_w cB cC cI cJ cZ oA rA res.2 ++ b_c cB cC cI cJ cZ oA rA res.2))) (va_A (b_g cB cC cI cJ cZ oA rA Γ ++ b_w cB cC cI cJ cZ oA rA Γ ++ b_c cB cC cI cJ cZ oA rA Γ) sz)) 0 0 (va_A (b_g cB cC cI cJ cZ oA rA Γ ++ b_w cB cC cI cJ cZ oA rA Γ ++ b_c cB cC cI cJ cZ oA rA Γ) sz)) ∧ (∀ (sz : Nat)  (Γ : HS) (res : Int32 × HS), gG d 3 0 0 0 Γ = some res → Met l yX2_sum (g_ws yX2_sum cX2_sum 3 none) ({ frames := 4 + d, cells := 0, slots := 0, locals := 102 + 22 * d }) (va_Pc [.ref (oA 2)] (g_B (dC, dI) [(cB, .byte), (cC, .char), (cI, .int), (cJ, .long), (cZ, .boolean), (cP, .object "StoryHouse$Play")] sz (b_g cB cC cI cJ cZ oA rA Γ ++ b_w cB cC cI cJ cZ oA rA Γ ++ b_c cB cC cI cJ cZ oA rA Γ) g_0)) (va_Qv (fun (_ : Unit) => True) (g_Bo (dC, dI) (va_A (b_g cB cC cI cJ cZ oA rA Γ ++ b_w cB cC cI cJ cZ oA rA Γ ++ b_c cB cC cI cJ cZ oA rA Γ) sz) (fun (_ : Unit) => (b_g cB cC cI cJ cZ oA rA res.2 ++ b_w cB cC cI cJ cZ oA rA res.2 ++ b_c cB cC cI cJ cZ oA rA res.2))) (va_A (b_g cB cC cI cJ cZ oA rA Γ ++ b_w cB cC cI cJ cZ oA rA Γ ++ b_c cB cC cI cJ cZ oA rA Γ) sz)) 0 0 (va_A (b_g cB cC cI cJ cZ oA rA Γ ++ b_w cB cC cI cJ cZ oA rA Γ ++ b_c cB cC cI cJ cZ oA rA Γ) sz)) ∧ (∀ (sz : Nat)  (Γ : HS) (res : Int32 × HS), gG d 4 0 0 0 Γ = some res → Met l yX2_term (g_ws yX2_term cX2_term 3 none) ({ frames := 4 + d, cells := 0, slots := 0, locals := 102 + 22 * d }) (va_Pc [.ref (oA 2)] (g_B (dC, dI) [(cB, .byte), (cC, .char), (cI, .int), (cJ, .long), (cZ, .boolean), (cP, .object "StoryHouse$Play")] sz (b_g cB cC cI cJ cZ oA rA Γ ++ b_w cB cC cI cJ cZ oA rA Γ ++ b_c cB cC cI cJ cZ oA rA Γ) g_0)) (va_Qv (fun (_ : Unit) => True) (g_Bo (dC, dI) (va_A (b_g cB cC cI cJ cZ oA rA Γ ++ b_w cB cC cI cJ cZ oA rA Γ ++ b_c cB cC cI cJ cZ oA rA Γ) sz) (fun (_ : Unit) => (b_g cB cC cI cJ cZ oA rA res.2 ++ b_w cB cC cI cJ cZ oA rA res.2 ++ b_c cB cC cI cJ cZ oA rA res.2))) (va_A (b_g cB cC cI cJ cZ oA rA Γ ++ b_w cB cC cI cJ cZ oA rA Γ ++ b_c cB cC cI cJ cZ oA rA Γ) sz)) 0 0 (va_A (b_g cB cC cI cJ cZ oA rA Γ ++ b_w cB cC cI cJ cZ oA rA Γ ++ b_c cB cC cI cJ cZ oA rA Γ) sz)) ∧ (∀ (sz : Nat)  (Γ : HS) (res : Int32 × HS), gG d 5 0 0 0 Γ = some res → Met l yX2_factor (g_ws yX2_factor cX2_factor 1 none) ({ frames := 4 + d, cells := 0, slots := 0, locals := 102 + 22 * d }) (va_Pc [.ref (oA 2)] (g_B (dC, dI) [(cB, .byte), (cC, .char), (cI, .int), (cJ, .long), (cZ, .boolean), (cP, .object "StoryHouse$Play")] sz (b_g cB cC cI cJ cZ oA rA Γ ++ b_w cB cC cI cJ cZ oA rA Γ ++ b_c cB cC cI cJ cZ oA rA Γ) g_0)) (va_Qv (fun (_ : Unit) => True) (g_Bo (dC, dI) (va_A (b_g cB cC cI cJ cZ oA rA Γ ++ b_w cB cC cI cJ cZ oA rA Γ ++ b_c cB cC cI cJ cZ oA rA Γ) sz) (fun (_ : Unit) => (b_g cB cC cI cJ cZ oA rA res.2 ++ b_w cB cC cI cJ cZ oA rA res.2 ++ b_c cB cC cI cJ cZ oA rA res.2))) (va_A (b_g cB cC cI cJ cZ oA rA Γ ++ b_w cB cC cI cJ cZ oA rA Γ ++ b_c cB cC cI cJ cZ oA rA Γ) sz)) 0 0 (va_A (b_g cB cC cI cJ cZ oA rA Γ ++ b_w cB cC cI cJ cZ oA rA Γ ++ b_c cB cC cI cJ cZ oA rA Γ) sz)) ∧ (∀ (sz : Nat)  (Γ : HS) (res : Int32 × HS), gG d 6 0 0 0 Γ = some res → Met l yX2_primary (g_ws yX2_primary cX2_primary 3 none) ({ frames := 4 + d, cells := 0, slots := 0, locals := 102 + 22 * d }) (va_Pc [.ref (oA 2)] (g_B (dC, dI) [(cB, .byte), (cC, .char), (cI, .int), (cJ, .long), (cZ, .boolean), (cP, .object "StoryHouse$Play")] sz (b_g cB cC cI cJ cZ oA rA Γ ++ b_w cB cC cI cJ cZ oA rA Γ ++ b_c cB cC cI cJ cZ oA rA Γ) g_0)) (va_Qv (fun (_ : Unit) => True) (g_Bo (dC, dI) (va_A (b_g cB cC cI cJ cZ oA rA Γ ++ b_w cB cC cI cJ cZ oA rA Γ ++ b_c cB cC cI cJ cZ oA rA Γ) sz) (fun (_ : Unit) => (b_g cB cC cI cJ cZ oA rA res.2 ++ b_w cB cC cI cJ cZ oA rA res.2 ++ b_c cB cC cI cJ cZ oA rA res.2))) (va_A (b_g cB cC cI cJ cZ oA rA Γ ++ b_w cB cC cI cJ cZ oA rA Γ ++ b_c cB cC cI cJ cZ oA rA Γ) sz)) 0 0 (va_A (b_g cB cC cI cJ cZ oA rA Γ ++ b_w cB cC cI cJ cZ oA rA Γ ++ b_c cB cC cI cJ cZ oA rA Γ) sz)) ∧ (∀ (sz : Nat) (p0 : Int32) (Γ : HS) (res : Int32 × HS), gG d 7 p0 0 0 Γ = some res → Met l yX2_arguments (g_ws yX2_arguments cX2_arguments 3 none) ({ frames := 4 + d, cells := 0, slots := 0, locals := 102 + 22 * d }) (va_Pc [.ref (oA 2), .int p0] (g_B (dC, dI) [(cB, .byte), (cC, .char), (cI, .int), (cJ, .long), (cZ, .boolean), (cP, .object "StoryHouse$Play")] sz (b_g cB cC cI cJ cZ oA rA Γ ++ b_w cB cC cI cJ cZ oA rA Γ ++ b_c cB cC cI cJ cZ oA rA Γ) g_0)) (va_Qv (fun (_ : Unit) => True) (g_Bo (dC, dI) (va_A (b_g cB cC cI cJ cZ oA rA Γ ++ b_w cB cC cI cJ cZ oA rA Γ ++ b_c cB cC cI cJ cZ oA rA Γ) sz) (fun (_ : Unit) => (b_g cB cC cI cJ cZ oA rA res.2 ++ b_w cB cC cI cJ cZ oA rA res.2 ++ b_c cB cC cI cJ cZ oA rA res.2))) (va_A (b_g cB cC cI cJ cZ oA rA Γ ++ b_w cB cC cI cJ cZ oA rA Γ ++ b_c cB cC cI cJ cZ oA rA Γ) sz)) 0 0 (va_A (b_g cB cC cI cJ cZ oA rA Γ ++ b_w cB cC cI cJ cZ oA rA Γ ++ b_c cB cC cI cJ cZ oA rA Γ) sz)) ∧ (∀ (sz : Nat)  (Γ : HS) (res : Int32 × HS), gG d 8 0 0 0 Γ = some res → Met l yX2_index (g_ws yX2_index cX2_index 1 none) ({ frames := 4 + d, cells := 0, slots := 0, locals := 102 + 22 * d }) (va_Pc [.ref (oA 2)] (g_B (dC, dI) [(cB, .byte), (cC, .char), (cI, .int), (cJ, .long), (cZ, .boolean), (cP, .object "StoryHouse$Play")] sz (b_g cB cC cI cJ cZ oA rA Γ ++ b_w cB cC cI cJ cZ oA rA Γ ++ b_c cB cC cI cJ cZ oA rA Γ) g_0)) (va_Qv (fun (_ : Unit) => True) (g_Bo (dC, dI) (va_A (b_g cB cC cI cJ cZ oA rA Γ ++ b_w cB cC cI cJ cZ oA rA Γ ++ b_c cB cC cI cJ cZ oA rA Γ) sz) (fun (_ : Unit) => (b_g cB cC cI cJ cZ oA rA res.2 ++ b_w cB cC cI cJ cZ oA rA res.2 ++ b_c cB cC cI cJ cZ oA rA res.2))) (va_A (b_g cB cC cI cJ cZ oA rA Γ ++ b_w cB cC cI cJ cZ oA rA Γ ++ b_c cB cC cI cJ cZ oA rA Γ) sz)) 0 0 (va_A (b_g cB cC cI cJ cZ oA rA Γ ++ b_w cB cC cI cJ cZ oA rA Γ ++ b_c cB cC cI cJ cZ oA rA Γ) sz)) := by
  intro d
  induction d with
  | zero => exact ⟨(fun sz  Γ res hz => by cases hz), (fun sz  Γ res hz => by cases hz), (fun sz  Γ res hz => by cases hz), (fun sz  Γ res hz => by cases hz), (fun sz  Γ res hz => by cases hz), (fun sz  Γ res hz => by cases hz), (fun sz  Γ res hz => by cases hz), (fun sz p0 Γ res hz => by cases hz), (fun sz  Γ res hz => by cases hz)⟩
  | succ d ih =>
    obtain ⟨hI0, hI1, hI2, hI3, hI4, hI5, hI6, hI7, hI8⟩ := ih
    exact ⟨(fun sz  Γ res hF => k_X2_expression_st l dC dI cB cC cI cJ cZ cP oA rA d (gG d) hI0 hI1 hI2 hI3 hI4 hI5 hI6 hI7 hI8 sz  Γ res ((gG_0 d 0 0 0 Γ).symm.trans hF)), (fun sz  Γ res hF => k_X2_both_st l dC dI cB cC cI cJ cZ cP oA rA d (gG d) hI0 hI1 hI2 hI3 hI4 hI5 hI6 hI7 hI8 sz  Γ res ((gG_1 d 0 0 0 Γ).symm.trans hF)), (fun sz  Γ res hF => k_X2_step_st l dC dI cB cC cI cJ cZ cP oA rA d (gG d) hI0 hI1 hI2 hI3 hI4 hI5 hI6 hI7 hI8 sz  Γ res ((gG_2 d 0 0 0 Γ).symm.trans hF)), (fun sz  Γ res hF => k_X2_sum_st l dC dI cB cC cI cJ cZ cP oA rA d (gG d) hI0 hI1 hI2 hI3 hI4 hI5 hI6 hI7 hI8 sz  Γ res ((gG_3 d 0 0 0 Γ).symm.trans hF)), (fun sz  Γ res hF => k_X2_term_st l dC dI cB cC cI cJ cZ cP oA rA d (gG d) hI0 hI1 hI2 hI3 hI4 hI5 hI6 hI7 hI8 sz  Γ res ((gG_4 d 0 0 0 Γ).symm.trans hF)), (fun sz  Γ res hF => k_X2_factor_st l dC dI cB cC cI cJ cZ cP oA rA d (gG d) hI0 hI1 hI2 hI3 hI4 hI5 hI6 hI7 hI8 sz  Γ res ((gG_5 d 0 0 0 Γ).symm.trans hF)), (fun sz  Γ res hF => k_X2_primary_st l dC dI cB cC cI cJ cZ cP oA rA d (gG d) hI0 hI1 hI2 hI3 hI4 hI5 hI6 hI7 hI8 sz  Γ res ((gG_6 d 0 0 0 Γ).symm.trans hF)), (fun sz p0 Γ res hF => k_X2_arguments_st l dC dI cB cC cI cJ cZ cP oA rA d (gG d) hI0 hI1 hI2 hI3 hI4 hI5 hI6 hI7 hI8 sz p0 Γ res ((gG_7 d p0 0 0 Γ).symm.trans hF)), (fun sz  Γ res hF => k_X2_index_st l dC dI cB cC cI cJ cZ cP oA rA d (gG d) hI0 hI1 hI2 hI3 hI4 hI5 hI6 hI7 hI8 sz  Γ res ((gG_8 d 0 0 0 Γ).symm.trans hF))⟩

def G_X2_expression  (Γ : HS) : HR := gG 300 0 0 0 0 Γ
theorem k_X2_expression (l : Launch) (dC : Nat → ClassId) (dI : Nat → Nat → Nat) (cB cC cI cJ cZ cP : ClassId) (oA : Nat → Nat) (rA : Nat → Nat → Nat) : ∀ (sz : Nat)  (Γ : HS) (res : Int32 × HS), G_X2_expression  Γ = some res → Met l yX2_expression (g_ws yX2_expression cX2_expression 3 none) ({ frames := 304, cells := 0, slots := 0, locals := 6702 }) (va_Pc [.ref (oA 2)] (g_B (dC, dI) [(cB, .byte), (cC, .char), (cI, .int), (cJ, .long), (cZ, .boolean), (cP, .object "StoryHouse$Play")] sz (b_g cB cC cI cJ cZ oA rA Γ ++ b_w cB cC cI cJ cZ oA rA Γ ++ b_c cB cC cI cJ cZ oA rA Γ) g_0)) (va_Qv (fun (_ : Unit) => True) (g_Bo (dC, dI) (va_A (b_g cB cC cI cJ cZ oA rA Γ ++ b_w cB cC cI cJ cZ oA rA Γ ++ b_c cB cC cI cJ cZ oA rA Γ) sz) (fun (_ : Unit) => (b_g cB cC cI cJ cZ oA rA res.2 ++ b_w cB cC cI cJ cZ oA rA res.2 ++ b_c cB cC cI cJ cZ oA rA res.2))) (va_A (b_g cB cC cI cJ cZ oA rA Γ ++ b_w cB cC cI cJ cZ oA rA Γ ++ b_c cB cC cI cJ cZ oA rA Γ) sz)) 0 0 (va_A (b_g cB cC cI cJ cZ oA rA Γ ++ b_w cB cC cI cJ cZ oA rA Γ ++ b_c cB cC cI cJ cZ oA rA Γ) sz) := (gG_all l dC dI cB cC cI cJ cZ cP oA rA 300).1

def G_X2_both  (Γ : HS) : HR := gG 300 1 0 0 0 Γ
theorem k_X2_both (l : Launch) (dC : Nat → ClassId) (dI : Nat → Nat → Nat) (cB cC cI cJ cZ cP : ClassId) (oA : Nat → Nat) (rA : Nat → Nat → Nat) : ∀ (sz : Nat)  (Γ : HS) (res : Int32 × HS), G_X2_both  Γ = some res → Met l yX2_both (g_ws yX2_both cX2_both 3 none) ({ frames := 304, cells := 0, slots := 0, locals := 6702 }) (va_Pc [.ref (oA 2)] (g_B (dC, dI) [(cB, .byte), (cC, .char), (cI, .int), (cJ, .long), (cZ, .boolean), (cP, .object "StoryHouse$Play")] sz (b_g cB cC cI cJ cZ oA rA Γ ++ b_w cB cC cI cJ cZ oA rA Γ ++ b_c cB cC cI cJ cZ oA rA Γ) g_0)) (va_Qv (fun (_ : Unit) => True) (g_Bo (dC, dI) (va_A (b_g cB cC cI cJ cZ oA rA Γ ++ b_w cB cC cI cJ cZ oA rA Γ ++ b_c cB cC cI cJ cZ oA rA Γ) sz) (fun (_ : Unit) => (b_g cB cC cI cJ cZ oA rA res.2 ++ b_w cB cC cI cJ cZ oA rA res.2 ++ b_c cB cC cI cJ cZ oA rA res.2))) (va_A (b_g cB cC cI cJ cZ oA rA Γ ++ b_w cB cC cI cJ cZ oA rA Γ ++ b_c cB cC cI cJ cZ oA rA Γ) sz)) 0 0 (va_A (b_g cB cC cI cJ cZ oA rA Γ ++ b_w cB cC cI cJ cZ oA rA Γ ++ b_c cB cC cI cJ cZ oA rA Γ) sz) := (gG_all l dC dI cB cC cI cJ cZ cP oA rA 300).2.1

def G_X2_step  (Γ : HS) : HR := gG 300 2 0 0 0 Γ
theorem k_X2_step (l : Launch) (dC : Nat → ClassId) (dI : Nat → Nat → Nat) (cB cC cI cJ cZ cP : ClassId) (oA : Nat → Nat) (rA : Nat → Nat → Nat) : ∀ (sz : Nat)  (Γ : HS) (res : Int32 × HS), G_X2_step  Γ = some res → Met l yX2_step (g_ws yX2_step cX2_step 2 none) ({ frames := 304, cells := 0, slots := 0, locals := 6702 }) (va_Pc [.ref (oA 2)] (g_B (dC, dI) [(cB, .byte), (cC, .char), (cI, .int), (cJ, .long), (cZ, .boolean), (cP, .object "StoryHouse$Play")] sz (b_g cB cC cI cJ cZ oA rA Γ ++ b_w cB cC cI cJ cZ oA rA Γ ++ b_c cB cC cI cJ cZ oA rA Γ) g_0)) (va_Qv (fun (_ : Unit) => True) (g_Bo (dC, dI) (va_A (b_g cB cC cI cJ cZ oA rA Γ ++ b_w cB cC cI cJ cZ oA rA Γ ++ b_c cB cC cI cJ cZ oA rA Γ) sz) (fun (_ : Unit) => (b_g cB cC cI cJ cZ oA rA res.2 ++ b_w cB cC cI cJ cZ oA rA res.2 ++ b_c cB cC cI cJ cZ oA rA res.2))) (va_A (b_g cB cC cI cJ cZ oA rA Γ ++ b_w cB cC cI cJ cZ oA rA Γ ++ b_c cB cC cI cJ cZ oA rA Γ) sz)) 0 0 (va_A (b_g cB cC cI cJ cZ oA rA Γ ++ b_w cB cC cI cJ cZ oA rA Γ ++ b_c cB cC cI cJ cZ oA rA Γ) sz) := (gG_all l dC dI cB cC cI cJ cZ cP oA rA 300).2.2.1

def G_X2_sum  (Γ : HS) : HR := gG 300 3 0 0 0 Γ
theorem k_X2_sum (l : Launch) (dC : Nat → ClassId) (dI : Nat → Nat → Nat) (cB cC cI cJ cZ cP : ClassId) (oA : Nat → Nat) (rA : Nat → Nat → Nat) : ∀ (sz : Nat)  (Γ : HS) (res : Int32 × HS), G_X2_sum  Γ = some res → Met l yX2_sum (g_ws yX2_sum cX2_sum 3 none) ({ frames := 304, cells := 0, slots := 0, locals := 6702 }) (va_Pc [.ref (oA 2)] (g_B (dC, dI) [(cB, .byte), (cC, .char), (cI, .int), (cJ, .long), (cZ, .boolean), (cP, .object "StoryHouse$Play")] sz (b_g cB cC cI cJ cZ oA rA Γ ++ b_w cB cC cI cJ cZ oA rA Γ ++ b_c cB cC cI cJ cZ oA rA Γ) g_0)) (va_Qv (fun (_ : Unit) => True) (g_Bo (dC, dI) (va_A (b_g cB cC cI cJ cZ oA rA Γ ++ b_w cB cC cI cJ cZ oA rA Γ ++ b_c cB cC cI cJ cZ oA rA Γ) sz) (fun (_ : Unit) => (b_g cB cC cI cJ cZ oA rA res.2 ++ b_w cB cC cI cJ cZ oA rA res.2 ++ b_c cB cC cI cJ cZ oA rA res.2))) (va_A (b_g cB cC cI cJ cZ oA rA Γ ++ b_w cB cC cI cJ cZ oA rA Γ ++ b_c cB cC cI cJ cZ oA rA Γ) sz)) 0 0 (va_A (b_g cB cC cI cJ cZ oA rA Γ ++ b_w cB cC cI cJ cZ oA rA Γ ++ b_c cB cC cI cJ cZ oA rA Γ) sz) := (gG_all l dC dI cB cC cI cJ cZ cP oA rA 300).2.2.2.1

def G_X2_term  (Γ : HS) : HR := gG 300 4 0 0 0 Γ
theorem k_X2_term (l : Launch) (dC : Nat → ClassId) (dI : Nat → Nat → Nat) (cB cC cI cJ cZ cP : ClassId) (oA : Nat → Nat) (rA : Nat → Nat → Nat) : ∀ (sz : Nat)  (Γ : HS) (res : Int32 × HS), G_X2_term  Γ = some res → Met l yX2_term (g_ws yX2_term cX2_term 3 none) ({ frames := 304, cells := 0, slots := 0, locals := 6702 }) (va_Pc [.ref (oA 2)] (g_B (dC, dI) [(cB, .byte), (cC, .char), (cI, .int), (cJ, .long), (cZ, .boolean), (cP, .object "StoryHouse$Play")] sz (b_g cB cC cI cJ cZ oA rA Γ ++ b_w cB cC cI cJ cZ oA rA Γ ++ b_c cB cC cI cJ cZ oA rA Γ) g_0)) (va_Qv (fun (_ : Unit) => True) (g_Bo (dC, dI) (va_A (b_g cB cC cI cJ cZ oA rA Γ ++ b_w cB cC cI cJ cZ oA rA Γ ++ b_c cB cC cI cJ cZ oA rA Γ) sz) (fun (_ : Unit) => (b_g cB cC cI cJ cZ oA rA res.2 ++ b_w cB cC cI cJ cZ oA rA res.2 ++ b_c cB cC cI cJ cZ oA rA res.2))) (va_A (b_g cB cC cI cJ cZ oA rA Γ ++ b_w cB cC cI cJ cZ oA rA Γ ++ b_c cB cC cI cJ cZ oA rA Γ) sz)) 0 0 (va_A (b_g cB cC cI cJ cZ oA rA Γ ++ b_w cB cC cI cJ cZ oA rA Γ ++ b_c cB cC cI cJ cZ oA rA Γ) sz) := (gG_all l dC dI cB cC cI cJ cZ cP oA rA 300).2.2.2.2.1

def G_X2_factor  (Γ : HS) : HR := gG 300 5 0 0 0 Γ
theorem k_X2_factor (l : Launch) (dC : Nat → ClassId) (dI : Nat → Nat → Nat) (cB cC cI cJ cZ cP : ClassId) (oA : Nat → Nat) (rA : Nat → Nat → Nat) : ∀ (sz : Nat)  (Γ : HS) (res : Int32 × HS), G_X2_factor  Γ = some res → Met l yX2_factor (g_ws yX2_factor cX2_factor 1 none) ({ frames := 304, cells := 0, slots := 0, locals := 6702 }) (va_Pc [.ref (oA 2)] (g_B (dC, dI) [(cB, .byte), (cC, .char), (cI, .int), (cJ, .long), (cZ, .boolean), (cP, .object "StoryHouse$Play")] sz (b_g cB cC cI cJ cZ oA rA Γ ++ b_w cB cC cI cJ cZ oA rA Γ ++ b_c cB cC cI cJ cZ oA rA Γ) g_0)) (va_Qv (fun (_ : Unit) => True) (g_Bo (dC, dI) (va_A (b_g cB cC cI cJ cZ oA rA Γ ++ b_w cB cC cI cJ cZ oA rA Γ ++ b_c cB cC cI cJ cZ oA rA Γ) sz) (fun (_ : Unit) => (b_g cB cC cI cJ cZ oA rA res.2 ++ b_w cB cC cI cJ cZ oA rA res.2 ++ b_c cB cC cI cJ cZ oA rA res.2))) (va_A (b_g cB cC cI cJ cZ oA rA Γ ++ b_w cB cC cI cJ cZ oA rA Γ ++ b_c cB cC cI cJ cZ oA rA Γ) sz)) 0 0 (va_A (b_g cB cC cI cJ cZ oA rA Γ ++ b_w cB cC cI cJ cZ oA rA Γ ++ b_c cB cC cI cJ cZ oA rA Γ) sz) := (gG_all l dC dI cB cC cI cJ cZ cP oA rA 300).2.2.2.2.2.1

def G_X2_primary  (Γ : HS) : HR := gG 300 6 0 0 0 Γ
theorem k_X2_primary (l : Launch) (dC : Nat → ClassId) (dI : Nat → Nat → Nat) (cB cC cI cJ cZ cP : ClassId) (oA : Nat → Nat) (rA : Nat → Nat → Nat) : ∀ (sz : Nat)  (Γ : HS) (res : Int32 × HS), G_X2_primary  Γ = some res → Met l yX2_primary (g_ws yX2_primary cX2_primary 3 none) ({ frames := 304, cells := 0, slots := 0, locals := 6702 }) (va_Pc [.ref (oA 2)] (g_B (dC, dI) [(cB, .byte), (cC, .char), (cI, .int), (cJ, .long), (cZ, .boolean), (cP, .object "StoryHouse$Play")] sz (b_g cB cC cI cJ cZ oA rA Γ ++ b_w cB cC cI cJ cZ oA rA Γ ++ b_c cB cC cI cJ cZ oA rA Γ) g_0)) (va_Qv (fun (_ : Unit) => True) (g_Bo (dC, dI) (va_A (b_g cB cC cI cJ cZ oA rA Γ ++ b_w cB cC cI cJ cZ oA rA Γ ++ b_c cB cC cI cJ cZ oA rA Γ) sz) (fun (_ : Unit) => (b_g cB cC cI cJ cZ oA rA res.2 ++ b_w cB cC cI cJ cZ oA rA res.2 ++ b_c cB cC cI cJ cZ oA rA res.2))) (va_A (b_g cB cC cI cJ cZ oA rA Γ ++ b_w cB cC cI cJ cZ oA rA Γ ++ b_c cB cC cI cJ cZ oA rA Γ) sz)) 0 0 (va_A (b_g cB cC cI cJ cZ oA rA Γ ++ b_w cB cC cI cJ cZ oA rA Γ ++ b_c cB cC cI cJ cZ oA rA Γ) sz) := (gG_all l dC dI cB cC cI cJ cZ cP oA rA 300).2.2.2.2.2.2.1

def G_X2_arguments (p0 : Int32) (Γ : HS) : HR := gG 300 7 p0 0 0 Γ
theorem k_X2_arguments (l : Launch) (dC : Nat → ClassId) (dI : Nat → Nat → Nat) (cB cC cI cJ cZ cP : ClassId) (oA : Nat → Nat) (rA : Nat → Nat → Nat) : ∀ (sz : Nat) (p0 : Int32) (Γ : HS) (res : Int32 × HS), G_X2_arguments p0 Γ = some res → Met l yX2_arguments (g_ws yX2_arguments cX2_arguments 3 none) ({ frames := 304, cells := 0, slots := 0, locals := 6702 }) (va_Pc [.ref (oA 2), .int p0] (g_B (dC, dI) [(cB, .byte), (cC, .char), (cI, .int), (cJ, .long), (cZ, .boolean), (cP, .object "StoryHouse$Play")] sz (b_g cB cC cI cJ cZ oA rA Γ ++ b_w cB cC cI cJ cZ oA rA Γ ++ b_c cB cC cI cJ cZ oA rA Γ) g_0)) (va_Qv (fun (_ : Unit) => True) (g_Bo (dC, dI) (va_A (b_g cB cC cI cJ cZ oA rA Γ ++ b_w cB cC cI cJ cZ oA rA Γ ++ b_c cB cC cI cJ cZ oA rA Γ) sz) (fun (_ : Unit) => (b_g cB cC cI cJ cZ oA rA res.2 ++ b_w cB cC cI cJ cZ oA rA res.2 ++ b_c cB cC cI cJ cZ oA rA res.2))) (va_A (b_g cB cC cI cJ cZ oA rA Γ ++ b_w cB cC cI cJ cZ oA rA Γ ++ b_c cB cC cI cJ cZ oA rA Γ) sz)) 0 0 (va_A (b_g cB cC cI cJ cZ oA rA Γ ++ b_w cB cC cI cJ cZ oA rA Γ ++ b_c cB cC cI cJ cZ oA rA Γ) sz) := (gG_all l dC dI cB cC cI cJ cZ cP oA rA 300).2.2.2.2.2.2.2.1

def G_X2_index  (Γ : HS) : HR := gG 300 8 0 0 0 Γ
theorem k_X2_index (l : Launch) (dC : Nat → ClassId) (dI : Nat → Nat → Nat) (cB cC cI cJ cZ cP : ClassId) (oA : Nat → Nat) (rA : Nat → Nat → Nat) : ∀ (sz : Nat)  (Γ : HS) (res : Int32 × HS), G_X2_index  Γ = some res → Met l yX2_index (g_ws yX2_index cX2_index 1 none) ({ frames := 304, cells := 0, slots := 0, locals := 6702 }) (va_Pc [.ref (oA 2)] (g_B (dC, dI) [(cB, .byte), (cC, .char), (cI, .int), (cJ, .long), (cZ, .boolean), (cP, .object "StoryHouse$Play")] sz (b_g cB cC cI cJ cZ oA rA Γ ++ b_w cB cC cI cJ cZ oA rA Γ ++ b_c cB cC cI cJ cZ oA rA Γ) g_0)) (va_Qv (fun (_ : Unit) => True) (g_Bo (dC, dI) (va_A (b_g cB cC cI cJ cZ oA rA Γ ++ b_w cB cC cI cJ cZ oA rA Γ ++ b_c cB cC cI cJ cZ oA rA Γ) sz) (fun (_ : Unit) => (b_g cB cC cI cJ cZ oA rA res.2 ++ b_w cB cC cI cJ cZ oA rA res.2 ++ b_c cB cC cI cJ cZ oA rA res.2))) (va_A (b_g cB cC cI cJ cZ oA rA Γ ++ b_w cB cC cI cJ cZ oA rA Γ ++ b_c cB cC cI cJ cZ oA rA Γ) sz)) 0 0 (va_A (b_g cB cC cI cJ cZ oA rA Γ ++ b_w cB cC cI cJ cZ oA rA Γ ++ b_c cB cC cI cJ cZ oA rA Γ) sz) := (gG_all l dC dI cB cC cI cJ cZ cP oA rA 300).2.2.2.2.2.2.2.2
