/-! methods of the reference: what each does is its function -/
theorem dX12_expression_0 : decode cX12_expression 0 = .ok (.aload_n 0, 1) := by decide +kernel
theorem dX12_expression_1 : decode cX12_expression 1 = .ok (.invokevirtual 420, 3) := by decide +kernel
theorem dX12_expression_4 : decode cX12_expression 4 = .ok (.istore_n 1, 1) := by decide +kernel
theorem dX12_expression_5 : decode cX12_expression 5 = .ok (.aload_n 0, 1) := by decide +kernel
theorem dX12_expression_6 : decode cX12_expression 6 = .ok (.bipush 29, 2) := by decide +kernel
theorem dX12_expression_8 : decode cX12_expression 8 = .ok (.invokevirtual 324, 3) := by decide +kernel
theorem dX12_expression_11 : decode cX12_expression 11 = .ok (.ifCond .eq 37, 3) := by decide +kernel
theorem dX12_expression_14 : decode cX12_expression 14 = .ok (.aload_n 0, 1) := by decide +kernel
theorem dX12_expression_15 : decode cX12_expression 15 = .ok (.getfield 31, 3) := by decide +kernel
theorem dX12_expression_18 : decode cX12_expression 18 = .ok (.aload_n 0, 1) := by decide +kernel
theorem dX12_expression_19 : decode cX12_expression 19 = .ok (.dup, 1) := by decide +kernel
theorem dX12_expression_20 : decode cX12_expression 20 = .ok (.getfield 314, 3) := by decide +kernel
theorem dX12_expression_23 : decode cX12_expression 23 = .ok (.dup_x1, 1) := by decide +kernel
theorem dX12_expression_24 : decode cX12_expression 24 = .ok (.iconst 1, 1) := by decide +kernel
theorem dX12_expression_25 : decode cX12_expression 25 = .ok (.iadd, 1) := by decide +kernel
theorem dX12_expression_26 : decode cX12_expression 26 = .ok (.putfield 314, 3) := by decide +kernel
theorem dX12_expression_29 : decode cX12_expression 29 = .ok (.iaload, 1) := by decide +kernel
theorem dX12_expression_30 : decode cX12_expression 30 = .ok (.istore_n 2, 1) := by decide +kernel
theorem dX12_expression_31 : decode cX12_expression 31 = .ok (.aload_n 0, 1) := by decide +kernel
theorem dX12_expression_32 : decode cX12_expression 32 = .ok (.bipush 55, 2) := by decide +kernel
theorem dX12_expression_34 : decode cX12_expression 34 = .ok (.iload_n 2, 1) := by decide +kernel
theorem dX12_expression_35 : decode cX12_expression 35 = .ok (.iload_n 1, 1) := by decide +kernel
theorem dX12_expression_36 : decode cX12_expression 36 = .ok (.aload_n 0, 1) := by decide +kernel
theorem dX12_expression_37 : decode cX12_expression 37 = .ok (.invokevirtual 420, 3) := by decide +kernel
theorem dX12_expression_40 : decode cX12_expression 40 = .ok (.iconst 0, 1) := by decide +kernel
theorem dX12_expression_41 : decode cX12_expression 41 = .ok (.invokevirtual 423, 3) := by decide +kernel
theorem dX12_expression_44 : decode cX12_expression 44 = .ok (.istore_n 1, 1) := by decide +kernel
theorem dX12_expression_45 : decode cX12_expression 45 = .ok (.goto (-40), 3) := by decide +kernel
theorem dX12_expression_48 : decode cX12_expression 48 = .ok (.iload_n 1, 1) := by decide +kernel
theorem dX12_expression_49 : decode cX12_expression 49 = .ok (.ireturn, 1) := by decide +kernel
theorem dX12_both_0 : decode cX12_both 0 = .ok (.aload_n 0, 1) := by decide +kernel
theorem dX12_both_1 : decode cX12_both 1 = .ok (.invokevirtual 427, 3) := by decide +kernel
theorem dX12_both_4 : decode cX12_both 4 = .ok (.istore_n 1, 1) := by decide +kernel
theorem dX12_both_5 : decode cX12_both 5 = .ok (.aload_n 0, 1) := by decide +kernel
theorem dX12_both_6 : decode cX12_both 6 = .ok (.iconst 2, 1) := by decide +kernel
theorem dX12_both_7 : decode cX12_both 7 = .ok (.invokevirtual 324, 3) := by decide +kernel
theorem dX12_both_10 : decode cX12_both 10 = .ok (.ifCond .eq 37, 3) := by decide +kernel
theorem dX12_both_13 : decode cX12_both 13 = .ok (.aload_n 0, 1) := by decide +kernel
theorem dX12_both_14 : decode cX12_both 14 = .ok (.getfield 31, 3) := by decide +kernel
theorem dX12_both_17 : decode cX12_both 17 = .ok (.aload_n 0, 1) := by decide +kernel
theorem dX12_both_18 : decode cX12_both 18 = .ok (.dup, 1) := by decide +kernel
theorem dX12_both_19 : decode cX12_both 19 = .ok (.getfield 314, 3) := by decide +kernel
theorem dX12_both_22 : decode cX12_both 22 = .ok (.dup_x1, 1) := by decide +kernel
theorem dX12_both_23 : decode cX12_both 23 = .ok (.iconst 1, 1) := by decide +kernel
theorem dX12_both_24 : decode cX12_both 24 = .ok (.iadd, 1) := by decide +kernel
theorem dX12_both_25 : decode cX12_both 25 = .ok (.putfield 314, 3) := by decide +kernel
theorem dX12_both_28 : decode cX12_both 28 = .ok (.iaload, 1) := by decide +kernel
theorem dX12_both_29 : decode cX12_both 29 = .ok (.istore_n 2, 1) := by decide +kernel
theorem dX12_both_30 : decode cX12_both 30 = .ok (.aload_n 0, 1) := by decide +kernel
theorem dX12_both_31 : decode cX12_both 31 = .ok (.bipush 54, 2) := by decide +kernel
theorem dX12_both_33 : decode cX12_both 33 = .ok (.iload_n 2, 1) := by decide +kernel
theorem dX12_both_34 : decode cX12_both 34 = .ok (.iload_n 1, 1) := by decide +kernel
theorem dX12_both_35 : decode cX12_both 35 = .ok (.aload_n 0, 1) := by decide +kernel
theorem dX12_both_36 : decode cX12_both 36 = .ok (.invokevirtual 427, 3) := by decide +kernel
theorem dX12_both_39 : decode cX12_both 39 = .ok (.iconst 0, 1) := by decide +kernel
theorem dX12_both_40 : decode cX12_both 40 = .ok (.invokevirtual 423, 3) := by decide +kernel
theorem dX12_both_43 : decode cX12_both 43 = .ok (.istore_n 1, 1) := by decide +kernel
theorem dX12_both_44 : decode cX12_both 44 = .ok (.goto (-39), 3) := by decide +kernel
theorem dX12_both_47 : decode cX12_both 47 = .ok (.iload_n 1, 1) := by decide +kernel
theorem dX12_both_48 : decode cX12_both 48 = .ok (.ireturn, 1) := by decide +kernel
theorem dX12_step_0 : decode cX12_step 0 = .ok (.aload_n 0, 1) := by decide +kernel
theorem dX12_step_1 : decode cX12_step 1 = .ok (.bipush 26, 2) := by decide +kernel
theorem dX12_step_3 : decode cX12_step 3 = .ok (.invokevirtual 324, 3) := by decide +kernel
theorem dX12_step_6 : decode cX12_step 6 = .ok (.ifCond .ne 8, 3) := by decide +kernel
theorem dX12_step_9 : decode cX12_step 9 = .ok (.aload_n 0, 1) := by decide +kernel
theorem dX12_step_10 : decode cX12_step 10 = .ok (.invokevirtual 430, 3) := by decide +kernel
theorem dX12_step_13 : decode cX12_step 13 = .ok (.ireturn, 1) := by decide +kernel
theorem dX12_step_14 : decode cX12_step 14 = .ok (.aload_n 0, 1) := by decide +kernel
theorem dX12_step_15 : decode cX12_step 15 = .ok (.getfield 31, 3) := by decide +kernel
theorem dX12_step_18 : decode cX12_step 18 = .ok (.aload_n 0, 1) := by decide +kernel
theorem dX12_step_19 : decode cX12_step 19 = .ok (.getfield 314, 3) := by decide +kernel
theorem dX12_step_22 : decode cX12_step 22 = .ok (.iaload, 1) := by decide +kernel
theorem dX12_step_23 : decode cX12_step 23 = .ok (.istore_n 1, 1) := by decide +kernel
theorem dX12_step_24 : decode cX12_step 24 = .ok (.aload_n 0, 1) := by decide +kernel
theorem dX12_step_25 : decode cX12_step 25 = .ok (.invokevirtual 339, 3) := by decide +kernel
theorem dX12_step_28 : decode cX12_step 28 = .ok (.aload_n 0, 1) := by decide +kernel
theorem dX12_step_29 : decode cX12_step 29 = .ok (.dup, 1) := by decide +kernel
theorem dX12_step_30 : decode cX12_step 30 = .ok (.getfield 314, 3) := by decide +kernel
theorem dX12_step_33 : decode cX12_step 33 = .ok (.iconst 1, 1) := by decide +kernel
theorem dX12_step_34 : decode cX12_step 34 = .ok (.iadd, 1) := by decide +kernel
theorem dX12_step_35 : decode cX12_step 35 = .ok (.putfield 314, 3) := by decide +kernel
theorem dX12_step_38 : decode cX12_step 38 = .ok (.aload_n 0, 1) := by decide +kernel
theorem dX12_step_39 : decode cX12_step 39 = .ok (.bipush 53, 2) := by decide +kernel
theorem dX12_step_41 : decode cX12_step 41 = .ok (.iload_n 1, 1) := by decide +kernel
theorem dX12_step_42 : decode cX12_step 42 = .ok (.aload_n 0, 1) := by decide +kernel
theorem dX12_step_43 : decode cX12_step 43 = .ok (.invokevirtual 427, 3) := by decide +kernel
theorem dX12_step_46 : decode cX12_step 46 = .ok (.iconst (-1), 1) := by decide +kernel
theorem dX12_step_47 : decode cX12_step 47 = .ok (.iconst 0, 1) := by decide +kernel
theorem dX12_step_48 : decode cX12_step 48 = .ok (.invokevirtual 423, 3) := by decide +kernel
theorem dX12_step_51 : decode cX12_step 51 = .ok (.istore_n 2, 1) := by decide +kernel
theorem dX12_step_52 : decode cX12_step 52 = .ok (.aload_n 0, 1) := by decide +kernel
theorem dX12_step_53 : decode cX12_step 53 = .ok (.dup, 1) := by decide +kernel
theorem dX12_step_54 : decode cX12_step 54 = .ok (.getfield 336, 3) := by decide +kernel
theorem dX12_step_57 : decode cX12_step 57 = .ok (.iconst 1, 1) := by decide +kernel
theorem dX12_step_58 : decode cX12_step 58 = .ok (.isub, 1) := by decide +kernel
theorem dX12_step_59 : decode cX12_step 59 = .ok (.putfield 336, 3) := by decide +kernel
theorem dX12_step_62 : decode cX12_step 62 = .ok (.iload_n 2, 1) := by decide +kernel
theorem dX12_step_63 : decode cX12_step 63 = .ok (.ireturn, 1) := by decide +kernel
theorem dX12_comparison_0 : decode cX12_comparison 0 = .ok (.aload_n 0, 1) := by decide +kernel
theorem dX12_comparison_1 : decode cX12_comparison 1 = .ok (.invokevirtual 433, 3) := by decide +kernel
theorem dX12_comparison_4 : decode cX12_comparison 4 = .ok (.istore_n 1, 1) := by decide +kernel
theorem dX12_comparison_5 : decode cX12_comparison 5 = .ok (.aload_n 0, 1) := by decide +kernel
theorem dX12_comparison_6 : decode cX12_comparison 6 = .ok (.getfield 304, 3) := by decide +kernel
theorem dX12_comparison_9 : decode cX12_comparison 9 = .ok (.ifCond .eq 5, 3) := by decide +kernel
theorem dX12_comparison_12 : decode cX12_comparison 12 = .ok (.iload_n 1, 1) := by decide +kernel
theorem dX12_comparison_13 : decode cX12_comparison 13 = .ok (.ireturn, 1) := by decide +kernel
theorem dX12_comparison_14 : decode cX12_comparison 14 = .ok (.aload_n 0, 1) := by decide +kernel
theorem dX12_comparison_15 : decode cX12_comparison 15 = .ok (.getfield 31, 3) := by decide +kernel
theorem dX12_comparison_18 : decode cX12_comparison 18 = .ok (.aload_n 0, 1) := by decide +kernel
theorem dX12_comparison_19 : decode cX12_comparison 19 = .ok (.getfield 314, 3) := by decide +kernel
theorem dX12_comparison_22 : decode cX12_comparison 22 = .ok (.iaload, 1) := by decide +kernel
theorem dX12_comparison_23 : decode cX12_comparison 23 = .ok (.istore_n 2, 1) := by decide +kernel
theorem dX12_comparison_24 : decode cX12_comparison 24 = .ok (.aload_n 0, 1) := by decide +kernel
theorem dX12_comparison_25 : decode cX12_comparison 25 = .ok (.getfield 27, 3) := by decide +kernel
theorem dX12_comparison_28 : decode cX12_comparison 28 = .ok (.aload_n 0, 1) := by decide +kernel
theorem dX12_comparison_29 : decode cX12_comparison 29 = .ok (.getfield 314, 3) := by decide +kernel
theorem dX12_comparison_32 : decode cX12_comparison 32 = .ok (.iaload, 1) := by decide +kernel
theorem dX12_comparison_33 : decode cX12_comparison 33 = .ok (.iconst 5, 1) := by decide +kernel
theorem dX12_comparison_34 : decode cX12_comparison 34 = .ok (.if_icmp .ne 122, 3) := by decide +kernel
theorem dX12_comparison_37 : decode cX12_comparison 37 = .ok (.aload_n 0, 1) := by decide +kernel
theorem dX12_comparison_38 : decode cX12_comparison 38 = .ok (.getfield 34, 3) := by decide +kernel
theorem dX12_comparison_41 : decode cX12_comparison 41 = .ok (.aload_n 0, 1) := by decide +kernel
theorem dX12_comparison_42 : decode cX12_comparison 42 = .ok (.getfield 314, 3) := by decide +kernel
theorem dX12_comparison_45 : decode cX12_comparison 45 = .ok (.iaload, 1) := by decide +kernel
theorem dX12_comparison_46 : decode cX12_comparison 46 = .ok (.sipush 317, 3) := by decide +kernel
theorem dX12_comparison_49 : decode cX12_comparison 49 = .ok (.if_icmp .eq 76, 3) := by decide +kernel
theorem dX12_comparison_52 : decode cX12_comparison 52 = .ok (.aload_n 0, 1) := by decide +kernel
theorem dX12_comparison_53 : decode cX12_comparison 53 = .ok (.getfield 34, 3) := by decide +kernel
theorem dX12_comparison_56 : decode cX12_comparison 56 = .ok (.aload_n 0, 1) := by decide +kernel
theorem dX12_comparison_57 : decode cX12_comparison 57 = .ok (.getfield 314, 3) := by decide +kernel
theorem dX12_comparison_60 : decode cX12_comparison 60 = .ok (.iaload, 1) := by decide +kernel
theorem dX12_comparison_61 : decode cX12_comparison 61 = .ok (.sipush 289, 3) := by decide +kernel
theorem dX12_comparison_64 : decode cX12_comparison 64 = .ok (.if_icmp .eq 61, 3) := by decide +kernel
theorem dX12_comparison_67 : decode cX12_comparison 67 = .ok (.aload_n 0, 1) := by decide +kernel
theorem dX12_comparison_68 : decode cX12_comparison 68 = .ok (.getfield 34, 3) := by decide +kernel
theorem dX12_comparison_71 : decode cX12_comparison 71 = .ok (.aload_n 0, 1) := by decide +kernel
theorem dX12_comparison_72 : decode cX12_comparison 72 = .ok (.getfield 314, 3) := by decide +kernel
theorem dX12_comparison_75 : decode cX12_comparison 75 = .ok (.iaload, 1) := by decide +kernel
theorem dX12_comparison_76 : decode cX12_comparison 76 = .ok (.sipush 316, 3) := by decide +kernel
theorem dX12_comparison_79 : decode cX12_comparison 79 = .ok (.if_icmp .eq 46, 3) := by decide +kernel
theorem dX12_comparison_82 : decode cX12_comparison 82 = .ok (.aload_n 0, 1) := by decide +kernel
theorem dX12_comparison_83 : decode cX12_comparison 83 = .ok (.getfield 34, 3) := by decide +kernel
theorem dX12_comparison_86 : decode cX12_comparison 86 = .ok (.aload_n 0, 1) := by decide +kernel
theorem dX12_comparison_87 : decode cX12_comparison 87 = .ok (.getfield 314, 3) := by decide +kernel
theorem dX12_comparison_90 : decode cX12_comparison 90 = .ok (.iaload, 1) := by decide +kernel
theorem dX12_comparison_91 : decode cX12_comparison 91 = .ok (.sipush 318, 3) := by decide +kernel
theorem dX12_comparison_94 : decode cX12_comparison 94 = .ok (.if_icmp .eq 31, 3) := by decide +kernel
theorem dX12_comparison_97 : decode cX12_comparison 97 = .ok (.aload_n 0, 1) := by decide +kernel
theorem dX12_comparison_98 : decode cX12_comparison 98 = .ok (.getfield 34, 3) := by decide +kernel
theorem dX12_comparison_101 : decode cX12_comparison 101 = .ok (.aload_n 0, 1) := by decide +kernel
theorem dX12_comparison_102 : decode cX12_comparison 102 = .ok (.getfield 314, 3) := by decide +kernel
theorem dX12_comparison_105 : decode cX12_comparison 105 = .ok (.iaload, 1) := by decide +kernel
theorem dX12_comparison_106 : decode cX12_comparison 106 = .ok (.bipush 60, 2) := by decide +kernel
theorem dX12_comparison_108 : decode cX12_comparison 108 = .ok (.if_icmp .eq 17, 3) := by decide +kernel
theorem dX12_comparison_111 : decode cX12_comparison 111 = .ok (.aload_n 0, 1) := by decide +kernel
theorem dX12_comparison_112 : decode cX12_comparison 112 = .ok (.getfield 34, 3) := by decide +kernel
theorem dX12_comparison_115 : decode cX12_comparison 115 = .ok (.aload_n 0, 1) := by decide +kernel
theorem dX12_comparison_116 : decode cX12_comparison 116 = .ok (.getfield 314, 3) := by decide +kernel
theorem dX12_comparison_119 : decode cX12_comparison 119 = .ok (.iaload, 1) := by decide +kernel
theorem dX12_comparison_120 : decode cX12_comparison 120 = .ok (.bipush 62, 2) := by decide +kernel
theorem dX12_comparison_122 : decode cX12_comparison 122 = .ok (.if_icmp .ne 34, 3) := by decide +kernel
theorem dX12_comparison_125 : decode cX12_comparison 125 = .ok (.aload_n 0, 1) := by decide +kernel
theorem dX12_comparison_126 : decode cX12_comparison 126 = .ok (.getfield 34, 3) := by decide +kernel
theorem dX12_comparison_129 : decode cX12_comparison 129 = .ok (.aload_n 0, 1) := by decide +kernel
theorem dX12_comparison_130 : decode cX12_comparison 130 = .ok (.dup, 1) := by decide +kernel
theorem dX12_comparison_131 : decode cX12_comparison 131 = .ok (.getfield 314, 3) := by decide +kernel
theorem dX12_comparison_134 : decode cX12_comparison 134 = .ok (.dup_x1, 1) := by decide +kernel
theorem dX12_comparison_135 : decode cX12_comparison 135 = .ok (.iconst 1, 1) := by decide +kernel
theorem dX12_comparison_136 : decode cX12_comparison 136 = .ok (.iadd, 1) := by decide +kernel
theorem dX12_comparison_137 : decode cX12_comparison 137 = .ok (.putfield 314, 3) := by decide +kernel
theorem dX12_comparison_140 : decode cX12_comparison 140 = .ok (.iaload, 1) := by decide +kernel
theorem dX12_comparison_141 : decode cX12_comparison 141 = .ok (.istore_n 3, 1) := by decide +kernel
theorem dX12_comparison_142 : decode cX12_comparison 142 = .ok (.aload_n 0, 1) := by decide +kernel
theorem dX12_comparison_143 : decode cX12_comparison 143 = .ok (.bipush 56, 2) := by decide +kernel
theorem dX12_comparison_145 : decode cX12_comparison 145 = .ok (.iload_n 2, 1) := by decide +kernel
theorem dX12_comparison_146 : decode cX12_comparison 146 = .ok (.iload_n 1, 1) := by decide +kernel
theorem dX12_comparison_147 : decode cX12_comparison 147 = .ok (.aload_n 0, 1) := by decide +kernel
theorem dX12_comparison_148 : decode cX12_comparison 148 = .ok (.invokevirtual 433, 3) := by decide +kernel
theorem dX12_comparison_151 : decode cX12_comparison 151 = .ok (.iload_n 3, 1) := by decide +kernel
theorem dX12_comparison_152 : decode cX12_comparison 152 = .ok (.invokevirtual 423, 3) := by decide +kernel
theorem dX12_comparison_155 : decode cX12_comparison 155 = .ok (.ireturn, 1) := by decide +kernel
theorem dX12_comparison_156 : decode cX12_comparison 156 = .ok (.aload_n 0, 1) := by decide +kernel
theorem dX12_comparison_157 : decode cX12_comparison 157 = .ok (.bipush 18, 2) := by decide +kernel
theorem dX12_comparison_159 : decode cX12_comparison 159 = .ok (.invokevirtual 333, 3) := by decide +kernel
theorem dX12_comparison_162 : decode cX12_comparison 162 = .ok (.ifCond .eq 17, 3) := by decide +kernel
theorem dX12_comparison_165 : decode cX12_comparison 165 = .ok (.aload_n 0, 1) := by decide +kernel
theorem dX12_comparison_166 : decode cX12_comparison 166 = .ok (.bipush 57, 2) := by decide +kernel
theorem dX12_comparison_168 : decode cX12_comparison 168 = .ok (.iload_n 2, 1) := by decide +kernel
theorem dX12_comparison_169 : decode cX12_comparison 169 = .ok (.iload_n 1, 1) := by decide +kernel
theorem dX12_comparison_170 : decode cX12_comparison 170 = .ok (.aload_n 0, 1) := by decide +kernel
theorem dX12_comparison_171 : decode cX12_comparison 171 = .ok (.invokevirtual 433, 3) := by decide +kernel
theorem dX12_comparison_174 : decode cX12_comparison 174 = .ok (.iconst 0, 1) := by decide +kernel
theorem dX12_comparison_175 : decode cX12_comparison 175 = .ok (.invokevirtual 423, 3) := by decide +kernel
theorem dX12_comparison_178 : decode cX12_comparison 178 = .ok (.ireturn, 1) := by decide +kernel
theorem dX12_comparison_179 : decode cX12_comparison 179 = .ok (.aload_n 0, 1) := by decide +kernel
theorem dX12_comparison_180 : decode cX12_comparison 180 = .ok (.bipush 14, 2) := by decide +kernel
theorem dX12_comparison_182 : decode cX12_comparison 182 = .ok (.invokevirtual 333, 3) := by decide +kernel
theorem dX12_comparison_185 : decode cX12_comparison 185 = .ok (.ifCond .eq 17, 3) := by decide +kernel
theorem dX12_comparison_188 : decode cX12_comparison 188 = .ok (.aload_n 0, 1) := by decide +kernel
theorem dX12_comparison_189 : decode cX12_comparison 189 = .ok (.bipush 58, 2) := by decide +kernel
theorem dX12_comparison_191 : decode cX12_comparison 191 = .ok (.iload_n 2, 1) := by decide +kernel
theorem dX12_comparison_192 : decode cX12_comparison 192 = .ok (.iload_n 1, 1) := by decide +kernel
theorem dX12_comparison_193 : decode cX12_comparison 193 = .ok (.iconst (-1), 1) := by decide +kernel
theorem dX12_comparison_194 : decode cX12_comparison 194 = .ok (.aload_n 0, 1) := by decide +kernel
theorem dX12_comparison_195 : decode cX12_comparison 195 = .ok (.invokevirtual 405, 3) := by decide +kernel
theorem dX12_comparison_198 : decode cX12_comparison 198 = .ok (.invokevirtual 423, 3) := by decide +kernel
theorem dX12_comparison_201 : decode cX12_comparison 201 = .ok (.ireturn, 1) := by decide +kernel
theorem dX12_comparison_202 : decode cX12_comparison 202 = .ok (.iload_n 1, 1) := by decide +kernel
theorem dX12_comparison_203 : decode cX12_comparison 203 = .ok (.ireturn, 1) := by decide +kernel
theorem dX12_sum_0 : decode cX12_sum 0 = .ok (.aload_n 0, 1) := by decide +kernel
theorem dX12_sum_1 : decode cX12_sum 1 = .ok (.invokevirtual 436, 3) := by decide +kernel
theorem dX12_sum_4 : decode cX12_sum 4 = .ok (.istore_n 1, 1) := by decide +kernel
theorem dX12_sum_5 : decode cX12_sum 5 = .ok (.aload_n 0, 1) := by decide +kernel
theorem dX12_sum_6 : decode cX12_sum 6 = .ok (.bipush 43, 2) := by decide +kernel
theorem dX12_sum_8 : decode cX12_sum 8 = .ok (.invokevirtual 321, 3) := by decide +kernel
theorem dX12_sum_11 : decode cX12_sum 11 = .ok (.ifCond .ne 12, 3) := by decide +kernel
theorem dX12_sum_14 : decode cX12_sum 14 = .ok (.aload_n 0, 1) := by decide +kernel
theorem dX12_sum_15 : decode cX12_sum 15 = .ok (.bipush 45, 2) := by decide +kernel
theorem dX12_sum_17 : decode cX12_sum 17 = .ok (.invokevirtual 321, 3) := by decide +kernel
theorem dX12_sum_20 : decode cX12_sum 20 = .ok (.ifCond .eq 47, 3) := by decide +kernel
theorem dX12_sum_23 : decode cX12_sum 23 = .ok (.aload_n 0, 1) := by decide +kernel
theorem dX12_sum_24 : decode cX12_sum 24 = .ok (.getfield 31, 3) := by decide +kernel
theorem dX12_sum_27 : decode cX12_sum 27 = .ok (.aload_n 0, 1) := by decide +kernel
theorem dX12_sum_28 : decode cX12_sum 28 = .ok (.getfield 314, 3) := by decide +kernel
theorem dX12_sum_31 : decode cX12_sum 31 = .ok (.iaload, 1) := by decide +kernel
theorem dX12_sum_32 : decode cX12_sum 32 = .ok (.istore_n 2, 1) := by decide +kernel
theorem dX12_sum_33 : decode cX12_sum 33 = .ok (.aload_n 0, 1) := by decide +kernel
theorem dX12_sum_34 : decode cX12_sum 34 = .ok (.getfield 34, 3) := by decide +kernel
theorem dX12_sum_37 : decode cX12_sum 37 = .ok (.aload_n 0, 1) := by decide +kernel
theorem dX12_sum_38 : decode cX12_sum 38 = .ok (.dup, 1) := by decide +kernel
theorem dX12_sum_39 : decode cX12_sum 39 = .ok (.getfield 314, 3) := by decide +kernel
theorem dX12_sum_42 : decode cX12_sum 42 = .ok (.dup_x1, 1) := by decide +kernel
theorem dX12_sum_43 : decode cX12_sum 43 = .ok (.iconst 1, 1) := by decide +kernel
theorem dX12_sum_44 : decode cX12_sum 44 = .ok (.iadd, 1) := by decide +kernel
theorem dX12_sum_45 : decode cX12_sum 45 = .ok (.putfield 314, 3) := by decide +kernel
theorem dX12_sum_48 : decode cX12_sum 48 = .ok (.iaload, 1) := by decide +kernel
theorem dX12_sum_49 : decode cX12_sum 49 = .ok (.istore_n 3, 1) := by decide +kernel
theorem dX12_sum_50 : decode cX12_sum 50 = .ok (.aload_n 0, 1) := by decide +kernel
theorem dX12_sum_51 : decode cX12_sum 51 = .ok (.bipush 56, 2) := by decide +kernel
theorem dX12_sum_53 : decode cX12_sum 53 = .ok (.iload_n 2, 1) := by decide +kernel
theorem dX12_sum_54 : decode cX12_sum 54 = .ok (.iload_n 1, 1) := by decide +kernel
theorem dX12_sum_55 : decode cX12_sum 55 = .ok (.aload_n 0, 1) := by decide +kernel
theorem dX12_sum_56 : decode cX12_sum 56 = .ok (.invokevirtual 436, 3) := by decide +kernel
theorem dX12_sum_59 : decode cX12_sum 59 = .ok (.iload_n 3, 1) := by decide +kernel
theorem dX12_sum_60 : decode cX12_sum 60 = .ok (.invokevirtual 423, 3) := by decide +kernel
theorem dX12_sum_63 : decode cX12_sum 63 = .ok (.istore_n 1, 1) := by decide +kernel
theorem dX12_sum_64 : decode cX12_sum 64 = .ok (.goto (-59), 3) := by decide +kernel
theorem dX12_sum_67 : decode cX12_sum 67 = .ok (.iload_n 1, 1) := by decide +kernel
theorem dX12_sum_68 : decode cX12_sum 68 = .ok (.ireturn, 1) := by decide +kernel
theorem dX12_term_0 : decode cX12_term 0 = .ok (.aload_n 0, 1) := by decide +kernel
theorem dX12_term_1 : decode cX12_term 1 = .ok (.invokevirtual 439, 3) := by decide +kernel
theorem dX12_term_4 : decode cX12_term 4 = .ok (.istore_n 1, 1) := by decide +kernel
theorem dX12_term_5 : decode cX12_term 5 = .ok (.aload_n 0, 1) := by decide +kernel
theorem dX12_term_6 : decode cX12_term 6 = .ok (.bipush 42, 2) := by decide +kernel
theorem dX12_term_8 : decode cX12_term 8 = .ok (.invokevirtual 321, 3) := by decide +kernel
theorem dX12_term_11 : decode cX12_term 11 = .ok (.ifCond .ne 21, 3) := by decide +kernel
theorem dX12_term_14 : decode cX12_term 14 = .ok (.aload_n 0, 1) := by decide +kernel
theorem dX12_term_15 : decode cX12_term 15 = .ok (.bipush 47, 2) := by decide +kernel
theorem dX12_term_17 : decode cX12_term 17 = .ok (.invokevirtual 321, 3) := by decide +kernel
theorem dX12_term_20 : decode cX12_term 20 = .ok (.ifCond .ne 12, 3) := by decide +kernel
theorem dX12_term_23 : decode cX12_term 23 = .ok (.aload_n 0, 1) := by decide +kernel
theorem dX12_term_24 : decode cX12_term 24 = .ok (.bipush 37, 2) := by decide +kernel
theorem dX12_term_26 : decode cX12_term 26 = .ok (.invokevirtual 321, 3) := by decide +kernel
theorem dX12_term_29 : decode cX12_term 29 = .ok (.ifCond .eq 47, 3) := by decide +kernel
theorem dX12_term_32 : decode cX12_term 32 = .ok (.aload_n 0, 1) := by decide +kernel
theorem dX12_term_33 : decode cX12_term 33 = .ok (.getfield 31, 3) := by decide +kernel
theorem dX12_term_36 : decode cX12_term 36 = .ok (.aload_n 0, 1) := by decide +kernel
theorem dX12_term_37 : decode cX12_term 37 = .ok (.getfield 314, 3) := by decide +kernel
theorem dX12_term_40 : decode cX12_term 40 = .ok (.iaload, 1) := by decide +kernel
theorem dX12_term_41 : decode cX12_term 41 = .ok (.istore_n 2, 1) := by decide +kernel
theorem dX12_term_42 : decode cX12_term 42 = .ok (.aload_n 0, 1) := by decide +kernel
theorem dX12_term_43 : decode cX12_term 43 = .ok (.getfield 34, 3) := by decide +kernel
theorem dX12_term_46 : decode cX12_term 46 = .ok (.aload_n 0, 1) := by decide +kernel
theorem dX12_term_47 : decode cX12_term 47 = .ok (.dup, 1) := by decide +kernel
theorem dX12_term_48 : decode cX12_term 48 = .ok (.getfield 314, 3) := by decide +kernel
theorem dX12_term_51 : decode cX12_term 51 = .ok (.dup_x1, 1) := by decide +kernel
theorem dX12_term_52 : decode cX12_term 52 = .ok (.iconst 1, 1) := by decide +kernel
theorem dX12_term_53 : decode cX12_term 53 = .ok (.iadd, 1) := by decide +kernel
theorem dX12_term_54 : decode cX12_term 54 = .ok (.putfield 314, 3) := by decide +kernel
theorem dX12_term_57 : decode cX12_term 57 = .ok (.iaload, 1) := by decide +kernel
theorem dX12_term_58 : decode cX12_term 58 = .ok (.istore_n 3, 1) := by decide +kernel
theorem dX12_term_59 : decode cX12_term 59 = .ok (.aload_n 0, 1) := by decide +kernel
theorem dX12_term_60 : decode cX12_term 60 = .ok (.bipush 56, 2) := by decide +kernel
theorem dX12_term_62 : decode cX12_term 62 = .ok (.iload_n 2, 1) := by decide +kernel
theorem dX12_term_63 : decode cX12_term 63 = .ok (.iload_n 1, 1) := by decide +kernel
theorem dX12_term_64 : decode cX12_term 64 = .ok (.aload_n 0, 1) := by decide +kernel
theorem dX12_term_65 : decode cX12_term 65 = .ok (.invokevirtual 439, 3) := by decide +kernel
theorem dX12_term_68 : decode cX12_term 68 = .ok (.iload_n 3, 1) := by decide +kernel
theorem dX12_term_69 : decode cX12_term 69 = .ok (.invokevirtual 423, 3) := by decide +kernel
theorem dX12_term_72 : decode cX12_term 72 = .ok (.istore_n 1, 1) := by decide +kernel
theorem dX12_term_73 : decode cX12_term 73 = .ok (.goto (-68), 3) := by decide +kernel
theorem dX12_term_76 : decode cX12_term 76 = .ok (.iload_n 1, 1) := by decide +kernel
theorem dX12_term_77 : decode cX12_term 77 = .ok (.ireturn, 1) := by decide +kernel
theorem dX12_factor_0 : decode cX12_factor 0 = .ok (.aload_n 0, 1) := by decide +kernel
theorem dX12_factor_1 : decode cX12_factor 1 = .ok (.bipush 45, 2) := by decide +kernel
theorem dX12_factor_3 : decode cX12_factor 3 = .ok (.invokevirtual 321, 3) := by decide +kernel
theorem dX12_factor_6 : decode cX12_factor 6 = .ok (.ifCond .ne 8, 3) := by decide +kernel
theorem dX12_factor_9 : decode cX12_factor 9 = .ok (.aload_n 0, 1) := by decide +kernel
theorem dX12_factor_10 : decode cX12_factor 10 = .ok (.invokevirtual 417, 3) := by decide +kernel
theorem dX12_factor_13 : decode cX12_factor 13 = .ok (.ireturn, 1) := by decide +kernel
theorem dX12_factor_14 : decode cX12_factor 14 = .ok (.aload_n 0, 1) := by decide +kernel
theorem dX12_factor_15 : decode cX12_factor 15 = .ok (.getfield 31, 3) := by decide +kernel
theorem dX12_factor_18 : decode cX12_factor 18 = .ok (.aload_n 0, 1) := by decide +kernel
theorem dX12_factor_19 : decode cX12_factor 19 = .ok (.getfield 314, 3) := by decide +kernel
theorem dX12_factor_22 : decode cX12_factor 22 = .ok (.iaload, 1) := by decide +kernel
theorem dX12_factor_23 : decode cX12_factor 23 = .ok (.istore_n 1, 1) := by decide +kernel
theorem dX12_factor_24 : decode cX12_factor 24 = .ok (.aload_n 0, 1) := by decide +kernel
theorem dX12_factor_25 : decode cX12_factor 25 = .ok (.invokevirtual 339, 3) := by decide +kernel
theorem dX12_factor_28 : decode cX12_factor 28 = .ok (.aload_n 0, 1) := by decide +kernel
theorem dX12_factor_29 : decode cX12_factor 29 = .ok (.dup, 1) := by decide +kernel
theorem dX12_factor_30 : decode cX12_factor 30 = .ok (.getfield 314, 3) := by decide +kernel
theorem dX12_factor_33 : decode cX12_factor 33 = .ok (.iconst 1, 1) := by decide +kernel
theorem dX12_factor_34 : decode cX12_factor 34 = .ok (.iadd, 1) := by decide +kernel
theorem dX12_factor_35 : decode cX12_factor 35 = .ok (.putfield 314, 3) := by decide +kernel
theorem dX12_factor_38 : decode cX12_factor 38 = .ok (.aload_n 0, 1) := by decide +kernel
theorem dX12_factor_39 : decode cX12_factor 39 = .ok (.bipush 52, 2) := by decide +kernel
theorem dX12_factor_41 : decode cX12_factor 41 = .ok (.iload_n 1, 1) := by decide +kernel
theorem dX12_factor_42 : decode cX12_factor 42 = .ok (.aload_n 0, 1) := by decide +kernel
theorem dX12_factor_43 : decode cX12_factor 43 = .ok (.invokevirtual 439, 3) := by decide +kernel
theorem dX12_factor_46 : decode cX12_factor 46 = .ok (.iconst (-1), 1) := by decide +kernel
theorem dX12_factor_47 : decode cX12_factor 47 = .ok (.iconst 0, 1) := by decide +kernel
theorem dX12_factor_48 : decode cX12_factor 48 = .ok (.invokevirtual 423, 3) := by decide +kernel
theorem dX12_factor_51 : decode cX12_factor 51 = .ok (.istore_n 2, 1) := by decide +kernel
theorem dX12_factor_52 : decode cX12_factor 52 = .ok (.aload_n 0, 1) := by decide +kernel
theorem dX12_factor_53 : decode cX12_factor 53 = .ok (.dup, 1) := by decide +kernel
theorem dX12_factor_54 : decode cX12_factor 54 = .ok (.getfield 336, 3) := by decide +kernel
theorem dX12_factor_57 : decode cX12_factor 57 = .ok (.iconst 1, 1) := by decide +kernel
theorem dX12_factor_58 : decode cX12_factor 58 = .ok (.isub, 1) := by decide +kernel
theorem dX12_factor_59 : decode cX12_factor 59 = .ok (.putfield 336, 3) := by decide +kernel
theorem dX12_factor_62 : decode cX12_factor 62 = .ok (.iload_n 2, 1) := by decide +kernel
theorem dX12_factor_63 : decode cX12_factor 63 = .ok (.ireturn, 1) := by decide +kernel
theorem dX12_primary_0 : decode cX12_primary 0 = .ok (.aload_n 0, 1) := by decide +kernel
theorem dX12_primary_1 : decode cX12_primary 1 = .ok (.getfield 31, 3) := by decide +kernel
theorem dX12_primary_4 : decode cX12_primary 4 = .ok (.aload_n 0, 1) := by decide +kernel
theorem dX12_primary_5 : decode cX12_primary 5 = .ok (.getfield 314, 3) := by decide +kernel
theorem dX12_primary_8 : decode cX12_primary 8 = .ok (.iaload, 1) := by decide +kernel
theorem dX12_primary_9 : decode cX12_primary 9 = .ok (.istore_n 1, 1) := by decide +kernel
theorem dX12_primary_10 : decode cX12_primary 10 = .ok (.aload_n 0, 1) := by decide +kernel
theorem dX12_primary_11 : decode cX12_primary 11 = .ok (.bipush 40, 2) := by decide +kernel
theorem dX12_primary_13 : decode cX12_primary 13 = .ok (.iload_n 1, 1) := by decide +kernel
theorem dX12_primary_14 : decode cX12_primary 14 = .ok (.invokevirtual 346, 3) := by decide +kernel
theorem dX12_primary_17 : decode cX12_primary 17 = .ok (.istore_n 2, 1) := by decide +kernel
theorem dX12_primary_18 : decode cX12_primary 18 = .ok (.aload_n 0, 1) := by decide +kernel
theorem dX12_primary_19 : decode cX12_primary 19 = .ok (.getfield 304, 3) := by decide +kernel
theorem dX12_primary_22 : decode cX12_primary 22 = .ok (.ifCond .eq 5, 3) := by decide +kernel
theorem dX12_primary_25 : decode cX12_primary 25 = .ok (.iload_n 2, 1) := by decide +kernel
theorem dX12_primary_26 : decode cX12_primary 26 = .ok (.ireturn, 1) := by decide +kernel
theorem dX12_primary_27 : decode cX12_primary 27 = .ok (.aload_n 0, 1) := by decide +kernel
theorem dX12_primary_28 : decode cX12_primary 28 = .ok (.getfield 27, 3) := by decide +kernel
theorem dX12_primary_31 : decode cX12_primary 31 = .ok (.aload_n 0, 1) := by decide +kernel
theorem dX12_primary_32 : decode cX12_primary 32 = .ok (.getfield 314, 3) := by decide +kernel
theorem dX12_primary_35 : decode cX12_primary 35 = .ok (.iaload, 1) := by decide +kernel
theorem dX12_primary_36 : decode cX12_primary 36 = .ok (.iconst 3, 1) := by decide +kernel
theorem dX12_primary_37 : decode cX12_primary 37 = .ok (.if_icmp .ne 28, 3) := by decide +kernel
theorem dX12_primary_40 : decode cX12_primary 40 = .ok (.aload_n 0, 1) := by decide +kernel
theorem dX12_primary_41 : decode cX12_primary 41 = .ok (.getfield 55, 3) := by decide +kernel
theorem dX12_primary_44 : decode cX12_primary 44 = .ok (.iload_n 2, 1) := by decide +kernel
theorem dX12_primary_45 : decode cX12_primary 45 = .ok (.aload_n 0, 1) := by decide +kernel
theorem dX12_primary_46 : decode cX12_primary 46 = .ok (.getfield 34, 3) := by decide +kernel
theorem dX12_primary_49 : decode cX12_primary 49 = .ok (.aload_n 0, 1) := by decide +kernel
theorem dX12_primary_50 : decode cX12_primary 50 = .ok (.dup, 1) := by decide +kernel
theorem dX12_primary_51 : decode cX12_primary 51 = .ok (.getfield 314, 3) := by decide +kernel
theorem dX12_primary_54 : decode cX12_primary 54 = .ok (.dup_x1, 1) := by decide +kernel
theorem dX12_primary_55 : decode cX12_primary 55 = .ok (.iconst 1, 1) := by decide +kernel
theorem dX12_primary_56 : decode cX12_primary 56 = .ok (.iadd, 1) := by decide +kernel
theorem dX12_primary_57 : decode cX12_primary 57 = .ok (.putfield 314, 3) := by decide +kernel
theorem dX12_primary_60 : decode cX12_primary 60 = .ok (.iaload, 1) := by decide +kernel
theorem dX12_primary_61 : decode cX12_primary 61 = .ok (.iastore, 1) := by decide +kernel
theorem dX12_primary_62 : decode cX12_primary 62 = .ok (.goto 355, 3) := by decide +kernel
theorem dX12_primary_65 : decode cX12_primary 65 = .ok (.aload_n 0, 1) := by decide +kernel
theorem dX12_primary_66 : decode cX12_primary 66 = .ok (.getfield 27, 3) := by decide +kernel
theorem dX12_primary_69 : decode cX12_primary 69 = .ok (.aload_n 0, 1) := by decide +kernel
theorem dX12_primary_70 : decode cX12_primary 70 = .ok (.getfield 314, 3) := by decide +kernel
theorem dX12_primary_73 : decode cX12_primary 73 = .ok (.iaload, 1) := by decide +kernel
theorem dX12_primary_74 : decode cX12_primary 74 = .ok (.iconst 2, 1) := by decide +kernel
theorem dX12_primary_75 : decode cX12_primary 75 = .ok (.if_icmp .ne 105, 3) := by decide +kernel
theorem dX12_primary_78 : decode cX12_primary 78 = .ok (.aload_n 0, 1) := by decide +kernel
theorem dX12_primary_79 : decode cX12_primary 79 = .ok (.getfield 49, 3) := by decide +kernel
theorem dX12_primary_82 : decode cX12_primary 82 = .ok (.iload_n 2, 1) := by decide +kernel
theorem dX12_primary_83 : decode cX12_primary 83 = .ok (.bipush 41, 2) := by decide +kernel
theorem dX12_primary_85 : decode cX12_primary 85 = .ok (.iastore, 1) := by decide +kernel
theorem dX12_primary_86 : decode cX12_primary 86 = .ok (.aload_n 0, 1) := by decide +kernel
theorem dX12_primary_87 : decode cX12_primary 87 = .ok (.getfield 55, 3) := by decide +kernel
theorem dX12_primary_90 : decode cX12_primary 90 = .ok (.iload_n 2, 1) := by decide +kernel
theorem dX12_primary_91 : decode cX12_primary 91 = .ok (.aload_n 0, 1) := by decide +kernel
theorem dX12_primary_92 : decode cX12_primary 92 = .ok (.getfield 34, 3) := by decide +kernel
theorem dX12_primary_95 : decode cX12_primary 95 = .ok (.aload_n 0, 1) := by decide +kernel
theorem dX12_primary_96 : decode cX12_primary 96 = .ok (.dup, 1) := by decide +kernel
theorem dX12_primary_97 : decode cX12_primary 97 = .ok (.getfield 314, 3) := by decide +kernel
theorem dX12_primary_100 : decode cX12_primary 100 = .ok (.dup_x1, 1) := by decide +kernel
theorem dX12_primary_101 : decode cX12_primary 101 = .ok (.iconst 1, 1) := by decide +kernel
theorem dX12_primary_102 : decode cX12_primary 102 = .ok (.iadd, 1) := by decide +kernel
theorem dX12_primary_103 : decode cX12_primary 103 = .ok (.putfield 314, 3) := by decide +kernel
theorem dX12_primary_106 : decode cX12_primary 106 = .ok (.iaload, 1) := by decide +kernel
theorem dX12_primary_107 : decode cX12_primary 107 = .ok (.iastore, 1) := by decide +kernel
theorem dX12_primary_108 : decode cX12_primary 108 = .ok (.aload_n 0, 1) := by decide +kernel
theorem dX12_primary_109 : decode cX12_primary 109 = .ok (.bipush 40, 2) := by decide +kernel
theorem dX12_primary_111 : decode cX12_primary 111 = .ok (.invokevirtual 321, 3) := by decide +kernel
theorem dX12_primary_114 : decode cX12_primary 114 = .ok (.ifCond .eq 24, 3) := by decide +kernel
theorem dX12_primary_117 : decode cX12_primary 117 = .ok (.aload_n 0, 1) := by decide +kernel
theorem dX12_primary_118 : decode cX12_primary 118 = .ok (.getfield 49, 3) := by decide +kernel
theorem dX12_primary_121 : decode cX12_primary 121 = .ok (.iload_n 2, 1) := by decide +kernel
theorem dX12_primary_122 : decode cX12_primary 122 = .ok (.bipush 42, 2) := by decide +kernel
theorem dX12_primary_124 : decode cX12_primary 124 = .ok (.iastore, 1) := by decide +kernel
theorem dX12_primary_125 : decode cX12_primary 125 = .ok (.aload_n 0, 1) := by decide +kernel
theorem dX12_primary_126 : decode cX12_primary 126 = .ok (.getfield 58, 3) := by decide +kernel
theorem dX12_primary_129 : decode cX12_primary 129 = .ok (.iload_n 2, 1) := by decide +kernel
theorem dX12_primary_130 : decode cX12_primary 130 = .ok (.aload_n 0, 1) := by decide +kernel
theorem dX12_primary_131 : decode cX12_primary 131 = .ok (.invokevirtual 414, 3) := by decide +kernel
theorem dX12_primary_134 : decode cX12_primary 134 = .ok (.iastore, 1) := by decide +kernel
theorem dX12_primary_135 : decode cX12_primary 135 = .ok (.goto 282, 3) := by decide +kernel
theorem dX12_primary_138 : decode cX12_primary 138 = .ok (.aload_n 0, 1) := by decide +kernel
theorem dX12_primary_139 : decode cX12_primary 139 = .ok (.bipush 91, 2) := by decide +kernel
theorem dX12_primary_141 : decode cX12_primary 141 = .ok (.invokevirtual 321, 3) := by decide +kernel
theorem dX12_primary_144 : decode cX12_primary 144 = .ok (.ifCond .eq 273, 3) := by decide +kernel
theorem dX12_primary_147 : decode cX12_primary 147 = .ok (.aload_n 0, 1) := by decide +kernel
theorem dX12_primary_148 : decode cX12_primary 148 = .ok (.getfield 49, 3) := by decide +kernel
theorem dX12_primary_151 : decode cX12_primary 151 = .ok (.iload_n 2, 1) := by decide +kernel
theorem dX12_primary_152 : decode cX12_primary 152 = .ok (.bipush 43, 2) := by decide +kernel
theorem dX12_primary_154 : decode cX12_primary 154 = .ok (.iastore, 1) := by decide +kernel
theorem dX12_primary_155 : decode cX12_primary 155 = .ok (.aload_n 0, 1) := by decide +kernel
theorem dX12_primary_156 : decode cX12_primary 156 = .ok (.bipush 91, 2) := by decide +kernel
theorem dX12_primary_158 : decode cX12_primary 158 = .ok (.invokevirtual 368, 3) := by decide +kernel
theorem dX12_primary_161 : decode cX12_primary 161 = .ok (.aload_n 0, 1) := by decide +kernel
theorem dX12_primary_162 : decode cX12_primary 162 = .ok (.getfield 58, 3) := by decide +kernel
theorem dX12_primary_165 : decode cX12_primary 165 = .ok (.iload_n 2, 1) := by decide +kernel
theorem dX12_primary_166 : decode cX12_primary 166 = .ok (.aload_n 0, 1) := by decide +kernel
theorem dX12_primary_167 : decode cX12_primary 167 = .ok (.invokevirtual 402, 3) := by decide +kernel
theorem dX12_primary_170 : decode cX12_primary 170 = .ok (.iastore, 1) := by decide +kernel
theorem dX12_primary_171 : decode cX12_primary 171 = .ok (.aload_n 0, 1) := by decide +kernel
theorem dX12_primary_172 : decode cX12_primary 172 = .ok (.bipush 93, 2) := by decide +kernel
theorem dX12_primary_174 : decode cX12_primary 174 = .ok (.invokevirtual 371, 3) := by decide +kernel
theorem dX12_primary_177 : decode cX12_primary 177 = .ok (.goto 240, 3) := by decide +kernel
theorem dX12_primary_180 : decode cX12_primary 180 = .ok (.aload_n 0, 1) := by decide +kernel
theorem dX12_primary_181 : decode cX12_primary 181 = .ok (.bipush 40, 2) := by decide +kernel
theorem dX12_primary_183 : decode cX12_primary 183 = .ok (.invokevirtual 321, 3) := by decide +kernel
theorem dX12_primary_186 : decode cX12_primary 186 = .ok (.ifCond .eq 23, 3) := by decide +kernel
theorem dX12_primary_189 : decode cX12_primary 189 = .ok (.aload_n 0, 1) := by decide +kernel
theorem dX12_primary_190 : decode cX12_primary 190 = .ok (.bipush 40, 2) := by decide +kernel
theorem dX12_primary_192 : decode cX12_primary 192 = .ok (.invokevirtual 368, 3) := by decide +kernel
theorem dX12_primary_195 : decode cX12_primary 195 = .ok (.aload_n 0, 1) := by decide +kernel
theorem dX12_primary_196 : decode cX12_primary 196 = .ok (.invokevirtual 402, 3) := by decide +kernel
theorem dX12_primary_199 : decode cX12_primary 199 = .ok (.istore_n 2, 1) := by decide +kernel
theorem dX12_primary_200 : decode cX12_primary 200 = .ok (.aload_n 0, 1) := by decide +kernel
theorem dX12_primary_201 : decode cX12_primary 201 = .ok (.bipush 41, 2) := by decide +kernel
theorem dX12_primary_203 : decode cX12_primary 203 = .ok (.invokevirtual 371, 3) := by decide +kernel
theorem dX12_primary_206 : decode cX12_primary 206 = .ok (.goto 211, 3) := by decide +kernel
theorem dX12_primary_209 : decode cX12_primary 209 = .ok (.aload_n 0, 1) := by decide +kernel
theorem dX12_primary_210 : decode cX12_primary 210 = .ok (.bipush 15, 2) := by decide +kernel
theorem dX12_primary_212 : decode cX12_primary 212 = .ok (.invokevirtual 333, 3) := by decide +kernel
theorem dX12_primary_215 : decode cX12_primary 215 = .ok (.ifCond .eq 14, 3) := by decide +kernel
theorem dX12_primary_218 : decode cX12_primary 218 = .ok (.aload_n 0, 1) := by decide +kernel
theorem dX12_primary_219 : decode cX12_primary 219 = .ok (.getfield 49, 3) := by decide +kernel
theorem dX12_primary_222 : decode cX12_primary 222 = .ok (.iload_n 2, 1) := by decide +kernel
theorem dX12_primary_223 : decode cX12_primary 223 = .ok (.bipush 44, 2) := by decide +kernel
theorem dX12_primary_225 : decode cX12_primary 225 = .ok (.iastore, 1) := by decide +kernel
theorem dX12_primary_226 : decode cX12_primary 226 = .ok (.goto 191, 3) := by decide +kernel
theorem dX12_primary_229 : decode cX12_primary 229 = .ok (.aload_n 0, 1) := by decide +kernel
theorem dX12_primary_230 : decode cX12_primary 230 = .ok (.bipush 24, 2) := by decide +kernel
theorem dX12_primary_232 : decode cX12_primary 232 = .ok (.invokevirtual 333, 3) := by decide +kernel
theorem dX12_primary_235 : decode cX12_primary 235 = .ok (.ifCond .eq 14, 3) := by decide +kernel
theorem dX12_primary_238 : decode cX12_primary 238 = .ok (.aload_n 0, 1) := by decide +kernel
theorem dX12_primary_239 : decode cX12_primary 239 = .ok (.getfield 49, 3) := by decide +kernel
theorem dX12_primary_242 : decode cX12_primary 242 = .ok (.iload_n 2, 1) := by decide +kernel
theorem dX12_primary_243 : decode cX12_primary 243 = .ok (.bipush 45, 2) := by decide +kernel
theorem dX12_primary_245 : decode cX12_primary 245 = .ok (.iastore, 1) := by decide +kernel
theorem dX12_primary_246 : decode cX12_primary 246 = .ok (.goto 171, 3) := by decide +kernel
theorem dX12_primary_249 : decode cX12_primary 249 = .ok (.aload_n 0, 1) := by decide +kernel
theorem dX12_primary_250 : decode cX12_primary 250 = .ok (.bipush 36, 2) := by decide +kernel
theorem dX12_primary_252 : decode cX12_primary 252 = .ok (.invokevirtual 333, 3) := by decide +kernel
theorem dX12_primary_255 : decode cX12_primary 255 = .ok (.ifCond .eq 14, 3) := by decide +kernel
theorem dX12_primary_258 : decode cX12_primary 258 = .ok (.aload_n 0, 1) := by decide +kernel
theorem dX12_primary_259 : decode cX12_primary 259 = .ok (.getfield 49, 3) := by decide +kernel
theorem dX12_primary_262 : decode cX12_primary 262 = .ok (.iload_n 2, 1) := by decide +kernel
theorem dX12_primary_263 : decode cX12_primary 263 = .ok (.bipush 46, 2) := by decide +kernel
theorem dX12_primary_265 : decode cX12_primary 265 = .ok (.iastore, 1) := by decide +kernel
theorem dX12_primary_266 : decode cX12_primary 266 = .ok (.goto 151, 3) := by decide +kernel
theorem dX12_primary_269 : decode cX12_primary 269 = .ok (.aload_n 0, 1) := by decide +kernel
theorem dX12_primary_270 : decode cX12_primary 270 = .ok (.bipush 30, 2) := by decide +kernel
theorem dX12_primary_272 : decode cX12_primary 272 = .ok (.invokevirtual 333, 3) := by decide +kernel
theorem dX12_primary_275 : decode cX12_primary 275 = .ok (.ifCond .eq 14, 3) := by decide +kernel
theorem dX12_primary_278 : decode cX12_primary 278 = .ok (.aload_n 0, 1) := by decide +kernel
theorem dX12_primary_279 : decode cX12_primary 279 = .ok (.getfield 49, 3) := by decide +kernel
theorem dX12_primary_282 : decode cX12_primary 282 = .ok (.iload_n 2, 1) := by decide +kernel
theorem dX12_primary_283 : decode cX12_primary 283 = .ok (.bipush 47, 2) := by decide +kernel
theorem dX12_primary_285 : decode cX12_primary 285 = .ok (.iastore, 1) := by decide +kernel
theorem dX12_primary_286 : decode cX12_primary 286 = .ok (.goto 131, 3) := by decide +kernel
theorem dX12_primary_289 : decode cX12_primary 289 = .ok (.aload_n 0, 1) := by decide +kernel
theorem dX12_primary_290 : decode cX12_primary 290 = .ok (.bipush 16, 2) := by decide +kernel
theorem dX12_primary_292 : decode cX12_primary 292 = .ok (.invokevirtual 324, 3) := by decide +kernel
theorem dX12_primary_295 : decode cX12_primary 295 = .ok (.ifCond .ne 30, 3) := by decide +kernel
theorem dX12_primary_298 : decode cX12_primary 298 = .ok (.aload_n 0, 1) := by decide +kernel
theorem dX12_primary_299 : decode cX12_primary 299 = .ok (.bipush 13, 2) := by decide +kernel
theorem dX12_primary_301 : decode cX12_primary 301 = .ok (.invokevirtual 324, 3) := by decide +kernel
theorem dX12_primary_304 : decode cX12_primary 304 = .ok (.ifCond .ne 21, 3) := by decide +kernel
theorem dX12_primary_307 : decode cX12_primary 307 = .ok (.aload_n 0, 1) := by decide +kernel
theorem dX12_primary_308 : decode cX12_primary 308 = .ok (.bipush 23, 2) := by decide +kernel
theorem dX12_primary_310 : decode cX12_primary 310 = .ok (.invokevirtual 324, 3) := by decide +kernel
theorem dX12_primary_313 : decode cX12_primary 313 = .ok (.ifCond .ne 12, 3) := by decide +kernel
theorem dX12_primary_316 : decode cX12_primary 316 = .ok (.aload_n 0, 1) := by decide +kernel
theorem dX12_primary_317 : decode cX12_primary 317 = .ok (.bipush 31, 2) := by decide +kernel
theorem dX12_primary_319 : decode cX12_primary 319 = .ok (.invokevirtual 324, 3) := by decide +kernel
theorem dX12_primary_322 : decode cX12_primary 322 = .ok (.ifCond .eq 91, 3) := by decide +kernel
theorem dX12_primary_325 : decode cX12_primary 325 = .ok (.aload_n 0, 1) := by decide +kernel
theorem dX12_primary_326 : decode cX12_primary 326 = .ok (.getfield 34, 3) := by decide +kernel
theorem dX12_primary_329 : decode cX12_primary 329 = .ok (.aload_n 0, 1) := by decide +kernel
theorem dX12_primary_330 : decode cX12_primary 330 = .ok (.getfield 314, 3) := by decide +kernel
theorem dX12_primary_333 : decode cX12_primary 333 = .ok (.iaload, 1) := by decide +kernel
theorem dX12_primary_334 : decode cX12_primary 334 = .ok (.istore_n 3, 1) := by decide +kernel
theorem dX12_primary_335 : decode cX12_primary 335 = .ok (.aload_n 0, 1) := by decide +kernel
theorem dX12_primary_336 : decode cX12_primary 336 = .ok (.getfield 49, 3) := by decide +kernel
theorem dX12_primary_339 : decode cX12_primary 339 = .ok (.iload_n 2, 1) := by decide +kernel
theorem dX12_primary_340 : decode cX12_primary 340 = .ok (.iload_n 3, 1) := by decide +kernel
theorem dX12_primary_341 : decode cX12_primary 341 = .ok (.bipush 16, 2) := by decide +kernel
theorem dX12_primary_343 : decode cX12_primary 343 = .ok (.if_icmp .ne 8, 3) := by decide +kernel
theorem dX12_primary_346 : decode cX12_primary 346 = .ok (.bipush 48, 2) := by decide +kernel
theorem dX12_primary_348 : decode cX12_primary 348 = .ok (.goto 27, 3) := by decide +kernel
theorem dX12_primary_351 : decode cX12_primary 351 = .ok (.iload_n 3, 1) := by decide +kernel
theorem dX12_primary_352 : decode cX12_primary 352 = .ok (.bipush 13, 2) := by decide +kernel
theorem dX12_primary_354 : decode cX12_primary 354 = .ok (.if_icmp .ne 8, 3) := by decide +kernel
theorem dX12_primary_357 : decode cX12_primary 357 = .ok (.bipush 49, 2) := by decide +kernel
theorem dX12_primary_359 : decode cX12_primary 359 = .ok (.goto 16, 3) := by decide +kernel
theorem dX12_primary_362 : decode cX12_primary 362 = .ok (.iload_n 3, 1) := by decide +kernel
theorem dX12_primary_363 : decode cX12_primary 363 = .ok (.bipush 23, 2) := by decide +kernel
theorem dX12_primary_365 : decode cX12_primary 365 = .ok (.if_icmp .ne 8, 3) := by decide +kernel
theorem dX12_primary_368 : decode cX12_primary 368 = .ok (.bipush 50, 2) := by decide +kernel
theorem dX12_primary_370 : decode cX12_primary 370 = .ok (.goto 5, 3) := by decide +kernel
theorem dX12_primary_373 : decode cX12_primary 373 = .ok (.bipush 51, 2) := by decide +kernel
theorem dX12_primary_375 : decode cX12_primary 375 = .ok (.iastore, 1) := by decide +kernel
theorem dX12_primary_376 : decode cX12_primary 376 = .ok (.aload_n 0, 1) := by decide +kernel
theorem dX12_primary_377 : decode cX12_primary 377 = .ok (.invokevirtual 339, 3) := by decide +kernel
theorem dX12_primary_380 : decode cX12_primary 380 = .ok (.aload_n 0, 1) := by decide +kernel
theorem dX12_primary_381 : decode cX12_primary 381 = .ok (.dup, 1) := by decide +kernel
theorem dX12_primary_382 : decode cX12_primary 382 = .ok (.getfield 314, 3) := by decide +kernel
theorem dX12_primary_385 : decode cX12_primary 385 = .ok (.iconst 1, 1) := by decide +kernel
theorem dX12_primary_386 : decode cX12_primary 386 = .ok (.iadd, 1) := by decide +kernel
theorem dX12_primary_387 : decode cX12_primary 387 = .ok (.putfield 314, 3) := by decide +kernel
theorem dX12_primary_390 : decode cX12_primary 390 = .ok (.aload_n 0, 1) := by decide +kernel
theorem dX12_primary_391 : decode cX12_primary 391 = .ok (.getfield 55, 3) := by decide +kernel
theorem dX12_primary_394 : decode cX12_primary 394 = .ok (.iload_n 2, 1) := by decide +kernel
theorem dX12_primary_395 : decode cX12_primary 395 = .ok (.aload_n 0, 1) := by decide +kernel
theorem dX12_primary_396 : decode cX12_primary 396 = .ok (.invokevirtual 417, 3) := by decide +kernel
theorem dX12_primary_399 : decode cX12_primary 399 = .ok (.iastore, 1) := by decide +kernel
theorem dX12_primary_400 : decode cX12_primary 400 = .ok (.aload_n 0, 1) := by decide +kernel
theorem dX12_primary_401 : decode cX12_primary 401 = .ok (.dup, 1) := by decide +kernel
theorem dX12_primary_402 : decode cX12_primary 402 = .ok (.getfield 336, 3) := by decide +kernel
theorem dX12_primary_405 : decode cX12_primary 405 = .ok (.iconst 1, 1) := by decide +kernel
theorem dX12_primary_406 : decode cX12_primary 406 = .ok (.isub, 1) := by decide +kernel
theorem dX12_primary_407 : decode cX12_primary 407 = .ok (.putfield 336, 3) := by decide +kernel
theorem dX12_primary_410 : decode cX12_primary 410 = .ok (.goto 7, 3) := by decide +kernel
theorem dX12_primary_413 : decode cX12_primary 413 = .ok (.aload_n 0, 1) := by decide +kernel
theorem dX12_primary_414 : decode cX12_primary 414 = .ok (.invokevirtual 330, 3) := by decide +kernel
theorem dX12_primary_417 : decode cX12_primary 417 = .ok (.iload_n 2, 1) := by decide +kernel
theorem dX12_primary_418 : decode cX12_primary 418 = .ok (.ireturn, 1) := by decide +kernel
theorem dX12_arguments_0 : decode cX12_arguments 0 = .ok (.aload_n 0, 1) := by decide +kernel
theorem dX12_arguments_1 : decode cX12_arguments 1 = .ok (.bipush 40, 2) := by decide +kernel
theorem dX12_arguments_3 : decode cX12_arguments 3 = .ok (.invokevirtual 368, 3) := by decide +kernel
theorem dX12_arguments_6 : decode cX12_arguments 6 = .ok (.iconst (-1), 1) := by decide +kernel
theorem dX12_arguments_7 : decode cX12_arguments 7 = .ok (.istore_n 1, 1) := by decide +kernel
theorem dX12_arguments_8 : decode cX12_arguments 8 = .ok (.aload_n 0, 1) := by decide +kernel
theorem dX12_arguments_9 : decode cX12_arguments 9 = .ok (.bipush 41, 2) := by decide +kernel
theorem dX12_arguments_11 : decode cX12_arguments 11 = .ok (.invokevirtual 321, 3) := by decide +kernel
theorem dX12_arguments_14 : decode cX12_arguments 14 = .ok (.ifCond .ne 36, 3) := by decide +kernel
theorem dX12_arguments_17 : decode cX12_arguments 17 = .ok (.aload_n 0, 1) := by decide +kernel
theorem dX12_arguments_18 : decode cX12_arguments 18 = .ok (.invokevirtual 402, 3) := by decide +kernel
theorem dX12_arguments_21 : decode cX12_arguments 21 = .ok (.istore_n 1, 1) := by decide +kernel
theorem dX12_arguments_22 : decode cX12_arguments 22 = .ok (.iload_n 1, 1) := by decide +kernel
theorem dX12_arguments_23 : decode cX12_arguments 23 = .ok (.istore_n 2, 1) := by decide +kernel
theorem dX12_arguments_24 : decode cX12_arguments 24 = .ok (.aload_n 0, 1) := by decide +kernel
theorem dX12_arguments_25 : decode cX12_arguments 25 = .ok (.bipush 44, 2) := by decide +kernel
theorem dX12_arguments_27 : decode cX12_arguments 27 = .ok (.invokevirtual 327, 3) := by decide +kernel
theorem dX12_arguments_30 : decode cX12_arguments 30 = .ok (.ifCond .eq 20, 3) := by decide +kernel
theorem dX12_arguments_33 : decode cX12_arguments 33 = .ok (.aload_n 0, 1) := by decide +kernel
theorem dX12_arguments_34 : decode cX12_arguments 34 = .ok (.invokevirtual 402, 3) := by decide +kernel
theorem dX12_arguments_37 : decode cX12_arguments 37 = .ok (.istore_n 3, 1) := by decide +kernel
theorem dX12_arguments_38 : decode cX12_arguments 38 = .ok (.aload_n 0, 1) := by decide +kernel
theorem dX12_arguments_39 : decode cX12_arguments 39 = .ok (.getfield 64, 3) := by decide +kernel
theorem dX12_arguments_42 : decode cX12_arguments 42 = .ok (.iload_n 2, 1) := by decide +kernel
theorem dX12_arguments_43 : decode cX12_arguments 43 = .ok (.iload_n 3, 1) := by decide +kernel
theorem dX12_arguments_44 : decode cX12_arguments 44 = .ok (.iastore, 1) := by decide +kernel
theorem dX12_arguments_45 : decode cX12_arguments 45 = .ok (.iload_n 3, 1) := by decide +kernel
theorem dX12_arguments_46 : decode cX12_arguments 46 = .ok (.istore_n 2, 1) := by decide +kernel
theorem dX12_arguments_47 : decode cX12_arguments 47 = .ok (.goto (-23), 3) := by decide +kernel
theorem dX12_arguments_50 : decode cX12_arguments 50 = .ok (.aload_n 0, 1) := by decide +kernel
theorem dX12_arguments_51 : decode cX12_arguments 51 = .ok (.bipush 41, 2) := by decide +kernel
theorem dX12_arguments_53 : decode cX12_arguments 53 = .ok (.invokevirtual 371, 3) := by decide +kernel
theorem dX12_arguments_56 : decode cX12_arguments 56 = .ok (.iload_n 1, 1) := by decide +kernel
theorem dX12_arguments_57 : decode cX12_arguments 57 = .ok (.ireturn, 1) := by decide +kernel
def F_X12_expression (rec : GF)  (σ : MS) : MR :=
  (rec 1 0 0 0 σ).bind fun u_1 =>
  loopF (fun (again_4 : (Int32 × MS) → MR) (s_3 : Int32 × MS) => (
    (F_X12_isKey 29 s_3.2).bind fun u_7 =>
    if u_7.1 = 0 then (
      some (s_3.1, u_7.2)
    ) else (
      bnd (mI u_7.2 25 ((u_7.2.1 25) + 1)) fun σ_12 =>
      bnd ((u_7.2.1 25)) fun (x_14 : Int32) =>
      if x_14 < 0 ∨ 16010 ≤ x_14.toNatClampNeg then none else
      bnd ((σ_12.2 8 x_14.toNatClampNeg)) fun (x_18 : Int32) =>
      (rec 1 0 0 0 σ_12).bind fun u_20 =>
      (F_X12_two 55 x_18 s_3.1 u_20.1 0 u_20.2).bind fun u_22 =>
      again_4 (u_22.1, u_22.2)
    )
  )) FU (u_1.1, u_1.2)
set_option maxHeartbeats 4000000 in
set_option maxRecDepth 100000 in
theorem m_X12_expression_st (l : Launch) (dC : Nat → ClassId) (dI : Nat → Nat → Nat) (cB cC cI cJ cZ cP : ClassId) (h qK qS : Nat) (ad : Nat → Nat) (hDD : mDis cB cI cZ h qK qS ad) (d : Nat) (rec : GF) (hI0 : ∀ (sz : Nat)  (σ : MS) (res : Int32 × MS), rec 0 0 0 0 σ = some res → Met l yX12_expression (g_ws yX12_expression cX12_expression 3 (some .int)) ({ frames := 5 + d, cells := 0, slots := 0, locals := 124 + 23 * d }) (va_Pc [.ref h] (m_B (dC, dI) [(cB, .byte), (cC, .char), (cI, .int), (cJ, .long), (cZ, .boolean), (cP, .object "StoryHouse$Play")] sz h ad qK qS (mW cB cI cZ h qK qS ad σ) g_0)) (va_Qi (fun r (_ : Unit) => r = res.1) (fun _ t => va_P (dC, dI) vwCl (mW cB cI cZ h qK qS ad res.2) t.heap) (mCells h ad sz)) 0 0 (mCells h ad sz)) (hI1 : ∀ (sz : Nat)  (σ : MS) (res : Int32 × MS), rec 1 0 0 0 σ = some res → Met l yX12_both (g_ws yX12_both cX12_both 3 (some .int)) ({ frames := 5 + d, cells := 0, slots := 0, locals := 124 + 23 * d }) (va_Pc [.ref h] (m_B (dC, dI) [(cB, .byte), (cC, .char), (cI, .int), (cJ, .long), (cZ, .boolean), (cP, .object "StoryHouse$Play")] sz h ad qK qS (mW cB cI cZ h qK qS ad σ) g_0)) (va_Qi (fun r (_ : Unit) => r = res.1) (fun _ t => va_P (dC, dI) vwCl (mW cB cI cZ h qK qS ad res.2) t.heap) (mCells h ad sz)) 0 0 (mCells h ad sz)) (hI2 : ∀ (sz : Nat)  (σ : MS) (res : Int32 × MS), rec 2 0 0 0 σ = some res → Met l yX12_step (g_ws yX12_step cX12_step 3 (some .int)) ({ frames := 5 + d, cells := 0, slots := 0, locals := 124 + 23 * d }) (va_Pc [.ref h] (m_B (dC, dI) [(cB, .byte), (cC, .char), (cI, .int), (cJ, .long), (cZ, .boolean), (cP, .object "StoryHouse$Play")] sz h ad qK qS (mW cB cI cZ h qK qS ad σ) g_0)) (va_Qi (fun r (_ : Unit) => r = res.1) (fun _ t => va_P (dC, dI) vwCl (mW cB cI cZ h qK qS ad res.2) t.heap) (mCells h ad sz)) 0 0 (mCells h ad sz)) (hI3 : ∀ (sz : Nat)  (σ : MS) (res : Int32 × MS), rec 3 0 0 0 σ = some res → Met l yX12_comparison (g_ws yX12_comparison cX12_comparison 4 (some .int)) ({ frames := 5 + d, cells := 0, slots := 0, locals := 124 + 23 * d }) (va_Pc [.ref h] (m_B (dC, dI) [(cB, .byte), (cC, .char), (cI, .int), (cJ, .long), (cZ, .boolean), (cP, .object "StoryHouse$Play")] sz h ad qK qS (mW cB cI cZ h qK qS ad σ) g_0)) (va_Qi (fun r (_ : Unit) => r = res.1) (fun _ t => va_P (dC, dI) vwCl (mW cB cI cZ h qK qS ad res.2) t.heap) (mCells h ad sz)) 0 0 (mCells h ad sz)) (hI4 : ∀ (sz : Nat)  (σ : MS) (res : Int32 × MS), rec 4 0 0 0 σ = some res → Met l yX12_sum (g_ws yX12_sum cX12_sum 4 (some .int)) ({ frames := 5 + d, cells := 0, slots := 0, locals := 124 + 23 * d }) (va_Pc [.ref h] (m_B (dC, dI) [(cB, .byte), (cC, .char), (cI, .int), (cJ, .long), (cZ, .boolean), (cP, .object "StoryHouse$Play")] sz h ad qK qS (mW cB cI cZ h qK qS ad σ) g_0)) (va_Qi (fun r (_ : Unit) => r = res.1) (fun _ t => va_P (dC, dI) vwCl (mW cB cI cZ h qK qS ad res.2) t.heap) (mCells h ad sz)) 0 0 (mCells h ad sz)) (hI5 : ∀ (sz : Nat)  (σ : MS) (res : Int32 × MS), rec 5 0 0 0 σ = some res → Met l yX12_term (g_ws yX12_term cX12_term 4 (some .int)) ({ frames := 5 + d, cells := 0, slots := 0, locals := 124 + 23 * d }) (va_Pc [.ref h] (m_B (dC, dI) [(cB, .byte), (cC, .char), (cI, .int), (cJ, .long), (cZ, .boolean), (cP, .object "StoryHouse$Play")] sz h ad qK qS (mW cB cI cZ h qK qS ad σ) g_0)) (va_Qi (fun r (_ : Unit) => r = res.1) (fun _ t => va_P (dC, dI) vwCl (mW cB cI cZ h qK qS ad res.2) t.heap) (mCells h ad sz)) 0 0 (mCells h ad sz)) (hI6 : ∀ (sz : Nat)  (σ : MS) (res : Int32 × MS), rec 6 0 0 0 σ = some res → Met l yX12_factor (g_ws yX12_factor cX12_factor 3 (some .int)) ({ frames := 5 + d, cells := 0, slots := 0, locals := 124 + 23 * d }) (va_Pc [.ref h] (m_B (dC, dI) [(cB, .byte), (cC, .char), (cI, .int), (cJ, .long), (cZ, .boolean), (cP, .object "StoryHouse$Play")] sz h ad qK qS (mW cB cI cZ h qK qS ad σ) g_0)) (va_Qi (fun r (_ : Unit) => r = res.1) (fun _ t => va_P (dC, dI) vwCl (mW cB cI cZ h qK qS ad res.2) t.heap) (mCells h ad sz)) 0 0 (mCells h ad sz)) (hI7 : ∀ (sz : Nat)  (σ : MS) (res : Int32 × MS), rec 7 0 0 0 σ = some res → Met l yX12_primary (g_ws yX12_primary cX12_primary 4 (some .int)) ({ frames := 5 + d, cells := 0, slots := 0, locals := 124 + 23 * d }) (va_Pc [.ref h] (m_B (dC, dI) [(cB, .byte), (cC, .char), (cI, .int), (cJ, .long), (cZ, .boolean), (cP, .object "StoryHouse$Play")] sz h ad qK qS (mW cB cI cZ h qK qS ad σ) g_0)) (va_Qi (fun r (_ : Unit) => r = res.1) (fun _ t => va_P (dC, dI) vwCl (mW cB cI cZ h qK qS ad res.2) t.heap) (mCells h ad sz)) 0 0 (mCells h ad sz)) (hI8 : ∀ (sz : Nat)  (σ : MS) (res : Int32 × MS), rec 8 0 0 0 σ = some res → Met l yX12_arguments (g_ws yX12_arguments cX12_arguments 4 (some .int)) ({ frames := 5 + d, cells := 0, slots := 0, locals := 124 + 23 * d }) (va_Pc [.ref h] (m_B (dC, dI) [(cB, .byte), (cC, .char), (cI, .int), (cJ, .long), (cZ, .boolean), (cP, .object "StoryHouse$Play")] sz h ad qK qS (mW cB cI cZ h qK qS ad σ) g_0)) (va_Qi (fun r (_ : Unit) => r = res.1) (fun _ t => va_P (dC, dI) vwCl (mW cB cI cZ h qK qS ad res.2) t.heap) (mCells h ad sz)) 0 0 (mCells h ad sz)) (sz : Nat)   (σ : MS) (res : Int32 × MS) (hF : F_X12_expression rec  σ = some res) : Met l yX12_expression (g_ws yX12_expression cX12_expression 3 (some .int)) ({ frames := 5 + (d + 1), cells := 0, slots := 0, locals := 124 + 23 * (d + 1) }) (va_Pc [.ref h] (m_B (dC, dI) [(cB, .byte), (cC, .char), (cI, .int), (cJ, .long), (cZ, .boolean), (cP, .object "StoryHouse$Play")] sz h ad qK qS (mW cB cI cZ h qK qS ad σ) g_0)) (va_Qi (fun r (_ : Unit) => r = res.1) (fun _ t => va_P (dC, dI) vwCl (mW cB cI cZ h qK qS ad res.2) t.heap) (mCells h ad sz)) 0 0 (mCells h ad sz) := by
  refine Met.ofW (cc := cX12_expression) (maxL := 3) (ret := (some .int)) (by decide) rfl ?_
  intro p e s m args below meth c s₁ B hml hv
  obtain ⟨rfl, hsz, hP, hK, hE, hKS, hX⟩ := hv
  have hx := B.exec
  have hb := B.bytes
  have hr := B.returns
  have hts0 := atoms_spec (ws := g_ws yX12_expression cX12_expression 3 (some .int)) B.pre
  have hts : ∀ w ∈ lw_good, w.before ([.ref h] : List Value).toArray s = true := fun w z => hts0 w (List.mem_cons_of_mem _ z)
  have hown : s.vm.findClass RX12 = some m.cls := findClass_of_methodNamed B.named
  have hlocks := B.notSynchronized
  have hS : va_S (mCells h ad sz) s.heap s.heap [] := va_S.rf
  have hl := lv_entry ([.ref h]) (n := 3) (Nat.le_of_ble_eq_true rfl)
  rw [lg_entry_eq]
  generalize (lg_sl ([.ref h]) ++ List.replicate (3 - (lg_sl ([.ref h])).length) Slot.unset).toArray = ls at hl ⊢
  have hl : lv_has ls 3 [(0, .ref h)] := hl
  unfold F_X12_expression at hF
  refine lv_aload_n hx hb dX12_expression_0 rfl (lv_at hl 0 rfl) ?_
  obtain ⟨u_1, hu_1, hF_2⟩ := Option.bind_eq_some_iff.mp hF
  clear hF
  refine m_ci hsz hS (va_runV (As := []) (rest := []) ⟨hx, hb, hml, hown, hts⟩ (hI1 s.heap.size σ _ hu_1) (cwV 0 hts (g_gV wq_1609 wq_1610 wq_2149 wq_13 wq_1611) rfl rfl rfl (by decide +kernel) ⟨by show 5 + d + 1 ≤ 5 + (d + 1); omega, by show 8 + (3 + 11) + (124 + 23 * d) ≤ 124 + 23 * (d + 1); omega⟩) (m_preV g_bl0 hsz hK hP hS hE hKS g_to0) rfl rfl hl.1 rfl (lv_room (Nat.le_of_ble_eq_true rfl)) dX12_expression_1 ⟨Nat.le_of_ble_eq_true rfl, Nat.le_of_ble_eq_true rfl⟩) (fun H locs hP hS => ?_)
  refine lv_istore_n (lv' := [(1, .int u_1.1), (0, .ref h)]) hx hb dX12_expression_4 rfl hl (by decide) rfl (fun ls hl => ?_)
  refine loopF_ind (P := fun (s_3 : Int32 × MS) => ∀ (H : Heap) (locs : List Loc), va_P (dC, dI) vwCl (mW cB cI cZ h qK qS ad s_3.2) H → va_S (mCells h ad sz) s.heap H locs → ∀ ls : Array Slot, lv_has ls 3 [(0, .ref h), (1, .int s_3.1)] → W p l e (headSpec (g_ws yX12_expression cX12_expression 3 (some .int)) { frames := 5 + (d + 1), cells := 0, slots := 0, locals := 124 + 23 * (d + 1) }).room s m ([.ref h] : List Value).toArray below meth c H locs 0 0 (MQ below (va_Qi (fun r (_ : Unit) => r = res.1) (fun _ t => va_P (dC, dI) vwCl (mW cB cI cZ h qK qS ad res.2) t.heap) (mCells h ad sz)) ([.ref h] : List Value).toArray s 0 0 (mCells h ad sz)) (F0 m 5 ls [])) ?_ _ _ hF_2 _ _ hP hS ls (lv_sub hl [1, 0] rfl)
  intro again_4 s_3 ih_5 hF_6
  intro H locs hP hS ls hl
  refine lv_aload_n hx hb dX12_expression_5 rfl (lv_at hl 0 rfl) ?_
  refine lv_bipush (v := 29) hx hb dX12_expression_6 (by decide +kernel) ?_
  obtain ⟨u_7, hu_7, hF_8⟩ := Option.bind_eq_some_iff.mp hF_6
  clear hF_6
  refine m_ci hsz hS (va_runV (As := [.int 29]) (rest := []) ⟨hx, hb, hml, hown, hts⟩ (m_X12_isKey l dC dI cB cC cI cJ cZ cP h qK qS ad hDD H.size  29 s_3.2 _ hu_7) (cwV 1 hts (g_gV wq_1534 wq_1535 wq_2124 wq_13 wq_1536) rfl rfl rfl (by decide +kernel) ⟨by show 1 + 1 ≤ 5 + (d + 1); omega, by show 8 + (2 + 11) + 40 ≤ 124 + 23 * (d + 1); omega⟩) (m_preV g_bl0 hsz hK hP hS hE hKS g_to0) rfl rfl hl.1 rfl (lv_room (Nat.le_of_ble_eq_true rfl)) dX12_expression_8 ⟨Nat.le_of_ble_eq_true rfl, Nat.le_of_ble_eq_true rfl⟩) (fun H locs hP hS => ?_)
  refine lv_if_eq (tgt := 48) hx hb dX12_expression_11 (by decide) (fun c_9 => ?_) (fun c_9 => ?_)
  · have hF_10 := ipos c_9 hF_8
    clear hF_8
    refine lv_iload_n hx hb dX12_expression_48 rfl (lv_at hl 1 rfl) ?_
    have h9 := Option.some.inj hF_10
    subst h9
    exact W.iret (v := s_3.1) hx hb hr (fun t ht hW => ⟨⟨s_3.1, (), rfl, rfl, m_end ht hP⟩, hS.F ht⟩) hS.2.2 dX12_expression_49
  · have hF_11 := ineg c_9 hF_8
    clear hF_8
    refine lv_aload_n hx hb dX12_expression_14 rfl (lv_at hl 0 rfl) ?_
    refine va_get (D := (dC, dI)) (ci := 12) (v := .ref (ad 8)) (C := RX12) (T := TX12) (N := 123) hx hb hts ii_X12 hown hK hP 0 rfl rfl 8 (by decide) (hts (.fieldLink RX12 31 "StoryHouseModel" "tokAt" "[I") wq_1364) (fun _ h9 => h9) rfl dX12_expression_15 ?_
    refine lv_aload_n hx hb dX12_expression_18 rfl (lv_at hl 0 rfl) ?_
    refine lv_dup hx hb dX12_expression_19 rfl ?_
    refine va_get (D := (dC, dI)) (ci := 12) (v := .int (u_7.2.1 25)) (C := RX12) (T := TX12) (N := 123) hx hb hts ii_X12 hown hK hP 0 rfl rfl 25 (by decide) (hts (.fieldLink RX12 314 "StoryHouseModel" "at" "I") wq_1381) (fun _ h9 => h9) rfl dX12_expression_20 ?_
    refine lv_dup_x1 hx hb dX12_expression_23 rfl rfl ?_
    refine lv_iconst (v := 1) hx hb dX12_expression_24 (by decide +kernel) ?_
    refine lv_iadd hx hb dX12_expression_25 ?_
    obtain ⟨σ_12, eσ_12, hF_13⟩ := bnd_e hF_11
    clear hF_11
    refine m_put (σ' := σ_12) (v := .int ((u_7.2.1 25) + 1)) (ty := .int) hx hb hts hown hK hP (hDD _ _) hS (by rw [eσ_12]; exact mwI_25) (k := 25) (by decide) (hts (.fieldLink RX12 314 "StoryHouseModel" "at" "I") wq_1381) (fun _ h9 => h9) rfl (by decide +kernel) rfl rfl dX12_expression_26 (fun H locs hP hS => ?_)
    obtain ⟨x_14, ex_14, hF_15⟩ := bnd_e hF_13
    clear hF_13
    refine m_top ex_14 ?_
    obtain ⟨g_16, hF_17⟩ := nif_e hF_15
    clear hF_15
    refine va_iald (f := σ_12.2 8) hx hb hK hP 4 2 rfl rfl g_16 dX12_expression_29 ?_
    obtain ⟨x_18, ex_18, hF_19⟩ := bnd_e hF_17
    clear hF_17
    refine m_top ex_18 ?_
    refine lv_istore_n (lv' := [(2, .int x_18), (0, .ref h), (1, .int s_3.1)]) hx hb dX12_expression_30 rfl hl (by decide) rfl (fun ls hl => ?_)
    refine lv_aload_n hx hb dX12_expression_31 rfl (lv_at hl 1 rfl) ?_
    refine lv_bipush (v := 55) hx hb dX12_expression_32 (by decide +kernel) ?_
    refine lv_iload_n hx hb dX12_expression_34 rfl (lv_at hl 0 rfl) ?_
    refine lv_iload_n hx hb dX12_expression_35 rfl (lv_at hl 2 rfl) ?_
    refine lv_aload_n hx hb dX12_expression_36 rfl (lv_at hl 1 rfl) ?_
    obtain ⟨u_20, hu_20, hF_21⟩ := Option.bind_eq_some_iff.mp hF_19
    clear hF_19
    refine m_ci hsz hS (va_runV (As := []) (rest := [.int s_3.1, .int x_18, .int 55, .ref h]) ⟨hx, hb, hml, hown, hts⟩ (hI1 H.size σ_12 _ hu_20) (cwV 0 hts (g_gV wq_1609 wq_1610 wq_2149 wq_13 wq_1611) rfl rfl rfl (by decide +kernel) ⟨by show 5 + d + 1 ≤ 5 + (d + 1); omega, by show 8 + (3 + 11) + (124 + 23 * d) ≤ 124 + 23 * (d + 1); omega⟩) (m_preV g_bl0 hsz hK hP hS hE hKS g_to0) rfl rfl hl.1 rfl (lv_room (Nat.le_of_ble_eq_true rfl)) dX12_expression_37 ⟨Nat.le_of_ble_eq_true rfl, Nat.le_of_ble_eq_true rfl⟩) (fun H locs hP hS => ?_)
    refine lv_iconst (v := 0) hx hb dX12_expression_40 (by decide +kernel) ?_
    obtain ⟨u_22, hu_22, hF_23⟩ := Option.bind_eq_some_iff.mp hF_21
    clear hF_21
    refine m_ci hsz hS (va_runV (As := [.int 55, .int x_18, .int s_3.1, .int u_20.1, .int 0]) (rest := []) ⟨hx, hb, hml, hown, hts⟩ (m_X12_two l dC dI cB cC cI cJ cZ cP h qK qS ad hDD H.size  55 x_18 s_3.1 u_20.1 0 u_20.2 _ hu_22) (cwV 5 hts (g_gV wq_1627 wq_1628 wq_2155 wq_13 wq_1629) rfl rfl rfl (by decide +kernel) ⟨by show 2 + 1 ≤ 5 + (d + 1); omega, by show 8 + (7 + 11) + 62 ≤ 124 + 23 * (d + 1); omega⟩) (m_preV g_bl0 hsz hK hP hS hE hKS g_to0) rfl rfl hl.1 rfl (lv_room (Nat.le_of_ble_eq_true rfl)) dX12_expression_41 ⟨Nat.le_of_ble_eq_true rfl, Nat.le_of_ble_eq_true rfl⟩) (fun H locs hP hS => ?_)
    refine lv_istore_n (lv' := [(1, .int u_22.1), (2, .int x_18), (0, .ref h)]) hx hb dX12_expression_44 rfl hl (by decide) rfl (fun ls hl => ?_)
    refine lv_goto (tgt := 5) hx hb dX12_expression_45 (by decide) ?_
    exact ih_5 (u_22.1, u_22.2) hF_23 _ _ hP hS ls (lv_sub hl [2, 0] rfl)

def F_X12_both (rec : GF)  (σ : MS) : MR :=
  (rec 2 0 0 0 σ).bind fun u_1 =>
  loopF (fun (again_4 : (Int32 × MS) → MR) (s_3 : Int32 × MS) => (
    (F_X12_isKey 2 s_3.2).bind fun u_7 =>
    if u_7.1 = 0 then (
      some (s_3.1, u_7.2)
    ) else (
      bnd (mI u_7.2 25 ((u_7.2.1 25) + 1)) fun σ_12 =>
      bnd ((u_7.2.1 25)) fun (x_14 : Int32) =>
      if x_14 < 0 ∨ 16010 ≤ x_14.toNatClampNeg then none else
      bnd ((σ_12.2 8 x_14.toNatClampNeg)) fun (x_18 : Int32) =>
      (rec 2 0 0 0 σ_12).bind fun u_20 =>
      (F_X12_two 54 x_18 s_3.1 u_20.1 0 u_20.2).bind fun u_22 =>
      again_4 (u_22.1, u_22.2)
    )
  )) FU (u_1.1, u_1.2)
set_option maxHeartbeats 4000000 in
set_option maxRecDepth 100000 in
theorem m_X12_both_st (l : Launch) (dC : Nat → ClassId) (dI : Nat → Nat → Nat) (cB cC cI cJ cZ cP : ClassId) (h qK qS : Nat) (ad : Nat → Nat) (hDD : mDis cB cI cZ h qK qS ad) (d : Nat) (rec : GF) (hI0 : ∀ (sz : Nat)  (σ : MS) (res : Int32 × MS), rec 0 0 0 0 σ = some res → Met l yX12_expression (g_ws yX12_expression cX12_expression 3 (some .int)) ({ frames := 5 + d, cells := 0, slots := 0, locals := 124 + 23 * d }) (va_Pc [.ref h] (m_B (dC, dI) [(cB, .byte), (cC, .char), (cI, .int), (cJ, .long), (cZ, .boolean), (cP, .object "StoryHouse$Play")] sz h ad qK qS (mW cB cI cZ h qK qS ad σ) g_0)) (va_Qi (fun r (_ : Unit) => r = res.1) (fun _ t => va_P (dC, dI) vwCl (mW cB cI cZ h qK qS ad res.2) t.heap) (mCells h ad sz)) 0 0 (mCells h ad sz)) (hI1 : ∀ (sz : Nat)  (σ : MS) (res : Int32 × MS), rec 1 0 0 0 σ = some res → Met l yX12_both (g_ws yX12_both cX12_both 3 (some .int)) ({ frames := 5 + d, cells := 0, slots := 0, locals := 124 + 23 * d }) (va_Pc [.ref h] (m_B (dC, dI) [(cB, .byte), (cC, .char), (cI, .int), (cJ, .long), (cZ, .boolean), (cP, .object "StoryHouse$Play")] sz h ad qK qS (mW cB cI cZ h qK qS ad σ) g_0)) (va_Qi (fun r (_ : Unit) => r = res.1) (fun _ t => va_P (dC, dI) vwCl (mW cB cI cZ h qK qS ad res.2) t.heap) (mCells h ad sz)) 0 0 (mCells h ad sz)) (hI2 : ∀ (sz : Nat)  (σ : MS) (res : Int32 × MS), rec 2 0 0 0 σ = some res → Met l yX12_step (g_ws yX12_step cX12_step 3 (some .int)) ({ frames := 5 + d, cells := 0, slots := 0, locals := 124 + 23 * d }) (va_Pc [.ref h] (m_B (dC, dI) [(cB, .byte), (cC, .char), (cI, .int), (cJ, .long), (cZ, .boolean), (cP, .object "StoryHouse$Play")] sz h ad qK qS (mW cB cI cZ h qK qS ad σ) g_0)) (va_Qi (fun r (_ : Unit) => r = res.1) (fun _ t => va_P (dC, dI) vwCl (mW cB cI cZ h qK qS ad res.2) t.heap) (mCells h ad sz)) 0 0 (mCells h ad sz)) (hI3 : ∀ (sz : Nat)  (σ : MS) (res : Int32 × MS), rec 3 0 0 0 σ = some res → Met l yX12_comparison (g_ws yX12_comparison cX12_comparison 4 (some .int)) ({ frames := 5 + d, cells := 0, slots := 0, locals := 124 + 23 * d }) (va_Pc [.ref h] (m_B (dC, dI) [(cB, .byte), (cC, .char), (cI, .int), (cJ, .long), (cZ, .boolean), (cP, .object "StoryHouse$Play")] sz h ad qK qS (mW cB cI cZ h qK qS ad σ) g_0)) (va_Qi (fun r (_ : Unit) => r = res.1) (fun _ t => va_P (dC, dI) vwCl (mW cB cI cZ h qK qS ad res.2) t.heap) (mCells h ad sz)) 0 0 (mCells h ad sz)) (hI4 : ∀ (sz : Nat)  (σ : MS) (res : Int32 × MS), rec 4 0 0 0 σ = some res → Met l yX12_sum (g_ws yX12_sum cX12_sum 4 (some .int)) ({ frames := 5 + d, cells := 0, slots := 0, locals := 124 + 23 * d }) (va_Pc [.ref h] (m_B (dC, dI) [(cB, .byte), (cC, .char), (cI, .int), (cJ, .long), (cZ, .boolean), (cP, .object "StoryHouse$Play")] sz h ad qK qS (mW cB cI cZ h qK qS ad σ) g_0)) (va_Qi (fun r (_ : Unit) => r = res.1) (fun _ t => va_P (dC, dI) vwCl (mW cB cI cZ h qK qS ad res.2) t.heap) (mCells h ad sz)) 0 0 (mCells h ad sz)) (hI5 : ∀ (sz : Nat)  (σ : MS) (res : Int32 × MS), rec 5 0 0 0 σ = some res → Met l yX12_term (g_ws yX12_term cX12_term 4 (some .int)) ({ frames := 5 + d, cells := 0, slots := 0, locals := 124 + 23 * d }) (va_Pc [.ref h] (m_B (dC, dI) [(cB, .byte), (cC, .char), (cI, .int), (cJ, .long), (cZ, .boolean), (cP, .object "StoryHouse$Play")] sz h ad qK qS (mW cB cI cZ h qK qS ad σ) g_0)) (va_Qi (fun r (_ : Unit) => r = res.1) (fun _ t => va_P (dC, dI) vwCl (mW cB cI cZ h qK qS ad res.2) t.heap) (mCells h ad sz)) 0 0 (mCells h ad sz)) (hI6 : ∀ (sz : Nat)  (σ : MS) (res : Int32 × MS), rec 6 0 0 0 σ = some res → Met l yX12_factor (g_ws yX12_factor cX12_factor 3 (some .int)) ({ frames := 5 + d, cells := 0, slots := 0, locals := 124 + 23 * d }) (va_Pc [.ref h] (m_B (dC, dI) [(cB, .byte), (cC, .char), (cI, .int), (cJ, .long), (cZ, .boolean), (cP, .object "StoryHouse$Play")] sz h ad qK qS (mW cB cI cZ h qK qS ad σ) g_0)) (va_Qi (fun r (_ : Unit) => r = res.1) (fun _ t => va_P (dC, dI) vwCl (mW cB cI cZ h qK qS ad res.2) t.heap) (mCells h ad sz)) 0 0 (mCells h ad sz)) (hI7 : ∀ (sz : Nat)  (σ : MS) (res : Int32 × MS), rec 7 0 0 0 σ = some res → Met l yX12_primary (g_ws yX12_primary cX12_primary 4 (some .int)) ({ frames := 5 + d, cells := 0, slots := 0, locals := 124 + 23 * d }) (va_Pc [.ref h] (m_B (dC, dI) [(cB, .byte), (cC, .char), (cI, .int), (cJ, .long), (cZ, .boolean), (cP, .object "StoryHouse$Play")] sz h ad qK qS (mW cB cI cZ h qK qS ad σ) g_0)) (va_Qi (fun r (_ : Unit) => r = res.1) (fun _ t => va_P (dC, dI) vwCl (mW cB cI cZ h qK qS ad res.2) t.heap) (mCells h ad sz)) 0 0 (mCells h ad sz)) (hI8 : ∀ (sz : Nat)  (σ : MS) (res : Int32 × MS), rec 8 0 0 0 σ = some res → Met l yX12_arguments (g_ws yX12_arguments cX12_arguments 4 (some .int)) ({ frames := 5 + d, cells := 0, slots := 0, locals := 124 + 23 * d }) (va_Pc [.ref h] (m_B (dC, dI) [(cB, .byte), (cC, .char), (cI, .int), (cJ, .long), (cZ, .boolean), (cP, .object "StoryHouse$Play")] sz h ad qK qS (mW cB cI cZ h qK qS ad σ) g_0)) (va_Qi (fun r (_ : Unit) => r = res.1) (fun _ t => va_P (dC, dI) vwCl (mW cB cI cZ h qK qS ad res.2) t.heap) (mCells h ad sz)) 0 0 (mCells h ad sz)) (sz : Nat)   (σ : MS) (res : Int32 × MS) (hF : F_X12_both rec  σ = some res) : Met l yX12_both (g_ws yX12_both cX12_both 3 (some .int)) ({ frames := 5 + (d + 1), cells := 0, slots := 0, locals := 124 + 23 * (d + 1) }) (va_Pc [.ref h] (m_B (dC, dI) [(cB, .byte), (cC, .char), (cI, .int), (cJ, .long), (cZ, .boolean), (cP, .object "StoryHouse$Play")] sz h ad qK qS (mW cB cI cZ h qK qS ad σ) g_0)) (va_Qi (fun r (_ : Unit) => r = res.1) (fun _ t => va_P (dC, dI) vwCl (mW cB cI cZ h qK qS ad res.2) t.heap) (mCells h ad sz)) 0 0 (mCells h ad sz) := by
  refine Met.ofW (cc := cX12_both) (maxL := 3) (ret := (some .int)) (by decide) rfl ?_
  intro p e s m args below meth c s₁ B hml hv
  obtain ⟨rfl, hsz, hP, hK, hE, hKS, hX⟩ := hv
  have hx := B.exec
  have hb := B.bytes
  have hr := B.returns
  have hts0 := atoms_spec (ws := g_ws yX12_both cX12_both 3 (some .int)) B.pre
  have hts : ∀ w ∈ lw_good, w.before ([.ref h] : List Value).toArray s = true := fun w z => hts0 w (List.mem_cons_of_mem _ z)
  have hown : s.vm.findClass RX12 = some m.cls := findClass_of_methodNamed B.named
  have hlocks := B.notSynchronized
  have hS : va_S (mCells h ad sz) s.heap s.heap [] := va_S.rf
  have hl := lv_entry ([.ref h]) (n := 3) (Nat.le_of_ble_eq_true rfl)
  rw [lg_entry_eq]
  generalize (lg_sl ([.ref h]) ++ List.replicate (3 - (lg_sl ([.ref h])).length) Slot.unset).toArray = ls at hl ⊢
  have hl : lv_has ls 3 [(0, .ref h)] := hl
  unfold F_X12_both at hF
  refine lv_aload_n hx hb dX12_both_0 rfl (lv_at hl 0 rfl) ?_
  obtain ⟨u_1, hu_1, hF_2⟩ := Option.bind_eq_some_iff.mp hF
  clear hF
  refine m_ci hsz hS (va_runV (As := []) (rest := []) ⟨hx, hb, hml, hown, hts⟩ (hI2 s.heap.size σ _ hu_1) (cwV 0 hts (g_gV wq_1612 wq_1613 wq_2150 wq_13 wq_1614) rfl rfl rfl (by decide +kernel) ⟨by show 5 + d + 1 ≤ 5 + (d + 1); omega, by show 8 + (3 + 11) + (124 + 23 * d) ≤ 124 + 23 * (d + 1); omega⟩) (m_preV g_bl0 hsz hK hP hS hE hKS g_to0) rfl rfl hl.1 rfl (lv_room (Nat.le_of_ble_eq_true rfl)) dX12_both_1 ⟨Nat.le_of_ble_eq_true rfl, Nat.le_of_ble_eq_true rfl⟩) (fun H locs hP hS => ?_)
  refine lv_istore_n (lv' := [(1, .int u_1.1), (0, .ref h)]) hx hb dX12_both_4 rfl hl (by decide) rfl (fun ls hl => ?_)
  refine loopF_ind (P := fun (s_3 : Int32 × MS) => ∀ (H : Heap) (locs : List Loc), va_P (dC, dI) vwCl (mW cB cI cZ h qK qS ad s_3.2) H → va_S (mCells h ad sz) s.heap H locs → ∀ ls : Array Slot, lv_has ls 3 [(0, .ref h), (1, .int s_3.1)] → W p l e (headSpec (g_ws yX12_both cX12_both 3 (some .int)) { frames := 5 + (d + 1), cells := 0, slots := 0, locals := 124 + 23 * (d + 1) }).room s m ([.ref h] : List Value).toArray below meth c H locs 0 0 (MQ below (va_Qi (fun r (_ : Unit) => r = res.1) (fun _ t => va_P (dC, dI) vwCl (mW cB cI cZ h qK qS ad res.2) t.heap) (mCells h ad sz)) ([.ref h] : List Value).toArray s 0 0 (mCells h ad sz)) (F0 m 5 ls [])) ?_ _ _ hF_2 _ _ hP hS ls (lv_sub hl [1, 0] rfl)
  intro again_4 s_3 ih_5 hF_6
  intro H locs hP hS ls hl
  refine lv_aload_n hx hb dX12_both_5 rfl (lv_at hl 0 rfl) ?_
  refine lv_iconst (v := 2) hx hb dX12_both_6 (by decide +kernel) ?_
  obtain ⟨u_7, hu_7, hF_8⟩ := Option.bind_eq_some_iff.mp hF_6
  clear hF_6
  refine m_ci hsz hS (va_runV (As := [.int 2]) (rest := []) ⟨hx, hb, hml, hown, hts⟩ (m_X12_isKey l dC dI cB cC cI cJ cZ cP h qK qS ad hDD H.size  2 s_3.2 _ hu_7) (cwV 1 hts (g_gV wq_1534 wq_1535 wq_2124 wq_13 wq_1536) rfl rfl rfl (by decide +kernel) ⟨by show 1 + 1 ≤ 5 + (d + 1); omega, by show 8 + (2 + 11) + 40 ≤ 124 + 23 * (d + 1); omega⟩) (m_preV g_bl0 hsz hK hP hS hE hKS g_to0) rfl rfl hl.1 rfl (lv_room (Nat.le_of_ble_eq_true rfl)) dX12_both_7 ⟨Nat.le_of_ble_eq_true rfl, Nat.le_of_ble_eq_true rfl⟩) (fun H locs hP hS => ?_)
  refine lv_if_eq (tgt := 47) hx hb dX12_both_10 (by decide) (fun c_9 => ?_) (fun c_9 => ?_)
  · have hF_10 := ipos c_9 hF_8
    clear hF_8
    refine lv_iload_n hx hb dX12_both_47 rfl (lv_at hl 1 rfl) ?_
    have h9 := Option.some.inj hF_10
    subst h9
    exact W.iret (v := s_3.1) hx hb hr (fun t ht hW => ⟨⟨s_3.1, (), rfl, rfl, m_end ht hP⟩, hS.F ht⟩) hS.2.2 dX12_both_48
  · have hF_11 := ineg c_9 hF_8
    clear hF_8
    refine lv_aload_n hx hb dX12_both_13 rfl (lv_at hl 0 rfl) ?_
    refine va_get (D := (dC, dI)) (ci := 12) (v := .ref (ad 8)) (C := RX12) (T := TX12) (N := 123) hx hb hts ii_X12 hown hK hP 0 rfl rfl 8 (by decide) (hts (.fieldLink RX12 31 "StoryHouseModel" "tokAt" "[I") wq_1364) (fun _ h9 => h9) rfl dX12_both_14 ?_
    refine lv_aload_n hx hb dX12_both_17 rfl (lv_at hl 0 rfl) ?_
    refine lv_dup hx hb dX12_both_18 rfl ?_
    refine va_get (D := (dC, dI)) (ci := 12) (v := .int (u_7.2.1 25)) (C := RX12) (T := TX12) (N := 123) hx hb hts ii_X12 hown hK hP 0 rfl rfl 25 (by decide) (hts (.fieldLink RX12 314 "StoryHouseModel" "at" "I") wq_1381) (fun _ h9 => h9) rfl dX12_both_19 ?_
    refine lv_dup_x1 hx hb dX12_both_22 rfl rfl ?_
    refine lv_iconst (v := 1) hx hb dX12_both_23 (by decide +kernel) ?_
    refine lv_iadd hx hb dX12_both_24 ?_
    obtain ⟨σ_12, eσ_12, hF_13⟩ := bnd_e hF_11
    clear hF_11
    refine m_put (σ' := σ_12) (v := .int ((u_7.2.1 25) + 1)) (ty := .int) hx hb hts hown hK hP (hDD _ _) hS (by rw [eσ_12]; exact mwI_25) (k := 25) (by decide) (hts (.fieldLink RX12 314 "StoryHouseModel" "at" "I") wq_1381) (fun _ h9 => h9) rfl (by decide +kernel) rfl rfl dX12_both_25 (fun H locs hP hS => ?_)
    obtain ⟨x_14, ex_14, hF_15⟩ := bnd_e hF_13
    clear hF_13
    refine m_top ex_14 ?_
    obtain ⟨g_16, hF_17⟩ := nif_e hF_15
    clear hF_15
    refine va_iald (f := σ_12.2 8) hx hb hK hP 4 2 rfl rfl g_16 dX12_both_28 ?_
    obtain ⟨x_18, ex_18, hF_19⟩ := bnd_e hF_17
    clear hF_17
    refine m_top ex_18 ?_
    refine lv_istore_n (lv' := [(2, .int x_18), (0, .ref h), (1, .int s_3.1)]) hx hb dX12_both_29 rfl hl (by decide) rfl (fun ls hl => ?_)
    refine lv_aload_n hx hb dX12_both_30 rfl (lv_at hl 1 rfl) ?_
    refine lv_bipush (v := 54) hx hb dX12_both_31 (by decide +kernel) ?_
    refine lv_iload_n hx hb dX12_both_33 rfl (lv_at hl 0 rfl) ?_
    refine lv_iload_n hx hb dX12_both_34 rfl (lv_at hl 2 rfl) ?_
    refine lv_aload_n hx hb dX12_both_35 rfl (lv_at hl 1 rfl) ?_
    obtain ⟨u_20, hu_20, hF_21⟩ := Option.bind_eq_some_iff.mp hF_19
    clear hF_19
    refine m_ci hsz hS (va_runV (As := []) (rest := [.int s_3.1, .int x_18, .int 54, .ref h]) ⟨hx, hb, hml, hown, hts⟩ (hI2 H.size σ_12 _ hu_20) (cwV 0 hts (g_gV wq_1612 wq_1613 wq_2150 wq_13 wq_1614) rfl rfl rfl (by decide +kernel) ⟨by show 5 + d + 1 ≤ 5 + (d + 1); omega, by show 8 + (3 + 11) + (124 + 23 * d) ≤ 124 + 23 * (d + 1); omega⟩) (m_preV g_bl0 hsz hK hP hS hE hKS g_to0) rfl rfl hl.1 rfl (lv_room (Nat.le_of_ble_eq_true rfl)) dX12_both_36 ⟨Nat.le_of_ble_eq_true rfl, Nat.le_of_ble_eq_true rfl⟩) (fun H locs hP hS => ?_)
    refine lv_iconst (v := 0) hx hb dX12_both_39 (by decide +kernel) ?_
    obtain ⟨u_22, hu_22, hF_23⟩ := Option.bind_eq_some_iff.mp hF_21
    clear hF_21
    refine m_ci hsz hS (va_runV (As := [.int 54, .int x_18, .int s_3.1, .int u_20.1, .int 0]) (rest := []) ⟨hx, hb, hml, hown, hts⟩ (m_X12_two l dC dI cB cC cI cJ cZ cP h qK qS ad hDD H.size  54 x_18 s_3.1 u_20.1 0 u_20.2 _ hu_22) (cwV 5 hts (g_gV wq_1627 wq_1628 wq_2155 wq_13 wq_1629) rfl rfl rfl (by decide +kernel) ⟨by show 2 + 1 ≤ 5 + (d + 1); omega, by show 8 + (7 + 11) + 62 ≤ 124 + 23 * (d + 1); omega⟩) (m_preV g_bl0 hsz hK hP hS hE hKS g_to0) rfl rfl hl.1 rfl (lv_room (Nat.le_of_ble_eq_true rfl)) dX12_both_40 ⟨Nat.le_of_ble_eq_true rfl, Nat.le_of_ble_eq_true rfl⟩) (fun H locs hP hS => ?_)
    refine lv_istore_n (lv' := [(1, .int u_22.1), (2, .int x_18), (0, .ref h)]) hx hb dX12_both_43 rfl hl (by decide) rfl (fun ls hl => ?_)
    refine lv_goto (tgt := 5) hx hb dX12_both_44 (by decide) ?_
    exact ih_5 (u_22.1, u_22.2) hF_23 _ _ hP hS ls (lv_sub hl [2, 0] rfl)

def F_X12_step (rec : GF)  (σ : MS) : MR :=
  (F_X12_isKey 26 σ).bind fun u_1 =>
  if u_1.1 = 0 then (
    (rec 3 0 0 0 u_1.2).bind fun u_5 =>
    some (u_5.1, u_5.2)
  ) else (
    bnd ((u_1.2.1 25)) fun (x_8 : Int32) =>
    if x_8 < 0 ∨ 16010 ≤ x_8.toNatClampNeg then none else
    bnd ((u_1.2.2 8 x_8.toNatClampNeg)) fun (x_12 : Int32) =>
    (F_X12_opens u_1.2).bind fun u_14 =>
    bnd (mI u_14.2 25 ((u_14.2.1 25) + 1)) fun σ_16 =>
    (rec 2 0 0 0 σ_16).bind fun u_18 =>
    (F_X12_two 53 x_12 u_18.1 (-1) 0 u_18.2).bind fun u_20 =>
    bnd (mI u_20.2 26 ((u_20.2.1 26) - 1)) fun σ_22 =>
    some (u_20.1, σ_22)
  )
set_option maxHeartbeats 4000000 in
set_option maxRecDepth 100000 in
theorem m_X12_step_st (l : Launch) (dC : Nat → ClassId) (dI : Nat → Nat → Nat) (cB cC cI cJ cZ cP : ClassId) (h qK qS : Nat) (ad : Nat → Nat) (hDD : mDis cB cI cZ h qK qS ad) (d : Nat) (rec : GF) (hI0 : ∀ (sz : Nat)  (σ : MS) (res : Int32 × MS), rec 0 0 0 0 σ = some res → Met l yX12_expression (g_ws yX12_expression cX12_expression 3 (some .int)) ({ frames := 5 + d, cells := 0, slots := 0, locals := 124 + 23 * d }) (va_Pc [.ref h] (m_B (dC, dI) [(cB, .byte), (cC, .char), (cI, .int), (cJ, .long), (cZ, .boolean), (cP, .object "StoryHouse$Play")] sz h ad qK qS (mW cB cI cZ h qK qS ad σ) g_0)) (va_Qi (fun r (_ : Unit) => r = res.1) (fun _ t => va_P (dC, dI) vwCl (mW cB cI cZ h qK qS ad res.2) t.heap) (mCells h ad sz)) 0 0 (mCells h ad sz)) (hI1 : ∀ (sz : Nat)  (σ : MS) (res : Int32 × MS), rec 1 0 0 0 σ = some res → Met l yX12_both (g_ws yX12_both cX12_both 3 (some .int)) ({ frames := 5 + d, cells := 0, slots := 0, locals := 124 + 23 * d }) (va_Pc [.ref h] (m_B (dC, dI) [(cB, .byte), (cC, .char), (cI, .int), (cJ, .long), (cZ, .boolean), (cP, .object "StoryHouse$Play")] sz h ad qK qS (mW cB cI cZ h qK qS ad σ) g_0)) (va_Qi (fun r (_ : Unit) => r = res.1) (fun _ t => va_P (dC, dI) vwCl (mW cB cI cZ h qK qS ad res.2) t.heap) (mCells h ad sz)) 0 0 (mCells h ad sz)) (hI2 : ∀ (sz : Nat)  (σ : MS) (res : Int32 × MS), rec 2 0 0 0 σ = some res → Met l yX12_step (g_ws yX12_step cX12_step 3 (some .int)) ({ frames := 5 + d, cells := 0, slots := 0, locals := 124 + 23 * d }) (va_Pc [.ref h] (m_B (dC, dI) [(cB, .byte), (cC, .char), (cI, .int), (cJ, .long), (cZ, .boolean), (cP, .object "StoryHouse$Play")] sz h ad qK qS (mW cB cI cZ h qK qS ad σ) g_0)) (va_Qi (fun r (_ : Unit) => r = res.1) (fun _ t => va_P (dC, dI) vwCl (mW cB cI cZ h qK qS ad res.2) t.heap) (mCells h ad sz)) 0 0 (mCells h ad sz)) (hI3 : ∀ (sz : Nat)  (σ : MS) (res : Int32 × MS), rec 3 0 0 0 σ = some res → Met l yX12_comparison (g_ws yX12_comparison cX12_comparison 4 (some .int)) ({ frames := 5 + d, cells := 0, slots := 0, locals := 124 + 23 * d }) (va_Pc [.ref h] (m_B (dC, dI) [(cB, .byte), (cC, .char), (cI, .int), (cJ, .long), (cZ, .boolean), (cP, .object "StoryHouse$Play")] sz h ad qK qS (mW cB cI cZ h qK qS ad σ) g_0)) (va_Qi (fun r (_ : Unit) => r = res.1) (fun _ t => va_P (dC, dI) vwCl (mW cB cI cZ h qK qS ad res.2) t.heap) (mCells h ad sz)) 0 0 (mCells h ad sz)) (hI4 : ∀ (sz : Nat)  (σ : MS) (res : Int32 × MS), rec 4 0 0 0 σ = some res → Met l yX12_sum (g_ws yX12_sum cX12_sum 4 (some .int)) ({ frames := 5 + d, cells := 0, slots := 0, locals := 124 + 23 * d }) (va_Pc [.ref h] (m_B (dC, dI) [(cB, .byte), (cC, .char), (cI, .int), (cJ, .long), (cZ, .boolean), (cP, .object "StoryHouse$Play")] sz h ad qK qS (mW cB cI cZ h qK qS ad σ) g_0)) (va_Qi (fun r (_ : Unit) => r = res.1) (fun _ t => va_P (dC, dI) vwCl (mW cB cI cZ h qK qS ad res.2) t.heap) (mCells h ad sz)) 0 0 (mCells h ad sz)) (hI5 : ∀ (sz : Nat)  (σ : MS) (res : Int32 × MS), rec 5 0 0 0 σ = some res → Met l yX12_term (g_ws yX12_term cX12_term 4 (some .int)) ({ frames := 5 + d, cells := 0, slots := 0, locals := 124 + 23 * d }) (va_Pc [.ref h] (m_B (dC, dI) [(cB, .byte), (cC, .char), (cI, .int), (cJ, .long), (cZ, .boolean), (cP, .object "StoryHouse$Play")] sz h ad qK qS (mW cB cI cZ h qK qS ad σ) g_0)) (va_Qi (fun r (_ : Unit) => r = res.1) (fun _ t => va_P (dC, dI) vwCl (mW cB cI cZ h qK qS ad res.2) t.heap) (mCells h ad sz)) 0 0 (mCells h ad sz)) (hI6 : ∀ (sz : Nat)  (σ : MS) (res : Int32 × MS), rec 6 0 0 0 σ = some res → Met l yX12_factor (g_ws yX12_factor cX12_factor 3 (some .int)) ({ frames := 5 + d, cells := 0, slots := 0, locals := 124 + 23 * d }) (va_Pc [.ref h] (m_B (dC, dI) [(cB, .byte), (cC, .char), (cI, .int), (cJ, .long), (cZ, .boolean), (cP, .object "StoryHouse$Play")] sz h ad qK qS (mW cB cI cZ h qK qS ad σ) g_0)) (va_Qi (fun r (_ : Unit) => r = res.1) (fun _ t => va_P (dC, dI) vwCl (mW cB cI cZ h qK qS ad res.2) t.heap) (mCells h ad sz)) 0 0 (mCells h ad sz)) (hI7 : ∀ (sz : Nat)  (σ : MS) (res : Int32 × MS), rec 7 0 0 0 σ = some res → Met l yX12_primary (g_ws yX12_primary cX12_primary 4 (some .int)) ({ frames := 5 + d, cells := 0, slots := 0, locals := 124 + 23 * d }) (va_Pc [.ref h] (m_B (dC, dI) [(cB, .byte), (cC, .char), (cI, .int), (cJ, .long), (cZ, .boolean), (cP, .object "StoryHouse$Play")] sz h ad qK qS (mW cB cI cZ h qK qS ad σ) g_0)) (va_Qi (fun r (_ : Unit) => r = res.1) (fun _ t => va_P (dC, dI) vwCl (mW cB cI cZ h qK qS ad res.2) t.heap) (mCells h ad sz)) 0 0 (mCells h ad sz)) (hI8 : ∀ (sz : Nat)  (σ : MS) (res : Int32 × MS), rec 8 0 0 0 σ = some res → Met l yX12_arguments (g_ws yX12_arguments cX12_arguments 4 (some .int)) ({ frames := 5 + d, cells := 0, slots := 0, locals := 124 + 23 * d }) (va_Pc [.ref h] (m_B (dC, dI) [(cB, .byte), (cC, .char), (cI, .int), (cJ, .long), (cZ, .boolean), (cP, .object "StoryHouse$Play")] sz h ad qK qS (mW cB cI cZ h qK qS ad σ) g_0)) (va_Qi (fun r (_ : Unit) => r = res.1) (fun _ t => va_P (dC, dI) vwCl (mW cB cI cZ h qK qS ad res.2) t.heap) (mCells h ad sz)) 0 0 (mCells h ad sz)) (sz : Nat)   (σ : MS) (res : Int32 × MS) (hF : F_X12_step rec  σ = some res) : Met l yX12_step (g_ws yX12_step cX12_step 3 (some .int)) ({ frames := 5 + (d + 1), cells := 0, slots := 0, locals := 124 + 23 * (d + 1) }) (va_Pc [.ref h] (m_B (dC, dI) [(cB, .byte), (cC, .char), (cI, .int), (cJ, .long), (cZ, .boolean), (cP, .object "StoryHouse$Play")] sz h ad qK qS (mW cB cI cZ h qK qS ad σ) g_0)) (va_Qi (fun r (_ : Unit) => r = res.1) (fun _ t => va_P (dC, dI) vwCl (mW cB cI cZ h qK qS ad res.2) t.heap) (mCells h ad sz)) 0 0 (mCells h ad sz) := by
  refine Met.ofW (cc := cX12_step) (maxL := 3) (ret := (some .int)) (by decide) rfl ?_
  intro p e s m args below meth c s₁ B hml hv
  obtain ⟨rfl, hsz, hP, hK, hE, hKS, hX⟩ := hv
  have hx := B.exec
  have hb := B.bytes
  have hr := B.returns
  have hts0 := atoms_spec (ws := g_ws yX12_step cX12_step 3 (some .int)) B.pre
  have hts : ∀ w ∈ lw_good, w.before ([.ref h] : List Value).toArray s = true := fun w z => hts0 w (List.mem_cons_of_mem _ z)
  have hown : s.vm.findClass RX12 = some m.cls := findClass_of_methodNamed B.named
  have hlocks := B.notSynchronized
  have hS : va_S (mCells h ad sz) s.heap s.heap [] := va_S.rf
  have hl := lv_entry ([.ref h]) (n := 3) (Nat.le_of_ble_eq_true rfl)
  rw [lg_entry_eq]
  generalize (lg_sl ([.ref h]) ++ List.replicate (3 - (lg_sl ([.ref h])).length) Slot.unset).toArray = ls at hl ⊢
  have hl : lv_has ls 3 [(0, .ref h)] := hl
  unfold F_X12_step at hF
  refine lv_aload_n hx hb dX12_step_0 rfl (lv_at hl 0 rfl) ?_
  refine lv_bipush (v := 26) hx hb dX12_step_1 (by decide +kernel) ?_
  obtain ⟨u_1, hu_1, hF_2⟩ := Option.bind_eq_some_iff.mp hF
  clear hF
  refine m_ci hsz hS (va_runV (As := [.int 26]) (rest := []) ⟨hx, hb, hml, hown, hts⟩ (m_X12_isKey l dC dI cB cC cI cJ cZ cP h qK qS ad hDD s.heap.size  26 σ _ hu_1) (cwV 1 hts (g_gV wq_1534 wq_1535 wq_2124 wq_13 wq_1536) rfl rfl rfl (by decide +kernel) ⟨by show 1 + 1 ≤ 5 + (d + 1); omega, by show 8 + (2 + 11) + 40 ≤ 124 + 23 * (d + 1); omega⟩) (m_preV g_bl0 hsz hK hP hS hE hKS g_to0) rfl rfl hl.1 rfl (lv_room (Nat.le_of_ble_eq_true rfl)) dX12_step_3 ⟨Nat.le_of_ble_eq_true rfl, Nat.le_of_ble_eq_true rfl⟩) (fun H locs hP hS => ?_)
  refine lv_if_ne (tgt := 14) hx hb dX12_step_6 (by decide) (fun c_3 => ?_) (fun c_3 => ?_)
  · have hF_7 := ineg c_3 hF_2
    clear hF_2
    refine lv_aload_n hx hb dX12_step_14 rfl (lv_at hl 0 rfl) ?_
    refine va_get (D := (dC, dI)) (ci := 12) (v := .ref (ad 8)) (C := RX12) (T := TX12) (N := 123) hx hb hts ii_X12 hown hK hP 0 rfl rfl 8 (by decide) (hts (.fieldLink RX12 31 "StoryHouseModel" "tokAt" "[I") wq_1364) (fun _ h9 => h9) rfl dX12_step_15 ?_
    refine lv_aload_n hx hb dX12_step_18 rfl (lv_at hl 0 rfl) ?_
    refine va_get (D := (dC, dI)) (ci := 12) (v := .int (u_1.2.1 25)) (C := RX12) (T := TX12) (N := 123) hx hb hts ii_X12 hown hK hP 0 rfl rfl 25 (by decide) (hts (.fieldLink RX12 314 "StoryHouseModel" "at" "I") wq_1381) (fun _ h9 => h9) rfl dX12_step_19 ?_
    obtain ⟨x_8, ex_8, hF_9⟩ := bnd_e hF_7
    clear hF_7
    refine m_top ex_8 ?_
    obtain ⟨g_10, hF_11⟩ := nif_e hF_9
    clear hF_9
    refine va_iald (f := u_1.2.2 8) hx hb hK hP 4 2 rfl rfl g_10 dX12_step_22 ?_
    obtain ⟨x_12, ex_12, hF_13⟩ := bnd_e hF_11
    clear hF_11
    refine m_top ex_12 ?_
    refine lv_istore_n (lv' := [(1, .int x_12), (0, .ref h)]) hx hb dX12_step_23 rfl hl (by decide) rfl (fun ls hl => ?_)
    refine lv_aload_n hx hb dX12_step_24 rfl (lv_at hl 1 rfl) ?_
    obtain ⟨u_14, hu_14, hF_15⟩ := Option.bind_eq_some_iff.mp hF_13
    clear hF_13
    refine m_cv hsz hS (va_runV (As := []) (rest := []) ⟨hx, hb, hml, hown, hts⟩ (m_X12_opens l dC dI cB cC cI cJ cZ cP h qK qS ad hDD H.size  u_1.2 _ hu_14) (cwV 0 hts (g_gV wq_1561 wq_1562 wq_2133 wq_13 wq_1563) rfl rfl rfl (by decide +kernel) ⟨by show 2 + 1 ≤ 5 + (d + 1); omega, by show 8 + (1 + 11) + 62 ≤ 124 + 23 * (d + 1); omega⟩) (m_preV g_bl0 hsz hK hP hS hE hKS g_to0) rfl rfl hl.1 rfl (lv_room (Nat.le_of_ble_eq_true rfl)) dX12_step_25 ⟨Nat.le_of_ble_eq_true rfl, Nat.le_of_ble_eq_true rfl⟩) (fun H locs hP hS => ?_)
    refine lv_aload_n hx hb dX12_step_28 rfl (lv_at hl 1 rfl) ?_
    refine lv_dup hx hb dX12_step_29 rfl ?_
    refine va_get (D := (dC, dI)) (ci := 12) (v := .int (u_14.2.1 25)) (C := RX12) (T := TX12) (N := 123) hx hb hts ii_X12 hown hK hP 0 rfl rfl 25 (by decide) (hts (.fieldLink RX12 314 "StoryHouseModel" "at" "I") wq_1381) (fun _ h9 => h9) rfl dX12_step_30 ?_
    refine lv_iconst (v := 1) hx hb dX12_step_33 (by decide +kernel) ?_
    refine lv_iadd hx hb dX12_step_34 ?_
    obtain ⟨σ_16, eσ_16, hF_17⟩ := bnd_e hF_15
    clear hF_15
    refine m_put (σ' := σ_16) (v := .int ((u_14.2.1 25) + 1)) (ty := .int) hx hb hts hown hK hP (hDD _ _) hS (by rw [eσ_16]; exact mwI_25) (k := 25) (by decide) (hts (.fieldLink RX12 314 "StoryHouseModel" "at" "I") wq_1381) (fun _ h9 => h9) rfl (by decide +kernel) rfl rfl dX12_step_35 (fun H locs hP hS => ?_)
    refine lv_aload_n hx hb dX12_step_38 rfl (lv_at hl 1 rfl) ?_
    refine lv_bipush (v := 53) hx hb dX12_step_39 (by decide +kernel) ?_
    refine lv_iload_n hx hb dX12_step_41 rfl (lv_at hl 0 rfl) ?_
    refine lv_aload_n hx hb dX12_step_42 rfl (lv_at hl 1 rfl) ?_
    obtain ⟨u_18, hu_18, hF_19⟩ := Option.bind_eq_some_iff.mp hF_17
    clear hF_17
    refine m_ci hsz hS (va_runV (As := []) (rest := [.int x_12, .int 53, .ref h]) ⟨hx, hb, hml, hown, hts⟩ (hI2 H.size σ_16 _ hu_18) (cwV 0 hts (g_gV wq_1612 wq_1613 wq_2150 wq_13 wq_1614) rfl rfl rfl (by decide +kernel) ⟨by show 5 + d + 1 ≤ 5 + (d + 1); omega, by show 8 + (3 + 11) + (124 + 23 * d) ≤ 124 + 23 * (d + 1); omega⟩) (m_preV g_bl0 hsz hK hP hS hE hKS g_to0) rfl rfl hl.1 rfl (lv_room (Nat.le_of_ble_eq_true rfl)) dX12_step_43 ⟨Nat.le_of_ble_eq_true rfl, Nat.le_of_ble_eq_true rfl⟩) (fun H locs hP hS => ?_)
    refine lv_iconst (v := (-1)) hx hb dX12_step_46 (by decide +kernel) ?_
    refine lv_iconst (v := 0) hx hb dX12_step_47 (by decide +kernel) ?_
    obtain ⟨u_20, hu_20, hF_21⟩ := Option.bind_eq_some_iff.mp hF_19
    clear hF_19
    refine m_ci hsz hS (va_runV (As := [.int 53, .int x_12, .int u_18.1, .int (-1), .int 0]) (rest := []) ⟨hx, hb, hml, hown, hts⟩ (m_X12_two l dC dI cB cC cI cJ cZ cP h qK qS ad hDD H.size  53 x_12 u_18.1 (-1) 0 u_18.2 _ hu_20) (cwV 5 hts (g_gV wq_1627 wq_1628 wq_2155 wq_13 wq_1629) rfl rfl rfl (by decide +kernel) ⟨by show 2 + 1 ≤ 5 + (d + 1); omega, by show 8 + (7 + 11) + 62 ≤ 124 + 23 * (d + 1); omega⟩) (m_preV g_bl0 hsz hK hP hS hE hKS g_to0) rfl rfl hl.1 rfl (lv_room (Nat.le_of_ble_eq_true rfl)) dX12_step_48 ⟨Nat.le_of_ble_eq_true rfl, Nat.le_of_ble_eq_true rfl⟩) (fun H locs hP hS => ?_)
    refine lv_istore_n (lv' := [(2, .int u_20.1), (1, .int x_12), (0, .ref h)]) hx hb dX12_step_51 rfl hl (by decide) rfl (fun ls hl => ?_)
    refine lv_aload_n hx hb dX12_step_52 rfl (lv_at hl 2 rfl) ?_
    refine lv_dup hx hb dX12_step_53 rfl ?_
    refine va_get (D := (dC, dI)) (ci := 12) (v := .int (u_20.2.1 26)) (C := RX12) (T := TX12) (N := 123) hx hb hts ii_X12 hown hK hP 0 rfl rfl 26 (by decide) (hts (.fieldLink RX12 336 "StoryHouseModel" "depth" "I") wq_1382) (fun _ h9 => h9) rfl dX12_step_54 ?_
    refine lv_iconst (v := 1) hx hb dX12_step_57 (by decide +kernel) ?_
    refine lv_isub hx hb dX12_step_58 ?_
    obtain ⟨σ_22, eσ_22, hF_23⟩ := bnd_e hF_21
    clear hF_21
    refine m_put (σ' := σ_22) (v := .int ((u_20.2.1 26) - 1)) (ty := .int) hx hb hts hown hK hP (hDD _ _) hS (by rw [eσ_22]; exact mwI_26) (k := 26) (by decide) (hts (.fieldLink RX12 336 "StoryHouseModel" "depth" "I") wq_1382) (fun _ h9 => h9) rfl (by decide +kernel) rfl rfl dX12_step_59 (fun H locs hP hS => ?_)
    refine lv_iload_n hx hb dX12_step_62 rfl (lv_at hl 0 rfl) ?_
    have h9 := Option.some.inj hF_23
    subst h9
    exact W.iret (v := u_20.1) hx hb hr (fun t ht hW => ⟨⟨u_20.1, (), rfl, rfl, m_end ht hP⟩, hS.F ht⟩) hS.2.2 dX12_step_63
  · have hF_4 := ipos c_3 hF_2
    clear hF_2
    refine lv_aload_n hx hb dX12_step_9 rfl (lv_at hl 0 rfl) ?_
    obtain ⟨u_5, hu_5, hF_6⟩ := Option.bind_eq_some_iff.mp hF_4
    clear hF_4
    refine m_ci hsz hS (va_runV (As := []) (rest := []) ⟨hx, hb, hml, hown, hts⟩ (hI3 H.size u_1.2 _ hu_5) (cwV 0 hts (g_gV wq_1615 wq_1616 wq_2151 wq_13 wq_1617) rfl rfl rfl (by decide +kernel) ⟨by show 5 + d + 1 ≤ 5 + (d + 1); omega, by show 8 + (4 + 11) + (124 + 23 * d) ≤ 124 + 23 * (d + 1); omega⟩) (m_preV g_bl0 hsz hK hP hS hE hKS g_to0) rfl rfl hl.1 rfl (lv_room (Nat.le_of_ble_eq_true rfl)) dX12_step_10 ⟨Nat.le_of_ble_eq_true rfl, Nat.le_of_ble_eq_true rfl⟩) (fun H locs hP hS => ?_)
    have h9 := Option.some.inj hF_6
    subst h9
    exact W.iret (v := u_5.1) hx hb hr (fun t ht hW => ⟨⟨u_5.1, (), rfl, rfl, m_end ht hP⟩, hS.F ht⟩) hS.2.2 dX12_step_13

def F_X12_comparison (rec : GF)  (σ : MS) : MR :=
  (rec 4 0 0 0 σ).bind fun u_1 =>
  if (u_1.2.1 27) = 0 then (
    bnd ((u_1.2.1 25)) fun (x_5 : Int32) =>
    if x_5 < 0 ∨ 16010 ≤ x_5.toNatClampNeg then none else
    bnd ((u_1.2.2 8 x_5.toNatClampNeg)) fun (x_9 : Int32) =>
    bnd ((u_1.2.1 25)) fun (x_11 : Int32) =>
    if x_11 < 0 ∨ 16010 ≤ x_11.toNatClampNeg then none else
    bnd (fun  (σ_15 : MS) => (
      (F_X12_tookKey 18 σ_15).bind fun u_19 =>
      if u_19.1 = 0 then (
        (F_X12_tookKey 14 u_19.2).bind fun u_23 =>
        if u_23.1 = 0 then (
          some (u_1.1, u_23.2)
        ) else (
          (F_X12_attribute u_23.2).bind fun u_28 =>
          (F_X12_two 58 x_9 u_1.1 (-1) u_28.1 u_28.2).bind fun u_30 =>
          some (u_30.1, u_30.2)
        )
      ) else (
        (rec 4 0 0 0 u_19.2).bind fun u_33 =>
        (F_X12_two 57 x_9 u_1.1 u_33.1 0 u_33.2).bind fun u_35 =>
        some (u_35.1, u_35.2)
      )
    ) : MS → MR) fun j_16 =>
    if (u_1.2.2 7 x_11.toNatClampNeg) = 5 then (
      bnd ((u_1.2.1 25)) fun (x_39 : Int32) =>
      if x_39 < 0 ∨ 16010 ≤ x_39.toNatClampNeg then none else
      bnd (fun  (σ_43 : MS) => (
        bnd (mI σ_43 25 ((σ_43.1 25) + 1)) fun σ_47 =>
        bnd ((σ_43.1 25)) fun (x_49 : Int32) =>
        if x_49 < 0 ∨ 16010 ≤ x_49.toNatClampNeg then none else
        bnd ((σ_47.2 9 x_49.toNatClampNeg)) fun (x_53 : Int32) =>
        (rec 4 0 0 0 σ_47).bind fun u_55 =>
        (F_X12_two 56 x_9 u_1.1 u_55.1 x_53 u_55.2).bind fun u_57 =>
        some (u_57.1, u_57.2)
      ) : MS → MR) fun j_44 =>
      if (u_1.2.2 9 x_39.toNatClampNeg) = 317 then (
        j_44  u_1.2
      ) else (
        bnd ((u_1.2.1 25)) fun (x_62 : Int32) =>
        if x_62 < 0 ∨ 16010 ≤ x_62.toNatClampNeg then none else
        if (u_1.2.2 9 x_62.toNatClampNeg) = 289 then (
          j_44  u_1.2
        ) else (
          bnd ((u_1.2.1 25)) fun (x_69 : Int32) =>
          if x_69 < 0 ∨ 16010 ≤ x_69.toNatClampNeg then none else
          if (u_1.2.2 9 x_69.toNatClampNeg) = 316 then (
            j_44  u_1.2
          ) else (
            bnd ((u_1.2.1 25)) fun (x_76 : Int32) =>
            if x_76 < 0 ∨ 16010 ≤ x_76.toNatClampNeg then none else
            if (u_1.2.2 9 x_76.toNatClampNeg) = 318 then (
              j_44  u_1.2
            ) else (
              bnd ((u_1.2.1 25)) fun (x_83 : Int32) =>
              if x_83 < 0 ∨ 16010 ≤ x_83.toNatClampNeg then none else
              if (u_1.2.2 9 x_83.toNatClampNeg) = 60 then (
                j_44  u_1.2
              ) else (
                bnd ((u_1.2.1 25)) fun (x_90 : Int32) =>
                if x_90 < 0 ∨ 16010 ≤ x_90.toNatClampNeg then none else
                if (u_1.2.2 9 x_90.toNatClampNeg) = 62 then (
                  j_44  u_1.2
                ) else (
                  j_16  u_1.2
                )
              )
            )
          )
        )
      )
    ) else (
      j_16  u_1.2
    )
  ) else (
    some (u_1.1, u_1.2)
  )
set_option maxHeartbeats 4000000 in
set_option maxRecDepth 100000 in
theorem m_X12_comparison_st (l : Launch) (dC : Nat → ClassId) (dI : Nat → Nat → Nat) (cB cC cI cJ cZ cP : ClassId) (h qK qS : Nat) (ad : Nat → Nat) (hDD : mDis cB cI cZ h qK qS ad) (d : Nat) (rec : GF) (hI0 : ∀ (sz : Nat)  (σ : MS) (res : Int32 × MS), rec 0 0 0 0 σ = some res → Met l yX12_expression (g_ws yX12_expression cX12_expression 3 (some .int)) ({ frames := 5 + d, cells := 0, slots := 0, locals := 124 + 23 * d }) (va_Pc [.ref h] (m_B (dC, dI) [(cB, .byte), (cC, .char), (cI, .int), (cJ, .long), (cZ, .boolean), (cP, .object "StoryHouse$Play")] sz h ad qK qS (mW cB cI cZ h qK qS ad σ) g_0)) (va_Qi (fun r (_ : Unit) => r = res.1) (fun _ t => va_P (dC, dI) vwCl (mW cB cI cZ h qK qS ad res.2) t.heap) (mCells h ad sz)) 0 0 (mCells h ad sz)) (hI1 : ∀ (sz : Nat)  (σ : MS) (res : Int32 × MS), rec 1 0 0 0 σ = some res → Met l yX12_both (g_ws yX12_both cX12_both 3 (some .int)) ({ frames := 5 + d, cells := 0, slots := 0, locals := 124 + 23 * d }) (va_Pc [.ref h] (m_B (dC, dI) [(cB, .byte), (cC, .char), (cI, .int), (cJ, .long), (cZ, .boolean), (cP, .object "StoryHouse$Play")] sz h ad qK qS (mW cB cI cZ h qK qS ad σ) g_0)) (va_Qi (fun r (_ : Unit) => r = res.1) (fun _ t => va_P (dC, dI) vwCl (mW cB cI cZ h qK qS ad res.2) t.heap) (mCells h ad sz)) 0 0 (mCells h ad sz)) (hI2 : ∀ (sz : Nat)  (σ : MS) (res : Int32 × MS), rec 2 0 0 0 σ = some res → Met l yX12_step (g_ws yX12_step cX12_step 3 (some .int)) ({ frames := 5 + d, cells := 0, slots := 0, locals := 124 + 23 * d }) (va_Pc [.ref h] (m_B (dC, dI) [(cB, .byte), (cC, .char), (cI, .int), (cJ, .long), (cZ, .boolean), (cP, .object "StoryHouse$Play")] sz h ad qK qS (mW cB cI cZ h qK qS ad σ) g_0)) (va_Qi (fun r (_ : Unit) => r = res.1) (fun _ t => va_P (dC, dI) vwCl (mW cB cI cZ h qK qS ad res.2) t.heap) (mCells h ad sz)) 0 0 (mCells h ad sz)) (hI3 : ∀ (sz : Nat)  (σ : MS) (res : Int32 × MS), rec 3 0 0 0 σ = some res → Met l yX12_comparison (g_ws yX12_comparison cX12_comparison 4 (some .int)) ({ frames := 5 + d, cells := 0, slots := 0, locals := 124 + 23 * d }) (va_Pc [.ref h] (m_B (dC, dI) [(cB, .byte), (cC, .char), (cI, .int), (cJ, .long), (cZ, .boolean), (cP, .object "StoryHouse$Play")] sz h ad qK qS (mW cB cI cZ h qK qS ad σ) g_0)) (va_Qi (fun r (_ : Unit) => r = res.1) (fun _ t => va_P (dC, dI) vwCl (mW cB cI cZ h qK qS ad res.2) t.heap) (mCells h ad sz)) 0 0 (mCells h ad sz)) (hI4 : ∀ (sz : Nat)  (σ : MS) (res : Int32 × MS), rec 4 0 0 0 σ = some res → Met l yX12_sum (g_ws yX12_sum cX12_sum 4 (some .int)) ({ frames := 5 + d, cells := 0, slots := 0, locals := 124 + 23 * d }) (va_Pc [.ref h] (m_B (dC, dI) [(cB, .byte), (cC, .char), (cI, .int), (cJ, .long), (cZ, .boolean), (cP, .object "StoryHouse$Play")] sz h ad qK qS (mW cB cI cZ h qK qS ad σ) g_0)) (va_Qi (fun r (_ : Unit) => r = res.1) (fun _ t => va_P (dC, dI) vwCl (mW cB cI cZ h qK qS ad res.2) t.heap) (mCells h ad sz)) 0 0 (mCells h ad sz)) (hI5 : ∀ (sz : Nat)  (σ : MS) (res : Int32 × MS), rec 5 0 0 0 σ = some res → Met l yX12_term (g_ws yX12_term cX12_term 4 (some .int)) ({ frames := 5 + d, cells := 0, slots := 0, locals := 124 + 23 * d }) (va_Pc [.ref h] (m_B (dC, dI) [(cB, .byte), (cC, .char), (cI, .int), (cJ, .long), (cZ, .boolean), (cP, .object "StoryHouse$Play")] sz h ad qK qS (mW cB cI cZ h qK qS ad σ) g_0)) (va_Qi (fun r (_ : Unit) => r = res.1) (fun _ t => va_P (dC, dI) vwCl (mW cB cI cZ h qK qS ad res.2) t.heap) (mCells h ad sz)) 0 0 (mCells h ad sz)) (hI6 : ∀ (sz : Nat)  (σ : MS) (res : Int32 × MS), rec 6 0 0 0 σ = some res → Met l yX12_factor (g_ws yX12_factor cX12_factor 3 (some .int)) ({ frames := 5 + d, cells := 0, slots := 0, locals := 124 + 23 * d }) (va_Pc [.ref h] (m_B (dC, dI) [(cB, .byte), (cC, .char), (cI, .int), (cJ, .long), (cZ, .boolean), (cP, .object "StoryHouse$Play")] sz h ad qK qS (mW cB cI cZ h qK qS ad σ) g_0)) (va_Qi (fun r (_ : Unit) => r = res.1) (fun _ t => va_P (dC, dI) vwCl (mW cB cI cZ h qK qS ad res.2) t.heap) (mCells h ad sz)) 0 0 (mCells h ad sz)) (hI7 : ∀ (sz : Nat)  (σ : MS) (res : Int32 × MS), rec 7 0 0 0 σ = some res → Met l yX12_primary (g_ws yX12_primary cX12_primary 4 (some .int)) ({ frames := 5 + d, cells := 0, slots := 0, locals := 124 + 23 * d }) (va_Pc [.ref h] (m_B (dC, dI) [(cB, .byte), (cC, .char), (cI, .int), (cJ, .long), (cZ, .boolean), (cP, .object "StoryHouse$Play")] sz h ad qK qS (mW cB cI cZ h qK qS ad σ) g_0)) (va_Qi (fun r (_ : Unit) => r = res.1) (fun _ t => va_P (dC, dI) vwCl (mW cB cI cZ h qK qS ad res.2) t.heap) (mCells h ad sz)) 0 0 (mCells h ad sz)) (hI8 : ∀ (sz : Nat)  (σ : MS) (res : Int32 × MS), rec 8 0 0 0 σ = some res → Met l yX12_arguments (g_ws yX12_arguments cX12_arguments 4 (some .int)) ({ frames := 5 + d, cells := 0, slots := 0, locals := 124 + 23 * d }) (va_Pc [.ref h] (m_B (dC, dI) [(cB, .byte), (cC, .char), (cI, .int), (cJ, .long), (cZ, .boolean), (cP, .object "StoryHouse$Play")] sz h ad qK qS (mW cB cI cZ h qK qS ad σ) g_0)) (va_Qi (fun r (_ : Unit) => r = res.1) (fun _ t => va_P (dC, dI) vwCl (mW cB cI cZ h qK qS ad res.2) t.heap) (mCells h ad sz)) 0 0 (mCells h ad sz)) (sz : Nat)   (σ : MS) (res : Int32 × MS) (hF : F_X12_comparison rec  σ = some res) : Met l yX12_comparison (g_ws yX12_comparison cX12_comparison 4 (some .int)) ({ frames := 5 + (d + 1), cells := 0, slots := 0, locals := 124 + 23 * (d + 1) }) (va_Pc [.ref h] (m_B (dC, dI) [(cB, .byte), (cC, .char), (cI, .int), (cJ, .long), (cZ, .boolean), (cP, .object "StoryHouse$Play")] sz h ad qK qS (mW cB cI cZ h qK qS ad σ) g_0)) (va_Qi (fun r (_ : Unit) => r = res.1) (fun _ t => va_P (dC, dI) vwCl (mW cB cI cZ h qK qS ad res.2) t.heap) (mCells h ad sz)) 0 0 (mCells h ad sz) := by
  refine Met.ofW (cc := cX12_comparison) (maxL := 4) (ret := (some .int)) (by decide) rfl ?_
  intro p e s m args below meth c s₁ B hml hv
  obtain ⟨rfl, hsz, hP, hK, hE, hKS, hX⟩ := hv
  have hx := B.exec
  have hb := B.bytes
  have hr := B.returns
  have hts0 := atoms_spec (ws := g_ws yX12_comparison cX12_comparison 4 (some .int)) B.pre
  have hts : ∀ w ∈ lw_good, w.before ([.ref h] : List Value).toArray s = true := fun w z => hts0 w (List.mem_cons_of_mem _ z)
  have hown : s.vm.findClass RX12 = some m.cls := findClass_of_methodNamed B.named
  have hlocks := B.notSynchronized
  have hS : va_S (mCells h ad sz) s.heap s.heap [] := va_S.rf
  have hl := lv_entry ([.ref h]) (n := 4) (Nat.le_of_ble_eq_true rfl)
  rw [lg_entry_eq]
  generalize (lg_sl ([.ref h]) ++ List.replicate (4 - (lg_sl ([.ref h])).length) Slot.unset).toArray = ls at hl ⊢
  have hl : lv_has ls 4 [(0, .ref h)] := hl
  unfold F_X12_comparison at hF
  refine lv_aload_n hx hb dX12_comparison_0 rfl (lv_at hl 0 rfl) ?_
  obtain ⟨u_1, hu_1, hF_2⟩ := Option.bind_eq_some_iff.mp hF
  clear hF
  refine m_ci hsz hS (va_runV (As := []) (rest := []) ⟨hx, hb, hml, hown, hts⟩ (hI4 s.heap.size σ _ hu_1) (cwV 0 hts (g_gV wq_1618 wq_1619 wq_2152 wq_13 wq_1620) rfl rfl rfl (by decide +kernel) ⟨by show 5 + d + 1 ≤ 5 + (d + 1); omega, by show 8 + (4 + 11) + (124 + 23 * d) ≤ 124 + 23 * (d + 1); omega⟩) (m_preV g_bl0 hsz hK hP hS hE hKS g_to0) rfl rfl hl.1 rfl (lv_room (Nat.le_of_ble_eq_true rfl)) dX12_comparison_1 ⟨Nat.le_of_ble_eq_true rfl, Nat.le_of_ble_eq_true rfl⟩) (fun H locs hP hS => ?_)
  refine lv_istore_n (lv' := [(1, .int u_1.1), (0, .ref h)]) hx hb dX12_comparison_4 rfl hl (by decide) rfl (fun ls hl => ?_)
  refine lv_aload_n hx hb dX12_comparison_5 rfl (lv_at hl 1 rfl) ?_
  refine va_get (D := (dC, dI)) (ci := 12) (v := .int (u_1.2.1 27)) (C := RX12) (T := TX12) (N := 123) hx hb hts ii_X12 hown hK hP 0 rfl rfl 27 (by decide) (hts (.fieldLink RX12 304 "StoryHouseModel" "stopped" "Z") wq_1383) (fun _ h9 => h9) rfl dX12_comparison_6 ?_
  refine lv_if_eq (tgt := 14) hx hb dX12_comparison_9 (by decide) (fun c_3 => ?_) (fun c_3 => ?_)
  · have hF_4 := ipos c_3 hF_2
    clear hF_2
    refine lv_aload_n hx hb dX12_comparison_14 rfl (lv_at hl 1 rfl) ?_
    refine va_get (D := (dC, dI)) (ci := 12) (v := .ref (ad 8)) (C := RX12) (T := TX12) (N := 123) hx hb hts ii_X12 hown hK hP 0 rfl rfl 8 (by decide) (hts (.fieldLink RX12 31 "StoryHouseModel" "tokAt" "[I") wq_1364) (fun _ h9 => h9) rfl dX12_comparison_15 ?_
    refine lv_aload_n hx hb dX12_comparison_18 rfl (lv_at hl 1 rfl) ?_
    refine va_get (D := (dC, dI)) (ci := 12) (v := .int (u_1.2.1 25)) (C := RX12) (T := TX12) (N := 123) hx hb hts ii_X12 hown hK hP 0 rfl rfl 25 (by decide) (hts (.fieldLink RX12 314 "StoryHouseModel" "at" "I") wq_1381) (fun _ h9 => h9) rfl dX12_comparison_19 ?_
    obtain ⟨x_5, ex_5, hF_6⟩ := bnd_e hF_4
    clear hF_4
    refine m_top ex_5 ?_
    obtain ⟨g_7, hF_8⟩ := nif_e hF_6
    clear hF_6
    refine va_iald (f := u_1.2.2 8) hx hb hK hP 4 2 rfl rfl g_7 dX12_comparison_22 ?_
    obtain ⟨x_9, ex_9, hF_10⟩ := bnd_e hF_8
    clear hF_8
    refine m_top ex_9 ?_
    refine lv_istore_n (lv' := [(2, .int x_9), (1, .int u_1.1), (0, .ref h)]) hx hb dX12_comparison_23 rfl hl (by decide) rfl (fun ls hl => ?_)
    refine lv_aload_n hx hb dX12_comparison_24 rfl (lv_at hl 2 rfl) ?_
    refine va_get (D := (dC, dI)) (ci := 12) (v := .ref (ad 7)) (C := RX12) (T := TX12) (N := 123) hx hb hts ii_X12 hown hK hP 0 rfl rfl 7 (by decide) (hts (.fieldLink RX12 27 "StoryHouseModel" "tokKind" "[I") wq_1363) (fun _ h9 => h9) rfl dX12_comparison_25 ?_
    refine lv_aload_n hx hb dX12_comparison_28 rfl (lv_at hl 2 rfl) ?_
    refine va_get (D := (dC, dI)) (ci := 12) (v := .int (u_1.2.1 25)) (C := RX12) (T := TX12) (N := 123) hx hb hts ii_X12 hown hK hP 0 rfl rfl 25 (by decide) (hts (.fieldLink RX12 314 "StoryHouseModel" "at" "I") wq_1381) (fun _ h9 => h9) rfl dX12_comparison_29 ?_
    obtain ⟨x_11, ex_11, hF_12⟩ := bnd_e hF_10
    clear hF_10
    refine m_top ex_11 ?_
    obtain ⟨g_13, hF_14⟩ := nif_e hF_12
    clear hF_12
    refine va_iald (f := u_1.2.2 7) hx hb hK hP 3 2 rfl rfl g_13 dX12_comparison_32 ?_
    refine lv_iconst (v := 5) hx hb dX12_comparison_33 (by decide +kernel) ?_
    obtain ⟨j_16, ej_16, hF_17⟩ := bnd_e hF_14
    clear hF_14
    have Jj_16 : ∀  (σ_15 : MS), j_16  σ_15 = some res → ∀ (H : Heap) (locs : List Loc), va_P (dC, dI) vwCl (mW cB cI cZ h qK qS ad σ_15) H → va_S (mCells h ad sz) s.heap H locs → ∀ ls : Array Slot, lv_has ls 4 [(0, .ref h), (1, .int u_1.1), (2, .int x_9)] → W p l e (headSpec (g_ws yX12_comparison cX12_comparison 4 (some .int)) { frames := 5 + (d + 1), cells := 0, slots := 0, locals := 124 + 23 * (d + 1) }).room s m ([.ref h] : List Value).toArray below meth c H locs 0 0 (MQ below (va_Qi (fun r (_ : Unit) => r = res.1) (fun _ t => va_P (dC, dI) vwCl (mW cB cI cZ h qK qS ad res.2) t.heap) (mCells h ad sz)) ([.ref h] : List Value).toArray s 0 0 (mCells h ad sz)) (F0 m 156 ls []) := by
      intro  σ_15 hF0 H locs hP hS ls hl
      subst ej_16
      have hF_18 := hF0
      clear hF0
      refine lv_aload_n hx hb dX12_comparison_156 rfl (lv_at hl 0 rfl) ?_
      refine lv_bipush (v := 18) hx hb dX12_comparison_157 (by decide +kernel) ?_
      obtain ⟨u_19, hu_19, hF_20⟩ := Option.bind_eq_some_iff.mp hF_18
      clear hF_18
      refine m_ci hsz hS (va_runV (As := [.int 18]) (rest := []) ⟨hx, hb, hml, hown, hts⟩ (m_X12_tookKey l dC dI cB cC cI cJ cZ cP h qK qS ad hDD H.size  18 σ_15 _ hu_19) (cwV 1 hts (g_gV wq_1573 wq_1574 wq_2137 wq_13 wq_1575) rfl rfl rfl (by decide +kernel) ⟨by show 2 + 1 ≤ 5 + (d + 1); omega, by show 8 + (2 + 11) + 61 ≤ 124 + 23 * (d + 1); omega⟩) (m_preV g_bl0 hsz hK hP hS hE hKS g_to0) rfl rfl hl.1 rfl (lv_room (Nat.le_of_ble_eq_true rfl)) dX12_comparison_159 ⟨Nat.le_of_ble_eq_true rfl, Nat.le_of_ble_eq_true rfl⟩) (fun H locs hP hS => ?_)
      refine lv_if_eq (tgt := 179) hx hb dX12_comparison_162 (by decide) (fun c_21 => ?_) (fun c_21 => ?_)
      · have hF_22 := ipos c_21 hF_20
        clear hF_20
        refine lv_aload_n hx hb dX12_comparison_179 rfl (lv_at hl 0 rfl) ?_
        refine lv_bipush (v := 14) hx hb dX12_comparison_180 (by decide +kernel) ?_
        obtain ⟨u_23, hu_23, hF_24⟩ := Option.bind_eq_some_iff.mp hF_22
        clear hF_22
        refine m_ci hsz hS (va_runV (As := [.int 14]) (rest := []) ⟨hx, hb, hml, hown, hts⟩ (m_X12_tookKey l dC dI cB cC cI cJ cZ cP h qK qS ad hDD H.size  14 u_19.2 _ hu_23) (cwV 1 hts (g_gV wq_1573 wq_1574 wq_2137 wq_13 wq_1575) rfl rfl rfl (by decide +kernel) ⟨by show 2 + 1 ≤ 5 + (d + 1); omega, by show 8 + (2 + 11) + 61 ≤ 124 + 23 * (d + 1); omega⟩) (m_preV g_bl0 hsz hK hP hS hE hKS g_to0) rfl rfl hl.1 rfl (lv_room (Nat.le_of_ble_eq_true rfl)) dX12_comparison_182 ⟨Nat.le_of_ble_eq_true rfl, Nat.le_of_ble_eq_true rfl⟩) (fun H locs hP hS => ?_)
        refine lv_if_eq (tgt := 202) hx hb dX12_comparison_185 (by decide) (fun c_25 => ?_) (fun c_25 => ?_)
        · have hF_26 := ipos c_25 hF_24
          clear hF_24
          refine lv_iload_n hx hb dX12_comparison_202 rfl (lv_at hl 1 rfl) ?_
          have h9 := Option.some.inj hF_26
          subst h9
          exact W.iret (v := u_1.1) hx hb hr (fun t ht hW => ⟨⟨u_1.1, (), rfl, rfl, m_end ht hP⟩, hS.F ht⟩) hS.2.2 dX12_comparison_203
        · have hF_27 := ineg c_25 hF_24
          clear hF_24
          refine lv_aload_n hx hb dX12_comparison_188 rfl (lv_at hl 0 rfl) ?_
          refine lv_bipush (v := 58) hx hb dX12_comparison_189 (by decide +kernel) ?_
          refine lv_iload_n hx hb dX12_comparison_191 rfl (lv_at hl 2 rfl) ?_
          refine lv_iload_n hx hb dX12_comparison_192 rfl (lv_at hl 1 rfl) ?_
          refine lv_iconst (v := (-1)) hx hb dX12_comparison_193 (by decide +kernel) ?_
          refine lv_aload_n hx hb dX12_comparison_194 rfl (lv_at hl 0 rfl) ?_
          obtain ⟨u_28, hu_28, hF_29⟩ := Option.bind_eq_some_iff.mp hF_27
          clear hF_27
          refine m_ci hsz hS (va_runV (As := []) (rest := [.int (-1), .int u_1.1, .int x_9, .int 58, .ref h]) ⟨hx, hb, hml, hown, hts⟩ (m_X12_attribute l dC dI cB cC cI cJ cZ cP h qK qS ad hDD H.size  u_23.2 _ hu_28) (cwV 0 hts (g_gV wq_1630 wq_1631 wq_2156 wq_13 wq_1632) rfl rfl rfl (by decide +kernel) ⟨by show 3 + 1 ≤ 5 + (d + 1); omega, by show 8 + (1 + 11) + 82 ≤ 124 + 23 * (d + 1); omega⟩) (m_preV g_bl0 hsz hK hP hS hE hKS g_to0) rfl rfl hl.1 rfl (lv_room (Nat.le_of_ble_eq_true rfl)) dX12_comparison_195 ⟨Nat.le_of_ble_eq_true rfl, Nat.le_of_ble_eq_true rfl⟩) (fun H locs hP hS => ?_)
          obtain ⟨u_30, hu_30, hF_31⟩ := Option.bind_eq_some_iff.mp hF_29
          clear hF_29
          refine m_ci hsz hS (va_runV (As := [.int 58, .int x_9, .int u_1.1, .int (-1), .int u_28.1]) (rest := []) ⟨hx, hb, hml, hown, hts⟩ (m_X12_two l dC dI cB cC cI cJ cZ cP h qK qS ad hDD H.size  58 x_9 u_1.1 (-1) u_28.1 u_28.2 _ hu_30) (cwV 5 hts (g_gV wq_1627 wq_1628 wq_2155 wq_13 wq_1629) rfl rfl rfl (by decide +kernel) ⟨by show 2 + 1 ≤ 5 + (d + 1); omega, by show 8 + (7 + 11) + 62 ≤ 124 + 23 * (d + 1); omega⟩) (m_preV g_bl0 hsz hK hP hS hE hKS g_to0) rfl rfl hl.1 rfl (lv_room (Nat.le_of_ble_eq_true rfl)) dX12_comparison_198 ⟨Nat.le_of_ble_eq_true rfl, Nat.le_of_ble_eq_true rfl⟩) (fun H locs hP hS => ?_)
          have h9 := Option.some.inj hF_31
          subst h9
          exact W.iret (v := u_30.1) hx hb hr (fun t ht hW => ⟨⟨u_30.1, (), rfl, rfl, m_end ht hP⟩, hS.F ht⟩) hS.2.2 dX12_comparison_201
      · have hF_32 := ineg c_21 hF_20
        clear hF_20
        refine lv_aload_n hx hb dX12_comparison_165 rfl (lv_at hl 0 rfl) ?_
        refine lv_bipush (v := 57) hx hb dX12_comparison_166 (by decide +kernel) ?_
        refine lv_iload_n hx hb dX12_comparison_168 rfl (lv_at hl 2 rfl) ?_
        refine lv_iload_n hx hb dX12_comparison_169 rfl (lv_at hl 1 rfl) ?_
        refine lv_aload_n hx hb dX12_comparison_170 rfl (lv_at hl 0 rfl) ?_
        obtain ⟨u_33, hu_33, hF_34⟩ := Option.bind_eq_some_iff.mp hF_32
        clear hF_32
        refine m_ci hsz hS (va_runV (As := []) (rest := [.int u_1.1, .int x_9, .int 57, .ref h]) ⟨hx, hb, hml, hown, hts⟩ (hI4 H.size u_19.2 _ hu_33) (cwV 0 hts (g_gV wq_1618 wq_1619 wq_2152 wq_13 wq_1620) rfl rfl rfl (by decide +kernel) ⟨by show 5 + d + 1 ≤ 5 + (d + 1); omega, by show 8 + (4 + 11) + (124 + 23 * d) ≤ 124 + 23 * (d + 1); omega⟩) (m_preV g_bl0 hsz hK hP hS hE hKS g_to0) rfl rfl hl.1 rfl (lv_room (Nat.le_of_ble_eq_true rfl)) dX12_comparison_171 ⟨Nat.le_of_ble_eq_true rfl, Nat.le_of_ble_eq_true rfl⟩) (fun H locs hP hS => ?_)
        refine lv_iconst (v := 0) hx hb dX12_comparison_174 (by decide +kernel) ?_
        obtain ⟨u_35, hu_35, hF_36⟩ := Option.bind_eq_some_iff.mp hF_34
        clear hF_34
        refine m_ci hsz hS (va_runV (As := [.int 57, .int x_9, .int u_1.1, .int u_33.1, .int 0]) (rest := []) ⟨hx, hb, hml, hown, hts⟩ (m_X12_two l dC dI cB cC cI cJ cZ cP h qK qS ad hDD H.size  57 x_9 u_1.1 u_33.1 0 u_33.2 _ hu_35) (cwV 5 hts (g_gV wq_1627 wq_1628 wq_2155 wq_13 wq_1629) rfl rfl rfl (by decide +kernel) ⟨by show 2 + 1 ≤ 5 + (d + 1); omega, by show 8 + (7 + 11) + 62 ≤ 124 + 23 * (d + 1); omega⟩) (m_preV g_bl0 hsz hK hP hS hE hKS g_to0) rfl rfl hl.1 rfl (lv_room (Nat.le_of_ble_eq_true rfl)) dX12_comparison_175 ⟨Nat.le_of_ble_eq_true rfl, Nat.le_of_ble_eq_true rfl⟩) (fun H locs hP hS => ?_)
        have h9 := Option.some.inj hF_36
        subst h9
        exact W.iret (v := u_35.1) hx hb hr (fun t ht hW => ⟨⟨u_35.1, (), rfl, rfl, m_end ht hP⟩, hS.F ht⟩) hS.2.2 dX12_comparison_178
    refine lv_icmp_ne (tgt := 156) hx hb dX12_comparison_34 (by decide) (fun c_37 => ?_) (fun c_37 => ?_)
    · have hF_97 := ineg c_37 hF_17
      clear hF_17
      exact Jj_16  u_1.2 hF_97 _ _ hP hS ls (lv_sub hl [2, 1, 0] rfl)
    · have hF_38 := ipos c_37 hF_17
      clear hF_17
      refine lv_aload_n hx hb dX12_comparison_37 rfl (lv_at hl 2 rfl) ?_
      refine va_get (D := (dC, dI)) (ci := 12) (v := .ref (ad 9)) (C := RX12) (T := TX12) (N := 123) hx hb hts ii_X12 hown hK hP 0 rfl rfl 9 (by decide) (hts (.fieldLink RX12 34 "StoryHouseModel" "tokValue" "[I") wq_1365) (fun _ h9 => h9) rfl dX12_comparison_38 ?_
      refine lv_aload_n hx hb dX12_comparison_41 rfl (lv_at hl 2 rfl) ?_
      refine va_get (D := (dC, dI)) (ci := 12) (v := .int (u_1.2.1 25)) (C := RX12) (T := TX12) (N := 123) hx hb hts ii_X12 hown hK hP 0 rfl rfl 25 (by decide) (hts (.fieldLink RX12 314 "StoryHouseModel" "at" "I") wq_1381) (fun _ h9 => h9) rfl dX12_comparison_42 ?_
      obtain ⟨x_39, ex_39, hF_40⟩ := bnd_e hF_38
      clear hF_38
      refine m_top ex_39 ?_
      obtain ⟨g_41, hF_42⟩ := nif_e hF_40
      clear hF_40
      refine va_iald (f := u_1.2.2 9) hx hb hK hP 5 2 rfl rfl g_41 dX12_comparison_45 ?_
      refine lv_sipush (v := 317) hx hb dX12_comparison_46 (by decide +kernel) ?_
      obtain ⟨j_44, ej_44, hF_45⟩ := bnd_e hF_42
      clear hF_42
      have Jj_44 : ∀  (σ_43 : MS), j_44  σ_43 = some res → ∀ (H : Heap) (locs : List Loc), va_P (dC, dI) vwCl (mW cB cI cZ h qK qS ad σ_43) H → va_S (mCells h ad sz) s.heap H locs → ∀ ls : Array Slot, lv_has ls 4 [(0, .ref h), (1, .int u_1.1), (2, .int x_9)] → W p l e (headSpec (g_ws yX12_comparison cX12_comparison 4 (some .int)) { frames := 5 + (d + 1), cells := 0, slots := 0, locals := 124 + 23 * (d + 1) }).room s m ([.ref h] : List Value).toArray below meth c H locs 0 0 (MQ below (va_Qi (fun r (_ : Unit) => r = res.1) (fun _ t => va_P (dC, dI) vwCl (mW cB cI cZ h qK qS ad res.2) t.heap) (mCells h ad sz)) ([.ref h] : List Value).toArray s 0 0 (mCells h ad sz)) (F0 m 125 ls []) := by
        intro  σ_43 hF0 H locs hP hS ls hl
        subst ej_44
        have hF_46 := hF0
        clear hF0
        refine lv_aload_n hx hb dX12_comparison_125 rfl (lv_at hl 0 rfl) ?_
        refine va_get (D := (dC, dI)) (ci := 12) (v := .ref (ad 9)) (C := RX12) (T := TX12) (N := 123) hx hb hts ii_X12 hown hK hP 0 rfl rfl 9 (by decide) (hts (.fieldLink RX12 34 "StoryHouseModel" "tokValue" "[I") wq_1365) (fun _ h9 => h9) rfl dX12_comparison_126 ?_
        refine lv_aload_n hx hb dX12_comparison_129 rfl (lv_at hl 0 rfl) ?_
        refine lv_dup hx hb dX12_comparison_130 rfl ?_
        refine va_get (D := (dC, dI)) (ci := 12) (v := .int (σ_43.1 25)) (C := RX12) (T := TX12) (N := 123) hx hb hts ii_X12 hown hK hP 0 rfl rfl 25 (by decide) (hts (.fieldLink RX12 314 "StoryHouseModel" "at" "I") wq_1381) (fun _ h9 => h9) rfl dX12_comparison_131 ?_
        refine lv_dup_x1 hx hb dX12_comparison_134 rfl rfl ?_
        refine lv_iconst (v := 1) hx hb dX12_comparison_135 (by decide +kernel) ?_
        refine lv_iadd hx hb dX12_comparison_136 ?_
        obtain ⟨σ_47, eσ_47, hF_48⟩ := bnd_e hF_46
        clear hF_46
        refine m_put (σ' := σ_47) (v := .int ((σ_43.1 25) + 1)) (ty := .int) hx hb hts hown hK hP (hDD _ _) hS (by rw [eσ_47]; exact mwI_25) (k := 25) (by decide) (hts (.fieldLink RX12 314 "StoryHouseModel" "at" "I") wq_1381) (fun _ h9 => h9) rfl (by decide +kernel) rfl rfl dX12_comparison_137 (fun H locs hP hS => ?_)
        obtain ⟨x_49, ex_49, hF_50⟩ := bnd_e hF_48
        clear hF_48
        refine m_top ex_49 ?_
        obtain ⟨g_51, hF_52⟩ := nif_e hF_50
        clear hF_50
        refine va_iald (f := σ_47.2 9) hx hb hK hP 5 2 rfl rfl g_51 dX12_comparison_140 ?_
        obtain ⟨x_53, ex_53, hF_54⟩ := bnd_e hF_52
        clear hF_52
        refine m_top ex_53 ?_
        refine lv_istore_n (lv' := [(3, .int x_53), (0, .ref h), (1, .int u_1.1), (2, .int x_9)]) hx hb dX12_comparison_141 rfl hl (by decide) rfl (fun ls hl => ?_)
        refine lv_aload_n hx hb dX12_comparison_142 rfl (lv_at hl 1 rfl) ?_
        refine lv_bipush (v := 56) hx hb dX12_comparison_143 (by decide +kernel) ?_
        refine lv_iload_n hx hb dX12_comparison_145 rfl (lv_at hl 3 rfl) ?_
        refine lv_iload_n hx hb dX12_comparison_146 rfl (lv_at hl 2 rfl) ?_
        refine lv_aload_n hx hb dX12_comparison_147 rfl (lv_at hl 1 rfl) ?_
        obtain ⟨u_55, hu_55, hF_56⟩ := Option.bind_eq_some_iff.mp hF_54
        clear hF_54
        refine m_ci hsz hS (va_runV (As := []) (rest := [.int u_1.1, .int x_9, .int 56, .ref h]) ⟨hx, hb, hml, hown, hts⟩ (hI4 H.size σ_47 _ hu_55) (cwV 0 hts (g_gV wq_1618 wq_1619 wq_2152 wq_13 wq_1620) rfl rfl rfl (by decide +kernel) ⟨by show 5 + d + 1 ≤ 5 + (d + 1); omega, by show 8 + (4 + 11) + (124 + 23 * d) ≤ 124 + 23 * (d + 1); omega⟩) (m_preV g_bl0 hsz hK hP hS hE hKS g_to0) rfl rfl hl.1 rfl (lv_room (Nat.le_of_ble_eq_true rfl)) dX12_comparison_148 ⟨Nat.le_of_ble_eq_true rfl, Nat.le_of_ble_eq_true rfl⟩) (fun H locs hP hS => ?_)
        refine lv_iload_n hx hb dX12_comparison_151 rfl (lv_at hl 0 rfl) ?_
        obtain ⟨u_57, hu_57, hF_58⟩ := Option.bind_eq_some_iff.mp hF_56
        clear hF_56
        refine m_ci hsz hS (va_runV (As := [.int 56, .int x_9, .int u_1.1, .int u_55.1, .int x_53]) (rest := []) ⟨hx, hb, hml, hown, hts⟩ (m_X12_two l dC dI cB cC cI cJ cZ cP h qK qS ad hDD H.size  56 x_9 u_1.1 u_55.1 x_53 u_55.2 _ hu_57) (cwV 5 hts (g_gV wq_1627 wq_1628 wq_2155 wq_13 wq_1629) rfl rfl rfl (by decide +kernel) ⟨by show 2 + 1 ≤ 5 + (d + 1); omega, by show 8 + (7 + 11) + 62 ≤ 124 + 23 * (d + 1); omega⟩) (m_preV g_bl0 hsz hK hP hS hE hKS g_to0) rfl rfl hl.1 rfl (lv_room (Nat.le_of_ble_eq_true rfl)) dX12_comparison_152 ⟨Nat.le_of_ble_eq_true rfl, Nat.le_of_ble_eq_true rfl⟩) (fun H locs hP hS => ?_)
        have h9 := Option.some.inj hF_58
        subst h9
        exact W.iret (v := u_57.1) hx hb hr (fun t ht hW => ⟨⟨u_57.1, (), rfl, rfl, m_end ht hP⟩, hS.F ht⟩) hS.2.2 dX12_comparison_155
      refine lv_icmp_eq (tgt := 125) hx hb dX12_comparison_49 (by decide) (fun c_59 => ?_) (fun c_59 => ?_)
      · have hF_60 := ipos c_59 hF_45
        clear hF_45
        exact Jj_44  u_1.2 hF_60 _ _ hP hS ls (lv_sub hl [2, 1, 0] rfl)
      · have hF_61 := ineg c_59 hF_45
        clear hF_45
        refine lv_aload_n hx hb dX12_comparison_52 rfl (lv_at hl 2 rfl) ?_
        refine va_get (D := (dC, dI)) (ci := 12) (v := .ref (ad 9)) (C := RX12) (T := TX12) (N := 123) hx hb hts ii_X12 hown hK hP 0 rfl rfl 9 (by decide) (hts (.fieldLink RX12 34 "StoryHouseModel" "tokValue" "[I") wq_1365) (fun _ h9 => h9) rfl dX12_comparison_53 ?_
        refine lv_aload_n hx hb dX12_comparison_56 rfl (lv_at hl 2 rfl) ?_
        refine va_get (D := (dC, dI)) (ci := 12) (v := .int (u_1.2.1 25)) (C := RX12) (T := TX12) (N := 123) hx hb hts ii_X12 hown hK hP 0 rfl rfl 25 (by decide) (hts (.fieldLink RX12 314 "StoryHouseModel" "at" "I") wq_1381) (fun _ h9 => h9) rfl dX12_comparison_57 ?_
        obtain ⟨x_62, ex_62, hF_63⟩ := bnd_e hF_61
        clear hF_61
        refine m_top ex_62 ?_
        obtain ⟨g_64, hF_65⟩ := nif_e hF_63
        clear hF_63
        refine va_iald (f := u_1.2.2 9) hx hb hK hP 5 2 rfl rfl g_64 dX12_comparison_60 ?_
        refine lv_sipush (v := 289) hx hb dX12_comparison_61 (by decide +kernel) ?_
        refine lv_icmp_eq (tgt := 125) hx hb dX12_comparison_64 (by decide) (fun c_66 => ?_) (fun c_66 => ?_)
        · have hF_67 := ipos c_66 hF_65
          clear hF_65
          exact Jj_44  u_1.2 hF_67 _ _ hP hS ls (lv_sub hl [2, 1, 0] rfl)
        · have hF_68 := ineg c_66 hF_65
          clear hF_65
          refine lv_aload_n hx hb dX12_comparison_67 rfl (lv_at hl 2 rfl) ?_
          refine va_get (D := (dC, dI)) (ci := 12) (v := .ref (ad 9)) (C := RX12) (T := TX12) (N := 123) hx hb hts ii_X12 hown hK hP 0 rfl rfl 9 (by decide) (hts (.fieldLink RX12 34 "StoryHouseModel" "tokValue" "[I") wq_1365) (fun _ h9 => h9) rfl dX12_comparison_68 ?_
          refine lv_aload_n hx hb dX12_comparison_71 rfl (lv_at hl 2 rfl) ?_
          refine va_get (D := (dC, dI)) (ci := 12) (v := .int (u_1.2.1 25)) (C := RX12) (T := TX12) (N := 123) hx hb hts ii_X12 hown hK hP 0 rfl rfl 25 (by decide) (hts (.fieldLink RX12 314 "StoryHouseModel" "at" "I") wq_1381) (fun _ h9 => h9) rfl dX12_comparison_72 ?_
          obtain ⟨x_69, ex_69, hF_70⟩ := bnd_e hF_68
          clear hF_68
          refine m_top ex_69 ?_
          obtain ⟨g_71, hF_72⟩ := nif_e hF_70
          clear hF_70
          refine va_iald (f := u_1.2.2 9) hx hb hK hP 5 2 rfl rfl g_71 dX12_comparison_75 ?_
          refine lv_sipush (v := 316) hx hb dX12_comparison_76 (by decide +kernel) ?_
          refine lv_icmp_eq (tgt := 125) hx hb dX12_comparison_79 (by decide) (fun c_73 => ?_) (fun c_73 => ?_)
          · have hF_74 := ipos c_73 hF_72
            clear hF_72
            exact Jj_44  u_1.2 hF_74 _ _ hP hS ls (lv_sub hl [2, 1, 0] rfl)
          · have hF_75 := ineg c_73 hF_72
            clear hF_72
            refine lv_aload_n hx hb dX12_comparison_82 rfl (lv_at hl 2 rfl) ?_
            refine va_get (D := (dC, dI)) (ci := 12) (v := .ref (ad 9)) (C := RX12) (T := TX12) (N := 123) hx hb hts ii_X12 hown hK hP 0 rfl rfl 9 (by decide) (hts (.fieldLink RX12 34 "StoryHouseModel" "tokValue" "[I") wq_1365) (fun _ h9 => h9) rfl dX12_comparison_83 ?_
            refine lv_aload_n hx hb dX12_comparison_86 rfl (lv_at hl 2 rfl) ?_
            refine va_get (D := (dC, dI)) (ci := 12) (v := .int (u_1.2.1 25)) (C := RX12) (T := TX12) (N := 123) hx hb hts ii_X12 hown hK hP 0 rfl rfl 25 (by decide) (hts (.fieldLink RX12 314 "StoryHouseModel" "at" "I") wq_1381) (fun _ h9 => h9) rfl dX12_comparison_87 ?_
            obtain ⟨x_76, ex_76, hF_77⟩ := bnd_e hF_75
            clear hF_75
            refine m_top ex_76 ?_
            obtain ⟨g_78, hF_79⟩ := nif_e hF_77
            clear hF_77
            refine va_iald (f := u_1.2.2 9) hx hb hK hP 5 2 rfl rfl g_78 dX12_comparison_90 ?_
            refine lv_sipush (v := 318) hx hb dX12_comparison_91 (by decide +kernel) ?_
            refine lv_icmp_eq (tgt := 125) hx hb dX12_comparison_94 (by decide) (fun c_80 => ?_) (fun c_80 => ?_)
            · have hF_81 := ipos c_80 hF_79
              clear hF_79
              exact Jj_44  u_1.2 hF_81 _ _ hP hS ls (lv_sub hl [2, 1, 0] rfl)
            · have hF_82 := ineg c_80 hF_79
              clear hF_79
              refine lv_aload_n hx hb dX12_comparison_97 rfl (lv_at hl 2 rfl) ?_
              refine va_get (D := (dC, dI)) (ci := 12) (v := .ref (ad 9)) (C := RX12) (T := TX12) (N := 123) hx hb hts ii_X12 hown hK hP 0 rfl rfl 9 (by decide) (hts (.fieldLink RX12 34 "StoryHouseModel" "tokValue" "[I") wq_1365) (fun _ h9 => h9) rfl dX12_comparison_98 ?_
              refine lv_aload_n hx hb dX12_comparison_101 rfl (lv_at hl 2 rfl) ?_
              refine va_get (D := (dC, dI)) (ci := 12) (v := .int (u_1.2.1 25)) (C := RX12) (T := TX12) (N := 123) hx hb hts ii_X12 hown hK hP 0 rfl rfl 25 (by decide) (hts (.fieldLink RX12 314 "StoryHouseModel" "at" "I") wq_1381) (fun _ h9 => h9) rfl dX12_comparison_102 ?_
              obtain ⟨x_83, ex_83, hF_84⟩ := bnd_e hF_82
              clear hF_82
              refine m_top ex_83 ?_
              obtain ⟨g_85, hF_86⟩ := nif_e hF_84
              clear hF_84
              refine va_iald (f := u_1.2.2 9) hx hb hK hP 5 2 rfl rfl g_85 dX12_comparison_105 ?_
              refine lv_bipush (v := 60) hx hb dX12_comparison_106 (by decide +kernel) ?_
              refine lv_icmp_eq (tgt := 125) hx hb dX12_comparison_108 (by decide) (fun c_87 => ?_) (fun c_87 => ?_)
              · have hF_88 := ipos c_87 hF_86
                clear hF_86
                exact Jj_44  u_1.2 hF_88 _ _ hP hS ls (lv_sub hl [2, 1, 0] rfl)
              · have hF_89 := ineg c_87 hF_86
                clear hF_86
                refine lv_aload_n hx hb dX12_comparison_111 rfl (lv_at hl 2 rfl) ?_
                refine va_get (D := (dC, dI)) (ci := 12) (v := .ref (ad 9)) (C := RX12) (T := TX12) (N := 123) hx hb hts ii_X12 hown hK hP 0 rfl rfl 9 (by decide) (hts (.fieldLink RX12 34 "StoryHouseModel" "tokValue" "[I") wq_1365) (fun _ h9 => h9) rfl dX12_comparison_112 ?_
                refine lv_aload_n hx hb dX12_comparison_115 rfl (lv_at hl 2 rfl) ?_
                refine va_get (D := (dC, dI)) (ci := 12) (v := .int (u_1.2.1 25)) (C := RX12) (T := TX12) (N := 123) hx hb hts ii_X12 hown hK hP 0 rfl rfl 25 (by decide) (hts (.fieldLink RX12 314 "StoryHouseModel" "at" "I") wq_1381) (fun _ h9 => h9) rfl dX12_comparison_116 ?_
                obtain ⟨x_90, ex_90, hF_91⟩ := bnd_e hF_89
                clear hF_89
                refine m_top ex_90 ?_
                obtain ⟨g_92, hF_93⟩ := nif_e hF_91
                clear hF_91
                refine va_iald (f := u_1.2.2 9) hx hb hK hP 5 2 rfl rfl g_92 dX12_comparison_119 ?_
                refine lv_bipush (v := 62) hx hb dX12_comparison_120 (by decide +kernel) ?_
                refine lv_icmp_ne (tgt := 156) hx hb dX12_comparison_122 (by decide) (fun c_94 => ?_) (fun c_94 => ?_)
                · have hF_96 := ineg c_94 hF_93
                  clear hF_93
                  exact Jj_16  u_1.2 hF_96 _ _ hP hS ls (lv_sub hl [2, 1, 0] rfl)
                · have hF_95 := ipos c_94 hF_93
                  clear hF_93
                  exact Jj_44  u_1.2 hF_95 _ _ hP hS ls (lv_sub hl [2, 1, 0] rfl)
  · have hF_98 := ineg c_3 hF_2
    clear hF_2
    refine lv_iload_n hx hb dX12_comparison_12 rfl (lv_at hl 0 rfl) ?_
    have h9 := Option.some.inj hF_98
    subst h9
    exact W.iret (v := u_1.1) hx hb hr (fun t ht hW => ⟨⟨u_1.1, (), rfl, rfl, m_end ht hP⟩, hS.F ht⟩) hS.2.2 dX12_comparison_13

def F_X12_sum (rec : GF)  (σ : MS) : MR :=
  (rec 5 0 0 0 σ).bind fun u_1 =>
  loopF (fun (again_4 : (Int32 × MS) → MR) (s_3 : Int32 × MS) => (
    (F_X12_isSign 43 s_3.2).bind fun u_7 =>
    bnd (fun  (σ_9 : MS) => (
      bnd ((σ_9.1 25)) fun (x_13 : Int32) =>
      if x_13 < 0 ∨ 16010 ≤ x_13.toNatClampNeg then none else
      bnd ((σ_9.2 8 x_13.toNatClampNeg)) fun (x_17 : Int32) =>
      bnd (mI σ_9 25 ((σ_9.1 25) + 1)) fun σ_19 =>
      bnd ((σ_9.1 25)) fun (x_21 : Int32) =>
      if x_21 < 0 ∨ 16010 ≤ x_21.toNatClampNeg then none else
      bnd ((σ_19.2 9 x_21.toNatClampNeg)) fun (x_25 : Int32) =>
      (rec 5 0 0 0 σ_19).bind fun u_27 =>
      (F_X12_two 56 x_17 s_3.1 u_27.1 x_25 u_27.2).bind fun u_29 =>
      again_4 (u_29.1, u_29.2)
    ) : MS → MR) fun j_10 =>
    if u_7.1 = 0 then (
      (F_X12_isSign 45 u_7.2).bind fun u_33 =>
      if u_33.1 = 0 then (
        some (s_3.1, u_33.2)
      ) else (
        j_10  u_33.2
      )
    ) else (
      j_10  u_7.2
    )
  )) FU (u_1.1, u_1.2)
set_option maxHeartbeats 4000000 in
set_option maxRecDepth 100000 in
theorem m_X12_sum_st (l : Launch) (dC : Nat → ClassId) (dI : Nat → Nat → Nat) (cB cC cI cJ cZ cP : ClassId) (h qK qS : Nat) (ad : Nat → Nat) (hDD : mDis cB cI cZ h qK qS ad) (d : Nat) (rec : GF) (hI0 : ∀ (sz : Nat)  (σ : MS) (res : Int32 × MS), rec 0 0 0 0 σ = some res → Met l yX12_expression (g_ws yX12_expression cX12_expression 3 (some .int)) ({ frames := 5 + d, cells := 0, slots := 0, locals := 124 + 23 * d }) (va_Pc [.ref h] (m_B (dC, dI) [(cB, .byte), (cC, .char), (cI, .int), (cJ, .long), (cZ, .boolean), (cP, .object "StoryHouse$Play")] sz h ad qK qS (mW cB cI cZ h qK qS ad σ) g_0)) (va_Qi (fun r (_ : Unit) => r = res.1) (fun _ t => va_P (dC, dI) vwCl (mW cB cI cZ h qK qS ad res.2) t.heap) (mCells h ad sz)) 0 0 (mCells h ad sz)) (hI1 : ∀ (sz : Nat)  (σ : MS) (res : Int32 × MS), rec 1 0 0 0 σ = some res → Met l yX12_both (g_ws yX12_both cX12_both 3 (some .int)) ({ frames := 5 + d, cells := 0, slots := 0, locals := 124 + 23 * d }) (va_Pc [.ref h] (m_B (dC, dI) [(cB, .byte), (cC, .char), (cI, .int), (cJ, .long), (cZ, .boolean), (cP, .object "StoryHouse$Play")] sz h ad qK qS (mW cB cI cZ h qK qS ad σ) g_0)) (va_Qi (fun r (_ : Unit) => r = res.1) (fun _ t => va_P (dC, dI) vwCl (mW cB cI cZ h qK qS ad res.2) t.heap) (mCells h ad sz)) 0 0 (mCells h ad sz)) (hI2 : ∀ (sz : Nat)  (σ : MS) (res : Int32 × MS), rec 2 0 0 0 σ = some res → Met l yX12_step (g_ws yX12_step cX12_step 3 (some .int)) ({ frames := 5 + d, cells := 0, slots := 0, locals := 124 + 23 * d }) (va_Pc [.ref h] (m_B (dC, dI) [(cB, .byte), (cC, .char), (cI, .int), (cJ, .long), (cZ, .boolean), (cP, .object "StoryHouse$Play")] sz h ad qK qS (mW cB cI cZ h qK qS ad σ) g_0)) (va_Qi (fun r (_ : Unit) => r = res.1) (fun _ t => va_P (dC, dI) vwCl (mW cB cI cZ h qK qS ad res.2) t.heap) (mCells h ad sz)) 0 0 (mCells h ad sz)) (hI3 : ∀ (sz : Nat)  (σ : MS) (res : Int32 × MS), rec 3 0 0 0 σ = some res → Met l yX12_comparison (g_ws yX12_comparison cX12_comparison 4 (some .int)) ({ frames := 5 + d, cells := 0, slots := 0, locals := 124 + 23 * d }) (va_Pc [.ref h] (m_B (dC, dI) [(cB, .byte), (cC, .char), (cI, .int), (cJ, .long), (cZ, .boolean), (cP, .object "StoryHouse$Play")] sz h ad qK qS (mW cB cI cZ h qK qS ad σ) g_0)) (va_Qi (fun r (_ : Unit) => r = res.1) (fun _ t => va_P (dC, dI) vwCl (mW cB cI cZ h qK qS ad res.2) t.heap) (mCells h ad sz)) 0 0 (mCells h ad sz)) (hI4 : ∀ (sz : Nat)  (σ : MS) (res : Int32 × MS), rec 4 0 0 0 σ = some res → Met l yX12_sum (g_ws yX12_sum cX12_sum 4 (some .int)) ({ frames := 5 + d, cells := 0, slots := 0, locals := 124 + 23 * d }) (va_Pc [.ref h] (m_B (dC, dI) [(cB, .byte), (cC, .char), (cI, .int), (cJ, .long), (cZ, .boolean), (cP, .object "StoryHouse$Play")] sz h ad qK qS (mW cB cI cZ h qK qS ad σ) g_0)) (va_Qi (fun r (_ : Unit) => r = res.1) (fun _ t => va_P (dC, dI) vwCl (mW cB cI cZ h qK qS ad res.2) t.heap) (mCells h ad sz)) 0 0 (mCells h ad sz)) (hI5 : ∀ (sz : Nat)  (σ : MS) (res : Int32 × MS), rec 5 0 0 0 σ = some res → Met l yX12_term (g_ws yX12_term cX12_term 4 (some .int)) ({ frames := 5 + d, cells := 0, slots := 0, locals := 124 + 23 * d }) (va_Pc [.ref h] (m_B (dC, dI) [(cB, .byte), (cC, .char), (cI, .int), (cJ, .long), (cZ, .boolean), (cP, .object "StoryHouse$Play")] sz h ad qK qS (mW cB cI cZ h qK qS ad σ) g_0)) (va_Qi (fun r (_ : Unit) => r = res.1) (fun _ t => va_P (dC, dI) vwCl (mW cB cI cZ h qK qS ad res.2) t.heap) (mCells h ad sz)) 0 0 (mCells h ad sz)) (hI6 : ∀ (sz : Nat)  (σ : MS) (res : Int32 × MS), rec 6 0 0 0 σ = some res → Met l yX12_factor (g_ws yX12_factor cX12_factor 3 (some .int)) ({ frames := 5 + d, cells := 0, slots := 0, locals := 124 + 23 * d }) (va_Pc [.ref h] (m_B (dC, dI) [(cB, .byte), (cC, .char), (cI, .int), (cJ, .long), (cZ, .boolean), (cP, .object "StoryHouse$Play")] sz h ad qK qS (mW cB cI cZ h qK qS ad σ) g_0)) (va_Qi (fun r (_ : Unit) => r = res.1) (fun _ t => va_P (dC, dI) vwCl (mW cB cI cZ h qK qS ad res.2) t.heap) (mCells h ad sz)) 0 0 (mCells h ad sz)) (hI7 : ∀ (sz : Nat)  (σ : MS) (res : Int32 × MS), rec 7 0 0 0 σ = some res → Met l yX12_primary (g_ws yX12_primary cX12_primary 4 (some .int)) ({ frames := 5 + d, cells := 0, slots := 0, locals := 124 + 23 * d }) (va_Pc [.ref h] (m_B (dC, dI) [(cB, .byte), (cC, .char), (cI, .int), (cJ, .long), (cZ, .boolean), (cP, .object "StoryHouse$Play")] sz h ad qK qS (mW cB cI cZ h qK qS ad σ) g_0)) (va_Qi (fun r (_ : Unit) => r = res.1) (fun _ t => va_P (dC, dI) vwCl (mW cB cI cZ h qK qS ad res.2) t.heap) (mCells h ad sz)) 0 0 (mCells h ad sz)) (hI8 : ∀ (sz : Nat)  (σ : MS) (res : Int32 × MS), rec 8 0 0 0 σ = some res → Met l yX12_arguments (g_ws yX12_arguments cX12_arguments 4 (some .int)) ({ frames := 5 + d, cells := 0, slots := 0, locals := 124 + 23 * d }) (va_Pc [.ref h] (m_B (dC, dI) [(cB, .byte), (cC, .char), (cI, .int), (cJ, .long), (cZ, .boolean), (cP, .object "StoryHouse$Play")] sz h ad qK qS (mW cB cI cZ h qK qS ad σ) g_0)) (va_Qi (fun r (_ : Unit) => r = res.1) (fun _ t => va_P (dC, dI) vwCl (mW cB cI cZ h qK qS ad res.2) t.heap) (mCells h ad sz)) 0 0 (mCells h ad sz)) (sz : Nat)   (σ : MS) (res : Int32 × MS) (hF : F_X12_sum rec  σ = some res) : Met l yX12_sum (g_ws yX12_sum cX12_sum 4 (some .int)) ({ frames := 5 + (d + 1), cells := 0, slots := 0, locals := 124 + 23 * (d + 1) }) (va_Pc [.ref h] (m_B (dC, dI) [(cB, .byte), (cC, .char), (cI, .int), (cJ, .long), (cZ, .boolean), (cP, .object "StoryHouse$Play")] sz h ad qK qS (mW cB cI cZ h qK qS ad σ) g_0)) (va_Qi (fun r (_ : Unit) => r = res.1) (fun _ t => va_P (dC, dI) vwCl (mW cB cI cZ h qK qS ad res.2) t.heap) (mCells h ad sz)) 0 0 (mCells h ad sz) := by
  refine Met.ofW (cc := cX12_sum) (maxL := 4) (ret := (some .int)) (by decide) rfl ?_
  intro p e s m args below meth c s₁ B hml hv
  obtain ⟨rfl, hsz, hP, hK, hE, hKS, hX⟩ := hv
  have hx := B.exec
  have hb := B.bytes
  have hr := B.returns
  have hts0 := atoms_spec (ws := g_ws yX12_sum cX12_sum 4 (some .int)) B.pre
  have hts : ∀ w ∈ lw_good, w.before ([.ref h] : List Value).toArray s = true := fun w z => hts0 w (List.mem_cons_of_mem _ z)
  have hown : s.vm.findClass RX12 = some m.cls := findClass_of_methodNamed B.named
  have hlocks := B.notSynchronized
  have hS : va_S (mCells h ad sz) s.heap s.heap [] := va_S.rf
  have hl := lv_entry ([.ref h]) (n := 4) (Nat.le_of_ble_eq_true rfl)
  rw [lg_entry_eq]
  generalize (lg_sl ([.ref h]) ++ List.replicate (4 - (lg_sl ([.ref h])).length) Slot.unset).toArray = ls at hl ⊢
  have hl : lv_has ls 4 [(0, .ref h)] := hl
  unfold F_X12_sum at hF
  refine lv_aload_n hx hb dX12_sum_0 rfl (lv_at hl 0 rfl) ?_
  obtain ⟨u_1, hu_1, hF_2⟩ := Option.bind_eq_some_iff.mp hF
  clear hF
  refine m_ci hsz hS (va_runV (As := []) (rest := []) ⟨hx, hb, hml, hown, hts⟩ (hI5 s.heap.size σ _ hu_1) (cwV 0 hts (g_gV wq_1621 wq_1622 wq_2153 wq_13 wq_1623) rfl rfl rfl (by decide +kernel) ⟨by show 5 + d + 1 ≤ 5 + (d + 1); omega, by show 8 + (4 + 11) + (124 + 23 * d) ≤ 124 + 23 * (d + 1); omega⟩) (m_preV g_bl0 hsz hK hP hS hE hKS g_to0) rfl rfl hl.1 rfl (lv_room (Nat.le_of_ble_eq_true rfl)) dX12_sum_1 ⟨Nat.le_of_ble_eq_true rfl, Nat.le_of_ble_eq_true rfl⟩) (fun H locs hP hS => ?_)
  refine lv_istore_n (lv' := [(1, .int u_1.1), (0, .ref h)]) hx hb dX12_sum_4 rfl hl (by decide) rfl (fun ls hl => ?_)
  refine loopF_ind (P := fun (s_3 : Int32 × MS) => ∀ (H : Heap) (locs : List Loc), va_P (dC, dI) vwCl (mW cB cI cZ h qK qS ad s_3.2) H → va_S (mCells h ad sz) s.heap H locs → ∀ ls : Array Slot, lv_has ls 4 [(0, .ref h), (1, .int s_3.1)] → W p l e (headSpec (g_ws yX12_sum cX12_sum 4 (some .int)) { frames := 5 + (d + 1), cells := 0, slots := 0, locals := 124 + 23 * (d + 1) }).room s m ([.ref h] : List Value).toArray below meth c H locs 0 0 (MQ below (va_Qi (fun r (_ : Unit) => r = res.1) (fun _ t => va_P (dC, dI) vwCl (mW cB cI cZ h qK qS ad res.2) t.heap) (mCells h ad sz)) ([.ref h] : List Value).toArray s 0 0 (mCells h ad sz)) (F0 m 5 ls [])) ?_ _ _ hF_2 _ _ hP hS ls (lv_sub hl [1, 0] rfl)
  intro again_4 s_3 ih_5 hF_6
  intro H locs hP hS ls hl
  refine lv_aload_n hx hb dX12_sum_5 rfl (lv_at hl 0 rfl) ?_
  refine lv_bipush (v := 43) hx hb dX12_sum_6 (by decide +kernel) ?_
  obtain ⟨u_7, hu_7, hF_8⟩ := Option.bind_eq_some_iff.mp hF_6
  clear hF_6
  refine m_ci hsz hS (va_runV (As := [.int 43]) (rest := []) ⟨hx, hb, hml, hown, hts⟩ (m_X12_isSign l dC dI cB cC cI cJ cZ cP h qK qS ad hDD H.size  43 s_3.2 _ hu_7) (cwV 1 hts (g_gV wq_1558 wq_1559 wq_2132 wq_13 wq_1560) rfl rfl rfl (by decide +kernel) ⟨by show 1 + 1 ≤ 5 + (d + 1); omega, by show 8 + (2 + 11) + 40 ≤ 124 + 23 * (d + 1); omega⟩) (m_preV g_bl0 hsz hK hP hS hE hKS g_to0) rfl rfl hl.1 rfl (lv_room (Nat.le_of_ble_eq_true rfl)) dX12_sum_8 ⟨Nat.le_of_ble_eq_true rfl, Nat.le_of_ble_eq_true rfl⟩) (fun H locs hP hS => ?_)
  obtain ⟨j_10, ej_10, hF_11⟩ := bnd_e hF_8
  clear hF_8
  have Jj_10 : ∀  (σ_9 : MS), j_10  σ_9 = some res → ∀ (H : Heap) (locs : List Loc), va_P (dC, dI) vwCl (mW cB cI cZ h qK qS ad σ_9) H → va_S (mCells h ad sz) s.heap H locs → ∀ ls : Array Slot, lv_has ls 4 [(0, .ref h), (1, .int s_3.1)] → W p l e (headSpec (g_ws yX12_sum cX12_sum 4 (some .int)) { frames := 5 + (d + 1), cells := 0, slots := 0, locals := 124 + 23 * (d + 1) }).room s m ([.ref h] : List Value).toArray below meth c H locs 0 0 (MQ below (va_Qi (fun r (_ : Unit) => r = res.1) (fun _ t => va_P (dC, dI) vwCl (mW cB cI cZ h qK qS ad res.2) t.heap) (mCells h ad sz)) ([.ref h] : List Value).toArray s 0 0 (mCells h ad sz)) (F0 m 23 ls []) := by
    intro  σ_9 hF0 H locs hP hS ls hl
    subst ej_10
    have hF_12 := hF0
    clear hF0
    refine lv_aload_n hx hb dX12_sum_23 rfl (lv_at hl 0 rfl) ?_
    refine va_get (D := (dC, dI)) (ci := 12) (v := .ref (ad 8)) (C := RX12) (T := TX12) (N := 123) hx hb hts ii_X12 hown hK hP 0 rfl rfl 8 (by decide) (hts (.fieldLink RX12 31 "StoryHouseModel" "tokAt" "[I") wq_1364) (fun _ h9 => h9) rfl dX12_sum_24 ?_
    refine lv_aload_n hx hb dX12_sum_27 rfl (lv_at hl 0 rfl) ?_
    refine va_get (D := (dC, dI)) (ci := 12) (v := .int (σ_9.1 25)) (C := RX12) (T := TX12) (N := 123) hx hb hts ii_X12 hown hK hP 0 rfl rfl 25 (by decide) (hts (.fieldLink RX12 314 "StoryHouseModel" "at" "I") wq_1381) (fun _ h9 => h9) rfl dX12_sum_28 ?_
    obtain ⟨x_13, ex_13, hF_14⟩ := bnd_e hF_12
    clear hF_12
    refine m_top ex_13 ?_
    obtain ⟨g_15, hF_16⟩ := nif_e hF_14
    clear hF_14
    refine va_iald (f := σ_9.2 8) hx hb hK hP 4 2 rfl rfl g_15 dX12_sum_31 ?_
    obtain ⟨x_17, ex_17, hF_18⟩ := bnd_e hF_16
    clear hF_16
    refine m_top ex_17 ?_
    refine lv_istore_n (lv' := [(2, .int x_17), (0, .ref h), (1, .int s_3.1)]) hx hb dX12_sum_32 rfl hl (by decide) rfl (fun ls hl => ?_)
    refine lv_aload_n hx hb dX12_sum_33 rfl (lv_at hl 1 rfl) ?_
    refine va_get (D := (dC, dI)) (ci := 12) (v := .ref (ad 9)) (C := RX12) (T := TX12) (N := 123) hx hb hts ii_X12 hown hK hP 0 rfl rfl 9 (by decide) (hts (.fieldLink RX12 34 "StoryHouseModel" "tokValue" "[I") wq_1365) (fun _ h9 => h9) rfl dX12_sum_34 ?_
    refine lv_aload_n hx hb dX12_sum_37 rfl (lv_at hl 1 rfl) ?_
    refine lv_dup hx hb dX12_sum_38 rfl ?_
    refine va_get (D := (dC, dI)) (ci := 12) (v := .int (σ_9.1 25)) (C := RX12) (T := TX12) (N := 123) hx hb hts ii_X12 hown hK hP 0 rfl rfl 25 (by decide) (hts (.fieldLink RX12 314 "StoryHouseModel" "at" "I") wq_1381) (fun _ h9 => h9) rfl dX12_sum_39 ?_
    refine lv_dup_x1 hx hb dX12_sum_42 rfl rfl ?_
    refine lv_iconst (v := 1) hx hb dX12_sum_43 (by decide +kernel) ?_
    refine lv_iadd hx hb dX12_sum_44 ?_
    obtain ⟨σ_19, eσ_19, hF_20⟩ := bnd_e hF_18
    clear hF_18
    refine m_put (σ' := σ_19) (v := .int ((σ_9.1 25) + 1)) (ty := .int) hx hb hts hown hK hP (hDD _ _) hS (by rw [eσ_19]; exact mwI_25) (k := 25) (by decide) (hts (.fieldLink RX12 314 "StoryHouseModel" "at" "I") wq_1381) (fun _ h9 => h9) rfl (by decide +kernel) rfl rfl dX12_sum_45 (fun H locs hP hS => ?_)
    obtain ⟨x_21, ex_21, hF_22⟩ := bnd_e hF_20
    clear hF_20
    refine m_top ex_21 ?_
    obtain ⟨g_23, hF_24⟩ := nif_e hF_22
    clear hF_22
    refine va_iald (f := σ_19.2 9) hx hb hK hP 5 2 rfl rfl g_23 dX12_sum_48 ?_
    obtain ⟨x_25, ex_25, hF_26⟩ := bnd_e hF_24
    clear hF_24
    refine m_top ex_25 ?_
    refine lv_istore_n (lv' := [(3, .int x_25), (2, .int x_17), (0, .ref h), (1, .int s_3.1)]) hx hb dX12_sum_49 rfl hl (by decide) rfl (fun ls hl => ?_)
    refine lv_aload_n hx hb dX12_sum_50 rfl (lv_at hl 2 rfl) ?_
    refine lv_bipush (v := 56) hx hb dX12_sum_51 (by decide +kernel) ?_
    refine lv_iload_n hx hb dX12_sum_53 rfl (lv_at hl 1 rfl) ?_
    refine lv_iload_n hx hb dX12_sum_54 rfl (lv_at hl 3 rfl) ?_
    refine lv_aload_n hx hb dX12_sum_55 rfl (lv_at hl 2 rfl) ?_
    obtain ⟨u_27, hu_27, hF_28⟩ := Option.bind_eq_some_iff.mp hF_26
    clear hF_26
    refine m_ci hsz hS (va_runV (As := []) (rest := [.int s_3.1, .int x_17, .int 56, .ref h]) ⟨hx, hb, hml, hown, hts⟩ (hI5 H.size σ_19 _ hu_27) (cwV 0 hts (g_gV wq_1621 wq_1622 wq_2153 wq_13 wq_1623) rfl rfl rfl (by decide +kernel) ⟨by show 5 + d + 1 ≤ 5 + (d + 1); omega, by show 8 + (4 + 11) + (124 + 23 * d) ≤ 124 + 23 * (d + 1); omega⟩) (m_preV g_bl0 hsz hK hP hS hE hKS g_to0) rfl rfl hl.1 rfl (lv_room (Nat.le_of_ble_eq_true rfl)) dX12_sum_56 ⟨Nat.le_of_ble_eq_true rfl, Nat.le_of_ble_eq_true rfl⟩) (fun H locs hP hS => ?_)
    refine lv_iload_n hx hb dX12_sum_59 rfl (lv_at hl 0 rfl) ?_
    obtain ⟨u_29, hu_29, hF_30⟩ := Option.bind_eq_some_iff.mp hF_28
    clear hF_28
    refine m_ci hsz hS (va_runV (As := [.int 56, .int x_17, .int s_3.1, .int u_27.1, .int x_25]) (rest := []) ⟨hx, hb, hml, hown, hts⟩ (m_X12_two l dC dI cB cC cI cJ cZ cP h qK qS ad hDD H.size  56 x_17 s_3.1 u_27.1 x_25 u_27.2 _ hu_29) (cwV 5 hts (g_gV wq_1627 wq_1628 wq_2155 wq_13 wq_1629) rfl rfl rfl (by decide +kernel) ⟨by show 2 + 1 ≤ 5 + (d + 1); omega, by show 8 + (7 + 11) + 62 ≤ 124 + 23 * (d + 1); omega⟩) (m_preV g_bl0 hsz hK hP hS hE hKS g_to0) rfl rfl hl.1 rfl (lv_room (Nat.le_of_ble_eq_true rfl)) dX12_sum_60 ⟨Nat.le_of_ble_eq_true rfl, Nat.le_of_ble_eq_true rfl⟩) (fun H locs hP hS => ?_)
    refine lv_istore_n (lv' := [(1, .int u_29.1), (3, .int x_25), (2, .int x_17), (0, .ref h)]) hx hb dX12_sum_63 rfl hl (by decide) rfl (fun ls hl => ?_)
    refine lv_goto (tgt := 5) hx hb dX12_sum_64 (by decide) ?_
    exact ih_5 (u_29.1, u_29.2) hF_30 _ _ hP hS ls (lv_sub hl [3, 0] rfl)
  refine lv_if_ne (tgt := 23) hx hb dX12_sum_11 (by decide) (fun c_31 => ?_) (fun c_31 => ?_)
  · have hF_38 := ineg c_31 hF_11
    clear hF_11
    exact Jj_10  u_7.2 hF_38 _ _ hP hS ls (lv_sub hl [0, 1] rfl)
  · have hF_32 := ipos c_31 hF_11
    clear hF_11
    refine lv_aload_n hx hb dX12_sum_14 rfl (lv_at hl 0 rfl) ?_
    refine lv_bipush (v := 45) hx hb dX12_sum_15 (by decide +kernel) ?_
    obtain ⟨u_33, hu_33, hF_34⟩ := Option.bind_eq_some_iff.mp hF_32
    clear hF_32
    refine m_ci hsz hS (va_runV (As := [.int 45]) (rest := []) ⟨hx, hb, hml, hown, hts⟩ (m_X12_isSign l dC dI cB cC cI cJ cZ cP h qK qS ad hDD H.size  45 u_7.2 _ hu_33) (cwV 1 hts (g_gV wq_1558 wq_1559 wq_2132 wq_13 wq_1560) rfl rfl rfl (by decide +kernel) ⟨by show 1 + 1 ≤ 5 + (d + 1); omega, by show 8 + (2 + 11) + 40 ≤ 124 + 23 * (d + 1); omega⟩) (m_preV g_bl0 hsz hK hP hS hE hKS g_to0) rfl rfl hl.1 rfl (lv_room (Nat.le_of_ble_eq_true rfl)) dX12_sum_17 ⟨Nat.le_of_ble_eq_true rfl, Nat.le_of_ble_eq_true rfl⟩) (fun H locs hP hS => ?_)
    refine lv_if_eq (tgt := 67) hx hb dX12_sum_20 (by decide) (fun c_35 => ?_) (fun c_35 => ?_)
    · have hF_36 := ipos c_35 hF_34
      clear hF_34
      refine lv_iload_n hx hb dX12_sum_67 rfl (lv_at hl 1 rfl) ?_
      have h9 := Option.some.inj hF_36
      subst h9
      exact W.iret (v := s_3.1) hx hb hr (fun t ht hW => ⟨⟨s_3.1, (), rfl, rfl, m_end ht hP⟩, hS.F ht⟩) hS.2.2 dX12_sum_68
    · have hF_37 := ineg c_35 hF_34
      clear hF_34
      exact Jj_10  u_33.2 hF_37 _ _ hP hS ls (lv_sub hl [0, 1] rfl)

def F_X12_term (rec : GF)  (σ : MS) : MR :=
  (rec 6 0 0 0 σ).bind fun u_1 =>
  loopF (fun (again_4 : (Int32 × MS) → MR) (s_3 : Int32 × MS) => (
    (F_X12_isSign 42 s_3.2).bind fun u_7 =>
    bnd (fun  (σ_9 : MS) => (
      bnd ((σ_9.1 25)) fun (x_13 : Int32) =>
      if x_13 < 0 ∨ 16010 ≤ x_13.toNatClampNeg then none else
      bnd ((σ_9.2 8 x_13.toNatClampNeg)) fun (x_17 : Int32) =>
      bnd (mI σ_9 25 ((σ_9.1 25) + 1)) fun σ_19 =>
      bnd ((σ_9.1 25)) fun (x_21 : Int32) =>
      if x_21 < 0 ∨ 16010 ≤ x_21.toNatClampNeg then none else
      bnd ((σ_19.2 9 x_21.toNatClampNeg)) fun (x_25 : Int32) =>
      (rec 6 0 0 0 σ_19).bind fun u_27 =>
      (F_X12_two 56 x_17 s_3.1 u_27.1 x_25 u_27.2).bind fun u_29 =>
      again_4 (u_29.1, u_29.2)
    ) : MS → MR) fun j_10 =>
    if u_7.1 = 0 then (
      (F_X12_isSign 47 u_7.2).bind fun u_33 =>
      if u_33.1 = 0 then (
        (F_X12_isSign 37 u_33.2).bind fun u_37 =>
        if u_37.1 = 0 then (
          some (s_3.1, u_37.2)
        ) else (
          j_10  u_37.2
        )
      ) else (
        j_10  u_33.2
      )
    ) else (
      j_10  u_7.2
    )
  )) FU (u_1.1, u_1.2)
set_option maxHeartbeats 4000000 in
set_option maxRecDepth 100000 in
theorem m_X12_term_st (l : Launch) (dC : Nat → ClassId) (dI : Nat → Nat → Nat) (cB cC cI cJ cZ cP : ClassId) (h qK qS : Nat) (ad : Nat → Nat) (hDD : mDis cB cI cZ h qK qS ad) (d : Nat) (rec : GF) (hI0 : ∀ (sz : Nat)  (σ : MS) (res : Int32 × MS), rec 0 0 0 0 σ = some res → Met l yX12_expression (g_ws yX12_expression cX12_expression 3 (some .int)) ({ frames := 5 + d, cells := 0, slots := 0, locals := 124 + 23 * d }) (va_Pc [.ref h] (m_B (dC, dI) [(cB, .byte), (cC, .char), (cI, .int), (cJ, .long), (cZ, .boolean), (cP, .object "StoryHouse$Play")] sz h ad qK qS (mW cB cI cZ h qK qS ad σ) g_0)) (va_Qi (fun r (_ : Unit) => r = res.1) (fun _ t => va_P (dC, dI) vwCl (mW cB cI cZ h qK qS ad res.2) t.heap) (mCells h ad sz)) 0 0 (mCells h ad sz)) (hI1 : ∀ (sz : Nat)  (σ : MS) (res : Int32 × MS), rec 1 0 0 0 σ = some res → Met l yX12_both (g_ws yX12_both cX12_both 3 (some .int)) ({ frames := 5 + d, cells := 0, slots := 0, locals := 124 + 23 * d }) (va_Pc [.ref h] (m_B (dC, dI) [(cB, .byte), (cC, .char), (cI, .int), (cJ, .long), (cZ, .boolean), (cP, .object "StoryHouse$Play")] sz h ad qK qS (mW cB cI cZ h qK qS ad σ) g_0)) (va_Qi (fun r (_ : Unit) => r = res.1) (fun _ t => va_P (dC, dI) vwCl (mW cB cI cZ h qK qS ad res.2) t.heap) (mCells h ad sz)) 0 0 (mCells h ad sz)) (hI2 : ∀ (sz : Nat)  (σ : MS) (res : Int32 × MS), rec 2 0 0 0 σ = some res → Met l yX12_step (g_ws yX12_step cX12_step 3 (some .int)) ({ frames := 5 + d, cells := 0, slots := 0, locals := 124 + 23 * d }) (va_Pc [.ref h] (m_B (dC, dI) [(cB, .byte), (cC, .char), (cI, .int), (cJ, .long), (cZ, .boolean), (cP, .object "StoryHouse$Play")] sz h ad qK qS (mW cB cI cZ h qK qS ad σ) g_0)) (va_Qi (fun r (_ : Unit) => r = res.1) (fun _ t => va_P (dC, dI) vwCl (mW cB cI cZ h qK qS ad res.2) t.heap) (mCells h ad sz)) 0 0 (mCells h ad sz)) (hI3 : ∀ (sz : Nat)  (σ : MS) (res : Int32 × MS), rec 3 0 0 0 σ = some res → Met l yX12_comparison (g_ws yX12_comparison cX12_comparison 4 (some .int)) ({ frames := 5 + d, cells := 0, slots := 0, locals := 124 + 23 * d }) (va_Pc [.ref h] (m_B (dC, dI) [(cB, .byte), (cC, .char), (cI, .int), (cJ, .long), (cZ, .boolean), (cP, .object "StoryHouse$Play")] sz h ad qK qS (mW cB cI cZ h qK qS ad σ) g_0)) (va_Qi (fun r (_ : Unit) => r = res.1) (fun _ t => va_P (dC, dI) vwCl (mW cB cI cZ h qK qS ad res.2) t.heap) (mCells h ad sz)) 0 0 (mCells h ad sz)) (hI4 : ∀ (sz : Nat)  (σ : MS) (res : Int32 × MS), rec 4 0 0 0 σ = some res → Met l yX12_sum (g_ws yX12_sum cX12_sum 4 (some .int)) ({ frames := 5 + d, cells := 0, slots := 0, locals := 124 + 23 * d }) (va_Pc [.ref h] (m_B (dC, dI) [(cB, .byte), (cC, .char), (cI, .int), (cJ, .long), (cZ, .boolean), (cP, .object "StoryHouse$Play")] sz h ad qK qS (mW cB cI cZ h qK qS ad σ) g_0)) (va_Qi (fun r (_ : Unit) => r = res.1) (fun _ t => va_P (dC, dI) vwCl (mW cB cI cZ h qK qS ad res.2) t.heap) (mCells h ad sz)) 0 0 (mCells h ad sz)) (hI5 : ∀ (sz : Nat)  (σ : MS) (res : Int32 × MS), rec 5 0 0 0 σ = some res → Met l yX12_term (g_ws yX12_term cX12_term 4 (some .int)) ({ frames := 5 + d, cells := 0, slots := 0, locals := 124 + 23 * d }) (va_Pc [.ref h] (m_B (dC, dI) [(cB, .byte), (cC, .char), (cI, .int), (cJ, .long), (cZ, .boolean), (cP, .object "StoryHouse$Play")] sz h ad qK qS (mW cB cI cZ h qK qS ad σ) g_0)) (va_Qi (fun r (_ : Unit) => r = res.1) (fun _ t => va_P (dC, dI) vwCl (mW cB cI cZ h qK qS ad res.2) t.heap) (mCells h ad sz)) 0 0 (mCells h ad sz)) (hI6 : ∀ (sz : Nat)  (σ : MS) (res : Int32 × MS), rec 6 0 0 0 σ = some res → Met l yX12_factor (g_ws yX12_factor cX12_factor 3 (some .int)) ({ frames := 5 + d, cells := 0, slots := 0, locals := 124 + 23 * d }) (va_Pc [.ref h] (m_B (dC, dI) [(cB, .byte), (cC, .char), (cI, .int), (cJ, .long), (cZ, .boolean), (cP, .object "StoryHouse$Play")] sz h ad qK qS (mW cB cI cZ h qK qS ad σ) g_0)) (va_Qi (fun r (_ : Unit) => r = res.1) (fun _ t => va_P (dC, dI) vwCl (mW cB cI cZ h qK qS ad res.2) t.heap) (mCells h ad sz)) 0 0 (mCells h ad sz)) (hI7 : ∀ (sz : Nat)  (σ : MS) (res : Int32 × MS), rec 7 0 0 0 σ = some res → Met l yX12_primary (g_ws yX12_primary cX12_primary 4 (some .int)) ({ frames := 5 + d, cells := 0, slots := 0, locals := 124 + 23 * d }) (va_Pc [.ref h] (m_B (dC, dI) [(cB, .byte), (cC, .char), (cI, .int), (cJ, .long), (cZ, .boolean), (cP, .object "StoryHouse$Play")] sz h ad qK qS (mW cB cI cZ h qK qS ad σ) g_0)) (va_Qi (fun r (_ : Unit) => r = res.1) (fun _ t => va_P (dC, dI) vwCl (mW cB cI cZ h qK qS ad res.2) t.heap) (mCells h ad sz)) 0 0 (mCells h ad sz)) (hI8 : ∀ (sz : Nat)  (σ : MS) (res : Int32 × MS), rec 8 0 0 0 σ = some res → Met l yX12_arguments (g_ws yX12_arguments cX12_arguments 4 (some .int)) ({ frames := 5 + d, cells := 0, slots := 0, locals := 124 + 23 * d }) (va_Pc [.ref h] (m_B (dC, dI) [(cB, .byte), (cC, .char), (cI, .int), (cJ, .long), (cZ, .boolean), (cP, .object "StoryHouse$Play")] sz h ad qK qS (mW cB cI cZ h qK qS ad σ) g_0)) (va_Qi (fun r (_ : Unit) => r = res.1) (fun _ t => va_P (dC, dI) vwCl (mW cB cI cZ h qK qS ad res.2) t.heap) (mCells h ad sz)) 0 0 (mCells h ad sz)) (sz : Nat)   (σ : MS) (res : Int32 × MS) (hF : F_X12_term rec  σ = some res) : Met l yX12_term (g_ws yX12_term cX12_term 4 (some .int)) ({ frames := 5 + (d + 1), cells := 0, slots := 0, locals := 124 + 23 * (d + 1) }) (va_Pc [.ref h] (m_B (dC, dI) [(cB, .byte), (cC, .char), (cI, .int), (cJ, .long), (cZ, .boolean), (cP, .object "StoryHouse$Play")] sz h ad qK qS (mW cB cI cZ h qK qS ad σ) g_0)) (va_Qi (fun r (_ : Unit) => r = res.1) (fun _ t => va_P (dC, dI) vwCl (mW cB cI cZ h qK qS ad res.2) t.heap) (mCells h ad sz)) 0 0 (mCells h ad sz) := by
  refine Met.ofW (cc := cX12_term) (maxL := 4) (ret := (some .int)) (by decide) rfl ?_
  intro p e s m args below meth c s₁ B hml hv
  obtain ⟨rfl, hsz, hP, hK, hE, hKS, hX⟩ := hv
  have hx := B.exec
  have hb := B.bytes
  have hr := B.returns
  have hts0 := atoms_spec (ws := g_ws yX12_term cX12_term 4 (some .int)) B.pre
  have hts : ∀ w ∈ lw_good, w.before ([.ref h] : List Value).toArray s = true := fun w z => hts0 w (List.mem_cons_of_mem _ z)
  have hown : s.vm.findClass RX12 = some m.cls := findClass_of_methodNamed B.named
  have hlocks := B.notSynchronized
  have hS : va_S (mCells h ad sz) s.heap s.heap [] := va_S.rf
  have hl := lv_entry ([.ref h]) (n := 4) (Nat.le_of_ble_eq_true rfl)
  rw [lg_entry_eq]
  generalize (lg_sl ([.ref h]) ++ List.replicate (4 - (lg_sl ([.ref h])).length) Slot.unset).toArray = ls at hl ⊢
  have hl : lv_has ls 4 [(0, .ref h)] := hl
  unfold F_X12_term at hF
  refine lv_aload_n hx hb dX12_term_0 rfl (lv_at hl 0 rfl) ?_
  obtain ⟨u_1, hu_1, hF_2⟩ := Option.bind_eq_some_iff.mp hF
  clear hF
  refine m_ci hsz hS (va_runV (As := []) (rest := []) ⟨hx, hb, hml, hown, hts⟩ (hI6 s.heap.size σ _ hu_1) (cwV 0 hts (g_gV wq_1624 wq_1625 wq_2154 wq_13 wq_1626) rfl rfl rfl (by decide +kernel) ⟨by show 5 + d + 1 ≤ 5 + (d + 1); omega, by show 8 + (3 + 11) + (124 + 23 * d) ≤ 124 + 23 * (d + 1); omega⟩) (m_preV g_bl0 hsz hK hP hS hE hKS g_to0) rfl rfl hl.1 rfl (lv_room (Nat.le_of_ble_eq_true rfl)) dX12_term_1 ⟨Nat.le_of_ble_eq_true rfl, Nat.le_of_ble_eq_true rfl⟩) (fun H locs hP hS => ?_)
  refine lv_istore_n (lv' := [(1, .int u_1.1), (0, .ref h)]) hx hb dX12_term_4 rfl hl (by decide) rfl (fun ls hl => ?_)
  refine loopF_ind (P := fun (s_3 : Int32 × MS) => ∀ (H : Heap) (locs : List Loc), va_P (dC, dI) vwCl (mW cB cI cZ h qK qS ad s_3.2) H → va_S (mCells h ad sz) s.heap H locs → ∀ ls : Array Slot, lv_has ls 4 [(0, .ref h), (1, .int s_3.1)] → W p l e (headSpec (g_ws yX12_term cX12_term 4 (some .int)) { frames := 5 + (d + 1), cells := 0, slots := 0, locals := 124 + 23 * (d + 1) }).room s m ([.ref h] : List Value).toArray below meth c H locs 0 0 (MQ below (va_Qi (fun r (_ : Unit) => r = res.1) (fun _ t => va_P (dC, dI) vwCl (mW cB cI cZ h qK qS ad res.2) t.heap) (mCells h ad sz)) ([.ref h] : List Value).toArray s 0 0 (mCells h ad sz)) (F0 m 5 ls [])) ?_ _ _ hF_2 _ _ hP hS ls (lv_sub hl [1, 0] rfl)
  intro again_4 s_3 ih_5 hF_6
  intro H locs hP hS ls hl
  refine lv_aload_n hx hb dX12_term_5 rfl (lv_at hl 0 rfl) ?_
  refine lv_bipush (v := 42) hx hb dX12_term_6 (by decide +kernel) ?_
  obtain ⟨u_7, hu_7, hF_8⟩ := Option.bind_eq_some_iff.mp hF_6
  clear hF_6
  refine m_ci hsz hS (va_runV (As := [.int 42]) (rest := []) ⟨hx, hb, hml, hown, hts⟩ (m_X12_isSign l dC dI cB cC cI cJ cZ cP h qK qS ad hDD H.size  42 s_3.2 _ hu_7) (cwV 1 hts (g_gV wq_1558 wq_1559 wq_2132 wq_13 wq_1560) rfl rfl rfl (by decide +kernel) ⟨by show 1 + 1 ≤ 5 + (d + 1); omega, by show 8 + (2 + 11) + 40 ≤ 124 + 23 * (d + 1); omega⟩) (m_preV g_bl0 hsz hK hP hS hE hKS g_to0) rfl rfl hl.1 rfl (lv_room (Nat.le_of_ble_eq_true rfl)) dX12_term_8 ⟨Nat.le_of_ble_eq_true rfl, Nat.le_of_ble_eq_true rfl⟩) (fun H locs hP hS => ?_)
  obtain ⟨j_10, ej_10, hF_11⟩ := bnd_e hF_8
  clear hF_8
  have Jj_10 : ∀  (σ_9 : MS), j_10  σ_9 = some res → ∀ (H : Heap) (locs : List Loc), va_P (dC, dI) vwCl (mW cB cI cZ h qK qS ad σ_9) H → va_S (mCells h ad sz) s.heap H locs → ∀ ls : Array Slot, lv_has ls 4 [(0, .ref h), (1, .int s_3.1)] → W p l e (headSpec (g_ws yX12_term cX12_term 4 (some .int)) { frames := 5 + (d + 1), cells := 0, slots := 0, locals := 124 + 23 * (d + 1) }).room s m ([.ref h] : List Value).toArray below meth c H locs 0 0 (MQ below (va_Qi (fun r (_ : Unit) => r = res.1) (fun _ t => va_P (dC, dI) vwCl (mW cB cI cZ h qK qS ad res.2) t.heap) (mCells h ad sz)) ([.ref h] : List Value).toArray s 0 0 (mCells h ad sz)) (F0 m 32 ls []) := by
    intro  σ_9 hF0 H locs hP hS ls hl
    subst ej_10
    have hF_12 := hF0
    clear hF0
    refine lv_aload_n hx hb dX12_term_32 rfl (lv_at hl 0 rfl) ?_
    refine va_get (D := (dC, dI)) (ci := 12) (v := .ref (ad 8)) (C := RX12) (T := TX12) (N := 123) hx hb hts ii_X12 hown hK hP 0 rfl rfl 8 (by decide) (hts (.fieldLink RX12 31 "StoryHouseModel" "tokAt" "[I") wq_1364) (fun _ h9 => h9) rfl dX12_term_33 ?_
    refine lv_aload_n hx hb dX12_term_36 rfl (lv_at hl 0 rfl) ?_
    refine va_get (D := (dC, dI)) (ci := 12) (v := .int (σ_9.1 25)) (C := RX12) (T := TX12) (N := 123) hx hb hts ii_X12 hown hK hP 0 rfl rfl 25 (by decide) (hts (.fieldLink RX12 314 "StoryHouseModel" "at" "I") wq_1381) (fun _ h9 => h9) rfl dX12_term_37 ?_
    obtain ⟨x_13, ex_13, hF_14⟩ := bnd_e hF_12
    clear hF_12
    refine m_top ex_13 ?_
    obtain ⟨g_15, hF_16⟩ := nif_e hF_14
    clear hF_14
    refine va_iald (f := σ_9.2 8) hx hb hK hP 4 2 rfl rfl g_15 dX12_term_40 ?_
    obtain ⟨x_17, ex_17, hF_18⟩ := bnd_e hF_16
    clear hF_16
    refine m_top ex_17 ?_
    refine lv_istore_n (lv' := [(2, .int x_17), (0, .ref h), (1, .int s_3.1)]) hx hb dX12_term_41 rfl hl (by decide) rfl (fun ls hl => ?_)
    refine lv_aload_n hx hb dX12_term_42 rfl (lv_at hl 1 rfl) ?_
    refine va_get (D := (dC, dI)) (ci := 12) (v := .ref (ad 9)) (C := RX12) (T := TX12) (N := 123) hx hb hts ii_X12 hown hK hP 0 rfl rfl 9 (by decide) (hts (.fieldLink RX12 34 "StoryHouseModel" "tokValue" "[I") wq_1365) (fun _ h9 => h9) rfl dX12_term_43 ?_
    refine lv_aload_n hx hb dX12_term_46 rfl (lv_at hl 1 rfl) ?_
    refine lv_dup hx hb dX12_term_47 rfl ?_
    refine va_get (D := (dC, dI)) (ci := 12) (v := .int (σ_9.1 25)) (C := RX12) (T := TX12) (N := 123) hx hb hts ii_X12 hown hK hP 0 rfl rfl 25 (by decide) (hts (.fieldLink RX12 314 "StoryHouseModel" "at" "I") wq_1381) (fun _ h9 => h9) rfl dX12_term_48 ?_
    refine lv_dup_x1 hx hb dX12_term_51 rfl rfl ?_
    refine lv_iconst (v := 1) hx hb dX12_term_52 (by decide +kernel) ?_
    refine lv_iadd hx hb dX12_term_53 ?_
    obtain ⟨σ_19, eσ_19, hF_20⟩ := bnd_e hF_18
    clear hF_18
    refine m_put (σ' := σ_19) (v := .int ((σ_9.1 25) + 1)) (ty := .int) hx hb hts hown hK hP (hDD _ _) hS (by rw [eσ_19]; exact mwI_25) (k := 25) (by decide) (hts (.fieldLink RX12 314 "StoryHouseModel" "at" "I") wq_1381) (fun _ h9 => h9) rfl (by decide +kernel) rfl rfl dX12_term_54 (fun H locs hP hS => ?_)
    obtain ⟨x_21, ex_21, hF_22⟩ := bnd_e hF_20
    clear hF_20
    refine m_top ex_21 ?_
    obtain ⟨g_23, hF_24⟩ := nif_e hF_22
    clear hF_22
    refine va_iald (f := σ_19.2 9) hx hb hK hP 5 2 rfl rfl g_23 dX12_term_57 ?_
    obtain ⟨x_25, ex_25, hF_26⟩ := bnd_e hF_24
    clear hF_24
    refine m_top ex_25 ?_
    refine lv_istore_n (lv' := [(3, .int x_25), (2, .int x_17), (0, .ref h), (1, .int s_3.1)]) hx hb dX12_term_58 rfl hl (by decide) rfl (fun ls hl => ?_)
    refine lv_aload_n hx hb dX12_term_59 rfl (lv_at hl 2 rfl) ?_
    refine lv_bipush (v := 56) hx hb dX12_term_60 (by decide +kernel) ?_
    refine lv_iload_n hx hb dX12_term_62 rfl (lv_at hl 1 rfl) ?_
    refine lv_iload_n hx hb dX12_term_63 rfl (lv_at hl 3 rfl) ?_
    refine lv_aload_n hx hb dX12_term_64 rfl (lv_at hl 2 rfl) ?_
    obtain ⟨u_27, hu_27, hF_28⟩ := Option.bind_eq_some_iff.mp hF_26
    clear hF_26
    refine m_ci hsz hS (va_runV (As := []) (rest := [.int s_3.1, .int x_17, .int 56, .ref h]) ⟨hx, hb, hml, hown, hts⟩ (hI6 H.size σ_19 _ hu_27) (cwV 0 hts (g_gV wq_1624 wq_1625 wq_2154 wq_13 wq_1626) rfl rfl rfl (by decide +kernel) ⟨by show 5 + d + 1 ≤ 5 + (d + 1); omega, by show 8 + (3 + 11) + (124 + 23 * d) ≤ 124 + 23 * (d + 1); omega⟩) (m_preV g_bl0 hsz hK hP hS hE hKS g_to0) rfl rfl hl.1 rfl (lv_room (Nat.le_of_ble_eq_true rfl)) dX12_term_65 ⟨Nat.le_of_ble_eq_true rfl, Nat.le_of_ble_eq_true rfl⟩) (fun H locs hP hS => ?_)
    refine lv_iload_n hx hb dX12_term_68 rfl (lv_at hl 0 rfl) ?_
    obtain ⟨u_29, hu_29, hF_30⟩ := Option.bind_eq_some_iff.mp hF_28
    clear hF_28
    refine m_ci hsz hS (va_runV (As := [.int 56, .int x_17, .int s_3.1, .int u_27.1, .int x_25]) (rest := []) ⟨hx, hb, hml, hown, hts⟩ (m_X12_two l dC dI cB cC cI cJ cZ cP h qK qS ad hDD H.size  56 x_17 s_3.1 u_27.1 x_25 u_27.2 _ hu_29) (cwV 5 hts (g_gV wq_1627 wq_1628 wq_2155 wq_13 wq_1629) rfl rfl rfl (by decide +kernel) ⟨by show 2 + 1 ≤ 5 + (d + 1); omega, by show 8 + (7 + 11) + 62 ≤ 124 + 23 * (d + 1); omega⟩) (m_preV g_bl0 hsz hK hP hS hE hKS g_to0) rfl rfl hl.1 rfl (lv_room (Nat.le_of_ble_eq_true rfl)) dX12_term_69 ⟨Nat.le_of_ble_eq_true rfl, Nat.le_of_ble_eq_true rfl⟩) (fun H locs hP hS => ?_)
    refine lv_istore_n (lv' := [(1, .int u_29.1), (3, .int x_25), (2, .int x_17), (0, .ref h)]) hx hb dX12_term_72 rfl hl (by decide) rfl (fun ls hl => ?_)
    refine lv_goto (tgt := 5) hx hb dX12_term_73 (by decide) ?_
    exact ih_5 (u_29.1, u_29.2) hF_30 _ _ hP hS ls (lv_sub hl [3, 0] rfl)
  refine lv_if_ne (tgt := 32) hx hb dX12_term_11 (by decide) (fun c_31 => ?_) (fun c_31 => ?_)
  · have hF_43 := ineg c_31 hF_11
    clear hF_11
    exact Jj_10  u_7.2 hF_43 _ _ hP hS ls (lv_sub hl [0, 1] rfl)
  · have hF_32 := ipos c_31 hF_11
    clear hF_11
    refine lv_aload_n hx hb dX12_term_14 rfl (lv_at hl 0 rfl) ?_
    refine lv_bipush (v := 47) hx hb dX12_term_15 (by decide +kernel) ?_
    obtain ⟨u_33, hu_33, hF_34⟩ := Option.bind_eq_some_iff.mp hF_32
    clear hF_32
    refine m_ci hsz hS (va_runV (As := [.int 47]) (rest := []) ⟨hx, hb, hml, hown, hts⟩ (m_X12_isSign l dC dI cB cC cI cJ cZ cP h qK qS ad hDD H.size  47 u_7.2 _ hu_33) (cwV 1 hts (g_gV wq_1558 wq_1559 wq_2132 wq_13 wq_1560) rfl rfl rfl (by decide +kernel) ⟨by show 1 + 1 ≤ 5 + (d + 1); omega, by show 8 + (2 + 11) + 40 ≤ 124 + 23 * (d + 1); omega⟩) (m_preV g_bl0 hsz hK hP hS hE hKS g_to0) rfl rfl hl.1 rfl (lv_room (Nat.le_of_ble_eq_true rfl)) dX12_term_17 ⟨Nat.le_of_ble_eq_true rfl, Nat.le_of_ble_eq_true rfl⟩) (fun H locs hP hS => ?_)
    refine lv_if_ne (tgt := 32) hx hb dX12_term_20 (by decide) (fun c_35 => ?_) (fun c_35 => ?_)
    · have hF_42 := ineg c_35 hF_34
      clear hF_34
      exact Jj_10  u_33.2 hF_42 _ _ hP hS ls (lv_sub hl [0, 1] rfl)
    · have hF_36 := ipos c_35 hF_34
      clear hF_34
      refine lv_aload_n hx hb dX12_term_23 rfl (lv_at hl 0 rfl) ?_
      refine lv_bipush (v := 37) hx hb dX12_term_24 (by decide +kernel) ?_
      obtain ⟨u_37, hu_37, hF_38⟩ := Option.bind_eq_some_iff.mp hF_36
      clear hF_36
      refine m_ci hsz hS (va_runV (As := [.int 37]) (rest := []) ⟨hx, hb, hml, hown, hts⟩ (m_X12_isSign l dC dI cB cC cI cJ cZ cP h qK qS ad hDD H.size  37 u_33.2 _ hu_37) (cwV 1 hts (g_gV wq_1558 wq_1559 wq_2132 wq_13 wq_1560) rfl rfl rfl (by decide +kernel) ⟨by show 1 + 1 ≤ 5 + (d + 1); omega, by show 8 + (2 + 11) + 40 ≤ 124 + 23 * (d + 1); omega⟩) (m_preV g_bl0 hsz hK hP hS hE hKS g_to0) rfl rfl hl.1 rfl (lv_room (Nat.le_of_ble_eq_true rfl)) dX12_term_26 ⟨Nat.le_of_ble_eq_true rfl, Nat.le_of_ble_eq_true rfl⟩) (fun H locs hP hS => ?_)
      refine lv_if_eq (tgt := 76) hx hb dX12_term_29 (by decide) (fun c_39 => ?_) (fun c_39 => ?_)
      · have hF_40 := ipos c_39 hF_38
        clear hF_38
        refine lv_iload_n hx hb dX12_term_76 rfl (lv_at hl 1 rfl) ?_
        have h9 := Option.some.inj hF_40
        subst h9
        exact W.iret (v := s_3.1) hx hb hr (fun t ht hW => ⟨⟨s_3.1, (), rfl, rfl, m_end ht hP⟩, hS.F ht⟩) hS.2.2 dX12_term_77
      · have hF_41 := ineg c_39 hF_38
        clear hF_38
        exact Jj_10  u_37.2 hF_41 _ _ hP hS ls (lv_sub hl [0, 1] rfl)

def F_X12_factor (rec : GF)  (σ : MS) : MR :=
  (F_X12_isSign 45 σ).bind fun u_1 =>
  if u_1.1 = 0 then (
    (rec 7 0 0 0 u_1.2).bind fun u_5 =>
    some (u_5.1, u_5.2)
  ) else (
    bnd ((u_1.2.1 25)) fun (x_8 : Int32) =>
    if x_8 < 0 ∨ 16010 ≤ x_8.toNatClampNeg then none else
    bnd ((u_1.2.2 8 x_8.toNatClampNeg)) fun (x_12 : Int32) =>
    (F_X12_opens u_1.2).bind fun u_14 =>
    bnd (mI u_14.2 25 ((u_14.2.1 25) + 1)) fun σ_16 =>
    (rec 6 0 0 0 σ_16).bind fun u_18 =>
    (F_X12_two 52 x_12 u_18.1 (-1) 0 u_18.2).bind fun u_20 =>
    bnd (mI u_20.2 26 ((u_20.2.1 26) - 1)) fun σ_22 =>
    some (u_20.1, σ_22)
  )
set_option maxHeartbeats 4000000 in
set_option maxRecDepth 100000 in
theorem m_X12_factor_st (l : Launch) (dC : Nat → ClassId) (dI : Nat → Nat → Nat) (cB cC cI cJ cZ cP : ClassId) (h qK qS : Nat) (ad : Nat → Nat) (hDD : mDis cB cI cZ h qK qS ad) (d : Nat) (rec : GF) (hI0 : ∀ (sz : Nat)  (σ : MS) (res : Int32 × MS), rec 0 0 0 0 σ = some res → Met l yX12_expression (g_ws yX12_expression cX12_expression 3 (some .int)) ({ frames := 5 + d, cells := 0, slots := 0, locals := 124 + 23 * d }) (va_Pc [.ref h] (m_B (dC, dI) [(cB, .byte), (cC, .char), (cI, .int), (cJ, .long), (cZ, .boolean), (cP, .object "StoryHouse$Play")] sz h ad qK qS (mW cB cI cZ h qK qS ad σ) g_0)) (va_Qi (fun r (_ : Unit) => r = res.1) (fun _ t => va_P (dC, dI) vwCl (mW cB cI cZ h qK qS ad res.2) t.heap) (mCells h ad sz)) 0 0 (mCells h ad sz)) (hI1 : ∀ (sz : Nat)  (σ : MS) (res : Int32 × MS), rec 1 0 0 0 σ = some res → Met l yX12_both (g_ws yX12_both cX12_both 3 (some .int)) ({ frames := 5 + d, cells := 0, slots := 0, locals := 124 + 23 * d }) (va_Pc [.ref h] (m_B (dC, dI) [(cB, .byte), (cC, .char), (cI, .int), (cJ, .long), (cZ, .boolean), (cP, .object "StoryHouse$Play")] sz h ad qK qS (mW cB cI cZ h qK qS ad σ) g_0)) (va_Qi (fun r (_ : Unit) => r = res.1) (fun _ t => va_P (dC, dI) vwCl (mW cB cI cZ h qK qS ad res.2) t.heap) (mCells h ad sz)) 0 0 (mCells h ad sz)) (hI2 : ∀ (sz : Nat)  (σ : MS) (res : Int32 × MS), rec 2 0 0 0 σ = some res → Met l yX12_step (g_ws yX12_step cX12_step 3 (some .int)) ({ frames := 5 + d, cells := 0, slots := 0, locals := 124 + 23 * d }) (va_Pc [.ref h] (m_B (dC, dI) [(cB, .byte), (cC, .char), (cI, .int), (cJ, .long), (cZ, .boolean), (cP, .object "StoryHouse$Play")] sz h ad qK qS (mW cB cI cZ h qK qS ad σ) g_0)) (va_Qi (fun r (_ : Unit) => r = res.1) (fun _ t => va_P (dC, dI) vwCl (mW cB cI cZ h qK qS ad res.2) t.heap) (mCells h ad sz)) 0 0 (mCells h ad sz)) (hI3 : ∀ (sz : Nat)  (σ : MS) (res : Int32 × MS), rec 3 0 0 0 σ = some res → Met l yX12_comparison (g_ws yX12_comparison cX12_comparison 4 (some .int)) ({ frames := 5 + d, cells := 0, slots := 0, locals := 124 + 23 * d }) (va_Pc [.ref h] (m_B (dC, dI) [(cB, .byte), (cC, .char), (cI, .int), (cJ, .long), (cZ, .boolean), (cP, .object "StoryHouse$Play")] sz h ad qK qS (mW cB cI cZ h qK qS ad σ) g_0)) (va_Qi (fun r (_ : Unit) => r = res.1) (fun _ t => va_P (dC, dI) vwCl (mW cB cI cZ h qK qS ad res.2) t.heap) (mCells h ad sz)) 0 0 (mCells h ad sz)) (hI4 : ∀ (sz : Nat)  (σ : MS) (res : Int32 × MS), rec 4 0 0 0 σ = some res → Met l yX12_sum (g_ws yX12_sum cX12_sum 4 (some .int)) ({ frames := 5 + d, cells := 0, slots := 0, locals := 124 + 23 * d }) (va_Pc [.ref h] (m_B (dC, dI) [(cB, .byte), (cC, .char), (cI, .int), (cJ, .long), (cZ, .boolean), (cP, .object "StoryHouse$Play")] sz h ad qK qS (mW cB cI cZ h qK qS ad σ) g_0)) (va_Qi (fun r (_ : Unit) => r = res.1) (fun _ t => va_P (dC, dI) vwCl (mW cB cI cZ h qK qS ad res.2) t.heap) (mCells h ad sz)) 0 0 (mCells h ad sz)) (hI5 : ∀ (sz : Nat)  (σ : MS) (res : Int32 × MS), rec 5 0 0 0 σ = some res → Met l yX12_term (g_ws yX12_term cX12_term 4 (some .int)) ({ frames := 5 + d, cells := 0, slots := 0, locals := 124 + 23 * d }) (va_Pc [.ref h] (m_B (dC, dI) [(cB, .byte), (cC, .char), (cI, .int), (cJ, .long), (cZ, .boolean), (cP, .object "StoryHouse$Play")] sz h ad qK qS (mW cB cI cZ h qK qS ad σ) g_0)) (va_Qi (fun r (_ : Unit) => r = res.1) (fun _ t => va_P (dC, dI) vwCl (mW cB cI cZ h qK qS ad res.2) t.heap) (mCells h ad sz)) 0 0 (mCells h ad sz)) (hI6 : ∀ (sz : Nat)  (σ : MS) (res : Int32 × MS), rec 6 0 0 0 σ = some res → Met l yX12_factor (g_ws yX12_factor cX12_factor 3 (some .int)) ({ frames := 5 + d, cells := 0, slots := 0, locals := 124 + 23 * d }) (va_Pc [.ref h] (m_B (dC, dI) [(cB, .byte), (cC, .char), (cI, .int), (cJ, .long), (cZ, .boolean), (cP, .object "StoryHouse$Play")] sz h ad qK qS (mW cB cI cZ h qK qS ad σ) g_0)) (va_Qi (fun r (_ : Unit) => r = res.1) (fun _ t => va_P (dC, dI) vwCl (mW cB cI cZ h qK qS ad res.2) t.heap) (mCells h ad sz)) 0 0 (mCells h ad sz)) (hI7 : ∀ (sz : Nat)  (σ : MS) (res : Int32 × MS), rec 7 0 0 0 σ = some res → Met l yX12_primary (g_ws yX12_primary cX12_primary 4 (some .int)) ({ frames := 5 + d, cells := 0, slots := 0, locals := 124 + 23 * d }) (va_Pc [.ref h] (m_B (dC, dI) [(cB, .byte), (cC, .char), (cI, .int), (cJ, .long), (cZ, .boolean), (cP, .object "StoryHouse$Play")] sz h ad qK qS (mW cB cI cZ h qK qS ad σ) g_0)) (va_Qi (fun r (_ : Unit) => r = res.1) (fun _ t => va_P (dC, dI) vwCl (mW cB cI cZ h qK qS ad res.2) t.heap) (mCells h ad sz)) 0 0 (mCells h ad sz)) (hI8 : ∀ (sz : Nat)  (σ : MS) (res : Int32 × MS), rec 8 0 0 0 σ = some res → Met l yX12_arguments (g_ws yX12_arguments cX12_arguments 4 (some .int)) ({ frames := 5 + d, cells := 0, slots := 0, locals := 124 + 23 * d }) (va_Pc [.ref h] (m_B (dC, dI) [(cB, .byte), (cC, .char), (cI, .int), (cJ, .long), (cZ, .boolean), (cP, .object "StoryHouse$Play")] sz h ad qK qS (mW cB cI cZ h qK qS ad σ) g_0)) (va_Qi (fun r (_ : Unit) => r = res.1) (fun _ t => va_P (dC, dI) vwCl (mW cB cI cZ h qK qS ad res.2) t.heap) (mCells h ad sz)) 0 0 (mCells h ad sz)) (sz : Nat)   (σ : MS) (res : Int32 × MS) (hF : F_X12_factor rec  σ = some res) : Met l yX12_factor (g_ws yX12_factor cX12_factor 3 (some .int)) ({ frames := 5 + (d + 1), cells := 0, slots := 0, locals := 124 + 23 * (d + 1) }) (va_Pc [.ref h] (m_B (dC, dI) [(cB, .byte), (cC, .char), (cI, .int), (cJ, .long), (cZ, .boolean), (cP, .object "StoryHouse$Play")] sz h ad qK qS (mW cB cI cZ h qK qS ad σ) g_0)) (va_Qi (fun r (_ : Unit) => r = res.1) (fun _ t => va_P (dC, dI) vwCl (mW cB cI cZ h qK qS ad res.2) t.heap) (mCells h ad sz)) 0 0 (mCells h ad sz) := by
  refine Met.ofW (cc := cX12_factor) (maxL := 3) (ret := (some .int)) (by decide) rfl ?_
  intro p e s m args below meth c s₁ B hml hv
  obtain ⟨rfl, hsz, hP, hK, hE, hKS, hX⟩ := hv
  have hx := B.exec
  have hb := B.bytes
  have hr := B.returns
  have hts0 := atoms_spec (ws := g_ws yX12_factor cX12_factor 3 (some .int)) B.pre
  have hts : ∀ w ∈ lw_good, w.before ([.ref h] : List Value).toArray s = true := fun w z => hts0 w (List.mem_cons_of_mem _ z)
  have hown : s.vm.findClass RX12 = some m.cls := findClass_of_methodNamed B.named
  have hlocks := B.notSynchronized
  have hS : va_S (mCells h ad sz) s.heap s.heap [] := va_S.rf
  have hl := lv_entry ([.ref h]) (n := 3) (Nat.le_of_ble_eq_true rfl)
  rw [lg_entry_eq]
  generalize (lg_sl ([.ref h]) ++ List.replicate (3 - (lg_sl ([.ref h])).length) Slot.unset).toArray = ls at hl ⊢
  have hl : lv_has ls 3 [(0, .ref h)] := hl
  unfold F_X12_factor at hF
  refine lv_aload_n hx hb dX12_factor_0 rfl (lv_at hl 0 rfl) ?_
  refine lv_bipush (v := 45) hx hb dX12_factor_1 (by decide +kernel) ?_
  obtain ⟨u_1, hu_1, hF_2⟩ := Option.bind_eq_some_iff.mp hF
  clear hF
  refine m_ci hsz hS (va_runV (As := [.int 45]) (rest := []) ⟨hx, hb, hml, hown, hts⟩ (m_X12_isSign l dC dI cB cC cI cJ cZ cP h qK qS ad hDD s.heap.size  45 σ _ hu_1) (cwV 1 hts (g_gV wq_1558 wq_1559 wq_2132 wq_13 wq_1560) rfl rfl rfl (by decide +kernel) ⟨by show 1 + 1 ≤ 5 + (d + 1); omega, by show 8 + (2 + 11) + 40 ≤ 124 + 23 * (d + 1); omega⟩) (m_preV g_bl0 hsz hK hP hS hE hKS g_to0) rfl rfl hl.1 rfl (lv_room (Nat.le_of_ble_eq_true rfl)) dX12_factor_3 ⟨Nat.le_of_ble_eq_true rfl, Nat.le_of_ble_eq_true rfl⟩) (fun H locs hP hS => ?_)
  refine lv_if_ne (tgt := 14) hx hb dX12_factor_6 (by decide) (fun c_3 => ?_) (fun c_3 => ?_)
  · have hF_7 := ineg c_3 hF_2
    clear hF_2
    refine lv_aload_n hx hb dX12_factor_14 rfl (lv_at hl 0 rfl) ?_
    refine va_get (D := (dC, dI)) (ci := 12) (v := .ref (ad 8)) (C := RX12) (T := TX12) (N := 123) hx hb hts ii_X12 hown hK hP 0 rfl rfl 8 (by decide) (hts (.fieldLink RX12 31 "StoryHouseModel" "tokAt" "[I") wq_1364) (fun _ h9 => h9) rfl dX12_factor_15 ?_
    refine lv_aload_n hx hb dX12_factor_18 rfl (lv_at hl 0 rfl) ?_
    refine va_get (D := (dC, dI)) (ci := 12) (v := .int (u_1.2.1 25)) (C := RX12) (T := TX12) (N := 123) hx hb hts ii_X12 hown hK hP 0 rfl rfl 25 (by decide) (hts (.fieldLink RX12 314 "StoryHouseModel" "at" "I") wq_1381) (fun _ h9 => h9) rfl dX12_factor_19 ?_
    obtain ⟨x_8, ex_8, hF_9⟩ := bnd_e hF_7
    clear hF_7
    refine m_top ex_8 ?_
    obtain ⟨g_10, hF_11⟩ := nif_e hF_9
    clear hF_9
    refine va_iald (f := u_1.2.2 8) hx hb hK hP 4 2 rfl rfl g_10 dX12_factor_22 ?_
    obtain ⟨x_12, ex_12, hF_13⟩ := bnd_e hF_11
    clear hF_11
    refine m_top ex_12 ?_
    refine lv_istore_n (lv' := [(1, .int x_12), (0, .ref h)]) hx hb dX12_factor_23 rfl hl (by decide) rfl (fun ls hl => ?_)
    refine lv_aload_n hx hb dX12_factor_24 rfl (lv_at hl 1 rfl) ?_
    obtain ⟨u_14, hu_14, hF_15⟩ := Option.bind_eq_some_iff.mp hF_13
    clear hF_13
    refine m_cv hsz hS (va_runV (As := []) (rest := []) ⟨hx, hb, hml, hown, hts⟩ (m_X12_opens l dC dI cB cC cI cJ cZ cP h qK qS ad hDD H.size  u_1.2 _ hu_14) (cwV 0 hts (g_gV wq_1561 wq_1562 wq_2133 wq_13 wq_1563) rfl rfl rfl (by decide +kernel) ⟨by show 2 + 1 ≤ 5 + (d + 1); omega, by show 8 + (1 + 11) + 62 ≤ 124 + 23 * (d + 1); omega⟩) (m_preV g_bl0 hsz hK hP hS hE hKS g_to0) rfl rfl hl.1 rfl (lv_room (Nat.le_of_ble_eq_true rfl)) dX12_factor_25 ⟨Nat.le_of_ble_eq_true rfl, Nat.le_of_ble_eq_true rfl⟩) (fun H locs hP hS => ?_)
    refine lv_aload_n hx hb dX12_factor_28 rfl (lv_at hl 1 rfl) ?_
    refine lv_dup hx hb dX12_factor_29 rfl ?_
    refine va_get (D := (dC, dI)) (ci := 12) (v := .int (u_14.2.1 25)) (C := RX12) (T := TX12) (N := 123) hx hb hts ii_X12 hown hK hP 0 rfl rfl 25 (by decide) (hts (.fieldLink RX12 314 "StoryHouseModel" "at" "I") wq_1381) (fun _ h9 => h9) rfl dX12_factor_30 ?_
    refine lv_iconst (v := 1) hx hb dX12_factor_33 (by decide +kernel) ?_
    refine lv_iadd hx hb dX12_factor_34 ?_
    obtain ⟨σ_16, eσ_16, hF_17⟩ := bnd_e hF_15
    clear hF_15
    refine m_put (σ' := σ_16) (v := .int ((u_14.2.1 25) + 1)) (ty := .int) hx hb hts hown hK hP (hDD _ _) hS (by rw [eσ_16]; exact mwI_25) (k := 25) (by decide) (hts (.fieldLink RX12 314 "StoryHouseModel" "at" "I") wq_1381) (fun _ h9 => h9) rfl (by decide +kernel) rfl rfl dX12_factor_35 (fun H locs hP hS => ?_)
    refine lv_aload_n hx hb dX12_factor_38 rfl (lv_at hl 1 rfl) ?_
    refine lv_bipush (v := 52) hx hb dX12_factor_39 (by decide +kernel) ?_
    refine lv_iload_n hx hb dX12_factor_41 rfl (lv_at hl 0 rfl) ?_
    refine lv_aload_n hx hb dX12_factor_42 rfl (lv_at hl 1 rfl) ?_
    obtain ⟨u_18, hu_18, hF_19⟩ := Option.bind_eq_some_iff.mp hF_17
    clear hF_17
    refine m_ci hsz hS (va_runV (As := []) (rest := [.int x_12, .int 52, .ref h]) ⟨hx, hb, hml, hown, hts⟩ (hI6 H.size σ_16 _ hu_18) (cwV 0 hts (g_gV wq_1624 wq_1625 wq_2154 wq_13 wq_1626) rfl rfl rfl (by decide +kernel) ⟨by show 5 + d + 1 ≤ 5 + (d + 1); omega, by show 8 + (3 + 11) + (124 + 23 * d) ≤ 124 + 23 * (d + 1); omega⟩) (m_preV g_bl0 hsz hK hP hS hE hKS g_to0) rfl rfl hl.1 rfl (lv_room (Nat.le_of_ble_eq_true rfl)) dX12_factor_43 ⟨Nat.le_of_ble_eq_true rfl, Nat.le_of_ble_eq_true rfl⟩) (fun H locs hP hS => ?_)
    refine lv_iconst (v := (-1)) hx hb dX12_factor_46 (by decide +kernel) ?_
    refine lv_iconst (v := 0) hx hb dX12_factor_47 (by decide +kernel) ?_
    obtain ⟨u_20, hu_20, hF_21⟩ := Option.bind_eq_some_iff.mp hF_19
    clear hF_19
    refine m_ci hsz hS (va_runV (As := [.int 52, .int x_12, .int u_18.1, .int (-1), .int 0]) (rest := []) ⟨hx, hb, hml, hown, hts⟩ (m_X12_two l dC dI cB cC cI cJ cZ cP h qK qS ad hDD H.size  52 x_12 u_18.1 (-1) 0 u_18.2 _ hu_20) (cwV 5 hts (g_gV wq_1627 wq_1628 wq_2155 wq_13 wq_1629) rfl rfl rfl (by decide +kernel) ⟨by show 2 + 1 ≤ 5 + (d + 1); omega, by show 8 + (7 + 11) + 62 ≤ 124 + 23 * (d + 1); omega⟩) (m_preV g_bl0 hsz hK hP hS hE hKS g_to0) rfl rfl hl.1 rfl (lv_room (Nat.le_of_ble_eq_true rfl)) dX12_factor_48 ⟨Nat.le_of_ble_eq_true rfl, Nat.le_of_ble_eq_true rfl⟩) (fun H locs hP hS => ?_)
    refine lv_istore_n (lv' := [(2, .int u_20.1), (1, .int x_12), (0, .ref h)]) hx hb dX12_factor_51 rfl hl (by decide) rfl (fun ls hl => ?_)
    refine lv_aload_n hx hb dX12_factor_52 rfl (lv_at hl 2 rfl) ?_
    refine lv_dup hx hb dX12_factor_53 rfl ?_
    refine va_get (D := (dC, dI)) (ci := 12) (v := .int (u_20.2.1 26)) (C := RX12) (T := TX12) (N := 123) hx hb hts ii_X12 hown hK hP 0 rfl rfl 26 (by decide) (hts (.fieldLink RX12 336 "StoryHouseModel" "depth" "I") wq_1382) (fun _ h9 => h9) rfl dX12_factor_54 ?_
    refine lv_iconst (v := 1) hx hb dX12_factor_57 (by decide +kernel) ?_
    refine lv_isub hx hb dX12_factor_58 ?_
    obtain ⟨σ_22, eσ_22, hF_23⟩ := bnd_e hF_21
    clear hF_21
    refine m_put (σ' := σ_22) (v := .int ((u_20.2.1 26) - 1)) (ty := .int) hx hb hts hown hK hP (hDD _ _) hS (by rw [eσ_22]; exact mwI_26) (k := 26) (by decide) (hts (.fieldLink RX12 336 "StoryHouseModel" "depth" "I") wq_1382) (fun _ h9 => h9) rfl (by decide +kernel) rfl rfl dX12_factor_59 (fun H locs hP hS => ?_)
    refine lv_iload_n hx hb dX12_factor_62 rfl (lv_at hl 0 rfl) ?_
    have h9 := Option.some.inj hF_23
    subst h9
    exact W.iret (v := u_20.1) hx hb hr (fun t ht hW => ⟨⟨u_20.1, (), rfl, rfl, m_end ht hP⟩, hS.F ht⟩) hS.2.2 dX12_factor_63
  · have hF_4 := ipos c_3 hF_2
    clear hF_2
    refine lv_aload_n hx hb dX12_factor_9 rfl (lv_at hl 0 rfl) ?_
    obtain ⟨u_5, hu_5, hF_6⟩ := Option.bind_eq_some_iff.mp hF_4
    clear hF_4
    refine m_ci hsz hS (va_runV (As := []) (rest := []) ⟨hx, hb, hml, hown, hts⟩ (hI7 H.size u_1.2 _ hu_5) (cwV 0 hts (g_gV wq_1600 wq_1601 wq_2146 wq_13 wq_1602) rfl rfl rfl (by decide +kernel) ⟨by show 5 + d + 1 ≤ 5 + (d + 1); omega, by show 8 + (4 + 11) + (124 + 23 * d) ≤ 124 + 23 * (d + 1); omega⟩) (m_preV g_bl0 hsz hK hP hS hE hKS g_to0) rfl rfl hl.1 rfl (lv_room (Nat.le_of_ble_eq_true rfl)) dX12_factor_10 ⟨Nat.le_of_ble_eq_true rfl, Nat.le_of_ble_eq_true rfl⟩) (fun H locs hP hS => ?_)
    have h9 := Option.some.inj hF_6
    subst h9
    exact W.iret (v := u_5.1) hx hb hr (fun t ht hW => ⟨⟨u_5.1, (), rfl, rfl, m_end ht hP⟩, hS.F ht⟩) hS.2.2 dX12_factor_13

def F_X12_primary (rec : GF)  (σ : MS) : MR :=
  bnd ((σ.1 25)) fun (x_1 : Int32) =>
  if x_1 < 0 ∨ 16010 ≤ x_1.toNatClampNeg then none else
  bnd ((σ.2 8 x_1.toNatClampNeg)) fun (x_5 : Int32) =>
  (F_X12_node 40 x_5 σ).bind fun u_7 =>
  if (u_7.2.1 27) = 0 then (
    bnd ((u_7.2.1 25)) fun (x_11 : Int32) =>
    if x_11 < 0 ∨ 16010 ≤ x_11.toNatClampNeg then none else
    if (u_7.2.2 7 x_11.toNatClampNeg) = 3 then (
      bnd (mI u_7.2 25 ((u_7.2.1 25) + 1)) fun σ_17 =>
      bnd ((u_7.2.1 25)) fun (x_19 : Int32) =>
      if x_19 < 0 ∨ 16010 ≤ x_19.toNatClampNeg then none else
      if u_7.1 < 0 ∨ 40000 ≤ u_7.1.toNatClampNeg then none else
      bnd (mA σ_17 19 (upd (σ_17.2 19) u_7.1.toNatClampNeg (σ_17.2 9 x_19.toNatClampNeg))) fun σ_25 =>
      some (u_7.1, σ_25)
    ) else (
      bnd ((u_7.2.1 25)) fun (x_28 : Int32) =>
      if x_28 < 0 ∨ 16010 ≤ x_28.toNatClampNeg then none else
      if (u_7.2.2 7 x_28.toNatClampNeg) = 2 then (
        if u_7.1 < 0 ∨ 40000 ≤ u_7.1.toNatClampNeg then none else
        bnd (mA u_7.2 17 (upd (u_7.2.2 17) u_7.1.toNatClampNeg 41)) fun σ_36 =>
        bnd (mI σ_36 25 ((σ_36.1 25) + 1)) fun σ_38 =>
        bnd ((σ_36.1 25)) fun (x_40 : Int32) =>
        if x_40 < 0 ∨ 16010 ≤ x_40.toNatClampNeg then none else
        if u_7.1 < 0 ∨ 40000 ≤ u_7.1.toNatClampNeg then none else
        bnd (mA σ_38 19 (upd (σ_38.2 19) u_7.1.toNatClampNeg (σ_38.2 9 x_40.toNatClampNeg))) fun σ_46 =>
        (F_X12_isSign 40 σ_46).bind fun u_48 =>
        if u_48.1 = 0 then (
          (F_X12_isSign 91 u_48.2).bind fun u_52 =>
          if u_52.1 = 0 then (
            some (u_7.1, u_52.2)
          ) else (
            if u_7.1 < 0 ∨ 40000 ≤ u_7.1.toNatClampNeg then none else
            bnd (mA u_52.2 17 (upd (u_52.2.2 17) u_7.1.toNatClampNeg 43)) fun σ_59 =>
            (F_X12_open 91 σ_59).bind fun u_61 =>
            (rec 0 0 0 0 u_61.2).bind fun u_63 =>
            if u_7.1 < 0 ∨ 40000 ≤ u_7.1.toNatClampNeg then none else
            bnd (mA u_63.2 20 (upd (u_63.2.2 20) u_7.1.toNatClampNeg u_63.1)) fun σ_67 =>
            (F_X12_shut 93 σ_67).bind fun u_69 =>
            some (u_7.1, u_69.2)
          )
        ) else (
          if u_7.1 < 0 ∨ 40000 ≤ u_7.1.toNatClampNeg then none else
          bnd (mA u_48.2 17 (upd (u_48.2.2 17) u_7.1.toNatClampNeg 42)) fun σ_74 =>
          (rec 8 0 0 0 σ_74).bind fun u_76 =>
          if u_7.1 < 0 ∨ 40000 ≤ u_7.1.toNatClampNeg then none else
          bnd (mA u_76.2 20 (upd (u_76.2.2 20) u_7.1.toNatClampNeg u_76.1)) fun σ_80 =>
          some (u_7.1, σ_80)
        )
      ) else (
        (F_X12_isSign 40 u_7.2).bind fun u_83 =>
        if u_83.1 = 0 then (
          (F_X12_tookKey 15 u_83.2).bind fun u_87 =>
          if u_87.1 = 0 then (
            (F_X12_tookKey 24 u_87.2).bind fun u_91 =>
            if u_91.1 = 0 then (
              (F_X12_tookKey 36 u_91.2).bind fun u_95 =>
              if u_95.1 = 0 then (
                (F_X12_tookKey 30 u_95.2).bind fun u_99 =>
                if u_99.1 = 0 then (
                  (F_X12_isKey 16 u_99.2).bind fun u_103 =>
                  bnd (fun  (σ_105 : MS) => (
                    bnd ((σ_105.1 25)) fun (x_109 : Int32) =>
                    if x_109 < 0 ∨ 16010 ≤ x_109.toNatClampNeg then none else
                    bnd ((σ_105.2 9 x_109.toNatClampNeg)) fun (x_113 : Int32) =>
                    bnd (fun (t_115 : Int32) (σ_116 : MS) => (
                      if u_7.1 < 0 ∨ 40000 ≤ u_7.1.toNatClampNeg then none else
                      bnd (mA σ_116 17 (upd (σ_116.2 17) u_7.1.toNatClampNeg t_115)) fun σ_122 =>
                      (F_X12_opens σ_122).bind fun u_124 =>
                      bnd (mI u_124.2 25 ((u_124.2.1 25) + 1)) fun σ_126 =>
                      (rec 7 0 0 0 σ_126).bind fun u_128 =>
                      if u_7.1 < 0 ∨ 40000 ≤ u_7.1.toNatClampNeg then none else
                      bnd (mA u_128.2 19 (upd (u_128.2.2 19) u_7.1.toNatClampNeg u_128.1)) fun σ_132 =>
                      bnd (mI σ_132 26 ((σ_132.1 26) - 1)) fun σ_134 =>
                      some (u_7.1, σ_134)
                    ) : Int32 → MS → MR) fun j_117 =>
                    if x_113 = 16 then (
                      j_117 48 σ_105
                    ) else (
                      if x_113 = 13 then (
                        j_117 49 σ_105
                      ) else (
                        if x_113 = 23 then (
                          j_117 50 σ_105
                        ) else (
                          j_117 51 σ_105
                        )
                      )
                    )
                  ) : MS → MR) fun j_106 =>
                  if u_103.1 = 0 then (
                    (F_X12_isKey 13 u_103.2).bind fun u_147 =>
                    if u_147.1 = 0 then (
                      (F_X12_isKey 23 u_147.2).bind fun u_151 =>
                      if u_151.1 = 0 then (
                        (F_X12_isKey 31 u_151.2).bind fun u_155 =>
                        if u_155.1 = 0 then (
                          (F_X12_unfit u_155.2).bind fun u_159 =>
                          some (u_7.1, u_159.2)
                        ) else (
                          j_106  u_155.2
                        )
                      ) else (
                        j_106  u_151.2
                      )
                    ) else (
                      j_106  u_147.2
                    )
                  ) else (
                    j_106  u_103.2
                  )
                ) else (
                  if u_7.1 < 0 ∨ 40000 ≤ u_7.1.toNatClampNeg then none else
                  bnd (mA u_99.2 17 (upd (u_99.2.2 17) u_7.1.toNatClampNeg 47)) fun σ_168 =>
                  some (u_7.1, σ_168)
                )
              ) else (
                if u_7.1 < 0 ∨ 40000 ≤ u_7.1.toNatClampNeg then none else
                bnd (mA u_95.2 17 (upd (u_95.2.2 17) u_7.1.toNatClampNeg 46)) fun σ_173 =>
                some (u_7.1, σ_173)
              )
            ) else (
              if u_7.1 < 0 ∨ 40000 ≤ u_7.1.toNatClampNeg then none else
              bnd (mA u_91.2 17 (upd (u_91.2.2 17) u_7.1.toNatClampNeg 45)) fun σ_178 =>
              some (u_7.1, σ_178)
            )
          ) else (
            if u_7.1 < 0 ∨ 40000 ≤ u_7.1.toNatClampNeg then none else
            bnd (mA u_87.2 17 (upd (u_87.2.2 17) u_7.1.toNatClampNeg 44)) fun σ_183 =>
            some (u_7.1, σ_183)
          )
        ) else (
          (F_X12_open 40 u_83.2).bind fun u_186 =>
          (rec 0 0 0 0 u_186.2).bind fun u_188 =>
          (F_X12_shut 41 u_188.2).bind fun u_190 =>
          some (u_188.1, u_190.2)
        )
      )
    )
  ) else (
    some (u_7.1, u_7.2)
  )
set_option maxHeartbeats 4000000 in
set_option maxRecDepth 100000 in
theorem m_X12_primary_st (l : Launch) (dC : Nat → ClassId) (dI : Nat → Nat → Nat) (cB cC cI cJ cZ cP : ClassId) (h qK qS : Nat) (ad : Nat → Nat) (hDD : mDis cB cI cZ h qK qS ad) (d : Nat) (rec : GF) (hI0 : ∀ (sz : Nat)  (σ : MS) (res : Int32 × MS), rec 0 0 0 0 σ = some res → Met l yX12_expression (g_ws yX12_expression cX12_expression 3 (some .int)) ({ frames := 5 + d, cells := 0, slots := 0, locals := 124 + 23 * d }) (va_Pc [.ref h] (m_B (dC, dI) [(cB, .byte), (cC, .char), (cI, .int), (cJ, .long), (cZ, .boolean), (cP, .object "StoryHouse$Play")] sz h ad qK qS (mW cB cI cZ h qK qS ad σ) g_0)) (va_Qi (fun r (_ : Unit) => r = res.1) (fun _ t => va_P (dC, dI) vwCl (mW cB cI cZ h qK qS ad res.2) t.heap) (mCells h ad sz)) 0 0 (mCells h ad sz)) (hI1 : ∀ (sz : Nat)  (σ : MS) (res : Int32 × MS), rec 1 0 0 0 σ = some res → Met l yX12_both (g_ws yX12_both cX12_both 3 (some .int)) ({ frames := 5 + d, cells := 0, slots := 0, locals := 124 + 23 * d }) (va_Pc [.ref h] (m_B (dC, dI) [(cB, .byte), (cC, .char), (cI, .int), (cJ, .long), (cZ, .boolean), (cP, .object "StoryHouse$Play")] sz h ad qK qS (mW cB cI cZ h qK qS ad σ) g_0)) (va_Qi (fun r (_ : Unit) => r = res.1) (fun _ t => va_P (dC, dI) vwCl (mW cB cI cZ h qK qS ad res.2) t.heap) (mCells h ad sz)) 0 0 (mCells h ad sz)) (hI2 : ∀ (sz : Nat)  (σ : MS) (res : Int32 × MS), rec 2 0 0 0 σ = some res → Met l yX12_step (g_ws yX12_step cX12_step 3 (some .int)) ({ frames := 5 + d, cells := 0, slots := 0, locals := 124 + 23 * d }) (va_Pc [.ref h] (m_B (dC, dI) [(cB, .byte), (cC, .char), (cI, .int), (cJ, .long), (cZ, .boolean), (cP, .object "StoryHouse$Play")] sz h ad qK qS (mW cB cI cZ h qK qS ad σ) g_0)) (va_Qi (fun r (_ : Unit) => r = res.1) (fun _ t => va_P (dC, dI) vwCl (mW cB cI cZ h qK qS ad res.2) t.heap) (mCells h ad sz)) 0 0 (mCells h ad sz)) (hI3 : ∀ (sz : Nat)  (σ : MS) (res : Int32 × MS), rec 3 0 0 0 σ = some res → Met l yX12_comparison (g_ws yX12_comparison cX12_comparison 4 (some .int)) ({ frames := 5 + d, cells := 0, slots := 0, locals := 124 + 23 * d }) (va_Pc [.ref h] (m_B (dC, dI) [(cB, .byte), (cC, .char), (cI, .int), (cJ, .long), (cZ, .boolean), (cP, .object "StoryHouse$Play")] sz h ad qK qS (mW cB cI cZ h qK qS ad σ) g_0)) (va_Qi (fun r (_ : Unit) => r = res.1) (fun _ t => va_P (dC, dI) vwCl (mW cB cI cZ h qK qS ad res.2) t.heap) (mCells h ad sz)) 0 0 (mCells h ad sz)) (hI4 : ∀ (sz : Nat)  (σ : MS) (res : Int32 × MS), rec 4 0 0 0 σ = some res → Met l yX12_sum (g_ws yX12_sum cX12_sum 4 (some .int)) ({ frames := 5 + d, cells := 0, slots := 0, locals := 124 + 23 * d }) (va_Pc [.ref h] (m_B (dC, dI) [(cB, .byte), (cC, .char), (cI, .int), (cJ, .long), (cZ, .boolean), (cP, .object "StoryHouse$Play")] sz h ad qK qS (mW cB cI cZ h qK qS ad σ) g_0)) (va_Qi (fun r (_ : Unit) => r = res.1) (fun _ t => va_P (dC, dI) vwCl (mW cB cI cZ h qK qS ad res.2) t.heap) (mCells h ad sz)) 0 0 (mCells h ad sz)) (hI5 : ∀ (sz : Nat)  (σ : MS) (res : Int32 × MS), rec 5 0 0 0 σ = some res → Met l yX12_term (g_ws yX12_term cX12_term 4 (some .int)) ({ frames := 5 + d, cells := 0, slots := 0, locals := 124 + 23 * d }) (va_Pc [.ref h] (m_B (dC, dI) [(cB, .byte), (cC, .char), (cI, .int), (cJ, .long), (cZ, .boolean), (cP, .object "StoryHouse$Play")] sz h ad qK qS (mW cB cI cZ h qK qS ad σ) g_0)) (va_Qi (fun r (_ : Unit) => r = res.1) (fun _ t => va_P (dC, dI) vwCl (mW cB cI cZ h qK qS ad res.2) t.heap) (mCells h ad sz)) 0 0 (mCells h ad sz)) (hI6 : ∀ (sz : Nat)  (σ : MS) (res : Int32 × MS), rec 6 0 0 0 σ = some res → Met l yX12_factor (g_ws yX12_factor cX12_factor 3 (some .int)) ({ frames := 5 + d, cells := 0, slots := 0, locals := 124 + 23 * d }) (va_Pc [.ref h] (m_B (dC, dI) [(cB, .byte), (cC, .char), (cI, .int), (cJ, .long), (cZ, .boolean), (cP, .object "StoryHouse$Play")] sz h ad qK qS (mW cB cI cZ h qK qS ad σ) g_0)) (va_Qi (fun r (_ : Unit) => r = res.1) (fun _ t => va_P (dC, dI) vwCl (mW cB cI cZ h qK qS ad res.2) t.heap) (mCells h ad sz)) 0 0 (mCells h ad sz)) (hI7 : ∀ (sz : Nat)  (σ : MS) (res : Int32 × MS), rec 7 0 0 0 σ = some res → Met l yX12_primary (g_ws yX12_primary cX12_primary 4 (some .int)) ({ frames := 5 + d, cells := 0, slots := 0, locals := 124 + 23 * d }) (va_Pc [.ref h] (m_B (dC, dI) [(cB, .byte), (cC, .char), (cI, .int), (cJ, .long), (cZ, .boolean), (cP, .object "StoryHouse$Play")] sz h ad qK qS (mW cB cI cZ h qK qS ad σ) g_0)) (va_Qi (fun r (_ : Unit) => r = res.1) (fun _ t => va_P (dC, dI) vwCl (mW cB cI cZ h qK qS ad res.2) t.heap) (mCells h ad sz)) 0 0 (mCells h ad sz)) (hI8 : ∀ (sz : Nat)  (σ : MS) (res : Int32 × MS), rec 8 0 0 0 σ = some res → Met l yX12_arguments (g_ws yX12_arguments cX12_arguments 4 (some .int)) ({ frames := 5 + d, cells := 0, slots := 0, locals := 124 + 23 * d }) (va_Pc [.ref h] (m_B (dC, dI) [(cB, .byte), (cC, .char), (cI, .int), (cJ, .long), (cZ, .boolean), (cP, .object "StoryHouse$Play")] sz h ad qK qS (mW cB cI cZ h qK qS ad σ) g_0)) (va_Qi (fun r (_ : Unit) => r = res.1) (fun _ t => va_P (dC, dI) vwCl (mW cB cI cZ h qK qS ad res.2) t.heap) (mCells h ad sz)) 0 0 (mCells h ad sz)) (sz : Nat)   (σ : MS) (res : Int32 × MS) (hF : F_X12_primary rec  σ = some res) : Met l yX12_primary (g_ws yX12_primary cX12_primary 4 (some .int)) ({ frames := 5 + (d + 1), cells := 0, slots := 0, locals := 124 + 23 * (d + 1) }) (va_Pc [.ref h] (m_B (dC, dI) [(cB, .byte), (cC, .char), (cI, .int), (cJ, .long), (cZ, .boolean), (cP, .object "StoryHouse$Play")] sz h ad qK qS (mW cB cI cZ h qK qS ad σ) g_0)) (va_Qi (fun r (_ : Unit) => r = res.1) (fun _ t => va_P (dC, dI) vwCl (mW cB cI cZ h qK qS ad res.2) t.heap) (mCells h ad sz)) 0 0 (mCells h ad sz) := by
  refine Met.ofW (cc := cX12_primary) (maxL := 4) (ret := (some .int)) (by decide) rfl ?_
  intro p e s m args below meth c s₁ B hml hv
  obtain ⟨rfl, hsz, hP, hK, hE, hKS, hX⟩ := hv
  have hx := B.exec
  have hb := B.bytes
  have hr := B.returns
  have hts0 := atoms_spec (ws := g_ws yX12_primary cX12_primary 4 (some .int)) B.pre
  have hts : ∀ w ∈ lw_good, w.before ([.ref h] : List Value).toArray s = true := fun w z => hts0 w (List.mem_cons_of_mem _ z)
  have hown : s.vm.findClass RX12 = some m.cls := findClass_of_methodNamed B.named
  have hlocks := B.notSynchronized
  have hS : va_S (mCells h ad sz) s.heap s.heap [] := va_S.rf
  have hl := lv_entry ([.ref h]) (n := 4) (Nat.le_of_ble_eq_true rfl)
  rw [lg_entry_eq]
  generalize (lg_sl ([.ref h]) ++ List.replicate (4 - (lg_sl ([.ref h])).length) Slot.unset).toArray = ls at hl ⊢
  have hl : lv_has ls 4 [(0, .ref h)] := hl
  unfold F_X12_primary at hF
  refine lv_aload_n hx hb dX12_primary_0 rfl (lv_at hl 0 rfl) ?_
  refine va_get (D := (dC, dI)) (ci := 12) (v := .ref (ad 8)) (C := RX12) (T := TX12) (N := 123) hx hb hts ii_X12 hown hK hP 0 rfl rfl 8 (by decide) (hts (.fieldLink RX12 31 "StoryHouseModel" "tokAt" "[I") wq_1364) (fun _ h9 => h9) rfl dX12_primary_1 ?_
  refine lv_aload_n hx hb dX12_primary_4 rfl (lv_at hl 0 rfl) ?_
  refine va_get (D := (dC, dI)) (ci := 12) (v := .int (σ.1 25)) (C := RX12) (T := TX12) (N := 123) hx hb hts ii_X12 hown hK hP 0 rfl rfl 25 (by decide) (hts (.fieldLink RX12 314 "StoryHouseModel" "at" "I") wq_1381) (fun _ h9 => h9) rfl dX12_primary_5 ?_
  obtain ⟨x_1, ex_1, hF_2⟩ := bnd_e hF
  clear hF
  refine m_top ex_1 ?_
  obtain ⟨g_3, hF_4⟩ := nif_e hF_2
  clear hF_2
  refine va_iald (f := σ.2 8) hx hb hK hP 4 2 rfl rfl g_3 dX12_primary_8 ?_
  obtain ⟨x_5, ex_5, hF_6⟩ := bnd_e hF_4
  clear hF_4
  refine m_top ex_5 ?_
  refine lv_istore_n (lv' := [(1, .int x_5), (0, .ref h)]) hx hb dX12_primary_9 rfl hl (by decide) rfl (fun ls hl => ?_)
  refine lv_aload_n hx hb dX12_primary_10 rfl (lv_at hl 1 rfl) ?_
  refine lv_bipush (v := 40) hx hb dX12_primary_11 (by decide +kernel) ?_
  refine lv_iload_n hx hb dX12_primary_13 rfl (lv_at hl 0 rfl) ?_
  obtain ⟨u_7, hu_7, hF_8⟩ := Option.bind_eq_some_iff.mp hF_6
  clear hF_6
  refine m_ci hsz hS (va_runV (As := [.int 40, .int x_5]) (rest := []) ⟨hx, hb, hml, hown, hts⟩ (m_X12_node l dC dI cB cC cI cJ cZ cP h qK qS ad hDD s.heap.size  40 x_5 σ _ hu_7) (cwV 2 hts (g_gV wq_1540 wq_1541 wq_2126 wq_13 wq_1542) rfl rfl rfl (by decide +kernel) ⟨by show 1 + 1 ≤ 5 + (d + 1); omega, by show 8 + (3 + 11) + 40 ≤ 124 + 23 * (d + 1); omega⟩) (m_preV g_bl0 hsz hK hP hS hE hKS g_to0) rfl rfl hl.1 rfl (lv_room (Nat.le_of_ble_eq_true rfl)) dX12_primary_14 ⟨Nat.le_of_ble_eq_true rfl, Nat.le_of_ble_eq_true rfl⟩) (fun H locs hP hS => ?_)
  refine lv_istore_n (lv' := [(2, .int u_7.1), (1, .int x_5), (0, .ref h)]) hx hb dX12_primary_17 rfl hl (by decide) rfl (fun ls hl => ?_)
  refine lv_aload_n hx hb dX12_primary_18 rfl (lv_at hl 2 rfl) ?_
  refine va_get (D := (dC, dI)) (ci := 12) (v := .int (u_7.2.1 27)) (C := RX12) (T := TX12) (N := 123) hx hb hts ii_X12 hown hK hP 0 rfl rfl 27 (by decide) (hts (.fieldLink RX12 304 "StoryHouseModel" "stopped" "Z") wq_1383) (fun _ h9 => h9) rfl dX12_primary_19 ?_
  refine lv_if_eq (tgt := 27) hx hb dX12_primary_22 (by decide) (fun c_9 => ?_) (fun c_9 => ?_)
  · have hF_10 := ipos c_9 hF_8
    clear hF_8
    refine lv_aload_n hx hb dX12_primary_27 rfl (lv_at hl 2 rfl) ?_
    refine va_get (D := (dC, dI)) (ci := 12) (v := .ref (ad 7)) (C := RX12) (T := TX12) (N := 123) hx hb hts ii_X12 hown hK hP 0 rfl rfl 7 (by decide) (hts (.fieldLink RX12 27 "StoryHouseModel" "tokKind" "[I") wq_1363) (fun _ h9 => h9) rfl dX12_primary_28 ?_
    refine lv_aload_n hx hb dX12_primary_31 rfl (lv_at hl 2 rfl) ?_
    refine va_get (D := (dC, dI)) (ci := 12) (v := .int (u_7.2.1 25)) (C := RX12) (T := TX12) (N := 123) hx hb hts ii_X12 hown hK hP 0 rfl rfl 25 (by decide) (hts (.fieldLink RX12 314 "StoryHouseModel" "at" "I") wq_1381) (fun _ h9 => h9) rfl dX12_primary_32 ?_
    obtain ⟨x_11, ex_11, hF_12⟩ := bnd_e hF_10
    clear hF_10
    refine m_top ex_11 ?_
    obtain ⟨g_13, hF_14⟩ := nif_e hF_12
    clear hF_12
    refine va_iald (f := u_7.2.2 7) hx hb hK hP 3 2 rfl rfl g_13 dX12_primary_35 ?_
    refine lv_iconst (v := 3) hx hb dX12_primary_36 (by decide +kernel) ?_
    refine lv_icmp_ne (tgt := 65) hx hb dX12_primary_37 (by decide) (fun c_15 => ?_) (fun c_15 => ?_)
    · have hF_27 := ineg c_15 hF_14
      clear hF_14
      refine lv_aload_n hx hb dX12_primary_65 rfl (lv_at hl 2 rfl) ?_
      refine va_get (D := (dC, dI)) (ci := 12) (v := .ref (ad 7)) (C := RX12) (T := TX12) (N := 123) hx hb hts ii_X12 hown hK hP 0 rfl rfl 7 (by decide) (hts (.fieldLink RX12 27 "StoryHouseModel" "tokKind" "[I") wq_1363) (fun _ h9 => h9) rfl dX12_primary_66 ?_
      refine lv_aload_n hx hb dX12_primary_69 rfl (lv_at hl 2 rfl) ?_
      refine va_get (D := (dC, dI)) (ci := 12) (v := .int (u_7.2.1 25)) (C := RX12) (T := TX12) (N := 123) hx hb hts ii_X12 hown hK hP 0 rfl rfl 25 (by decide) (hts (.fieldLink RX12 314 "StoryHouseModel" "at" "I") wq_1381) (fun _ h9 => h9) rfl dX12_primary_70 ?_
      obtain ⟨x_28, ex_28, hF_29⟩ := bnd_e hF_27
      clear hF_27
      refine m_top ex_28 ?_
      obtain ⟨g_30, hF_31⟩ := nif_e hF_29
      clear hF_29
      refine va_iald (f := u_7.2.2 7) hx hb hK hP 3 2 rfl rfl g_30 dX12_primary_73 ?_
      refine lv_iconst (v := 2) hx hb dX12_primary_74 (by decide +kernel) ?_
      refine lv_icmp_ne (tgt := 180) hx hb dX12_primary_75 (by decide) (fun c_32 => ?_) (fun c_32 => ?_)
      · have hF_82 := ineg c_32 hF_31
        clear hF_31
        refine lv_aload_n hx hb dX12_primary_180 rfl (lv_at hl 2 rfl) ?_
        refine lv_bipush (v := 40) hx hb dX12_primary_181 (by decide +kernel) ?_
        obtain ⟨u_83, hu_83, hF_84⟩ := Option.bind_eq_some_iff.mp hF_82
        clear hF_82
        refine m_ci hsz hS (va_runV (As := [.int 40]) (rest := []) ⟨hx, hb, hml, hown, hts⟩ (m_X12_isSign l dC dI cB cC cI cJ cZ cP h qK qS ad hDD H.size  40 u_7.2 _ hu_83) (cwV 1 hts (g_gV wq_1558 wq_1559 wq_2132 wq_13 wq_1560) rfl rfl rfl (by decide +kernel) ⟨by show 1 + 1 ≤ 5 + (d + 1); omega, by show 8 + (2 + 11) + 40 ≤ 124 + 23 * (d + 1); omega⟩) (m_preV g_bl0 hsz hK hP hS hE hKS g_to0) rfl rfl hl.1 rfl (lv_room (Nat.le_of_ble_eq_true rfl)) dX12_primary_183 ⟨Nat.le_of_ble_eq_true rfl, Nat.le_of_ble_eq_true rfl⟩) (fun H locs hP hS => ?_)
        refine lv_if_eq (tgt := 209) hx hb dX12_primary_186 (by decide) (fun c_85 => ?_) (fun c_85 => ?_)
        · have hF_86 := ipos c_85 hF_84
          clear hF_84
          refine lv_aload_n hx hb dX12_primary_209 rfl (lv_at hl 2 rfl) ?_
          refine lv_bipush (v := 15) hx hb dX12_primary_210 (by decide +kernel) ?_
          obtain ⟨u_87, hu_87, hF_88⟩ := Option.bind_eq_some_iff.mp hF_86
          clear hF_86
          refine m_ci hsz hS (va_runV (As := [.int 15]) (rest := []) ⟨hx, hb, hml, hown, hts⟩ (m_X12_tookKey l dC dI cB cC cI cJ cZ cP h qK qS ad hDD H.size  15 u_83.2 _ hu_87) (cwV 1 hts (g_gV wq_1573 wq_1574 wq_2137 wq_13 wq_1575) rfl rfl rfl (by decide +kernel) ⟨by show 2 + 1 ≤ 5 + (d + 1); omega, by show 8 + (2 + 11) + 61 ≤ 124 + 23 * (d + 1); omega⟩) (m_preV g_bl0 hsz hK hP hS hE hKS g_to0) rfl rfl hl.1 rfl (lv_room (Nat.le_of_ble_eq_true rfl)) dX12_primary_212 ⟨Nat.le_of_ble_eq_true rfl, Nat.le_of_ble_eq_true rfl⟩) (fun H locs hP hS => ?_)
          refine lv_if_eq (tgt := 229) hx hb dX12_primary_215 (by decide) (fun c_89 => ?_) (fun c_89 => ?_)
          · have hF_90 := ipos c_89 hF_88
            clear hF_88
            refine lv_aload_n hx hb dX12_primary_229 rfl (lv_at hl 2 rfl) ?_
            refine lv_bipush (v := 24) hx hb dX12_primary_230 (by decide +kernel) ?_
            obtain ⟨u_91, hu_91, hF_92⟩ := Option.bind_eq_some_iff.mp hF_90
            clear hF_90
            refine m_ci hsz hS (va_runV (As := [.int 24]) (rest := []) ⟨hx, hb, hml, hown, hts⟩ (m_X12_tookKey l dC dI cB cC cI cJ cZ cP h qK qS ad hDD H.size  24 u_87.2 _ hu_91) (cwV 1 hts (g_gV wq_1573 wq_1574 wq_2137 wq_13 wq_1575) rfl rfl rfl (by decide +kernel) ⟨by show 2 + 1 ≤ 5 + (d + 1); omega, by show 8 + (2 + 11) + 61 ≤ 124 + 23 * (d + 1); omega⟩) (m_preV g_bl0 hsz hK hP hS hE hKS g_to0) rfl rfl hl.1 rfl (lv_room (Nat.le_of_ble_eq_true rfl)) dX12_primary_232 ⟨Nat.le_of_ble_eq_true rfl, Nat.le_of_ble_eq_true rfl⟩) (fun H locs hP hS => ?_)
            refine lv_if_eq (tgt := 249) hx hb dX12_primary_235 (by decide) (fun c_93 => ?_) (fun c_93 => ?_)
            · have hF_94 := ipos c_93 hF_92
              clear hF_92
              refine lv_aload_n hx hb dX12_primary_249 rfl (lv_at hl 2 rfl) ?_
              refine lv_bipush (v := 36) hx hb dX12_primary_250 (by decide +kernel) ?_
              obtain ⟨u_95, hu_95, hF_96⟩ := Option.bind_eq_some_iff.mp hF_94
              clear hF_94
              refine m_ci hsz hS (va_runV (As := [.int 36]) (rest := []) ⟨hx, hb, hml, hown, hts⟩ (m_X12_tookKey l dC dI cB cC cI cJ cZ cP h qK qS ad hDD H.size  36 u_91.2 _ hu_95) (cwV 1 hts (g_gV wq_1573 wq_1574 wq_2137 wq_13 wq_1575) rfl rfl rfl (by decide +kernel) ⟨by show 2 + 1 ≤ 5 + (d + 1); omega, by show 8 + (2 + 11) + 61 ≤ 124 + 23 * (d + 1); omega⟩) (m_preV g_bl0 hsz hK hP hS hE hKS g_to0) rfl rfl hl.1 rfl (lv_room (Nat.le_of_ble_eq_true rfl)) dX12_primary_252 ⟨Nat.le_of_ble_eq_true rfl, Nat.le_of_ble_eq_true rfl⟩) (fun H locs hP hS => ?_)
              refine lv_if_eq (tgt := 269) hx hb dX12_primary_255 (by decide) (fun c_97 => ?_) (fun c_97 => ?_)
              · have hF_98 := ipos c_97 hF_96
                clear hF_96
                refine lv_aload_n hx hb dX12_primary_269 rfl (lv_at hl 2 rfl) ?_
                refine lv_bipush (v := 30) hx hb dX12_primary_270 (by decide +kernel) ?_
                obtain ⟨u_99, hu_99, hF_100⟩ := Option.bind_eq_some_iff.mp hF_98
                clear hF_98
                refine m_ci hsz hS (va_runV (As := [.int 30]) (rest := []) ⟨hx, hb, hml, hown, hts⟩ (m_X12_tookKey l dC dI cB cC cI cJ cZ cP h qK qS ad hDD H.size  30 u_95.2 _ hu_99) (cwV 1 hts (g_gV wq_1573 wq_1574 wq_2137 wq_13 wq_1575) rfl rfl rfl (by decide +kernel) ⟨by show 2 + 1 ≤ 5 + (d + 1); omega, by show 8 + (2 + 11) + 61 ≤ 124 + 23 * (d + 1); omega⟩) (m_preV g_bl0 hsz hK hP hS hE hKS g_to0) rfl rfl hl.1 rfl (lv_room (Nat.le_of_ble_eq_true rfl)) dX12_primary_272 ⟨Nat.le_of_ble_eq_true rfl, Nat.le_of_ble_eq_true rfl⟩) (fun H locs hP hS => ?_)
                refine lv_if_eq (tgt := 289) hx hb dX12_primary_275 (by decide) (fun c_101 => ?_) (fun c_101 => ?_)
                · have hF_102 := ipos c_101 hF_100
                  clear hF_100
                  refine lv_aload_n hx hb dX12_primary_289 rfl (lv_at hl 2 rfl) ?_
                  refine lv_bipush (v := 16) hx hb dX12_primary_290 (by decide +kernel) ?_
                  obtain ⟨u_103, hu_103, hF_104⟩ := Option.bind_eq_some_iff.mp hF_102
                  clear hF_102
                  refine m_ci hsz hS (va_runV (As := [.int 16]) (rest := []) ⟨hx, hb, hml, hown, hts⟩ (m_X12_isKey l dC dI cB cC cI cJ cZ cP h qK qS ad hDD H.size  16 u_99.2 _ hu_103) (cwV 1 hts (g_gV wq_1534 wq_1535 wq_2124 wq_13 wq_1536) rfl rfl rfl (by decide +kernel) ⟨by show 1 + 1 ≤ 5 + (d + 1); omega, by show 8 + (2 + 11) + 40 ≤ 124 + 23 * (d + 1); omega⟩) (m_preV g_bl0 hsz hK hP hS hE hKS g_to0) rfl rfl hl.1 rfl (lv_room (Nat.le_of_ble_eq_true rfl)) dX12_primary_292 ⟨Nat.le_of_ble_eq_true rfl, Nat.le_of_ble_eq_true rfl⟩) (fun H locs hP hS => ?_)
                  obtain ⟨j_106, ej_106, hF_107⟩ := bnd_e hF_104
                  clear hF_104
                  have Jj_106 : ∀  (σ_105 : MS), j_106  σ_105 = some res → ∀ (H : Heap) (locs : List Loc), va_P (dC, dI) vwCl (mW cB cI cZ h qK qS ad σ_105) H → va_S (mCells h ad sz) s.heap H locs → ∀ ls : Array Slot, lv_has ls 4 [(0, .ref h), (2, .int u_7.1)] → W p l e (headSpec (g_ws yX12_primary cX12_primary 4 (some .int)) { frames := 5 + (d + 1), cells := 0, slots := 0, locals := 124 + 23 * (d + 1) }).room s m ([.ref h] : List Value).toArray below meth c H locs 0 0 (MQ below (va_Qi (fun r (_ : Unit) => r = res.1) (fun _ t => va_P (dC, dI) vwCl (mW cB cI cZ h qK qS ad res.2) t.heap) (mCells h ad sz)) ([.ref h] : List Value).toArray s 0 0 (mCells h ad sz)) (F0 m 325 ls []) := by
                    intro  σ_105 hF0 H locs hP hS ls hl
                    subst ej_106
                    have hF_108 := hF0
                    clear hF0
                    refine lv_aload_n hx hb dX12_primary_325 rfl (lv_at hl 0 rfl) ?_
                    refine va_get (D := (dC, dI)) (ci := 12) (v := .ref (ad 9)) (C := RX12) (T := TX12) (N := 123) hx hb hts ii_X12 hown hK hP 0 rfl rfl 9 (by decide) (hts (.fieldLink RX12 34 "StoryHouseModel" "tokValue" "[I") wq_1365) (fun _ h9 => h9) rfl dX12_primary_326 ?_
                    refine lv_aload_n hx hb dX12_primary_329 rfl (lv_at hl 0 rfl) ?_
                    refine va_get (D := (dC, dI)) (ci := 12) (v := .int (σ_105.1 25)) (C := RX12) (T := TX12) (N := 123) hx hb hts ii_X12 hown hK hP 0 rfl rfl 25 (by decide) (hts (.fieldLink RX12 314 "StoryHouseModel" "at" "I") wq_1381) (fun _ h9 => h9) rfl dX12_primary_330 ?_
                    obtain ⟨x_109, ex_109, hF_110⟩ := bnd_e hF_108
                    clear hF_108
                    refine m_top ex_109 ?_
                    obtain ⟨g_111, hF_112⟩ := nif_e hF_110
                    clear hF_110
                    refine va_iald (f := σ_105.2 9) hx hb hK hP 5 2 rfl rfl g_111 dX12_primary_333 ?_
                    obtain ⟨x_113, ex_113, hF_114⟩ := bnd_e hF_112
                    clear hF_112
                    refine m_top ex_113 ?_
                    refine lv_istore_n (lv' := [(3, .int x_113), (0, .ref h), (2, .int u_7.1)]) hx hb dX12_primary_334 rfl hl (by decide) rfl (fun ls hl => ?_)
                    refine lv_aload_n hx hb dX12_primary_335 rfl (lv_at hl 1 rfl) ?_
                    refine va_get (D := (dC, dI)) (ci := 12) (v := .ref (ad 17)) (C := RX12) (T := TX12) (N := 123) hx hb hts ii_X12 hown hK hP 0 rfl rfl 17 (by decide) (hts (.fieldLink RX12 49 "StoryHouseModel" "what" "[I") wq_1373) (fun _ h9 => h9) rfl dX12_primary_336 ?_
                    refine lv_iload_n hx hb dX12_primary_339 rfl (lv_at hl 2 rfl) ?_
                    refine lv_iload_n hx hb dX12_primary_340 rfl (lv_at hl 0 rfl) ?_
                    refine lv_bipush (v := 16) hx hb dX12_primary_341 (by decide +kernel) ?_
                    obtain ⟨j_117, ej_117, hF_118⟩ := bnd_e hF_114
                    clear hF_114
                    have Jj_117 : ∀ (t_115 : Int32) (σ_116 : MS), j_117 t_115 σ_116 = some res → ∀ (H : Heap) (locs : List Loc), va_P (dC, dI) vwCl (mW cB cI cZ h qK qS ad σ_116) H → va_S (mCells h ad sz) s.heap H locs → ∀ ls : Array Slot, lv_has ls 4 [(0, .ref h), (2, .int u_7.1)] → W p l e (headSpec (g_ws yX12_primary cX12_primary 4 (some .int)) { frames := 5 + (d + 1), cells := 0, slots := 0, locals := 124 + 23 * (d + 1) }).room s m ([.ref h] : List Value).toArray below meth c H locs 0 0 (MQ below (va_Qi (fun r (_ : Unit) => r = res.1) (fun _ t => va_P (dC, dI) vwCl (mW cB cI cZ h qK qS ad res.2) t.heap) (mCells h ad sz)) ([.ref h] : List Value).toArray s 0 0 (mCells h ad sz)) (F0 m 375 ls [.int t_115, .int u_7.1, .ref (ad 17)]) := by
                      intro t_115 σ_116 hF0 H locs hP hS ls hl
                      subst ej_117
                      have hF_119 := hF0
                      clear hF0
                      obtain ⟨g_120, hF_121⟩ := nif_e hF_119
                      clear hF_119
                      obtain ⟨σ_122, eσ_122, hF_123⟩ := bnd_e hF_121
                      clear hF_121
                      refine m_iast (σ' := σ_122) hx hb hK hP (hDD _ _) hS (q0 := 8) (t0 := 2) (f := σ_116.2 17) rfl rfl (by rw [eσ_122]; exact mwA_17) g_120 dX12_primary_375 (fun H locs hP hS => ?_)
                      refine lv_aload_n hx hb dX12_primary_376 rfl (lv_at hl 0 rfl) ?_
                      obtain ⟨u_124, hu_124, hF_125⟩ := Option.bind_eq_some_iff.mp hF_123
                      clear hF_123
                      refine m_cv hsz hS (va_runV (As := []) (rest := []) ⟨hx, hb, hml, hown, hts⟩ (m_X12_opens l dC dI cB cC cI cJ cZ cP h qK qS ad hDD H.size  σ_122 _ hu_124) (cwV 0 hts (g_gV wq_1561 wq_1562 wq_2133 wq_13 wq_1563) rfl rfl rfl (by decide +kernel) ⟨by show 2 + 1 ≤ 5 + (d + 1); omega, by show 8 + (1 + 11) + 62 ≤ 124 + 23 * (d + 1); omega⟩) (m_preV g_bl0 hsz hK hP hS hE hKS g_to0) rfl rfl hl.1 rfl (lv_room (Nat.le_of_ble_eq_true rfl)) dX12_primary_377 ⟨Nat.le_of_ble_eq_true rfl, Nat.le_of_ble_eq_true rfl⟩) (fun H locs hP hS => ?_)
                      refine lv_aload_n hx hb dX12_primary_380 rfl (lv_at hl 0 rfl) ?_
                      refine lv_dup hx hb dX12_primary_381 rfl ?_
                      refine va_get (D := (dC, dI)) (ci := 12) (v := .int (u_124.2.1 25)) (C := RX12) (T := TX12) (N := 123) hx hb hts ii_X12 hown hK hP 0 rfl rfl 25 (by decide) (hts (.fieldLink RX12 314 "StoryHouseModel" "at" "I") wq_1381) (fun _ h9 => h9) rfl dX12_primary_382 ?_
                      refine lv_iconst (v := 1) hx hb dX12_primary_385 (by decide +kernel) ?_
                      refine lv_iadd hx hb dX12_primary_386 ?_
                      obtain ⟨σ_126, eσ_126, hF_127⟩ := bnd_e hF_125
                      clear hF_125
                      refine m_put (σ' := σ_126) (v := .int ((u_124.2.1 25) + 1)) (ty := .int) hx hb hts hown hK hP (hDD _ _) hS (by rw [eσ_126]; exact mwI_25) (k := 25) (by decide) (hts (.fieldLink RX12 314 "StoryHouseModel" "at" "I") wq_1381) (fun _ h9 => h9) rfl (by decide +kernel) rfl rfl dX12_primary_387 (fun H locs hP hS => ?_)
                      refine lv_aload_n hx hb dX12_primary_390 rfl (lv_at hl 0 rfl) ?_
                      refine va_get (D := (dC, dI)) (ci := 12) (v := .ref (ad 19)) (C := RX12) (T := TX12) (N := 123) hx hb hts ii_X12 hown hK hP 0 rfl rfl 19 (by decide) (hts (.fieldLink RX12 55 "StoryHouseModel" "a" "[I") wq_1375) (fun _ h9 => h9) rfl dX12_primary_391 ?_
                      refine lv_iload_n hx hb dX12_primary_394 rfl (lv_at hl 1 rfl) ?_
                      refine lv_aload_n hx hb dX12_primary_395 rfl (lv_at hl 0 rfl) ?_
                      obtain ⟨u_128, hu_128, hF_129⟩ := Option.bind_eq_some_iff.mp hF_127
                      clear hF_127
                      refine m_ci hsz hS (va_runV (As := []) (rest := [.int u_7.1, .ref (ad 19)]) ⟨hx, hb, hml, hown, hts⟩ (hI7 H.size σ_126 _ hu_128) (cwV 0 hts (g_gV wq_1600 wq_1601 wq_2146 wq_13 wq_1602) rfl rfl rfl (by decide +kernel) ⟨by show 5 + d + 1 ≤ 5 + (d + 1); omega, by show 8 + (4 + 11) + (124 + 23 * d) ≤ 124 + 23 * (d + 1); omega⟩) (m_preV g_bl0 hsz hK hP hS hE hKS g_to0) rfl rfl hl.1 rfl (lv_room (Nat.le_of_ble_eq_true rfl)) dX12_primary_396 ⟨Nat.le_of_ble_eq_true rfl, Nat.le_of_ble_eq_true rfl⟩) (fun H locs hP hS => ?_)
                      obtain ⟨g_130, hF_131⟩ := nif_e hF_129
                      clear hF_129
                      obtain ⟨σ_132, eσ_132, hF_133⟩ := bnd_e hF_131
                      clear hF_131
                      refine m_iast (σ' := σ_132) hx hb hK hP (hDD _ _) hS (q0 := 10) (t0 := 2) (f := u_128.2.2 19) rfl rfl (by rw [eσ_132]; exact mwA_19) g_130 dX12_primary_399 (fun H locs hP hS => ?_)
                      refine lv_aload_n hx hb dX12_primary_400 rfl (lv_at hl 0 rfl) ?_
                      refine lv_dup hx hb dX12_primary_401 rfl ?_
                      refine va_get (D := (dC, dI)) (ci := 12) (v := .int (σ_132.1 26)) (C := RX12) (T := TX12) (N := 123) hx hb hts ii_X12 hown hK hP 0 rfl rfl 26 (by decide) (hts (.fieldLink RX12 336 "StoryHouseModel" "depth" "I") wq_1382) (fun _ h9 => h9) rfl dX12_primary_402 ?_
                      refine lv_iconst (v := 1) hx hb dX12_primary_405 (by decide +kernel) ?_
                      refine lv_isub hx hb dX12_primary_406 ?_
                      obtain ⟨σ_134, eσ_134, hF_135⟩ := bnd_e hF_133
                      clear hF_133
                      refine m_put (σ' := σ_134) (v := .int ((σ_132.1 26) - 1)) (ty := .int) hx hb hts hown hK hP (hDD _ _) hS (by rw [eσ_134]; exact mwI_26) (k := 26) (by decide) (hts (.fieldLink RX12 336 "StoryHouseModel" "depth" "I") wq_1382) (fun _ h9 => h9) rfl (by decide +kernel) rfl rfl dX12_primary_407 (fun H locs hP hS => ?_)
                      refine lv_goto (tgt := 417) hx hb dX12_primary_410 (by decide) ?_
                      refine lv_iload_n hx hb dX12_primary_417 rfl (lv_at hl 1 rfl) ?_
                      have h9 := Option.some.inj hF_135
                      subst h9
                      exact W.iret (v := u_7.1) hx hb hr (fun t ht hW => ⟨⟨u_7.1, (), rfl, rfl, m_end ht hP⟩, hS.F ht⟩) hS.2.2 dX12_primary_418
                    refine lv_icmp_ne (tgt := 351) hx hb dX12_primary_343 (by decide) (fun c_136 => ?_) (fun c_136 => ?_)
                    · have hF_138 := ineg c_136 hF_118
                      clear hF_118
                      refine lv_iload_n hx hb dX12_primary_351 rfl (lv_at hl 0 rfl) ?_
                      refine lv_bipush (v := 13) hx hb dX12_primary_352 (by decide +kernel) ?_
                      refine lv_icmp_ne (tgt := 362) hx hb dX12_primary_354 (by decide) (fun c_139 => ?_) (fun c_139 => ?_)
                      · have hF_141 := ineg c_139 hF_138
                        clear hF_138
                        refine lv_iload_n hx hb dX12_primary_362 rfl (lv_at hl 0 rfl) ?_
                        refine lv_bipush (v := 23) hx hb dX12_primary_363 (by decide +kernel) ?_
                        refine lv_icmp_ne (tgt := 373) hx hb dX12_primary_365 (by decide) (fun c_142 => ?_) (fun c_142 => ?_)
                        · have hF_144 := ineg c_142 hF_141
                          clear hF_141
                          refine lv_bipush (v := 51) hx hb dX12_primary_373 (by decide +kernel) ?_
                          exact Jj_117 51 σ_105 hF_144 _ _ hP hS ls (lv_sub hl [1, 2] rfl)
                        · have hF_143 := ipos c_142 hF_141
                          clear hF_141
                          refine lv_bipush (v := 50) hx hb dX12_primary_368 (by decide +kernel) ?_
                          refine lv_goto (tgt := 375) hx hb dX12_primary_370 (by decide) ?_
                          exact Jj_117 50 σ_105 hF_143 _ _ hP hS ls (lv_sub hl [1, 2] rfl)
                      · have hF_140 := ipos c_139 hF_138
                        clear hF_138
                        refine lv_bipush (v := 49) hx hb dX12_primary_357 (by decide +kernel) ?_
                        refine lv_goto (tgt := 375) hx hb dX12_primary_359 (by decide) ?_
                        exact Jj_117 49 σ_105 hF_140 _ _ hP hS ls (lv_sub hl [1, 2] rfl)
                    · have hF_137 := ipos c_136 hF_118
                      clear hF_118
                      refine lv_bipush (v := 48) hx hb dX12_primary_346 (by decide +kernel) ?_
                      refine lv_goto (tgt := 375) hx hb dX12_primary_348 (by decide) ?_
                      exact Jj_117 48 σ_105 hF_137 _ _ hP hS ls (lv_sub hl [1, 2] rfl)
                  refine lv_if_ne (tgt := 325) hx hb dX12_primary_295 (by decide) (fun c_145 => ?_) (fun c_145 => ?_)
                  · have hF_164 := ineg c_145 hF_107
                    clear hF_107
                    exact Jj_106  u_103.2 hF_164 _ _ hP hS ls (lv_sub hl [2, 0] rfl)
                  · have hF_146 := ipos c_145 hF_107
                    clear hF_107
                    refine lv_aload_n hx hb dX12_primary_298 rfl (lv_at hl 2 rfl) ?_
                    refine lv_bipush (v := 13) hx hb dX12_primary_299 (by decide +kernel) ?_
                    obtain ⟨u_147, hu_147, hF_148⟩ := Option.bind_eq_some_iff.mp hF_146
                    clear hF_146
                    refine m_ci hsz hS (va_runV (As := [.int 13]) (rest := []) ⟨hx, hb, hml, hown, hts⟩ (m_X12_isKey l dC dI cB cC cI cJ cZ cP h qK qS ad hDD H.size  13 u_103.2 _ hu_147) (cwV 1 hts (g_gV wq_1534 wq_1535 wq_2124 wq_13 wq_1536) rfl rfl rfl (by decide +kernel) ⟨by show 1 + 1 ≤ 5 + (d + 1); omega, by show 8 + (2 + 11) + 40 ≤ 124 + 23 * (d + 1); omega⟩) (m_preV g_bl0 hsz hK hP hS hE hKS g_to0) rfl rfl hl.1 rfl (lv_room (Nat.le_of_ble_eq_true rfl)) dX12_primary_301 ⟨Nat.le_of_ble_eq_true rfl, Nat.le_of_ble_eq_true rfl⟩) (fun H locs hP hS => ?_)
                    refine lv_if_ne (tgt := 325) hx hb dX12_primary_304 (by decide) (fun c_149 => ?_) (fun c_149 => ?_)
                    · have hF_163 := ineg c_149 hF_148
                      clear hF_148
                      exact Jj_106  u_147.2 hF_163 _ _ hP hS ls (lv_sub hl [2, 0] rfl)
                    · have hF_150 := ipos c_149 hF_148
                      clear hF_148
                      refine lv_aload_n hx hb dX12_primary_307 rfl (lv_at hl 2 rfl) ?_
                      refine lv_bipush (v := 23) hx hb dX12_primary_308 (by decide +kernel) ?_
                      obtain ⟨u_151, hu_151, hF_152⟩ := Option.bind_eq_some_iff.mp hF_150
                      clear hF_150
                      refine m_ci hsz hS (va_runV (As := [.int 23]) (rest := []) ⟨hx, hb, hml, hown, hts⟩ (m_X12_isKey l dC dI cB cC cI cJ cZ cP h qK qS ad hDD H.size  23 u_147.2 _ hu_151) (cwV 1 hts (g_gV wq_1534 wq_1535 wq_2124 wq_13 wq_1536) rfl rfl rfl (by decide +kernel) ⟨by show 1 + 1 ≤ 5 + (d + 1); omega, by show 8 + (2 + 11) + 40 ≤ 124 + 23 * (d + 1); omega⟩) (m_preV g_bl0 hsz hK hP hS hE hKS g_to0) rfl rfl hl.1 rfl (lv_room (Nat.le_of_ble_eq_true rfl)) dX12_primary_310 ⟨Nat.le_of_ble_eq_true rfl, Nat.le_of_ble_eq_true rfl⟩) (fun H locs hP hS => ?_)
                      refine lv_if_ne (tgt := 325) hx hb dX12_primary_313 (by decide) (fun c_153 => ?_) (fun c_153 => ?_)
                      · have hF_162 := ineg c_153 hF_152
                        clear hF_152
                        exact Jj_106  u_151.2 hF_162 _ _ hP hS ls (lv_sub hl [2, 0] rfl)
                      · have hF_154 := ipos c_153 hF_152
                        clear hF_152
                        refine lv_aload_n hx hb dX12_primary_316 rfl (lv_at hl 2 rfl) ?_
                        refine lv_bipush (v := 31) hx hb dX12_primary_317 (by decide +kernel) ?_
                        obtain ⟨u_155, hu_155, hF_156⟩ := Option.bind_eq_some_iff.mp hF_154
                        clear hF_154
                        refine m_ci hsz hS (va_runV (As := [.int 31]) (rest := []) ⟨hx, hb, hml, hown, hts⟩ (m_X12_isKey l dC dI cB cC cI cJ cZ cP h qK qS ad hDD H.size  31 u_151.2 _ hu_155) (cwV 1 hts (g_gV wq_1534 wq_1535 wq_2124 wq_13 wq_1536) rfl rfl rfl (by decide +kernel) ⟨by show 1 + 1 ≤ 5 + (d + 1); omega, by show 8 + (2 + 11) + 40 ≤ 124 + 23 * (d + 1); omega⟩) (m_preV g_bl0 hsz hK hP hS hE hKS g_to0) rfl rfl hl.1 rfl (lv_room (Nat.le_of_ble_eq_true rfl)) dX12_primary_319 ⟨Nat.le_of_ble_eq_true rfl, Nat.le_of_ble_eq_true rfl⟩) (fun H locs hP hS => ?_)
                        refine lv_if_eq (tgt := 413) hx hb dX12_primary_322 (by decide) (fun c_157 => ?_) (fun c_157 => ?_)
                        · have hF_158 := ipos c_157 hF_156
                          clear hF_156
                          refine lv_aload_n hx hb dX12_primary_413 rfl (lv_at hl 2 rfl) ?_
                          obtain ⟨u_159, hu_159, hF_160⟩ := Option.bind_eq_some_iff.mp hF_158
                          clear hF_158
                          refine m_cv hsz hS (va_runV (As := []) (rest := []) ⟨hx, hb, hml, hown, hts⟩ (m_X12_unfit l dC dI cB cC cI cJ cZ cP h qK qS ad hDD H.size  u_155.2 _ hu_159) (cwV 0 hts (g_gV wq_1549 wq_1550 wq_2129 wq_13 wq_1551) rfl rfl rfl (by decide +kernel) ⟨by show 2 + 1 ≤ 5 + (d + 1); omega, by show 8 + (1 + 11) + 62 ≤ 124 + 23 * (d + 1); omega⟩) (m_preV g_bl0 hsz hK hP hS hE hKS g_to0) rfl rfl hl.1 rfl (lv_room (Nat.le_of_ble_eq_true rfl)) dX12_primary_414 ⟨Nat.le_of_ble_eq_true rfl, Nat.le_of_ble_eq_true rfl⟩) (fun H locs hP hS => ?_)
                          refine lv_iload_n hx hb dX12_primary_417 rfl (lv_at hl 0 rfl) ?_
                          have h9 := Option.some.inj hF_160
                          subst h9
                          exact W.iret (v := u_7.1) hx hb hr (fun t ht hW => ⟨⟨u_7.1, (), rfl, rfl, m_end ht hP⟩, hS.F ht⟩) hS.2.2 dX12_primary_418
                        · have hF_161 := ineg c_157 hF_156
                          clear hF_156
                          exact Jj_106  u_155.2 hF_161 _ _ hP hS ls (lv_sub hl [2, 0] rfl)
                · have hF_165 := ineg c_101 hF_100
                  clear hF_100
                  refine lv_aload_n hx hb dX12_primary_278 rfl (lv_at hl 2 rfl) ?_
                  refine va_get (D := (dC, dI)) (ci := 12) (v := .ref (ad 17)) (C := RX12) (T := TX12) (N := 123) hx hb hts ii_X12 hown hK hP 0 rfl rfl 17 (by decide) (hts (.fieldLink RX12 49 "StoryHouseModel" "what" "[I") wq_1373) (fun _ h9 => h9) rfl dX12_primary_279 ?_
                  refine lv_iload_n hx hb dX12_primary_282 rfl (lv_at hl 0 rfl) ?_
                  refine lv_bipush (v := 47) hx hb dX12_primary_283 (by decide +kernel) ?_
                  obtain ⟨g_166, hF_167⟩ := nif_e hF_165
                  clear hF_165
                  obtain ⟨σ_168, eσ_168, hF_169⟩ := bnd_e hF_167
                  clear hF_167
                  refine m_iast (σ' := σ_168) hx hb hK hP (hDD _ _) hS (q0 := 8) (t0 := 2) (f := u_99.2.2 17) rfl rfl (by rw [eσ_168]; exact mwA_17) g_166 dX12_primary_285 (fun H locs hP hS => ?_)
                  refine lv_goto (tgt := 417) hx hb dX12_primary_286 (by decide) ?_
                  refine lv_iload_n hx hb dX12_primary_417 rfl (lv_at hl 0 rfl) ?_
                  have h9 := Option.some.inj hF_169
                  subst h9
                  exact W.iret (v := u_7.1) hx hb hr (fun t ht hW => ⟨⟨u_7.1, (), rfl, rfl, m_end ht hP⟩, hS.F ht⟩) hS.2.2 dX12_primary_418
              · have hF_170 := ineg c_97 hF_96
                clear hF_96
                refine lv_aload_n hx hb dX12_primary_258 rfl (lv_at hl 2 rfl) ?_
                refine va_get (D := (dC, dI)) (ci := 12) (v := .ref (ad 17)) (C := RX12) (T := TX12) (N := 123) hx hb hts ii_X12 hown hK hP 0 rfl rfl 17 (by decide) (hts (.fieldLink RX12 49 "StoryHouseModel" "what" "[I") wq_1373) (fun _ h9 => h9) rfl dX12_primary_259 ?_
                refine lv_iload_n hx hb dX12_primary_262 rfl (lv_at hl 0 rfl) ?_
                refine lv_bipush (v := 46) hx hb dX12_primary_263 (by decide +kernel) ?_
                obtain ⟨g_171, hF_172⟩ := nif_e hF_170
                clear hF_170
                obtain ⟨σ_173, eσ_173, hF_174⟩ := bnd_e hF_172
                clear hF_172
                refine m_iast (σ' := σ_173) hx hb hK hP (hDD _ _) hS (q0 := 8) (t0 := 2) (f := u_95.2.2 17) rfl rfl (by rw [eσ_173]; exact mwA_17) g_171 dX12_primary_265 (fun H locs hP hS => ?_)
                refine lv_goto (tgt := 417) hx hb dX12_primary_266 (by decide) ?_
                refine lv_iload_n hx hb dX12_primary_417 rfl (lv_at hl 0 rfl) ?_
                have h9 := Option.some.inj hF_174
                subst h9
                exact W.iret (v := u_7.1) hx hb hr (fun t ht hW => ⟨⟨u_7.1, (), rfl, rfl, m_end ht hP⟩, hS.F ht⟩) hS.2.2 dX12_primary_418
            · have hF_175 := ineg c_93 hF_92
              clear hF_92
              refine lv_aload_n hx hb dX12_primary_238 rfl (lv_at hl 2 rfl) ?_
              refine va_get (D := (dC, dI)) (ci := 12) (v := .ref (ad 17)) (C := RX12) (T := TX12) (N := 123) hx hb hts ii_X12 hown hK hP 0 rfl rfl 17 (by decide) (hts (.fieldLink RX12 49 "StoryHouseModel" "what" "[I") wq_1373) (fun _ h9 => h9) rfl dX12_primary_239 ?_
              refine lv_iload_n hx hb dX12_primary_242 rfl (lv_at hl 0 rfl) ?_
              refine lv_bipush (v := 45) hx hb dX12_primary_243 (by decide +kernel) ?_
              obtain ⟨g_176, hF_177⟩ := nif_e hF_175
              clear hF_175
              obtain ⟨σ_178, eσ_178, hF_179⟩ := bnd_e hF_177
              clear hF_177
              refine m_iast (σ' := σ_178) hx hb hK hP (hDD _ _) hS (q0 := 8) (t0 := 2) (f := u_91.2.2 17) rfl rfl (by rw [eσ_178]; exact mwA_17) g_176 dX12_primary_245 (fun H locs hP hS => ?_)
              refine lv_goto (tgt := 417) hx hb dX12_primary_246 (by decide) ?_
              refine lv_iload_n hx hb dX12_primary_417 rfl (lv_at hl 0 rfl) ?_
              have h9 := Option.some.inj hF_179
              subst h9
              exact W.iret (v := u_7.1) hx hb hr (fun t ht hW => ⟨⟨u_7.1, (), rfl, rfl, m_end ht hP⟩, hS.F ht⟩) hS.2.2 dX12_primary_418
          · have hF_180 := ineg c_89 hF_88
            clear hF_88
            refine lv_aload_n hx hb dX12_primary_218 rfl (lv_at hl 2 rfl) ?_
            refine va_get (D := (dC, dI)) (ci := 12) (v := .ref (ad 17)) (C := RX12) (T := TX12) (N := 123) hx hb hts ii_X12 hown hK hP 0 rfl rfl 17 (by decide) (hts (.fieldLink RX12 49 "StoryHouseModel" "what" "[I") wq_1373) (fun _ h9 => h9) rfl dX12_primary_219 ?_
            refine lv_iload_n hx hb dX12_primary_222 rfl (lv_at hl 0 rfl) ?_
            refine lv_bipush (v := 44) hx hb dX12_primary_223 (by decide +kernel) ?_
            obtain ⟨g_181, hF_182⟩ := nif_e hF_180
            clear hF_180
            obtain ⟨σ_183, eσ_183, hF_184⟩ := bnd_e hF_182
            clear hF_182
            refine m_iast (σ' := σ_183) hx hb hK hP (hDD _ _) hS (q0 := 8) (t0 := 2) (f := u_87.2.2 17) rfl rfl (by rw [eσ_183]; exact mwA_17) g_181 dX12_primary_225 (fun H locs hP hS => ?_)
            refine lv_goto (tgt := 417) hx hb dX12_primary_226 (by decide) ?_
            refine lv_iload_n hx hb dX12_primary_417 rfl (lv_at hl 0 rfl) ?_
            have h9 := Option.some.inj hF_184
            subst h9
            exact W.iret (v := u_7.1) hx hb hr (fun t ht hW => ⟨⟨u_7.1, (), rfl, rfl, m_end ht hP⟩, hS.F ht⟩) hS.2.2 dX12_primary_418
        · have hF_185 := ineg c_85 hF_84
          clear hF_84
          refine lv_aload_n hx hb dX12_primary_189 rfl (lv_at hl 2 rfl) ?_
          refine lv_bipush (v := 40) hx hb dX12_primary_190 (by decide +kernel) ?_
          obtain ⟨u_186, hu_186, hF_187⟩ := Option.bind_eq_some_iff.mp hF_185
          clear hF_185
          refine m_cv hsz hS (va_runV (As := [.int 40]) (rest := []) ⟨hx, hb, hml, hown, hts⟩ (m_X12_open l dC dI cB cC cI cJ cZ cP h qK qS ad hDD H.size  40 u_83.2 _ hu_186) (cwV 1 hts (g_gV wq_1555 wq_1556 wq_2131 wq_13 wq_1557) rfl rfl rfl (by decide +kernel) ⟨by show 4 + 1 ≤ 5 + (d + 1); omega, by show 8 + (2 + 11) + 103 ≤ 124 + 23 * (d + 1); omega⟩) (m_preV g_bl0 hsz hK hP hS hE hKS g_to0) rfl rfl hl.1 rfl (lv_room (Nat.le_of_ble_eq_true rfl)) dX12_primary_192 ⟨Nat.le_of_ble_eq_true rfl, Nat.le_of_ble_eq_true rfl⟩) (fun H locs hP hS => ?_)
          refine lv_aload_n hx hb dX12_primary_195 rfl (lv_at hl 2 rfl) ?_
          obtain ⟨u_188, hu_188, hF_189⟩ := Option.bind_eq_some_iff.mp hF_187
          clear hF_187
          refine m_ci hsz hS (va_runV (As := []) (rest := []) ⟨hx, hb, hml, hown, hts⟩ (hI0 H.size u_186.2 _ hu_188) (cwV 0 hts (g_gV wq_1606 wq_1607 wq_2148 wq_13 wq_1608) rfl rfl rfl (by decide +kernel) ⟨by show 5 + d + 1 ≤ 5 + (d + 1); omega, by show 8 + (3 + 11) + (124 + 23 * d) ≤ 124 + 23 * (d + 1); omega⟩) (m_preV g_bl0 hsz hK hP hS hE hKS g_to0) rfl rfl hl.1 rfl (lv_room (Nat.le_of_ble_eq_true rfl)) dX12_primary_196 ⟨Nat.le_of_ble_eq_true rfl, Nat.le_of_ble_eq_true rfl⟩) (fun H locs hP hS => ?_)
          refine lv_istore_n (lv' := [(2, .int u_188.1), (1, .int x_5), (0, .ref h)]) hx hb dX12_primary_199 rfl hl (by decide) rfl (fun ls hl => ?_)
          refine lv_aload_n hx hb dX12_primary_200 rfl (lv_at hl 2 rfl) ?_
          refine lv_bipush (v := 41) hx hb dX12_primary_201 (by decide +kernel) ?_
          obtain ⟨u_190, hu_190, hF_191⟩ := Option.bind_eq_some_iff.mp hF_189
          clear hF_189
          refine m_cv hsz hS (va_runV (As := [.int 41]) (rest := []) ⟨hx, hb, hml, hown, hts⟩ (m_X12_shut l dC dI cB cC cI cJ cZ cP h qK qS ad hDD H.size  41 u_188.2 _ hu_190) (cwV 1 hts (g_gV wq_1582 wq_1583 wq_2140 wq_13 wq_1584) rfl rfl rfl (by decide +kernel) ⟨by show 4 + 1 ≤ 5 + (d + 1); omega, by show 8 + (2 + 11) + 103 ≤ 124 + 23 * (d + 1); omega⟩) (m_preV g_bl0 hsz hK hP hS hE hKS g_to0) rfl rfl hl.1 rfl (lv_room (Nat.le_of_ble_eq_true rfl)) dX12_primary_203 ⟨Nat.le_of_ble_eq_true rfl, Nat.le_of_ble_eq_true rfl⟩) (fun H locs hP hS => ?_)
          refine lv_goto (tgt := 417) hx hb dX12_primary_206 (by decide) ?_
          refine lv_iload_n hx hb dX12_primary_417 rfl (lv_at hl 0 rfl) ?_
          have h9 := Option.some.inj hF_191
          subst h9
          exact W.iret (v := u_188.1) hx hb hr (fun t ht hW => ⟨⟨u_188.1, (), rfl, rfl, m_end ht hP⟩, hS.F ht⟩) hS.2.2 dX12_primary_418
      · have hF_33 := ipos c_32 hF_31
        clear hF_31
        refine lv_aload_n hx hb dX12_primary_78 rfl (lv_at hl 2 rfl) ?_
        refine va_get (D := (dC, dI)) (ci := 12) (v := .ref (ad 17)) (C := RX12) (T := TX12) (N := 123) hx hb hts ii_X12 hown hK hP 0 rfl rfl 17 (by decide) (hts (.fieldLink RX12 49 "StoryHouseModel" "what" "[I") wq_1373) (fun _ h9 => h9) rfl dX12_primary_79 ?_
        refine lv_iload_n hx hb dX12_primary_82 rfl (lv_at hl 0 rfl) ?_
        refine lv_bipush (v := 41) hx hb dX12_primary_83 (by decide +kernel) ?_
        obtain ⟨g_34, hF_35⟩ := nif_e hF_33
        clear hF_33
        obtain ⟨σ_36, eσ_36, hF_37⟩ := bnd_e hF_35
        clear hF_35
        refine m_iast (σ' := σ_36) hx hb hK hP (hDD _ _) hS (q0 := 8) (t0 := 2) (f := u_7.2.2 17) rfl rfl (by rw [eσ_36]; exact mwA_17) g_34 dX12_primary_85 (fun H locs hP hS => ?_)
        refine lv_aload_n hx hb dX12_primary_86 rfl (lv_at hl 2 rfl) ?_
        refine va_get (D := (dC, dI)) (ci := 12) (v := .ref (ad 19)) (C := RX12) (T := TX12) (N := 123) hx hb hts ii_X12 hown hK hP 0 rfl rfl 19 (by decide) (hts (.fieldLink RX12 55 "StoryHouseModel" "a" "[I") wq_1375) (fun _ h9 => h9) rfl dX12_primary_87 ?_
        refine lv_iload_n hx hb dX12_primary_90 rfl (lv_at hl 0 rfl) ?_
        refine lv_aload_n hx hb dX12_primary_91 rfl (lv_at hl 2 rfl) ?_
        refine va_get (D := (dC, dI)) (ci := 12) (v := .ref (ad 9)) (C := RX12) (T := TX12) (N := 123) hx hb hts ii_X12 hown hK hP 0 rfl rfl 9 (by decide) (hts (.fieldLink RX12 34 "StoryHouseModel" "tokValue" "[I") wq_1365) (fun _ h9 => h9) rfl dX12_primary_92 ?_
        refine lv_aload_n hx hb dX12_primary_95 rfl (lv_at hl 2 rfl) ?_
        refine lv_dup hx hb dX12_primary_96 rfl ?_
        refine va_get (D := (dC, dI)) (ci := 12) (v := .int (σ_36.1 25)) (C := RX12) (T := TX12) (N := 123) hx hb hts ii_X12 hown hK hP 0 rfl rfl 25 (by decide) (hts (.fieldLink RX12 314 "StoryHouseModel" "at" "I") wq_1381) (fun _ h9 => h9) rfl dX12_primary_97 ?_
        refine lv_dup_x1 hx hb dX12_primary_100 rfl rfl ?_
        refine lv_iconst (v := 1) hx hb dX12_primary_101 (by decide +kernel) ?_
        refine lv_iadd hx hb dX12_primary_102 ?_
        obtain ⟨σ_38, eσ_38, hF_39⟩ := bnd_e hF_37
        clear hF_37
        refine m_put (σ' := σ_38) (v := .int ((σ_36.1 25) + 1)) (ty := .int) hx hb hts hown hK hP (hDD _ _) hS (by rw [eσ_38]; exact mwI_25) (k := 25) (by decide) (hts (.fieldLink RX12 314 "StoryHouseModel" "at" "I") wq_1381) (fun _ h9 => h9) rfl (by decide +kernel) rfl rfl dX12_primary_103 (fun H locs hP hS => ?_)
        obtain ⟨x_40, ex_40, hF_41⟩ := bnd_e hF_39
        clear hF_39
        refine m_top ex_40 ?_
        obtain ⟨g_42, hF_43⟩ := nif_e hF_41
        clear hF_41
        refine va_iald (f := σ_38.2 9) hx hb hK hP 5 2 rfl rfl g_42 dX12_primary_106 ?_
        obtain ⟨g_44, hF_45⟩ := nif_e hF_43
        clear hF_43
        obtain ⟨σ_46, eσ_46, hF_47⟩ := bnd_e hF_45
        clear hF_45
        refine m_iast (σ' := σ_46) hx hb hK hP (hDD _ _) hS (q0 := 10) (t0 := 2) (f := σ_38.2 19) rfl rfl (by rw [eσ_46]; exact mwA_19) g_44 dX12_primary_107 (fun H locs hP hS => ?_)
        refine lv_aload_n hx hb dX12_primary_108 rfl (lv_at hl 2 rfl) ?_
        refine lv_bipush (v := 40) hx hb dX12_primary_109 (by decide +kernel) ?_
        obtain ⟨u_48, hu_48, hF_49⟩ := Option.bind_eq_some_iff.mp hF_47
        clear hF_47
        refine m_ci hsz hS (va_runV (As := [.int 40]) (rest := []) ⟨hx, hb, hml, hown, hts⟩ (m_X12_isSign l dC dI cB cC cI cJ cZ cP h qK qS ad hDD H.size  40 σ_46 _ hu_48) (cwV 1 hts (g_gV wq_1558 wq_1559 wq_2132 wq_13 wq_1560) rfl rfl rfl (by decide +kernel) ⟨by show 1 + 1 ≤ 5 + (d + 1); omega, by show 8 + (2 + 11) + 40 ≤ 124 + 23 * (d + 1); omega⟩) (m_preV g_bl0 hsz hK hP hS hE hKS g_to0) rfl rfl hl.1 rfl (lv_room (Nat.le_of_ble_eq_true rfl)) dX12_primary_111 ⟨Nat.le_of_ble_eq_true rfl, Nat.le_of_ble_eq_true rfl⟩) (fun H locs hP hS => ?_)
        refine lv_if_eq (tgt := 138) hx hb dX12_primary_114 (by decide) (fun c_50 => ?_) (fun c_50 => ?_)
        · have hF_51 := ipos c_50 hF_49
          clear hF_49
          refine lv_aload_n hx hb dX12_primary_138 rfl (lv_at hl 2 rfl) ?_
          refine lv_bipush (v := 91) hx hb dX12_primary_139 (by decide +kernel) ?_
          obtain ⟨u_52, hu_52, hF_53⟩ := Option.bind_eq_some_iff.mp hF_51
          clear hF_51
          refine m_ci hsz hS (va_runV (As := [.int 91]) (rest := []) ⟨hx, hb, hml, hown, hts⟩ (m_X12_isSign l dC dI cB cC cI cJ cZ cP h qK qS ad hDD H.size  91 u_48.2 _ hu_52) (cwV 1 hts (g_gV wq_1558 wq_1559 wq_2132 wq_13 wq_1560) rfl rfl rfl (by decide +kernel) ⟨by show 1 + 1 ≤ 5 + (d + 1); omega, by show 8 + (2 + 11) + 40 ≤ 124 + 23 * (d + 1); omega⟩) (m_preV g_bl0 hsz hK hP hS hE hKS g_to0) rfl rfl hl.1 rfl (lv_room (Nat.le_of_ble_eq_true rfl)) dX12_primary_141 ⟨Nat.le_of_ble_eq_true rfl, Nat.le_of_ble_eq_true rfl⟩) (fun H locs hP hS => ?_)
          refine lv_if_eq (tgt := 417) hx hb dX12_primary_144 (by decide) (fun c_54 => ?_) (fun c_54 => ?_)
          · have hF_55 := ipos c_54 hF_53
            clear hF_53
            refine lv_iload_n hx hb dX12_primary_417 rfl (lv_at hl 0 rfl) ?_
            have h9 := Option.some.inj hF_55
            subst h9
            exact W.iret (v := u_7.1) hx hb hr (fun t ht hW => ⟨⟨u_7.1, (), rfl, rfl, m_end ht hP⟩, hS.F ht⟩) hS.2.2 dX12_primary_418
          · have hF_56 := ineg c_54 hF_53
            clear hF_53
            refine lv_aload_n hx hb dX12_primary_147 rfl (lv_at hl 2 rfl) ?_
            refine va_get (D := (dC, dI)) (ci := 12) (v := .ref (ad 17)) (C := RX12) (T := TX12) (N := 123) hx hb hts ii_X12 hown hK hP 0 rfl rfl 17 (by decide) (hts (.fieldLink RX12 49 "StoryHouseModel" "what" "[I") wq_1373) (fun _ h9 => h9) rfl dX12_primary_148 ?_
            refine lv_iload_n hx hb dX12_primary_151 rfl (lv_at hl 0 rfl) ?_
            refine lv_bipush (v := 43) hx hb dX12_primary_152 (by decide +kernel) ?_
            obtain ⟨g_57, hF_58⟩ := nif_e hF_56
            clear hF_56
            obtain ⟨σ_59, eσ_59, hF_60⟩ := bnd_e hF_58
            clear hF_58
            refine m_iast (σ' := σ_59) hx hb hK hP (hDD _ _) hS (q0 := 8) (t0 := 2) (f := u_52.2.2 17) rfl rfl (by rw [eσ_59]; exact mwA_17) g_57 dX12_primary_154 (fun H locs hP hS => ?_)
            refine lv_aload_n hx hb dX12_primary_155 rfl (lv_at hl 2 rfl) ?_
            refine lv_bipush (v := 91) hx hb dX12_primary_156 (by decide +kernel) ?_
            obtain ⟨u_61, hu_61, hF_62⟩ := Option.bind_eq_some_iff.mp hF_60
            clear hF_60
            refine m_cv hsz hS (va_runV (As := [.int 91]) (rest := []) ⟨hx, hb, hml, hown, hts⟩ (m_X12_open l dC dI cB cC cI cJ cZ cP h qK qS ad hDD H.size  91 σ_59 _ hu_61) (cwV 1 hts (g_gV wq_1555 wq_1556 wq_2131 wq_13 wq_1557) rfl rfl rfl (by decide +kernel) ⟨by show 4 + 1 ≤ 5 + (d + 1); omega, by show 8 + (2 + 11) + 103 ≤ 124 + 23 * (d + 1); omega⟩) (m_preV g_bl0 hsz hK hP hS hE hKS g_to0) rfl rfl hl.1 rfl (lv_room (Nat.le_of_ble_eq_true rfl)) dX12_primary_158 ⟨Nat.le_of_ble_eq_true rfl, Nat.le_of_ble_eq_true rfl⟩) (fun H locs hP hS => ?_)
            refine lv_aload_n hx hb dX12_primary_161 rfl (lv_at hl 2 rfl) ?_
            refine va_get (D := (dC, dI)) (ci := 12) (v := .ref (ad 20)) (C := RX12) (T := TX12) (N := 123) hx hb hts ii_X12 hown hK hP 0 rfl rfl 20 (by decide) (hts (.fieldLink RX12 58 "StoryHouseModel" "b" "[I") wq_1376) (fun _ h9 => h9) rfl dX12_primary_162 ?_
            refine lv_iload_n hx hb dX12_primary_165 rfl (lv_at hl 0 rfl) ?_
            refine lv_aload_n hx hb dX12_primary_166 rfl (lv_at hl 2 rfl) ?_
            obtain ⟨u_63, hu_63, hF_64⟩ := Option.bind_eq_some_iff.mp hF_62
            clear hF_62
            refine m_ci hsz hS (va_runV (As := []) (rest := [.int u_7.1, .ref (ad 20)]) ⟨hx, hb, hml, hown, hts⟩ (hI0 H.size u_61.2 _ hu_63) (cwV 0 hts (g_gV wq_1606 wq_1607 wq_2148 wq_13 wq_1608) rfl rfl rfl (by decide +kernel) ⟨by show 5 + d + 1 ≤ 5 + (d + 1); omega, by show 8 + (3 + 11) + (124 + 23 * d) ≤ 124 + 23 * (d + 1); omega⟩) (m_preV g_bl0 hsz hK hP hS hE hKS g_to0) rfl rfl hl.1 rfl (lv_room (Nat.le_of_ble_eq_true rfl)) dX12_primary_167 ⟨Nat.le_of_ble_eq_true rfl, Nat.le_of_ble_eq_true rfl⟩) (fun H locs hP hS => ?_)
            obtain ⟨g_65, hF_66⟩ := nif_e hF_64
            clear hF_64
            obtain ⟨σ_67, eσ_67, hF_68⟩ := bnd_e hF_66
            clear hF_66
            refine m_iast (σ' := σ_67) hx hb hK hP (hDD _ _) hS (q0 := 11) (t0 := 2) (f := u_63.2.2 20) rfl rfl (by rw [eσ_67]; exact mwA_20) g_65 dX12_primary_170 (fun H locs hP hS => ?_)
            refine lv_aload_n hx hb dX12_primary_171 rfl (lv_at hl 2 rfl) ?_
            refine lv_bipush (v := 93) hx hb dX12_primary_172 (by decide +kernel) ?_
            obtain ⟨u_69, hu_69, hF_70⟩ := Option.bind_eq_some_iff.mp hF_68
            clear hF_68
            refine m_cv hsz hS (va_runV (As := [.int 93]) (rest := []) ⟨hx, hb, hml, hown, hts⟩ (m_X12_shut l dC dI cB cC cI cJ cZ cP h qK qS ad hDD H.size  93 σ_67 _ hu_69) (cwV 1 hts (g_gV wq_1582 wq_1583 wq_2140 wq_13 wq_1584) rfl rfl rfl (by decide +kernel) ⟨by show 4 + 1 ≤ 5 + (d + 1); omega, by show 8 + (2 + 11) + 103 ≤ 124 + 23 * (d + 1); omega⟩) (m_preV g_bl0 hsz hK hP hS hE hKS g_to0) rfl rfl hl.1 rfl (lv_room (Nat.le_of_ble_eq_true rfl)) dX12_primary_174 ⟨Nat.le_of_ble_eq_true rfl, Nat.le_of_ble_eq_true rfl⟩) (fun H locs hP hS => ?_)
            refine lv_goto (tgt := 417) hx hb dX12_primary_177 (by decide) ?_
            refine lv_iload_n hx hb dX12_primary_417 rfl (lv_at hl 0 rfl) ?_
            have h9 := Option.some.inj hF_70
            subst h9
            exact W.iret (v := u_7.1) hx hb hr (fun t ht hW => ⟨⟨u_7.1, (), rfl, rfl, m_end ht hP⟩, hS.F ht⟩) hS.2.2 dX12_primary_418
        · have hF_71 := ineg c_50 hF_49
          clear hF_49
          refine lv_aload_n hx hb dX12_primary_117 rfl (lv_at hl 2 rfl) ?_
          refine va_get (D := (dC, dI)) (ci := 12) (v := .ref (ad 17)) (C := RX12) (T := TX12) (N := 123) hx hb hts ii_X12 hown hK hP 0 rfl rfl 17 (by decide) (hts (.fieldLink RX12 49 "StoryHouseModel" "what" "[I") wq_1373) (fun _ h9 => h9) rfl dX12_primary_118 ?_
          refine lv_iload_n hx hb dX12_primary_121 rfl (lv_at hl 0 rfl) ?_
          refine lv_bipush (v := 42) hx hb dX12_primary_122 (by decide +kernel) ?_
          obtain ⟨g_72, hF_73⟩ := nif_e hF_71
          clear hF_71
          obtain ⟨σ_74, eσ_74, hF_75⟩ := bnd_e hF_73
          clear hF_73
          refine m_iast (σ' := σ_74) hx hb hK hP (hDD _ _) hS (q0 := 8) (t0 := 2) (f := u_48.2.2 17) rfl rfl (by rw [eσ_74]; exact mwA_17) g_72 dX12_primary_124 (fun H locs hP hS => ?_)
          refine lv_aload_n hx hb dX12_primary_125 rfl (lv_at hl 2 rfl) ?_
          refine va_get (D := (dC, dI)) (ci := 12) (v := .ref (ad 20)) (C := RX12) (T := TX12) (N := 123) hx hb hts ii_X12 hown hK hP 0 rfl rfl 20 (by decide) (hts (.fieldLink RX12 58 "StoryHouseModel" "b" "[I") wq_1376) (fun _ h9 => h9) rfl dX12_primary_126 ?_
          refine lv_iload_n hx hb dX12_primary_129 rfl (lv_at hl 0 rfl) ?_
          refine lv_aload_n hx hb dX12_primary_130 rfl (lv_at hl 2 rfl) ?_
          obtain ⟨u_76, hu_76, hF_77⟩ := Option.bind_eq_some_iff.mp hF_75
          clear hF_75
          refine m_ci hsz hS (va_runV (As := []) (rest := [.int u_7.1, .ref (ad 20)]) ⟨hx, hb, hml, hown, hts⟩ (hI8 H.size σ_74 _ hu_76) (cwV 0 hts (g_gV wq_1603 wq_1604 wq_2147 wq_13 wq_1605) rfl rfl rfl (by decide +kernel) ⟨by show 5 + d + 1 ≤ 5 + (d + 1); omega, by show 8 + (4 + 11) + (124 + 23 * d) ≤ 124 + 23 * (d + 1); omega⟩) (m_preV g_bl0 hsz hK hP hS hE hKS g_to0) rfl rfl hl.1 rfl (lv_room (Nat.le_of_ble_eq_true rfl)) dX12_primary_131 ⟨Nat.le_of_ble_eq_true rfl, Nat.le_of_ble_eq_true rfl⟩) (fun H locs hP hS => ?_)
          obtain ⟨g_78, hF_79⟩ := nif_e hF_77
          clear hF_77
          obtain ⟨σ_80, eσ_80, hF_81⟩ := bnd_e hF_79
          clear hF_79
          refine m_iast (σ' := σ_80) hx hb hK hP (hDD _ _) hS (q0 := 11) (t0 := 2) (f := u_76.2.2 20) rfl rfl (by rw [eσ_80]; exact mwA_20) g_78 dX12_primary_134 (fun H locs hP hS => ?_)
          refine lv_goto (tgt := 417) hx hb dX12_primary_135 (by decide) ?_
          refine lv_iload_n hx hb dX12_primary_417 rfl (lv_at hl 0 rfl) ?_
          have h9 := Option.some.inj hF_81
          subst h9
          exact W.iret (v := u_7.1) hx hb hr (fun t ht hW => ⟨⟨u_7.1, (), rfl, rfl, m_end ht hP⟩, hS.F ht⟩) hS.2.2 dX12_primary_418
    · have hF_16 := ipos c_15 hF_14
      clear hF_14
      refine lv_aload_n hx hb dX12_primary_40 rfl (lv_at hl 2 rfl) ?_
      refine va_get (D := (dC, dI)) (ci := 12) (v := .ref (ad 19)) (C := RX12) (T := TX12) (N := 123) hx hb hts ii_X12 hown hK hP 0 rfl rfl 19 (by decide) (hts (.fieldLink RX12 55 "StoryHouseModel" "a" "[I") wq_1375) (fun _ h9 => h9) rfl dX12_primary_41 ?_
      refine lv_iload_n hx hb dX12_primary_44 rfl (lv_at hl 0 rfl) ?_
      refine lv_aload_n hx hb dX12_primary_45 rfl (lv_at hl 2 rfl) ?_
      refine va_get (D := (dC, dI)) (ci := 12) (v := .ref (ad 9)) (C := RX12) (T := TX12) (N := 123) hx hb hts ii_X12 hown hK hP 0 rfl rfl 9 (by decide) (hts (.fieldLink RX12 34 "StoryHouseModel" "tokValue" "[I") wq_1365) (fun _ h9 => h9) rfl dX12_primary_46 ?_
      refine lv_aload_n hx hb dX12_primary_49 rfl (lv_at hl 2 rfl) ?_
      refine lv_dup hx hb dX12_primary_50 rfl ?_
      refine va_get (D := (dC, dI)) (ci := 12) (v := .int (u_7.2.1 25)) (C := RX12) (T := TX12) (N := 123) hx hb hts ii_X12 hown hK hP 0 rfl rfl 25 (by decide) (hts (.fieldLink RX12 314 "StoryHouseModel" "at" "I") wq_1381) (fun _ h9 => h9) rfl dX12_primary_51 ?_
      refine lv_dup_x1 hx hb dX12_primary_54 rfl rfl ?_
      refine lv_iconst (v := 1) hx hb dX12_primary_55 (by decide +kernel) ?_
      refine lv_iadd hx hb dX12_primary_56 ?_
      obtain ⟨σ_17, eσ_17, hF_18⟩ := bnd_e hF_16
      clear hF_16
      refine m_put (σ' := σ_17) (v := .int ((u_7.2.1 25) + 1)) (ty := .int) hx hb hts hown hK hP (hDD _ _) hS (by rw [eσ_17]; exact mwI_25) (k := 25) (by decide) (hts (.fieldLink RX12 314 "StoryHouseModel" "at" "I") wq_1381) (fun _ h9 => h9) rfl (by decide +kernel) rfl rfl dX12_primary_57 (fun H locs hP hS => ?_)
      obtain ⟨x_19, ex_19, hF_20⟩ := bnd_e hF_18
      clear hF_18
      refine m_top ex_19 ?_
      obtain ⟨g_21, hF_22⟩ := nif_e hF_20
      clear hF_20
      refine va_iald (f := σ_17.2 9) hx hb hK hP 5 2 rfl rfl g_21 dX12_primary_60 ?_
      obtain ⟨g_23, hF_24⟩ := nif_e hF_22
      clear hF_22
      obtain ⟨σ_25, eσ_25, hF_26⟩ := bnd_e hF_24
      clear hF_24
      refine m_iast (σ' := σ_25) hx hb hK hP (hDD _ _) hS (q0 := 10) (t0 := 2) (f := σ_17.2 19) rfl rfl (by rw [eσ_25]; exact mwA_19) g_23 dX12_primary_61 (fun H locs hP hS => ?_)
      refine lv_goto (tgt := 417) hx hb dX12_primary_62 (by decide) ?_
      refine lv_iload_n hx hb dX12_primary_417 rfl (lv_at hl 0 rfl) ?_
      have h9 := Option.some.inj hF_26
      subst h9
      exact W.iret (v := u_7.1) hx hb hr (fun t ht hW => ⟨⟨u_7.1, (), rfl, rfl, m_end ht hP⟩, hS.F ht⟩) hS.2.2 dX12_primary_418
  · have hF_192 := ineg c_9 hF_8
    clear hF_8
    refine lv_iload_n hx hb dX12_primary_25 rfl (lv_at hl 0 rfl) ?_
    have h9 := Option.some.inj hF_192
    subst h9
    exact W.iret (v := u_7.1) hx hb hr (fun t ht hW => ⟨⟨u_7.1, (), rfl, rfl, m_end ht hP⟩, hS.F ht⟩) hS.2.2 dX12_primary_26

def F_X12_arguments (rec : GF)  (σ : MS) : MR :=
  (F_X12_open 40 σ).bind fun u_1 =>
  (F_X12_isSign 41 u_1.2).bind fun u_3 =>
  bnd (fun (v1_5 : Int32) (σ_6 : MS) => (
    (F_X12_shut 41 σ_6).bind fun u_10 =>
    some (v1_5, u_10.2)
  ) : Int32 → MS → MR) fun j_7 =>
  if u_3.1 = 0 then (
    (rec 0 0 0 0 u_3.2).bind fun u_14 =>
    loopF (fun (again_17 : (Int32 × MS) → MR) (s_16 : Int32 × MS) => (
      (F_X12_took 44 s_16.2).bind fun u_20 =>
      if u_20.1 = 0 then (
        j_7 u_14.1 u_20.2
      ) else (
        (rec 0 0 0 0 u_20.2).bind fun u_25 =>
        if s_16.1 < 0 ∨ 40000 ≤ s_16.1.toNatClampNeg then none else
        bnd (mA u_25.2 22 (upd (u_25.2.2 22) s_16.1.toNatClampNeg u_25.1)) fun σ_29 =>
        again_17 (u_25.1, σ_29)
      )
    )) FU (u_14.1, u_14.2)
  ) else (
    j_7 (-1) u_3.2
  )
set_option maxHeartbeats 4000000 in
set_option maxRecDepth 100000 in
theorem m_X12_arguments_st (l : Launch) (dC : Nat → ClassId) (dI : Nat → Nat → Nat) (cB cC cI cJ cZ cP : ClassId) (h qK qS : Nat) (ad : Nat → Nat) (hDD : mDis cB cI cZ h qK qS ad) (d : Nat) (rec : GF) (hI0 : ∀ (sz : Nat)  (σ : MS) (res : Int32 × MS), rec 0 0 0 0 σ = some res → Met l yX12_expression (g_ws yX12_expression cX12_expression 3 (some .int)) ({ frames := 5 + d, cells := 0, slots := 0, locals := 124 + 23 * d }) (va_Pc [.ref h] (m_B (dC, dI) [(cB, .byte), (cC, .char), (cI, .int), (cJ, .long), (cZ, .boolean), (cP, .object "StoryHouse$Play")] sz h ad qK qS (mW cB cI cZ h qK qS ad σ) g_0)) (va_Qi (fun r (_ : Unit) => r = res.1) (fun _ t => va_P (dC, dI) vwCl (mW cB cI cZ h qK qS ad res.2) t.heap) (mCells h ad sz)) 0 0 (mCells h ad sz)) (hI1 : ∀ (sz : Nat)  (σ : MS) (res : Int32 × MS), rec 1 0 0 0 σ = some res → Met l yX12_both (g_ws yX12_both cX12_both 3 (some .int)) ({ frames := 5 + d, cells := 0, slots := 0, locals := 124 + 23 * d }) (va_Pc [.ref h] (m_B (dC, dI) [(cB, .byte), (cC, .char), (cI, .int), (cJ, .long), (cZ, .boolean), (cP, .object "StoryHouse$Play")] sz h ad qK qS (mW cB cI cZ h qK qS ad σ) g_0)) (va_Qi (fun r (_ : Unit) => r = res.1) (fun _ t => va_P (dC, dI) vwCl (mW cB cI cZ h qK qS ad res.2) t.heap) (mCells h ad sz)) 0 0 (mCells h ad sz)) (hI2 : ∀ (sz : Nat)  (σ : MS) (res : Int32 × MS), rec 2 0 0 0 σ = some res → Met l yX12_step (g_ws yX12_step cX12_step 3 (some .int)) ({ frames := 5 + d, cells := 0, slots := 0, locals := 124 + 23 * d }) (va_Pc [.ref h] (m_B (dC, dI) [(cB, .byte), (cC, .char), (cI, .int), (cJ, .long), (cZ, .boolean), (cP, .object "StoryHouse$Play")] sz h ad qK qS (mW cB cI cZ h qK qS ad σ) g_0)) (va_Qi (fun r (_ : Unit) => r = res.1) (fun _ t => va_P (dC, dI) vwCl (mW cB cI cZ h qK qS ad res.2) t.heap) (mCells h ad sz)) 0 0 (mCells h ad sz)) (hI3 : ∀ (sz : Nat)  (σ : MS) (res : Int32 × MS), rec 3 0 0 0 σ = some res → Met l yX12_comparison (g_ws yX12_comparison cX12_comparison 4 (some .int)) ({ frames := 5 + d, cells := 0, slots := 0, locals := 124 + 23 * d }) (va_Pc [.ref h] (m_B (dC, dI) [(cB, .byte), (cC, .char), (cI, .int), (cJ, .long), (cZ, .boolean), (cP, .object "StoryHouse$Play")] sz h ad qK qS (mW cB cI cZ h qK qS ad σ) g_0)) (va_Qi (fun r (_ : Unit) => r = res.1) (fun _ t => va_P (dC, dI) vwCl (mW cB cI cZ h qK qS ad res.2) t.heap) (mCells h ad sz)) 0 0 (mCells h ad sz)) (hI4 : ∀ (sz : Nat)  (σ : MS) (res : Int32 × MS), rec 4 0 0 0 σ = some res → Met l yX12_sum (g_ws yX12_sum cX12_sum 4 (some .int)) ({ frames := 5 + d, cells := 0, slots := 0, locals := 124 + 23 * d }) (va_Pc [.ref h] (m_B (dC, dI) [(cB, .byte), (cC, .char), (cI, .int), (cJ, .long), (cZ, .boolean), (cP, .object "StoryHouse$Play")] sz h ad qK qS (mW cB cI cZ h qK qS ad σ) g_0)) (va_Qi (fun r (_ : Unit) => r = res.1) (fun _ t => va_P (dC, dI) vwCl (mW cB cI cZ h qK qS ad res.2) t.heap) (mCells h ad sz)) 0 0 (mCells h ad sz)) (hI5 : ∀ (sz : Nat)  (σ : MS) (res : Int32 × MS), rec 5 0 0 0 σ = some res → Met l yX12_term (g_ws yX12_term cX12_term 4 (some .int)) ({ frames := 5 + d, cells := 0, slots := 0, locals := 124 + 23 * d }) (va_Pc [.ref h] (m_B (dC, dI) [(cB, .byte), (cC, .char), (cI, .int), (cJ, .long), (cZ, .boolean), (cP, .object "StoryHouse$Play")] sz h ad qK qS (mW cB cI cZ h qK qS ad σ) g_0)) (va_Qi (fun r (_ : Unit) => r = res.1) (fun _ t => va_P (dC, dI) vwCl (mW cB cI cZ h qK qS ad res.2) t.heap) (mCells h ad sz)) 0 0 (mCells h ad sz)) (hI6 : ∀ (sz : Nat)  (σ : MS) (res : Int32 × MS), rec 6 0 0 0 σ = some res → Met l yX12_factor (g_ws yX12_factor cX12_factor 3 (some .int)) ({ frames := 5 + d, cells := 0, slots := 0, locals := 124 + 23 * d }) (va_Pc [.ref h] (m_B (dC, dI) [(cB, .byte), (cC, .char), (cI, .int), (cJ, .long), (cZ, .boolean), (cP, .object "StoryHouse$Play")] sz h ad qK qS (mW cB cI cZ h qK qS ad σ) g_0)) (va_Qi (fun r (_ : Unit) => r = res.1) (fun _ t => va_P (dC, dI) vwCl (mW cB cI cZ h qK qS ad res.2) t.heap) (mCells h ad sz)) 0 0 (mCells h ad sz)) (hI7 : ∀ (sz : Nat)  (σ : MS) (res : Int32 × MS), rec 7 0 0 0 σ = some res → Met l yX12_primary (g_ws yX12_primary cX12_primary 4 (some .int)) ({ frames := 5 + d, cells := 0, slots := 0, locals := 124 + 23 * d }) (va_Pc [.ref h] (m_B (dC, dI) [(cB, .byte), (cC, .char), (cI, .int), (cJ, .long), (cZ, .boolean), (cP, .object "StoryHouse$Play")] sz h ad qK qS (mW cB cI cZ h qK qS ad σ) g_0)) (va_Qi (fun r (_ : Unit) => r = res.1) (fun _ t => va_P (dC, dI) vwCl (mW cB cI cZ h qK qS ad res.2) t.heap) (mCells h ad sz)) 0 0 (mCells h ad sz)) (hI8 : ∀ (sz : Nat)  (σ : MS) (res : Int32 × MS), rec 8 0 0 0 σ = some res → Met l yX12_arguments (g_ws yX12_arguments cX12_arguments 4 (some .int)) ({ frames := 5 + d, cells := 0, slots := 0, locals := 124 + 23 * d }) (va_Pc [.ref h] (m_B (dC, dI) [(cB, .byte), (cC, .char), (cI, .int), (cJ, .long), (cZ, .boolean), (cP, .object "StoryHouse$Play")] sz h ad qK qS (mW cB cI cZ h qK qS ad σ) g_0)) (va_Qi (fun r (_ : Unit) => r = res.1) (fun _ t => va_P (dC, dI) vwCl (mW cB cI cZ h qK qS ad res.2) t.heap) (mCells h ad sz)) 0 0 (mCells h ad sz)) (sz : Nat)   (σ : MS) (res : Int32 × MS) (hF : F_X12_arguments rec  σ = some res) : Met l yX12_arguments (g_ws yX12_arguments cX12_arguments 4 (some .int)) ({ frames := 5 + (d + 1), cells := 0, slots := 0, locals := 124 + 23 * (d + 1) }) (va_Pc [.ref h] (m_B (dC, dI) [(cB, .byte), (cC, .char), (cI, .int), (cJ, .long), (cZ, .boolean), (cP, .object "StoryHouse$Play")] sz h ad qK qS (mW cB cI cZ h qK qS ad σ) g_0)) (va_Qi (fun r (_ : Unit) => r = res.1) (fun _ t => va_P (dC, dI) vwCl (mW cB cI cZ h qK qS ad res.2) t.heap) (mCells h ad sz)) 0 0 (mCells h ad sz) := by
  refine Met.ofW (cc := cX12_arguments) (maxL := 4) (ret := (some .int)) (by decide) rfl ?_
  intro p e s m args below meth c s₁ B hml hv
  obtain ⟨rfl, hsz, hP, hK, hE, hKS, hX⟩ := hv
  have hx := B.exec
  have hb := B.bytes
  have hr := B.returns
  have hts0 := atoms_spec (ws := g_ws yX12_arguments cX12_arguments 4 (some .int)) B.pre
  have hts : ∀ w ∈ lw_good, w.before ([.ref h] : List Value).toArray s = true := fun w z => hts0 w (List.mem_cons_of_mem _ z)
  have hown : s.vm.findClass RX12 = some m.cls := findClass_of_methodNamed B.named
  have hlocks := B.notSynchronized
  have hS : va_S (mCells h ad sz) s.heap s.heap [] := va_S.rf
  have hl := lv_entry ([.ref h]) (n := 4) (Nat.le_of_ble_eq_true rfl)
  rw [lg_entry_eq]
  generalize (lg_sl ([.ref h]) ++ List.replicate (4 - (lg_sl ([.ref h])).length) Slot.unset).toArray = ls at hl ⊢
  have hl : lv_has ls 4 [(0, .ref h)] := hl
  unfold F_X12_arguments at hF
  refine lv_aload_n hx hb dX12_arguments_0 rfl (lv_at hl 0 rfl) ?_
  refine lv_bipush (v := 40) hx hb dX12_arguments_1 (by decide +kernel) ?_
  obtain ⟨u_1, hu_1, hF_2⟩ := Option.bind_eq_some_iff.mp hF
  clear hF
  refine m_cv hsz hS (va_runV (As := [.int 40]) (rest := []) ⟨hx, hb, hml, hown, hts⟩ (m_X12_open l dC dI cB cC cI cJ cZ cP h qK qS ad hDD s.heap.size  40 σ _ hu_1) (cwV 1 hts (g_gV wq_1555 wq_1556 wq_2131 wq_13 wq_1557) rfl rfl rfl (by decide +kernel) ⟨by show 4 + 1 ≤ 5 + (d + 1); omega, by show 8 + (2 + 11) + 103 ≤ 124 + 23 * (d + 1); omega⟩) (m_preV g_bl0 hsz hK hP hS hE hKS g_to0) rfl rfl hl.1 rfl (lv_room (Nat.le_of_ble_eq_true rfl)) dX12_arguments_3 ⟨Nat.le_of_ble_eq_true rfl, Nat.le_of_ble_eq_true rfl⟩) (fun H locs hP hS => ?_)
  refine lv_iconst (v := (-1)) hx hb dX12_arguments_6 (by decide +kernel) ?_
  refine lv_istore_n (lv' := [(1, .int (-1)), (0, .ref h)]) hx hb dX12_arguments_7 rfl hl (by decide) rfl (fun ls hl => ?_)
  refine lv_aload_n hx hb dX12_arguments_8 rfl (lv_at hl 1 rfl) ?_
  refine lv_bipush (v := 41) hx hb dX12_arguments_9 (by decide +kernel) ?_
  obtain ⟨u_3, hu_3, hF_4⟩ := Option.bind_eq_some_iff.mp hF_2
  clear hF_2
  refine m_ci hsz hS (va_runV (As := [.int 41]) (rest := []) ⟨hx, hb, hml, hown, hts⟩ (m_X12_isSign l dC dI cB cC cI cJ cZ cP h qK qS ad hDD H.size  41 u_1.2 _ hu_3) (cwV 1 hts (g_gV wq_1558 wq_1559 wq_2132 wq_13 wq_1560) rfl rfl rfl (by decide +kernel) ⟨by show 1 + 1 ≤ 5 + (d + 1); omega, by show 8 + (2 + 11) + 40 ≤ 124 + 23 * (d + 1); omega⟩) (m_preV g_bl0 hsz hK hP hS hE hKS g_to0) rfl rfl hl.1 rfl (lv_room (Nat.le_of_ble_eq_true rfl)) dX12_arguments_11 ⟨Nat.le_of_ble_eq_true rfl, Nat.le_of_ble_eq_true rfl⟩) (fun H locs hP hS => ?_)
  obtain ⟨j_7, ej_7, hF_8⟩ := bnd_e hF_4
  clear hF_4
  have Jj_7 : ∀ (v1_5 : Int32) (σ_6 : MS), j_7 v1_5 σ_6 = some res → ∀ (H : Heap) (locs : List Loc), va_P (dC, dI) vwCl (mW cB cI cZ h qK qS ad σ_6) H → va_S (mCells h ad sz) s.heap H locs → ∀ ls : Array Slot, lv_has ls 4 [(0, .ref h), (1, .int v1_5)] → W p l e (headSpec (g_ws yX12_arguments cX12_arguments 4 (some .int)) { frames := 5 + (d + 1), cells := 0, slots := 0, locals := 124 + 23 * (d + 1) }).room s m ([.ref h] : List Value).toArray below meth c H locs 0 0 (MQ below (va_Qi (fun r (_ : Unit) => r = res.1) (fun _ t => va_P (dC, dI) vwCl (mW cB cI cZ h qK qS ad res.2) t.heap) (mCells h ad sz)) ([.ref h] : List Value).toArray s 0 0 (mCells h ad sz)) (F0 m 50 ls []) := by
    intro v1_5 σ_6 hF0 H locs hP hS ls hl
    subst ej_7
    have hF_9 := hF0
    clear hF0
    refine lv_aload_n hx hb dX12_arguments_50 rfl (lv_at hl 0 rfl) ?_
    refine lv_bipush (v := 41) hx hb dX12_arguments_51 (by decide +kernel) ?_
    obtain ⟨u_10, hu_10, hF_11⟩ := Option.bind_eq_some_iff.mp hF_9
    clear hF_9
    refine m_cv hsz hS (va_runV (As := [.int 41]) (rest := []) ⟨hx, hb, hml, hown, hts⟩ (m_X12_shut l dC dI cB cC cI cJ cZ cP h qK qS ad hDD H.size  41 σ_6 _ hu_10) (cwV 1 hts (g_gV wq_1582 wq_1583 wq_2140 wq_13 wq_1584) rfl rfl rfl (by decide +kernel) ⟨by show 4 + 1 ≤ 5 + (d + 1); omega, by show 8 + (2 + 11) + 103 ≤ 124 + 23 * (d + 1); omega⟩) (m_preV g_bl0 hsz hK hP hS hE hKS g_to0) rfl rfl hl.1 rfl (lv_room (Nat.le_of_ble_eq_true rfl)) dX12_arguments_53 ⟨Nat.le_of_ble_eq_true rfl, Nat.le_of_ble_eq_true rfl⟩) (fun H locs hP hS => ?_)
    refine lv_iload_n hx hb dX12_arguments_56 rfl (lv_at hl 1 rfl) ?_
    have h9 := Option.some.inj hF_11
    subst h9
    exact W.iret (v := v1_5) hx hb hr (fun t ht hW => ⟨⟨v1_5, (), rfl, rfl, m_end ht hP⟩, hS.F ht⟩) hS.2.2 dX12_arguments_57
  refine lv_if_ne (tgt := 50) hx hb dX12_arguments_14 (by decide) (fun c_12 => ?_) (fun c_12 => ?_)
  · have hF_31 := ineg c_12 hF_8
    clear hF_8
    exact Jj_7 (-1) u_3.2 hF_31 _ _ hP hS ls (lv_sub hl [1, 0] rfl)
  · have hF_13 := ipos c_12 hF_8
    clear hF_8
    refine lv_aload_n hx hb dX12_arguments_17 rfl (lv_at hl 1 rfl) ?_
    obtain ⟨u_14, hu_14, hF_15⟩ := Option.bind_eq_some_iff.mp hF_13
    clear hF_13
    refine m_ci hsz hS (va_runV (As := []) (rest := []) ⟨hx, hb, hml, hown, hts⟩ (hI0 H.size u_3.2 _ hu_14) (cwV 0 hts (g_gV wq_1606 wq_1607 wq_2148 wq_13 wq_1608) rfl rfl rfl (by decide +kernel) ⟨by show 5 + d + 1 ≤ 5 + (d + 1); omega, by show 8 + (3 + 11) + (124 + 23 * d) ≤ 124 + 23 * (d + 1); omega⟩) (m_preV g_bl0 hsz hK hP hS hE hKS g_to0) rfl rfl hl.1 rfl (lv_room (Nat.le_of_ble_eq_true rfl)) dX12_arguments_18 ⟨Nat.le_of_ble_eq_true rfl, Nat.le_of_ble_eq_true rfl⟩) (fun H locs hP hS => ?_)
    refine lv_istore_n (lv' := [(1, .int u_14.1), (0, .ref h)]) hx hb dX12_arguments_21 rfl hl (by decide) rfl (fun ls hl => ?_)
    refine lv_iload_n hx hb dX12_arguments_22 rfl (lv_at hl 0 rfl) ?_
    refine lv_istore_n (lv' := [(2, .int u_14.1), (1, .int u_14.1), (0, .ref h)]) hx hb dX12_arguments_23 rfl hl (by decide) rfl (fun ls hl => ?_)
    refine loopF_ind (P := fun (s_16 : Int32 × MS) => ∀ (H : Heap) (locs : List Loc), va_P (dC, dI) vwCl (mW cB cI cZ h qK qS ad s_16.2) H → va_S (mCells h ad sz) s.heap H locs → ∀ ls : Array Slot, lv_has ls 4 [(0, .ref h), (1, .int u_14.1), (2, .int s_16.1)] → W p l e (headSpec (g_ws yX12_arguments cX12_arguments 4 (some .int)) { frames := 5 + (d + 1), cells := 0, slots := 0, locals := 124 + 23 * (d + 1) }).room s m ([.ref h] : List Value).toArray below meth c H locs 0 0 (MQ below (va_Qi (fun r (_ : Unit) => r = res.1) (fun _ t => va_P (dC, dI) vwCl (mW cB cI cZ h qK qS ad res.2) t.heap) (mCells h ad sz)) ([.ref h] : List Value).toArray s 0 0 (mCells h ad sz)) (F0 m 24 ls [])) ?_ _ _ hF_15 _ _ hP hS ls (lv_sub hl [2, 1, 0] rfl)
    intro again_17 s_16 ih_18 hF_19
    intro H locs hP hS ls hl
    refine lv_aload_n hx hb dX12_arguments_24 rfl (lv_at hl 0 rfl) ?_
    refine lv_bipush (v := 44) hx hb dX12_arguments_25 (by decide +kernel) ?_
    obtain ⟨u_20, hu_20, hF_21⟩ := Option.bind_eq_some_iff.mp hF_19
    clear hF_19
    refine m_ci hsz hS (va_runV (As := [.int 44]) (rest := []) ⟨hx, hb, hml, hown, hts⟩ (m_X12_took l dC dI cB cC cI cJ cZ cP h qK qS ad hDD H.size  44 s_16.2 _ hu_20) (cwV 1 hts (g_gV wq_1567 wq_1568 wq_2135 wq_13 wq_1569) rfl rfl rfl (by decide +kernel) ⟨by show 2 + 1 ≤ 5 + (d + 1); omega, by show 8 + (2 + 11) + 61 ≤ 124 + 23 * (d + 1); omega⟩) (m_preV g_bl0 hsz hK hP hS hE hKS g_to0) rfl rfl hl.1 rfl (lv_room (Nat.le_of_ble_eq_true rfl)) dX12_arguments_27 ⟨Nat.le_of_ble_eq_true rfl, Nat.le_of_ble_eq_true rfl⟩) (fun H locs hP hS => ?_)
    refine lv_if_eq (tgt := 50) hx hb dX12_arguments_30 (by decide) (fun c_22 => ?_) (fun c_22 => ?_)
    · have hF_23 := ipos c_22 hF_21
      clear hF_21
      exact Jj_7 u_14.1 u_20.2 hF_23 _ _ hP hS ls (lv_sub hl [0, 1] rfl)
    · have hF_24 := ineg c_22 hF_21
      clear hF_21
      refine lv_aload_n hx hb dX12_arguments_33 rfl (lv_at hl 0 rfl) ?_
      obtain ⟨u_25, hu_25, hF_26⟩ := Option.bind_eq_some_iff.mp hF_24
      clear hF_24
      refine m_ci hsz hS (va_runV (As := []) (rest := []) ⟨hx, hb, hml, hown, hts⟩ (hI0 H.size u_20.2 _ hu_25) (cwV 0 hts (g_gV wq_1606 wq_1607 wq_2148 wq_13 wq_1608) rfl rfl rfl (by decide +kernel) ⟨by show 5 + d + 1 ≤ 5 + (d + 1); omega, by show 8 + (3 + 11) + (124 + 23 * d) ≤ 124 + 23 * (d + 1); omega⟩) (m_preV g_bl0 hsz hK hP hS hE hKS g_to0) rfl rfl hl.1 rfl (lv_room (Nat.le_of_ble_eq_true rfl)) dX12_arguments_34 ⟨Nat.le_of_ble_eq_true rfl, Nat.le_of_ble_eq_true rfl⟩) (fun H locs hP hS => ?_)
      refine lv_istore_n (lv' := [(3, .int u_25.1), (0, .ref h), (1, .int u_14.1), (2, .int s_16.1)]) hx hb dX12_arguments_37 rfl hl (by decide) rfl (fun ls hl => ?_)
      refine lv_aload_n hx hb dX12_arguments_38 rfl (lv_at hl 1 rfl) ?_
      refine va_get (D := (dC, dI)) (ci := 12) (v := .ref (ad 22)) (C := RX12) (T := TX12) (N := 123) hx hb hts ii_X12 hown hK hP 0 rfl rfl 22 (by decide) (hts (.fieldLink RX12 64 "StoryHouseModel" "then" "[I") wq_1378) (fun _ h9 => h9) rfl dX12_arguments_39 ?_
      refine lv_iload_n hx hb dX12_arguments_42 rfl (lv_at hl 3 rfl) ?_
      refine lv_iload_n hx hb dX12_arguments_43 rfl (lv_at hl 0 rfl) ?_
      obtain ⟨g_27, hF_28⟩ := nif_e hF_26
      clear hF_26
      obtain ⟨σ_29, eσ_29, hF_30⟩ := bnd_e hF_28
      clear hF_28
      refine m_iast (σ' := σ_29) hx hb hK hP (hDD _ _) hS (q0 := 13) (t0 := 2) (f := u_25.2.2 22) rfl rfl (by rw [eσ_29]; exact mwA_22) g_27 dX12_arguments_44 (fun H locs hP hS => ?_)
      refine lv_iload_n hx hb dX12_arguments_45 rfl (lv_at hl 0 rfl) ?_
      refine lv_istore_n (lv' := [(2, .int u_25.1), (3, .int u_25.1), (0, .ref h), (1, .int u_14.1)]) hx hb dX12_arguments_46 rfl hl (by decide) rfl (fun ls hl => ?_)
      refine lv_goto (tgt := 24) hx hb dX12_arguments_47 (by decide) ?_
      exact ih_18 (u_25.1, σ_29) hF_30 _ _ hP hS ls (lv_sub hl [2, 3, 0] rfl)

/-- the group, by its depth -/
def gE : Nat → GF
  | 0, _, _, _, _, _ => none
  | d + 1, t, a, b, c, σ => if t = 0 then F_X12_expression (gE d)  σ else if t = 1 then F_X12_both (gE d)  σ else if t = 2 then F_X12_step (gE d)  σ else if t = 3 then F_X12_comparison (gE d)  σ else if t = 4 then F_X12_sum (gE d)  σ else if t = 5 then F_X12_term (gE d)  σ else if t = 6 then F_X12_factor (gE d)  σ else if t = 7 then F_X12_primary (gE d)  σ else if t = 8 then F_X12_arguments (gE d)  σ else none
theorem gE_0 (d : Nat) (a b c : Int32) (σ : MS) : gE (d + 1) 0 a b c σ = F_X12_expression (gE d)  σ := rfl
theorem gE_1 (d : Nat) (a b c : Int32) (σ : MS) : gE (d + 1) 1 a b c σ = F_X12_both (gE d)  σ := rfl
theorem gE_2 (d : Nat) (a b c : Int32) (σ : MS) : gE (d + 1) 2 a b c σ = F_X12_step (gE d)  σ := rfl
theorem gE_3 (d : Nat) (a b c : Int32) (σ : MS) : gE (d + 1) 3 a b c σ = F_X12_comparison (gE d)  σ := rfl
theorem gE_4 (d : Nat) (a b c : Int32) (σ : MS) : gE (d + 1) 4 a b c σ = F_X12_sum (gE d)  σ := rfl
theorem gE_5 (d : Nat) (a b c : Int32) (σ : MS) : gE (d + 1) 5 a b c σ = F_X12_term (gE d)  σ := rfl
theorem gE_6 (d : Nat) (a b c : Int32) (σ : MS) : gE (d + 1) 6 a b c σ = F_X12_factor (gE d)  σ := rfl
theorem gE_7 (d : Nat) (a b c : Int32) (σ : MS) : gE (d + 1) 7 a b c σ = F_X12_primary (gE d)  σ := rfl
theorem gE_8 (d : Nat) (a b c : Int32) (σ : MS) : gE (d + 1) 8 a b c σ = F_X12_arguments (gE d)  σ := rfl
set_option maxHeartbeats 4000000 in
theorem gE_all (l : Launch) (dC : Nat → ClassId) (dI : Nat → Nat → Nat) (cB cC cI cJ cZ cP : ClassId) (h qK qS : Nat) (ad : Nat → Nat) (hDD : mDis cB cI cZ h qK qS ad) : ∀ d : Nat, (∀ (sz : Nat)  (σ : MS) (res : Int32 × MS), gE d 0 0 0 0 σ = some res → Met l yX12_expression (g_ws yX12_expression cX12_expression 3 (some .int)) ({ frames := 5 + d, cells := 0, slots := 0, locals := 124 + 23 * d }) (va_Pc [.ref h] (m_B (dC, dI) [(cB, .byte), (cC, .char), (cI, .int), (cJ, .long), (cZ, .boolean), (cP, .object "StoryHouse$Play")] sz h ad qK qS (mW cB cI cZ h qK qS ad σ) g_0)) (va_Qi (fun r (_ : Unit) => r = res.1) (fun _ t => va_P (dC, dI) vwCl (mW cB cI cZ h qK qS ad res.2) t.heap) (mCells h ad sz)) 0 0 (mCells h ad sz)) ∧ (∀ (sz : Nat)  (σ : MS) (res : Int32 × MS), gE d 1 0 0 0 σ = some res → Met l yX12_both (g_ws yX12_both cX12_both 3 (some .int)) ({ frames := 5 + d, cells := 0, slots := 0, locals := 124 + 23 * d }) (va_Pc [.ref h] (m_B (dC, dI) [(cB, .byte), (cC, .char), (cI, .int), (cJ, .long), (cZ, .boolean), (cP, .object "StoryHouse$Play")] sz h ad qK qS (mW cB cI cZ h qK qS ad σ) g_0)) (va_Qi (fun r (_ : Unit) => r = res.1) (fun _ t => va_P (dC, dI) vwCl (mW cB cI cZ h qK qS ad res.2) t.heap) (mCells h ad sz)) 0 0 (mCells h ad sz)) ∧ (∀ (sz : Nat)  (σ : MS) (res : Int32 × MS), gE d 2 0 0 0 σ = some res → Met l yX12_step (g_ws yX12_step cX12_step 3 (some .int)) ({ frames := 5 + d, cells := 0, slots := 0, locals := 124 + 23 * d }) (va_Pc [.ref h] (m_B (dC, dI) [(cB, .byte), (cC, .char), (cI, .int), (cJ, .long), (cZ, .boolean), (cP, .object "StoryHouse$Play")] sz h ad qK qS (mW cB cI cZ h qK qS ad σ) g_0)) (va_Qi (fun r (_ : Unit) => r = res.1) (fun _ t => va_P (dC, dI) vwCl (mW cB cI cZ h qK qS ad res.2) t.heap) (mCells h ad sz)) 0 0 (mCells h ad sz)) ∧ (∀ (sz : Nat)  (σ : MS) (res : Int32 × MS), gE d 3 0 0 0 σ = some res → Met l yX12_comparison (g_ws yX12_comparison cX12_comparison 4 (some .int)) ({ frames := 5 + d, cells := 0, slots := 0, locals := 124 + 23 * d }) (va_Pc [.ref h] (m_B (dC, dI) [(cB, .byte), (cC, .char), (cI, .int), (cJ, .long), (cZ, .boolean), (cP, .object "StoryHouse$Play")] sz h ad qK qS (mW cB cI cZ h qK qS ad σ) g_0)) (va_Qi (fun r (_ : Unit) => r = res.1) (fun _ t => va_P (dC, dI) vwCl (mW cB cI cZ h qK qS ad res.2) t.heap) (mCells h ad sz)) 0 0 (mCells h ad sz)) ∧ (∀ (sz : Nat)  (σ : MS) (res : Int32 × MS), gE d 4 0 0 0 σ = some res → Met l yX12_sum (g_ws yX12_sum cX12_sum 4 (some .int)) ({ frames := 5 + d, cells := 0, slots := 0, locals := 124 + 23 * d }) (va_Pc [.ref h] (m_B (dC, dI) [(cB, .byte), (cC, .char), (cI, .int), (cJ, .long), (cZ, .boolean), (cP, .object "StoryHouse$Play")] sz h ad qK qS (mW cB cI cZ h qK qS ad σ) g_0)) (va_Qi (fun r (_ : Unit) => r = res.1) (fun _ t => va_P (dC, dI) vwCl (mW cB cI cZ h qK qS ad res.2) t.heap) (mCells h ad sz)) 0 0 (mCells h ad sz)) ∧ (∀ (sz : Nat)  (σ : MS) (res : Int32 × MS), gE d 5 0 0 0 σ = some res → Met l yX12_term (g_ws yX12_term cX12_term 4 (some .int)) ({ frames := 5 + d, cells := 0, slots := 0, locals := 124 + 23 * d }) (va_Pc [.ref h] (m_B (dC, dI) [(cB, .byte), (cC, .char), (cI, .int), (cJ, .long), (cZ, .boolean), (cP, .object "StoryHouse$Play")] sz h ad qK qS (mW cB cI cZ h qK qS ad σ) g_0)) (va_Qi (fun r (_ : Unit) => r = res.1) (fun _ t => va_P (dC, dI) vwCl (mW cB cI cZ h qK qS ad res.2) t.heap) (mCells h ad sz)) 0 0 (mCells h ad sz)) ∧ (∀ (sz : Nat)  (σ : MS) (res : Int32 × MS), gE d 6 0 0 0 σ = some res → Met l yX12_factor (g_ws yX12_factor cX12_factor 3 (some .int)) ({ frames := 5 + d, cells := 0, slots := 0, locals := 124 + 23 * d }) (va_Pc [.ref h] (m_B (dC, dI) [(cB, .byte), (cC, .char), (cI, .int), (cJ, .long), (cZ, .boolean), (cP, .object "StoryHouse$Play")] sz h ad qK qS (mW cB cI cZ h qK qS ad σ) g_0)) (va_Qi (fun r (_ : Unit) => r = res.1) (fun _ t => va_P (dC, dI) vwCl (mW cB cI cZ h qK qS ad res.2) t.heap) (mCells h ad sz)) 0 0 (mCells h ad sz)) ∧ (∀ (sz : Nat)  (σ : MS) (res : Int32 × MS), gE d 7 0 0 0 σ = some res → Met l yX12_primary (g_ws yX12_primary cX12_primary 4 (some .int)) ({ frames := 5 + d, cells := 0, slots := 0, locals := 124 + 23 * d }) (va_Pc [.ref h] (m_B (dC, dI) [(cB, .byte), (cC, .char), (cI, .int), (cJ, .long), (cZ, .boolean), (cP, .object "StoryHouse$Play")] sz h ad qK qS (mW cB cI cZ h qK qS ad σ) g_0)) (va_Qi (fun r (_ : Unit) => r = res.1) (fun _ t => va_P (dC, dI) vwCl (mW cB cI cZ h qK qS ad res.2) t.heap) (mCells h ad sz)) 0 0 (mCells h ad sz)) ∧ (∀ (sz : Nat)  (σ : MS) (res : Int32 × MS), gE d 8 0 0 0 σ = some res → Met l yX12_arguments (g_ws yX12_arguments cX12_arguments 4 (some .int)) ({ frames := 5 + d, cells := 0, slots := 0, locals := 124 + 23 * d }) (va_Pc [.ref h] (m_B (dC, dI) [(cB, .byte), (cC, .char), (cI, .int), (cJ, .long), (cZ, .boolean), (cP, .object "StoryHouse$Play")] sz h ad qK qS (mW cB cI cZ h qK qS ad σ) g_0)) (va_Qi (fun r (_ : Unit) => r = res.1) (fun _ t => va_P (dC, dI) vwCl (mW cB cI cZ h qK qS ad res.2) t.heap) (mCells h ad sz)) 0 0 (mCells h ad sz)) := by
  intro d
  induction d with
  | zero => exact ⟨(fun sz  σ res hz => by cases hz), (fun sz  σ res hz => by cases hz), (fun sz  σ res hz => by cases hz), (fun sz  σ res hz => by cases hz), (fun sz  σ res hz => by cases hz), (fun sz  σ res hz => by cases hz), (fun sz  σ res hz => by cases hz), (fun sz  σ res hz => by cases hz), (fun sz  σ res hz => by cases hz)⟩
  | succ d ih =>
    obtain ⟨hI0, hI1, hI2, hI3, hI4, hI5, hI6, hI7, hI8⟩ := ih
    exact ⟨(fun sz  σ res hF => m_X12_expression_st l dC dI cB cC cI cJ cZ cP h qK qS ad hDD d (gE d) hI0 hI1 hI2 hI3 hI4 hI5 hI6 hI7 hI8 sz  σ res ((gE_0 d 0 0 0 σ).symm.trans hF)), (fun sz  σ res hF => m_X12_both_st l dC dI cB cC cI cJ cZ cP h qK qS ad hDD d (gE d) hI0 hI1 hI2 hI3 hI4 hI5 hI6 hI7 hI8 sz  σ res ((gE_1 d 0 0 0 σ).symm.trans hF)), (fun sz  σ res hF => m_X12_step_st l dC dI cB cC cI cJ cZ cP h qK qS ad hDD d (gE d) hI0 hI1 hI2 hI3 hI4 hI5 hI6 hI7 hI8 sz  σ res ((gE_2 d 0 0 0 σ).symm.trans hF)), (fun sz  σ res hF => m_X12_comparison_st l dC dI cB cC cI cJ cZ cP h qK qS ad hDD d (gE d) hI0 hI1 hI2 hI3 hI4 hI5 hI6 hI7 hI8 sz  σ res ((gE_3 d 0 0 0 σ).symm.trans hF)), (fun sz  σ res hF => m_X12_sum_st l dC dI cB cC cI cJ cZ cP h qK qS ad hDD d (gE d) hI0 hI1 hI2 hI3 hI4 hI5 hI6 hI7 hI8 sz  σ res ((gE_4 d 0 0 0 σ).symm.trans hF)), (fun sz  σ res hF => m_X12_term_st l dC dI cB cC cI cJ cZ cP h qK qS ad hDD d (gE d) hI0 hI1 hI2 hI3 hI4 hI5 hI6 hI7 hI8 sz  σ res ((gE_5 d 0 0 0 σ).symm.trans hF)), (fun sz  σ res hF => m_X12_factor_st l dC dI cB cC cI cJ cZ cP h qK qS ad hDD d (gE d) hI0 hI1 hI2 hI3 hI4 hI5 hI6 hI7 hI8 sz  σ res ((gE_6 d 0 0 0 σ).symm.trans hF)), (fun sz  σ res hF => m_X12_primary_st l dC dI cB cC cI cJ cZ cP h qK qS ad hDD d (gE d) hI0 hI1 hI2 hI3 hI4 hI5 hI6 hI7 hI8 sz  σ res ((gE_7 d 0 0 0 σ).symm.trans hF)), (fun sz  σ res hF => m_X12_arguments_st l dC dI cB cC cI cJ cZ cP h qK qS ad hDD d (gE d) hI0 hI1 hI2 hI3 hI4 hI5 hI6 hI7 hI8 sz  σ res ((gE_8 d 0 0 0 σ).symm.trans hF))⟩

def G_X12_expression  (σ : MS) : MR := gE 300 0 0 0 0 σ
theorem m_X12_expression (l : Launch) (dC : Nat → ClassId) (dI : Nat → Nat → Nat) (cB cC cI cJ cZ cP : ClassId) (h qK qS : Nat) (ad : Nat → Nat) (hDD : mDis cB cI cZ h qK qS ad) : ∀ (sz : Nat)  (σ : MS) (res : Int32 × MS), G_X12_expression  σ = some res → Met l yX12_expression (g_ws yX12_expression cX12_expression 3 (some .int)) ({ frames := 305, cells := 0, slots := 0, locals := 7024 }) (va_Pc [.ref h] (m_B (dC, dI) [(cB, .byte), (cC, .char), (cI, .int), (cJ, .long), (cZ, .boolean), (cP, .object "StoryHouse$Play")] sz h ad qK qS (mW cB cI cZ h qK qS ad σ) g_0)) (va_Qi (fun r (_ : Unit) => r = res.1) (fun _ t => va_P (dC, dI) vwCl (mW cB cI cZ h qK qS ad res.2) t.heap) (mCells h ad sz)) 0 0 (mCells h ad sz) := (gE_all l dC dI cB cC cI cJ cZ cP h qK qS ad hDD 300).1

def G_X12_both  (σ : MS) : MR := gE 300 1 0 0 0 σ
theorem m_X12_both (l : Launch) (dC : Nat → ClassId) (dI : Nat → Nat → Nat) (cB cC cI cJ cZ cP : ClassId) (h qK qS : Nat) (ad : Nat → Nat) (hDD : mDis cB cI cZ h qK qS ad) : ∀ (sz : Nat)  (σ : MS) (res : Int32 × MS), G_X12_both  σ = some res → Met l yX12_both (g_ws yX12_both cX12_both 3 (some .int)) ({ frames := 305, cells := 0, slots := 0, locals := 7024 }) (va_Pc [.ref h] (m_B (dC, dI) [(cB, .byte), (cC, .char), (cI, .int), (cJ, .long), (cZ, .boolean), (cP, .object "StoryHouse$Play")] sz h ad qK qS (mW cB cI cZ h qK qS ad σ) g_0)) (va_Qi (fun r (_ : Unit) => r = res.1) (fun _ t => va_P (dC, dI) vwCl (mW cB cI cZ h qK qS ad res.2) t.heap) (mCells h ad sz)) 0 0 (mCells h ad sz) := (gE_all l dC dI cB cC cI cJ cZ cP h qK qS ad hDD 300).2.1

def G_X12_step  (σ : MS) : MR := gE 300 2 0 0 0 σ
theorem m_X12_step (l : Launch) (dC : Nat → ClassId) (dI : Nat → Nat → Nat) (cB cC cI cJ cZ cP : ClassId) (h qK qS : Nat) (ad : Nat → Nat) (hDD : mDis cB cI cZ h qK qS ad) : ∀ (sz : Nat)  (σ : MS) (res : Int32 × MS), G_X12_step  σ = some res → Met l yX12_step (g_ws yX12_step cX12_step 3 (some .int)) ({ frames := 305, cells := 0, slots := 0, locals := 7024 }) (va_Pc [.ref h] (m_B (dC, dI) [(cB, .byte), (cC, .char), (cI, .int), (cJ, .long), (cZ, .boolean), (cP, .object "StoryHouse$Play")] sz h ad qK qS (mW cB cI cZ h qK qS ad σ) g_0)) (va_Qi (fun r (_ : Unit) => r = res.1) (fun _ t => va_P (dC, dI) vwCl (mW cB cI cZ h qK qS ad res.2) t.heap) (mCells h ad sz)) 0 0 (mCells h ad sz) := (gE_all l dC dI cB cC cI cJ cZ cP h qK qS ad hDD 300).2.2.1

def G_X12_comparison  (σ : MS) : MR := gE 300 3 0 0 0 σ
theorem m_X12_comparison (l : Launch) (dC : Nat → ClassId) (dI : Nat → Nat → Nat) (cB cC cI cJ cZ cP : ClassId) (h qK qS : Nat) (ad : Nat → Nat) (hDD : mDis cB cI cZ h qK qS ad) : ∀ (sz : Nat)  (σ : MS) (res : Int32 × MS), G_X12_comparison  σ = some res → Met l yX12_comparison (g_ws yX12_comparison cX12_comparison 4 (some .int)) ({ frames := 305, cells := 0, slots := 0, locals := 7024 }) (va_Pc [.ref h] (m_B (dC, dI) [(cB, .byte), (cC, .char), (cI, .int), (cJ, .long), (cZ, .boolean), (cP, .object "StoryHouse$Play")] sz h ad qK qS (mW cB cI cZ h qK qS ad σ) g_0)) (va_Qi (fun r (_ : Unit) => r = res.1) (fun _ t => va_P (dC, dI) vwCl (mW cB cI cZ h qK qS ad res.2) t.heap) (mCells h ad sz)) 0 0 (mCells h ad sz) := (gE_all l dC dI cB cC cI cJ cZ cP h qK qS ad hDD 300).2.2.2.1

def G_X12_sum  (σ : MS) : MR := gE 300 4 0 0 0 σ
theorem m_X12_sum (l : Launch) (dC : Nat → ClassId) (dI : Nat → Nat → Nat) (cB cC cI cJ cZ cP : ClassId) (h qK qS : Nat) (ad : Nat → Nat) (hDD : mDis cB cI cZ h qK qS ad) : ∀ (sz : Nat)  (σ : MS) (res : Int32 × MS), G_X12_sum  σ = some res → Met l yX12_sum (g_ws yX12_sum cX12_sum 4 (some .int)) ({ frames := 305, cells := 0, slots := 0, locals := 7024 }) (va_Pc [.ref h] (m_B (dC, dI) [(cB, .byte), (cC, .char), (cI, .int), (cJ, .long), (cZ, .boolean), (cP, .object "StoryHouse$Play")] sz h ad qK qS (mW cB cI cZ h qK qS ad σ) g_0)) (va_Qi (fun r (_ : Unit) => r = res.1) (fun _ t => va_P (dC, dI) vwCl (mW cB cI cZ h qK qS ad res.2) t.heap) (mCells h ad sz)) 0 0 (mCells h ad sz) := (gE_all l dC dI cB cC cI cJ cZ cP h qK qS ad hDD 300).2.2.2.2.1

def G_X12_term  (σ : MS) : MR := gE 300 5 0 0 0 σ
theorem m_X12_term (l : Launch) (dC : Nat → ClassId) (dI : Nat → Nat → Nat) (cB cC cI cJ cZ cP : ClassId) (h qK qS : Nat) (ad : Nat → Nat) (hDD : mDis cB cI cZ h qK qS ad) : ∀ (sz : Nat)  (σ : MS) (res : Int32 × MS), G_X12_term  σ = some res → Met l yX12_term (g_ws yX12_term cX12_term 4 (some .int)) ({ frames := 305, cells := 0, slots := 0, locals := 7024 }) (va_Pc [.ref h] (m_B (dC, dI) [(cB, .byte), (cC, .char), (cI, .int), (cJ, .long), (cZ, .boolean), (cP, .object "StoryHouse$Play")] sz h ad qK qS (mW cB cI cZ h qK qS ad σ) g_0)) (va_Qi (fun r (_ : Unit) => r = res.1) (fun _ t => va_P (dC, dI) vwCl (mW cB cI cZ h qK qS ad res.2) t.heap) (mCells h ad sz)) 0 0 (mCells h ad sz) := (gE_all l dC dI cB cC cI cJ cZ cP h qK qS ad hDD 300).2.2.2.2.2.1

def G_X12_factor  (σ : MS) : MR := gE 300 6 0 0 0 σ
theorem m_X12_factor (l : Launch) (dC : Nat → ClassId) (dI : Nat → Nat → Nat) (cB cC cI cJ cZ cP : ClassId) (h qK qS : Nat) (ad : Nat → Nat) (hDD : mDis cB cI cZ h qK qS ad) : ∀ (sz : Nat)  (σ : MS) (res : Int32 × MS), G_X12_factor  σ = some res → Met l yX12_factor (g_ws yX12_factor cX12_factor 3 (some .int)) ({ frames := 305, cells := 0, slots := 0, locals := 7024 }) (va_Pc [.ref h] (m_B (dC, dI) [(cB, .byte), (cC, .char), (cI, .int), (cJ, .long), (cZ, .boolean), (cP, .object "StoryHouse$Play")] sz h ad qK qS (mW cB cI cZ h qK qS ad σ) g_0)) (va_Qi (fun r (_ : Unit) => r = res.1) (fun _ t => va_P (dC, dI) vwCl (mW cB cI cZ h qK qS ad res.2) t.heap) (mCells h ad sz)) 0 0 (mCells h ad sz) := (gE_all l dC dI cB cC cI cJ cZ cP h qK qS ad hDD 300).2.2.2.2.2.2.1

def G_X12_primary  (σ : MS) : MR := gE 300 7 0 0 0 σ
theorem m_X12_primary (l : Launch) (dC : Nat → ClassId) (dI : Nat → Nat → Nat) (cB cC cI cJ cZ cP : ClassId) (h qK qS : Nat) (ad : Nat → Nat) (hDD : mDis cB cI cZ h qK qS ad) : ∀ (sz : Nat)  (σ : MS) (res : Int32 × MS), G_X12_primary  σ = some res → Met l yX12_primary (g_ws yX12_primary cX12_primary 4 (some .int)) ({ frames := 305, cells := 0, slots := 0, locals := 7024 }) (va_Pc [.ref h] (m_B (dC, dI) [(cB, .byte), (cC, .char), (cI, .int), (cJ, .long), (cZ, .boolean), (cP, .object "StoryHouse$Play")] sz h ad qK qS (mW cB cI cZ h qK qS ad σ) g_0)) (va_Qi (fun r (_ : Unit) => r = res.1) (fun _ t => va_P (dC, dI) vwCl (mW cB cI cZ h qK qS ad res.2) t.heap) (mCells h ad sz)) 0 0 (mCells h ad sz) := (gE_all l dC dI cB cC cI cJ cZ cP h qK qS ad hDD 300).2.2.2.2.2.2.2.1

def G_X12_arguments  (σ : MS) : MR := gE 300 8 0 0 0 σ
theorem m_X12_arguments (l : Launch) (dC : Nat → ClassId) (dI : Nat → Nat → Nat) (cB cC cI cJ cZ cP : ClassId) (h qK qS : Nat) (ad : Nat → Nat) (hDD : mDis cB cI cZ h qK qS ad) : ∀ (sz : Nat)  (σ : MS) (res : Int32 × MS), G_X12_arguments  σ = some res → Met l yX12_arguments (g_ws yX12_arguments cX12_arguments 4 (some .int)) ({ frames := 305, cells := 0, slots := 0, locals := 7024 }) (va_Pc [.ref h] (m_B (dC, dI) [(cB, .byte), (cC, .char), (cI, .int), (cJ, .long), (cZ, .boolean), (cP, .object "StoryHouse$Play")] sz h ad qK qS (mW cB cI cZ h qK qS ad σ) g_0)) (va_Qi (fun r (_ : Unit) => r = res.1) (fun _ t => va_P (dC, dI) vwCl (mW cB cI cZ h qK qS ad res.2) t.heap) (mCells h ad sz)) 0 0 (mCells h ad sz) := (gE_all l dC dI cB cC cI cJ cZ cP h qK qS ad hDD 300).2.2.2.2.2.2.2.2
