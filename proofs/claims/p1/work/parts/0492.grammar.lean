/-! the grammar and the meanings of an empty source -/
theorem dX10_kindOf_0 : decode cX10_kindOf 0 = .ok (.iload_n 1, 1) := by decide +kernel
theorem dX10_kindOf_1 : decode cX10_kindOf 1 = .ok (.ifCond .lt 29, 3) := by decide +kernel
theorem dX10_kindOf_4 : decode cX10_kindOf 4 = .ok (.iload_n 1, 1) := by decide +kernel
theorem dX10_kindOf_5 : decode cX10_kindOf 5 = .ok (.aload_n 0, 1) := by decide +kernel
theorem dX10_kindOf_6 : decode cX10_kindOf 6 = .ok (.getfield 57, 3) := by decide +kernel
theorem dX10_kindOf_9 : decode cX10_kindOf 9 = .ok (.if_icmp .ge 21, 3) := by decide +kernel
theorem dX10_kindOf_12 : decode cX10_kindOf 12 = .ok (.iload_n 1, 1) := by decide +kernel
theorem dX10_kindOf_13 : decode cX10_kindOf 13 = .ok (.aload_n 0, 1) := by decide +kernel
theorem dX10_kindOf_14 : decode cX10_kindOf 14 = .ok (.getfield 15, 3) := by decide +kernel
theorem dX10_kindOf_17 : decode cX10_kindOf 17 = .ok (.arraylength, 1) := by decide +kernel
theorem dX10_kindOf_18 : decode cX10_kindOf 18 = .ok (.if_icmp .ge 12, 3) := by decide +kernel
theorem dX10_kindOf_21 : decode cX10_kindOf 21 = .ok (.aload_n 0, 1) := by decide +kernel
theorem dX10_kindOf_22 : decode cX10_kindOf 22 = .ok (.getfield 15, 3) := by decide +kernel
theorem dX10_kindOf_25 : decode cX10_kindOf 25 = .ok (.iload_n 1, 1) := by decide +kernel
theorem dX10_kindOf_26 : decode cX10_kindOf 26 = .ok (.iaload, 1) := by decide +kernel
theorem dX10_kindOf_27 : decode cX10_kindOf 27 = .ok (.goto 4, 3) := by decide +kernel
theorem dX10_kindOf_30 : decode cX10_kindOf 30 = .ok (.iconst 0, 1) := by decide +kernel
theorem dX10_kindOf_31 : decode cX10_kindOf 31 = .ok (.ireturn, 1) := by decide +kernel
theorem dX10_worthOf_0 : decode cX10_worthOf 0 = .ok (.iload_n 1, 1) := by decide +kernel
theorem dX10_worthOf_1 : decode cX10_worthOf 1 = .ok (.ifCond .lt 22, 3) := by decide +kernel
theorem dX10_worthOf_4 : decode cX10_worthOf 4 = .ok (.iload_n 1, 1) := by decide +kernel
theorem dX10_worthOf_5 : decode cX10_worthOf 5 = .ok (.aload_n 0, 1) := by decide +kernel
theorem dX10_worthOf_6 : decode cX10_worthOf 6 = .ok (.getfield 57, 3) := by decide +kernel
theorem dX10_worthOf_9 : decode cX10_worthOf 9 = .ok (.if_icmp .ge 14, 3) := by decide +kernel
theorem dX10_worthOf_12 : decode cX10_worthOf 12 = .ok (.aload_n 0, 1) := by decide +kernel
theorem dX10_worthOf_13 : decode cX10_worthOf 13 = .ok (.getfield 22, 3) := by decide +kernel
theorem dX10_worthOf_16 : decode cX10_worthOf 16 = .ok (.iload_n 1, 1) := by decide +kernel
theorem dX10_worthOf_17 : decode cX10_worthOf 17 = .ok (.invokestatic 97, 3) := by decide +kernel
theorem dX10_worthOf_20 : decode cX10_worthOf 20 = .ok (.goto 4, 3) := by decide +kernel
theorem dX10_worthOf_23 : decode cX10_worthOf 23 = .ok (.iconst 0, 1) := by decide +kernel
theorem dX10_worthOf_24 : decode cX10_worthOf 24 = .ok (.ireturn, 1) := by decide +kernel
theorem dX10_placeOf_0 : decode cX10_placeOf 0 = .ok (.iload_n 1, 1) := by decide +kernel
theorem dX10_placeOf_1 : decode cX10_placeOf 1 = .ok (.ifCond .lt 22, 3) := by decide +kernel
theorem dX10_placeOf_4 : decode cX10_placeOf 4 = .ok (.iload_n 1, 1) := by decide +kernel
theorem dX10_placeOf_5 : decode cX10_placeOf 5 = .ok (.aload_n 0, 1) := by decide +kernel
theorem dX10_placeOf_6 : decode cX10_placeOf 6 = .ok (.getfield 57, 3) := by decide +kernel
theorem dX10_placeOf_9 : decode cX10_placeOf 9 = .ok (.if_icmp .ge 14, 3) := by decide +kernel
theorem dX10_placeOf_12 : decode cX10_placeOf 12 = .ok (.aload_n 0, 1) := by decide +kernel
theorem dX10_placeOf_13 : decode cX10_placeOf 13 = .ok (.getfield 19, 3) := by decide +kernel
theorem dX10_placeOf_16 : decode cX10_placeOf 16 = .ok (.iload_n 1, 1) := by decide +kernel
theorem dX10_placeOf_17 : decode cX10_placeOf 17 = .ok (.invokestatic 97, 3) := by decide +kernel
theorem dX10_placeOf_20 : decode cX10_placeOf 20 = .ok (.goto 7, 3) := by decide +kernel
theorem dX10_placeOf_23 : decode cX10_placeOf 23 = .ok (.aload_n 0, 1) := by decide +kernel
theorem dX10_placeOf_24 : decode cX10_placeOf 24 = .ok (.getfield 47, 3) := by decide +kernel
theorem dX10_placeOf_27 : decode cX10_placeOf 27 = .ok (.ireturn, 1) := by decide +kernel
theorem dX2_readAll_0 : decode cX2_readAll 0 = .ok (.aload_n 0, 1) := by decide +kernel
theorem dX2_readAll_1 : decode cX2_readAll 1 = .ok (.aload_n 1, 1) := by decide +kernel
theorem dX2_readAll_2 : decode cX2_readAll 2 = .ok (.putfield 15, 3) := by decide +kernel
theorem dX2_readAll_5 : decode cX2_readAll 5 = .ok (.aload_n 0, 1) := by decide +kernel
theorem dX2_readAll_6 : decode cX2_readAll 6 = .ok (.iconst 0, 1) := by decide +kernel
theorem dX2_readAll_7 : decode cX2_readAll 7 = .ok (.putfield 19, 3) := by decide +kernel
theorem dX2_readAll_10 : decode cX2_readAll 10 = .ok (.aload_n 0, 1) := by decide +kernel
theorem dX2_readAll_11 : decode cX2_readAll 11 = .ok (.aload_n 0, 1) := by decide +kernel
theorem dX2_readAll_12 : decode cX2_readAll 12 = .ok (.getfield 9, 3) := by decide +kernel
theorem dX2_readAll_15 : decode cX2_readAll 15 = .ok (.iconst 0, 1) := by decide +kernel
theorem dX2_readAll_16 : decode cX2_readAll 16 = .ok (.invokevirtual 23, 3) := by decide +kernel
theorem dX2_readAll_19 : decode cX2_readAll 19 = .ok (.putfield 29, 3) := by decide +kernel
theorem dX2_readAll_22 : decode cX2_readAll 22 = .ok (.aload_n 0, 1) := by decide +kernel
theorem dX2_readAll_23 : decode cX2_readAll 23 = .ok (.iconst 0, 1) := by decide +kernel
theorem dX2_readAll_24 : decode cX2_readAll 24 = .ok (.putfield 32, 3) := by decide +kernel
theorem dX2_readAll_27 : decode cX2_readAll 27 = .ok (.aload_n 0, 1) := by decide +kernel
theorem dX2_readAll_28 : decode cX2_readAll 28 = .ok (.iconst 0, 1) := by decide +kernel
theorem dX2_readAll_29 : decode cX2_readAll 29 = .ok (.putfield 35, 3) := by decide +kernel
theorem dX2_readAll_32 : decode cX2_readAll 32 = .ok (.iconst 0, 1) := by decide +kernel
theorem dX2_readAll_33 : decode cX2_readAll 33 = .ok (.istore_n 2, 1) := by decide +kernel
theorem dX2_readAll_34 : decode cX2_readAll 34 = .ok (.iload_n 2, 1) := by decide +kernel
theorem dX2_readAll_35 : decode cX2_readAll 35 = .ok (.aload_n 0, 1) := by decide +kernel
theorem dX2_readAll_36 : decode cX2_readAll 36 = .ok (.getfield 9, 3) := by decide +kernel
theorem dX2_readAll_39 : decode cX2_readAll 39 = .ok (.getfield 38, 3) := by decide +kernel
theorem dX2_readAll_42 : decode cX2_readAll 42 = .ok (.if_icmp .ge 20, 3) := by decide +kernel
theorem dX2_readAll_45 : decode cX2_readAll 45 = .ok (.aload_n 0, 1) := by decide +kernel
theorem dX2_readAll_46 : decode cX2_readAll 46 = .ok (.getfield 29, 3) := by decide +kernel
theorem dX2_readAll_49 : decode cX2_readAll 49 = .ok (.ifCond .eq 13, 3) := by decide +kernel
theorem dX2_readAll_52 : decode cX2_readAll 52 = .ok (.aload_n 0, 1) := by decide +kernel
theorem dX2_readAll_53 : decode cX2_readAll 53 = .ok (.invokevirtual 41, 3) := by decide +kernel
theorem dX2_readAll_56 : decode cX2_readAll 56 = .ok (.iinc 2 1, 3) := by decide +kernel
theorem dX2_readAll_59 : decode cX2_readAll 59 = .ok (.goto (-25), 3) := by decide +kernel
theorem dX2_readAll_62 : decode cX2_readAll 62 = .ok (.aload_n 0, 1) := by decide +kernel
theorem dX2_readAll_63 : decode cX2_readAll 63 = .ok (.getfield 35, 3) := by decide +kernel
theorem dX2_readAll_66 : decode cX2_readAll 66 = .ok (.ifCond .eq 23, 3) := by decide +kernel
theorem dX2_readAll_69 : decode cX2_readAll 69 = .ok (.aload_n 0, 1) := by decide +kernel
theorem dX2_readAll_70 : decode cX2_readAll 70 = .ok (.getfield 9, 3) := by decide +kernel
theorem dX2_readAll_73 : decode cX2_readAll 73 = .ok (.aload_n 0, 1) := by decide +kernel
theorem dX2_readAll_74 : decode cX2_readAll 74 = .ok (.getfield 44, 3) := by decide +kernel
theorem dX2_readAll_77 : decode cX2_readAll 77 = .ok (.invokevirtual 23, 3) := by decide +kernel
theorem dX2_readAll_80 : decode cX2_readAll 80 = .ok (.iconst 1, 1) := by decide +kernel
theorem dX2_readAll_81 : decode cX2_readAll 81 = .ok (.if_icmp .ne 8, 3) := by decide +kernel
theorem dX2_readAll_84 : decode cX2_readAll 84 = .ok (.aload_n 0, 1) := by decide +kernel
theorem dX2_readAll_85 : decode cX2_readAll 85 = .ok (.iconst 1, 1) := by decide +kernel
theorem dX2_readAll_86 : decode cX2_readAll 86 = .ok (.putfield 35, 3) := by decide +kernel
theorem dX2_readAll_89 : decode cX2_readAll 89 = .ok (.aload_n 0, 1) := by decide +kernel
theorem dX2_readAll_90 : decode cX2_readAll 90 = .ok (.aload_n 0, 1) := by decide +kernel
theorem dX2_readAll_91 : decode cX2_readAll 91 = .ok (.getfield 35, 3) := by decide +kernel
theorem dX2_readAll_94 : decode cX2_readAll 94 = .ok (.ifCond .eq 17, 3) := by decide +kernel
theorem dX2_readAll_97 : decode cX2_readAll 97 = .ok (.aload_n 0, 1) := by decide +kernel
theorem dX2_readAll_98 : decode cX2_readAll 98 = .ok (.getfield 9, 3) := by decide +kernel
theorem dX2_readAll_101 : decode cX2_readAll 101 = .ok (.aload_n 0, 1) := by decide +kernel
theorem dX2_readAll_102 : decode cX2_readAll 102 = .ok (.getfield 44, 3) := by decide +kernel
theorem dX2_readAll_105 : decode cX2_readAll 105 = .ok (.invokevirtual 47, 3) := by decide +kernel
theorem dX2_readAll_108 : decode cX2_readAll 108 = .ok (.goto 4, 3) := by decide +kernel
theorem dX2_readAll_111 : decode cX2_readAll 111 = .ok (.iconst (-1), 1) := by decide +kernel
theorem dX2_readAll_112 : decode cX2_readAll 112 = .ok (.putfield 50, 3) := by decide +kernel
theorem dX2_readAll_115 : decode cX2_readAll 115 = .ok (.aload_n 0, 1) := by decide +kernel
theorem dX2_readAll_116 : decode cX2_readAll 116 = .ok (.getfield 35, 3) := by decide +kernel
theorem dX2_readAll_119 : decode cX2_readAll 119 = .ok (.ireturn, 1) := by decide +kernel
theorem dX4_gatherItems_0 : decode cX4_gatherItems 0 = .ok (.aload_n 0, 1) := by decide +kernel
theorem dX4_gatherItems_1 : decode cX4_gatherItems 1 = .ok (.getfield 11, 3) := by decide +kernel
theorem dX4_gatherItems_4 : decode cX4_gatherItems 4 = .ok (.sipush 16001, 3) := by decide +kernel
theorem dX4_gatherItems_7 : decode cX4_gatherItems 7 = .ok (.invokestatic 92, 3) := by decide +kernel
theorem dX4_gatherItems_10 : decode cX4_gatherItems 10 = .ok (.aload_n 0, 1) := by decide +kernel
theorem dX4_gatherItems_11 : decode cX4_gatherItems 11 = .ok (.getfield 17, 3) := by decide +kernel
theorem dX4_gatherItems_14 : decode cX4_gatherItems 14 = .ok (.iconst 0, 1) := by decide +kernel
theorem dX4_gatherItems_15 : decode cX4_gatherItems 15 = .ok (.invokestatic 92, 3) := by decide +kernel
theorem dX4_gatherItems_18 : decode cX4_gatherItems 18 = .ok (.aload_n 0, 1) := by decide +kernel
theorem dX4_gatherItems_19 : decode cX4_gatherItems 19 = .ok (.getfield 23, 3) := by decide +kernel
theorem dX4_gatherItems_22 : decode cX4_gatherItems 22 = .ok (.iconst 0, 1) := by decide +kernel
theorem dX4_gatherItems_23 : decode cX4_gatherItems 23 = .ok (.invokestatic 92, 3) := by decide +kernel
theorem dX4_gatherItems_26 : decode cX4_gatherItems 26 = .ok (.iconst 0, 1) := by decide +kernel
theorem dX4_gatherItems_27 : decode cX4_gatherItems 27 = .ok (.istore_n 1, 1) := by decide +kernel
theorem dX4_gatherItems_28 : decode cX4_gatherItems 28 = .ok (.iconst 1, 1) := by decide +kernel
theorem dX4_gatherItems_29 : decode cX4_gatherItems 29 = .ok (.istore_n 2, 1) := by decide +kernel
theorem dX4_gatherItems_30 : decode cX4_gatherItems 30 = .ok (.iload_n 2, 1) := by decide +kernel
theorem dX4_gatherItems_31 : decode cX4_gatherItems 31 = .ok (.bipush 11, 2) := by decide +kernel
theorem dX4_gatherItems_33 : decode cX4_gatherItems 33 = .ok (.if_icmp .gt 68, 3) := by decide +kernel
theorem dX4_gatherItems_36 : decode cX4_gatherItems 36 = .ok (.ldc 98, 2) := by decide +kernel
theorem dX4_gatherItems_38 : decode cX4_gatherItems 38 = .ok (.iload_n 1, 1) := by decide +kernel
theorem dX4_gatherItems_39 : decode cX4_gatherItems 39 = .ok (.invokestatic 100, 3) := by decide +kernel
theorem dX4_gatherItems_42 : decode cX4_gatherItems 42 = .ok (.istore_n 3, 1) := by decide +kernel
theorem dX4_gatherItems_43 : decode cX4_gatherItems 43 = .ok (.aload_n 0, 1) := by decide +kernel
theorem dX4_gatherItems_44 : decode cX4_gatherItems 44 = .ok (.getfield 32, 3) := by decide +kernel
theorem dX4_gatherItems_47 : decode cX4_gatherItems 47 = .ok (.ldc 98, 2) := by decide +kernel
theorem dX4_gatherItems_49 : decode cX4_gatherItems 49 = .ok (.iload_n 1, 1) := by decide +kernel
theorem dX4_gatherItems_50 : decode cX4_gatherItems 50 = .ok (.iload_n 3, 1) := by decide +kernel
theorem dX4_gatherItems_51 : decode cX4_gatherItems 51 = .ok (.bipush 12, 2) := by decide +kernel
theorem dX4_gatherItems_53 : decode cX4_gatherItems 53 = .ok (.invokestatic 104, 3) := by decide +kernel
theorem dX4_gatherItems_56 : decode cX4_gatherItems 56 = .ok (.invokevirtual 108, 3) := by decide +kernel
theorem dX4_gatherItems_59 : decode cX4_gatherItems 59 = .ok (.istore 4, 2) := by decide +kernel
theorem dX4_gatherItems_61 : decode cX4_gatherItems 61 = .ok (.aload_n 0, 1) := by decide +kernel
theorem dX4_gatherItems_62 : decode cX4_gatherItems 62 = .ok (.getfield 11, 3) := by decide +kernel
theorem dX4_gatherItems_65 : decode cX4_gatherItems 65 = .ok (.iload 4, 2) := by decide +kernel
theorem dX4_gatherItems_67 : decode cX4_gatherItems 67 = .ok (.iconst 0, 1) := by decide +kernel
theorem dX4_gatherItems_68 : decode cX4_gatherItems 68 = .ok (.invokestatic 112, 3) := by decide +kernel
theorem dX4_gatherItems_71 : decode cX4_gatherItems 71 = .ok (.aload_n 0, 1) := by decide +kernel
theorem dX4_gatherItems_72 : decode cX4_gatherItems 72 = .ok (.getfield 17, 3) := by decide +kernel
theorem dX4_gatherItems_75 : decode cX4_gatherItems 75 = .ok (.iload 4, 2) := by decide +kernel
theorem dX4_gatherItems_77 : decode cX4_gatherItems 77 = .ok (.iconst 3, 1) := by decide +kernel
theorem dX4_gatherItems_78 : decode cX4_gatherItems 78 = .ok (.invokestatic 112, 3) := by decide +kernel
theorem dX4_gatherItems_81 : decode cX4_gatherItems 81 = .ok (.aload_n 0, 1) := by decide +kernel
theorem dX4_gatherItems_82 : decode cX4_gatherItems 82 = .ok (.getfield 20, 3) := by decide +kernel
theorem dX4_gatherItems_85 : decode cX4_gatherItems 85 = .ok (.iload 4, 2) := by decide +kernel
theorem dX4_gatherItems_87 : decode cX4_gatherItems 87 = .ok (.iload_n 2, 1) := by decide +kernel
theorem dX4_gatherItems_88 : decode cX4_gatherItems 88 = .ok (.invokestatic 112, 3) := by decide +kernel
theorem dX4_gatherItems_91 : decode cX4_gatherItems 91 = .ok (.iload_n 3, 1) := by decide +kernel
theorem dX4_gatherItems_92 : decode cX4_gatherItems 92 = .ok (.iconst 1, 1) := by decide +kernel
theorem dX4_gatherItems_93 : decode cX4_gatherItems 93 = .ok (.iadd, 1) := by decide +kernel
theorem dX4_gatherItems_94 : decode cX4_gatherItems 94 = .ok (.istore_n 1, 1) := by decide +kernel
theorem dX4_gatherItems_95 : decode cX4_gatherItems 95 = .ok (.iinc 2 1, 3) := by decide +kernel
theorem dX4_gatherItems_98 : decode cX4_gatherItems 98 = .ok (.goto (-68), 3) := by decide +kernel
theorem dX4_gatherItems_101 : decode cX4_gatherItems 101 = .ok (.iconst 0, 1) := by decide +kernel
theorem dX4_gatherItems_102 : decode cX4_gatherItems 102 = .ok (.istore_n 2, 1) := by decide +kernel
theorem dX4_gatherItems_103 : decode cX4_gatherItems 103 = .ok (.iload_n 2, 1) := by decide +kernel
theorem dX4_gatherItems_104 : decode cX4_gatherItems 104 = .ok (.aload_n 0, 1) := by decide +kernel
theorem dX4_gatherItems_105 : decode cX4_gatherItems 105 = .ok (.getfield 32, 3) := by decide +kernel
theorem dX4_gatherItems_108 : decode cX4_gatherItems 108 = .ok (.getfield 53, 3) := by decide +kernel
theorem dX4_gatherItems_111 : decode cX4_gatherItems 111 = .ok (.if_icmp .ge 71, 3) := by decide +kernel
theorem dX4_gatherItems_114 : decode cX4_gatherItems 114 = .ok (.aload_n 0, 1) := by decide +kernel
theorem dX4_gatherItems_115 : decode cX4_gatherItems 115 = .ok (.getfield 32, 3) := by decide +kernel
theorem dX4_gatherItems_118 : decode cX4_gatherItems 118 = .ok (.iload_n 2, 1) := by decide +kernel
theorem dX4_gatherItems_119 : decode cX4_gatherItems 119 = .ok (.invokevirtual 116, 3) := by decide +kernel
theorem dX4_gatherItems_122 : decode cX4_gatherItems 122 = .ok (.istore_n 3, 1) := by decide +kernel
theorem dX4_gatherItems_123 : decode cX4_gatherItems 123 = .ok (.aload_n 0, 1) := by decide +kernel
theorem dX4_gatherItems_124 : decode cX4_gatherItems 124 = .ok (.getfield 32, 3) := by decide +kernel
theorem dX4_gatherItems_127 : decode cX4_gatherItems 127 = .ok (.iload_n 2, 1) := by decide +kernel
theorem dX4_gatherItems_128 : decode cX4_gatherItems 128 = .ok (.iconst 1, 1) := by decide +kernel
theorem dX4_gatherItems_129 : decode cX4_gatherItems 129 = .ok (.iadd, 1) := by decide +kernel
theorem dX4_gatherItems_130 : decode cX4_gatherItems 130 = .ok (.invokevirtual 119, 3) := by decide +kernel
theorem dX4_gatherItems_133 : decode cX4_gatherItems 133 = .ok (.istore 4, 2) := by decide +kernel
theorem dX4_gatherItems_135 : decode cX4_gatherItems 135 = .ok (.iload_n 3, 1) := by decide +kernel
theorem dX4_gatherItems_136 : decode cX4_gatherItems 136 = .ok (.sipush 230, 3) := by decide +kernel
theorem dX4_gatherItems_139 : decode cX4_gatherItems 139 = .ok (.if_icmp .lt 37, 3) := by decide +kernel
theorem dX4_gatherItems_142 : decode cX4_gatherItems 142 = .ok (.iload_n 3, 1) := by decide +kernel
theorem dX4_gatherItems_143 : decode cX4_gatherItems 143 = .ok (.sipush 235, 3) := by decide +kernel
theorem dX4_gatherItems_146 : decode cX4_gatherItems 146 = .ok (.if_icmp .gt 30, 3) := by decide +kernel
theorem dX4_gatherItems_149 : decode cX4_gatherItems 149 = .ok (.aload_n 0, 1) := by decide +kernel
theorem dX4_gatherItems_150 : decode cX4_gatherItems 150 = .ok (.getfield 11, 3) := by decide +kernel
theorem dX4_gatherItems_153 : decode cX4_gatherItems 153 = .ok (.iload 4, 2) := by decide +kernel
theorem dX4_gatherItems_155 : decode cX4_gatherItems 155 = .ok (.invokestatic 122, 3) := by decide +kernel
theorem dX4_gatherItems_158 : decode cX4_gatherItems 158 = .ok (.sipush 16001, 3) := by decide +kernel
theorem dX4_gatherItems_161 : decode cX4_gatherItems 161 = .ok (.if_icmp .ne 15, 3) := by decide +kernel
theorem dX4_gatherItems_164 : decode cX4_gatherItems 164 = .ok (.aload_n 0, 1) := by decide +kernel
theorem dX4_gatherItems_165 : decode cX4_gatherItems 165 = .ok (.getfield 11, 3) := by decide +kernel
theorem dX4_gatherItems_168 : decode cX4_gatherItems 168 = .ok (.iload 4, 2) := by decide +kernel
theorem dX4_gatherItems_170 : decode cX4_gatherItems 170 = .ok (.iload_n 2, 1) := by decide +kernel
theorem dX4_gatherItems_171 : decode cX4_gatherItems 171 = .ok (.iconst 1, 1) := by decide +kernel
theorem dX4_gatherItems_172 : decode cX4_gatherItems 172 = .ok (.iadd, 1) := by decide +kernel
theorem dX4_gatherItems_173 : decode cX4_gatherItems 173 = .ok (.invokestatic 112, 3) := by decide +kernel
theorem dX4_gatherItems_176 : decode cX4_gatherItems 176 = .ok (.iinc 2 1, 3) := by decide +kernel
theorem dX4_gatherItems_179 : decode cX4_gatherItems 179 = .ok (.goto (-76), 3) := by decide +kernel
theorem dX4_gatherItems_182 : decode cX4_gatherItems 182 = .ok (.return_, 1) := by decide +kernel
theorem dX4_startGoing_0 : decode cX4_startGoing 0 = .ok (.aload_n 0, 1) := by decide +kernel
theorem dX4_startGoing_1 : decode cX4_startGoing 1 = .ok (.iconst 0, 1) := by decide +kernel
theorem dX4_startGoing_2 : decode cX4_startGoing 2 = .ok (.putfield 126, 3) := by decide +kernel
theorem dX4_startGoing_5 : decode cX4_startGoing 5 = .ok (.aload_n 0, 1) := by decide +kernel
theorem dX4_startGoing_6 : decode cX4_startGoing 6 = .ok (.iconst 0, 1) := by decide +kernel
theorem dX4_startGoing_7 : decode cX4_startGoing 7 = .ok (.putfield 129, 3) := by decide +kernel
theorem dX4_startGoing_10 : decode cX4_startGoing 10 = .ok (.aload_n 0, 1) := by decide +kernel
theorem dX4_startGoing_11 : decode cX4_startGoing 11 = .ok (.iconst (-1), 1) := by decide +kernel
theorem dX4_startGoing_12 : decode cX4_startGoing 12 = .ok (.putfield 132, 3) := by decide +kernel
theorem dX4_startGoing_15 : decode cX4_startGoing 15 = .ok (.aload_n 0, 1) := by decide +kernel
theorem dX4_startGoing_16 : decode cX4_startGoing 16 = .ok (.iconst 0, 1) := by decide +kernel
theorem dX4_startGoing_17 : decode cX4_startGoing 17 = .ok (.putfield 66, 3) := by decide +kernel
theorem dX4_startGoing_20 : decode cX4_startGoing 20 = .ok (.aload_n 0, 1) := by decide +kernel
theorem dX4_startGoing_21 : decode cX4_startGoing 21 = .ok (.iconst 0, 1) := by decide +kernel
theorem dX4_startGoing_22 : decode cX4_startGoing 22 = .ok (.putfield 63, 3) := by decide +kernel
theorem dX4_startGoing_25 : decode cX4_startGoing 25 = .ok (.aload_n 0, 1) := by decide +kernel
theorem dX4_startGoing_26 : decode cX4_startGoing 26 = .ok (.iconst 0, 1) := by decide +kernel
theorem dX4_startGoing_27 : decode cX4_startGoing 27 = .ok (.putfield 135, 3) := by decide +kernel
theorem dX4_startGoing_30 : decode cX4_startGoing 30 = .ok (.return_, 1) := by decide +kernel
theorem dX4_tellWord_0 : decode cX4_tellWord 0 = .ok (.aload_n 0, 1) := by decide +kernel
theorem dX4_tellWord_1 : decode cX4_tellWord 1 = .ok (.getfield 32, 3) := by decide +kernel
theorem dX4_tellWord_4 : decode cX4_tellWord 4 = .ok (.iload_n 1, 1) := by decide +kernel
theorem dX4_tellWord_5 : decode cX4_tellWord 5 = .ok (.invokevirtual 116, 3) := by decide +kernel
theorem dX4_tellWord_8 : decode cX4_tellWord 8 = .ok (.tableswitch 198 230 242 #[68, 82, 112, 120, 134, 142, 150, 162, 198, 198, 101, 198, 174], 68) := by decide +kernel
theorem dX4_tellWord_76 : decode cX4_tellWord 76 = .ok (.aload_n 0, 1) := by decide +kernel
theorem dX4_tellWord_77 : decode cX4_tellWord 77 = .ok (.iload_n 1, 1) := by decide +kernel
theorem dX4_tellWord_78 : decode cX4_tellWord 78 = .ok (.iconst 1, 1) := by decide +kernel
theorem dX4_tellWord_79 : decode cX4_tellWord 79 = .ok (.iadd, 1) := by decide +kernel
theorem dX4_tellWord_80 : decode cX4_tellWord 80 = .ok (.iconst 1, 1) := by decide +kernel
theorem dX4_tellWord_81 : decode cX4_tellWord 81 = .ok (.iconst 0, 1) := by decide +kernel
theorem dX4_tellWord_82 : decode cX4_tellWord 82 = .ok (.bipush 120, 2) := by decide +kernel
theorem dX4_tellWord_84 : decode cX4_tellWord 84 = .ok (.invokevirtual 138, 3) := by decide +kernel
theorem dX4_tellWord_87 : decode cX4_tellWord 87 = .ok (.goto 119, 3) := by decide +kernel
theorem dX4_tellWord_90 : decode cX4_tellWord 90 = .ok (.aload_n 0, 1) := by decide +kernel
theorem dX4_tellWord_91 : decode cX4_tellWord 91 = .ok (.iload_n 1, 1) := by decide +kernel
theorem dX4_tellWord_92 : decode cX4_tellWord 92 = .ok (.iconst 1, 1) := by decide +kernel
theorem dX4_tellWord_93 : decode cX4_tellWord 93 = .ok (.iadd, 1) := by decide +kernel
theorem dX4_tellWord_94 : decode cX4_tellWord 94 = .ok (.iconst 2, 1) := by decide +kernel
theorem dX4_tellWord_95 : decode cX4_tellWord 95 = .ok (.iconst 0, 1) := by decide +kernel
theorem dX4_tellWord_96 : decode cX4_tellWord 96 = .ok (.bipush 120, 2) := by decide +kernel
theorem dX4_tellWord_98 : decode cX4_tellWord 98 = .ok (.invokevirtual 138, 3) := by decide +kernel
theorem dX4_tellWord_101 : decode cX4_tellWord 101 = .ok (.aload_n 0, 1) := by decide +kernel
theorem dX4_tellWord_102 : decode cX4_tellWord 102 = .ok (.iconst 0, 1) := by decide +kernel
theorem dX4_tellWord_103 : decode cX4_tellWord 103 = .ok (.putfield 142, 3) := by decide +kernel
theorem dX4_tellWord_106 : decode cX4_tellWord 106 = .ok (.goto 100, 3) := by decide +kernel
theorem dX4_tellWord_109 : decode cX4_tellWord 109 = .ok (.aload_n 0, 1) := by decide +kernel
theorem dX4_tellWord_110 : decode cX4_tellWord 110 = .ok (.iload_n 1, 1) := by decide +kernel
theorem dX4_tellWord_111 : decode cX4_tellWord 111 = .ok (.iconst 1, 1) := by decide +kernel
theorem dX4_tellWord_112 : decode cX4_tellWord 112 = .ok (.iadd, 1) := by decide +kernel
theorem dX4_tellWord_113 : decode cX4_tellWord 113 = .ok (.invokevirtual 145, 3) := by decide +kernel
theorem dX4_tellWord_116 : decode cX4_tellWord 116 = .ok (.pop, 1) := by decide +kernel
theorem dX4_tellWord_117 : decode cX4_tellWord 117 = .ok (.goto 89, 3) := by decide +kernel
theorem dX4_tellWord_120 : decode cX4_tellWord 120 = .ok (.aload_n 0, 1) := by decide +kernel
theorem dX4_tellWord_121 : decode cX4_tellWord 121 = .ok (.iload_n 1, 1) := by decide +kernel
theorem dX4_tellWord_122 : decode cX4_tellWord 122 = .ok (.invokevirtual 148, 3) := by decide +kernel
theorem dX4_tellWord_125 : decode cX4_tellWord 125 = .ok (.goto 81, 3) := by decide +kernel
theorem dX4_tellWord_128 : decode cX4_tellWord 128 = .ok (.aload_n 0, 1) := by decide +kernel
theorem dX4_tellWord_129 : decode cX4_tellWord 129 = .ok (.iload_n 1, 1) := by decide +kernel
theorem dX4_tellWord_130 : decode cX4_tellWord 130 = .ok (.iconst 1, 1) := by decide +kernel
theorem dX4_tellWord_131 : decode cX4_tellWord 131 = .ok (.iadd, 1) := by decide +kernel
theorem dX4_tellWord_132 : decode cX4_tellWord 132 = .ok (.iconst 4, 1) := by decide +kernel
theorem dX4_tellWord_133 : decode cX4_tellWord 133 = .ok (.iconst 2, 1) := by decide +kernel
theorem dX4_tellWord_134 : decode cX4_tellWord 134 = .ok (.bipush 100, 2) := by decide +kernel
theorem dX4_tellWord_136 : decode cX4_tellWord 136 = .ok (.invokevirtual 138, 3) := by decide +kernel
theorem dX4_tellWord_139 : decode cX4_tellWord 139 = .ok (.goto 67, 3) := by decide +kernel
theorem dX4_tellWord_142 : decode cX4_tellWord 142 = .ok (.aload_n 0, 1) := by decide +kernel
theorem dX4_tellWord_143 : decode cX4_tellWord 143 = .ok (.iload_n 1, 1) := by decide +kernel
theorem dX4_tellWord_144 : decode cX4_tellWord 144 = .ok (.invokevirtual 151, 3) := by decide +kernel
theorem dX4_tellWord_147 : decode cX4_tellWord 147 = .ok (.goto 59, 3) := by decide +kernel
theorem dX4_tellWord_150 : decode cX4_tellWord 150 = .ok (.aload_n 0, 1) := by decide +kernel
theorem dX4_tellWord_151 : decode cX4_tellWord 151 = .ok (.iload_n 1, 1) := by decide +kernel
theorem dX4_tellWord_152 : decode cX4_tellWord 152 = .ok (.invokevirtual 154, 3) := by decide +kernel
theorem dX4_tellWord_155 : decode cX4_tellWord 155 = .ok (.goto 51, 3) := by decide +kernel
theorem dX4_tellWord_158 : decode cX4_tellWord 158 = .ok (.aload_n 0, 1) := by decide +kernel
theorem dX4_tellWord_159 : decode cX4_tellWord 159 = .ok (.iload_n 1, 1) := by decide +kernel
theorem dX4_tellWord_160 : decode cX4_tellWord 160 = .ok (.iconst 5, 1) := by decide +kernel
theorem dX4_tellWord_161 : decode cX4_tellWord 161 = .ok (.sipush 200, 3) := by decide +kernel
theorem dX4_tellWord_164 : decode cX4_tellWord 164 = .ok (.invokevirtual 157, 3) := by decide +kernel
theorem dX4_tellWord_167 : decode cX4_tellWord 167 = .ok (.goto 39, 3) := by decide +kernel
theorem dX4_tellWord_170 : decode cX4_tellWord 170 = .ok (.aload_n 0, 1) := by decide +kernel
theorem dX4_tellWord_171 : decode cX4_tellWord 171 = .ok (.iload_n 1, 1) := by decide +kernel
theorem dX4_tellWord_172 : decode cX4_tellWord 172 = .ok (.bipush 6, 2) := by decide +kernel
theorem dX4_tellWord_174 : decode cX4_tellWord 174 = .ok (.bipush 20, 2) := by decide +kernel
theorem dX4_tellWord_176 : decode cX4_tellWord 176 = .ok (.invokevirtual 157, 3) := by decide +kernel
theorem dX4_tellWord_179 : decode cX4_tellWord 179 = .ok (.goto 27, 3) := by decide +kernel
theorem dX4_tellWord_182 : decode cX4_tellWord 182 = .ok (.aload_n 0, 1) := by decide +kernel
theorem dX4_tellWord_183 : decode cX4_tellWord 183 = .ok (.iload_n 1, 1) := by decide +kernel
theorem dX4_tellWord_184 : decode cX4_tellWord 184 = .ok (.iconst 1, 1) := by decide +kernel
theorem dX4_tellWord_185 : decode cX4_tellWord 185 = .ok (.iadd, 1) := by decide +kernel
theorem dX4_tellWord_186 : decode cX4_tellWord 186 = .ok (.aload_n 0, 1) := by decide +kernel
theorem dX4_tellWord_187 : decode cX4_tellWord 187 = .ok (.getfield 129, 3) := by decide +kernel
theorem dX4_tellWord_190 : decode cX4_tellWord 190 = .ok (.bipush 14, 2) := by decide +kernel
theorem dX4_tellWord_192 : decode cX4_tellWord 192 = .ok (.if_icmp .ge 7, 3) := by decide +kernel
theorem dX4_tellWord_195 : decode cX4_tellWord 195 = .ok (.iconst 1, 1) := by decide +kernel
theorem dX4_tellWord_196 : decode cX4_tellWord 196 = .ok (.goto 4, 3) := by decide +kernel
theorem dX4_tellWord_199 : decode cX4_tellWord 199 = .ok (.iconst 0, 1) := by decide +kernel
theorem dX4_tellWord_200 : decode cX4_tellWord 200 = .ok (.invokevirtual 161, 3) := by decide +kernel
theorem dX4_tellWord_203 : decode cX4_tellWord 203 = .ok (.goto 3, 3) := by decide +kernel
theorem dX4_tellWord_206 : decode cX4_tellWord 206 = .ok (.return_, 1) := by decide +kernel
theorem dX4_followScope_0 : decode cX4_followScope 0 = .ok (.aload_n 0, 1) := by decide +kernel
theorem dX4_followScope_1 : decode cX4_followScope 1 = .ok (.getfield 32, 3) := by decide +kernel
theorem dX4_followScope_4 : decode cX4_followScope 4 = .ok (.iload_n 1, 1) := by decide +kernel
theorem dX4_followScope_5 : decode cX4_followScope 5 = .ok (.invokevirtual 116, 3) := by decide +kernel
theorem dX4_followScope_8 : decode cX4_followScope 8 = .ok (.lookupswitch 159 #[(59, 100), (123, 124), (125, 152), (235, 68), (236, 68), (237, 68), (242, 83)], 68) := by decide +kernel
theorem dX4_followScope_76 : decode cX4_followScope 76 = .ok (.aload_n 0, 1) := by decide +kernel
theorem dX4_followScope_77 : decode cX4_followScope 77 = .ok (.aload_n 0, 1) := by decide +kernel
theorem dX4_followScope_78 : decode cX4_followScope 78 = .ok (.getfield 32, 3) := by decide +kernel
theorem dX4_followScope_81 : decode cX4_followScope 81 = .ok (.iload_n 1, 1) := by decide +kernel
theorem dX4_followScope_82 : decode cX4_followScope 82 = .ok (.invokevirtual 116, 3) := by decide +kernel
theorem dX4_followScope_85 : decode cX4_followScope 85 = .ok (.putfield 63, 3) := by decide +kernel
theorem dX4_followScope_88 : decode cX4_followScope 88 = .ok (.goto 79, 3) := by decide +kernel
theorem dX4_followScope_91 : decode cX4_followScope 91 = .ok (.aload_n 0, 1) := by decide +kernel
theorem dX4_followScope_92 : decode cX4_followScope 92 = .ok (.aload_n 0, 1) := by decide +kernel
theorem dX4_followScope_93 : decode cX4_followScope 93 = .ok (.getfield 32, 3) := by decide +kernel
theorem dX4_followScope_96 : decode cX4_followScope 96 = .ok (.iload_n 1, 1) := by decide +kernel
theorem dX4_followScope_97 : decode cX4_followScope 97 = .ok (.iconst 1, 1) := by decide +kernel
theorem dX4_followScope_98 : decode cX4_followScope 98 = .ok (.iadd, 1) := by decide +kernel
theorem dX4_followScope_99 : decode cX4_followScope 99 = .ok (.invokevirtual 119, 3) := by decide +kernel
theorem dX4_followScope_102 : decode cX4_followScope 102 = .ok (.putfield 132, 3) := by decide +kernel
theorem dX4_followScope_105 : decode cX4_followScope 105 = .ok (.goto 62, 3) := by decide +kernel
theorem dX4_followScope_108 : decode cX4_followScope 108 = .ok (.aload_n 0, 1) := by decide +kernel
theorem dX4_followScope_109 : decode cX4_followScope 109 = .ok (.getfield 132, 3) := by decide +kernel
theorem dX4_followScope_112 : decode cX4_followScope 112 = .ok (.iconst (-1), 1) := by decide +kernel
theorem dX4_followScope_113 : decode cX4_followScope 113 = .ok (.if_icmp .eq 11, 3) := by decide +kernel
theorem dX4_followScope_116 : decode cX4_followScope 116 = .ok (.aload_n 0, 1) := by decide +kernel
theorem dX4_followScope_117 : decode cX4_followScope 117 = .ok (.aload_n 0, 1) := by decide +kernel
theorem dX4_followScope_118 : decode cX4_followScope 118 = .ok (.getfield 132, 3) := by decide +kernel
theorem dX4_followScope_121 : decode cX4_followScope 121 = .ok (.invokevirtual 178, 3) := by decide +kernel
theorem dX4_followScope_124 : decode cX4_followScope 124 = .ok (.aload_n 0, 1) := by decide +kernel
theorem dX4_followScope_125 : decode cX4_followScope 125 = .ok (.iconst (-1), 1) := by decide +kernel
theorem dX4_followScope_126 : decode cX4_followScope 126 = .ok (.putfield 132, 3) := by decide +kernel
theorem dX4_followScope_129 : decode cX4_followScope 129 = .ok (.goto 38, 3) := by decide +kernel
theorem dX4_followScope_132 : decode cX4_followScope 132 = .ok (.aload_n 0, 1) := by decide +kernel
theorem dX4_followScope_133 : decode cX4_followScope 133 = .ok (.getfield 29, 3) := by decide +kernel
theorem dX4_followScope_136 : decode cX4_followScope 136 = .ok (.aload_n 0, 1) := by decide +kernel
theorem dX4_followScope_137 : decode cX4_followScope 137 = .ok (.getfield 66, 3) := by decide +kernel
theorem dX4_followScope_140 : decode cX4_followScope 140 = .ok (.aload_n 0, 1) := by decide +kernel
theorem dX4_followScope_141 : decode cX4_followScope 141 = .ok (.getfield 126, 3) := by decide +kernel
theorem dX4_followScope_144 : decode cX4_followScope 144 = .ok (.invokestatic 112, 3) := by decide +kernel
theorem dX4_followScope_147 : decode cX4_followScope 147 = .ok (.aload_n 0, 1) := by decide +kernel
theorem dX4_followScope_148 : decode cX4_followScope 148 = .ok (.dup, 1) := by decide +kernel
theorem dX4_followScope_149 : decode cX4_followScope 149 = .ok (.getfield 66, 3) := by decide +kernel
theorem dX4_followScope_152 : decode cX4_followScope 152 = .ok (.iconst 1, 1) := by decide +kernel
theorem dX4_followScope_153 : decode cX4_followScope 153 = .ok (.iadd, 1) := by decide +kernel
theorem dX4_followScope_154 : decode cX4_followScope 154 = .ok (.putfield 66, 3) := by decide +kernel
theorem dX4_followScope_157 : decode cX4_followScope 157 = .ok (.goto 10, 3) := by decide +kernel
theorem dX4_followScope_160 : decode cX4_followScope 160 = .ok (.aload_n 0, 1) := by decide +kernel
theorem dX4_followScope_161 : decode cX4_followScope 161 = .ok (.invokevirtual 184, 3) := by decide +kernel
theorem dX4_followScope_164 : decode cX4_followScope 164 = .ok (.goto 3, 3) := by decide +kernel
theorem dX4_followScope_167 : decode cX4_followScope 167 = .ok (.return_, 1) := by decide +kernel
theorem dX4_itemWord_0 : decode cX4_itemWord 0 = .ok (.aload_n 0, 1) := by decide +kernel
theorem dX4_itemWord_1 : decode cX4_itemWord 1 = .ok (.getfield 32, 3) := by decide +kernel
theorem dX4_itemWord_4 : decode cX4_itemWord 4 = .ok (.iload_n 1, 1) := by decide +kernel
theorem dX4_itemWord_5 : decode cX4_itemWord 5 = .ok (.invokevirtual 116, 3) := by decide +kernel
theorem dX4_itemWord_8 : decode cX4_itemWord 8 = .ok (.istore_n 2, 1) := by decide +kernel
theorem dX4_itemWord_9 : decode cX4_itemWord 9 = .ok (.iload_n 2, 1) := by decide +kernel
theorem dX4_itemWord_10 : decode cX4_itemWord 10 = .ok (.sipush 206, 3) := by decide +kernel
theorem dX4_itemWord_13 : decode cX4_itemWord 13 = .ok (.if_icmp .lt 47, 3) := by decide +kernel
theorem dX4_itemWord_16 : decode cX4_itemWord 16 = .ok (.iload_n 2, 1) := by decide +kernel
theorem dX4_itemWord_17 : decode cX4_itemWord 17 = .ok (.sipush 212, 3) := by decide +kernel
theorem dX4_itemWord_20 : decode cX4_itemWord 20 = .ok (.if_icmp .gt 40, 3) := by decide +kernel
theorem dX4_itemWord_23 : decode cX4_itemWord 23 = .ok (.aload_n 0, 1) := by decide +kernel
theorem dX4_itemWord_24 : decode cX4_itemWord 24 = .ok (.getfield 36, 3) := by decide +kernel
theorem dX4_itemWord_27 : decode cX4_itemWord 27 = .ok (.getfield 187, 3) := by decide +kernel
theorem dX4_itemWord_30 : decode cX4_itemWord 30 = .ok (.aload_n 0, 1) := by decide +kernel
theorem dX4_itemWord_31 : decode cX4_itemWord 31 = .ok (.getfield 190, 3) := by decide +kernel
theorem dX4_itemWord_34 : decode cX4_itemWord 34 = .ok (.aload_n 0, 1) := by decide +kernel
theorem dX4_itemWord_35 : decode cX4_itemWord 35 = .ok (.getfield 36, 3) := by decide +kernel
theorem dX4_itemWord_38 : decode cX4_itemWord 38 = .ok (.getfield 187, 3) := by decide +kernel
theorem dX4_itemWord_41 : decode cX4_itemWord 41 = .ok (.aload_n 0, 1) := by decide +kernel
theorem dX4_itemWord_42 : decode cX4_itemWord 42 = .ok (.getfield 190, 3) := by decide +kernel
theorem dX4_itemWord_45 : decode cX4_itemWord 45 = .ok (.invokestatic 122, 3) := by decide +kernel
theorem dX4_itemWord_48 : decode cX4_itemWord 48 = .ok (.iconst 1, 1) := by decide +kernel
theorem dX4_itemWord_49 : decode cX4_itemWord 49 = .ok (.iload_n 2, 1) := by decide +kernel
theorem dX4_itemWord_50 : decode cX4_itemWord 50 = .ok (.sipush 206, 3) := by decide +kernel
theorem dX4_itemWord_53 : decode cX4_itemWord 53 = .ok (.isub, 1) := by decide +kernel
theorem dX4_itemWord_54 : decode cX4_itemWord 54 = .ok (.ishl, 1) := by decide +kernel
theorem dX4_itemWord_55 : decode cX4_itemWord 55 = .ok (.ior, 1) := by decide +kernel
theorem dX4_itemWord_56 : decode cX4_itemWord 56 = .ok (.invokestatic 112, 3) := by decide +kernel
theorem dX4_itemWord_59 : decode cX4_itemWord 59 = .ok (.return_, 1) := by decide +kernel
theorem dX4_itemWord_60 : decode cX4_itemWord 60 = .ok (.iload_n 2, 1) := by decide +kernel
theorem dX4_itemWord_61 : decode cX4_itemWord 61 = .ok (.tableswitch 282 219 240 #[185, 282, 282, 282, 282, 282, 282, 282, 282, 282, 282, 103, 103, 210, 218, 282, 226, 274, 282, 150, 177, 195], 103) := by decide +kernel
theorem dX4_itemWord_164 : decode cX4_itemWord 164 = .ok (.aload_n 0, 1) := by decide +kernel
theorem dX4_itemWord_165 : decode cX4_itemWord 165 = .ok (.aload_n 0, 1) := by decide +kernel
theorem dX4_itemWord_166 : decode cX4_itemWord 166 = .ok (.iload_n 1, 1) := by decide +kernel
theorem dX4_itemWord_167 : decode cX4_itemWord 167 = .ok (.iconst 1, 1) := by decide +kernel
theorem dX4_itemWord_168 : decode cX4_itemWord 168 = .ok (.iadd, 1) := by decide +kernel
theorem dX4_itemWord_169 : decode cX4_itemWord 169 = .ok (.invokevirtual 193, 3) := by decide +kernel
theorem dX4_itemWord_172 : decode cX4_itemWord 172 = .ok (.putfield 190, 3) := by decide +kernel
theorem dX4_itemWord_175 : decode cX4_itemWord 175 = .ok (.aload_n 0, 1) := by decide +kernel
theorem dX4_itemWord_176 : decode cX4_itemWord 176 = .ok (.getfield 36, 3) := by decide +kernel
theorem dX4_itemWord_179 : decode cX4_itemWord 179 = .ok (.aload_n 0, 1) := by decide +kernel
theorem dX4_itemWord_180 : decode cX4_itemWord 180 = .ok (.getfield 190, 3) := by decide +kernel
theorem dX4_itemWord_183 : decode cX4_itemWord 183 = .ok (.iload_n 2, 1) := by decide +kernel
theorem dX4_itemWord_184 : decode cX4_itemWord 184 = .ok (.sipush 230, 3) := by decide +kernel
theorem dX4_itemWord_187 : decode cX4_itemWord 187 = .ok (.if_icmp .ne 7, 3) := by decide +kernel
theorem dX4_itemWord_190 : decode cX4_itemWord 190 = .ok (.iconst 1, 1) := by decide +kernel
theorem dX4_itemWord_191 : decode cX4_itemWord 191 = .ok (.goto 4, 3) := by decide +kernel
theorem dX4_itemWord_194 : decode cX4_itemWord 194 = .ok (.iconst 0, 1) := by decide +kernel
theorem dX4_itemWord_195 : decode cX4_itemWord 195 = .ok (.aload_n 0, 1) := by decide +kernel
theorem dX4_itemWord_196 : decode cX4_itemWord 196 = .ok (.getfield 32, 3) := by decide +kernel
theorem dX4_itemWord_199 : decode cX4_itemWord 199 = .ok (.iload_n 1, 1) := by decide +kernel
theorem dX4_itemWord_200 : decode cX4_itemWord 200 = .ok (.iconst 2, 1) := by decide +kernel
theorem dX4_itemWord_201 : decode cX4_itemWord 201 = .ok (.iadd, 1) := by decide +kernel
theorem dX4_itemWord_202 : decode cX4_itemWord 202 = .ok (.invokevirtual 119, 3) := by decide +kernel
theorem dX4_itemWord_205 : decode cX4_itemWord 205 = .ok (.invokevirtual 195, 3) := by decide +kernel
theorem dX4_itemWord_208 : decode cX4_itemWord 208 = .ok (.goto 135, 3) := by decide +kernel
theorem dX4_itemWord_211 : decode cX4_itemWord 211 = .ok (.aload_n 0, 1) := by decide +kernel
theorem dX4_itemWord_212 : decode cX4_itemWord 212 = .ok (.getfield 36, 3) := by decide +kernel
theorem dX4_itemWord_215 : decode cX4_itemWord 215 = .ok (.getfield 199, 3) := by decide +kernel
theorem dX4_itemWord_218 : decode cX4_itemWord 218 = .ok (.aload_n 0, 1) := by decide +kernel
theorem dX4_itemWord_219 : decode cX4_itemWord 219 = .ok (.getfield 190, 3) := by decide +kernel
theorem dX4_itemWord_222 : decode cX4_itemWord 222 = .ok (.aload_n 0, 1) := by decide +kernel
theorem dX4_itemWord_223 : decode cX4_itemWord 223 = .ok (.getfield 32, 3) := by decide +kernel
theorem dX4_itemWord_226 : decode cX4_itemWord 226 = .ok (.iload_n 1, 1) := by decide +kernel
theorem dX4_itemWord_227 : decode cX4_itemWord 227 = .ok (.iconst 1, 1) := by decide +kernel
theorem dX4_itemWord_228 : decode cX4_itemWord 228 = .ok (.iadd, 1) := by decide +kernel
theorem dX4_itemWord_229 : decode cX4_itemWord 229 = .ok (.invokevirtual 119, 3) := by decide +kernel
theorem dX4_itemWord_232 : decode cX4_itemWord 232 = .ok (.invokestatic 112, 3) := by decide +kernel
theorem dX4_itemWord_235 : decode cX4_itemWord 235 = .ok (.goto 108, 3) := by decide +kernel
theorem dX4_itemWord_238 : decode cX4_itemWord 238 = .ok (.aload_n 0, 1) := by decide +kernel
theorem dX4_itemWord_239 : decode cX4_itemWord 239 = .ok (.iload_n 1, 1) := by decide +kernel
theorem dX4_itemWord_240 : decode cX4_itemWord 240 = .ok (.invokevirtual 202, 3) := by decide +kernel
theorem dX4_itemWord_243 : decode cX4_itemWord 243 = .ok (.goto 100, 3) := by decide +kernel
theorem dX4_itemWord_246 : decode cX4_itemWord 246 = .ok (.aload_n 0, 1) := by decide +kernel
theorem dX4_itemWord_247 : decode cX4_itemWord 247 = .ok (.iload_n 1, 1) := by decide +kernel
theorem dX4_itemWord_248 : decode cX4_itemWord 248 = .ok (.iconst 1, 1) := by decide +kernel
theorem dX4_itemWord_249 : decode cX4_itemWord 249 = .ok (.iadd, 1) := by decide +kernel
theorem dX4_itemWord_250 : decode cX4_itemWord 250 = .ok (.invokevirtual 205, 3) := by decide +kernel
theorem dX4_itemWord_253 : decode cX4_itemWord 253 = .ok (.goto 90, 3) := by decide +kernel
theorem dX4_itemWord_256 : decode cX4_itemWord 256 = .ok (.aload_n 0, 1) := by decide +kernel
theorem dX4_itemWord_257 : decode cX4_itemWord 257 = .ok (.aload_n 0, 1) := by decide +kernel
theorem dX4_itemWord_258 : decode cX4_itemWord 258 = .ok (.getfield 190, 3) := by decide +kernel
theorem dX4_itemWord_261 : decode cX4_itemWord 261 = .ok (.iload_n 1, 1) := by decide +kernel
theorem dX4_itemWord_262 : decode cX4_itemWord 262 = .ok (.iconst 1, 1) := by decide +kernel
theorem dX4_itemWord_263 : decode cX4_itemWord 263 = .ok (.iadd, 1) := by decide +kernel
theorem dX4_itemWord_264 : decode cX4_itemWord 264 = .ok (.invokevirtual 208, 3) := by decide +kernel
theorem dX4_itemWord_267 : decode cX4_itemWord 267 = .ok (.pop, 1) := by decide +kernel
theorem dX4_itemWord_268 : decode cX4_itemWord 268 = .ok (.goto 75, 3) := by decide +kernel
theorem dX4_itemWord_271 : decode cX4_itemWord 271 = .ok (.aload_n 0, 1) := by decide +kernel
theorem dX4_itemWord_272 : decode cX4_itemWord 272 = .ok (.iload_n 1, 1) := by decide +kernel
theorem dX4_itemWord_273 : decode cX4_itemWord 273 = .ok (.invokevirtual 212, 3) := by decide +kernel
theorem dX4_itemWord_276 : decode cX4_itemWord 276 = .ok (.goto 67, 3) := by decide +kernel
theorem dX4_itemWord_279 : decode cX4_itemWord 279 = .ok (.aload_n 0, 1) := by decide +kernel
theorem dX4_itemWord_280 : decode cX4_itemWord 280 = .ok (.iload_n 1, 1) := by decide +kernel
theorem dX4_itemWord_281 : decode cX4_itemWord 281 = .ok (.invokevirtual 215, 3) := by decide +kernel
theorem dX4_itemWord_284 : decode cX4_itemWord 284 = .ok (.goto 59, 3) := by decide +kernel
theorem dX4_itemWord_287 : decode cX4_itemWord 287 = .ok (.iload_n 1, 1) := by decide +kernel
theorem dX4_itemWord_288 : decode cX4_itemWord 288 = .ok (.iconst 3, 1) := by decide +kernel
theorem dX4_itemWord_289 : decode cX4_itemWord 289 = .ok (.iadd, 1) := by decide +kernel
theorem dX4_itemWord_290 : decode cX4_itemWord 290 = .ok (.istore_n 3, 1) := by decide +kernel
theorem dX4_itemWord_291 : decode cX4_itemWord 291 = .ok (.iload_n 3, 1) := by decide +kernel
theorem dX4_itemWord_292 : decode cX4_itemWord 292 = .ok (.aload_n 0, 1) := by decide +kernel
theorem dX4_itemWord_293 : decode cX4_itemWord 293 = .ok (.getfield 32, 3) := by decide +kernel
theorem dX4_itemWord_296 : decode cX4_itemWord 296 = .ok (.getfield 53, 3) := by decide +kernel
theorem dX4_itemWord_299 : decode cX4_itemWord 299 = .ok (.if_icmp .ge 33, 3) := by decide +kernel
theorem dX4_itemWord_302 : decode cX4_itemWord 302 = .ok (.aload_n 0, 1) := by decide +kernel
theorem dX4_itemWord_303 : decode cX4_itemWord 303 = .ok (.getfield 32, 3) := by decide +kernel
theorem dX4_itemWord_306 : decode cX4_itemWord 306 = .ok (.iload_n 3, 1) := by decide +kernel
theorem dX4_itemWord_307 : decode cX4_itemWord 307 = .ok (.invokevirtual 116, 3) := by decide +kernel
theorem dX4_itemWord_310 : decode cX4_itemWord 310 = .ok (.iconst 2, 1) := by decide +kernel
theorem dX4_itemWord_311 : decode cX4_itemWord 311 = .ok (.if_icmp .ne 21, 3) := by decide +kernel
theorem dX4_itemWord_314 : decode cX4_itemWord 314 = .ok (.aload_n 0, 1) := by decide +kernel
theorem dX4_itemWord_315 : decode cX4_itemWord 315 = .ok (.aload_n 0, 1) := by decide +kernel
theorem dX4_itemWord_316 : decode cX4_itemWord 316 = .ok (.getfield 32, 3) := by decide +kernel
theorem dX4_itemWord_319 : decode cX4_itemWord 319 = .ok (.iload_n 3, 1) := by decide +kernel
theorem dX4_itemWord_320 : decode cX4_itemWord 320 = .ok (.invokevirtual 119, 3) := by decide +kernel
theorem dX4_itemWord_323 : decode cX4_itemWord 323 = .ok (.invokevirtual 178, 3) := by decide +kernel
theorem dX4_itemWord_326 : decode cX4_itemWord 326 = .ok (.iinc 3 2, 3) := by decide +kernel
theorem dX4_itemWord_329 : decode cX4_itemWord 329 = .ok (.goto (-38), 3) := by decide +kernel
theorem dX4_itemWord_332 : decode cX4_itemWord 332 = .ok (.goto 11, 3) := by decide +kernel
theorem dX4_itemWord_335 : decode cX4_itemWord 335 = .ok (.aload_n 0, 1) := by decide +kernel
theorem dX4_itemWord_336 : decode cX4_itemWord 336 = .ok (.iload_n 1, 1) := by decide +kernel
theorem dX4_itemWord_337 : decode cX4_itemWord 337 = .ok (.invokevirtual 218, 3) := by decide +kernel
theorem dX4_itemWord_340 : decode cX4_itemWord 340 = .ok (.goto 3, 3) := by decide +kernel
theorem dX4_itemWord_343 : decode cX4_itemWord 343 = .ok (.return_, 1) := by decide +kernel
theorem dX4_fail_0 : decode cX4_fail 0 = .ok (.aload_n 0, 1) := by decide +kernel
theorem dX4_fail_1 : decode cX4_fail 1 = .ok (.getfield 40, 3) := by decide +kernel
theorem dX4_fail_4 : decode cX4_fail 4 = .ok (.ifCond .ne 20, 3) := by decide +kernel
theorem dX4_fail_7 : decode cX4_fail 7 = .ok (.aload_n 0, 1) := by decide +kernel
theorem dX4_fail_8 : decode cX4_fail 8 = .ok (.iload_n 1, 1) := by decide +kernel
theorem dX4_fail_9 : decode cX4_fail 9 = .ok (.putfield 40, 3) := by decide +kernel
theorem dX4_fail_12 : decode cX4_fail 12 = .ok (.aload_n 0, 1) := by decide +kernel
theorem dX4_fail_13 : decode cX4_fail 13 = .ok (.aload_n 0, 1) := by decide +kernel
theorem dX4_fail_14 : decode cX4_fail 14 = .ok (.getfield 32, 3) := by decide +kernel
theorem dX4_fail_17 : decode cX4_fail 17 = .ok (.iload_n 2, 1) := by decide +kernel
theorem dX4_fail_18 : decode cX4_fail 18 = .ok (.invokevirtual 88, 3) := by decide +kernel
theorem dX4_fail_21 : decode cX4_fail 21 = .ok (.putfield 44, 3) := by decide +kernel
theorem dX4_fail_24 : decode cX4_fail 24 = .ok (.return_, 1) := by decide +kernel
theorem dX7_isRoom_0 : decode cX7_isRoom 0 = .ok (.iload_n 1, 1) := by decide +kernel
theorem dX7_isRoom_1 : decode cX7_isRoom 1 = .ok (.ifCond .lt 25, 3) := by decide +kernel
theorem dX7_isRoom_4 : decode cX7_isRoom 4 = .ok (.iload_n 1, 1) := by decide +kernel
theorem dX7_isRoom_5 : decode cX7_isRoom 5 = .ok (.aload_n 0, 1) := by decide +kernel
theorem dX7_isRoom_6 : decode cX7_isRoom 6 = .ok (.getfield 15, 3) := by decide +kernel
theorem dX7_isRoom_9 : decode cX7_isRoom 9 = .ok (.arraylength, 1) := by decide +kernel
theorem dX7_isRoom_10 : decode cX7_isRoom 10 = .ok (.if_icmp .ge 16, 3) := by decide +kernel
theorem dX7_isRoom_13 : decode cX7_isRoom 13 = .ok (.aload_n 0, 1) := by decide +kernel
theorem dX7_isRoom_14 : decode cX7_isRoom 14 = .ok (.getfield 15, 3) := by decide +kernel
theorem dX7_isRoom_17 : decode cX7_isRoom 17 = .ok (.iload_n 1, 1) := by decide +kernel
theorem dX7_isRoom_18 : decode cX7_isRoom 18 = .ok (.baload, 1) := by decide +kernel
theorem dX7_isRoom_19 : decode cX7_isRoom 19 = .ok (.ifCond .eq 7, 3) := by decide +kernel
theorem dX7_isRoom_22 : decode cX7_isRoom 22 = .ok (.iconst 1, 1) := by decide +kernel
theorem dX7_isRoom_23 : decode cX7_isRoom 23 = .ok (.goto 4, 3) := by decide +kernel
theorem dX7_isRoom_26 : decode cX7_isRoom 26 = .ok (.iconst 0, 1) := by decide +kernel
theorem dX7_isRoom_27 : decode cX7_isRoom 27 = .ok (.ireturn, 1) := by decide +kernel
theorem dX7_firstRoom_0 : decode cX7_firstRoom 0 = .ok (.iconst 1, 1) := by decide +kernel
theorem dX7_firstRoom_1 : decode cX7_firstRoom 1 = .ok (.istore_n 1, 1) := by decide +kernel
theorem dX7_firstRoom_2 : decode cX7_firstRoom 2 = .ok (.iload_n 1, 1) := by decide +kernel
theorem dX7_firstRoom_3 : decode cX7_firstRoom 3 = .ok (.bipush 120, 2) := by decide +kernel
theorem dX7_firstRoom_5 : decode cX7_firstRoom 5 = .ok (.if_icmp .gt 29, 3) := by decide +kernel
theorem dX7_firstRoom_8 : decode cX7_firstRoom 8 = .ok (.iload_n 1, 1) := by decide +kernel
theorem dX7_firstRoom_9 : decode cX7_firstRoom 9 = .ok (.aload_n 0, 1) := by decide +kernel
theorem dX7_firstRoom_10 : decode cX7_firstRoom 10 = .ok (.getfield 9, 3) := by decide +kernel
theorem dX7_firstRoom_13 : decode cX7_firstRoom 13 = .ok (.iconst 0, 1) := by decide +kernel
theorem dX7_firstRoom_14 : decode cX7_firstRoom 14 = .ok (.iaload, 1) := by decide +kernel
theorem dX7_firstRoom_15 : decode cX7_firstRoom 15 = .ok (.if_icmp .gt 19, 3) := by decide +kernel
theorem dX7_firstRoom_18 : decode cX7_firstRoom 18 = .ok (.aload_n 0, 1) := by decide +kernel
theorem dX7_firstRoom_19 : decode cX7_firstRoom 19 = .ok (.iload_n 1, 1) := by decide +kernel
theorem dX7_firstRoom_20 : decode cX7_firstRoom 20 = .ok (.invokevirtual 162, 3) := by decide +kernel
theorem dX7_firstRoom_23 : decode cX7_firstRoom 23 = .ok (.ifCond .eq 5, 3) := by decide +kernel
theorem dX7_firstRoom_26 : decode cX7_firstRoom 26 = .ok (.iload_n 1, 1) := by decide +kernel
theorem dX7_firstRoom_27 : decode cX7_firstRoom 27 = .ok (.ireturn, 1) := by decide +kernel
theorem dX7_firstRoom_28 : decode cX7_firstRoom 28 = .ok (.iinc 1 1, 3) := by decide +kernel
theorem dX7_firstRoom_31 : decode cX7_firstRoom 31 = .ok (.goto (-29), 3) := by decide +kernel
theorem dX7_firstRoom_34 : decode cX7_firstRoom 34 = .ok (.iconst 0, 1) := by decide +kernel
theorem dX7_firstRoom_35 : decode cX7_firstRoom 35 = .ok (.ireturn, 1) := by decide +kernel
theorem dX7_hasRoom_0 : decode cX7_hasRoom 0 = .ok (.aload_n 0, 1) := by decide +kernel
theorem dX7_hasRoom_1 : decode cX7_hasRoom 1 = .ok (.invokevirtual 159, 3) := by decide +kernel
theorem dX7_hasRoom_4 : decode cX7_hasRoom 4 = .ok (.ifCond .eq 7, 3) := by decide +kernel
theorem dX7_hasRoom_7 : decode cX7_hasRoom 7 = .ok (.iconst 1, 1) := by decide +kernel
theorem dX7_hasRoom_8 : decode cX7_hasRoom 8 = .ok (.goto 4, 3) := by decide +kernel
theorem dX7_hasRoom_11 : decode cX7_hasRoom 11 = .ok (.iconst 0, 1) := by decide +kernel
theorem dX7_hasRoom_12 : decode cX7_hasRoom 12 = .ok (.ireturn, 1) := by decide +kernel
theorem dX4_giveAll_0 : decode cX4_giveAll 0 = .ok (.aload_n 0, 1) := by decide +kernel
theorem dX4_giveAll_1 : decode cX4_giveAll 1 = .ok (.aload_n 1, 1) := by decide +kernel
theorem dX4_giveAll_2 : decode cX4_giveAll 2 = .ok (.putfield 36, 3) := by decide +kernel
theorem dX4_giveAll_5 : decode cX4_giveAll 5 = .ok (.aload_n 0, 1) := by decide +kernel
theorem dX4_giveAll_6 : decode cX4_giveAll 6 = .ok (.iconst 0, 1) := by decide +kernel
theorem dX4_giveAll_7 : decode cX4_giveAll 7 = .ok (.putfield 40, 3) := by decide +kernel
theorem dX4_giveAll_10 : decode cX4_giveAll 10 = .ok (.aload_n 0, 1) := by decide +kernel
theorem dX4_giveAll_11 : decode cX4_giveAll 11 = .ok (.iconst (-1), 1) := by decide +kernel
theorem dX4_giveAll_12 : decode cX4_giveAll 12 = .ok (.putfield 44, 3) := by decide +kernel
theorem dX4_giveAll_15 : decode cX4_giveAll 15 = .ok (.aload_n 0, 1) := by decide +kernel
theorem dX4_giveAll_16 : decode cX4_giveAll 16 = .ok (.invokevirtual 47, 3) := by decide +kernel
theorem dX4_giveAll_19 : decode cX4_giveAll 19 = .ok (.aload_n 0, 1) := by decide +kernel
theorem dX4_giveAll_20 : decode cX4_giveAll 20 = .ok (.invokevirtual 50, 3) := by decide +kernel
theorem dX4_giveAll_23 : decode cX4_giveAll 23 = .ok (.iconst 0, 1) := by decide +kernel
theorem dX4_giveAll_24 : decode cX4_giveAll 24 = .ok (.istore_n 2, 1) := by decide +kernel
theorem dX4_giveAll_25 : decode cX4_giveAll 25 = .ok (.iload_n 2, 1) := by decide +kernel
theorem dX4_giveAll_26 : decode cX4_giveAll 26 = .ok (.aload_n 0, 1) := by decide +kernel
theorem dX4_giveAll_27 : decode cX4_giveAll 27 = .ok (.getfield 32, 3) := by decide +kernel
theorem dX4_giveAll_30 : decode cX4_giveAll 30 = .ok (.getfield 53, 3) := by decide +kernel
theorem dX4_giveAll_33 : decode cX4_giveAll 33 = .ok (.if_icmp .ge 26, 3) := by decide +kernel
theorem dX4_giveAll_36 : decode cX4_giveAll 36 = .ok (.aload_n 0, 1) := by decide +kernel
theorem dX4_giveAll_37 : decode cX4_giveAll 37 = .ok (.getfield 40, 3) := by decide +kernel
theorem dX4_giveAll_40 : decode cX4_giveAll 40 = .ok (.ifCond .ne 19, 3) := by decide +kernel
theorem dX4_giveAll_43 : decode cX4_giveAll 43 = .ok (.aload_n 0, 1) := by decide +kernel
theorem dX4_giveAll_44 : decode cX4_giveAll 44 = .ok (.iload_n 2, 1) := by decide +kernel
theorem dX4_giveAll_45 : decode cX4_giveAll 45 = .ok (.invokevirtual 56, 3) := by decide +kernel
theorem dX4_giveAll_48 : decode cX4_giveAll 48 = .ok (.aload_n 0, 1) := by decide +kernel
theorem dX4_giveAll_49 : decode cX4_giveAll 49 = .ok (.iload_n 2, 1) := by decide +kernel
theorem dX4_giveAll_50 : decode cX4_giveAll 50 = .ok (.invokevirtual 60, 3) := by decide +kernel
theorem dX4_giveAll_53 : decode cX4_giveAll 53 = .ok (.iinc 2 1, 3) := by decide +kernel
theorem dX4_giveAll_56 : decode cX4_giveAll 56 = .ok (.goto (-31), 3) := by decide +kernel
theorem dX4_giveAll_59 : decode cX4_giveAll 59 = .ok (.aload_n 0, 1) := by decide +kernel
theorem dX4_giveAll_60 : decode cX4_giveAll 60 = .ok (.invokevirtual 50, 3) := by decide +kernel
theorem dX4_giveAll_63 : decode cX4_giveAll 63 = .ok (.iconst 0, 1) := by decide +kernel
theorem dX4_giveAll_64 : decode cX4_giveAll 64 = .ok (.istore_n 2, 1) := by decide +kernel
theorem dX4_giveAll_65 : decode cX4_giveAll 65 = .ok (.iload_n 2, 1) := by decide +kernel
theorem dX4_giveAll_66 : decode cX4_giveAll 66 = .ok (.aload_n 0, 1) := by decide +kernel
theorem dX4_giveAll_67 : decode cX4_giveAll 67 = .ok (.getfield 32, 3) := by decide +kernel
theorem dX4_giveAll_70 : decode cX4_giveAll 70 = .ok (.getfield 53, 3) := by decide +kernel
theorem dX4_giveAll_73 : decode cX4_giveAll 73 = .ok (.if_icmp .ge 48, 3) := by decide +kernel
theorem dX4_giveAll_76 : decode cX4_giveAll 76 = .ok (.aload_n 0, 1) := by decide +kernel
theorem dX4_giveAll_77 : decode cX4_giveAll 77 = .ok (.getfield 40, 3) := by decide +kernel
theorem dX4_giveAll_80 : decode cX4_giveAll 80 = .ok (.ifCond .ne 41, 3) := by decide +kernel
theorem dX4_giveAll_83 : decode cX4_giveAll 83 = .ok (.aload_n 0, 1) := by decide +kernel
theorem dX4_giveAll_84 : decode cX4_giveAll 84 = .ok (.getfield 63, 3) := by decide +kernel
theorem dX4_giveAll_87 : decode cX4_giveAll 87 = .ok (.ifCond .eq 18, 3) := by decide +kernel
theorem dX4_giveAll_90 : decode cX4_giveAll 90 = .ok (.aload_n 0, 1) := by decide +kernel
theorem dX4_giveAll_91 : decode cX4_giveAll 91 = .ok (.getfield 66, 3) := by decide +kernel
theorem dX4_giveAll_94 : decode cX4_giveAll 94 = .ok (.ifCond .le 11, 3) := by decide +kernel
theorem dX4_giveAll_97 : decode cX4_giveAll 97 = .ok (.aload_n 0, 1) := by decide +kernel
theorem dX4_giveAll_98 : decode cX4_giveAll 98 = .ok (.iload_n 2, 1) := by decide +kernel
theorem dX4_giveAll_99 : decode cX4_giveAll 99 = .ok (.invokevirtual 69, 3) := by decide +kernel
theorem dX4_giveAll_102 : decode cX4_giveAll 102 = .ok (.goto 8, 3) := by decide +kernel
theorem dX4_giveAll_105 : decode cX4_giveAll 105 = .ok (.aload_n 0, 1) := by decide +kernel
theorem dX4_giveAll_106 : decode cX4_giveAll 106 = .ok (.iload_n 2, 1) := by decide +kernel
theorem dX4_giveAll_107 : decode cX4_giveAll 107 = .ok (.invokevirtual 72, 3) := by decide +kernel
theorem dX4_giveAll_110 : decode cX4_giveAll 110 = .ok (.aload_n 0, 1) := by decide +kernel
theorem dX4_giveAll_111 : decode cX4_giveAll 111 = .ok (.iload_n 2, 1) := by decide +kernel
theorem dX4_giveAll_112 : decode cX4_giveAll 112 = .ok (.invokevirtual 60, 3) := by decide +kernel
theorem dX4_giveAll_115 : decode cX4_giveAll 115 = .ok (.iinc 2 1, 3) := by decide +kernel
theorem dX4_giveAll_118 : decode cX4_giveAll 118 = .ok (.goto (-53), 3) := by decide +kernel
theorem dX4_giveAll_121 : decode cX4_giveAll 121 = .ok (.aload_n 0, 1) := by decide +kernel
theorem dX4_giveAll_122 : decode cX4_giveAll 122 = .ok (.getfield 40, 3) := by decide +kernel
theorem dX4_giveAll_125 : decode cX4_giveAll 125 = .ok (.ifCond .ne 38, 3) := by decide +kernel
theorem dX4_giveAll_128 : decode cX4_giveAll 128 = .ok (.aload_n 0, 1) := by decide +kernel
theorem dX4_giveAll_129 : decode cX4_giveAll 129 = .ok (.getfield 36, 3) := by decide +kernel
theorem dX4_giveAll_132 : decode cX4_giveAll 132 = .ok (.invokevirtual 75, 3) := by decide +kernel
theorem dX4_giveAll_135 : decode cX4_giveAll 135 = .ok (.ifCond .eq 13, 3) := by decide +kernel
theorem dX4_giveAll_138 : decode cX4_giveAll 138 = .ok (.aload_n 0, 1) := by decide +kernel
theorem dX4_giveAll_139 : decode cX4_giveAll 139 = .ok (.getfield 36, 3) := by decide +kernel
theorem dX4_giveAll_142 : decode cX4_giveAll 142 = .ok (.invokevirtual 81, 3) := by decide +kernel
theorem dX4_giveAll_145 : decode cX4_giveAll 145 = .ok (.ifCond .eq 18, 3) := by decide +kernel
theorem dX4_giveAll_148 : decode cX4_giveAll 148 = .ok (.aload_n 0, 1) := by decide +kernel
theorem dX4_giveAll_149 : decode cX4_giveAll 149 = .ok (.bipush 6, 2) := by decide +kernel
theorem dX4_giveAll_151 : decode cX4_giveAll 151 = .ok (.aload_n 0, 1) := by decide +kernel
theorem dX4_giveAll_152 : decode cX4_giveAll 152 = .ok (.getfield 32, 3) := by decide +kernel
theorem dX4_giveAll_155 : decode cX4_giveAll 155 = .ok (.getfield 53, 3) := by decide +kernel
theorem dX4_giveAll_158 : decode cX4_giveAll 158 = .ok (.iconst 1, 1) := by decide +kernel
theorem dX4_giveAll_159 : decode cX4_giveAll 159 = .ok (.isub, 1) := by decide +kernel
theorem dX4_giveAll_160 : decode cX4_giveAll 160 = .ok (.invokevirtual 84, 3) := by decide +kernel
theorem dX4_giveAll_163 : decode cX4_giveAll 163 = .ok (.aload_n 0, 1) := by decide +kernel
theorem dX4_giveAll_164 : decode cX4_giveAll 164 = .ok (.getfield 40, 3) := by decide +kernel
theorem dX4_giveAll_167 : decode cX4_giveAll 167 = .ok (.ireturn, 1) := by decide +kernel
abbrev ww_X10_kindOf (cB cC cI cJ cZ cP : ClassId) (w0 : Nat) (f_source : Nat) (f_kinds : Nat) (f_places : Nat) (f_values : Nat) (f_notes : Nat) (f_meanings : Nat) (f_names : Nat) (f_slots : Nat) (nm : Int32) (kn : Nat → Int32) : va_W := [(w0, .inr (10, [.ref f_source, .int 0, .int 1, .ref f_kinds, .ref f_places, .ref f_values, .ref f_notes, .ref f_meanings, .ref f_names, .ref f_slots, .int nm, .int 0])), (f_kinds, .inl (cI, 16001, .inl kn))]
abbrev q_X10_kindOf (dC : Nat → ClassId) (dI : Nat → Nat → Nat) (cB cC cI cJ cZ cP : ClassId) (w0 : Nat) (f_source : Nat) (f_kinds : Nat) (f_places : Nat) (f_values : Nat) (f_notes : Nat) (f_meanings : Nat) (f_names : Nat) (f_slots : Nat) (nm : Int32) (kn : Nat → Int32) (A : Nat → Prop) : Array Value → State → Outcome → State → Prop := va_Qi (fun (r : Int32) (_ : Unit) => r = 0) (g_Bo (dC, dI) A (fun (_ : Unit) => [(w0, .inr (10, [.ref f_source, .int 0, .int 1, .ref f_kinds, .ref f_places, .ref f_values, .ref f_notes, .ref f_meanings, .ref f_names, .ref f_slots, .int nm, .int 0])), (f_kinds, .inl (cI, 16001, .inl kn))])) A
set_option maxHeartbeats 4000000 in
set_option maxRecDepth 100000 in
theorem c_X10_kindOf (l : Launch) (dC : Nat → ClassId) (dI : Nat → Nat → Nat) (cB cC cI cJ cZ cP : ClassId) (sz : Nat) (w0 : Nat) (f_source : Nat) (f_kinds : Nat) (f_places : Nat) (f_values : Nat) (f_notes : Nat) (f_meanings : Nat) (f_names : Nat) (f_slots : Nat) (nm : Int32) (kn : Nat → Int32) (hk : kn 0 = 0) : Met l yX10_kindOf (g_ws yX10_kindOf cX10_kindOf 2 (some .int)) ({ frames := 1, cells := 0, slots := 0, locals := 40 }) (va_Pc [.ref w0, .int 0] (g_B (dC, dI) [(cB, .byte), (cC, .char), (cI, .int), (cJ, .long), (cZ, .boolean), (cP, .object "StoryHouse$Play")] sz (ww_X10_kindOf cB cC cI cJ cZ cP w0 f_source f_kinds f_places f_values f_notes f_meanings f_names f_slots nm kn) g_0)) (q_X10_kindOf dC dI cB cC cI cJ cZ cP w0 f_source f_kinds f_places f_values f_notes f_meanings f_names f_slots nm kn (va_A (ww_X10_kindOf cB cC cI cJ cZ cP w0 f_source f_kinds f_places f_values f_notes f_meanings f_names f_slots nm kn) sz)) 0 0 (va_A (ww_X10_kindOf cB cC cI cJ cZ cP w0 f_source f_kinds f_places f_values f_notes f_meanings f_names f_slots nm kn) sz) := by
  refine Met.ofW (cc := cX10_kindOf) (maxL := 2) (ret := (some .int)) (by decide) rfl ?_
  intro p e s m args below meth c s₁ B hml hv
  obtain ⟨rfl, hsz, hP, hK, hD0, hE, hX⟩ := hv
  have hx := B.exec
  have hb := B.bytes
  have hr := B.returns
  have hts0 := atoms_spec (ws := (g_ws yX10_kindOf cX10_kindOf 2 (some .int))) B.pre
  have hts : ∀ w ∈ lw_good, w.before ([.ref w0, .int 0] : List Value).toArray s = true := fun w h => hts0 w (List.mem_cons_of_mem _ h)
  have hown : s.vm.findClass RX10 = some m.cls := findClass_of_methodNamed B.named
  have hlocks := B.notSynchronized
  subst hsz
  have hD := hD0.self (sz := s.heap.size)
  generalize hAe : va_A (ww_X10_kindOf cB cC cI cJ cZ cP w0 f_source f_kinds f_places f_values f_notes f_meanings f_names f_slots nm kn) s.heap.size = A at hD hE hX ⊢
  have hA : ∀ q : Nat, s.heap.size ≤ q → A q := fun q h => by rw [← hAe]; exact Or.inr h
  have hN := hE.1
  have hS : va_S A s.heap s.heap [] := va_S.rf
  have hP : va_P (dC, dI) vwCl [(w0, .inr (10, [.ref f_source, .int 0, .int 1, .ref f_kinds, .ref f_places, .ref f_values, .ref f_notes, .ref f_meanings, .ref f_names, .ref f_slots, .int nm, .int 0])), (f_kinds, .inl (cI, 16001, .inl kn))] s.heap := hP
  have hl := lv_entry ([.ref w0, .int 0]) (n := 2) (Nat.le_of_ble_eq_true rfl)
  rw [lg_entry_eq]
  generalize (lg_sl ([.ref w0, .int 0]) ++ List.replicate (2 - (lg_sl ([.ref w0, .int 0])).length) Slot.unset).toArray = ls at hl ⊢
  have hl : lv_has ls 2 [(0, .ref w0), (1, .int 0)] := hl
  refine lv_iload_n hx hb dX10_kindOf_0 rfl (lv_at hl 1 rfl) ?_
  refine lv_if_lt (tgt := 30) hx hb dX10_kindOf_1 (by decide) (fun c_1 => absurd c_1 (by decide +kernel)) (fun c_1 => ?_)
  refine lv_iload_n hx hb dX10_kindOf_4 rfl (lv_at hl 1 rfl) ?_
  refine lv_aload_n hx hb dX10_kindOf_5 rfl (lv_at hl 0 rfl) ?_
  refine va_get (D := (dC, dI)) (ci := 10) (v := .int 1) (C := RX10) (T := TX10) (N := 12) hx hb hts ii_X10 hown hK hP 0 rfl rfl 2 (by decide) (hts (.fieldLink RX10 57 "StoryHouse$Words" "count" "I") wq_46) (fun _ h9 => h9) rfl dX10_kindOf_6 ?_
  refine lv_icmp_ge (tgt := 30) hx hb dX10_kindOf_9 (by decide) (fun c_2 => absurd c_2 (by decide +kernel)) (fun c_2 => ?_)
  refine lv_iload_n hx hb dX10_kindOf_12 rfl (lv_at hl 1 rfl) ?_
  refine lv_aload_n hx hb dX10_kindOf_13 rfl (lv_at hl 0 rfl) ?_
  refine va_get (D := (dC, dI)) (ci := 10) (v := .ref f_kinds) (C := RX10) (T := TX10) (N := 12) hx hb hts ii_X10 hown hK hP 0 rfl rfl 3 (by decide) (hts (.fieldLink RX10 15 "StoryHouse$Words" "kinds" "[I") wq_49) (fun _ h9 => h9) rfl dX10_kindOf_14 ?_
  refine va_alen (v := 16001) hx hb hK hP 1 2 rfl rfl (by first | rfl | decide +kernel) dX10_kindOf_17 ?_
  refine lv_icmp_ge (tgt := 30) hx hb dX10_kindOf_18 (by decide) (fun c_3 => absurd c_3 (by decide +kernel)) (fun c_3 => ?_)
  refine lv_aload_n hx hb dX10_kindOf_21 rfl (lv_at hl 0 rfl) ?_
  refine va_get (D := (dC, dI)) (ci := 10) (v := .ref f_kinds) (C := RX10) (T := TX10) (N := 12) hx hb hts ii_X10 hown hK hP 0 rfl rfl 3 (by decide) (hts (.fieldLink RX10 15 "StoryHouse$Words" "kinds" "[I") wq_49) (fun _ h9 => h9) rfl dX10_kindOf_22 ?_
  refine lv_iload_n hx hb dX10_kindOf_25 rfl (lv_at hl 1 rfl) ?_
  refine va_iald hx hb hK hP 1 2 rfl rfl (vp_in_iff.mpr (by decide +kernel)) dX10_kindOf_26 ?_
  refine lv_topi (fun x_4 ex_4 => ?_)
  refine lv_goto (tgt := 31) hx hb dX10_kindOf_27 (by decide) ?_
  have hP9 := hP.sub (ws' := [(w0, .inr (10, [.ref f_source, .int 0, .int 1, .ref f_kinds, .ref f_places, .ref f_values, .ref f_notes, .ref f_meanings, .ref f_names, .ref f_slots, .int nm, .int 0])), (f_kinds, .inl (cI, 16001, .inl kn))]) [0, 1] rfl
  have hD9 := hD.sub (ws' := [(w0, .inr (10, [.ref f_source, .int 0, .int 1, .ref f_kinds, .ref f_places, .ref f_values, .ref f_notes, .ref f_meanings, .ref f_names, .ref f_slots, .int nm, .int 0])), (f_kinds, .inl (cI, 16001, .inl kn))]) [0, 1] (by decide +kernel) rfl
  refine W.widen (k := 0) (n := 0) (Nat.le_of_ble_eq_true rfl) (Nat.le_of_ble_eq_true rfl) ?_
  exact W.iret (v := x_4) hx hb hr (fun t ht hW => ⟨⟨x_4, (), rfl, ((by rw [ex_4]; exact hk)), by rw [ht]; exact hP9, hD9⟩, hS.F ht⟩) hS.2.2 dX10_kindOf_31

abbrev ww_X10_worthOf (cB cC cI cJ cZ cP : ClassId) (w0 : Nat) (f_source : Nat) (f_kinds : Nat) (f_places : Nat) (f_values : Nat) (f_notes : Nat) (f_meanings : Nat) (f_names : Nat) (f_slots : Nat) (nm : Int32) : va_W := [(w0, .inr (10, [.ref f_source, .int 0, .int 1, .ref f_kinds, .ref f_places, .ref f_values, .ref f_notes, .ref f_meanings, .ref f_names, .ref f_slots, .int nm, .int 0]))]
abbrev q_X10_worthOf (dC : Nat → ClassId) (dI : Nat → Nat → Nat) (cB cC cI cJ cZ cP : ClassId) (w0 : Nat) (f_source : Nat) (f_kinds : Nat) (f_places : Nat) (f_values : Nat) (f_notes : Nat) (f_meanings : Nat) (f_names : Nat) (f_slots : Nat) (nm : Int32) (A : Nat → Prop) : Array Value → State → Outcome → State → Prop := va_Qi (fun (r : Int32) (_ : Unit) => r = 0) (g_Bo (dC, dI) A (fun (_ : Unit) => [(w0, .inr (10, [.ref f_source, .int 0, .int 1, .ref f_kinds, .ref f_places, .ref f_values, .ref f_notes, .ref f_meanings, .ref f_names, .ref f_slots, .int nm, .int 0]))])) A
set_option maxHeartbeats 4000000 in
set_option maxRecDepth 100000 in
theorem c_X10_worthOf (l : Launch) (dC : Nat → ClassId) (dI : Nat → Nat → Nat) (cB cC cI cJ cZ cP : ClassId) (sz : Nat) (w0 : Nat) (f_source : Nat) (f_kinds : Nat) (f_places : Nat) (f_values : Nat) (f_notes : Nat) (f_meanings : Nat) (f_names : Nat) (f_slots : Nat) (nm : Int32)  : Met l yX10_worthOf (g_ws yX10_worthOf cX10_worthOf 2 (some .int)) ({ frames := 1, cells := 0, slots := 0, locals := 40 }) (va_Pc [.ref w0, .int 1] (g_B (dC, dI) [(cB, .byte), (cC, .char), (cI, .int), (cJ, .long), (cZ, .boolean), (cP, .object "StoryHouse$Play")] sz (ww_X10_worthOf cB cC cI cJ cZ cP w0 f_source f_kinds f_places f_values f_notes f_meanings f_names f_slots nm) g_0)) (q_X10_worthOf dC dI cB cC cI cJ cZ cP w0 f_source f_kinds f_places f_values f_notes f_meanings f_names f_slots nm (va_A (ww_X10_worthOf cB cC cI cJ cZ cP w0 f_source f_kinds f_places f_values f_notes f_meanings f_names f_slots nm) sz)) 0 0 (va_A (ww_X10_worthOf cB cC cI cJ cZ cP w0 f_source f_kinds f_places f_values f_notes f_meanings f_names f_slots nm) sz) := by
  refine Met.ofW (cc := cX10_worthOf) (maxL := 2) (ret := (some .int)) (by decide) rfl ?_
  intro p e s m args below meth c s₁ B hml hv
  obtain ⟨rfl, hsz, hP, hK, hD0, hE, hX⟩ := hv
  have hx := B.exec
  have hb := B.bytes
  have hr := B.returns
  have hts0 := atoms_spec (ws := (g_ws yX10_worthOf cX10_worthOf 2 (some .int))) B.pre
  have hts : ∀ w ∈ lw_good, w.before ([.ref w0, .int 1] : List Value).toArray s = true := fun w h => hts0 w (List.mem_cons_of_mem _ h)
  have hown : s.vm.findClass RX10 = some m.cls := findClass_of_methodNamed B.named
  have hlocks := B.notSynchronized
  subst hsz
  have hD := hD0.self (sz := s.heap.size)
  generalize hAe : va_A (ww_X10_worthOf cB cC cI cJ cZ cP w0 f_source f_kinds f_places f_values f_notes f_meanings f_names f_slots nm) s.heap.size = A at hD hE hX ⊢
  have hA : ∀ q : Nat, s.heap.size ≤ q → A q := fun q h => by rw [← hAe]; exact Or.inr h
  have hN := hE.1
  have hS : va_S A s.heap s.heap [] := va_S.rf
  have hP : va_P (dC, dI) vwCl [(w0, .inr (10, [.ref f_source, .int 0, .int 1, .ref f_kinds, .ref f_places, .ref f_values, .ref f_notes, .ref f_meanings, .ref f_names, .ref f_slots, .int nm, .int 0]))] s.heap := hP
  have hl := lv_entry ([.ref w0, .int 1]) (n := 2) (Nat.le_of_ble_eq_true rfl)
  rw [lg_entry_eq]
  generalize (lg_sl ([.ref w0, .int 1]) ++ List.replicate (2 - (lg_sl ([.ref w0, .int 1])).length) Slot.unset).toArray = ls at hl ⊢
  have hl : lv_has ls 2 [(0, .ref w0), (1, .int 1)] := hl
  refine lv_iload_n hx hb dX10_worthOf_0 rfl (lv_at hl 1 rfl) ?_
  refine lv_if_lt (tgt := 23) hx hb dX10_worthOf_1 (by decide) (fun c_1 => absurd c_1 (by decide +kernel)) (fun c_1 => ?_)
  refine lv_iload_n hx hb dX10_worthOf_4 rfl (lv_at hl 1 rfl) ?_
  refine lv_aload_n hx hb dX10_worthOf_5 rfl (lv_at hl 0 rfl) ?_
  refine va_get (D := (dC, dI)) (ci := 10) (v := .int 1) (C := RX10) (T := TX10) (N := 12) hx hb hts ii_X10 hown hK hP 0 rfl rfl 2 (by decide) (hts (.fieldLink RX10 57 "StoryHouse$Words" "count" "I") wq_46) (fun _ h9 => h9) rfl dX10_worthOf_6 ?_
  refine lv_icmp_ge (tgt := 23) hx hb dX10_worthOf_9 (by decide) (fun c_2 => ?_) (fun c_2 => absurd (by decide +kernel) c_2)
  refine lv_iconst (v := 0) hx hb dX10_worthOf_23 (by decide +kernel) ?_
  have hP9 := hP.sub (ws' := [(w0, .inr (10, [.ref f_source, .int 0, .int 1, .ref f_kinds, .ref f_places, .ref f_values, .ref f_notes, .ref f_meanings, .ref f_names, .ref f_slots, .int nm, .int 0]))]) [0] rfl
  have hD9 := hD.sub (ws' := [(w0, .inr (10, [.ref f_source, .int 0, .int 1, .ref f_kinds, .ref f_places, .ref f_values, .ref f_notes, .ref f_meanings, .ref f_names, .ref f_slots, .int nm, .int 0]))]) [0] (by decide +kernel) rfl
  refine W.widen (k := 0) (n := 0) (Nat.le_of_ble_eq_true rfl) (Nat.le_of_ble_eq_true rfl) ?_
  exact W.iret (v := 0) hx hb hr (fun t ht hW => ⟨⟨0, (), rfl, (by first | trivial | rfl | assumption), by rw [ht]; exact hP9, hD9⟩, hS.F ht⟩) hS.2.2 dX10_worthOf_24

abbrev ww_X10_placeOf (cB cC cI cJ cZ cP : ClassId) (w0 : Nat) (f_source : Nat) (f_kinds : Nat) (f_places : Nat) (f_values : Nat) (f_notes : Nat) (f_meanings : Nat) (f_names : Nat) (f_slots : Nat) (nm : Int32) (pn : Nat → Int32) : va_W := [(w0, .inr (10, [.ref f_source, .int 0, .int 1, .ref f_kinds, .ref f_places, .ref f_values, .ref f_notes, .ref f_meanings, .ref f_names, .ref f_slots, .int nm, .int 0])), (f_places, .inl (cI, 16001, .inl pn))]
abbrev q_X10_placeOf (dC : Nat → ClassId) (dI : Nat → Nat → Nat) (cB cC cI cJ cZ cP : ClassId) (w0 : Nat) (f_source : Nat) (f_kinds : Nat) (f_places : Nat) (f_values : Nat) (f_notes : Nat) (f_meanings : Nat) (f_names : Nat) (f_slots : Nat) (nm : Int32) (pn : Nat → Int32) (A : Nat → Prop) : Array Value → State → Outcome → State → Prop := va_Qi (fun (r : Int32) (_ : Unit) => True) (g_Bo (dC, dI) A (fun (_ : Unit) => [(w0, .inr (10, [.ref f_source, .int 0, .int 1, .ref f_kinds, .ref f_places, .ref f_values, .ref f_notes, .ref f_meanings, .ref f_names, .ref f_slots, .int nm, .int 0])), (f_places, .inl (cI, 16001, .inl pn))])) A
set_option maxHeartbeats 4000000 in
set_option maxRecDepth 100000 in
theorem c_X10_placeOf (l : Launch) (dC : Nat → ClassId) (dI : Nat → Nat → Nat) (cB cC cI cJ cZ cP : ClassId) (sz : Nat) (w0 : Nat) (f_source : Nat) (f_kinds : Nat) (f_places : Nat) (f_values : Nat) (f_notes : Nat) (f_meanings : Nat) (f_names : Nat) (f_slots : Nat) (nm : Int32) (pn : Nat → Int32)  : Met l yX10_placeOf (g_ws yX10_placeOf cX10_placeOf 2 (some .int)) ({ frames := 2, cells := 0, slots := 0, locals := 61 }) (va_Pc [.ref w0, .int 0] (g_B (dC, dI) [(cB, .byte), (cC, .char), (cI, .int), (cJ, .long), (cZ, .boolean), (cP, .object "StoryHouse$Play")] sz (ww_X10_placeOf cB cC cI cJ cZ cP w0 f_source f_kinds f_places f_values f_notes f_meanings f_names f_slots nm pn) g_0)) (q_X10_placeOf dC dI cB cC cI cJ cZ cP w0 f_source f_kinds f_places f_values f_notes f_meanings f_names f_slots nm pn (va_A (ww_X10_placeOf cB cC cI cJ cZ cP w0 f_source f_kinds f_places f_values f_notes f_meanings f_names f_slots nm pn) sz)) 0 0 (va_A (ww_X10_placeOf cB cC cI cJ cZ cP w0 f_source f_kinds f_places f_values f_notes f_meanings f_names f_slots nm pn) sz) := by
  refine Met.ofW (cc := cX10_placeOf) (maxL := 2) (ret := (some .int)) (by decide) rfl ?_
  intro p e s m args below meth c s₁ B hml hv
  obtain ⟨rfl, hsz, hP, hK, hD0, hE, hX⟩ := hv
  have hx := B.exec
  have hb := B.bytes
  have hr := B.returns
  have hts0 := atoms_spec (ws := (g_ws yX10_placeOf cX10_placeOf 2 (some .int))) B.pre
  have hts : ∀ w ∈ lw_good, w.before ([.ref w0, .int 0] : List Value).toArray s = true := fun w h => hts0 w (List.mem_cons_of_mem _ h)
  have hown : s.vm.findClass RX10 = some m.cls := findClass_of_methodNamed B.named
  have hlocks := B.notSynchronized
  subst hsz
  have hD := hD0.self (sz := s.heap.size)
  generalize hAe : va_A (ww_X10_placeOf cB cC cI cJ cZ cP w0 f_source f_kinds f_places f_values f_notes f_meanings f_names f_slots nm pn) s.heap.size = A at hD hE hX ⊢
  have hA : ∀ q : Nat, s.heap.size ≤ q → A q := fun q h => by rw [← hAe]; exact Or.inr h
  have hN := hE.1
  have hS : va_S A s.heap s.heap [] := va_S.rf
  have hP : va_P (dC, dI) vwCl [(w0, .inr (10, [.ref f_source, .int 0, .int 1, .ref f_kinds, .ref f_places, .ref f_values, .ref f_notes, .ref f_meanings, .ref f_names, .ref f_slots, .int nm, .int 0])), (f_places, .inl (cI, 16001, .inl pn))] s.heap := hP
  have hl := lv_entry ([.ref w0, .int 0]) (n := 2) (Nat.le_of_ble_eq_true rfl)
  rw [lg_entry_eq]
  generalize (lg_sl ([.ref w0, .int 0]) ++ List.replicate (2 - (lg_sl ([.ref w0, .int 0])).length) Slot.unset).toArray = ls at hl ⊢
  have hl : lv_has ls 2 [(0, .ref w0), (1, .int 0)] := hl
  refine lv_iload_n hx hb dX10_placeOf_0 rfl (lv_at hl 1 rfl) ?_
  refine lv_if_lt (tgt := 23) hx hb dX10_placeOf_1 (by decide) (fun c_1 => absurd c_1 (by decide +kernel)) (fun c_1 => ?_)
  refine lv_iload_n hx hb dX10_placeOf_4 rfl (lv_at hl 1 rfl) ?_
  refine lv_aload_n hx hb dX10_placeOf_5 rfl (lv_at hl 0 rfl) ?_
  refine va_get (D := (dC, dI)) (ci := 10) (v := .int 1) (C := RX10) (T := TX10) (N := 12) hx hb hts ii_X10 hown hK hP 0 rfl rfl 2 (by decide) (hts (.fieldLink RX10 57 "StoryHouse$Words" "count" "I") wq_46) (fun _ h9 => h9) rfl dX10_placeOf_6 ?_
  refine lv_icmp_ge (tgt := 23) hx hb dX10_placeOf_9 (by decide) (fun c_2 => absurd c_2 (by decide +kernel)) (fun c_2 => ?_)
  refine lv_aload_n hx hb dX10_placeOf_12 rfl (lv_at hl 0 rfl) ?_
  refine va_get (D := (dC, dI)) (ci := 10) (v := .ref f_places) (C := RX10) (T := TX10) (N := 12) hx hb hts ii_X10 hown hK hP 0 rfl rfl 4 (by decide) (hts (.fieldLink RX10 19 "StoryHouse$Words" "places" "[I") wq_50) (fun _ h9 => h9) rfl dX10_placeOf_13 ?_
  refine lv_iload_n hx hb dX10_placeOf_16 rfl (lv_at hl 1 rfl) ?_
  have hPc := hP.sub (ws' := [(f_places, .inl (cI, 16001, .inl pn))]) [1] rfl
  have hDc := hD.sub (ws' := [(f_places, .inl (cI, 16001, .inl pn))]) [1] (by decide +kernel) rfl
  have hFc := va_free (wc := [(f_places, .inl (cI, 16001, .inl pn))]) hD hS hA [1] rfl
  refine g_ofi (wc := [(f_places, .inl (cI, 16001, .inl pn))]) (wr := [(w0, .inr (10, [.ref f_source, .int 0, .int 1, .ref f_kinds, .ref f_places, .ref f_values, .ref f_notes, .ref f_meanings, .ref f_names, .ref f_slots, .int nm, .int 0]))]) hP hD hS hFc [1] [0] rfl rfl (by decide +kernel) (by decide +kernel) (va_runSN (As := [.ref f_places, .int 0]) (rest := []) ⟨hx, hb, hml, hown, hts⟩ (c_X11_at l dC dI cB cC cI cJ cZ cP s.heap.size f_places 0 16001 pn (by decide)) ⟨va_cnB 2 hts (g_gA wq_407) rfl rfl rfl (hN.at 9 rfl) (hts (.initialized RX11) wq_1) (by decide +kernel) ⟨Nat.le_of_ble_eq_true rfl, Nat.le_of_ble_eq_true rfl⟩, (hts (.static yX11_at) wq_406), trivial⟩ (g_preS g_bl0 hK hPc hDc hS hE hFc g_to0) rfl rfl hl.1 rfl (lv_room (Nat.le_of_ble_eq_true rfl)) dX10_placeOf_17 ⟨Nat.le_of_ble_eq_true rfl, Nat.le_of_ble_eq_true rfl⟩) (fun r_5 u_4 H_6 locs w_3 hP' hD' hS' => ?_)
  clear hPc hDc hFc
  have w_3 : r_5 = g_at 16001 pn 0 := w_3
  replace hP : va_P (dC, dI) vwCl [(w0, .inr (10, [.ref f_source, .int 0, .int 1, .ref f_kinds, .ref f_places, .ref f_values, .ref f_notes, .ref f_meanings, .ref f_names, .ref f_slots, .int nm, .int 0])), (f_places, .inl (cI, 16001, .inl pn))] H_6 := hP'
  replace hD : va_D A [(w0, .inr (10, [.ref f_source, .int 0, .int 1, .ref f_kinds, .ref f_places, .ref f_values, .ref f_notes, .ref f_meanings, .ref f_names, .ref f_slots, .int nm, .int 0])), (f_places, .inl (cI, 16001, .inl pn))] := hD'
  replace hS := hS'
  clear hP' hD' hS'
  obtain rfl : (g_at 16001 pn 0) = r_5 := (w_3).symm
  refine lv_goto (tgt := 27) hx hb dX10_placeOf_20 (by decide) ?_
  have hP9 := hP.sub (ws' := [(w0, .inr (10, [.ref f_source, .int 0, .int 1, .ref f_kinds, .ref f_places, .ref f_values, .ref f_notes, .ref f_meanings, .ref f_names, .ref f_slots, .int nm, .int 0])), (f_places, .inl (cI, 16001, .inl pn))]) [0, 1] rfl
  have hD9 := hD.sub (ws' := [(w0, .inr (10, [.ref f_source, .int 0, .int 1, .ref f_kinds, .ref f_places, .ref f_values, .ref f_notes, .ref f_meanings, .ref f_names, .ref f_slots, .int nm, .int 0])), (f_places, .inl (cI, 16001, .inl pn))]) [0, 1] (by decide +kernel) rfl
  refine W.widen (k := 0) (n := 0) (Nat.le_of_ble_eq_true rfl) (Nat.le_of_ble_eq_true rfl) ?_
  exact W.iret (v := (g_at 16001 pn 0)) hx hb hr (fun t ht hW => ⟨⟨(g_at 16001 pn 0), (), rfl, (by first | trivial | rfl | assumption), by rw [ht]; exact hP9, hD9⟩, hS.F ht⟩) hS.2.2 dX10_placeOf_27

abbrev ww_X2_readAll (cB cC cI cJ cZ cP : ClassId) (g0 : Nat) (w0 : Nat) (f_source : Nat) (f_kinds : Nat) (f_places : Nat) (f_values : Nat) (f_notes : Nat) (f_meanings : Nat) (f_names : Nat) (f_slots : Nat) (nm : Int32) (c0 : Nat) (kn : Nat → Int32) : va_W := [(g0, .inr (2, [.ref w0, .null, .int 0, .int 0, .int 0, .int 0, .int 0, .int 0])), (w0, .inr (10, [.ref f_source, .int 0, .int 1, .ref f_kinds, .ref f_places, .ref f_values, .ref f_notes, .ref f_meanings, .ref f_names, .ref f_slots, .int nm, .int 0])), (f_kinds, .inl (cI, 16001, .inl kn))]
abbrev q_X2_readAll (dC : Nat → ClassId) (dI : Nat → Nat → Nat) (cB cC cI cJ cZ cP : ClassId) (g0 : Nat) (w0 : Nat) (f_source : Nat) (f_kinds : Nat) (f_places : Nat) (f_values : Nat) (f_notes : Nat) (f_meanings : Nat) (f_names : Nat) (f_slots : Nat) (nm : Int32) (c0 : Nat) (kn : Nat → Int32) (A : Nat → Prop) : Array Value → State → Outcome → State → Prop := va_Qi (fun (r : Int32) (_ : Unit) => r = 0) (g_Bo (dC, dI) A (fun (_ : Unit) => [(g0, .inr (2, [.ref w0, .ref c0, .int 0, .int 0, .int 0, .int 0, .int 0, .int (-1)])), (w0, .inr (10, [.ref f_source, .int 0, .int 1, .ref f_kinds, .ref f_places, .ref f_values, .ref f_notes, .ref f_meanings, .ref f_names, .ref f_slots, .int nm, .int 0])), (f_kinds, .inl (cI, 16001, .inl kn))])) A
set_option maxHeartbeats 4000000 in
set_option maxRecDepth 100000 in
theorem c_X2_readAll (l : Launch) (dC : Nat → ClassId) (dI : Nat → Nat → Nat) (cB cC cI cJ cZ cP : ClassId) (sz : Nat) (g0 : Nat) (w0 : Nat) (f_source : Nat) (f_kinds : Nat) (f_places : Nat) (f_values : Nat) (f_notes : Nat) (f_meanings : Nat) (f_names : Nat) (f_slots : Nat) (nm : Int32) (c0 : Nat) (kn : Nat → Int32) (hk : kn 0 = 0) : Met l yX2_readAll (g_ws yX2_readAll cX2_readAll 3 (some .int)) ({ frames := 2, cells := 0, slots := 0, locals := 61 }) (va_Pc [.ref g0, .ref c0] (g_B (dC, dI) [(cB, .byte), (cC, .char), (cI, .int), (cJ, .long), (cZ, .boolean), (cP, .object "StoryHouse$Play")] sz (ww_X2_readAll cB cC cI cJ cZ cP g0 w0 f_source f_kinds f_places f_values f_notes f_meanings f_names f_slots nm c0 kn) g_0)) (q_X2_readAll dC dI cB cC cI cJ cZ cP g0 w0 f_source f_kinds f_places f_values f_notes f_meanings f_names f_slots nm c0 kn (va_A (ww_X2_readAll cB cC cI cJ cZ cP g0 w0 f_source f_kinds f_places f_values f_notes f_meanings f_names f_slots nm c0 kn) sz)) 0 0 (va_A (ww_X2_readAll cB cC cI cJ cZ cP g0 w0 f_source f_kinds f_places f_values f_notes f_meanings f_names f_slots nm c0 kn) sz) := by
  refine Met.ofW (cc := cX2_readAll) (maxL := 3) (ret := (some .int)) (by decide) rfl ?_
  intro p e s m args below meth c s₁ B hml hv
  obtain ⟨rfl, hsz, hP, hK, hD0, hE, hX⟩ := hv
  have hx := B.exec
  have hb := B.bytes
  have hr := B.returns
  have hts0 := atoms_spec (ws := (g_ws yX2_readAll cX2_readAll 3 (some .int))) B.pre
  have hts : ∀ w ∈ lw_good, w.before ([.ref g0, .ref c0] : List Value).toArray s = true := fun w h => hts0 w (List.mem_cons_of_mem _ h)
  have hown : s.vm.findClass RX2 = some m.cls := findClass_of_methodNamed B.named
  have hlocks := B.notSynchronized
  subst hsz
  have hD := hD0.self (sz := s.heap.size)
  generalize hAe : va_A (ww_X2_readAll cB cC cI cJ cZ cP g0 w0 f_source f_kinds f_places f_values f_notes f_meanings f_names f_slots nm c0 kn) s.heap.size = A at hD hE hX ⊢
  have hA : ∀ q : Nat, s.heap.size ≤ q → A q := fun q h => by rw [← hAe]; exact Or.inr h
  have hN := hE.1
  have hS : va_S A s.heap s.heap [] := va_S.rf
  have hP : va_P (dC, dI) vwCl [(g0, .inr (2, [.ref w0, .null, .int 0, .int 0, .int 0, .int 0, .int 0, .int 0])), (w0, .inr (10, [.ref f_source, .int 0, .int 1, .ref f_kinds, .ref f_places, .ref f_values, .ref f_notes, .ref f_meanings, .ref f_names, .ref f_slots, .int nm, .int 0])), (f_kinds, .inl (cI, 16001, .inl kn))] s.heap := hP
  have hl := lv_entry ([.ref g0, .ref c0]) (n := 3) (Nat.le_of_ble_eq_true rfl)
  rw [lg_entry_eq]
  generalize (lg_sl ([.ref g0, .ref c0]) ++ List.replicate (3 - (lg_sl ([.ref g0, .ref c0])).length) Slot.unset).toArray = ls at hl ⊢
  have hl : lv_has ls 3 [(0, .ref g0), (1, .ref c0)] := hl
  refine lv_aload_n hx hb dX2_readAll_0 rfl (lv_at hl 0 rfl) ?_
  refine lv_aload_n hx hb dX2_readAll_1 rfl (lv_at hl 1 rfl) ?_
  refine va_put (D := (dC, dI)) (ci := 2) (v := .ref c0) (ty := .object "StoryHouse$Code") (C := RX2) (T := TX2) (N := 8) hx hb hts ii_X2 tyX2 tyX2_ok nmX2 hown hK hP hD hS 0 rfl rfl 1 (by decide) (hts (.fieldLink RX2 15 "StoryHouse$Grammar" "code" "LStoryHouse$Code;") wq_72) (fun _ h9 => h9) rfl (by decide +kernel) rfl rfl (Nat.le_of_ble_eq_true rfl) dX2_readAll_2 (fun H_1 locs hP' hD' hS' => ?_)
  replace hP : va_P (dC, dI) vwCl [(g0, .inr (2, [.ref w0, .ref c0, .int 0, .int 0, .int 0, .int 0, .int 0, .int 0])), (w0, .inr (10, [.ref f_source, .int 0, .int 1, .ref f_kinds, .ref f_places, .ref f_values, .ref f_notes, .ref f_meanings, .ref f_names, .ref f_slots, .int nm, .int 0])), (f_kinds, .inl (cI, 16001, .inl kn))] H_1 := hP'
  replace hD : va_D A [(g0, .inr (2, [.ref w0, .ref c0, .int 0, .int 0, .int 0, .int 0, .int 0, .int 0])), (w0, .inr (10, [.ref f_source, .int 0, .int 1, .ref f_kinds, .ref f_places, .ref f_values, .ref f_notes, .ref f_meanings, .ref f_names, .ref f_slots, .int nm, .int 0])), (f_kinds, .inl (cI, 16001, .inl kn))] := hD'
  replace hS := hS'
  clear hP' hD' hS'
  refine lv_aload_n hx hb dX2_readAll_5 rfl (lv_at hl 0 rfl) ?_
  refine lv_iconst (v := 0) hx hb dX2_readAll_6 (by decide +kernel) ?_
  refine va_put (D := (dC, dI)) (ci := 2) (v := .int 0) (ty := .int) (C := RX2) (T := TX2) (N := 8) hx hb hts ii_X2 tyX2 tyX2_ok nmX2 hown hK hP hD hS 0 rfl rfl 2 (by decide) (hts (.fieldLink RX2 19 "StoryHouse$Grammar" "at" "I") wq_73) (fun _ h9 => h9) rfl (by decide +kernel) rfl rfl (Nat.le_of_ble_eq_true rfl) dX2_readAll_7 (fun H_2 locs hP' hD' hS' => ?_)
  replace hP : va_P (dC, dI) vwCl [(g0, .inr (2, [.ref w0, .ref c0, .int 0, .int 0, .int 0, .int 0, .int 0, .int 0])), (w0, .inr (10, [.ref f_source, .int 0, .int 1, .ref f_kinds, .ref f_places, .ref f_values, .ref f_notes, .ref f_meanings, .ref f_names, .ref f_slots, .int nm, .int 0])), (f_kinds, .inl (cI, 16001, .inl kn))] H_2 := hP'
  replace hD : va_D A [(g0, .inr (2, [.ref w0, .ref c0, .int 0, .int 0, .int 0, .int 0, .int 0, .int 0])), (w0, .inr (10, [.ref f_source, .int 0, .int 1, .ref f_kinds, .ref f_places, .ref f_values, .ref f_notes, .ref f_meanings, .ref f_names, .ref f_slots, .int nm, .int 0])), (f_kinds, .inl (cI, 16001, .inl kn))] := hD'
  replace hS := hS'
  clear hP' hD' hS'
  refine lv_aload_n hx hb dX2_readAll_10 rfl (lv_at hl 0 rfl) ?_
  refine lv_aload_n hx hb dX2_readAll_11 rfl (lv_at hl 0 rfl) ?_
  refine va_get (D := (dC, dI)) (ci := 2) (v := .ref w0) (C := RX2) (T := TX2) (N := 8) hx hb hts ii_X2 hown hK hP 0 rfl rfl 0 (by decide) (hts (.fieldLink RX2 9 "StoryHouse$Grammar" "words" "LStoryHouse$Words;") wq_71) (fun _ h9 => h9) rfl dX2_readAll_12 ?_
  refine lv_iconst (v := 0) hx hb dX2_readAll_15 (by decide +kernel) ?_
  have hPc := hP.sub (ws' := [(w0, .inr (10, [.ref f_source, .int 0, .int 1, .ref f_kinds, .ref f_places, .ref f_values, .ref f_notes, .ref f_meanings, .ref f_names, .ref f_slots, .int nm, .int 0])), (f_kinds, .inl (cI, 16001, .inl kn))]) [1, 2] rfl
  have hDc := hD.sub (ws' := [(w0, .inr (10, [.ref f_source, .int 0, .int 1, .ref f_kinds, .ref f_places, .ref f_values, .ref f_notes, .ref f_meanings, .ref f_names, .ref f_slots, .int nm, .int 0])), (f_kinds, .inl (cI, 16001, .inl kn))]) [1, 2] (by decide +kernel) rfl
  have hFc := va_free (wc := [(w0, .inr (10, [.ref f_source, .int 0, .int 1, .ref f_kinds, .ref f_places, .ref f_values, .ref f_notes, .ref f_meanings, .ref f_names, .ref f_slots, .int nm, .int 0])), (f_kinds, .inl (cI, 16001, .inl kn))]) hD hS hA [1, 2] rfl
  refine g_ofi (wc := [(w0, .inr (10, [.ref f_source, .int 0, .int 1, .ref f_kinds, .ref f_places, .ref f_values, .ref f_notes, .ref f_meanings, .ref f_names, .ref f_slots, .int nm, .int 0])), (f_kinds, .inl (cI, 16001, .inl kn))]) (wr := [(g0, .inr (2, [.ref w0, .ref c0, .int 0, .int 0, .int 0, .int 0, .int 0, .int 0]))]) hP hD hS hFc [1, 2] [0] rfl rfl (by decide +kernel) (by decide +kernel) (va_runV (As := [.int 0]) (rest := [.ref g0]) ⟨hx, hb, hml, hown, hts⟩ (c_X10_kindOf l dC dI cB cC cI cJ cZ cP H_2.size w0 f_source f_kinds f_places f_values f_notes f_meanings f_names f_slots nm kn (hk)) (cwV 1 hts (g_gV wq_542 wq_543 wq_544 wq_2 wq_545) rfl rfl rfl (by decide +kernel) ⟨Nat.le_of_ble_eq_true rfl, Nat.le_of_ble_eq_true rfl⟩) (g_preV g_bl0 hK hPc hDc hS hE hFc g_to0 (q0 := 0) (ci := 10) rfl rfl) rfl rfl hl.1 rfl (lv_room (Nat.le_of_ble_eq_true rfl)) dX2_readAll_16 ⟨Nat.le_of_ble_eq_true rfl, Nat.le_of_ble_eq_true rfl⟩) (fun r_5 u_4 H_6 locs w_3 hP' hD' hS' => ?_)
  clear hPc hDc hFc
  have w_3 : r_5 = 0 := w_3
  replace hP : va_P (dC, dI) vwCl [(g0, .inr (2, [.ref w0, .ref c0, .int 0, .int 0, .int 0, .int 0, .int 0, .int 0])), (w0, .inr (10, [.ref f_source, .int 0, .int 1, .ref f_kinds, .ref f_places, .ref f_values, .ref f_notes, .ref f_meanings, .ref f_names, .ref f_slots, .int nm, .int 0])), (f_kinds, .inl (cI, 16001, .inl kn))] H_6 := hP'
  replace hD : va_D A [(g0, .inr (2, [.ref w0, .ref c0, .int 0, .int 0, .int 0, .int 0, .int 0, .int 0])), (w0, .inr (10, [.ref f_source, .int 0, .int 1, .ref f_kinds, .ref f_places, .ref f_values, .ref f_notes, .ref f_meanings, .ref f_names, .ref f_slots, .int nm, .int 0])), (f_kinds, .inl (cI, 16001, .inl kn))] := hD'
  replace hS := hS'
  clear hP' hD' hS'
  obtain rfl : 0 = r_5 := (w_3).symm
  refine va_put (D := (dC, dI)) (ci := 2) (v := .int 0) (ty := .int) (C := RX2) (T := TX2) (N := 8) hx hb hts ii_X2 tyX2 tyX2_ok nmX2 hown hK hP hD hS 0 rfl rfl 3 (by decide) (hts (.fieldLink RX2 29 "StoryHouse$Grammar" "kind" "I") wq_74) (fun _ h9 => h9) rfl (by decide +kernel) rfl rfl (Nat.le_of_ble_eq_true rfl) dX2_readAll_19 (fun H_7 locs hP' hD' hS' => ?_)
  replace hP : va_P (dC, dI) vwCl [(g0, .inr (2, [.ref w0, .ref c0, .int 0, .int 0, .int 0, .int 0, .int 0, .int 0])), (w0, .inr (10, [.ref f_source, .int 0, .int 1, .ref f_kinds, .ref f_places, .ref f_values, .ref f_notes, .ref f_meanings, .ref f_names, .ref f_slots, .int nm, .int 0])), (f_kinds, .inl (cI, 16001, .inl kn))] H_7 := hP'
  replace hD : va_D A [(g0, .inr (2, [.ref w0, .ref c0, .int 0, .int 0, .int 0, .int 0, .int 0, .int 0])), (w0, .inr (10, [.ref f_source, .int 0, .int 1, .ref f_kinds, .ref f_places, .ref f_values, .ref f_notes, .ref f_meanings, .ref f_names, .ref f_slots, .int nm, .int 0])), (f_kinds, .inl (cI, 16001, .inl kn))] := hD'
  replace hS := hS'
  clear hP' hD' hS'
  refine lv_aload_n hx hb dX2_readAll_22 rfl (lv_at hl 0 rfl) ?_
  refine lv_iconst (v := 0) hx hb dX2_readAll_23 (by decide +kernel) ?_
  refine va_put (D := (dC, dI)) (ci := 2) (v := .int 0) (ty := .int) (C := RX2) (T := TX2) (N := 8) hx hb hts ii_X2 tyX2 tyX2_ok nmX2 hown hK hP hD hS 0 rfl rfl 4 (by decide) (hts (.fieldLink RX2 32 "StoryHouse$Grammar" "nest" "I") wq_75) (fun _ h9 => h9) rfl (by decide +kernel) rfl rfl (Nat.le_of_ble_eq_true rfl) dX2_readAll_24 (fun H_8 locs hP' hD' hS' => ?_)
  replace hP : va_P (dC, dI) vwCl [(g0, .inr (2, [.ref w0, .ref c0, .int 0, .int 0, .int 0, .int 0, .int 0, .int 0])), (w0, .inr (10, [.ref f_source, .int 0, .int 1, .ref f_kinds, .ref f_places, .ref f_values, .ref f_notes, .ref f_meanings, .ref f_names, .ref f_slots, .int nm, .int 0])), (f_kinds, .inl (cI, 16001, .inl kn))] H_8 := hP'
  replace hD : va_D A [(g0, .inr (2, [.ref w0, .ref c0, .int 0, .int 0, .int 0, .int 0, .int 0, .int 0])), (w0, .inr (10, [.ref f_source, .int 0, .int 1, .ref f_kinds, .ref f_places, .ref f_values, .ref f_notes, .ref f_meanings, .ref f_names, .ref f_slots, .int nm, .int 0])), (f_kinds, .inl (cI, 16001, .inl kn))] := hD'
  replace hS := hS'
  clear hP' hD' hS'
  refine lv_aload_n hx hb dX2_readAll_27 rfl (lv_at hl 0 rfl) ?_
  refine lv_iconst (v := 0) hx hb dX2_readAll_28 (by decide +kernel) ?_
  refine va_put (D := (dC, dI)) (ci := 2) (v := .int 0) (ty := .int) (C := RX2) (T := TX2) (N := 8) hx hb hts ii_X2 tyX2 tyX2_ok nmX2 hown hK hP hD hS 0 rfl rfl 5 (by decide) (hts (.fieldLink RX2 35 "StoryHouse$Grammar" "fault" "I") wq_76) (fun _ h9 => h9) rfl (by decide +kernel) rfl rfl (Nat.le_of_ble_eq_true rfl) dX2_readAll_29 (fun H_9 locs hP' hD' hS' => ?_)
  replace hP : va_P (dC, dI) vwCl [(g0, .inr (2, [.ref w0, .ref c0, .int 0, .int 0, .int 0, .int 0, .int 0, .int 0])), (w0, .inr (10, [.ref f_source, .int 0, .int 1, .ref f_kinds, .ref f_places, .ref f_values, .ref f_notes, .ref f_meanings, .ref f_names, .ref f_slots, .int nm, .int 0])), (f_kinds, .inl (cI, 16001, .inl kn))] H_9 := hP'
  replace hD : va_D A [(g0, .inr (2, [.ref w0, .ref c0, .int 0, .int 0, .int 0, .int 0, .int 0, .int 0])), (w0, .inr (10, [.ref f_source, .int 0, .int 1, .ref f_kinds, .ref f_places, .ref f_values, .ref f_notes, .ref f_meanings, .ref f_names, .ref f_slots, .int nm, .int 0])), (f_kinds, .inl (cI, 16001, .inl kn))] := hD'
  replace hS := hS'
  clear hP' hD' hS'
  refine lv_iconst (v := 0) hx hb dX2_readAll_32 (by decide +kernel) ?_
  refine lv_istore_n (lv' := [(2, .int 0), (0, .ref g0), (1, .ref c0)]) hx hb dX2_readAll_33 rfl hl (by decide) rfl (fun ls hl => ?_)
  refine lv_iload_n hx hb dX2_readAll_34 rfl (lv_at hl 0 rfl) ?_
  refine lv_aload_n hx hb dX2_readAll_35 rfl (lv_at hl 1 rfl) ?_
  refine va_get (D := (dC, dI)) (ci := 2) (v := .ref w0) (C := RX2) (T := TX2) (N := 8) hx hb hts ii_X2 hown hK hP 0 rfl rfl 0 (by decide) (hts (.fieldLink RX2 9 "StoryHouse$Grammar" "words" "LStoryHouse$Words;") wq_71) (fun _ h9 => h9) rfl dX2_readAll_36 ?_
  refine va_get (D := (dC, dI)) (ci := 10) (v := .int 1) (C := RX10) (T := TX10) (N := 12) hx hb hts ii_X10 hown hK hP 1 rfl rfl 2 (by decide) (hts (.fieldLink RX2 38 "StoryHouse$Words" "count" "I") wq_47) (fun _ h9 => h9) rfl dX2_readAll_39 ?_
  refine lv_icmp_ge (tgt := 62) hx hb dX2_readAll_42 (by decide) (fun c_10 => absurd c_10 (by decide +kernel)) (fun c_10 => ?_)
  refine lv_aload_n hx hb dX2_readAll_45 rfl (lv_at hl 1 rfl) ?_
  refine va_get (D := (dC, dI)) (ci := 2) (v := .int 0) (C := RX2) (T := TX2) (N := 8) hx hb hts ii_X2 hown hK hP 0 rfl rfl 3 (by decide) (hts (.fieldLink RX2 29 "StoryHouse$Grammar" "kind" "I") wq_74) (fun _ h9 => h9) rfl dX2_readAll_46 ?_
  refine lv_if_eq (tgt := 62) hx hb dX2_readAll_49 (by decide) (fun c_11 => ?_) (fun c_11 => absurd (by decide +kernel) c_11)
  refine lv_aload_n hx hb dX2_readAll_62 rfl (lv_at hl 1 rfl) ?_
  refine va_get (D := (dC, dI)) (ci := 2) (v := .int 0) (C := RX2) (T := TX2) (N := 8) hx hb hts ii_X2 hown hK hP 0 rfl rfl 5 (by decide) (hts (.fieldLink RX2 35 "StoryHouse$Grammar" "fault" "I") wq_76) (fun _ h9 => h9) rfl dX2_readAll_63 ?_
  refine lv_if_eq (tgt := 89) hx hb dX2_readAll_66 (by decide) (fun c_12 => ?_) (fun c_12 => absurd (by decide +kernel) c_12)
  refine lv_aload_n hx hb dX2_readAll_89 rfl (lv_at hl 1 rfl) ?_
  refine lv_aload_n hx hb dX2_readAll_90 rfl (lv_at hl 1 rfl) ?_
  refine va_get (D := (dC, dI)) (ci := 2) (v := .int 0) (C := RX2) (T := TX2) (N := 8) hx hb hts ii_X2 hown hK hP 0 rfl rfl 5 (by decide) (hts (.fieldLink RX2 35 "StoryHouse$Grammar" "fault" "I") wq_76) (fun _ h9 => h9) rfl dX2_readAll_91 ?_
  refine lv_if_eq (tgt := 111) hx hb dX2_readAll_94 (by decide) (fun c_13 => ?_) (fun c_13 => absurd (by decide +kernel) c_13)
  refine lv_iconst (v := (-1)) hx hb dX2_readAll_111 (by decide +kernel) ?_
  refine va_put (D := (dC, dI)) (ci := 2) (v := .int (-1)) (ty := .int) (C := RX2) (T := TX2) (N := 8) hx hb hts ii_X2 tyX2 tyX2_ok nmX2 hown hK hP hD hS 0 rfl rfl 7 (by decide) (hts (.fieldLink RX2 50 "StoryHouse$Grammar" "faultPlace" "I") wq_78) (fun _ h9 => h9) rfl (by decide +kernel) rfl rfl (Nat.le_of_ble_eq_true rfl) dX2_readAll_112 (fun H_14 locs hP' hD' hS' => ?_)
  replace hP : va_P (dC, dI) vwCl [(g0, .inr (2, [.ref w0, .ref c0, .int 0, .int 0, .int 0, .int 0, .int 0, .int (-1)])), (w0, .inr (10, [.ref f_source, .int 0, .int 1, .ref f_kinds, .ref f_places, .ref f_values, .ref f_notes, .ref f_meanings, .ref f_names, .ref f_slots, .int nm, .int 0])), (f_kinds, .inl (cI, 16001, .inl kn))] H_14 := hP'
  replace hD : va_D A [(g0, .inr (2, [.ref w0, .ref c0, .int 0, .int 0, .int 0, .int 0, .int 0, .int (-1)])), (w0, .inr (10, [.ref f_source, .int 0, .int 1, .ref f_kinds, .ref f_places, .ref f_values, .ref f_notes, .ref f_meanings, .ref f_names, .ref f_slots, .int nm, .int 0])), (f_kinds, .inl (cI, 16001, .inl kn))] := hD'
  replace hS := hS'
  clear hP' hD' hS'
  refine lv_aload_n hx hb dX2_readAll_115 rfl (lv_at hl 1 rfl) ?_
  refine va_get (D := (dC, dI)) (ci := 2) (v := .int 0) (C := RX2) (T := TX2) (N := 8) hx hb hts ii_X2 hown hK hP 0 rfl rfl 5 (by decide) (hts (.fieldLink RX2 35 "StoryHouse$Grammar" "fault" "I") wq_76) (fun _ h9 => h9) rfl dX2_readAll_116 ?_
  have hP9 := hP.sub (ws' := [(g0, .inr (2, [.ref w0, .ref c0, .int 0, .int 0, .int 0, .int 0, .int 0, .int (-1)])), (w0, .inr (10, [.ref f_source, .int 0, .int 1, .ref f_kinds, .ref f_places, .ref f_values, .ref f_notes, .ref f_meanings, .ref f_names, .ref f_slots, .int nm, .int 0])), (f_kinds, .inl (cI, 16001, .inl kn))]) [0, 1, 2] rfl
  have hD9 := hD.sub (ws' := [(g0, .inr (2, [.ref w0, .ref c0, .int 0, .int 0, .int 0, .int 0, .int 0, .int (-1)])), (w0, .inr (10, [.ref f_source, .int 0, .int 1, .ref f_kinds, .ref f_places, .ref f_values, .ref f_notes, .ref f_meanings, .ref f_names, .ref f_slots, .int nm, .int 0])), (f_kinds, .inl (cI, 16001, .inl kn))]) [0, 1, 2] (by decide +kernel) rfl
  refine W.widen (k := 0) (n := 0) (Nat.le_of_ble_eq_true rfl) (Nat.le_of_ble_eq_true rfl) ?_
  exact W.iret (v := 0) hx hb hr (fun t ht hW => ⟨⟨0, (), rfl, (by first | trivial | rfl | assumption), by rw [ht]; exact hP9, hD9⟩, hS.F ht⟩) hS.2.2 dX2_readAll_119

abbrev ww_X4_gatherItems (cB cC cI cJ cZ cP : ClassId) (m0 : Nat) (f_toldAt : Nat) (f_sorts : Nat) (f_numbers : Nat) (f_seen : Nat) (f_seenNames : Nat) (f_marks : Nat) (s0 : Nat) (w0 : Nat) (f_source : Nat) (f_kinds : Nat) (f_places : Nat) (f_values : Nat) (f_notes : Nat) (f_meanings : Nat) (f_names : Nat) (f_slots : Nat) (nm : Int32) (kn : Nat → Int32) (nf : Nat → Int64) (sf : Nat → Int32) (toldAt_a : Nat → Int32) (sorts_a : Nat → Int32) (numbers_a : Nat → Int32) (seen_a : Nat → Int32) : va_W := [(m0, .inr (4, [.ref w0, .ref s0, .ref f_toldAt, .ref f_sorts, .ref f_numbers, .ref f_seen, .ref f_seenNames, .int 0, .int 0, .int 0, .ref f_marks, .int 0, .int 0, .int 0, .int 0, .int 0, .int 0, .int (-1)])), (w0, .inr (10, [.ref f_source, .int 0, .int 1, .ref f_kinds, .ref f_places, .ref f_values, .ref f_notes, .ref f_meanings, .ref f_names, .ref f_slots, .int nm, .int 0])), (f_kinds, .inl (cI, 16001, .inl kn)), (f_names, .inl (cJ, 4500, .inr (.inl nf))), (f_slots, .inl (cI, 8192, .inl sf)), (f_toldAt, .inl (cI, 4500, .inl toldAt_a)), (f_sorts, .inl (cI, 4500, .inl sorts_a)), (f_numbers, .inl (cI, 4500, .inl numbers_a)), (f_seen, .inl (cI, 4500, .inl seen_a))]
abbrev q_X4_gatherItems (dC : Nat → ClassId) (dI : Nat → Nat → Nat) (cB cC cI cJ cZ cP : ClassId) (m0 : Nat) (f_toldAt : Nat) (f_sorts : Nat) (f_numbers : Nat) (f_seen : Nat) (f_seenNames : Nat) (f_marks : Nat) (s0 : Nat) (w0 : Nat) (f_source : Nat) (f_kinds : Nat) (f_places : Nat) (f_values : Nat) (f_notes : Nat) (f_meanings : Nat) (f_names : Nat) (f_slots : Nat) (nm : Int32) (kn : Nat → Int32) (nf : Nat → Int64) (sf : Nat → Int32) (toldAt_a : Nat → Int32) (sorts_a : Nat → Int32) (numbers_a : Nat → Int32) (seen_a : Nat → Int32) (A : Nat → Prop) : Array Value → State → Outcome → State → Prop := va_Qv (fun (u : Int32 × (Nat → Int64) × (Nat → Int32) × (Nat → Int32) × (Nat → Int32) × (Nat → Int32) × (Nat → Int32)) => match u with | (nm2, nf2, sf2, toldAt_b, sorts_b, numbers_b, seen_b) => ¬ nm2 < 0) (g_Bo (dC, dI) A (fun (u : Int32 × (Nat → Int64) × (Nat → Int32) × (Nat → Int32) × (Nat → Int32) × (Nat → Int32) × (Nat → Int32)) => match u with | (nm2, nf2, sf2, toldAt_b, sorts_b, numbers_b, seen_b) => [(m0, .inr (4, [.ref w0, .ref s0, .ref f_toldAt, .ref f_sorts, .ref f_numbers, .ref f_seen, .ref f_seenNames, .int 0, .int 0, .int 0, .ref f_marks, .int 0, .int 0, .int 0, .int 0, .int 0, .int 0, .int (-1)])), (w0, .inr (10, [.ref f_source, .int 0, .int 1, .ref f_kinds, .ref f_places, .ref f_values, .ref f_notes, .ref f_meanings, .ref f_names, .ref f_slots, .int nm2, .int 0])), (f_kinds, .inl (cI, 16001, .inl kn)), (f_names, .inl (cJ, 4500, .inr (.inl nf2))), (f_slots, .inl (cI, 8192, .inl sf2)), (f_toldAt, .inl (cI, 4500, .inl toldAt_b)), (f_sorts, .inl (cI, 4500, .inl sorts_b)), (f_numbers, .inl (cI, 4500, .inl numbers_b)), (f_seen, .inl (cI, 4500, .inl seen_b))])) A
set_option maxHeartbeats 4000000 in
set_option maxRecDepth 100000 in
theorem c_X4_gatherItems (l : Launch) (dC : Nat → ClassId) (dI : Nat → Nat → Nat) (cB cC cI cJ cZ cP : ClassId) (sz : Nat) (m0 : Nat) (f_toldAt : Nat) (f_sorts : Nat) (f_numbers : Nat) (f_seen : Nat) (f_seenNames : Nat) (f_marks : Nat) (s0 : Nat) (w0 : Nat) (f_source : Nat) (f_kinds : Nat) (f_places : Nat) (f_values : Nat) (f_notes : Nat) (f_meanings : Nat) (f_names : Nat) (f_slots : Nat) (nm : Int32) (kn : Nat → Int32) (nf : Nat → Int64) (sf : Nat → Int32) (toldAt_a : Nat → Int32) (sorts_a : Nat → Int32) (numbers_a : Nat → Int32) (seen_a : Nat → Int32) (hnm : ¬ nm < 0) (hk : kn 0 = 0) : Met l yX4_gatherItems (g_ws yX4_gatherItems cX4_gatherItems 5 none) ({ frames := 6, cells := 0, slots := 0, locals := 153 }) (va_Pc [.ref m0] (g_B (dC, dI) [(cB, .byte), (cC, .char), (cI, .int), (cJ, .long), (cZ, .boolean), (cP, .object "StoryHouse$Play")] sz (ww_X4_gatherItems cB cC cI cJ cZ cP m0 f_toldAt f_sorts f_numbers f_seen f_seenNames f_marks s0 w0 f_source f_kinds f_places f_values f_notes f_meanings f_names f_slots nm kn nf sf toldAt_a sorts_a numbers_a seen_a) g_0)) (q_X4_gatherItems dC dI cB cC cI cJ cZ cP m0 f_toldAt f_sorts f_numbers f_seen f_seenNames f_marks s0 w0 f_source f_kinds f_places f_values f_notes f_meanings f_names f_slots nm kn nf sf toldAt_a sorts_a numbers_a seen_a (va_A (ww_X4_gatherItems cB cC cI cJ cZ cP m0 f_toldAt f_sorts f_numbers f_seen f_seenNames f_marks s0 w0 f_source f_kinds f_places f_values f_notes f_meanings f_names f_slots nm kn nf sf toldAt_a sorts_a numbers_a seen_a) sz)) 0 0 (va_A (ww_X4_gatherItems cB cC cI cJ cZ cP m0 f_toldAt f_sorts f_numbers f_seen f_seenNames f_marks s0 w0 f_source f_kinds f_places f_values f_notes f_meanings f_names f_slots nm kn nf sf toldAt_a sorts_a numbers_a seen_a) sz) := by
  refine Met.ofW (cc := cX4_gatherItems) (maxL := 5) (ret := none) (by decide) rfl ?_
  intro p e s m args below meth c s₁ B hml hv
  obtain ⟨rfl, hsz, hP, hK, hD0, hE, hX⟩ := hv
  have hx := B.exec
  have hb := B.bytes
  have hr := B.returns
  have hts0 := atoms_spec (ws := (g_ws yX4_gatherItems cX4_gatherItems 5 none)) B.pre
  have hts : ∀ w ∈ lw_good, w.before ([.ref m0] : List Value).toArray s = true := fun w h => hts0 w (List.mem_cons_of_mem _ h)
  have hown : s.vm.findClass RX4 = some m.cls := findClass_of_methodNamed B.named
  have hlocks := B.notSynchronized
  subst hsz
  have hD := hD0.self (sz := s.heap.size)
  generalize hAe : va_A (ww_X4_gatherItems cB cC cI cJ cZ cP m0 f_toldAt f_sorts f_numbers f_seen f_seenNames f_marks s0 w0 f_source f_kinds f_places f_values f_notes f_meanings f_names f_slots nm kn nf sf toldAt_a sorts_a numbers_a seen_a) s.heap.size = A at hD hE hX ⊢
  have hA : ∀ q : Nat, s.heap.size ≤ q → A q := fun q h => by rw [← hAe]; exact Or.inr h
  have hN := hE.1
  have hS : va_S A s.heap s.heap [] := va_S.rf
  have hP : va_P (dC, dI) vwCl [(m0, .inr (4, [.ref w0, .ref s0, .ref f_toldAt, .ref f_sorts, .ref f_numbers, .ref f_seen, .ref f_seenNames, .int 0, .int 0, .int 0, .ref f_marks, .int 0, .int 0, .int 0, .int 0, .int 0, .int 0, .int (-1)])), (w0, .inr (10, [.ref f_source, .int 0, .int 1, .ref f_kinds, .ref f_places, .ref f_values, .ref f_notes, .ref f_meanings, .ref f_names, .ref f_slots, .int nm, .int 0])), (f_kinds, .inl (cI, 16001, .inl kn)), (f_names, .inl (cJ, 4500, .inr (.inl nf))), (f_slots, .inl (cI, 8192, .inl sf)), (f_toldAt, .inl (cI, 4500, .inl toldAt_a)), (f_sorts, .inl (cI, 4500, .inl sorts_a)), (f_numbers, .inl (cI, 4500, .inl numbers_a)), (f_seen, .inl (cI, 4500, .inl seen_a))] s.heap := hP
  have hl := lv_entry ([.ref m0]) (n := 5) (Nat.le_of_ble_eq_true rfl)
  rw [lg_entry_eq]
  generalize (lg_sl ([.ref m0]) ++ List.replicate (5 - (lg_sl ([.ref m0])).length) Slot.unset).toArray = ls at hl ⊢
  have hl : lv_has ls 5 [(0, .ref m0)] := hl
  refine lv_aload_n hx hb dX4_gatherItems_0 rfl (lv_at hl 0 rfl) ?_
  refine va_get (D := (dC, dI)) (ci := 4) (v := .ref f_toldAt) (C := RX4) (T := TX4) (N := 18) hx hb hts ii_X4 hown hK hP 0 rfl rfl 2 (by decide) (hts (.fieldLink RX4 11 "StoryHouse$Meanings" "toldAt" "[I") wq_88) (fun _ h9 => h9) rfl dX4_gatherItems_1 ?_
  refine lv_sipush (v := 16001) hx hb dX4_gatherItems_4 (by decide +kernel) ?_
  have hPc := hP.sub (ws' := [(f_toldAt, .inl (cI, 4500, .inl toldAt_a))]) [5] rfl
  have hDc := hD.sub (ws' := [(f_toldAt, .inl (cI, 4500, .inl toldAt_a))]) [5] (by decide +kernel) rfl
  have hFc := va_free (wc := [(f_toldAt, .inl (cI, 4500, .inl toldAt_a))]) hD hS hA [5] rfl
  refine g_ofv (wc := [(f_toldAt, .inl (cI, 4500, .inl toldAt_a))]) (wr := [(m0, .inr (4, [.ref w0, .ref s0, .ref f_toldAt, .ref f_sorts, .ref f_numbers, .ref f_seen, .ref f_seenNames, .int 0, .int 0, .int 0, .ref f_marks, .int 0, .int 0, .int 0, .int 0, .int 0, .int 0, .int (-1)])), (w0, .inr (10, [.ref f_source, .int 0, .int 1, .ref f_kinds, .ref f_places, .ref f_values, .ref f_notes, .ref f_meanings, .ref f_names, .ref f_slots, .int nm, .int 0])), (f_kinds, .inl (cI, 16001, .inl kn)), (f_names, .inl (cJ, 4500, .inr (.inl nf))), (f_slots, .inl (cI, 8192, .inl sf)), (f_sorts, .inl (cI, 4500, .inl sorts_a)), (f_numbers, .inl (cI, 4500, .inl numbers_a)), (f_seen, .inl (cI, 4500, .inl seen_a))]) hP hD hS hFc [5] [0, 1, 2, 3, 4, 6, 7, 8] rfl rfl (by decide +kernel) (by decide +kernel) (va_runS (As := [.ref f_toldAt, .int 16001]) (rest := []) ⟨hx, hb, hml, hown, hts⟩ (c_J7_fill_53178 l dC dI cB cC cI cJ cZ cP s.heap.size f_toldAt 16001 4500 toldAt_a (by decide)) (va_cwS 2 hts (g_gS wq_712 wq_340 wq_21 wq_341) rfl rfl rfl (by decide +kernel) ⟨Nat.le_of_ble_eq_true rfl, Nat.le_of_ble_eq_true rfl⟩) (g_preS g_bl0 hK hPc hDc hS hE hFc g_to0) rfl rfl hl.1 rfl (lv_room (Nat.le_of_ble_eq_true rfl)) dX4_gatherItems_7 ⟨Nat.le_of_ble_eq_true rfl, Nat.le_of_ble_eq_true rfl⟩) (fun u_2 H_3 locs w_1 hP' hD' hS' => ?_)
  clear hPc hDc hFc
  have w_1 : ∀ j : Nat, j < 4500 → u_2 j = 16001 := w_1
  replace hP : va_P (dC, dI) vwCl [(m0, .inr (4, [.ref w0, .ref s0, .ref f_toldAt, .ref f_sorts, .ref f_numbers, .ref f_seen, .ref f_seenNames, .int 0, .int 0, .int 0, .ref f_marks, .int 0, .int 0, .int 0, .int 0, .int 0, .int 0, .int (-1)])), (w0, .inr (10, [.ref f_source, .int 0, .int 1, .ref f_kinds, .ref f_places, .ref f_values, .ref f_notes, .ref f_meanings, .ref f_names, .ref f_slots, .int nm, .int 0])), (f_kinds, .inl (cI, 16001, .inl kn)), (f_names, .inl (cJ, 4500, .inr (.inl nf))), (f_slots, .inl (cI, 8192, .inl sf)), (f_sorts, .inl (cI, 4500, .inl sorts_a)), (f_numbers, .inl (cI, 4500, .inl numbers_a)), (f_seen, .inl (cI, 4500, .inl seen_a)), (f_toldAt, .inl (cI, 4500, .inl u_2))] H_3 := hP'
  replace hD : va_D A [(m0, .inr (4, [.ref w0, .ref s0, .ref f_toldAt, .ref f_sorts, .ref f_numbers, .ref f_seen, .ref f_seenNames, .int 0, .int 0, .int 0, .ref f_marks, .int 0, .int 0, .int 0, .int 0, .int 0, .int 0, .int (-1)])), (w0, .inr (10, [.ref f_source, .int 0, .int 1, .ref f_kinds, .ref f_places, .ref f_values, .ref f_notes, .ref f_meanings, .ref f_names, .ref f_slots, .int nm, .int 0])), (f_kinds, .inl (cI, 16001, .inl kn)), (f_names, .inl (cJ, 4500, .inr (.inl nf))), (f_slots, .inl (cI, 8192, .inl sf)), (f_sorts, .inl (cI, 4500, .inl sorts_a)), (f_numbers, .inl (cI, 4500, .inl numbers_a)), (f_seen, .inl (cI, 4500, .inl seen_a)), (f_toldAt, .inl (cI, 4500, .inl u_2))] := hD'
  replace hS := hS'
  clear hP' hD' hS'
  refine lv_aload_n hx hb dX4_gatherItems_10 rfl (lv_at hl 0 rfl) ?_
  refine va_get (D := (dC, dI)) (ci := 4) (v := .ref f_sorts) (C := RX4) (T := TX4) (N := 18) hx hb hts ii_X4 hown hK hP 0 rfl rfl 3 (by decide) (hts (.fieldLink RX4 17 "StoryHouse$Meanings" "sorts" "[I") wq_89) (fun _ h9 => h9) rfl dX4_gatherItems_11 ?_
  refine lv_iconst (v := 0) hx hb dX4_gatherItems_14 (by decide +kernel) ?_
  have hPc := hP.sub (ws' := [(f_sorts, .inl (cI, 4500, .inl sorts_a))]) [5] rfl
  have hDc := hD.sub (ws' := [(f_sorts, .inl (cI, 4500, .inl sorts_a))]) [5] (by decide +kernel) rfl
  have hFc := va_free (wc := [(f_sorts, .inl (cI, 4500, .inl sorts_a))]) hD hS hA [5] rfl
  refine g_ofv (wc := [(f_sorts, .inl (cI, 4500, .inl sorts_a))]) (wr := [(m0, .inr (4, [.ref w0, .ref s0, .ref f_toldAt, .ref f_sorts, .ref f_numbers, .ref f_seen, .ref f_seenNames, .int 0, .int 0, .int 0, .ref f_marks, .int 0, .int 0, .int 0, .int 0, .int 0, .int 0, .int (-1)])), (w0, .inr (10, [.ref f_source, .int 0, .int 1, .ref f_kinds, .ref f_places, .ref f_values, .ref f_notes, .ref f_meanings, .ref f_names, .ref f_slots, .int nm, .int 0])), (f_kinds, .inl (cI, 16001, .inl kn)), (f_names, .inl (cJ, 4500, .inr (.inl nf))), (f_slots, .inl (cI, 8192, .inl sf)), (f_numbers, .inl (cI, 4500, .inl numbers_a)), (f_seen, .inl (cI, 4500, .inl seen_a)), (f_toldAt, .inl (cI, 4500, .inl u_2))]) hP hD hS hFc [5] [0, 1, 2, 3, 4, 6, 7, 8] rfl rfl (by decide +kernel) (by decide +kernel) (va_runS (As := [.ref f_sorts, .int 0]) (rest := []) ⟨hx, hb, hml, hown, hts⟩ (c_J7_fill_53178 l dC dI cB cC cI cJ cZ cP H_3.size f_sorts 0 4500 sorts_a (by first | assumption | decide +kernel)) (va_cwS 2 hts (g_gS wq_712 wq_340 wq_21 wq_341) rfl rfl rfl (by decide +kernel) ⟨Nat.le_of_ble_eq_true rfl, Nat.le_of_ble_eq_true rfl⟩) (g_preS g_bl0 hK hPc hDc hS hE hFc g_to0) rfl rfl hl.1 rfl (lv_room (Nat.le_of_ble_eq_true rfl)) dX4_gatherItems_15 ⟨Nat.le_of_ble_eq_true rfl, Nat.le_of_ble_eq_true rfl⟩) (fun u_5 H_6 locs w_4 hP' hD' hS' => ?_)
  clear hPc hDc hFc
  have w_4 : ∀ j : Nat, j < 4500 → u_5 j = 0 := w_4
  replace hP : va_P (dC, dI) vwCl [(m0, .inr (4, [.ref w0, .ref s0, .ref f_toldAt, .ref f_sorts, .ref f_numbers, .ref f_seen, .ref f_seenNames, .int 0, .int 0, .int 0, .ref f_marks, .int 0, .int 0, .int 0, .int 0, .int 0, .int 0, .int (-1)])), (w0, .inr (10, [.ref f_source, .int 0, .int 1, .ref f_kinds, .ref f_places, .ref f_values, .ref f_notes, .ref f_meanings, .ref f_names, .ref f_slots, .int nm, .int 0])), (f_kinds, .inl (cI, 16001, .inl kn)), (f_names, .inl (cJ, 4500, .inr (.inl nf))), (f_slots, .inl (cI, 8192, .inl sf)), (f_numbers, .inl (cI, 4500, .inl numbers_a)), (f_seen, .inl (cI, 4500, .inl seen_a)), (f_toldAt, .inl (cI, 4500, .inl u_2)), (f_sorts, .inl (cI, 4500, .inl u_5))] H_6 := hP'
  replace hD : va_D A [(m0, .inr (4, [.ref w0, .ref s0, .ref f_toldAt, .ref f_sorts, .ref f_numbers, .ref f_seen, .ref f_seenNames, .int 0, .int 0, .int 0, .ref f_marks, .int 0, .int 0, .int 0, .int 0, .int 0, .int 0, .int (-1)])), (w0, .inr (10, [.ref f_source, .int 0, .int 1, .ref f_kinds, .ref f_places, .ref f_values, .ref f_notes, .ref f_meanings, .ref f_names, .ref f_slots, .int nm, .int 0])), (f_kinds, .inl (cI, 16001, .inl kn)), (f_names, .inl (cJ, 4500, .inr (.inl nf))), (f_slots, .inl (cI, 8192, .inl sf)), (f_numbers, .inl (cI, 4500, .inl numbers_a)), (f_seen, .inl (cI, 4500, .inl seen_a)), (f_toldAt, .inl (cI, 4500, .inl u_2)), (f_sorts, .inl (cI, 4500, .inl u_5))] := hD'
  replace hS := hS'
  clear hP' hD' hS'
  refine lv_aload_n hx hb dX4_gatherItems_18 rfl (lv_at hl 0 rfl) ?_
  refine va_get (D := (dC, dI)) (ci := 4) (v := .ref f_seen) (C := RX4) (T := TX4) (N := 18) hx hb hts ii_X4 hown hK hP 0 rfl rfl 5 (by decide) (hts (.fieldLink RX4 23 "StoryHouse$Meanings" "seen" "[I") wq_91) (fun _ h9 => h9) rfl dX4_gatherItems_19 ?_
  refine lv_iconst (v := 0) hx hb dX4_gatherItems_22 (by decide +kernel) ?_
  have hPc := hP.sub (ws' := [(f_seen, .inl (cI, 4500, .inl seen_a))]) [6] rfl
  have hDc := hD.sub (ws' := [(f_seen, .inl (cI, 4500, .inl seen_a))]) [6] (by decide +kernel) rfl
  have hFc := va_free (wc := [(f_seen, .inl (cI, 4500, .inl seen_a))]) hD hS hA [6] rfl
  refine g_ofv (wc := [(f_seen, .inl (cI, 4500, .inl seen_a))]) (wr := [(m0, .inr (4, [.ref w0, .ref s0, .ref f_toldAt, .ref f_sorts, .ref f_numbers, .ref f_seen, .ref f_seenNames, .int 0, .int 0, .int 0, .ref f_marks, .int 0, .int 0, .int 0, .int 0, .int 0, .int 0, .int (-1)])), (w0, .inr (10, [.ref f_source, .int 0, .int 1, .ref f_kinds, .ref f_places, .ref f_values, .ref f_notes, .ref f_meanings, .ref f_names, .ref f_slots, .int nm, .int 0])), (f_kinds, .inl (cI, 16001, .inl kn)), (f_names, .inl (cJ, 4500, .inr (.inl nf))), (f_slots, .inl (cI, 8192, .inl sf)), (f_numbers, .inl (cI, 4500, .inl numbers_a)), (f_toldAt, .inl (cI, 4500, .inl u_2)), (f_sorts, .inl (cI, 4500, .inl u_5))]) hP hD hS hFc [6] [0, 1, 2, 3, 4, 5, 7, 8] rfl rfl (by decide +kernel) (by decide +kernel) (va_runS (As := [.ref f_seen, .int 0]) (rest := []) ⟨hx, hb, hml, hown, hts⟩ (c_J7_fill_53178 l dC dI cB cC cI cJ cZ cP H_6.size f_seen 0 4500 seen_a (by decide)) (va_cwS 2 hts (g_gS wq_712 wq_340 wq_21 wq_341) rfl rfl rfl (by decide +kernel) ⟨Nat.le_of_ble_eq_true rfl, Nat.le_of_ble_eq_true rfl⟩) (g_preS g_bl0 hK hPc hDc hS hE hFc g_to0) rfl rfl hl.1 rfl (lv_room (Nat.le_of_ble_eq_true rfl)) dX4_gatherItems_23 ⟨Nat.le_of_ble_eq_true rfl, Nat.le_of_ble_eq_true rfl⟩) (fun u_8 H_9 locs w_7 hP' hD' hS' => ?_)
  clear hPc hDc hFc
  have w_7 : ∀ j : Nat, j < 4500 → u_8 j = 0 := w_7
  replace hP : va_P (dC, dI) vwCl [(m0, .inr (4, [.ref w0, .ref s0, .ref f_toldAt, .ref f_sorts, .ref f_numbers, .ref f_seen, .ref f_seenNames, .int 0, .int 0, .int 0, .ref f_marks, .int 0, .int 0, .int 0, .int 0, .int 0, .int 0, .int (-1)])), (w0, .inr (10, [.ref f_source, .int 0, .int 1, .ref f_kinds, .ref f_places, .ref f_values, .ref f_notes, .ref f_meanings, .ref f_names, .ref f_slots, .int nm, .int 0])), (f_kinds, .inl (cI, 16001, .inl kn)), (f_names, .inl (cJ, 4500, .inr (.inl nf))), (f_slots, .inl (cI, 8192, .inl sf)), (f_numbers, .inl (cI, 4500, .inl numbers_a)), (f_toldAt, .inl (cI, 4500, .inl u_2)), (f_sorts, .inl (cI, 4500, .inl u_5)), (f_seen, .inl (cI, 4500, .inl u_8))] H_9 := hP'
  replace hD : va_D A [(m0, .inr (4, [.ref w0, .ref s0, .ref f_toldAt, .ref f_sorts, .ref f_numbers, .ref f_seen, .ref f_seenNames, .int 0, .int 0, .int 0, .ref f_marks, .int 0, .int 0, .int 0, .int 0, .int 0, .int 0, .int (-1)])), (w0, .inr (10, [.ref f_source, .int 0, .int 1, .ref f_kinds, .ref f_places, .ref f_values, .ref f_notes, .ref f_meanings, .ref f_names, .ref f_slots, .int nm, .int 0])), (f_kinds, .inl (cI, 16001, .inl kn)), (f_names, .inl (cJ, 4500, .inr (.inl nf))), (f_slots, .inl (cI, 8192, .inl sf)), (f_numbers, .inl (cI, 4500, .inl numbers_a)), (f_toldAt, .inl (cI, 4500, .inl u_2)), (f_sorts, .inl (cI, 4500, .inl u_5)), (f_seen, .inl (cI, 4500, .inl u_8))] := hD'
  replace hS := hS'
  clear hP' hD' hS'
  refine lv_iconst (v := 0) hx hb dX4_gatherItems_26 (by decide +kernel) ?_
  refine lv_istore_n (lv' := [(1, .int 0), (0, .ref m0)]) hx hb dX4_gatherItems_27 rfl hl (by decide) rfl (fun ls hl => ?_)
  refine lv_iconst (v := 1) hx hb dX4_gatherItems_28 (by decide +kernel) ?_
  refine lv_istore_n (lv' := [(2, .int 1), (1, .int 0), (0, .ref m0)]) hx hb dX4_gatherItems_29 rfl hl (by decide) rfl (fun ls hl => ?_)
  have LOOP_10 : ∀ (fu : Nat) (x1 : Int32) (x2 : Int32) (nm1 : Int32) (nf1 : Nat → Int64) (sf1 : Nat → Int32) (toldAt_1 : Nat → Int32) (sorts_1 : Nat → Int32) (numbers_1 : Nat → Int32) (hnm1 : ¬ nm1 < 0) (hfu : ((11 : Int32).toInt + 1 - x2.toInt).toNat < fu) (H : Heap) (locs : List Loc), va_P (dC, dI) vwCl [(m0, .inr (4, [.ref w0, .ref s0, .ref f_toldAt, .ref f_sorts, .ref f_numbers, .ref f_seen, .ref f_seenNames, .int 0, .int 0, .int 0, .ref f_marks, .int 0, .int 0, .int 0, .int 0, .int 0, .int 0, .int (-1)])), (w0, .inr (10, [.ref f_source, .int 0, .int 1, .ref f_kinds, .ref f_places, .ref f_values, .ref f_notes, .ref f_meanings, .ref f_names, .ref f_slots, .int nm1, .int 0])), (f_kinds, .inl (cI, 16001, .inl kn)), (f_names, .inl (cJ, 4500, .inr (.inl nf1))), (f_slots, .inl (cI, 8192, .inl sf1)), (f_numbers, .inl (cI, 4500, .inl numbers_1)), (f_toldAt, .inl (cI, 4500, .inl toldAt_1)), (f_sorts, .inl (cI, 4500, .inl sorts_1)), (f_seen, .inl (cI, 4500, .inl u_8))] H → va_D A [(m0, .inr (4, [.ref w0, .ref s0, .ref f_toldAt, .ref f_sorts, .ref f_numbers, .ref f_seen, .ref f_seenNames, .int 0, .int 0, .int 0, .ref f_marks, .int 0, .int 0, .int 0, .int 0, .int 0, .int 0, .int (-1)])), (w0, .inr (10, [.ref f_source, .int 0, .int 1, .ref f_kinds, .ref f_places, .ref f_values, .ref f_notes, .ref f_meanings, .ref f_names, .ref f_slots, .int nm1, .int 0])), (f_kinds, .inl (cI, 16001, .inl kn)), (f_names, .inl (cJ, 4500, .inr (.inl nf1))), (f_slots, .inl (cI, 8192, .inl sf1)), (f_numbers, .inl (cI, 4500, .inl numbers_1)), (f_toldAt, .inl (cI, 4500, .inl toldAt_1)), (f_sorts, .inl (cI, 4500, .inl sorts_1)), (f_seen, .inl (cI, 4500, .inl u_8))] → va_S A s.heap H locs → ∀ ls : Array Slot, lv_has ls 5 [(0, .ref m0), (1, .int x1), (2, .int x2)] → W p l e ({ frames := 6, cells := 0, slots := 0, locals := 153 }) s m ([.ref m0] : List Value).toArray below meth c H locs 0 0 (MQ below (q_X4_gatherItems dC dI cB cC cI cJ cZ cP m0 f_toldAt f_sorts f_numbers f_seen f_seenNames f_marks s0 w0 f_source f_kinds f_places f_values f_notes f_meanings f_names f_slots nm kn nf sf toldAt_a sorts_a numbers_a seen_a A) ([.ref m0] : List Value).toArray s 0 0 A) (F0 m 30 ls []) := by
    intro fu
    induction fu with
    | zero => intro x1 x2 nm1 nf1 sf1 toldAt_1 sorts_1 numbers_1 hnm1 hfu; exact absurd hfu (Nat.not_lt_zero _)
    | succ fu ih =>
      intro x1 x2 nm1 nf1 sf1 toldAt_1 sorts_1 numbers_1 hnm1 hfu H locs hP hD hS ls hl
      refine lv_iload_n hx hb dX4_gatherItems_30 rfl (lv_at hl 2 rfl) ?_
      refine lv_bipush (v := 11) hx hb dX4_gatherItems_31 (by decide +kernel) ?_
      refine lv_icmp_gt (tgt := 101) hx hb dX4_gatherItems_33 (by decide) (fun c_11 => ?_) (fun c_11 => ?_)
      · refine lv_iconst (v := 0) hx hb dX4_gatherItems_101 (by decide +kernel) ?_
        refine lv_istore_n (lv' := [(2, .int 0), (0, .ref m0), (1, .int x1)]) hx hb dX4_gatherItems_102 rfl hl (by decide) rfl (fun ls hl => ?_)
        refine lv_iload_n hx hb dX4_gatherItems_103 rfl (lv_at hl 0 rfl) ?_
        refine lv_aload_n hx hb dX4_gatherItems_104 rfl (lv_at hl 1 rfl) ?_
        refine va_get (D := (dC, dI)) (ci := 4) (v := .ref w0) (C := RX4) (T := TX4) (N := 18) hx hb hts ii_X4 hown hK hP 0 rfl rfl 0 (by decide) (hts (.fieldLink RX4 32 "StoryHouse$Meanings" "words" "LStoryHouse$Words;") wq_86) (fun _ h9 => h9) rfl dX4_gatherItems_105 ?_
        refine va_get (D := (dC, dI)) (ci := 10) (v := .int 1) (C := RX10) (T := TX10) (N := 12) hx hb hts ii_X10 hown hK hP 1 rfl rfl 2 (by decide) (hts (.fieldLink RX4 53 "StoryHouse$Words" "count" "I") wq_45) (fun _ h9 => h9) rfl dX4_gatherItems_108 ?_
        refine lv_icmp_ge (tgt := 182) hx hb dX4_gatherItems_111 (by decide) (fun c_12 => absurd c_12 (by decide +kernel)) (fun c_12 => ?_)
        refine lv_aload_n hx hb dX4_gatherItems_114 rfl (lv_at hl 1 rfl) ?_
        refine va_get (D := (dC, dI)) (ci := 4) (v := .ref w0) (C := RX4) (T := TX4) (N := 18) hx hb hts ii_X4 hown hK hP 0 rfl rfl 0 (by decide) (hts (.fieldLink RX4 32 "StoryHouse$Meanings" "words" "LStoryHouse$Words;") wq_86) (fun _ h9 => h9) rfl dX4_gatherItems_115 ?_
        refine lv_iload_n hx hb dX4_gatherItems_118 rfl (lv_at hl 0 rfl) ?_
        have hPc := hP.sub (ws' := [(w0, .inr (10, [.ref f_source, .int 0, .int 1, .ref f_kinds, .ref f_places, .ref f_values, .ref f_notes, .ref f_meanings, .ref f_names, .ref f_slots, .int nm1, .int 0])), (f_kinds, .inl (cI, 16001, .inl kn))]) [1, 2] rfl
        have hDc := hD.sub (ws' := [(w0, .inr (10, [.ref f_source, .int 0, .int 1, .ref f_kinds, .ref f_places, .ref f_values, .ref f_notes, .ref f_meanings, .ref f_names, .ref f_slots, .int nm1, .int 0])), (f_kinds, .inl (cI, 16001, .inl kn))]) [1, 2] (by decide +kernel) rfl
        have hFc := va_free (wc := [(w0, .inr (10, [.ref f_source, .int 0, .int 1, .ref f_kinds, .ref f_places, .ref f_values, .ref f_notes, .ref f_meanings, .ref f_names, .ref f_slots, .int nm1, .int 0])), (f_kinds, .inl (cI, 16001, .inl kn))]) hD hS hA [1, 2] rfl
        refine g_ofi (wc := [(w0, .inr (10, [.ref f_source, .int 0, .int 1, .ref f_kinds, .ref f_places, .ref f_values, .ref f_notes, .ref f_meanings, .ref f_names, .ref f_slots, .int nm1, .int 0])), (f_kinds, .inl (cI, 16001, .inl kn))]) (wr := [(m0, .inr (4, [.ref w0, .ref s0, .ref f_toldAt, .ref f_sorts, .ref f_numbers, .ref f_seen, .ref f_seenNames, .int 0, .int 0, .int 0, .ref f_marks, .int 0, .int 0, .int 0, .int 0, .int 0, .int 0, .int (-1)])), (f_names, .inl (cJ, 4500, .inr (.inl nf1))), (f_slots, .inl (cI, 8192, .inl sf1)), (f_numbers, .inl (cI, 4500, .inl numbers_1)), (f_toldAt, .inl (cI, 4500, .inl toldAt_1)), (f_sorts, .inl (cI, 4500, .inl sorts_1)), (f_seen, .inl (cI, 4500, .inl u_8))]) hP hD hS hFc [1, 2] [0, 3, 4, 5, 6, 7, 8] rfl rfl (by decide +kernel) (by decide +kernel) (va_runV (As := [.int 0]) (rest := []) ⟨hx, hb, hml, hown, hts⟩ (c_X10_kindOf l dC dI cB cC cI cJ cZ cP H.size w0 f_source f_kinds f_places f_values f_notes f_meanings f_names f_slots nm1 kn (hk)) (cwV 1 hts (g_gV wq_714 wq_543 wq_544 wq_2 wq_545) rfl rfl rfl (by decide +kernel) ⟨Nat.le_of_ble_eq_true rfl, Nat.le_of_ble_eq_true rfl⟩) (g_preV g_bl0 hK hPc hDc hS hE hFc g_to0 (q0 := 0) (ci := 10) rfl rfl) rfl rfl hl.1 rfl (lv_room (Nat.le_of_ble_eq_true rfl)) dX4_gatherItems_119 ⟨Nat.le_of_ble_eq_true rfl, Nat.le_of_ble_eq_true rfl⟩) (fun r_15 u_14 H_16 locs w_13 hP' hD' hS' => ?_)
        clear hPc hDc hFc
        have w_13 : r_15 = 0 := w_13
        replace hP : va_P (dC, dI) vwCl [(m0, .inr (4, [.ref w0, .ref s0, .ref f_toldAt, .ref f_sorts, .ref f_numbers, .ref f_seen, .ref f_seenNames, .int 0, .int 0, .int 0, .ref f_marks, .int 0, .int 0, .int 0, .int 0, .int 0, .int 0, .int (-1)])), (f_names, .inl (cJ, 4500, .inr (.inl nf1))), (f_slots, .inl (cI, 8192, .inl sf1)), (f_numbers, .inl (cI, 4500, .inl numbers_1)), (f_toldAt, .inl (cI, 4500, .inl toldAt_1)), (f_sorts, .inl (cI, 4500, .inl sorts_1)), (f_seen, .inl (cI, 4500, .inl u_8)), (w0, .inr (10, [.ref f_source, .int 0, .int 1, .ref f_kinds, .ref f_places, .ref f_values, .ref f_notes, .ref f_meanings, .ref f_names, .ref f_slots, .int nm1, .int 0])), (f_kinds, .inl (cI, 16001, .inl kn))] H_16 := hP'
        replace hD : va_D A [(m0, .inr (4, [.ref w0, .ref s0, .ref f_toldAt, .ref f_sorts, .ref f_numbers, .ref f_seen, .ref f_seenNames, .int 0, .int 0, .int 0, .ref f_marks, .int 0, .int 0, .int 0, .int 0, .int 0, .int 0, .int (-1)])), (f_names, .inl (cJ, 4500, .inr (.inl nf1))), (f_slots, .inl (cI, 8192, .inl sf1)), (f_numbers, .inl (cI, 4500, .inl numbers_1)), (f_toldAt, .inl (cI, 4500, .inl toldAt_1)), (f_sorts, .inl (cI, 4500, .inl sorts_1)), (f_seen, .inl (cI, 4500, .inl u_8)), (w0, .inr (10, [.ref f_source, .int 0, .int 1, .ref f_kinds, .ref f_places, .ref f_values, .ref f_notes, .ref f_meanings, .ref f_names, .ref f_slots, .int nm1, .int 0])), (f_kinds, .inl (cI, 16001, .inl kn))] := hD'
        replace hS := hS'
        clear hP' hD' hS'
        obtain rfl : 0 = r_15 := (w_13).symm
        refine lv_istore_n (lv' := [(3, .int 0), (2, .int 0), (0, .ref m0), (1, .int x1)]) hx hb dX4_gatherItems_122 rfl hl (by decide) rfl (fun ls hl => ?_)
        refine lv_aload_n hx hb dX4_gatherItems_123 rfl (lv_at hl 2 rfl) ?_
        refine va_get (D := (dC, dI)) (ci := 4) (v := .ref w0) (C := RX4) (T := TX4) (N := 18) hx hb hts ii_X4 hown hK hP 0 rfl rfl 0 (by decide) (hts (.fieldLink RX4 32 "StoryHouse$Meanings" "words" "LStoryHouse$Words;") wq_86) (fun _ h9 => h9) rfl dX4_gatherItems_124 ?_
        refine lv_iload_n hx hb dX4_gatherItems_127 rfl (lv_at hl 1 rfl) ?_
        refine lv_iconst (v := 1) hx hb dX4_gatherItems_128 (by decide +kernel) ?_
        refine lv_iadd hx hb dX4_gatherItems_129 ?_
        refine lv_topi (fun x_17 ex_17 => ?_)
        obtain rfl : x_17 = 1 := ex_17.trans (by decide +kernel)
        have hPc := hP.sub (ws' := [(w0, .inr (10, [.ref f_source, .int 0, .int 1, .ref f_kinds, .ref f_places, .ref f_values, .ref f_notes, .ref f_meanings, .ref f_names, .ref f_slots, .int nm1, .int 0]))]) [7] rfl
        have hDc := hD.sub (ws' := [(w0, .inr (10, [.ref f_source, .int 0, .int 1, .ref f_kinds, .ref f_places, .ref f_values, .ref f_notes, .ref f_meanings, .ref f_names, .ref f_slots, .int nm1, .int 0]))]) [7] (by decide +kernel) rfl
        have hFc := va_free (wc := [(w0, .inr (10, [.ref f_source, .int 0, .int 1, .ref f_kinds, .ref f_places, .ref f_values, .ref f_notes, .ref f_meanings, .ref f_names, .ref f_slots, .int nm1, .int 0]))]) hD hS hA [7] rfl
        refine g_ofi (wc := [(w0, .inr (10, [.ref f_source, .int 0, .int 1, .ref f_kinds, .ref f_places, .ref f_values, .ref f_notes, .ref f_meanings, .ref f_names, .ref f_slots, .int nm1, .int 0]))]) (wr := [(m0, .inr (4, [.ref w0, .ref s0, .ref f_toldAt, .ref f_sorts, .ref f_numbers, .ref f_seen, .ref f_seenNames, .int 0, .int 0, .int 0, .ref f_marks, .int 0, .int 0, .int 0, .int 0, .int 0, .int 0, .int (-1)])), (f_names, .inl (cJ, 4500, .inr (.inl nf1))), (f_slots, .inl (cI, 8192, .inl sf1)), (f_numbers, .inl (cI, 4500, .inl numbers_1)), (f_toldAt, .inl (cI, 4500, .inl toldAt_1)), (f_sorts, .inl (cI, 4500, .inl sorts_1)), (f_seen, .inl (cI, 4500, .inl u_8)), (f_kinds, .inl (cI, 16001, .inl kn))]) hP hD hS hFc [7] [0, 1, 2, 3, 4, 5, 6, 8] rfl rfl (by decide +kernel) (by decide +kernel) (va_runV (As := [.int 1]) (rest := []) ⟨hx, hb, hml, hown, hts⟩ (c_X10_worthOf l dC dI cB cC cI cJ cZ cP H_16.size w0 f_source f_kinds f_places f_values f_notes f_meanings f_names f_slots nm1 ) (cwV 1 hts (g_gV wq_715 wq_653 wq_654 wq_2 wq_655) rfl rfl rfl (by decide +kernel) ⟨Nat.le_of_ble_eq_true rfl, Nat.le_of_ble_eq_true rfl⟩) (g_preV g_bl0 hK hPc hDc hS hE hFc g_to0 (q0 := 0) (ci := 10) rfl rfl) rfl rfl hl.1 rfl (lv_room (Nat.le_of_ble_eq_true rfl)) dX4_gatherItems_130 ⟨Nat.le_of_ble_eq_true rfl, Nat.le_of_ble_eq_true rfl⟩) (fun r_20 u_19 H_21 locs w_18 hP' hD' hS' => ?_)
        clear hPc hDc hFc
        have w_18 : r_20 = 0 := w_18
        replace hP : va_P (dC, dI) vwCl [(m0, .inr (4, [.ref w0, .ref s0, .ref f_toldAt, .ref f_sorts, .ref f_numbers, .ref f_seen, .ref f_seenNames, .int 0, .int 0, .int 0, .ref f_marks, .int 0, .int 0, .int 0, .int 0, .int 0, .int 0, .int (-1)])), (f_names, .inl (cJ, 4500, .inr (.inl nf1))), (f_slots, .inl (cI, 8192, .inl sf1)), (f_numbers, .inl (cI, 4500, .inl numbers_1)), (f_toldAt, .inl (cI, 4500, .inl toldAt_1)), (f_sorts, .inl (cI, 4500, .inl sorts_1)), (f_seen, .inl (cI, 4500, .inl u_8)), (f_kinds, .inl (cI, 16001, .inl kn)), (w0, .inr (10, [.ref f_source, .int 0, .int 1, .ref f_kinds, .ref f_places, .ref f_values, .ref f_notes, .ref f_meanings, .ref f_names, .ref f_slots, .int nm1, .int 0]))] H_21 := hP'
        replace hD : va_D A [(m0, .inr (4, [.ref w0, .ref s0, .ref f_toldAt, .ref f_sorts, .ref f_numbers, .ref f_seen, .ref f_seenNames, .int 0, .int 0, .int 0, .ref f_marks, .int 0, .int 0, .int 0, .int 0, .int 0, .int 0, .int (-1)])), (f_names, .inl (cJ, 4500, .inr (.inl nf1))), (f_slots, .inl (cI, 8192, .inl sf1)), (f_numbers, .inl (cI, 4500, .inl numbers_1)), (f_toldAt, .inl (cI, 4500, .inl toldAt_1)), (f_sorts, .inl (cI, 4500, .inl sorts_1)), (f_seen, .inl (cI, 4500, .inl u_8)), (f_kinds, .inl (cI, 16001, .inl kn)), (w0, .inr (10, [.ref f_source, .int 0, .int 1, .ref f_kinds, .ref f_places, .ref f_values, .ref f_notes, .ref f_meanings, .ref f_names, .ref f_slots, .int nm1, .int 0]))] := hD'
        replace hS := hS'
        clear hP' hD' hS'
        obtain rfl : 0 = r_20 := (w_18).symm
        refine lv_istore (lv' := [(4, .int 0), (3, .int 0), (2, .int 0), (0, .ref m0), (1, .int x1)]) hx hb dX4_gatherItems_133 hl (by decide) rfl (fun ls hl => ?_)
        refine lv_iload_n hx hb dX4_gatherItems_135 rfl (lv_at hl 1 rfl) ?_
        refine lv_sipush (v := 230) hx hb dX4_gatherItems_136 (by decide +kernel) ?_
        refine lv_icmp_lt (tgt := 176) hx hb dX4_gatherItems_139 (by decide) (fun c_22 => ?_) (fun c_22 => absurd (by decide +kernel) c_22)
        refine lv_iinc (v := 1) (lv' := [(2, .int 1), (4, .int 0), (3, .int 0), (0, .ref m0), (1, .int x1)]) hx hb dX4_gatherItems_176 hl (k := 2) rfl (by decide +kernel) (by decide) rfl (fun ls hl => ?_)
        refine lv_goto (tgt := 103) hx hb dX4_gatherItems_179 (by decide) ?_
        refine lv_iload_n hx hb dX4_gatherItems_103 rfl (lv_at hl 0 rfl) ?_
        refine lv_aload_n hx hb dX4_gatherItems_104 rfl (lv_at hl 3 rfl) ?_
        refine va_get (D := (dC, dI)) (ci := 4) (v := .ref w0) (C := RX4) (T := TX4) (N := 18) hx hb hts ii_X4 hown hK hP 0 rfl rfl 0 (by decide) (hts (.fieldLink RX4 32 "StoryHouse$Meanings" "words" "LStoryHouse$Words;") wq_86) (fun _ h9 => h9) rfl dX4_gatherItems_105 ?_
        refine va_get (D := (dC, dI)) (ci := 10) (v := .int 1) (C := RX10) (T := TX10) (N := 12) hx hb hts ii_X10 hown hK hP 8 rfl rfl 2 (by decide) (hts (.fieldLink RX4 53 "StoryHouse$Words" "count" "I") wq_45) (fun _ h9 => h9) rfl dX4_gatherItems_108 ?_
        refine lv_icmp_ge (tgt := 182) hx hb dX4_gatherItems_111 (by decide) (fun c_23 => ?_) (fun c_23 => absurd (by decide +kernel) c_23)
        have hP9 := hP.sub (ws' := [(m0, .inr (4, [.ref w0, .ref s0, .ref f_toldAt, .ref f_sorts, .ref f_numbers, .ref f_seen, .ref f_seenNames, .int 0, .int 0, .int 0, .ref f_marks, .int 0, .int 0, .int 0, .int 0, .int 0, .int 0, .int (-1)])), (w0, .inr (10, [.ref f_source, .int 0, .int 1, .ref f_kinds, .ref f_places, .ref f_values, .ref f_notes, .ref f_meanings, .ref f_names, .ref f_slots, .int nm1, .int 0])), (f_kinds, .inl (cI, 16001, .inl kn)), (f_names, .inl (cJ, 4500, .inr (.inl nf1))), (f_slots, .inl (cI, 8192, .inl sf1)), (f_toldAt, .inl (cI, 4500, .inl toldAt_1)), (f_sorts, .inl (cI, 4500, .inl sorts_1)), (f_numbers, .inl (cI, 4500, .inl numbers_1)), (f_seen, .inl (cI, 4500, .inl u_8))]) [0, 8, 7, 1, 2, 4, 5, 3, 6] rfl
        have hD9 := hD.sub (ws' := [(m0, .inr (4, [.ref w0, .ref s0, .ref f_toldAt, .ref f_sorts, .ref f_numbers, .ref f_seen, .ref f_seenNames, .int 0, .int 0, .int 0, .ref f_marks, .int 0, .int 0, .int 0, .int 0, .int 0, .int 0, .int (-1)])), (w0, .inr (10, [.ref f_source, .int 0, .int 1, .ref f_kinds, .ref f_places, .ref f_values, .ref f_notes, .ref f_meanings, .ref f_names, .ref f_slots, .int nm1, .int 0])), (f_kinds, .inl (cI, 16001, .inl kn)), (f_names, .inl (cJ, 4500, .inr (.inl nf1))), (f_slots, .inl (cI, 8192, .inl sf1)), (f_toldAt, .inl (cI, 4500, .inl toldAt_1)), (f_sorts, .inl (cI, 4500, .inl sorts_1)), (f_numbers, .inl (cI, 4500, .inl numbers_1)), (f_seen, .inl (cI, 4500, .inl u_8))]) [0, 8, 7, 1, 2, 4, 5, 3, 6] (by decide +kernel) rfl
        refine W.widen (k := 0) (n := 0) (Nat.le_of_ble_eq_true rfl) (Nat.le_of_ble_eq_true rfl) ?_
        exact W.vret hx hb hr (fun t ht hW => ⟨⟨(nm1, nf1, sf1, toldAt_1, sorts_1, numbers_1, u_8), rfl, (hnm1), by rw [ht]; exact hP9, hD9⟩, hS.F ht⟩) hS.2.2 dX4_gatherItems_182
      · obtain ⟨q_24, vq_24, hRq_24, hSq_24⟩ := hE.2.2.2.2 _ (List.mem_of_getElem? (i := 20) rfl)
        refine va_ldcS (own := RX4) (tx := "look inventory wait take drop examine open close putin puton go ") hx hb hown hRq_24 dX4_gatherItems_36 ?_
        refine lv_iload_n hx hb dX4_gatherItems_38 rfl (lv_at hl 1 rfl) ?_
        have hPc := hP.sub (ws' := []) [] rfl
        have hDc := hD.sub (ws' := []) [] (by decide +kernel) rfl
        have hFc := va_free (wc := []) hD hS hA [] rfl
        refine g_ofi (wc := []) (wr := [(m0, .inr (4, [.ref w0, .ref s0, .ref f_toldAt, .ref f_sorts, .ref f_numbers, .ref f_seen, .ref f_seenNames, .int 0, .int 0, .int 0, .ref f_marks, .int 0, .int 0, .int 0, .int 0, .int 0, .int 0, .int (-1)])), (w0, .inr (10, [.ref f_source, .int 0, .int 1, .ref f_kinds, .ref f_places, .ref f_values, .ref f_notes, .ref f_meanings, .ref f_names, .ref f_slots, .int nm1, .int 0])), (f_kinds, .inl (cI, 16001, .inl kn)), (f_names, .inl (cJ, 4500, .inr (.inl nf1))), (f_slots, .inl (cI, 8192, .inl sf1)), (f_numbers, .inl (cI, 4500, .inl numbers_1)), (f_toldAt, .inl (cI, 4500, .inl toldAt_1)), (f_sorts, .inl (cI, 4500, .inl sorts_1)), (f_seen, .inl (cI, 4500, .inl u_8))]) hP hD hS hFc [] [0, 1, 2, 3, 4, 5, 6, 7, 8] rfl rfl (by decide +kernel) (by decide +kernel) (va_runSN (As := [.ref q_24, .int x1]) (rest := []) ⟨hx, hb, hml, hown, hts⟩ (c_X11_wordEnd l dC dI cB cC cI cJ cZ cP H.size q_24 x1 vq_24 [108, 111, 111, 107, 32, 105, 110, 118, 101, 110, 116, 111, 114, 121, 32, 119, 97, 105, 116, 32, 116, 97, 107, 101, 32, 100, 114, 111, 112, 32, 101, 120, 97, 109, 105, 110, 101, 32, 111, 112, 101, 110, 32, 99, 108, 111, 115, 101, 32, 112, 117, 116, 105, 110, 32, 112, 117, 116, 111, 110, 32, 103, 111, 32] ) ⟨va_cnB 2 hts (g_gA wq_355) rfl rfl rfl (hN.at 21 rfl) (hts (.initialized RX11) wq_1) (by decide +kernel) ⟨Nat.le_of_ble_eq_true rfl, Nat.le_of_ble_eq_true rfl⟩, (hts (.static yX11_wordEnd) wq_354), trivial⟩ (g_preS g_blS hK hPc hDc hS hE hFc (g_toS hSq_24 hS hFc)) rfl rfl hl.1 rfl (lv_room (Nat.le_of_ble_eq_true rfl)) dX4_gatherItems_39 ⟨Nat.le_of_ble_eq_true rfl, Nat.le_of_ble_eq_true rfl⟩) (fun r_27 u_26 H_28 locs w_25 hP' hD' hS' => ?_)
        clear hPc hDc hFc
        have w_25 : True := w_25
        replace hP : va_P (dC, dI) vwCl [(m0, .inr (4, [.ref w0, .ref s0, .ref f_toldAt, .ref f_sorts, .ref f_numbers, .ref f_seen, .ref f_seenNames, .int 0, .int 0, .int 0, .ref f_marks, .int 0, .int 0, .int 0, .int 0, .int 0, .int 0, .int (-1)])), (w0, .inr (10, [.ref f_source, .int 0, .int 1, .ref f_kinds, .ref f_places, .ref f_values, .ref f_notes, .ref f_meanings, .ref f_names, .ref f_slots, .int nm1, .int 0])), (f_kinds, .inl (cI, 16001, .inl kn)), (f_names, .inl (cJ, 4500, .inr (.inl nf1))), (f_slots, .inl (cI, 8192, .inl sf1)), (f_numbers, .inl (cI, 4500, .inl numbers_1)), (f_toldAt, .inl (cI, 4500, .inl toldAt_1)), (f_sorts, .inl (cI, 4500, .inl sorts_1)), (f_seen, .inl (cI, 4500, .inl u_8))] H_28 := hP'
        replace hD : va_D A [(m0, .inr (4, [.ref w0, .ref s0, .ref f_toldAt, .ref f_sorts, .ref f_numbers, .ref f_seen, .ref f_seenNames, .int 0, .int 0, .int 0, .ref f_marks, .int 0, .int 0, .int 0, .int 0, .int 0, .int 0, .int (-1)])), (w0, .inr (10, [.ref f_source, .int 0, .int 1, .ref f_kinds, .ref f_places, .ref f_values, .ref f_notes, .ref f_meanings, .ref f_names, .ref f_slots, .int nm1, .int 0])), (f_kinds, .inl (cI, 16001, .inl kn)), (f_names, .inl (cJ, 4500, .inr (.inl nf1))), (f_slots, .inl (cI, 8192, .inl sf1)), (f_numbers, .inl (cI, 4500, .inl numbers_1)), (f_toldAt, .inl (cI, 4500, .inl toldAt_1)), (f_sorts, .inl (cI, 4500, .inl sorts_1)), (f_seen, .inl (cI, 4500, .inl u_8))] := hD'
        replace hS := hS'
        clear hP' hD' hS'
        refine lv_istore_n (lv' := [(3, .int r_27), (0, .ref m0), (1, .int x1), (2, .int x2)]) hx hb dX4_gatherItems_42 rfl hl (by decide) rfl (fun ls hl => ?_)
        refine lv_aload_n hx hb dX4_gatherItems_43 rfl (lv_at hl 1 rfl) ?_
        refine va_get (D := (dC, dI)) (ci := 4) (v := .ref w0) (C := RX4) (T := TX4) (N := 18) hx hb hts ii_X4 hown hK hP 0 rfl rfl 0 (by decide) (hts (.fieldLink RX4 32 "StoryHouse$Meanings" "words" "LStoryHouse$Words;") wq_86) (fun _ h9 => h9) rfl dX4_gatherItems_44 ?_
        obtain ⟨q_29, vq_29, hRq_29, hSq_29⟩ := hE.2.2.2.2 _ (List.mem_of_getElem? (i := 20) rfl)
        refine va_ldcS (own := RX4) (tx := "look inventory wait take drop examine open close putin puton go ") hx hb hown hRq_29 dX4_gatherItems_47 ?_
        refine lv_iload_n hx hb dX4_gatherItems_49 rfl (lv_at hl 2 rfl) ?_
        refine lv_iload_n hx hb dX4_gatherItems_50 rfl (lv_at hl 0 rfl) ?_
        refine lv_bipush (v := 12) hx hb dX4_gatherItems_51 (by decide +kernel) ?_
        have hPc := hP.sub (ws' := []) [] rfl
        have hDc := hD.sub (ws' := []) [] (by decide +kernel) rfl
        have hFc := va_free (wc := []) hD hS hA [] rfl
        refine g_ofl (wc := []) (wr := [(m0, .inr (4, [.ref w0, .ref s0, .ref f_toldAt, .ref f_sorts, .ref f_numbers, .ref f_seen, .ref f_seenNames, .int 0, .int 0, .int 0, .ref f_marks, .int 0, .int 0, .int 0, .int 0, .int 0, .int 0, .int (-1)])), (w0, .inr (10, [.ref f_source, .int 0, .int 1, .ref f_kinds, .ref f_places, .ref f_values, .ref f_notes, .ref f_meanings, .ref f_names, .ref f_slots, .int nm1, .int 0])), (f_kinds, .inl (cI, 16001, .inl kn)), (f_names, .inl (cJ, 4500, .inr (.inl nf1))), (f_slots, .inl (cI, 8192, .inl sf1)), (f_numbers, .inl (cI, 4500, .inl numbers_1)), (f_toldAt, .inl (cI, 4500, .inl toldAt_1)), (f_sorts, .inl (cI, 4500, .inl sorts_1)), (f_seen, .inl (cI, 4500, .inl u_8))]) hP hD hS hFc [] [0, 1, 2, 3, 4, 5, 6, 7, 8] rfl rfl (by decide +kernel) (by decide +kernel) (va_runSN (As := [.ref q_29, .int x1, .int r_27, .int 12]) (rest := [.ref w0]) ⟨hx, hb, hml, hown, hts⟩ (c_X11_packed l dC dI cB cC cI cJ cZ cP H_28.size q_29 x1 r_27 12 vq_29 [108, 111, 111, 107, 32, 105, 110, 118, 101, 110, 116, 111, 114, 121, 32, 119, 97, 105, 116, 32, 116, 97, 107, 101, 32, 100, 114, 111, 112, 32, 101, 120, 97, 109, 105, 110, 101, 32, 111, 112, 101, 110, 32, 99, 108, 111, 115, 101, 32, 112, 117, 116, 105, 110, 32, 112, 117, 116, 111, 110, 32, 103, 111, 32] ) ⟨va_cnB 4 hts (g_gA wq_393) rfl rfl rfl (hN.at 22 rfl) (hts (.initialized RX11) wq_1) (by decide +kernel) ⟨Nat.le_of_ble_eq_true rfl, Nat.le_of_ble_eq_true rfl⟩, (hts (.static yX11_packed) wq_392), trivial⟩ (g_preS g_blS hK hPc hDc hS hE hFc (g_toS hSq_29 hS hFc)) rfl rfl hl.1 rfl (lv_room (Nat.le_of_ble_eq_true rfl)) dX4_gatherItems_53 ⟨Nat.le_of_ble_eq_true rfl, Nat.le_of_ble_eq_true rfl⟩) (fun y_32 u_31 H_33 locs w_30 hP' hD' hS' => ?_)
        clear hPc hDc hFc
        have w_30 : True := w_30
        replace hP : va_P (dC, dI) vwCl [(m0, .inr (4, [.ref w0, .ref s0, .ref f_toldAt, .ref f_sorts, .ref f_numbers, .ref f_seen, .ref f_seenNames, .int 0, .int 0, .int 0, .ref f_marks, .int 0, .int 0, .int 0, .int 0, .int 0, .int 0, .int (-1)])), (w0, .inr (10, [.ref f_source, .int 0, .int 1, .ref f_kinds, .ref f_places, .ref f_values, .ref f_notes, .ref f_meanings, .ref f_names, .ref f_slots, .int nm1, .int 0])), (f_kinds, .inl (cI, 16001, .inl kn)), (f_names, .inl (cJ, 4500, .inr (.inl nf1))), (f_slots, .inl (cI, 8192, .inl sf1)), (f_numbers, .inl (cI, 4500, .inl numbers_1)), (f_toldAt, .inl (cI, 4500, .inl toldAt_1)), (f_sorts, .inl (cI, 4500, .inl sorts_1)), (f_seen, .inl (cI, 4500, .inl u_8))] H_33 := hP'
        replace hD : va_D A [(m0, .inr (4, [.ref w0, .ref s0, .ref f_toldAt, .ref f_sorts, .ref f_numbers, .ref f_seen, .ref f_seenNames, .int 0, .int 0, .int 0, .ref f_marks, .int 0, .int 0, .int 0, .int 0, .int 0, .int 0, .int (-1)])), (w0, .inr (10, [.ref f_source, .int 0, .int 1, .ref f_kinds, .ref f_places, .ref f_values, .ref f_notes, .ref f_meanings, .ref f_names, .ref f_slots, .int nm1, .int 0])), (f_kinds, .inl (cI, 16001, .inl kn)), (f_names, .inl (cJ, 4500, .inr (.inl nf1))), (f_slots, .inl (cI, 8192, .inl sf1)), (f_numbers, .inl (cI, 4500, .inl numbers_1)), (f_toldAt, .inl (cI, 4500, .inl toldAt_1)), (f_sorts, .inl (cI, 4500, .inl sorts_1)), (f_seen, .inl (cI, 4500, .inl u_8))] := hD'
        replace hS := hS'
        clear hP' hD' hS'
        have hPc := hP.sub (ws' := [(w0, .inr (10, [.ref f_source, .int 0, .int 1, .ref f_kinds, .ref f_places, .ref f_values, .ref f_notes, .ref f_meanings, .ref f_names, .ref f_slots, .int nm1, .int 0])), (f_names, .inl (cJ, 4500, .inr (.inl nf1))), (f_slots, .inl (cI, 8192, .inl sf1))]) [1, 3, 4] rfl
        have hDc := hD.sub (ws' := [(w0, .inr (10, [.ref f_source, .int 0, .int 1, .ref f_kinds, .ref f_places, .ref f_values, .ref f_notes, .ref f_meanings, .ref f_names, .ref f_slots, .int nm1, .int 0])), (f_names, .inl (cJ, 4500, .inr (.inl nf1))), (f_slots, .inl (cI, 8192, .inl sf1))]) [1, 3, 4] (by decide +kernel) rfl
        have hFc := va_free (wc := [(w0, .inr (10, [.ref f_source, .int 0, .int 1, .ref f_kinds, .ref f_places, .ref f_values, .ref f_notes, .ref f_meanings, .ref f_names, .ref f_slots, .int nm1, .int 0])), (f_names, .inl (cJ, 4500, .inr (.inl nf1))), (f_slots, .inl (cI, 8192, .inl sf1))]) hD hS hA [1, 3, 4] rfl
        refine g_ofi (wc := [(w0, .inr (10, [.ref f_source, .int 0, .int 1, .ref f_kinds, .ref f_places, .ref f_values, .ref f_notes, .ref f_meanings, .ref f_names, .ref f_slots, .int nm1, .int 0])), (f_names, .inl (cJ, 4500, .inr (.inl nf1))), (f_slots, .inl (cI, 8192, .inl sf1))]) (wr := [(m0, .inr (4, [.ref w0, .ref s0, .ref f_toldAt, .ref f_sorts, .ref f_numbers, .ref f_seen, .ref f_seenNames, .int 0, .int 0, .int 0, .ref f_marks, .int 0, .int 0, .int 0, .int 0, .int 0, .int 0, .int (-1)])), (f_kinds, .inl (cI, 16001, .inl kn)), (f_numbers, .inl (cI, 4500, .inl numbers_1)), (f_toldAt, .inl (cI, 4500, .inl toldAt_1)), (f_sorts, .inl (cI, 4500, .inl sorts_1)), (f_seen, .inl (cI, 4500, .inl u_8))]) hP hD hS hFc [1, 3, 4] [0, 2, 5, 6, 7, 8] rfl rfl (by decide +kernel) (by decide +kernel) (va_runV (As := [.long y_32]) (rest := []) ⟨hx, hb, hml, hown, hts⟩ (c_X10_numberOf l dC dI cB cC cI cJ cZ cP H_33.size w0 f_source 0 1 f_kinds f_places f_values f_notes f_meanings f_names f_slots 0 nm1 nf1 sf1 y_32 (hnm1)) (cwV 1 hts (g_gV wq_713 wq_402 wq_403 wq_2 wq_404) rfl rfl rfl (by decide +kernel) ⟨Nat.le_of_ble_eq_true rfl, Nat.le_of_ble_eq_true rfl⟩) (g_preV g_bl0 hK hPc hDc hS hE hFc g_to0 (q0 := 0) (ci := 10) rfl rfl) rfl rfl hl.1 rfl (lv_room (Nat.le_of_ble_eq_true rfl)) dX4_gatherItems_56 ⟨Nat.le_of_ble_eq_true rfl, Nat.le_of_ble_eq_true rfl⟩) (fun r_36 u_35 H_37 locs w_34 hP' hD' hS' => ?_)
        clear hPc hDc hFc
        obtain ⟨o_38, o_39, o_40⟩ := u_35
        have w_34 : ¬ o_38 < 0 := w_34
        replace hP : va_P (dC, dI) vwCl [(m0, .inr (4, [.ref w0, .ref s0, .ref f_toldAt, .ref f_sorts, .ref f_numbers, .ref f_seen, .ref f_seenNames, .int 0, .int 0, .int 0, .ref f_marks, .int 0, .int 0, .int 0, .int 0, .int 0, .int 0, .int (-1)])), (f_kinds, .inl (cI, 16001, .inl kn)), (f_numbers, .inl (cI, 4500, .inl numbers_1)), (f_toldAt, .inl (cI, 4500, .inl toldAt_1)), (f_sorts, .inl (cI, 4500, .inl sorts_1)), (f_seen, .inl (cI, 4500, .inl u_8)), (w0, .inr (10, [.ref f_source, .int 0, .int 1, .ref f_kinds, .ref f_places, .ref f_values, .ref f_notes, .ref f_meanings, .ref f_names, .ref f_slots, .int o_38, .int 0])), (f_names, .inl (cJ, 4500, .inr (.inl o_39))), (f_slots, .inl (cI, 8192, .inl o_40))] H_37 := hP'
        replace hD : va_D A [(m0, .inr (4, [.ref w0, .ref s0, .ref f_toldAt, .ref f_sorts, .ref f_numbers, .ref f_seen, .ref f_seenNames, .int 0, .int 0, .int 0, .ref f_marks, .int 0, .int 0, .int 0, .int 0, .int 0, .int 0, .int (-1)])), (f_kinds, .inl (cI, 16001, .inl kn)), (f_numbers, .inl (cI, 4500, .inl numbers_1)), (f_toldAt, .inl (cI, 4500, .inl toldAt_1)), (f_sorts, .inl (cI, 4500, .inl sorts_1)), (f_seen, .inl (cI, 4500, .inl u_8)), (w0, .inr (10, [.ref f_source, .int 0, .int 1, .ref f_kinds, .ref f_places, .ref f_values, .ref f_notes, .ref f_meanings, .ref f_names, .ref f_slots, .int o_38, .int 0])), (f_names, .inl (cJ, 4500, .inr (.inl o_39))), (f_slots, .inl (cI, 8192, .inl o_40))] := hD'
        replace hS := hS'
        clear hP' hD' hS'
        refine lv_istore (lv' := [(4, .int r_36), (3, .int r_27), (0, .ref m0), (1, .int x1), (2, .int x2)]) hx hb dX4_gatherItems_59 hl (by decide) rfl (fun ls hl => ?_)
        refine lv_aload_n hx hb dX4_gatherItems_61 rfl (lv_at hl 2 rfl) ?_
        refine va_get (D := (dC, dI)) (ci := 4) (v := .ref f_toldAt) (C := RX4) (T := TX4) (N := 18) hx hb hts ii_X4 hown hK hP 0 rfl rfl 2 (by decide) (hts (.fieldLink RX4 11 "StoryHouse$Meanings" "toldAt" "[I") wq_88) (fun _ h9 => h9) rfl dX4_gatherItems_62 ?_
        refine lv_iload hx hb dX4_gatherItems_65 (lv_at hl 0 rfl) ?_
        refine lv_iconst (v := 0) hx hb dX4_gatherItems_67 (by decide +kernel) ?_
        have hPc := hP.sub (ws' := [(f_toldAt, .inl (cI, 4500, .inl toldAt_1))]) [3] rfl
        have hDc := hD.sub (ws' := [(f_toldAt, .inl (cI, 4500, .inl toldAt_1))]) [3] (by decide +kernel) rfl
        have hFc := va_free (wc := [(f_toldAt, .inl (cI, 4500, .inl toldAt_1))]) hD hS hA [3] rfl
        refine g_ofv (wc := [(f_toldAt, .inl (cI, 4500, .inl toldAt_1))]) (wr := [(m0, .inr (4, [.ref w0, .ref s0, .ref f_toldAt, .ref f_sorts, .ref f_numbers, .ref f_seen, .ref f_seenNames, .int 0, .int 0, .int 0, .ref f_marks, .int 0, .int 0, .int 0, .int 0, .int 0, .int 0, .int (-1)])), (f_kinds, .inl (cI, 16001, .inl kn)), (f_numbers, .inl (cI, 4500, .inl numbers_1)), (f_sorts, .inl (cI, 4500, .inl sorts_1)), (f_seen, .inl (cI, 4500, .inl u_8)), (w0, .inr (10, [.ref f_source, .int 0, .int 1, .ref f_kinds, .ref f_places, .ref f_values, .ref f_notes, .ref f_meanings, .ref f_names, .ref f_slots, .int o_38, .int 0])), (f_names, .inl (cJ, 4500, .inr (.inl o_39))), (f_slots, .inl (cI, 8192, .inl o_40))]) hP hD hS hFc [3] [0, 1, 2, 4, 5, 6, 7, 8] rfl rfl (by decide +kernel) (by decide +kernel) (va_runSN (As := [.ref f_toldAt, .int r_36, .int 0]) (rest := []) ⟨hx, hb, hml, hown, hts⟩ (c_X11_put l dC dI cB cC cI cJ cZ cP H_37.size f_toldAt r_36 0 4500 toldAt_1 (by decide)) ⟨va_cnB 3 hts (g_gA wq_412) rfl rfl rfl (hN.at 23 rfl) (hts (.initialized RX11) wq_1) (by decide +kernel) ⟨Nat.le_of_ble_eq_true rfl, Nat.le_of_ble_eq_true rfl⟩, (hts (.static yX11_put) wq_411), trivial⟩ (g_preS g_bl0 hK hPc hDc hS hE hFc g_to0) rfl rfl hl.1 rfl (lv_room (Nat.le_of_ble_eq_true rfl)) dX4_gatherItems_68 ⟨Nat.le_of_ble_eq_true rfl, Nat.le_of_ble_eq_true rfl⟩) (fun u_42 H_43 locs w_41 hP' hD' hS' => ?_)
        clear hPc hDc hFc
        have w_41 : u_42 = g_put 4500 toldAt_1 r_36 0 := w_41
        replace hP : va_P (dC, dI) vwCl [(m0, .inr (4, [.ref w0, .ref s0, .ref f_toldAt, .ref f_sorts, .ref f_numbers, .ref f_seen, .ref f_seenNames, .int 0, .int 0, .int 0, .ref f_marks, .int 0, .int 0, .int 0, .int 0, .int 0, .int 0, .int (-1)])), (f_kinds, .inl (cI, 16001, .inl kn)), (f_numbers, .inl (cI, 4500, .inl numbers_1)), (f_sorts, .inl (cI, 4500, .inl sorts_1)), (f_seen, .inl (cI, 4500, .inl u_8)), (w0, .inr (10, [.ref f_source, .int 0, .int 1, .ref f_kinds, .ref f_places, .ref f_values, .ref f_notes, .ref f_meanings, .ref f_names, .ref f_slots, .int o_38, .int 0])), (f_names, .inl (cJ, 4500, .inr (.inl o_39))), (f_slots, .inl (cI, 8192, .inl o_40)), (f_toldAt, .inl (cI, 4500, .inl u_42))] H_43 := hP'
        replace hD : va_D A [(m0, .inr (4, [.ref w0, .ref s0, .ref f_toldAt, .ref f_sorts, .ref f_numbers, .ref f_seen, .ref f_seenNames, .int 0, .int 0, .int 0, .ref f_marks, .int 0, .int 0, .int 0, .int 0, .int 0, .int 0, .int (-1)])), (f_kinds, .inl (cI, 16001, .inl kn)), (f_numbers, .inl (cI, 4500, .inl numbers_1)), (f_sorts, .inl (cI, 4500, .inl sorts_1)), (f_seen, .inl (cI, 4500, .inl u_8)), (w0, .inr (10, [.ref f_source, .int 0, .int 1, .ref f_kinds, .ref f_places, .ref f_values, .ref f_notes, .ref f_meanings, .ref f_names, .ref f_slots, .int o_38, .int 0])), (f_names, .inl (cJ, 4500, .inr (.inl o_39))), (f_slots, .inl (cI, 8192, .inl o_40)), (f_toldAt, .inl (cI, 4500, .inl u_42))] := hD'
        replace hS := hS'
        clear hP' hD' hS'
        refine lv_aload_n hx hb dX4_gatherItems_71 rfl (lv_at hl 2 rfl) ?_
        refine va_get (D := (dC, dI)) (ci := 4) (v := .ref f_sorts) (C := RX4) (T := TX4) (N := 18) hx hb hts ii_X4 hown hK hP 0 rfl rfl 3 (by decide) (hts (.fieldLink RX4 17 "StoryHouse$Meanings" "sorts" "[I") wq_89) (fun _ h9 => h9) rfl dX4_gatherItems_72 ?_
        refine lv_iload hx hb dX4_gatherItems_75 (lv_at hl 0 rfl) ?_
        refine lv_iconst (v := 3) hx hb dX4_gatherItems_77 (by decide +kernel) ?_
        have hPc := hP.sub (ws' := [(f_sorts, .inl (cI, 4500, .inl sorts_1))]) [3] rfl
        have hDc := hD.sub (ws' := [(f_sorts, .inl (cI, 4500, .inl sorts_1))]) [3] (by decide +kernel) rfl
        have hFc := va_free (wc := [(f_sorts, .inl (cI, 4500, .inl sorts_1))]) hD hS hA [3] rfl
        refine g_ofv (wc := [(f_sorts, .inl (cI, 4500, .inl sorts_1))]) (wr := [(m0, .inr (4, [.ref w0, .ref s0, .ref f_toldAt, .ref f_sorts, .ref f_numbers, .ref f_seen, .ref f_seenNames, .int 0, .int 0, .int 0, .ref f_marks, .int 0, .int 0, .int 0, .int 0, .int 0, .int 0, .int (-1)])), (f_kinds, .inl (cI, 16001, .inl kn)), (f_numbers, .inl (cI, 4500, .inl numbers_1)), (f_seen, .inl (cI, 4500, .inl u_8)), (w0, .inr (10, [.ref f_source, .int 0, .int 1, .ref f_kinds, .ref f_places, .ref f_values, .ref f_notes, .ref f_meanings, .ref f_names, .ref f_slots, .int o_38, .int 0])), (f_names, .inl (cJ, 4500, .inr (.inl o_39))), (f_slots, .inl (cI, 8192, .inl o_40)), (f_toldAt, .inl (cI, 4500, .inl u_42))]) hP hD hS hFc [3] [0, 1, 2, 4, 5, 6, 7, 8] rfl rfl (by decide +kernel) (by decide +kernel) (va_runSN (As := [.ref f_sorts, .int r_36, .int 3]) (rest := []) ⟨hx, hb, hml, hown, hts⟩ (c_X11_put l dC dI cB cC cI cJ cZ cP H_43.size f_sorts r_36 3 4500 sorts_1 (by decide)) ⟨va_cnB 3 hts (g_gA wq_412) rfl rfl rfl (hN.at 23 rfl) (hts (.initialized RX11) wq_1) (by decide +kernel) ⟨Nat.le_of_ble_eq_true rfl, Nat.le_of_ble_eq_true rfl⟩, (hts (.static yX11_put) wq_411), trivial⟩ (g_preS g_bl0 hK hPc hDc hS hE hFc g_to0) rfl rfl hl.1 rfl (lv_room (Nat.le_of_ble_eq_true rfl)) dX4_gatherItems_78 ⟨Nat.le_of_ble_eq_true rfl, Nat.le_of_ble_eq_true rfl⟩) (fun u_45 H_46 locs w_44 hP' hD' hS' => ?_)
        clear hPc hDc hFc
        have w_44 : u_45 = g_put 4500 sorts_1 r_36 3 := w_44
        replace hP : va_P (dC, dI) vwCl [(m0, .inr (4, [.ref w0, .ref s0, .ref f_toldAt, .ref f_sorts, .ref f_numbers, .ref f_seen, .ref f_seenNames, .int 0, .int 0, .int 0, .ref f_marks, .int 0, .int 0, .int 0, .int 0, .int 0, .int 0, .int (-1)])), (f_kinds, .inl (cI, 16001, .inl kn)), (f_numbers, .inl (cI, 4500, .inl numbers_1)), (f_seen, .inl (cI, 4500, .inl u_8)), (w0, .inr (10, [.ref f_source, .int 0, .int 1, .ref f_kinds, .ref f_places, .ref f_values, .ref f_notes, .ref f_meanings, .ref f_names, .ref f_slots, .int o_38, .int 0])), (f_names, .inl (cJ, 4500, .inr (.inl o_39))), (f_slots, .inl (cI, 8192, .inl o_40)), (f_toldAt, .inl (cI, 4500, .inl u_42)), (f_sorts, .inl (cI, 4500, .inl u_45))] H_46 := hP'
        replace hD : va_D A [(m0, .inr (4, [.ref w0, .ref s0, .ref f_toldAt, .ref f_sorts, .ref f_numbers, .ref f_seen, .ref f_seenNames, .int 0, .int 0, .int 0, .ref f_marks, .int 0, .int 0, .int 0, .int 0, .int 0, .int 0, .int (-1)])), (f_kinds, .inl (cI, 16001, .inl kn)), (f_numbers, .inl (cI, 4500, .inl numbers_1)), (f_seen, .inl (cI, 4500, .inl u_8)), (w0, .inr (10, [.ref f_source, .int 0, .int 1, .ref f_kinds, .ref f_places, .ref f_values, .ref f_notes, .ref f_meanings, .ref f_names, .ref f_slots, .int o_38, .int 0])), (f_names, .inl (cJ, 4500, .inr (.inl o_39))), (f_slots, .inl (cI, 8192, .inl o_40)), (f_toldAt, .inl (cI, 4500, .inl u_42)), (f_sorts, .inl (cI, 4500, .inl u_45))] := hD'
        replace hS := hS'
        clear hP' hD' hS'
        refine lv_aload_n hx hb dX4_gatherItems_81 rfl (lv_at hl 2 rfl) ?_
        refine va_get (D := (dC, dI)) (ci := 4) (v := .ref f_numbers) (C := RX4) (T := TX4) (N := 18) hx hb hts ii_X4 hown hK hP 0 rfl rfl 4 (by decide) (hts (.fieldLink RX4 20 "StoryHouse$Meanings" "numbers" "[I") wq_90) (fun _ h9 => h9) rfl dX4_gatherItems_82 ?_
        refine lv_iload hx hb dX4_gatherItems_85 (lv_at hl 0 rfl) ?_
        refine lv_iload_n hx hb dX4_gatherItems_87 rfl (lv_at hl 4 rfl) ?_
        have hPc := hP.sub (ws' := [(f_numbers, .inl (cI, 4500, .inl numbers_1))]) [2] rfl
        have hDc := hD.sub (ws' := [(f_numbers, .inl (cI, 4500, .inl numbers_1))]) [2] (by decide +kernel) rfl
        have hFc := va_free (wc := [(f_numbers, .inl (cI, 4500, .inl numbers_1))]) hD hS hA [2] rfl
        refine g_ofv (wc := [(f_numbers, .inl (cI, 4500, .inl numbers_1))]) (wr := [(m0, .inr (4, [.ref w0, .ref s0, .ref f_toldAt, .ref f_sorts, .ref f_numbers, .ref f_seen, .ref f_seenNames, .int 0, .int 0, .int 0, .ref f_marks, .int 0, .int 0, .int 0, .int 0, .int 0, .int 0, .int (-1)])), (f_kinds, .inl (cI, 16001, .inl kn)), (f_seen, .inl (cI, 4500, .inl u_8)), (w0, .inr (10, [.ref f_source, .int 0, .int 1, .ref f_kinds, .ref f_places, .ref f_values, .ref f_notes, .ref f_meanings, .ref f_names, .ref f_slots, .int o_38, .int 0])), (f_names, .inl (cJ, 4500, .inr (.inl o_39))), (f_slots, .inl (cI, 8192, .inl o_40)), (f_toldAt, .inl (cI, 4500, .inl u_42)), (f_sorts, .inl (cI, 4500, .inl u_45))]) hP hD hS hFc [2] [0, 1, 3, 4, 5, 6, 7, 8] rfl rfl (by decide +kernel) (by decide +kernel) (va_runSN (As := [.ref f_numbers, .int r_36, .int x2]) (rest := []) ⟨hx, hb, hml, hown, hts⟩ (c_X11_put l dC dI cB cC cI cJ cZ cP H_46.size f_numbers r_36 x2 4500 numbers_1 (by decide)) ⟨va_cnB 3 hts (g_gA wq_412) rfl rfl rfl (hN.at 23 rfl) (hts (.initialized RX11) wq_1) (by decide +kernel) ⟨Nat.le_of_ble_eq_true rfl, Nat.le_of_ble_eq_true rfl⟩, (hts (.static yX11_put) wq_411), trivial⟩ (g_preS g_bl0 hK hPc hDc hS hE hFc g_to0) rfl rfl hl.1 rfl (lv_room (Nat.le_of_ble_eq_true rfl)) dX4_gatherItems_88 ⟨Nat.le_of_ble_eq_true rfl, Nat.le_of_ble_eq_true rfl⟩) (fun u_48 H_49 locs w_47 hP' hD' hS' => ?_)
        clear hPc hDc hFc
        have w_47 : u_48 = g_put 4500 numbers_1 r_36 x2 := w_47
        replace hP : va_P (dC, dI) vwCl [(m0, .inr (4, [.ref w0, .ref s0, .ref f_toldAt, .ref f_sorts, .ref f_numbers, .ref f_seen, .ref f_seenNames, .int 0, .int 0, .int 0, .ref f_marks, .int 0, .int 0, .int 0, .int 0, .int 0, .int 0, .int (-1)])), (f_kinds, .inl (cI, 16001, .inl kn)), (f_seen, .inl (cI, 4500, .inl u_8)), (w0, .inr (10, [.ref f_source, .int 0, .int 1, .ref f_kinds, .ref f_places, .ref f_values, .ref f_notes, .ref f_meanings, .ref f_names, .ref f_slots, .int o_38, .int 0])), (f_names, .inl (cJ, 4500, .inr (.inl o_39))), (f_slots, .inl (cI, 8192, .inl o_40)), (f_toldAt, .inl (cI, 4500, .inl u_42)), (f_sorts, .inl (cI, 4500, .inl u_45)), (f_numbers, .inl (cI, 4500, .inl u_48))] H_49 := hP'
        replace hD : va_D A [(m0, .inr (4, [.ref w0, .ref s0, .ref f_toldAt, .ref f_sorts, .ref f_numbers, .ref f_seen, .ref f_seenNames, .int 0, .int 0, .int 0, .ref f_marks, .int 0, .int 0, .int 0, .int 0, .int 0, .int 0, .int (-1)])), (f_kinds, .inl (cI, 16001, .inl kn)), (f_seen, .inl (cI, 4500, .inl u_8)), (w0, .inr (10, [.ref f_source, .int 0, .int 1, .ref f_kinds, .ref f_places, .ref f_values, .ref f_notes, .ref f_meanings, .ref f_names, .ref f_slots, .int o_38, .int 0])), (f_names, .inl (cJ, 4500, .inr (.inl o_39))), (f_slots, .inl (cI, 8192, .inl o_40)), (f_toldAt, .inl (cI, 4500, .inl u_42)), (f_sorts, .inl (cI, 4500, .inl u_45)), (f_numbers, .inl (cI, 4500, .inl u_48))] := hD'
        replace hS := hS'
        clear hP' hD' hS'
        refine lv_iload_n hx hb dX4_gatherItems_91 rfl (lv_at hl 1 rfl) ?_
        refine lv_iconst (v := 1) hx hb dX4_gatherItems_92 (by decide +kernel) ?_
        refine lv_iadd hx hb dX4_gatherItems_93 ?_
        refine lv_topi (fun x_50 ex_50 => ?_)
        refine lv_istore_n (lv' := [(1, .int x_50), (4, .int r_36), (3, .int r_27), (0, .ref m0), (2, .int x2)]) hx hb dX4_gatherItems_94 rfl hl (by decide) rfl (fun ls hl => ?_)
        obtain ⟨x_51, ex_51⟩ : ∃ y : Int32, y = x2 + 1 := ⟨_, rfl⟩
        refine lv_iinc (v := x_51) (lv' := [(2, .int x_51), (1, .int x_50), (4, .int r_36), (3, .int r_27), (0, .ref m0)]) hx hb dX4_gatherItems_95 hl (k := 4) rfl (by rw [ex_51]; rfl) (by decide) rfl (fun ls hl => ?_)
        refine lv_goto (tgt := 30) hx hb dX4_gatherItems_98 (by decide) ?_
        exact ih x_50 x_51 o_38 o_39 o_40 u_42 u_45 u_48 (by assumption) (Nat.lt_of_lt_of_le (g_mu2 (n := 11) (by decide +kernel) (by assumption) ex_51) (Nat.le_of_lt_succ hfu)) _ _ (hP.sub [0, 3, 1, 4, 5, 8, 6, 7, 2] rfl) (hD.sub [0, 3, 1, 4, 5, 8, 6, 7, 2] (by decide +kernel) rfl) hS ls (lv_sub hl [4, 1, 0] rfl)
  exact LOOP_10 _ 0 1 nm nf sf u_2 u_5 numbers_a hnm (Nat.lt_succ_self _) _ _ hP hD hS ls (lv_sub hl [2, 1, 0] rfl)

abbrev ww_X4_startGoing (cB cC cI cJ cZ cP : ClassId) (m0 : Nat) (f_toldAt : Nat) (f_sorts : Nat) (f_numbers : Nat) (f_seen : Nat) (f_seenNames : Nat) (f_marks : Nat) (s0 : Nat) (w0 : Nat) : va_W := [(m0, .inr (4, [.ref w0, .ref s0, .ref f_toldAt, .ref f_sorts, .ref f_numbers, .ref f_seen, .ref f_seenNames, .int 0, .int 0, .int 0, .ref f_marks, .int 0, .int 0, .int 0, .int 0, .int 0, .int 0, .int (-1)]))]
abbrev q_X4_startGoing (dC : Nat → ClassId) (dI : Nat → Nat → Nat) (cB cC cI cJ cZ cP : ClassId) (m0 : Nat) (f_toldAt : Nat) (f_sorts : Nat) (f_numbers : Nat) (f_seen : Nat) (f_seenNames : Nat) (f_marks : Nat) (s0 : Nat) (w0 : Nat) (A : Nat → Prop) : Array Value → State → Outcome → State → Prop := va_Qv (fun (_ : Unit) => True) (g_Bo (dC, dI) A (fun (_ : Unit) => [(m0, .inr (4, [.ref w0, .ref s0, .ref f_toldAt, .ref f_sorts, .ref f_numbers, .ref f_seen, .ref f_seenNames, .int 0, .int 0, .int (-1), .ref f_marks, .int 0, .int 0, .int 0, .int 0, .int 0, .int 0, .int (-1)]))])) A
set_option maxHeartbeats 4000000 in
set_option maxRecDepth 100000 in
theorem c_X4_startGoing (l : Launch) (dC : Nat → ClassId) (dI : Nat → Nat → Nat) (cB cC cI cJ cZ cP : ClassId) (sz : Nat) (m0 : Nat) (f_toldAt : Nat) (f_sorts : Nat) (f_numbers : Nat) (f_seen : Nat) (f_seenNames : Nat) (f_marks : Nat) (s0 : Nat) (w0 : Nat)  : Met l yX4_startGoing (g_ws yX4_startGoing cX4_startGoing 1 none) ({ frames := 1, cells := 0, slots := 0, locals := 40 }) (va_Pc [.ref m0] (g_B (dC, dI) [(cB, .byte), (cC, .char), (cI, .int), (cJ, .long), (cZ, .boolean), (cP, .object "StoryHouse$Play")] sz (ww_X4_startGoing cB cC cI cJ cZ cP m0 f_toldAt f_sorts f_numbers f_seen f_seenNames f_marks s0 w0) g_0)) (q_X4_startGoing dC dI cB cC cI cJ cZ cP m0 f_toldAt f_sorts f_numbers f_seen f_seenNames f_marks s0 w0 (va_A (ww_X4_startGoing cB cC cI cJ cZ cP m0 f_toldAt f_sorts f_numbers f_seen f_seenNames f_marks s0 w0) sz)) 0 0 (va_A (ww_X4_startGoing cB cC cI cJ cZ cP m0 f_toldAt f_sorts f_numbers f_seen f_seenNames f_marks s0 w0) sz) := by
  refine Met.ofW (cc := cX4_startGoing) (maxL := 1) (ret := none) (by decide) rfl ?_
  intro p e s m args below meth c s₁ B hml hv
  obtain ⟨rfl, hsz, hP, hK, hD0, hE, hX⟩ := hv
  have hx := B.exec
  have hb := B.bytes
  have hr := B.returns
  have hts0 := atoms_spec (ws := (g_ws yX4_startGoing cX4_startGoing 1 none)) B.pre
  have hts : ∀ w ∈ lw_good, w.before ([.ref m0] : List Value).toArray s = true := fun w h => hts0 w (List.mem_cons_of_mem _ h)
  have hown : s.vm.findClass RX4 = some m.cls := findClass_of_methodNamed B.named
  have hlocks := B.notSynchronized
  subst hsz
  have hD := hD0.self (sz := s.heap.size)
  generalize hAe : va_A (ww_X4_startGoing cB cC cI cJ cZ cP m0 f_toldAt f_sorts f_numbers f_seen f_seenNames f_marks s0 w0) s.heap.size = A at hD hE hX ⊢
  have hA : ∀ q : Nat, s.heap.size ≤ q → A q := fun q h => by rw [← hAe]; exact Or.inr h
  have hN := hE.1
  have hS : va_S A s.heap s.heap [] := va_S.rf
  have hP : va_P (dC, dI) vwCl [(m0, .inr (4, [.ref w0, .ref s0, .ref f_toldAt, .ref f_sorts, .ref f_numbers, .ref f_seen, .ref f_seenNames, .int 0, .int 0, .int 0, .ref f_marks, .int 0, .int 0, .int 0, .int 0, .int 0, .int 0, .int (-1)]))] s.heap := hP
  have hl := lv_entry ([.ref m0]) (n := 1) (Nat.le_of_ble_eq_true rfl)
  rw [lg_entry_eq]
  generalize (lg_sl ([.ref m0]) ++ List.replicate (1 - (lg_sl ([.ref m0])).length) Slot.unset).toArray = ls at hl ⊢
  have hl : lv_has ls 1 [(0, .ref m0)] := hl
  refine lv_aload_n hx hb dX4_startGoing_0 rfl (lv_at hl 0 rfl) ?_
  refine lv_iconst (v := 0) hx hb dX4_startGoing_1 (by decide +kernel) ?_
  refine va_put (D := (dC, dI)) (ci := 4) (v := .int 0) (ty := .int) (C := RX4) (T := TX4) (N := 18) hx hb hts ii_X4 tyX4 tyX4_ok nmX4 hown hK hP hD hS 0 rfl rfl 7 (by decide) (hts (.fieldLink RX4 126 "StoryHouse$Meanings" "seenCount" "I") wq_93) (fun _ h9 => h9) rfl (by decide +kernel) rfl rfl (Nat.le_of_ble_eq_true rfl) dX4_startGoing_2 (fun H_1 locs hP' hD' hS' => ?_)
  replace hP : va_P (dC, dI) vwCl [(m0, .inr (4, [.ref w0, .ref s0, .ref f_toldAt, .ref f_sorts, .ref f_numbers, .ref f_seen, .ref f_seenNames, .int 0, .int 0, .int 0, .ref f_marks, .int 0, .int 0, .int 0, .int 0, .int 0, .int 0, .int (-1)]))] H_1 := hP'
  replace hD : va_D A [(m0, .inr (4, [.ref w0, .ref s0, .ref f_toldAt, .ref f_sorts, .ref f_numbers, .ref f_seen, .ref f_seenNames, .int 0, .int 0, .int 0, .ref f_marks, .int 0, .int 0, .int 0, .int 0, .int 0, .int 0, .int (-1)]))] := hD'
  replace hS := hS'
  clear hP' hD' hS'
  refine lv_aload_n hx hb dX4_startGoing_5 rfl (lv_at hl 0 rfl) ?_
  refine lv_iconst (v := 0) hx hb dX4_startGoing_6 (by decide +kernel) ?_
  refine va_put (D := (dC, dI)) (ci := 4) (v := .int 0) (ty := .int) (C := RX4) (T := TX4) (N := 18) hx hb hts ii_X4 tyX4 tyX4_ok nmX4 hown hK hP hD hS 0 rfl rfl 8 (by decide) (hts (.fieldLink RX4 129 "StoryHouse$Meanings" "slots" "I") wq_94) (fun _ h9 => h9) rfl (by decide +kernel) rfl rfl (Nat.le_of_ble_eq_true rfl) dX4_startGoing_7 (fun H_2 locs hP' hD' hS' => ?_)
  replace hP : va_P (dC, dI) vwCl [(m0, .inr (4, [.ref w0, .ref s0, .ref f_toldAt, .ref f_sorts, .ref f_numbers, .ref f_seen, .ref f_seenNames, .int 0, .int 0, .int 0, .ref f_marks, .int 0, .int 0, .int 0, .int 0, .int 0, .int 0, .int (-1)]))] H_2 := hP'
  replace hD : va_D A [(m0, .inr (4, [.ref w0, .ref s0, .ref f_toldAt, .ref f_sorts, .ref f_numbers, .ref f_seen, .ref f_seenNames, .int 0, .int 0, .int 0, .ref f_marks, .int 0, .int 0, .int 0, .int 0, .int 0, .int 0, .int (-1)]))] := hD'
  replace hS := hS'
  clear hP' hD' hS'
  refine lv_aload_n hx hb dX4_startGoing_10 rfl (lv_at hl 0 rfl) ?_
  refine lv_iconst (v := (-1)) hx hb dX4_startGoing_11 (by decide +kernel) ?_
  refine va_put (D := (dC, dI)) (ci := 4) (v := .int (-1)) (ty := .int) (C := RX4) (T := TX4) (N := 18) hx hb hts ii_X4 tyX4 tyX4_ok nmX4 hown hK hP hD hS 0 rfl rfl 9 (by decide) (hts (.fieldLink RX4 132 "StoryHouse$Meanings" "pendingLet" "I") wq_95) (fun _ h9 => h9) rfl (by decide +kernel) rfl rfl (Nat.le_of_ble_eq_true rfl) dX4_startGoing_12 (fun H_3 locs hP' hD' hS' => ?_)
  replace hP : va_P (dC, dI) vwCl [(m0, .inr (4, [.ref w0, .ref s0, .ref f_toldAt, .ref f_sorts, .ref f_numbers, .ref f_seen, .ref f_seenNames, .int 0, .int 0, .int (-1), .ref f_marks, .int 0, .int 0, .int 0, .int 0, .int 0, .int 0, .int (-1)]))] H_3 := hP'
  replace hD : va_D A [(m0, .inr (4, [.ref w0, .ref s0, .ref f_toldAt, .ref f_sorts, .ref f_numbers, .ref f_seen, .ref f_seenNames, .int 0, .int 0, .int (-1), .ref f_marks, .int 0, .int 0, .int 0, .int 0, .int 0, .int 0, .int (-1)]))] := hD'
  replace hS := hS'
  clear hP' hD' hS'
  refine lv_aload_n hx hb dX4_startGoing_15 rfl (lv_at hl 0 rfl) ?_
  refine lv_iconst (v := 0) hx hb dX4_startGoing_16 (by decide +kernel) ?_
  refine va_put (D := (dC, dI)) (ci := 4) (v := .int 0) (ty := .int) (C := RX4) (T := TX4) (N := 18) hx hb hts ii_X4 tyX4 tyX4_ok nmX4 hown hK hP hD hS 0 rfl rfl 11 (by decide) (hts (.fieldLink RX4 66 "StoryHouse$Meanings" "depth" "I") wq_97) (fun _ h9 => h9) rfl (by decide +kernel) rfl rfl (Nat.le_of_ble_eq_true rfl) dX4_startGoing_17 (fun H_4 locs hP' hD' hS' => ?_)
  replace hP : va_P (dC, dI) vwCl [(m0, .inr (4, [.ref w0, .ref s0, .ref f_toldAt, .ref f_sorts, .ref f_numbers, .ref f_seen, .ref f_seenNames, .int 0, .int 0, .int (-1), .ref f_marks, .int 0, .int 0, .int 0, .int 0, .int 0, .int 0, .int (-1)]))] H_4 := hP'
  replace hD : va_D A [(m0, .inr (4, [.ref w0, .ref s0, .ref f_toldAt, .ref f_sorts, .ref f_numbers, .ref f_seen, .ref f_seenNames, .int 0, .int 0, .int (-1), .ref f_marks, .int 0, .int 0, .int 0, .int 0, .int 0, .int 0, .int (-1)]))] := hD'
  replace hS := hS'
  clear hP' hD' hS'
  refine lv_aload_n hx hb dX4_startGoing_20 rfl (lv_at hl 0 rfl) ?_
  refine lv_iconst (v := 0) hx hb dX4_startGoing_21 (by decide +kernel) ?_
  refine va_put (D := (dC, dI)) (ci := 4) (v := .int 0) (ty := .int) (C := RX4) (T := TX4) (N := 18) hx hb hts ii_X4 tyX4 tyX4_ok nmX4 hown hK hP hD hS 0 rfl rfl 12 (by decide) (hts (.fieldLink RX4 63 "StoryHouse$Meanings" "routine" "I") wq_98) (fun _ h9 => h9) rfl (by decide +kernel) rfl rfl (Nat.le_of_ble_eq_true rfl) dX4_startGoing_22 (fun H_5 locs hP' hD' hS' => ?_)
  replace hP : va_P (dC, dI) vwCl [(m0, .inr (4, [.ref w0, .ref s0, .ref f_toldAt, .ref f_sorts, .ref f_numbers, .ref f_seen, .ref f_seenNames, .int 0, .int 0, .int (-1), .ref f_marks, .int 0, .int 0, .int 0, .int 0, .int 0, .int 0, .int (-1)]))] H_5 := hP'
  replace hD : va_D A [(m0, .inr (4, [.ref w0, .ref s0, .ref f_toldAt, .ref f_sorts, .ref f_numbers, .ref f_seen, .ref f_seenNames, .int 0, .int 0, .int (-1), .ref f_marks, .int 0, .int 0, .int 0, .int 0, .int 0, .int 0, .int (-1)]))] := hD'
  replace hS := hS'
  clear hP' hD' hS'
  refine lv_aload_n hx hb dX4_startGoing_25 rfl (lv_at hl 0 rfl) ?_
  refine lv_iconst (v := 0) hx hb dX4_startGoing_26 (by decide +kernel) ?_
  refine va_put (D := (dC, dI)) (ci := 4) (v := .int 0) (ty := .int) (C := RX4) (T := TX4) (N := 18) hx hb hts ii_X4 tyX4 tyX4_ok nmX4 hown hK hP hD hS 0 rfl rfl 15 (by decide) (hts (.fieldLink RX4 135 "StoryHouse$Meanings" "ons" "I") wq_101) (fun _ h9 => h9) rfl (by decide +kernel) rfl rfl (Nat.le_of_ble_eq_true rfl) dX4_startGoing_27 (fun H_6 locs hP' hD' hS' => ?_)
  replace hP : va_P (dC, dI) vwCl [(m0, .inr (4, [.ref w0, .ref s0, .ref f_toldAt, .ref f_sorts, .ref f_numbers, .ref f_seen, .ref f_seenNames, .int 0, .int 0, .int (-1), .ref f_marks, .int 0, .int 0, .int 0, .int 0, .int 0, .int 0, .int (-1)]))] H_6 := hP'
  replace hD : va_D A [(m0, .inr (4, [.ref w0, .ref s0, .ref f_toldAt, .ref f_sorts, .ref f_numbers, .ref f_seen, .ref f_seenNames, .int 0, .int 0, .int (-1), .ref f_marks, .int 0, .int 0, .int 0, .int 0, .int 0, .int 0, .int (-1)]))] := hD'
  replace hS := hS'
  clear hP' hD' hS'
  have hP9 := hP.sub (ws' := [(m0, .inr (4, [.ref w0, .ref s0, .ref f_toldAt, .ref f_sorts, .ref f_numbers, .ref f_seen, .ref f_seenNames, .int 0, .int 0, .int (-1), .ref f_marks, .int 0, .int 0, .int 0, .int 0, .int 0, .int 0, .int (-1)]))]) [0] rfl
  have hD9 := hD.sub (ws' := [(m0, .inr (4, [.ref w0, .ref s0, .ref f_toldAt, .ref f_sorts, .ref f_numbers, .ref f_seen, .ref f_seenNames, .int 0, .int 0, .int (-1), .ref f_marks, .int 0, .int 0, .int 0, .int 0, .int 0, .int 0, .int (-1)]))]) [0] (by decide +kernel) rfl
  refine W.widen (k := 0) (n := 0) (Nat.le_of_ble_eq_true rfl) (Nat.le_of_ble_eq_true rfl) ?_
  exact W.vret hx hb hr (fun t ht hW => ⟨⟨(), rfl, (by first | trivial | rfl | assumption), by rw [ht]; exact hP9, hD9⟩, hS.F ht⟩) hS.2.2 dX4_startGoing_30

abbrev ww_X4_startGoing_2 (cB cC cI cJ cZ cP : ClassId) (m0 : Nat) (f_toldAt : Nat) (f_sorts : Nat) (f_numbers : Nat) (f_seen : Nat) (f_seenNames : Nat) (f_marks : Nat) (s0 : Nat) (w0 : Nat) : va_W := [(m0, .inr (4, [.ref w0, .ref s0, .ref f_toldAt, .ref f_sorts, .ref f_numbers, .ref f_seen, .ref f_seenNames, .int 0, .int 0, .int (-1), .ref f_marks, .int 0, .int 0, .int 0, .int 0, .int 0, .int 0, .int (-1)]))]
abbrev q_X4_startGoing_2 (dC : Nat → ClassId) (dI : Nat → Nat → Nat) (cB cC cI cJ cZ cP : ClassId) (m0 : Nat) (f_toldAt : Nat) (f_sorts : Nat) (f_numbers : Nat) (f_seen : Nat) (f_seenNames : Nat) (f_marks : Nat) (s0 : Nat) (w0 : Nat) (A : Nat → Prop) : Array Value → State → Outcome → State → Prop := va_Qv (fun (_ : Unit) => True) (g_Bo (dC, dI) A (fun (_ : Unit) => [(m0, .inr (4, [.ref w0, .ref s0, .ref f_toldAt, .ref f_sorts, .ref f_numbers, .ref f_seen, .ref f_seenNames, .int 0, .int 0, .int (-1), .ref f_marks, .int 0, .int 0, .int 0, .int 0, .int 0, .int 0, .int (-1)]))])) A
set_option maxHeartbeats 4000000 in
set_option maxRecDepth 100000 in
theorem c_X4_startGoing_2 (l : Launch) (dC : Nat → ClassId) (dI : Nat → Nat → Nat) (cB cC cI cJ cZ cP : ClassId) (sz : Nat) (m0 : Nat) (f_toldAt : Nat) (f_sorts : Nat) (f_numbers : Nat) (f_seen : Nat) (f_seenNames : Nat) (f_marks : Nat) (s0 : Nat) (w0 : Nat)  : Met l yX4_startGoing (g_ws yX4_startGoing cX4_startGoing 1 none) ({ frames := 1, cells := 0, slots := 0, locals := 40 }) (va_Pc [.ref m0] (g_B (dC, dI) [(cB, .byte), (cC, .char), (cI, .int), (cJ, .long), (cZ, .boolean), (cP, .object "StoryHouse$Play")] sz (ww_X4_startGoing_2 cB cC cI cJ cZ cP m0 f_toldAt f_sorts f_numbers f_seen f_seenNames f_marks s0 w0) g_0)) (q_X4_startGoing_2 dC dI cB cC cI cJ cZ cP m0 f_toldAt f_sorts f_numbers f_seen f_seenNames f_marks s0 w0 (va_A (ww_X4_startGoing_2 cB cC cI cJ cZ cP m0 f_toldAt f_sorts f_numbers f_seen f_seenNames f_marks s0 w0) sz)) 0 0 (va_A (ww_X4_startGoing_2 cB cC cI cJ cZ cP m0 f_toldAt f_sorts f_numbers f_seen f_seenNames f_marks s0 w0) sz) := by
  refine Met.ofW (cc := cX4_startGoing) (maxL := 1) (ret := none) (by decide) rfl ?_
  intro p e s m args below meth c s₁ B hml hv
  obtain ⟨rfl, hsz, hP, hK, hD0, hE, hX⟩ := hv
  have hx := B.exec
  have hb := B.bytes
  have hr := B.returns
  have hts0 := atoms_spec (ws := (g_ws yX4_startGoing cX4_startGoing 1 none)) B.pre
  have hts : ∀ w ∈ lw_good, w.before ([.ref m0] : List Value).toArray s = true := fun w h => hts0 w (List.mem_cons_of_mem _ h)
  have hown : s.vm.findClass RX4 = some m.cls := findClass_of_methodNamed B.named
  have hlocks := B.notSynchronized
  subst hsz
  have hD := hD0.self (sz := s.heap.size)
  generalize hAe : va_A (ww_X4_startGoing_2 cB cC cI cJ cZ cP m0 f_toldAt f_sorts f_numbers f_seen f_seenNames f_marks s0 w0) s.heap.size = A at hD hE hX ⊢
  have hA : ∀ q : Nat, s.heap.size ≤ q → A q := fun q h => by rw [← hAe]; exact Or.inr h
  have hN := hE.1
  have hS : va_S A s.heap s.heap [] := va_S.rf
  have hP : va_P (dC, dI) vwCl [(m0, .inr (4, [.ref w0, .ref s0, .ref f_toldAt, .ref f_sorts, .ref f_numbers, .ref f_seen, .ref f_seenNames, .int 0, .int 0, .int (-1), .ref f_marks, .int 0, .int 0, .int 0, .int 0, .int 0, .int 0, .int (-1)]))] s.heap := hP
  have hl := lv_entry ([.ref m0]) (n := 1) (Nat.le_of_ble_eq_true rfl)
  rw [lg_entry_eq]
  generalize (lg_sl ([.ref m0]) ++ List.replicate (1 - (lg_sl ([.ref m0])).length) Slot.unset).toArray = ls at hl ⊢
  have hl : lv_has ls 1 [(0, .ref m0)] := hl
  refine lv_aload_n hx hb dX4_startGoing_0 rfl (lv_at hl 0 rfl) ?_
  refine lv_iconst (v := 0) hx hb dX4_startGoing_1 (by decide +kernel) ?_
  refine va_put (D := (dC, dI)) (ci := 4) (v := .int 0) (ty := .int) (C := RX4) (T := TX4) (N := 18) hx hb hts ii_X4 tyX4 tyX4_ok nmX4 hown hK hP hD hS 0 rfl rfl 7 (by decide) (hts (.fieldLink RX4 126 "StoryHouse$Meanings" "seenCount" "I") wq_93) (fun _ h9 => h9) rfl (by decide +kernel) rfl rfl (Nat.le_of_ble_eq_true rfl) dX4_startGoing_2 (fun H_1 locs hP' hD' hS' => ?_)
  replace hP : va_P (dC, dI) vwCl [(m0, .inr (4, [.ref w0, .ref s0, .ref f_toldAt, .ref f_sorts, .ref f_numbers, .ref f_seen, .ref f_seenNames, .int 0, .int 0, .int (-1), .ref f_marks, .int 0, .int 0, .int 0, .int 0, .int 0, .int 0, .int (-1)]))] H_1 := hP'
  replace hD : va_D A [(m0, .inr (4, [.ref w0, .ref s0, .ref f_toldAt, .ref f_sorts, .ref f_numbers, .ref f_seen, .ref f_seenNames, .int 0, .int 0, .int (-1), .ref f_marks, .int 0, .int 0, .int 0, .int 0, .int 0, .int 0, .int (-1)]))] := hD'
  replace hS := hS'
  clear hP' hD' hS'
  refine lv_aload_n hx hb dX4_startGoing_5 rfl (lv_at hl 0 rfl) ?_
  refine lv_iconst (v := 0) hx hb dX4_startGoing_6 (by decide +kernel) ?_
  refine va_put (D := (dC, dI)) (ci := 4) (v := .int 0) (ty := .int) (C := RX4) (T := TX4) (N := 18) hx hb hts ii_X4 tyX4 tyX4_ok nmX4 hown hK hP hD hS 0 rfl rfl 8 (by decide) (hts (.fieldLink RX4 129 "StoryHouse$Meanings" "slots" "I") wq_94) (fun _ h9 => h9) rfl (by decide +kernel) rfl rfl (Nat.le_of_ble_eq_true rfl) dX4_startGoing_7 (fun H_2 locs hP' hD' hS' => ?_)
  replace hP : va_P (dC, dI) vwCl [(m0, .inr (4, [.ref w0, .ref s0, .ref f_toldAt, .ref f_sorts, .ref f_numbers, .ref f_seen, .ref f_seenNames, .int 0, .int 0, .int (-1), .ref f_marks, .int 0, .int 0, .int 0, .int 0, .int 0, .int 0, .int (-1)]))] H_2 := hP'
  replace hD : va_D A [(m0, .inr (4, [.ref w0, .ref s0, .ref f_toldAt, .ref f_sorts, .ref f_numbers, .ref f_seen, .ref f_seenNames, .int 0, .int 0, .int (-1), .ref f_marks, .int 0, .int 0, .int 0, .int 0, .int 0, .int 0, .int (-1)]))] := hD'
  replace hS := hS'
  clear hP' hD' hS'
  refine lv_aload_n hx hb dX4_startGoing_10 rfl (lv_at hl 0 rfl) ?_
  refine lv_iconst (v := (-1)) hx hb dX4_startGoing_11 (by decide +kernel) ?_
  refine va_put (D := (dC, dI)) (ci := 4) (v := .int (-1)) (ty := .int) (C := RX4) (T := TX4) (N := 18) hx hb hts ii_X4 tyX4 tyX4_ok nmX4 hown hK hP hD hS 0 rfl rfl 9 (by decide) (hts (.fieldLink RX4 132 "StoryHouse$Meanings" "pendingLet" "I") wq_95) (fun _ h9 => h9) rfl (by decide +kernel) rfl rfl (Nat.le_of_ble_eq_true rfl) dX4_startGoing_12 (fun H_3 locs hP' hD' hS' => ?_)
  replace hP : va_P (dC, dI) vwCl [(m0, .inr (4, [.ref w0, .ref s0, .ref f_toldAt, .ref f_sorts, .ref f_numbers, .ref f_seen, .ref f_seenNames, .int 0, .int 0, .int (-1), .ref f_marks, .int 0, .int 0, .int 0, .int 0, .int 0, .int 0, .int (-1)]))] H_3 := hP'
  replace hD : va_D A [(m0, .inr (4, [.ref w0, .ref s0, .ref f_toldAt, .ref f_sorts, .ref f_numbers, .ref f_seen, .ref f_seenNames, .int 0, .int 0, .int (-1), .ref f_marks, .int 0, .int 0, .int 0, .int 0, .int 0, .int 0, .int (-1)]))] := hD'
  replace hS := hS'
  clear hP' hD' hS'
  refine lv_aload_n hx hb dX4_startGoing_15 rfl (lv_at hl 0 rfl) ?_
  refine lv_iconst (v := 0) hx hb dX4_startGoing_16 (by decide +kernel) ?_
  refine va_put (D := (dC, dI)) (ci := 4) (v := .int 0) (ty := .int) (C := RX4) (T := TX4) (N := 18) hx hb hts ii_X4 tyX4 tyX4_ok nmX4 hown hK hP hD hS 0 rfl rfl 11 (by decide) (hts (.fieldLink RX4 66 "StoryHouse$Meanings" "depth" "I") wq_97) (fun _ h9 => h9) rfl (by decide +kernel) rfl rfl (Nat.le_of_ble_eq_true rfl) dX4_startGoing_17 (fun H_4 locs hP' hD' hS' => ?_)
  replace hP : va_P (dC, dI) vwCl [(m0, .inr (4, [.ref w0, .ref s0, .ref f_toldAt, .ref f_sorts, .ref f_numbers, .ref f_seen, .ref f_seenNames, .int 0, .int 0, .int (-1), .ref f_marks, .int 0, .int 0, .int 0, .int 0, .int 0, .int 0, .int (-1)]))] H_4 := hP'
  replace hD : va_D A [(m0, .inr (4, [.ref w0, .ref s0, .ref f_toldAt, .ref f_sorts, .ref f_numbers, .ref f_seen, .ref f_seenNames, .int 0, .int 0, .int (-1), .ref f_marks, .int 0, .int 0, .int 0, .int 0, .int 0, .int 0, .int (-1)]))] := hD'
  replace hS := hS'
  clear hP' hD' hS'
  refine lv_aload_n hx hb dX4_startGoing_20 rfl (lv_at hl 0 rfl) ?_
  refine lv_iconst (v := 0) hx hb dX4_startGoing_21 (by decide +kernel) ?_
  refine va_put (D := (dC, dI)) (ci := 4) (v := .int 0) (ty := .int) (C := RX4) (T := TX4) (N := 18) hx hb hts ii_X4 tyX4 tyX4_ok nmX4 hown hK hP hD hS 0 rfl rfl 12 (by decide) (hts (.fieldLink RX4 63 "StoryHouse$Meanings" "routine" "I") wq_98) (fun _ h9 => h9) rfl (by decide +kernel) rfl rfl (Nat.le_of_ble_eq_true rfl) dX4_startGoing_22 (fun H_5 locs hP' hD' hS' => ?_)
  replace hP : va_P (dC, dI) vwCl [(m0, .inr (4, [.ref w0, .ref s0, .ref f_toldAt, .ref f_sorts, .ref f_numbers, .ref f_seen, .ref f_seenNames, .int 0, .int 0, .int (-1), .ref f_marks, .int 0, .int 0, .int 0, .int 0, .int 0, .int 0, .int (-1)]))] H_5 := hP'
  replace hD : va_D A [(m0, .inr (4, [.ref w0, .ref s0, .ref f_toldAt, .ref f_sorts, .ref f_numbers, .ref f_seen, .ref f_seenNames, .int 0, .int 0, .int (-1), .ref f_marks, .int 0, .int 0, .int 0, .int 0, .int 0, .int 0, .int (-1)]))] := hD'
  replace hS := hS'
  clear hP' hD' hS'
  refine lv_aload_n hx hb dX4_startGoing_25 rfl (lv_at hl 0 rfl) ?_
  refine lv_iconst (v := 0) hx hb dX4_startGoing_26 (by decide +kernel) ?_
  refine va_put (D := (dC, dI)) (ci := 4) (v := .int 0) (ty := .int) (C := RX4) (T := TX4) (N := 18) hx hb hts ii_X4 tyX4 tyX4_ok nmX4 hown hK hP hD hS 0 rfl rfl 15 (by decide) (hts (.fieldLink RX4 135 "StoryHouse$Meanings" "ons" "I") wq_101) (fun _ h9 => h9) rfl (by decide +kernel) rfl rfl (Nat.le_of_ble_eq_true rfl) dX4_startGoing_27 (fun H_6 locs hP' hD' hS' => ?_)
  replace hP : va_P (dC, dI) vwCl [(m0, .inr (4, [.ref w0, .ref s0, .ref f_toldAt, .ref f_sorts, .ref f_numbers, .ref f_seen, .ref f_seenNames, .int 0, .int 0, .int (-1), .ref f_marks, .int 0, .int 0, .int 0, .int 0, .int 0, .int 0, .int (-1)]))] H_6 := hP'
  replace hD : va_D A [(m0, .inr (4, [.ref w0, .ref s0, .ref f_toldAt, .ref f_sorts, .ref f_numbers, .ref f_seen, .ref f_seenNames, .int 0, .int 0, .int (-1), .ref f_marks, .int 0, .int 0, .int 0, .int 0, .int 0, .int 0, .int (-1)]))] := hD'
  replace hS := hS'
  clear hP' hD' hS'
  have hP9 := hP.sub (ws' := [(m0, .inr (4, [.ref w0, .ref s0, .ref f_toldAt, .ref f_sorts, .ref f_numbers, .ref f_seen, .ref f_seenNames, .int 0, .int 0, .int (-1), .ref f_marks, .int 0, .int 0, .int 0, .int 0, .int 0, .int 0, .int (-1)]))]) [0] rfl
  have hD9 := hD.sub (ws' := [(m0, .inr (4, [.ref w0, .ref s0, .ref f_toldAt, .ref f_sorts, .ref f_numbers, .ref f_seen, .ref f_seenNames, .int 0, .int 0, .int (-1), .ref f_marks, .int 0, .int 0, .int 0, .int 0, .int 0, .int 0, .int (-1)]))]) [0] (by decide +kernel) rfl
  refine W.widen (k := 0) (n := 0) (Nat.le_of_ble_eq_true rfl) (Nat.le_of_ble_eq_true rfl) ?_
  exact W.vret hx hb hr (fun t ht hW => ⟨⟨(), rfl, (by first | trivial | rfl | assumption), by rw [ht]; exact hP9, hD9⟩, hS.F ht⟩) hS.2.2 dX4_startGoing_30

abbrev ww_X4_tellWord (cB cC cI cJ cZ cP : ClassId) (m0 : Nat) (f_toldAt : Nat) (f_sorts : Nat) (f_numbers : Nat) (f_seen : Nat) (f_seenNames : Nat) (f_marks : Nat) (s0 : Nat) (w0 : Nat) (f_source : Nat) (f_kinds : Nat) (f_places : Nat) (f_values : Nat) (f_notes : Nat) (f_meanings : Nat) (f_names : Nat) (f_slots : Nat) (nm : Int32) (kn : Nat → Int32) : va_W := [(m0, .inr (4, [.ref w0, .ref s0, .ref f_toldAt, .ref f_sorts, .ref f_numbers, .ref f_seen, .ref f_seenNames, .int 0, .int 0, .int (-1), .ref f_marks, .int 0, .int 0, .int 0, .int 0, .int 0, .int 0, .int (-1)])), (w0, .inr (10, [.ref f_source, .int 0, .int 1, .ref f_kinds, .ref f_places, .ref f_values, .ref f_notes, .ref f_meanings, .ref f_names, .ref f_slots, .int nm, .int 0])), (f_kinds, .inl (cI, 16001, .inl kn))]
abbrev q_X4_tellWord (dC : Nat → ClassId) (dI : Nat → Nat → Nat) (cB cC cI cJ cZ cP : ClassId) (m0 : Nat) (f_toldAt : Nat) (f_sorts : Nat) (f_numbers : Nat) (f_seen : Nat) (f_seenNames : Nat) (f_marks : Nat) (s0 : Nat) (w0 : Nat) (f_source : Nat) (f_kinds : Nat) (f_places : Nat) (f_values : Nat) (f_notes : Nat) (f_meanings : Nat) (f_names : Nat) (f_slots : Nat) (nm : Int32) (kn : Nat → Int32) (A : Nat → Prop) : Array Value → State → Outcome → State → Prop := va_Qv (fun (_ : Unit) => True) (g_Bo (dC, dI) A (fun (_ : Unit) => [(m0, .inr (4, [.ref w0, .ref s0, .ref f_toldAt, .ref f_sorts, .ref f_numbers, .ref f_seen, .ref f_seenNames, .int 0, .int 0, .int (-1), .ref f_marks, .int 0, .int 0, .int 0, .int 0, .int 0, .int 0, .int (-1)])), (w0, .inr (10, [.ref f_source, .int 0, .int 1, .ref f_kinds, .ref f_places, .ref f_values, .ref f_notes, .ref f_meanings, .ref f_names, .ref f_slots, .int nm, .int 0])), (f_kinds, .inl (cI, 16001, .inl kn))])) A
set_option maxHeartbeats 4000000 in
set_option maxRecDepth 100000 in
theorem c_X4_tellWord (l : Launch) (dC : Nat → ClassId) (dI : Nat → Nat → Nat) (cB cC cI cJ cZ cP : ClassId) (sz : Nat) (m0 : Nat) (f_toldAt : Nat) (f_sorts : Nat) (f_numbers : Nat) (f_seen : Nat) (f_seenNames : Nat) (f_marks : Nat) (s0 : Nat) (w0 : Nat) (f_source : Nat) (f_kinds : Nat) (f_places : Nat) (f_values : Nat) (f_notes : Nat) (f_meanings : Nat) (f_names : Nat) (f_slots : Nat) (nm : Int32) (kn : Nat → Int32) (hk : kn 0 = 0) : Met l yX4_tellWord (g_ws yX4_tellWord cX4_tellWord 2 none) ({ frames := 2, cells := 0, slots := 0, locals := 61 }) (va_Pc [.ref m0, .int 0] (g_B (dC, dI) [(cB, .byte), (cC, .char), (cI, .int), (cJ, .long), (cZ, .boolean), (cP, .object "StoryHouse$Play")] sz (ww_X4_tellWord cB cC cI cJ cZ cP m0 f_toldAt f_sorts f_numbers f_seen f_seenNames f_marks s0 w0 f_source f_kinds f_places f_values f_notes f_meanings f_names f_slots nm kn) g_0)) (q_X4_tellWord dC dI cB cC cI cJ cZ cP m0 f_toldAt f_sorts f_numbers f_seen f_seenNames f_marks s0 w0 f_source f_kinds f_places f_values f_notes f_meanings f_names f_slots nm kn (va_A (ww_X4_tellWord cB cC cI cJ cZ cP m0 f_toldAt f_sorts f_numbers f_seen f_seenNames f_marks s0 w0 f_source f_kinds f_places f_values f_notes f_meanings f_names f_slots nm kn) sz)) 0 0 (va_A (ww_X4_tellWord cB cC cI cJ cZ cP m0 f_toldAt f_sorts f_numbers f_seen f_seenNames f_marks s0 w0 f_source f_kinds f_places f_values f_notes f_meanings f_names f_slots nm kn) sz) := by
  refine Met.ofW (cc := cX4_tellWord) (maxL := 2) (ret := none) (by decide) rfl ?_
  intro p e s m args below meth c s₁ B hml hv
  obtain ⟨rfl, hsz, hP, hK, hD0, hE, hX⟩ := hv
  have hx := B.exec
  have hb := B.bytes
  have hr := B.returns
  have hts0 := atoms_spec (ws := (g_ws yX4_tellWord cX4_tellWord 2 none)) B.pre
  have hts : ∀ w ∈ lw_good, w.before ([.ref m0, .int 0] : List Value).toArray s = true := fun w h => hts0 w (List.mem_cons_of_mem _ h)
  have hown : s.vm.findClass RX4 = some m.cls := findClass_of_methodNamed B.named
  have hlocks := B.notSynchronized
  subst hsz
  have hD := hD0.self (sz := s.heap.size)
  generalize hAe : va_A (ww_X4_tellWord cB cC cI cJ cZ cP m0 f_toldAt f_sorts f_numbers f_seen f_seenNames f_marks s0 w0 f_source f_kinds f_places f_values f_notes f_meanings f_names f_slots nm kn) s.heap.size = A at hD hE hX ⊢
  have hA : ∀ q : Nat, s.heap.size ≤ q → A q := fun q h => by rw [← hAe]; exact Or.inr h
  have hN := hE.1
  have hS : va_S A s.heap s.heap [] := va_S.rf
  have hP : va_P (dC, dI) vwCl [(m0, .inr (4, [.ref w0, .ref s0, .ref f_toldAt, .ref f_sorts, .ref f_numbers, .ref f_seen, .ref f_seenNames, .int 0, .int 0, .int (-1), .ref f_marks, .int 0, .int 0, .int 0, .int 0, .int 0, .int 0, .int (-1)])), (w0, .inr (10, [.ref f_source, .int 0, .int 1, .ref f_kinds, .ref f_places, .ref f_values, .ref f_notes, .ref f_meanings, .ref f_names, .ref f_slots, .int nm, .int 0])), (f_kinds, .inl (cI, 16001, .inl kn))] s.heap := hP
  have hl := lv_entry ([.ref m0, .int 0]) (n := 2) (Nat.le_of_ble_eq_true rfl)
  rw [lg_entry_eq]
  generalize (lg_sl ([.ref m0, .int 0]) ++ List.replicate (2 - (lg_sl ([.ref m0, .int 0])).length) Slot.unset).toArray = ls at hl ⊢
  have hl : lv_has ls 2 [(0, .ref m0), (1, .int 0)] := hl
  refine lv_aload_n hx hb dX4_tellWord_0 rfl (lv_at hl 0 rfl) ?_
  refine va_get (D := (dC, dI)) (ci := 4) (v := .ref w0) (C := RX4) (T := TX4) (N := 18) hx hb hts ii_X4 hown hK hP 0 rfl rfl 0 (by decide) (hts (.fieldLink RX4 32 "StoryHouse$Meanings" "words" "LStoryHouse$Words;") wq_86) (fun _ h9 => h9) rfl dX4_tellWord_1 ?_
  refine lv_iload_n hx hb dX4_tellWord_4 rfl (lv_at hl 1 rfl) ?_
  have hPc := hP.sub (ws' := [(w0, .inr (10, [.ref f_source, .int 0, .int 1, .ref f_kinds, .ref f_places, .ref f_values, .ref f_notes, .ref f_meanings, .ref f_names, .ref f_slots, .int nm, .int 0])), (f_kinds, .inl (cI, 16001, .inl kn))]) [1, 2] rfl
  have hDc := hD.sub (ws' := [(w0, .inr (10, [.ref f_source, .int 0, .int 1, .ref f_kinds, .ref f_places, .ref f_values, .ref f_notes, .ref f_meanings, .ref f_names, .ref f_slots, .int nm, .int 0])), (f_kinds, .inl (cI, 16001, .inl kn))]) [1, 2] (by decide +kernel) rfl
  have hFc := va_free (wc := [(w0, .inr (10, [.ref f_source, .int 0, .int 1, .ref f_kinds, .ref f_places, .ref f_values, .ref f_notes, .ref f_meanings, .ref f_names, .ref f_slots, .int nm, .int 0])), (f_kinds, .inl (cI, 16001, .inl kn))]) hD hS hA [1, 2] rfl
  refine g_ofi (wc := [(w0, .inr (10, [.ref f_source, .int 0, .int 1, .ref f_kinds, .ref f_places, .ref f_values, .ref f_notes, .ref f_meanings, .ref f_names, .ref f_slots, .int nm, .int 0])), (f_kinds, .inl (cI, 16001, .inl kn))]) (wr := [(m0, .inr (4, [.ref w0, .ref s0, .ref f_toldAt, .ref f_sorts, .ref f_numbers, .ref f_seen, .ref f_seenNames, .int 0, .int 0, .int (-1), .ref f_marks, .int 0, .int 0, .int 0, .int 0, .int 0, .int 0, .int (-1)]))]) hP hD hS hFc [1, 2] [0] rfl rfl (by decide +kernel) (by decide +kernel) (va_runV (As := [.int 0]) (rest := []) ⟨hx, hb, hml, hown, hts⟩ (c_X10_kindOf l dC dI cB cC cI cJ cZ cP s.heap.size w0 f_source f_kinds f_places f_values f_notes f_meanings f_names f_slots nm kn (hk)) (cwV 1 hts (g_gV wq_714 wq_543 wq_544 wq_2 wq_545) rfl rfl rfl (by decide +kernel) ⟨Nat.le_of_ble_eq_true rfl, Nat.le_of_ble_eq_true rfl⟩) (g_preV g_bl0 hK hPc hDc hS hE hFc g_to0 (q0 := 0) (ci := 10) rfl rfl) rfl rfl hl.1 rfl (lv_room (Nat.le_of_ble_eq_true rfl)) dX4_tellWord_5 ⟨Nat.le_of_ble_eq_true rfl, Nat.le_of_ble_eq_true rfl⟩) (fun r_3 u_2 H_4 locs w_1 hP' hD' hS' => ?_)
  clear hPc hDc hFc
  have w_1 : r_3 = 0 := w_1
  replace hP : va_P (dC, dI) vwCl [(m0, .inr (4, [.ref w0, .ref s0, .ref f_toldAt, .ref f_sorts, .ref f_numbers, .ref f_seen, .ref f_seenNames, .int 0, .int 0, .int (-1), .ref f_marks, .int 0, .int 0, .int 0, .int 0, .int 0, .int 0, .int (-1)])), (w0, .inr (10, [.ref f_source, .int 0, .int 1, .ref f_kinds, .ref f_places, .ref f_values, .ref f_notes, .ref f_meanings, .ref f_names, .ref f_slots, .int nm, .int 0])), (f_kinds, .inl (cI, 16001, .inl kn))] H_4 := hP'
  replace hD : va_D A [(m0, .inr (4, [.ref w0, .ref s0, .ref f_toldAt, .ref f_sorts, .ref f_numbers, .ref f_seen, .ref f_seenNames, .int 0, .int 0, .int (-1), .ref f_marks, .int 0, .int 0, .int 0, .int 0, .int 0, .int 0, .int (-1)])), (w0, .inr (10, [.ref f_source, .int 0, .int 1, .ref f_kinds, .ref f_places, .ref f_values, .ref f_notes, .ref f_meanings, .ref f_names, .ref f_slots, .int nm, .int 0])), (f_kinds, .inl (cI, 16001, .inl kn))] := hD'
  replace hS := hS'
  clear hP' hD' hS'
  obtain rfl : 0 = r_3 := (w_1).symm
  refine lv_tableOut (tgt := 206) hx hb dX4_tellWord_8 (by decide +kernel) (by decide) ?_
  have hP9 := hP.sub (ws' := [(m0, .inr (4, [.ref w0, .ref s0, .ref f_toldAt, .ref f_sorts, .ref f_numbers, .ref f_seen, .ref f_seenNames, .int 0, .int 0, .int (-1), .ref f_marks, .int 0, .int 0, .int 0, .int 0, .int 0, .int 0, .int (-1)])), (w0, .inr (10, [.ref f_source, .int 0, .int 1, .ref f_kinds, .ref f_places, .ref f_values, .ref f_notes, .ref f_meanings, .ref f_names, .ref f_slots, .int nm, .int 0])), (f_kinds, .inl (cI, 16001, .inl kn))]) [0, 1, 2] rfl
  have hD9 := hD.sub (ws' := [(m0, .inr (4, [.ref w0, .ref s0, .ref f_toldAt, .ref f_sorts, .ref f_numbers, .ref f_seen, .ref f_seenNames, .int 0, .int 0, .int (-1), .ref f_marks, .int 0, .int 0, .int 0, .int 0, .int 0, .int 0, .int (-1)])), (w0, .inr (10, [.ref f_source, .int 0, .int 1, .ref f_kinds, .ref f_places, .ref f_values, .ref f_notes, .ref f_meanings, .ref f_names, .ref f_slots, .int nm, .int 0])), (f_kinds, .inl (cI, 16001, .inl kn))]) [0, 1, 2] (by decide +kernel) rfl
  refine W.widen (k := 0) (n := 0) (Nat.le_of_ble_eq_true rfl) (Nat.le_of_ble_eq_true rfl) ?_
  exact W.vret hx hb hr (fun t ht hW => ⟨⟨(), rfl, (by first | trivial | rfl | assumption), by rw [ht]; exact hP9, hD9⟩, hS.F ht⟩) hS.2.2 dX4_tellWord_206

abbrev ww_X4_followScope (cB cC cI cJ cZ cP : ClassId) (m0 : Nat) (f_toldAt : Nat) (f_sorts : Nat) (f_numbers : Nat) (f_seen : Nat) (f_seenNames : Nat) (f_marks : Nat) (s0 : Nat) (w0 : Nat) (f_source : Nat) (f_kinds : Nat) (f_places : Nat) (f_values : Nat) (f_notes : Nat) (f_meanings : Nat) (f_names : Nat) (f_slots : Nat) (nm : Int32) (kn : Nat → Int32) : va_W := [(m0, .inr (4, [.ref w0, .ref s0, .ref f_toldAt, .ref f_sorts, .ref f_numbers, .ref f_seen, .ref f_seenNames, .int 0, .int 0, .int (-1), .ref f_marks, .int 0, .int 0, .int 0, .int 0, .int 0, .int 0, .int (-1)])), (w0, .inr (10, [.ref f_source, .int 0, .int 1, .ref f_kinds, .ref f_places, .ref f_values, .ref f_notes, .ref f_meanings, .ref f_names, .ref f_slots, .int nm, .int 0])), (f_kinds, .inl (cI, 16001, .inl kn))]
abbrev q_X4_followScope (dC : Nat → ClassId) (dI : Nat → Nat → Nat) (cB cC cI cJ cZ cP : ClassId) (m0 : Nat) (f_toldAt : Nat) (f_sorts : Nat) (f_numbers : Nat) (f_seen : Nat) (f_seenNames : Nat) (f_marks : Nat) (s0 : Nat) (w0 : Nat) (f_source : Nat) (f_kinds : Nat) (f_places : Nat) (f_values : Nat) (f_notes : Nat) (f_meanings : Nat) (f_names : Nat) (f_slots : Nat) (nm : Int32) (kn : Nat → Int32) (A : Nat → Prop) : Array Value → State → Outcome → State → Prop := va_Qv (fun (_ : Unit) => True) (g_Bo (dC, dI) A (fun (_ : Unit) => [(m0, .inr (4, [.ref w0, .ref s0, .ref f_toldAt, .ref f_sorts, .ref f_numbers, .ref f_seen, .ref f_seenNames, .int 0, .int 0, .int (-1), .ref f_marks, .int 0, .int 0, .int 0, .int 0, .int 0, .int 0, .int (-1)])), (w0, .inr (10, [.ref f_source, .int 0, .int 1, .ref f_kinds, .ref f_places, .ref f_values, .ref f_notes, .ref f_meanings, .ref f_names, .ref f_slots, .int nm, .int 0])), (f_kinds, .inl (cI, 16001, .inl kn))])) A
set_option maxHeartbeats 4000000 in
set_option maxRecDepth 100000 in
theorem c_X4_followScope (l : Launch) (dC : Nat → ClassId) (dI : Nat → Nat → Nat) (cB cC cI cJ cZ cP : ClassId) (sz : Nat) (m0 : Nat) (f_toldAt : Nat) (f_sorts : Nat) (f_numbers : Nat) (f_seen : Nat) (f_seenNames : Nat) (f_marks : Nat) (s0 : Nat) (w0 : Nat) (f_source : Nat) (f_kinds : Nat) (f_places : Nat) (f_values : Nat) (f_notes : Nat) (f_meanings : Nat) (f_names : Nat) (f_slots : Nat) (nm : Int32) (kn : Nat → Int32) (hk : kn 0 = 0) : Met l yX4_followScope (g_ws yX4_followScope cX4_followScope 2 none) ({ frames := 2, cells := 0, slots := 0, locals := 61 }) (va_Pc [.ref m0, .int 0] (g_B (dC, dI) [(cB, .byte), (cC, .char), (cI, .int), (cJ, .long), (cZ, .boolean), (cP, .object "StoryHouse$Play")] sz (ww_X4_followScope cB cC cI cJ cZ cP m0 f_toldAt f_sorts f_numbers f_seen f_seenNames f_marks s0 w0 f_source f_kinds f_places f_values f_notes f_meanings f_names f_slots nm kn) g_0)) (q_X4_followScope dC dI cB cC cI cJ cZ cP m0 f_toldAt f_sorts f_numbers f_seen f_seenNames f_marks s0 w0 f_source f_kinds f_places f_values f_notes f_meanings f_names f_slots nm kn (va_A (ww_X4_followScope cB cC cI cJ cZ cP m0 f_toldAt f_sorts f_numbers f_seen f_seenNames f_marks s0 w0 f_source f_kinds f_places f_values f_notes f_meanings f_names f_slots nm kn) sz)) 0 0 (va_A (ww_X4_followScope cB cC cI cJ cZ cP m0 f_toldAt f_sorts f_numbers f_seen f_seenNames f_marks s0 w0 f_source f_kinds f_places f_values f_notes f_meanings f_names f_slots nm kn) sz) := by
  refine Met.ofW (cc := cX4_followScope) (maxL := 2) (ret := none) (by decide) rfl ?_
  intro p e s m args below meth c s₁ B hml hv
  obtain ⟨rfl, hsz, hP, hK, hD0, hE, hX⟩ := hv
  have hx := B.exec
  have hb := B.bytes
  have hr := B.returns
  have hts0 := atoms_spec (ws := (g_ws yX4_followScope cX4_followScope 2 none)) B.pre
  have hts : ∀ w ∈ lw_good, w.before ([.ref m0, .int 0] : List Value).toArray s = true := fun w h => hts0 w (List.mem_cons_of_mem _ h)
  have hown : s.vm.findClass RX4 = some m.cls := findClass_of_methodNamed B.named
  have hlocks := B.notSynchronized
  subst hsz
  have hD := hD0.self (sz := s.heap.size)
  generalize hAe : va_A (ww_X4_followScope cB cC cI cJ cZ cP m0 f_toldAt f_sorts f_numbers f_seen f_seenNames f_marks s0 w0 f_source f_kinds f_places f_values f_notes f_meanings f_names f_slots nm kn) s.heap.size = A at hD hE hX ⊢
  have hA : ∀ q : Nat, s.heap.size ≤ q → A q := fun q h => by rw [← hAe]; exact Or.inr h
  have hN := hE.1
  have hS : va_S A s.heap s.heap [] := va_S.rf
  have hP : va_P (dC, dI) vwCl [(m0, .inr (4, [.ref w0, .ref s0, .ref f_toldAt, .ref f_sorts, .ref f_numbers, .ref f_seen, .ref f_seenNames, .int 0, .int 0, .int (-1), .ref f_marks, .int 0, .int 0, .int 0, .int 0, .int 0, .int 0, .int (-1)])), (w0, .inr (10, [.ref f_source, .int 0, .int 1, .ref f_kinds, .ref f_places, .ref f_values, .ref f_notes, .ref f_meanings, .ref f_names, .ref f_slots, .int nm, .int 0])), (f_kinds, .inl (cI, 16001, .inl kn))] s.heap := hP
  have hl := lv_entry ([.ref m0, .int 0]) (n := 2) (Nat.le_of_ble_eq_true rfl)
  rw [lg_entry_eq]
  generalize (lg_sl ([.ref m0, .int 0]) ++ List.replicate (2 - (lg_sl ([.ref m0, .int 0])).length) Slot.unset).toArray = ls at hl ⊢
  have hl : lv_has ls 2 [(0, .ref m0), (1, .int 0)] := hl
  refine lv_aload_n hx hb dX4_followScope_0 rfl (lv_at hl 0 rfl) ?_
  refine va_get (D := (dC, dI)) (ci := 4) (v := .ref w0) (C := RX4) (T := TX4) (N := 18) hx hb hts ii_X4 hown hK hP 0 rfl rfl 0 (by decide) (hts (.fieldLink RX4 32 "StoryHouse$Meanings" "words" "LStoryHouse$Words;") wq_86) (fun _ h9 => h9) rfl dX4_followScope_1 ?_
  refine lv_iload_n hx hb dX4_followScope_4 rfl (lv_at hl 1 rfl) ?_
  have hPc := hP.sub (ws' := [(w0, .inr (10, [.ref f_source, .int 0, .int 1, .ref f_kinds, .ref f_places, .ref f_values, .ref f_notes, .ref f_meanings, .ref f_names, .ref f_slots, .int nm, .int 0])), (f_kinds, .inl (cI, 16001, .inl kn))]) [1, 2] rfl
  have hDc := hD.sub (ws' := [(w0, .inr (10, [.ref f_source, .int 0, .int 1, .ref f_kinds, .ref f_places, .ref f_values, .ref f_notes, .ref f_meanings, .ref f_names, .ref f_slots, .int nm, .int 0])), (f_kinds, .inl (cI, 16001, .inl kn))]) [1, 2] (by decide +kernel) rfl
  have hFc := va_free (wc := [(w0, .inr (10, [.ref f_source, .int 0, .int 1, .ref f_kinds, .ref f_places, .ref f_values, .ref f_notes, .ref f_meanings, .ref f_names, .ref f_slots, .int nm, .int 0])), (f_kinds, .inl (cI, 16001, .inl kn))]) hD hS hA [1, 2] rfl
  refine g_ofi (wc := [(w0, .inr (10, [.ref f_source, .int 0, .int 1, .ref f_kinds, .ref f_places, .ref f_values, .ref f_notes, .ref f_meanings, .ref f_names, .ref f_slots, .int nm, .int 0])), (f_kinds, .inl (cI, 16001, .inl kn))]) (wr := [(m0, .inr (4, [.ref w0, .ref s0, .ref f_toldAt, .ref f_sorts, .ref f_numbers, .ref f_seen, .ref f_seenNames, .int 0, .int 0, .int (-1), .ref f_marks, .int 0, .int 0, .int 0, .int 0, .int 0, .int 0, .int (-1)]))]) hP hD hS hFc [1, 2] [0] rfl rfl (by decide +kernel) (by decide +kernel) (va_runV (As := [.int 0]) (rest := []) ⟨hx, hb, hml, hown, hts⟩ (c_X10_kindOf l dC dI cB cC cI cJ cZ cP s.heap.size w0 f_source f_kinds f_places f_values f_notes f_meanings f_names f_slots nm kn (hk)) (cwV 1 hts (g_gV wq_714 wq_543 wq_544 wq_2 wq_545) rfl rfl rfl (by decide +kernel) ⟨Nat.le_of_ble_eq_true rfl, Nat.le_of_ble_eq_true rfl⟩) (g_preV g_bl0 hK hPc hDc hS hE hFc g_to0 (q0 := 0) (ci := 10) rfl rfl) rfl rfl hl.1 rfl (lv_room (Nat.le_of_ble_eq_true rfl)) dX4_followScope_5 ⟨Nat.le_of_ble_eq_true rfl, Nat.le_of_ble_eq_true rfl⟩) (fun r_3 u_2 H_4 locs w_1 hP' hD' hS' => ?_)
  clear hPc hDc hFc
  have w_1 : r_3 = 0 := w_1
  replace hP : va_P (dC, dI) vwCl [(m0, .inr (4, [.ref w0, .ref s0, .ref f_toldAt, .ref f_sorts, .ref f_numbers, .ref f_seen, .ref f_seenNames, .int 0, .int 0, .int (-1), .ref f_marks, .int 0, .int 0, .int 0, .int 0, .int 0, .int 0, .int (-1)])), (w0, .inr (10, [.ref f_source, .int 0, .int 1, .ref f_kinds, .ref f_places, .ref f_values, .ref f_notes, .ref f_meanings, .ref f_names, .ref f_slots, .int nm, .int 0])), (f_kinds, .inl (cI, 16001, .inl kn))] H_4 := hP'
  replace hD : va_D A [(m0, .inr (4, [.ref w0, .ref s0, .ref f_toldAt, .ref f_sorts, .ref f_numbers, .ref f_seen, .ref f_seenNames, .int 0, .int 0, .int (-1), .ref f_marks, .int 0, .int 0, .int 0, .int 0, .int 0, .int 0, .int (-1)])), (w0, .inr (10, [.ref f_source, .int 0, .int 1, .ref f_kinds, .ref f_places, .ref f_values, .ref f_notes, .ref f_meanings, .ref f_names, .ref f_slots, .int nm, .int 0])), (f_kinds, .inl (cI, 16001, .inl kn))] := hD'
  replace hS := hS'
  clear hP' hD' hS'
  obtain rfl : 0 = r_3 := (w_1).symm
  refine lv_lookup (off := 159) (tgt := 167) hx hb dX4_followScope_8 (by decide +kernel) (by decide +kernel) (by decide) ?_
  have hP9 := hP.sub (ws' := [(m0, .inr (4, [.ref w0, .ref s0, .ref f_toldAt, .ref f_sorts, .ref f_numbers, .ref f_seen, .ref f_seenNames, .int 0, .int 0, .int (-1), .ref f_marks, .int 0, .int 0, .int 0, .int 0, .int 0, .int 0, .int (-1)])), (w0, .inr (10, [.ref f_source, .int 0, .int 1, .ref f_kinds, .ref f_places, .ref f_values, .ref f_notes, .ref f_meanings, .ref f_names, .ref f_slots, .int nm, .int 0])), (f_kinds, .inl (cI, 16001, .inl kn))]) [0, 1, 2] rfl
  have hD9 := hD.sub (ws' := [(m0, .inr (4, [.ref w0, .ref s0, .ref f_toldAt, .ref f_sorts, .ref f_numbers, .ref f_seen, .ref f_seenNames, .int 0, .int 0, .int (-1), .ref f_marks, .int 0, .int 0, .int 0, .int 0, .int 0, .int 0, .int (-1)])), (w0, .inr (10, [.ref f_source, .int 0, .int 1, .ref f_kinds, .ref f_places, .ref f_values, .ref f_notes, .ref f_meanings, .ref f_names, .ref f_slots, .int nm, .int 0])), (f_kinds, .inl (cI, 16001, .inl kn))]) [0, 1, 2] (by decide +kernel) rfl
  refine W.widen (k := 0) (n := 0) (Nat.le_of_ble_eq_true rfl) (Nat.le_of_ble_eq_true rfl) ?_
  exact W.vret hx hb hr (fun t ht hW => ⟨⟨(), rfl, (by first | trivial | rfl | assumption), by rw [ht]; exact hP9, hD9⟩, hS.F ht⟩) hS.2.2 dX4_followScope_167

abbrev ww_X4_itemWord (cB cC cI cJ cZ cP : ClassId) (m0 : Nat) (f_toldAt : Nat) (f_sorts : Nat) (f_numbers : Nat) (f_seen : Nat) (f_seenNames : Nat) (f_marks : Nat) (s0 : Nat) (w0 : Nat) (f_source : Nat) (f_kinds : Nat) (f_places : Nat) (f_values : Nat) (f_notes : Nat) (f_meanings : Nat) (f_names : Nat) (f_slots : Nat) (nm : Int32) (kn : Nat → Int32) : va_W := [(m0, .inr (4, [.ref w0, .ref s0, .ref f_toldAt, .ref f_sorts, .ref f_numbers, .ref f_seen, .ref f_seenNames, .int 0, .int 0, .int (-1), .ref f_marks, .int 0, .int 0, .int 0, .int 0, .int 0, .int 0, .int (-1)])), (w0, .inr (10, [.ref f_source, .int 0, .int 1, .ref f_kinds, .ref f_places, .ref f_values, .ref f_notes, .ref f_meanings, .ref f_names, .ref f_slots, .int nm, .int 0])), (f_kinds, .inl (cI, 16001, .inl kn))]
abbrev q_X4_itemWord (dC : Nat → ClassId) (dI : Nat → Nat → Nat) (cB cC cI cJ cZ cP : ClassId) (m0 : Nat) (f_toldAt : Nat) (f_sorts : Nat) (f_numbers : Nat) (f_seen : Nat) (f_seenNames : Nat) (f_marks : Nat) (s0 : Nat) (w0 : Nat) (f_source : Nat) (f_kinds : Nat) (f_places : Nat) (f_values : Nat) (f_notes : Nat) (f_meanings : Nat) (f_names : Nat) (f_slots : Nat) (nm : Int32) (kn : Nat → Int32) (A : Nat → Prop) : Array Value → State → Outcome → State → Prop := va_Qv (fun (_ : Unit) => True) (g_Bo (dC, dI) A (fun (_ : Unit) => [(m0, .inr (4, [.ref w0, .ref s0, .ref f_toldAt, .ref f_sorts, .ref f_numbers, .ref f_seen, .ref f_seenNames, .int 0, .int 0, .int (-1), .ref f_marks, .int 0, .int 0, .int 0, .int 0, .int 0, .int 0, .int (-1)])), (w0, .inr (10, [.ref f_source, .int 0, .int 1, .ref f_kinds, .ref f_places, .ref f_values, .ref f_notes, .ref f_meanings, .ref f_names, .ref f_slots, .int nm, .int 0])), (f_kinds, .inl (cI, 16001, .inl kn))])) A
set_option maxHeartbeats 4000000 in
set_option maxRecDepth 100000 in
theorem c_X4_itemWord (l : Launch) (dC : Nat → ClassId) (dI : Nat → Nat → Nat) (cB cC cI cJ cZ cP : ClassId) (sz : Nat) (m0 : Nat) (f_toldAt : Nat) (f_sorts : Nat) (f_numbers : Nat) (f_seen : Nat) (f_seenNames : Nat) (f_marks : Nat) (s0 : Nat) (w0 : Nat) (f_source : Nat) (f_kinds : Nat) (f_places : Nat) (f_values : Nat) (f_notes : Nat) (f_meanings : Nat) (f_names : Nat) (f_slots : Nat) (nm : Int32) (kn : Nat → Int32) (hk : kn 0 = 0) : Met l yX4_itemWord (g_ws yX4_itemWord cX4_itemWord 4 none) ({ frames := 2, cells := 0, slots := 0, locals := 61 }) (va_Pc [.ref m0, .int 0] (g_B (dC, dI) [(cB, .byte), (cC, .char), (cI, .int), (cJ, .long), (cZ, .boolean), (cP, .object "StoryHouse$Play")] sz (ww_X4_itemWord cB cC cI cJ cZ cP m0 f_toldAt f_sorts f_numbers f_seen f_seenNames f_marks s0 w0 f_source f_kinds f_places f_values f_notes f_meanings f_names f_slots nm kn) g_0)) (q_X4_itemWord dC dI cB cC cI cJ cZ cP m0 f_toldAt f_sorts f_numbers f_seen f_seenNames f_marks s0 w0 f_source f_kinds f_places f_values f_notes f_meanings f_names f_slots nm kn (va_A (ww_X4_itemWord cB cC cI cJ cZ cP m0 f_toldAt f_sorts f_numbers f_seen f_seenNames f_marks s0 w0 f_source f_kinds f_places f_values f_notes f_meanings f_names f_slots nm kn) sz)) 0 0 (va_A (ww_X4_itemWord cB cC cI cJ cZ cP m0 f_toldAt f_sorts f_numbers f_seen f_seenNames f_marks s0 w0 f_source f_kinds f_places f_values f_notes f_meanings f_names f_slots nm kn) sz) := by
  refine Met.ofW (cc := cX4_itemWord) (maxL := 4) (ret := none) (by decide) rfl ?_
  intro p e s m args below meth c s₁ B hml hv
  obtain ⟨rfl, hsz, hP, hK, hD0, hE, hX⟩ := hv
  have hx := B.exec
  have hb := B.bytes
  have hr := B.returns
  have hts0 := atoms_spec (ws := (g_ws yX4_itemWord cX4_itemWord 4 none)) B.pre
  have hts : ∀ w ∈ lw_good, w.before ([.ref m0, .int 0] : List Value).toArray s = true := fun w h => hts0 w (List.mem_cons_of_mem _ h)
  have hown : s.vm.findClass RX4 = some m.cls := findClass_of_methodNamed B.named
  have hlocks := B.notSynchronized
  subst hsz
  have hD := hD0.self (sz := s.heap.size)
  generalize hAe : va_A (ww_X4_itemWord cB cC cI cJ cZ cP m0 f_toldAt f_sorts f_numbers f_seen f_seenNames f_marks s0 w0 f_source f_kinds f_places f_values f_notes f_meanings f_names f_slots nm kn) s.heap.size = A at hD hE hX ⊢
  have hA : ∀ q : Nat, s.heap.size ≤ q → A q := fun q h => by rw [← hAe]; exact Or.inr h
  have hN := hE.1
  have hS : va_S A s.heap s.heap [] := va_S.rf
  have hP : va_P (dC, dI) vwCl [(m0, .inr (4, [.ref w0, .ref s0, .ref f_toldAt, .ref f_sorts, .ref f_numbers, .ref f_seen, .ref f_seenNames, .int 0, .int 0, .int (-1), .ref f_marks, .int 0, .int 0, .int 0, .int 0, .int 0, .int 0, .int (-1)])), (w0, .inr (10, [.ref f_source, .int 0, .int 1, .ref f_kinds, .ref f_places, .ref f_values, .ref f_notes, .ref f_meanings, .ref f_names, .ref f_slots, .int nm, .int 0])), (f_kinds, .inl (cI, 16001, .inl kn))] s.heap := hP
  have hl := lv_entry ([.ref m0, .int 0]) (n := 4) (Nat.le_of_ble_eq_true rfl)
  rw [lg_entry_eq]
  generalize (lg_sl ([.ref m0, .int 0]) ++ List.replicate (4 - (lg_sl ([.ref m0, .int 0])).length) Slot.unset).toArray = ls at hl ⊢
  have hl : lv_has ls 4 [(0, .ref m0), (1, .int 0)] := hl
  refine lv_aload_n hx hb dX4_itemWord_0 rfl (lv_at hl 0 rfl) ?_
  refine va_get (D := (dC, dI)) (ci := 4) (v := .ref w0) (C := RX4) (T := TX4) (N := 18) hx hb hts ii_X4 hown hK hP 0 rfl rfl 0 (by decide) (hts (.fieldLink RX4 32 "StoryHouse$Meanings" "words" "LStoryHouse$Words;") wq_86) (fun _ h9 => h9) rfl dX4_itemWord_1 ?_
  refine lv_iload_n hx hb dX4_itemWord_4 rfl (lv_at hl 1 rfl) ?_
  have hPc := hP.sub (ws' := [(w0, .inr (10, [.ref f_source, .int 0, .int 1, .ref f_kinds, .ref f_places, .ref f_values, .ref f_notes, .ref f_meanings, .ref f_names, .ref f_slots, .int nm, .int 0])), (f_kinds, .inl (cI, 16001, .inl kn))]) [1, 2] rfl
  have hDc := hD.sub (ws' := [(w0, .inr (10, [.ref f_source, .int 0, .int 1, .ref f_kinds, .ref f_places, .ref f_values, .ref f_notes, .ref f_meanings, .ref f_names, .ref f_slots, .int nm, .int 0])), (f_kinds, .inl (cI, 16001, .inl kn))]) [1, 2] (by decide +kernel) rfl
  have hFc := va_free (wc := [(w0, .inr (10, [.ref f_source, .int 0, .int 1, .ref f_kinds, .ref f_places, .ref f_values, .ref f_notes, .ref f_meanings, .ref f_names, .ref f_slots, .int nm, .int 0])), (f_kinds, .inl (cI, 16001, .inl kn))]) hD hS hA [1, 2] rfl
  refine g_ofi (wc := [(w0, .inr (10, [.ref f_source, .int 0, .int 1, .ref f_kinds, .ref f_places, .ref f_values, .ref f_notes, .ref f_meanings, .ref f_names, .ref f_slots, .int nm, .int 0])), (f_kinds, .inl (cI, 16001, .inl kn))]) (wr := [(m0, .inr (4, [.ref w0, .ref s0, .ref f_toldAt, .ref f_sorts, .ref f_numbers, .ref f_seen, .ref f_seenNames, .int 0, .int 0, .int (-1), .ref f_marks, .int 0, .int 0, .int 0, .int 0, .int 0, .int 0, .int (-1)]))]) hP hD hS hFc [1, 2] [0] rfl rfl (by decide +kernel) (by decide +kernel) (va_runV (As := [.int 0]) (rest := []) ⟨hx, hb, hml, hown, hts⟩ (c_X10_kindOf l dC dI cB cC cI cJ cZ cP s.heap.size w0 f_source f_kinds f_places f_values f_notes f_meanings f_names f_slots nm kn (hk)) (cwV 1 hts (g_gV wq_714 wq_543 wq_544 wq_2 wq_545) rfl rfl rfl (by decide +kernel) ⟨Nat.le_of_ble_eq_true rfl, Nat.le_of_ble_eq_true rfl⟩) (g_preV g_bl0 hK hPc hDc hS hE hFc g_to0 (q0 := 0) (ci := 10) rfl rfl) rfl rfl hl.1 rfl (lv_room (Nat.le_of_ble_eq_true rfl)) dX4_itemWord_5 ⟨Nat.le_of_ble_eq_true rfl, Nat.le_of_ble_eq_true rfl⟩) (fun r_3 u_2 H_4 locs w_1 hP' hD' hS' => ?_)
  clear hPc hDc hFc
  have w_1 : r_3 = 0 := w_1
  replace hP : va_P (dC, dI) vwCl [(m0, .inr (4, [.ref w0, .ref s0, .ref f_toldAt, .ref f_sorts, .ref f_numbers, .ref f_seen, .ref f_seenNames, .int 0, .int 0, .int (-1), .ref f_marks, .int 0, .int 0, .int 0, .int 0, .int 0, .int 0, .int (-1)])), (w0, .inr (10, [.ref f_source, .int 0, .int 1, .ref f_kinds, .ref f_places, .ref f_values, .ref f_notes, .ref f_meanings, .ref f_names, .ref f_slots, .int nm, .int 0])), (f_kinds, .inl (cI, 16001, .inl kn))] H_4 := hP'
  replace hD : va_D A [(m0, .inr (4, [.ref w0, .ref s0, .ref f_toldAt, .ref f_sorts, .ref f_numbers, .ref f_seen, .ref f_seenNames, .int 0, .int 0, .int (-1), .ref f_marks, .int 0, .int 0, .int 0, .int 0, .int 0, .int 0, .int (-1)])), (w0, .inr (10, [.ref f_source, .int 0, .int 1, .ref f_kinds, .ref f_places, .ref f_values, .ref f_notes, .ref f_meanings, .ref f_names, .ref f_slots, .int nm, .int 0])), (f_kinds, .inl (cI, 16001, .inl kn))] := hD'
  replace hS := hS'
  clear hP' hD' hS'
  obtain rfl : 0 = r_3 := (w_1).symm
  refine lv_istore_n (lv' := [(2, .int 0), (0, .ref m0), (1, .int 0)]) hx hb dX4_itemWord_8 rfl hl (by decide) rfl (fun ls hl => ?_)
  refine lv_iload_n hx hb dX4_itemWord_9 rfl (lv_at hl 0 rfl) ?_
  refine lv_sipush (v := 206) hx hb dX4_itemWord_10 (by decide +kernel) ?_
  refine lv_icmp_lt (tgt := 60) hx hb dX4_itemWord_13 (by decide) (fun c_5 => ?_) (fun c_5 => absurd (by decide +kernel) c_5)
  refine lv_iload_n hx hb dX4_itemWord_60 rfl (lv_at hl 0 rfl) ?_
  refine lv_tableOut (tgt := 343) hx hb dX4_itemWord_61 (by decide +kernel) (by decide) ?_
  have hP9 := hP.sub (ws' := [(m0, .inr (4, [.ref w0, .ref s0, .ref f_toldAt, .ref f_sorts, .ref f_numbers, .ref f_seen, .ref f_seenNames, .int 0, .int 0, .int (-1), .ref f_marks, .int 0, .int 0, .int 0, .int 0, .int 0, .int 0, .int (-1)])), (w0, .inr (10, [.ref f_source, .int 0, .int 1, .ref f_kinds, .ref f_places, .ref f_values, .ref f_notes, .ref f_meanings, .ref f_names, .ref f_slots, .int nm, .int 0])), (f_kinds, .inl (cI, 16001, .inl kn))]) [0, 1, 2] rfl
  have hD9 := hD.sub (ws' := [(m0, .inr (4, [.ref w0, .ref s0, .ref f_toldAt, .ref f_sorts, .ref f_numbers, .ref f_seen, .ref f_seenNames, .int 0, .int 0, .int (-1), .ref f_marks, .int 0, .int 0, .int 0, .int 0, .int 0, .int 0, .int (-1)])), (w0, .inr (10, [.ref f_source, .int 0, .int 1, .ref f_kinds, .ref f_places, .ref f_values, .ref f_notes, .ref f_meanings, .ref f_names, .ref f_slots, .int nm, .int 0])), (f_kinds, .inl (cI, 16001, .inl kn))]) [0, 1, 2] (by decide +kernel) rfl
  refine W.widen (k := 0) (n := 0) (Nat.le_of_ble_eq_true rfl) (Nat.le_of_ble_eq_true rfl) ?_
  exact W.vret hx hb hr (fun t ht hW => ⟨⟨(), rfl, (by first | trivial | rfl | assumption), by rw [ht]; exact hP9, hD9⟩, hS.F ht⟩) hS.2.2 dX4_itemWord_343

abbrev ww_X4_fail (cB cC cI cJ cZ cP : ClassId) (m0 : Nat) (f_toldAt : Nat) (f_sorts : Nat) (f_numbers : Nat) (f_seen : Nat) (f_seenNames : Nat) (f_marks : Nat) (s0 : Nat) (w0 : Nat) (f_source : Nat) (f_kinds : Nat) (f_places : Nat) (f_values : Nat) (f_notes : Nat) (f_meanings : Nat) (f_names : Nat) (f_slots : Nat) (nm : Int32) (pn : Nat → Int32) : va_W := [(m0, .inr (4, [.ref w0, .ref s0, .ref f_toldAt, .ref f_sorts, .ref f_numbers, .ref f_seen, .ref f_seenNames, .int 0, .int 0, .int (-1), .ref f_marks, .int 0, .int 0, .int 0, .int 0, .int 0, .int 0, .int (-1)])), (w0, .inr (10, [.ref f_source, .int 0, .int 1, .ref f_kinds, .ref f_places, .ref f_values, .ref f_notes, .ref f_meanings, .ref f_names, .ref f_slots, .int nm, .int 0])), (f_places, .inl (cI, 16001, .inl pn))]
abbrev q_X4_fail (dC : Nat → ClassId) (dI : Nat → Nat → Nat) (cB cC cI cJ cZ cP : ClassId) (m0 : Nat) (f_toldAt : Nat) (f_sorts : Nat) (f_numbers : Nat) (f_seen : Nat) (f_seenNames : Nat) (f_marks : Nat) (s0 : Nat) (w0 : Nat) (f_source : Nat) (f_kinds : Nat) (f_places : Nat) (f_values : Nat) (f_notes : Nat) (f_meanings : Nat) (f_names : Nat) (f_slots : Nat) (nm : Int32) (pn : Nat → Int32) (A : Nat → Prop) : Array Value → State → Outcome → State → Prop := va_Qv (fun (fp : Int32) => True) (g_Bo (dC, dI) A (fun (fp : Int32) => [(m0, .inr (4, [.ref w0, .ref s0, .ref f_toldAt, .ref f_sorts, .ref f_numbers, .ref f_seen, .ref f_seenNames, .int 0, .int 0, .int (-1), .ref f_marks, .int 0, .int 0, .int 0, .int 0, .int 0, .int 6, .int fp])), (w0, .inr (10, [.ref f_source, .int 0, .int 1, .ref f_kinds, .ref f_places, .ref f_values, .ref f_notes, .ref f_meanings, .ref f_names, .ref f_slots, .int nm, .int 0])), (f_places, .inl (cI, 16001, .inl pn))])) A
set_option maxHeartbeats 4000000 in
set_option maxRecDepth 100000 in
theorem c_X4_fail (l : Launch) (dC : Nat → ClassId) (dI : Nat → Nat → Nat) (cB cC cI cJ cZ cP : ClassId) (sz : Nat) (m0 : Nat) (f_toldAt : Nat) (f_sorts : Nat) (f_numbers : Nat) (f_seen : Nat) (f_seenNames : Nat) (f_marks : Nat) (s0 : Nat) (w0 : Nat) (f_source : Nat) (f_kinds : Nat) (f_places : Nat) (f_values : Nat) (f_notes : Nat) (f_meanings : Nat) (f_names : Nat) (f_slots : Nat) (nm : Int32) (pn : Nat → Int32)  : Met l yX4_fail (g_ws yX4_fail cX4_fail 3 none) ({ frames := 3, cells := 0, slots := 0, locals := 82 }) (va_Pc [.ref m0, .int 6, .int 0] (g_B (dC, dI) [(cB, .byte), (cC, .char), (cI, .int), (cJ, .long), (cZ, .boolean), (cP, .object "StoryHouse$Play")] sz (ww_X4_fail cB cC cI cJ cZ cP m0 f_toldAt f_sorts f_numbers f_seen f_seenNames f_marks s0 w0 f_source f_kinds f_places f_values f_notes f_meanings f_names f_slots nm pn) g_0)) (q_X4_fail dC dI cB cC cI cJ cZ cP m0 f_toldAt f_sorts f_numbers f_seen f_seenNames f_marks s0 w0 f_source f_kinds f_places f_values f_notes f_meanings f_names f_slots nm pn (va_A (ww_X4_fail cB cC cI cJ cZ cP m0 f_toldAt f_sorts f_numbers f_seen f_seenNames f_marks s0 w0 f_source f_kinds f_places f_values f_notes f_meanings f_names f_slots nm pn) sz)) 0 0 (va_A (ww_X4_fail cB cC cI cJ cZ cP m0 f_toldAt f_sorts f_numbers f_seen f_seenNames f_marks s0 w0 f_source f_kinds f_places f_values f_notes f_meanings f_names f_slots nm pn) sz) := by
  refine Met.ofW (cc := cX4_fail) (maxL := 3) (ret := none) (by decide) rfl ?_
  intro p e s m args below meth c s₁ B hml hv
  obtain ⟨rfl, hsz, hP, hK, hD0, hE, hX⟩ := hv
  have hx := B.exec
  have hb := B.bytes
  have hr := B.returns
  have hts0 := atoms_spec (ws := (g_ws yX4_fail cX4_fail 3 none)) B.pre
  have hts : ∀ w ∈ lw_good, w.before ([.ref m0, .int 6, .int 0] : List Value).toArray s = true := fun w h => hts0 w (List.mem_cons_of_mem _ h)
  have hown : s.vm.findClass RX4 = some m.cls := findClass_of_methodNamed B.named
  have hlocks := B.notSynchronized
  subst hsz
  have hD := hD0.self (sz := s.heap.size)
  generalize hAe : va_A (ww_X4_fail cB cC cI cJ cZ cP m0 f_toldAt f_sorts f_numbers f_seen f_seenNames f_marks s0 w0 f_source f_kinds f_places f_values f_notes f_meanings f_names f_slots nm pn) s.heap.size = A at hD hE hX ⊢
  have hA : ∀ q : Nat, s.heap.size ≤ q → A q := fun q h => by rw [← hAe]; exact Or.inr h
  have hN := hE.1
  have hS : va_S A s.heap s.heap [] := va_S.rf
  have hP : va_P (dC, dI) vwCl [(m0, .inr (4, [.ref w0, .ref s0, .ref f_toldAt, .ref f_sorts, .ref f_numbers, .ref f_seen, .ref f_seenNames, .int 0, .int 0, .int (-1), .ref f_marks, .int 0, .int 0, .int 0, .int 0, .int 0, .int 0, .int (-1)])), (w0, .inr (10, [.ref f_source, .int 0, .int 1, .ref f_kinds, .ref f_places, .ref f_values, .ref f_notes, .ref f_meanings, .ref f_names, .ref f_slots, .int nm, .int 0])), (f_places, .inl (cI, 16001, .inl pn))] s.heap := hP
  have hl := lv_entry ([.ref m0, .int 6, .int 0]) (n := 3) (Nat.le_of_ble_eq_true rfl)
  rw [lg_entry_eq]
  generalize (lg_sl ([.ref m0, .int 6, .int 0]) ++ List.replicate (3 - (lg_sl ([.ref m0, .int 6, .int 0])).length) Slot.unset).toArray = ls at hl ⊢
  have hl : lv_has ls 3 [(0, .ref m0), (1, .int 6), (2, .int 0)] := hl
  refine lv_aload_n hx hb dX4_fail_0 rfl (lv_at hl 0 rfl) ?_
  refine va_get (D := (dC, dI)) (ci := 4) (v := .int 0) (C := RX4) (T := TX4) (N := 18) hx hb hts ii_X4 hown hK hP 0 rfl rfl 16 (by decide) (hts (.fieldLink RX4 40 "StoryHouse$Meanings" "fault" "I") wq_102) (fun _ h9 => h9) rfl dX4_fail_1 ?_
  refine lv_if_ne (tgt := 24) hx hb dX4_fail_4 (by decide) (fun c_1 => absurd c_1 (by decide +kernel)) (fun c_1 => ?_)
  refine lv_aload_n hx hb dX4_fail_7 rfl (lv_at hl 0 rfl) ?_
  refine lv_iload_n hx hb dX4_fail_8 rfl (lv_at hl 1 rfl) ?_
  refine va_put (D := (dC, dI)) (ci := 4) (v := .int 6) (ty := .int) (C := RX4) (T := TX4) (N := 18) hx hb hts ii_X4 tyX4 tyX4_ok nmX4 hown hK hP hD hS 0 rfl rfl 16 (by decide) (hts (.fieldLink RX4 40 "StoryHouse$Meanings" "fault" "I") wq_102) (fun _ h9 => h9) rfl (by decide +kernel) rfl rfl (Nat.le_of_ble_eq_true rfl) dX4_fail_9 (fun H_2 locs hP' hD' hS' => ?_)
  replace hP : va_P (dC, dI) vwCl [(m0, .inr (4, [.ref w0, .ref s0, .ref f_toldAt, .ref f_sorts, .ref f_numbers, .ref f_seen, .ref f_seenNames, .int 0, .int 0, .int (-1), .ref f_marks, .int 0, .int 0, .int 0, .int 0, .int 0, .int 6, .int (-1)])), (w0, .inr (10, [.ref f_source, .int 0, .int 1, .ref f_kinds, .ref f_places, .ref f_values, .ref f_notes, .ref f_meanings, .ref f_names, .ref f_slots, .int nm, .int 0])), (f_places, .inl (cI, 16001, .inl pn))] H_2 := hP'
  replace hD : va_D A [(m0, .inr (4, [.ref w0, .ref s0, .ref f_toldAt, .ref f_sorts, .ref f_numbers, .ref f_seen, .ref f_seenNames, .int 0, .int 0, .int (-1), .ref f_marks, .int 0, .int 0, .int 0, .int 0, .int 0, .int 6, .int (-1)])), (w0, .inr (10, [.ref f_source, .int 0, .int 1, .ref f_kinds, .ref f_places, .ref f_values, .ref f_notes, .ref f_meanings, .ref f_names, .ref f_slots, .int nm, .int 0])), (f_places, .inl (cI, 16001, .inl pn))] := hD'
  replace hS := hS'
  clear hP' hD' hS'
  refine lv_aload_n hx hb dX4_fail_12 rfl (lv_at hl 0 rfl) ?_
  refine lv_aload_n hx hb dX4_fail_13 rfl (lv_at hl 0 rfl) ?_
  refine va_get (D := (dC, dI)) (ci := 4) (v := .ref w0) (C := RX4) (T := TX4) (N := 18) hx hb hts ii_X4 hown hK hP 0 rfl rfl 0 (by decide) (hts (.fieldLink RX4 32 "StoryHouse$Meanings" "words" "LStoryHouse$Words;") wq_86) (fun _ h9 => h9) rfl dX4_fail_14 ?_
  refine lv_iload_n hx hb dX4_fail_17 rfl (lv_at hl 2 rfl) ?_
  have hPc := hP.sub (ws' := [(w0, .inr (10, [.ref f_source, .int 0, .int 1, .ref f_kinds, .ref f_places, .ref f_values, .ref f_notes, .ref f_meanings, .ref f_names, .ref f_slots, .int nm, .int 0])), (f_places, .inl (cI, 16001, .inl pn))]) [1, 2] rfl
  have hDc := hD.sub (ws' := [(w0, .inr (10, [.ref f_source, .int 0, .int 1, .ref f_kinds, .ref f_places, .ref f_values, .ref f_notes, .ref f_meanings, .ref f_names, .ref f_slots, .int nm, .int 0])), (f_places, .inl (cI, 16001, .inl pn))]) [1, 2] (by decide +kernel) rfl
  have hFc := va_free (wc := [(w0, .inr (10, [.ref f_source, .int 0, .int 1, .ref f_kinds, .ref f_places, .ref f_values, .ref f_notes, .ref f_meanings, .ref f_names, .ref f_slots, .int nm, .int 0])), (f_places, .inl (cI, 16001, .inl pn))]) hD hS hA [1, 2] rfl
  refine g_ofi (wc := [(w0, .inr (10, [.ref f_source, .int 0, .int 1, .ref f_kinds, .ref f_places, .ref f_values, .ref f_notes, .ref f_meanings, .ref f_names, .ref f_slots, .int nm, .int 0])), (f_places, .inl (cI, 16001, .inl pn))]) (wr := [(m0, .inr (4, [.ref w0, .ref s0, .ref f_toldAt, .ref f_sorts, .ref f_numbers, .ref f_seen, .ref f_seenNames, .int 0, .int 0, .int (-1), .ref f_marks, .int 0, .int 0, .int 0, .int 0, .int 0, .int 6, .int (-1)]))]) hP hD hS hFc [1, 2] [0] rfl rfl (by decide +kernel) (by decide +kernel) (va_runV (As := [.int 0]) (rest := [.ref m0]) ⟨hx, hb, hml, hown, hts⟩ (c_X10_placeOf l dC dI cB cC cI cJ cZ cP H_2.size w0 f_source f_kinds f_places f_values f_notes f_meanings f_names f_slots nm pn ) (cwV 1 hts (g_gV wq_728 wq_702 wq_703 wq_2 wq_704) rfl rfl rfl (by decide +kernel) ⟨Nat.le_of_ble_eq_true rfl, Nat.le_of_ble_eq_true rfl⟩) (g_preV g_bl0 hK hPc hDc hS hE hFc g_to0 (q0 := 0) (ci := 10) rfl rfl) rfl rfl hl.1 rfl (lv_room (Nat.le_of_ble_eq_true rfl)) dX4_fail_18 ⟨Nat.le_of_ble_eq_true rfl, Nat.le_of_ble_eq_true rfl⟩) (fun r_5 u_4 H_6 locs w_3 hP' hD' hS' => ?_)
  clear hPc hDc hFc
  have w_3 : True := w_3
  replace hP : va_P (dC, dI) vwCl [(m0, .inr (4, [.ref w0, .ref s0, .ref f_toldAt, .ref f_sorts, .ref f_numbers, .ref f_seen, .ref f_seenNames, .int 0, .int 0, .int (-1), .ref f_marks, .int 0, .int 0, .int 0, .int 0, .int 0, .int 6, .int (-1)])), (w0, .inr (10, [.ref f_source, .int 0, .int 1, .ref f_kinds, .ref f_places, .ref f_values, .ref f_notes, .ref f_meanings, .ref f_names, .ref f_slots, .int nm, .int 0])), (f_places, .inl (cI, 16001, .inl pn))] H_6 := hP'
  replace hD : va_D A [(m0, .inr (4, [.ref w0, .ref s0, .ref f_toldAt, .ref f_sorts, .ref f_numbers, .ref f_seen, .ref f_seenNames, .int 0, .int 0, .int (-1), .ref f_marks, .int 0, .int 0, .int 0, .int 0, .int 0, .int 6, .int (-1)])), (w0, .inr (10, [.ref f_source, .int 0, .int 1, .ref f_kinds, .ref f_places, .ref f_values, .ref f_notes, .ref f_meanings, .ref f_names, .ref f_slots, .int nm, .int 0])), (f_places, .inl (cI, 16001, .inl pn))] := hD'
  replace hS := hS'
  clear hP' hD' hS'
  refine va_put (D := (dC, dI)) (ci := 4) (v := .int r_5) (ty := .int) (C := RX4) (T := TX4) (N := 18) hx hb hts ii_X4 tyX4 tyX4_ok nmX4 hown hK hP hD hS 0 rfl rfl 17 (by decide) (hts (.fieldLink RX4 44 "StoryHouse$Meanings" "faultPlace" "I") wq_103) (fun _ h9 => h9) rfl (by decide +kernel) rfl rfl (Nat.le_of_ble_eq_true rfl) dX4_fail_21 (fun H_7 locs hP' hD' hS' => ?_)
  replace hP : va_P (dC, dI) vwCl [(m0, .inr (4, [.ref w0, .ref s0, .ref f_toldAt, .ref f_sorts, .ref f_numbers, .ref f_seen, .ref f_seenNames, .int 0, .int 0, .int (-1), .ref f_marks, .int 0, .int 0, .int 0, .int 0, .int 0, .int 6, .int r_5])), (w0, .inr (10, [.ref f_source, .int 0, .int 1, .ref f_kinds, .ref f_places, .ref f_values, .ref f_notes, .ref f_meanings, .ref f_names, .ref f_slots, .int nm, .int 0])), (f_places, .inl (cI, 16001, .inl pn))] H_7 := hP'
  replace hD : va_D A [(m0, .inr (4, [.ref w0, .ref s0, .ref f_toldAt, .ref f_sorts, .ref f_numbers, .ref f_seen, .ref f_seenNames, .int 0, .int 0, .int (-1), .ref f_marks, .int 0, .int 0, .int 0, .int 0, .int 0, .int 6, .int r_5])), (w0, .inr (10, [.ref f_source, .int 0, .int 1, .ref f_kinds, .ref f_places, .ref f_values, .ref f_notes, .ref f_meanings, .ref f_names, .ref f_slots, .int nm, .int 0])), (f_places, .inl (cI, 16001, .inl pn))] := hD'
  replace hS := hS'
  clear hP' hD' hS'
  have hP9 := hP.sub (ws' := [(m0, .inr (4, [.ref w0, .ref s0, .ref f_toldAt, .ref f_sorts, .ref f_numbers, .ref f_seen, .ref f_seenNames, .int 0, .int 0, .int (-1), .ref f_marks, .int 0, .int 0, .int 0, .int 0, .int 0, .int 6, .int r_5])), (w0, .inr (10, [.ref f_source, .int 0, .int 1, .ref f_kinds, .ref f_places, .ref f_values, .ref f_notes, .ref f_meanings, .ref f_names, .ref f_slots, .int nm, .int 0])), (f_places, .inl (cI, 16001, .inl pn))]) [0, 1, 2] rfl
  have hD9 := hD.sub (ws' := [(m0, .inr (4, [.ref w0, .ref s0, .ref f_toldAt, .ref f_sorts, .ref f_numbers, .ref f_seen, .ref f_seenNames, .int 0, .int 0, .int (-1), .ref f_marks, .int 0, .int 0, .int 0, .int 0, .int 0, .int 6, .int r_5])), (w0, .inr (10, [.ref f_source, .int 0, .int 1, .ref f_kinds, .ref f_places, .ref f_values, .ref f_notes, .ref f_meanings, .ref f_names, .ref f_slots, .int nm, .int 0])), (f_places, .inl (cI, 16001, .inl pn))]) [0, 1, 2] (by decide +kernel) rfl
  refine W.widen (k := 0) (n := 0) (Nat.le_of_ble_eq_true rfl) (Nat.le_of_ble_eq_true rfl) ?_
  exact W.vret hx hb hr (fun t ht hW => ⟨⟨r_5, rfl, (by first | trivial | rfl | assumption), by rw [ht]; exact hP9, hD9⟩, hS.F ht⟩) hS.2.2 dX4_fail_24

abbrev ww_X7_isRoom (cB cC cI cJ cZ cP : ClassId) (s0 : Nat) (s_f_counts : Nat) (s_f_rooms : Nat) (s_f_called : Nat) (s_f_described : Nat) (s_f_starts : Nat) (s_f_traits : Nat) (s_f_exits : Nat) (s_f_forms : Nat) (s_f_joints : Nat) (s_f_owned : Nat) (s_f_ownedCounts : Nat) (s_f_initials : Nat) (s_f_cellEnds : Nat) (s_f_onVerbs : Nat) (s_f_onFirsts : Nat) (s_f_onSeconds : Nat) (s_f_code : Nat) (s_f_texts : Nat) (s_f_dictionary : Nat) (rooms_b : Nat → Int32) : va_W := [(s0, .inr (7, [.ref s_f_counts, .ref s_f_rooms, .ref s_f_called, .ref s_f_described, .ref s_f_starts, .ref s_f_traits, .ref s_f_exits, .ref s_f_forms, .ref s_f_joints, .ref s_f_owned, .ref s_f_ownedCounts, .ref s_f_initials, .ref s_f_cellEnds, .ref s_f_onVerbs, .ref s_f_onFirsts, .ref s_f_onSeconds, .ref s_f_code, .ref s_f_texts, .ref s_f_dictionary])), (s_f_rooms, .inl (cZ, 121, .inl rooms_b))]
abbrev q_X7_isRoom (dC : Nat → ClassId) (dI : Nat → Nat → Nat) (cB cC cI cJ cZ cP : ClassId) (s0 : Nat) (s_f_counts : Nat) (s_f_rooms : Nat) (s_f_called : Nat) (s_f_described : Nat) (s_f_starts : Nat) (s_f_traits : Nat) (s_f_exits : Nat) (s_f_forms : Nat) (s_f_joints : Nat) (s_f_owned : Nat) (s_f_ownedCounts : Nat) (s_f_initials : Nat) (s_f_cellEnds : Nat) (s_f_onVerbs : Nat) (s_f_onFirsts : Nat) (s_f_onSeconds : Nat) (s_f_code : Nat) (s_f_texts : Nat) (s_f_dictionary : Nat) (rooms_b : Nat → Int32) (A : Nat → Prop) : Array Value → State → Outcome → State → Prop := va_Qi (fun (r : Int32) (_ : Unit) => r = 0) (g_Bo (dC, dI) A (fun (_ : Unit) => [(s0, .inr (7, [.ref s_f_counts, .ref s_f_rooms, .ref s_f_called, .ref s_f_described, .ref s_f_starts, .ref s_f_traits, .ref s_f_exits, .ref s_f_forms, .ref s_f_joints, .ref s_f_owned, .ref s_f_ownedCounts, .ref s_f_initials, .ref s_f_cellEnds, .ref s_f_onVerbs, .ref s_f_onFirsts, .ref s_f_onSeconds, .ref s_f_code, .ref s_f_texts, .ref s_f_dictionary])), (s_f_rooms, .inl (cZ, 121, .inl rooms_b))])) A
set_option maxHeartbeats 4000000 in
set_option maxRecDepth 100000 in
theorem c_X7_isRoom (l : Launch) (dC : Nat → ClassId) (dI : Nat → Nat → Nat) (cB cC cI cJ cZ cP : ClassId) (sz : Nat) (s0 : Nat) (s_f_counts : Nat) (s_f_rooms : Nat) (s_f_called : Nat) (s_f_described : Nat) (s_f_starts : Nat) (s_f_traits : Nat) (s_f_exits : Nat) (s_f_forms : Nat) (s_f_joints : Nat) (s_f_owned : Nat) (s_f_ownedCounts : Nat) (s_f_initials : Nat) (s_f_cellEnds : Nat) (s_f_onVerbs : Nat) (s_f_onFirsts : Nat) (s_f_onSeconds : Nat) (s_f_code : Nat) (s_f_texts : Nat) (s_f_dictionary : Nat) (rooms_b : Nat → Int32) (hrm : rooms_b 1 = 0) : Met l yX7_isRoom (g_ws yX7_isRoom cX7_isRoom 2 (some .boolean)) ({ frames := 1, cells := 0, slots := 0, locals := 40 }) (va_Pc [.ref s0, .int 1] (g_B (dC, dI) [(cB, .byte), (cC, .char), (cI, .int), (cJ, .long), (cZ, .boolean), (cP, .object "StoryHouse$Play")] sz (ww_X7_isRoom cB cC cI cJ cZ cP s0 s_f_counts s_f_rooms s_f_called s_f_described s_f_starts s_f_traits s_f_exits s_f_forms s_f_joints s_f_owned s_f_ownedCounts s_f_initials s_f_cellEnds s_f_onVerbs s_f_onFirsts s_f_onSeconds s_f_code s_f_texts s_f_dictionary rooms_b) g_0)) (q_X7_isRoom dC dI cB cC cI cJ cZ cP s0 s_f_counts s_f_rooms s_f_called s_f_described s_f_starts s_f_traits s_f_exits s_f_forms s_f_joints s_f_owned s_f_ownedCounts s_f_initials s_f_cellEnds s_f_onVerbs s_f_onFirsts s_f_onSeconds s_f_code s_f_texts s_f_dictionary rooms_b (va_A (ww_X7_isRoom cB cC cI cJ cZ cP s0 s_f_counts s_f_rooms s_f_called s_f_described s_f_starts s_f_traits s_f_exits s_f_forms s_f_joints s_f_owned s_f_ownedCounts s_f_initials s_f_cellEnds s_f_onVerbs s_f_onFirsts s_f_onSeconds s_f_code s_f_texts s_f_dictionary rooms_b) sz)) 0 0 (va_A (ww_X7_isRoom cB cC cI cJ cZ cP s0 s_f_counts s_f_rooms s_f_called s_f_described s_f_starts s_f_traits s_f_exits s_f_forms s_f_joints s_f_owned s_f_ownedCounts s_f_initials s_f_cellEnds s_f_onVerbs s_f_onFirsts s_f_onSeconds s_f_code s_f_texts s_f_dictionary rooms_b) sz) := by
  refine Met.ofW (cc := cX7_isRoom) (maxL := 2) (ret := (some .boolean)) (by decide) rfl ?_
  intro p e s m args below meth c s₁ B hml hv
  obtain ⟨rfl, hsz, hP, hK, hD0, hE, hX⟩ := hv
  have hx := B.exec
  have hb := B.bytes
  have hr := B.returns
  have hts0 := atoms_spec (ws := (g_ws yX7_isRoom cX7_isRoom 2 (some .boolean))) B.pre
  have hts : ∀ w ∈ lw_good, w.before ([.ref s0, .int 1] : List Value).toArray s = true := fun w h => hts0 w (List.mem_cons_of_mem _ h)
  have hown : s.vm.findClass RX7 = some m.cls := findClass_of_methodNamed B.named
  have hlocks := B.notSynchronized
  subst hsz
  have hD := hD0.self (sz := s.heap.size)
  generalize hAe : va_A (ww_X7_isRoom cB cC cI cJ cZ cP s0 s_f_counts s_f_rooms s_f_called s_f_described s_f_starts s_f_traits s_f_exits s_f_forms s_f_joints s_f_owned s_f_ownedCounts s_f_initials s_f_cellEnds s_f_onVerbs s_f_onFirsts s_f_onSeconds s_f_code s_f_texts s_f_dictionary rooms_b) s.heap.size = A at hD hE hX ⊢
  have hA : ∀ q : Nat, s.heap.size ≤ q → A q := fun q h => by rw [← hAe]; exact Or.inr h
  have hN := hE.1
  have hS : va_S A s.heap s.heap [] := va_S.rf
  have hP : va_P (dC, dI) vwCl [(s0, .inr (7, [.ref s_f_counts, .ref s_f_rooms, .ref s_f_called, .ref s_f_described, .ref s_f_starts, .ref s_f_traits, .ref s_f_exits, .ref s_f_forms, .ref s_f_joints, .ref s_f_owned, .ref s_f_ownedCounts, .ref s_f_initials, .ref s_f_cellEnds, .ref s_f_onVerbs, .ref s_f_onFirsts, .ref s_f_onSeconds, .ref s_f_code, .ref s_f_texts, .ref s_f_dictionary])), (s_f_rooms, .inl (cZ, 121, .inl rooms_b))] s.heap := hP
  have hl := lv_entry ([.ref s0, .int 1]) (n := 2) (Nat.le_of_ble_eq_true rfl)
  rw [lg_entry_eq]
  generalize (lg_sl ([.ref s0, .int 1]) ++ List.replicate (2 - (lg_sl ([.ref s0, .int 1])).length) Slot.unset).toArray = ls at hl ⊢
  have hl : lv_has ls 2 [(0, .ref s0), (1, .int 1)] := hl
  refine lv_iload_n hx hb dX7_isRoom_0 rfl (lv_at hl 1 rfl) ?_
  refine lv_if_lt (tgt := 26) hx hb dX7_isRoom_1 (by decide) (fun c_1 => absurd c_1 (by decide +kernel)) (fun c_1 => ?_)
  refine lv_iload_n hx hb dX7_isRoom_4 rfl (lv_at hl 1 rfl) ?_
  refine lv_aload_n hx hb dX7_isRoom_5 rfl (lv_at hl 0 rfl) ?_
  refine va_get (D := (dC, dI)) (ci := 7) (v := .ref s_f_rooms) (C := RX7) (T := TX7) (N := 19) hx hb hts ii_X7 hown hK hP 0 rfl rfl 1 (by decide) (hts (.fieldLink RX7 15 "StoryHouse$Story" "rooms" "[Z") wq_156) (fun _ h9 => h9) rfl dX7_isRoom_6 ?_
  refine va_alen (v := 121) hx hb hK hP 1 4 rfl rfl (by first | rfl | decide +kernel) dX7_isRoom_9 ?_
  refine lv_icmp_ge (tgt := 26) hx hb dX7_isRoom_10 (by decide) (fun c_2 => absurd c_2 (by decide +kernel)) (fun c_2 => ?_)
  refine lv_aload_n hx hb dX7_isRoom_13 rfl (lv_at hl 0 rfl) ?_
  refine va_get (D := (dC, dI)) (ci := 7) (v := .ref s_f_rooms) (C := RX7) (T := TX7) (N := 19) hx hb hts ii_X7 hown hK hP 0 rfl rfl 1 (by decide) (hts (.fieldLink RX7 15 "StoryHouse$Story" "rooms" "[Z") wq_156) (fun _ h9 => h9) rfl dX7_isRoom_14 ?_
  refine lv_iload_n hx hb dX7_isRoom_17 rfl (lv_at hl 1 rfl) ?_
  refine va_zald hx hb hK hP 1 4 rfl rfl (vp_in_iff.mpr (by decide +kernel)) dX7_isRoom_18 ?_
  refine lv_topi (fun x_3 ex_3 => ?_)
  refine lv_if_eq (tgt := 26) hx hb dX7_isRoom_19 (by decide) (fun c_4 => ?_) (fun c_4 => absurd (by rw [ex_3]; exact hrm) c_4)
  refine lv_iconst (v := 0) hx hb dX7_isRoom_26 (by decide +kernel) ?_
  have hP9 := hP.sub (ws' := [(s0, .inr (7, [.ref s_f_counts, .ref s_f_rooms, .ref s_f_called, .ref s_f_described, .ref s_f_starts, .ref s_f_traits, .ref s_f_exits, .ref s_f_forms, .ref s_f_joints, .ref s_f_owned, .ref s_f_ownedCounts, .ref s_f_initials, .ref s_f_cellEnds, .ref s_f_onVerbs, .ref s_f_onFirsts, .ref s_f_onSeconds, .ref s_f_code, .ref s_f_texts, .ref s_f_dictionary])), (s_f_rooms, .inl (cZ, 121, .inl rooms_b))]) [0, 1] rfl
  have hD9 := hD.sub (ws' := [(s0, .inr (7, [.ref s_f_counts, .ref s_f_rooms, .ref s_f_called, .ref s_f_described, .ref s_f_starts, .ref s_f_traits, .ref s_f_exits, .ref s_f_forms, .ref s_f_joints, .ref s_f_owned, .ref s_f_ownedCounts, .ref s_f_initials, .ref s_f_cellEnds, .ref s_f_onVerbs, .ref s_f_onFirsts, .ref s_f_onSeconds, .ref s_f_code, .ref s_f_texts, .ref s_f_dictionary])), (s_f_rooms, .inl (cZ, 121, .inl rooms_b))]) [0, 1] (by decide +kernel) rfl
  refine W.widen (k := 0) (n := 0) (Nat.le_of_ble_eq_true rfl) (Nat.le_of_ble_eq_true rfl) ?_
  exact W.zret (v := 0) hx hb hr (by decide +kernel) (fun t ht hW => ⟨⟨0, (), rfl, (by first | trivial | rfl | assumption), by rw [ht]; exact hP9, hD9⟩, hS.F ht⟩) hS.2.2 dX7_isRoom_27

abbrev ww_X7_firstRoom (cB cC cI cJ cZ cP : ClassId) (s0 : Nat) (s_f_counts : Nat) (s_f_rooms : Nat) (s_f_called : Nat) (s_f_described : Nat) (s_f_starts : Nat) (s_f_traits : Nat) (s_f_exits : Nat) (s_f_forms : Nat) (s_f_joints : Nat) (s_f_owned : Nat) (s_f_ownedCounts : Nat) (s_f_initials : Nat) (s_f_cellEnds : Nat) (s_f_onVerbs : Nat) (s_f_onFirsts : Nat) (s_f_onSeconds : Nat) (s_f_code : Nat) (s_f_texts : Nat) (s_f_dictionary : Nat) (counts_b : Nat → Int32) (rooms_b : Nat → Int32) : va_W := [(s0, .inr (7, [.ref s_f_counts, .ref s_f_rooms, .ref s_f_called, .ref s_f_described, .ref s_f_starts, .ref s_f_traits, .ref s_f_exits, .ref s_f_forms, .ref s_f_joints, .ref s_f_owned, .ref s_f_ownedCounts, .ref s_f_initials, .ref s_f_cellEnds, .ref s_f_onVerbs, .ref s_f_onFirsts, .ref s_f_onSeconds, .ref s_f_code, .ref s_f_texts, .ref s_f_dictionary])), (s_f_counts, .inl (cI, 7, .inl counts_b)), (s_f_rooms, .inl (cZ, 121, .inl rooms_b))]
abbrev q_X7_firstRoom (dC : Nat → ClassId) (dI : Nat → Nat → Nat) (cB cC cI cJ cZ cP : ClassId) (s0 : Nat) (s_f_counts : Nat) (s_f_rooms : Nat) (s_f_called : Nat) (s_f_described : Nat) (s_f_starts : Nat) (s_f_traits : Nat) (s_f_exits : Nat) (s_f_forms : Nat) (s_f_joints : Nat) (s_f_owned : Nat) (s_f_ownedCounts : Nat) (s_f_initials : Nat) (s_f_cellEnds : Nat) (s_f_onVerbs : Nat) (s_f_onFirsts : Nat) (s_f_onSeconds : Nat) (s_f_code : Nat) (s_f_texts : Nat) (s_f_dictionary : Nat) (counts_b : Nat → Int32) (rooms_b : Nat → Int32) (A : Nat → Prop) : Array Value → State → Outcome → State → Prop := va_Qi (fun (r : Int32) (_ : Unit) => r = 0) (g_Bo (dC, dI) A (fun (_ : Unit) => [(s0, .inr (7, [.ref s_f_counts, .ref s_f_rooms, .ref s_f_called, .ref s_f_described, .ref s_f_starts, .ref s_f_traits, .ref s_f_exits, .ref s_f_forms, .ref s_f_joints, .ref s_f_owned, .ref s_f_ownedCounts, .ref s_f_initials, .ref s_f_cellEnds, .ref s_f_onVerbs, .ref s_f_onFirsts, .ref s_f_onSeconds, .ref s_f_code, .ref s_f_texts, .ref s_f_dictionary])), (s_f_counts, .inl (cI, 7, .inl counts_b)), (s_f_rooms, .inl (cZ, 121, .inl rooms_b))])) A
set_option maxHeartbeats 4000000 in
set_option maxRecDepth 100000 in
theorem c_X7_firstRoom (l : Launch) (dC : Nat → ClassId) (dI : Nat → Nat → Nat) (cB cC cI cJ cZ cP : ClassId) (sz : Nat) (s0 : Nat) (s_f_counts : Nat) (s_f_rooms : Nat) (s_f_called : Nat) (s_f_described : Nat) (s_f_starts : Nat) (s_f_traits : Nat) (s_f_exits : Nat) (s_f_forms : Nat) (s_f_joints : Nat) (s_f_owned : Nat) (s_f_ownedCounts : Nat) (s_f_initials : Nat) (s_f_cellEnds : Nat) (s_f_onVerbs : Nat) (s_f_onFirsts : Nat) (s_f_onSeconds : Nat) (s_f_code : Nat) (s_f_texts : Nat) (s_f_dictionary : Nat) (counts_b : Nat → Int32) (rooms_b : Nat → Int32) (hcn : counts_b 0 = 1) (hrm : rooms_b 1 = 0) : Met l yX7_firstRoom (g_ws yX7_firstRoom cX7_firstRoom 2 (some .int)) ({ frames := 2, cells := 0, slots := 0, locals := 61 }) (va_Pc [.ref s0] (g_B (dC, dI) [(cB, .byte), (cC, .char), (cI, .int), (cJ, .long), (cZ, .boolean), (cP, .object "StoryHouse$Play")] sz (ww_X7_firstRoom cB cC cI cJ cZ cP s0 s_f_counts s_f_rooms s_f_called s_f_described s_f_starts s_f_traits s_f_exits s_f_forms s_f_joints s_f_owned s_f_ownedCounts s_f_initials s_f_cellEnds s_f_onVerbs s_f_onFirsts s_f_onSeconds s_f_code s_f_texts s_f_dictionary counts_b rooms_b) g_0)) (q_X7_firstRoom dC dI cB cC cI cJ cZ cP s0 s_f_counts s_f_rooms s_f_called s_f_described s_f_starts s_f_traits s_f_exits s_f_forms s_f_joints s_f_owned s_f_ownedCounts s_f_initials s_f_cellEnds s_f_onVerbs s_f_onFirsts s_f_onSeconds s_f_code s_f_texts s_f_dictionary counts_b rooms_b (va_A (ww_X7_firstRoom cB cC cI cJ cZ cP s0 s_f_counts s_f_rooms s_f_called s_f_described s_f_starts s_f_traits s_f_exits s_f_forms s_f_joints s_f_owned s_f_ownedCounts s_f_initials s_f_cellEnds s_f_onVerbs s_f_onFirsts s_f_onSeconds s_f_code s_f_texts s_f_dictionary counts_b rooms_b) sz)) 0 0 (va_A (ww_X7_firstRoom cB cC cI cJ cZ cP s0 s_f_counts s_f_rooms s_f_called s_f_described s_f_starts s_f_traits s_f_exits s_f_forms s_f_joints s_f_owned s_f_ownedCounts s_f_initials s_f_cellEnds s_f_onVerbs s_f_onFirsts s_f_onSeconds s_f_code s_f_texts s_f_dictionary counts_b rooms_b) sz) := by
  refine Met.ofW (cc := cX7_firstRoom) (maxL := 2) (ret := (some .int)) (by decide) rfl ?_
  intro p e s m args below meth c s₁ B hml hv
  obtain ⟨rfl, hsz, hP, hK, hD0, hE, hX⟩ := hv
  have hx := B.exec
  have hb := B.bytes
  have hr := B.returns
  have hts0 := atoms_spec (ws := (g_ws yX7_firstRoom cX7_firstRoom 2 (some .int))) B.pre
  have hts : ∀ w ∈ lw_good, w.before ([.ref s0] : List Value).toArray s = true := fun w h => hts0 w (List.mem_cons_of_mem _ h)
  have hown : s.vm.findClass RX7 = some m.cls := findClass_of_methodNamed B.named
  have hlocks := B.notSynchronized
  subst hsz
  have hD := hD0.self (sz := s.heap.size)
  generalize hAe : va_A (ww_X7_firstRoom cB cC cI cJ cZ cP s0 s_f_counts s_f_rooms s_f_called s_f_described s_f_starts s_f_traits s_f_exits s_f_forms s_f_joints s_f_owned s_f_ownedCounts s_f_initials s_f_cellEnds s_f_onVerbs s_f_onFirsts s_f_onSeconds s_f_code s_f_texts s_f_dictionary counts_b rooms_b) s.heap.size = A at hD hE hX ⊢
  have hA : ∀ q : Nat, s.heap.size ≤ q → A q := fun q h => by rw [← hAe]; exact Or.inr h
  have hN := hE.1
  have hS : va_S A s.heap s.heap [] := va_S.rf
  have hP : va_P (dC, dI) vwCl [(s0, .inr (7, [.ref s_f_counts, .ref s_f_rooms, .ref s_f_called, .ref s_f_described, .ref s_f_starts, .ref s_f_traits, .ref s_f_exits, .ref s_f_forms, .ref s_f_joints, .ref s_f_owned, .ref s_f_ownedCounts, .ref s_f_initials, .ref s_f_cellEnds, .ref s_f_onVerbs, .ref s_f_onFirsts, .ref s_f_onSeconds, .ref s_f_code, .ref s_f_texts, .ref s_f_dictionary])), (s_f_counts, .inl (cI, 7, .inl counts_b)), (s_f_rooms, .inl (cZ, 121, .inl rooms_b))] s.heap := hP
  have hl := lv_entry ([.ref s0]) (n := 2) (Nat.le_of_ble_eq_true rfl)
  rw [lg_entry_eq]
  generalize (lg_sl ([.ref s0]) ++ List.replicate (2 - (lg_sl ([.ref s0])).length) Slot.unset).toArray = ls at hl ⊢
  have hl : lv_has ls 2 [(0, .ref s0)] := hl
  refine lv_iconst (v := 1) hx hb dX7_firstRoom_0 (by decide +kernel) ?_
  refine lv_istore_n (lv' := [(1, .int 1), (0, .ref s0)]) hx hb dX7_firstRoom_1 rfl hl (by decide) rfl (fun ls hl => ?_)
  refine lv_iload_n hx hb dX7_firstRoom_2 rfl (lv_at hl 0 rfl) ?_
  refine lv_bipush (v := 120) hx hb dX7_firstRoom_3 (by decide +kernel) ?_
  refine lv_icmp_gt (tgt := 34) hx hb dX7_firstRoom_5 (by decide) (fun c_1 => absurd c_1 (by decide +kernel)) (fun c_1 => ?_)
  refine lv_iload_n hx hb dX7_firstRoom_8 rfl (lv_at hl 0 rfl) ?_
  refine lv_aload_n hx hb dX7_firstRoom_9 rfl (lv_at hl 1 rfl) ?_
  refine va_get (D := (dC, dI)) (ci := 7) (v := .ref s_f_counts) (C := RX7) (T := TX7) (N := 19) hx hb hts ii_X7 hown hK hP 0 rfl rfl 0 (by decide) (hts (.fieldLink RX7 9 "StoryHouse$Story" "counts" "[I") wq_152) (fun _ h9 => h9) rfl dX7_firstRoom_10 ?_
  refine lv_iconst (v := 0) hx hb dX7_firstRoom_13 (by decide +kernel) ?_
  refine va_iald hx hb hK hP 1 2 rfl rfl (vp_in_iff.mpr (by decide +kernel)) dX7_firstRoom_14 ?_
  refine lv_topi (fun x_2 ex_2 => ?_)
  refine lv_icmp_gt (tgt := 34) hx hb dX7_firstRoom_15 (by decide) (fun c_3 => absurd c_3 (by rw [ex_2]; show ¬ (counts_b 0 < 1); rw [hcn]; decide +kernel)) (fun c_3 => ?_)
  refine lv_aload_n hx hb dX7_firstRoom_18 rfl (lv_at hl 1 rfl) ?_
  refine lv_iload_n hx hb dX7_firstRoom_19 rfl (lv_at hl 0 rfl) ?_
  have hPc := hP.sub (ws' := [(s0, .inr (7, [.ref s_f_counts, .ref s_f_rooms, .ref s_f_called, .ref s_f_described, .ref s_f_starts, .ref s_f_traits, .ref s_f_exits, .ref s_f_forms, .ref s_f_joints, .ref s_f_owned, .ref s_f_ownedCounts, .ref s_f_initials, .ref s_f_cellEnds, .ref s_f_onVerbs, .ref s_f_onFirsts, .ref s_f_onSeconds, .ref s_f_code, .ref s_f_texts, .ref s_f_dictionary])), (s_f_rooms, .inl (cZ, 121, .inl rooms_b))]) [0, 2] rfl
  have hDc := hD.sub (ws' := [(s0, .inr (7, [.ref s_f_counts, .ref s_f_rooms, .ref s_f_called, .ref s_f_described, .ref s_f_starts, .ref s_f_traits, .ref s_f_exits, .ref s_f_forms, .ref s_f_joints, .ref s_f_owned, .ref s_f_ownedCounts, .ref s_f_initials, .ref s_f_cellEnds, .ref s_f_onVerbs, .ref s_f_onFirsts, .ref s_f_onSeconds, .ref s_f_code, .ref s_f_texts, .ref s_f_dictionary])), (s_f_rooms, .inl (cZ, 121, .inl rooms_b))]) [0, 2] (by decide +kernel) rfl
  have hFc := va_free (wc := [(s0, .inr (7, [.ref s_f_counts, .ref s_f_rooms, .ref s_f_called, .ref s_f_described, .ref s_f_starts, .ref s_f_traits, .ref s_f_exits, .ref s_f_forms, .ref s_f_joints, .ref s_f_owned, .ref s_f_ownedCounts, .ref s_f_initials, .ref s_f_cellEnds, .ref s_f_onVerbs, .ref s_f_onFirsts, .ref s_f_onSeconds, .ref s_f_code, .ref s_f_texts, .ref s_f_dictionary])), (s_f_rooms, .inl (cZ, 121, .inl rooms_b))]) hD hS hA [0, 2] rfl
  refine g_ofi (wc := [(s0, .inr (7, [.ref s_f_counts, .ref s_f_rooms, .ref s_f_called, .ref s_f_described, .ref s_f_starts, .ref s_f_traits, .ref s_f_exits, .ref s_f_forms, .ref s_f_joints, .ref s_f_owned, .ref s_f_ownedCounts, .ref s_f_initials, .ref s_f_cellEnds, .ref s_f_onVerbs, .ref s_f_onFirsts, .ref s_f_onSeconds, .ref s_f_code, .ref s_f_texts, .ref s_f_dictionary])), (s_f_rooms, .inl (cZ, 121, .inl rooms_b))]) (wr := [(s_f_counts, .inl (cI, 7, .inl counts_b))]) hP hD hS hFc [0, 2] [1] rfl rfl (by decide +kernel) (by decide +kernel) (va_runV (As := [.int 1]) (rest := []) ⟨hx, hb, hml, hown, hts⟩ (c_X7_isRoom l dC dI cB cC cI cJ cZ cP s.heap.size s0 s_f_counts s_f_rooms s_f_called s_f_described s_f_starts s_f_traits s_f_exits s_f_forms s_f_joints s_f_owned s_f_ownedCounts s_f_initials s_f_cellEnds s_f_onVerbs s_f_onFirsts s_f_onSeconds s_f_code s_f_texts s_f_dictionary rooms_b (hrm)) (cwV 1 hts (g_gV wq_815 wq_816 wq_817 wq_5 wq_818) rfl rfl rfl (by decide +kernel) ⟨Nat.le_of_ble_eq_true rfl, Nat.le_of_ble_eq_true rfl⟩) (g_preV g_bl0 hK hPc hDc hS hE hFc g_to0 (q0 := 0) (ci := 7) rfl rfl) rfl rfl hl.1 rfl (lv_room (Nat.le_of_ble_eq_true rfl)) dX7_firstRoom_20 ⟨Nat.le_of_ble_eq_true rfl, Nat.le_of_ble_eq_true rfl⟩) (fun r_6 u_5 H_7 locs w_4 hP' hD' hS' => ?_)
  clear hPc hDc hFc
  have w_4 : r_6 = 0 := w_4
  replace hP : va_P (dC, dI) vwCl [(s_f_counts, .inl (cI, 7, .inl counts_b)), (s0, .inr (7, [.ref s_f_counts, .ref s_f_rooms, .ref s_f_called, .ref s_f_described, .ref s_f_starts, .ref s_f_traits, .ref s_f_exits, .ref s_f_forms, .ref s_f_joints, .ref s_f_owned, .ref s_f_ownedCounts, .ref s_f_initials, .ref s_f_cellEnds, .ref s_f_onVerbs, .ref s_f_onFirsts, .ref s_f_onSeconds, .ref s_f_code, .ref s_f_texts, .ref s_f_dictionary])), (s_f_rooms, .inl (cZ, 121, .inl rooms_b))] H_7 := hP'
  replace hD : va_D A [(s_f_counts, .inl (cI, 7, .inl counts_b)), (s0, .inr (7, [.ref s_f_counts, .ref s_f_rooms, .ref s_f_called, .ref s_f_described, .ref s_f_starts, .ref s_f_traits, .ref s_f_exits, .ref s_f_forms, .ref s_f_joints, .ref s_f_owned, .ref s_f_ownedCounts, .ref s_f_initials, .ref s_f_cellEnds, .ref s_f_onVerbs, .ref s_f_onFirsts, .ref s_f_onSeconds, .ref s_f_code, .ref s_f_texts, .ref s_f_dictionary])), (s_f_rooms, .inl (cZ, 121, .inl rooms_b))] := hD'
  replace hS := hS'
  clear hP' hD' hS'
  obtain rfl : 0 = r_6 := (w_4).symm
  refine lv_if_eq (tgt := 28) hx hb dX7_firstRoom_23 (by decide) (fun c_8 => ?_) (fun c_8 => absurd (by decide +kernel) c_8)
  refine lv_iinc (v := 2) (lv' := [(1, .int 2), (0, .ref s0)]) hx hb dX7_firstRoom_28 hl (k := 0) rfl (by decide +kernel) (by decide) rfl (fun ls hl => ?_)
  refine lv_goto (tgt := 2) hx hb dX7_firstRoom_31 (by decide) ?_
  refine lv_iload_n hx hb dX7_firstRoom_2 rfl (lv_at hl 0 rfl) ?_
  refine lv_bipush (v := 120) hx hb dX7_firstRoom_3 (by decide +kernel) ?_
  refine lv_icmp_gt (tgt := 34) hx hb dX7_firstRoom_5 (by decide) (fun c_9 => absurd c_9 (by decide +kernel)) (fun c_9 => ?_)
  refine lv_iload_n hx hb dX7_firstRoom_8 rfl (lv_at hl 0 rfl) ?_
  refine lv_aload_n hx hb dX7_firstRoom_9 rfl (lv_at hl 1 rfl) ?_
  refine va_get (D := (dC, dI)) (ci := 7) (v := .ref s_f_counts) (C := RX7) (T := TX7) (N := 19) hx hb hts ii_X7 hown hK hP 1 rfl rfl 0 (by decide) (hts (.fieldLink RX7 9 "StoryHouse$Story" "counts" "[I") wq_152) (fun _ h9 => h9) rfl dX7_firstRoom_10 ?_
  refine lv_iconst (v := 0) hx hb dX7_firstRoom_13 (by decide +kernel) ?_
  refine va_iald hx hb hK hP 0 2 rfl rfl (vp_in_iff.mpr (by decide +kernel)) dX7_firstRoom_14 ?_
  refine lv_topi (fun x_10 ex_10 => ?_)
  refine lv_icmp_gt (tgt := 34) hx hb dX7_firstRoom_15 (by decide) (fun c_11 => ?_) (fun c_11 => absurd (by rw [ex_10]; show counts_b 0 < 2; rw [hcn]; decide +kernel) c_11)
  refine lv_iconst (v := 0) hx hb dX7_firstRoom_34 (by decide +kernel) ?_
  have hP9 := hP.sub (ws' := [(s0, .inr (7, [.ref s_f_counts, .ref s_f_rooms, .ref s_f_called, .ref s_f_described, .ref s_f_starts, .ref s_f_traits, .ref s_f_exits, .ref s_f_forms, .ref s_f_joints, .ref s_f_owned, .ref s_f_ownedCounts, .ref s_f_initials, .ref s_f_cellEnds, .ref s_f_onVerbs, .ref s_f_onFirsts, .ref s_f_onSeconds, .ref s_f_code, .ref s_f_texts, .ref s_f_dictionary])), (s_f_counts, .inl (cI, 7, .inl counts_b)), (s_f_rooms, .inl (cZ, 121, .inl rooms_b))]) [1, 0, 2] rfl
  have hD9 := hD.sub (ws' := [(s0, .inr (7, [.ref s_f_counts, .ref s_f_rooms, .ref s_f_called, .ref s_f_described, .ref s_f_starts, .ref s_f_traits, .ref s_f_exits, .ref s_f_forms, .ref s_f_joints, .ref s_f_owned, .ref s_f_ownedCounts, .ref s_f_initials, .ref s_f_cellEnds, .ref s_f_onVerbs, .ref s_f_onFirsts, .ref s_f_onSeconds, .ref s_f_code, .ref s_f_texts, .ref s_f_dictionary])), (s_f_counts, .inl (cI, 7, .inl counts_b)), (s_f_rooms, .inl (cZ, 121, .inl rooms_b))]) [1, 0, 2] (by decide +kernel) rfl
  refine W.widen (k := 0) (n := 0) (Nat.le_of_ble_eq_true rfl) (Nat.le_of_ble_eq_true rfl) ?_
  exact W.iret (v := 0) hx hb hr (fun t ht hW => ⟨⟨0, (), rfl, (by first | trivial | rfl | assumption), by rw [ht]; exact hP9, hD9⟩, hS.F ht⟩) hS.2.2 dX7_firstRoom_35

abbrev ww_X7_hasRoom (cB cC cI cJ cZ cP : ClassId) (s0 : Nat) (s_f_counts : Nat) (s_f_rooms : Nat) (s_f_called : Nat) (s_f_described : Nat) (s_f_starts : Nat) (s_f_traits : Nat) (s_f_exits : Nat) (s_f_forms : Nat) (s_f_joints : Nat) (s_f_owned : Nat) (s_f_ownedCounts : Nat) (s_f_initials : Nat) (s_f_cellEnds : Nat) (s_f_onVerbs : Nat) (s_f_onFirsts : Nat) (s_f_onSeconds : Nat) (s_f_code : Nat) (s_f_texts : Nat) (s_f_dictionary : Nat) (counts_b : Nat → Int32) (rooms_b : Nat → Int32) : va_W := [(s0, .inr (7, [.ref s_f_counts, .ref s_f_rooms, .ref s_f_called, .ref s_f_described, .ref s_f_starts, .ref s_f_traits, .ref s_f_exits, .ref s_f_forms, .ref s_f_joints, .ref s_f_owned, .ref s_f_ownedCounts, .ref s_f_initials, .ref s_f_cellEnds, .ref s_f_onVerbs, .ref s_f_onFirsts, .ref s_f_onSeconds, .ref s_f_code, .ref s_f_texts, .ref s_f_dictionary])), (s_f_counts, .inl (cI, 7, .inl counts_b)), (s_f_rooms, .inl (cZ, 121, .inl rooms_b))]
abbrev q_X7_hasRoom (dC : Nat → ClassId) (dI : Nat → Nat → Nat) (cB cC cI cJ cZ cP : ClassId) (s0 : Nat) (s_f_counts : Nat) (s_f_rooms : Nat) (s_f_called : Nat) (s_f_described : Nat) (s_f_starts : Nat) (s_f_traits : Nat) (s_f_exits : Nat) (s_f_forms : Nat) (s_f_joints : Nat) (s_f_owned : Nat) (s_f_ownedCounts : Nat) (s_f_initials : Nat) (s_f_cellEnds : Nat) (s_f_onVerbs : Nat) (s_f_onFirsts : Nat) (s_f_onSeconds : Nat) (s_f_code : Nat) (s_f_texts : Nat) (s_f_dictionary : Nat) (counts_b : Nat → Int32) (rooms_b : Nat → Int32) (A : Nat → Prop) : Array Value → State → Outcome → State → Prop := va_Qi (fun (r : Int32) (_ : Unit) => r = 0) (g_Bo (dC, dI) A (fun (_ : Unit) => [(s0, .inr (7, [.ref s_f_counts, .ref s_f_rooms, .ref s_f_called, .ref s_f_described, .ref s_f_starts, .ref s_f_traits, .ref s_f_exits, .ref s_f_forms, .ref s_f_joints, .ref s_f_owned, .ref s_f_ownedCounts, .ref s_f_initials, .ref s_f_cellEnds, .ref s_f_onVerbs, .ref s_f_onFirsts, .ref s_f_onSeconds, .ref s_f_code, .ref s_f_texts, .ref s_f_dictionary])), (s_f_counts, .inl (cI, 7, .inl counts_b)), (s_f_rooms, .inl (cZ, 121, .inl rooms_b))])) A
set_option maxHeartbeats 4000000 in
set_option maxRecDepth 100000 in
theorem c_X7_hasRoom (l : Launch) (dC : Nat → ClassId) (dI : Nat → Nat → Nat) (cB cC cI cJ cZ cP : ClassId) (sz : Nat) (s0 : Nat) (s_f_counts : Nat) (s_f_rooms : Nat) (s_f_called : Nat) (s_f_described : Nat) (s_f_starts : Nat) (s_f_traits : Nat) (s_f_exits : Nat) (s_f_forms : Nat) (s_f_joints : Nat) (s_f_owned : Nat) (s_f_ownedCounts : Nat) (s_f_initials : Nat) (s_f_cellEnds : Nat) (s_f_onVerbs : Nat) (s_f_onFirsts : Nat) (s_f_onSeconds : Nat) (s_f_code : Nat) (s_f_texts : Nat) (s_f_dictionary : Nat) (counts_b : Nat → Int32) (rooms_b : Nat → Int32) (hcn : counts_b 0 = 1) (hrm : rooms_b 1 = 0) : Met l yX7_hasRoom (g_ws yX7_hasRoom cX7_hasRoom 1 (some .boolean)) ({ frames := 3, cells := 0, slots := 0, locals := 82 }) (va_Pc [.ref s0] (g_B (dC, dI) [(cB, .byte), (cC, .char), (cI, .int), (cJ, .long), (cZ, .boolean), (cP, .object "StoryHouse$Play")] sz (ww_X7_hasRoom cB cC cI cJ cZ cP s0 s_f_counts s_f_rooms s_f_called s_f_described s_f_starts s_f_traits s_f_exits s_f_forms s_f_joints s_f_owned s_f_ownedCounts s_f_initials s_f_cellEnds s_f_onVerbs s_f_onFirsts s_f_onSeconds s_f_code s_f_texts s_f_dictionary counts_b rooms_b) g_0)) (q_X7_hasRoom dC dI cB cC cI cJ cZ cP s0 s_f_counts s_f_rooms s_f_called s_f_described s_f_starts s_f_traits s_f_exits s_f_forms s_f_joints s_f_owned s_f_ownedCounts s_f_initials s_f_cellEnds s_f_onVerbs s_f_onFirsts s_f_onSeconds s_f_code s_f_texts s_f_dictionary counts_b rooms_b (va_A (ww_X7_hasRoom cB cC cI cJ cZ cP s0 s_f_counts s_f_rooms s_f_called s_f_described s_f_starts s_f_traits s_f_exits s_f_forms s_f_joints s_f_owned s_f_ownedCounts s_f_initials s_f_cellEnds s_f_onVerbs s_f_onFirsts s_f_onSeconds s_f_code s_f_texts s_f_dictionary counts_b rooms_b) sz)) 0 0 (va_A (ww_X7_hasRoom cB cC cI cJ cZ cP s0 s_f_counts s_f_rooms s_f_called s_f_described s_f_starts s_f_traits s_f_exits s_f_forms s_f_joints s_f_owned s_f_ownedCounts s_f_initials s_f_cellEnds s_f_onVerbs s_f_onFirsts s_f_onSeconds s_f_code s_f_texts s_f_dictionary counts_b rooms_b) sz) := by
  refine Met.ofW (cc := cX7_hasRoom) (maxL := 1) (ret := (some .boolean)) (by decide) rfl ?_
  intro p e s m args below meth c s₁ B hml hv
  obtain ⟨rfl, hsz, hP, hK, hD0, hE, hX⟩ := hv
  have hx := B.exec
  have hb := B.bytes
  have hr := B.returns
  have hts0 := atoms_spec (ws := (g_ws yX7_hasRoom cX7_hasRoom 1 (some .boolean))) B.pre
  have hts : ∀ w ∈ lw_good, w.before ([.ref s0] : List Value).toArray s = true := fun w h => hts0 w (List.mem_cons_of_mem _ h)
  have hown : s.vm.findClass RX7 = some m.cls := findClass_of_methodNamed B.named
  have hlocks := B.notSynchronized
  subst hsz
  have hD := hD0.self (sz := s.heap.size)
  generalize hAe : va_A (ww_X7_hasRoom cB cC cI cJ cZ cP s0 s_f_counts s_f_rooms s_f_called s_f_described s_f_starts s_f_traits s_f_exits s_f_forms s_f_joints s_f_owned s_f_ownedCounts s_f_initials s_f_cellEnds s_f_onVerbs s_f_onFirsts s_f_onSeconds s_f_code s_f_texts s_f_dictionary counts_b rooms_b) s.heap.size = A at hD hE hX ⊢
  have hA : ∀ q : Nat, s.heap.size ≤ q → A q := fun q h => by rw [← hAe]; exact Or.inr h
  have hN := hE.1
  have hS : va_S A s.heap s.heap [] := va_S.rf
  have hP : va_P (dC, dI) vwCl [(s0, .inr (7, [.ref s_f_counts, .ref s_f_rooms, .ref s_f_called, .ref s_f_described, .ref s_f_starts, .ref s_f_traits, .ref s_f_exits, .ref s_f_forms, .ref s_f_joints, .ref s_f_owned, .ref s_f_ownedCounts, .ref s_f_initials, .ref s_f_cellEnds, .ref s_f_onVerbs, .ref s_f_onFirsts, .ref s_f_onSeconds, .ref s_f_code, .ref s_f_texts, .ref s_f_dictionary])), (s_f_counts, .inl (cI, 7, .inl counts_b)), (s_f_rooms, .inl (cZ, 121, .inl rooms_b))] s.heap := hP
  have hl := lv_entry ([.ref s0]) (n := 1) (Nat.le_of_ble_eq_true rfl)
  rw [lg_entry_eq]
  generalize (lg_sl ([.ref s0]) ++ List.replicate (1 - (lg_sl ([.ref s0])).length) Slot.unset).toArray = ls at hl ⊢
  have hl : lv_has ls 1 [(0, .ref s0)] := hl
  refine lv_aload_n hx hb dX7_hasRoom_0 rfl (lv_at hl 0 rfl) ?_
  have hPc := hP.sub (ws' := [(s0, .inr (7, [.ref s_f_counts, .ref s_f_rooms, .ref s_f_called, .ref s_f_described, .ref s_f_starts, .ref s_f_traits, .ref s_f_exits, .ref s_f_forms, .ref s_f_joints, .ref s_f_owned, .ref s_f_ownedCounts, .ref s_f_initials, .ref s_f_cellEnds, .ref s_f_onVerbs, .ref s_f_onFirsts, .ref s_f_onSeconds, .ref s_f_code, .ref s_f_texts, .ref s_f_dictionary])), (s_f_counts, .inl (cI, 7, .inl counts_b)), (s_f_rooms, .inl (cZ, 121, .inl rooms_b))]) [0, 1, 2] rfl
  have hDc := hD.sub (ws' := [(s0, .inr (7, [.ref s_f_counts, .ref s_f_rooms, .ref s_f_called, .ref s_f_described, .ref s_f_starts, .ref s_f_traits, .ref s_f_exits, .ref s_f_forms, .ref s_f_joints, .ref s_f_owned, .ref s_f_ownedCounts, .ref s_f_initials, .ref s_f_cellEnds, .ref s_f_onVerbs, .ref s_f_onFirsts, .ref s_f_onSeconds, .ref s_f_code, .ref s_f_texts, .ref s_f_dictionary])), (s_f_counts, .inl (cI, 7, .inl counts_b)), (s_f_rooms, .inl (cZ, 121, .inl rooms_b))]) [0, 1, 2] (by decide +kernel) rfl
  have hFc := va_free (wc := [(s0, .inr (7, [.ref s_f_counts, .ref s_f_rooms, .ref s_f_called, .ref s_f_described, .ref s_f_starts, .ref s_f_traits, .ref s_f_exits, .ref s_f_forms, .ref s_f_joints, .ref s_f_owned, .ref s_f_ownedCounts, .ref s_f_initials, .ref s_f_cellEnds, .ref s_f_onVerbs, .ref s_f_onFirsts, .ref s_f_onSeconds, .ref s_f_code, .ref s_f_texts, .ref s_f_dictionary])), (s_f_counts, .inl (cI, 7, .inl counts_b)), (s_f_rooms, .inl (cZ, 121, .inl rooms_b))]) hD hS hA [0, 1, 2] rfl
  refine g_ofi (wc := [(s0, .inr (7, [.ref s_f_counts, .ref s_f_rooms, .ref s_f_called, .ref s_f_described, .ref s_f_starts, .ref s_f_traits, .ref s_f_exits, .ref s_f_forms, .ref s_f_joints, .ref s_f_owned, .ref s_f_ownedCounts, .ref s_f_initials, .ref s_f_cellEnds, .ref s_f_onVerbs, .ref s_f_onFirsts, .ref s_f_onSeconds, .ref s_f_code, .ref s_f_texts, .ref s_f_dictionary])), (s_f_counts, .inl (cI, 7, .inl counts_b)), (s_f_rooms, .inl (cZ, 121, .inl rooms_b))]) (wr := []) hP hD hS hFc [0, 1, 2] [] rfl rfl (by decide +kernel) (by decide +kernel) (va_runV (As := []) (rest := []) ⟨hx, hb, hml, hown, hts⟩ (c_X7_firstRoom l dC dI cB cC cI cJ cZ cP s.heap.size s0 s_f_counts s_f_rooms s_f_called s_f_described s_f_starts s_f_traits s_f_exits s_f_forms s_f_joints s_f_owned s_f_ownedCounts s_f_initials s_f_cellEnds s_f_onVerbs s_f_onFirsts s_f_onSeconds s_f_code s_f_texts s_f_dictionary counts_b rooms_b (hcn) (hrm)) (cwV 0 hts (g_gV wq_811 wq_812 wq_813 wq_5 wq_814) rfl rfl rfl (by decide +kernel) ⟨Nat.le_of_ble_eq_true rfl, Nat.le_of_ble_eq_true rfl⟩) (g_preV g_bl0 hK hPc hDc hS hE hFc g_to0 (q0 := 0) (ci := 7) rfl rfl) rfl rfl hl.1 rfl (lv_room (Nat.le_of_ble_eq_true rfl)) dX7_hasRoom_1 ⟨Nat.le_of_ble_eq_true rfl, Nat.le_of_ble_eq_true rfl⟩) (fun r_3 u_2 H_4 locs w_1 hP' hD' hS' => ?_)
  clear hPc hDc hFc
  have w_1 : r_3 = 0 := w_1
  replace hP : va_P (dC, dI) vwCl [(s0, .inr (7, [.ref s_f_counts, .ref s_f_rooms, .ref s_f_called, .ref s_f_described, .ref s_f_starts, .ref s_f_traits, .ref s_f_exits, .ref s_f_forms, .ref s_f_joints, .ref s_f_owned, .ref s_f_ownedCounts, .ref s_f_initials, .ref s_f_cellEnds, .ref s_f_onVerbs, .ref s_f_onFirsts, .ref s_f_onSeconds, .ref s_f_code, .ref s_f_texts, .ref s_f_dictionary])), (s_f_counts, .inl (cI, 7, .inl counts_b)), (s_f_rooms, .inl (cZ, 121, .inl rooms_b))] H_4 := hP'
  replace hD : va_D A [(s0, .inr (7, [.ref s_f_counts, .ref s_f_rooms, .ref s_f_called, .ref s_f_described, .ref s_f_starts, .ref s_f_traits, .ref s_f_exits, .ref s_f_forms, .ref s_f_joints, .ref s_f_owned, .ref s_f_ownedCounts, .ref s_f_initials, .ref s_f_cellEnds, .ref s_f_onVerbs, .ref s_f_onFirsts, .ref s_f_onSeconds, .ref s_f_code, .ref s_f_texts, .ref s_f_dictionary])), (s_f_counts, .inl (cI, 7, .inl counts_b)), (s_f_rooms, .inl (cZ, 121, .inl rooms_b))] := hD'
  replace hS := hS'
  clear hP' hD' hS'
  obtain rfl : 0 = r_3 := (w_1).symm
  refine lv_if_eq (tgt := 11) hx hb dX7_hasRoom_4 (by decide) (fun c_5 => ?_) (fun c_5 => absurd (by decide +kernel) c_5)
  refine lv_iconst (v := 0) hx hb dX7_hasRoom_11 (by decide +kernel) ?_
  have hP9 := hP.sub (ws' := [(s0, .inr (7, [.ref s_f_counts, .ref s_f_rooms, .ref s_f_called, .ref s_f_described, .ref s_f_starts, .ref s_f_traits, .ref s_f_exits, .ref s_f_forms, .ref s_f_joints, .ref s_f_owned, .ref s_f_ownedCounts, .ref s_f_initials, .ref s_f_cellEnds, .ref s_f_onVerbs, .ref s_f_onFirsts, .ref s_f_onSeconds, .ref s_f_code, .ref s_f_texts, .ref s_f_dictionary])), (s_f_counts, .inl (cI, 7, .inl counts_b)), (s_f_rooms, .inl (cZ, 121, .inl rooms_b))]) [0, 1, 2] rfl
  have hD9 := hD.sub (ws' := [(s0, .inr (7, [.ref s_f_counts, .ref s_f_rooms, .ref s_f_called, .ref s_f_described, .ref s_f_starts, .ref s_f_traits, .ref s_f_exits, .ref s_f_forms, .ref s_f_joints, .ref s_f_owned, .ref s_f_ownedCounts, .ref s_f_initials, .ref s_f_cellEnds, .ref s_f_onVerbs, .ref s_f_onFirsts, .ref s_f_onSeconds, .ref s_f_code, .ref s_f_texts, .ref s_f_dictionary])), (s_f_counts, .inl (cI, 7, .inl counts_b)), (s_f_rooms, .inl (cZ, 121, .inl rooms_b))]) [0, 1, 2] (by decide +kernel) rfl
  refine W.widen (k := 0) (n := 0) (Nat.le_of_ble_eq_true rfl) (Nat.le_of_ble_eq_true rfl) ?_
  exact W.zret (v := 0) hx hb hr (by decide +kernel) (fun t ht hW => ⟨⟨0, (), rfl, (by first | trivial | rfl | assumption), by rw [ht]; exact hP9, hD9⟩, hS.F ht⟩) hS.2.2 dX7_hasRoom_12

abbrev ww_X4_giveAll (cB cC cI cJ cZ cP : ClassId) (m0 : Nat) (f_toldAt : Nat) (f_sorts : Nat) (f_numbers : Nat) (f_seen : Nat) (f_seenNames : Nat) (f_marks : Nat) (w0 : Nat) (f_source : Nat) (f_kinds : Nat) (f_places : Nat) (f_values : Nat) (f_notes : Nat) (f_meanings : Nat) (f_names : Nat) (f_slots : Nat) (nm : Int32) (kn : Nat → Int32) (pn : Nat → Int32) (nf : Nat → Int64) (sf : Nat → Int32) (toldAt_a : Nat → Int32) (sorts_a : Nat → Int32) (numbers_a : Nat → Int32) (seen_a : Nat → Int32) (s0 : Nat) (s_f_counts : Nat) (s_f_rooms : Nat) (s_f_called : Nat) (s_f_described : Nat) (s_f_starts : Nat) (s_f_traits : Nat) (s_f_exits : Nat) (s_f_forms : Nat) (s_f_joints : Nat) (s_f_owned : Nat) (s_f_ownedCounts : Nat) (s_f_initials : Nat) (s_f_cellEnds : Nat) (s_f_onVerbs : Nat) (s_f_onFirsts : Nat) (s_f_onSeconds : Nat) (s_f_code : Nat) (s_f_texts : Nat) (s_f_dictionary : Nat) (counts_b : Nat → Int32) (rooms_b : Nat → Int32) : va_W := [(m0, .inr (4, [.ref w0, .null, .ref f_toldAt, .ref f_sorts, .ref f_numbers, .ref f_seen, .ref f_seenNames, .int 0, .int 0, .int 0, .ref f_marks, .int 0, .int 0, .int 0, .int 0, .int 0, .int 0, .int 0])), (w0, .inr (10, [.ref f_source, .int 0, .int 1, .ref f_kinds, .ref f_places, .ref f_values, .ref f_notes, .ref f_meanings, .ref f_names, .ref f_slots, .int nm, .int 0])), (f_kinds, .inl (cI, 16001, .inl kn)), (f_places, .inl (cI, 16001, .inl pn)), (f_names, .inl (cJ, 4500, .inr (.inl nf))), (f_slots, .inl (cI, 8192, .inl sf)), (f_toldAt, .inl (cI, 4500, .inl toldAt_a)), (f_sorts, .inl (cI, 4500, .inl sorts_a)), (f_numbers, .inl (cI, 4500, .inl numbers_a)), (f_seen, .inl (cI, 4500, .inl seen_a)), (s0, .inr (7, [.ref s_f_counts, .ref s_f_rooms, .ref s_f_called, .ref s_f_described, .ref s_f_starts, .ref s_f_traits, .ref s_f_exits, .ref s_f_forms, .ref s_f_joints, .ref s_f_owned, .ref s_f_ownedCounts, .ref s_f_initials, .ref s_f_cellEnds, .ref s_f_onVerbs, .ref s_f_onFirsts, .ref s_f_onSeconds, .ref s_f_code, .ref s_f_texts, .ref s_f_dictionary])), (s_f_counts, .inl (cI, 7, .inl counts_b)), (s_f_rooms, .inl (cZ, 121, .inl rooms_b))]
abbrev q_X4_giveAll (dC : Nat → ClassId) (dI : Nat → Nat → Nat) (cB cC cI cJ cZ cP : ClassId) (m0 : Nat) (f_toldAt : Nat) (f_sorts : Nat) (f_numbers : Nat) (f_seen : Nat) (f_seenNames : Nat) (f_marks : Nat) (w0 : Nat) (f_source : Nat) (f_kinds : Nat) (f_places : Nat) (f_values : Nat) (f_notes : Nat) (f_meanings : Nat) (f_names : Nat) (f_slots : Nat) (nm : Int32) (kn : Nat → Int32) (pn : Nat → Int32) (nf : Nat → Int64) (sf : Nat → Int32) (toldAt_a : Nat → Int32) (sorts_a : Nat → Int32) (numbers_a : Nat → Int32) (seen_a : Nat → Int32) (s0 : Nat) (s_f_counts : Nat) (s_f_rooms : Nat) (s_f_called : Nat) (s_f_described : Nat) (s_f_starts : Nat) (s_f_traits : Nat) (s_f_exits : Nat) (s_f_forms : Nat) (s_f_joints : Nat) (s_f_owned : Nat) (s_f_ownedCounts : Nat) (s_f_initials : Nat) (s_f_cellEnds : Nat) (s_f_onVerbs : Nat) (s_f_onFirsts : Nat) (s_f_onSeconds : Nat) (s_f_code : Nat) (s_f_texts : Nat) (s_f_dictionary : Nat) (counts_b : Nat → Int32) (rooms_b : Nat → Int32) (A : Nat → Prop) : Array Value → State → Outcome → State → Prop := va_Qi (fun (r : Int32) (u : Int32 × Int32 × (Nat → Int64) × (Nat → Int32) × (Nat → Int32) × (Nat → Int32) × (Nat → Int32) × (Nat → Int32)) => match u with | (fp, nm2, nf2, sf2, toldAt_b, sorts_b, numbers_b, seen_b) => r = 6) (g_Bo (dC, dI) A (fun (u : Int32 × Int32 × (Nat → Int64) × (Nat → Int32) × (Nat → Int32) × (Nat → Int32) × (Nat → Int32) × (Nat → Int32)) => match u with | (fp, nm2, nf2, sf2, toldAt_b, sorts_b, numbers_b, seen_b) => [(m0, .inr (4, [.ref w0, .ref s0, .ref f_toldAt, .ref f_sorts, .ref f_numbers, .ref f_seen, .ref f_seenNames, .int 0, .int 0, .int (-1), .ref f_marks, .int 0, .int 0, .int 0, .int 0, .int 0, .int 6, .int fp])), (w0, .inr (10, [.ref f_source, .int 0, .int 1, .ref f_kinds, .ref f_places, .ref f_values, .ref f_notes, .ref f_meanings, .ref f_names, .ref f_slots, .int nm2, .int 0])), (f_kinds, .inl (cI, 16001, .inl kn)), (f_places, .inl (cI, 16001, .inl pn)), (f_names, .inl (cJ, 4500, .inr (.inl nf2))), (f_slots, .inl (cI, 8192, .inl sf2)), (f_toldAt, .inl (cI, 4500, .inl toldAt_b)), (f_sorts, .inl (cI, 4500, .inl sorts_b)), (f_numbers, .inl (cI, 4500, .inl numbers_b)), (f_seen, .inl (cI, 4500, .inl seen_b)), (s0, .inr (7, [.ref s_f_counts, .ref s_f_rooms, .ref s_f_called, .ref s_f_described, .ref s_f_starts, .ref s_f_traits, .ref s_f_exits, .ref s_f_forms, .ref s_f_joints, .ref s_f_owned, .ref s_f_ownedCounts, .ref s_f_initials, .ref s_f_cellEnds, .ref s_f_onVerbs, .ref s_f_onFirsts, .ref s_f_onSeconds, .ref s_f_code, .ref s_f_texts, .ref s_f_dictionary])), (s_f_counts, .inl (cI, 7, .inl counts_b)), (s_f_rooms, .inl (cZ, 121, .inl rooms_b))])) A
set_option maxHeartbeats 4000000 in
set_option maxRecDepth 100000 in
theorem c_X4_giveAll (l : Launch) (dC : Nat → ClassId) (dI : Nat → Nat → Nat) (cB cC cI cJ cZ cP : ClassId) (sz : Nat) (m0 : Nat) (f_toldAt : Nat) (f_sorts : Nat) (f_numbers : Nat) (f_seen : Nat) (f_seenNames : Nat) (f_marks : Nat) (w0 : Nat) (f_source : Nat) (f_kinds : Nat) (f_places : Nat) (f_values : Nat) (f_notes : Nat) (f_meanings : Nat) (f_names : Nat) (f_slots : Nat) (nm : Int32) (kn : Nat → Int32) (pn : Nat → Int32) (nf : Nat → Int64) (sf : Nat → Int32) (toldAt_a : Nat → Int32) (sorts_a : Nat → Int32) (numbers_a : Nat → Int32) (seen_a : Nat → Int32) (s0 : Nat) (s_f_counts : Nat) (s_f_rooms : Nat) (s_f_called : Nat) (s_f_described : Nat) (s_f_starts : Nat) (s_f_traits : Nat) (s_f_exits : Nat) (s_f_forms : Nat) (s_f_joints : Nat) (s_f_owned : Nat) (s_f_ownedCounts : Nat) (s_f_initials : Nat) (s_f_cellEnds : Nat) (s_f_onVerbs : Nat) (s_f_onFirsts : Nat) (s_f_onSeconds : Nat) (s_f_code : Nat) (s_f_texts : Nat) (s_f_dictionary : Nat) (counts_b : Nat → Int32) (rooms_b : Nat → Int32) (hnm : ¬ nm < 0) (hk : kn 0 = 0) (hcn : counts_b 0 = 1) (hrm : rooms_b 1 = 0) : Met l yX4_giveAll (g_ws yX4_giveAll cX4_giveAll 3 (some .int)) ({ frames := 7, cells := 0, slots := 0, locals := 177 }) (va_Pc [.ref m0, .ref s0] (g_B (dC, dI) [(cB, .byte), (cC, .char), (cI, .int), (cJ, .long), (cZ, .boolean), (cP, .object "StoryHouse$Play")] sz (ww_X4_giveAll cB cC cI cJ cZ cP m0 f_toldAt f_sorts f_numbers f_seen f_seenNames f_marks w0 f_source f_kinds f_places f_values f_notes f_meanings f_names f_slots nm kn pn nf sf toldAt_a sorts_a numbers_a seen_a s0 s_f_counts s_f_rooms s_f_called s_f_described s_f_starts s_f_traits s_f_exits s_f_forms s_f_joints s_f_owned s_f_ownedCounts s_f_initials s_f_cellEnds s_f_onVerbs s_f_onFirsts s_f_onSeconds s_f_code s_f_texts s_f_dictionary counts_b rooms_b) g_0)) (q_X4_giveAll dC dI cB cC cI cJ cZ cP m0 f_toldAt f_sorts f_numbers f_seen f_seenNames f_marks w0 f_source f_kinds f_places f_values f_notes f_meanings f_names f_slots nm kn pn nf sf toldAt_a sorts_a numbers_a seen_a s0 s_f_counts s_f_rooms s_f_called s_f_described s_f_starts s_f_traits s_f_exits s_f_forms s_f_joints s_f_owned s_f_ownedCounts s_f_initials s_f_cellEnds s_f_onVerbs s_f_onFirsts s_f_onSeconds s_f_code s_f_texts s_f_dictionary counts_b rooms_b (va_A (ww_X4_giveAll cB cC cI cJ cZ cP m0 f_toldAt f_sorts f_numbers f_seen f_seenNames f_marks w0 f_source f_kinds f_places f_values f_notes f_meanings f_names f_slots nm kn pn nf sf toldAt_a sorts_a numbers_a seen_a s0 s_f_counts s_f_rooms s_f_called s_f_described s_f_starts s_f_traits s_f_exits s_f_forms s_f_joints s_f_owned s_f_ownedCounts s_f_initials s_f_cellEnds s_f_onVerbs s_f_onFirsts s_f_onSeconds s_f_code s_f_texts s_f_dictionary counts_b rooms_b) sz)) 0 0 (va_A (ww_X4_giveAll cB cC cI cJ cZ cP m0 f_toldAt f_sorts f_numbers f_seen f_seenNames f_marks w0 f_source f_kinds f_places f_values f_notes f_meanings f_names f_slots nm kn pn nf sf toldAt_a sorts_a numbers_a seen_a s0 s_f_counts s_f_rooms s_f_called s_f_described s_f_starts s_f_traits s_f_exits s_f_forms s_f_joints s_f_owned s_f_ownedCounts s_f_initials s_f_cellEnds s_f_onVerbs s_f_onFirsts s_f_onSeconds s_f_code s_f_texts s_f_dictionary counts_b rooms_b) sz) := by
  refine Met.ofW (cc := cX4_giveAll) (maxL := 3) (ret := (some .int)) (by decide) rfl ?_
  intro p e s m args below meth c s₁ B hml hv
  obtain ⟨rfl, hsz, hP, hK, hD0, hE, hX⟩ := hv
  have hx := B.exec
  have hb := B.bytes
  have hr := B.returns
  have hts0 := atoms_spec (ws := (g_ws yX4_giveAll cX4_giveAll 3 (some .int))) B.pre
  have hts : ∀ w ∈ lw_good, w.before ([.ref m0, .ref s0] : List Value).toArray s = true := fun w h => hts0 w (List.mem_cons_of_mem _ h)
  have hown : s.vm.findClass RX4 = some m.cls := findClass_of_methodNamed B.named
  have hlocks := B.notSynchronized
  subst hsz
  have hD := hD0.self (sz := s.heap.size)
  generalize hAe : va_A (ww_X4_giveAll cB cC cI cJ cZ cP m0 f_toldAt f_sorts f_numbers f_seen f_seenNames f_marks w0 f_source f_kinds f_places f_values f_notes f_meanings f_names f_slots nm kn pn nf sf toldAt_a sorts_a numbers_a seen_a s0 s_f_counts s_f_rooms s_f_called s_f_described s_f_starts s_f_traits s_f_exits s_f_forms s_f_joints s_f_owned s_f_ownedCounts s_f_initials s_f_cellEnds s_f_onVerbs s_f_onFirsts s_f_onSeconds s_f_code s_f_texts s_f_dictionary counts_b rooms_b) s.heap.size = A at hD hE hX ⊢
  have hA : ∀ q : Nat, s.heap.size ≤ q → A q := fun q h => by rw [← hAe]; exact Or.inr h
  have hN := hE.1
  have hS : va_S A s.heap s.heap [] := va_S.rf
  have hP : va_P (dC, dI) vwCl [(m0, .inr (4, [.ref w0, .null, .ref f_toldAt, .ref f_sorts, .ref f_numbers, .ref f_seen, .ref f_seenNames, .int 0, .int 0, .int 0, .ref f_marks, .int 0, .int 0, .int 0, .int 0, .int 0, .int 0, .int 0])), (w0, .inr (10, [.ref f_source, .int 0, .int 1, .ref f_kinds, .ref f_places, .ref f_values, .ref f_notes, .ref f_meanings, .ref f_names, .ref f_slots, .int nm, .int 0])), (f_kinds, .inl (cI, 16001, .inl kn)), (f_places, .inl (cI, 16001, .inl pn)), (f_names, .inl (cJ, 4500, .inr (.inl nf))), (f_slots, .inl (cI, 8192, .inl sf)), (f_toldAt, .inl (cI, 4500, .inl toldAt_a)), (f_sorts, .inl (cI, 4500, .inl sorts_a)), (f_numbers, .inl (cI, 4500, .inl numbers_a)), (f_seen, .inl (cI, 4500, .inl seen_a)), (s0, .inr (7, [.ref s_f_counts, .ref s_f_rooms, .ref s_f_called, .ref s_f_described, .ref s_f_starts, .ref s_f_traits, .ref s_f_exits, .ref s_f_forms, .ref s_f_joints, .ref s_f_owned, .ref s_f_ownedCounts, .ref s_f_initials, .ref s_f_cellEnds, .ref s_f_onVerbs, .ref s_f_onFirsts, .ref s_f_onSeconds, .ref s_f_code, .ref s_f_texts, .ref s_f_dictionary])), (s_f_counts, .inl (cI, 7, .inl counts_b)), (s_f_rooms, .inl (cZ, 121, .inl rooms_b))] s.heap := hP
  have hl := lv_entry ([.ref m0, .ref s0]) (n := 3) (Nat.le_of_ble_eq_true rfl)
  rw [lg_entry_eq]
  generalize (lg_sl ([.ref m0, .ref s0]) ++ List.replicate (3 - (lg_sl ([.ref m0, .ref s0])).length) Slot.unset).toArray = ls at hl ⊢
  have hl : lv_has ls 3 [(0, .ref m0), (1, .ref s0)] := hl
  refine lv_aload_n hx hb dX4_giveAll_0 rfl (lv_at hl 0 rfl) ?_
  refine lv_aload_n hx hb dX4_giveAll_1 rfl (lv_at hl 1 rfl) ?_
  refine va_put (D := (dC, dI)) (ci := 4) (v := .ref s0) (ty := .object "StoryHouse$Story") (C := RX4) (T := TX4) (N := 18) hx hb hts ii_X4 tyX4 tyX4_ok nmX4 hown hK hP hD hS 0 rfl rfl 1 (by decide) (hts (.fieldLink RX4 36 "StoryHouse$Meanings" "story" "LStoryHouse$Story;") wq_87) (fun _ h9 => h9) rfl (by decide +kernel) rfl rfl (Nat.le_of_ble_eq_true rfl) dX4_giveAll_2 (fun H_1 locs hP' hD' hS' => ?_)
  replace hP : va_P (dC, dI) vwCl [(m0, .inr (4, [.ref w0, .ref s0, .ref f_toldAt, .ref f_sorts, .ref f_numbers, .ref f_seen, .ref f_seenNames, .int 0, .int 0, .int 0, .ref f_marks, .int 0, .int 0, .int 0, .int 0, .int 0, .int 0, .int 0])), (w0, .inr (10, [.ref f_source, .int 0, .int 1, .ref f_kinds, .ref f_places, .ref f_values, .ref f_notes, .ref f_meanings, .ref f_names, .ref f_slots, .int nm, .int 0])), (f_kinds, .inl (cI, 16001, .inl kn)), (f_places, .inl (cI, 16001, .inl pn)), (f_names, .inl (cJ, 4500, .inr (.inl nf))), (f_slots, .inl (cI, 8192, .inl sf)), (f_toldAt, .inl (cI, 4500, .inl toldAt_a)), (f_sorts, .inl (cI, 4500, .inl sorts_a)), (f_numbers, .inl (cI, 4500, .inl numbers_a)), (f_seen, .inl (cI, 4500, .inl seen_a)), (s0, .inr (7, [.ref s_f_counts, .ref s_f_rooms, .ref s_f_called, .ref s_f_described, .ref s_f_starts, .ref s_f_traits, .ref s_f_exits, .ref s_f_forms, .ref s_f_joints, .ref s_f_owned, .ref s_f_ownedCounts, .ref s_f_initials, .ref s_f_cellEnds, .ref s_f_onVerbs, .ref s_f_onFirsts, .ref s_f_onSeconds, .ref s_f_code, .ref s_f_texts, .ref s_f_dictionary])), (s_f_counts, .inl (cI, 7, .inl counts_b)), (s_f_rooms, .inl (cZ, 121, .inl rooms_b))] H_1 := hP'
  replace hD : va_D A [(m0, .inr (4, [.ref w0, .ref s0, .ref f_toldAt, .ref f_sorts, .ref f_numbers, .ref f_seen, .ref f_seenNames, .int 0, .int 0, .int 0, .ref f_marks, .int 0, .int 0, .int 0, .int 0, .int 0, .int 0, .int 0])), (w0, .inr (10, [.ref f_source, .int 0, .int 1, .ref f_kinds, .ref f_places, .ref f_values, .ref f_notes, .ref f_meanings, .ref f_names, .ref f_slots, .int nm, .int 0])), (f_kinds, .inl (cI, 16001, .inl kn)), (f_places, .inl (cI, 16001, .inl pn)), (f_names, .inl (cJ, 4500, .inr (.inl nf))), (f_slots, .inl (cI, 8192, .inl sf)), (f_toldAt, .inl (cI, 4500, .inl toldAt_a)), (f_sorts, .inl (cI, 4500, .inl sorts_a)), (f_numbers, .inl (cI, 4500, .inl numbers_a)), (f_seen, .inl (cI, 4500, .inl seen_a)), (s0, .inr (7, [.ref s_f_counts, .ref s_f_rooms, .ref s_f_called, .ref s_f_described, .ref s_f_starts, .ref s_f_traits, .ref s_f_exits, .ref s_f_forms, .ref s_f_joints, .ref s_f_owned, .ref s_f_ownedCounts, .ref s_f_initials, .ref s_f_cellEnds, .ref s_f_onVerbs, .ref s_f_onFirsts, .ref s_f_onSeconds, .ref s_f_code, .ref s_f_texts, .ref s_f_dictionary])), (s_f_counts, .inl (cI, 7, .inl counts_b)), (s_f_rooms, .inl (cZ, 121, .inl rooms_b))] := hD'
  replace hS := hS'
  clear hP' hD' hS'
  refine lv_aload_n hx hb dX4_giveAll_5 rfl (lv_at hl 0 rfl) ?_
  refine lv_iconst (v := 0) hx hb dX4_giveAll_6 (by decide +kernel) ?_
  refine va_put (D := (dC, dI)) (ci := 4) (v := .int 0) (ty := .int) (C := RX4) (T := TX4) (N := 18) hx hb hts ii_X4 tyX4 tyX4_ok nmX4 hown hK hP hD hS 0 rfl rfl 16 (by decide) (hts (.fieldLink RX4 40 "StoryHouse$Meanings" "fault" "I") wq_102) (fun _ h9 => h9) rfl (by decide +kernel) rfl rfl (Nat.le_of_ble_eq_true rfl) dX4_giveAll_7 (fun H_2 locs hP' hD' hS' => ?_)
  replace hP : va_P (dC, dI) vwCl [(m0, .inr (4, [.ref w0, .ref s0, .ref f_toldAt, .ref f_sorts, .ref f_numbers, .ref f_seen, .ref f_seenNames, .int 0, .int 0, .int 0, .ref f_marks, .int 0, .int 0, .int 0, .int 0, .int 0, .int 0, .int 0])), (w0, .inr (10, [.ref f_source, .int 0, .int 1, .ref f_kinds, .ref f_places, .ref f_values, .ref f_notes, .ref f_meanings, .ref f_names, .ref f_slots, .int nm, .int 0])), (f_kinds, .inl (cI, 16001, .inl kn)), (f_places, .inl (cI, 16001, .inl pn)), (f_names, .inl (cJ, 4500, .inr (.inl nf))), (f_slots, .inl (cI, 8192, .inl sf)), (f_toldAt, .inl (cI, 4500, .inl toldAt_a)), (f_sorts, .inl (cI, 4500, .inl sorts_a)), (f_numbers, .inl (cI, 4500, .inl numbers_a)), (f_seen, .inl (cI, 4500, .inl seen_a)), (s0, .inr (7, [.ref s_f_counts, .ref s_f_rooms, .ref s_f_called, .ref s_f_described, .ref s_f_starts, .ref s_f_traits, .ref s_f_exits, .ref s_f_forms, .ref s_f_joints, .ref s_f_owned, .ref s_f_ownedCounts, .ref s_f_initials, .ref s_f_cellEnds, .ref s_f_onVerbs, .ref s_f_onFirsts, .ref s_f_onSeconds, .ref s_f_code, .ref s_f_texts, .ref s_f_dictionary])), (s_f_counts, .inl (cI, 7, .inl counts_b)), (s_f_rooms, .inl (cZ, 121, .inl rooms_b))] H_2 := hP'
  replace hD : va_D A [(m0, .inr (4, [.ref w0, .ref s0, .ref f_toldAt, .ref f_sorts, .ref f_numbers, .ref f_seen, .ref f_seenNames, .int 0, .int 0, .int 0, .ref f_marks, .int 0, .int 0, .int 0, .int 0, .int 0, .int 0, .int 0])), (w0, .inr (10, [.ref f_source, .int 0, .int 1, .ref f_kinds, .ref f_places, .ref f_values, .ref f_notes, .ref f_meanings, .ref f_names, .ref f_slots, .int nm, .int 0])), (f_kinds, .inl (cI, 16001, .inl kn)), (f_places, .inl (cI, 16001, .inl pn)), (f_names, .inl (cJ, 4500, .inr (.inl nf))), (f_slots, .inl (cI, 8192, .inl sf)), (f_toldAt, .inl (cI, 4500, .inl toldAt_a)), (f_sorts, .inl (cI, 4500, .inl sorts_a)), (f_numbers, .inl (cI, 4500, .inl numbers_a)), (f_seen, .inl (cI, 4500, .inl seen_a)), (s0, .inr (7, [.ref s_f_counts, .ref s_f_rooms, .ref s_f_called, .ref s_f_described, .ref s_f_starts, .ref s_f_traits, .ref s_f_exits, .ref s_f_forms, .ref s_f_joints, .ref s_f_owned, .ref s_f_ownedCounts, .ref s_f_initials, .ref s_f_cellEnds, .ref s_f_onVerbs, .ref s_f_onFirsts, .ref s_f_onSeconds, .ref s_f_code, .ref s_f_texts, .ref s_f_dictionary])), (s_f_counts, .inl (cI, 7, .inl counts_b)), (s_f_rooms, .inl (cZ, 121, .inl rooms_b))] := hD'
  replace hS := hS'
  clear hP' hD' hS'
  refine lv_aload_n hx hb dX4_giveAll_10 rfl (lv_at hl 0 rfl) ?_
  refine lv_iconst (v := (-1)) hx hb dX4_giveAll_11 (by decide +kernel) ?_
  refine va_put (D := (dC, dI)) (ci := 4) (v := .int (-1)) (ty := .int) (C := RX4) (T := TX4) (N := 18) hx hb hts ii_X4 tyX4 tyX4_ok nmX4 hown hK hP hD hS 0 rfl rfl 17 (by decide) (hts (.fieldLink RX4 44 "StoryHouse$Meanings" "faultPlace" "I") wq_103) (fun _ h9 => h9) rfl (by decide +kernel) rfl rfl (Nat.le_of_ble_eq_true rfl) dX4_giveAll_12 (fun H_3 locs hP' hD' hS' => ?_)
  replace hP : va_P (dC, dI) vwCl [(m0, .inr (4, [.ref w0, .ref s0, .ref f_toldAt, .ref f_sorts, .ref f_numbers, .ref f_seen, .ref f_seenNames, .int 0, .int 0, .int 0, .ref f_marks, .int 0, .int 0, .int 0, .int 0, .int 0, .int 0, .int (-1)])), (w0, .inr (10, [.ref f_source, .int 0, .int 1, .ref f_kinds, .ref f_places, .ref f_values, .ref f_notes, .ref f_meanings, .ref f_names, .ref f_slots, .int nm, .int 0])), (f_kinds, .inl (cI, 16001, .inl kn)), (f_places, .inl (cI, 16001, .inl pn)), (f_names, .inl (cJ, 4500, .inr (.inl nf))), (f_slots, .inl (cI, 8192, .inl sf)), (f_toldAt, .inl (cI, 4500, .inl toldAt_a)), (f_sorts, .inl (cI, 4500, .inl sorts_a)), (f_numbers, .inl (cI, 4500, .inl numbers_a)), (f_seen, .inl (cI, 4500, .inl seen_a)), (s0, .inr (7, [.ref s_f_counts, .ref s_f_rooms, .ref s_f_called, .ref s_f_described, .ref s_f_starts, .ref s_f_traits, .ref s_f_exits, .ref s_f_forms, .ref s_f_joints, .ref s_f_owned, .ref s_f_ownedCounts, .ref s_f_initials, .ref s_f_cellEnds, .ref s_f_onVerbs, .ref s_f_onFirsts, .ref s_f_onSeconds, .ref s_f_code, .ref s_f_texts, .ref s_f_dictionary])), (s_f_counts, .inl (cI, 7, .inl counts_b)), (s_f_rooms, .inl (cZ, 121, .inl rooms_b))] H_3 := hP'
  replace hD : va_D A [(m0, .inr (4, [.ref w0, .ref s0, .ref f_toldAt, .ref f_sorts, .ref f_numbers, .ref f_seen, .ref f_seenNames, .int 0, .int 0, .int 0, .ref f_marks, .int 0, .int 0, .int 0, .int 0, .int 0, .int 0, .int (-1)])), (w0, .inr (10, [.ref f_source, .int 0, .int 1, .ref f_kinds, .ref f_places, .ref f_values, .ref f_notes, .ref f_meanings, .ref f_names, .ref f_slots, .int nm, .int 0])), (f_kinds, .inl (cI, 16001, .inl kn)), (f_places, .inl (cI, 16001, .inl pn)), (f_names, .inl (cJ, 4500, .inr (.inl nf))), (f_slots, .inl (cI, 8192, .inl sf)), (f_toldAt, .inl (cI, 4500, .inl toldAt_a)), (f_sorts, .inl (cI, 4500, .inl sorts_a)), (f_numbers, .inl (cI, 4500, .inl numbers_a)), (f_seen, .inl (cI, 4500, .inl seen_a)), (s0, .inr (7, [.ref s_f_counts, .ref s_f_rooms, .ref s_f_called, .ref s_f_described, .ref s_f_starts, .ref s_f_traits, .ref s_f_exits, .ref s_f_forms, .ref s_f_joints, .ref s_f_owned, .ref s_f_ownedCounts, .ref s_f_initials, .ref s_f_cellEnds, .ref s_f_onVerbs, .ref s_f_onFirsts, .ref s_f_onSeconds, .ref s_f_code, .ref s_f_texts, .ref s_f_dictionary])), (s_f_counts, .inl (cI, 7, .inl counts_b)), (s_f_rooms, .inl (cZ, 121, .inl rooms_b))] := hD'
  replace hS := hS'
  clear hP' hD' hS'
  refine lv_aload_n hx hb dX4_giveAll_15 rfl (lv_at hl 0 rfl) ?_
  have hPc := hP.sub (ws' := [(m0, .inr (4, [.ref w0, .ref s0, .ref f_toldAt, .ref f_sorts, .ref f_numbers, .ref f_seen, .ref f_seenNames, .int 0, .int 0, .int 0, .ref f_marks, .int 0, .int 0, .int 0, .int 0, .int 0, .int 0, .int (-1)])), (w0, .inr (10, [.ref f_source, .int 0, .int 1, .ref f_kinds, .ref f_places, .ref f_values, .ref f_notes, .ref f_meanings, .ref f_names, .ref f_slots, .int nm, .int 0])), (f_kinds, .inl (cI, 16001, .inl kn)), (f_names, .inl (cJ, 4500, .inr (.inl nf))), (f_slots, .inl (cI, 8192, .inl sf)), (f_toldAt, .inl (cI, 4500, .inl toldAt_a)), (f_sorts, .inl (cI, 4500, .inl sorts_a)), (f_numbers, .inl (cI, 4500, .inl numbers_a)), (f_seen, .inl (cI, 4500, .inl seen_a))]) [0, 1, 2, 4, 5, 6, 7, 8, 9] rfl
  have hDc := hD.sub (ws' := [(m0, .inr (4, [.ref w0, .ref s0, .ref f_toldAt, .ref f_sorts, .ref f_numbers, .ref f_seen, .ref f_seenNames, .int 0, .int 0, .int 0, .ref f_marks, .int 0, .int 0, .int 0, .int 0, .int 0, .int 0, .int (-1)])), (w0, .inr (10, [.ref f_source, .int 0, .int 1, .ref f_kinds, .ref f_places, .ref f_values, .ref f_notes, .ref f_meanings, .ref f_names, .ref f_slots, .int nm, .int 0])), (f_kinds, .inl (cI, 16001, .inl kn)), (f_names, .inl (cJ, 4500, .inr (.inl nf))), (f_slots, .inl (cI, 8192, .inl sf)), (f_toldAt, .inl (cI, 4500, .inl toldAt_a)), (f_sorts, .inl (cI, 4500, .inl sorts_a)), (f_numbers, .inl (cI, 4500, .inl numbers_a)), (f_seen, .inl (cI, 4500, .inl seen_a))]) [0, 1, 2, 4, 5, 6, 7, 8, 9] (by decide +kernel) rfl
  have hFc := va_free (wc := [(m0, .inr (4, [.ref w0, .ref s0, .ref f_toldAt, .ref f_sorts, .ref f_numbers, .ref f_seen, .ref f_seenNames, .int 0, .int 0, .int 0, .ref f_marks, .int 0, .int 0, .int 0, .int 0, .int 0, .int 0, .int (-1)])), (w0, .inr (10, [.ref f_source, .int 0, .int 1, .ref f_kinds, .ref f_places, .ref f_values, .ref f_notes, .ref f_meanings, .ref f_names, .ref f_slots, .int nm, .int 0])), (f_kinds, .inl (cI, 16001, .inl kn)), (f_names, .inl (cJ, 4500, .inr (.inl nf))), (f_slots, .inl (cI, 8192, .inl sf)), (f_toldAt, .inl (cI, 4500, .inl toldAt_a)), (f_sorts, .inl (cI, 4500, .inl sorts_a)), (f_numbers, .inl (cI, 4500, .inl numbers_a)), (f_seen, .inl (cI, 4500, .inl seen_a))]) hD hS hA [0, 1, 2, 4, 5, 6, 7, 8, 9] rfl
  refine g_ofv (wc := [(m0, .inr (4, [.ref w0, .ref s0, .ref f_toldAt, .ref f_sorts, .ref f_numbers, .ref f_seen, .ref f_seenNames, .int 0, .int 0, .int 0, .ref f_marks, .int 0, .int 0, .int 0, .int 0, .int 0, .int 0, .int (-1)])), (w0, .inr (10, [.ref f_source, .int 0, .int 1, .ref f_kinds, .ref f_places, .ref f_values, .ref f_notes, .ref f_meanings, .ref f_names, .ref f_slots, .int nm, .int 0])), (f_kinds, .inl (cI, 16001, .inl kn)), (f_names, .inl (cJ, 4500, .inr (.inl nf))), (f_slots, .inl (cI, 8192, .inl sf)), (f_toldAt, .inl (cI, 4500, .inl toldAt_a)), (f_sorts, .inl (cI, 4500, .inl sorts_a)), (f_numbers, .inl (cI, 4500, .inl numbers_a)), (f_seen, .inl (cI, 4500, .inl seen_a))]) (wr := [(f_places, .inl (cI, 16001, .inl pn)), (s0, .inr (7, [.ref s_f_counts, .ref s_f_rooms, .ref s_f_called, .ref s_f_described, .ref s_f_starts, .ref s_f_traits, .ref s_f_exits, .ref s_f_forms, .ref s_f_joints, .ref s_f_owned, .ref s_f_ownedCounts, .ref s_f_initials, .ref s_f_cellEnds, .ref s_f_onVerbs, .ref s_f_onFirsts, .ref s_f_onSeconds, .ref s_f_code, .ref s_f_texts, .ref s_f_dictionary])), (s_f_counts, .inl (cI, 7, .inl counts_b)), (s_f_rooms, .inl (cZ, 121, .inl rooms_b))]) hP hD hS hFc [0, 1, 2, 4, 5, 6, 7, 8, 9] [3, 10, 11, 12] rfl rfl (by decide +kernel) (by decide +kernel) (va_runV (As := []) (rest := []) ⟨hx, hb, hml, hown, hts⟩ (c_X4_gatherItems l dC dI cB cC cI cJ cZ cP H_3.size m0 f_toldAt f_sorts f_numbers f_seen f_seenNames f_marks s0 w0 f_source f_kinds f_places f_values f_notes f_meanings f_names f_slots nm kn nf sf toldAt_a sorts_a numbers_a seen_a (hnm) (hk)) (cwV 0 hts (g_gV wq_709 wq_710 wq_2033 wq_4 wq_711) rfl rfl rfl (by decide +kernel) ⟨Nat.le_of_ble_eq_true rfl, Nat.le_of_ble_eq_true rfl⟩) (g_preV g_bl0 hK hPc hDc hS hE hFc g_to0 (q0 := 0) (ci := 4) rfl rfl) rfl rfl hl.1 rfl (lv_room (Nat.le_of_ble_eq_true rfl)) dX4_giveAll_16 ⟨Nat.le_of_ble_eq_true rfl, Nat.le_of_ble_eq_true rfl⟩) (fun u_5 H_6 locs w_4 hP' hD' hS' => ?_)
  clear hPc hDc hFc
  obtain ⟨o_7, o_8, o_9, o_10, o_11, o_12, o_13⟩ := u_5
  have w_4 : ¬ o_7 < 0 := w_4
  replace hP : va_P (dC, dI) vwCl [(f_places, .inl (cI, 16001, .inl pn)), (s0, .inr (7, [.ref s_f_counts, .ref s_f_rooms, .ref s_f_called, .ref s_f_described, .ref s_f_starts, .ref s_f_traits, .ref s_f_exits, .ref s_f_forms, .ref s_f_joints, .ref s_f_owned, .ref s_f_ownedCounts, .ref s_f_initials, .ref s_f_cellEnds, .ref s_f_onVerbs, .ref s_f_onFirsts, .ref s_f_onSeconds, .ref s_f_code, .ref s_f_texts, .ref s_f_dictionary])), (s_f_counts, .inl (cI, 7, .inl counts_b)), (s_f_rooms, .inl (cZ, 121, .inl rooms_b)), (m0, .inr (4, [.ref w0, .ref s0, .ref f_toldAt, .ref f_sorts, .ref f_numbers, .ref f_seen, .ref f_seenNames, .int 0, .int 0, .int 0, .ref f_marks, .int 0, .int 0, .int 0, .int 0, .int 0, .int 0, .int (-1)])), (w0, .inr (10, [.ref f_source, .int 0, .int 1, .ref f_kinds, .ref f_places, .ref f_values, .ref f_notes, .ref f_meanings, .ref f_names, .ref f_slots, .int o_7, .int 0])), (f_kinds, .inl (cI, 16001, .inl kn)), (f_names, .inl (cJ, 4500, .inr (.inl o_8))), (f_slots, .inl (cI, 8192, .inl o_9)), (f_toldAt, .inl (cI, 4500, .inl o_10)), (f_sorts, .inl (cI, 4500, .inl o_11)), (f_numbers, .inl (cI, 4500, .inl o_12)), (f_seen, .inl (cI, 4500, .inl o_13))] H_6 := hP'
  replace hD : va_D A [(f_places, .inl (cI, 16001, .inl pn)), (s0, .inr (7, [.ref s_f_counts, .ref s_f_rooms, .ref s_f_called, .ref s_f_described, .ref s_f_starts, .ref s_f_traits, .ref s_f_exits, .ref s_f_forms, .ref s_f_joints, .ref s_f_owned, .ref s_f_ownedCounts, .ref s_f_initials, .ref s_f_cellEnds, .ref s_f_onVerbs, .ref s_f_onFirsts, .ref s_f_onSeconds, .ref s_f_code, .ref s_f_texts, .ref s_f_dictionary])), (s_f_counts, .inl (cI, 7, .inl counts_b)), (s_f_rooms, .inl (cZ, 121, .inl rooms_b)), (m0, .inr (4, [.ref w0, .ref s0, .ref f_toldAt, .ref f_sorts, .ref f_numbers, .ref f_seen, .ref f_seenNames, .int 0, .int 0, .int 0, .ref f_marks, .int 0, .int 0, .int 0, .int 0, .int 0, .int 0, .int (-1)])), (w0, .inr (10, [.ref f_source, .int 0, .int 1, .ref f_kinds, .ref f_places, .ref f_values, .ref f_notes, .ref f_meanings, .ref f_names, .ref f_slots, .int o_7, .int 0])), (f_kinds, .inl (cI, 16001, .inl kn)), (f_names, .inl (cJ, 4500, .inr (.inl o_8))), (f_slots, .inl (cI, 8192, .inl o_9)), (f_toldAt, .inl (cI, 4500, .inl o_10)), (f_sorts, .inl (cI, 4500, .inl o_11)), (f_numbers, .inl (cI, 4500, .inl o_12)), (f_seen, .inl (cI, 4500, .inl o_13))] := hD'
  replace hS := hS'
  clear hP' hD' hS'
  refine lv_aload_n hx hb dX4_giveAll_19 rfl (lv_at hl 0 rfl) ?_
  have hPc := hP.sub (ws' := [(m0, .inr (4, [.ref w0, .ref s0, .ref f_toldAt, .ref f_sorts, .ref f_numbers, .ref f_seen, .ref f_seenNames, .int 0, .int 0, .int 0, .ref f_marks, .int 0, .int 0, .int 0, .int 0, .int 0, .int 0, .int (-1)]))]) [4] rfl
  have hDc := hD.sub (ws' := [(m0, .inr (4, [.ref w0, .ref s0, .ref f_toldAt, .ref f_sorts, .ref f_numbers, .ref f_seen, .ref f_seenNames, .int 0, .int 0, .int 0, .ref f_marks, .int 0, .int 0, .int 0, .int 0, .int 0, .int 0, .int (-1)]))]) [4] (by decide +kernel) rfl
  have hFc := va_free (wc := [(m0, .inr (4, [.ref w0, .ref s0, .ref f_toldAt, .ref f_sorts, .ref f_numbers, .ref f_seen, .ref f_seenNames, .int 0, .int 0, .int 0, .ref f_marks, .int 0, .int 0, .int 0, .int 0, .int 0, .int 0, .int (-1)]))]) hD hS hA [4] rfl
  refine g_ofv (wc := [(m0, .inr (4, [.ref w0, .ref s0, .ref f_toldAt, .ref f_sorts, .ref f_numbers, .ref f_seen, .ref f_seenNames, .int 0, .int 0, .int 0, .ref f_marks, .int 0, .int 0, .int 0, .int 0, .int 0, .int 0, .int (-1)]))]) (wr := [(f_places, .inl (cI, 16001, .inl pn)), (s0, .inr (7, [.ref s_f_counts, .ref s_f_rooms, .ref s_f_called, .ref s_f_described, .ref s_f_starts, .ref s_f_traits, .ref s_f_exits, .ref s_f_forms, .ref s_f_joints, .ref s_f_owned, .ref s_f_ownedCounts, .ref s_f_initials, .ref s_f_cellEnds, .ref s_f_onVerbs, .ref s_f_onFirsts, .ref s_f_onSeconds, .ref s_f_code, .ref s_f_texts, .ref s_f_dictionary])), (s_f_counts, .inl (cI, 7, .inl counts_b)), (s_f_rooms, .inl (cZ, 121, .inl rooms_b)), (w0, .inr (10, [.ref f_source, .int 0, .int 1, .ref f_kinds, .ref f_places, .ref f_values, .ref f_notes, .ref f_meanings, .ref f_names, .ref f_slots, .int o_7, .int 0])), (f_kinds, .inl (cI, 16001, .inl kn)), (f_names, .inl (cJ, 4500, .inr (.inl o_8))), (f_slots, .inl (cI, 8192, .inl o_9)), (f_toldAt, .inl (cI, 4500, .inl o_10)), (f_sorts, .inl (cI, 4500, .inl o_11)), (f_numbers, .inl (cI, 4500, .inl o_12)), (f_seen, .inl (cI, 4500, .inl o_13))]) hP hD hS hFc [4] [0, 1, 2, 3, 5, 6, 7, 8, 9, 10, 11, 12] rfl rfl (by decide +kernel) (by decide +kernel) (va_runV (As := []) (rest := []) ⟨hx, hb, hml, hown, hts⟩ (c_X4_startGoing l dC dI cB cC cI cJ cZ cP H_6.size m0 f_toldAt f_sorts f_numbers f_seen f_seenNames f_marks s0 w0 ) (cwV 0 hts (g_gV wq_716 wq_717 wq_2034 wq_4 wq_718) rfl rfl rfl (by decide +kernel) ⟨Nat.le_of_ble_eq_true rfl, Nat.le_of_ble_eq_true rfl⟩) (g_preV g_bl0 hK hPc hDc hS hE hFc g_to0 (q0 := 0) (ci := 4) rfl rfl) rfl rfl hl.1 rfl (lv_room (Nat.le_of_ble_eq_true rfl)) dX4_giveAll_20 ⟨Nat.le_of_ble_eq_true rfl, Nat.le_of_ble_eq_true rfl⟩) (fun u_15 H_16 locs w_14 hP' hD' hS' => ?_)
  clear hPc hDc hFc
  have w_14 : True := w_14
  replace hP : va_P (dC, dI) vwCl [(f_places, .inl (cI, 16001, .inl pn)), (s0, .inr (7, [.ref s_f_counts, .ref s_f_rooms, .ref s_f_called, .ref s_f_described, .ref s_f_starts, .ref s_f_traits, .ref s_f_exits, .ref s_f_forms, .ref s_f_joints, .ref s_f_owned, .ref s_f_ownedCounts, .ref s_f_initials, .ref s_f_cellEnds, .ref s_f_onVerbs, .ref s_f_onFirsts, .ref s_f_onSeconds, .ref s_f_code, .ref s_f_texts, .ref s_f_dictionary])), (s_f_counts, .inl (cI, 7, .inl counts_b)), (s_f_rooms, .inl (cZ, 121, .inl rooms_b)), (w0, .inr (10, [.ref f_source, .int 0, .int 1, .ref f_kinds, .ref f_places, .ref f_values, .ref f_notes, .ref f_meanings, .ref f_names, .ref f_slots, .int o_7, .int 0])), (f_kinds, .inl (cI, 16001, .inl kn)), (f_names, .inl (cJ, 4500, .inr (.inl o_8))), (f_slots, .inl (cI, 8192, .inl o_9)), (f_toldAt, .inl (cI, 4500, .inl o_10)), (f_sorts, .inl (cI, 4500, .inl o_11)), (f_numbers, .inl (cI, 4500, .inl o_12)), (f_seen, .inl (cI, 4500, .inl o_13)), (m0, .inr (4, [.ref w0, .ref s0, .ref f_toldAt, .ref f_sorts, .ref f_numbers, .ref f_seen, .ref f_seenNames, .int 0, .int 0, .int (-1), .ref f_marks, .int 0, .int 0, .int 0, .int 0, .int 0, .int 0, .int (-1)]))] H_16 := hP'
  replace hD : va_D A [(f_places, .inl (cI, 16001, .inl pn)), (s0, .inr (7, [.ref s_f_counts, .ref s_f_rooms, .ref s_f_called, .ref s_f_described, .ref s_f_starts, .ref s_f_traits, .ref s_f_exits, .ref s_f_forms, .ref s_f_joints, .ref s_f_owned, .ref s_f_ownedCounts, .ref s_f_initials, .ref s_f_cellEnds, .ref s_f_onVerbs, .ref s_f_onFirsts, .ref s_f_onSeconds, .ref s_f_code, .ref s_f_texts, .ref s_f_dictionary])), (s_f_counts, .inl (cI, 7, .inl counts_b)), (s_f_rooms, .inl (cZ, 121, .inl rooms_b)), (w0, .inr (10, [.ref f_source, .int 0, .int 1, .ref f_kinds, .ref f_places, .ref f_values, .ref f_notes, .ref f_meanings, .ref f_names, .ref f_slots, .int o_7, .int 0])), (f_kinds, .inl (cI, 16001, .inl kn)), (f_names, .inl (cJ, 4500, .inr (.inl o_8))), (f_slots, .inl (cI, 8192, .inl o_9)), (f_toldAt, .inl (cI, 4500, .inl o_10)), (f_sorts, .inl (cI, 4500, .inl o_11)), (f_numbers, .inl (cI, 4500, .inl o_12)), (f_seen, .inl (cI, 4500, .inl o_13)), (m0, .inr (4, [.ref w0, .ref s0, .ref f_toldAt, .ref f_sorts, .ref f_numbers, .ref f_seen, .ref f_seenNames, .int 0, .int 0, .int (-1), .ref f_marks, .int 0, .int 0, .int 0, .int 0, .int 0, .int 0, .int (-1)]))] := hD'
  replace hS := hS'
  clear hP' hD' hS'
  refine lv_iconst (v := 0) hx hb dX4_giveAll_23 (by decide +kernel) ?_
  refine lv_istore_n (lv' := [(2, .int 0), (0, .ref m0), (1, .ref s0)]) hx hb dX4_giveAll_24 rfl hl (by decide) rfl (fun ls hl => ?_)
  refine lv_iload_n hx hb dX4_giveAll_25 rfl (lv_at hl 0 rfl) ?_
  refine lv_aload_n hx hb dX4_giveAll_26 rfl (lv_at hl 1 rfl) ?_
  refine va_get (D := (dC, dI)) (ci := 4) (v := .ref w0) (C := RX4) (T := TX4) (N := 18) hx hb hts ii_X4 hown hK hP 12 rfl rfl 0 (by decide) (hts (.fieldLink RX4 32 "StoryHouse$Meanings" "words" "LStoryHouse$Words;") wq_86) (fun _ h9 => h9) rfl dX4_giveAll_27 ?_
  refine va_get (D := (dC, dI)) (ci := 10) (v := .int 1) (C := RX10) (T := TX10) (N := 12) hx hb hts ii_X10 hown hK hP 4 rfl rfl 2 (by decide) (hts (.fieldLink RX4 53 "StoryHouse$Words" "count" "I") wq_45) (fun _ h9 => h9) rfl dX4_giveAll_30 ?_
  refine lv_icmp_ge (tgt := 59) hx hb dX4_giveAll_33 (by decide) (fun c_17 => absurd c_17 (by decide +kernel)) (fun c_17 => ?_)
  refine lv_aload_n hx hb dX4_giveAll_36 rfl (lv_at hl 1 rfl) ?_
  refine va_get (D := (dC, dI)) (ci := 4) (v := .int 0) (C := RX4) (T := TX4) (N := 18) hx hb hts ii_X4 hown hK hP 12 rfl rfl 16 (by decide) (hts (.fieldLink RX4 40 "StoryHouse$Meanings" "fault" "I") wq_102) (fun _ h9 => h9) rfl dX4_giveAll_37 ?_
  refine lv_if_ne (tgt := 59) hx hb dX4_giveAll_40 (by decide) (fun c_18 => absurd c_18 (by decide +kernel)) (fun c_18 => ?_)
  refine lv_aload_n hx hb dX4_giveAll_43 rfl (lv_at hl 1 rfl) ?_
  refine lv_iload_n hx hb dX4_giveAll_44 rfl (lv_at hl 0 rfl) ?_
  have hPc := hP.sub (ws' := [(m0, .inr (4, [.ref w0, .ref s0, .ref f_toldAt, .ref f_sorts, .ref f_numbers, .ref f_seen, .ref f_seenNames, .int 0, .int 0, .int (-1), .ref f_marks, .int 0, .int 0, .int 0, .int 0, .int 0, .int 0, .int (-1)])), (w0, .inr (10, [.ref f_source, .int 0, .int 1, .ref f_kinds, .ref f_places, .ref f_values, .ref f_notes, .ref f_meanings, .ref f_names, .ref f_slots, .int o_7, .int 0])), (f_kinds, .inl (cI, 16001, .inl kn))]) [12, 4, 5] rfl
  have hDc := hD.sub (ws' := [(m0, .inr (4, [.ref w0, .ref s0, .ref f_toldAt, .ref f_sorts, .ref f_numbers, .ref f_seen, .ref f_seenNames, .int 0, .int 0, .int (-1), .ref f_marks, .int 0, .int 0, .int 0, .int 0, .int 0, .int 0, .int (-1)])), (w0, .inr (10, [.ref f_source, .int 0, .int 1, .ref f_kinds, .ref f_places, .ref f_values, .ref f_notes, .ref f_meanings, .ref f_names, .ref f_slots, .int o_7, .int 0])), (f_kinds, .inl (cI, 16001, .inl kn))]) [12, 4, 5] (by decide +kernel) rfl
  have hFc := va_free (wc := [(m0, .inr (4, [.ref w0, .ref s0, .ref f_toldAt, .ref f_sorts, .ref f_numbers, .ref f_seen, .ref f_seenNames, .int 0, .int 0, .int (-1), .ref f_marks, .int 0, .int 0, .int 0, .int 0, .int 0, .int 0, .int (-1)])), (w0, .inr (10, [.ref f_source, .int 0, .int 1, .ref f_kinds, .ref f_places, .ref f_values, .ref f_notes, .ref f_meanings, .ref f_names, .ref f_slots, .int o_7, .int 0])), (f_kinds, .inl (cI, 16001, .inl kn))]) hD hS hA [12, 4, 5] rfl
  refine g_ofv (wc := [(m0, .inr (4, [.ref w0, .ref s0, .ref f_toldAt, .ref f_sorts, .ref f_numbers, .ref f_seen, .ref f_seenNames, .int 0, .int 0, .int (-1), .ref f_marks, .int 0, .int 0, .int 0, .int 0, .int 0, .int 0, .int (-1)])), (w0, .inr (10, [.ref f_source, .int 0, .int 1, .ref f_kinds, .ref f_places, .ref f_values, .ref f_notes, .ref f_meanings, .ref f_names, .ref f_slots, .int o_7, .int 0])), (f_kinds, .inl (cI, 16001, .inl kn))]) (wr := [(f_places, .inl (cI, 16001, .inl pn)), (s0, .inr (7, [.ref s_f_counts, .ref s_f_rooms, .ref s_f_called, .ref s_f_described, .ref s_f_starts, .ref s_f_traits, .ref s_f_exits, .ref s_f_forms, .ref s_f_joints, .ref s_f_owned, .ref s_f_ownedCounts, .ref s_f_initials, .ref s_f_cellEnds, .ref s_f_onVerbs, .ref s_f_onFirsts, .ref s_f_onSeconds, .ref s_f_code, .ref s_f_texts, .ref s_f_dictionary])), (s_f_counts, .inl (cI, 7, .inl counts_b)), (s_f_rooms, .inl (cZ, 121, .inl rooms_b)), (f_names, .inl (cJ, 4500, .inr (.inl o_8))), (f_slots, .inl (cI, 8192, .inl o_9)), (f_toldAt, .inl (cI, 4500, .inl o_10)), (f_sorts, .inl (cI, 4500, .inl o_11)), (f_numbers, .inl (cI, 4500, .inl o_12)), (f_seen, .inl (cI, 4500, .inl o_13))]) hP hD hS hFc [12, 4, 5] [0, 1, 2, 3, 6, 7, 8, 9, 10, 11] rfl rfl (by decide +kernel) (by decide +kernel) (va_runV (As := [.int 0]) (rest := []) ⟨hx, hb, hml, hown, hts⟩ (c_X4_tellWord l dC dI cB cC cI cJ cZ cP H_16.size m0 f_toldAt f_sorts f_numbers f_seen f_seenNames f_marks s0 w0 f_source f_kinds f_places f_values f_notes f_meanings f_names f_slots o_7 kn (hk)) (cwV 1 hts (g_gV wq_719 wq_720 wq_2035 wq_4 wq_721) rfl rfl rfl (by decide +kernel) ⟨Nat.le_of_ble_eq_true rfl, Nat.le_of_ble_eq_true rfl⟩) (g_preV g_bl0 hK hPc hDc hS hE hFc g_to0 (q0 := 0) (ci := 4) rfl rfl) rfl rfl hl.1 rfl (lv_room (Nat.le_of_ble_eq_true rfl)) dX4_giveAll_45 ⟨Nat.le_of_ble_eq_true rfl, Nat.le_of_ble_eq_true rfl⟩) (fun u_20 H_21 locs w_19 hP' hD' hS' => ?_)
  clear hPc hDc hFc
  have w_19 : True := w_19
  replace hP : va_P (dC, dI) vwCl [(f_places, .inl (cI, 16001, .inl pn)), (s0, .inr (7, [.ref s_f_counts, .ref s_f_rooms, .ref s_f_called, .ref s_f_described, .ref s_f_starts, .ref s_f_traits, .ref s_f_exits, .ref s_f_forms, .ref s_f_joints, .ref s_f_owned, .ref s_f_ownedCounts, .ref s_f_initials, .ref s_f_cellEnds, .ref s_f_onVerbs, .ref s_f_onFirsts, .ref s_f_onSeconds, .ref s_f_code, .ref s_f_texts, .ref s_f_dictionary])), (s_f_counts, .inl (cI, 7, .inl counts_b)), (s_f_rooms, .inl (cZ, 121, .inl rooms_b)), (f_names, .inl (cJ, 4500, .inr (.inl o_8))), (f_slots, .inl (cI, 8192, .inl o_9)), (f_toldAt, .inl (cI, 4500, .inl o_10)), (f_sorts, .inl (cI, 4500, .inl o_11)), (f_numbers, .inl (cI, 4500, .inl o_12)), (f_seen, .inl (cI, 4500, .inl o_13)), (m0, .inr (4, [.ref w0, .ref s0, .ref f_toldAt, .ref f_sorts, .ref f_numbers, .ref f_seen, .ref f_seenNames, .int 0, .int 0, .int (-1), .ref f_marks, .int 0, .int 0, .int 0, .int 0, .int 0, .int 0, .int (-1)])), (w0, .inr (10, [.ref f_source, .int 0, .int 1, .ref f_kinds, .ref f_places, .ref f_values, .ref f_notes, .ref f_meanings, .ref f_names, .ref f_slots, .int o_7, .int 0])), (f_kinds, .inl (cI, 16001, .inl kn))] H_21 := hP'
  replace hD : va_D A [(f_places, .inl (cI, 16001, .inl pn)), (s0, .inr (7, [.ref s_f_counts, .ref s_f_rooms, .ref s_f_called, .ref s_f_described, .ref s_f_starts, .ref s_f_traits, .ref s_f_exits, .ref s_f_forms, .ref s_f_joints, .ref s_f_owned, .ref s_f_ownedCounts, .ref s_f_initials, .ref s_f_cellEnds, .ref s_f_onVerbs, .ref s_f_onFirsts, .ref s_f_onSeconds, .ref s_f_code, .ref s_f_texts, .ref s_f_dictionary])), (s_f_counts, .inl (cI, 7, .inl counts_b)), (s_f_rooms, .inl (cZ, 121, .inl rooms_b)), (f_names, .inl (cJ, 4500, .inr (.inl o_8))), (f_slots, .inl (cI, 8192, .inl o_9)), (f_toldAt, .inl (cI, 4500, .inl o_10)), (f_sorts, .inl (cI, 4500, .inl o_11)), (f_numbers, .inl (cI, 4500, .inl o_12)), (f_seen, .inl (cI, 4500, .inl o_13)), (m0, .inr (4, [.ref w0, .ref s0, .ref f_toldAt, .ref f_sorts, .ref f_numbers, .ref f_seen, .ref f_seenNames, .int 0, .int 0, .int (-1), .ref f_marks, .int 0, .int 0, .int 0, .int 0, .int 0, .int 0, .int (-1)])), (w0, .inr (10, [.ref f_source, .int 0, .int 1, .ref f_kinds, .ref f_places, .ref f_values, .ref f_notes, .ref f_meanings, .ref f_names, .ref f_slots, .int o_7, .int 0])), (f_kinds, .inl (cI, 16001, .inl kn))] := hD'
  replace hS := hS'
  clear hP' hD' hS'
  refine lv_aload_n hx hb dX4_giveAll_48 rfl (lv_at hl 1 rfl) ?_
  refine lv_iload_n hx hb dX4_giveAll_49 rfl (lv_at hl 0 rfl) ?_
  have hPc := hP.sub (ws' := [(m0, .inr (4, [.ref w0, .ref s0, .ref f_toldAt, .ref f_sorts, .ref f_numbers, .ref f_seen, .ref f_seenNames, .int 0, .int 0, .int (-1), .ref f_marks, .int 0, .int 0, .int 0, .int 0, .int 0, .int 0, .int (-1)])), (w0, .inr (10, [.ref f_source, .int 0, .int 1, .ref f_kinds, .ref f_places, .ref f_values, .ref f_notes, .ref f_meanings, .ref f_names, .ref f_slots, .int o_7, .int 0])), (f_kinds, .inl (cI, 16001, .inl kn))]) [10, 11, 12] rfl
  have hDc := hD.sub (ws' := [(m0, .inr (4, [.ref w0, .ref s0, .ref f_toldAt, .ref f_sorts, .ref f_numbers, .ref f_seen, .ref f_seenNames, .int 0, .int 0, .int (-1), .ref f_marks, .int 0, .int 0, .int 0, .int 0, .int 0, .int 0, .int (-1)])), (w0, .inr (10, [.ref f_source, .int 0, .int 1, .ref f_kinds, .ref f_places, .ref f_values, .ref f_notes, .ref f_meanings, .ref f_names, .ref f_slots, .int o_7, .int 0])), (f_kinds, .inl (cI, 16001, .inl kn))]) [10, 11, 12] (by decide +kernel) rfl
  have hFc := va_free (wc := [(m0, .inr (4, [.ref w0, .ref s0, .ref f_toldAt, .ref f_sorts, .ref f_numbers, .ref f_seen, .ref f_seenNames, .int 0, .int 0, .int (-1), .ref f_marks, .int 0, .int 0, .int 0, .int 0, .int 0, .int 0, .int (-1)])), (w0, .inr (10, [.ref f_source, .int 0, .int 1, .ref f_kinds, .ref f_places, .ref f_values, .ref f_notes, .ref f_meanings, .ref f_names, .ref f_slots, .int o_7, .int 0])), (f_kinds, .inl (cI, 16001, .inl kn))]) hD hS hA [10, 11, 12] rfl
  refine g_ofv (wc := [(m0, .inr (4, [.ref w0, .ref s0, .ref f_toldAt, .ref f_sorts, .ref f_numbers, .ref f_seen, .ref f_seenNames, .int 0, .int 0, .int (-1), .ref f_marks, .int 0, .int 0, .int 0, .int 0, .int 0, .int 0, .int (-1)])), (w0, .inr (10, [.ref f_source, .int 0, .int 1, .ref f_kinds, .ref f_places, .ref f_values, .ref f_notes, .ref f_meanings, .ref f_names, .ref f_slots, .int o_7, .int 0])), (f_kinds, .inl (cI, 16001, .inl kn))]) (wr := [(f_places, .inl (cI, 16001, .inl pn)), (s0, .inr (7, [.ref s_f_counts, .ref s_f_rooms, .ref s_f_called, .ref s_f_described, .ref s_f_starts, .ref s_f_traits, .ref s_f_exits, .ref s_f_forms, .ref s_f_joints, .ref s_f_owned, .ref s_f_ownedCounts, .ref s_f_initials, .ref s_f_cellEnds, .ref s_f_onVerbs, .ref s_f_onFirsts, .ref s_f_onSeconds, .ref s_f_code, .ref s_f_texts, .ref s_f_dictionary])), (s_f_counts, .inl (cI, 7, .inl counts_b)), (s_f_rooms, .inl (cZ, 121, .inl rooms_b)), (f_names, .inl (cJ, 4500, .inr (.inl o_8))), (f_slots, .inl (cI, 8192, .inl o_9)), (f_toldAt, .inl (cI, 4500, .inl o_10)), (f_sorts, .inl (cI, 4500, .inl o_11)), (f_numbers, .inl (cI, 4500, .inl o_12)), (f_seen, .inl (cI, 4500, .inl o_13))]) hP hD hS hFc [10, 11, 12] [0, 1, 2, 3, 4, 5, 6, 7, 8, 9] rfl rfl (by decide +kernel) (by decide +kernel) (va_runV (As := [.int 0]) (rest := []) ⟨hx, hb, hml, hown, hts⟩ (c_X4_followScope l dC dI cB cC cI cJ cZ cP H_21.size m0 f_toldAt f_sorts f_numbers f_seen f_seenNames f_marks s0 w0 f_source f_kinds f_places f_values f_notes f_meanings f_names f_slots o_7 kn (hk)) (cwV 1 hts (g_gV wq_753 wq_754 wq_2046 wq_4 wq_755) rfl rfl rfl (by decide +kernel) ⟨Nat.le_of_ble_eq_true rfl, Nat.le_of_ble_eq_true rfl⟩) (g_preV g_bl0 hK hPc hDc hS hE hFc g_to0 (q0 := 0) (ci := 4) rfl rfl) rfl rfl hl.1 rfl (lv_room (Nat.le_of_ble_eq_true rfl)) dX4_giveAll_50 ⟨Nat.le_of_ble_eq_true rfl, Nat.le_of_ble_eq_true rfl⟩) (fun u_23 H_24 locs w_22 hP' hD' hS' => ?_)
  clear hPc hDc hFc
  have w_22 : True := w_22
  replace hP : va_P (dC, dI) vwCl [(f_places, .inl (cI, 16001, .inl pn)), (s0, .inr (7, [.ref s_f_counts, .ref s_f_rooms, .ref s_f_called, .ref s_f_described, .ref s_f_starts, .ref s_f_traits, .ref s_f_exits, .ref s_f_forms, .ref s_f_joints, .ref s_f_owned, .ref s_f_ownedCounts, .ref s_f_initials, .ref s_f_cellEnds, .ref s_f_onVerbs, .ref s_f_onFirsts, .ref s_f_onSeconds, .ref s_f_code, .ref s_f_texts, .ref s_f_dictionary])), (s_f_counts, .inl (cI, 7, .inl counts_b)), (s_f_rooms, .inl (cZ, 121, .inl rooms_b)), (f_names, .inl (cJ, 4500, .inr (.inl o_8))), (f_slots, .inl (cI, 8192, .inl o_9)), (f_toldAt, .inl (cI, 4500, .inl o_10)), (f_sorts, .inl (cI, 4500, .inl o_11)), (f_numbers, .inl (cI, 4500, .inl o_12)), (f_seen, .inl (cI, 4500, .inl o_13)), (m0, .inr (4, [.ref w0, .ref s0, .ref f_toldAt, .ref f_sorts, .ref f_numbers, .ref f_seen, .ref f_seenNames, .int 0, .int 0, .int (-1), .ref f_marks, .int 0, .int 0, .int 0, .int 0, .int 0, .int 0, .int (-1)])), (w0, .inr (10, [.ref f_source, .int 0, .int 1, .ref f_kinds, .ref f_places, .ref f_values, .ref f_notes, .ref f_meanings, .ref f_names, .ref f_slots, .int o_7, .int 0])), (f_kinds, .inl (cI, 16001, .inl kn))] H_24 := hP'
  replace hD : va_D A [(f_places, .inl (cI, 16001, .inl pn)), (s0, .inr (7, [.ref s_f_counts, .ref s_f_rooms, .ref s_f_called, .ref s_f_described, .ref s_f_starts, .ref s_f_traits, .ref s_f_exits, .ref s_f_forms, .ref s_f_joints, .ref s_f_owned, .ref s_f_ownedCounts, .ref s_f_initials, .ref s_f_cellEnds, .ref s_f_onVerbs, .ref s_f_onFirsts, .ref s_f_onSeconds, .ref s_f_code, .ref s_f_texts, .ref s_f_dictionary])), (s_f_counts, .inl (cI, 7, .inl counts_b)), (s_f_rooms, .inl (cZ, 121, .inl rooms_b)), (f_names, .inl (cJ, 4500, .inr (.inl o_8))), (f_slots, .inl (cI, 8192, .inl o_9)), (f_toldAt, .inl (cI, 4500, .inl o_10)), (f_sorts, .inl (cI, 4500, .inl o_11)), (f_numbers, .inl (cI, 4500, .inl o_12)), (f_seen, .inl (cI, 4500, .inl o_13)), (m0, .inr (4, [.ref w0, .ref s0, .ref f_toldAt, .ref f_sorts, .ref f_numbers, .ref f_seen, .ref f_seenNames, .int 0, .int 0, .int (-1), .ref f_marks, .int 0, .int 0, .int 0, .int 0, .int 0, .int 0, .int (-1)])), (w0, .inr (10, [.ref f_source, .int 0, .int 1, .ref f_kinds, .ref f_places, .ref f_values, .ref f_notes, .ref f_meanings, .ref f_names, .ref f_slots, .int o_7, .int 0])), (f_kinds, .inl (cI, 16001, .inl kn))] := hD'
  replace hS := hS'
  clear hP' hD' hS'
  refine lv_iinc (v := 1) (lv' := [(2, .int 1), (0, .ref m0), (1, .ref s0)]) hx hb dX4_giveAll_53 hl (k := 0) rfl (by decide +kernel) (by decide) rfl (fun ls hl => ?_)
  refine lv_goto (tgt := 25) hx hb dX4_giveAll_56 (by decide) ?_
  refine lv_iload_n hx hb dX4_giveAll_25 rfl (lv_at hl 0 rfl) ?_
  refine lv_aload_n hx hb dX4_giveAll_26 rfl (lv_at hl 1 rfl) ?_
  refine va_get (D := (dC, dI)) (ci := 4) (v := .ref w0) (C := RX4) (T := TX4) (N := 18) hx hb hts ii_X4 hown hK hP 10 rfl rfl 0 (by decide) (hts (.fieldLink RX4 32 "StoryHouse$Meanings" "words" "LStoryHouse$Words;") wq_86) (fun _ h9 => h9) rfl dX4_giveAll_27 ?_
  refine va_get (D := (dC, dI)) (ci := 10) (v := .int 1) (C := RX10) (T := TX10) (N := 12) hx hb hts ii_X10 hown hK hP 11 rfl rfl 2 (by decide) (hts (.fieldLink RX4 53 "StoryHouse$Words" "count" "I") wq_45) (fun _ h9 => h9) rfl dX4_giveAll_30 ?_
  refine lv_icmp_ge (tgt := 59) hx hb dX4_giveAll_33 (by decide) (fun c_25 => ?_) (fun c_25 => absurd (by decide +kernel) c_25)
  refine lv_aload_n hx hb dX4_giveAll_59 rfl (lv_at hl 1 rfl) ?_
  have hPc := hP.sub (ws' := [(m0, .inr (4, [.ref w0, .ref s0, .ref f_toldAt, .ref f_sorts, .ref f_numbers, .ref f_seen, .ref f_seenNames, .int 0, .int 0, .int (-1), .ref f_marks, .int 0, .int 0, .int 0, .int 0, .int 0, .int 0, .int (-1)]))]) [10] rfl
  have hDc := hD.sub (ws' := [(m0, .inr (4, [.ref w0, .ref s0, .ref f_toldAt, .ref f_sorts, .ref f_numbers, .ref f_seen, .ref f_seenNames, .int 0, .int 0, .int (-1), .ref f_marks, .int 0, .int 0, .int 0, .int 0, .int 0, .int 0, .int (-1)]))]) [10] (by decide +kernel) rfl
  have hFc := va_free (wc := [(m0, .inr (4, [.ref w0, .ref s0, .ref f_toldAt, .ref f_sorts, .ref f_numbers, .ref f_seen, .ref f_seenNames, .int 0, .int 0, .int (-1), .ref f_marks, .int 0, .int 0, .int 0, .int 0, .int 0, .int 0, .int (-1)]))]) hD hS hA [10] rfl
  refine g_ofv (wc := [(m0, .inr (4, [.ref w0, .ref s0, .ref f_toldAt, .ref f_sorts, .ref f_numbers, .ref f_seen, .ref f_seenNames, .int 0, .int 0, .int (-1), .ref f_marks, .int 0, .int 0, .int 0, .int 0, .int 0, .int 0, .int (-1)]))]) (wr := [(f_places, .inl (cI, 16001, .inl pn)), (s0, .inr (7, [.ref s_f_counts, .ref s_f_rooms, .ref s_f_called, .ref s_f_described, .ref s_f_starts, .ref s_f_traits, .ref s_f_exits, .ref s_f_forms, .ref s_f_joints, .ref s_f_owned, .ref s_f_ownedCounts, .ref s_f_initials, .ref s_f_cellEnds, .ref s_f_onVerbs, .ref s_f_onFirsts, .ref s_f_onSeconds, .ref s_f_code, .ref s_f_texts, .ref s_f_dictionary])), (s_f_counts, .inl (cI, 7, .inl counts_b)), (s_f_rooms, .inl (cZ, 121, .inl rooms_b)), (f_names, .inl (cJ, 4500, .inr (.inl o_8))), (f_slots, .inl (cI, 8192, .inl o_9)), (f_toldAt, .inl (cI, 4500, .inl o_10)), (f_sorts, .inl (cI, 4500, .inl o_11)), (f_numbers, .inl (cI, 4500, .inl o_12)), (f_seen, .inl (cI, 4500, .inl o_13)), (w0, .inr (10, [.ref f_source, .int 0, .int 1, .ref f_kinds, .ref f_places, .ref f_values, .ref f_notes, .ref f_meanings, .ref f_names, .ref f_slots, .int o_7, .int 0])), (f_kinds, .inl (cI, 16001, .inl kn))]) hP hD hS hFc [10] [0, 1, 2, 3, 4, 5, 6, 7, 8, 9, 11, 12] rfl rfl (by decide +kernel) (by decide +kernel) (va_runV (As := []) (rest := []) ⟨hx, hb, hml, hown, hts⟩ (c_X4_startGoing_2 l dC dI cB cC cI cJ cZ cP H_24.size m0 f_toldAt f_sorts f_numbers f_seen f_seenNames f_marks s0 w0 ) (cwV 0 hts (g_gV wq_716 wq_717 wq_2034 wq_4 wq_718) rfl rfl rfl (by decide +kernel) ⟨Nat.le_of_ble_eq_true rfl, Nat.le_of_ble_eq_true rfl⟩) (g_preV g_bl0 hK hPc hDc hS hE hFc g_to0 (q0 := 0) (ci := 4) rfl rfl) rfl rfl hl.1 rfl (lv_room (Nat.le_of_ble_eq_true rfl)) dX4_giveAll_60 ⟨Nat.le_of_ble_eq_true rfl, Nat.le_of_ble_eq_true rfl⟩) (fun u_27 H_28 locs w_26 hP' hD' hS' => ?_)
  clear hPc hDc hFc
  have w_26 : True := w_26
  replace hP : va_P (dC, dI) vwCl [(f_places, .inl (cI, 16001, .inl pn)), (s0, .inr (7, [.ref s_f_counts, .ref s_f_rooms, .ref s_f_called, .ref s_f_described, .ref s_f_starts, .ref s_f_traits, .ref s_f_exits, .ref s_f_forms, .ref s_f_joints, .ref s_f_owned, .ref s_f_ownedCounts, .ref s_f_initials, .ref s_f_cellEnds, .ref s_f_onVerbs, .ref s_f_onFirsts, .ref s_f_onSeconds, .ref s_f_code, .ref s_f_texts, .ref s_f_dictionary])), (s_f_counts, .inl (cI, 7, .inl counts_b)), (s_f_rooms, .inl (cZ, 121, .inl rooms_b)), (f_names, .inl (cJ, 4500, .inr (.inl o_8))), (f_slots, .inl (cI, 8192, .inl o_9)), (f_toldAt, .inl (cI, 4500, .inl o_10)), (f_sorts, .inl (cI, 4500, .inl o_11)), (f_numbers, .inl (cI, 4500, .inl o_12)), (f_seen, .inl (cI, 4500, .inl o_13)), (w0, .inr (10, [.ref f_source, .int 0, .int 1, .ref f_kinds, .ref f_places, .ref f_values, .ref f_notes, .ref f_meanings, .ref f_names, .ref f_slots, .int o_7, .int 0])), (f_kinds, .inl (cI, 16001, .inl kn)), (m0, .inr (4, [.ref w0, .ref s0, .ref f_toldAt, .ref f_sorts, .ref f_numbers, .ref f_seen, .ref f_seenNames, .int 0, .int 0, .int (-1), .ref f_marks, .int 0, .int 0, .int 0, .int 0, .int 0, .int 0, .int (-1)]))] H_28 := hP'
  replace hD : va_D A [(f_places, .inl (cI, 16001, .inl pn)), (s0, .inr (7, [.ref s_f_counts, .ref s_f_rooms, .ref s_f_called, .ref s_f_described, .ref s_f_starts, .ref s_f_traits, .ref s_f_exits, .ref s_f_forms, .ref s_f_joints, .ref s_f_owned, .ref s_f_ownedCounts, .ref s_f_initials, .ref s_f_cellEnds, .ref s_f_onVerbs, .ref s_f_onFirsts, .ref s_f_onSeconds, .ref s_f_code, .ref s_f_texts, .ref s_f_dictionary])), (s_f_counts, .inl (cI, 7, .inl counts_b)), (s_f_rooms, .inl (cZ, 121, .inl rooms_b)), (f_names, .inl (cJ, 4500, .inr (.inl o_8))), (f_slots, .inl (cI, 8192, .inl o_9)), (f_toldAt, .inl (cI, 4500, .inl o_10)), (f_sorts, .inl (cI, 4500, .inl o_11)), (f_numbers, .inl (cI, 4500, .inl o_12)), (f_seen, .inl (cI, 4500, .inl o_13)), (w0, .inr (10, [.ref f_source, .int 0, .int 1, .ref f_kinds, .ref f_places, .ref f_values, .ref f_notes, .ref f_meanings, .ref f_names, .ref f_slots, .int o_7, .int 0])), (f_kinds, .inl (cI, 16001, .inl kn)), (m0, .inr (4, [.ref w0, .ref s0, .ref f_toldAt, .ref f_sorts, .ref f_numbers, .ref f_seen, .ref f_seenNames, .int 0, .int 0, .int (-1), .ref f_marks, .int 0, .int 0, .int 0, .int 0, .int 0, .int 0, .int (-1)]))] := hD'
  replace hS := hS'
  clear hP' hD' hS'
  refine lv_iconst (v := 0) hx hb dX4_giveAll_63 (by decide +kernel) ?_
  refine lv_istore_n (lv' := [(2, .int 0), (0, .ref m0), (1, .ref s0)]) hx hb dX4_giveAll_64 rfl hl (by decide) rfl (fun ls hl => ?_)
  refine lv_iload_n hx hb dX4_giveAll_65 rfl (lv_at hl 0 rfl) ?_
  refine lv_aload_n hx hb dX4_giveAll_66 rfl (lv_at hl 1 rfl) ?_
  refine va_get (D := (dC, dI)) (ci := 4) (v := .ref w0) (C := RX4) (T := TX4) (N := 18) hx hb hts ii_X4 hown hK hP 12 rfl rfl 0 (by decide) (hts (.fieldLink RX4 32 "StoryHouse$Meanings" "words" "LStoryHouse$Words;") wq_86) (fun _ h9 => h9) rfl dX4_giveAll_67 ?_
  refine va_get (D := (dC, dI)) (ci := 10) (v := .int 1) (C := RX10) (T := TX10) (N := 12) hx hb hts ii_X10 hown hK hP 10 rfl rfl 2 (by decide) (hts (.fieldLink RX4 53 "StoryHouse$Words" "count" "I") wq_45) (fun _ h9 => h9) rfl dX4_giveAll_70 ?_
  refine lv_icmp_ge (tgt := 121) hx hb dX4_giveAll_73 (by decide) (fun c_29 => absurd c_29 (by decide +kernel)) (fun c_29 => ?_)
  refine lv_aload_n hx hb dX4_giveAll_76 rfl (lv_at hl 1 rfl) ?_
  refine va_get (D := (dC, dI)) (ci := 4) (v := .int 0) (C := RX4) (T := TX4) (N := 18) hx hb hts ii_X4 hown hK hP 12 rfl rfl 16 (by decide) (hts (.fieldLink RX4 40 "StoryHouse$Meanings" "fault" "I") wq_102) (fun _ h9 => h9) rfl dX4_giveAll_77 ?_
  refine lv_if_ne (tgt := 121) hx hb dX4_giveAll_80 (by decide) (fun c_30 => absurd c_30 (by decide +kernel)) (fun c_30 => ?_)
  refine lv_aload_n hx hb dX4_giveAll_83 rfl (lv_at hl 1 rfl) ?_
  refine va_get (D := (dC, dI)) (ci := 4) (v := .int 0) (C := RX4) (T := TX4) (N := 18) hx hb hts ii_X4 hown hK hP 12 rfl rfl 12 (by decide) (hts (.fieldLink RX4 63 "StoryHouse$Meanings" "routine" "I") wq_98) (fun _ h9 => h9) rfl dX4_giveAll_84 ?_
  refine lv_if_eq (tgt := 105) hx hb dX4_giveAll_87 (by decide) (fun c_31 => ?_) (fun c_31 => absurd (by decide +kernel) c_31)
  refine lv_aload_n hx hb dX4_giveAll_105 rfl (lv_at hl 1 rfl) ?_
  refine lv_iload_n hx hb dX4_giveAll_106 rfl (lv_at hl 0 rfl) ?_
  have hPc := hP.sub (ws' := [(m0, .inr (4, [.ref w0, .ref s0, .ref f_toldAt, .ref f_sorts, .ref f_numbers, .ref f_seen, .ref f_seenNames, .int 0, .int 0, .int (-1), .ref f_marks, .int 0, .int 0, .int 0, .int 0, .int 0, .int 0, .int (-1)])), (w0, .inr (10, [.ref f_source, .int 0, .int 1, .ref f_kinds, .ref f_places, .ref f_values, .ref f_notes, .ref f_meanings, .ref f_names, .ref f_slots, .int o_7, .int 0])), (f_kinds, .inl (cI, 16001, .inl kn))]) [12, 10, 11] rfl
  have hDc := hD.sub (ws' := [(m0, .inr (4, [.ref w0, .ref s0, .ref f_toldAt, .ref f_sorts, .ref f_numbers, .ref f_seen, .ref f_seenNames, .int 0, .int 0, .int (-1), .ref f_marks, .int 0, .int 0, .int 0, .int 0, .int 0, .int 0, .int (-1)])), (w0, .inr (10, [.ref f_source, .int 0, .int 1, .ref f_kinds, .ref f_places, .ref f_values, .ref f_notes, .ref f_meanings, .ref f_names, .ref f_slots, .int o_7, .int 0])), (f_kinds, .inl (cI, 16001, .inl kn))]) [12, 10, 11] (by decide +kernel) rfl
  have hFc := va_free (wc := [(m0, .inr (4, [.ref w0, .ref s0, .ref f_toldAt, .ref f_sorts, .ref f_numbers, .ref f_seen, .ref f_seenNames, .int 0, .int 0, .int (-1), .ref f_marks, .int 0, .int 0, .int 0, .int 0, .int 0, .int 0, .int (-1)])), (w0, .inr (10, [.ref f_source, .int 0, .int 1, .ref f_kinds, .ref f_places, .ref f_values, .ref f_notes, .ref f_meanings, .ref f_names, .ref f_slots, .int o_7, .int 0])), (f_kinds, .inl (cI, 16001, .inl kn))]) hD hS hA [12, 10, 11] rfl
  refine g_ofv (wc := [(m0, .inr (4, [.ref w0, .ref s0, .ref f_toldAt, .ref f_sorts, .ref f_numbers, .ref f_seen, .ref f_seenNames, .int 0, .int 0, .int (-1), .ref f_marks, .int 0, .int 0, .int 0, .int 0, .int 0, .int 0, .int (-1)])), (w0, .inr (10, [.ref f_source, .int 0, .int 1, .ref f_kinds, .ref f_places, .ref f_values, .ref f_notes, .ref f_meanings, .ref f_names, .ref f_slots, .int o_7, .int 0])), (f_kinds, .inl (cI, 16001, .inl kn))]) (wr := [(f_places, .inl (cI, 16001, .inl pn)), (s0, .inr (7, [.ref s_f_counts, .ref s_f_rooms, .ref s_f_called, .ref s_f_described, .ref s_f_starts, .ref s_f_traits, .ref s_f_exits, .ref s_f_forms, .ref s_f_joints, .ref s_f_owned, .ref s_f_ownedCounts, .ref s_f_initials, .ref s_f_cellEnds, .ref s_f_onVerbs, .ref s_f_onFirsts, .ref s_f_onSeconds, .ref s_f_code, .ref s_f_texts, .ref s_f_dictionary])), (s_f_counts, .inl (cI, 7, .inl counts_b)), (s_f_rooms, .inl (cZ, 121, .inl rooms_b)), (f_names, .inl (cJ, 4500, .inr (.inl o_8))), (f_slots, .inl (cI, 8192, .inl o_9)), (f_toldAt, .inl (cI, 4500, .inl o_10)), (f_sorts, .inl (cI, 4500, .inl o_11)), (f_numbers, .inl (cI, 4500, .inl o_12)), (f_seen, .inl (cI, 4500, .inl o_13))]) hP hD hS hFc [12, 10, 11] [0, 1, 2, 3, 4, 5, 6, 7, 8, 9] rfl rfl (by decide +kernel) (by decide +kernel) (va_runV (As := [.int 0]) (rest := []) ⟨hx, hb, hml, hown, hts⟩ (c_X4_itemWord l dC dI cB cC cI cJ cZ cP H_28.size m0 f_toldAt f_sorts f_numbers f_seen f_seenNames f_marks s0 w0 f_source f_kinds f_places f_values f_notes f_meanings f_names f_slots o_7 kn (hk)) (cwV 1 hts (g_gV wq_772 wq_773 wq_2052 wq_4 wq_774) rfl rfl rfl (by decide +kernel) ⟨Nat.le_of_ble_eq_true rfl, Nat.le_of_ble_eq_true rfl⟩) (g_preV g_bl0 hK hPc hDc hS hE hFc g_to0 (q0 := 0) (ci := 4) rfl rfl) rfl rfl hl.1 rfl (lv_room (Nat.le_of_ble_eq_true rfl)) dX4_giveAll_107 ⟨Nat.le_of_ble_eq_true rfl, Nat.le_of_ble_eq_true rfl⟩) (fun u_33 H_34 locs w_32 hP' hD' hS' => ?_)
  clear hPc hDc hFc
  have w_32 : True := w_32
  replace hP : va_P (dC, dI) vwCl [(f_places, .inl (cI, 16001, .inl pn)), (s0, .inr (7, [.ref s_f_counts, .ref s_f_rooms, .ref s_f_called, .ref s_f_described, .ref s_f_starts, .ref s_f_traits, .ref s_f_exits, .ref s_f_forms, .ref s_f_joints, .ref s_f_owned, .ref s_f_ownedCounts, .ref s_f_initials, .ref s_f_cellEnds, .ref s_f_onVerbs, .ref s_f_onFirsts, .ref s_f_onSeconds, .ref s_f_code, .ref s_f_texts, .ref s_f_dictionary])), (s_f_counts, .inl (cI, 7, .inl counts_b)), (s_f_rooms, .inl (cZ, 121, .inl rooms_b)), (f_names, .inl (cJ, 4500, .inr (.inl o_8))), (f_slots, .inl (cI, 8192, .inl o_9)), (f_toldAt, .inl (cI, 4500, .inl o_10)), (f_sorts, .inl (cI, 4500, .inl o_11)), (f_numbers, .inl (cI, 4500, .inl o_12)), (f_seen, .inl (cI, 4500, .inl o_13)), (m0, .inr (4, [.ref w0, .ref s0, .ref f_toldAt, .ref f_sorts, .ref f_numbers, .ref f_seen, .ref f_seenNames, .int 0, .int 0, .int (-1), .ref f_marks, .int 0, .int 0, .int 0, .int 0, .int 0, .int 0, .int (-1)])), (w0, .inr (10, [.ref f_source, .int 0, .int 1, .ref f_kinds, .ref f_places, .ref f_values, .ref f_notes, .ref f_meanings, .ref f_names, .ref f_slots, .int o_7, .int 0])), (f_kinds, .inl (cI, 16001, .inl kn))] H_34 := hP'
  replace hD : va_D A [(f_places, .inl (cI, 16001, .inl pn)), (s0, .inr (7, [.ref s_f_counts, .ref s_f_rooms, .ref s_f_called, .ref s_f_described, .ref s_f_starts, .ref s_f_traits, .ref s_f_exits, .ref s_f_forms, .ref s_f_joints, .ref s_f_owned, .ref s_f_ownedCounts, .ref s_f_initials, .ref s_f_cellEnds, .ref s_f_onVerbs, .ref s_f_onFirsts, .ref s_f_onSeconds, .ref s_f_code, .ref s_f_texts, .ref s_f_dictionary])), (s_f_counts, .inl (cI, 7, .inl counts_b)), (s_f_rooms, .inl (cZ, 121, .inl rooms_b)), (f_names, .inl (cJ, 4500, .inr (.inl o_8))), (f_slots, .inl (cI, 8192, .inl o_9)), (f_toldAt, .inl (cI, 4500, .inl o_10)), (f_sorts, .inl (cI, 4500, .inl o_11)), (f_numbers, .inl (cI, 4500, .inl o_12)), (f_seen, .inl (cI, 4500, .inl o_13)), (m0, .inr (4, [.ref w0, .ref s0, .ref f_toldAt, .ref f_sorts, .ref f_numbers, .ref f_seen, .ref f_seenNames, .int 0, .int 0, .int (-1), .ref f_marks, .int 0, .int 0, .int 0, .int 0, .int 0, .int 0, .int (-1)])), (w0, .inr (10, [.ref f_source, .int 0, .int 1, .ref f_kinds, .ref f_places, .ref f_values, .ref f_notes, .ref f_meanings, .ref f_names, .ref f_slots, .int o_7, .int 0])), (f_kinds, .inl (cI, 16001, .inl kn))] := hD'
  replace hS := hS'
  clear hP' hD' hS'
  refine lv_aload_n hx hb dX4_giveAll_110 rfl (lv_at hl 1 rfl) ?_
  refine lv_iload_n hx hb dX4_giveAll_111 rfl (lv_at hl 0 rfl) ?_
  have hPc := hP.sub (ws' := [(m0, .inr (4, [.ref w0, .ref s0, .ref f_toldAt, .ref f_sorts, .ref f_numbers, .ref f_seen, .ref f_seenNames, .int 0, .int 0, .int (-1), .ref f_marks, .int 0, .int 0, .int 0, .int 0, .int 0, .int 0, .int (-1)])), (w0, .inr (10, [.ref f_source, .int 0, .int 1, .ref f_kinds, .ref f_places, .ref f_values, .ref f_notes, .ref f_meanings, .ref f_names, .ref f_slots, .int o_7, .int 0])), (f_kinds, .inl (cI, 16001, .inl kn))]) [10, 11, 12] rfl
  have hDc := hD.sub (ws' := [(m0, .inr (4, [.ref w0, .ref s0, .ref f_toldAt, .ref f_sorts, .ref f_numbers, .ref f_seen, .ref f_seenNames, .int 0, .int 0, .int (-1), .ref f_marks, .int 0, .int 0, .int 0, .int 0, .int 0, .int 0, .int (-1)])), (w0, .inr (10, [.ref f_source, .int 0, .int 1, .ref f_kinds, .ref f_places, .ref f_values, .ref f_notes, .ref f_meanings, .ref f_names, .ref f_slots, .int o_7, .int 0])), (f_kinds, .inl (cI, 16001, .inl kn))]) [10, 11, 12] (by decide +kernel) rfl
  have hFc := va_free (wc := [(m0, .inr (4, [.ref w0, .ref s0, .ref f_toldAt, .ref f_sorts, .ref f_numbers, .ref f_seen, .ref f_seenNames, .int 0, .int 0, .int (-1), .ref f_marks, .int 0, .int 0, .int 0, .int 0, .int 0, .int 0, .int (-1)])), (w0, .inr (10, [.ref f_source, .int 0, .int 1, .ref f_kinds, .ref f_places, .ref f_values, .ref f_notes, .ref f_meanings, .ref f_names, .ref f_slots, .int o_7, .int 0])), (f_kinds, .inl (cI, 16001, .inl kn))]) hD hS hA [10, 11, 12] rfl
  refine g_ofv (wc := [(m0, .inr (4, [.ref w0, .ref s0, .ref f_toldAt, .ref f_sorts, .ref f_numbers, .ref f_seen, .ref f_seenNames, .int 0, .int 0, .int (-1), .ref f_marks, .int 0, .int 0, .int 0, .int 0, .int 0, .int 0, .int (-1)])), (w0, .inr (10, [.ref f_source, .int 0, .int 1, .ref f_kinds, .ref f_places, .ref f_values, .ref f_notes, .ref f_meanings, .ref f_names, .ref f_slots, .int o_7, .int 0])), (f_kinds, .inl (cI, 16001, .inl kn))]) (wr := [(f_places, .inl (cI, 16001, .inl pn)), (s0, .inr (7, [.ref s_f_counts, .ref s_f_rooms, .ref s_f_called, .ref s_f_described, .ref s_f_starts, .ref s_f_traits, .ref s_f_exits, .ref s_f_forms, .ref s_f_joints, .ref s_f_owned, .ref s_f_ownedCounts, .ref s_f_initials, .ref s_f_cellEnds, .ref s_f_onVerbs, .ref s_f_onFirsts, .ref s_f_onSeconds, .ref s_f_code, .ref s_f_texts, .ref s_f_dictionary])), (s_f_counts, .inl (cI, 7, .inl counts_b)), (s_f_rooms, .inl (cZ, 121, .inl rooms_b)), (f_names, .inl (cJ, 4500, .inr (.inl o_8))), (f_slots, .inl (cI, 8192, .inl o_9)), (f_toldAt, .inl (cI, 4500, .inl o_10)), (f_sorts, .inl (cI, 4500, .inl o_11)), (f_numbers, .inl (cI, 4500, .inl o_12)), (f_seen, .inl (cI, 4500, .inl o_13))]) hP hD hS hFc [10, 11, 12] [0, 1, 2, 3, 4, 5, 6, 7, 8, 9] rfl rfl (by decide +kernel) (by decide +kernel) (va_runV (As := [.int 0]) (rest := []) ⟨hx, hb, hml, hown, hts⟩ (c_X4_followScope l dC dI cB cC cI cJ cZ cP H_34.size m0 f_toldAt f_sorts f_numbers f_seen f_seenNames f_marks s0 w0 f_source f_kinds f_places f_values f_notes f_meanings f_names f_slots o_7 kn (hk)) (cwV 1 hts (g_gV wq_753 wq_754 wq_2046 wq_4 wq_755) rfl rfl rfl (by decide +kernel) ⟨Nat.le_of_ble_eq_true rfl, Nat.le_of_ble_eq_true rfl⟩) (g_preV g_bl0 hK hPc hDc hS hE hFc g_to0 (q0 := 0) (ci := 4) rfl rfl) rfl rfl hl.1 rfl (lv_room (Nat.le_of_ble_eq_true rfl)) dX4_giveAll_112 ⟨Nat.le_of_ble_eq_true rfl, Nat.le_of_ble_eq_true rfl⟩) (fun u_36 H_37 locs w_35 hP' hD' hS' => ?_)
  clear hPc hDc hFc
  have w_35 : True := w_35
  replace hP : va_P (dC, dI) vwCl [(f_places, .inl (cI, 16001, .inl pn)), (s0, .inr (7, [.ref s_f_counts, .ref s_f_rooms, .ref s_f_called, .ref s_f_described, .ref s_f_starts, .ref s_f_traits, .ref s_f_exits, .ref s_f_forms, .ref s_f_joints, .ref s_f_owned, .ref s_f_ownedCounts, .ref s_f_initials, .ref s_f_cellEnds, .ref s_f_onVerbs, .ref s_f_onFirsts, .ref s_f_onSeconds, .ref s_f_code, .ref s_f_texts, .ref s_f_dictionary])), (s_f_counts, .inl (cI, 7, .inl counts_b)), (s_f_rooms, .inl (cZ, 121, .inl rooms_b)), (f_names, .inl (cJ, 4500, .inr (.inl o_8))), (f_slots, .inl (cI, 8192, .inl o_9)), (f_toldAt, .inl (cI, 4500, .inl o_10)), (f_sorts, .inl (cI, 4500, .inl o_11)), (f_numbers, .inl (cI, 4500, .inl o_12)), (f_seen, .inl (cI, 4500, .inl o_13)), (m0, .inr (4, [.ref w0, .ref s0, .ref f_toldAt, .ref f_sorts, .ref f_numbers, .ref f_seen, .ref f_seenNames, .int 0, .int 0, .int (-1), .ref f_marks, .int 0, .int 0, .int 0, .int 0, .int 0, .int 0, .int (-1)])), (w0, .inr (10, [.ref f_source, .int 0, .int 1, .ref f_kinds, .ref f_places, .ref f_values, .ref f_notes, .ref f_meanings, .ref f_names, .ref f_slots, .int o_7, .int 0])), (f_kinds, .inl (cI, 16001, .inl kn))] H_37 := hP'
  replace hD : va_D A [(f_places, .inl (cI, 16001, .inl pn)), (s0, .inr (7, [.ref s_f_counts, .ref s_f_rooms, .ref s_f_called, .ref s_f_described, .ref s_f_starts, .ref s_f_traits, .ref s_f_exits, .ref s_f_forms, .ref s_f_joints, .ref s_f_owned, .ref s_f_ownedCounts, .ref s_f_initials, .ref s_f_cellEnds, .ref s_f_onVerbs, .ref s_f_onFirsts, .ref s_f_onSeconds, .ref s_f_code, .ref s_f_texts, .ref s_f_dictionary])), (s_f_counts, .inl (cI, 7, .inl counts_b)), (s_f_rooms, .inl (cZ, 121, .inl rooms_b)), (f_names, .inl (cJ, 4500, .inr (.inl o_8))), (f_slots, .inl (cI, 8192, .inl o_9)), (f_toldAt, .inl (cI, 4500, .inl o_10)), (f_sorts, .inl (cI, 4500, .inl o_11)), (f_numbers, .inl (cI, 4500, .inl o_12)), (f_seen, .inl (cI, 4500, .inl o_13)), (m0, .inr (4, [.ref w0, .ref s0, .ref f_toldAt, .ref f_sorts, .ref f_numbers, .ref f_seen, .ref f_seenNames, .int 0, .int 0, .int (-1), .ref f_marks, .int 0, .int 0, .int 0, .int 0, .int 0, .int 0, .int (-1)])), (w0, .inr (10, [.ref f_source, .int 0, .int 1, .ref f_kinds, .ref f_places, .ref f_values, .ref f_notes, .ref f_meanings, .ref f_names, .ref f_slots, .int o_7, .int 0])), (f_kinds, .inl (cI, 16001, .inl kn))] := hD'
  replace hS := hS'
  clear hP' hD' hS'
  refine lv_iinc (v := 1) (lv' := [(2, .int 1), (0, .ref m0), (1, .ref s0)]) hx hb dX4_giveAll_115 hl (k := 0) rfl (by decide +kernel) (by decide) rfl (fun ls hl => ?_)
  refine lv_goto (tgt := 65) hx hb dX4_giveAll_118 (by decide) ?_
  refine lv_iload_n hx hb dX4_giveAll_65 rfl (lv_at hl 0 rfl) ?_
  refine lv_aload_n hx hb dX4_giveAll_66 rfl (lv_at hl 1 rfl) ?_
  refine va_get (D := (dC, dI)) (ci := 4) (v := .ref w0) (C := RX4) (T := TX4) (N := 18) hx hb hts ii_X4 hown hK hP 10 rfl rfl 0 (by decide) (hts (.fieldLink RX4 32 "StoryHouse$Meanings" "words" "LStoryHouse$Words;") wq_86) (fun _ h9 => h9) rfl dX4_giveAll_67 ?_
  refine va_get (D := (dC, dI)) (ci := 10) (v := .int 1) (C := RX10) (T := TX10) (N := 12) hx hb hts ii_X10 hown hK hP 11 rfl rfl 2 (by decide) (hts (.fieldLink RX4 53 "StoryHouse$Words" "count" "I") wq_45) (fun _ h9 => h9) rfl dX4_giveAll_70 ?_
  refine lv_icmp_ge (tgt := 121) hx hb dX4_giveAll_73 (by decide) (fun c_38 => ?_) (fun c_38 => absurd (by decide +kernel) c_38)
  refine lv_aload_n hx hb dX4_giveAll_121 rfl (lv_at hl 1 rfl) ?_
  refine va_get (D := (dC, dI)) (ci := 4) (v := .int 0) (C := RX4) (T := TX4) (N := 18) hx hb hts ii_X4 hown hK hP 10 rfl rfl 16 (by decide) (hts (.fieldLink RX4 40 "StoryHouse$Meanings" "fault" "I") wq_102) (fun _ h9 => h9) rfl dX4_giveAll_122 ?_
  refine lv_if_ne (tgt := 163) hx hb dX4_giveAll_125 (by decide) (fun c_39 => absurd c_39 (by decide +kernel)) (fun c_39 => ?_)
  refine lv_aload_n hx hb dX4_giveAll_128 rfl (lv_at hl 1 rfl) ?_
  refine va_get (D := (dC, dI)) (ci := 4) (v := .ref s0) (C := RX4) (T := TX4) (N := 18) hx hb hts ii_X4 hown hK hP 10 rfl rfl 1 (by decide) (hts (.fieldLink RX4 36 "StoryHouse$Meanings" "story" "LStoryHouse$Story;") wq_87) (fun _ h9 => h9) rfl dX4_giveAll_129 ?_
  have hPc := hP.sub (ws' := [(s0, .inr (7, [.ref s_f_counts, .ref s_f_rooms, .ref s_f_called, .ref s_f_described, .ref s_f_starts, .ref s_f_traits, .ref s_f_exits, .ref s_f_forms, .ref s_f_joints, .ref s_f_owned, .ref s_f_ownedCounts, .ref s_f_initials, .ref s_f_cellEnds, .ref s_f_onVerbs, .ref s_f_onFirsts, .ref s_f_onSeconds, .ref s_f_code, .ref s_f_texts, .ref s_f_dictionary])), (s_f_counts, .inl (cI, 7, .inl counts_b)), (s_f_rooms, .inl (cZ, 121, .inl rooms_b))]) [1, 2, 3] rfl
  have hDc := hD.sub (ws' := [(s0, .inr (7, [.ref s_f_counts, .ref s_f_rooms, .ref s_f_called, .ref s_f_described, .ref s_f_starts, .ref s_f_traits, .ref s_f_exits, .ref s_f_forms, .ref s_f_joints, .ref s_f_owned, .ref s_f_ownedCounts, .ref s_f_initials, .ref s_f_cellEnds, .ref s_f_onVerbs, .ref s_f_onFirsts, .ref s_f_onSeconds, .ref s_f_code, .ref s_f_texts, .ref s_f_dictionary])), (s_f_counts, .inl (cI, 7, .inl counts_b)), (s_f_rooms, .inl (cZ, 121, .inl rooms_b))]) [1, 2, 3] (by decide +kernel) rfl
  have hFc := va_free (wc := [(s0, .inr (7, [.ref s_f_counts, .ref s_f_rooms, .ref s_f_called, .ref s_f_described, .ref s_f_starts, .ref s_f_traits, .ref s_f_exits, .ref s_f_forms, .ref s_f_joints, .ref s_f_owned, .ref s_f_ownedCounts, .ref s_f_initials, .ref s_f_cellEnds, .ref s_f_onVerbs, .ref s_f_onFirsts, .ref s_f_onSeconds, .ref s_f_code, .ref s_f_texts, .ref s_f_dictionary])), (s_f_counts, .inl (cI, 7, .inl counts_b)), (s_f_rooms, .inl (cZ, 121, .inl rooms_b))]) hD hS hA [1, 2, 3] rfl
  refine g_ofi (wc := [(s0, .inr (7, [.ref s_f_counts, .ref s_f_rooms, .ref s_f_called, .ref s_f_described, .ref s_f_starts, .ref s_f_traits, .ref s_f_exits, .ref s_f_forms, .ref s_f_joints, .ref s_f_owned, .ref s_f_ownedCounts, .ref s_f_initials, .ref s_f_cellEnds, .ref s_f_onVerbs, .ref s_f_onFirsts, .ref s_f_onSeconds, .ref s_f_code, .ref s_f_texts, .ref s_f_dictionary])), (s_f_counts, .inl (cI, 7, .inl counts_b)), (s_f_rooms, .inl (cZ, 121, .inl rooms_b))]) (wr := [(f_places, .inl (cI, 16001, .inl pn)), (f_names, .inl (cJ, 4500, .inr (.inl o_8))), (f_slots, .inl (cI, 8192, .inl o_9)), (f_toldAt, .inl (cI, 4500, .inl o_10)), (f_sorts, .inl (cI, 4500, .inl o_11)), (f_numbers, .inl (cI, 4500, .inl o_12)), (f_seen, .inl (cI, 4500, .inl o_13)), (m0, .inr (4, [.ref w0, .ref s0, .ref f_toldAt, .ref f_sorts, .ref f_numbers, .ref f_seen, .ref f_seenNames, .int 0, .int 0, .int (-1), .ref f_marks, .int 0, .int 0, .int 0, .int 0, .int 0, .int 0, .int (-1)])), (w0, .inr (10, [.ref f_source, .int 0, .int 1, .ref f_kinds, .ref f_places, .ref f_values, .ref f_notes, .ref f_meanings, .ref f_names, .ref f_slots, .int o_7, .int 0])), (f_kinds, .inl (cI, 16001, .inl kn))]) hP hD hS hFc [1, 2, 3] [0, 4, 5, 6, 7, 8, 9, 10, 11, 12] rfl rfl (by decide +kernel) (by decide +kernel) (va_runV (As := []) (rest := []) ⟨hx, hb, hml, hown, hts⟩ (c_X7_hasRoom l dC dI cB cC cI cJ cZ cP H_37.size s0 s_f_counts s_f_rooms s_f_called s_f_described s_f_starts s_f_traits s_f_exits s_f_forms s_f_joints s_f_owned s_f_ownedCounts s_f_initials s_f_cellEnds s_f_onVerbs s_f_onFirsts s_f_onSeconds s_f_code s_f_texts s_f_dictionary counts_b rooms_b (hcn) (hrm)) (cwV 0 hts (g_gV wq_807 wq_808 wq_809 wq_5 wq_810) rfl rfl rfl (by decide +kernel) ⟨Nat.le_of_ble_eq_true rfl, Nat.le_of_ble_eq_true rfl⟩) (g_preV g_bl0 hK hPc hDc hS hE hFc g_to0 (q0 := 0) (ci := 7) rfl rfl) rfl rfl hl.1 rfl (lv_room (Nat.le_of_ble_eq_true rfl)) dX4_giveAll_132 ⟨Nat.le_of_ble_eq_true rfl, Nat.le_of_ble_eq_true rfl⟩) (fun r_42 u_41 H_43 locs w_40 hP' hD' hS' => ?_)
  clear hPc hDc hFc
  have w_40 : r_42 = 0 := w_40
  replace hP : va_P (dC, dI) vwCl [(f_places, .inl (cI, 16001, .inl pn)), (f_names, .inl (cJ, 4500, .inr (.inl o_8))), (f_slots, .inl (cI, 8192, .inl o_9)), (f_toldAt, .inl (cI, 4500, .inl o_10)), (f_sorts, .inl (cI, 4500, .inl o_11)), (f_numbers, .inl (cI, 4500, .inl o_12)), (f_seen, .inl (cI, 4500, .inl o_13)), (m0, .inr (4, [.ref w0, .ref s0, .ref f_toldAt, .ref f_sorts, .ref f_numbers, .ref f_seen, .ref f_seenNames, .int 0, .int 0, .int (-1), .ref f_marks, .int 0, .int 0, .int 0, .int 0, .int 0, .int 0, .int (-1)])), (w0, .inr (10, [.ref f_source, .int 0, .int 1, .ref f_kinds, .ref f_places, .ref f_values, .ref f_notes, .ref f_meanings, .ref f_names, .ref f_slots, .int o_7, .int 0])), (f_kinds, .inl (cI, 16001, .inl kn)), (s0, .inr (7, [.ref s_f_counts, .ref s_f_rooms, .ref s_f_called, .ref s_f_described, .ref s_f_starts, .ref s_f_traits, .ref s_f_exits, .ref s_f_forms, .ref s_f_joints, .ref s_f_owned, .ref s_f_ownedCounts, .ref s_f_initials, .ref s_f_cellEnds, .ref s_f_onVerbs, .ref s_f_onFirsts, .ref s_f_onSeconds, .ref s_f_code, .ref s_f_texts, .ref s_f_dictionary])), (s_f_counts, .inl (cI, 7, .inl counts_b)), (s_f_rooms, .inl (cZ, 121, .inl rooms_b))] H_43 := hP'
  replace hD : va_D A [(f_places, .inl (cI, 16001, .inl pn)), (f_names, .inl (cJ, 4500, .inr (.inl o_8))), (f_slots, .inl (cI, 8192, .inl o_9)), (f_toldAt, .inl (cI, 4500, .inl o_10)), (f_sorts, .inl (cI, 4500, .inl o_11)), (f_numbers, .inl (cI, 4500, .inl o_12)), (f_seen, .inl (cI, 4500, .inl o_13)), (m0, .inr (4, [.ref w0, .ref s0, .ref f_toldAt, .ref f_sorts, .ref f_numbers, .ref f_seen, .ref f_seenNames, .int 0, .int 0, .int (-1), .ref f_marks, .int 0, .int 0, .int 0, .int 0, .int 0, .int 0, .int (-1)])), (w0, .inr (10, [.ref f_source, .int 0, .int 1, .ref f_kinds, .ref f_places, .ref f_values, .ref f_notes, .ref f_meanings, .ref f_names, .ref f_slots, .int o_7, .int 0])), (f_kinds, .inl (cI, 16001, .inl kn)), (s0, .inr (7, [.ref s_f_counts, .ref s_f_rooms, .ref s_f_called, .ref s_f_described, .ref s_f_starts, .ref s_f_traits, .ref s_f_exits, .ref s_f_forms, .ref s_f_joints, .ref s_f_owned, .ref s_f_ownedCounts, .ref s_f_initials, .ref s_f_cellEnds, .ref s_f_onVerbs, .ref s_f_onFirsts, .ref s_f_onSeconds, .ref s_f_code, .ref s_f_texts, .ref s_f_dictionary])), (s_f_counts, .inl (cI, 7, .inl counts_b)), (s_f_rooms, .inl (cZ, 121, .inl rooms_b))] := hD'
  replace hS := hS'
  clear hP' hD' hS'
  obtain rfl : 0 = r_42 := (w_40).symm
  refine lv_if_eq (tgt := 148) hx hb dX4_giveAll_135 (by decide) (fun c_44 => ?_) (fun c_44 => absurd (by decide +kernel) c_44)
  refine lv_aload_n hx hb dX4_giveAll_148 rfl (lv_at hl 1 rfl) ?_
  refine lv_bipush (v := 6) hx hb dX4_giveAll_149 (by decide +kernel) ?_
  refine lv_aload_n hx hb dX4_giveAll_151 rfl (lv_at hl 1 rfl) ?_
  refine va_get (D := (dC, dI)) (ci := 4) (v := .ref w0) (C := RX4) (T := TX4) (N := 18) hx hb hts ii_X4 hown hK hP 7 rfl rfl 0 (by decide) (hts (.fieldLink RX4 32 "StoryHouse$Meanings" "words" "LStoryHouse$Words;") wq_86) (fun _ h9 => h9) rfl dX4_giveAll_152 ?_
  refine va_get (D := (dC, dI)) (ci := 10) (v := .int 1) (C := RX10) (T := TX10) (N := 12) hx hb hts ii_X10 hown hK hP 8 rfl rfl 2 (by decide) (hts (.fieldLink RX4 53 "StoryHouse$Words" "count" "I") wq_45) (fun _ h9 => h9) rfl dX4_giveAll_155 ?_
  refine lv_iconst (v := 1) hx hb dX4_giveAll_158 (by decide +kernel) ?_
  refine lv_isub hx hb dX4_giveAll_159 ?_
  refine lv_topi (fun x_45 ex_45 => ?_)
  obtain rfl : x_45 = 0 := ex_45.trans (by decide +kernel)
  have hPc := hP.sub (ws' := [(m0, .inr (4, [.ref w0, .ref s0, .ref f_toldAt, .ref f_sorts, .ref f_numbers, .ref f_seen, .ref f_seenNames, .int 0, .int 0, .int (-1), .ref f_marks, .int 0, .int 0, .int 0, .int 0, .int 0, .int 0, .int (-1)])), (w0, .inr (10, [.ref f_source, .int 0, .int 1, .ref f_kinds, .ref f_places, .ref f_values, .ref f_notes, .ref f_meanings, .ref f_names, .ref f_slots, .int o_7, .int 0])), (f_places, .inl (cI, 16001, .inl pn))]) [7, 8, 0] rfl
  have hDc := hD.sub (ws' := [(m0, .inr (4, [.ref w0, .ref s0, .ref f_toldAt, .ref f_sorts, .ref f_numbers, .ref f_seen, .ref f_seenNames, .int 0, .int 0, .int (-1), .ref f_marks, .int 0, .int 0, .int 0, .int 0, .int 0, .int 0, .int (-1)])), (w0, .inr (10, [.ref f_source, .int 0, .int 1, .ref f_kinds, .ref f_places, .ref f_values, .ref f_notes, .ref f_meanings, .ref f_names, .ref f_slots, .int o_7, .int 0])), (f_places, .inl (cI, 16001, .inl pn))]) [7, 8, 0] (by decide +kernel) rfl
  have hFc := va_free (wc := [(m0, .inr (4, [.ref w0, .ref s0, .ref f_toldAt, .ref f_sorts, .ref f_numbers, .ref f_seen, .ref f_seenNames, .int 0, .int 0, .int (-1), .ref f_marks, .int 0, .int 0, .int 0, .int 0, .int 0, .int 0, .int (-1)])), (w0, .inr (10, [.ref f_source, .int 0, .int 1, .ref f_kinds, .ref f_places, .ref f_values, .ref f_notes, .ref f_meanings, .ref f_names, .ref f_slots, .int o_7, .int 0])), (f_places, .inl (cI, 16001, .inl pn))]) hD hS hA [7, 8, 0] rfl
  refine g_ofv (wc := [(m0, .inr (4, [.ref w0, .ref s0, .ref f_toldAt, .ref f_sorts, .ref f_numbers, .ref f_seen, .ref f_seenNames, .int 0, .int 0, .int (-1), .ref f_marks, .int 0, .int 0, .int 0, .int 0, .int 0, .int 0, .int (-1)])), (w0, .inr (10, [.ref f_source, .int 0, .int 1, .ref f_kinds, .ref f_places, .ref f_values, .ref f_notes, .ref f_meanings, .ref f_names, .ref f_slots, .int o_7, .int 0])), (f_places, .inl (cI, 16001, .inl pn))]) (wr := [(f_names, .inl (cJ, 4500, .inr (.inl o_8))), (f_slots, .inl (cI, 8192, .inl o_9)), (f_toldAt, .inl (cI, 4500, .inl o_10)), (f_sorts, .inl (cI, 4500, .inl o_11)), (f_numbers, .inl (cI, 4500, .inl o_12)), (f_seen, .inl (cI, 4500, .inl o_13)), (f_kinds, .inl (cI, 16001, .inl kn)), (s0, .inr (7, [.ref s_f_counts, .ref s_f_rooms, .ref s_f_called, .ref s_f_described, .ref s_f_starts, .ref s_f_traits, .ref s_f_exits, .ref s_f_forms, .ref s_f_joints, .ref s_f_owned, .ref s_f_ownedCounts, .ref s_f_initials, .ref s_f_cellEnds, .ref s_f_onVerbs, .ref s_f_onFirsts, .ref s_f_onSeconds, .ref s_f_code, .ref s_f_texts, .ref s_f_dictionary])), (s_f_counts, .inl (cI, 7, .inl counts_b)), (s_f_rooms, .inl (cZ, 121, .inl rooms_b))]) hP hD hS hFc [7, 8, 0] [1, 2, 3, 4, 5, 6, 9, 10, 11, 12] rfl rfl (by decide +kernel) (by decide +kernel) (va_runV (As := [.int 6, .int 0]) (rest := []) ⟨hx, hb, hml, hown, hts⟩ (c_X4_fail l dC dI cB cC cI cJ cZ cP H_43.size m0 f_toldAt f_sorts f_numbers f_seen f_seenNames f_marks s0 w0 f_source f_kinds f_places f_values f_notes f_meanings f_names f_slots o_7 pn ) (cwV 2 hts (g_gV wq_725 wq_726 wq_2037 wq_4 wq_727) rfl rfl rfl (by decide +kernel) ⟨Nat.le_of_ble_eq_true rfl, Nat.le_of_ble_eq_true rfl⟩) (g_preV g_bl0 hK hPc hDc hS hE hFc g_to0 (q0 := 0) (ci := 4) rfl rfl) rfl rfl hl.1 rfl (lv_room (Nat.le_of_ble_eq_true rfl)) dX4_giveAll_160 ⟨Nat.le_of_ble_eq_true rfl, Nat.le_of_ble_eq_true rfl⟩) (fun u_47 H_48 locs w_46 hP' hD' hS' => ?_)
  clear hPc hDc hFc
  have w_46 : True := w_46
  replace hP : va_P (dC, dI) vwCl [(f_names, .inl (cJ, 4500, .inr (.inl o_8))), (f_slots, .inl (cI, 8192, .inl o_9)), (f_toldAt, .inl (cI, 4500, .inl o_10)), (f_sorts, .inl (cI, 4500, .inl o_11)), (f_numbers, .inl (cI, 4500, .inl o_12)), (f_seen, .inl (cI, 4500, .inl o_13)), (f_kinds, .inl (cI, 16001, .inl kn)), (s0, .inr (7, [.ref s_f_counts, .ref s_f_rooms, .ref s_f_called, .ref s_f_described, .ref s_f_starts, .ref s_f_traits, .ref s_f_exits, .ref s_f_forms, .ref s_f_joints, .ref s_f_owned, .ref s_f_ownedCounts, .ref s_f_initials, .ref s_f_cellEnds, .ref s_f_onVerbs, .ref s_f_onFirsts, .ref s_f_onSeconds, .ref s_f_code, .ref s_f_texts, .ref s_f_dictionary])), (s_f_counts, .inl (cI, 7, .inl counts_b)), (s_f_rooms, .inl (cZ, 121, .inl rooms_b)), (m0, .inr (4, [.ref w0, .ref s0, .ref f_toldAt, .ref f_sorts, .ref f_numbers, .ref f_seen, .ref f_seenNames, .int 0, .int 0, .int (-1), .ref f_marks, .int 0, .int 0, .int 0, .int 0, .int 0, .int 6, .int u_47])), (w0, .inr (10, [.ref f_source, .int 0, .int 1, .ref f_kinds, .ref f_places, .ref f_values, .ref f_notes, .ref f_meanings, .ref f_names, .ref f_slots, .int o_7, .int 0])), (f_places, .inl (cI, 16001, .inl pn))] H_48 := hP'
  replace hD : va_D A [(f_names, .inl (cJ, 4500, .inr (.inl o_8))), (f_slots, .inl (cI, 8192, .inl o_9)), (f_toldAt, .inl (cI, 4500, .inl o_10)), (f_sorts, .inl (cI, 4500, .inl o_11)), (f_numbers, .inl (cI, 4500, .inl o_12)), (f_seen, .inl (cI, 4500, .inl o_13)), (f_kinds, .inl (cI, 16001, .inl kn)), (s0, .inr (7, [.ref s_f_counts, .ref s_f_rooms, .ref s_f_called, .ref s_f_described, .ref s_f_starts, .ref s_f_traits, .ref s_f_exits, .ref s_f_forms, .ref s_f_joints, .ref s_f_owned, .ref s_f_ownedCounts, .ref s_f_initials, .ref s_f_cellEnds, .ref s_f_onVerbs, .ref s_f_onFirsts, .ref s_f_onSeconds, .ref s_f_code, .ref s_f_texts, .ref s_f_dictionary])), (s_f_counts, .inl (cI, 7, .inl counts_b)), (s_f_rooms, .inl (cZ, 121, .inl rooms_b)), (m0, .inr (4, [.ref w0, .ref s0, .ref f_toldAt, .ref f_sorts, .ref f_numbers, .ref f_seen, .ref f_seenNames, .int 0, .int 0, .int (-1), .ref f_marks, .int 0, .int 0, .int 0, .int 0, .int 0, .int 6, .int u_47])), (w0, .inr (10, [.ref f_source, .int 0, .int 1, .ref f_kinds, .ref f_places, .ref f_values, .ref f_notes, .ref f_meanings, .ref f_names, .ref f_slots, .int o_7, .int 0])), (f_places, .inl (cI, 16001, .inl pn))] := hD'
  replace hS := hS'
  clear hP' hD' hS'
  refine lv_aload_n hx hb dX4_giveAll_163 rfl (lv_at hl 1 rfl) ?_
  refine va_get (D := (dC, dI)) (ci := 4) (v := .int 6) (C := RX4) (T := TX4) (N := 18) hx hb hts ii_X4 hown hK hP 10 rfl rfl 16 (by decide) (hts (.fieldLink RX4 40 "StoryHouse$Meanings" "fault" "I") wq_102) (fun _ h9 => h9) rfl dX4_giveAll_164 ?_
  have hP9 := hP.sub (ws' := [(m0, .inr (4, [.ref w0, .ref s0, .ref f_toldAt, .ref f_sorts, .ref f_numbers, .ref f_seen, .ref f_seenNames, .int 0, .int 0, .int (-1), .ref f_marks, .int 0, .int 0, .int 0, .int 0, .int 0, .int 6, .int u_47])), (w0, .inr (10, [.ref f_source, .int 0, .int 1, .ref f_kinds, .ref f_places, .ref f_values, .ref f_notes, .ref f_meanings, .ref f_names, .ref f_slots, .int o_7, .int 0])), (f_kinds, .inl (cI, 16001, .inl kn)), (f_places, .inl (cI, 16001, .inl pn)), (f_names, .inl (cJ, 4500, .inr (.inl o_8))), (f_slots, .inl (cI, 8192, .inl o_9)), (f_toldAt, .inl (cI, 4500, .inl o_10)), (f_sorts, .inl (cI, 4500, .inl o_11)), (f_numbers, .inl (cI, 4500, .inl o_12)), (f_seen, .inl (cI, 4500, .inl o_13)), (s0, .inr (7, [.ref s_f_counts, .ref s_f_rooms, .ref s_f_called, .ref s_f_described, .ref s_f_starts, .ref s_f_traits, .ref s_f_exits, .ref s_f_forms, .ref s_f_joints, .ref s_f_owned, .ref s_f_ownedCounts, .ref s_f_initials, .ref s_f_cellEnds, .ref s_f_onVerbs, .ref s_f_onFirsts, .ref s_f_onSeconds, .ref s_f_code, .ref s_f_texts, .ref s_f_dictionary])), (s_f_counts, .inl (cI, 7, .inl counts_b)), (s_f_rooms, .inl (cZ, 121, .inl rooms_b))]) [10, 11, 6, 12, 0, 1, 2, 3, 4, 5, 7, 8, 9] rfl
  have hD9 := hD.sub (ws' := [(m0, .inr (4, [.ref w0, .ref s0, .ref f_toldAt, .ref f_sorts, .ref f_numbers, .ref f_seen, .ref f_seenNames, .int 0, .int 0, .int (-1), .ref f_marks, .int 0, .int 0, .int 0, .int 0, .int 0, .int 6, .int u_47])), (w0, .inr (10, [.ref f_source, .int 0, .int 1, .ref f_kinds, .ref f_places, .ref f_values, .ref f_notes, .ref f_meanings, .ref f_names, .ref f_slots, .int o_7, .int 0])), (f_kinds, .inl (cI, 16001, .inl kn)), (f_places, .inl (cI, 16001, .inl pn)), (f_names, .inl (cJ, 4500, .inr (.inl o_8))), (f_slots, .inl (cI, 8192, .inl o_9)), (f_toldAt, .inl (cI, 4500, .inl o_10)), (f_sorts, .inl (cI, 4500, .inl o_11)), (f_numbers, .inl (cI, 4500, .inl o_12)), (f_seen, .inl (cI, 4500, .inl o_13)), (s0, .inr (7, [.ref s_f_counts, .ref s_f_rooms, .ref s_f_called, .ref s_f_described, .ref s_f_starts, .ref s_f_traits, .ref s_f_exits, .ref s_f_forms, .ref s_f_joints, .ref s_f_owned, .ref s_f_ownedCounts, .ref s_f_initials, .ref s_f_cellEnds, .ref s_f_onVerbs, .ref s_f_onFirsts, .ref s_f_onSeconds, .ref s_f_code, .ref s_f_texts, .ref s_f_dictionary])), (s_f_counts, .inl (cI, 7, .inl counts_b)), (s_f_rooms, .inl (cZ, 121, .inl rooms_b))]) [10, 11, 6, 12, 0, 1, 2, 3, 4, 5, 7, 8, 9] (by decide +kernel) rfl
  refine W.widen (k := 0) (n := 0) (Nat.le_of_ble_eq_true rfl) (Nat.le_of_ble_eq_true rfl) ?_
  exact W.iret (v := 6) hx hb hr (fun t ht hW => ⟨⟨6, (u_47, o_7, o_8, o_9, o_10, o_11, o_12, o_13), rfl, (by first | trivial | rfl | assumption), by rw [ht]; exact hP9, hD9⟩, hS.F ht⟩) hS.2.2 dX4_giveAll_167
