/-! methods of the reference: what each does is its function -/
theorem dX12_eval_0 : decode cX12_eval 0 = .ok (.aload_n 0, 1) := by decide +kernel
theorem dX12_eval_1 : decode cX12_eval 1 = .ok (.getfield 697, 3) := by decide +kernel
theorem dX12_eval_4 : decode cX12_eval 4 = .ok (.istore_n 3, 1) := by decide +kernel
theorem dX12_eval_5 : decode cX12_eval 5 = .ok (.aload_n 0, 1) := by decide +kernel
theorem dX12_eval_6 : decode cX12_eval 6 = .ok (.getfield 700, 3) := by decide +kernel
theorem dX12_eval_9 : decode cX12_eval 9 = .ok (.istore 4, 2) := by decide +kernel
theorem dX12_eval_11 : decode cX12_eval 11 = .ok (.aload_n 0, 1) := by decide +kernel
theorem dX12_eval_12 : decode cX12_eval 12 = .ok (.iload_n 1, 1) := by decide +kernel
theorem dX12_eval_13 : decode cX12_eval 13 = .ok (.iconst 0, 1) := by decide +kernel
theorem dX12_eval_14 : decode cX12_eval 14 = .ok (.invokevirtual 703, 3) := by decide +kernel
theorem dX12_eval_17 : decode cX12_eval 17 = .ok (.aload_n 0, 1) := by decide +kernel
theorem dX12_eval_18 : decode cX12_eval 18 = .ok (.getfield 697, 3) := by decide +kernel
theorem dX12_eval_21 : decode cX12_eval 21 = .ok (.iload_n 3, 1) := by decide +kernel
theorem dX12_eval_22 : decode cX12_eval 22 = .ok (.if_icmp .le 88, 3) := by decide +kernel
theorem dX12_eval_25 : decode cX12_eval 25 = .ok (.aload_n 0, 1) := by decide +kernel
theorem dX12_eval_26 : decode cX12_eval 26 = .ok (.getfield 685, 3) := by decide +kernel
theorem dX12_eval_29 : decode cX12_eval 29 = .ok (.ifCond .ne 81, 3) := by decide +kernel
theorem dX12_eval_32 : decode cX12_eval 32 = .ok (.aload_n 0, 1) := by decide +kernel
theorem dX12_eval_33 : decode cX12_eval 33 = .ok (.getfield 219, 3) := by decide +kernel
theorem dX12_eval_36 : decode cX12_eval 36 = .ok (.aload_n 0, 1) := by decide +kernel
theorem dX12_eval_37 : decode cX12_eval 37 = .ok (.dup, 1) := by decide +kernel
theorem dX12_eval_38 : decode cX12_eval 38 = .ok (.getfield 697, 3) := by decide +kernel
theorem dX12_eval_41 : decode cX12_eval 41 = .ok (.iconst 1, 1) := by decide +kernel
theorem dX12_eval_42 : decode cX12_eval 42 = .ok (.isub, 1) := by decide +kernel
theorem dX12_eval_43 : decode cX12_eval 43 = .ok (.dup_x1, 1) := by decide +kernel
theorem dX12_eval_44 : decode cX12_eval 44 = .ok (.putfield 697, 3) := by decide +kernel
theorem dX12_eval_47 : decode cX12_eval 47 = .ok (.iaload, 1) := by decide +kernel
theorem dX12_eval_48 : decode cX12_eval 48 = .ok (.istore 5, 2) := by decide +kernel
theorem dX12_eval_50 : decode cX12_eval 50 = .ok (.iload 5, 2) := by decide +kernel
theorem dX12_eval_52 : decode cX12_eval 52 = .ok (.iconst 3, 1) := by decide +kernel
theorem dX12_eval_53 : decode cX12_eval 53 = .ok (.iand, 1) := by decide +kernel
theorem dX12_eval_54 : decode cX12_eval 54 = .ok (.ifCond .ne 15, 3) := by decide +kernel
theorem dX12_eval_57 : decode cX12_eval 57 = .ok (.aload_n 0, 1) := by decide +kernel
theorem dX12_eval_58 : decode cX12_eval 58 = .ok (.iload 5, 2) := by decide +kernel
theorem dX12_eval_60 : decode cX12_eval 60 = .ok (.iconst 2, 1) := by decide +kernel
theorem dX12_eval_61 : decode cX12_eval 61 = .ok (.ishr, 1) := by decide +kernel
theorem dX12_eval_62 : decode cX12_eval 62 = .ok (.iload_n 2, 1) := by decide +kernel
theorem dX12_eval_63 : decode cX12_eval 63 = .ok (.invokevirtual 706, 3) := by decide +kernel
theorem dX12_eval_66 : decode cX12_eval 66 = .ok (.goto 41, 3) := by decide +kernel
theorem dX12_eval_69 : decode cX12_eval 69 = .ok (.aload_n 0, 1) := by decide +kernel
theorem dX12_eval_70 : decode cX12_eval 70 = .ok (.getfield 137, 3) := by decide +kernel
theorem dX12_eval_73 : decode cX12_eval 73 = .ok (.iload 5, 2) := by decide +kernel
theorem dX12_eval_75 : decode cX12_eval 75 = .ok (.iconst 2, 1) := by decide +kernel
theorem dX12_eval_76 : decode cX12_eval 76 = .ok (.ishr, 1) := by decide +kernel
theorem dX12_eval_77 : decode cX12_eval 77 = .ok (.iaload, 1) := by decide +kernel
theorem dX12_eval_78 : decode cX12_eval 78 = .ok (.bipush 42, 2) := by decide +kernel
theorem dX12_eval_80 : decode cX12_eval 80 = .ok (.if_icmp .ne 15, 3) := by decide +kernel
theorem dX12_eval_83 : decode cX12_eval 83 = .ok (.aload_n 0, 1) := by decide +kernel
theorem dX12_eval_84 : decode cX12_eval 84 = .ok (.iload 5, 2) := by decide +kernel
theorem dX12_eval_86 : decode cX12_eval 86 = .ok (.iconst 2, 1) := by decide +kernel
theorem dX12_eval_87 : decode cX12_eval 87 = .ok (.ishr, 1) := by decide +kernel
theorem dX12_eval_88 : decode cX12_eval 88 = .ok (.iload_n 2, 1) := by decide +kernel
theorem dX12_eval_89 : decode cX12_eval 89 = .ok (.invokevirtual 708, 3) := by decide +kernel
theorem dX12_eval_92 : decode cX12_eval 92 = .ok (.goto 15, 3) := by decide +kernel
theorem dX12_eval_95 : decode cX12_eval 95 = .ok (.aload_n 0, 1) := by decide +kernel
theorem dX12_eval_96 : decode cX12_eval 96 = .ok (.iload 5, 2) := by decide +kernel
theorem dX12_eval_98 : decode cX12_eval 98 = .ok (.iconst 2, 1) := by decide +kernel
theorem dX12_eval_99 : decode cX12_eval 99 = .ok (.ishr, 1) := by decide +kernel
theorem dX12_eval_100 : decode cX12_eval 100 = .ok (.iload 5, 2) := by decide +kernel
theorem dX12_eval_102 : decode cX12_eval 102 = .ok (.iconst 3, 1) := by decide +kernel
theorem dX12_eval_103 : decode cX12_eval 103 = .ok (.iand, 1) := by decide +kernel
theorem dX12_eval_104 : decode cX12_eval 104 = .ok (.invokevirtual 711, 3) := by decide +kernel
theorem dX12_eval_107 : decode cX12_eval 107 = .ok (.goto (-90), 3) := by decide +kernel
theorem dX12_eval_110 : decode cX12_eval 110 = .ok (.aload_n 0, 1) := by decide +kernel
theorem dX12_eval_111 : decode cX12_eval 111 = .ok (.iload_n 3, 1) := by decide +kernel
theorem dX12_eval_112 : decode cX12_eval 112 = .ok (.putfield 697, 3) := by decide +kernel
theorem dX12_eval_115 : decode cX12_eval 115 = .ok (.aload_n 0, 1) := by decide +kernel
theorem dX12_eval_116 : decode cX12_eval 116 = .ok (.iload 4, 2) := by decide +kernel
theorem dX12_eval_118 : decode cX12_eval 118 = .ok (.putfield 700, 3) := by decide +kernel
theorem dX12_eval_121 : decode cX12_eval 121 = .ok (.aload_n 0, 1) := by decide +kernel
theorem dX12_eval_122 : decode cX12_eval 122 = .ok (.getfield 685, 3) := by decide +kernel
theorem dX12_eval_125 : decode cX12_eval 125 = .ok (.ifCond .ne 13, 3) := by decide +kernel
theorem dX12_eval_128 : decode cX12_eval 128 = .ok (.aload_n 0, 1) := by decide +kernel
theorem dX12_eval_129 : decode cX12_eval 129 = .ok (.getfield 222, 3) := by decide +kernel
theorem dX12_eval_132 : decode cX12_eval 132 = .ok (.iload 4, 2) := by decide +kernel
theorem dX12_eval_134 : decode cX12_eval 134 = .ok (.iaload, 1) := by decide +kernel
theorem dX12_eval_135 : decode cX12_eval 135 = .ok (.goto 4, 3) := by decide +kernel
theorem dX12_eval_138 : decode cX12_eval 138 = .ok (.iconst 0, 1) := by decide +kernel
theorem dX12_eval_139 : decode cX12_eval 139 = .ok (.ireturn, 1) := by decide +kernel
theorem dX12_calls_0 : decode cX12_calls 0 = .ok (.iconst 0, 1) := by decide +kernel
theorem dX12_calls_1 : decode cX12_calls 1 = .ok (.istore_n 3, 1) := by decide +kernel
theorem dX12_calls_2 : decode cX12_calls 2 = .ok (.aload_n 0, 1) := by decide +kernel
theorem dX12_calls_3 : decode cX12_calls 3 = .ok (.getfield 146, 3) := by decide +kernel
theorem dX12_calls_6 : decode cX12_calls 6 = .ok (.iload_n 1, 1) := by decide +kernel
theorem dX12_calls_7 : decode cX12_calls 7 = .ok (.iaload, 1) := by decide +kernel
theorem dX12_calls_8 : decode cX12_calls 8 = .ok (.istore 4, 2) := by decide +kernel
theorem dX12_calls_10 : decode cX12_calls 10 = .ok (.iload 4, 2) := by decide +kernel
theorem dX12_calls_12 : decode cX12_calls 12 = .ok (.ifCond .lt 18, 3) := by decide +kernel
theorem dX12_calls_15 : decode cX12_calls 15 = .ok (.iinc 3 1, 3) := by decide +kernel
theorem dX12_calls_18 : decode cX12_calls 18 = .ok (.aload_n 0, 1) := by decide +kernel
theorem dX12_calls_19 : decode cX12_calls 19 = .ok (.getfield 152, 3) := by decide +kernel
theorem dX12_calls_22 : decode cX12_calls 22 = .ok (.iload 4, 2) := by decide +kernel
theorem dX12_calls_24 : decode cX12_calls 24 = .ok (.iaload, 1) := by decide +kernel
theorem dX12_calls_25 : decode cX12_calls 25 = .ok (.istore 4, 2) := by decide +kernel
theorem dX12_calls_27 : decode cX12_calls 27 = .ok (.goto (-17), 3) := by decide +kernel
theorem dX12_calls_30 : decode cX12_calls 30 = .ok (.aload_n 0, 1) := by decide +kernel
theorem dX12_calls_31 : decode cX12_calls 31 = .ok (.aload_n 0, 1) := by decide +kernel
theorem dX12_calls_32 : decode cX12_calls 32 = .ok (.getfield 149, 3) := by decide +kernel
theorem dX12_calls_35 : decode cX12_calls 35 = .ok (.iload_n 1, 1) := by decide +kernel
theorem dX12_calls_36 : decode cX12_calls 36 = .ok (.iaload, 1) := by decide +kernel
theorem dX12_calls_37 : decode cX12_calls 37 = .ok (.aload_n 0, 1) := by decide +kernel
theorem dX12_calls_38 : decode cX12_calls 38 = .ok (.getfield 700, 3) := by decide +kernel
theorem dX12_calls_41 : decode cX12_calls 41 = .ok (.iload_n 3, 1) := by decide +kernel
theorem dX12_calls_42 : decode cX12_calls 42 = .ok (.isub, 1) := by decide +kernel
theorem dX12_calls_43 : decode cX12_calls 43 = .ok (.iload_n 2, 1) := by decide +kernel
theorem dX12_calls_44 : decode cX12_calls 44 = .ok (.invokevirtual 714, 3) := by decide +kernel
theorem dX12_calls_47 : decode cX12_calls 47 = .ok (.istore 4, 2) := by decide +kernel
theorem dX12_calls_49 : decode cX12_calls 49 = .ok (.aload_n 0, 1) := by decide +kernel
theorem dX12_calls_50 : decode cX12_calls 50 = .ok (.dup, 1) := by decide +kernel
theorem dX12_calls_51 : decode cX12_calls 51 = .ok (.getfield 700, 3) := by decide +kernel
theorem dX12_calls_54 : decode cX12_calls 54 = .ok (.iload_n 3, 1) := by decide +kernel
theorem dX12_calls_55 : decode cX12_calls 55 = .ok (.isub, 1) := by decide +kernel
theorem dX12_calls_56 : decode cX12_calls 56 = .ok (.putfield 700, 3) := by decide +kernel
theorem dX12_calls_59 : decode cX12_calls 59 = .ok (.aload_n 0, 1) := by decide +kernel
theorem dX12_calls_60 : decode cX12_calls 60 = .ok (.getfield 222, 3) := by decide +kernel
theorem dX12_calls_63 : decode cX12_calls 63 = .ok (.aload_n 0, 1) := by decide +kernel
theorem dX12_calls_64 : decode cX12_calls 64 = .ok (.dup, 1) := by decide +kernel
theorem dX12_calls_65 : decode cX12_calls 65 = .ok (.getfield 700, 3) := by decide +kernel
theorem dX12_calls_68 : decode cX12_calls 68 = .ok (.dup_x1, 1) := by decide +kernel
theorem dX12_calls_69 : decode cX12_calls 69 = .ok (.iconst 1, 1) := by decide +kernel
theorem dX12_calls_70 : decode cX12_calls 70 = .ok (.iadd, 1) := by decide +kernel
theorem dX12_calls_71 : decode cX12_calls 71 = .ok (.putfield 700, 3) := by decide +kernel
theorem dX12_calls_74 : decode cX12_calls 74 = .ok (.iload 4, 2) := by decide +kernel
theorem dX12_calls_76 : decode cX12_calls 76 = .ok (.iastore, 1) := by decide +kernel
theorem dX12_calls_77 : decode cX12_calls 77 = .ok (.return_, 1) := by decide +kernel
theorem dX12_goIn_0 : decode cX12_goIn 0 = .ok (.aload_n 0, 1) := by decide +kernel
theorem dX12_goIn_1 : decode cX12_goIn 1 = .ok (.invokevirtual 743, 3) := by decide +kernel
theorem dX12_goIn_4 : decode cX12_goIn 4 = .ok (.ifCond .ne 5, 3) := by decide +kernel
theorem dX12_goIn_7 : decode cX12_goIn 7 = .ok (.iconst 0, 1) := by decide +kernel
theorem dX12_goIn_8 : decode cX12_goIn 8 = .ok (.ireturn, 1) := by decide +kernel
theorem dX12_goIn_9 : decode cX12_goIn 9 = .ok (.aload_n 0, 1) := by decide +kernel
theorem dX12_goIn_10 : decode cX12_goIn 10 = .ok (.getfield 745, 3) := by decide +kernel
theorem dX12_goIn_13 : decode cX12_goIn 13 = .ok (.bipush 30, 2) := by decide +kernel
theorem dX12_goIn_15 : decode cX12_goIn 15 = .ok (.if_icmp .ne 9, 3) := by decide +kernel
theorem dX12_goIn_18 : decode cX12_goIn 18 = .ok (.aload_n 0, 1) := by decide +kernel
theorem dX12_goIn_19 : decode cX12_goIn 19 = .ok (.iconst 5, 1) := by decide +kernel
theorem dX12_goIn_20 : decode cX12_goIn 20 = .ok (.invokevirtual 691, 3) := by decide +kernel
theorem dX12_goIn_23 : decode cX12_goIn 23 = .ok (.ireturn, 1) := by decide +kernel
theorem dX12_goIn_24 : decode cX12_goIn 24 = .ok (.iload_n 2, 1) := by decide +kernel
theorem dX12_goIn_25 : decode cX12_goIn 25 = .ok (.istore 4, 2) := by decide +kernel
theorem dX12_goIn_27 : decode cX12_goIn 27 = .ok (.aload_n 0, 1) := by decide +kernel
theorem dX12_goIn_28 : decode cX12_goIn 28 = .ok (.getfield 146, 3) := by decide +kernel
theorem dX12_goIn_31 : decode cX12_goIn 31 = .ok (.iload_n 1, 1) := by decide +kernel
theorem dX12_goIn_32 : decode cX12_goIn 32 = .ok (.iaload, 1) := by decide +kernel
theorem dX12_goIn_33 : decode cX12_goIn 33 = .ok (.istore 5, 2) := by decide +kernel
theorem dX12_goIn_35 : decode cX12_goIn 35 = .ok (.iload 5, 2) := by decide +kernel
theorem dX12_goIn_37 : decode cX12_goIn 37 = .ok (.ifCond .lt 42, 3) := by decide +kernel
theorem dX12_goIn_40 : decode cX12_goIn 40 = .ok (.aload_n 0, 1) := by decide +kernel
theorem dX12_goIn_41 : decode cX12_goIn 41 = .ok (.getfield 215, 3) := by decide +kernel
theorem dX12_goIn_44 : decode cX12_goIn 44 = .ok (.iload_n 3, 1) := by decide +kernel
theorem dX12_goIn_45 : decode cX12_goIn 45 = .ok (.bipush 14, 2) := by decide +kernel
theorem dX12_goIn_47 : decode cX12_goIn 47 = .ok (.iadd, 1) := by decide +kernel
theorem dX12_goIn_48 : decode cX12_goIn 48 = .ok (.aload_n 0, 1) := by decide +kernel
theorem dX12_goIn_49 : decode cX12_goIn 49 = .ok (.getfield 149, 3) := by decide +kernel
theorem dX12_goIn_52 : decode cX12_goIn 52 = .ok (.iload 5, 2) := by decide +kernel
theorem dX12_goIn_54 : decode cX12_goIn 54 = .ok (.iaload, 1) := by decide +kernel
theorem dX12_goIn_55 : decode cX12_goIn 55 = .ok (.iadd, 1) := by decide +kernel
theorem dX12_goIn_56 : decode cX12_goIn 56 = .ok (.aload_n 0, 1) := by decide +kernel
theorem dX12_goIn_57 : decode cX12_goIn 57 = .ok (.getfield 222, 3) := by decide +kernel
theorem dX12_goIn_60 : decode cX12_goIn 60 = .ok (.iload 4, 2) := by decide +kernel
theorem dX12_goIn_62 : decode cX12_goIn 62 = .ok (.iinc 4 1, 3) := by decide +kernel
theorem dX12_goIn_65 : decode cX12_goIn 65 = .ok (.iaload, 1) := by decide +kernel
theorem dX12_goIn_66 : decode cX12_goIn 66 = .ok (.iastore, 1) := by decide +kernel
theorem dX12_goIn_67 : decode cX12_goIn 67 = .ok (.aload_n 0, 1) := by decide +kernel
theorem dX12_goIn_68 : decode cX12_goIn 68 = .ok (.getfield 152, 3) := by decide +kernel
theorem dX12_goIn_71 : decode cX12_goIn 71 = .ok (.iload 5, 2) := by decide +kernel
theorem dX12_goIn_73 : decode cX12_goIn 73 = .ok (.iaload, 1) := by decide +kernel
theorem dX12_goIn_74 : decode cX12_goIn 74 = .ok (.istore 5, 2) := by decide +kernel
theorem dX12_goIn_76 : decode cX12_goIn 76 = .ok (.goto (-41), 3) := by decide +kernel
theorem dX12_goIn_79 : decode cX12_goIn 79 = .ok (.aload_n 0, 1) := by decide +kernel
theorem dX12_goIn_80 : decode cX12_goIn 80 = .ok (.dup, 1) := by decide +kernel
theorem dX12_goIn_81 : decode cX12_goIn 81 = .ok (.getfield 745, 3) := by decide +kernel
theorem dX12_goIn_84 : decode cX12_goIn 84 = .ok (.iconst 1, 1) := by decide +kernel
theorem dX12_goIn_85 : decode cX12_goIn 85 = .ok (.iadd, 1) := by decide +kernel
theorem dX12_goIn_86 : decode cX12_goIn 86 = .ok (.putfield 745, 3) := by decide +kernel
theorem dX12_goIn_89 : decode cX12_goIn 89 = .ok (.aload_n 0, 1) := by decide +kernel
theorem dX12_goIn_90 : decode cX12_goIn 90 = .ok (.iconst 0, 1) := by decide +kernel
theorem dX12_goIn_91 : decode cX12_goIn 91 = .ok (.putfield 747, 3) := by decide +kernel
theorem dX12_goIn_94 : decode cX12_goIn 94 = .ok (.aload_n 0, 1) := by decide +kernel
theorem dX12_goIn_95 : decode cX12_goIn 95 = .ok (.getfield 143, 3) := by decide +kernel
theorem dX12_goIn_98 : decode cX12_goIn 98 = .ok (.aload_n 0, 1) := by decide +kernel
theorem dX12_goIn_99 : decode cX12_goIn 99 = .ok (.getfield 143, 3) := by decide +kernel
theorem dX12_goIn_102 : decode cX12_goIn 102 = .ok (.aload_n 0, 1) := by decide +kernel
theorem dX12_goIn_103 : decode cX12_goIn 103 = .ok (.getfield 149, 3) := by decide +kernel
theorem dX12_goIn_106 : decode cX12_goIn 106 = .ok (.iload_n 1, 1) := by decide +kernel
theorem dX12_goIn_107 : decode cX12_goIn 107 = .ok (.iaload, 1) := by decide +kernel
theorem dX12_goIn_108 : decode cX12_goIn 108 = .ok (.iaload, 1) := by decide +kernel
theorem dX12_goIn_109 : decode cX12_goIn 109 = .ok (.iaload, 1) := by decide +kernel
theorem dX12_goIn_110 : decode cX12_goIn 110 = .ok (.istore 5, 2) := by decide +kernel
theorem dX12_goIn_112 : decode cX12_goIn 112 = .ok (.iload 5, 2) := by decide +kernel
theorem dX12_goIn_114 : decode cX12_goIn 114 = .ok (.ifCond .lt 32, 3) := by decide +kernel
theorem dX12_goIn_117 : decode cX12_goIn 117 = .ok (.aload_n 0, 1) := by decide +kernel
theorem dX12_goIn_118 : decode cX12_goIn 118 = .ok (.getfield 685, 3) := by decide +kernel
theorem dX12_goIn_121 : decode cX12_goIn 121 = .ok (.ifCond .ne 25, 3) := by decide +kernel
theorem dX12_goIn_124 : decode cX12_goIn 124 = .ok (.aload_n 0, 1) := by decide +kernel
theorem dX12_goIn_125 : decode cX12_goIn 125 = .ok (.iload 5, 2) := by decide +kernel
theorem dX12_goIn_127 : decode cX12_goIn 127 = .ok (.iload_n 3, 1) := by decide +kernel
theorem dX12_goIn_128 : decode cX12_goIn 128 = .ok (.bipush 14, 2) := by decide +kernel
theorem dX12_goIn_130 : decode cX12_goIn 130 = .ok (.iadd, 1) := by decide +kernel
theorem dX12_goIn_131 : decode cX12_goIn 131 = .ok (.invokevirtual 750, 3) := by decide +kernel
theorem dX12_goIn_134 : decode cX12_goIn 134 = .ok (.aload_n 0, 1) := by decide +kernel
theorem dX12_goIn_135 : decode cX12_goIn 135 = .ok (.getfield 152, 3) := by decide +kernel
theorem dX12_goIn_138 : decode cX12_goIn 138 = .ok (.iload 5, 2) := by decide +kernel
theorem dX12_goIn_140 : decode cX12_goIn 140 = .ok (.iaload, 1) := by decide +kernel
theorem dX12_goIn_141 : decode cX12_goIn 141 = .ok (.istore 5, 2) := by decide +kernel
theorem dX12_goIn_143 : decode cX12_goIn 143 = .ok (.goto (-31), 3) := by decide +kernel
theorem dX12_goIn_146 : decode cX12_goIn 146 = .ok (.aload_n 0, 1) := by decide +kernel
theorem dX12_goIn_147 : decode cX12_goIn 147 = .ok (.dup, 1) := by decide +kernel
theorem dX12_goIn_148 : decode cX12_goIn 148 = .ok (.getfield 745, 3) := by decide +kernel
theorem dX12_goIn_151 : decode cX12_goIn 151 = .ok (.iconst 1, 1) := by decide +kernel
theorem dX12_goIn_152 : decode cX12_goIn 152 = .ok (.isub, 1) := by decide +kernel
theorem dX12_goIn_153 : decode cX12_goIn 153 = .ok (.putfield 745, 3) := by decide +kernel
theorem dX12_goIn_156 : decode cX12_goIn 156 = .ok (.aload_n 0, 1) := by decide +kernel
theorem dX12_goIn_157 : decode cX12_goIn 157 = .ok (.getfield 685, 3) := by decide +kernel
theorem dX12_goIn_160 : decode cX12_goIn 160 = .ok (.iconst 4, 1) := by decide +kernel
theorem dX12_goIn_161 : decode cX12_goIn 161 = .ok (.if_icmp .eq 5, 3) := by decide +kernel
theorem dX12_goIn_164 : decode cX12_goIn 164 = .ok (.iconst 0, 1) := by decide +kernel
theorem dX12_goIn_165 : decode cX12_goIn 165 = .ok (.ireturn, 1) := by decide +kernel
theorem dX12_goIn_166 : decode cX12_goIn 166 = .ok (.aload_n 0, 1) := by decide +kernel
theorem dX12_goIn_167 : decode cX12_goIn 167 = .ok (.iconst 0, 1) := by decide +kernel
theorem dX12_goIn_168 : decode cX12_goIn 168 = .ok (.putfield 685, 3) := by decide +kernel
theorem dX12_goIn_171 : decode cX12_goIn 171 = .ok (.aload_n 0, 1) := by decide +kernel
theorem dX12_goIn_172 : decode cX12_goIn 172 = .ok (.getfield 747, 3) := by decide +kernel
theorem dX12_goIn_175 : decode cX12_goIn 175 = .ok (.ireturn, 1) := by decide +kernel
theorem dX12_statement__0 : decode cX12_statement_ 0 = .ok (.iconst 0, 1) := by decide +kernel
theorem dX12_statement__1 : decode cX12_statement_ 1 = .ok (.istore_n 3, 1) := by decide +kernel
theorem dX12_statement__2 : decode cX12_statement_ 2 = .ok (.iconst 0, 1) := by decide +kernel
theorem dX12_statement__3 : decode cX12_statement_ 3 = .ok (.istore 4, 2) := by decide +kernel
theorem dX12_statement__5 : decode cX12_statement_ 5 = .ok (.aload_n 0, 1) := by decide +kernel
theorem dX12_statement__6 : decode cX12_statement_ 6 = .ok (.getfield 137, 3) := by decide +kernel
theorem dX12_statement__9 : decode cX12_statement_ 9 = .ok (.iload_n 1, 1) := by decide +kernel
theorem dX12_statement__10 : decode cX12_statement_ 10 = .ok (.iaload, 1) := by decide +kernel
theorem dX12_statement__11 : decode cX12_statement_ 11 = .ok (.tableswitch 679 20 32 #[65, 107, 141, 166, 238, 280, 339, 400, 516, 584, 616, 624, 624], 65) := by decide +kernel
theorem dX12_statement__76 : decode cX12_statement_ 76 = .ok (.aload_n 0, 1) := by decide +kernel
theorem dX12_statement__77 : decode cX12_statement_ 77 = .ok (.getfield 143, 3) := by decide +kernel
theorem dX12_statement__80 : decode cX12_statement_ 80 = .ok (.iload_n 1, 1) := by decide +kernel
theorem dX12_statement__81 : decode cX12_statement_ 81 = .ok (.iaload, 1) := by decide +kernel
theorem dX12_statement__82 : decode cX12_statement_ 82 = .ok (.istore 5, 2) := by decide +kernel
theorem dX12_statement__84 : decode cX12_statement_ 84 = .ok (.iload 5, 2) := by decide +kernel
theorem dX12_statement__86 : decode cX12_statement_ 86 = .ok (.ifCond .lt 29, 3) := by decide +kernel
theorem dX12_statement__89 : decode cX12_statement_ 89 = .ok (.aload_n 0, 1) := by decide +kernel
theorem dX12_statement__90 : decode cX12_statement_ 90 = .ok (.getfield 685, 3) := by decide +kernel
theorem dX12_statement__93 : decode cX12_statement_ 93 = .ok (.ifCond .ne 22, 3) := by decide +kernel
theorem dX12_statement__96 : decode cX12_statement_ 96 = .ok (.aload_n 0, 1) := by decide +kernel
theorem dX12_statement__97 : decode cX12_statement_ 97 = .ok (.iload 5, 2) := by decide +kernel
theorem dX12_statement__99 : decode cX12_statement_ 99 = .ok (.iload_n 2, 1) := by decide +kernel
theorem dX12_statement__100 : decode cX12_statement_ 100 = .ok (.invokevirtual 755, 3) := by decide +kernel
theorem dX12_statement__103 : decode cX12_statement_ 103 = .ok (.aload_n 0, 1) := by decide +kernel
theorem dX12_statement__104 : decode cX12_statement_ 104 = .ok (.getfield 152, 3) := by decide +kernel
theorem dX12_statement__107 : decode cX12_statement_ 107 = .ok (.iload 5, 2) := by decide +kernel
theorem dX12_statement__109 : decode cX12_statement_ 109 = .ok (.iaload, 1) := by decide +kernel
theorem dX12_statement__110 : decode cX12_statement_ 110 = .ok (.istore 5, 2) := by decide +kernel
theorem dX12_statement__112 : decode cX12_statement_ 112 = .ok (.goto (-28), 3) := by decide +kernel
theorem dX12_statement__115 : decode cX12_statement_ 115 = .ok (.goto 593, 3) := by decide +kernel
theorem dX12_statement__118 : decode cX12_statement_ 118 = .ok (.aload_n 0, 1) := by decide +kernel
theorem dX12_statement__119 : decode cX12_statement_ 119 = .ok (.aload_n 0, 1) := by decide +kernel
theorem dX12_statement__120 : decode cX12_statement_ 120 = .ok (.getfield 146, 3) := by decide +kernel
theorem dX12_statement__123 : decode cX12_statement_ 123 = .ok (.iload_n 1, 1) := by decide +kernel
theorem dX12_statement__124 : decode cX12_statement_ 124 = .ok (.iaload, 1) := by decide +kernel
theorem dX12_statement__125 : decode cX12_statement_ 125 = .ok (.iload_n 2, 1) := by decide +kernel
theorem dX12_statement__126 : decode cX12_statement_ 126 = .ok (.invokevirtual 752, 3) := by decide +kernel
theorem dX12_statement__129 : decode cX12_statement_ 129 = .ok (.istore_n 3, 1) := by decide +kernel
theorem dX12_statement__130 : decode cX12_statement_ 130 = .ok (.aload_n 0, 1) := by decide +kernel
theorem dX12_statement__131 : decode cX12_statement_ 131 = .ok (.getfield 215, 3) := by decide +kernel
theorem dX12_statement__134 : decode cX12_statement_ 134 = .ok (.iload_n 2, 1) := by decide +kernel
theorem dX12_statement__135 : decode cX12_statement_ 135 = .ok (.aload_n 0, 1) := by decide +kernel
theorem dX12_statement__136 : decode cX12_statement_ 136 = .ok (.getfield 149, 3) := by decide +kernel
theorem dX12_statement__139 : decode cX12_statement_ 139 = .ok (.aload_n 0, 1) := by decide +kernel
theorem dX12_statement__140 : decode cX12_statement_ 140 = .ok (.getfield 143, 3) := by decide +kernel
theorem dX12_statement__143 : decode cX12_statement_ 143 = .ok (.iload_n 1, 1) := by decide +kernel
theorem dX12_statement__144 : decode cX12_statement_ 144 = .ok (.iaload, 1) := by decide +kernel
theorem dX12_statement__145 : decode cX12_statement_ 145 = .ok (.iaload, 1) := by decide +kernel
theorem dX12_statement__146 : decode cX12_statement_ 146 = .ok (.iadd, 1) := by decide +kernel
theorem dX12_statement__147 : decode cX12_statement_ 147 = .ok (.iload_n 3, 1) := by decide +kernel
theorem dX12_statement__148 : decode cX12_statement_ 148 = .ok (.iastore, 1) := by decide +kernel
theorem dX12_statement__149 : decode cX12_statement_ 149 = .ok (.goto 559, 3) := by decide +kernel
theorem dX12_statement__152 : decode cX12_statement_ 152 = .ok (.aload_n 0, 1) := by decide +kernel
theorem dX12_statement__153 : decode cX12_statement_ 153 = .ok (.aload_n 0, 1) := by decide +kernel
theorem dX12_statement__154 : decode cX12_statement_ 154 = .ok (.getfield 143, 3) := by decide +kernel
theorem dX12_statement__157 : decode cX12_statement_ 157 = .ok (.iload_n 1, 1) := by decide +kernel
theorem dX12_statement__158 : decode cX12_statement_ 158 = .ok (.iaload, 1) := by decide +kernel
theorem dX12_statement__159 : decode cX12_statement_ 159 = .ok (.aload_n 0, 1) := by decide +kernel
theorem dX12_statement__160 : decode cX12_statement_ 160 = .ok (.aload_n 0, 1) := by decide +kernel
theorem dX12_statement__161 : decode cX12_statement_ 161 = .ok (.getfield 146, 3) := by decide +kernel
theorem dX12_statement__164 : decode cX12_statement_ 164 = .ok (.iload_n 1, 1) := by decide +kernel
theorem dX12_statement__165 : decode cX12_statement_ 165 = .ok (.iaload, 1) := by decide +kernel
theorem dX12_statement__166 : decode cX12_statement_ 166 = .ok (.iload_n 2, 1) := by decide +kernel
theorem dX12_statement__167 : decode cX12_statement_ 167 = .ok (.invokevirtual 752, 3) := by decide +kernel
theorem dX12_statement__170 : decode cX12_statement_ 170 = .ok (.iload_n 2, 1) := by decide +kernel
theorem dX12_statement__171 : decode cX12_statement_ 171 = .ok (.invokevirtual 758, 3) := by decide +kernel
theorem dX12_statement__174 : decode cX12_statement_ 174 = .ok (.goto 534, 3) := by decide +kernel
theorem dX12_statement__177 : decode cX12_statement_ 177 = .ok (.aload_n 0, 1) := by decide +kernel
theorem dX12_statement__178 : decode cX12_statement_ 178 = .ok (.aload_n 0, 1) := by decide +kernel
theorem dX12_statement__179 : decode cX12_statement_ 179 = .ok (.getfield 146, 3) := by decide +kernel
theorem dX12_statement__182 : decode cX12_statement_ 182 = .ok (.iload_n 1, 1) := by decide +kernel
theorem dX12_statement__183 : decode cX12_statement_ 183 = .ok (.iaload, 1) := by decide +kernel
theorem dX12_statement__184 : decode cX12_statement_ 184 = .ok (.iload_n 2, 1) := by decide +kernel
theorem dX12_statement__185 : decode cX12_statement_ 185 = .ok (.invokevirtual 752, 3) := by decide +kernel
theorem dX12_statement__188 : decode cX12_statement_ 188 = .ok (.istore_n 3, 1) := by decide +kernel
theorem dX12_statement__189 : decode cX12_statement_ 189 = .ok (.aload_n 0, 1) := by decide +kernel
theorem dX12_statement__190 : decode cX12_statement_ 190 = .ok (.aload_n 0, 1) := by decide +kernel
theorem dX12_statement__191 : decode cX12_statement_ 191 = .ok (.getfield 149, 3) := by decide +kernel
theorem dX12_statement__194 : decode cX12_statement_ 194 = .ok (.iload_n 1, 1) := by decide +kernel
theorem dX12_statement__195 : decode cX12_statement_ 195 = .ok (.iaload, 1) := by decide +kernel
theorem dX12_statement__196 : decode cX12_statement_ 196 = .ok (.iload_n 2, 1) := by decide +kernel
theorem dX12_statement__197 : decode cX12_statement_ 197 = .ok (.invokevirtual 752, 3) := by decide +kernel
theorem dX12_statement__200 : decode cX12_statement_ 200 = .ok (.istore 4, 2) := by decide +kernel
theorem dX12_statement__202 : decode cX12_statement_ 202 = .ok (.aload_n 0, 1) := by decide +kernel
theorem dX12_statement__203 : decode cX12_statement_ 203 = .ok (.aload_n 0, 1) := by decide +kernel
theorem dX12_statement__204 : decode cX12_statement_ 204 = .ok (.getfield 149, 3) := by decide +kernel
theorem dX12_statement__207 : decode cX12_statement_ 207 = .ok (.aload_n 0, 1) := by decide +kernel
theorem dX12_statement__208 : decode cX12_statement_ 208 = .ok (.getfield 143, 3) := by decide +kernel
theorem dX12_statement__211 : decode cX12_statement_ 211 = .ok (.iload_n 1, 1) := by decide +kernel
theorem dX12_statement__212 : decode cX12_statement_ 212 = .ok (.iaload, 1) := by decide +kernel
theorem dX12_statement__213 : decode cX12_statement_ 213 = .ok (.iaload, 1) := by decide +kernel
theorem dX12_statement__214 : decode cX12_statement_ 214 = .ok (.iload_n 3, 1) := by decide +kernel
theorem dX12_statement__215 : decode cX12_statement_ 215 = .ok (.invokevirtual 739, 3) := by decide +kernel
theorem dX12_statement__218 : decode cX12_statement_ 218 = .ok (.ifCond .eq 490, 3) := by decide +kernel
theorem dX12_statement__221 : decode cX12_statement_ 221 = .ok (.aload_n 0, 1) := by decide +kernel
theorem dX12_statement__222 : decode cX12_statement_ 222 = .ok (.getfield 197, 3) := by decide +kernel
theorem dX12_statement__225 : decode cX12_statement_ 225 = .ok (.aload_n 0, 1) := by decide +kernel
theorem dX12_statement__226 : decode cX12_statement_ 226 = .ok (.getfield 176, 3) := by decide +kernel
theorem dX12_statement__229 : decode cX12_statement_ 229 = .ok (.aload_n 0, 1) := by decide +kernel
theorem dX12_statement__230 : decode cX12_statement_ 230 = .ok (.getfield 149, 3) := by decide +kernel
theorem dX12_statement__233 : decode cX12_statement_ 233 = .ok (.aload_n 0, 1) := by decide +kernel
theorem dX12_statement__234 : decode cX12_statement_ 234 = .ok (.getfield 143, 3) := by decide +kernel
theorem dX12_statement__237 : decode cX12_statement_ 237 = .ok (.iload_n 1, 1) := by decide +kernel
theorem dX12_statement__238 : decode cX12_statement_ 238 = .ok (.iaload, 1) := by decide +kernel
theorem dX12_statement__239 : decode cX12_statement_ 239 = .ok (.iaload, 1) := by decide +kernel
theorem dX12_statement__240 : decode cX12_statement_ 240 = .ok (.iaload, 1) := by decide +kernel
theorem dX12_statement__241 : decode cX12_statement_ 241 = .ok (.iload_n 3, 1) := by decide +kernel
theorem dX12_statement__242 : decode cX12_statement_ 242 = .ok (.iadd, 1) := by decide +kernel
theorem dX12_statement__243 : decode cX12_statement_ 243 = .ok (.iload 4, 2) := by decide +kernel
theorem dX12_statement__245 : decode cX12_statement_ 245 = .ok (.iastore, 1) := by decide +kernel
theorem dX12_statement__246 : decode cX12_statement_ 246 = .ok (.goto 462, 3) := by decide +kernel
theorem dX12_statement__249 : decode cX12_statement_ 249 = .ok (.aload_n 0, 1) := by decide +kernel
theorem dX12_statement__250 : decode cX12_statement_ 250 = .ok (.aload_n 0, 1) := by decide +kernel
theorem dX12_statement__251 : decode cX12_statement_ 251 = .ok (.getfield 143, 3) := by decide +kernel
theorem dX12_statement__254 : decode cX12_statement_ 254 = .ok (.iload_n 1, 1) := by decide +kernel
theorem dX12_statement__255 : decode cX12_statement_ 255 = .ok (.iaload, 1) := by decide +kernel
theorem dX12_statement__256 : decode cX12_statement_ 256 = .ok (.iload_n 2, 1) := by decide +kernel
theorem dX12_statement__257 : decode cX12_statement_ 257 = .ok (.invokevirtual 752, 3) := by decide +kernel
theorem dX12_statement__260 : decode cX12_statement_ 260 = .ok (.istore_n 3, 1) := by decide +kernel
theorem dX12_statement__261 : decode cX12_statement_ 261 = .ok (.aload_n 0, 1) := by decide +kernel
theorem dX12_statement__262 : decode cX12_statement_ 262 = .ok (.aload_n 0, 1) := by decide +kernel
theorem dX12_statement__263 : decode cX12_statement_ 263 = .ok (.getfield 146, 3) := by decide +kernel
theorem dX12_statement__266 : decode cX12_statement_ 266 = .ok (.iload_n 1, 1) := by decide +kernel
theorem dX12_statement__267 : decode cX12_statement_ 267 = .ok (.iaload, 1) := by decide +kernel
theorem dX12_statement__268 : decode cX12_statement_ 268 = .ok (.iload_n 2, 1) := by decide +kernel
theorem dX12_statement__269 : decode cX12_statement_ 269 = .ok (.invokevirtual 752, 3) := by decide +kernel
theorem dX12_statement__272 : decode cX12_statement_ 272 = .ok (.istore 4, 2) := by decide +kernel
theorem dX12_statement__274 : decode cX12_statement_ 274 = .ok (.aload_n 0, 1) := by decide +kernel
theorem dX12_statement__275 : decode cX12_statement_ 275 = .ok (.getfield 685, 3) := by decide +kernel
theorem dX12_statement__278 : decode cX12_statement_ 278 = .ok (.ifCond .ne 430, 3) := by decide +kernel
theorem dX12_statement__281 : decode cX12_statement_ 281 = .ok (.aload_n 0, 1) := by decide +kernel
theorem dX12_statement__282 : decode cX12_statement_ 282 = .ok (.iload_n 3, 1) := by decide +kernel
theorem dX12_statement__283 : decode cX12_statement_ 283 = .ok (.iload 4, 2) := by decide +kernel
theorem dX12_statement__285 : decode cX12_statement_ 285 = .ok (.invokevirtual 761, 3) := by decide +kernel
theorem dX12_statement__288 : decode cX12_statement_ 288 = .ok (.goto 420, 3) := by decide +kernel
theorem dX12_statement__291 : decode cX12_statement_ 291 = .ok (.aload_n 0, 1) := by decide +kernel
theorem dX12_statement__292 : decode cX12_statement_ 292 = .ok (.aload_n 0, 1) := by decide +kernel
theorem dX12_statement__293 : decode cX12_statement_ 293 = .ok (.getfield 143, 3) := by decide +kernel
theorem dX12_statement__296 : decode cX12_statement_ 296 = .ok (.iload_n 1, 1) := by decide +kernel
theorem dX12_statement__297 : decode cX12_statement_ 297 = .ok (.iaload, 1) := by decide +kernel
theorem dX12_statement__298 : decode cX12_statement_ 298 = .ok (.iload_n 2, 1) := by decide +kernel
theorem dX12_statement__299 : decode cX12_statement_ 299 = .ok (.invokevirtual 752, 3) := by decide +kernel
theorem dX12_statement__302 : decode cX12_statement_ 302 = .ok (.istore_n 3, 1) := by decide +kernel
theorem dX12_statement__303 : decode cX12_statement_ 303 = .ok (.aload_n 0, 1) := by decide +kernel
theorem dX12_statement__304 : decode cX12_statement_ 304 = .ok (.getfield 685, 3) := by decide +kernel
theorem dX12_statement__307 : decode cX12_statement_ 307 = .ok (.ifCond .ne 11, 3) := by decide +kernel
theorem dX12_statement__310 : decode cX12_statement_ 310 = .ok (.aload_n 0, 1) := by decide +kernel
theorem dX12_statement__311 : decode cX12_statement_ 311 = .ok (.iload_n 3, 1) := by decide +kernel
theorem dX12_statement__312 : decode cX12_statement_ 312 = .ok (.invokevirtual 736, 3) := by decide +kernel
theorem dX12_statement__315 : decode cX12_statement_ 315 = .ok (.ifCond .ne 4, 3) := by decide +kernel
theorem dX12_statement__318 : decode cX12_statement_ 318 = .ok (.return_, 1) := by decide +kernel
theorem dX12_statement__319 : decode cX12_statement_ 319 = .ok (.iload_n 3, 1) := by decide +kernel
theorem dX12_statement__320 : decode cX12_statement_ 320 = .ok (.iconst 1, 1) := by decide +kernel
theorem dX12_statement__321 : decode cX12_statement_ 321 = .ok (.if_icmp .eq 12, 3) := by decide +kernel
theorem dX12_statement__324 : decode cX12_statement_ 324 = .ok (.aload_n 0, 1) := by decide +kernel
theorem dX12_statement__325 : decode cX12_statement_ 325 = .ok (.getfield 97, 3) := by decide +kernel
theorem dX12_statement__328 : decode cX12_statement_ 328 = .ok (.iload_n 3, 1) := by decide +kernel
theorem dX12_statement__329 : decode cX12_statement_ 329 = .ok (.baload, 1) := by decide +kernel
theorem dX12_statement__330 : decode cX12_statement_ 330 = .ok (.ifCond .eq 12, 3) := by decide +kernel
theorem dX12_statement__333 : decode cX12_statement_ 333 = .ok (.aload_n 0, 1) := by decide +kernel
theorem dX12_statement__334 : decode cX12_statement_ 334 = .ok (.iconst 2, 1) := by decide +kernel
theorem dX12_statement__335 : decode cX12_statement_ 335 = .ok (.invokevirtual 691, 3) := by decide +kernel
theorem dX12_statement__338 : decode cX12_statement_ 338 = .ok (.pop, 1) := by decide +kernel
theorem dX12_statement__339 : decode cX12_statement_ 339 = .ok (.goto 369, 3) := by decide +kernel
theorem dX12_statement__342 : decode cX12_statement_ 342 = .ok (.aload_n 0, 1) := by decide +kernel
theorem dX12_statement__343 : decode cX12_statement_ 343 = .ok (.iload_n 3, 1) := by decide +kernel
theorem dX12_statement__344 : decode cX12_statement_ 344 = .ok (.invokevirtual 682, 3) := by decide +kernel
theorem dX12_statement__347 : decode cX12_statement_ 347 = .ok (.goto 361, 3) := by decide +kernel
theorem dX12_statement__350 : decode cX12_statement_ 350 = .ok (.aload_n 0, 1) := by decide +kernel
theorem dX12_statement__351 : decode cX12_statement_ 351 = .ok (.aload_n 0, 1) := by decide +kernel
theorem dX12_statement__352 : decode cX12_statement_ 352 = .ok (.getfield 143, 3) := by decide +kernel
theorem dX12_statement__355 : decode cX12_statement_ 355 = .ok (.iload_n 1, 1) := by decide +kernel
theorem dX12_statement__356 : decode cX12_statement_ 356 = .ok (.iaload, 1) := by decide +kernel
theorem dX12_statement__357 : decode cX12_statement_ 357 = .ok (.iload_n 2, 1) := by decide +kernel
theorem dX12_statement__358 : decode cX12_statement_ 358 = .ok (.invokevirtual 752, 3) := by decide +kernel
theorem dX12_statement__361 : decode cX12_statement_ 361 = .ok (.istore_n 3, 1) := by decide +kernel
theorem dX12_statement__362 : decode cX12_statement_ 362 = .ok (.aload_n 0, 1) := by decide +kernel
theorem dX12_statement__363 : decode cX12_statement_ 363 = .ok (.getfield 685, 3) := by decide +kernel
theorem dX12_statement__366 : decode cX12_statement_ 366 = .ok (.ifCond .ne 342, 3) := by decide +kernel
theorem dX12_statement__369 : decode cX12_statement_ 369 = .ok (.aload_n 0, 1) := by decide +kernel
theorem dX12_statement__370 : decode cX12_statement_ 370 = .ok (.iload_n 3, 1) := by decide +kernel
theorem dX12_statement__371 : decode cX12_statement_ 371 = .ok (.invokevirtual 736, 3) := by decide +kernel
theorem dX12_statement__374 : decode cX12_statement_ 374 = .ok (.ifCond .eq 334, 3) := by decide +kernel
theorem dX12_statement__377 : decode cX12_statement_ 377 = .ok (.aload_n 0, 1) := by decide +kernel
theorem dX12_statement__378 : decode cX12_statement_ 378 = .ok (.getfield 191, 3) := by decide +kernel
theorem dX12_statement__381 : decode cX12_statement_ 381 = .ok (.bipush 7, 2) := by decide +kernel
theorem dX12_statement__383 : decode cX12_statement_ 383 = .ok (.iload_n 3, 1) := by decide +kernel
theorem dX12_statement__384 : decode cX12_statement_ 384 = .ok (.imul, 1) := by decide +kernel
theorem dX12_statement__385 : decode cX12_statement_ 385 = .ok (.aload_n 0, 1) := by decide +kernel
theorem dX12_statement__386 : decode cX12_statement_ 386 = .ok (.getfield 146, 3) := by decide +kernel
theorem dX12_statement__389 : decode cX12_statement_ 389 = .ok (.iload_n 1, 1) := by decide +kernel
theorem dX12_statement__390 : decode cX12_statement_ 390 = .ok (.iaload, 1) := by decide +kernel
theorem dX12_statement__391 : decode cX12_statement_ 391 = .ok (.iadd, 1) := by decide +kernel
theorem dX12_statement__392 : decode cX12_statement_ 392 = .ok (.aload_n 0, 1) := by decide +kernel
theorem dX12_statement__393 : decode cX12_statement_ 393 = .ok (.getfield 149, 3) := by decide +kernel
theorem dX12_statement__396 : decode cX12_statement_ 396 = .ok (.iload_n 1, 1) := by decide +kernel
theorem dX12_statement__397 : decode cX12_statement_ 397 = .ok (.iaload, 1) := by decide +kernel
theorem dX12_statement__398 : decode cX12_statement_ 398 = .ok (.iconst 1, 1) := by decide +kernel
theorem dX12_statement__399 : decode cX12_statement_ 399 = .ok (.if_icmp .ne 7, 3) := by decide +kernel
theorem dX12_statement__402 : decode cX12_statement_ 402 = .ok (.iconst 1, 1) := by decide +kernel
theorem dX12_statement__403 : decode cX12_statement_ 403 = .ok (.goto 4, 3) := by decide +kernel
theorem dX12_statement__406 : decode cX12_statement_ 406 = .ok (.iconst 0, 1) := by decide +kernel
theorem dX12_statement__407 : decode cX12_statement_ 407 = .ok (.bastore, 1) := by decide +kernel
theorem dX12_statement__408 : decode cX12_statement_ 408 = .ok (.goto 300, 3) := by decide +kernel
theorem dX12_statement__411 : decode cX12_statement_ 411 = .ok (.aload_n 0, 1) := by decide +kernel
theorem dX12_statement__412 : decode cX12_statement_ 412 = .ok (.aload_n 0, 1) := by decide +kernel
theorem dX12_statement__413 : decode cX12_statement_ 413 = .ok (.getfield 143, 3) := by decide +kernel
theorem dX12_statement__416 : decode cX12_statement_ 416 = .ok (.iload_n 1, 1) := by decide +kernel
theorem dX12_statement__417 : decode cX12_statement_ 417 = .ok (.iaload, 1) := by decide +kernel
theorem dX12_statement__418 : decode cX12_statement_ 418 = .ok (.iload_n 2, 1) := by decide +kernel
theorem dX12_statement__419 : decode cX12_statement_ 419 = .ok (.invokevirtual 752, 3) := by decide +kernel
theorem dX12_statement__422 : decode cX12_statement_ 422 = .ok (.istore_n 3, 1) := by decide +kernel
theorem dX12_statement__423 : decode cX12_statement_ 423 = .ok (.aload_n 0, 1) := by decide +kernel
theorem dX12_statement__424 : decode cX12_statement_ 424 = .ok (.getfield 685, 3) := by decide +kernel
theorem dX12_statement__427 : decode cX12_statement_ 427 = .ok (.ifCond .eq 4, 3) := by decide +kernel
theorem dX12_statement__430 : decode cX12_statement_ 430 = .ok (.return_, 1) := by decide +kernel
theorem dX12_statement__431 : decode cX12_statement_ 431 = .ok (.iload_n 3, 1) := by decide +kernel
theorem dX12_statement__432 : decode cX12_statement_ 432 = .ok (.ifCond .eq 12, 3) := by decide +kernel
theorem dX12_statement__435 : decode cX12_statement_ 435 = .ok (.aload_n 0, 1) := by decide +kernel
theorem dX12_statement__436 : decode cX12_statement_ 436 = .ok (.getfield 146, 3) := by decide +kernel
theorem dX12_statement__439 : decode cX12_statement_ 439 = .ok (.iload_n 1, 1) := by decide +kernel
theorem dX12_statement__440 : decode cX12_statement_ 440 = .ok (.iaload, 1) := by decide +kernel
theorem dX12_statement__441 : decode cX12_statement_ 441 = .ok (.goto 9, 3) := by decide +kernel
theorem dX12_statement__444 : decode cX12_statement_ 444 = .ok (.aload_n 0, 1) := by decide +kernel
theorem dX12_statement__445 : decode cX12_statement_ 445 = .ok (.getfield 149, 3) := by decide +kernel
theorem dX12_statement__448 : decode cX12_statement_ 448 = .ok (.iload_n 1, 1) := by decide +kernel
theorem dX12_statement__449 : decode cX12_statement_ 449 = .ok (.iaload, 1) := by decide +kernel
theorem dX12_statement__450 : decode cX12_statement_ 450 = .ok (.istore 4, 2) := by decide +kernel
theorem dX12_statement__452 : decode cX12_statement_ 452 = .ok (.iload 4, 2) := by decide +kernel
theorem dX12_statement__454 : decode cX12_statement_ 454 = .ok (.ifCond .lt 25, 3) := by decide +kernel
theorem dX12_statement__457 : decode cX12_statement_ 457 = .ok (.aload_n 0, 1) := by decide +kernel
theorem dX12_statement__458 : decode cX12_statement_ 458 = .ok (.getfield 137, 3) := by decide +kernel
theorem dX12_statement__461 : decode cX12_statement_ 461 = .ok (.iload 4, 2) := by decide +kernel
theorem dX12_statement__463 : decode cX12_statement_ 463 = .ok (.iaload, 1) := by decide +kernel
theorem dX12_statement__464 : decode cX12_statement_ 464 = .ok (.bipush 27, 2) := by decide +kernel
theorem dX12_statement__466 : decode cX12_statement_ 466 = .ok (.if_icmp .ne 13, 3) := by decide +kernel
theorem dX12_statement__469 : decode cX12_statement_ 469 = .ok (.aload_n 0, 1) := by decide +kernel
theorem dX12_statement__470 : decode cX12_statement_ 470 = .ok (.iload 4, 2) := by decide +kernel
theorem dX12_statement__472 : decode cX12_statement_ 472 = .ok (.iload_n 2, 1) := by decide +kernel
theorem dX12_statement__473 : decode cX12_statement_ 473 = .ok (.invokevirtual 750, 3) := by decide +kernel
theorem dX12_statement__476 : decode cX12_statement_ 476 = .ok (.goto 232, 3) := by decide +kernel
theorem dX12_statement__479 : decode cX12_statement_ 479 = .ok (.iload 4, 2) := by decide +kernel
theorem dX12_statement__481 : decode cX12_statement_ 481 = .ok (.ifCond .lt 227, 3) := by decide +kernel
theorem dX12_statement__484 : decode cX12_statement_ 484 = .ok (.aload_n 0, 1) := by decide +kernel
theorem dX12_statement__485 : decode cX12_statement_ 485 = .ok (.getfield 143, 3) := by decide +kernel
theorem dX12_statement__488 : decode cX12_statement_ 488 = .ok (.iload 4, 2) := by decide +kernel
theorem dX12_statement__490 : decode cX12_statement_ 490 = .ok (.iaload, 1) := by decide +kernel
theorem dX12_statement__491 : decode cX12_statement_ 491 = .ok (.istore 5, 2) := by decide +kernel
theorem dX12_statement__493 : decode cX12_statement_ 493 = .ok (.iload 5, 2) := by decide +kernel
theorem dX12_statement__495 : decode cX12_statement_ 495 = .ok (.ifCond .lt 29, 3) := by decide +kernel
theorem dX12_statement__498 : decode cX12_statement_ 498 = .ok (.aload_n 0, 1) := by decide +kernel
theorem dX12_statement__499 : decode cX12_statement_ 499 = .ok (.getfield 685, 3) := by decide +kernel
theorem dX12_statement__502 : decode cX12_statement_ 502 = .ok (.ifCond .ne 22, 3) := by decide +kernel
theorem dX12_statement__505 : decode cX12_statement_ 505 = .ok (.aload_n 0, 1) := by decide +kernel
theorem dX12_statement__506 : decode cX12_statement_ 506 = .ok (.iload 5, 2) := by decide +kernel
theorem dX12_statement__508 : decode cX12_statement_ 508 = .ok (.iload_n 2, 1) := by decide +kernel
theorem dX12_statement__509 : decode cX12_statement_ 509 = .ok (.invokevirtual 750, 3) := by decide +kernel
theorem dX12_statement__512 : decode cX12_statement_ 512 = .ok (.aload_n 0, 1) := by decide +kernel
theorem dX12_statement__513 : decode cX12_statement_ 513 = .ok (.getfield 152, 3) := by decide +kernel
theorem dX12_statement__516 : decode cX12_statement_ 516 = .ok (.iload 5, 2) := by decide +kernel
theorem dX12_statement__518 : decode cX12_statement_ 518 = .ok (.iaload, 1) := by decide +kernel
theorem dX12_statement__519 : decode cX12_statement_ 519 = .ok (.istore 5, 2) := by decide +kernel
theorem dX12_statement__521 : decode cX12_statement_ 521 = .ok (.goto (-28), 3) := by decide +kernel
theorem dX12_statement__524 : decode cX12_statement_ 524 = .ok (.goto 184, 3) := by decide +kernel
theorem dX12_statement__527 : decode cX12_statement_ 527 = .ok (.aload_n 0, 1) := by decide +kernel
theorem dX12_statement__528 : decode cX12_statement_ 528 = .ok (.aload_n 0, 1) := by decide +kernel
theorem dX12_statement__529 : decode cX12_statement_ 529 = .ok (.getfield 143, 3) := by decide +kernel
theorem dX12_statement__532 : decode cX12_statement_ 532 = .ok (.iload_n 1, 1) := by decide +kernel
theorem dX12_statement__533 : decode cX12_statement_ 533 = .ok (.iaload, 1) := by decide +kernel
theorem dX12_statement__534 : decode cX12_statement_ 534 = .ok (.iload_n 2, 1) := by decide +kernel
theorem dX12_statement__535 : decode cX12_statement_ 535 = .ok (.invokevirtual 752, 3) := by decide +kernel
theorem dX12_statement__538 : decode cX12_statement_ 538 = .ok (.ifCond .eq 170, 3) := by decide +kernel
theorem dX12_statement__541 : decode cX12_statement_ 541 = .ok (.aload_n 0, 1) := by decide +kernel
theorem dX12_statement__542 : decode cX12_statement_ 542 = .ok (.invokevirtual 743, 3) := by decide +kernel
theorem dX12_statement__545 : decode cX12_statement_ 545 = .ok (.ifCond .eq 163, 3) := by decide +kernel
theorem dX12_statement__548 : decode cX12_statement_ 548 = .ok (.aload_n 0, 1) := by decide +kernel
theorem dX12_statement__549 : decode cX12_statement_ 549 = .ok (.getfield 143, 3) := by decide +kernel
theorem dX12_statement__552 : decode cX12_statement_ 552 = .ok (.aload_n 0, 1) := by decide +kernel
theorem dX12_statement__553 : decode cX12_statement_ 553 = .ok (.getfield 146, 3) := by decide +kernel
theorem dX12_statement__556 : decode cX12_statement_ 556 = .ok (.iload_n 1, 1) := by decide +kernel
theorem dX12_statement__557 : decode cX12_statement_ 557 = .ok (.iaload, 1) := by decide +kernel
theorem dX12_statement__558 : decode cX12_statement_ 558 = .ok (.iaload, 1) := by decide +kernel
theorem dX12_statement__559 : decode cX12_statement_ 559 = .ok (.istore 5, 2) := by decide +kernel
theorem dX12_statement__561 : decode cX12_statement_ 561 = .ok (.iload 5, 2) := by decide +kernel
theorem dX12_statement__563 : decode cX12_statement_ 563 = .ok (.ifCond .lt 29, 3) := by decide +kernel
theorem dX12_statement__566 : decode cX12_statement_ 566 = .ok (.aload_n 0, 1) := by decide +kernel
theorem dX12_statement__567 : decode cX12_statement_ 567 = .ok (.getfield 685, 3) := by decide +kernel
theorem dX12_statement__570 : decode cX12_statement_ 570 = .ok (.ifCond .ne 22, 3) := by decide +kernel
theorem dX12_statement__573 : decode cX12_statement_ 573 = .ok (.aload_n 0, 1) := by decide +kernel
theorem dX12_statement__574 : decode cX12_statement_ 574 = .ok (.iload 5, 2) := by decide +kernel
theorem dX12_statement__576 : decode cX12_statement_ 576 = .ok (.iload_n 2, 1) := by decide +kernel
theorem dX12_statement__577 : decode cX12_statement_ 577 = .ok (.invokevirtual 750, 3) := by decide +kernel
theorem dX12_statement__580 : decode cX12_statement_ 580 = .ok (.aload_n 0, 1) := by decide +kernel
theorem dX12_statement__581 : decode cX12_statement_ 581 = .ok (.getfield 152, 3) := by decide +kernel
theorem dX12_statement__584 : decode cX12_statement_ 584 = .ok (.iload 5, 2) := by decide +kernel
theorem dX12_statement__586 : decode cX12_statement_ 586 = .ok (.iaload, 1) := by decide +kernel
theorem dX12_statement__587 : decode cX12_statement_ 587 = .ok (.istore 5, 2) := by decide +kernel
theorem dX12_statement__589 : decode cX12_statement_ 589 = .ok (.goto (-28), 3) := by decide +kernel
theorem dX12_statement__592 : decode cX12_statement_ 592 = .ok (.goto (-65), 3) := by decide +kernel
theorem dX12_statement__595 : decode cX12_statement_ 595 = .ok (.aload_n 0, 1) := by decide +kernel
theorem dX12_statement__596 : decode cX12_statement_ 596 = .ok (.aload_n 0, 1) := by decide +kernel
theorem dX12_statement__597 : decode cX12_statement_ 597 = .ok (.getfield 143, 3) := by decide +kernel
theorem dX12_statement__600 : decode cX12_statement_ 600 = .ok (.iload_n 1, 1) := by decide +kernel
theorem dX12_statement__601 : decode cX12_statement_ 601 = .ok (.iaload, 1) := by decide +kernel
theorem dX12_statement__602 : decode cX12_statement_ 602 = .ok (.iload_n 2, 1) := by decide +kernel
theorem dX12_statement__603 : decode cX12_statement_ 603 = .ok (.invokevirtual 752, 3) := by decide +kernel
theorem dX12_statement__606 : decode cX12_statement_ 606 = .ok (.istore_n 3, 1) := by decide +kernel
theorem dX12_statement__607 : decode cX12_statement_ 607 = .ok (.aload_n 0, 1) := by decide +kernel
theorem dX12_statement__608 : decode cX12_statement_ 608 = .ok (.getfield 685, 3) := by decide +kernel
theorem dX12_statement__611 : decode cX12_statement_ 611 = .ok (.ifCond .ne 97, 3) := by decide +kernel
theorem dX12_statement__614 : decode cX12_statement_ 614 = .ok (.aload_n 0, 1) := by decide +kernel
theorem dX12_statement__615 : decode cX12_statement_ 615 = .ok (.iload_n 3, 1) := by decide +kernel
theorem dX12_statement__616 : decode cX12_statement_ 616 = .ok (.putfield 747, 3) := by decide +kernel
theorem dX12_statement__619 : decode cX12_statement_ 619 = .ok (.aload_n 0, 1) := by decide +kernel
theorem dX12_statement__620 : decode cX12_statement_ 620 = .ok (.iconst 4, 1) := by decide +kernel
theorem dX12_statement__621 : decode cX12_statement_ 621 = .ok (.putfield 685, 3) := by decide +kernel
theorem dX12_statement__624 : decode cX12_statement_ 624 = .ok (.goto 84, 3) := by decide +kernel
theorem dX12_statement__627 : decode cX12_statement_ 627 = .ok (.aload_n 0, 1) := by decide +kernel
theorem dX12_statement__628 : decode cX12_statement_ 628 = .ok (.iconst 1, 1) := by decide +kernel
theorem dX12_statement__629 : decode cX12_statement_ 629 = .ok (.putfield 685, 3) := by decide +kernel
theorem dX12_statement__632 : decode cX12_statement_ 632 = .ok (.goto 76, 3) := by decide +kernel
theorem dX12_statement__635 : decode cX12_statement_ 635 = .ok (.aload_n 0, 1) := by decide +kernel
theorem dX12_statement__636 : decode cX12_statement_ 636 = .ok (.aload_n 0, 1) := by decide +kernel
theorem dX12_statement__637 : decode cX12_statement_ 637 = .ok (.getfield 137, 3) := by decide +kernel
theorem dX12_statement__640 : decode cX12_statement_ 640 = .ok (.iload_n 1, 1) := by decide +kernel
theorem dX12_statement__641 : decode cX12_statement_ 641 = .ok (.iaload, 1) := by decide +kernel
theorem dX12_statement__642 : decode cX12_statement_ 642 = .ok (.bipush 31, 2) := by decide +kernel
theorem dX12_statement__644 : decode cX12_statement_ 644 = .ok (.if_icmp .ne 7, 3) := by decide +kernel
theorem dX12_statement__647 : decode cX12_statement_ 647 = .ok (.iconst 1, 1) := by decide +kernel
theorem dX12_statement__648 : decode cX12_statement_ 648 = .ok (.goto 4, 3) := by decide +kernel
theorem dX12_statement__651 : decode cX12_statement_ 651 = .ok (.iconst 2, 1) := by decide +kernel
theorem dX12_statement__652 : decode cX12_statement_ 652 = .ok (.putfield 663, 3) := by decide +kernel
theorem dX12_statement__655 : decode cX12_statement_ 655 = .ok (.aload_n 0, 1) := by decide +kernel
theorem dX12_statement__656 : decode cX12_statement_ 656 = .ok (.bipush 10, 2) := by decide +kernel
theorem dX12_statement__658 : decode cX12_statement_ 658 = .ok (.invokevirtual 671, 3) := by decide +kernel
theorem dX12_statement__661 : decode cX12_statement_ 661 = .ok (.aload_n 0, 1) := by decide +kernel
theorem dX12_statement__662 : decode cX12_statement_ 662 = .ok (.aload_n 0, 1) := by decide +kernel
theorem dX12_statement__663 : decode cX12_statement_ 663 = .ok (.getfield 663, 3) := by decide +kernel
theorem dX12_statement__666 : decode cX12_statement_ 666 = .ok (.iconst 1, 1) := by decide +kernel
theorem dX12_statement__667 : decode cX12_statement_ 667 = .ok (.if_icmp .ne 9, 3) := by decide +kernel
theorem dX12_statement__670 : decode cX12_statement_ 670 = .ok (.ldc_w 764, 3) := by decide +kernel
theorem dX12_statement__673 : decode cX12_statement_ 673 = .ok (.goto 6, 3) := by decide +kernel
theorem dX12_statement__676 : decode cX12_statement_ 676 = .ok (.ldc_w 766, 3) := by decide +kernel
theorem dX12_statement__679 : decode cX12_statement_ 679 = .ok (.invokevirtual 768, 3) := by decide +kernel
theorem dX12_statement__682 : decode cX12_statement_ 682 = .ok (.aload_n 0, 1) := by decide +kernel
theorem dX12_statement__683 : decode cX12_statement_ 683 = .ok (.iconst 2, 1) := by decide +kernel
theorem dX12_statement__684 : decode cX12_statement_ 684 = .ok (.putfield 685, 3) := by decide +kernel
theorem dX12_statement__687 : decode cX12_statement_ 687 = .ok (.goto 21, 3) := by decide +kernel
theorem dX12_statement__690 : decode cX12_statement_ 690 = .ok (.aload_n 0, 1) := by decide +kernel
theorem dX12_statement__691 : decode cX12_statement_ 691 = .ok (.aload_n 0, 1) := by decide +kernel
theorem dX12_statement__692 : decode cX12_statement_ 692 = .ok (.getfield 149, 3) := by decide +kernel
theorem dX12_statement__695 : decode cX12_statement_ 695 = .ok (.iload_n 1, 1) := by decide +kernel
theorem dX12_statement__696 : decode cX12_statement_ 696 = .ok (.iaload, 1) := by decide +kernel
theorem dX12_statement__697 : decode cX12_statement_ 697 = .ok (.aload_n 0, 1) := by decide +kernel
theorem dX12_statement__698 : decode cX12_statement_ 698 = .ok (.getfield 146, 3) := by decide +kernel
theorem dX12_statement__701 : decode cX12_statement_ 701 = .ok (.iload_n 1, 1) := by decide +kernel
theorem dX12_statement__702 : decode cX12_statement_ 702 = .ok (.iaload, 1) := by decide +kernel
theorem dX12_statement__703 : decode cX12_statement_ 703 = .ok (.iload_n 2, 1) := by decide +kernel
theorem dX12_statement__704 : decode cX12_statement_ 704 = .ok (.invokevirtual 771, 3) := by decide +kernel
theorem dX12_statement__707 : decode cX12_statement_ 707 = .ok (.pop, 1) := by decide +kernel
theorem dX12_statement__708 : decode cX12_statement_ 708 = .ok (.return_, 1) := by decide +kernel
theorem dX12_call_0 : decode cX12_call 0 = .ok (.aload_n 0, 1) := by decide +kernel
theorem dX12_call_1 : decode cX12_call 1 = .ok (.getfield 700, 3) := by decide +kernel
theorem dX12_call_4 : decode cX12_call 4 = .ok (.istore 4, 2) := by decide +kernel
theorem dX12_call_6 : decode cX12_call 6 = .ok (.iload_n 2, 1) := by decide +kernel
theorem dX12_call_7 : decode cX12_call 7 = .ok (.istore 5, 2) := by decide +kernel
theorem dX12_call_9 : decode cX12_call 9 = .ok (.iload 5, 2) := by decide +kernel
theorem dX12_call_11 : decode cX12_call 11 = .ok (.ifCond .lt 49, 3) := by decide +kernel
theorem dX12_call_14 : decode cX12_call 14 = .ok (.aload_n 0, 1) := by decide +kernel
theorem dX12_call_15 : decode cX12_call 15 = .ok (.getfield 685, 3) := by decide +kernel
theorem dX12_call_18 : decode cX12_call 18 = .ok (.ifCond .ne 42, 3) := by decide +kernel
theorem dX12_call_21 : decode cX12_call 21 = .ok (.aload_n 0, 1) := by decide +kernel
theorem dX12_call_22 : decode cX12_call 22 = .ok (.iload 5, 2) := by decide +kernel
theorem dX12_call_24 : decode cX12_call 24 = .ok (.iload_n 3, 1) := by decide +kernel
theorem dX12_call_25 : decode cX12_call 25 = .ok (.invokevirtual 752, 3) := by decide +kernel
theorem dX12_call_28 : decode cX12_call 28 = .ok (.istore 6, 2) := by decide +kernel
theorem dX12_call_30 : decode cX12_call 30 = .ok (.aload_n 0, 1) := by decide +kernel
theorem dX12_call_31 : decode cX12_call 31 = .ok (.getfield 222, 3) := by decide +kernel
theorem dX12_call_34 : decode cX12_call 34 = .ok (.aload_n 0, 1) := by decide +kernel
theorem dX12_call_35 : decode cX12_call 35 = .ok (.dup, 1) := by decide +kernel
theorem dX12_call_36 : decode cX12_call 36 = .ok (.getfield 700, 3) := by decide +kernel
theorem dX12_call_39 : decode cX12_call 39 = .ok (.dup_x1, 1) := by decide +kernel
theorem dX12_call_40 : decode cX12_call 40 = .ok (.iconst 1, 1) := by decide +kernel
theorem dX12_call_41 : decode cX12_call 41 = .ok (.iadd, 1) := by decide +kernel
theorem dX12_call_42 : decode cX12_call 42 = .ok (.putfield 700, 3) := by decide +kernel
theorem dX12_call_45 : decode cX12_call 45 = .ok (.iload 6, 2) := by decide +kernel
theorem dX12_call_47 : decode cX12_call 47 = .ok (.iastore, 1) := by decide +kernel
theorem dX12_call_48 : decode cX12_call 48 = .ok (.aload_n 0, 1) := by decide +kernel
theorem dX12_call_49 : decode cX12_call 49 = .ok (.getfield 152, 3) := by decide +kernel
theorem dX12_call_52 : decode cX12_call 52 = .ok (.iload 5, 2) := by decide +kernel
theorem dX12_call_54 : decode cX12_call 54 = .ok (.iaload, 1) := by decide +kernel
theorem dX12_call_55 : decode cX12_call 55 = .ok (.istore 5, 2) := by decide +kernel
theorem dX12_call_57 : decode cX12_call 57 = .ok (.goto (-48), 3) := by decide +kernel
theorem dX12_call_60 : decode cX12_call 60 = .ok (.aload_n 0, 1) := by decide +kernel
theorem dX12_call_61 : decode cX12_call 61 = .ok (.getfield 685, 3) := by decide +kernel
theorem dX12_call_64 : decode cX12_call 64 = .ok (.ifCond .ne 14, 3) := by decide +kernel
theorem dX12_call_67 : decode cX12_call 67 = .ok (.aload_n 0, 1) := by decide +kernel
theorem dX12_call_68 : decode cX12_call 68 = .ok (.iload_n 1, 1) := by decide +kernel
theorem dX12_call_69 : decode cX12_call 69 = .ok (.iload 4, 2) := by decide +kernel
theorem dX12_call_71 : decode cX12_call 71 = .ok (.iload_n 3, 1) := by decide +kernel
theorem dX12_call_72 : decode cX12_call 72 = .ok (.invokevirtual 714, 3) := by decide +kernel
theorem dX12_call_75 : decode cX12_call 75 = .ok (.goto 4, 3) := by decide +kernel
theorem dX12_call_78 : decode cX12_call 78 = .ok (.iconst 0, 1) := by decide +kernel
theorem dX12_call_79 : decode cX12_call 79 = .ok (.istore 5, 2) := by decide +kernel
theorem dX12_call_81 : decode cX12_call 81 = .ok (.aload_n 0, 1) := by decide +kernel
theorem dX12_call_82 : decode cX12_call 82 = .ok (.iload 4, 2) := by decide +kernel
theorem dX12_call_84 : decode cX12_call 84 = .ok (.putfield 700, 3) := by decide +kernel
theorem dX12_call_87 : decode cX12_call 87 = .ok (.iload 5, 2) := by decide +kernel
theorem dX12_call_89 : decode cX12_call 89 = .ok (.ireturn, 1) := by decide +kernel
theorem dX12_tell_0 : decode cX12_tell 0 = .ok (.aload_n 0, 1) := by decide +kernel
theorem dX12_tell_1 : decode cX12_tell 1 = .ok (.getfield 137, 3) := by decide +kernel
theorem dX12_tell_4 : decode cX12_tell 4 = .ok (.iload_n 1, 1) := by decide +kernel
theorem dX12_tell_5 : decode cX12_tell 5 = .ok (.iaload, 1) := by decide +kernel
theorem dX12_tell_6 : decode cX12_tell 6 = .ok (.bipush 35, 2) := by decide +kernel
theorem dX12_tell_8 : decode cX12_tell 8 = .ok (.if_icmp .ne 22, 3) := by decide +kernel
theorem dX12_tell_11 : decode cX12_tell 11 = .ok (.aload_n 0, 1) := by decide +kernel
theorem dX12_tell_12 : decode cX12_tell 12 = .ok (.aload_n 0, 1) := by decide +kernel
theorem dX12_tell_13 : decode cX12_tell 13 = .ok (.getfield 140, 3) := by decide +kernel
theorem dX12_tell_16 : decode cX12_tell 16 = .ok (.iload_n 1, 1) := by decide +kernel
theorem dX12_tell_17 : decode cX12_tell 17 = .ok (.iaload, 1) := by decide +kernel
theorem dX12_tell_18 : decode cX12_tell 18 = .ok (.iconst 1, 1) := by decide +kernel
theorem dX12_tell_19 : decode cX12_tell 19 = .ok (.iadd, 1) := by decide +kernel
theorem dX12_tell_20 : decode cX12_tell 20 = .ok (.aload_n 0, 1) := by decide +kernel
theorem dX12_tell_21 : decode cX12_tell 21 = .ok (.getfield 146, 3) := by decide +kernel
theorem dX12_tell_24 : decode cX12_tell 24 = .ok (.iload_n 1, 1) := by decide +kernel
theorem dX12_tell_25 : decode cX12_tell 25 = .ok (.iaload, 1) := by decide +kernel
theorem dX12_tell_26 : decode cX12_tell 26 = .ok (.invokevirtual 679, 3) := by decide +kernel
theorem dX12_tell_29 : decode cX12_tell 29 = .ok (.return_, 1) := by decide +kernel
theorem dX12_tell_30 : decode cX12_tell 30 = .ok (.aload_n 0, 1) := by decide +kernel
theorem dX12_tell_31 : decode cX12_tell 31 = .ok (.aload_n 0, 1) := by decide +kernel
theorem dX12_tell_32 : decode cX12_tell 32 = .ok (.getfield 143, 3) := by decide +kernel
theorem dX12_tell_35 : decode cX12_tell 35 = .ok (.iload_n 1, 1) := by decide +kernel
theorem dX12_tell_36 : decode cX12_tell 36 = .ok (.iaload, 1) := by decide +kernel
theorem dX12_tell_37 : decode cX12_tell 37 = .ok (.iload_n 2, 1) := by decide +kernel
theorem dX12_tell_38 : decode cX12_tell 38 = .ok (.invokevirtual 752, 3) := by decide +kernel
theorem dX12_tell_41 : decode cX12_tell 41 = .ok (.istore_n 3, 1) := by decide +kernel
theorem dX12_tell_42 : decode cX12_tell 42 = .ok (.aload_n 0, 1) := by decide +kernel
theorem dX12_tell_43 : decode cX12_tell 43 = .ok (.getfield 685, 3) := by decide +kernel
theorem dX12_tell_46 : decode cX12_tell 46 = .ok (.ifCond .eq 4, 3) := by decide +kernel
theorem dX12_tell_49 : decode cX12_tell 49 = .ok (.return_, 1) := by decide +kernel
theorem dX12_tell_50 : decode cX12_tell 50 = .ok (.aload_n 0, 1) := by decide +kernel
theorem dX12_tell_51 : decode cX12_tell 51 = .ok (.getfield 137, 3) := by decide +kernel
theorem dX12_tell_54 : decode cX12_tell 54 = .ok (.iload_n 1, 1) := by decide +kernel
theorem dX12_tell_55 : decode cX12_tell 55 = .ok (.iaload, 1) := by decide +kernel
theorem dX12_tell_56 : decode cX12_tell 56 = .ok (.bipush 36, 2) := by decide +kernel
theorem dX12_tell_58 : decode cX12_tell 58 = .ok (.if_icmp .ne 11, 3) := by decide +kernel
theorem dX12_tell_61 : decode cX12_tell 61 = .ok (.aload_n 0, 1) := by decide +kernel
theorem dX12_tell_62 : decode cX12_tell 62 = .ok (.iload_n 3, 1) := by decide +kernel
theorem dX12_tell_63 : decode cX12_tell 63 = .ok (.invokevirtual 780, 3) := by decide +kernel
theorem dX12_tell_66 : decode cX12_tell 66 = .ok (.goto 16, 3) := by decide +kernel
theorem dX12_tell_69 : decode cX12_tell 69 = .ok (.aload_n 0, 1) := by decide +kernel
theorem dX12_tell_70 : decode cX12_tell 70 = .ok (.iload_n 3, 1) := by decide +kernel
theorem dX12_tell_71 : decode cX12_tell 71 = .ok (.invokevirtual 736, 3) := by decide +kernel
theorem dX12_tell_74 : decode cX12_tell 74 = .ok (.ifCond .eq 8, 3) := by decide +kernel
theorem dX12_tell_77 : decode cX12_tell 77 = .ok (.aload_n 0, 1) := by decide +kernel
theorem dX12_tell_78 : decode cX12_tell 78 = .ok (.iload_n 3, 1) := by decide +kernel
theorem dX12_tell_79 : decode cX12_tell 79 = .ok (.invokevirtual 783, 3) := by decide +kernel
theorem dX12_tell_82 : decode cX12_tell 82 = .ok (.return_, 1) := by decide +kernel
def F_X12_eval (rec : GF) (p0 : Int32) (p1 : Int32) (σ : MS) : MR :=
  (F_X12_toDo p0 0 σ).bind fun u_1 =>
  loopF (fun (again_4 : (MS) → MR) (s_3 : MS) => (
    bnd (fun  (σ_7 : MS) => (
      bnd (mI σ_7 113 (σ.1 113)) fun σ_11 =>
      bnd (mI σ_11 115 (σ.1 115)) fun σ_13 =>
      if (σ_13.1 104) = 0 then (
        bnd ((σ.1 115)) fun (x_17 : Int32) =>
        if x_17 < 0 ∨ 9000 ≤ x_17.toNatClampNeg then none else
        some ((σ_13.2 114 x_17.toNatClampNeg), σ_13)
      ) else (
        some (0, σ_13)
      )
    ) : MS → MR) fun j_8 =>
    if (s_3.1 113) ≤ (σ.1 113) then (
      j_8  s_3
    ) else (
      if (s_3.1 104) = 0 then (
        bnd (mI s_3 113 ((s_3.1 113) - 1)) fun σ_27 =>
        bnd (((s_3.1 113) - 1)) fun (x_29 : Int32) =>
        if x_29 < 0 ∨ 130000 ≤ x_29.toNatClampNeg then none else
        bnd ((σ_27.2 112 x_29.toNatClampNeg)) fun (x_33 : Int32) =>
        bnd (fun  (σ_35 : MS) => (
          again_4 σ_35
        ) : MS → MR) fun j_36 =>
        if (x_33 &&& 3) = 0 then (
          (F_X12_opens_ (x_33 >>> (2 &&& 31)) p1 σ_27).bind fun u_41 =>
          j_36  u_41.2
        ) else (
          bnd ((x_33 >>> (2 &&& 31))) fun (x_44 : Int32) =>
          if x_44 < 0 ∨ 40000 ≤ x_44.toNatClampNeg then none else
          if (σ_27.2 64 x_44.toNatClampNeg) = 42 then (
            (rec 1 (x_33 >>> (2 &&& 31)) p1 0 σ_27).bind fun u_50 =>
            j_36  u_50.2
          ) else (
            (F_X12_closes (x_33 >>> (2 &&& 31)) (x_33 &&& 3) σ_27).bind fun u_53 =>
            j_36  u_53.2
          )
        )
      ) else (
        j_8  s_3
      )
    )
  )) FU u_1.2
set_option maxHeartbeats 4000000 in
set_option maxRecDepth 100000 in
theorem m_X12_eval_st (l : Launch) (dC : Nat → ClassId) (dI : Nat → Nat → Nat) (cB cC cI cJ cZ cP : ClassId) (h qK qS : Nat) (ad : Nat → Nat) (hDD : mDis cB cI cZ h qK qS ad) (d : Nat) (rec : GF) (hI0 : ∀ (sz : Nat) (p0 : Int32) (p1 : Int32) (σ : MS) (res : Int32 × MS), rec 0 p0 p1 0 σ = some res → Met l yX12_eval (g_ws yX12_eval cX12_eval 6 (some .int)) ({ frames := 7 + d, cells := 0, slots := 0, locals := 168 + 26 * d }) (va_Pc [.ref h, .int p0, .int p1] (m_B (dC, dI) [(cB, .byte), (cC, .char), (cI, .int), (cJ, .long), (cZ, .boolean), (cP, .object "StoryHouse$Play")] sz h ad qK qS (mW cB cI cZ h qK qS ad σ) g_0)) (va_Qi (fun r (_ : Unit) => r = res.1) (fun _ t => va_P (dC, dI) vwCl (mW cB cI cZ h qK qS ad res.2) t.heap) (mCells h ad sz)) 0 0 (mCells h ad sz)) (hI1 : ∀ (sz : Nat) (p0 : Int32) (p1 : Int32) (σ : MS) (res : Int32 × MS), rec 1 p0 p1 0 σ = some res → Met l yX12_calls (g_ws yX12_calls cX12_calls 5 none) ({ frames := 7 + d, cells := 0, slots := 0, locals := 168 + 26 * d }) (va_Pc [.ref h, .int p0, .int p1] (m_B (dC, dI) [(cB, .byte), (cC, .char), (cI, .int), (cJ, .long), (cZ, .boolean), (cP, .object "StoryHouse$Play")] sz h ad qK qS (mW cB cI cZ h qK qS ad σ) g_0)) (va_Qv (fun (_ : Unit) => True) (fun _ t => va_P (dC, dI) vwCl (mW cB cI cZ h qK qS ad res.2) t.heap) (mCells h ad sz)) 0 0 (mCells h ad sz)) (hI2 : ∀ (sz : Nat) (p0 : Int32) (p1 : Int32) (p2 : Int32) (σ : MS) (res : Int32 × MS), rec 2 p0 p1 p2  σ = some res → Met l yX12_goIn (g_ws yX12_goIn cX12_goIn 6 (some .int)) ({ frames := 7 + d, cells := 0, slots := 0, locals := 168 + 26 * d }) (va_Pc [.ref h, .int p0, .int p1, .int p2] (m_B (dC, dI) [(cB, .byte), (cC, .char), (cI, .int), (cJ, .long), (cZ, .boolean), (cP, .object "StoryHouse$Play")] sz h ad qK qS (mW cB cI cZ h qK qS ad σ) g_0)) (va_Qi (fun r (_ : Unit) => r = res.1) (fun _ t => va_P (dC, dI) vwCl (mW cB cI cZ h qK qS ad res.2) t.heap) (mCells h ad sz)) 0 0 (mCells h ad sz)) (hI3 : ∀ (sz : Nat) (p0 : Int32) (p1 : Int32) (σ : MS) (res : Int32 × MS), rec 3 p0 p1 0 σ = some res → Met l yX12_statement_ (g_ws yX12_statement_ cX12_statement_ 6 none) ({ frames := 7 + d, cells := 0, slots := 0, locals := 168 + 26 * d }) (va_Pc [.ref h, .int p0, .int p1] (m_B (dC, dI) [(cB, .byte), (cC, .char), (cI, .int), (cJ, .long), (cZ, .boolean), (cP, .object "StoryHouse$Play")] sz h ad qK qS (mW cB cI cZ h qK qS ad σ) g_0)) (va_Qv (fun (_ : Unit) => True) (fun _ t => va_P (dC, dI) vwCl (mW cB cI cZ h qK qS ad res.2) t.heap) (mCells h ad sz)) 0 0 (mCells h ad sz)) (hI4 : ∀ (sz : Nat) (p0 : Int32) (p1 : Int32) (p2 : Int32) (σ : MS) (res : Int32 × MS), rec 4 p0 p1 p2  σ = some res → Met l yX12_call (g_ws yX12_call cX12_call 7 (some .int)) ({ frames := 7 + d, cells := 0, slots := 0, locals := 168 + 26 * d }) (va_Pc [.ref h, .int p0, .int p1, .int p2] (m_B (dC, dI) [(cB, .byte), (cC, .char), (cI, .int), (cJ, .long), (cZ, .boolean), (cP, .object "StoryHouse$Play")] sz h ad qK qS (mW cB cI cZ h qK qS ad σ) g_0)) (va_Qi (fun r (_ : Unit) => r = res.1) (fun _ t => va_P (dC, dI) vwCl (mW cB cI cZ h qK qS ad res.2) t.heap) (mCells h ad sz)) 0 0 (mCells h ad sz)) (hI5 : ∀ (sz : Nat) (p0 : Int32) (p1 : Int32) (σ : MS) (res : Int32 × MS), rec 5 p0 p1 0 σ = some res → Met l yX12_tell (g_ws yX12_tell cX12_tell 4 none) ({ frames := 7 + d, cells := 0, slots := 0, locals := 168 + 26 * d }) (va_Pc [.ref h, .int p0, .int p1] (m_B (dC, dI) [(cB, .byte), (cC, .char), (cI, .int), (cJ, .long), (cZ, .boolean), (cP, .object "StoryHouse$Play")] sz h ad qK qS (mW cB cI cZ h qK qS ad σ) g_0)) (va_Qv (fun (_ : Unit) => True) (fun _ t => va_P (dC, dI) vwCl (mW cB cI cZ h qK qS ad res.2) t.heap) (mCells h ad sz)) 0 0 (mCells h ad sz)) (sz : Nat)  (p0 : Int32) (p1 : Int32) (σ : MS) (res : Int32 × MS) (hF : F_X12_eval rec p0 p1 σ = some res) : Met l yX12_eval (g_ws yX12_eval cX12_eval 6 (some .int)) ({ frames := 7 + (d + 1), cells := 0, slots := 0, locals := 168 + 26 * (d + 1) }) (va_Pc [.ref h, .int p0, .int p1] (m_B (dC, dI) [(cB, .byte), (cC, .char), (cI, .int), (cJ, .long), (cZ, .boolean), (cP, .object "StoryHouse$Play")] sz h ad qK qS (mW cB cI cZ h qK qS ad σ) g_0)) (va_Qi (fun r (_ : Unit) => r = res.1) (fun _ t => va_P (dC, dI) vwCl (mW cB cI cZ h qK qS ad res.2) t.heap) (mCells h ad sz)) 0 0 (mCells h ad sz) := by
  refine Met.ofW (cc := cX12_eval) (maxL := 6) (ret := (some .int)) (by decide) rfl ?_
  intro p e s m args below meth c s₁ B hml hv
  obtain ⟨rfl, hsz, hP, hK, hE, hKS, hX⟩ := hv
  have hx := B.exec
  have hb := B.bytes
  have hr := B.returns
  have hts0 := atoms_spec (ws := g_ws yX12_eval cX12_eval 6 (some .int)) B.pre
  have hts : ∀ w ∈ lw_good, w.before ([.ref h, .int p0, .int p1] : List Value).toArray s = true := fun w z => hts0 w (List.mem_cons_of_mem _ z)
  have hown : s.vm.findClass RX12 = some m.cls := findClass_of_methodNamed B.named
  have hlocks := B.notSynchronized
  have hS : va_S (mCells h ad sz) s.heap s.heap [] := va_S.rf
  have hl := lv_entry ([.ref h, .int p0, .int p1]) (n := 6) (Nat.le_of_ble_eq_true rfl)
  rw [lg_entry_eq]
  generalize (lg_sl ([.ref h, .int p0, .int p1]) ++ List.replicate (6 - (lg_sl ([.ref h, .int p0, .int p1])).length) Slot.unset).toArray = ls at hl ⊢
  have hl : lv_has ls 6 [(0, .ref h), (1, .int p0), (2, .int p1)] := hl
  unfold F_X12_eval at hF
  refine lv_aload_n hx hb dX12_eval_0 rfl (lv_at hl 0 rfl) ?_
  refine va_get (D := (dC, dI)) (ci := 12) (v := .int (σ.1 113)) (C := RX12) (T := TX12) (N := 123) hx hb hts ii_X12 hown hK hP 0 rfl rfl 113 (by decide) (hts (.fieldLink RX12 697 "StoryHouseModel" "works" "I") wq_1469) (fun _ h9 => h9) rfl dX12_eval_1 ?_
  refine lv_istore_n (lv' := [(3, .int (σ.1 113)), (0, .ref h), (1, .int p0), (2, .int p1)]) hx hb dX12_eval_4 rfl hl (by decide) rfl (fun ls hl => ?_)
  refine lv_aload_n hx hb dX12_eval_5 rfl (lv_at hl 1 rfl) ?_
  refine va_get (D := (dC, dI)) (ci := 12) (v := .int (σ.1 115)) (C := RX12) (T := TX12) (N := 123) hx hb hts ii_X12 hown hK hP 0 rfl rfl 115 (by decide) (hts (.fieldLink RX12 700 "StoryHouseModel" "waiting" "I") wq_1471) (fun _ h9 => h9) rfl dX12_eval_6 ?_
  refine lv_istore (lv' := [(4, .int (σ.1 115)), (3, .int (σ.1 113)), (0, .ref h), (1, .int p0), (2, .int p1)]) hx hb dX12_eval_9 hl (by decide) rfl (fun ls hl => ?_)
  refine lv_aload_n hx hb dX12_eval_11 rfl (lv_at hl 2 rfl) ?_
  refine lv_iload_n hx hb dX12_eval_12 rfl (lv_at hl 3 rfl) ?_
  refine lv_iconst (v := 0) hx hb dX12_eval_13 (by decide +kernel) ?_
  obtain ⟨u_1, hu_1, hF_2⟩ := Option.bind_eq_some_iff.mp hF
  clear hF
  refine m_cv hsz hS (va_runV (As := [.int p0, .int 0]) (rest := []) ⟨hx, hb, hml, hown, hts⟩ (m_X12_toDo l dC dI cB cC cI cJ cZ cP h qK qS ad hDD s.heap.size  p0 0 σ _ hu_1) (cwV 2 hts (g_gV wq_1822 wq_1823 wq_2215 wq_13 wq_1824) rfl rfl rfl (by decide +kernel) ⟨by show 1 + 1 ≤ 7 + (d + 1); omega, by show 8 + (3 + 11) + 40 ≤ 168 + 26 * (d + 1); omega⟩) (m_preV g_bl0 hsz hK hP hS hE hKS g_to0) rfl rfl hl.1 rfl (lv_room (Nat.le_of_ble_eq_true rfl)) dX12_eval_14 ⟨Nat.le_of_ble_eq_true rfl, Nat.le_of_ble_eq_true rfl⟩) (fun H locs hP hS => ?_)
  refine loopF_ind (P := fun (s_3 : MS) => ∀ (H : Heap) (locs : List Loc), va_P (dC, dI) vwCl (mW cB cI cZ h qK qS ad s_3) H → va_S (mCells h ad sz) s.heap H locs → ∀ ls : Array Slot, lv_has ls 6 [(0, .ref h), (2, .int p1), (3, .int (σ.1 113)), (4, .int (σ.1 115))] → W p l e (headSpec (g_ws yX12_eval cX12_eval 6 (some .int)) { frames := 7 + (d + 1), cells := 0, slots := 0, locals := 168 + 26 * (d + 1) }).room s m ([.ref h, .int p0, .int p1] : List Value).toArray below meth c H locs 0 0 (MQ below (va_Qi (fun r (_ : Unit) => r = res.1) (fun _ t => va_P (dC, dI) vwCl (mW cB cI cZ h qK qS ad res.2) t.heap) (mCells h ad sz)) ([.ref h, .int p0, .int p1] : List Value).toArray s 0 0 (mCells h ad sz)) (F0 m 17 ls [])) ?_ _ _ hF_2 _ _ hP hS ls (lv_sub hl [2, 4, 1, 0] rfl)
  intro again_4 s_3 ih_5 hF_6
  intro H locs hP hS ls hl
  refine lv_aload_n hx hb dX12_eval_17 rfl (lv_at hl 0 rfl) ?_
  refine va_get (D := (dC, dI)) (ci := 12) (v := .int (s_3.1 113)) (C := RX12) (T := TX12) (N := 123) hx hb hts ii_X12 hown hK hP 0 rfl rfl 113 (by decide) (hts (.fieldLink RX12 697 "StoryHouseModel" "works" "I") wq_1469) (fun _ h9 => h9) rfl dX12_eval_18 ?_
  refine lv_iload_n hx hb dX12_eval_21 rfl (lv_at hl 2 rfl) ?_
  obtain ⟨j_8, ej_8, hF_9⟩ := bnd_e hF_6
  clear hF_6
  have Jj_8 : ∀  (σ_7 : MS), j_8  σ_7 = some res → ∀ (H : Heap) (locs : List Loc), va_P (dC, dI) vwCl (mW cB cI cZ h qK qS ad σ_7) H → va_S (mCells h ad sz) s.heap H locs → ∀ ls : Array Slot, lv_has ls 6 [(0, .ref h), (3, .int (σ.1 113)), (4, .int (σ.1 115))] → W p l e (headSpec (g_ws yX12_eval cX12_eval 6 (some .int)) { frames := 7 + (d + 1), cells := 0, slots := 0, locals := 168 + 26 * (d + 1) }).room s m ([.ref h, .int p0, .int p1] : List Value).toArray below meth c H locs 0 0 (MQ below (va_Qi (fun r (_ : Unit) => r = res.1) (fun _ t => va_P (dC, dI) vwCl (mW cB cI cZ h qK qS ad res.2) t.heap) (mCells h ad sz)) ([.ref h, .int p0, .int p1] : List Value).toArray s 0 0 (mCells h ad sz)) (F0 m 110 ls []) := by
    intro  σ_7 hF0 H locs hP hS ls hl
    subst ej_8
    have hF_10 := hF0
    clear hF0
    refine lv_aload_n hx hb dX12_eval_110 rfl (lv_at hl 0 rfl) ?_
    refine lv_iload_n hx hb dX12_eval_111 rfl (lv_at hl 1 rfl) ?_
    obtain ⟨σ_11, eσ_11, hF_12⟩ := bnd_e hF_10
    clear hF_10
    refine m_put (σ' := σ_11) (v := .int (σ.1 113)) (ty := .int) hx hb hts hown hK hP (hDD _ _) hS (by rw [eσ_11]; exact mwI_113) (k := 113) (by decide) (hts (.fieldLink RX12 697 "StoryHouseModel" "works" "I") wq_1469) (fun _ h9 => h9) rfl (by decide +kernel) rfl rfl dX12_eval_112 (fun H locs hP hS => ?_)
    refine lv_aload_n hx hb dX12_eval_115 rfl (lv_at hl 0 rfl) ?_
    refine lv_iload hx hb dX12_eval_116 (lv_at hl 2 rfl) ?_
    obtain ⟨σ_13, eσ_13, hF_14⟩ := bnd_e hF_12
    clear hF_12
    refine m_put (σ' := σ_13) (v := .int (σ.1 115)) (ty := .int) hx hb hts hown hK hP (hDD _ _) hS (by rw [eσ_13]; exact mwI_115) (k := 115) (by decide) (hts (.fieldLink RX12 700 "StoryHouseModel" "waiting" "I") wq_1471) (fun _ h9 => h9) rfl (by decide +kernel) rfl rfl dX12_eval_118 (fun H locs hP hS => ?_)
    refine lv_aload_n hx hb dX12_eval_121 rfl (lv_at hl 0 rfl) ?_
    refine va_get (D := (dC, dI)) (ci := 12) (v := .int (σ_13.1 104)) (C := RX12) (T := TX12) (N := 123) hx hb hts ii_X12 hown hK hP 0 rfl rfl 104 (by decide) (hts (.fieldLink RX12 685 "StoryHouseModel" "stop" "I") wq_1460) (fun _ h9 => h9) rfl dX12_eval_122 ?_
    refine lv_if_ne (tgt := 138) hx hb dX12_eval_125 (by decide) (fun c_15 => ?_) (fun c_15 => ?_)
    · have hF_21 := ineg c_15 hF_14
      clear hF_14
      refine lv_iconst (v := 0) hx hb dX12_eval_138 (by decide +kernel) ?_
      have h9 := Option.some.inj hF_21
      subst h9
      exact W.iret (v := 0) hx hb hr (fun t ht hW => ⟨⟨0, (), rfl, rfl, m_end ht hP⟩, hS.F ht⟩) hS.2.2 dX12_eval_139
    · have hF_16 := ipos c_15 hF_14
      clear hF_14
      refine lv_aload_n hx hb dX12_eval_128 rfl (lv_at hl 0 rfl) ?_
      refine va_get (D := (dC, dI)) (ci := 12) (v := .ref (ad 114)) (C := RX12) (T := TX12) (N := 123) hx hb hts ii_X12 hown hK hP 0 rfl rfl 114 (by decide) (hts (.fieldLink RX12 222 "StoryHouseModel" "waits" "[I") wq_1470) (fun _ h9 => h9) rfl dX12_eval_129 ?_
      refine lv_iload hx hb dX12_eval_132 (lv_at hl 2 rfl) ?_
      obtain ⟨x_17, ex_17, hF_18⟩ := bnd_e hF_16
      clear hF_16
      refine m_top ex_17 ?_
      obtain ⟨g_19, hF_20⟩ := nif_e hF_18
      clear hF_18
      refine va_iald (f := σ_13.2 114) hx hb hK hP 64 2 rfl rfl g_19 dX12_eval_134 ?_
      refine lv_goto (tgt := 139) hx hb dX12_eval_135 (by decide) ?_
      have h9 := Option.some.inj hF_20
      subst h9
      exact W.iret (v := (σ_13.2 114 x_17.toNatClampNeg)) hx hb hr (fun t ht hW => ⟨⟨(σ_13.2 114 x_17.toNatClampNeg), (), rfl, rfl, m_end ht hP⟩, hS.F ht⟩) hS.2.2 dX12_eval_139
  refine lv_icmp_le (tgt := 110) hx hb dX12_eval_22 (by decide) (fun c_22 => ?_) (fun c_22 => ?_)
  · have hF_23 := ipos c_22 hF_9
    clear hF_9
    exact Jj_8  s_3 hF_23 _ _ hP hS ls (lv_sub hl [0, 2, 3] rfl)
  · have hF_24 := ineg c_22 hF_9
    clear hF_9
    refine lv_aload_n hx hb dX12_eval_25 rfl (lv_at hl 0 rfl) ?_
    refine va_get (D := (dC, dI)) (ci := 12) (v := .int (s_3.1 104)) (C := RX12) (T := TX12) (N := 123) hx hb hts ii_X12 hown hK hP 0 rfl rfl 104 (by decide) (hts (.fieldLink RX12 685 "StoryHouseModel" "stop" "I") wq_1460) (fun _ h9 => h9) rfl dX12_eval_26 ?_
    refine lv_if_ne (tgt := 110) hx hb dX12_eval_29 (by decide) (fun c_25 => ?_) (fun c_25 => ?_)
    · have hF_55 := ineg c_25 hF_24
      clear hF_24
      exact Jj_8  s_3 hF_55 _ _ hP hS ls (lv_sub hl [0, 2, 3] rfl)
    · have hF_26 := ipos c_25 hF_24
      clear hF_24
      refine lv_aload_n hx hb dX12_eval_32 rfl (lv_at hl 0 rfl) ?_
      refine va_get (D := (dC, dI)) (ci := 12) (v := .ref (ad 112)) (C := RX12) (T := TX12) (N := 123) hx hb hts ii_X12 hown hK hP 0 rfl rfl 112 (by decide) (hts (.fieldLink RX12 219 "StoryHouseModel" "work" "[I") wq_1468) (fun _ h9 => h9) rfl dX12_eval_33 ?_
      refine lv_aload_n hx hb dX12_eval_36 rfl (lv_at hl 0 rfl) ?_
      refine lv_dup hx hb dX12_eval_37 rfl ?_
      refine va_get (D := (dC, dI)) (ci := 12) (v := .int (s_3.1 113)) (C := RX12) (T := TX12) (N := 123) hx hb hts ii_X12 hown hK hP 0 rfl rfl 113 (by decide) (hts (.fieldLink RX12 697 "StoryHouseModel" "works" "I") wq_1469) (fun _ h9 => h9) rfl dX12_eval_38 ?_
      refine lv_iconst (v := 1) hx hb dX12_eval_41 (by decide +kernel) ?_
      refine lv_isub hx hb dX12_eval_42 ?_
      refine lv_dup_x1 hx hb dX12_eval_43 rfl rfl ?_
      obtain ⟨σ_27, eσ_27, hF_28⟩ := bnd_e hF_26
      clear hF_26
      refine m_put (σ' := σ_27) (v := .int ((s_3.1 113) - 1)) (ty := .int) hx hb hts hown hK hP (hDD _ _) hS (by rw [eσ_27]; exact mwI_113) (k := 113) (by decide) (hts (.fieldLink RX12 697 "StoryHouseModel" "works" "I") wq_1469) (fun _ h9 => h9) rfl (by decide +kernel) rfl rfl dX12_eval_44 (fun H locs hP hS => ?_)
      obtain ⟨x_29, ex_29, hF_30⟩ := bnd_e hF_28
      clear hF_28
      refine m_top ex_29 ?_
      obtain ⟨g_31, hF_32⟩ := nif_e hF_30
      clear hF_30
      refine va_iald (f := σ_27.2 112) hx hb hK hP 63 2 rfl rfl g_31 dX12_eval_47 ?_
      obtain ⟨x_33, ex_33, hF_34⟩ := bnd_e hF_32
      clear hF_32
      refine m_top ex_33 ?_
      refine lv_istore (lv' := [(5, .int x_33), (0, .ref h), (2, .int p1), (3, .int (σ.1 113)), (4, .int (σ.1 115))]) hx hb dX12_eval_48 hl (by decide) rfl (fun ls hl => ?_)
      refine lv_iload hx hb dX12_eval_50 (lv_at hl 0 rfl) ?_
      refine lv_iconst (v := 3) hx hb dX12_eval_52 (by decide +kernel) ?_
      refine lv_iand hx hb dX12_eval_53 ?_
      obtain ⟨j_36, ej_36, hF_37⟩ := bnd_e hF_34
      clear hF_34
      have Jj_36 : ∀  (σ_35 : MS), j_36  σ_35 = some res → ∀ (H : Heap) (locs : List Loc), va_P (dC, dI) vwCl (mW cB cI cZ h qK qS ad σ_35) H → va_S (mCells h ad sz) s.heap H locs → ∀ ls : Array Slot, lv_has ls 6 [(0, .ref h), (2, .int p1), (3, .int (σ.1 113)), (4, .int (σ.1 115))] → W p l e (headSpec (g_ws yX12_eval cX12_eval 6 (some .int)) { frames := 7 + (d + 1), cells := 0, slots := 0, locals := 168 + 26 * (d + 1) }).room s m ([.ref h, .int p0, .int p1] : List Value).toArray below meth c H locs 0 0 (MQ below (va_Qi (fun r (_ : Unit) => r = res.1) (fun _ t => va_P (dC, dI) vwCl (mW cB cI cZ h qK qS ad res.2) t.heap) (mCells h ad sz)) ([.ref h, .int p0, .int p1] : List Value).toArray s 0 0 (mCells h ad sz)) (F0 m 107 ls []) := by
        intro  σ_35 hF0 H locs hP hS ls hl
        subst ej_36
        have hF_38 := hF0
        clear hF0
        refine lv_goto (tgt := 17) hx hb dX12_eval_107 (by decide) ?_
        exact ih_5 σ_35 hF_38 _ _ hP hS ls (lv_sub hl [0, 1, 2, 3] rfl)
      refine lv_if_ne (tgt := 69) hx hb dX12_eval_54 (by decide) (fun c_39 => ?_) (fun c_39 => ?_)
      · have hF_43 := ineg c_39 hF_37
        clear hF_37
        refine lv_aload_n hx hb dX12_eval_69 rfl (lv_at hl 1 rfl) ?_
        refine va_get (D := (dC, dI)) (ci := 12) (v := .ref (ad 64)) (C := RX12) (T := TX12) (N := 123) hx hb hts ii_X12 hown hK hP 0 rfl rfl 64 (by decide) (hts (.fieldLink RX12 137 "StoryHouseModel" "bWhat" "[I") wq_1420) (fun _ h9 => h9) rfl dX12_eval_70 ?_
        refine lv_iload hx hb dX12_eval_73 (lv_at hl 0 rfl) ?_
        refine lv_iconst (v := 2) hx hb dX12_eval_75 (by decide +kernel) ?_
        refine lv_ishr hx hb dX12_eval_76 ?_
        obtain ⟨x_44, ex_44, hF_45⟩ := bnd_e hF_43
        clear hF_43
        refine m_top ex_44 ?_
        obtain ⟨g_46, hF_47⟩ := nif_e hF_45
        clear hF_45
        refine va_iald (f := σ_27.2 64) hx hb hK hP 37 2 rfl rfl g_46 dX12_eval_77 ?_
        refine lv_bipush (v := 42) hx hb dX12_eval_78 (by decide +kernel) ?_
        refine lv_icmp_ne (tgt := 95) hx hb dX12_eval_80 (by decide) (fun c_48 => ?_) (fun c_48 => ?_)
        · have hF_52 := ineg c_48 hF_47
          clear hF_47
          refine lv_aload_n hx hb dX12_eval_95 rfl (lv_at hl 1 rfl) ?_
          refine lv_iload hx hb dX12_eval_96 (lv_at hl 0 rfl) ?_
          refine lv_iconst (v := 2) hx hb dX12_eval_98 (by decide +kernel) ?_
          refine lv_ishr hx hb dX12_eval_99 ?_
          refine lv_iload hx hb dX12_eval_100 (lv_at hl 0 rfl) ?_
          refine lv_iconst (v := 3) hx hb dX12_eval_102 (by decide +kernel) ?_
          refine lv_iand hx hb dX12_eval_103 ?_
          obtain ⟨u_53, hu_53, hF_54⟩ := Option.bind_eq_some_iff.mp hF_52
          clear hF_52
          refine m_cv hsz hS (va_runV (As := [.int (x_33 >>> (2 &&& 31)), .int (x_33 &&& 3)]) (rest := []) ⟨hx, hb, hml, hown, hts⟩ (m_X12_closes l dC dI cB cC cI cJ cZ cP h qK qS ad hDD H.size  (x_33 >>> (2 &&& 31)) (x_33 &&& 3) σ_27 _ hu_53) (cwV 2 hts (g_gV wq_1843 wq_1844 wq_2222 wq_13 wq_1845) rfl rfl rfl (by decide +kernel) ⟨by show 4 + 1 ≤ 7 + (d + 1); omega, by show 8 + (4 + 11) + 105 ≤ 168 + 26 * (d + 1); omega⟩) (m_preV g_bl0 hsz hK hP hS hE hKS g_to0) rfl rfl hl.1 rfl (lv_room (Nat.le_of_ble_eq_true rfl)) dX12_eval_104 ⟨Nat.le_of_ble_eq_true rfl, Nat.le_of_ble_eq_true rfl⟩) (fun H locs hP hS => ?_)
          exact Jj_36  u_53.2 hF_54 _ _ hP hS ls (lv_sub hl [1, 2, 3, 4] rfl)
        · have hF_49 := ipos c_48 hF_47
          clear hF_47
          refine lv_aload_n hx hb dX12_eval_83 rfl (lv_at hl 1 rfl) ?_
          refine lv_iload hx hb dX12_eval_84 (lv_at hl 0 rfl) ?_
          refine lv_iconst (v := 2) hx hb dX12_eval_86 (by decide +kernel) ?_
          refine lv_ishr hx hb dX12_eval_87 ?_
          refine lv_iload_n hx hb dX12_eval_88 rfl (lv_at hl 2 rfl) ?_
          obtain ⟨u_50, hu_50, hF_51⟩ := Option.bind_eq_some_iff.mp hF_49
          clear hF_49
          refine m_cv hsz hS (va_runV (As := [.int (x_33 >>> (2 &&& 31)), .int p1]) (rest := []) ⟨hx, hb, hml, hown, hts⟩ (hI1 H.size (x_33 >>> (2 &&& 31)) p1 σ_27 _ hu_50) (cwV 2 hts (g_gV wq_1831 wq_1832 wq_2218 wq_13 wq_1833) rfl rfl rfl (by decide +kernel) ⟨by show 7 + d + 1 ≤ 7 + (d + 1); omega, by show 8 + (5 + 11) + (168 + 26 * d) ≤ 168 + 26 * (d + 1); omega⟩) (m_preV g_bl0 hsz hK hP hS hE hKS g_to0) rfl rfl hl.1 rfl (lv_room (Nat.le_of_ble_eq_true rfl)) dX12_eval_89 ⟨Nat.le_of_ble_eq_true rfl, Nat.le_of_ble_eq_true rfl⟩) (fun H locs hP hS => ?_)
          refine lv_goto (tgt := 107) hx hb dX12_eval_92 (by decide) ?_
          exact Jj_36  u_50.2 hF_51 _ _ hP hS ls (lv_sub hl [1, 2, 3, 4] rfl)
      · have hF_40 := ipos c_39 hF_37
        clear hF_37
        refine lv_aload_n hx hb dX12_eval_57 rfl (lv_at hl 1 rfl) ?_
        refine lv_iload hx hb dX12_eval_58 (lv_at hl 0 rfl) ?_
        refine lv_iconst (v := 2) hx hb dX12_eval_60 (by decide +kernel) ?_
        refine lv_ishr hx hb dX12_eval_61 ?_
        refine lv_iload_n hx hb dX12_eval_62 rfl (lv_at hl 2 rfl) ?_
        obtain ⟨u_41, hu_41, hF_42⟩ := Option.bind_eq_some_iff.mp hF_40
        clear hF_40
        refine m_cv hsz hS (va_runV (As := [.int (x_33 >>> (2 &&& 31)), .int p1]) (rest := []) ⟨hx, hb, hml, hown, hts⟩ (m_X12_opens_ l dC dI cB cC cI cJ cZ cP h qK qS ad hDD H.size  (x_33 >>> (2 &&& 31)) p1 σ_27 _ hu_41) (cwV 2 hts (g_gV wq_1825 wq_1826 wq_2216 wq_13 wq_1827) rfl rfl rfl (by decide +kernel) ⟨by show 2 + 1 ≤ 7 + (d + 1); omega, by show 8 + (6 + 11) + 62 ≤ 168 + 26 * (d + 1); omega⟩) (m_preV g_bl0 hsz hK hP hS hE hKS g_to0) rfl rfl hl.1 rfl (lv_room (Nat.le_of_ble_eq_true rfl)) dX12_eval_63 ⟨Nat.le_of_ble_eq_true rfl, Nat.le_of_ble_eq_true rfl⟩) (fun H locs hP hS => ?_)
        refine lv_goto (tgt := 107) hx hb dX12_eval_66 (by decide) ?_
        exact Jj_36  u_41.2 hF_42 _ _ hP hS ls (lv_sub hl [1, 2, 3, 4] rfl)

def F_X12_calls (rec : GF) (p0 : Int32) (p1 : Int32) (σ : MS) : MR :=
  if p0 < 0 ∨ 40000 ≤ p0.toNatClampNeg then none else
  bnd ((σ.2 67 p0.toNatClampNeg)) fun (x_3 : Int32) =>
  loopF (fun (again_6 : (Int32 × Int32 × MS) → MR) (s_5 : Int32 × Int32 × MS) => (
    if s_5.2.1 < 0 then (
      if p0 < 0 ∨ 40000 ≤ p0.toNatClampNeg then none else
      (rec 2 (s_5.2.2.2 68 p0.toNatClampNeg) ((s_5.2.2.1 115) - s_5.1) p1 s_5.2.2).bind fun u_13 =>
      bnd (mI u_13.2 115 ((u_13.2.1 115) - s_5.1)) fun σ_15 =>
      bnd (mI σ_15 115 ((σ_15.1 115) + 1)) fun σ_17 =>
      if (σ_15.1 115) < 0 ∨ 9000 ≤ (σ_15.1 115).toNatClampNeg then none else
      bnd (mA σ_17 114 (upd (σ_17.2 114) (σ_15.1 115).toNatClampNeg u_13.1)) fun σ_21 =>
      some (0, σ_21)
    ) else (
      bnd (s_5.1 + 1) fun (x_24 : Int32) =>
      if s_5.2.1 < 0 ∨ 40000 ≤ s_5.2.1.toNatClampNeg then none else
      bnd ((s_5.2.2.2 69 s_5.2.1.toNatClampNeg)) fun (x_28 : Int32) =>
      again_6 (x_24, x_28, s_5.2.2)
    )
  )) FU (0, x_3, σ)
set_option maxHeartbeats 4000000 in
set_option maxRecDepth 100000 in
theorem m_X12_calls_st (l : Launch) (dC : Nat → ClassId) (dI : Nat → Nat → Nat) (cB cC cI cJ cZ cP : ClassId) (h qK qS : Nat) (ad : Nat → Nat) (hDD : mDis cB cI cZ h qK qS ad) (d : Nat) (rec : GF) (hI0 : ∀ (sz : Nat) (p0 : Int32) (p1 : Int32) (σ : MS) (res : Int32 × MS), rec 0 p0 p1 0 σ = some res → Met l yX12_eval (g_ws yX12_eval cX12_eval 6 (some .int)) ({ frames := 7 + d, cells := 0, slots := 0, locals := 168 + 26 * d }) (va_Pc [.ref h, .int p0, .int p1] (m_B (dC, dI) [(cB, .byte), (cC, .char), (cI, .int), (cJ, .long), (cZ, .boolean), (cP, .object "StoryHouse$Play")] sz h ad qK qS (mW cB cI cZ h qK qS ad σ) g_0)) (va_Qi (fun r (_ : Unit) => r = res.1) (fun _ t => va_P (dC, dI) vwCl (mW cB cI cZ h qK qS ad res.2) t.heap) (mCells h ad sz)) 0 0 (mCells h ad sz)) (hI1 : ∀ (sz : Nat) (p0 : Int32) (p1 : Int32) (σ : MS) (res : Int32 × MS), rec 1 p0 p1 0 σ = some res → Met l yX12_calls (g_ws yX12_calls cX12_calls 5 none) ({ frames := 7 + d, cells := 0, slots := 0, locals := 168 + 26 * d }) (va_Pc [.ref h, .int p0, .int p1] (m_B (dC, dI) [(cB, .byte), (cC, .char), (cI, .int), (cJ, .long), (cZ, .boolean), (cP, .object "StoryHouse$Play")] sz h ad qK qS (mW cB cI cZ h qK qS ad σ) g_0)) (va_Qv (fun (_ : Unit) => True) (fun _ t => va_P (dC, dI) vwCl (mW cB cI cZ h qK qS ad res.2) t.heap) (mCells h ad sz)) 0 0 (mCells h ad sz)) (hI2 : ∀ (sz : Nat) (p0 : Int32) (p1 : Int32) (p2 : Int32) (σ : MS) (res : Int32 × MS), rec 2 p0 p1 p2  σ = some res → Met l yX12_goIn (g_ws yX12_goIn cX12_goIn 6 (some .int)) ({ frames := 7 + d, cells := 0, slots := 0, locals := 168 + 26 * d }) (va_Pc [.ref h, .int p0, .int p1, .int p2] (m_B (dC, dI) [(cB, .byte), (cC, .char), (cI, .int), (cJ, .long), (cZ, .boolean), (cP, .object "StoryHouse$Play")] sz h ad qK qS (mW cB cI cZ h qK qS ad σ) g_0)) (va_Qi (fun r (_ : Unit) => r = res.1) (fun _ t => va_P (dC, dI) vwCl (mW cB cI cZ h qK qS ad res.2) t.heap) (mCells h ad sz)) 0 0 (mCells h ad sz)) (hI3 : ∀ (sz : Nat) (p0 : Int32) (p1 : Int32) (σ : MS) (res : Int32 × MS), rec 3 p0 p1 0 σ = some res → Met l yX12_statement_ (g_ws yX12_statement_ cX12_statement_ 6 none) ({ frames := 7 + d, cells := 0, slots := 0, locals := 168 + 26 * d }) (va_Pc [.ref h, .int p0, .int p1] (m_B (dC, dI) [(cB, .byte), (cC, .char), (cI, .int), (cJ, .long), (cZ, .boolean), (cP, .object "StoryHouse$Play")] sz h ad qK qS (mW cB cI cZ h qK qS ad σ) g_0)) (va_Qv (fun (_ : Unit) => True) (fun _ t => va_P (dC, dI) vwCl (mW cB cI cZ h qK qS ad res.2) t.heap) (mCells h ad sz)) 0 0 (mCells h ad sz)) (hI4 : ∀ (sz : Nat) (p0 : Int32) (p1 : Int32) (p2 : Int32) (σ : MS) (res : Int32 × MS), rec 4 p0 p1 p2  σ = some res → Met l yX12_call (g_ws yX12_call cX12_call 7 (some .int)) ({ frames := 7 + d, cells := 0, slots := 0, locals := 168 + 26 * d }) (va_Pc [.ref h, .int p0, .int p1, .int p2] (m_B (dC, dI) [(cB, .byte), (cC, .char), (cI, .int), (cJ, .long), (cZ, .boolean), (cP, .object "StoryHouse$Play")] sz h ad qK qS (mW cB cI cZ h qK qS ad σ) g_0)) (va_Qi (fun r (_ : Unit) => r = res.1) (fun _ t => va_P (dC, dI) vwCl (mW cB cI cZ h qK qS ad res.2) t.heap) (mCells h ad sz)) 0 0 (mCells h ad sz)) (hI5 : ∀ (sz : Nat) (p0 : Int32) (p1 : Int32) (σ : MS) (res : Int32 × MS), rec 5 p0 p1 0 σ = some res → Met l yX12_tell (g_ws yX12_tell cX12_tell 4 none) ({ frames := 7 + d, cells := 0, slots := 0, locals := 168 + 26 * d }) (va_Pc [.ref h, .int p0, .int p1] (m_B (dC, dI) [(cB, .byte), (cC, .char), (cI, .int), (cJ, .long), (cZ, .boolean), (cP, .object "StoryHouse$Play")] sz h ad qK qS (mW cB cI cZ h qK qS ad σ) g_0)) (va_Qv (fun (_ : Unit) => True) (fun _ t => va_P (dC, dI) vwCl (mW cB cI cZ h qK qS ad res.2) t.heap) (mCells h ad sz)) 0 0 (mCells h ad sz)) (sz : Nat)  (p0 : Int32) (p1 : Int32) (σ : MS) (res : Int32 × MS) (hF : F_X12_calls rec p0 p1 σ = some res) : Met l yX12_calls (g_ws yX12_calls cX12_calls 5 none) ({ frames := 7 + (d + 1), cells := 0, slots := 0, locals := 168 + 26 * (d + 1) }) (va_Pc [.ref h, .int p0, .int p1] (m_B (dC, dI) [(cB, .byte), (cC, .char), (cI, .int), (cJ, .long), (cZ, .boolean), (cP, .object "StoryHouse$Play")] sz h ad qK qS (mW cB cI cZ h qK qS ad σ) g_0)) (va_Qv (fun (_ : Unit) => True) (fun _ t => va_P (dC, dI) vwCl (mW cB cI cZ h qK qS ad res.2) t.heap) (mCells h ad sz)) 0 0 (mCells h ad sz) := by
  refine Met.ofW (cc := cX12_calls) (maxL := 5) (ret := none) (by decide) rfl ?_
  intro p e s m args below meth c s₁ B hml hv
  obtain ⟨rfl, hsz, hP, hK, hE, hKS, hX⟩ := hv
  have hx := B.exec
  have hb := B.bytes
  have hr := B.returns
  have hts0 := atoms_spec (ws := g_ws yX12_calls cX12_calls 5 none) B.pre
  have hts : ∀ w ∈ lw_good, w.before ([.ref h, .int p0, .int p1] : List Value).toArray s = true := fun w z => hts0 w (List.mem_cons_of_mem _ z)
  have hown : s.vm.findClass RX12 = some m.cls := findClass_of_methodNamed B.named
  have hlocks := B.notSynchronized
  have hS : va_S (mCells h ad sz) s.heap s.heap [] := va_S.rf
  have hl := lv_entry ([.ref h, .int p0, .int p1]) (n := 5) (Nat.le_of_ble_eq_true rfl)
  rw [lg_entry_eq]
  generalize (lg_sl ([.ref h, .int p0, .int p1]) ++ List.replicate (5 - (lg_sl ([.ref h, .int p0, .int p1])).length) Slot.unset).toArray = ls at hl ⊢
  have hl : lv_has ls 5 [(0, .ref h), (1, .int p0), (2, .int p1)] := hl
  unfold F_X12_calls at hF
  refine lv_iconst (v := 0) hx hb dX12_calls_0 (by decide +kernel) ?_
  refine lv_istore_n (lv' := [(3, .int 0), (0, .ref h), (1, .int p0), (2, .int p1)]) hx hb dX12_calls_1 rfl hl (by decide) rfl (fun ls hl => ?_)
  refine lv_aload_n hx hb dX12_calls_2 rfl (lv_at hl 1 rfl) ?_
  refine va_get (D := (dC, dI)) (ci := 12) (v := .ref (ad 67)) (C := RX12) (T := TX12) (N := 123) hx hb hts ii_X12 hown hK hP 0 rfl rfl 67 (by decide) (hts (.fieldLink RX12 146 "StoryHouseModel" "bB" "[I") wq_1423) (fun _ h9 => h9) rfl dX12_calls_3 ?_
  refine lv_iload_n hx hb dX12_calls_6 rfl (lv_at hl 2 rfl) ?_
  obtain ⟨g_1, hF_2⟩ := nif_e hF
  clear hF
  refine va_iald (f := σ.2 67) hx hb hK hP 40 2 rfl rfl g_1 dX12_calls_7 ?_
  obtain ⟨x_3, ex_3, hF_4⟩ := bnd_e hF_2
  clear hF_2
  refine m_top ex_3 ?_
  refine lv_istore (lv' := [(4, .int x_3), (3, .int 0), (0, .ref h), (1, .int p0), (2, .int p1)]) hx hb dX12_calls_8 hl (by decide) rfl (fun ls hl => ?_)
  refine loopF_ind (P := fun (s_5 : Int32 × Int32 × MS) => ∀ (H : Heap) (locs : List Loc), va_P (dC, dI) vwCl (mW cB cI cZ h qK qS ad s_5.2.2) H → va_S (mCells h ad sz) s.heap H locs → ∀ ls : Array Slot, lv_has ls 5 [(0, .ref h), (1, .int p0), (2, .int p1), (3, .int s_5.1), (4, .int s_5.2.1)] → W p l e (headSpec (g_ws yX12_calls cX12_calls 5 none) { frames := 7 + (d + 1), cells := 0, slots := 0, locals := 168 + 26 * (d + 1) }).room s m ([.ref h, .int p0, .int p1] : List Value).toArray below meth c H locs 0 0 (MQ below (va_Qv (fun (_ : Unit) => True) (fun _ t => va_P (dC, dI) vwCl (mW cB cI cZ h qK qS ad res.2) t.heap) (mCells h ad sz)) ([.ref h, .int p0, .int p1] : List Value).toArray s 0 0 (mCells h ad sz)) (F0 m 10 ls [])) ?_ _ _ hF_4 _ _ hP hS ls (lv_sub hl [2, 3, 4, 1, 0] rfl)
  intro again_6 s_5 ih_7 hF_8
  intro H locs hP hS ls hl
  refine lv_iload hx hb dX12_calls_10 (lv_at hl 4 rfl) ?_
  refine lv_if_lt (tgt := 30) hx hb dX12_calls_12 (by decide) (fun c_9 => ?_) (fun c_9 => ?_)
  · have hF_10 := ipos c_9 hF_8
    clear hF_8
    refine lv_aload_n hx hb dX12_calls_30 rfl (lv_at hl 0 rfl) ?_
    refine lv_aload_n hx hb dX12_calls_31 rfl (lv_at hl 0 rfl) ?_
    refine va_get (D := (dC, dI)) (ci := 12) (v := .ref (ad 68)) (C := RX12) (T := TX12) (N := 123) hx hb hts ii_X12 hown hK hP 0 rfl rfl 68 (by decide) (hts (.fieldLink RX12 149 "StoryHouseModel" "bD" "[I") wq_1424) (fun _ h9 => h9) rfl dX12_calls_32 ?_
    refine lv_iload_n hx hb dX12_calls_35 rfl (lv_at hl 1 rfl) ?_
    obtain ⟨g_11, hF_12⟩ := nif_e hF_10
    clear hF_10
    refine va_iald (f := s_5.2.2.2 68) hx hb hK hP 41 2 rfl rfl g_11 dX12_calls_36 ?_
    refine lv_aload_n hx hb dX12_calls_37 rfl (lv_at hl 0 rfl) ?_
    refine va_get (D := (dC, dI)) (ci := 12) (v := .int (s_5.2.2.1 115)) (C := RX12) (T := TX12) (N := 123) hx hb hts ii_X12 hown hK hP 0 rfl rfl 115 (by decide) (hts (.fieldLink RX12 700 "StoryHouseModel" "waiting" "I") wq_1471) (fun _ h9 => h9) rfl dX12_calls_38 ?_
    refine lv_iload_n hx hb dX12_calls_41 rfl (lv_at hl 3 rfl) ?_
    refine lv_isub hx hb dX12_calls_42 ?_
    refine lv_iload_n hx hb dX12_calls_43 rfl (lv_at hl 2 rfl) ?_
    obtain ⟨u_13, hu_13, hF_14⟩ := Option.bind_eq_some_iff.mp hF_12
    clear hF_12
    refine m_ci hsz hS (va_runV (As := [.int (s_5.2.2.2 68 p0.toNatClampNeg), .int ((s_5.2.2.1 115) - s_5.1), .int p1]) (rest := []) ⟨hx, hb, hml, hown, hts⟩ (hI2 H.size (s_5.2.2.2 68 p0.toNatClampNeg) ((s_5.2.2.1 115) - s_5.1) p1 s_5.2.2 _ hu_13) (cwV 3 hts (g_gV wq_1834 wq_1835 wq_2219 wq_13 wq_1836) rfl rfl rfl (by decide +kernel) ⟨by show 7 + d + 1 ≤ 7 + (d + 1); omega, by show 8 + (6 + 11) + (168 + 26 * d) ≤ 168 + 26 * (d + 1); omega⟩) (m_preV g_bl0 hsz hK hP hS hE hKS g_to0) rfl rfl hl.1 rfl (lv_room (Nat.le_of_ble_eq_true rfl)) dX12_calls_44 ⟨Nat.le_of_ble_eq_true rfl, Nat.le_of_ble_eq_true rfl⟩) (fun H locs hP hS => ?_)
    refine lv_istore (lv' := [(4, .int u_13.1), (0, .ref h), (1, .int p0), (2, .int p1), (3, .int s_5.1)]) hx hb dX12_calls_47 hl (by decide) rfl (fun ls hl => ?_)
    refine lv_aload_n hx hb dX12_calls_49 rfl (lv_at hl 1 rfl) ?_
    refine lv_dup hx hb dX12_calls_50 rfl ?_
    refine va_get (D := (dC, dI)) (ci := 12) (v := .int (u_13.2.1 115)) (C := RX12) (T := TX12) (N := 123) hx hb hts ii_X12 hown hK hP 0 rfl rfl 115 (by decide) (hts (.fieldLink RX12 700 "StoryHouseModel" "waiting" "I") wq_1471) (fun _ h9 => h9) rfl dX12_calls_51 ?_
    refine lv_iload_n hx hb dX12_calls_54 rfl (lv_at hl 4 rfl) ?_
    refine lv_isub hx hb dX12_calls_55 ?_
    obtain ⟨σ_15, eσ_15, hF_16⟩ := bnd_e hF_14
    clear hF_14
    refine m_put (σ' := σ_15) (v := .int ((u_13.2.1 115) - s_5.1)) (ty := .int) hx hb hts hown hK hP (hDD _ _) hS (by rw [eσ_15]; exact mwI_115) (k := 115) (by decide) (hts (.fieldLink RX12 700 "StoryHouseModel" "waiting" "I") wq_1471) (fun _ h9 => h9) rfl (by decide +kernel) rfl rfl dX12_calls_56 (fun H locs hP hS => ?_)
    refine lv_aload_n hx hb dX12_calls_59 rfl (lv_at hl 1 rfl) ?_
    refine va_get (D := (dC, dI)) (ci := 12) (v := .ref (ad 114)) (C := RX12) (T := TX12) (N := 123) hx hb hts ii_X12 hown hK hP 0 rfl rfl 114 (by decide) (hts (.fieldLink RX12 222 "StoryHouseModel" "waits" "[I") wq_1470) (fun _ h9 => h9) rfl dX12_calls_60 ?_
    refine lv_aload_n hx hb dX12_calls_63 rfl (lv_at hl 1 rfl) ?_
    refine lv_dup hx hb dX12_calls_64 rfl ?_
    refine va_get (D := (dC, dI)) (ci := 12) (v := .int (σ_15.1 115)) (C := RX12) (T := TX12) (N := 123) hx hb hts ii_X12 hown hK hP 0 rfl rfl 115 (by decide) (hts (.fieldLink RX12 700 "StoryHouseModel" "waiting" "I") wq_1471) (fun _ h9 => h9) rfl dX12_calls_65 ?_
    refine lv_dup_x1 hx hb dX12_calls_68 rfl rfl ?_
    refine lv_iconst (v := 1) hx hb dX12_calls_69 (by decide +kernel) ?_
    refine lv_iadd hx hb dX12_calls_70 ?_
    obtain ⟨σ_17, eσ_17, hF_18⟩ := bnd_e hF_16
    clear hF_16
    refine m_put (σ' := σ_17) (v := .int ((σ_15.1 115) + 1)) (ty := .int) hx hb hts hown hK hP (hDD _ _) hS (by rw [eσ_17]; exact mwI_115) (k := 115) (by decide) (hts (.fieldLink RX12 700 "StoryHouseModel" "waiting" "I") wq_1471) (fun _ h9 => h9) rfl (by decide +kernel) rfl rfl dX12_calls_71 (fun H locs hP hS => ?_)
    refine lv_iload hx hb dX12_calls_74 (lv_at hl 0 rfl) ?_
    obtain ⟨g_19, hF_20⟩ := nif_e hF_18
    clear hF_18
    obtain ⟨σ_21, eσ_21, hF_22⟩ := bnd_e hF_20
    clear hF_20
    refine m_iast (σ' := σ_21) hx hb hK hP (hDD _ _) hS (q0 := 64) (t0 := 2) (f := σ_17.2 114) rfl rfl (by rw [eσ_21]; exact mwA_114) g_19 dX12_calls_76 (fun H locs hP hS => ?_)
    have h9 := Option.some.inj hF_22
    subst h9
    exact W.vret hx hb hr (fun t ht hW => ⟨⟨(), rfl, trivial, m_end ht hP⟩, hS.F ht⟩) hS.2.2 dX12_calls_77
  · have hF_23 := ineg c_9 hF_8
    clear hF_8
    obtain ⟨x_24, ex_24, hF_25⟩ := bnd_e hF_23
    clear hF_23
    refine lv_iinc (v := x_24) (lv' := [(3, .int x_24), (0, .ref h), (1, .int p0), (2, .int p1), (4, .int s_5.2.1)]) hx hb dX12_calls_15 hl (k := 3) rfl (by rw [ex_24]; rfl) (by decide) rfl (fun ls hl => ?_)
    refine lv_aload_n hx hb dX12_calls_18 rfl (lv_at hl 1 rfl) ?_
    refine va_get (D := (dC, dI)) (ci := 12) (v := .ref (ad 69)) (C := RX12) (T := TX12) (N := 123) hx hb hts ii_X12 hown hK hP 0 rfl rfl 69 (by decide) (hts (.fieldLink RX12 152 "StoryHouseModel" "bThen" "[I") wq_1425) (fun _ h9 => h9) rfl dX12_calls_19 ?_
    refine lv_iload hx hb dX12_calls_22 (lv_at hl 4 rfl) ?_
    obtain ⟨g_26, hF_27⟩ := nif_e hF_25
    clear hF_25
    refine va_iald (f := s_5.2.2.2 69) hx hb hK hP 42 2 rfl rfl g_26 dX12_calls_24 ?_
    obtain ⟨x_28, ex_28, hF_29⟩ := bnd_e hF_27
    clear hF_27
    refine m_top ex_28 ?_
    refine lv_istore (lv' := [(4, .int x_28), (3, .int x_24), (0, .ref h), (1, .int p0), (2, .int p1)]) hx hb dX12_calls_25 hl (by decide) rfl (fun ls hl => ?_)
    refine lv_goto (tgt := 10) hx hb dX12_calls_27 (by decide) ?_
    exact ih_7 (x_24, x_28, s_5.2.2) hF_29 _ _ hP hS ls (lv_sub hl [2, 3, 4, 1, 0] rfl)

def F_X12_goIn (rec : GF) (p0 : Int32) (p1 : Int32) (p2 : Int32) (σ : MS) : MR :=
  (F_X12_passes σ).bind fun u_1 =>
  if u_1.1 = 0 then (
    some (0, u_1.2)
  ) else (
    if (u_1.2.1 107) = 30 then (
      (F_X12_breaks 5 u_1.2).bind fun u_8 =>
      some (u_8.1, u_8.2)
    ) else (
      if p0 < 0 ∨ 40000 ≤ p0.toNatClampNeg then none else
      bnd ((u_1.2.2 67 p0.toNatClampNeg)) fun (x_13 : Int32) =>
      loopF (fun (again_16 : (Int32 × Int32 × MS) → MR) (s_15 : Int32 × Int32 × MS) => (
        if s_15.2.1 < 0 then (
          bnd (mI s_15.2.2 107 ((s_15.2.2.1 107) + 1)) fun σ_21 =>
          bnd (mI σ_21 110 0) fun σ_23 =>
          if p0 < 0 ∨ 40000 ≤ p0.toNatClampNeg then none else
          bnd ((σ_23.2 68 p0.toNatClampNeg)) fun (x_27 : Int32) =>
          if x_27 < 0 ∨ 40000 ≤ x_27.toNatClampNeg then none else
          bnd ((σ_23.2 66 x_27.toNatClampNeg)) fun (x_31 : Int32) =>
          if x_31 < 0 ∨ 40000 ≤ x_31.toNatClampNeg then none else
          bnd ((σ_23.2 66 x_31.toNatClampNeg)) fun (x_35 : Int32) =>
          loopF (fun (again_38 : (Int32 × MS) → MR) (s_37 : Int32 × MS) => (
            bnd (fun  (σ_41 : MS) => (
              bnd (mI σ_41 107 ((σ_41.1 107) - 1)) fun σ_45 =>
              if (σ_45.1 104) = 4 then (
                bnd (mI σ_45 104 0) fun σ_49 =>
                some ((σ_49.1 110), σ_49)
              ) else (
                some (0, σ_45)
              )
            ) : MS → MR) fun j_42 =>
            if s_37.1 < 0 then (
              j_42  s_37.2
            ) else (
              if (s_37.2.1 104) = 0 then (
                (rec 3 s_37.1 (p2 + 14) 0 s_37.2).bind fun u_57 =>
                if s_37.1 < 0 ∨ 40000 ≤ s_37.1.toNatClampNeg then none else
                bnd ((u_57.2.2 69 s_37.1.toNatClampNeg)) fun (x_61 : Int32) =>
                again_38 (x_61, u_57.2)
              ) else (
                j_42  s_37.2
              )
            )
          )) FU (x_35, σ_23)
        ) else (
          if s_15.2.1 < 0 ∨ 40000 ≤ s_15.2.1.toNatClampNeg then none else
          bnd (((p2 + 14) + (s_15.2.2.2 68 s_15.2.1.toNatClampNeg))) fun (x_67 : Int32) =>
          bnd (s_15.1 + 1) fun (x_69 : Int32) =>
          if s_15.1 < 0 ∨ 9000 ≤ s_15.1.toNatClampNeg then none else
          bnd ((s_15.2.2.2 114 s_15.1.toNatClampNeg)) fun (x_73 : Int32) =>
          if x_67 < 0 ∨ 700 ≤ x_67.toNatClampNeg then none else
          bnd (mA s_15.2.2 111 (upd (s_15.2.2.2 111) x_67.toNatClampNeg x_73)) fun σ_77 =>
          if s_15.2.1 < 0 ∨ 40000 ≤ s_15.2.1.toNatClampNeg then none else
          bnd ((σ_77.2 69 s_15.2.1.toNatClampNeg)) fun (x_81 : Int32) =>
          again_16 (x_69, x_81, σ_77)
        )
      )) FU (p1, x_13, u_1.2)
    )
  )
set_option maxHeartbeats 4000000 in
set_option maxRecDepth 100000 in
theorem m_X12_goIn_st (l : Launch) (dC : Nat → ClassId) (dI : Nat → Nat → Nat) (cB cC cI cJ cZ cP : ClassId) (h qK qS : Nat) (ad : Nat → Nat) (hDD : mDis cB cI cZ h qK qS ad) (d : Nat) (rec : GF) (hI0 : ∀ (sz : Nat) (p0 : Int32) (p1 : Int32) (σ : MS) (res : Int32 × MS), rec 0 p0 p1 0 σ = some res → Met l yX12_eval (g_ws yX12_eval cX12_eval 6 (some .int)) ({ frames := 7 + d, cells := 0, slots := 0, locals := 168 + 26 * d }) (va_Pc [.ref h, .int p0, .int p1] (m_B (dC, dI) [(cB, .byte), (cC, .char), (cI, .int), (cJ, .long), (cZ, .boolean), (cP, .object "StoryHouse$Play")] sz h ad qK qS (mW cB cI cZ h qK qS ad σ) g_0)) (va_Qi (fun r (_ : Unit) => r = res.1) (fun _ t => va_P (dC, dI) vwCl (mW cB cI cZ h qK qS ad res.2) t.heap) (mCells h ad sz)) 0 0 (mCells h ad sz)) (hI1 : ∀ (sz : Nat) (p0 : Int32) (p1 : Int32) (σ : MS) (res : Int32 × MS), rec 1 p0 p1 0 σ = some res → Met l yX12_calls (g_ws yX12_calls cX12_calls 5 none) ({ frames := 7 + d, cells := 0, slots := 0, locals := 168 + 26 * d }) (va_Pc [.ref h, .int p0, .int p1] (m_B (dC, dI) [(cB, .byte), (cC, .char), (cI, .int), (cJ, .long), (cZ, .boolean), (cP, .object "StoryHouse$Play")] sz h ad qK qS (mW cB cI cZ h qK qS ad σ) g_0)) (va_Qv (fun (_ : Unit) => True) (fun _ t => va_P (dC, dI) vwCl (mW cB cI cZ h qK qS ad res.2) t.heap) (mCells h ad sz)) 0 0 (mCells h ad sz)) (hI2 : ∀ (sz : Nat) (p0 : Int32) (p1 : Int32) (p2 : Int32) (σ : MS) (res : Int32 × MS), rec 2 p0 p1 p2  σ = some res → Met l yX12_goIn (g_ws yX12_goIn cX12_goIn 6 (some .int)) ({ frames := 7 + d, cells := 0, slots := 0, locals := 168 + 26 * d }) (va_Pc [.ref h, .int p0, .int p1, .int p2] (m_B (dC, dI) [(cB, .byte), (cC, .char), (cI, .int), (cJ, .long), (cZ, .boolean), (cP, .object "StoryHouse$Play")] sz h ad qK qS (mW cB cI cZ h qK qS ad σ) g_0)) (va_Qi (fun r (_ : Unit) => r = res.1) (fun _ t => va_P (dC, dI) vwCl (mW cB cI cZ h qK qS ad res.2) t.heap) (mCells h ad sz)) 0 0 (mCells h ad sz)) (hI3 : ∀ (sz : Nat) (p0 : Int32) (p1 : Int32) (σ : MS) (res : Int32 × MS), rec 3 p0 p1 0 σ = some res → Met l yX12_statement_ (g_ws yX12_statement_ cX12_statement_ 6 none) ({ frames := 7 + d, cells := 0, slots := 0, locals := 168 + 26 * d }) (va_Pc [.ref h, .int p0, .int p1] (m_B (dC, dI) [(cB, .byte), (cC, .char), (cI, .int), (cJ, .long), (cZ, .boolean), (cP, .object "StoryHouse$Play")] sz h ad qK qS (mW cB cI cZ h qK qS ad σ) g_0)) (va_Qv (fun (_ : Unit) => True) (fun _ t => va_P (dC, dI) vwCl (mW cB cI cZ h qK qS ad res.2) t.heap) (mCells h ad sz)) 0 0 (mCells h ad sz)) (hI4 : ∀ (sz : Nat) (p0 : Int32) (p1 : Int32) (p2 : Int32) (σ : MS) (res : Int32 × MS), rec 4 p0 p1 p2  σ = some res → Met l yX12_call (g_ws yX12_call cX12_call 7 (some .int)) ({ frames := 7 + d, cells := 0, slots := 0, locals := 168 + 26 * d }) (va_Pc [.ref h, .int p0, .int p1, .int p2] (m_B (dC, dI) [(cB, .byte), (cC, .char), (cI, .int), (cJ, .long), (cZ, .boolean), (cP, .object "StoryHouse$Play")] sz h ad qK qS (mW cB cI cZ h qK qS ad σ) g_0)) (va_Qi (fun r (_ : Unit) => r = res.1) (fun _ t => va_P (dC, dI) vwCl (mW cB cI cZ h qK qS ad res.2) t.heap) (mCells h ad sz)) 0 0 (mCells h ad sz)) (hI5 : ∀ (sz : Nat) (p0 : Int32) (p1 : Int32) (σ : MS) (res : Int32 × MS), rec 5 p0 p1 0 σ = some res → Met l yX12_tell (g_ws yX12_tell cX12_tell 4 none) ({ frames := 7 + d, cells := 0, slots := 0, locals := 168 + 26 * d }) (va_Pc [.ref h, .int p0, .int p1] (m_B (dC, dI) [(cB, .byte), (cC, .char), (cI, .int), (cJ, .long), (cZ, .boolean), (cP, .object "StoryHouse$Play")] sz h ad qK qS (mW cB cI cZ h qK qS ad σ) g_0)) (va_Qv (fun (_ : Unit) => True) (fun _ t => va_P (dC, dI) vwCl (mW cB cI cZ h qK qS ad res.2) t.heap) (mCells h ad sz)) 0 0 (mCells h ad sz)) (sz : Nat)  (p0 : Int32) (p1 : Int32) (p2 : Int32) (σ : MS) (res : Int32 × MS) (hF : F_X12_goIn rec p0 p1 p2 σ = some res) : Met l yX12_goIn (g_ws yX12_goIn cX12_goIn 6 (some .int)) ({ frames := 7 + (d + 1), cells := 0, slots := 0, locals := 168 + 26 * (d + 1) }) (va_Pc [.ref h, .int p0, .int p1, .int p2] (m_B (dC, dI) [(cB, .byte), (cC, .char), (cI, .int), (cJ, .long), (cZ, .boolean), (cP, .object "StoryHouse$Play")] sz h ad qK qS (mW cB cI cZ h qK qS ad σ) g_0)) (va_Qi (fun r (_ : Unit) => r = res.1) (fun _ t => va_P (dC, dI) vwCl (mW cB cI cZ h qK qS ad res.2) t.heap) (mCells h ad sz)) 0 0 (mCells h ad sz) := by
  refine Met.ofW (cc := cX12_goIn) (maxL := 6) (ret := (some .int)) (by decide) rfl ?_
  intro p e s m args below meth c s₁ B hml hv
  obtain ⟨rfl, hsz, hP, hK, hE, hKS, hX⟩ := hv
  have hx := B.exec
  have hb := B.bytes
  have hr := B.returns
  have hts0 := atoms_spec (ws := g_ws yX12_goIn cX12_goIn 6 (some .int)) B.pre
  have hts : ∀ w ∈ lw_good, w.before ([.ref h, .int p0, .int p1, .int p2] : List Value).toArray s = true := fun w z => hts0 w (List.mem_cons_of_mem _ z)
  have hown : s.vm.findClass RX12 = some m.cls := findClass_of_methodNamed B.named
  have hlocks := B.notSynchronized
  have hS : va_S (mCells h ad sz) s.heap s.heap [] := va_S.rf
  have hl := lv_entry ([.ref h, .int p0, .int p1, .int p2]) (n := 6) (Nat.le_of_ble_eq_true rfl)
  rw [lg_entry_eq]
  generalize (lg_sl ([.ref h, .int p0, .int p1, .int p2]) ++ List.replicate (6 - (lg_sl ([.ref h, .int p0, .int p1, .int p2])).length) Slot.unset).toArray = ls at hl ⊢
  have hl : lv_has ls 6 [(0, .ref h), (1, .int p0), (2, .int p1), (3, .int p2)] := hl
  unfold F_X12_goIn at hF
  refine lv_aload_n hx hb dX12_goIn_0 rfl (lv_at hl 0 rfl) ?_
  obtain ⟨u_1, hu_1, hF_2⟩ := Option.bind_eq_some_iff.mp hF
  clear hF
  refine m_ci hsz hS (va_runV (As := []) (rest := []) ⟨hx, hb, hml, hown, hts⟩ (m_X12_passes l dC dI cB cC cI cJ cZ cP h qK qS ad hDD s.heap.size  σ _ hu_1) (cwV 0 hts (g_gV wq_1837 wq_1838 wq_2220 wq_13 wq_1839) rfl rfl rfl (by decide +kernel) ⟨by show 2 + 1 ≤ 7 + (d + 1); omega, by show 8 + (1 + 11) + 61 ≤ 168 + 26 * (d + 1); omega⟩) (m_preV g_bl0 hsz hK hP hS hE hKS g_to0) rfl rfl hl.1 rfl (lv_room (Nat.le_of_ble_eq_true rfl)) dX12_goIn_1 ⟨Nat.le_of_ble_eq_true rfl, Nat.le_of_ble_eq_true rfl⟩) (fun H locs hP hS => ?_)
  refine lv_if_ne (tgt := 9) hx hb dX12_goIn_4 (by decide) (fun c_3 => ?_) (fun c_3 => ?_)
  · have hF_5 := ineg c_3 hF_2
    clear hF_2
    refine lv_aload_n hx hb dX12_goIn_9 rfl (lv_at hl 0 rfl) ?_
    refine va_get (D := (dC, dI)) (ci := 12) (v := .int (u_1.2.1 107)) (C := RX12) (T := TX12) (N := 123) hx hb hts ii_X12 hown hK hP 0 rfl rfl 107 (by decide) (hts (.fieldLink RX12 745 "StoryHouseModel" "calls" "I") wq_1463) (fun _ h9 => h9) rfl dX12_goIn_10 ?_
    refine lv_bipush (v := 30) hx hb dX12_goIn_13 (by decide +kernel) ?_
    refine lv_icmp_ne (tgt := 24) hx hb dX12_goIn_15 (by decide) (fun c_6 => ?_) (fun c_6 => ?_)
    · have hF_10 := ineg c_6 hF_5
      clear hF_5
      refine lv_iload_n hx hb dX12_goIn_24 rfl (lv_at hl 2 rfl) ?_
      refine lv_istore (lv' := [(4, .int p1), (0, .ref h), (1, .int p0), (2, .int p1), (3, .int p2)]) hx hb dX12_goIn_25 hl (by decide) rfl (fun ls hl => ?_)
      refine lv_aload_n hx hb dX12_goIn_27 rfl (lv_at hl 1 rfl) ?_
      refine va_get (D := (dC, dI)) (ci := 12) (v := .ref (ad 67)) (C := RX12) (T := TX12) (N := 123) hx hb hts ii_X12 hown hK hP 0 rfl rfl 67 (by decide) (hts (.fieldLink RX12 146 "StoryHouseModel" "bB" "[I") wq_1423) (fun _ h9 => h9) rfl dX12_goIn_28 ?_
      refine lv_iload_n hx hb dX12_goIn_31 rfl (lv_at hl 2 rfl) ?_
      obtain ⟨g_11, hF_12⟩ := nif_e hF_10
      clear hF_10
      refine va_iald (f := u_1.2.2 67) hx hb hK hP 40 2 rfl rfl g_11 dX12_goIn_32 ?_
      obtain ⟨x_13, ex_13, hF_14⟩ := bnd_e hF_12
      clear hF_12
      refine m_top ex_13 ?_
      refine lv_istore (lv' := [(5, .int x_13), (4, .int p1), (0, .ref h), (1, .int p0), (2, .int p1), (3, .int p2)]) hx hb dX12_goIn_33 hl (by decide) rfl (fun ls hl => ?_)
      refine loopF_ind (P := fun (s_15 : Int32 × Int32 × MS) => ∀ (H : Heap) (locs : List Loc), va_P (dC, dI) vwCl (mW cB cI cZ h qK qS ad s_15.2.2) H → va_S (mCells h ad sz) s.heap H locs → ∀ ls : Array Slot, lv_has ls 6 [(0, .ref h), (1, .int p0), (3, .int p2), (4, .int s_15.1), (5, .int s_15.2.1)] → W p l e (headSpec (g_ws yX12_goIn cX12_goIn 6 (some .int)) { frames := 7 + (d + 1), cells := 0, slots := 0, locals := 168 + 26 * (d + 1) }).room s m ([.ref h, .int p0, .int p1, .int p2] : List Value).toArray below meth c H locs 0 0 (MQ below (va_Qi (fun r (_ : Unit) => r = res.1) (fun _ t => va_P (dC, dI) vwCl (mW cB cI cZ h qK qS ad res.2) t.heap) (mCells h ad sz)) ([.ref h, .int p0, .int p1, .int p2] : List Value).toArray s 0 0 (mCells h ad sz)) (F0 m 35 ls [])) ?_ _ _ hF_14 _ _ hP hS ls (lv_sub hl [2, 3, 5, 1, 0] rfl)
      intro again_16 s_15 ih_17 hF_18
      intro H locs hP hS ls hl
      refine lv_iload hx hb dX12_goIn_35 (lv_at hl 4 rfl) ?_
      refine lv_if_lt (tgt := 79) hx hb dX12_goIn_37 (by decide) (fun c_19 => ?_) (fun c_19 => ?_)
      · have hF_20 := ipos c_19 hF_18
        clear hF_18
        refine lv_aload_n hx hb dX12_goIn_79 rfl (lv_at hl 0 rfl) ?_
        refine lv_dup hx hb dX12_goIn_80 rfl ?_
        refine va_get (D := (dC, dI)) (ci := 12) (v := .int (s_15.2.2.1 107)) (C := RX12) (T := TX12) (N := 123) hx hb hts ii_X12 hown hK hP 0 rfl rfl 107 (by decide) (hts (.fieldLink RX12 745 "StoryHouseModel" "calls" "I") wq_1463) (fun _ h9 => h9) rfl dX12_goIn_81 ?_
        refine lv_iconst (v := 1) hx hb dX12_goIn_84 (by decide +kernel) ?_
        refine lv_iadd hx hb dX12_goIn_85 ?_
        obtain ⟨σ_21, eσ_21, hF_22⟩ := bnd_e hF_20
        clear hF_20
        refine m_put (σ' := σ_21) (v := .int ((s_15.2.2.1 107) + 1)) (ty := .int) hx hb hts hown hK hP (hDD _ _) hS (by rw [eσ_21]; exact mwI_107) (k := 107) (by decide) (hts (.fieldLink RX12 745 "StoryHouseModel" "calls" "I") wq_1463) (fun _ h9 => h9) rfl (by decide +kernel) rfl rfl dX12_goIn_86 (fun H locs hP hS => ?_)
        refine lv_aload_n hx hb dX12_goIn_89 rfl (lv_at hl 0 rfl) ?_
        refine lv_iconst (v := 0) hx hb dX12_goIn_90 (by decide +kernel) ?_
        obtain ⟨σ_23, eσ_23, hF_24⟩ := bnd_e hF_22
        clear hF_22
        refine m_put (σ' := σ_23) (v := .int 0) (ty := .int) hx hb hts hown hK hP (hDD _ _) hS (by rw [eσ_23]; exact mwI_110) (k := 110) (by decide) (hts (.fieldLink RX12 747 "StoryHouseModel" "returned" "I") wq_1466) (fun _ h9 => h9) rfl (by decide +kernel) rfl rfl dX12_goIn_91 (fun H locs hP hS => ?_)
        refine lv_aload_n hx hb dX12_goIn_94 rfl (lv_at hl 0 rfl) ?_
        refine va_get (D := (dC, dI)) (ci := 12) (v := .ref (ad 66)) (C := RX12) (T := TX12) (N := 123) hx hb hts ii_X12 hown hK hP 0 rfl rfl 66 (by decide) (hts (.fieldLink RX12 143 "StoryHouseModel" "bA" "[I") wq_1422) (fun _ h9 => h9) rfl dX12_goIn_95 ?_
        refine lv_aload_n hx hb dX12_goIn_98 rfl (lv_at hl 0 rfl) ?_
        refine va_get (D := (dC, dI)) (ci := 12) (v := .ref (ad 66)) (C := RX12) (T := TX12) (N := 123) hx hb hts ii_X12 hown hK hP 0 rfl rfl 66 (by decide) (hts (.fieldLink RX12 143 "StoryHouseModel" "bA" "[I") wq_1422) (fun _ h9 => h9) rfl dX12_goIn_99 ?_
        refine lv_aload_n hx hb dX12_goIn_102 rfl (lv_at hl 0 rfl) ?_
        refine va_get (D := (dC, dI)) (ci := 12) (v := .ref (ad 68)) (C := RX12) (T := TX12) (N := 123) hx hb hts ii_X12 hown hK hP 0 rfl rfl 68 (by decide) (hts (.fieldLink RX12 149 "StoryHouseModel" "bD" "[I") wq_1424) (fun _ h9 => h9) rfl dX12_goIn_103 ?_
        refine lv_iload_n hx hb dX12_goIn_106 rfl (lv_at hl 1 rfl) ?_
        obtain ⟨g_25, hF_26⟩ := nif_e hF_24
        clear hF_24
        refine va_iald (f := σ_23.2 68) hx hb hK hP 41 2 rfl rfl g_25 dX12_goIn_107 ?_
        obtain ⟨x_27, ex_27, hF_28⟩ := bnd_e hF_26
        clear hF_26
        refine m_top ex_27 ?_
        obtain ⟨g_29, hF_30⟩ := nif_e hF_28
        clear hF_28
        refine va_iald (f := σ_23.2 66) hx hb hK hP 39 2 rfl rfl g_29 dX12_goIn_108 ?_
        obtain ⟨x_31, ex_31, hF_32⟩ := bnd_e hF_30
        clear hF_30
        refine m_top ex_31 ?_
        obtain ⟨g_33, hF_34⟩ := nif_e hF_32
        clear hF_32
        refine va_iald (f := σ_23.2 66) hx hb hK hP 39 2 rfl rfl g_33 dX12_goIn_109 ?_
        obtain ⟨x_35, ex_35, hF_36⟩ := bnd_e hF_34
        clear hF_34
        refine m_top ex_35 ?_
        refine lv_istore (lv' := [(5, .int x_35), (0, .ref h), (1, .int p0), (3, .int p2), (4, .int s_15.1)]) hx hb dX12_goIn_110 hl (by decide) rfl (fun ls hl => ?_)
        refine loopF_ind (P := fun (s_37 : Int32 × MS) => ∀ (H : Heap) (locs : List Loc), va_P (dC, dI) vwCl (mW cB cI cZ h qK qS ad s_37.2) H → va_S (mCells h ad sz) s.heap H locs → ∀ ls : Array Slot, lv_has ls 6 [(0, .ref h), (3, .int p2), (5, .int s_37.1)] → W p l e (headSpec (g_ws yX12_goIn cX12_goIn 6 (some .int)) { frames := 7 + (d + 1), cells := 0, slots := 0, locals := 168 + 26 * (d + 1) }).room s m ([.ref h, .int p0, .int p1, .int p2] : List Value).toArray below meth c H locs 0 0 (MQ below (va_Qi (fun r (_ : Unit) => r = res.1) (fun _ t => va_P (dC, dI) vwCl (mW cB cI cZ h qK qS ad res.2) t.heap) (mCells h ad sz)) ([.ref h, .int p0, .int p1, .int p2] : List Value).toArray s 0 0 (mCells h ad sz)) (F0 m 112 ls [])) ?_ _ _ hF_36 _ _ hP hS ls (lv_sub hl [1, 3, 0] rfl)
        intro again_38 s_37 ih_39 hF_40
        intro H locs hP hS ls hl
        refine lv_iload hx hb dX12_goIn_112 (lv_at hl 2 rfl) ?_
        obtain ⟨j_42, ej_42, hF_43⟩ := bnd_e hF_40
        clear hF_40
        have Jj_42 : ∀  (σ_41 : MS), j_42  σ_41 = some res → ∀ (H : Heap) (locs : List Loc), va_P (dC, dI) vwCl (mW cB cI cZ h qK qS ad σ_41) H → va_S (mCells h ad sz) s.heap H locs → ∀ ls : Array Slot, lv_has ls 6 [(0, .ref h)] → W p l e (headSpec (g_ws yX12_goIn cX12_goIn 6 (some .int)) { frames := 7 + (d + 1), cells := 0, slots := 0, locals := 168 + 26 * (d + 1) }).room s m ([.ref h, .int p0, .int p1, .int p2] : List Value).toArray below meth c H locs 0 0 (MQ below (va_Qi (fun r (_ : Unit) => r = res.1) (fun _ t => va_P (dC, dI) vwCl (mW cB cI cZ h qK qS ad res.2) t.heap) (mCells h ad sz)) ([.ref h, .int p0, .int p1, .int p2] : List Value).toArray s 0 0 (mCells h ad sz)) (F0 m 146 ls []) := by
          intro  σ_41 hF0 H locs hP hS ls hl
          subst ej_42
          have hF_44 := hF0
          clear hF0
          refine lv_aload_n hx hb dX12_goIn_146 rfl (lv_at hl 0 rfl) ?_
          refine lv_dup hx hb dX12_goIn_147 rfl ?_
          refine va_get (D := (dC, dI)) (ci := 12) (v := .int (σ_41.1 107)) (C := RX12) (T := TX12) (N := 123) hx hb hts ii_X12 hown hK hP 0 rfl rfl 107 (by decide) (hts (.fieldLink RX12 745 "StoryHouseModel" "calls" "I") wq_1463) (fun _ h9 => h9) rfl dX12_goIn_148 ?_
          refine lv_iconst (v := 1) hx hb dX12_goIn_151 (by decide +kernel) ?_
          refine lv_isub hx hb dX12_goIn_152 ?_
          obtain ⟨σ_45, eσ_45, hF_46⟩ := bnd_e hF_44
          clear hF_44
          refine m_put (σ' := σ_45) (v := .int ((σ_41.1 107) - 1)) (ty := .int) hx hb hts hown hK hP (hDD _ _) hS (by rw [eσ_45]; exact mwI_107) (k := 107) (by decide) (hts (.fieldLink RX12 745 "StoryHouseModel" "calls" "I") wq_1463) (fun _ h9 => h9) rfl (by decide +kernel) rfl rfl dX12_goIn_153 (fun H locs hP hS => ?_)
          refine lv_aload_n hx hb dX12_goIn_156 rfl (lv_at hl 0 rfl) ?_
          refine va_get (D := (dC, dI)) (ci := 12) (v := .int (σ_45.1 104)) (C := RX12) (T := TX12) (N := 123) hx hb hts ii_X12 hown hK hP 0 rfl rfl 104 (by decide) (hts (.fieldLink RX12 685 "StoryHouseModel" "stop" "I") wq_1460) (fun _ h9 => h9) rfl dX12_goIn_157 ?_
          refine lv_iconst (v := 4) hx hb dX12_goIn_160 (by decide +kernel) ?_
          refine lv_icmp_eq (tgt := 166) hx hb dX12_goIn_161 (by decide) (fun c_47 => ?_) (fun c_47 => ?_)
          · have hF_48 := ipos c_47 hF_46
            clear hF_46
            refine lv_aload_n hx hb dX12_goIn_166 rfl (lv_at hl 0 rfl) ?_
            refine lv_iconst (v := 0) hx hb dX12_goIn_167 (by decide +kernel) ?_
            obtain ⟨σ_49, eσ_49, hF_50⟩ := bnd_e hF_48
            clear hF_48
            refine m_put (σ' := σ_49) (v := .int 0) (ty := .int) hx hb hts hown hK hP (hDD _ _) hS (by rw [eσ_49]; exact mwI_104) (k := 104) (by decide) (hts (.fieldLink RX12 685 "StoryHouseModel" "stop" "I") wq_1460) (fun _ h9 => h9) rfl (by decide +kernel) rfl rfl dX12_goIn_168 (fun H locs hP hS => ?_)
            refine lv_aload_n hx hb dX12_goIn_171 rfl (lv_at hl 0 rfl) ?_
            refine va_get (D := (dC, dI)) (ci := 12) (v := .int (σ_49.1 110)) (C := RX12) (T := TX12) (N := 123) hx hb hts ii_X12 hown hK hP 0 rfl rfl 110 (by decide) (hts (.fieldLink RX12 747 "StoryHouseModel" "returned" "I") wq_1466) (fun _ h9 => h9) rfl dX12_goIn_172 ?_
            have h9 := Option.some.inj hF_50
            subst h9
            exact W.iret (v := (σ_49.1 110)) hx hb hr (fun t ht hW => ⟨⟨(σ_49.1 110), (), rfl, rfl, m_end ht hP⟩, hS.F ht⟩) hS.2.2 dX12_goIn_175
          · have hF_51 := ineg c_47 hF_46
            clear hF_46
            refine lv_iconst (v := 0) hx hb dX12_goIn_164 (by decide +kernel) ?_
            have h9 := Option.some.inj hF_51
            subst h9
            exact W.iret (v := 0) hx hb hr (fun t ht hW => ⟨⟨0, (), rfl, rfl, m_end ht hP⟩, hS.F ht⟩) hS.2.2 dX12_goIn_165
        refine lv_if_lt (tgt := 146) hx hb dX12_goIn_114 (by decide) (fun c_52 => ?_) (fun c_52 => ?_)
        · have hF_53 := ipos c_52 hF_43
          clear hF_43
          exact Jj_42  s_37.2 hF_53 _ _ hP hS ls (lv_sub hl [0] rfl)
        · have hF_54 := ineg c_52 hF_43
          clear hF_43
          refine lv_aload_n hx hb dX12_goIn_117 rfl (lv_at hl 0 rfl) ?_
          refine va_get (D := (dC, dI)) (ci := 12) (v := .int (s_37.2.1 104)) (C := RX12) (T := TX12) (N := 123) hx hb hts ii_X12 hown hK hP 0 rfl rfl 104 (by decide) (hts (.fieldLink RX12 685 "StoryHouseModel" "stop" "I") wq_1460) (fun _ h9 => h9) rfl dX12_goIn_118 ?_
          refine lv_if_ne (tgt := 146) hx hb dX12_goIn_121 (by decide) (fun c_55 => ?_) (fun c_55 => ?_)
          · have hF_63 := ineg c_55 hF_54
            clear hF_54
            exact Jj_42  s_37.2 hF_63 _ _ hP hS ls (lv_sub hl [0] rfl)
          · have hF_56 := ipos c_55 hF_54
            clear hF_54
            refine lv_aload_n hx hb dX12_goIn_124 rfl (lv_at hl 0 rfl) ?_
            refine lv_iload hx hb dX12_goIn_125 (lv_at hl 2 rfl) ?_
            refine lv_iload_n hx hb dX12_goIn_127 rfl (lv_at hl 1 rfl) ?_
            refine lv_bipush (v := 14) hx hb dX12_goIn_128 (by decide +kernel) ?_
            refine lv_iadd hx hb dX12_goIn_130 ?_
            obtain ⟨u_57, hu_57, hF_58⟩ := Option.bind_eq_some_iff.mp hF_56
            clear hF_56
            refine m_cv hsz hS (va_runV (As := [.int s_37.1, .int (p2 + 14)]) (rest := []) ⟨hx, hb, hml, hown, hts⟩ (hI3 H.size s_37.1 (p2 + 14) s_37.2 _ hu_57) (cwV 2 hts (g_gV wq_1813 wq_1814 wq_2212 wq_13 wq_1815) rfl rfl rfl (by decide +kernel) ⟨by show 7 + d + 1 ≤ 7 + (d + 1); omega, by show 8 + (6 + 11) + (168 + 26 * d) ≤ 168 + 26 * (d + 1); omega⟩) (m_preV g_bl0 hsz hK hP hS hE hKS g_to0) rfl rfl hl.1 rfl (lv_room (Nat.le_of_ble_eq_true rfl)) dX12_goIn_131 ⟨Nat.le_of_ble_eq_true rfl, Nat.le_of_ble_eq_true rfl⟩) (fun H locs hP hS => ?_)
            refine lv_aload_n hx hb dX12_goIn_134 rfl (lv_at hl 0 rfl) ?_
            refine va_get (D := (dC, dI)) (ci := 12) (v := .ref (ad 69)) (C := RX12) (T := TX12) (N := 123) hx hb hts ii_X12 hown hK hP 0 rfl rfl 69 (by decide) (hts (.fieldLink RX12 152 "StoryHouseModel" "bThen" "[I") wq_1425) (fun _ h9 => h9) rfl dX12_goIn_135 ?_
            refine lv_iload hx hb dX12_goIn_138 (lv_at hl 2 rfl) ?_
            obtain ⟨g_59, hF_60⟩ := nif_e hF_58
            clear hF_58
            refine va_iald (f := u_57.2.2 69) hx hb hK hP 42 2 rfl rfl g_59 dX12_goIn_140 ?_
            obtain ⟨x_61, ex_61, hF_62⟩ := bnd_e hF_60
            clear hF_60
            refine m_top ex_61 ?_
            refine lv_istore (lv' := [(5, .int x_61), (0, .ref h), (3, .int p2)]) hx hb dX12_goIn_141 hl (by decide) rfl (fun ls hl => ?_)
            refine lv_goto (tgt := 112) hx hb dX12_goIn_143 (by decide) ?_
            exact ih_39 (x_61, u_57.2) hF_62 _ _ hP hS ls (lv_sub hl [1, 2, 0] rfl)
      · have hF_64 := ineg c_19 hF_18
        clear hF_18
        refine lv_aload_n hx hb dX12_goIn_40 rfl (lv_at hl 0 rfl) ?_
        refine va_get (D := (dC, dI)) (ci := 12) (v := .ref (ad 111)) (C := RX12) (T := TX12) (N := 123) hx hb hts ii_X12 hown hK hP 0 rfl rfl 111 (by decide) (hts (.fieldLink RX12 215 "StoryHouseModel" "locals" "[I") wq_1467) (fun _ h9 => h9) rfl dX12_goIn_41 ?_
        refine lv_iload_n hx hb dX12_goIn_44 rfl (lv_at hl 2 rfl) ?_
        refine lv_bipush (v := 14) hx hb dX12_goIn_45 (by decide +kernel) ?_
        refine lv_iadd hx hb dX12_goIn_47 ?_
        refine lv_aload_n hx hb dX12_goIn_48 rfl (lv_at hl 0 rfl) ?_
        refine va_get (D := (dC, dI)) (ci := 12) (v := .ref (ad 68)) (C := RX12) (T := TX12) (N := 123) hx hb hts ii_X12 hown hK hP 0 rfl rfl 68 (by decide) (hts (.fieldLink RX12 149 "StoryHouseModel" "bD" "[I") wq_1424) (fun _ h9 => h9) rfl dX12_goIn_49 ?_
        refine lv_iload hx hb dX12_goIn_52 (lv_at hl 4 rfl) ?_
        obtain ⟨g_65, hF_66⟩ := nif_e hF_64
        clear hF_64
        refine va_iald (f := s_15.2.2.2 68) hx hb hK hP 41 2 rfl rfl g_65 dX12_goIn_54 ?_
        refine lv_iadd hx hb dX12_goIn_55 ?_
        obtain ⟨x_67, ex_67, hF_68⟩ := bnd_e hF_66
        clear hF_66
        refine m_top ex_67 ?_
        refine lv_aload_n hx hb dX12_goIn_56 rfl (lv_at hl 0 rfl) ?_
        refine va_get (D := (dC, dI)) (ci := 12) (v := .ref (ad 114)) (C := RX12) (T := TX12) (N := 123) hx hb hts ii_X12 hown hK hP 0 rfl rfl 114 (by decide) (hts (.fieldLink RX12 222 "StoryHouseModel" "waits" "[I") wq_1470) (fun _ h9 => h9) rfl dX12_goIn_57 ?_
        refine lv_iload hx hb dX12_goIn_60 (lv_at hl 3 rfl) ?_
        obtain ⟨x_69, ex_69, hF_70⟩ := bnd_e hF_68
        clear hF_68
        refine lv_iinc (v := x_69) (lv' := [(4, .int x_69), (0, .ref h), (1, .int p0), (3, .int p2), (5, .int s_15.2.1)]) hx hb dX12_goIn_62 hl (k := 3) rfl (by rw [ex_69]; rfl) (by decide) rfl (fun ls hl => ?_)
        obtain ⟨g_71, hF_72⟩ := nif_e hF_70
        clear hF_70
        refine va_iald (f := s_15.2.2.2 114) hx hb hK hP 64 2 rfl rfl g_71 dX12_goIn_65 ?_
        obtain ⟨x_73, ex_73, hF_74⟩ := bnd_e hF_72
        clear hF_72
        refine m_top ex_73 ?_
        obtain ⟨g_75, hF_76⟩ := nif_e hF_74
        clear hF_74
        obtain ⟨σ_77, eσ_77, hF_78⟩ := bnd_e hF_76
        clear hF_76
        refine m_iast (σ' := σ_77) hx hb hK hP (hDD _ _) hS (q0 := 62) (t0 := 2) (f := s_15.2.2.2 111) rfl rfl (by rw [eσ_77]; exact mwA_111) g_75 dX12_goIn_66 (fun H locs hP hS => ?_)
        refine lv_aload_n hx hb dX12_goIn_67 rfl (lv_at hl 1 rfl) ?_
        refine va_get (D := (dC, dI)) (ci := 12) (v := .ref (ad 69)) (C := RX12) (T := TX12) (N := 123) hx hb hts ii_X12 hown hK hP 0 rfl rfl 69 (by decide) (hts (.fieldLink RX12 152 "StoryHouseModel" "bThen" "[I") wq_1425) (fun _ h9 => h9) rfl dX12_goIn_68 ?_
        refine lv_iload hx hb dX12_goIn_71 (lv_at hl 4 rfl) ?_
        obtain ⟨g_79, hF_80⟩ := nif_e hF_78
        clear hF_78
        refine va_iald (f := σ_77.2 69) hx hb hK hP 42 2 rfl rfl g_79 dX12_goIn_73 ?_
        obtain ⟨x_81, ex_81, hF_82⟩ := bnd_e hF_80
        clear hF_80
        refine m_top ex_81 ?_
        refine lv_istore (lv' := [(5, .int x_81), (4, .int x_69), (0, .ref h), (1, .int p0), (3, .int p2)]) hx hb dX12_goIn_74 hl (by decide) rfl (fun ls hl => ?_)
        refine lv_goto (tgt := 35) hx hb dX12_goIn_76 (by decide) ?_
        exact ih_17 (x_69, x_81, σ_77) hF_82 _ _ hP hS ls (lv_sub hl [2, 3, 4, 1, 0] rfl)
    · have hF_7 := ipos c_6 hF_5
      clear hF_5
      refine lv_aload_n hx hb dX12_goIn_18 rfl (lv_at hl 0 rfl) ?_
      refine lv_iconst (v := 5) hx hb dX12_goIn_19 (by decide +kernel) ?_
      obtain ⟨u_8, hu_8, hF_9⟩ := Option.bind_eq_some_iff.mp hF_7
      clear hF_7
      refine m_ci hsz hS (va_runV (As := [.int 5]) (rest := []) ⟨hx, hb, hml, hown, hts⟩ (m_X12_breaks l dC dI cB cC cI cJ cZ cP h qK qS ad hDD H.size  5 u_1.2 _ hu_8) (cwV 1 hts (g_gV wq_1840 wq_1841 wq_2221 wq_13 wq_1842) rfl rfl rfl (by decide +kernel) ⟨by show 1 + 1 ≤ 7 + (d + 1); omega, by show 8 + (2 + 11) + 40 ≤ 168 + 26 * (d + 1); omega⟩) (m_preV g_bl0 hsz hK hP hS hE hKS g_to0) rfl rfl hl.1 rfl (lv_room (Nat.le_of_ble_eq_true rfl)) dX12_goIn_20 ⟨Nat.le_of_ble_eq_true rfl, Nat.le_of_ble_eq_true rfl⟩) (fun H locs hP hS => ?_)
      have h9 := Option.some.inj hF_9
      subst h9
      exact W.iret (v := u_8.1) hx hb hr (fun t ht hW => ⟨⟨u_8.1, (), rfl, rfl, m_end ht hP⟩, hS.F ht⟩) hS.2.2 dX12_goIn_23
  · have hF_4 := ipos c_3 hF_2
    clear hF_2
    refine lv_iconst (v := 0) hx hb dX12_goIn_7 (by decide +kernel) ?_
    have h9 := Option.some.inj hF_4
    subst h9
    exact W.iret (v := 0) hx hb hr (fun t ht hW => ⟨⟨0, (), rfl, rfl, m_end ht hP⟩, hS.F ht⟩) hS.2.2 dX12_goIn_8

def F_X12_statement_ (rec : GF) (p0 : Int32) (p1 : Int32) (σ : MS) : MR :=
  if p0 < 0 ∨ 40000 ≤ p0.toNatClampNeg then none else
  bnd ((σ.2 64 p0.toNatClampNeg)) fun (x_3 : Int32) =>
  if x_3 = 20 then (
    if p0 < 0 ∨ 40000 ≤ p0.toNatClampNeg then none else
    bnd ((σ.2 66 p0.toNatClampNeg)) fun (x_9 : Int32) =>
    loopF (fun (again_12 : (Int32 × MS) → MR) (s_11 : Int32 × MS) => (
      if s_11.1 < 0 then (
        some (0, s_11.2)
      ) else (
        if (s_11.2.1 104) = 0 then (
          (rec 5 s_11.1 p1 0 s_11.2).bind fun u_20 =>
          if s_11.1 < 0 ∨ 40000 ≤ s_11.1.toNatClampNeg then none else
          bnd ((u_20.2.2 69 s_11.1.toNatClampNeg)) fun (x_24 : Int32) =>
          again_12 (x_24, u_20.2)
        ) else (
          some (0, s_11.2)
        )
      )
    )) FU (x_9, σ)
  ) else
  if x_3 = 21 then (
    if p0 < 0 ∨ 40000 ≤ p0.toNatClampNeg then none else
    (rec 0 (σ.2 67 p0.toNatClampNeg) p1 0 σ).bind fun u_32 =>
    if p0 < 0 ∨ 40000 ≤ p0.toNatClampNeg then none else
    bnd ((u_32.2.2 66 p0.toNatClampNeg)) fun (x_36 : Int32) =>
    if x_36 < 0 ∨ 40000 ≤ x_36.toNatClampNeg then none else
    if (p1 + (u_32.2.2 68 x_36.toNatClampNeg)) < 0 ∨ 700 ≤ (p1 + (u_32.2.2 68 x_36.toNatClampNeg)).toNatClampNeg then none else
    bnd (mA u_32.2 111 (upd (u_32.2.2 111) (p1 + (u_32.2.2 68 x_36.toNatClampNeg)).toNatClampNeg u_32.1)) fun σ_42 =>
    some (0, σ_42)
  ) else
  if x_3 = 22 then (
    if p0 < 0 ∨ 40000 ≤ p0.toNatClampNeg then none else
    if p0 < 0 ∨ 40000 ≤ p0.toNatClampNeg then none else
    (rec 0 (σ.2 67 p0.toNatClampNeg) p1 0 σ).bind fun u_51 =>
    (F_X12_store (σ.2 66 p0.toNatClampNeg) u_51.1 p1 u_51.2).bind fun u_53 =>
    some (0, u_53.2)
  ) else
  if x_3 = 23 then (
    if p0 < 0 ∨ 40000 ≤ p0.toNatClampNeg then none else
    (rec 0 (σ.2 67 p0.toNatClampNeg) p1 0 σ).bind fun u_60 =>
    if p0 < 0 ∨ 40000 ≤ p0.toNatClampNeg then none else
    (rec 0 (u_60.2.2 68 p0.toNatClampNeg) p1 0 u_60.2).bind fun u_64 =>
    if p0 < 0 ∨ 40000 ≤ p0.toNatClampNeg then none else
    bnd ((u_64.2.2 66 p0.toNatClampNeg)) fun (x_68 : Int32) =>
    if x_68 < 0 ∨ 40000 ≤ x_68.toNatClampNeg then none else
    (F_X12_cellAt (u_64.2.2 68 x_68.toNatClampNeg) u_60.1 u_64.2).bind fun u_72 =>
    if u_72.1 = 0 then (
      some (0, u_72.2)
    ) else (
      if p0 < 0 ∨ 40000 ≤ p0.toNatClampNeg then none else
      bnd ((u_72.2.2 66 p0.toNatClampNeg)) fun (x_79 : Int32) =>
      if x_79 < 0 ∨ 40000 ≤ x_79.toNatClampNeg then none else
      bnd ((u_72.2.2 68 x_79.toNatClampNeg)) fun (x_83 : Int32) =>
      if x_83 < 0 ∨ 21 ≤ x_83.toNatClampNeg then none else
      bnd (((u_72.2.2 77 x_83.toNatClampNeg) + u_60.1)) fun (x_87 : Int32) =>
      if x_87 < 0 ∨ 1000 ≤ x_87.toNatClampNeg then none else
      bnd (mA u_72.2 92 (upd (u_72.2.2 92) x_87.toNatClampNeg u_64.1)) fun σ_91 =>
      some (0, σ_91)
    )
  ) else
  if x_3 = 24 then (
    if p0 < 0 ∨ 40000 ≤ p0.toNatClampNeg then none else
    (rec 0 (σ.2 66 p0.toNatClampNeg) p1 0 σ).bind fun u_98 =>
    if p0 < 0 ∨ 40000 ≤ p0.toNatClampNeg then none else
    (rec 0 (u_98.2.2 67 p0.toNatClampNeg) p1 0 u_98.2).bind fun u_102 =>
    if (u_102.2.1 104) = 0 then (
      (F_X12_move u_98.1 u_102.1 u_102.2).bind fun u_106 =>
      some (0, u_106.2)
    ) else (
      some (0, u_102.2)
    )
  ) else
  if x_3 = 25 then (
    if p0 < 0 ∨ 40000 ≤ p0.toNatClampNeg then none else
    (rec 0 (σ.2 66 p0.toNatClampNeg) p1 0 σ).bind fun u_114 =>
    if (u_114.2.1 104) = 0 then (
      (F_X12_isObject u_114.1 u_114.2).bind fun u_118 =>
      if u_118.1 = 0 then (
        some (0, u_118.2)
      ) else (
        bnd (fun  (σ_123 : MS) => (
          (F_X12_breaks 2 σ_123).bind fun u_127 =>
          some (0, u_127.2)
        ) : MS → MR) fun j_124 =>
        if u_114.1 = 1 then (
          j_124  u_118.2
        ) else (
          if u_114.1 < 0 ∨ 121 ≤ u_114.1.toNatClampNeg then none else
          if (u_118.2.2 50 u_114.1.toNatClampNeg) = 0 then (
            (F_X12_takeOut u_114.1 u_118.2).bind fun u_136 =>
            some (0, u_136.2)
          ) else (
            j_124  u_118.2
          )
        )
      )
    ) else (
      some (0, u_114.2)
    )
  ) else
  if x_3 = 26 then (
    if p0 < 0 ∨ 40000 ≤ p0.toNatClampNeg then none else
    (rec 0 (σ.2 66 p0.toNatClampNeg) p1 0 σ).bind fun u_145 =>
    if (u_145.2.1 104) = 0 then (
      (F_X12_isObject u_145.1 u_145.2).bind fun u_149 =>
      if u_149.1 = 0 then (
        some (0, u_149.2)
      ) else (
        if p0 < 0 ∨ 40000 ≤ p0.toNatClampNeg then none else
        bnd (((7 * u_145.1) + (u_149.2.2 67 p0.toNatClampNeg))) fun (x_156 : Int32) =>
        if p0 < 0 ∨ 40000 ≤ p0.toNatClampNeg then none else
        bnd (fun (t_160 : Int32) (σ_161 : MS) => (
          if x_156 < 0 ∨ 847 ≤ x_156.toNatClampNeg then none else
          bnd (mA σ_161 90 (upd (σ_161.2 90) x_156.toNatClampNeg (vp_nar .boolean t_160))) fun σ_167 =>
          some (0, σ_167)
        ) : Int32 → MS → MR) fun j_162 =>
        if (u_149.2.2 68 p0.toNatClampNeg) = 1 then (
          j_162 1 u_149.2
        ) else (
          j_162 0 u_149.2
        )
      )
    ) else (
      some (0, u_145.2)
    )
  ) else
  if x_3 = 27 then (
    if p0 < 0 ∨ 40000 ≤ p0.toNatClampNeg then none else
    (rec 0 (σ.2 66 p0.toNatClampNeg) p1 0 σ).bind fun u_178 =>
    if (u_178.2.1 104) = 0 then (
      bnd (fun (t_182 : Int32) (σ_183 : MS) => (
        bnd (fun  (σ_187 : MS) => (
          if t_182 < 0 then (
            some (0, σ_187)
          ) else (
            if t_182 < 0 ∨ 40000 ≤ t_182.toNatClampNeg then none else
            bnd ((σ_187.2 66 t_182.toNatClampNeg)) fun (x_196 : Int32) =>
            loopF (fun (again_199 : (Int32 × MS) → MR) (s_198 : Int32 × MS) => (
              if s_198.1 < 0 then (
                some (0, s_198.2)
              ) else (
                if (s_198.2.1 104) = 0 then (
                  (rec 3 s_198.1 p1 0 s_198.2).bind fun u_207 =>
                  if s_198.1 < 0 ∨ 40000 ≤ s_198.1.toNatClampNeg then none else
                  bnd ((u_207.2.2 69 s_198.1.toNatClampNeg)) fun (x_211 : Int32) =>
                  again_199 (x_211, u_207.2)
                ) else (
                  some (0, s_198.2)
                )
              )
            )) FU (x_196, σ_187)
          )
        ) : MS → MR) fun j_188 =>
        if t_182 < 0 then (
          j_188  σ_183
        ) else (
          if t_182 < 0 ∨ 40000 ≤ t_182.toNatClampNeg then none else
          if (σ_183.2 64 t_182.toNatClampNeg) = 27 then (
            (rec 3 t_182 p1 0 σ_183).bind fun u_221 =>
            some (0, u_221.2)
          ) else (
            j_188  σ_183
          )
        )
      ) : Int32 → MS → MR) fun j_184 =>
      if u_178.1 = 0 then (
        if p0 < 0 ∨ 40000 ≤ p0.toNatClampNeg then none else
        j_184 (u_178.2.2 68 p0.toNatClampNeg) u_178.2
      ) else (
        if p0 < 0 ∨ 40000 ≤ p0.toNatClampNeg then none else
        j_184 (u_178.2.2 67 p0.toNatClampNeg) u_178.2
      )
    ) else (
      some (0, u_178.2)
    )
  ) else
  if x_3 = 28 then (
    loopF (fun (again_236 : (MS) → MR) (s_235 : MS) => (
      if p0 < 0 ∨ 40000 ≤ p0.toNatClampNeg then none else
      (rec 0 (s_235.2 66 p0.toNatClampNeg) p1 0 s_235).bind fun u_241 =>
      if u_241.1 = 0 then (
        some (0, u_241.2)
      ) else (
        (F_X12_passes u_241.2).bind fun u_246 =>
        if u_246.1 = 0 then (
          some (0, u_246.2)
        ) else (
          if p0 < 0 ∨ 40000 ≤ p0.toNatClampNeg then none else
          bnd ((u_246.2.2 67 p0.toNatClampNeg)) fun (x_253 : Int32) =>
          if x_253 < 0 ∨ 40000 ≤ x_253.toNatClampNeg then none else
          bnd ((u_246.2.2 66 x_253.toNatClampNeg)) fun (x_257 : Int32) =>
          loopF (fun (again_260 : (Int32 × MS) → MR) (s_259 : Int32 × MS) => (
            bnd (fun  (σ_263 : MS) => (
              again_236 σ_263
            ) : MS → MR) fun j_264 =>
            if s_259.1 < 0 then (
              j_264  s_259.2
            ) else (
              if (s_259.2.1 104) = 0 then (
                (rec 3 s_259.1 p1 0 s_259.2).bind fun u_272 =>
                if s_259.1 < 0 ∨ 40000 ≤ s_259.1.toNatClampNeg then none else
                bnd ((u_272.2.2 69 s_259.1.toNatClampNeg)) fun (x_276 : Int32) =>
                again_260 (x_276, u_272.2)
              ) else (
                j_264  s_259.2
              )
            )
          )) FU (x_257, u_246.2)
        )
      )
    )) FU σ
  ) else
  if x_3 = 29 then (
    if p0 < 0 ∨ 40000 ≤ p0.toNatClampNeg then none else
    (rec 0 (σ.2 66 p0.toNatClampNeg) p1 0 σ).bind fun u_284 =>
    if (u_284.2.1 104) = 0 then (
      bnd (mI u_284.2 110 u_284.1) fun σ_288 =>
      bnd (mI σ_288 104 4) fun σ_290 =>
      some (0, σ_290)
    ) else (
      some (0, u_284.2)
    )
  ) else
  if x_3 = 30 then (
    bnd (mI σ 104 1) fun σ_296 =>
    some (0, σ_296)
  ) else
  if x_3 = 31 ∨ x_3 = 32 then (
    if p0 < 0 ∨ 40000 ≤ p0.toNatClampNeg then none else
    bnd (fun (t_303 : Int32) (σ_304 : MS) => (
      bnd (mI σ_304 95 t_303) fun σ_308 =>
      (F_X12_put 10 σ_308).bind fun u_310 =>
      if (u_310.2.1 95) = 1 then (
        (F_X12_line ([42, 42, 42, 32, 89, 111, 117, 32, 104, 97, 118, 101, 32, 119, 111, 110, 32, 42, 42, 42] : List Int32) u_310.2).bind fun u_315 =>
        bnd (mI u_315.2 104 2) fun σ_317 =>
        some (0, σ_317)
      ) else (
        (F_X12_line ([42, 42, 42, 32, 89, 111, 117, 32, 104, 97, 118, 101, 32, 108, 111, 115, 116, 32, 42, 42, 42] : List Int32) u_310.2).bind fun u_321 =>
        bnd (mI u_321.2 104 2) fun σ_323 =>
        some (0, σ_323)
      )
    ) : Int32 → MS → MR) fun j_305 =>
    if (σ.2 64 p0.toNatClampNeg) = 31 then (
      j_305 1 σ
    ) else (
      j_305 2 σ
    )
  ) else
  (
    if p0 < 0 ∨ 40000 ≤ p0.toNatClampNeg then none else
    if p0 < 0 ∨ 40000 ≤ p0.toNatClampNeg then none else
    (rec 4 (σ.2 68 p0.toNatClampNeg) (σ.2 67 p0.toNatClampNeg) p1 σ).bind fun u_333 =>
    some (0, u_333.2)
  )
set_option maxHeartbeats 4000000 in
set_option maxRecDepth 100000 in
theorem m_X12_statement__st (l : Launch) (dC : Nat → ClassId) (dI : Nat → Nat → Nat) (cB cC cI cJ cZ cP : ClassId) (h qK qS : Nat) (ad : Nat → Nat) (hDD : mDis cB cI cZ h qK qS ad) (d : Nat) (rec : GF) (hI0 : ∀ (sz : Nat) (p0 : Int32) (p1 : Int32) (σ : MS) (res : Int32 × MS), rec 0 p0 p1 0 σ = some res → Met l yX12_eval (g_ws yX12_eval cX12_eval 6 (some .int)) ({ frames := 7 + d, cells := 0, slots := 0, locals := 168 + 26 * d }) (va_Pc [.ref h, .int p0, .int p1] (m_B (dC, dI) [(cB, .byte), (cC, .char), (cI, .int), (cJ, .long), (cZ, .boolean), (cP, .object "StoryHouse$Play")] sz h ad qK qS (mW cB cI cZ h qK qS ad σ) g_0)) (va_Qi (fun r (_ : Unit) => r = res.1) (fun _ t => va_P (dC, dI) vwCl (mW cB cI cZ h qK qS ad res.2) t.heap) (mCells h ad sz)) 0 0 (mCells h ad sz)) (hI1 : ∀ (sz : Nat) (p0 : Int32) (p1 : Int32) (σ : MS) (res : Int32 × MS), rec 1 p0 p1 0 σ = some res → Met l yX12_calls (g_ws yX12_calls cX12_calls 5 none) ({ frames := 7 + d, cells := 0, slots := 0, locals := 168 + 26 * d }) (va_Pc [.ref h, .int p0, .int p1] (m_B (dC, dI) [(cB, .byte), (cC, .char), (cI, .int), (cJ, .long), (cZ, .boolean), (cP, .object "StoryHouse$Play")] sz h ad qK qS (mW cB cI cZ h qK qS ad σ) g_0)) (va_Qv (fun (_ : Unit) => True) (fun _ t => va_P (dC, dI) vwCl (mW cB cI cZ h qK qS ad res.2) t.heap) (mCells h ad sz)) 0 0 (mCells h ad sz)) (hI2 : ∀ (sz : Nat) (p0 : Int32) (p1 : Int32) (p2 : Int32) (σ : MS) (res : Int32 × MS), rec 2 p0 p1 p2  σ = some res → Met l yX12_goIn (g_ws yX12_goIn cX12_goIn 6 (some .int)) ({ frames := 7 + d, cells := 0, slots := 0, locals := 168 + 26 * d }) (va_Pc [.ref h, .int p0, .int p1, .int p2] (m_B (dC, dI) [(cB, .byte), (cC, .char), (cI, .int), (cJ, .long), (cZ, .boolean), (cP, .object "StoryHouse$Play")] sz h ad qK qS (mW cB cI cZ h qK qS ad σ) g_0)) (va_Qi (fun r (_ : Unit) => r = res.1) (fun _ t => va_P (dC, dI) vwCl (mW cB cI cZ h qK qS ad res.2) t.heap) (mCells h ad sz)) 0 0 (mCells h ad sz)) (hI3 : ∀ (sz : Nat) (p0 : Int32) (p1 : Int32) (σ : MS) (res : Int32 × MS), rec 3 p0 p1 0 σ = some res → Met l yX12_statement_ (g_ws yX12_statement_ cX12_statement_ 6 none) ({ frames := 7 + d, cells := 0, slots := 0, locals := 168 + 26 * d }) (va_Pc [.ref h, .int p0, .int p1] (m_B (dC, dI) [(cB, .byte), (cC, .char), (cI, .int), (cJ, .long), (cZ, .boolean), (cP, .object "StoryHouse$Play")] sz h ad qK qS (mW cB cI cZ h qK qS ad σ) g_0)) (va_Qv (fun (_ : Unit) => True) (fun _ t => va_P (dC, dI) vwCl (mW cB cI cZ h qK qS ad res.2) t.heap) (mCells h ad sz)) 0 0 (mCells h ad sz)) (hI4 : ∀ (sz : Nat) (p0 : Int32) (p1 : Int32) (p2 : Int32) (σ : MS) (res : Int32 × MS), rec 4 p0 p1 p2  σ = some res → Met l yX12_call (g_ws yX12_call cX12_call 7 (some .int)) ({ frames := 7 + d, cells := 0, slots := 0, locals := 168 + 26 * d }) (va_Pc [.ref h, .int p0, .int p1, .int p2] (m_B (dC, dI) [(cB, .byte), (cC, .char), (cI, .int), (cJ, .long), (cZ, .boolean), (cP, .object "StoryHouse$Play")] sz h ad qK qS (mW cB cI cZ h qK qS ad σ) g_0)) (va_Qi (fun r (_ : Unit) => r = res.1) (fun _ t => va_P (dC, dI) vwCl (mW cB cI cZ h qK qS ad res.2) t.heap) (mCells h ad sz)) 0 0 (mCells h ad sz)) (hI5 : ∀ (sz : Nat) (p0 : Int32) (p1 : Int32) (σ : MS) (res : Int32 × MS), rec 5 p0 p1 0 σ = some res → Met l yX12_tell (g_ws yX12_tell cX12_tell 4 none) ({ frames := 7 + d, cells := 0, slots := 0, locals := 168 + 26 * d }) (va_Pc [.ref h, .int p0, .int p1] (m_B (dC, dI) [(cB, .byte), (cC, .char), (cI, .int), (cJ, .long), (cZ, .boolean), (cP, .object "StoryHouse$Play")] sz h ad qK qS (mW cB cI cZ h qK qS ad σ) g_0)) (va_Qv (fun (_ : Unit) => True) (fun _ t => va_P (dC, dI) vwCl (mW cB cI cZ h qK qS ad res.2) t.heap) (mCells h ad sz)) 0 0 (mCells h ad sz)) (sz : Nat)  (p0 : Int32) (p1 : Int32) (σ : MS) (res : Int32 × MS) (hF : F_X12_statement_ rec p0 p1 σ = some res) : Met l yX12_statement_ (g_ws yX12_statement_ cX12_statement_ 6 none) ({ frames := 7 + (d + 1), cells := 0, slots := 0, locals := 168 + 26 * (d + 1) }) (va_Pc [.ref h, .int p0, .int p1] (m_B (dC, dI) [(cB, .byte), (cC, .char), (cI, .int), (cJ, .long), (cZ, .boolean), (cP, .object "StoryHouse$Play")] sz h ad qK qS (mW cB cI cZ h qK qS ad σ) g_0)) (va_Qv (fun (_ : Unit) => True) (fun _ t => va_P (dC, dI) vwCl (mW cB cI cZ h qK qS ad res.2) t.heap) (mCells h ad sz)) 0 0 (mCells h ad sz) := by
  refine Met.ofW (cc := cX12_statement_) (maxL := 6) (ret := none) (by decide) rfl ?_
  intro p e s m args below meth c s₁ B hml hv
  obtain ⟨rfl, hsz, hP, hK, hE, hKS, hX⟩ := hv
  have hx := B.exec
  have hb := B.bytes
  have hr := B.returns
  have hts0 := atoms_spec (ws := g_ws yX12_statement_ cX12_statement_ 6 none) B.pre
  have hts : ∀ w ∈ lw_good, w.before ([.ref h, .int p0, .int p1] : List Value).toArray s = true := fun w z => hts0 w (List.mem_cons_of_mem _ z)
  have hown : s.vm.findClass RX12 = some m.cls := findClass_of_methodNamed B.named
  have hlocks := B.notSynchronized
  have hS : va_S (mCells h ad sz) s.heap s.heap [] := va_S.rf
  have hl := lv_entry ([.ref h, .int p0, .int p1]) (n := 6) (Nat.le_of_ble_eq_true rfl)
  rw [lg_entry_eq]
  generalize (lg_sl ([.ref h, .int p0, .int p1]) ++ List.replicate (6 - (lg_sl ([.ref h, .int p0, .int p1])).length) Slot.unset).toArray = ls at hl ⊢
  have hl : lv_has ls 6 [(0, .ref h), (1, .int p0), (2, .int p1)] := hl
  unfold F_X12_statement_ at hF
  refine lv_iconst (v := 0) hx hb dX12_statement__0 (by decide +kernel) ?_
  refine lv_istore_n (lv' := [(3, .int 0), (0, .ref h), (1, .int p0), (2, .int p1)]) hx hb dX12_statement__1 rfl hl (by decide) rfl (fun ls hl => ?_)
  refine lv_iconst (v := 0) hx hb dX12_statement__2 (by decide +kernel) ?_
  refine lv_istore (lv' := [(4, .int 0), (3, .int 0), (0, .ref h), (1, .int p0), (2, .int p1)]) hx hb dX12_statement__3 hl (by decide) rfl (fun ls hl => ?_)
  refine lv_aload_n hx hb dX12_statement__5 rfl (lv_at hl 2 rfl) ?_
  refine va_get (D := (dC, dI)) (ci := 12) (v := .ref (ad 64)) (C := RX12) (T := TX12) (N := 123) hx hb hts ii_X12 hown hK hP 0 rfl rfl 64 (by decide) (hts (.fieldLink RX12 137 "StoryHouseModel" "bWhat" "[I") wq_1420) (fun _ h9 => h9) rfl dX12_statement__6 ?_
  refine lv_iload_n hx hb dX12_statement__9 rfl (lv_at hl 3 rfl) ?_
  obtain ⟨g_1, hF_2⟩ := nif_e hF
  clear hF
  refine va_iald (f := σ.2 64) hx hb hK hP 37 2 rfl rfl g_1 dX12_statement__10 ?_
  obtain ⟨x_3, ex_3, hF_4⟩ := bnd_e hF_2
  clear hF_2
  refine m_top ex_3 ?_
  by_cases c_5 : x_3 = 20
  · have hF_6 := ipos c_5 hF_4
    clear hF_4
    refine lv_tableIn (off := 65) (tgt := 76) hx hb dX12_statement__11 (by rw [c_5]; decide +kernel) (by rw [c_5]; decide +kernel) (by rw [c_5]; decide +kernel) (by decide) ?_
    refine lv_aload_n hx hb dX12_statement__76 rfl (lv_at hl 2 rfl) ?_
    refine va_get (D := (dC, dI)) (ci := 12) (v := .ref (ad 66)) (C := RX12) (T := TX12) (N := 123) hx hb hts ii_X12 hown hK hP 0 rfl rfl 66 (by decide) (hts (.fieldLink RX12 143 "StoryHouseModel" "bA" "[I") wq_1422) (fun _ h9 => h9) rfl dX12_statement__77 ?_
    refine lv_iload_n hx hb dX12_statement__80 rfl (lv_at hl 3 rfl) ?_
    obtain ⟨g_7, hF_8⟩ := nif_e hF_6
    clear hF_6
    refine va_iald (f := σ.2 66) hx hb hK hP 39 2 rfl rfl g_7 dX12_statement__81 ?_
    obtain ⟨x_9, ex_9, hF_10⟩ := bnd_e hF_8
    clear hF_8
    refine m_top ex_9 ?_
    refine lv_istore (lv' := [(5, .int x_9), (4, .int 0), (3, .int 0), (0, .ref h), (1, .int p0), (2, .int p1)]) hx hb dX12_statement__82 hl (by decide) rfl (fun ls hl => ?_)
    refine loopF_ind (P := fun (s_11 : Int32 × MS) => ∀ (H : Heap) (locs : List Loc), va_P (dC, dI) vwCl (mW cB cI cZ h qK qS ad s_11.2) H → va_S (mCells h ad sz) s.heap H locs → ∀ ls : Array Slot, lv_has ls 6 [(0, .ref h), (2, .int p1), (5, .int s_11.1)] → W p l e (headSpec (g_ws yX12_statement_ cX12_statement_ 6 none) { frames := 7 + (d + 1), cells := 0, slots := 0, locals := 168 + 26 * (d + 1) }).room s m ([.ref h, .int p0, .int p1] : List Value).toArray below meth c H locs 0 0 (MQ below (va_Qv (fun (_ : Unit) => True) (fun _ t => va_P (dC, dI) vwCl (mW cB cI cZ h qK qS ad res.2) t.heap) (mCells h ad sz)) ([.ref h, .int p0, .int p1] : List Value).toArray s 0 0 (mCells h ad sz)) (F0 m 84 ls [])) ?_ _ _ hF_10 _ _ hP hS ls (lv_sub hl [3, 5, 0] rfl)
    intro again_12 s_11 ih_13 hF_14
    intro H locs hP hS ls hl
    refine lv_iload hx hb dX12_statement__84 (lv_at hl 2 rfl) ?_
    refine lv_if_lt (tgt := 115) hx hb dX12_statement__86 (by decide) (fun c_15 => ?_) (fun c_15 => ?_)
    · have hF_16 := ipos c_15 hF_14
      clear hF_14
      refine lv_goto (tgt := 708) hx hb dX12_statement__115 (by decide) ?_
      have h9 := Option.some.inj hF_16
      subst h9
      exact W.vret hx hb hr (fun t ht hW => ⟨⟨(), rfl, trivial, m_end ht hP⟩, hS.F ht⟩) hS.2.2 dX12_statement__708
    · have hF_17 := ineg c_15 hF_14
      clear hF_14
      refine lv_aload_n hx hb dX12_statement__89 rfl (lv_at hl 0 rfl) ?_
      refine va_get (D := (dC, dI)) (ci := 12) (v := .int (s_11.2.1 104)) (C := RX12) (T := TX12) (N := 123) hx hb hts ii_X12 hown hK hP 0 rfl rfl 104 (by decide) (hts (.fieldLink RX12 685 "StoryHouseModel" "stop" "I") wq_1460) (fun _ h9 => h9) rfl dX12_statement__90 ?_
      refine lv_if_ne (tgt := 115) hx hb dX12_statement__93 (by decide) (fun c_18 => ?_) (fun c_18 => ?_)
      · have hF_26 := ineg c_18 hF_17
        clear hF_17
        refine lv_goto (tgt := 708) hx hb dX12_statement__115 (by decide) ?_
        have h9 := Option.some.inj hF_26
        subst h9
        exact W.vret hx hb hr (fun t ht hW => ⟨⟨(), rfl, trivial, m_end ht hP⟩, hS.F ht⟩) hS.2.2 dX12_statement__708
      · have hF_19 := ipos c_18 hF_17
        clear hF_17
        refine lv_aload_n hx hb dX12_statement__96 rfl (lv_at hl 0 rfl) ?_
        refine lv_iload hx hb dX12_statement__97 (lv_at hl 2 rfl) ?_
        refine lv_iload_n hx hb dX12_statement__99 rfl (lv_at hl 1 rfl) ?_
        obtain ⟨u_20, hu_20, hF_21⟩ := Option.bind_eq_some_iff.mp hF_19
        clear hF_19
        refine m_cv hsz hS (va_runV (As := [.int s_11.1, .int p1]) (rest := []) ⟨hx, hb, hml, hown, hts⟩ (hI5 H.size s_11.1 p1 s_11.2 _ hu_20) (cwV 2 hts (g_gV wq_1816 wq_1817 wq_2213 wq_13 wq_1818) rfl rfl rfl (by decide +kernel) ⟨by show 7 + d + 1 ≤ 7 + (d + 1); omega, by show 8 + (4 + 11) + (168 + 26 * d) ≤ 168 + 26 * (d + 1); omega⟩) (m_preV g_bl0 hsz hK hP hS hE hKS g_to0) rfl rfl hl.1 rfl (lv_room (Nat.le_of_ble_eq_true rfl)) dX12_statement__100 ⟨Nat.le_of_ble_eq_true rfl, Nat.le_of_ble_eq_true rfl⟩) (fun H locs hP hS => ?_)
        refine lv_aload_n hx hb dX12_statement__103 rfl (lv_at hl 0 rfl) ?_
        refine va_get (D := (dC, dI)) (ci := 12) (v := .ref (ad 69)) (C := RX12) (T := TX12) (N := 123) hx hb hts ii_X12 hown hK hP 0 rfl rfl 69 (by decide) (hts (.fieldLink RX12 152 "StoryHouseModel" "bThen" "[I") wq_1425) (fun _ h9 => h9) rfl dX12_statement__104 ?_
        refine lv_iload hx hb dX12_statement__107 (lv_at hl 2 rfl) ?_
        obtain ⟨g_22, hF_23⟩ := nif_e hF_21
        clear hF_21
        refine va_iald (f := u_20.2.2 69) hx hb hK hP 42 2 rfl rfl g_22 dX12_statement__109 ?_
        obtain ⟨x_24, ex_24, hF_25⟩ := bnd_e hF_23
        clear hF_23
        refine m_top ex_24 ?_
        refine lv_istore (lv' := [(5, .int x_24), (0, .ref h), (2, .int p1)]) hx hb dX12_statement__110 hl (by decide) rfl (fun ls hl => ?_)
        refine lv_goto (tgt := 84) hx hb dX12_statement__112 (by decide) ?_
        exact ih_13 (x_24, u_20.2) hF_25 _ _ hP hS ls (lv_sub hl [1, 2, 0] rfl)
  have hF_27 := ineg c_5 hF_4
  clear hF_4
  by_cases c_28 : x_3 = 21
  · have hF_29 := ipos c_28 hF_27
    clear hF_27
    refine lv_tableIn (off := 107) (tgt := 118) hx hb dX12_statement__11 (by rw [c_28]; decide +kernel) (by rw [c_28]; decide +kernel) (by rw [c_28]; decide +kernel) (by decide) ?_
    refine lv_aload_n hx hb dX12_statement__118 rfl (lv_at hl 2 rfl) ?_
    refine lv_aload_n hx hb dX12_statement__119 rfl (lv_at hl 2 rfl) ?_
    refine va_get (D := (dC, dI)) (ci := 12) (v := .ref (ad 67)) (C := RX12) (T := TX12) (N := 123) hx hb hts ii_X12 hown hK hP 0 rfl rfl 67 (by decide) (hts (.fieldLink RX12 146 "StoryHouseModel" "bB" "[I") wq_1423) (fun _ h9 => h9) rfl dX12_statement__120 ?_
    refine lv_iload_n hx hb dX12_statement__123 rfl (lv_at hl 3 rfl) ?_
    obtain ⟨g_30, hF_31⟩ := nif_e hF_29
    clear hF_29
    refine va_iald (f := σ.2 67) hx hb hK hP 40 2 rfl rfl g_30 dX12_statement__124 ?_
    refine lv_iload_n hx hb dX12_statement__125 rfl (lv_at hl 4 rfl) ?_
    obtain ⟨u_32, hu_32, hF_33⟩ := Option.bind_eq_some_iff.mp hF_31
    clear hF_31
    refine m_ci hsz hS (va_runV (As := [.int (σ.2 67 p0.toNatClampNeg), .int p1]) (rest := []) ⟨hx, hb, hml, hown, hts⟩ (hI0 s.heap.size (σ.2 67 p0.toNatClampNeg) p1 σ _ hu_32) (cwV 2 hts (g_gV wq_1819 wq_1820 wq_2214 wq_13 wq_1821) rfl rfl rfl (by decide +kernel) ⟨by show 7 + d + 1 ≤ 7 + (d + 1); omega, by show 8 + (6 + 11) + (168 + 26 * d) ≤ 168 + 26 * (d + 1); omega⟩) (m_preV g_bl0 hsz hK hP hS hE hKS g_to0) rfl rfl hl.1 rfl (lv_room (Nat.le_of_ble_eq_true rfl)) dX12_statement__126 ⟨Nat.le_of_ble_eq_true rfl, Nat.le_of_ble_eq_true rfl⟩) (fun H locs hP hS => ?_)
    refine lv_istore_n (lv' := [(3, .int u_32.1), (4, .int 0), (0, .ref h), (1, .int p0), (2, .int p1)]) hx hb dX12_statement__129 rfl hl (by decide) rfl (fun ls hl => ?_)
    refine lv_aload_n hx hb dX12_statement__130 rfl (lv_at hl 2 rfl) ?_
    refine va_get (D := (dC, dI)) (ci := 12) (v := .ref (ad 111)) (C := RX12) (T := TX12) (N := 123) hx hb hts ii_X12 hown hK hP 0 rfl rfl 111 (by decide) (hts (.fieldLink RX12 215 "StoryHouseModel" "locals" "[I") wq_1467) (fun _ h9 => h9) rfl dX12_statement__131 ?_
    refine lv_iload_n hx hb dX12_statement__134 rfl (lv_at hl 4 rfl) ?_
    refine lv_aload_n hx hb dX12_statement__135 rfl (lv_at hl 2 rfl) ?_
    refine va_get (D := (dC, dI)) (ci := 12) (v := .ref (ad 68)) (C := RX12) (T := TX12) (N := 123) hx hb hts ii_X12 hown hK hP 0 rfl rfl 68 (by decide) (hts (.fieldLink RX12 149 "StoryHouseModel" "bD" "[I") wq_1424) (fun _ h9 => h9) rfl dX12_statement__136 ?_
    refine lv_aload_n hx hb dX12_statement__139 rfl (lv_at hl 2 rfl) ?_
    refine va_get (D := (dC, dI)) (ci := 12) (v := .ref (ad 66)) (C := RX12) (T := TX12) (N := 123) hx hb hts ii_X12 hown hK hP 0 rfl rfl 66 (by decide) (hts (.fieldLink RX12 143 "StoryHouseModel" "bA" "[I") wq_1422) (fun _ h9 => h9) rfl dX12_statement__140 ?_
    refine lv_iload_n hx hb dX12_statement__143 rfl (lv_at hl 3 rfl) ?_
    obtain ⟨g_34, hF_35⟩ := nif_e hF_33
    clear hF_33
    refine va_iald (f := u_32.2.2 66) hx hb hK hP 39 2 rfl rfl g_34 dX12_statement__144 ?_
    obtain ⟨x_36, ex_36, hF_37⟩ := bnd_e hF_35
    clear hF_35
    refine m_top ex_36 ?_
    obtain ⟨g_38, hF_39⟩ := nif_e hF_37
    clear hF_37
    refine va_iald (f := u_32.2.2 68) hx hb hK hP 41 2 rfl rfl g_38 dX12_statement__145 ?_
    refine lv_iadd hx hb dX12_statement__146 ?_
    refine lv_iload_n hx hb dX12_statement__147 rfl (lv_at hl 0 rfl) ?_
    obtain ⟨g_40, hF_41⟩ := nif_e hF_39
    clear hF_39
    obtain ⟨σ_42, eσ_42, hF_43⟩ := bnd_e hF_41
    clear hF_41
    refine m_iast (σ' := σ_42) hx hb hK hP (hDD _ _) hS (q0 := 62) (t0 := 2) (f := u_32.2.2 111) rfl rfl (by rw [eσ_42]; exact mwA_111) g_40 dX12_statement__148 (fun H locs hP hS => ?_)
    refine lv_goto (tgt := 708) hx hb dX12_statement__149 (by decide) ?_
    have h9 := Option.some.inj hF_43
    subst h9
    exact W.vret hx hb hr (fun t ht hW => ⟨⟨(), rfl, trivial, m_end ht hP⟩, hS.F ht⟩) hS.2.2 dX12_statement__708
  have hF_44 := ineg c_28 hF_27
  clear hF_27
  by_cases c_45 : x_3 = 22
  · have hF_46 := ipos c_45 hF_44
    clear hF_44
    refine lv_tableIn (off := 141) (tgt := 152) hx hb dX12_statement__11 (by rw [c_45]; decide +kernel) (by rw [c_45]; decide +kernel) (by rw [c_45]; decide +kernel) (by decide) ?_
    refine lv_aload_n hx hb dX12_statement__152 rfl (lv_at hl 2 rfl) ?_
    refine lv_aload_n hx hb dX12_statement__153 rfl (lv_at hl 2 rfl) ?_
    refine va_get (D := (dC, dI)) (ci := 12) (v := .ref (ad 66)) (C := RX12) (T := TX12) (N := 123) hx hb hts ii_X12 hown hK hP 0 rfl rfl 66 (by decide) (hts (.fieldLink RX12 143 "StoryHouseModel" "bA" "[I") wq_1422) (fun _ h9 => h9) rfl dX12_statement__154 ?_
    refine lv_iload_n hx hb dX12_statement__157 rfl (lv_at hl 3 rfl) ?_
    obtain ⟨g_47, hF_48⟩ := nif_e hF_46
    clear hF_46
    refine va_iald (f := σ.2 66) hx hb hK hP 39 2 rfl rfl g_47 dX12_statement__158 ?_
    refine lv_aload_n hx hb dX12_statement__159 rfl (lv_at hl 2 rfl) ?_
    refine lv_aload_n hx hb dX12_statement__160 rfl (lv_at hl 2 rfl) ?_
    refine va_get (D := (dC, dI)) (ci := 12) (v := .ref (ad 67)) (C := RX12) (T := TX12) (N := 123) hx hb hts ii_X12 hown hK hP 0 rfl rfl 67 (by decide) (hts (.fieldLink RX12 146 "StoryHouseModel" "bB" "[I") wq_1423) (fun _ h9 => h9) rfl dX12_statement__161 ?_
    refine lv_iload_n hx hb dX12_statement__164 rfl (lv_at hl 3 rfl) ?_
    obtain ⟨g_49, hF_50⟩ := nif_e hF_48
    clear hF_48
    refine va_iald (f := σ.2 67) hx hb hK hP 40 2 rfl rfl g_49 dX12_statement__165 ?_
    refine lv_iload_n hx hb dX12_statement__166 rfl (lv_at hl 4 rfl) ?_
    obtain ⟨u_51, hu_51, hF_52⟩ := Option.bind_eq_some_iff.mp hF_50
    clear hF_50
    refine m_ci hsz hS (va_runV (As := [.int (σ.2 67 p0.toNatClampNeg), .int p1]) (rest := [.int (σ.2 66 p0.toNatClampNeg), .ref h]) ⟨hx, hb, hml, hown, hts⟩ (hI0 s.heap.size (σ.2 67 p0.toNatClampNeg) p1 σ _ hu_51) (cwV 2 hts (g_gV wq_1819 wq_1820 wq_2214 wq_13 wq_1821) rfl rfl rfl (by decide +kernel) ⟨by show 7 + d + 1 ≤ 7 + (d + 1); omega, by show 8 + (6 + 11) + (168 + 26 * d) ≤ 168 + 26 * (d + 1); omega⟩) (m_preV g_bl0 hsz hK hP hS hE hKS g_to0) rfl rfl hl.1 rfl (lv_room (Nat.le_of_ble_eq_true rfl)) dX12_statement__167 ⟨Nat.le_of_ble_eq_true rfl, Nat.le_of_ble_eq_true rfl⟩) (fun H locs hP hS => ?_)
    refine lv_iload_n hx hb dX12_statement__170 rfl (lv_at hl 4 rfl) ?_
    obtain ⟨u_53, hu_53, hF_54⟩ := Option.bind_eq_some_iff.mp hF_52
    clear hF_52
    refine m_cv hsz hS (va_runV (As := [.int (σ.2 66 p0.toNatClampNeg), .int u_51.1, .int p1]) (rest := []) ⟨hx, hb, hml, hown, hts⟩ (m_X12_store l dC dI cB cC cI cJ cZ cP h qK qS ad hDD H.size  (σ.2 66 p0.toNatClampNeg) u_51.1 p1 u_51.2 _ hu_53) (cwV 3 hts (g_gV wq_1865 wq_1866 wq_2229 wq_13 wq_1867) rfl rfl rfl (by decide +kernel) ⟨by show 1 + 1 ≤ 7 + (d + 1); omega, by show 8 + (4 + 11) + 40 ≤ 168 + 26 * (d + 1); omega⟩) (m_preV g_bl0 hsz hK hP hS hE hKS g_to0) rfl rfl hl.1 rfl (lv_room (Nat.le_of_ble_eq_true rfl)) dX12_statement__171 ⟨Nat.le_of_ble_eq_true rfl, Nat.le_of_ble_eq_true rfl⟩) (fun H locs hP hS => ?_)
    refine lv_goto (tgt := 708) hx hb dX12_statement__174 (by decide) ?_
    have h9 := Option.some.inj hF_54
    subst h9
    exact W.vret hx hb hr (fun t ht hW => ⟨⟨(), rfl, trivial, m_end ht hP⟩, hS.F ht⟩) hS.2.2 dX12_statement__708
  have hF_55 := ineg c_45 hF_44
  clear hF_44
  by_cases c_56 : x_3 = 23
  · have hF_57 := ipos c_56 hF_55
    clear hF_55
    refine lv_tableIn (off := 166) (tgt := 177) hx hb dX12_statement__11 (by rw [c_56]; decide +kernel) (by rw [c_56]; decide +kernel) (by rw [c_56]; decide +kernel) (by decide) ?_
    refine lv_aload_n hx hb dX12_statement__177 rfl (lv_at hl 2 rfl) ?_
    refine lv_aload_n hx hb dX12_statement__178 rfl (lv_at hl 2 rfl) ?_
    refine va_get (D := (dC, dI)) (ci := 12) (v := .ref (ad 67)) (C := RX12) (T := TX12) (N := 123) hx hb hts ii_X12 hown hK hP 0 rfl rfl 67 (by decide) (hts (.fieldLink RX12 146 "StoryHouseModel" "bB" "[I") wq_1423) (fun _ h9 => h9) rfl dX12_statement__179 ?_
    refine lv_iload_n hx hb dX12_statement__182 rfl (lv_at hl 3 rfl) ?_
    obtain ⟨g_58, hF_59⟩ := nif_e hF_57
    clear hF_57
    refine va_iald (f := σ.2 67) hx hb hK hP 40 2 rfl rfl g_58 dX12_statement__183 ?_
    refine lv_iload_n hx hb dX12_statement__184 rfl (lv_at hl 4 rfl) ?_
    obtain ⟨u_60, hu_60, hF_61⟩ := Option.bind_eq_some_iff.mp hF_59
    clear hF_59
    refine m_ci hsz hS (va_runV (As := [.int (σ.2 67 p0.toNatClampNeg), .int p1]) (rest := []) ⟨hx, hb, hml, hown, hts⟩ (hI0 s.heap.size (σ.2 67 p0.toNatClampNeg) p1 σ _ hu_60) (cwV 2 hts (g_gV wq_1819 wq_1820 wq_2214 wq_13 wq_1821) rfl rfl rfl (by decide +kernel) ⟨by show 7 + d + 1 ≤ 7 + (d + 1); omega, by show 8 + (6 + 11) + (168 + 26 * d) ≤ 168 + 26 * (d + 1); omega⟩) (m_preV g_bl0 hsz hK hP hS hE hKS g_to0) rfl rfl hl.1 rfl (lv_room (Nat.le_of_ble_eq_true rfl)) dX12_statement__185 ⟨Nat.le_of_ble_eq_true rfl, Nat.le_of_ble_eq_true rfl⟩) (fun H locs hP hS => ?_)
    refine lv_istore_n (lv' := [(3, .int u_60.1), (4, .int 0), (0, .ref h), (1, .int p0), (2, .int p1)]) hx hb dX12_statement__188 rfl hl (by decide) rfl (fun ls hl => ?_)
    refine lv_aload_n hx hb dX12_statement__189 rfl (lv_at hl 2 rfl) ?_
    refine lv_aload_n hx hb dX12_statement__190 rfl (lv_at hl 2 rfl) ?_
    refine va_get (D := (dC, dI)) (ci := 12) (v := .ref (ad 68)) (C := RX12) (T := TX12) (N := 123) hx hb hts ii_X12 hown hK hP 0 rfl rfl 68 (by decide) (hts (.fieldLink RX12 149 "StoryHouseModel" "bD" "[I") wq_1424) (fun _ h9 => h9) rfl dX12_statement__191 ?_
    refine lv_iload_n hx hb dX12_statement__194 rfl (lv_at hl 3 rfl) ?_
    obtain ⟨g_62, hF_63⟩ := nif_e hF_61
    clear hF_61
    refine va_iald (f := u_60.2.2 68) hx hb hK hP 41 2 rfl rfl g_62 dX12_statement__195 ?_
    refine lv_iload_n hx hb dX12_statement__196 rfl (lv_at hl 4 rfl) ?_
    obtain ⟨u_64, hu_64, hF_65⟩ := Option.bind_eq_some_iff.mp hF_63
    clear hF_63
    refine m_ci hsz hS (va_runV (As := [.int (u_60.2.2 68 p0.toNatClampNeg), .int p1]) (rest := []) ⟨hx, hb, hml, hown, hts⟩ (hI0 H.size (u_60.2.2 68 p0.toNatClampNeg) p1 u_60.2 _ hu_64) (cwV 2 hts (g_gV wq_1819 wq_1820 wq_2214 wq_13 wq_1821) rfl rfl rfl (by decide +kernel) ⟨by show 7 + d + 1 ≤ 7 + (d + 1); omega, by show 8 + (6 + 11) + (168 + 26 * d) ≤ 168 + 26 * (d + 1); omega⟩) (m_preV g_bl0 hsz hK hP hS hE hKS g_to0) rfl rfl hl.1 rfl (lv_room (Nat.le_of_ble_eq_true rfl)) dX12_statement__197 ⟨Nat.le_of_ble_eq_true rfl, Nat.le_of_ble_eq_true rfl⟩) (fun H locs hP hS => ?_)
    refine lv_istore (lv' := [(4, .int u_64.1), (3, .int u_60.1), (0, .ref h), (1, .int p0), (2, .int p1)]) hx hb dX12_statement__200 hl (by decide) rfl (fun ls hl => ?_)
    refine lv_aload_n hx hb dX12_statement__202 rfl (lv_at hl 2 rfl) ?_
    refine lv_aload_n hx hb dX12_statement__203 rfl (lv_at hl 2 rfl) ?_
    refine va_get (D := (dC, dI)) (ci := 12) (v := .ref (ad 68)) (C := RX12) (T := TX12) (N := 123) hx hb hts ii_X12 hown hK hP 0 rfl rfl 68 (by decide) (hts (.fieldLink RX12 149 "StoryHouseModel" "bD" "[I") wq_1424) (fun _ h9 => h9) rfl dX12_statement__204 ?_
    refine lv_aload_n hx hb dX12_statement__207 rfl (lv_at hl 2 rfl) ?_
    refine va_get (D := (dC, dI)) (ci := 12) (v := .ref (ad 66)) (C := RX12) (T := TX12) (N := 123) hx hb hts ii_X12 hown hK hP 0 rfl rfl 66 (by decide) (hts (.fieldLink RX12 143 "StoryHouseModel" "bA" "[I") wq_1422) (fun _ h9 => h9) rfl dX12_statement__208 ?_
    refine lv_iload_n hx hb dX12_statement__211 rfl (lv_at hl 3 rfl) ?_
    obtain ⟨g_66, hF_67⟩ := nif_e hF_65
    clear hF_65
    refine va_iald (f := u_64.2.2 66) hx hb hK hP 39 2 rfl rfl g_66 dX12_statement__212 ?_
    obtain ⟨x_68, ex_68, hF_69⟩ := bnd_e hF_67
    clear hF_67
    refine m_top ex_68 ?_
    obtain ⟨g_70, hF_71⟩ := nif_e hF_69
    clear hF_69
    refine va_iald (f := u_64.2.2 68) hx hb hK hP 41 2 rfl rfl g_70 dX12_statement__213 ?_
    refine lv_iload_n hx hb dX12_statement__214 rfl (lv_at hl 1 rfl) ?_
    obtain ⟨u_72, hu_72, hF_73⟩ := Option.bind_eq_some_iff.mp hF_71
    clear hF_71
    refine m_ci hsz hS (va_runV (As := [.int (u_64.2.2 68 x_68.toNatClampNeg), .int u_60.1]) (rest := []) ⟨hx, hb, hml, hown, hts⟩ (m_X12_cellAt l dC dI cB cC cI cJ cZ cP h qK qS ad hDD H.size  (u_64.2.2 68 x_68.toNatClampNeg) u_60.1 u_64.2 _ hu_72) (cwV 2 hts (g_gV wq_1858 wq_1859 wq_2227 wq_13 wq_1860) rfl rfl rfl (by decide +kernel) ⟨by show 2 + 1 ≤ 7 + (d + 1); omega, by show 8 + (3 + 11) + 61 ≤ 168 + 26 * (d + 1); omega⟩) (m_preV g_bl0 hsz hK hP hS hE hKS g_to0) rfl rfl hl.1 rfl (lv_room (Nat.le_of_ble_eq_true rfl)) dX12_statement__215 ⟨Nat.le_of_ble_eq_true rfl, Nat.le_of_ble_eq_true rfl⟩) (fun H locs hP hS => ?_)
    refine lv_if_eq (tgt := 708) hx hb dX12_statement__218 (by decide) (fun c_74 => ?_) (fun c_74 => ?_)
    · have hF_75 := ipos c_74 hF_73
      clear hF_73
      have h9 := Option.some.inj hF_75
      subst h9
      exact W.vret hx hb hr (fun t ht hW => ⟨⟨(), rfl, trivial, m_end ht hP⟩, hS.F ht⟩) hS.2.2 dX12_statement__708
    · have hF_76 := ineg c_74 hF_73
      clear hF_73
      refine lv_aload_n hx hb dX12_statement__221 rfl (lv_at hl 2 rfl) ?_
      refine va_get (D := (dC, dI)) (ci := 12) (v := .ref (ad 92)) (C := RX12) (T := TX12) (N := 123) hx hb hts ii_X12 hown hK hP 0 rfl rfl 92 (by decide) (hts (.fieldLink RX12 197 "StoryHouseModel" "room" "[I") wq_1448) (fun _ h9 => h9) rfl dX12_statement__222 ?_
      refine lv_aload_n hx hb dX12_statement__225 rfl (lv_at hl 2 rfl) ?_
      refine va_get (D := (dC, dI)) (ci := 12) (v := .ref (ad 77)) (C := RX12) (T := TX12) (N := 123) hx hb hts ii_X12 hown hK hP 0 rfl rfl 77 (by decide) (hts (.fieldLink RX12 176 "StoryHouseModel" "arrayAt" "[I") wq_1433) (fun _ h9 => h9) rfl dX12_statement__226 ?_
      refine lv_aload_n hx hb dX12_statement__229 rfl (lv_at hl 2 rfl) ?_
      refine va_get (D := (dC, dI)) (ci := 12) (v := .ref (ad 68)) (C := RX12) (T := TX12) (N := 123) hx hb hts ii_X12 hown hK hP 0 rfl rfl 68 (by decide) (hts (.fieldLink RX12 149 "StoryHouseModel" "bD" "[I") wq_1424) (fun _ h9 => h9) rfl dX12_statement__230 ?_
      refine lv_aload_n hx hb dX12_statement__233 rfl (lv_at hl 2 rfl) ?_
      refine va_get (D := (dC, dI)) (ci := 12) (v := .ref (ad 66)) (C := RX12) (T := TX12) (N := 123) hx hb hts ii_X12 hown hK hP 0 rfl rfl 66 (by decide) (hts (.fieldLink RX12 143 "StoryHouseModel" "bA" "[I") wq_1422) (fun _ h9 => h9) rfl dX12_statement__234 ?_
      refine lv_iload_n hx hb dX12_statement__237 rfl (lv_at hl 3 rfl) ?_
      obtain ⟨g_77, hF_78⟩ := nif_e hF_76
      clear hF_76
      refine va_iald (f := u_72.2.2 66) hx hb hK hP 39 2 rfl rfl g_77 dX12_statement__238 ?_
      obtain ⟨x_79, ex_79, hF_80⟩ := bnd_e hF_78
      clear hF_78
      refine m_top ex_79 ?_
      obtain ⟨g_81, hF_82⟩ := nif_e hF_80
      clear hF_80
      refine va_iald (f := u_72.2.2 68) hx hb hK hP 41 2 rfl rfl g_81 dX12_statement__239 ?_
      obtain ⟨x_83, ex_83, hF_84⟩ := bnd_e hF_82
      clear hF_82
      refine m_top ex_83 ?_
      obtain ⟨g_85, hF_86⟩ := nif_e hF_84
      clear hF_84
      refine va_iald (f := u_72.2.2 77) hx hb hK hP 50 2 rfl rfl g_85 dX12_statement__240 ?_
      refine lv_iload_n hx hb dX12_statement__241 rfl (lv_at hl 1 rfl) ?_
      refine lv_iadd hx hb dX12_statement__242 ?_
      obtain ⟨x_87, ex_87, hF_88⟩ := bnd_e hF_86
      clear hF_86
      refine m_top ex_87 ?_
      refine lv_iload hx hb dX12_statement__243 (lv_at hl 0 rfl) ?_
      obtain ⟨g_89, hF_90⟩ := nif_e hF_88
      clear hF_88
      obtain ⟨σ_91, eσ_91, hF_92⟩ := bnd_e hF_90
      clear hF_90
      refine m_iast (σ' := σ_91) hx hb hK hP (hDD _ _) hS (q0 := 57) (t0 := 2) (f := u_72.2.2 92) rfl rfl (by rw [eσ_91]; exact mwA_92) g_89 dX12_statement__245 (fun H locs hP hS => ?_)
      refine lv_goto (tgt := 708) hx hb dX12_statement__246 (by decide) ?_
      have h9 := Option.some.inj hF_92
      subst h9
      exact W.vret hx hb hr (fun t ht hW => ⟨⟨(), rfl, trivial, m_end ht hP⟩, hS.F ht⟩) hS.2.2 dX12_statement__708
  have hF_93 := ineg c_56 hF_55
  clear hF_55
  by_cases c_94 : x_3 = 24
  · have hF_95 := ipos c_94 hF_93
    clear hF_93
    refine lv_tableIn (off := 238) (tgt := 249) hx hb dX12_statement__11 (by rw [c_94]; decide +kernel) (by rw [c_94]; decide +kernel) (by rw [c_94]; decide +kernel) (by decide) ?_
    refine lv_aload_n hx hb dX12_statement__249 rfl (lv_at hl 2 rfl) ?_
    refine lv_aload_n hx hb dX12_statement__250 rfl (lv_at hl 2 rfl) ?_
    refine va_get (D := (dC, dI)) (ci := 12) (v := .ref (ad 66)) (C := RX12) (T := TX12) (N := 123) hx hb hts ii_X12 hown hK hP 0 rfl rfl 66 (by decide) (hts (.fieldLink RX12 143 "StoryHouseModel" "bA" "[I") wq_1422) (fun _ h9 => h9) rfl dX12_statement__251 ?_
    refine lv_iload_n hx hb dX12_statement__254 rfl (lv_at hl 3 rfl) ?_
    obtain ⟨g_96, hF_97⟩ := nif_e hF_95
    clear hF_95
    refine va_iald (f := σ.2 66) hx hb hK hP 39 2 rfl rfl g_96 dX12_statement__255 ?_
    refine lv_iload_n hx hb dX12_statement__256 rfl (lv_at hl 4 rfl) ?_
    obtain ⟨u_98, hu_98, hF_99⟩ := Option.bind_eq_some_iff.mp hF_97
    clear hF_97
    refine m_ci hsz hS (va_runV (As := [.int (σ.2 66 p0.toNatClampNeg), .int p1]) (rest := []) ⟨hx, hb, hml, hown, hts⟩ (hI0 s.heap.size (σ.2 66 p0.toNatClampNeg) p1 σ _ hu_98) (cwV 2 hts (g_gV wq_1819 wq_1820 wq_2214 wq_13 wq_1821) rfl rfl rfl (by decide +kernel) ⟨by show 7 + d + 1 ≤ 7 + (d + 1); omega, by show 8 + (6 + 11) + (168 + 26 * d) ≤ 168 + 26 * (d + 1); omega⟩) (m_preV g_bl0 hsz hK hP hS hE hKS g_to0) rfl rfl hl.1 rfl (lv_room (Nat.le_of_ble_eq_true rfl)) dX12_statement__257 ⟨Nat.le_of_ble_eq_true rfl, Nat.le_of_ble_eq_true rfl⟩) (fun H locs hP hS => ?_)
    refine lv_istore_n (lv' := [(3, .int u_98.1), (4, .int 0), (0, .ref h), (1, .int p0), (2, .int p1)]) hx hb dX12_statement__260 rfl hl (by decide) rfl (fun ls hl => ?_)
    refine lv_aload_n hx hb dX12_statement__261 rfl (lv_at hl 2 rfl) ?_
    refine lv_aload_n hx hb dX12_statement__262 rfl (lv_at hl 2 rfl) ?_
    refine va_get (D := (dC, dI)) (ci := 12) (v := .ref (ad 67)) (C := RX12) (T := TX12) (N := 123) hx hb hts ii_X12 hown hK hP 0 rfl rfl 67 (by decide) (hts (.fieldLink RX12 146 "StoryHouseModel" "bB" "[I") wq_1423) (fun _ h9 => h9) rfl dX12_statement__263 ?_
    refine lv_iload_n hx hb dX12_statement__266 rfl (lv_at hl 3 rfl) ?_
    obtain ⟨g_100, hF_101⟩ := nif_e hF_99
    clear hF_99
    refine va_iald (f := u_98.2.2 67) hx hb hK hP 40 2 rfl rfl g_100 dX12_statement__267 ?_
    refine lv_iload_n hx hb dX12_statement__268 rfl (lv_at hl 4 rfl) ?_
    obtain ⟨u_102, hu_102, hF_103⟩ := Option.bind_eq_some_iff.mp hF_101
    clear hF_101
    refine m_ci hsz hS (va_runV (As := [.int (u_98.2.2 67 p0.toNatClampNeg), .int p1]) (rest := []) ⟨hx, hb, hml, hown, hts⟩ (hI0 H.size (u_98.2.2 67 p0.toNatClampNeg) p1 u_98.2 _ hu_102) (cwV 2 hts (g_gV wq_1819 wq_1820 wq_2214 wq_13 wq_1821) rfl rfl rfl (by decide +kernel) ⟨by show 7 + d + 1 ≤ 7 + (d + 1); omega, by show 8 + (6 + 11) + (168 + 26 * d) ≤ 168 + 26 * (d + 1); omega⟩) (m_preV g_bl0 hsz hK hP hS hE hKS g_to0) rfl rfl hl.1 rfl (lv_room (Nat.le_of_ble_eq_true rfl)) dX12_statement__269 ⟨Nat.le_of_ble_eq_true rfl, Nat.le_of_ble_eq_true rfl⟩) (fun H locs hP hS => ?_)
    refine lv_istore (lv' := [(4, .int u_102.1), (3, .int u_98.1), (0, .ref h), (1, .int p0), (2, .int p1)]) hx hb dX12_statement__272 hl (by decide) rfl (fun ls hl => ?_)
    refine lv_aload_n hx hb dX12_statement__274 rfl (lv_at hl 2 rfl) ?_
    refine va_get (D := (dC, dI)) (ci := 12) (v := .int (u_102.2.1 104)) (C := RX12) (T := TX12) (N := 123) hx hb hts ii_X12 hown hK hP 0 rfl rfl 104 (by decide) (hts (.fieldLink RX12 685 "StoryHouseModel" "stop" "I") wq_1460) (fun _ h9 => h9) rfl dX12_statement__275 ?_
    refine lv_if_ne (tgt := 708) hx hb dX12_statement__278 (by decide) (fun c_104 => ?_) (fun c_104 => ?_)
    · have hF_108 := ineg c_104 hF_103
      clear hF_103
      have h9 := Option.some.inj hF_108
      subst h9
      exact W.vret hx hb hr (fun t ht hW => ⟨⟨(), rfl, trivial, m_end ht hP⟩, hS.F ht⟩) hS.2.2 dX12_statement__708
    · have hF_105 := ipos c_104 hF_103
      clear hF_103
      refine lv_aload_n hx hb dX12_statement__281 rfl (lv_at hl 2 rfl) ?_
      refine lv_iload_n hx hb dX12_statement__282 rfl (lv_at hl 1 rfl) ?_
      refine lv_iload hx hb dX12_statement__283 (lv_at hl 0 rfl) ?_
      obtain ⟨u_106, hu_106, hF_107⟩ := Option.bind_eq_some_iff.mp hF_105
      clear hF_105
      refine m_cv hsz hS (va_runV (As := [.int u_98.1, .int u_102.1]) (rest := []) ⟨hx, hb, hml, hown, hts⟩ (m_X12_move l dC dI cB cC cI cJ cZ cP h qK qS ad hDD H.size  u_98.1 u_102.1 u_102.2 _ hu_106) (cwV 2 hts (g_gV wq_1868 wq_1869 wq_2230 wq_13 wq_1870) rfl rfl rfl (by decide +kernel) ⟨by show 3 + 1 ≤ 7 + (d + 1); omega, by show 8 + (3 + 11) + 85 ≤ 168 + 26 * (d + 1); omega⟩) (m_preV g_bl0 hsz hK hP hS hE hKS g_to0) rfl rfl hl.1 rfl (lv_room (Nat.le_of_ble_eq_true rfl)) dX12_statement__285 ⟨Nat.le_of_ble_eq_true rfl, Nat.le_of_ble_eq_true rfl⟩) (fun H locs hP hS => ?_)
      refine lv_goto (tgt := 708) hx hb dX12_statement__288 (by decide) ?_
      have h9 := Option.some.inj hF_107
      subst h9
      exact W.vret hx hb hr (fun t ht hW => ⟨⟨(), rfl, trivial, m_end ht hP⟩, hS.F ht⟩) hS.2.2 dX12_statement__708
  have hF_109 := ineg c_94 hF_93
  clear hF_93
  by_cases c_110 : x_3 = 25
  · have hF_111 := ipos c_110 hF_109
    clear hF_109
    refine lv_tableIn (off := 280) (tgt := 291) hx hb dX12_statement__11 (by rw [c_110]; decide +kernel) (by rw [c_110]; decide +kernel) (by rw [c_110]; decide +kernel) (by decide) ?_
    refine lv_aload_n hx hb dX12_statement__291 rfl (lv_at hl 2 rfl) ?_
    refine lv_aload_n hx hb dX12_statement__292 rfl (lv_at hl 2 rfl) ?_
    refine va_get (D := (dC, dI)) (ci := 12) (v := .ref (ad 66)) (C := RX12) (T := TX12) (N := 123) hx hb hts ii_X12 hown hK hP 0 rfl rfl 66 (by decide) (hts (.fieldLink RX12 143 "StoryHouseModel" "bA" "[I") wq_1422) (fun _ h9 => h9) rfl dX12_statement__293 ?_
    refine lv_iload_n hx hb dX12_statement__296 rfl (lv_at hl 3 rfl) ?_
    obtain ⟨g_112, hF_113⟩ := nif_e hF_111
    clear hF_111
    refine va_iald (f := σ.2 66) hx hb hK hP 39 2 rfl rfl g_112 dX12_statement__297 ?_
    refine lv_iload_n hx hb dX12_statement__298 rfl (lv_at hl 4 rfl) ?_
    obtain ⟨u_114, hu_114, hF_115⟩ := Option.bind_eq_some_iff.mp hF_113
    clear hF_113
    refine m_ci hsz hS (va_runV (As := [.int (σ.2 66 p0.toNatClampNeg), .int p1]) (rest := []) ⟨hx, hb, hml, hown, hts⟩ (hI0 s.heap.size (σ.2 66 p0.toNatClampNeg) p1 σ _ hu_114) (cwV 2 hts (g_gV wq_1819 wq_1820 wq_2214 wq_13 wq_1821) rfl rfl rfl (by decide +kernel) ⟨by show 7 + d + 1 ≤ 7 + (d + 1); omega, by show 8 + (6 + 11) + (168 + 26 * d) ≤ 168 + 26 * (d + 1); omega⟩) (m_preV g_bl0 hsz hK hP hS hE hKS g_to0) rfl rfl hl.1 rfl (lv_room (Nat.le_of_ble_eq_true rfl)) dX12_statement__299 ⟨Nat.le_of_ble_eq_true rfl, Nat.le_of_ble_eq_true rfl⟩) (fun H locs hP hS => ?_)
    refine lv_istore_n (lv' := [(3, .int u_114.1), (4, .int 0), (0, .ref h), (1, .int p0), (2, .int p1)]) hx hb dX12_statement__302 rfl hl (by decide) rfl (fun ls hl => ?_)
    refine lv_aload_n hx hb dX12_statement__303 rfl (lv_at hl 2 rfl) ?_
    refine va_get (D := (dC, dI)) (ci := 12) (v := .int (u_114.2.1 104)) (C := RX12) (T := TX12) (N := 123) hx hb hts ii_X12 hown hK hP 0 rfl rfl 104 (by decide) (hts (.fieldLink RX12 685 "StoryHouseModel" "stop" "I") wq_1460) (fun _ h9 => h9) rfl dX12_statement__304 ?_
    refine lv_if_ne (tgt := 318) hx hb dX12_statement__307 (by decide) (fun c_116 => ?_) (fun c_116 => ?_)
    · have hF_139 := ineg c_116 hF_115
      clear hF_115
      have h9 := Option.some.inj hF_139
      subst h9
      exact W.vret hx hb hr (fun t ht hW => ⟨⟨(), rfl, trivial, m_end ht hP⟩, hS.F ht⟩) hS.2.2 dX12_statement__318
    · have hF_117 := ipos c_116 hF_115
      clear hF_115
      refine lv_aload_n hx hb dX12_statement__310 rfl (lv_at hl 2 rfl) ?_
      refine lv_iload_n hx hb dX12_statement__311 rfl (lv_at hl 0 rfl) ?_
      obtain ⟨u_118, hu_118, hF_119⟩ := Option.bind_eq_some_iff.mp hF_117
      clear hF_117
      refine m_ci hsz hS (va_runV (As := [.int u_114.1]) (rest := []) ⟨hx, hb, hml, hown, hts⟩ (m_X12_isObject l dC dI cB cC cI cJ cZ cP h qK qS ad hDD H.size  u_114.1 u_114.2 _ hu_118) (cwV 1 hts (g_gV wq_1852 wq_1853 wq_2225 wq_13 wq_1854) rfl rfl rfl (by decide +kernel) ⟨by show 2 + 1 ≤ 7 + (d + 1); omega, by show 8 + (2 + 11) + 61 ≤ 168 + 26 * (d + 1); omega⟩) (m_preV g_bl0 hsz hK hP hS hE hKS g_to0) rfl rfl hl.1 rfl (lv_room (Nat.le_of_ble_eq_true rfl)) dX12_statement__312 ⟨Nat.le_of_ble_eq_true rfl, Nat.le_of_ble_eq_true rfl⟩) (fun H locs hP hS => ?_)
      refine lv_if_ne (tgt := 319) hx hb dX12_statement__315 (by decide) (fun c_120 => ?_) (fun c_120 => ?_)
      · have hF_122 := ineg c_120 hF_119
        clear hF_119
        refine lv_iload_n hx hb dX12_statement__319 rfl (lv_at hl 0 rfl) ?_
        refine lv_iconst (v := 1) hx hb dX12_statement__320 (by decide +kernel) ?_
        obtain ⟨j_124, ej_124, hF_125⟩ := bnd_e hF_122
        clear hF_122
        have Jj_124 : ∀  (σ_123 : MS), j_124  σ_123 = some res → ∀ (H : Heap) (locs : List Loc), va_P (dC, dI) vwCl (mW cB cI cZ h qK qS ad σ_123) H → va_S (mCells h ad sz) s.heap H locs → ∀ ls : Array Slot, lv_has ls 6 [(0, .ref h)] → W p l e (headSpec (g_ws yX12_statement_ cX12_statement_ 6 none) { frames := 7 + (d + 1), cells := 0, slots := 0, locals := 168 + 26 * (d + 1) }).room s m ([.ref h, .int p0, .int p1] : List Value).toArray below meth c H locs 0 0 (MQ below (va_Qv (fun (_ : Unit) => True) (fun _ t => va_P (dC, dI) vwCl (mW cB cI cZ h qK qS ad res.2) t.heap) (mCells h ad sz)) ([.ref h, .int p0, .int p1] : List Value).toArray s 0 0 (mCells h ad sz)) (F0 m 333 ls []) := by
          intro  σ_123 hF0 H locs hP hS ls hl
          subst ej_124
          have hF_126 := hF0
          clear hF0
          refine lv_aload_n hx hb dX12_statement__333 rfl (lv_at hl 0 rfl) ?_
          refine lv_iconst (v := 2) hx hb dX12_statement__334 (by decide +kernel) ?_
          obtain ⟨u_127, hu_127, hF_128⟩ := Option.bind_eq_some_iff.mp hF_126
          clear hF_126
          refine m_ci hsz hS (va_runV (As := [.int 2]) (rest := []) ⟨hx, hb, hml, hown, hts⟩ (m_X12_breaks l dC dI cB cC cI cJ cZ cP h qK qS ad hDD H.size  2 σ_123 _ hu_127) (cwV 1 hts (g_gV wq_1840 wq_1841 wq_2221 wq_13 wq_1842) rfl rfl rfl (by decide +kernel) ⟨by show 1 + 1 ≤ 7 + (d + 1); omega, by show 8 + (2 + 11) + 40 ≤ 168 + 26 * (d + 1); omega⟩) (m_preV g_bl0 hsz hK hP hS hE hKS g_to0) rfl rfl hl.1 rfl (lv_room (Nat.le_of_ble_eq_true rfl)) dX12_statement__335 ⟨Nat.le_of_ble_eq_true rfl, Nat.le_of_ble_eq_true rfl⟩) (fun H locs hP hS => ?_)
          refine lv_pop hx hb dX12_statement__338 rfl ?_
          refine lv_goto (tgt := 708) hx hb dX12_statement__339 (by decide) ?_
          have h9 := Option.some.inj hF_128
          subst h9
          exact W.vret hx hb hr (fun t ht hW => ⟨⟨(), rfl, trivial, m_end ht hP⟩, hS.F ht⟩) hS.2.2 dX12_statement__708
        refine lv_icmp_eq (tgt := 333) hx hb dX12_statement__321 (by decide) (fun c_129 => ?_) (fun c_129 => ?_)
        · have hF_130 := ipos c_129 hF_125
          clear hF_125
          exact Jj_124  u_118.2 hF_130 _ _ hP hS ls (lv_sub hl [2] rfl)
        · have hF_131 := ineg c_129 hF_125
          clear hF_125
          refine lv_aload_n hx hb dX12_statement__324 rfl (lv_at hl 2 rfl) ?_
          refine va_get (D := (dC, dI)) (ci := 12) (v := .ref (ad 50)) (C := RX12) (T := TX12) (N := 123) hx hb hts ii_X12 hown hK hP 0 rfl rfl 50 (by decide) (hts (.fieldLink RX12 97 "StoryHouseModel" "isRoom" "[Z") wq_1406) (fun _ h9 => h9) rfl dX12_statement__325 ?_
          refine lv_iload_n hx hb dX12_statement__328 rfl (lv_at hl 0 rfl) ?_
          obtain ⟨g_132, hF_133⟩ := nif_e hF_131
          clear hF_131
          refine va_zald (f := u_118.2.2 50) hx hb hK hP 24 4 rfl rfl g_132 dX12_statement__329 ?_
          refine lv_if_eq (tgt := 342) hx hb dX12_statement__330 (by decide) (fun c_134 => ?_) (fun c_134 => ?_)
          · have hF_135 := ipos c_134 hF_133
            clear hF_133
            refine lv_aload_n hx hb dX12_statement__342 rfl (lv_at hl 2 rfl) ?_
            refine lv_iload_n hx hb dX12_statement__343 rfl (lv_at hl 0 rfl) ?_
            obtain ⟨u_136, hu_136, hF_137⟩ := Option.bind_eq_some_iff.mp hF_135
            clear hF_135
            refine m_cv hsz hS (va_runV (As := [.int u_114.1]) (rest := []) ⟨hx, hb, hml, hown, hts⟩ (m_X12_takeOut l dC dI cB cC cI cJ cZ cP h qK qS ad hDD H.size  u_114.1 u_118.2 _ hu_136) (cwV 1 hts (g_gV wq_1749 wq_1750 wq_2192 wq_13 wq_1751) rfl rfl rfl (by decide +kernel) ⟨by show 1 + 1 ≤ 7 + (d + 1); omega, by show 8 + (4 + 11) + 40 ≤ 168 + 26 * (d + 1); omega⟩) (m_preV g_bl0 hsz hK hP hS hE hKS g_to0) rfl rfl hl.1 rfl (lv_room (Nat.le_of_ble_eq_true rfl)) dX12_statement__344 ⟨Nat.le_of_ble_eq_true rfl, Nat.le_of_ble_eq_true rfl⟩) (fun H locs hP hS => ?_)
            refine lv_goto (tgt := 708) hx hb dX12_statement__347 (by decide) ?_
            have h9 := Option.some.inj hF_137
            subst h9
            exact W.vret hx hb hr (fun t ht hW => ⟨⟨(), rfl, trivial, m_end ht hP⟩, hS.F ht⟩) hS.2.2 dX12_statement__708
          · have hF_138 := ineg c_134 hF_133
            clear hF_133
            exact Jj_124  u_118.2 hF_138 _ _ hP hS ls (lv_sub hl [2] rfl)
      · have hF_121 := ipos c_120 hF_119
        clear hF_119
        have h9 := Option.some.inj hF_121
        subst h9
        exact W.vret hx hb hr (fun t ht hW => ⟨⟨(), rfl, trivial, m_end ht hP⟩, hS.F ht⟩) hS.2.2 dX12_statement__318
  have hF_140 := ineg c_110 hF_109
  clear hF_109
  by_cases c_141 : x_3 = 26
  · have hF_142 := ipos c_141 hF_140
    clear hF_140
    refine lv_tableIn (off := 339) (tgt := 350) hx hb dX12_statement__11 (by rw [c_141]; decide +kernel) (by rw [c_141]; decide +kernel) (by rw [c_141]; decide +kernel) (by decide) ?_
    refine lv_aload_n hx hb dX12_statement__350 rfl (lv_at hl 2 rfl) ?_
    refine lv_aload_n hx hb dX12_statement__351 rfl (lv_at hl 2 rfl) ?_
    refine va_get (D := (dC, dI)) (ci := 12) (v := .ref (ad 66)) (C := RX12) (T := TX12) (N := 123) hx hb hts ii_X12 hown hK hP 0 rfl rfl 66 (by decide) (hts (.fieldLink RX12 143 "StoryHouseModel" "bA" "[I") wq_1422) (fun _ h9 => h9) rfl dX12_statement__352 ?_
    refine lv_iload_n hx hb dX12_statement__355 rfl (lv_at hl 3 rfl) ?_
    obtain ⟨g_143, hF_144⟩ := nif_e hF_142
    clear hF_142
    refine va_iald (f := σ.2 66) hx hb hK hP 39 2 rfl rfl g_143 dX12_statement__356 ?_
    refine lv_iload_n hx hb dX12_statement__357 rfl (lv_at hl 4 rfl) ?_
    obtain ⟨u_145, hu_145, hF_146⟩ := Option.bind_eq_some_iff.mp hF_144
    clear hF_144
    refine m_ci hsz hS (va_runV (As := [.int (σ.2 66 p0.toNatClampNeg), .int p1]) (rest := []) ⟨hx, hb, hml, hown, hts⟩ (hI0 s.heap.size (σ.2 66 p0.toNatClampNeg) p1 σ _ hu_145) (cwV 2 hts (g_gV wq_1819 wq_1820 wq_2214 wq_13 wq_1821) rfl rfl rfl (by decide +kernel) ⟨by show 7 + d + 1 ≤ 7 + (d + 1); omega, by show 8 + (6 + 11) + (168 + 26 * d) ≤ 168 + 26 * (d + 1); omega⟩) (m_preV g_bl0 hsz hK hP hS hE hKS g_to0) rfl rfl hl.1 rfl (lv_room (Nat.le_of_ble_eq_true rfl)) dX12_statement__358 ⟨Nat.le_of_ble_eq_true rfl, Nat.le_of_ble_eq_true rfl⟩) (fun H locs hP hS => ?_)
    refine lv_istore_n (lv' := [(3, .int u_145.1), (4, .int 0), (0, .ref h), (1, .int p0), (2, .int p1)]) hx hb dX12_statement__361 rfl hl (by decide) rfl (fun ls hl => ?_)
    refine lv_aload_n hx hb dX12_statement__362 rfl (lv_at hl 2 rfl) ?_
    refine va_get (D := (dC, dI)) (ci := 12) (v := .int (u_145.2.1 104)) (C := RX12) (T := TX12) (N := 123) hx hb hts ii_X12 hown hK hP 0 rfl rfl 104 (by decide) (hts (.fieldLink RX12 685 "StoryHouseModel" "stop" "I") wq_1460) (fun _ h9 => h9) rfl dX12_statement__363 ?_
    refine lv_if_ne (tgt := 708) hx hb dX12_statement__366 (by decide) (fun c_147 => ?_) (fun c_147 => ?_)
    · have hF_172 := ineg c_147 hF_146
      clear hF_146
      have h9 := Option.some.inj hF_172
      subst h9
      exact W.vret hx hb hr (fun t ht hW => ⟨⟨(), rfl, trivial, m_end ht hP⟩, hS.F ht⟩) hS.2.2 dX12_statement__708
    · have hF_148 := ipos c_147 hF_146
      clear hF_146
      refine lv_aload_n hx hb dX12_statement__369 rfl (lv_at hl 2 rfl) ?_
      refine lv_iload_n hx hb dX12_statement__370 rfl (lv_at hl 0 rfl) ?_
      obtain ⟨u_149, hu_149, hF_150⟩ := Option.bind_eq_some_iff.mp hF_148
      clear hF_148
      refine m_ci hsz hS (va_runV (As := [.int u_145.1]) (rest := []) ⟨hx, hb, hml, hown, hts⟩ (m_X12_isObject l dC dI cB cC cI cJ cZ cP h qK qS ad hDD H.size  u_145.1 u_145.2 _ hu_149) (cwV 1 hts (g_gV wq_1852 wq_1853 wq_2225 wq_13 wq_1854) rfl rfl rfl (by decide +kernel) ⟨by show 2 + 1 ≤ 7 + (d + 1); omega, by show 8 + (2 + 11) + 61 ≤ 168 + 26 * (d + 1); omega⟩) (m_preV g_bl0 hsz hK hP hS hE hKS g_to0) rfl rfl hl.1 rfl (lv_room (Nat.le_of_ble_eq_true rfl)) dX12_statement__371 ⟨Nat.le_of_ble_eq_true rfl, Nat.le_of_ble_eq_true rfl⟩) (fun H locs hP hS => ?_)
      refine lv_if_eq (tgt := 708) hx hb dX12_statement__374 (by decide) (fun c_151 => ?_) (fun c_151 => ?_)
      · have hF_152 := ipos c_151 hF_150
        clear hF_150
        have h9 := Option.some.inj hF_152
        subst h9
        exact W.vret hx hb hr (fun t ht hW => ⟨⟨(), rfl, trivial, m_end ht hP⟩, hS.F ht⟩) hS.2.2 dX12_statement__708
      · have hF_153 := ineg c_151 hF_150
        clear hF_150
        refine lv_aload_n hx hb dX12_statement__377 rfl (lv_at hl 2 rfl) ?_
        refine va_get (D := (dC, dI)) (ci := 12) (v := .ref (ad 90)) (C := RX12) (T := TX12) (N := 123) hx hb hts ii_X12 hown hK hP 0 rfl rfl 90 (by decide) (hts (.fieldLink RX12 191 "StoryHouseModel" "has" "[Z") wq_1446) (fun _ h9 => h9) rfl dX12_statement__378 ?_
        refine lv_bipush (v := 7) hx hb dX12_statement__381 (by decide +kernel) ?_
        refine lv_iload_n hx hb dX12_statement__383 rfl (lv_at hl 0 rfl) ?_
        refine lv_imul hx hb dX12_statement__384 ?_
        refine lv_aload_n hx hb dX12_statement__385 rfl (lv_at hl 2 rfl) ?_
        refine va_get (D := (dC, dI)) (ci := 12) (v := .ref (ad 67)) (C := RX12) (T := TX12) (N := 123) hx hb hts ii_X12 hown hK hP 0 rfl rfl 67 (by decide) (hts (.fieldLink RX12 146 "StoryHouseModel" "bB" "[I") wq_1423) (fun _ h9 => h9) rfl dX12_statement__386 ?_
        refine lv_iload_n hx hb dX12_statement__389 rfl (lv_at hl 3 rfl) ?_
        obtain ⟨g_154, hF_155⟩ := nif_e hF_153
        clear hF_153
        refine va_iald (f := u_149.2.2 67) hx hb hK hP 40 2 rfl rfl g_154 dX12_statement__390 ?_
        refine lv_iadd hx hb dX12_statement__391 ?_
        obtain ⟨x_156, ex_156, hF_157⟩ := bnd_e hF_155
        clear hF_155
        refine m_top ex_156 ?_
        refine lv_aload_n hx hb dX12_statement__392 rfl (lv_at hl 2 rfl) ?_
        refine va_get (D := (dC, dI)) (ci := 12) (v := .ref (ad 68)) (C := RX12) (T := TX12) (N := 123) hx hb hts ii_X12 hown hK hP 0 rfl rfl 68 (by decide) (hts (.fieldLink RX12 149 "StoryHouseModel" "bD" "[I") wq_1424) (fun _ h9 => h9) rfl dX12_statement__393 ?_
        refine lv_iload_n hx hb dX12_statement__396 rfl (lv_at hl 3 rfl) ?_
        obtain ⟨g_158, hF_159⟩ := nif_e hF_157
        clear hF_157
        refine va_iald (f := u_149.2.2 68) hx hb hK hP 41 2 rfl rfl g_158 dX12_statement__397 ?_
        refine lv_iconst (v := 1) hx hb dX12_statement__398 (by decide +kernel) ?_
        obtain ⟨j_162, ej_162, hF_163⟩ := bnd_e hF_159
        clear hF_159
        have Jj_162 : ∀ (t_160 : Int32) (σ_161 : MS), j_162 t_160 σ_161 = some res → ∀ (H : Heap) (locs : List Loc), va_P (dC, dI) vwCl (mW cB cI cZ h qK qS ad σ_161) H → va_S (mCells h ad sz) s.heap H locs → ∀ ls : Array Slot, lv_has ls 6 [] → W p l e (headSpec (g_ws yX12_statement_ cX12_statement_ 6 none) { frames := 7 + (d + 1), cells := 0, slots := 0, locals := 168 + 26 * (d + 1) }).room s m ([.ref h, .int p0, .int p1] : List Value).toArray below meth c H locs 0 0 (MQ below (va_Qv (fun (_ : Unit) => True) (fun _ t => va_P (dC, dI) vwCl (mW cB cI cZ h qK qS ad res.2) t.heap) (mCells h ad sz)) ([.ref h, .int p0, .int p1] : List Value).toArray s 0 0 (mCells h ad sz)) (F0 m 407 ls [.int t_160, .int x_156, .ref (ad 90)]) := by
          intro t_160 σ_161 hF0 H locs hP hS ls hl
          subst ej_162
          have hF_164 := hF0
          clear hF0
          obtain ⟨g_165, hF_166⟩ := nif_e hF_164
          clear hF_164
          obtain ⟨σ_167, eσ_167, hF_168⟩ := bnd_e hF_166
          clear hF_166
          refine m_zast (σ' := σ_167) hx hb hK hP (hDD _ _) hS (q0 := 55) (t0 := 4) (f := σ_161.2 90) rfl rfl (by rw [eσ_167]; exact mwA_90) g_165 dX12_statement__407 (fun H locs hP hS => ?_)
          refine lv_goto (tgt := 708) hx hb dX12_statement__408 (by decide) ?_
          have h9 := Option.some.inj hF_168
          subst h9
          exact W.vret hx hb hr (fun t ht hW => ⟨⟨(), rfl, trivial, m_end ht hP⟩, hS.F ht⟩) hS.2.2 dX12_statement__708
        refine lv_icmp_ne (tgt := 406) hx hb dX12_statement__399 (by decide) (fun c_169 => ?_) (fun c_169 => ?_)
        · have hF_171 := ineg c_169 hF_163
          clear hF_163
          refine lv_iconst (v := 0) hx hb dX12_statement__406 (by decide +kernel) ?_
          exact Jj_162 0 u_149.2 hF_171 _ _ hP hS ls (lv_sub hl [] rfl)
        · have hF_170 := ipos c_169 hF_163
          clear hF_163
          refine lv_iconst (v := 1) hx hb dX12_statement__402 (by decide +kernel) ?_
          refine lv_goto (tgt := 407) hx hb dX12_statement__403 (by decide) ?_
          exact Jj_162 1 u_149.2 hF_170 _ _ hP hS ls (lv_sub hl [] rfl)
  have hF_173 := ineg c_141 hF_140
  clear hF_140
  by_cases c_174 : x_3 = 27
  · have hF_175 := ipos c_174 hF_173
    clear hF_173
    refine lv_tableIn (off := 400) (tgt := 411) hx hb dX12_statement__11 (by rw [c_174]; decide +kernel) (by rw [c_174]; decide +kernel) (by rw [c_174]; decide +kernel) (by decide) ?_
    refine lv_aload_n hx hb dX12_statement__411 rfl (lv_at hl 2 rfl) ?_
    refine lv_aload_n hx hb dX12_statement__412 rfl (lv_at hl 2 rfl) ?_
    refine va_get (D := (dC, dI)) (ci := 12) (v := .ref (ad 66)) (C := RX12) (T := TX12) (N := 123) hx hb hts ii_X12 hown hK hP 0 rfl rfl 66 (by decide) (hts (.fieldLink RX12 143 "StoryHouseModel" "bA" "[I") wq_1422) (fun _ h9 => h9) rfl dX12_statement__413 ?_
    refine lv_iload_n hx hb dX12_statement__416 rfl (lv_at hl 3 rfl) ?_
    obtain ⟨g_176, hF_177⟩ := nif_e hF_175
    clear hF_175
    refine va_iald (f := σ.2 66) hx hb hK hP 39 2 rfl rfl g_176 dX12_statement__417 ?_
    refine lv_iload_n hx hb dX12_statement__418 rfl (lv_at hl 4 rfl) ?_
    obtain ⟨u_178, hu_178, hF_179⟩ := Option.bind_eq_some_iff.mp hF_177
    clear hF_177
    refine m_ci hsz hS (va_runV (As := [.int (σ.2 66 p0.toNatClampNeg), .int p1]) (rest := []) ⟨hx, hb, hml, hown, hts⟩ (hI0 s.heap.size (σ.2 66 p0.toNatClampNeg) p1 σ _ hu_178) (cwV 2 hts (g_gV wq_1819 wq_1820 wq_2214 wq_13 wq_1821) rfl rfl rfl (by decide +kernel) ⟨by show 7 + d + 1 ≤ 7 + (d + 1); omega, by show 8 + (6 + 11) + (168 + 26 * d) ≤ 168 + 26 * (d + 1); omega⟩) (m_preV g_bl0 hsz hK hP hS hE hKS g_to0) rfl rfl hl.1 rfl (lv_room (Nat.le_of_ble_eq_true rfl)) dX12_statement__419 ⟨Nat.le_of_ble_eq_true rfl, Nat.le_of_ble_eq_true rfl⟩) (fun H locs hP hS => ?_)
    refine lv_istore_n (lv' := [(3, .int u_178.1), (4, .int 0), (0, .ref h), (1, .int p0), (2, .int p1)]) hx hb dX12_statement__422 rfl hl (by decide) rfl (fun ls hl => ?_)
    refine lv_aload_n hx hb dX12_statement__423 rfl (lv_at hl 2 rfl) ?_
    refine va_get (D := (dC, dI)) (ci := 12) (v := .int (u_178.2.1 104)) (C := RX12) (T := TX12) (N := 123) hx hb hts ii_X12 hown hK hP 0 rfl rfl 104 (by decide) (hts (.fieldLink RX12 685 "StoryHouseModel" "stop" "I") wq_1460) (fun _ h9 => h9) rfl dX12_statement__424 ?_
    refine lv_if_eq (tgt := 431) hx hb dX12_statement__427 (by decide) (fun c_180 => ?_) (fun c_180 => ?_)
    · have hF_181 := ipos c_180 hF_179
      clear hF_179
      refine lv_iload_n hx hb dX12_statement__431 rfl (lv_at hl 0 rfl) ?_
      obtain ⟨j_184, ej_184, hF_185⟩ := bnd_e hF_181
      clear hF_181
      have Jj_184 : ∀ (t_182 : Int32) (σ_183 : MS), j_184 t_182 σ_183 = some res → ∀ (H : Heap) (locs : List Loc), va_P (dC, dI) vwCl (mW cB cI cZ h qK qS ad σ_183) H → va_S (mCells h ad sz) s.heap H locs → ∀ ls : Array Slot, lv_has ls 6 [(0, .ref h), (2, .int p1)] → W p l e (headSpec (g_ws yX12_statement_ cX12_statement_ 6 none) { frames := 7 + (d + 1), cells := 0, slots := 0, locals := 168 + 26 * (d + 1) }).room s m ([.ref h, .int p0, .int p1] : List Value).toArray below meth c H locs 0 0 (MQ below (va_Qv (fun (_ : Unit) => True) (fun _ t => va_P (dC, dI) vwCl (mW cB cI cZ h qK qS ad res.2) t.heap) (mCells h ad sz)) ([.ref h, .int p0, .int p1] : List Value).toArray s 0 0 (mCells h ad sz)) (F0 m 450 ls [.int t_182]) := by
        intro t_182 σ_183 hF0 H locs hP hS ls hl
        subst ej_184
        have hF_186 := hF0
        clear hF0
        refine lv_istore (lv' := [(4, .int t_182), (0, .ref h), (2, .int p1)]) hx hb dX12_statement__450 hl (by decide) rfl (fun ls hl => ?_)
        refine lv_iload hx hb dX12_statement__452 (lv_at hl 0 rfl) ?_
        obtain ⟨j_188, ej_188, hF_189⟩ := bnd_e hF_186
        clear hF_186
        have Jj_188 : ∀  (σ_187 : MS), j_188  σ_187 = some res → ∀ (H : Heap) (locs : List Loc), va_P (dC, dI) vwCl (mW cB cI cZ h qK qS ad σ_187) H → va_S (mCells h ad sz) s.heap H locs → ∀ ls : Array Slot, lv_has ls 6 [(0, .ref h), (2, .int p1), (4, .int t_182)] → W p l e (headSpec (g_ws yX12_statement_ cX12_statement_ 6 none) { frames := 7 + (d + 1), cells := 0, slots := 0, locals := 168 + 26 * (d + 1) }).room s m ([.ref h, .int p0, .int p1] : List Value).toArray below meth c H locs 0 0 (MQ below (va_Qv (fun (_ : Unit) => True) (fun _ t => va_P (dC, dI) vwCl (mW cB cI cZ h qK qS ad res.2) t.heap) (mCells h ad sz)) ([.ref h, .int p0, .int p1] : List Value).toArray s 0 0 (mCells h ad sz)) (F0 m 479 ls []) := by
          intro  σ_187 hF0 H locs hP hS ls hl
          subst ej_188
          have hF_190 := hF0
          clear hF0
          refine lv_iload hx hb dX12_statement__479 (lv_at hl 2 rfl) ?_
          refine lv_if_lt (tgt := 708) hx hb dX12_statement__481 (by decide) (fun c_191 => ?_) (fun c_191 => ?_)
          · have hF_192 := ipos c_191 hF_190
            clear hF_190
            have h9 := Option.some.inj hF_192
            subst h9
            exact W.vret hx hb hr (fun t ht hW => ⟨⟨(), rfl, trivial, m_end ht hP⟩, hS.F ht⟩) hS.2.2 dX12_statement__708
          · have hF_193 := ineg c_191 hF_190
            clear hF_190
            refine lv_aload_n hx hb dX12_statement__484 rfl (lv_at hl 0 rfl) ?_
            refine va_get (D := (dC, dI)) (ci := 12) (v := .ref (ad 66)) (C := RX12) (T := TX12) (N := 123) hx hb hts ii_X12 hown hK hP 0 rfl rfl 66 (by decide) (hts (.fieldLink RX12 143 "StoryHouseModel" "bA" "[I") wq_1422) (fun _ h9 => h9) rfl dX12_statement__485 ?_
            refine lv_iload hx hb dX12_statement__488 (lv_at hl 2 rfl) ?_
            obtain ⟨g_194, hF_195⟩ := nif_e hF_193
            clear hF_193
            refine va_iald (f := σ_187.2 66) hx hb hK hP 39 2 rfl rfl g_194 dX12_statement__490 ?_
            obtain ⟨x_196, ex_196, hF_197⟩ := bnd_e hF_195
            clear hF_195
            refine m_top ex_196 ?_
            refine lv_istore (lv' := [(5, .int x_196), (0, .ref h), (2, .int p1), (4, .int t_182)]) hx hb dX12_statement__491 hl (by decide) rfl (fun ls hl => ?_)
            refine loopF_ind (P := fun (s_198 : Int32 × MS) => ∀ (H : Heap) (locs : List Loc), va_P (dC, dI) vwCl (mW cB cI cZ h qK qS ad s_198.2) H → va_S (mCells h ad sz) s.heap H locs → ∀ ls : Array Slot, lv_has ls 6 [(0, .ref h), (2, .int p1), (5, .int s_198.1)] → W p l e (headSpec (g_ws yX12_statement_ cX12_statement_ 6 none) { frames := 7 + (d + 1), cells := 0, slots := 0, locals := 168 + 26 * (d + 1) }).room s m ([.ref h, .int p0, .int p1] : List Value).toArray below meth c H locs 0 0 (MQ below (va_Qv (fun (_ : Unit) => True) (fun _ t => va_P (dC, dI) vwCl (mW cB cI cZ h qK qS ad res.2) t.heap) (mCells h ad sz)) ([.ref h, .int p0, .int p1] : List Value).toArray s 0 0 (mCells h ad sz)) (F0 m 493 ls [])) ?_ _ _ hF_197 _ _ hP hS ls (lv_sub hl [1, 2, 0] rfl)
            intro again_199 s_198 ih_200 hF_201
            intro H locs hP hS ls hl
            refine lv_iload hx hb dX12_statement__493 (lv_at hl 2 rfl) ?_
            refine lv_if_lt (tgt := 524) hx hb dX12_statement__495 (by decide) (fun c_202 => ?_) (fun c_202 => ?_)
            · have hF_203 := ipos c_202 hF_201
              clear hF_201
              refine lv_goto (tgt := 708) hx hb dX12_statement__524 (by decide) ?_
              have h9 := Option.some.inj hF_203
              subst h9
              exact W.vret hx hb hr (fun t ht hW => ⟨⟨(), rfl, trivial, m_end ht hP⟩, hS.F ht⟩) hS.2.2 dX12_statement__708
            · have hF_204 := ineg c_202 hF_201
              clear hF_201
              refine lv_aload_n hx hb dX12_statement__498 rfl (lv_at hl 0 rfl) ?_
              refine va_get (D := (dC, dI)) (ci := 12) (v := .int (s_198.2.1 104)) (C := RX12) (T := TX12) (N := 123) hx hb hts ii_X12 hown hK hP 0 rfl rfl 104 (by decide) (hts (.fieldLink RX12 685 "StoryHouseModel" "stop" "I") wq_1460) (fun _ h9 => h9) rfl dX12_statement__499 ?_
              refine lv_if_ne (tgt := 524) hx hb dX12_statement__502 (by decide) (fun c_205 => ?_) (fun c_205 => ?_)
              · have hF_213 := ineg c_205 hF_204
                clear hF_204
                refine lv_goto (tgt := 708) hx hb dX12_statement__524 (by decide) ?_
                have h9 := Option.some.inj hF_213
                subst h9
                exact W.vret hx hb hr (fun t ht hW => ⟨⟨(), rfl, trivial, m_end ht hP⟩, hS.F ht⟩) hS.2.2 dX12_statement__708
              · have hF_206 := ipos c_205 hF_204
                clear hF_204
                refine lv_aload_n hx hb dX12_statement__505 rfl (lv_at hl 0 rfl) ?_
                refine lv_iload hx hb dX12_statement__506 (lv_at hl 2 rfl) ?_
                refine lv_iload_n hx hb dX12_statement__508 rfl (lv_at hl 1 rfl) ?_
                obtain ⟨u_207, hu_207, hF_208⟩ := Option.bind_eq_some_iff.mp hF_206
                clear hF_206
                refine m_cv hsz hS (va_runV (As := [.int s_198.1, .int p1]) (rest := []) ⟨hx, hb, hml, hown, hts⟩ (hI3 H.size s_198.1 p1 s_198.2 _ hu_207) (cwV 2 hts (g_gV wq_1813 wq_1814 wq_2212 wq_13 wq_1815) rfl rfl rfl (by decide +kernel) ⟨by show 7 + d + 1 ≤ 7 + (d + 1); omega, by show 8 + (6 + 11) + (168 + 26 * d) ≤ 168 + 26 * (d + 1); omega⟩) (m_preV g_bl0 hsz hK hP hS hE hKS g_to0) rfl rfl hl.1 rfl (lv_room (Nat.le_of_ble_eq_true rfl)) dX12_statement__509 ⟨Nat.le_of_ble_eq_true rfl, Nat.le_of_ble_eq_true rfl⟩) (fun H locs hP hS => ?_)
                refine lv_aload_n hx hb dX12_statement__512 rfl (lv_at hl 0 rfl) ?_
                refine va_get (D := (dC, dI)) (ci := 12) (v := .ref (ad 69)) (C := RX12) (T := TX12) (N := 123) hx hb hts ii_X12 hown hK hP 0 rfl rfl 69 (by decide) (hts (.fieldLink RX12 152 "StoryHouseModel" "bThen" "[I") wq_1425) (fun _ h9 => h9) rfl dX12_statement__513 ?_
                refine lv_iload hx hb dX12_statement__516 (lv_at hl 2 rfl) ?_
                obtain ⟨g_209, hF_210⟩ := nif_e hF_208
                clear hF_208
                refine va_iald (f := u_207.2.2 69) hx hb hK hP 42 2 rfl rfl g_209 dX12_statement__518 ?_
                obtain ⟨x_211, ex_211, hF_212⟩ := bnd_e hF_210
                clear hF_210
                refine m_top ex_211 ?_
                refine lv_istore (lv' := [(5, .int x_211), (0, .ref h), (2, .int p1)]) hx hb dX12_statement__519 hl (by decide) rfl (fun ls hl => ?_)
                refine lv_goto (tgt := 493) hx hb dX12_statement__521 (by decide) ?_
                exact ih_200 (x_211, u_207.2) hF_212 _ _ hP hS ls (lv_sub hl [1, 2, 0] rfl)
        refine lv_if_lt (tgt := 479) hx hb dX12_statement__454 (by decide) (fun c_214 => ?_) (fun c_214 => ?_)
        · have hF_215 := ipos c_214 hF_189
          clear hF_189
          exact Jj_188  σ_183 hF_215 _ _ hP hS ls (lv_sub hl [1, 2, 0] rfl)
        · have hF_216 := ineg c_214 hF_189
          clear hF_189
          refine lv_aload_n hx hb dX12_statement__457 rfl (lv_at hl 1 rfl) ?_
          refine va_get (D := (dC, dI)) (ci := 12) (v := .ref (ad 64)) (C := RX12) (T := TX12) (N := 123) hx hb hts ii_X12 hown hK hP 0 rfl rfl 64 (by decide) (hts (.fieldLink RX12 137 "StoryHouseModel" "bWhat" "[I") wq_1420) (fun _ h9 => h9) rfl dX12_statement__458 ?_
          refine lv_iload hx hb dX12_statement__461 (lv_at hl 0 rfl) ?_
          obtain ⟨g_217, hF_218⟩ := nif_e hF_216
          clear hF_216
          refine va_iald (f := σ_183.2 64) hx hb hK hP 37 2 rfl rfl g_217 dX12_statement__463 ?_
          refine lv_bipush (v := 27) hx hb dX12_statement__464 (by decide +kernel) ?_
          refine lv_icmp_ne (tgt := 479) hx hb dX12_statement__466 (by decide) (fun c_219 => ?_) (fun c_219 => ?_)
          · have hF_223 := ineg c_219 hF_218
            clear hF_218
            exact Jj_188  σ_183 hF_223 _ _ hP hS ls (lv_sub hl [1, 2, 0] rfl)
          · have hF_220 := ipos c_219 hF_218
            clear hF_218
            refine lv_aload_n hx hb dX12_statement__469 rfl (lv_at hl 1 rfl) ?_
            refine lv_iload hx hb dX12_statement__470 (lv_at hl 0 rfl) ?_
            refine lv_iload_n hx hb dX12_statement__472 rfl (lv_at hl 2 rfl) ?_
            obtain ⟨u_221, hu_221, hF_222⟩ := Option.bind_eq_some_iff.mp hF_220
            clear hF_220
            refine m_cv hsz hS (va_runV (As := [.int t_182, .int p1]) (rest := []) ⟨hx, hb, hml, hown, hts⟩ (hI3 H.size t_182 p1 σ_183 _ hu_221) (cwV 2 hts (g_gV wq_1813 wq_1814 wq_2212 wq_13 wq_1815) rfl rfl rfl (by decide +kernel) ⟨by show 7 + d + 1 ≤ 7 + (d + 1); omega, by show 8 + (6 + 11) + (168 + 26 * d) ≤ 168 + 26 * (d + 1); omega⟩) (m_preV g_bl0 hsz hK hP hS hE hKS g_to0) rfl rfl hl.1 rfl (lv_room (Nat.le_of_ble_eq_true rfl)) dX12_statement__473 ⟨Nat.le_of_ble_eq_true rfl, Nat.le_of_ble_eq_true rfl⟩) (fun H locs hP hS => ?_)
            refine lv_goto (tgt := 708) hx hb dX12_statement__476 (by decide) ?_
            have h9 := Option.some.inj hF_222
            subst h9
            exact W.vret hx hb hr (fun t ht hW => ⟨⟨(), rfl, trivial, m_end ht hP⟩, hS.F ht⟩) hS.2.2 dX12_statement__708
      refine lv_if_eq (tgt := 444) hx hb dX12_statement__432 (by decide) (fun c_224 => ?_) (fun c_224 => ?_)
      · have hF_225 := ipos c_224 hF_185
        clear hF_185
        refine lv_aload_n hx hb dX12_statement__444 rfl (lv_at hl 2 rfl) ?_
        refine va_get (D := (dC, dI)) (ci := 12) (v := .ref (ad 68)) (C := RX12) (T := TX12) (N := 123) hx hb hts ii_X12 hown hK hP 0 rfl rfl 68 (by decide) (hts (.fieldLink RX12 149 "StoryHouseModel" "bD" "[I") wq_1424) (fun _ h9 => h9) rfl dX12_statement__445 ?_
        refine lv_iload_n hx hb dX12_statement__448 rfl (lv_at hl 3 rfl) ?_
        obtain ⟨g_226, hF_227⟩ := nif_e hF_225
        clear hF_225
        refine va_iald (f := u_178.2.2 68) hx hb hK hP 41 2 rfl rfl g_226 dX12_statement__449 ?_
        exact Jj_184 (u_178.2.2 68 p0.toNatClampNeg) u_178.2 hF_227 _ _ hP hS ls (lv_sub hl [2, 4] rfl)
      · have hF_228 := ineg c_224 hF_185
        clear hF_185
        refine lv_aload_n hx hb dX12_statement__435 rfl (lv_at hl 2 rfl) ?_
        refine va_get (D := (dC, dI)) (ci := 12) (v := .ref (ad 67)) (C := RX12) (T := TX12) (N := 123) hx hb hts ii_X12 hown hK hP 0 rfl rfl 67 (by decide) (hts (.fieldLink RX12 146 "StoryHouseModel" "bB" "[I") wq_1423) (fun _ h9 => h9) rfl dX12_statement__436 ?_
        refine lv_iload_n hx hb dX12_statement__439 rfl (lv_at hl 3 rfl) ?_
        obtain ⟨g_229, hF_230⟩ := nif_e hF_228
        clear hF_228
        refine va_iald (f := u_178.2.2 67) hx hb hK hP 40 2 rfl rfl g_229 dX12_statement__440 ?_
        refine lv_goto (tgt := 450) hx hb dX12_statement__441 (by decide) ?_
        exact Jj_184 (u_178.2.2 67 p0.toNatClampNeg) u_178.2 hF_230 _ _ hP hS ls (lv_sub hl [2, 4] rfl)
    · have hF_231 := ineg c_180 hF_179
      clear hF_179
      have h9 := Option.some.inj hF_231
      subst h9
      exact W.vret hx hb hr (fun t ht hW => ⟨⟨(), rfl, trivial, m_end ht hP⟩, hS.F ht⟩) hS.2.2 dX12_statement__430
  have hF_232 := ineg c_174 hF_173
  clear hF_173
  by_cases c_233 : x_3 = 28
  · have hF_234 := ipos c_233 hF_232
    clear hF_232
    refine lv_tableIn (off := 516) (tgt := 527) hx hb dX12_statement__11 (by rw [c_233]; decide +kernel) (by rw [c_233]; decide +kernel) (by rw [c_233]; decide +kernel) (by decide) ?_
    refine loopF_ind (P := fun (s_235 : MS) => ∀ (H : Heap) (locs : List Loc), va_P (dC, dI) vwCl (mW cB cI cZ h qK qS ad s_235) H → va_S (mCells h ad sz) s.heap H locs → ∀ ls : Array Slot, lv_has ls 6 [(0, .ref h), (1, .int p0), (2, .int p1)] → W p l e (headSpec (g_ws yX12_statement_ cX12_statement_ 6 none) { frames := 7 + (d + 1), cells := 0, slots := 0, locals := 168 + 26 * (d + 1) }).room s m ([.ref h, .int p0, .int p1] : List Value).toArray below meth c H locs 0 0 (MQ below (va_Qv (fun (_ : Unit) => True) (fun _ t => va_P (dC, dI) vwCl (mW cB cI cZ h qK qS ad res.2) t.heap) (mCells h ad sz)) ([.ref h, .int p0, .int p1] : List Value).toArray s 0 0 (mCells h ad sz)) (F0 m 527 ls [])) ?_ _ _ hF_234 _ _ hP hS ls (lv_sub hl [2, 3, 4] rfl)
    intro again_236 s_235 ih_237 hF_238
    intro H locs hP hS ls hl
    refine lv_aload_n hx hb dX12_statement__527 rfl (lv_at hl 0 rfl) ?_
    refine lv_aload_n hx hb dX12_statement__528 rfl (lv_at hl 0 rfl) ?_
    refine va_get (D := (dC, dI)) (ci := 12) (v := .ref (ad 66)) (C := RX12) (T := TX12) (N := 123) hx hb hts ii_X12 hown hK hP 0 rfl rfl 66 (by decide) (hts (.fieldLink RX12 143 "StoryHouseModel" "bA" "[I") wq_1422) (fun _ h9 => h9) rfl dX12_statement__529 ?_
    refine lv_iload_n hx hb dX12_statement__532 rfl (lv_at hl 1 rfl) ?_
    obtain ⟨g_239, hF_240⟩ := nif_e hF_238
    clear hF_238
    refine va_iald (f := s_235.2 66) hx hb hK hP 39 2 rfl rfl g_239 dX12_statement__533 ?_
    refine lv_iload_n hx hb dX12_statement__534 rfl (lv_at hl 2 rfl) ?_
    obtain ⟨u_241, hu_241, hF_242⟩ := Option.bind_eq_some_iff.mp hF_240
    clear hF_240
    refine m_ci hsz hS (va_runV (As := [.int (s_235.2 66 p0.toNatClampNeg), .int p1]) (rest := []) ⟨hx, hb, hml, hown, hts⟩ (hI0 H.size (s_235.2 66 p0.toNatClampNeg) p1 s_235 _ hu_241) (cwV 2 hts (g_gV wq_1819 wq_1820 wq_2214 wq_13 wq_1821) rfl rfl rfl (by decide +kernel) ⟨by show 7 + d + 1 ≤ 7 + (d + 1); omega, by show 8 + (6 + 11) + (168 + 26 * d) ≤ 168 + 26 * (d + 1); omega⟩) (m_preV g_bl0 hsz hK hP hS hE hKS g_to0) rfl rfl hl.1 rfl (lv_room (Nat.le_of_ble_eq_true rfl)) dX12_statement__535 ⟨Nat.le_of_ble_eq_true rfl, Nat.le_of_ble_eq_true rfl⟩) (fun H locs hP hS => ?_)
    refine lv_if_eq (tgt := 708) hx hb dX12_statement__538 (by decide) (fun c_243 => ?_) (fun c_243 => ?_)
    · have hF_244 := ipos c_243 hF_242
      clear hF_242
      have h9 := Option.some.inj hF_244
      subst h9
      exact W.vret hx hb hr (fun t ht hW => ⟨⟨(), rfl, trivial, m_end ht hP⟩, hS.F ht⟩) hS.2.2 dX12_statement__708
    · have hF_245 := ineg c_243 hF_242
      clear hF_242
      refine lv_aload_n hx hb dX12_statement__541 rfl (lv_at hl 0 rfl) ?_
      obtain ⟨u_246, hu_246, hF_247⟩ := Option.bind_eq_some_iff.mp hF_245
      clear hF_245
      refine m_ci hsz hS (va_runV (As := []) (rest := []) ⟨hx, hb, hml, hown, hts⟩ (m_X12_passes l dC dI cB cC cI cJ cZ cP h qK qS ad hDD H.size  u_241.2 _ hu_246) (cwV 0 hts (g_gV wq_1837 wq_1838 wq_2220 wq_13 wq_1839) rfl rfl rfl (by decide +kernel) ⟨by show 2 + 1 ≤ 7 + (d + 1); omega, by show 8 + (1 + 11) + 61 ≤ 168 + 26 * (d + 1); omega⟩) (m_preV g_bl0 hsz hK hP hS hE hKS g_to0) rfl rfl hl.1 rfl (lv_room (Nat.le_of_ble_eq_true rfl)) dX12_statement__542 ⟨Nat.le_of_ble_eq_true rfl, Nat.le_of_ble_eq_true rfl⟩) (fun H locs hP hS => ?_)
      refine lv_if_eq (tgt := 708) hx hb dX12_statement__545 (by decide) (fun c_248 => ?_) (fun c_248 => ?_)
      · have hF_249 := ipos c_248 hF_247
        clear hF_247
        have h9 := Option.some.inj hF_249
        subst h9
        exact W.vret hx hb hr (fun t ht hW => ⟨⟨(), rfl, trivial, m_end ht hP⟩, hS.F ht⟩) hS.2.2 dX12_statement__708
      · have hF_250 := ineg c_248 hF_247
        clear hF_247
        refine lv_aload_n hx hb dX12_statement__548 rfl (lv_at hl 0 rfl) ?_
        refine va_get (D := (dC, dI)) (ci := 12) (v := .ref (ad 66)) (C := RX12) (T := TX12) (N := 123) hx hb hts ii_X12 hown hK hP 0 rfl rfl 66 (by decide) (hts (.fieldLink RX12 143 "StoryHouseModel" "bA" "[I") wq_1422) (fun _ h9 => h9) rfl dX12_statement__549 ?_
        refine lv_aload_n hx hb dX12_statement__552 rfl (lv_at hl 0 rfl) ?_
        refine va_get (D := (dC, dI)) (ci := 12) (v := .ref (ad 67)) (C := RX12) (T := TX12) (N := 123) hx hb hts ii_X12 hown hK hP 0 rfl rfl 67 (by decide) (hts (.fieldLink RX12 146 "StoryHouseModel" "bB" "[I") wq_1423) (fun _ h9 => h9) rfl dX12_statement__553 ?_
        refine lv_iload_n hx hb dX12_statement__556 rfl (lv_at hl 1 rfl) ?_
        obtain ⟨g_251, hF_252⟩ := nif_e hF_250
        clear hF_250
        refine va_iald (f := u_246.2.2 67) hx hb hK hP 40 2 rfl rfl g_251 dX12_statement__557 ?_
        obtain ⟨x_253, ex_253, hF_254⟩ := bnd_e hF_252
        clear hF_252
        refine m_top ex_253 ?_
        obtain ⟨g_255, hF_256⟩ := nif_e hF_254
        clear hF_254
        refine va_iald (f := u_246.2.2 66) hx hb hK hP 39 2 rfl rfl g_255 dX12_statement__558 ?_
        obtain ⟨x_257, ex_257, hF_258⟩ := bnd_e hF_256
        clear hF_256
        refine m_top ex_257 ?_
        refine lv_istore (lv' := [(5, .int x_257), (0, .ref h), (1, .int p0), (2, .int p1)]) hx hb dX12_statement__559 hl (by decide) rfl (fun ls hl => ?_)
        refine loopF_ind (P := fun (s_259 : Int32 × MS) => ∀ (H : Heap) (locs : List Loc), va_P (dC, dI) vwCl (mW cB cI cZ h qK qS ad s_259.2) H → va_S (mCells h ad sz) s.heap H locs → ∀ ls : Array Slot, lv_has ls 6 [(0, .ref h), (1, .int p0), (2, .int p1), (5, .int s_259.1)] → W p l e (headSpec (g_ws yX12_statement_ cX12_statement_ 6 none) { frames := 7 + (d + 1), cells := 0, slots := 0, locals := 168 + 26 * (d + 1) }).room s m ([.ref h, .int p0, .int p1] : List Value).toArray below meth c H locs 0 0 (MQ below (va_Qv (fun (_ : Unit) => True) (fun _ t => va_P (dC, dI) vwCl (mW cB cI cZ h qK qS ad res.2) t.heap) (mCells h ad sz)) ([.ref h, .int p0, .int p1] : List Value).toArray s 0 0 (mCells h ad sz)) (F0 m 561 ls [])) ?_ _ _ hF_258 _ _ hP hS ls (lv_sub hl [1, 2, 3, 0] rfl)
        intro again_260 s_259 ih_261 hF_262
        intro H locs hP hS ls hl
        refine lv_iload hx hb dX12_statement__561 (lv_at hl 3 rfl) ?_
        obtain ⟨j_264, ej_264, hF_265⟩ := bnd_e hF_262
        clear hF_262
        have Jj_264 : ∀  (σ_263 : MS), j_264  σ_263 = some res → ∀ (H : Heap) (locs : List Loc), va_P (dC, dI) vwCl (mW cB cI cZ h qK qS ad σ_263) H → va_S (mCells h ad sz) s.heap H locs → ∀ ls : Array Slot, lv_has ls 6 [(0, .ref h), (1, .int p0), (2, .int p1)] → W p l e (headSpec (g_ws yX12_statement_ cX12_statement_ 6 none) { frames := 7 + (d + 1), cells := 0, slots := 0, locals := 168 + 26 * (d + 1) }).room s m ([.ref h, .int p0, .int p1] : List Value).toArray below meth c H locs 0 0 (MQ below (va_Qv (fun (_ : Unit) => True) (fun _ t => va_P (dC, dI) vwCl (mW cB cI cZ h qK qS ad res.2) t.heap) (mCells h ad sz)) ([.ref h, .int p0, .int p1] : List Value).toArray s 0 0 (mCells h ad sz)) (F0 m 592 ls []) := by
          intro  σ_263 hF0 H locs hP hS ls hl
          subst ej_264
          have hF_266 := hF0
          clear hF0
          refine lv_goto (tgt := 527) hx hb dX12_statement__592 (by decide) ?_
          exact ih_237 σ_263 hF_266 _ _ hP hS ls (lv_sub hl [0, 1, 2] rfl)
        refine lv_if_lt (tgt := 592) hx hb dX12_statement__563 (by decide) (fun c_267 => ?_) (fun c_267 => ?_)
        · have hF_268 := ipos c_267 hF_265
          clear hF_265
          exact Jj_264  s_259.2 hF_268 _ _ hP hS ls (lv_sub hl [0, 1, 2] rfl)
        · have hF_269 := ineg c_267 hF_265
          clear hF_265
          refine lv_aload_n hx hb dX12_statement__566 rfl (lv_at hl 0 rfl) ?_
          refine va_get (D := (dC, dI)) (ci := 12) (v := .int (s_259.2.1 104)) (C := RX12) (T := TX12) (N := 123) hx hb hts ii_X12 hown hK hP 0 rfl rfl 104 (by decide) (hts (.fieldLink RX12 685 "StoryHouseModel" "stop" "I") wq_1460) (fun _ h9 => h9) rfl dX12_statement__567 ?_
          refine lv_if_ne (tgt := 592) hx hb dX12_statement__570 (by decide) (fun c_270 => ?_) (fun c_270 => ?_)
          · have hF_278 := ineg c_270 hF_269
            clear hF_269
            exact Jj_264  s_259.2 hF_278 _ _ hP hS ls (lv_sub hl [0, 1, 2] rfl)
          · have hF_271 := ipos c_270 hF_269
            clear hF_269
            refine lv_aload_n hx hb dX12_statement__573 rfl (lv_at hl 0 rfl) ?_
            refine lv_iload hx hb dX12_statement__574 (lv_at hl 3 rfl) ?_
            refine lv_iload_n hx hb dX12_statement__576 rfl (lv_at hl 2 rfl) ?_
            obtain ⟨u_272, hu_272, hF_273⟩ := Option.bind_eq_some_iff.mp hF_271
            clear hF_271
            refine m_cv hsz hS (va_runV (As := [.int s_259.1, .int p1]) (rest := []) ⟨hx, hb, hml, hown, hts⟩ (hI3 H.size s_259.1 p1 s_259.2 _ hu_272) (cwV 2 hts (g_gV wq_1813 wq_1814 wq_2212 wq_13 wq_1815) rfl rfl rfl (by decide +kernel) ⟨by show 7 + d + 1 ≤ 7 + (d + 1); omega, by show 8 + (6 + 11) + (168 + 26 * d) ≤ 168 + 26 * (d + 1); omega⟩) (m_preV g_bl0 hsz hK hP hS hE hKS g_to0) rfl rfl hl.1 rfl (lv_room (Nat.le_of_ble_eq_true rfl)) dX12_statement__577 ⟨Nat.le_of_ble_eq_true rfl, Nat.le_of_ble_eq_true rfl⟩) (fun H locs hP hS => ?_)
            refine lv_aload_n hx hb dX12_statement__580 rfl (lv_at hl 0 rfl) ?_
            refine va_get (D := (dC, dI)) (ci := 12) (v := .ref (ad 69)) (C := RX12) (T := TX12) (N := 123) hx hb hts ii_X12 hown hK hP 0 rfl rfl 69 (by decide) (hts (.fieldLink RX12 152 "StoryHouseModel" "bThen" "[I") wq_1425) (fun _ h9 => h9) rfl dX12_statement__581 ?_
            refine lv_iload hx hb dX12_statement__584 (lv_at hl 3 rfl) ?_
            obtain ⟨g_274, hF_275⟩ := nif_e hF_273
            clear hF_273
            refine va_iald (f := u_272.2.2 69) hx hb hK hP 42 2 rfl rfl g_274 dX12_statement__586 ?_
            obtain ⟨x_276, ex_276, hF_277⟩ := bnd_e hF_275
            clear hF_275
            refine m_top ex_276 ?_
            refine lv_istore (lv' := [(5, .int x_276), (0, .ref h), (1, .int p0), (2, .int p1)]) hx hb dX12_statement__587 hl (by decide) rfl (fun ls hl => ?_)
            refine lv_goto (tgt := 561) hx hb dX12_statement__589 (by decide) ?_
            exact ih_261 (x_276, u_272.2) hF_277 _ _ hP hS ls (lv_sub hl [1, 2, 3, 0] rfl)
  have hF_279 := ineg c_233 hF_232
  clear hF_232
  by_cases c_280 : x_3 = 29
  · have hF_281 := ipos c_280 hF_279
    clear hF_279
    refine lv_tableIn (off := 584) (tgt := 595) hx hb dX12_statement__11 (by rw [c_280]; decide +kernel) (by rw [c_280]; decide +kernel) (by rw [c_280]; decide +kernel) (by decide) ?_
    refine lv_aload_n hx hb dX12_statement__595 rfl (lv_at hl 2 rfl) ?_
    refine lv_aload_n hx hb dX12_statement__596 rfl (lv_at hl 2 rfl) ?_
    refine va_get (D := (dC, dI)) (ci := 12) (v := .ref (ad 66)) (C := RX12) (T := TX12) (N := 123) hx hb hts ii_X12 hown hK hP 0 rfl rfl 66 (by decide) (hts (.fieldLink RX12 143 "StoryHouseModel" "bA" "[I") wq_1422) (fun _ h9 => h9) rfl dX12_statement__597 ?_
    refine lv_iload_n hx hb dX12_statement__600 rfl (lv_at hl 3 rfl) ?_
    obtain ⟨g_282, hF_283⟩ := nif_e hF_281
    clear hF_281
    refine va_iald (f := σ.2 66) hx hb hK hP 39 2 rfl rfl g_282 dX12_statement__601 ?_
    refine lv_iload_n hx hb dX12_statement__602 rfl (lv_at hl 4 rfl) ?_
    obtain ⟨u_284, hu_284, hF_285⟩ := Option.bind_eq_some_iff.mp hF_283
    clear hF_283
    refine m_ci hsz hS (va_runV (As := [.int (σ.2 66 p0.toNatClampNeg), .int p1]) (rest := []) ⟨hx, hb, hml, hown, hts⟩ (hI0 s.heap.size (σ.2 66 p0.toNatClampNeg) p1 σ _ hu_284) (cwV 2 hts (g_gV wq_1819 wq_1820 wq_2214 wq_13 wq_1821) rfl rfl rfl (by decide +kernel) ⟨by show 7 + d + 1 ≤ 7 + (d + 1); omega, by show 8 + (6 + 11) + (168 + 26 * d) ≤ 168 + 26 * (d + 1); omega⟩) (m_preV g_bl0 hsz hK hP hS hE hKS g_to0) rfl rfl hl.1 rfl (lv_room (Nat.le_of_ble_eq_true rfl)) dX12_statement__603 ⟨Nat.le_of_ble_eq_true rfl, Nat.le_of_ble_eq_true rfl⟩) (fun H locs hP hS => ?_)
    refine lv_istore_n (lv' := [(3, .int u_284.1), (4, .int 0), (0, .ref h), (1, .int p0), (2, .int p1)]) hx hb dX12_statement__606 rfl hl (by decide) rfl (fun ls hl => ?_)
    refine lv_aload_n hx hb dX12_statement__607 rfl (lv_at hl 2 rfl) ?_
    refine va_get (D := (dC, dI)) (ci := 12) (v := .int (u_284.2.1 104)) (C := RX12) (T := TX12) (N := 123) hx hb hts ii_X12 hown hK hP 0 rfl rfl 104 (by decide) (hts (.fieldLink RX12 685 "StoryHouseModel" "stop" "I") wq_1460) (fun _ h9 => h9) rfl dX12_statement__608 ?_
    refine lv_if_ne (tgt := 708) hx hb dX12_statement__611 (by decide) (fun c_286 => ?_) (fun c_286 => ?_)
    · have hF_292 := ineg c_286 hF_285
      clear hF_285
      have h9 := Option.some.inj hF_292
      subst h9
      exact W.vret hx hb hr (fun t ht hW => ⟨⟨(), rfl, trivial, m_end ht hP⟩, hS.F ht⟩) hS.2.2 dX12_statement__708
    · have hF_287 := ipos c_286 hF_285
      clear hF_285
      refine lv_aload_n hx hb dX12_statement__614 rfl (lv_at hl 2 rfl) ?_
      refine lv_iload_n hx hb dX12_statement__615 rfl (lv_at hl 0 rfl) ?_
      obtain ⟨σ_288, eσ_288, hF_289⟩ := bnd_e hF_287
      clear hF_287
      refine m_put (σ' := σ_288) (v := .int u_284.1) (ty := .int) hx hb hts hown hK hP (hDD _ _) hS (by rw [eσ_288]; exact mwI_110) (k := 110) (by decide) (hts (.fieldLink RX12 747 "StoryHouseModel" "returned" "I") wq_1466) (fun _ h9 => h9) rfl (by decide +kernel) rfl rfl dX12_statement__616 (fun H locs hP hS => ?_)
      refine lv_aload_n hx hb dX12_statement__619 rfl (lv_at hl 2 rfl) ?_
      refine lv_iconst (v := 4) hx hb dX12_statement__620 (by decide +kernel) ?_
      obtain ⟨σ_290, eσ_290, hF_291⟩ := bnd_e hF_289
      clear hF_289
      refine m_put (σ' := σ_290) (v := .int 4) (ty := .int) hx hb hts hown hK hP (hDD _ _) hS (by rw [eσ_290]; exact mwI_104) (k := 104) (by decide) (hts (.fieldLink RX12 685 "StoryHouseModel" "stop" "I") wq_1460) (fun _ h9 => h9) rfl (by decide +kernel) rfl rfl dX12_statement__621 (fun H locs hP hS => ?_)
      refine lv_goto (tgt := 708) hx hb dX12_statement__624 (by decide) ?_
      have h9 := Option.some.inj hF_291
      subst h9
      exact W.vret hx hb hr (fun t ht hW => ⟨⟨(), rfl, trivial, m_end ht hP⟩, hS.F ht⟩) hS.2.2 dX12_statement__708
  have hF_293 := ineg c_280 hF_279
  clear hF_279
  by_cases c_294 : x_3 = 30
  · have hF_295 := ipos c_294 hF_293
    clear hF_293
    refine lv_tableIn (off := 616) (tgt := 627) hx hb dX12_statement__11 (by rw [c_294]; decide +kernel) (by rw [c_294]; decide +kernel) (by rw [c_294]; decide +kernel) (by decide) ?_
    refine lv_aload_n hx hb dX12_statement__627 rfl (lv_at hl 2 rfl) ?_
    refine lv_iconst (v := 1) hx hb dX12_statement__628 (by decide +kernel) ?_
    obtain ⟨σ_296, eσ_296, hF_297⟩ := bnd_e hF_295
    clear hF_295
    refine m_put (σ' := σ_296) (v := .int 1) (ty := .int) hx hb hts hown hK hP (hDD _ _) hS (by rw [eσ_296]; exact mwI_104) (k := 104) (by decide) (hts (.fieldLink RX12 685 "StoryHouseModel" "stop" "I") wq_1460) (fun _ h9 => h9) rfl (by decide +kernel) rfl rfl dX12_statement__629 (fun H locs hP hS => ?_)
    refine lv_goto (tgt := 708) hx hb dX12_statement__632 (by decide) ?_
    have h9 := Option.some.inj hF_297
    subst h9
    exact W.vret hx hb hr (fun t ht hW => ⟨⟨(), rfl, trivial, m_end ht hP⟩, hS.F ht⟩) hS.2.2 dX12_statement__708
  have hF_298 := ineg c_294 hF_293
  clear hF_293
  by_cases c_299 : x_3 = 31 ∨ x_3 = 32
  · have hF_300 := ipos c_299 hF_298
    clear hF_298
    refine lv_tableIn (off := 624) (tgt := 635) hx hb dX12_statement__11 (by rcases c_299 with q9 | q9 <;> (rw [q9]; decide +kernel)) (by rcases c_299 with q9 | q9 <;> (rw [q9]; decide +kernel)) (by rcases c_299 with q9 | q9 <;> (rw [q9]; decide +kernel)) (by decide) ?_
    refine lv_aload_n hx hb dX12_statement__635 rfl (lv_at hl 2 rfl) ?_
    refine lv_aload_n hx hb dX12_statement__636 rfl (lv_at hl 2 rfl) ?_
    refine va_get (D := (dC, dI)) (ci := 12) (v := .ref (ad 64)) (C := RX12) (T := TX12) (N := 123) hx hb hts ii_X12 hown hK hP 0 rfl rfl 64 (by decide) (hts (.fieldLink RX12 137 "StoryHouseModel" "bWhat" "[I") wq_1420) (fun _ h9 => h9) rfl dX12_statement__637 ?_
    refine lv_iload_n hx hb dX12_statement__640 rfl (lv_at hl 3 rfl) ?_
    obtain ⟨g_301, hF_302⟩ := nif_e hF_300
    clear hF_300
    refine va_iald (f := σ.2 64) hx hb hK hP 37 2 rfl rfl g_301 dX12_statement__641 ?_
    refine lv_bipush (v := 31) hx hb dX12_statement__642 (by decide +kernel) ?_
    obtain ⟨j_305, ej_305, hF_306⟩ := bnd_e hF_302
    clear hF_302
    have Jj_305 : ∀ (t_303 : Int32) (σ_304 : MS), j_305 t_303 σ_304 = some res → ∀ (H : Heap) (locs : List Loc), va_P (dC, dI) vwCl (mW cB cI cZ h qK qS ad σ_304) H → va_S (mCells h ad sz) s.heap H locs → ∀ ls : Array Slot, lv_has ls 6 [(0, .ref h)] → W p l e (headSpec (g_ws yX12_statement_ cX12_statement_ 6 none) { frames := 7 + (d + 1), cells := 0, slots := 0, locals := 168 + 26 * (d + 1) }).room s m ([.ref h, .int p0, .int p1] : List Value).toArray below meth c H locs 0 0 (MQ below (va_Qv (fun (_ : Unit) => True) (fun _ t => va_P (dC, dI) vwCl (mW cB cI cZ h qK qS ad res.2) t.heap) (mCells h ad sz)) ([.ref h, .int p0, .int p1] : List Value).toArray s 0 0 (mCells h ad sz)) (F0 m 652 ls [.int t_303, .ref h]) := by
      intro t_303 σ_304 hF0 H locs hP hS ls hl
      subst ej_305
      have hF_307 := hF0
      clear hF0
      obtain ⟨σ_308, eσ_308, hF_309⟩ := bnd_e hF_307
      clear hF_307
      refine m_put (σ' := σ_308) (v := .int t_303) (ty := .int) hx hb hts hown hK hP (hDD _ _) hS (by rw [eσ_308]; exact mwI_95) (k := 95) (by decide) (hts (.fieldLink RX12 663 "StoryHouseModel" "ended" "I") wq_1451) (fun _ h9 => h9) rfl (by decide +kernel) rfl rfl dX12_statement__652 (fun H locs hP hS => ?_)
      refine lv_aload_n hx hb dX12_statement__655 rfl (lv_at hl 0 rfl) ?_
      refine lv_bipush (v := 10) hx hb dX12_statement__656 (by decide +kernel) ?_
      obtain ⟨u_310, hu_310, hF_311⟩ := Option.bind_eq_some_iff.mp hF_309
      clear hF_309
      refine m_cv hsz hS (va_runV (As := [.int 10]) (rest := []) ⟨hx, hb, hml, hown, hts⟩ (m_X12_put l dC dI cB cC cI cJ cZ cP h qK qS ad hDD H.size  10 σ_308 _ hu_310) (cwV 1 hts (g_gV wq_1773 wq_1774 wq_2200 wq_13 wq_1775) rfl rfl rfl (by decide +kernel) ⟨by show 1 + 1 ≤ 7 + (d + 1); omega, by show 8 + (2 + 11) + 40 ≤ 168 + 26 * (d + 1); omega⟩) (m_preV g_bl0 hsz hK hP hS hE hKS g_to0) rfl rfl hl.1 rfl (lv_room (Nat.le_of_ble_eq_true rfl)) dX12_statement__658 ⟨Nat.le_of_ble_eq_true rfl, Nat.le_of_ble_eq_true rfl⟩) (fun H locs hP hS => ?_)
      refine lv_aload_n hx hb dX12_statement__661 rfl (lv_at hl 0 rfl) ?_
      refine lv_aload_n hx hb dX12_statement__662 rfl (lv_at hl 0 rfl) ?_
      refine va_get (D := (dC, dI)) (ci := 12) (v := .int (u_310.2.1 95)) (C := RX12) (T := TX12) (N := 123) hx hb hts ii_X12 hown hK hP 0 rfl rfl 95 (by decide) (hts (.fieldLink RX12 663 "StoryHouseModel" "ended" "I") wq_1451) (fun _ h9 => h9) rfl dX12_statement__663 ?_
      refine lv_iconst (v := 1) hx hb dX12_statement__666 (by decide +kernel) ?_
      refine lv_icmp_ne (tgt := 676) hx hb dX12_statement__667 (by decide) (fun c_312 => ?_) (fun c_312 => ?_)
      · have hF_319 := ineg c_312 hF_311
        clear hF_311
        obtain ⟨q_320, vq_320, hRq_320, hSq_320⟩ := hE.2.2.2.2 _ (List.mem_of_getElem? (i := 126) rfl)
        refine g_ldcwS (own := RX12) (tx := "*** You have lost ***") hx hb hown hRq_320 dX12_statement__676 ?_
        obtain ⟨u_321, hu_321, hF_322⟩ := Option.bind_eq_some_iff.mp hF_319
        clear hF_319
        refine m_cv hsz hS (va_runV (As := [.ref q_320]) (rest := []) ⟨hx, hb, hml, hown, hts⟩ (m_X12_line l dC dI cB cC cI cJ cZ cP h qK qS ad hDD H.size q_320 _ ([42, 42, 42, 32, 89, 111, 117, 32, 104, 97, 118, 101, 32, 108, 111, 115, 116, 32, 42, 42, 42] : List Int32) u_310.2 _ hu_321) (cwV 1 hts (g_gV wq_1767 wq_1768 wq_2198 wq_13 wq_1769) rfl rfl rfl (by decide +kernel) ⟨by show 6 + 1 ≤ 7 + (d + 1); omega, by show 8 + (2 + 11) + 147 ≤ 168 + 26 * (d + 1); omega⟩) (m_preV g_blS hsz hK hP hS hE hKS (g_toS hSq_320 hS (m_narrow hS hsz))) rfl rfl hl.1 rfl (lv_room (Nat.le_of_ble_eq_true rfl)) dX12_statement__679 ⟨Nat.le_of_ble_eq_true rfl, Nat.le_of_ble_eq_true rfl⟩) (fun H locs hP hS => ?_)
        refine lv_aload_n hx hb dX12_statement__682 rfl (lv_at hl 0 rfl) ?_
        refine lv_iconst (v := 2) hx hb dX12_statement__683 (by decide +kernel) ?_
        obtain ⟨σ_323, eσ_323, hF_324⟩ := bnd_e hF_322
        clear hF_322
        refine m_put (σ' := σ_323) (v := .int 2) (ty := .int) hx hb hts hown hK hP (hDD _ _) hS (by rw [eσ_323]; exact mwI_104) (k := 104) (by decide) (hts (.fieldLink RX12 685 "StoryHouseModel" "stop" "I") wq_1460) (fun _ h9 => h9) rfl (by decide +kernel) rfl rfl dX12_statement__684 (fun H locs hP hS => ?_)
        refine lv_goto (tgt := 708) hx hb dX12_statement__687 (by decide) ?_
        have h9 := Option.some.inj hF_324
        subst h9
        exact W.vret hx hb hr (fun t ht hW => ⟨⟨(), rfl, trivial, m_end ht hP⟩, hS.F ht⟩) hS.2.2 dX12_statement__708
      · have hF_313 := ipos c_312 hF_311
        clear hF_311
        obtain ⟨q_314, vq_314, hRq_314, hSq_314⟩ := hE.2.2.2.2 _ (List.mem_of_getElem? (i := 125) rfl)
        refine g_ldcwS (own := RX12) (tx := "*** You have won ***") hx hb hown hRq_314 dX12_statement__670 ?_
        refine lv_goto (tgt := 679) hx hb dX12_statement__673 (by decide) ?_
        obtain ⟨u_315, hu_315, hF_316⟩ := Option.bind_eq_some_iff.mp hF_313
        clear hF_313
        refine m_cv hsz hS (va_runV (As := [.ref q_314]) (rest := []) ⟨hx, hb, hml, hown, hts⟩ (m_X12_line l dC dI cB cC cI cJ cZ cP h qK qS ad hDD H.size q_314 _ ([42, 42, 42, 32, 89, 111, 117, 32, 104, 97, 118, 101, 32, 119, 111, 110, 32, 42, 42, 42] : List Int32) u_310.2 _ hu_315) (cwV 1 hts (g_gV wq_1767 wq_1768 wq_2198 wq_13 wq_1769) rfl rfl rfl (by decide +kernel) ⟨by show 6 + 1 ≤ 7 + (d + 1); omega, by show 8 + (2 + 11) + 147 ≤ 168 + 26 * (d + 1); omega⟩) (m_preV g_blS hsz hK hP hS hE hKS (g_toS hSq_314 hS (m_narrow hS hsz))) rfl rfl hl.1 rfl (lv_room (Nat.le_of_ble_eq_true rfl)) dX12_statement__679 ⟨Nat.le_of_ble_eq_true rfl, Nat.le_of_ble_eq_true rfl⟩) (fun H locs hP hS => ?_)
        refine lv_aload_n hx hb dX12_statement__682 rfl (lv_at hl 0 rfl) ?_
        refine lv_iconst (v := 2) hx hb dX12_statement__683 (by decide +kernel) ?_
        obtain ⟨σ_317, eσ_317, hF_318⟩ := bnd_e hF_316
        clear hF_316
        refine m_put (σ' := σ_317) (v := .int 2) (ty := .int) hx hb hts hown hK hP (hDD _ _) hS (by rw [eσ_317]; exact mwI_104) (k := 104) (by decide) (hts (.fieldLink RX12 685 "StoryHouseModel" "stop" "I") wq_1460) (fun _ h9 => h9) rfl (by decide +kernel) rfl rfl dX12_statement__684 (fun H locs hP hS => ?_)
        refine lv_goto (tgt := 708) hx hb dX12_statement__687 (by decide) ?_
        have h9 := Option.some.inj hF_318
        subst h9
        exact W.vret hx hb hr (fun t ht hW => ⟨⟨(), rfl, trivial, m_end ht hP⟩, hS.F ht⟩) hS.2.2 dX12_statement__708
    refine lv_icmp_ne (tgt := 651) hx hb dX12_statement__644 (by decide) (fun c_325 => ?_) (fun c_325 => ?_)
    · have hF_327 := ineg c_325 hF_306
      clear hF_306
      refine lv_iconst (v := 2) hx hb dX12_statement__651 (by decide +kernel) ?_
      exact Jj_305 2 σ hF_327 _ _ hP hS ls (lv_sub hl [2] rfl)
    · have hF_326 := ipos c_325 hF_306
      clear hF_306
      refine lv_iconst (v := 1) hx hb dX12_statement__647 (by decide +kernel) ?_
      refine lv_goto (tgt := 652) hx hb dX12_statement__648 (by decide) ?_
      exact Jj_305 1 σ hF_326 _ _ hP hS ls (lv_sub hl [2] rfl)
  have hF_328 := ineg c_299 hF_298
  clear hF_298
  refine m_tabD (lo := 20) (n := 13) (tgt := 690) hx hb dX12_statement__11 (by decide +kernel) (by decide) (fun j9 h9 e9 => by
      match j9, h9 with
      | 0, _ => exact absurd ((by rw [e9]; decide +kernel)) c_5
      | 1, _ => exact absurd ((by rw [e9]; decide +kernel)) c_28
      | 2, _ => exact absurd ((by rw [e9]; decide +kernel)) c_45
      | 3, _ => exact absurd ((by rw [e9]; decide +kernel)) c_56
      | 4, _ => exact absurd ((by rw [e9]; decide +kernel)) c_94
      | 5, _ => exact absurd ((by rw [e9]; decide +kernel)) c_110
      | 6, _ => exact absurd ((by rw [e9]; decide +kernel)) c_141
      | 7, _ => exact absurd ((by rw [e9]; decide +kernel)) c_174
      | 8, _ => exact absurd ((by rw [e9]; decide +kernel)) c_233
      | 9, _ => exact absurd ((by rw [e9]; decide +kernel)) c_280
      | 10, _ => exact absurd ((by rw [e9]; decide +kernel)) c_294
      | 11, _ => exact absurd (Or.inl (by rw [e9]; decide +kernel)) c_299
      | 12, _ => exact absurd (Or.inr ((by rw [e9]; decide +kernel))) c_299
      | n9 + 13, h9 => exact absurd h9 (by omega)) ?_
  refine lv_aload_n hx hb dX12_statement__690 rfl (lv_at hl 2 rfl) ?_
  refine lv_aload_n hx hb dX12_statement__691 rfl (lv_at hl 2 rfl) ?_
  refine va_get (D := (dC, dI)) (ci := 12) (v := .ref (ad 68)) (C := RX12) (T := TX12) (N := 123) hx hb hts ii_X12 hown hK hP 0 rfl rfl 68 (by decide) (hts (.fieldLink RX12 149 "StoryHouseModel" "bD" "[I") wq_1424) (fun _ h9 => h9) rfl dX12_statement__692 ?_
  refine lv_iload_n hx hb dX12_statement__695 rfl (lv_at hl 3 rfl) ?_
  obtain ⟨g_329, hF_330⟩ := nif_e hF_328
  clear hF_328
  refine va_iald (f := σ.2 68) hx hb hK hP 41 2 rfl rfl g_329 dX12_statement__696 ?_
  refine lv_aload_n hx hb dX12_statement__697 rfl (lv_at hl 2 rfl) ?_
  refine va_get (D := (dC, dI)) (ci := 12) (v := .ref (ad 67)) (C := RX12) (T := TX12) (N := 123) hx hb hts ii_X12 hown hK hP 0 rfl rfl 67 (by decide) (hts (.fieldLink RX12 146 "StoryHouseModel" "bB" "[I") wq_1423) (fun _ h9 => h9) rfl dX12_statement__698 ?_
  refine lv_iload_n hx hb dX12_statement__701 rfl (lv_at hl 3 rfl) ?_
  obtain ⟨g_331, hF_332⟩ := nif_e hF_330
  clear hF_330
  refine va_iald (f := σ.2 67) hx hb hK hP 40 2 rfl rfl g_331 dX12_statement__702 ?_
  refine lv_iload_n hx hb dX12_statement__703 rfl (lv_at hl 4 rfl) ?_
  obtain ⟨u_333, hu_333, hF_334⟩ := Option.bind_eq_some_iff.mp hF_332
  clear hF_332
  refine m_ci hsz hS (va_runV (As := [.int (σ.2 68 p0.toNatClampNeg), .int (σ.2 67 p0.toNatClampNeg), .int p1]) (rest := []) ⟨hx, hb, hml, hown, hts⟩ (hI4 s.heap.size (σ.2 68 p0.toNatClampNeg) (σ.2 67 p0.toNatClampNeg) p1 σ _ hu_333) (cwV 3 hts (g_gV wq_1874 wq_1875 wq_2232 wq_13 wq_1876) rfl rfl rfl (by decide +kernel) ⟨by show 7 + d + 1 ≤ 7 + (d + 1); omega, by show 8 + (7 + 11) + (168 + 26 * d) ≤ 168 + 26 * (d + 1); omega⟩) (m_preV g_bl0 hsz hK hP hS hE hKS g_to0) rfl rfl hl.1 rfl (lv_room (Nat.le_of_ble_eq_true rfl)) dX12_statement__704 ⟨Nat.le_of_ble_eq_true rfl, Nat.le_of_ble_eq_true rfl⟩) (fun H locs hP hS => ?_)
  refine lv_pop hx hb dX12_statement__707 rfl ?_
  have h9 := Option.some.inj hF_334
  subst h9
  exact W.vret hx hb hr (fun t ht hW => ⟨⟨(), rfl, trivial, m_end ht hP⟩, hS.F ht⟩) hS.2.2 dX12_statement__708

def F_X12_call (rec : GF) (p0 : Int32) (p1 : Int32) (p2 : Int32) (σ : MS) : MR :=
  loopF (fun (again_2 : (Int32 × MS) → MR) (s_1 : Int32 × MS) => (
    bnd (fun  (σ_5 : MS) => (
      bnd (fun (t_9 : Int32) (σ_10 : MS) => (
        bnd (mI σ_10 115 (σ.1 115)) fun σ_14 =>
        some (t_9, σ_14)
      ) : Int32 → MS → MR) fun j_11 =>
      if (σ_5.1 104) = 0 then (
        (rec 2 p0 (σ.1 115) p2 σ_5).bind fun u_18 =>
        j_11 u_18.1 u_18.2
      ) else (
        j_11 0 σ_5
      )
    ) : MS → MR) fun j_6 =>
    if s_1.1 < 0 then (
      j_6  s_1.2
    ) else (
      if (s_1.2.1 104) = 0 then (
        (rec 0 s_1.1 p2 0 s_1.2).bind fun u_26 =>
        bnd (mI u_26.2 115 ((u_26.2.1 115) + 1)) fun σ_28 =>
        if (u_26.2.1 115) < 0 ∨ 9000 ≤ (u_26.2.1 115).toNatClampNeg then none else
        bnd (mA σ_28 114 (upd (σ_28.2 114) (u_26.2.1 115).toNatClampNeg u_26.1)) fun σ_32 =>
        if s_1.1 < 0 ∨ 40000 ≤ s_1.1.toNatClampNeg then none else
        bnd ((σ_32.2 69 s_1.1.toNatClampNeg)) fun (x_36 : Int32) =>
        again_2 (x_36, σ_32)
      ) else (
        j_6  s_1.2
      )
    )
  )) FU (p1, σ)
set_option maxHeartbeats 4000000 in
set_option maxRecDepth 100000 in
theorem m_X12_call_st (l : Launch) (dC : Nat → ClassId) (dI : Nat → Nat → Nat) (cB cC cI cJ cZ cP : ClassId) (h qK qS : Nat) (ad : Nat → Nat) (hDD : mDis cB cI cZ h qK qS ad) (d : Nat) (rec : GF) (hI0 : ∀ (sz : Nat) (p0 : Int32) (p1 : Int32) (σ : MS) (res : Int32 × MS), rec 0 p0 p1 0 σ = some res → Met l yX12_eval (g_ws yX12_eval cX12_eval 6 (some .int)) ({ frames := 7 + d, cells := 0, slots := 0, locals := 168 + 26 * d }) (va_Pc [.ref h, .int p0, .int p1] (m_B (dC, dI) [(cB, .byte), (cC, .char), (cI, .int), (cJ, .long), (cZ, .boolean), (cP, .object "StoryHouse$Play")] sz h ad qK qS (mW cB cI cZ h qK qS ad σ) g_0)) (va_Qi (fun r (_ : Unit) => r = res.1) (fun _ t => va_P (dC, dI) vwCl (mW cB cI cZ h qK qS ad res.2) t.heap) (mCells h ad sz)) 0 0 (mCells h ad sz)) (hI1 : ∀ (sz : Nat) (p0 : Int32) (p1 : Int32) (σ : MS) (res : Int32 × MS), rec 1 p0 p1 0 σ = some res → Met l yX12_calls (g_ws yX12_calls cX12_calls 5 none) ({ frames := 7 + d, cells := 0, slots := 0, locals := 168 + 26 * d }) (va_Pc [.ref h, .int p0, .int p1] (m_B (dC, dI) [(cB, .byte), (cC, .char), (cI, .int), (cJ, .long), (cZ, .boolean), (cP, .object "StoryHouse$Play")] sz h ad qK qS (mW cB cI cZ h qK qS ad σ) g_0)) (va_Qv (fun (_ : Unit) => True) (fun _ t => va_P (dC, dI) vwCl (mW cB cI cZ h qK qS ad res.2) t.heap) (mCells h ad sz)) 0 0 (mCells h ad sz)) (hI2 : ∀ (sz : Nat) (p0 : Int32) (p1 : Int32) (p2 : Int32) (σ : MS) (res : Int32 × MS), rec 2 p0 p1 p2  σ = some res → Met l yX12_goIn (g_ws yX12_goIn cX12_goIn 6 (some .int)) ({ frames := 7 + d, cells := 0, slots := 0, locals := 168 + 26 * d }) (va_Pc [.ref h, .int p0, .int p1, .int p2] (m_B (dC, dI) [(cB, .byte), (cC, .char), (cI, .int), (cJ, .long), (cZ, .boolean), (cP, .object "StoryHouse$Play")] sz h ad qK qS (mW cB cI cZ h qK qS ad σ) g_0)) (va_Qi (fun r (_ : Unit) => r = res.1) (fun _ t => va_P (dC, dI) vwCl (mW cB cI cZ h qK qS ad res.2) t.heap) (mCells h ad sz)) 0 0 (mCells h ad sz)) (hI3 : ∀ (sz : Nat) (p0 : Int32) (p1 : Int32) (σ : MS) (res : Int32 × MS), rec 3 p0 p1 0 σ = some res → Met l yX12_statement_ (g_ws yX12_statement_ cX12_statement_ 6 none) ({ frames := 7 + d, cells := 0, slots := 0, locals := 168 + 26 * d }) (va_Pc [.ref h, .int p0, .int p1] (m_B (dC, dI) [(cB, .byte), (cC, .char), (cI, .int), (cJ, .long), (cZ, .boolean), (cP, .object "StoryHouse$Play")] sz h ad qK qS (mW cB cI cZ h qK qS ad σ) g_0)) (va_Qv (fun (_ : Unit) => True) (fun _ t => va_P (dC, dI) vwCl (mW cB cI cZ h qK qS ad res.2) t.heap) (mCells h ad sz)) 0 0 (mCells h ad sz)) (hI4 : ∀ (sz : Nat) (p0 : Int32) (p1 : Int32) (p2 : Int32) (σ : MS) (res : Int32 × MS), rec 4 p0 p1 p2  σ = some res → Met l yX12_call (g_ws yX12_call cX12_call 7 (some .int)) ({ frames := 7 + d, cells := 0, slots := 0, locals := 168 + 26 * d }) (va_Pc [.ref h, .int p0, .int p1, .int p2] (m_B (dC, dI) [(cB, .byte), (cC, .char), (cI, .int), (cJ, .long), (cZ, .boolean), (cP, .object "StoryHouse$Play")] sz h ad qK qS (mW cB cI cZ h qK qS ad σ) g_0)) (va_Qi (fun r (_ : Unit) => r = res.1) (fun _ t => va_P (dC, dI) vwCl (mW cB cI cZ h qK qS ad res.2) t.heap) (mCells h ad sz)) 0 0 (mCells h ad sz)) (hI5 : ∀ (sz : Nat) (p0 : Int32) (p1 : Int32) (σ : MS) (res : Int32 × MS), rec 5 p0 p1 0 σ = some res → Met l yX12_tell (g_ws yX12_tell cX12_tell 4 none) ({ frames := 7 + d, cells := 0, slots := 0, locals := 168 + 26 * d }) (va_Pc [.ref h, .int p0, .int p1] (m_B (dC, dI) [(cB, .byte), (cC, .char), (cI, .int), (cJ, .long), (cZ, .boolean), (cP, .object "StoryHouse$Play")] sz h ad qK qS (mW cB cI cZ h qK qS ad σ) g_0)) (va_Qv (fun (_ : Unit) => True) (fun _ t => va_P (dC, dI) vwCl (mW cB cI cZ h qK qS ad res.2) t.heap) (mCells h ad sz)) 0 0 (mCells h ad sz)) (sz : Nat)  (p0 : Int32) (p1 : Int32) (p2 : Int32) (σ : MS) (res : Int32 × MS) (hF : F_X12_call rec p0 p1 p2 σ = some res) : Met l yX12_call (g_ws yX12_call cX12_call 7 (some .int)) ({ frames := 7 + (d + 1), cells := 0, slots := 0, locals := 168 + 26 * (d + 1) }) (va_Pc [.ref h, .int p0, .int p1, .int p2] (m_B (dC, dI) [(cB, .byte), (cC, .char), (cI, .int), (cJ, .long), (cZ, .boolean), (cP, .object "StoryHouse$Play")] sz h ad qK qS (mW cB cI cZ h qK qS ad σ) g_0)) (va_Qi (fun r (_ : Unit) => r = res.1) (fun _ t => va_P (dC, dI) vwCl (mW cB cI cZ h qK qS ad res.2) t.heap) (mCells h ad sz)) 0 0 (mCells h ad sz) := by
  refine Met.ofW (cc := cX12_call) (maxL := 7) (ret := (some .int)) (by decide) rfl ?_
  intro p e s m args below meth c s₁ B hml hv
  obtain ⟨rfl, hsz, hP, hK, hE, hKS, hX⟩ := hv
  have hx := B.exec
  have hb := B.bytes
  have hr := B.returns
  have hts0 := atoms_spec (ws := g_ws yX12_call cX12_call 7 (some .int)) B.pre
  have hts : ∀ w ∈ lw_good, w.before ([.ref h, .int p0, .int p1, .int p2] : List Value).toArray s = true := fun w z => hts0 w (List.mem_cons_of_mem _ z)
  have hown : s.vm.findClass RX12 = some m.cls := findClass_of_methodNamed B.named
  have hlocks := B.notSynchronized
  have hS : va_S (mCells h ad sz) s.heap s.heap [] := va_S.rf
  have hl := lv_entry ([.ref h, .int p0, .int p1, .int p2]) (n := 7) (Nat.le_of_ble_eq_true rfl)
  rw [lg_entry_eq]
  generalize (lg_sl ([.ref h, .int p0, .int p1, .int p2]) ++ List.replicate (7 - (lg_sl ([.ref h, .int p0, .int p1, .int p2])).length) Slot.unset).toArray = ls at hl ⊢
  have hl : lv_has ls 7 [(0, .ref h), (1, .int p0), (2, .int p1), (3, .int p2)] := hl
  unfold F_X12_call at hF
  refine lv_aload_n hx hb dX12_call_0 rfl (lv_at hl 0 rfl) ?_
  refine va_get (D := (dC, dI)) (ci := 12) (v := .int (σ.1 115)) (C := RX12) (T := TX12) (N := 123) hx hb hts ii_X12 hown hK hP 0 rfl rfl 115 (by decide) (hts (.fieldLink RX12 700 "StoryHouseModel" "waiting" "I") wq_1471) (fun _ h9 => h9) rfl dX12_call_1 ?_
  refine lv_istore (lv' := [(4, .int (σ.1 115)), (0, .ref h), (1, .int p0), (2, .int p1), (3, .int p2)]) hx hb dX12_call_4 hl (by decide) rfl (fun ls hl => ?_)
  refine lv_iload_n hx hb dX12_call_6 rfl (lv_at hl 3 rfl) ?_
  refine lv_istore (lv' := [(5, .int p1), (4, .int (σ.1 115)), (0, .ref h), (1, .int p0), (2, .int p1), (3, .int p2)]) hx hb dX12_call_7 hl (by decide) rfl (fun ls hl => ?_)
  refine loopF_ind (P := fun (s_1 : Int32 × MS) => ∀ (H : Heap) (locs : List Loc), va_P (dC, dI) vwCl (mW cB cI cZ h qK qS ad s_1.2) H → va_S (mCells h ad sz) s.heap H locs → ∀ ls : Array Slot, lv_has ls 7 [(0, .ref h), (1, .int p0), (3, .int p2), (4, .int (σ.1 115)), (5, .int s_1.1)] → W p l e (headSpec (g_ws yX12_call cX12_call 7 (some .int)) { frames := 7 + (d + 1), cells := 0, slots := 0, locals := 168 + 26 * (d + 1) }).room s m ([.ref h, .int p0, .int p1, .int p2] : List Value).toArray below meth c H locs 0 0 (MQ below (va_Qi (fun r (_ : Unit) => r = res.1) (fun _ t => va_P (dC, dI) vwCl (mW cB cI cZ h qK qS ad res.2) t.heap) (mCells h ad sz)) ([.ref h, .int p0, .int p1, .int p2] : List Value).toArray s 0 0 (mCells h ad sz)) (F0 m 9 ls [])) ?_ _ _ hF _ _ hP hS ls (lv_sub hl [2, 3, 5, 1, 0] rfl)
  intro again_2 s_1 ih_3 hF_4
  intro H locs hP hS ls hl
  refine lv_iload hx hb dX12_call_9 (lv_at hl 4 rfl) ?_
  obtain ⟨j_6, ej_6, hF_7⟩ := bnd_e hF_4
  clear hF_4
  have Jj_6 : ∀  (σ_5 : MS), j_6  σ_5 = some res → ∀ (H : Heap) (locs : List Loc), va_P (dC, dI) vwCl (mW cB cI cZ h qK qS ad σ_5) H → va_S (mCells h ad sz) s.heap H locs → ∀ ls : Array Slot, lv_has ls 7 [(0, .ref h), (1, .int p0), (3, .int p2), (4, .int (σ.1 115))] → W p l e (headSpec (g_ws yX12_call cX12_call 7 (some .int)) { frames := 7 + (d + 1), cells := 0, slots := 0, locals := 168 + 26 * (d + 1) }).room s m ([.ref h, .int p0, .int p1, .int p2] : List Value).toArray below meth c H locs 0 0 (MQ below (va_Qi (fun r (_ : Unit) => r = res.1) (fun _ t => va_P (dC, dI) vwCl (mW cB cI cZ h qK qS ad res.2) t.heap) (mCells h ad sz)) ([.ref h, .int p0, .int p1, .int p2] : List Value).toArray s 0 0 (mCells h ad sz)) (F0 m 60 ls []) := by
    intro  σ_5 hF0 H locs hP hS ls hl
    subst ej_6
    have hF_8 := hF0
    clear hF0
    refine lv_aload_n hx hb dX12_call_60 rfl (lv_at hl 0 rfl) ?_
    refine va_get (D := (dC, dI)) (ci := 12) (v := .int (σ_5.1 104)) (C := RX12) (T := TX12) (N := 123) hx hb hts ii_X12 hown hK hP 0 rfl rfl 104 (by decide) (hts (.fieldLink RX12 685 "StoryHouseModel" "stop" "I") wq_1460) (fun _ h9 => h9) rfl dX12_call_61 ?_
    obtain ⟨j_11, ej_11, hF_12⟩ := bnd_e hF_8
    clear hF_8
    have Jj_11 : ∀ (t_9 : Int32) (σ_10 : MS), j_11 t_9 σ_10 = some res → ∀ (H : Heap) (locs : List Loc), va_P (dC, dI) vwCl (mW cB cI cZ h qK qS ad σ_10) H → va_S (mCells h ad sz) s.heap H locs → ∀ ls : Array Slot, lv_has ls 7 [(0, .ref h), (4, .int (σ.1 115))] → W p l e (headSpec (g_ws yX12_call cX12_call 7 (some .int)) { frames := 7 + (d + 1), cells := 0, slots := 0, locals := 168 + 26 * (d + 1) }).room s m ([.ref h, .int p0, .int p1, .int p2] : List Value).toArray below meth c H locs 0 0 (MQ below (va_Qi (fun r (_ : Unit) => r = res.1) (fun _ t => va_P (dC, dI) vwCl (mW cB cI cZ h qK qS ad res.2) t.heap) (mCells h ad sz)) ([.ref h, .int p0, .int p1, .int p2] : List Value).toArray s 0 0 (mCells h ad sz)) (F0 m 79 ls [.int t_9]) := by
      intro t_9 σ_10 hF0 H locs hP hS ls hl
      subst ej_11
      have hF_13 := hF0
      clear hF0
      refine lv_istore (lv' := [(5, .int t_9), (0, .ref h), (4, .int (σ.1 115))]) hx hb dX12_call_79 hl (by decide) rfl (fun ls hl => ?_)
      refine lv_aload_n hx hb dX12_call_81 rfl (lv_at hl 1 rfl) ?_
      refine lv_iload hx hb dX12_call_82 (lv_at hl 2 rfl) ?_
      obtain ⟨σ_14, eσ_14, hF_15⟩ := bnd_e hF_13
      clear hF_13
      refine m_put (σ' := σ_14) (v := .int (σ.1 115)) (ty := .int) hx hb hts hown hK hP (hDD _ _) hS (by rw [eσ_14]; exact mwI_115) (k := 115) (by decide) (hts (.fieldLink RX12 700 "StoryHouseModel" "waiting" "I") wq_1471) (fun _ h9 => h9) rfl (by decide +kernel) rfl rfl dX12_call_84 (fun H locs hP hS => ?_)
      refine lv_iload hx hb dX12_call_87 (lv_at hl 0 rfl) ?_
      have h9 := Option.some.inj hF_15
      subst h9
      exact W.iret (v := t_9) hx hb hr (fun t ht hW => ⟨⟨t_9, (), rfl, rfl, m_end ht hP⟩, hS.F ht⟩) hS.2.2 dX12_call_89
    refine lv_if_ne (tgt := 78) hx hb dX12_call_64 (by decide) (fun c_16 => ?_) (fun c_16 => ?_)
    · have hF_20 := ineg c_16 hF_12
      clear hF_12
      refine lv_iconst (v := 0) hx hb dX12_call_78 (by decide +kernel) ?_
      exact Jj_11 0 σ_5 hF_20 _ _ hP hS ls (lv_sub hl [0, 3] rfl)
    · have hF_17 := ipos c_16 hF_12
      clear hF_12
      refine lv_aload_n hx hb dX12_call_67 rfl (lv_at hl 0 rfl) ?_
      refine lv_iload_n hx hb dX12_call_68 rfl (lv_at hl 1 rfl) ?_
      refine lv_iload hx hb dX12_call_69 (lv_at hl 3 rfl) ?_
      refine lv_iload_n hx hb dX12_call_71 rfl (lv_at hl 2 rfl) ?_
      obtain ⟨u_18, hu_18, hF_19⟩ := Option.bind_eq_some_iff.mp hF_17
      clear hF_17
      refine m_ci hsz hS (va_runV (As := [.int p0, .int (σ.1 115), .int p2]) (rest := []) ⟨hx, hb, hml, hown, hts⟩ (hI2 H.size p0 (σ.1 115) p2 σ_5 _ hu_18) (cwV 3 hts (g_gV wq_1834 wq_1835 wq_2219 wq_13 wq_1836) rfl rfl rfl (by decide +kernel) ⟨by show 7 + d + 1 ≤ 7 + (d + 1); omega, by show 8 + (6 + 11) + (168 + 26 * d) ≤ 168 + 26 * (d + 1); omega⟩) (m_preV g_bl0 hsz hK hP hS hE hKS g_to0) rfl rfl hl.1 rfl (lv_room (Nat.le_of_ble_eq_true rfl)) dX12_call_72 ⟨Nat.le_of_ble_eq_true rfl, Nat.le_of_ble_eq_true rfl⟩) (fun H locs hP hS => ?_)
      refine lv_goto (tgt := 79) hx hb dX12_call_75 (by decide) ?_
      exact Jj_11 u_18.1 u_18.2 hF_19 _ _ hP hS ls (lv_sub hl [0, 3] rfl)
  refine lv_if_lt (tgt := 60) hx hb dX12_call_11 (by decide) (fun c_21 => ?_) (fun c_21 => ?_)
  · have hF_22 := ipos c_21 hF_7
    clear hF_7
    exact Jj_6  s_1.2 hF_22 _ _ hP hS ls (lv_sub hl [0, 1, 2, 3] rfl)
  · have hF_23 := ineg c_21 hF_7
    clear hF_7
    refine lv_aload_n hx hb dX12_call_14 rfl (lv_at hl 0 rfl) ?_
    refine va_get (D := (dC, dI)) (ci := 12) (v := .int (s_1.2.1 104)) (C := RX12) (T := TX12) (N := 123) hx hb hts ii_X12 hown hK hP 0 rfl rfl 104 (by decide) (hts (.fieldLink RX12 685 "StoryHouseModel" "stop" "I") wq_1460) (fun _ h9 => h9) rfl dX12_call_15 ?_
    refine lv_if_ne (tgt := 60) hx hb dX12_call_18 (by decide) (fun c_24 => ?_) (fun c_24 => ?_)
    · have hF_38 := ineg c_24 hF_23
      clear hF_23
      exact Jj_6  s_1.2 hF_38 _ _ hP hS ls (lv_sub hl [0, 1, 2, 3] rfl)
    · have hF_25 := ipos c_24 hF_23
      clear hF_23
      refine lv_aload_n hx hb dX12_call_21 rfl (lv_at hl 0 rfl) ?_
      refine lv_iload hx hb dX12_call_22 (lv_at hl 4 rfl) ?_
      refine lv_iload_n hx hb dX12_call_24 rfl (lv_at hl 2 rfl) ?_
      obtain ⟨u_26, hu_26, hF_27⟩ := Option.bind_eq_some_iff.mp hF_25
      clear hF_25
      refine m_ci hsz hS (va_runV (As := [.int s_1.1, .int p2]) (rest := []) ⟨hx, hb, hml, hown, hts⟩ (hI0 H.size s_1.1 p2 s_1.2 _ hu_26) (cwV 2 hts (g_gV wq_1819 wq_1820 wq_2214 wq_13 wq_1821) rfl rfl rfl (by decide +kernel) ⟨by show 7 + d + 1 ≤ 7 + (d + 1); omega, by show 8 + (6 + 11) + (168 + 26 * d) ≤ 168 + 26 * (d + 1); omega⟩) (m_preV g_bl0 hsz hK hP hS hE hKS g_to0) rfl rfl hl.1 rfl (lv_room (Nat.le_of_ble_eq_true rfl)) dX12_call_25 ⟨Nat.le_of_ble_eq_true rfl, Nat.le_of_ble_eq_true rfl⟩) (fun H locs hP hS => ?_)
      refine lv_istore (lv' := [(6, .int u_26.1), (0, .ref h), (1, .int p0), (3, .int p2), (4, .int (σ.1 115)), (5, .int s_1.1)]) hx hb dX12_call_28 hl (by decide) rfl (fun ls hl => ?_)
      refine lv_aload_n hx hb dX12_call_30 rfl (lv_at hl 1 rfl) ?_
      refine va_get (D := (dC, dI)) (ci := 12) (v := .ref (ad 114)) (C := RX12) (T := TX12) (N := 123) hx hb hts ii_X12 hown hK hP 0 rfl rfl 114 (by decide) (hts (.fieldLink RX12 222 "StoryHouseModel" "waits" "[I") wq_1470) (fun _ h9 => h9) rfl dX12_call_31 ?_
      refine lv_aload_n hx hb dX12_call_34 rfl (lv_at hl 1 rfl) ?_
      refine lv_dup hx hb dX12_call_35 rfl ?_
      refine va_get (D := (dC, dI)) (ci := 12) (v := .int (u_26.2.1 115)) (C := RX12) (T := TX12) (N := 123) hx hb hts ii_X12 hown hK hP 0 rfl rfl 115 (by decide) (hts (.fieldLink RX12 700 "StoryHouseModel" "waiting" "I") wq_1471) (fun _ h9 => h9) rfl dX12_call_36 ?_
      refine lv_dup_x1 hx hb dX12_call_39 rfl rfl ?_
      refine lv_iconst (v := 1) hx hb dX12_call_40 (by decide +kernel) ?_
      refine lv_iadd hx hb dX12_call_41 ?_
      obtain ⟨σ_28, eσ_28, hF_29⟩ := bnd_e hF_27
      clear hF_27
      refine m_put (σ' := σ_28) (v := .int ((u_26.2.1 115) + 1)) (ty := .int) hx hb hts hown hK hP (hDD _ _) hS (by rw [eσ_28]; exact mwI_115) (k := 115) (by decide) (hts (.fieldLink RX12 700 "StoryHouseModel" "waiting" "I") wq_1471) (fun _ h9 => h9) rfl (by decide +kernel) rfl rfl dX12_call_42 (fun H locs hP hS => ?_)
      refine lv_iload hx hb dX12_call_45 (lv_at hl 0 rfl) ?_
      obtain ⟨g_30, hF_31⟩ := nif_e hF_29
      clear hF_29
      obtain ⟨σ_32, eσ_32, hF_33⟩ := bnd_e hF_31
      clear hF_31
      refine m_iast (σ' := σ_32) hx hb hK hP (hDD _ _) hS (q0 := 64) (t0 := 2) (f := σ_28.2 114) rfl rfl (by rw [eσ_32]; exact mwA_114) g_30 dX12_call_47 (fun H locs hP hS => ?_)
      refine lv_aload_n hx hb dX12_call_48 rfl (lv_at hl 1 rfl) ?_
      refine va_get (D := (dC, dI)) (ci := 12) (v := .ref (ad 69)) (C := RX12) (T := TX12) (N := 123) hx hb hts ii_X12 hown hK hP 0 rfl rfl 69 (by decide) (hts (.fieldLink RX12 152 "StoryHouseModel" "bThen" "[I") wq_1425) (fun _ h9 => h9) rfl dX12_call_49 ?_
      refine lv_iload hx hb dX12_call_52 (lv_at hl 5 rfl) ?_
      obtain ⟨g_34, hF_35⟩ := nif_e hF_33
      clear hF_33
      refine va_iald (f := σ_32.2 69) hx hb hK hP 42 2 rfl rfl g_34 dX12_call_54 ?_
      obtain ⟨x_36, ex_36, hF_37⟩ := bnd_e hF_35
      clear hF_35
      refine m_top ex_36 ?_
      refine lv_istore (lv' := [(5, .int x_36), (6, .int u_26.1), (0, .ref h), (1, .int p0), (3, .int p2), (4, .int (σ.1 115))]) hx hb dX12_call_55 hl (by decide) rfl (fun ls hl => ?_)
      refine lv_goto (tgt := 9) hx hb dX12_call_57 (by decide) ?_
      exact ih_3 (x_36, σ_32) hF_37 _ _ hP hS ls (lv_sub hl [2, 3, 4, 5, 0] rfl)

def F_X12_tell (rec : GF) (p0 : Int32) (p1 : Int32) (σ : MS) : MR :=
  if p0 < 0 ∨ 40000 ≤ p0.toNatClampNeg then none else
  if (σ.2 64 p0.toNatClampNeg) = 35 then (
    if p0 < 0 ∨ 40000 ≤ p0.toNatClampNeg then none else
    if p0 < 0 ∨ 40000 ≤ p0.toNatClampNeg then none else
    (F_X12_sayText ((σ.2 65 p0.toNatClampNeg) + 1) (σ.2 67 p0.toNatClampNeg) σ).bind fun u_9 =>
    some (0, u_9.2)
  ) else (
    if p0 < 0 ∨ 40000 ≤ p0.toNatClampNeg then none else
    (rec 0 (σ.2 66 p0.toNatClampNeg) p1 0 σ).bind fun u_14 =>
    if (u_14.2.1 104) = 0 then (
      if p0 < 0 ∨ 40000 ≤ p0.toNatClampNeg then none else
      if (u_14.2.2 64 p0.toNatClampNeg) = 36 then (
        (F_X12_sayNumber u_14.1 u_14.2).bind fun u_22 =>
        some (0, u_22.2)
      ) else (
        (F_X12_isObject u_14.1 u_14.2).bind fun u_25 =>
        if u_25.1 = 0 then (
          some (0, u_25.2)
        ) else (
          (F_X12_sayName u_14.1 u_25.2).bind fun u_30 =>
          some (0, u_30.2)
        )
      )
    ) else (
      some (0, u_14.2)
    )
  )
set_option maxHeartbeats 4000000 in
set_option maxRecDepth 100000 in
theorem m_X12_tell_st (l : Launch) (dC : Nat → ClassId) (dI : Nat → Nat → Nat) (cB cC cI cJ cZ cP : ClassId) (h qK qS : Nat) (ad : Nat → Nat) (hDD : mDis cB cI cZ h qK qS ad) (d : Nat) (rec : GF) (hI0 : ∀ (sz : Nat) (p0 : Int32) (p1 : Int32) (σ : MS) (res : Int32 × MS), rec 0 p0 p1 0 σ = some res → Met l yX12_eval (g_ws yX12_eval cX12_eval 6 (some .int)) ({ frames := 7 + d, cells := 0, slots := 0, locals := 168 + 26 * d }) (va_Pc [.ref h, .int p0, .int p1] (m_B (dC, dI) [(cB, .byte), (cC, .char), (cI, .int), (cJ, .long), (cZ, .boolean), (cP, .object "StoryHouse$Play")] sz h ad qK qS (mW cB cI cZ h qK qS ad σ) g_0)) (va_Qi (fun r (_ : Unit) => r = res.1) (fun _ t => va_P (dC, dI) vwCl (mW cB cI cZ h qK qS ad res.2) t.heap) (mCells h ad sz)) 0 0 (mCells h ad sz)) (hI1 : ∀ (sz : Nat) (p0 : Int32) (p1 : Int32) (σ : MS) (res : Int32 × MS), rec 1 p0 p1 0 σ = some res → Met l yX12_calls (g_ws yX12_calls cX12_calls 5 none) ({ frames := 7 + d, cells := 0, slots := 0, locals := 168 + 26 * d }) (va_Pc [.ref h, .int p0, .int p1] (m_B (dC, dI) [(cB, .byte), (cC, .char), (cI, .int), (cJ, .long), (cZ, .boolean), (cP, .object "StoryHouse$Play")] sz h ad qK qS (mW cB cI cZ h qK qS ad σ) g_0)) (va_Qv (fun (_ : Unit) => True) (fun _ t => va_P (dC, dI) vwCl (mW cB cI cZ h qK qS ad res.2) t.heap) (mCells h ad sz)) 0 0 (mCells h ad sz)) (hI2 : ∀ (sz : Nat) (p0 : Int32) (p1 : Int32) (p2 : Int32) (σ : MS) (res : Int32 × MS), rec 2 p0 p1 p2  σ = some res → Met l yX12_goIn (g_ws yX12_goIn cX12_goIn 6 (some .int)) ({ frames := 7 + d, cells := 0, slots := 0, locals := 168 + 26 * d }) (va_Pc [.ref h, .int p0, .int p1, .int p2] (m_B (dC, dI) [(cB, .byte), (cC, .char), (cI, .int), (cJ, .long), (cZ, .boolean), (cP, .object "StoryHouse$Play")] sz h ad qK qS (mW cB cI cZ h qK qS ad σ) g_0)) (va_Qi (fun r (_ : Unit) => r = res.1) (fun _ t => va_P (dC, dI) vwCl (mW cB cI cZ h qK qS ad res.2) t.heap) (mCells h ad sz)) 0 0 (mCells h ad sz)) (hI3 : ∀ (sz : Nat) (p0 : Int32) (p1 : Int32) (σ : MS) (res : Int32 × MS), rec 3 p0 p1 0 σ = some res → Met l yX12_statement_ (g_ws yX12_statement_ cX12_statement_ 6 none) ({ frames := 7 + d, cells := 0, slots := 0, locals := 168 + 26 * d }) (va_Pc [.ref h, .int p0, .int p1] (m_B (dC, dI) [(cB, .byte), (cC, .char), (cI, .int), (cJ, .long), (cZ, .boolean), (cP, .object "StoryHouse$Play")] sz h ad qK qS (mW cB cI cZ h qK qS ad σ) g_0)) (va_Qv (fun (_ : Unit) => True) (fun _ t => va_P (dC, dI) vwCl (mW cB cI cZ h qK qS ad res.2) t.heap) (mCells h ad sz)) 0 0 (mCells h ad sz)) (hI4 : ∀ (sz : Nat) (p0 : Int32) (p1 : Int32) (p2 : Int32) (σ : MS) (res : Int32 × MS), rec 4 p0 p1 p2  σ = some res → Met l yX12_call (g_ws yX12_call cX12_call 7 (some .int)) ({ frames := 7 + d, cells := 0, slots := 0, locals := 168 + 26 * d }) (va_Pc [.ref h, .int p0, .int p1, .int p2] (m_B (dC, dI) [(cB, .byte), (cC, .char), (cI, .int), (cJ, .long), (cZ, .boolean), (cP, .object "StoryHouse$Play")] sz h ad qK qS (mW cB cI cZ h qK qS ad σ) g_0)) (va_Qi (fun r (_ : Unit) => r = res.1) (fun _ t => va_P (dC, dI) vwCl (mW cB cI cZ h qK qS ad res.2) t.heap) (mCells h ad sz)) 0 0 (mCells h ad sz)) (hI5 : ∀ (sz : Nat) (p0 : Int32) (p1 : Int32) (σ : MS) (res : Int32 × MS), rec 5 p0 p1 0 σ = some res → Met l yX12_tell (g_ws yX12_tell cX12_tell 4 none) ({ frames := 7 + d, cells := 0, slots := 0, locals := 168 + 26 * d }) (va_Pc [.ref h, .int p0, .int p1] (m_B (dC, dI) [(cB, .byte), (cC, .char), (cI, .int), (cJ, .long), (cZ, .boolean), (cP, .object "StoryHouse$Play")] sz h ad qK qS (mW cB cI cZ h qK qS ad σ) g_0)) (va_Qv (fun (_ : Unit) => True) (fun _ t => va_P (dC, dI) vwCl (mW cB cI cZ h qK qS ad res.2) t.heap) (mCells h ad sz)) 0 0 (mCells h ad sz)) (sz : Nat)  (p0 : Int32) (p1 : Int32) (σ : MS) (res : Int32 × MS) (hF : F_X12_tell rec p0 p1 σ = some res) : Met l yX12_tell (g_ws yX12_tell cX12_tell 4 none) ({ frames := 7 + (d + 1), cells := 0, slots := 0, locals := 168 + 26 * (d + 1) }) (va_Pc [.ref h, .int p0, .int p1] (m_B (dC, dI) [(cB, .byte), (cC, .char), (cI, .int), (cJ, .long), (cZ, .boolean), (cP, .object "StoryHouse$Play")] sz h ad qK qS (mW cB cI cZ h qK qS ad σ) g_0)) (va_Qv (fun (_ : Unit) => True) (fun _ t => va_P (dC, dI) vwCl (mW cB cI cZ h qK qS ad res.2) t.heap) (mCells h ad sz)) 0 0 (mCells h ad sz) := by
  refine Met.ofW (cc := cX12_tell) (maxL := 4) (ret := none) (by decide) rfl ?_
  intro p e s m args below meth c s₁ B hml hv
  obtain ⟨rfl, hsz, hP, hK, hE, hKS, hX⟩ := hv
  have hx := B.exec
  have hb := B.bytes
  have hr := B.returns
  have hts0 := atoms_spec (ws := g_ws yX12_tell cX12_tell 4 none) B.pre
  have hts : ∀ w ∈ lw_good, w.before ([.ref h, .int p0, .int p1] : List Value).toArray s = true := fun w z => hts0 w (List.mem_cons_of_mem _ z)
  have hown : s.vm.findClass RX12 = some m.cls := findClass_of_methodNamed B.named
  have hlocks := B.notSynchronized
  have hS : va_S (mCells h ad sz) s.heap s.heap [] := va_S.rf
  have hl := lv_entry ([.ref h, .int p0, .int p1]) (n := 4) (Nat.le_of_ble_eq_true rfl)
  rw [lg_entry_eq]
  generalize (lg_sl ([.ref h, .int p0, .int p1]) ++ List.replicate (4 - (lg_sl ([.ref h, .int p0, .int p1])).length) Slot.unset).toArray = ls at hl ⊢
  have hl : lv_has ls 4 [(0, .ref h), (1, .int p0), (2, .int p1)] := hl
  unfold F_X12_tell at hF
  refine lv_aload_n hx hb dX12_tell_0 rfl (lv_at hl 0 rfl) ?_
  refine va_get (D := (dC, dI)) (ci := 12) (v := .ref (ad 64)) (C := RX12) (T := TX12) (N := 123) hx hb hts ii_X12 hown hK hP 0 rfl rfl 64 (by decide) (hts (.fieldLink RX12 137 "StoryHouseModel" "bWhat" "[I") wq_1420) (fun _ h9 => h9) rfl dX12_tell_1 ?_
  refine lv_iload_n hx hb dX12_tell_4 rfl (lv_at hl 1 rfl) ?_
  obtain ⟨g_1, hF_2⟩ := nif_e hF
  clear hF
  refine va_iald (f := σ.2 64) hx hb hK hP 37 2 rfl rfl g_1 dX12_tell_5 ?_
  refine lv_bipush (v := 35) hx hb dX12_tell_6 (by decide +kernel) ?_
  refine lv_icmp_ne (tgt := 30) hx hb dX12_tell_8 (by decide) (fun c_3 => ?_) (fun c_3 => ?_)
  · have hF_11 := ineg c_3 hF_2
    clear hF_2
    refine lv_aload_n hx hb dX12_tell_30 rfl (lv_at hl 0 rfl) ?_
    refine lv_aload_n hx hb dX12_tell_31 rfl (lv_at hl 0 rfl) ?_
    refine va_get (D := (dC, dI)) (ci := 12) (v := .ref (ad 66)) (C := RX12) (T := TX12) (N := 123) hx hb hts ii_X12 hown hK hP 0 rfl rfl 66 (by decide) (hts (.fieldLink RX12 143 "StoryHouseModel" "bA" "[I") wq_1422) (fun _ h9 => h9) rfl dX12_tell_32 ?_
    refine lv_iload_n hx hb dX12_tell_35 rfl (lv_at hl 1 rfl) ?_
    obtain ⟨g_12, hF_13⟩ := nif_e hF_11
    clear hF_11
    refine va_iald (f := σ.2 66) hx hb hK hP 39 2 rfl rfl g_12 dX12_tell_36 ?_
    refine lv_iload_n hx hb dX12_tell_37 rfl (lv_at hl 2 rfl) ?_
    obtain ⟨u_14, hu_14, hF_15⟩ := Option.bind_eq_some_iff.mp hF_13
    clear hF_13
    refine m_ci hsz hS (va_runV (As := [.int (σ.2 66 p0.toNatClampNeg), .int p1]) (rest := []) ⟨hx, hb, hml, hown, hts⟩ (hI0 s.heap.size (σ.2 66 p0.toNatClampNeg) p1 σ _ hu_14) (cwV 2 hts (g_gV wq_1819 wq_1820 wq_2214 wq_13 wq_1821) rfl rfl rfl (by decide +kernel) ⟨by show 7 + d + 1 ≤ 7 + (d + 1); omega, by show 8 + (6 + 11) + (168 + 26 * d) ≤ 168 + 26 * (d + 1); omega⟩) (m_preV g_bl0 hsz hK hP hS hE hKS g_to0) rfl rfl hl.1 rfl (lv_room (Nat.le_of_ble_eq_true rfl)) dX12_tell_38 ⟨Nat.le_of_ble_eq_true rfl, Nat.le_of_ble_eq_true rfl⟩) (fun H locs hP hS => ?_)
    refine lv_istore_n (lv' := [(3, .int u_14.1), (0, .ref h), (1, .int p0), (2, .int p1)]) hx hb dX12_tell_41 rfl hl (by decide) rfl (fun ls hl => ?_)
    refine lv_aload_n hx hb dX12_tell_42 rfl (lv_at hl 1 rfl) ?_
    refine va_get (D := (dC, dI)) (ci := 12) (v := .int (u_14.2.1 104)) (C := RX12) (T := TX12) (N := 123) hx hb hts ii_X12 hown hK hP 0 rfl rfl 104 (by decide) (hts (.fieldLink RX12 685 "StoryHouseModel" "stop" "I") wq_1460) (fun _ h9 => h9) rfl dX12_tell_43 ?_
    refine lv_if_eq (tgt := 50) hx hb dX12_tell_46 (by decide) (fun c_16 => ?_) (fun c_16 => ?_)
    · have hF_17 := ipos c_16 hF_15
      clear hF_15
      refine lv_aload_n hx hb dX12_tell_50 rfl (lv_at hl 1 rfl) ?_
      refine va_get (D := (dC, dI)) (ci := 12) (v := .ref (ad 64)) (C := RX12) (T := TX12) (N := 123) hx hb hts ii_X12 hown hK hP 0 rfl rfl 64 (by decide) (hts (.fieldLink RX12 137 "StoryHouseModel" "bWhat" "[I") wq_1420) (fun _ h9 => h9) rfl dX12_tell_51 ?_
      refine lv_iload_n hx hb dX12_tell_54 rfl (lv_at hl 2 rfl) ?_
      obtain ⟨g_18, hF_19⟩ := nif_e hF_17
      clear hF_17
      refine va_iald (f := u_14.2.2 64) hx hb hK hP 37 2 rfl rfl g_18 dX12_tell_55 ?_
      refine lv_bipush (v := 36) hx hb dX12_tell_56 (by decide +kernel) ?_
      refine lv_icmp_ne (tgt := 69) hx hb dX12_tell_58 (by decide) (fun c_20 => ?_) (fun c_20 => ?_)
      · have hF_24 := ineg c_20 hF_19
        clear hF_19
        refine lv_aload_n hx hb dX12_tell_69 rfl (lv_at hl 1 rfl) ?_
        refine lv_iload_n hx hb dX12_tell_70 rfl (lv_at hl 0 rfl) ?_
        obtain ⟨u_25, hu_25, hF_26⟩ := Option.bind_eq_some_iff.mp hF_24
        clear hF_24
        refine m_ci hsz hS (va_runV (As := [.int u_14.1]) (rest := []) ⟨hx, hb, hml, hown, hts⟩ (m_X12_isObject l dC dI cB cC cI cJ cZ cP h qK qS ad hDD H.size  u_14.1 u_14.2 _ hu_25) (cwV 1 hts (g_gV wq_1852 wq_1853 wq_2225 wq_13 wq_1854) rfl rfl rfl (by decide +kernel) ⟨by show 2 + 1 ≤ 7 + (d + 1); omega, by show 8 + (2 + 11) + 61 ≤ 168 + 26 * (d + 1); omega⟩) (m_preV g_bl0 hsz hK hP hS hE hKS g_to0) rfl rfl hl.1 rfl (lv_room (Nat.le_of_ble_eq_true rfl)) dX12_tell_71 ⟨Nat.le_of_ble_eq_true rfl, Nat.le_of_ble_eq_true rfl⟩) (fun H locs hP hS => ?_)
        refine lv_if_eq (tgt := 82) hx hb dX12_tell_74 (by decide) (fun c_27 => ?_) (fun c_27 => ?_)
        · have hF_28 := ipos c_27 hF_26
          clear hF_26
          have h9 := Option.some.inj hF_28
          subst h9
          exact W.vret hx hb hr (fun t ht hW => ⟨⟨(), rfl, trivial, m_end ht hP⟩, hS.F ht⟩) hS.2.2 dX12_tell_82
        · have hF_29 := ineg c_27 hF_26
          clear hF_26
          refine lv_aload_n hx hb dX12_tell_77 rfl (lv_at hl 1 rfl) ?_
          refine lv_iload_n hx hb dX12_tell_78 rfl (lv_at hl 0 rfl) ?_
          obtain ⟨u_30, hu_30, hF_31⟩ := Option.bind_eq_some_iff.mp hF_29
          clear hF_29
          refine m_cv hsz hS (va_runV (As := [.int u_14.1]) (rest := []) ⟨hx, hb, hml, hown, hts⟩ (m_X12_sayName l dC dI cB cC cI cJ cZ cP h qK qS ad hDD H.size  u_14.1 u_25.2 _ hu_30) (cwV 1 hts (g_gV wq_1776 wq_1777 wq_2201 wq_13 wq_1778) rfl rfl rfl (by decide +kernel) ⟨by show 6 + 1 ≤ 7 + (d + 1); omega, by show 8 + (2 + 11) + 147 ≤ 168 + 26 * (d + 1); omega⟩) (m_preV g_bl0 hsz hK hP hS hE hKS g_to0) rfl rfl hl.1 rfl (lv_room (Nat.le_of_ble_eq_true rfl)) dX12_tell_79 ⟨Nat.le_of_ble_eq_true rfl, Nat.le_of_ble_eq_true rfl⟩) (fun H locs hP hS => ?_)
          have h9 := Option.some.inj hF_31
          subst h9
          exact W.vret hx hb hr (fun t ht hW => ⟨⟨(), rfl, trivial, m_end ht hP⟩, hS.F ht⟩) hS.2.2 dX12_tell_82
      · have hF_21 := ipos c_20 hF_19
        clear hF_19
        refine lv_aload_n hx hb dX12_tell_61 rfl (lv_at hl 1 rfl) ?_
        refine lv_iload_n hx hb dX12_tell_62 rfl (lv_at hl 0 rfl) ?_
        obtain ⟨u_22, hu_22, hF_23⟩ := Option.bind_eq_some_iff.mp hF_21
        clear hF_21
        refine m_cv hsz hS (va_runV (As := [.int u_14.1]) (rest := []) ⟨hx, hb, hml, hown, hts⟩ (m_X12_sayNumber l dC dI cB cC cI cJ cZ cP h qK qS ad hDD H.size  u_14.1 u_14.2 _ hu_22) (cwV 1 hts (g_gV wq_1862 wq_1863 wq_2228 wq_13 wq_1864) rfl rfl rfl (by decide +kernel) ⟨by show 2 + 1 ≤ 7 + (d + 1); omega, by show 8 + (4 + 11) + 61 ≤ 168 + 26 * (d + 1); omega⟩) (m_preV g_bl0 hsz hK hP hS hE hKS g_to0) rfl rfl hl.1 rfl (lv_room (Nat.le_of_ble_eq_true rfl)) dX12_tell_63 ⟨Nat.le_of_ble_eq_true rfl, Nat.le_of_ble_eq_true rfl⟩) (fun H locs hP hS => ?_)
        refine lv_goto (tgt := 82) hx hb dX12_tell_66 (by decide) ?_
        have h9 := Option.some.inj hF_23
        subst h9
        exact W.vret hx hb hr (fun t ht hW => ⟨⟨(), rfl, trivial, m_end ht hP⟩, hS.F ht⟩) hS.2.2 dX12_tell_82
    · have hF_32 := ineg c_16 hF_15
      clear hF_15
      have h9 := Option.some.inj hF_32
      subst h9
      exact W.vret hx hb hr (fun t ht hW => ⟨⟨(), rfl, trivial, m_end ht hP⟩, hS.F ht⟩) hS.2.2 dX12_tell_49
  · have hF_4 := ipos c_3 hF_2
    clear hF_2
    refine lv_aload_n hx hb dX12_tell_11 rfl (lv_at hl 0 rfl) ?_
    refine lv_aload_n hx hb dX12_tell_12 rfl (lv_at hl 0 rfl) ?_
    refine va_get (D := (dC, dI)) (ci := 12) (v := .ref (ad 65)) (C := RX12) (T := TX12) (N := 123) hx hb hts ii_X12 hown hK hP 0 rfl rfl 65 (by decide) (hts (.fieldLink RX12 140 "StoryHouseModel" "bWhere" "[I") wq_1421) (fun _ h9 => h9) rfl dX12_tell_13 ?_
    refine lv_iload_n hx hb dX12_tell_16 rfl (lv_at hl 1 rfl) ?_
    obtain ⟨g_5, hF_6⟩ := nif_e hF_4
    clear hF_4
    refine va_iald (f := σ.2 65) hx hb hK hP 38 2 rfl rfl g_5 dX12_tell_17 ?_
    refine lv_iconst (v := 1) hx hb dX12_tell_18 (by decide +kernel) ?_
    refine lv_iadd hx hb dX12_tell_19 ?_
    refine lv_aload_n hx hb dX12_tell_20 rfl (lv_at hl 0 rfl) ?_
    refine va_get (D := (dC, dI)) (ci := 12) (v := .ref (ad 67)) (C := RX12) (T := TX12) (N := 123) hx hb hts ii_X12 hown hK hP 0 rfl rfl 67 (by decide) (hts (.fieldLink RX12 146 "StoryHouseModel" "bB" "[I") wq_1423) (fun _ h9 => h9) rfl dX12_tell_21 ?_
    refine lv_iload_n hx hb dX12_tell_24 rfl (lv_at hl 1 rfl) ?_
    obtain ⟨g_7, hF_8⟩ := nif_e hF_6
    clear hF_6
    refine va_iald (f := σ.2 67) hx hb hK hP 40 2 rfl rfl g_7 dX12_tell_25 ?_
    obtain ⟨u_9, hu_9, hF_10⟩ := Option.bind_eq_some_iff.mp hF_8
    clear hF_8
    refine m_cv hsz hS (va_runV (As := [.int ((σ.2 65 p0.toNatClampNeg) + 1), .int (σ.2 67 p0.toNatClampNeg)]) (rest := []) ⟨hx, hb, hml, hown, hts⟩ (m_X12_sayText l dC dI cB cC cI cJ cZ cP h qK qS ad hDD s.heap.size  ((σ.2 65 p0.toNatClampNeg) + 1) (σ.2 67 p0.toNatClampNeg) σ _ hu_9) (cwV 2 hts (g_gV wq_1779 wq_1780 wq_2202 wq_13 wq_1781) rfl rfl rfl (by decide +kernel) ⟨by show 2 + 1 ≤ 7 + (d + 1); omega, by show 8 + (4 + 11) + 61 ≤ 168 + 26 * (d + 1); omega⟩) (m_preV g_bl0 hsz hK hP hS hE hKS g_to0) rfl rfl hl.1 rfl (lv_room (Nat.le_of_ble_eq_true rfl)) dX12_tell_26 ⟨Nat.le_of_ble_eq_true rfl, Nat.le_of_ble_eq_true rfl⟩) (fun H locs hP hS => ?_)
    have h9 := Option.some.inj hF_10
    subst h9
    exact W.vret hx hb hr (fun t ht hW => ⟨⟨(), rfl, trivial, m_end ht hP⟩, hS.F ht⟩) hS.2.2 dX12_tell_29

/-- the group, by its depth -/
def gR : Nat → GF
  | 0, _, _, _, _, _ => none
  | d + 1, t, a, b, c, σ => if t = 0 then F_X12_eval (gR d) a b σ else if t = 1 then F_X12_calls (gR d) a b σ else if t = 2 then F_X12_goIn (gR d) a b c σ else if t = 3 then F_X12_statement_ (gR d) a b σ else if t = 4 then F_X12_call (gR d) a b c σ else if t = 5 then F_X12_tell (gR d) a b σ else none
theorem gR_0 (d : Nat) (a b c : Int32) (σ : MS) : gR (d + 1) 0 a b c σ = F_X12_eval (gR d) a b σ := by
  rw [gR]
  exact if_pos rfl
theorem gR_1 (d : Nat) (a b c : Int32) (σ : MS) : gR (d + 1) 1 a b c σ = F_X12_calls (gR d) a b σ := by
  rw [gR]
  exact (if_neg (by decide)).trans (if_pos rfl)
theorem gR_2 (d : Nat) (a b c : Int32) (σ : MS) : gR (d + 1) 2 a b c σ = F_X12_goIn (gR d) a b c σ := by
  rw [gR]
  exact (if_neg (by decide)).trans ((if_neg (by decide)).trans (if_pos rfl))
theorem gR_3 (d : Nat) (a b c : Int32) (σ : MS) : gR (d + 1) 3 a b c σ = F_X12_statement_ (gR d) a b σ := by
  rw [gR]
  exact (if_neg (by decide)).trans ((if_neg (by decide)).trans ((if_neg (by decide)).trans (if_pos rfl)))
theorem gR_4 (d : Nat) (a b c : Int32) (σ : MS) : gR (d + 1) 4 a b c σ = F_X12_call (gR d) a b c σ := by
  rw [gR]
  exact (if_neg (by decide)).trans ((if_neg (by decide)).trans ((if_neg (by decide)).trans ((if_neg (by decide)).trans (if_pos rfl))))
theorem gR_5 (d : Nat) (a b c : Int32) (σ : MS) : gR (d + 1) 5 a b c σ = F_X12_tell (gR d) a b σ := by
  rw [gR]
  exact (if_neg (by decide)).trans ((if_neg (by decide)).trans ((if_neg (by decide)).trans ((if_neg (by decide)).trans ((if_neg (by decide)).trans (if_pos rfl)))))
set_option maxHeartbeats 4000000 in
theorem gR_all (l : Launch) (dC : Nat → ClassId) (dI : Nat → Nat → Nat) (cB cC cI cJ cZ cP : ClassId) (h qK qS : Nat) (ad : Nat → Nat) (hDD : mDis cB cI cZ h qK qS ad) : ∀ d : Nat, (∀ (sz : Nat) (p0 : Int32) (p1 : Int32) (σ : MS) (res : Int32 × MS), gR d 0 p0 p1 0 σ = some res → Met l yX12_eval (g_ws yX12_eval cX12_eval 6 (some .int)) ({ frames := 7 + d, cells := 0, slots := 0, locals := 168 + 26 * d }) (va_Pc [.ref h, .int p0, .int p1] (m_B (dC, dI) [(cB, .byte), (cC, .char), (cI, .int), (cJ, .long), (cZ, .boolean), (cP, .object "StoryHouse$Play")] sz h ad qK qS (mW cB cI cZ h qK qS ad σ) g_0)) (va_Qi (fun r (_ : Unit) => r = res.1) (fun _ t => va_P (dC, dI) vwCl (mW cB cI cZ h qK qS ad res.2) t.heap) (mCells h ad sz)) 0 0 (mCells h ad sz)) ∧ (∀ (sz : Nat) (p0 : Int32) (p1 : Int32) (σ : MS) (res : Int32 × MS), gR d 1 p0 p1 0 σ = some res → Met l yX12_calls (g_ws yX12_calls cX12_calls 5 none) ({ frames := 7 + d, cells := 0, slots := 0, locals := 168 + 26 * d }) (va_Pc [.ref h, .int p0, .int p1] (m_B (dC, dI) [(cB, .byte), (cC, .char), (cI, .int), (cJ, .long), (cZ, .boolean), (cP, .object "StoryHouse$Play")] sz h ad qK qS (mW cB cI cZ h qK qS ad σ) g_0)) (va_Qv (fun (_ : Unit) => True) (fun _ t => va_P (dC, dI) vwCl (mW cB cI cZ h qK qS ad res.2) t.heap) (mCells h ad sz)) 0 0 (mCells h ad sz)) ∧ (∀ (sz : Nat) (p0 : Int32) (p1 : Int32) (p2 : Int32) (σ : MS) (res : Int32 × MS), gR d 2 p0 p1 p2  σ = some res → Met l yX12_goIn (g_ws yX12_goIn cX12_goIn 6 (some .int)) ({ frames := 7 + d, cells := 0, slots := 0, locals := 168 + 26 * d }) (va_Pc [.ref h, .int p0, .int p1, .int p2] (m_B (dC, dI) [(cB, .byte), (cC, .char), (cI, .int), (cJ, .long), (cZ, .boolean), (cP, .object "StoryHouse$Play")] sz h ad qK qS (mW cB cI cZ h qK qS ad σ) g_0)) (va_Qi (fun r (_ : Unit) => r = res.1) (fun _ t => va_P (dC, dI) vwCl (mW cB cI cZ h qK qS ad res.2) t.heap) (mCells h ad sz)) 0 0 (mCells h ad sz)) ∧ (∀ (sz : Nat) (p0 : Int32) (p1 : Int32) (σ : MS) (res : Int32 × MS), gR d 3 p0 p1 0 σ = some res → Met l yX12_statement_ (g_ws yX12_statement_ cX12_statement_ 6 none) ({ frames := 7 + d, cells := 0, slots := 0, locals := 168 + 26 * d }) (va_Pc [.ref h, .int p0, .int p1] (m_B (dC, dI) [(cB, .byte), (cC, .char), (cI, .int), (cJ, .long), (cZ, .boolean), (cP, .object "StoryHouse$Play")] sz h ad qK qS (mW cB cI cZ h qK qS ad σ) g_0)) (va_Qv (fun (_ : Unit) => True) (fun _ t => va_P (dC, dI) vwCl (mW cB cI cZ h qK qS ad res.2) t.heap) (mCells h ad sz)) 0 0 (mCells h ad sz)) ∧ (∀ (sz : Nat) (p0 : Int32) (p1 : Int32) (p2 : Int32) (σ : MS) (res : Int32 × MS), gR d 4 p0 p1 p2  σ = some res → Met l yX12_call (g_ws yX12_call cX12_call 7 (some .int)) ({ frames := 7 + d, cells := 0, slots := 0, locals := 168 + 26 * d }) (va_Pc [.ref h, .int p0, .int p1, .int p2] (m_B (dC, dI) [(cB, .byte), (cC, .char), (cI, .int), (cJ, .long), (cZ, .boolean), (cP, .object "StoryHouse$Play")] sz h ad qK qS (mW cB cI cZ h qK qS ad σ) g_0)) (va_Qi (fun r (_ : Unit) => r = res.1) (fun _ t => va_P (dC, dI) vwCl (mW cB cI cZ h qK qS ad res.2) t.heap) (mCells h ad sz)) 0 0 (mCells h ad sz)) ∧ (∀ (sz : Nat) (p0 : Int32) (p1 : Int32) (σ : MS) (res : Int32 × MS), gR d 5 p0 p1 0 σ = some res → Met l yX12_tell (g_ws yX12_tell cX12_tell 4 none) ({ frames := 7 + d, cells := 0, slots := 0, locals := 168 + 26 * d }) (va_Pc [.ref h, .int p0, .int p1] (m_B (dC, dI) [(cB, .byte), (cC, .char), (cI, .int), (cJ, .long), (cZ, .boolean), (cP, .object "StoryHouse$Play")] sz h ad qK qS (mW cB cI cZ h qK qS ad σ) g_0)) (va_Qv (fun (_ : Unit) => True) (fun _ t => va_P (dC, dI) vwCl (mW cB cI cZ h qK qS ad res.2) t.heap) (mCells h ad sz)) 0 0 (mCells h ad sz)) := by
  intro d
  induction d with
  | zero => exact ⟨(fun sz p0 p1 σ res hz => by cases hz), (fun sz p0 p1 σ res hz => by cases hz), (fun sz p0 p1 p2 σ res hz => by cases hz), (fun sz p0 p1 σ res hz => by cases hz), (fun sz p0 p1 p2 σ res hz => by cases hz), (fun sz p0 p1 σ res hz => by cases hz)⟩
  | succ d ih =>
    obtain ⟨hI0, hI1, hI2, hI3, hI4, hI5⟩ := ih
    exact ⟨(fun sz p0 p1 σ res hF => m_X12_eval_st l dC dI cB cC cI cJ cZ cP h qK qS ad hDD d (gR d) hI0 hI1 hI2 hI3 hI4 hI5 sz p0 p1 σ res ((gR_0 d p0 p1 0 σ).symm.trans hF)), (fun sz p0 p1 σ res hF => m_X12_calls_st l dC dI cB cC cI cJ cZ cP h qK qS ad hDD d (gR d) hI0 hI1 hI2 hI3 hI4 hI5 sz p0 p1 σ res ((gR_1 d p0 p1 0 σ).symm.trans hF)), (fun sz p0 p1 p2 σ res hF => m_X12_goIn_st l dC dI cB cC cI cJ cZ cP h qK qS ad hDD d (gR d) hI0 hI1 hI2 hI3 hI4 hI5 sz p0 p1 p2 σ res ((gR_2 d p0 p1 p2 σ).symm.trans hF)), (fun sz p0 p1 σ res hF => m_X12_statement__st l dC dI cB cC cI cJ cZ cP h qK qS ad hDD d (gR d) hI0 hI1 hI2 hI3 hI4 hI5 sz p0 p1 σ res ((gR_3 d p0 p1 0 σ).symm.trans hF)), (fun sz p0 p1 p2 σ res hF => m_X12_call_st l dC dI cB cC cI cJ cZ cP h qK qS ad hDD d (gR d) hI0 hI1 hI2 hI3 hI4 hI5 sz p0 p1 p2 σ res ((gR_4 d p0 p1 p2 σ).symm.trans hF)), (fun sz p0 p1 σ res hF => m_X12_tell_st l dC dI cB cC cI cJ cZ cP h qK qS ad hDD d (gR d) hI0 hI1 hI2 hI3 hI4 hI5 sz p0 p1 σ res ((gR_5 d p0 p1 0 σ).symm.trans hF))⟩

def G_X12_eval (p0 : Int32) (p1 : Int32) (σ : MS) : MR := gR 1300 0 p0 p1 0 σ
theorem m_X12_eval (l : Launch) (dC : Nat → ClassId) (dI : Nat → Nat → Nat) (cB cC cI cJ cZ cP : ClassId) (h qK qS : Nat) (ad : Nat → Nat) (hDD : mDis cB cI cZ h qK qS ad) : ∀ (sz : Nat) (p0 : Int32) (p1 : Int32) (σ : MS) (res : Int32 × MS), G_X12_eval p0 p1 σ = some res → Met l yX12_eval (g_ws yX12_eval cX12_eval 6 (some .int)) ({ frames := 1307, cells := 0, slots := 0, locals := 33968 }) (va_Pc [.ref h, .int p0, .int p1] (m_B (dC, dI) [(cB, .byte), (cC, .char), (cI, .int), (cJ, .long), (cZ, .boolean), (cP, .object "StoryHouse$Play")] sz h ad qK qS (mW cB cI cZ h qK qS ad σ) g_0)) (va_Qi (fun r (_ : Unit) => r = res.1) (fun _ t => va_P (dC, dI) vwCl (mW cB cI cZ h qK qS ad res.2) t.heap) (mCells h ad sz)) 0 0 (mCells h ad sz) := (gR_all l dC dI cB cC cI cJ cZ cP h qK qS ad hDD 1300).1

def G_X12_calls (p0 : Int32) (p1 : Int32) (σ : MS) : MR := gR 1300 1 p0 p1 0 σ
theorem m_X12_calls (l : Launch) (dC : Nat → ClassId) (dI : Nat → Nat → Nat) (cB cC cI cJ cZ cP : ClassId) (h qK qS : Nat) (ad : Nat → Nat) (hDD : mDis cB cI cZ h qK qS ad) : ∀ (sz : Nat) (p0 : Int32) (p1 : Int32) (σ : MS) (res : Int32 × MS), G_X12_calls p0 p1 σ = some res → Met l yX12_calls (g_ws yX12_calls cX12_calls 5 none) ({ frames := 1307, cells := 0, slots := 0, locals := 33968 }) (va_Pc [.ref h, .int p0, .int p1] (m_B (dC, dI) [(cB, .byte), (cC, .char), (cI, .int), (cJ, .long), (cZ, .boolean), (cP, .object "StoryHouse$Play")] sz h ad qK qS (mW cB cI cZ h qK qS ad σ) g_0)) (va_Qv (fun (_ : Unit) => True) (fun _ t => va_P (dC, dI) vwCl (mW cB cI cZ h qK qS ad res.2) t.heap) (mCells h ad sz)) 0 0 (mCells h ad sz) := (gR_all l dC dI cB cC cI cJ cZ cP h qK qS ad hDD 1300).2.1

def G_X12_goIn (p0 : Int32) (p1 : Int32) (p2 : Int32) (σ : MS) : MR := gR 1300 2 p0 p1 p2  σ
theorem m_X12_goIn (l : Launch) (dC : Nat → ClassId) (dI : Nat → Nat → Nat) (cB cC cI cJ cZ cP : ClassId) (h qK qS : Nat) (ad : Nat → Nat) (hDD : mDis cB cI cZ h qK qS ad) : ∀ (sz : Nat) (p0 : Int32) (p1 : Int32) (p2 : Int32) (σ : MS) (res : Int32 × MS), G_X12_goIn p0 p1 p2 σ = some res → Met l yX12_goIn (g_ws yX12_goIn cX12_goIn 6 (some .int)) ({ frames := 1307, cells := 0, slots := 0, locals := 33968 }) (va_Pc [.ref h, .int p0, .int p1, .int p2] (m_B (dC, dI) [(cB, .byte), (cC, .char), (cI, .int), (cJ, .long), (cZ, .boolean), (cP, .object "StoryHouse$Play")] sz h ad qK qS (mW cB cI cZ h qK qS ad σ) g_0)) (va_Qi (fun r (_ : Unit) => r = res.1) (fun _ t => va_P (dC, dI) vwCl (mW cB cI cZ h qK qS ad res.2) t.heap) (mCells h ad sz)) 0 0 (mCells h ad sz) := (gR_all l dC dI cB cC cI cJ cZ cP h qK qS ad hDD 1300).2.2.1

def G_X12_statement_ (p0 : Int32) (p1 : Int32) (σ : MS) : MR := gR 1300 3 p0 p1 0 σ
theorem m_X12_statement_ (l : Launch) (dC : Nat → ClassId) (dI : Nat → Nat → Nat) (cB cC cI cJ cZ cP : ClassId) (h qK qS : Nat) (ad : Nat → Nat) (hDD : mDis cB cI cZ h qK qS ad) : ∀ (sz : Nat) (p0 : Int32) (p1 : Int32) (σ : MS) (res : Int32 × MS), G_X12_statement_ p0 p1 σ = some res → Met l yX12_statement_ (g_ws yX12_statement_ cX12_statement_ 6 none) ({ frames := 1307, cells := 0, slots := 0, locals := 33968 }) (va_Pc [.ref h, .int p0, .int p1] (m_B (dC, dI) [(cB, .byte), (cC, .char), (cI, .int), (cJ, .long), (cZ, .boolean), (cP, .object "StoryHouse$Play")] sz h ad qK qS (mW cB cI cZ h qK qS ad σ) g_0)) (va_Qv (fun (_ : Unit) => True) (fun _ t => va_P (dC, dI) vwCl (mW cB cI cZ h qK qS ad res.2) t.heap) (mCells h ad sz)) 0 0 (mCells h ad sz) := (gR_all l dC dI cB cC cI cJ cZ cP h qK qS ad hDD 1300).2.2.2.1

def G_X12_call (p0 : Int32) (p1 : Int32) (p2 : Int32) (σ : MS) : MR := gR 1300 4 p0 p1 p2  σ
theorem m_X12_call (l : Launch) (dC : Nat → ClassId) (dI : Nat → Nat → Nat) (cB cC cI cJ cZ cP : ClassId) (h qK qS : Nat) (ad : Nat → Nat) (hDD : mDis cB cI cZ h qK qS ad) : ∀ (sz : Nat) (p0 : Int32) (p1 : Int32) (p2 : Int32) (σ : MS) (res : Int32 × MS), G_X12_call p0 p1 p2 σ = some res → Met l yX12_call (g_ws yX12_call cX12_call 7 (some .int)) ({ frames := 1307, cells := 0, slots := 0, locals := 33968 }) (va_Pc [.ref h, .int p0, .int p1, .int p2] (m_B (dC, dI) [(cB, .byte), (cC, .char), (cI, .int), (cJ, .long), (cZ, .boolean), (cP, .object "StoryHouse$Play")] sz h ad qK qS (mW cB cI cZ h qK qS ad σ) g_0)) (va_Qi (fun r (_ : Unit) => r = res.1) (fun _ t => va_P (dC, dI) vwCl (mW cB cI cZ h qK qS ad res.2) t.heap) (mCells h ad sz)) 0 0 (mCells h ad sz) := (gR_all l dC dI cB cC cI cJ cZ cP h qK qS ad hDD 1300).2.2.2.2.1

def G_X12_tell (p0 : Int32) (p1 : Int32) (σ : MS) : MR := gR 1300 5 p0 p1 0 σ
theorem m_X12_tell (l : Launch) (dC : Nat → ClassId) (dI : Nat → Nat → Nat) (cB cC cI cJ cZ cP : ClassId) (h qK qS : Nat) (ad : Nat → Nat) (hDD : mDis cB cI cZ h qK qS ad) : ∀ (sz : Nat) (p0 : Int32) (p1 : Int32) (σ : MS) (res : Int32 × MS), G_X12_tell p0 p1 σ = some res → Met l yX12_tell (g_ws yX12_tell cX12_tell 4 none) ({ frames := 1307, cells := 0, slots := 0, locals := 33968 }) (va_Pc [.ref h, .int p0, .int p1] (m_B (dC, dI) [(cB, .byte), (cC, .char), (cI, .int), (cJ, .long), (cZ, .boolean), (cP, .object "StoryHouse$Play")] sz h ad qK qS (mW cB cI cZ h qK qS ad σ) g_0)) (va_Qv (fun (_ : Unit) => True) (fun _ t => va_P (dC, dI) vwCl (mW cB cI cZ h qK qS ad res.2) t.heap) (mCells h ad sz)) 0 0 (mCells h ad sz) := (gR_all l dC dI cB cC cI cJ cZ cP h qK qS ad hDD 1300).2.2.2.2.2
