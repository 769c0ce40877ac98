/-! the calls of the class on an object of which nothing is built, but feed and build -/
theorem g_in4 {x : Int32} (h : ¬ x < 0 ∧ x < 4) : vp_in x 4 := by
  rw [vp_in_iff]
  have h1 := h.1
  have h2 := h.2
  rw [Int32.lt_iff_toInt_lt] at h1 h2
  have e0 : (0 : Int32).toInt = 0 := by decide +kernel
  have e4 : (4 : Int32).toInt = 4 := by decide +kernel
  rw [e0] at h1
  rw [e4] at h2
  omega
theorem dX11_needPlay_0 : decode cX11_needPlay 0 = .ok (.aload_n 0, 1) := by decide +kernel
theorem dX11_needPlay_1 : decode cX11_needPlay 1 = .ok (.getfield 178, 3) := by decide +kernel
theorem dX11_needPlay_4 : decode cX11_needPlay 4 = .ok (.ifCond .ne 14, 3) := by decide +kernel
theorem dX11_needPlay_7 : decode cX11_needPlay 7 = .ok (.new 115, 3) := by decide +kernel
theorem dX11_needPlay_10 : decode cX11_needPlay 10 = .ok (.dup, 1) := by decide +kernel
theorem dX11_needPlay_11 : decode cX11_needPlay 11 = .ok (.ldc_w 305, 3) := by decide +kernel
theorem dX11_needPlay_14 : decode cX11_needPlay 14 = .ok (.invokespecial 119, 3) := by decide +kernel
theorem dX11_needPlay_17 : decode cX11_needPlay 17 = .ok (.athrow, 1) := by decide +kernel
theorem dX11_needPlay_18 : decode cX11_needPlay 18 = .ok (.return_, 1) := by decide +kernel
theorem dX11_needPlace_0 : decode cX11_needPlace 0 = .ok (.iload_n 1, 1) := by decide +kernel
theorem dX11_needPlace_1 : decode cX11_needPlace 1 = .ok (.ifCond .lt 8, 3) := by decide +kernel
theorem dX11_needPlace_4 : decode cX11_needPlace 4 = .ok (.iload_n 1, 1) := by decide +kernel
theorem dX11_needPlace_5 : decode cX11_needPlace 5 = .ok (.iconst 4, 1) := by decide +kernel
theorem dX11_needPlace_6 : decode cX11_needPlace 6 = .ok (.if_icmp .lt 14, 3) := by decide +kernel
theorem dX11_needPlace_9 : decode cX11_needPlace 9 = .ok (.new 223, 3) := by decide +kernel
theorem dX11_needPlace_12 : decode cX11_needPlace 12 = .ok (.dup, 1) := by decide +kernel
theorem dX11_needPlace_13 : decode cX11_needPlace 13 = .ok (.ldc_w 307, 3) := by decide +kernel
theorem dX11_needPlace_16 : decode cX11_needPlace 16 = .ok (.invokespecial 227, 3) := by decide +kernel
theorem dX11_needPlace_19 : decode cX11_needPlace 19 = .ok (.athrow, 1) := by decide +kernel
theorem dX11_needPlace_20 : decode cX11_needPlace 20 = .ok (.return_, 1) := by decide +kernel
theorem dX11_needObject_0 : decode cX11_needObject 0 = .ok (.aload_n 0, 1) := by decide +kernel
theorem dX11_needObject_1 : decode cX11_needObject 1 = .ok (.getfield 162, 3) := by decide +kernel
theorem dX11_needObject_4 : decode cX11_needObject 4 = .ok (.ifCond .eq 21, 3) := by decide +kernel
theorem dX11_needObject_7 : decode cX11_needObject 7 = .ok (.iload_n 1, 1) := by decide +kernel
theorem dX11_needObject_8 : decode cX11_needObject 8 = .ok (.iconst 1, 1) := by decide +kernel
theorem dX11_needObject_9 : decode cX11_needObject 9 = .ok (.if_icmp .lt 16, 3) := by decide +kernel
theorem dX11_needObject_12 : decode cX11_needObject 12 = .ok (.iload_n 1, 1) := by decide +kernel
theorem dX11_needObject_13 : decode cX11_needObject 13 = .ok (.aload_n 0, 1) := by decide +kernel
theorem dX11_needObject_14 : decode cX11_needObject 14 = .ok (.getfield 39, 3) := by decide +kernel
theorem dX11_needObject_17 : decode cX11_needObject 17 = .ok (.getfield 158, 3) := by decide +kernel
theorem dX11_needObject_20 : decode cX11_needObject 20 = .ok (.iconst 0, 1) := by decide +kernel
theorem dX11_needObject_21 : decode cX11_needObject 21 = .ok (.iaload, 1) := by decide +kernel
theorem dX11_needObject_22 : decode cX11_needObject 22 = .ok (.if_icmp .le 14, 3) := by decide +kernel
theorem dX11_needObject_25 : decode cX11_needObject 25 = .ok (.new 223, 3) := by decide +kernel
theorem dX11_needObject_28 : decode cX11_needObject 28 = .ok (.dup, 1) := by decide +kernel
theorem dX11_needObject_29 : decode cX11_needObject 29 = .ok (.ldc_w 309, 3) := by decide +kernel
theorem dX11_needObject_32 : decode cX11_needObject 32 = .ok (.invokespecial 227, 3) := by decide +kernel
theorem dX11_needObject_35 : decode cX11_needObject 35 = .ok (.athrow, 1) := by decide +kernel
theorem dX11_needObject_36 : decode cX11_needObject 36 = .ok (.return_, 1) := by decide +kernel
theorem dX11_begin_0 : decode cX11_begin 0 = .ok (.aload_n 0, 1) := by decide +kernel
theorem dX11_begin_1 : decode cX11_begin 1 = .ok (.getfield 162, 3) := by decide +kernel
theorem dX11_begin_4 : decode cX11_begin 4 = .ok (.ifCond .ne 13, 3) := by decide +kernel
theorem dX11_begin_7 : decode cX11_begin 7 = .ok (.new 115, 3) := by decide +kernel
theorem dX11_begin_10 : decode cX11_begin 10 = .ok (.dup, 1) := by decide +kernel
theorem dX11_begin_11 : decode cX11_begin 11 = .ok (.ldc 166, 2) := by decide +kernel
theorem dX11_begin_13 : decode cX11_begin 13 = .ok (.invokespecial 119, 3) := by decide +kernel
theorem dX11_begin_16 : decode cX11_begin 16 = .ok (.athrow, 1) := by decide +kernel
theorem dX11_begin_17 : decode cX11_begin 17 = .ok (.aload_n 0, 1) := by decide +kernel
theorem dX11_begin_18 : decode cX11_begin 18 = .ok (.getfield 53, 3) := by decide +kernel
theorem dX11_begin_21 : decode cX11_begin 21 = .ok (.invokevirtual 168, 3) := by decide +kernel
theorem dX11_begin_24 : decode cX11_begin 24 = .ok (.aload_n 0, 1) := by decide +kernel
theorem dX11_begin_25 : decode cX11_begin 25 = .ok (.iconst 0, 1) := by decide +kernel
theorem dX11_begin_26 : decode cX11_begin 26 = .ok (.putfield 171, 3) := by decide +kernel
theorem dX11_begin_29 : decode cX11_begin 29 = .ok (.aload_n 0, 1) := by decide +kernel
theorem dX11_begin_30 : decode cX11_begin 30 = .ok (.getfield 60, 3) := by decide +kernel
theorem dX11_begin_33 : decode cX11_begin 33 = .ok (.aload_n 0, 1) := by decide +kernel
theorem dX11_begin_34 : decode cX11_begin 34 = .ok (.getfield 39, 3) := by decide +kernel
theorem dX11_begin_37 : decode cX11_begin 37 = .ok (.iload_n 1, 1) := by decide +kernel
theorem dX11_begin_38 : decode cX11_begin 38 = .ok (.invokevirtual 174, 3) := by decide +kernel
theorem dX11_begin_41 : decode cX11_begin 41 = .ok (.aload_n 0, 1) := by decide +kernel
theorem dX11_begin_42 : decode cX11_begin 42 = .ok (.iconst 1, 1) := by decide +kernel
theorem dX11_begin_43 : decode cX11_begin 43 = .ok (.putfield 178, 3) := by decide +kernel
theorem dX11_begin_46 : decode cX11_begin 46 = .ok (.aload_n 0, 1) := by decide +kernel
theorem dX11_begin_47 : decode cX11_begin 47 = .ok (.getfield 78, 3) := by decide +kernel
theorem dX11_begin_50 : decode cX11_begin 50 = .ok (.invokevirtual 181, 3) := by decide +kernel
theorem dX11_begin_53 : decode cX11_begin 53 = .ok (.return_, 1) := by decide +kernel
theorem dX11_enter_0 : decode cX11_enter 0 = .ok (.aload_n 0, 1) := by decide +kernel
theorem dX11_enter_1 : decode cX11_enter 1 = .ok (.invokevirtual 184, 3) := by decide +kernel
theorem dX11_enter_4 : decode cX11_enter 4 = .ok (.aload_n 0, 1) := by decide +kernel
theorem dX11_enter_5 : decode cX11_enter 5 = .ok (.getfield 53, 3) := by decide +kernel
theorem dX11_enter_8 : decode cX11_enter 8 = .ok (.invokevirtual 168, 3) := by decide +kernel
theorem dX11_enter_11 : decode cX11_enter 11 = .ok (.aload_n 0, 1) := by decide +kernel
theorem dX11_enter_12 : decode cX11_enter 12 = .ok (.getfield 112, 3) := by decide +kernel
theorem dX11_enter_15 : decode cX11_enter 15 = .ok (.istore_n 1, 1) := by decide +kernel
theorem dX11_enter_16 : decode cX11_enter 16 = .ok (.aload_n 0, 1) := by decide +kernel
theorem dX11_enter_17 : decode cX11_enter 17 = .ok (.iconst 0, 1) := by decide +kernel
theorem dX11_enter_18 : decode cX11_enter 18 = .ok (.putfield 112, 3) := by decide +kernel
theorem dX11_enter_21 : decode cX11_enter 21 = .ok (.aload_n 0, 1) := by decide +kernel
theorem dX11_enter_22 : decode cX11_enter 22 = .ok (.getfield 78, 3) := by decide +kernel
theorem dX11_enter_25 : decode cX11_enter 25 = .ok (.aload_n 0, 1) := by decide +kernel
theorem dX11_enter_26 : decode cX11_enter 26 = .ok (.getfield 9, 3) := by decide +kernel
theorem dX11_enter_29 : decode cX11_enter 29 = .ok (.iload_n 1, 1) := by decide +kernel
theorem dX11_enter_30 : decode cX11_enter 30 = .ok (.invokevirtual 187, 3) := by decide +kernel
theorem dX11_enter_33 : decode cX11_enter 33 = .ok (.ifCond .eq 13, 3) := by decide +kernel
theorem dX11_enter_36 : decode cX11_enter 36 = .ok (.aload_n 0, 1) := by decide +kernel
theorem dX11_enter_37 : decode cX11_enter 37 = .ok (.getfield 78, 3) := by decide +kernel
theorem dX11_enter_40 : decode cX11_enter 40 = .ok (.invokevirtual 191, 3) := by decide +kernel
theorem dX11_enter_43 : decode cX11_enter 43 = .ok (.ifCond .ne 19, 3) := by decide +kernel
theorem dX11_enter_46 : decode cX11_enter 46 = .ok (.aload_n 0, 1) := by decide +kernel
theorem dX11_enter_47 : decode cX11_enter 47 = .ok (.getfield 60, 3) := by decide +kernel
theorem dX11_enter_50 : decode cX11_enter 50 = .ok (.getfield 195, 3) := by decide +kernel
theorem dX11_enter_53 : decode cX11_enter 53 = .ok (.ifCond .eq 7, 3) := by decide +kernel
theorem dX11_enter_56 : decode cX11_enter 56 = .ok (.iconst 3, 1) := by decide +kernel
theorem dX11_enter_57 : decode cX11_enter 57 = .ok (.goto 4, 3) := by decide +kernel
theorem dX11_enter_60 : decode cX11_enter 60 = .ok (.iconst 0, 1) := by decide +kernel
theorem dX11_enter_61 : decode cX11_enter 61 = .ok (.ireturn, 1) := by decide +kernel
theorem dX11_enter_62 : decode cX11_enter 62 = .ok (.aload_n 0, 1) := by decide +kernel
theorem dX11_enter_63 : decode cX11_enter 63 = .ok (.getfield 198, 3) := by decide +kernel
theorem dX11_enter_66 : decode cX11_enter 66 = .ok (.iconst 1, 1) := by decide +kernel
theorem dX11_enter_67 : decode cX11_enter 67 = .ok (.iadd, 1) := by decide +kernel
theorem dX11_enter_68 : decode cX11_enter 68 = .ok (.bipush 6, 2) := by decide +kernel
theorem dX11_enter_70 : decode cX11_enter 70 = .ok (.irem, 1) := by decide +kernel
theorem dX11_enter_71 : decode cX11_enter 71 = .ok (.istore_n 2, 1) := by decide +kernel
theorem dX11_enter_72 : decode cX11_enter 72 = .ok (.aload_n 0, 1) := by decide +kernel
theorem dX11_enter_73 : decode cX11_enter 73 = .ok (.getfield 90, 3) := by decide +kernel
theorem dX11_enter_76 : decode cX11_enter 76 = .ok (.iload_n 2, 1) := by decide +kernel
theorem dX11_enter_77 : decode cX11_enter 77 = .ok (.aaload, 1) := by decide +kernel
theorem dX11_enter_78 : decode cX11_enter 78 = .ok (.aload_n 0, 1) := by decide +kernel
theorem dX11_enter_79 : decode cX11_enter 79 = .ok (.getfield 60, 3) := by decide +kernel
theorem dX11_enter_82 : decode cX11_enter 82 = .ok (.invokevirtual 201, 3) := by decide +kernel
theorem dX11_enter_85 : decode cX11_enter 85 = .ok (.aload_n 0, 1) := by decide +kernel
theorem dX11_enter_86 : decode cX11_enter 86 = .ok (.getfield 78, 3) := by decide +kernel
theorem dX11_enter_89 : decode cX11_enter 89 = .ok (.invokevirtual 205, 3) := by decide +kernel
theorem dX11_enter_92 : decode cX11_enter 92 = .ok (.aload_n 0, 1) := by decide +kernel
theorem dX11_enter_93 : decode cX11_enter 93 = .ok (.getfield 69, 3) := by decide +kernel
theorem dX11_enter_96 : decode cX11_enter 96 = .ok (.getfield 208, 3) := by decide +kernel
theorem dX11_enter_99 : decode cX11_enter 99 = .ok (.ifCond .eq 25, 3) := by decide +kernel
theorem dX11_enter_102 : decode cX11_enter 102 = .ok (.aload_n 0, 1) := by decide +kernel
theorem dX11_enter_103 : decode cX11_enter 103 = .ok (.getfield 60, 3) := by decide +kernel
theorem dX11_enter_106 : decode cX11_enter 106 = .ok (.aload_n 0, 1) := by decide +kernel
theorem dX11_enter_107 : decode cX11_enter 107 = .ok (.getfield 90, 3) := by decide +kernel
theorem dX11_enter_110 : decode cX11_enter 110 = .ok (.iload_n 2, 1) := by decide +kernel
theorem dX11_enter_111 : decode cX11_enter 111 = .ok (.aaload, 1) := by decide +kernel
theorem dX11_enter_112 : decode cX11_enter 112 = .ok (.invokevirtual 201, 3) := by decide +kernel
theorem dX11_enter_115 : decode cX11_enter 115 = .ok (.aload_n 0, 1) := by decide +kernel
theorem dX11_enter_116 : decode cX11_enter 116 = .ok (.getfield 78, 3) := by decide +kernel
theorem dX11_enter_119 : decode cX11_enter 119 = .ok (.invokevirtual 211, 3) := by decide +kernel
theorem dX11_enter_122 : decode cX11_enter 122 = .ok (.iconst 2, 1) := by decide +kernel
theorem dX11_enter_123 : decode cX11_enter 123 = .ok (.ireturn, 1) := by decide +kernel
theorem dX11_enter_124 : decode cX11_enter 124 = .ok (.aload_n 0, 1) := by decide +kernel
theorem dX11_enter_125 : decode cX11_enter 125 = .ok (.iload_n 2, 1) := by decide +kernel
theorem dX11_enter_126 : decode cX11_enter 126 = .ok (.putfield 198, 3) := by decide +kernel
theorem dX11_enter_129 : decode cX11_enter 129 = .ok (.aload_n 0, 1) := by decide +kernel
theorem dX11_enter_130 : decode cX11_enter 130 = .ok (.iconst 5, 1) := by decide +kernel
theorem dX11_enter_131 : decode cX11_enter 131 = .ok (.aload_n 0, 1) := by decide +kernel
theorem dX11_enter_132 : decode cX11_enter 132 = .ok (.getfield 171, 3) := by decide +kernel
theorem dX11_enter_135 : decode cX11_enter 135 = .ok (.iconst 1, 1) := by decide +kernel
theorem dX11_enter_136 : decode cX11_enter 136 = .ok (.iadd, 1) := by decide +kernel
theorem dX11_enter_137 : decode cX11_enter 137 = .ok (.invokestatic 214, 3) := by decide +kernel
theorem dX11_enter_140 : decode cX11_enter 140 = .ok (.putfield 171, 3) := by decide +kernel
theorem dX11_enter_143 : decode cX11_enter 143 = .ok (.aload_n 0, 1) := by decide +kernel
theorem dX11_enter_144 : decode cX11_enter 144 = .ok (.getfield 60, 3) := by decide +kernel
theorem dX11_enter_147 : decode cX11_enter 147 = .ok (.getfield 195, 3) := by decide +kernel
theorem dX11_enter_150 : decode cX11_enter 150 = .ok (.ifCond .eq 7, 3) := by decide +kernel
theorem dX11_enter_153 : decode cX11_enter 153 = .ok (.iconst 3, 1) := by decide +kernel
theorem dX11_enter_154 : decode cX11_enter 154 = .ok (.goto 4, 3) := by decide +kernel
theorem dX11_enter_157 : decode cX11_enter 157 = .ok (.iconst 1, 1) := by decide +kernel
theorem dX11_enter_158 : decode cX11_enter 158 = .ok (.ireturn, 1) := by decide +kernel
theorem dX11_save_0 : decode cX11_save 0 = .ok (.aload_n 0, 1) := by decide +kernel
theorem dX11_save_1 : decode cX11_save 1 = .ok (.iload_n 1, 1) := by decide +kernel
theorem dX11_save_2 : decode cX11_save 2 = .ok (.invokevirtual 231, 3) := by decide +kernel
theorem dX11_save_5 : decode cX11_save 5 = .ok (.aload_n 0, 1) := by decide +kernel
theorem dX11_save_6 : decode cX11_save 6 = .ok (.invokevirtual 184, 3) := by decide +kernel
theorem dX11_save_9 : decode cX11_save 9 = .ok (.aload_n 0, 1) := by decide +kernel
theorem dX11_save_10 : decode cX11_save 10 = .ok (.getfield 82, 3) := by decide +kernel
theorem dX11_save_13 : decode cX11_save 13 = .ok (.iload_n 1, 1) := by decide +kernel
theorem dX11_save_14 : decode cX11_save 14 = .ok (.aaload, 1) := by decide +kernel
theorem dX11_save_15 : decode cX11_save 15 = .ok (.aload_n 0, 1) := by decide +kernel
theorem dX11_save_16 : decode cX11_save 16 = .ok (.getfield 60, 3) := by decide +kernel
theorem dX11_save_19 : decode cX11_save 19 = .ok (.invokevirtual 201, 3) := by decide +kernel
theorem dX11_save_22 : decode cX11_save 22 = .ok (.aload_n 0, 1) := by decide +kernel
theorem dX11_save_23 : decode cX11_save 23 = .ok (.getfield 86, 3) := by decide +kernel
theorem dX11_save_26 : decode cX11_save 26 = .ok (.iload_n 1, 1) := by decide +kernel
theorem dX11_save_27 : decode cX11_save 27 = .ok (.iconst 1, 1) := by decide +kernel
theorem dX11_save_28 : decode cX11_save 28 = .ok (.bastore, 1) := by decide +kernel
theorem dX11_save_29 : decode cX11_save 29 = .ok (.return_, 1) := by decide +kernel
theorem dX11_restore_0 : decode cX11_restore 0 = .ok (.aload_n 0, 1) := by decide +kernel
theorem dX11_restore_1 : decode cX11_restore 1 = .ok (.iload_n 1, 1) := by decide +kernel
theorem dX11_restore_2 : decode cX11_restore 2 = .ok (.invokevirtual 231, 3) := by decide +kernel
theorem dX11_restore_5 : decode cX11_restore 5 = .ok (.aload_n 0, 1) := by decide +kernel
theorem dX11_restore_6 : decode cX11_restore 6 = .ok (.getfield 86, 3) := by decide +kernel
theorem dX11_restore_9 : decode cX11_restore 9 = .ok (.iload_n 1, 1) := by decide +kernel
theorem dX11_restore_10 : decode cX11_restore 10 = .ok (.baload, 1) := by decide +kernel
theorem dX11_restore_11 : decode cX11_restore 11 = .ok (.ifCond .ne 13, 3) := by decide +kernel
theorem dX11_restore_14 : decode cX11_restore 14 = .ok (.new 115, 3) := by decide +kernel
theorem dX11_restore_17 : decode cX11_restore 17 = .ok (.dup, 1) := by decide +kernel
theorem dX11_restore_18 : decode cX11_restore 18 = .ok (.ldc 235, 2) := by decide +kernel
theorem dX11_restore_20 : decode cX11_restore 20 = .ok (.invokespecial 119, 3) := by decide +kernel
theorem dX11_restore_23 : decode cX11_restore 23 = .ok (.athrow, 1) := by decide +kernel
theorem dX11_restore_24 : decode cX11_restore 24 = .ok (.aload_n 0, 1) := by decide +kernel
theorem dX11_restore_25 : decode cX11_restore 25 = .ok (.getfield 53, 3) := by decide +kernel
theorem dX11_restore_28 : decode cX11_restore 28 = .ok (.invokevirtual 168, 3) := by decide +kernel
theorem dX11_restore_31 : decode cX11_restore 31 = .ok (.aload_n 0, 1) := by decide +kernel
theorem dX11_restore_32 : decode cX11_restore 32 = .ok (.iconst 0, 1) := by decide +kernel
theorem dX11_restore_33 : decode cX11_restore 33 = .ok (.putfield 171, 3) := by decide +kernel
theorem dX11_restore_36 : decode cX11_restore 36 = .ok (.aload_n 0, 1) := by decide +kernel
theorem dX11_restore_37 : decode cX11_restore 37 = .ok (.getfield 60, 3) := by decide +kernel
theorem dX11_restore_40 : decode cX11_restore 40 = .ok (.aload_n 0, 1) := by decide +kernel
theorem dX11_restore_41 : decode cX11_restore 41 = .ok (.getfield 82, 3) := by decide +kernel
theorem dX11_restore_44 : decode cX11_restore 44 = .ok (.iload_n 1, 1) := by decide +kernel
theorem dX11_restore_45 : decode cX11_restore 45 = .ok (.aaload, 1) := by decide +kernel
theorem dX11_restore_46 : decode cX11_restore 46 = .ok (.invokevirtual 201, 3) := by decide +kernel
theorem dX11_restore_49 : decode cX11_restore 49 = .ok (.aload_n 0, 1) := by decide +kernel
theorem dX11_restore_50 : decode cX11_restore 50 = .ok (.iconst 1, 1) := by decide +kernel
theorem dX11_restore_51 : decode cX11_restore 51 = .ok (.putfield 178, 3) := by decide +kernel
theorem dX11_restore_54 : decode cX11_restore 54 = .ok (.return_, 1) := by decide +kernel
theorem dX11_undo_0 : decode cX11_undo 0 = .ok (.aload_n 0, 1) := by decide +kernel
theorem dX11_undo_1 : decode cX11_undo 1 = .ok (.invokevirtual 184, 3) := by decide +kernel
theorem dX11_undo_4 : decode cX11_undo 4 = .ok (.aload_n 0, 1) := by decide +kernel
theorem dX11_undo_5 : decode cX11_undo 5 = .ok (.getfield 53, 3) := by decide +kernel
theorem dX11_undo_8 : decode cX11_undo 8 = .ok (.invokevirtual 168, 3) := by decide +kernel
theorem dX11_undo_11 : decode cX11_undo 11 = .ok (.aload_n 0, 1) := by decide +kernel
theorem dX11_undo_12 : decode cX11_undo 12 = .ok (.getfield 171, 3) := by decide +kernel
theorem dX11_undo_15 : decode cX11_undo 15 = .ok (.ifCond .ne 5, 3) := by decide +kernel
theorem dX11_undo_18 : decode cX11_undo 18 = .ok (.iconst 0, 1) := by decide +kernel
theorem dX11_undo_19 : decode cX11_undo 19 = .ok (.ireturn, 1) := by decide +kernel
theorem dX11_undo_20 : decode cX11_undo 20 = .ok (.aload_n 0, 1) := by decide +kernel
theorem dX11_undo_21 : decode cX11_undo 21 = .ok (.getfield 60, 3) := by decide +kernel
theorem dX11_undo_24 : decode cX11_undo 24 = .ok (.aload_n 0, 1) := by decide +kernel
theorem dX11_undo_25 : decode cX11_undo 25 = .ok (.getfield 90, 3) := by decide +kernel
theorem dX11_undo_28 : decode cX11_undo 28 = .ok (.aload_n 0, 1) := by decide +kernel
theorem dX11_undo_29 : decode cX11_undo 29 = .ok (.getfield 198, 3) := by decide +kernel
theorem dX11_undo_32 : decode cX11_undo 32 = .ok (.aaload, 1) := by decide +kernel
theorem dX11_undo_33 : decode cX11_undo 33 = .ok (.invokevirtual 201, 3) := by decide +kernel
theorem dX11_undo_36 : decode cX11_undo 36 = .ok (.aload_n 0, 1) := by decide +kernel
theorem dX11_undo_37 : decode cX11_undo 37 = .ok (.aload_n 0, 1) := by decide +kernel
theorem dX11_undo_38 : decode cX11_undo 38 = .ok (.getfield 198, 3) := by decide +kernel
theorem dX11_undo_41 : decode cX11_undo 41 = .ok (.iconst 5, 1) := by decide +kernel
theorem dX11_undo_42 : decode cX11_undo 42 = .ok (.iadd, 1) := by decide +kernel
theorem dX11_undo_43 : decode cX11_undo 43 = .ok (.bipush 6, 2) := by decide +kernel
theorem dX11_undo_45 : decode cX11_undo 45 = .ok (.irem, 1) := by decide +kernel
theorem dX11_undo_46 : decode cX11_undo 46 = .ok (.putfield 198, 3) := by decide +kernel
theorem dX11_undo_49 : decode cX11_undo 49 = .ok (.aload_n 0, 1) := by decide +kernel
theorem dX11_undo_50 : decode cX11_undo 50 = .ok (.dup, 1) := by decide +kernel
theorem dX11_undo_51 : decode cX11_undo 51 = .ok (.getfield 171, 3) := by decide +kernel
theorem dX11_undo_54 : decode cX11_undo 54 = .ok (.iconst 1, 1) := by decide +kernel
theorem dX11_undo_55 : decode cX11_undo 55 = .ok (.isub, 1) := by decide +kernel
theorem dX11_undo_56 : decode cX11_undo 56 = .ok (.putfield 171, 3) := by decide +kernel
theorem dX11_undo_59 : decode cX11_undo 59 = .ok (.iconst 1, 1) := by decide +kernel
theorem dX11_undo_60 : decode cX11_undo 60 = .ok (.ireturn, 1) := by decide +kernel
theorem dX11_holder_0 : decode cX11_holder 0 = .ok (.aload_n 0, 1) := by decide +kernel
theorem dX11_holder_1 : decode cX11_holder 1 = .ok (.iload_n 1, 1) := by decide +kernel
theorem dX11_holder_2 : decode cX11_holder 2 = .ok (.invokevirtual 237, 3) := by decide +kernel
theorem dX11_holder_5 : decode cX11_holder 5 = .ok (.aload_n 0, 1) := by decide +kernel
theorem dX11_holder_6 : decode cX11_holder 6 = .ok (.invokevirtual 184, 3) := by decide +kernel
theorem dX11_holder_9 : decode cX11_holder 9 = .ok (.aload_n 0, 1) := by decide +kernel
theorem dX11_holder_10 : decode cX11_holder 10 = .ok (.getfield 60, 3) := by decide +kernel
theorem dX11_holder_13 : decode cX11_holder 13 = .ok (.getfield 240, 3) := by decide +kernel
theorem dX11_holder_16 : decode cX11_holder 16 = .ok (.iload_n 1, 1) := by decide +kernel
theorem dX11_holder_17 : decode cX11_holder 17 = .ok (.invokestatic 243, 3) := by decide +kernel
theorem dX11_holder_20 : decode cX11_holder 20 = .ok (.ireturn, 1) := by decide +kernel
theorem dX11_first_0 : decode cX11_first 0 = .ok (.aload_n 0, 1) := by decide +kernel
theorem dX11_first_1 : decode cX11_first 1 = .ok (.iload_n 1, 1) := by decide +kernel
theorem dX11_first_2 : decode cX11_first 2 = .ok (.invokevirtual 237, 3) := by decide +kernel
theorem dX11_first_5 : decode cX11_first 5 = .ok (.aload_n 0, 1) := by decide +kernel
theorem dX11_first_6 : decode cX11_first 6 = .ok (.invokevirtual 184, 3) := by decide +kernel
theorem dX11_first_9 : decode cX11_first 9 = .ok (.iload_n 2, 1) := by decide +kernel
theorem dX11_first_10 : decode cX11_first 10 = .ok (.ifCond .eq 17, 3) := by decide +kernel
theorem dX11_first_13 : decode cX11_first 13 = .ok (.aload_n 0, 1) := by decide +kernel
theorem dX11_first_14 : decode cX11_first 14 = .ok (.getfield 60, 3) := by decide +kernel
theorem dX11_first_17 : decode cX11_first 17 = .ok (.getfield 247, 3) := by decide +kernel
theorem dX11_first_20 : decode cX11_first 20 = .ok (.iload_n 1, 1) := by decide +kernel
theorem dX11_first_21 : decode cX11_first 21 = .ok (.invokestatic 243, 3) := by decide +kernel
theorem dX11_first_24 : decode cX11_first 24 = .ok (.goto 14, 3) := by decide +kernel
theorem dX11_first_27 : decode cX11_first 27 = .ok (.aload_n 0, 1) := by decide +kernel
theorem dX11_first_28 : decode cX11_first 28 = .ok (.getfield 60, 3) := by decide +kernel
theorem dX11_first_31 : decode cX11_first 31 = .ok (.getfield 250, 3) := by decide +kernel
theorem dX11_first_34 : decode cX11_first 34 = .ok (.iload_n 1, 1) := by decide +kernel
theorem dX11_first_35 : decode cX11_first 35 = .ok (.invokestatic 243, 3) := by decide +kernel
theorem dX11_first_38 : decode cX11_first 38 = .ok (.ireturn, 1) := by decide +kernel
theorem dX11_has_0 : decode cX11_has 0 = .ok (.aload_n 0, 1) := by decide +kernel
theorem dX11_has_1 : decode cX11_has 1 = .ok (.iload_n 1, 1) := by decide +kernel
theorem dX11_has_2 : decode cX11_has 2 = .ok (.invokevirtual 237, 3) := by decide +kernel
theorem dX11_has_5 : decode cX11_has 5 = .ok (.iload_n 2, 1) := by decide +kernel
theorem dX11_has_6 : decode cX11_has 6 = .ok (.ifCond .lt 9, 3) := by decide +kernel
theorem dX11_has_9 : decode cX11_has 9 = .ok (.iload_n 2, 1) := by decide +kernel
theorem dX11_has_10 : decode cX11_has 10 = .ok (.bipush 6, 2) := by decide +kernel
theorem dX11_has_12 : decode cX11_has 12 = .ok (.if_icmp .le 13, 3) := by decide +kernel
theorem dX11_has_15 : decode cX11_has 15 = .ok (.new 95, 3) := by decide +kernel
theorem dX11_has_18 : decode cX11_has 18 = .ok (.dup, 1) := by decide +kernel
theorem dX11_has_19 : decode cX11_has 19 = .ok (.ldc 253, 2) := by decide +kernel
theorem dX11_has_21 : decode cX11_has 21 = .ok (.invokespecial 99, 3) := by decide +kernel
theorem dX11_has_24 : decode cX11_has 24 = .ok (.athrow, 1) := by decide +kernel
theorem dX11_has_25 : decode cX11_has 25 = .ok (.aload_n 0, 1) := by decide +kernel
theorem dX11_has_26 : decode cX11_has 26 = .ok (.invokevirtual 184, 3) := by decide +kernel
theorem dX11_has_29 : decode cX11_has 29 = .ok (.aload_n 0, 1) := by decide +kernel
theorem dX11_has_30 : decode cX11_has 30 = .ok (.getfield 60, 3) := by decide +kernel
theorem dX11_has_33 : decode cX11_has 33 = .ok (.iload_n 1, 1) := by decide +kernel
theorem dX11_has_34 : decode cX11_has 34 = .ok (.iload_n 2, 1) := by decide +kernel
theorem dX11_has_35 : decode cX11_has 35 = .ok (.invokevirtual 255, 3) := by decide +kernel
theorem dX11_has_38 : decode cX11_has 38 = .ok (.ireturn, 1) := by decide +kernel
theorem dX11_value_0 : decode cX11_value 0 = .ok (.aload_n 0, 1) := by decide +kernel
theorem dX11_value_1 : decode cX11_value 1 = .ok (.getfield 162, 3) := by decide +kernel
theorem dX11_value_4 : decode cX11_value 4 = .ok (.ifCond .eq 20, 3) := by decide +kernel
theorem dX11_value_7 : decode cX11_value 7 = .ok (.iload_n 1, 1) := by decide +kernel
theorem dX11_value_8 : decode cX11_value 8 = .ok (.ifCond .lt 16, 3) := by decide +kernel
theorem dX11_value_11 : decode cX11_value 11 = .ok (.iload_n 1, 1) := by decide +kernel
theorem dX11_value_12 : decode cX11_value 12 = .ok (.aload_n 0, 1) := by decide +kernel
theorem dX11_value_13 : decode cX11_value 13 = .ok (.getfield 39, 3) := by decide +kernel
theorem dX11_value_16 : decode cX11_value 16 = .ok (.getfield 158, 3) := by decide +kernel
theorem dX11_value_19 : decode cX11_value 19 = .ok (.iconst 2, 1) := by decide +kernel
theorem dX11_value_20 : decode cX11_value 20 = .ok (.iaload, 1) := by decide +kernel
theorem dX11_value_21 : decode cX11_value 21 = .ok (.if_icmp .lt 14, 3) := by decide +kernel
theorem dX11_value_24 : decode cX11_value 24 = .ok (.new 223, 3) := by decide +kernel
theorem dX11_value_27 : decode cX11_value 27 = .ok (.dup, 1) := by decide +kernel
theorem dX11_value_28 : decode cX11_value 28 = .ok (.ldc_w 259, 3) := by decide +kernel
theorem dX11_value_31 : decode cX11_value 31 = .ok (.invokespecial 227, 3) := by decide +kernel
theorem dX11_value_34 : decode cX11_value 34 = .ok (.athrow, 1) := by decide +kernel
theorem dX11_value_35 : decode cX11_value 35 = .ok (.aload_n 0, 1) := by decide +kernel
theorem dX11_value_36 : decode cX11_value 36 = .ok (.invokevirtual 184, 3) := by decide +kernel
theorem dX11_value_39 : decode cX11_value 39 = .ok (.aload_n 0, 1) := by decide +kernel
theorem dX11_value_40 : decode cX11_value 40 = .ok (.getfield 60, 3) := by decide +kernel
theorem dX11_value_43 : decode cX11_value 43 = .ok (.getfield 261, 3) := by decide +kernel
theorem dX11_value_46 : decode cX11_value 46 = .ok (.iload_n 1, 1) := by decide +kernel
theorem dX11_value_47 : decode cX11_value 47 = .ok (.invokestatic 243, 3) := by decide +kernel
theorem dX11_value_50 : decode cX11_value 50 = .ok (.ireturn, 1) := by decide +kernel
theorem dX11_cell_0 : decode cX11_cell 0 = .ok (.aload_n 0, 1) := by decide +kernel
theorem dX11_cell_1 : decode cX11_cell 1 = .ok (.getfield 162, 3) := by decide +kernel
theorem dX11_cell_4 : decode cX11_cell 4 = .ok (.ifCond .eq 33, 3) := by decide +kernel
theorem dX11_cell_7 : decode cX11_cell 7 = .ok (.iload_n 1, 1) := by decide +kernel
theorem dX11_cell_8 : decode cX11_cell 8 = .ok (.ifCond .lt 29, 3) := by decide +kernel
theorem dX11_cell_11 : decode cX11_cell 11 = .ok (.iload_n 1, 1) := by decide +kernel
theorem dX11_cell_12 : decode cX11_cell 12 = .ok (.aload_n 0, 1) := by decide +kernel
theorem dX11_cell_13 : decode cX11_cell 13 = .ok (.getfield 39, 3) := by decide +kernel
theorem dX11_cell_16 : decode cX11_cell 16 = .ok (.getfield 158, 3) := by decide +kernel
theorem dX11_cell_19 : decode cX11_cell 19 = .ok (.iconst 3, 1) := by decide +kernel
theorem dX11_cell_20 : decode cX11_cell 20 = .ok (.iaload, 1) := by decide +kernel
theorem dX11_cell_21 : decode cX11_cell 21 = .ok (.if_icmp .ge 16, 3) := by decide +kernel
theorem dX11_cell_24 : decode cX11_cell 24 = .ok (.aload_n 0, 1) := by decide +kernel
theorem dX11_cell_25 : decode cX11_cell 25 = .ok (.getfield 39, 3) := by decide +kernel
theorem dX11_cell_28 : decode cX11_cell 28 = .ok (.iload_n 1, 1) := by decide +kernel
theorem dX11_cell_29 : decode cX11_cell 29 = .ok (.iload_n 2, 1) := by decide +kernel
theorem dX11_cell_30 : decode cX11_cell 30 = .ok (.invokevirtual 264, 3) := by decide +kernel
theorem dX11_cell_33 : decode cX11_cell 33 = .ok (.iconst (-1), 1) := by decide +kernel
theorem dX11_cell_34 : decode cX11_cell 34 = .ok (.if_icmp .ne 14, 3) := by decide +kernel
theorem dX11_cell_37 : decode cX11_cell 37 = .ok (.new 223, 3) := by decide +kernel
theorem dX11_cell_40 : decode cX11_cell 40 = .ok (.dup, 1) := by decide +kernel
theorem dX11_cell_41 : decode cX11_cell 41 = .ok (.ldc_w 267, 3) := by decide +kernel
theorem dX11_cell_44 : decode cX11_cell 44 = .ok (.invokespecial 227, 3) := by decide +kernel
theorem dX11_cell_47 : decode cX11_cell 47 = .ok (.athrow, 1) := by decide +kernel
theorem dX11_cell_48 : decode cX11_cell 48 = .ok (.aload_n 0, 1) := by decide +kernel
theorem dX11_cell_49 : decode cX11_cell 49 = .ok (.invokevirtual 184, 3) := by decide +kernel
theorem dX11_cell_52 : decode cX11_cell 52 = .ok (.aload_n 0, 1) := by decide +kernel
theorem dX11_cell_53 : decode cX11_cell 53 = .ok (.getfield 60, 3) := by decide +kernel
theorem dX11_cell_56 : decode cX11_cell 56 = .ok (.getfield 269, 3) := by decide +kernel
theorem dX11_cell_59 : decode cX11_cell 59 = .ok (.aload_n 0, 1) := by decide +kernel
theorem dX11_cell_60 : decode cX11_cell 60 = .ok (.getfield 39, 3) := by decide +kernel
theorem dX11_cell_63 : decode cX11_cell 63 = .ok (.iload_n 1, 1) := by decide +kernel
theorem dX11_cell_64 : decode cX11_cell 64 = .ok (.iload_n 2, 1) := by decide +kernel
theorem dX11_cell_65 : decode cX11_cell 65 = .ok (.invokevirtual 264, 3) := by decide +kernel
theorem dX11_cell_68 : decode cX11_cell 68 = .ok (.invokestatic 243, 3) := by decide +kernel
theorem dX11_cell_71 : decode cX11_cell 71 = .ok (.ireturn, 1) := by decide +kernel
theorem dX11_told_0 : decode cX11_told 0 = .ok (.iload_n 1, 1) := by decide +kernel
theorem dX11_told_1 : decode cX11_told 1 = .ok (.ifCond .lt 9, 3) := by decide +kernel
theorem dX11_told_4 : decode cX11_told 4 = .ok (.iload_n 1, 1) := by decide +kernel
theorem dX11_told_5 : decode cX11_told 5 = .ok (.bipush 11, 2) := by decide +kernel
theorem dX11_told_7 : decode cX11_told 7 = .ok (.if_icmp .le 14, 3) := by decide +kernel
theorem dX11_told_10 : decode cX11_told 10 = .ok (.new 95, 3) := by decide +kernel
theorem dX11_told_13 : decode cX11_told 13 = .ok (.dup, 1) := by decide +kernel
theorem dX11_told_14 : decode cX11_told 14 = .ok (.ldc_w 272, 3) := by decide +kernel
theorem dX11_told_17 : decode cX11_told 17 = .ok (.invokespecial 99, 3) := by decide +kernel
theorem dX11_told_20 : decode cX11_told 20 = .ok (.athrow, 1) := by decide +kernel
theorem dX11_told_21 : decode cX11_told 21 = .ok (.aload_n 0, 1) := by decide +kernel
theorem dX11_told_22 : decode cX11_told 22 = .ok (.getfield 162, 3) := by decide +kernel
theorem dX11_told_25 : decode cX11_told 25 = .ok (.ifCond .ne 5, 3) := by decide +kernel
theorem dX11_told_28 : decode cX11_told 28 = .ok (.iconst 0, 1) := by decide +kernel
theorem dX11_told_29 : decode cX11_told 29 = .ok (.ireturn, 1) := by decide +kernel
theorem dX11_told_30 : decode cX11_told 30 = .ok (.iload_n 1, 1) := by decide +kernel
theorem dX11_told_31 : decode cX11_told 31 = .ok (.bipush 7, 2) := by decide +kernel
theorem dX11_told_33 : decode cX11_told 33 = .ok (.if_icmp .ge 15, 3) := by decide +kernel
theorem dX11_told_36 : decode cX11_told 36 = .ok (.aload_n 0, 1) := by decide +kernel
theorem dX11_told_37 : decode cX11_told 37 = .ok (.getfield 39, 3) := by decide +kernel
theorem dX11_told_40 : decode cX11_told 40 = .ok (.getfield 158, 3) := by decide +kernel
theorem dX11_told_43 : decode cX11_told 43 = .ok (.iload_n 1, 1) := by decide +kernel
theorem dX11_told_44 : decode cX11_told 44 = .ok (.invokestatic 243, 3) := by decide +kernel
theorem dX11_told_47 : decode cX11_told 47 = .ok (.ireturn, 1) := by decide +kernel
theorem dX11_told_48 : decode cX11_told 48 = .ok (.aload_n 0, 1) := by decide +kernel
theorem dX11_told_49 : decode cX11_told 49 = .ok (.getfield 178, 3) := by decide +kernel
theorem dX11_told_52 : decode cX11_told 52 = .ok (.ifCond .ne 5, 3) := by decide +kernel
theorem dX11_told_55 : decode cX11_told 55 = .ok (.iconst 0, 1) := by decide +kernel
theorem dX11_told_56 : decode cX11_told 56 = .ok (.ireturn, 1) := by decide +kernel
theorem dX11_told_57 : decode cX11_told 57 = .ok (.iload_n 1, 1) := by decide +kernel
theorem dX11_told_58 : decode cX11_told 58 = .ok (.tableswitch 59 7 10 #[30, 38, 46, 54], 30) := by decide +kernel
theorem dX11_told_88 : decode cX11_told 88 = .ok (.aload_n 0, 1) := by decide +kernel
theorem dX11_told_89 : decode cX11_told 89 = .ok (.getfield 60, 3) := by decide +kernel
theorem dX11_told_92 : decode cX11_told 92 = .ok (.getfield 274, 3) := by decide +kernel
theorem dX11_told_95 : decode cX11_told 95 = .ok (.ireturn, 1) := by decide +kernel
theorem dX11_told_96 : decode cX11_told 96 = .ok (.aload_n 0, 1) := by decide +kernel
theorem dX11_told_97 : decode cX11_told 97 = .ok (.getfield 60, 3) := by decide +kernel
theorem dX11_told_100 : decode cX11_told 100 = .ok (.getfield 195, 3) := by decide +kernel
theorem dX11_told_103 : decode cX11_told 103 = .ok (.ireturn, 1) := by decide +kernel
theorem dX11_told_104 : decode cX11_told 104 = .ok (.aload_n 0, 1) := by decide +kernel
theorem dX11_told_105 : decode cX11_told 105 = .ok (.getfield 60, 3) := by decide +kernel
theorem dX11_told_108 : decode cX11_told 108 = .ok (.getfield 277, 3) := by decide +kernel
theorem dX11_told_111 : decode cX11_told 111 = .ok (.ireturn, 1) := by decide +kernel
theorem dX11_told_112 : decode cX11_told 112 = .ok (.aload_n 0, 1) := by decide +kernel
theorem dX11_told_113 : decode cX11_told 113 = .ok (.getfield 171, 3) := by decide +kernel
theorem dX11_told_116 : decode cX11_told 116 = .ok (.ireturn, 1) := by decide +kernel
theorem dX11_told_117 : decode cX11_told 117 = .ok (.aload_n 0, 1) := by decide +kernel
theorem dX11_told_118 : decode cX11_told 118 = .ok (.getfield 60, 3) := by decide +kernel
theorem dX11_told_121 : decode cX11_told 121 = .ok (.getfield 280, 3) := by decide +kernel
theorem dX11_told_124 : decode cX11_told 124 = .ok (.ireturn, 1) := by decide +kernel
theorem dX11_size_0 : decode cX11_size 0 = .ok (.aload_n 0, 1) := by decide +kernel
theorem dX11_size_1 : decode cX11_size 1 = .ok (.getfield 53, 3) := by decide +kernel
theorem dX11_size_4 : decode cX11_size 4 = .ok (.getfield 220, 3) := by decide +kernel
theorem dX11_size_7 : decode cX11_size 7 = .ok (.ireturn, 1) := by decide +kernel
theorem dX11_place_0 : decode cX11_place 0 = .ok (.aload_n 0, 1) := by decide +kernel
theorem dX11_place_1 : decode cX11_place 1 = .ok (.getfield 46, 3) := by decide +kernel
theorem dX11_place_4 : decode cX11_place 4 = .ok (.ireturn, 1) := by decide +kernel
theorem dX11_sound_0 : decode cX11_sound 0 = .ok (.aload_n 0, 1) := by decide +kernel
theorem dX11_sound_1 : decode cX11_sound 1 = .ok (.getfield 162, 3) := by decide +kernel
theorem dX11_sound_4 : decode cX11_sound 4 = .ok (.ifCond .ne 5, 3) := by decide +kernel
theorem dX11_sound_7 : decode cX11_sound 7 = .ok (.iconst 1, 1) := by decide +kernel
theorem dX11_sound_8 : decode cX11_sound 8 = .ok (.ireturn, 1) := by decide +kernel
theorem dX11_sound_9 : decode cX11_sound 9 = .ok (.aload_n 0, 1) := by decide +kernel
theorem dX11_sound_10 : decode cX11_sound 10 = .ok (.getfield 39, 3) := by decide +kernel
theorem dX11_sound_13 : decode cX11_sound 13 = .ok (.getfield 283, 3) := by decide +kernel
theorem dX11_sound_16 : decode cX11_sound 16 = .ok (.invokevirtual 287, 3) := by decide +kernel
theorem dX11_sound_19 : decode cX11_sound 19 = .ok (.ifCond .eq 36, 3) := by decide +kernel
theorem dX11_sound_22 : decode cX11_sound 22 = .ok (.aload_n 0, 1) := by decide +kernel
theorem dX11_sound_23 : decode cX11_sound 23 = .ok (.getfield 39, 3) := by decide +kernel
theorem dX11_sound_26 : decode cX11_sound 26 = .ok (.getfield 127, 3) := by decide +kernel
theorem dX11_sound_29 : decode cX11_sound 29 = .ok (.aload_n 0, 1) := by decide +kernel
theorem dX11_sound_30 : decode cX11_sound 30 = .ok (.getfield 39, 3) := by decide +kernel
theorem dX11_sound_33 : decode cX11_sound 33 = .ok (.getfield 158, 3) := by decide +kernel
theorem dX11_sound_36 : decode cX11_sound 36 = .ok (.invokevirtual 292, 3) := by decide +kernel
theorem dX11_sound_39 : decode cX11_sound 39 = .ok (.ifCond .eq 16, 3) := by decide +kernel
theorem dX11_sound_42 : decode cX11_sound 42 = .ok (.aload_n 0, 1) := by decide +kernel
theorem dX11_sound_43 : decode cX11_sound 43 = .ok (.getfield 39, 3) := by decide +kernel
theorem dX11_sound_46 : decode cX11_sound 46 = .ok (.getfield 146, 3) := by decide +kernel
theorem dX11_sound_49 : decode cX11_sound 49 = .ok (.invokevirtual 296, 3) := by decide +kernel
theorem dX11_sound_52 : decode cX11_sound 52 = .ok (.ifCond .ne 5, 3) := by decide +kernel
theorem dX11_sound_55 : decode cX11_sound 55 = .ok (.iconst 0, 1) := by decide +kernel
theorem dX11_sound_56 : decode cX11_sound 56 = .ok (.ireturn, 1) := by decide +kernel
theorem dX11_sound_57 : decode cX11_sound 57 = .ok (.aload_n 0, 1) := by decide +kernel
theorem dX11_sound_58 : decode cX11_sound 58 = .ok (.getfield 178, 3) := by decide +kernel
theorem dX11_sound_61 : decode cX11_sound 61 = .ok (.ifCond .ne 5, 3) := by decide +kernel
theorem dX11_sound_64 : decode cX11_sound 64 = .ok (.iconst 1, 1) := by decide +kernel
theorem dX11_sound_65 : decode cX11_sound 65 = .ok (.ireturn, 1) := by decide +kernel
theorem dX11_sound_66 : decode cX11_sound 66 = .ok (.aload_n 0, 1) := by decide +kernel
theorem dX11_sound_67 : decode cX11_sound 67 = .ok (.getfield 60, 3) := by decide +kernel
theorem dX11_sound_70 : decode cX11_sound 70 = .ok (.aload_n 0, 1) := by decide +kernel
theorem dX11_sound_71 : decode cX11_sound 71 = .ok (.getfield 39, 3) := by decide +kernel
theorem dX11_sound_74 : decode cX11_sound 74 = .ok (.getfield 158, 3) := by decide +kernel
theorem dX11_sound_77 : decode cX11_sound 77 = .ok (.iconst 0, 1) := by decide +kernel
theorem dX11_sound_78 : decode cX11_sound 78 = .ok (.iaload, 1) := by decide +kernel
theorem dX11_sound_79 : decode cX11_sound 79 = .ok (.invokevirtual 299, 3) := by decide +kernel
theorem dX11_sound_82 : decode cX11_sound 82 = .ok (.ifCond .eq 27, 3) := by decide +kernel
theorem dX11_sound_85 : decode cX11_sound 85 = .ok (.aload_n 0, 1) := by decide +kernel
theorem dX11_sound_86 : decode cX11_sound 86 = .ok (.getfield 60, 3) := by decide +kernel
theorem dX11_sound_89 : decode cX11_sound 89 = .ok (.getfield 195, 3) := by decide +kernel
theorem dX11_sound_92 : decode cX11_sound 92 = .ok (.ifCond .ne 13, 3) := by decide +kernel
theorem dX11_sound_95 : decode cX11_sound 95 = .ok (.aload_n 0, 1) := by decide +kernel
theorem dX11_sound_96 : decode cX11_sound 96 = .ok (.getfield 69, 3) := by decide +kernel
theorem dX11_sound_99 : decode cX11_sound 99 = .ok (.invokevirtual 302, 3) := by decide +kernel
theorem dX11_sound_102 : decode cX11_sound 102 = .ok (.ifCond .eq 7, 3) := by decide +kernel
theorem dX11_sound_105 : decode cX11_sound 105 = .ok (.iconst 1, 1) := by decide +kernel
theorem dX11_sound_106 : decode cX11_sound 106 = .ok (.goto 4, 3) := by decide +kernel
theorem dX11_sound_109 : decode cX11_sound 109 = .ok (.iconst 0, 1) := by decide +kernel
theorem dX11_sound_110 : decode cX11_sound 110 = .ok (.ireturn, 1) := by decide +kernel
theorem dX11_out_0 : decode cX11_out 0 = .ok (.iload_n 1, 1) := by decide +kernel
theorem dX11_out_1 : decode cX11_out 1 = .ok (.ifCond .lt 14, 3) := by decide +kernel
theorem dX11_out_4 : decode cX11_out 4 = .ok (.iload_n 1, 1) := by decide +kernel
theorem dX11_out_5 : decode cX11_out 5 = .ok (.aload_n 0, 1) := by decide +kernel
theorem dX11_out_6 : decode cX11_out 6 = .ok (.getfield 53, 3) := by decide +kernel
theorem dX11_out_9 : decode cX11_out 9 = .ok (.getfield 220, 3) := by decide +kernel
theorem dX11_out_12 : decode cX11_out 12 = .ok (.if_icmp .lt 13, 3) := by decide +kernel
theorem dX11_out_15 : decode cX11_out 15 = .ok (.new 223, 3) := by decide +kernel
theorem dX11_out_18 : decode cX11_out 18 = .ok (.dup, 1) := by decide +kernel
theorem dX11_out_19 : decode cX11_out 19 = .ok (.ldc 225, 2) := by decide +kernel
theorem dX11_out_21 : decode cX11_out 21 = .ok (.invokespecial 227, 3) := by decide +kernel
theorem dX11_out_24 : decode cX11_out 24 = .ok (.athrow, 1) := by decide +kernel
theorem dX11_out_25 : decode cX11_out 25 = .ok (.aload_n 0, 1) := by decide +kernel
theorem dX11_out_26 : decode cX11_out 26 = .ok (.getfield 53, 3) := by decide +kernel
theorem dX11_out_29 : decode cX11_out 29 = .ok (.getfield 228, 3) := by decide +kernel
theorem dX11_out_32 : decode cX11_out 32 = .ok (.iload_n 1, 1) := by decide +kernel
theorem dX11_out_33 : decode cX11_out 33 = .ok (.baload, 1) := by decide +kernel
theorem dX11_out_34 : decode cX11_out 34 = .ok (.ireturn, 1) := by decide +kernel
abbrev ww_X11_needPlay (cB cC cI cJ cZ cP : ClassId) (h0 : Nat) (f_tape : Nat) (f_words : Nat) (f_grammar : Nat) (f_meanings : Nat) (f_story : Nat) (f_draft : Nat) (f_told : Nat) (f_play : Nat) (f_machine : Nat) (f_teller : Nat) (f_saved : Nat) (f_isSaved : Nat) (f_past : Nat) : va_W := [(h0, .inr (11, [.ref f_tape, .int 0, .ref f_words, .ref f_grammar, .ref f_meanings, .ref f_story, .ref f_draft, .int 0, .int 0, .int (-1), .ref f_told, .ref f_play, .ref f_machine, .ref f_teller, .ref f_saved, .ref f_isSaved, .ref f_past, .int 0, .int 0]))]
abbrev q_X11_needPlay (dC : Nat → ClassId) (dI : Nat → Nat → Nat) (cB cC cI cJ cZ cP : ClassId) (h0 : Nat) (f_tape : Nat) (f_words : Nat) (f_grammar : Nat) (f_meanings : Nat) (f_story : Nat) (f_draft : Nat) (f_told : Nat) (f_play : Nat) (f_machine : Nat) (f_teller : Nat) (f_saved : Nat) (f_isSaved : Nat) (f_past : Nat) (A : Nat → Prop) : Array Value → State → Outcome → State → Prop := va_Qv (fun (_ : Unit) => False) (g_Bo (dC, dI) A (fun (_ : Unit) => [(h0, .inr (11, [.ref f_tape, .int 0, .ref f_words, .ref f_grammar, .ref f_meanings, .ref f_story, .ref f_draft, .int 0, .int 0, .int (-1), .ref f_told, .ref f_play, .ref f_machine, .ref f_teller, .ref f_saved, .ref f_isSaved, .ref f_past, .int 0, .int 0]))])) A
set_option maxHeartbeats 4000000 in
set_option maxRecDepth 100000 in
theorem c_X11_needPlay (l : Launch) (dC : Nat → ClassId) (dI : Nat → Nat → Nat) (cB cC cI cJ cZ cP : ClassId) (hfl : l.stackTraces = false) (sz : Nat) (h0 : Nat) (f_tape : Nat) (f_words : Nat) (f_grammar : Nat) (f_meanings : Nat) (f_story : Nat) (f_draft : Nat) (f_told : Nat) (f_play : Nat) (f_machine : Nat) (f_teller : Nat) (f_saved : Nat) (f_isSaved : Nat) (f_past : Nat)  : vx_Met l yX11_needPlay (g_ws yX11_needPlay cX11_needPlay 1 none) ({ frames := 6, cells := 1, slots := 6, locals := 90 }) (va_Pc [.ref h0] (g_B (dC, dI) [(cB, .byte), (cC, .char), (cI, .int), (cJ, .long), (cZ, .boolean), (cP, .object "StoryHouse$Play")] sz (ww_X11_needPlay cB cC cI cJ cZ cP h0 f_tape f_words f_grammar f_meanings f_story f_draft f_told f_play f_machine f_teller f_saved f_isSaved f_past) g_0)) (q_X11_needPlay dC dI cB cC cI cJ cZ cP h0 f_tape f_words f_grammar f_meanings f_story f_draft f_told f_play f_machine f_teller f_saved f_isSaved f_past (va_A (ww_X11_needPlay cB cC cI cJ cZ cP h0 f_tape f_words f_grammar f_meanings f_story f_draft f_told f_play f_machine f_teller f_saved f_isSaved f_past) sz)) (g_X (dC, dI) (va_A (ww_X11_needPlay cB cC cI cJ cZ cP h0 f_tape f_words f_grammar f_meanings f_story f_draft f_told f_play f_machine f_teller f_saved f_isSaved f_past) sz) [(h0, .inr (11, [.ref f_tape, .int 0, .ref f_words, .ref f_grammar, .ref f_meanings, .ref f_story, .ref f_draft, .int 0, .int 0, .int (-1), .ref f_told, .ref f_play, .ref f_machine, .ref f_teller, .ref f_saved, .ref f_isSaved, .ref f_past, .int 0, .int 0]))] (fun E : String => E = "java/lang/IllegalStateException")) 1 6 (va_A (ww_X11_needPlay cB cC cI cJ cZ cP h0 f_tape f_words f_grammar f_meanings f_story f_draft f_told f_play f_machine f_teller f_saved f_isSaved f_past) sz) := by
  refine vx_ofW (cc := cX11_needPlay) (maxL := 1) (ret := none) (by decide) rfl ?_
  intro p e s m args below meth c s₁ B hml htab hv
  obtain ⟨rfl, hsz, hP, hK, hD0, hE, hX⟩ := hv
  have hx := B.exec
  have hb := B.bytes
  have hr := B.returns
  have hts0 := atoms_spec (ws := (g_ws yX11_needPlay cX11_needPlay 1 none)) B.pre
  have hts : ∀ w ∈ lw_good, w.before ([.ref h0] : List Value).toArray s = true := fun w h => hts0 w (List.mem_cons_of_mem _ h)
  have hown : s.vm.findClass RX11 = some m.cls := findClass_of_methodNamed B.named
  have hlocks := B.notSynchronized
  subst hsz
  have hD := hD0.self (sz := s.heap.size)
  generalize hAe : va_A (ww_X11_needPlay cB cC cI cJ cZ cP h0 f_tape f_words f_grammar f_meanings f_story f_draft f_told f_play f_machine f_teller f_saved f_isSaved f_past) s.heap.size = A at hD hE hX ⊢
  have hA : ∀ q : Nat, s.heap.size ≤ q → A q := fun q h => by rw [← hAe]; exact Or.inr h
  have hN := hE.1
  have hS : va_S A s.heap s.heap [] := va_S.rf
  have hP : va_P (dC, dI) vwCl [(h0, .inr (11, [.ref f_tape, .int 0, .ref f_words, .ref f_grammar, .ref f_meanings, .ref f_story, .ref f_draft, .int 0, .int 0, .int (-1), .ref f_told, .ref f_play, .ref f_machine, .ref f_teller, .ref f_saved, .ref f_isSaved, .ref f_past, .int 0, .int 0]))] s.heap := hP
  have hl := lv_entry ([.ref h0]) (n := 1) (Nat.le_of_ble_eq_true rfl)
  rw [lg_entry_eq]
  generalize (lg_sl ([.ref h0]) ++ List.replicate (1 - (lg_sl ([.ref h0])).length) Slot.unset).toArray = ls at hl ⊢
  have hl : lv_has ls 1 [(0, .ref h0)] := hl
  refine lv_aload_n hx hb dX11_needPlay_0 rfl (lv_at hl 0 rfl) ?_
  refine va_get (D := (dC, dI)) (ci := 11) (v := .int 0) (C := RX11) (T := TX11) (N := 19) hx hb hts ii_X11 hown hK hP 0 rfl rfl 8 (by decide) (hts (.fieldLink RX11 178 "StoryHouse" "playing" "Z") wq_311) (fun _ h9 => h9) rfl dX11_needPlay_1 ?_
  refine lv_if_ne (tgt := 18) hx hb dX11_needPlay_4 (by decide) (fun c_1 => absurd c_1 (by decide +kernel)) (fun c_1 => ?_)
  obtain ⟨q_2, vq_2, hRq_2, hSq_2⟩ := hE.2.2.2.2 _ (List.mem_of_getElem? (i := 35) rfl)
  have hPx := hP.sub (ws' := [(h0, .inr (11, [.ref f_tape, .int 0, .ref f_words, .ref f_grammar, .ref f_meanings, .ref f_story, .ref f_draft, .int 0, .int 0, .int (-1), .ref f_told, .ref f_play, .ref f_machine, .ref f_teller, .ref f_saved, .ref f_isSaved, .ref f_past, .int 0, .int 0]))]) [0] rfl
  have hDx := hD.sub (ws' := [(h0, .inr (11, [.ref f_tape, .int 0, .ref f_words, .ref f_grammar, .ref f_meanings, .ref f_story, .ref f_draft, .int 0, .int 0, .int (-1), .ref f_told, .ref f_play, .ref f_machine, .ref f_teller, .ref f_saved, .ref f_isSaved, .ref f_past, .int 0, .int 0]))]) [0] (by decide +kernel) rfl
  exact vx_throwSW hx hb hfl (own := RX11) (cls := "java/lang/IllegalStateException") (text := "nothing is played") (names := ["java/lang/RuntimeException", "java/lang/Exception"]) (A := A) hown (by decide +kernel) (by decide +kernel) (hts (.classLink RX11 115 "java/lang/IllegalStateException") wq_942) (hts (.initialized "java/lang/IllegalStateException") wq_18) hRq_2 (g_bad hN (fun w h => hts w (wx_119 w h)) (by decide +kernel) (g_badB hN (List.mem_of_getElem? (i := 1) rfl))) (by decide +kernel) hE.2.1 hE.2.2.1 hS (hl.1.trans hml.symm) dX11_needPlay_7 dX11_needPlay_10 dX11_needPlay_11 dX11_needPlay_14 dX11_needPlay_17 (fun x hx => (htab x hx).elim) (by decide) (by decide) (Nat.le_of_ble_eq_true rfl) (Nat.le_of_ble_eq_true rfl) hlocks (g_thr hPx hDx hS (by first | rfl | trivial | assumption | exact ⟨rfl, by assumption⟩)) hS.2.2 (Nat.le_of_ble_eq_true rfl) (Nat.le_of_ble_eq_true rfl)

abbrev ww_X11_needPlace (cB cC cI cJ cZ cP : ClassId) (h0 : Nat) (f_tape : Nat) (f_words : Nat) (f_grammar : Nat) (f_meanings : Nat) (f_story : Nat) (f_draft : Nat) (f_told : Nat) (f_play : Nat) (f_machine : Nat) (f_teller : Nat) (f_saved : Nat) (f_isSaved : Nat) (f_past : Nat) (pl : Int32) : va_W := [(h0, .inr (11, [.ref f_tape, .int 0, .ref f_words, .ref f_grammar, .ref f_meanings, .ref f_story, .ref f_draft, .int 0, .int 0, .int (-1), .ref f_told, .ref f_play, .ref f_machine, .ref f_teller, .ref f_saved, .ref f_isSaved, .ref f_past, .int 0, .int 0]))]
abbrev q_X11_needPlace (dC : Nat → ClassId) (dI : Nat → Nat → Nat) (cB cC cI cJ cZ cP : ClassId) (h0 : Nat) (f_tape : Nat) (f_words : Nat) (f_grammar : Nat) (f_meanings : Nat) (f_story : Nat) (f_draft : Nat) (f_told : Nat) (f_play : Nat) (f_machine : Nat) (f_teller : Nat) (f_saved : Nat) (f_isSaved : Nat) (f_past : Nat) (pl : Int32) (A : Nat → Prop) : Array Value → State → Outcome → State → Prop := va_Qv (fun (_ : Unit) => ¬ pl < 0 ∧ pl < 4) (g_Bo (dC, dI) A (fun (_ : Unit) => [(h0, .inr (11, [.ref f_tape, .int 0, .ref f_words, .ref f_grammar, .ref f_meanings, .ref f_story, .ref f_draft, .int 0, .int 0, .int (-1), .ref f_told, .ref f_play, .ref f_machine, .ref f_teller, .ref f_saved, .ref f_isSaved, .ref f_past, .int 0, .int 0]))])) A
set_option maxHeartbeats 4000000 in
set_option maxRecDepth 100000 in
theorem c_X11_needPlace (l : Launch) (dC : Nat → ClassId) (dI : Nat → Nat → Nat) (cB cC cI cJ cZ cP : ClassId) (hfl : l.stackTraces = false) (sz : Nat) (h0 : Nat) (f_tape : Nat) (f_words : Nat) (f_grammar : Nat) (f_meanings : Nat) (f_story : Nat) (f_draft : Nat) (f_told : Nat) (f_play : Nat) (f_machine : Nat) (f_teller : Nat) (f_saved : Nat) (f_isSaved : Nat) (f_past : Nat) (pl : Int32)  : vx_Met l yX11_needPlace (g_ws yX11_needPlace cX11_needPlace 2 none) ({ frames := 6, cells := 1, slots := 6, locals := 90 }) (va_Pc [.ref h0, .int pl] (g_B (dC, dI) [(cB, .byte), (cC, .char), (cI, .int), (cJ, .long), (cZ, .boolean), (cP, .object "StoryHouse$Play")] sz (ww_X11_needPlace cB cC cI cJ cZ cP h0 f_tape f_words f_grammar f_meanings f_story f_draft f_told f_play f_machine f_teller f_saved f_isSaved f_past pl) g_0)) (q_X11_needPlace dC dI cB cC cI cJ cZ cP h0 f_tape f_words f_grammar f_meanings f_story f_draft f_told f_play f_machine f_teller f_saved f_isSaved f_past pl (va_A (ww_X11_needPlace cB cC cI cJ cZ cP h0 f_tape f_words f_grammar f_meanings f_story f_draft f_told f_play f_machine f_teller f_saved f_isSaved f_past pl) sz)) (g_X (dC, dI) (va_A (ww_X11_needPlace cB cC cI cJ cZ cP h0 f_tape f_words f_grammar f_meanings f_story f_draft f_told f_play f_machine f_teller f_saved f_isSaved f_past pl) sz) [(h0, .inr (11, [.ref f_tape, .int 0, .ref f_words, .ref f_grammar, .ref f_meanings, .ref f_story, .ref f_draft, .int 0, .int 0, .int (-1), .ref f_told, .ref f_play, .ref f_machine, .ref f_teller, .ref f_saved, .ref f_isSaved, .ref f_past, .int 0, .int 0]))] (fun E : String => E = "java/lang/IndexOutOfBoundsException" ∧ (pl < 0 ∨ ¬ pl < 4))) 1 6 (va_A (ww_X11_needPlace cB cC cI cJ cZ cP h0 f_tape f_words f_grammar f_meanings f_story f_draft f_told f_play f_machine f_teller f_saved f_isSaved f_past pl) sz) := by
  refine vx_ofW (cc := cX11_needPlace) (maxL := 2) (ret := none) (by decide) rfl ?_
  intro p e s m args below meth c s₁ B hml htab hv
  obtain ⟨rfl, hsz, hP, hK, hD0, hE, hX⟩ := hv
  have hx := B.exec
  have hb := B.bytes
  have hr := B.returns
  have hts0 := atoms_spec (ws := (g_ws yX11_needPlace cX11_needPlace 2 none)) B.pre
  have hts : ∀ w ∈ lw_good, w.before ([.ref h0, .int pl] : List Value).toArray s = true := fun w h => hts0 w (List.mem_cons_of_mem _ h)
  have hown : s.vm.findClass RX11 = some m.cls := findClass_of_methodNamed B.named
  have hlocks := B.notSynchronized
  subst hsz
  have hD := hD0.self (sz := s.heap.size)
  generalize hAe : va_A (ww_X11_needPlace cB cC cI cJ cZ cP h0 f_tape f_words f_grammar f_meanings f_story f_draft f_told f_play f_machine f_teller f_saved f_isSaved f_past pl) s.heap.size = A at hD hE hX ⊢
  have hA : ∀ q : Nat, s.heap.size ≤ q → A q := fun q h => by rw [← hAe]; exact Or.inr h
  have hN := hE.1
  have hS : va_S A s.heap s.heap [] := va_S.rf
  have hP : va_P (dC, dI) vwCl [(h0, .inr (11, [.ref f_tape, .int 0, .ref f_words, .ref f_grammar, .ref f_meanings, .ref f_story, .ref f_draft, .int 0, .int 0, .int (-1), .ref f_told, .ref f_play, .ref f_machine, .ref f_teller, .ref f_saved, .ref f_isSaved, .ref f_past, .int 0, .int 0]))] s.heap := hP
  have hl := lv_entry ([.ref h0, .int pl]) (n := 2) (Nat.le_of_ble_eq_true rfl)
  rw [lg_entry_eq]
  generalize (lg_sl ([.ref h0, .int pl]) ++ List.replicate (2 - (lg_sl ([.ref h0, .int pl])).length) Slot.unset).toArray = ls at hl ⊢
  have hl : lv_has ls 2 [(0, .ref h0), (1, .int pl)] := hl
  refine lv_iload_n hx hb dX11_needPlace_0 rfl (lv_at hl 1 rfl) ?_
  refine lv_if_lt (tgt := 9) hx hb dX11_needPlace_1 (by decide) (fun c_1 => ?_) (fun c_1 => ?_)
  · obtain ⟨q_2, vq_2, hRq_2, hSq_2⟩ := hE.2.2.2.2 _ (List.mem_of_getElem? (i := 71) rfl)
    have hPx := hP.sub (ws' := [(h0, .inr (11, [.ref f_tape, .int 0, .ref f_words, .ref f_grammar, .ref f_meanings, .ref f_story, .ref f_draft, .int 0, .int 0, .int (-1), .ref f_told, .ref f_play, .ref f_machine, .ref f_teller, .ref f_saved, .ref f_isSaved, .ref f_past, .int 0, .int 0]))]) [0] rfl
    have hDx := hD.sub (ws' := [(h0, .inr (11, [.ref f_tape, .int 0, .ref f_words, .ref f_grammar, .ref f_meanings, .ref f_story, .ref f_draft, .int 0, .int 0, .int (-1), .ref f_told, .ref f_play, .ref f_machine, .ref f_teller, .ref f_saved, .ref f_isSaved, .ref f_past, .int 0, .int 0]))]) [0] (by decide +kernel) rfl
    exact vx_throwSW hx hb hfl (own := RX11) (cls := "java/lang/IndexOutOfBoundsException") (text := "there is no such place") (names := ["java/lang/RuntimeException", "java/lang/Exception"]) (A := A) hown (by decide +kernel) (by decide +kernel) (hts (.classLink RX11 223 "java/lang/IndexOutOfBoundsException") wq_1273) (hts (.initialized "java/lang/IndexOutOfBoundsException") wq_27) hRq_2 (g_bad hN (fun w h => hts w (wx_227 w h)) (by decide +kernel) (g_badB hN (List.mem_of_getElem? (i := 2) rfl))) (by decide +kernel) hE.2.1 hE.2.2.1 hS (hl.1.trans hml.symm) dX11_needPlace_9 dX11_needPlace_12 dX11_needPlace_13 dX11_needPlace_16 dX11_needPlace_19 (fun x hx => (htab x hx).elim) (by decide) (by decide) (Nat.le_of_ble_eq_true rfl) (Nat.le_of_ble_eq_true rfl) hlocks (g_thr hPx hDx hS ⟨rfl, by first | exact Or.inl (by assumption) | exact Or.inr (by assumption)⟩) hS.2.2 (Nat.le_of_ble_eq_true rfl) (Nat.le_of_ble_eq_true rfl)
  · refine lv_iload_n hx hb dX11_needPlace_4 rfl (lv_at hl 1 rfl) ?_
    refine lv_iconst (v := 4) hx hb dX11_needPlace_5 (by decide +kernel) ?_
    refine lv_icmp_lt (tgt := 20) hx hb dX11_needPlace_6 (by decide) (fun c_3 => ?_) (fun c_3 => ?_)
    · have hP9 := hP.sub (ws' := [(h0, .inr (11, [.ref f_tape, .int 0, .ref f_words, .ref f_grammar, .ref f_meanings, .ref f_story, .ref f_draft, .int 0, .int 0, .int (-1), .ref f_told, .ref f_play, .ref f_machine, .ref f_teller, .ref f_saved, .ref f_isSaved, .ref f_past, .int 0, .int 0]))]) [0] rfl
      have hD9 := hD.sub (ws' := [(h0, .inr (11, [.ref f_tape, .int 0, .ref f_words, .ref f_grammar, .ref f_meanings, .ref f_story, .ref f_draft, .int 0, .int 0, .int (-1), .ref f_told, .ref f_play, .ref f_machine, .ref f_teller, .ref f_saved, .ref f_isSaved, .ref f_past, .int 0, .int 0]))]) [0] (by decide +kernel) rfl
      refine W.widen (k := 1) (n := 6) (Nat.le_of_ble_eq_true rfl) (Nat.le_of_ble_eq_true rfl) ?_
      refine vx_ret ?_
      exact W.vret hx hb hr (fun t ht hW => ⟨⟨(), rfl, (⟨by assumption, by assumption⟩), by rw [ht]; exact hP9, hD9⟩, hS.F ht⟩) hS.2.2 dX11_needPlace_20
    · obtain ⟨q_4, vq_4, hRq_4, hSq_4⟩ := hE.2.2.2.2 _ (List.mem_of_getElem? (i := 71) rfl)
      have hPx := hP.sub (ws' := [(h0, .inr (11, [.ref f_tape, .int 0, .ref f_words, .ref f_grammar, .ref f_meanings, .ref f_story, .ref f_draft, .int 0, .int 0, .int (-1), .ref f_told, .ref f_play, .ref f_machine, .ref f_teller, .ref f_saved, .ref f_isSaved, .ref f_past, .int 0, .int 0]))]) [0] rfl
      have hDx := hD.sub (ws' := [(h0, .inr (11, [.ref f_tape, .int 0, .ref f_words, .ref f_grammar, .ref f_meanings, .ref f_story, .ref f_draft, .int 0, .int 0, .int (-1), .ref f_told, .ref f_play, .ref f_machine, .ref f_teller, .ref f_saved, .ref f_isSaved, .ref f_past, .int 0, .int 0]))]) [0] (by decide +kernel) rfl
      exact vx_throwSW hx hb hfl (own := RX11) (cls := "java/lang/IndexOutOfBoundsException") (text := "there is no such place") (names := ["java/lang/RuntimeException", "java/lang/Exception"]) (A := A) hown (by decide +kernel) (by decide +kernel) (hts (.classLink RX11 223 "java/lang/IndexOutOfBoundsException") wq_1273) (hts (.initialized "java/lang/IndexOutOfBoundsException") wq_27) hRq_4 (g_bad hN (fun w h => hts w (wx_227 w h)) (by decide +kernel) (g_badB hN (List.mem_of_getElem? (i := 2) rfl))) (by decide +kernel) hE.2.1 hE.2.2.1 hS (hl.1.trans hml.symm) dX11_needPlace_9 dX11_needPlace_12 dX11_needPlace_13 dX11_needPlace_16 dX11_needPlace_19 (fun x hx => (htab x hx).elim) (by decide) (by decide) (Nat.le_of_ble_eq_true rfl) (Nat.le_of_ble_eq_true rfl) hlocks (g_thr hPx hDx hS ⟨rfl, by first | exact Or.inl (by assumption) | exact Or.inr (by assumption)⟩) hS.2.2 (Nat.le_of_ble_eq_true rfl) (Nat.le_of_ble_eq_true rfl)

abbrev ww_X11_needObject (cB cC cI cJ cZ cP : ClassId) (h0 : Nat) (f_tape : Nat) (f_words : Nat) (f_grammar : Nat) (f_meanings : Nat) (f_story : Nat) (f_draft : Nat) (f_told : Nat) (f_play : Nat) (f_machine : Nat) (f_teller : Nat) (f_saved : Nat) (f_isSaved : Nat) (f_past : Nat) (ob : Int32) : va_W := [(h0, .inr (11, [.ref f_tape, .int 0, .ref f_words, .ref f_grammar, .ref f_meanings, .ref f_story, .ref f_draft, .int 0, .int 0, .int (-1), .ref f_told, .ref f_play, .ref f_machine, .ref f_teller, .ref f_saved, .ref f_isSaved, .ref f_past, .int 0, .int 0]))]
abbrev q_X11_needObject (dC : Nat → ClassId) (dI : Nat → Nat → Nat) (cB cC cI cJ cZ cP : ClassId) (h0 : Nat) (f_tape : Nat) (f_words : Nat) (f_grammar : Nat) (f_meanings : Nat) (f_story : Nat) (f_draft : Nat) (f_told : Nat) (f_play : Nat) (f_machine : Nat) (f_teller : Nat) (f_saved : Nat) (f_isSaved : Nat) (f_past : Nat) (ob : Int32) (A : Nat → Prop) : Array Value → State → Outcome → State → Prop := va_Qv (fun (_ : Unit) => False) (g_Bo (dC, dI) A (fun (_ : Unit) => [(h0, .inr (11, [.ref f_tape, .int 0, .ref f_words, .ref f_grammar, .ref f_meanings, .ref f_story, .ref f_draft, .int 0, .int 0, .int (-1), .ref f_told, .ref f_play, .ref f_machine, .ref f_teller, .ref f_saved, .ref f_isSaved, .ref f_past, .int 0, .int 0]))])) A
set_option maxHeartbeats 4000000 in
set_option maxRecDepth 100000 in
theorem c_X11_needObject (l : Launch) (dC : Nat → ClassId) (dI : Nat → Nat → Nat) (cB cC cI cJ cZ cP : ClassId) (hfl : l.stackTraces = false) (sz : Nat) (h0 : Nat) (f_tape : Nat) (f_words : Nat) (f_grammar : Nat) (f_meanings : Nat) (f_story : Nat) (f_draft : Nat) (f_told : Nat) (f_play : Nat) (f_machine : Nat) (f_teller : Nat) (f_saved : Nat) (f_isSaved : Nat) (f_past : Nat) (ob : Int32)  : vx_Met l yX11_needObject (g_ws yX11_needObject cX11_needObject 2 none) ({ frames := 6, cells := 1, slots := 6, locals := 90 }) (va_Pc [.ref h0, .int ob] (g_B (dC, dI) [(cB, .byte), (cC, .char), (cI, .int), (cJ, .long), (cZ, .boolean), (cP, .object "StoryHouse$Play")] sz (ww_X11_needObject cB cC cI cJ cZ cP h0 f_tape f_words f_grammar f_meanings f_story f_draft f_told f_play f_machine f_teller f_saved f_isSaved f_past ob) g_0)) (q_X11_needObject dC dI cB cC cI cJ cZ cP h0 f_tape f_words f_grammar f_meanings f_story f_draft f_told f_play f_machine f_teller f_saved f_isSaved f_past ob (va_A (ww_X11_needObject cB cC cI cJ cZ cP h0 f_tape f_words f_grammar f_meanings f_story f_draft f_told f_play f_machine f_teller f_saved f_isSaved f_past ob) sz)) (g_X (dC, dI) (va_A (ww_X11_needObject cB cC cI cJ cZ cP h0 f_tape f_words f_grammar f_meanings f_story f_draft f_told f_play f_machine f_teller f_saved f_isSaved f_past ob) sz) [(h0, .inr (11, [.ref f_tape, .int 0, .ref f_words, .ref f_grammar, .ref f_meanings, .ref f_story, .ref f_draft, .int 0, .int 0, .int (-1), .ref f_told, .ref f_play, .ref f_machine, .ref f_teller, .ref f_saved, .ref f_isSaved, .ref f_past, .int 0, .int 0]))] (fun E : String => E = "java/lang/IndexOutOfBoundsException")) 1 6 (va_A (ww_X11_needObject cB cC cI cJ cZ cP h0 f_tape f_words f_grammar f_meanings f_story f_draft f_told f_play f_machine f_teller f_saved f_isSaved f_past ob) sz) := by
  refine vx_ofW (cc := cX11_needObject) (maxL := 2) (ret := none) (by decide) rfl ?_
  intro p e s m args below meth c s₁ B hml htab hv
  obtain ⟨rfl, hsz, hP, hK, hD0, hE, hX⟩ := hv
  have hx := B.exec
  have hb := B.bytes
  have hr := B.returns
  have hts0 := atoms_spec (ws := (g_ws yX11_needObject cX11_needObject 2 none)) B.pre
  have hts : ∀ w ∈ lw_good, w.before ([.ref h0, .int ob] : List Value).toArray s = true := fun w h => hts0 w (List.mem_cons_of_mem _ h)
  have hown : s.vm.findClass RX11 = some m.cls := findClass_of_methodNamed B.named
  have hlocks := B.notSynchronized
  subst hsz
  have hD := hD0.self (sz := s.heap.size)
  generalize hAe : va_A (ww_X11_needObject cB cC cI cJ cZ cP h0 f_tape f_words f_grammar f_meanings f_story f_draft f_told f_play f_machine f_teller f_saved f_isSaved f_past ob) s.heap.size = A at hD hE hX ⊢
  have hA : ∀ q : Nat, s.heap.size ≤ q → A q := fun q h => by rw [← hAe]; exact Or.inr h
  have hN := hE.1
  have hS : va_S A s.heap s.heap [] := va_S.rf
  have hP : va_P (dC, dI) vwCl [(h0, .inr (11, [.ref f_tape, .int 0, .ref f_words, .ref f_grammar, .ref f_meanings, .ref f_story, .ref f_draft, .int 0, .int 0, .int (-1), .ref f_told, .ref f_play, .ref f_machine, .ref f_teller, .ref f_saved, .ref f_isSaved, .ref f_past, .int 0, .int 0]))] s.heap := hP
  have hl := lv_entry ([.ref h0, .int ob]) (n := 2) (Nat.le_of_ble_eq_true rfl)
  rw [lg_entry_eq]
  generalize (lg_sl ([.ref h0, .int ob]) ++ List.replicate (2 - (lg_sl ([.ref h0, .int ob])).length) Slot.unset).toArray = ls at hl ⊢
  have hl : lv_has ls 2 [(0, .ref h0), (1, .int ob)] := hl
  refine lv_aload_n hx hb dX11_needObject_0 rfl (lv_at hl 0 rfl) ?_
  refine va_get (D := (dC, dI)) (ci := 11) (v := .int 0) (C := RX11) (T := TX11) (N := 19) hx hb hts ii_X11 hown hK hP 0 rfl rfl 7 (by decide) (hts (.fieldLink RX11 162 "StoryHouse" "built" "Z") wq_310) (fun _ h9 => h9) rfl dX11_needObject_1 ?_
  refine lv_if_eq (tgt := 25) hx hb dX11_needObject_4 (by decide) (fun c_1 => ?_) (fun c_1 => absurd (by decide +kernel) c_1)
  obtain ⟨q_2, vq_2, hRq_2, hSq_2⟩ := hE.2.2.2.2 _ (List.mem_of_getElem? (i := 73) rfl)
  have hPx := hP.sub (ws' := [(h0, .inr (11, [.ref f_tape, .int 0, .ref f_words, .ref f_grammar, .ref f_meanings, .ref f_story, .ref f_draft, .int 0, .int 0, .int (-1), .ref f_told, .ref f_play, .ref f_machine, .ref f_teller, .ref f_saved, .ref f_isSaved, .ref f_past, .int 0, .int 0]))]) [0] rfl
  have hDx := hD.sub (ws' := [(h0, .inr (11, [.ref f_tape, .int 0, .ref f_words, .ref f_grammar, .ref f_meanings, .ref f_story, .ref f_draft, .int 0, .int 0, .int (-1), .ref f_told, .ref f_play, .ref f_machine, .ref f_teller, .ref f_saved, .ref f_isSaved, .ref f_past, .int 0, .int 0]))]) [0] (by decide +kernel) rfl
  exact vx_throwSW hx hb hfl (own := RX11) (cls := "java/lang/IndexOutOfBoundsException") (text := "there is no such object") (names := ["java/lang/RuntimeException", "java/lang/Exception"]) (A := A) hown (by decide +kernel) (by decide +kernel) (hts (.classLink RX11 223 "java/lang/IndexOutOfBoundsException") wq_1273) (hts (.initialized "java/lang/IndexOutOfBoundsException") wq_27) hRq_2 (g_bad hN (fun w h => hts w (wx_227 w h)) (by decide +kernel) (g_badB hN (List.mem_of_getElem? (i := 2) rfl))) (by decide +kernel) hE.2.1 hE.2.2.1 hS (hl.1.trans hml.symm) dX11_needObject_25 dX11_needObject_28 dX11_needObject_29 dX11_needObject_32 dX11_needObject_35 (fun x hx => (htab x hx).elim) (by decide) (by decide) (Nat.le_of_ble_eq_true rfl) (Nat.le_of_ble_eq_true rfl) hlocks (g_thr hPx hDx hS (by first | rfl | trivial | assumption | exact ⟨rfl, by assumption⟩)) hS.2.2 (Nat.le_of_ble_eq_true rfl) (Nat.le_of_ble_eq_true rfl)

abbrev ww_X11_begin (cB cC cI cJ cZ cP : ClassId) (h0 : Nat) (f_tape : Nat) (f_words : Nat) (f_grammar : Nat) (f_meanings : Nat) (f_story : Nat) (f_draft : Nat) (f_told : Nat) (f_play : Nat) (f_machine : Nat) (f_teller : Nat) (f_saved : Nat) (f_isSaved : Nat) (f_past : Nat) (sd : Int32) : va_W := [(h0, .inr (11, [.ref f_tape, .int 0, .ref f_words, .ref f_grammar, .ref f_meanings, .ref f_story, .ref f_draft, .int 0, .int 0, .int (-1), .ref f_told, .ref f_play, .ref f_machine, .ref f_teller, .ref f_saved, .ref f_isSaved, .ref f_past, .int 0, .int 0]))]
abbrev q_X11_begin (dC : Nat → ClassId) (dI : Nat → Nat → Nat) (cB cC cI cJ cZ cP : ClassId) (h0 : Nat) (f_tape : Nat) (f_words : Nat) (f_grammar : Nat) (f_meanings : Nat) (f_story : Nat) (f_draft : Nat) (f_told : Nat) (f_play : Nat) (f_machine : Nat) (f_teller : Nat) (f_saved : Nat) (f_isSaved : Nat) (f_past : Nat) (sd : Int32) (A : Nat → Prop) : Array Value → State → Outcome → State → Prop := va_Qv (fun (_ : Unit) => False) (g_Bo (dC, dI) A (fun (_ : Unit) => [(h0, .inr (11, [.ref f_tape, .int 0, .ref f_words, .ref f_grammar, .ref f_meanings, .ref f_story, .ref f_draft, .int 0, .int 0, .int (-1), .ref f_told, .ref f_play, .ref f_machine, .ref f_teller, .ref f_saved, .ref f_isSaved, .ref f_past, .int 0, .int 0]))])) A
set_option maxHeartbeats 4000000 in
set_option maxRecDepth 100000 in
theorem c_X11_begin (l : Launch) (dC : Nat → ClassId) (dI : Nat → Nat → Nat) (cB cC cI cJ cZ cP : ClassId) (hfl : l.stackTraces = false) (sz : Nat) (h0 : Nat) (f_tape : Nat) (f_words : Nat) (f_grammar : Nat) (f_meanings : Nat) (f_story : Nat) (f_draft : Nat) (f_told : Nat) (f_play : Nat) (f_machine : Nat) (f_teller : Nat) (f_saved : Nat) (f_isSaved : Nat) (f_past : Nat) (sd : Int32)  : vx_Met l yX11_begin (g_ws yX11_begin cX11_begin 2 none) ({ frames := 6, cells := 1, slots := 6, locals := 90 }) (va_Pc [.ref h0, .int sd] (g_B (dC, dI) [(cB, .byte), (cC, .char), (cI, .int), (cJ, .long), (cZ, .boolean), (cP, .object "StoryHouse$Play")] sz (ww_X11_begin cB cC cI cJ cZ cP h0 f_tape f_words f_grammar f_meanings f_story f_draft f_told f_play f_machine f_teller f_saved f_isSaved f_past sd) g_0)) (q_X11_begin dC dI cB cC cI cJ cZ cP h0 f_tape f_words f_grammar f_meanings f_story f_draft f_told f_play f_machine f_teller f_saved f_isSaved f_past sd (va_A (ww_X11_begin cB cC cI cJ cZ cP h0 f_tape f_words f_grammar f_meanings f_story f_draft f_told f_play f_machine f_teller f_saved f_isSaved f_past sd) sz)) (g_X (dC, dI) (va_A (ww_X11_begin cB cC cI cJ cZ cP h0 f_tape f_words f_grammar f_meanings f_story f_draft f_told f_play f_machine f_teller f_saved f_isSaved f_past sd) sz) [(h0, .inr (11, [.ref f_tape, .int 0, .ref f_words, .ref f_grammar, .ref f_meanings, .ref f_story, .ref f_draft, .int 0, .int 0, .int (-1), .ref f_told, .ref f_play, .ref f_machine, .ref f_teller, .ref f_saved, .ref f_isSaved, .ref f_past, .int 0, .int 0]))] (fun E : String => E = "java/lang/IllegalStateException")) 1 6 (va_A (ww_X11_begin cB cC cI cJ cZ cP h0 f_tape f_words f_grammar f_meanings f_story f_draft f_told f_play f_machine f_teller f_saved f_isSaved f_past sd) sz) := by
  refine vx_ofW (cc := cX11_begin) (maxL := 2) (ret := none) (by decide) rfl ?_
  intro p e s m args below meth c s₁ B hml htab hv
  obtain ⟨rfl, hsz, hP, hK, hD0, hE, hX⟩ := hv
  have hx := B.exec
  have hb := B.bytes
  have hr := B.returns
  have hts0 := atoms_spec (ws := (g_ws yX11_begin cX11_begin 2 none)) B.pre
  have hts : ∀ w ∈ lw_good, w.before ([.ref h0, .int sd] : List Value).toArray s = true := fun w h => hts0 w (List.mem_cons_of_mem _ h)
  have hown : s.vm.findClass RX11 = some m.cls := findClass_of_methodNamed B.named
  have hlocks := B.notSynchronized
  subst hsz
  have hD := hD0.self (sz := s.heap.size)
  generalize hAe : va_A (ww_X11_begin cB cC cI cJ cZ cP h0 f_tape f_words f_grammar f_meanings f_story f_draft f_told f_play f_machine f_teller f_saved f_isSaved f_past sd) s.heap.size = A at hD hE hX ⊢
  have hA : ∀ q : Nat, s.heap.size ≤ q → A q := fun q h => by rw [← hAe]; exact Or.inr h
  have hN := hE.1
  have hS : va_S A s.heap s.heap [] := va_S.rf
  have hP : va_P (dC, dI) vwCl [(h0, .inr (11, [.ref f_tape, .int 0, .ref f_words, .ref f_grammar, .ref f_meanings, .ref f_story, .ref f_draft, .int 0, .int 0, .int (-1), .ref f_told, .ref f_play, .ref f_machine, .ref f_teller, .ref f_saved, .ref f_isSaved, .ref f_past, .int 0, .int 0]))] s.heap := hP
  have hl := lv_entry ([.ref h0, .int sd]) (n := 2) (Nat.le_of_ble_eq_true rfl)
  rw [lg_entry_eq]
  generalize (lg_sl ([.ref h0, .int sd]) ++ List.replicate (2 - (lg_sl ([.ref h0, .int sd])).length) Slot.unset).toArray = ls at hl ⊢
  have hl : lv_has ls 2 [(0, .ref h0), (1, .int sd)] := hl
  refine lv_aload_n hx hb dX11_begin_0 rfl (lv_at hl 0 rfl) ?_
  refine va_get (D := (dC, dI)) (ci := 11) (v := .int 0) (C := RX11) (T := TX11) (N := 19) hx hb hts ii_X11 hown hK hP 0 rfl rfl 7 (by decide) (hts (.fieldLink RX11 162 "StoryHouse" "built" "Z") wq_310) (fun _ h9 => h9) rfl dX11_begin_1 ?_
  refine lv_if_ne (tgt := 17) hx hb dX11_begin_4 (by decide) (fun c_1 => absurd c_1 (by decide +kernel)) (fun c_1 => ?_)
  obtain ⟨q_2, vq_2, hRq_2, hSq_2⟩ := hE.2.2.2.2 _ (List.mem_of_getElem? (i := 25) rfl)
  have hPx := hP.sub (ws' := [(h0, .inr (11, [.ref f_tape, .int 0, .ref f_words, .ref f_grammar, .ref f_meanings, .ref f_story, .ref f_draft, .int 0, .int 0, .int (-1), .ref f_told, .ref f_play, .ref f_machine, .ref f_teller, .ref f_saved, .ref f_isSaved, .ref f_past, .int 0, .int 0]))]) [0] rfl
  have hDx := hD.sub (ws' := [(h0, .inr (11, [.ref f_tape, .int 0, .ref f_words, .ref f_grammar, .ref f_meanings, .ref f_story, .ref f_draft, .int 0, .int 0, .int (-1), .ref f_told, .ref f_play, .ref f_machine, .ref f_teller, .ref f_saved, .ref f_isSaved, .ref f_past, .int 0, .int 0]))]) [0] (by decide +kernel) rfl
  exact vx_throwS hx hb hfl (own := RX11) (cls := "java/lang/IllegalStateException") (text := "nothing is built") (names := ["java/lang/RuntimeException", "java/lang/Exception"]) (A := A) hown (by decide +kernel) (by decide +kernel) (hts (.classLink RX11 115 "java/lang/IllegalStateException") wq_942) (hts (.initialized "java/lang/IllegalStateException") wq_18) hRq_2 (g_bad hN (fun w h => hts w (wx_119 w h)) (by decide +kernel) (g_badB hN (List.mem_of_getElem? (i := 1) rfl))) (by decide +kernel) hE.2.1 hE.2.2.1 hS (hl.1.trans hml.symm) dX11_begin_7 dX11_begin_10 dX11_begin_11 dX11_begin_13 dX11_begin_16 (fun x hx => (htab x hx).elim) (by decide) (by decide) (Nat.le_of_ble_eq_true rfl) (Nat.le_of_ble_eq_true rfl) hlocks (g_thr hPx hDx hS (by first | rfl | trivial | assumption | exact ⟨rfl, by assumption⟩)) hS.2.2 (Nat.le_of_ble_eq_true rfl) (Nat.le_of_ble_eq_true rfl)

abbrev ww_X11_enter (cB cC cI cJ cZ cP : ClassId) (h0 : Nat) (f_tape : Nat) (f_words : Nat) (f_grammar : Nat) (f_meanings : Nat) (f_story : Nat) (f_draft : Nat) (f_told : Nat) (f_play : Nat) (f_machine : Nat) (f_teller : Nat) (f_saved : Nat) (f_isSaved : Nat) (f_past : Nat) : va_W := [(h0, .inr (11, [.ref f_tape, .int 0, .ref f_words, .ref f_grammar, .ref f_meanings, .ref f_story, .ref f_draft, .int 0, .int 0, .int (-1), .ref f_told, .ref f_play, .ref f_machine, .ref f_teller, .ref f_saved, .ref f_isSaved, .ref f_past, .int 0, .int 0]))]
abbrev q_X11_enter (dC : Nat → ClassId) (dI : Nat → Nat → Nat) (cB cC cI cJ cZ cP : ClassId) (h0 : Nat) (f_tape : Nat) (f_words : Nat) (f_grammar : Nat) (f_meanings : Nat) (f_story : Nat) (f_draft : Nat) (f_told : Nat) (f_play : Nat) (f_machine : Nat) (f_teller : Nat) (f_saved : Nat) (f_isSaved : Nat) (f_past : Nat) (A : Nat → Prop) : Array Value → State → Outcome → State → Prop := va_Qi (fun (r : Int32) (_ : Unit) => False) (g_Bo (dC, dI) A (fun (_ : Unit) => [(h0, .inr (11, [.ref f_tape, .int 0, .ref f_words, .ref f_grammar, .ref f_meanings, .ref f_story, .ref f_draft, .int 0, .int 0, .int (-1), .ref f_told, .ref f_play, .ref f_machine, .ref f_teller, .ref f_saved, .ref f_isSaved, .ref f_past, .int 0, .int 0]))])) A
set_option maxHeartbeats 4000000 in
set_option maxRecDepth 100000 in
theorem c_X11_enter (l : Launch) (dC : Nat → ClassId) (dI : Nat → Nat → Nat) (cB cC cI cJ cZ cP : ClassId) (hfl : l.stackTraces = false) (sz : Nat) (h0 : Nat) (f_tape : Nat) (f_words : Nat) (f_grammar : Nat) (f_meanings : Nat) (f_story : Nat) (f_draft : Nat) (f_told : Nat) (f_play : Nat) (f_machine : Nat) (f_teller : Nat) (f_saved : Nat) (f_isSaved : Nat) (f_past : Nat)  : vx_Met l yX11_enter (g_ws yX11_enter cX11_enter 3 (some .int)) ({ frames := 7, cells := 1, slots := 6, locals := 110 }) (va_Pc [.ref h0] (g_B (dC, dI) [(cB, .byte), (cC, .char), (cI, .int), (cJ, .long), (cZ, .boolean), (cP, .object "StoryHouse$Play")] sz (ww_X11_enter cB cC cI cJ cZ cP h0 f_tape f_words f_grammar f_meanings f_story f_draft f_told f_play f_machine f_teller f_saved f_isSaved f_past) g_0)) (q_X11_enter dC dI cB cC cI cJ cZ cP h0 f_tape f_words f_grammar f_meanings f_story f_draft f_told f_play f_machine f_teller f_saved f_isSaved f_past (va_A (ww_X11_enter cB cC cI cJ cZ cP h0 f_tape f_words f_grammar f_meanings f_story f_draft f_told f_play f_machine f_teller f_saved f_isSaved f_past) sz)) (g_X (dC, dI) (va_A (ww_X11_enter cB cC cI cJ cZ cP h0 f_tape f_words f_grammar f_meanings f_story f_draft f_told f_play f_machine f_teller f_saved f_isSaved f_past) sz) [(h0, .inr (11, [.ref f_tape, .int 0, .ref f_words, .ref f_grammar, .ref f_meanings, .ref f_story, .ref f_draft, .int 0, .int 0, .int (-1), .ref f_told, .ref f_play, .ref f_machine, .ref f_teller, .ref f_saved, .ref f_isSaved, .ref f_past, .int 0, .int 0]))] (fun E : String => E = "java/lang/IllegalStateException")) 1 6 (va_A (ww_X11_enter cB cC cI cJ cZ cP h0 f_tape f_words f_grammar f_meanings f_story f_draft f_told f_play f_machine f_teller f_saved f_isSaved f_past) sz) := by
  refine vx_ofW (cc := cX11_enter) (maxL := 3) (ret := (some .int)) (by decide) rfl ?_
  intro p e s m args below meth c s₁ B hml htab hv
  obtain ⟨rfl, hsz, hP, hK, hD0, hE, hX⟩ := hv
  have hx := B.exec
  have hb := B.bytes
  have hr := B.returns
  have hts0 := atoms_spec (ws := (g_ws yX11_enter cX11_enter 3 (some .int))) B.pre
  have hts : ∀ w ∈ lw_good, w.before ([.ref h0] : List Value).toArray s = true := fun w h => hts0 w (List.mem_cons_of_mem _ h)
  have hown : s.vm.findClass RX11 = some m.cls := findClass_of_methodNamed B.named
  have hlocks := B.notSynchronized
  subst hsz
  have hD := hD0.self (sz := s.heap.size)
  generalize hAe : va_A (ww_X11_enter cB cC cI cJ cZ cP h0 f_tape f_words f_grammar f_meanings f_story f_draft f_told f_play f_machine f_teller f_saved f_isSaved f_past) s.heap.size = A at hD hE hX ⊢
  have hA : ∀ q : Nat, s.heap.size ≤ q → A q := fun q h => by rw [← hAe]; exact Or.inr h
  have hN := hE.1
  have hS : va_S A s.heap s.heap [] := va_S.rf
  have hP : va_P (dC, dI) vwCl [(h0, .inr (11, [.ref f_tape, .int 0, .ref f_words, .ref f_grammar, .ref f_meanings, .ref f_story, .ref f_draft, .int 0, .int 0, .int (-1), .ref f_told, .ref f_play, .ref f_machine, .ref f_teller, .ref f_saved, .ref f_isSaved, .ref f_past, .int 0, .int 0]))] s.heap := hP
  have hl := lv_entry ([.ref h0]) (n := 3) (Nat.le_of_ble_eq_true rfl)
  rw [lg_entry_eq]
  generalize (lg_sl ([.ref h0]) ++ List.replicate (3 - (lg_sl ([.ref h0])).length) Slot.unset).toArray = ls at hl ⊢
  have hl : lv_has ls 3 [(0, .ref h0)] := hl
  refine lv_aload_n hx hb dX11_enter_0 rfl (lv_at hl 0 rfl) ?_
  have hPc := hP.sub (ws' := [(h0, .inr (11, [.ref f_tape, .int 0, .ref f_words, .ref f_grammar, .ref f_meanings, .ref f_story, .ref f_draft, .int 0, .int 0, .int (-1), .ref f_told, .ref f_play, .ref f_machine, .ref f_teller, .ref f_saved, .ref f_isSaved, .ref f_past, .int 0, .int 0]))]) [0] rfl
  have hDc := hD.sub (ws' := [(h0, .inr (11, [.ref f_tape, .int 0, .ref f_words, .ref f_grammar, .ref f_meanings, .ref f_story, .ref f_draft, .int 0, .int 0, .int (-1), .ref f_told, .ref f_play, .ref f_machine, .ref f_teller, .ref f_saved, .ref f_isSaved, .ref f_past, .int 0, .int 0]))]) [0] (by decide +kernel) rfl
  have hFc := va_free (wc := [(h0, .inr (11, [.ref f_tape, .int 0, .ref f_words, .ref f_grammar, .ref f_meanings, .ref f_story, .ref f_draft, .int 0, .int 0, .int (-1), .ref f_told, .ref f_play, .ref f_machine, .ref f_teller, .ref f_saved, .ref f_isSaved, .ref f_past, .int 0, .int 0]))]) hD hS hA [0] rfl
  refine g_oxv (wc := [(h0, .inr (11, [.ref f_tape, .int 0, .ref f_words, .ref f_grammar, .ref f_meanings, .ref f_story, .ref f_draft, .int 0, .int 0, .int (-1), .ref f_told, .ref f_play, .ref f_machine, .ref f_teller, .ref f_saved, .ref f_isSaved, .ref f_past, .int 0, .int 0]))]) (wr := []) hP hD hS hFc [0] [] rfl rfl (by decide +kernel) (by decide +kernel) (vx_runV (As := []) (rest := []) ⟨hx, hb, hml, hown, hts⟩ (c_X11_needPlay l dC dI cB cC cI cJ cZ cP hfl s.heap.size h0 f_tape f_words f_grammar f_meanings f_story f_draft f_told f_play f_machine f_teller f_saved f_isSaved f_past ) (cwV 0 hts (g_gV wq_1043 wq_1044 wq_2070 wq_1 wq_1045) rfl rfl rfl (by decide +kernel) ⟨Nat.le_of_ble_eq_true rfl, Nat.le_of_ble_eq_true rfl⟩) (g_preV g_bl0 hK hPc hDc hS hE hFc g_to0 (q0 := 0) (ci := 11) rfl rfl) rfl rfl hl.1 rfl (lv_room (Nat.le_of_ble_eq_true rfl)) dX11_enter_1 ⟨Nat.le_of_ble_eq_true rfl, Nat.le_of_ble_eq_true rfl⟩) (fun E ce q9 H1 locs1 hXP hP1 hD1 hS1 hce hcv hcl => vx_out (fun x hx => (htab x hx).elim) hlocks hce hcv hcl (g_passed (hP1.sub (ws' := [(h0, .inr (11, [.ref f_tape, .int 0, .ref f_words, .ref f_grammar, .ref f_meanings, .ref f_story, .ref f_draft, .int 0, .int 0, .int (-1), .ref f_told, .ref f_play, .ref f_machine, .ref f_teller, .ref f_saved, .ref f_isSaved, .ref f_past, .int 0, .int 0]))]) [0] rfl) (hD1.sub (ws' := [(h0, .inr (11, [.ref f_tape, .int 0, .ref f_words, .ref f_grammar, .ref f_meanings, .ref f_story, .ref f_draft, .int 0, .int 0, .int (-1), .ref f_told, .ref f_play, .ref f_machine, .ref f_teller, .ref f_saved, .ref f_isSaved, .ref f_past, .int 0, .int 0]))]) [0] (by decide +kernel) rfl) hS1 (by first | exact hXP | assumption)) hS1.2.2 (Nat.le_of_ble_eq_true rfl) (Nat.le_of_ble_eq_true rfl)) (fun u_2 H_3 locs w_1 hP' hD' hS' => ?_)
  clear hPc hDc hFc
  have w_1 : False := w_1
  replace hP : va_P (dC, dI) vwCl [(h0, .inr (11, [.ref f_tape, .int 0, .ref f_words, .ref f_grammar, .ref f_meanings, .ref f_story, .ref f_draft, .int 0, .int 0, .int (-1), .ref f_told, .ref f_play, .ref f_machine, .ref f_teller, .ref f_saved, .ref f_isSaved, .ref f_past, .int 0, .int 0]))] H_3 := hP'
  replace hD : va_D A [(h0, .inr (11, [.ref f_tape, .int 0, .ref f_words, .ref f_grammar, .ref f_meanings, .ref f_story, .ref f_draft, .int 0, .int 0, .int (-1), .ref f_told, .ref f_play, .ref f_machine, .ref f_teller, .ref f_saved, .ref f_isSaved, .ref f_past, .int 0, .int 0]))] := hD'
  replace hS := hS'
  clear hP' hD' hS'
  refine W.widen (k := 1) (n := 6) (Nat.le_of_ble_eq_true rfl) (Nat.le_of_ble_eq_true rfl) ?_
  exact w_1.elim

abbrev ww_X11_save (cB cC cI cJ cZ cP : ClassId) (h0 : Nat) (f_tape : Nat) (f_words : Nat) (f_grammar : Nat) (f_meanings : Nat) (f_story : Nat) (f_draft : Nat) (f_told : Nat) (f_play : Nat) (f_machine : Nat) (f_teller : Nat) (f_saved : Nat) (f_isSaved : Nat) (f_past : Nat) (pl : Int32) : va_W := [(h0, .inr (11, [.ref f_tape, .int 0, .ref f_words, .ref f_grammar, .ref f_meanings, .ref f_story, .ref f_draft, .int 0, .int 0, .int (-1), .ref f_told, .ref f_play, .ref f_machine, .ref f_teller, .ref f_saved, .ref f_isSaved, .ref f_past, .int 0, .int 0]))]
abbrev q_X11_save (dC : Nat → ClassId) (dI : Nat → Nat → Nat) (cB cC cI cJ cZ cP : ClassId) (h0 : Nat) (f_tape : Nat) (f_words : Nat) (f_grammar : Nat) (f_meanings : Nat) (f_story : Nat) (f_draft : Nat) (f_told : Nat) (f_play : Nat) (f_machine : Nat) (f_teller : Nat) (f_saved : Nat) (f_isSaved : Nat) (f_past : Nat) (pl : Int32) (A : Nat → Prop) : Array Value → State → Outcome → State → Prop := va_Qv (fun (_ : Unit) => False) (g_Bo (dC, dI) A (fun (_ : Unit) => [(h0, .inr (11, [.ref f_tape, .int 0, .ref f_words, .ref f_grammar, .ref f_meanings, .ref f_story, .ref f_draft, .int 0, .int 0, .int (-1), .ref f_told, .ref f_play, .ref f_machine, .ref f_teller, .ref f_saved, .ref f_isSaved, .ref f_past, .int 0, .int 0]))])) A
set_option maxHeartbeats 4000000 in
set_option maxRecDepth 100000 in
theorem c_X11_save (l : Launch) (dC : Nat → ClassId) (dI : Nat → Nat → Nat) (cB cC cI cJ cZ cP : ClassId) (hfl : l.stackTraces = false) (sz : Nat) (h0 : Nat) (f_tape : Nat) (f_words : Nat) (f_grammar : Nat) (f_meanings : Nat) (f_story : Nat) (f_draft : Nat) (f_told : Nat) (f_play : Nat) (f_machine : Nat) (f_teller : Nat) (f_saved : Nat) (f_isSaved : Nat) (f_past : Nat) (pl : Int32)  : vx_Met l yX11_save (g_ws yX11_save cX11_save 2 none) ({ frames := 7, cells := 2, slots := 12, locals := 111 }) (va_Pc [.ref h0, .int pl] (g_B (dC, dI) [(cB, .byte), (cC, .char), (cI, .int), (cJ, .long), (cZ, .boolean), (cP, .object "StoryHouse$Play")] sz (ww_X11_save cB cC cI cJ cZ cP h0 f_tape f_words f_grammar f_meanings f_story f_draft f_told f_play f_machine f_teller f_saved f_isSaved f_past pl) g_0)) (q_X11_save dC dI cB cC cI cJ cZ cP h0 f_tape f_words f_grammar f_meanings f_story f_draft f_told f_play f_machine f_teller f_saved f_isSaved f_past pl (va_A (ww_X11_save cB cC cI cJ cZ cP h0 f_tape f_words f_grammar f_meanings f_story f_draft f_told f_play f_machine f_teller f_saved f_isSaved f_past pl) sz)) (g_X (dC, dI) (va_A (ww_X11_save cB cC cI cJ cZ cP h0 f_tape f_words f_grammar f_meanings f_story f_draft f_told f_play f_machine f_teller f_saved f_isSaved f_past pl) sz) [(h0, .inr (11, [.ref f_tape, .int 0, .ref f_words, .ref f_grammar, .ref f_meanings, .ref f_story, .ref f_draft, .int 0, .int 0, .int (-1), .ref f_told, .ref f_play, .ref f_machine, .ref f_teller, .ref f_saved, .ref f_isSaved, .ref f_past, .int 0, .int 0]))] (fun E : String => (E = "java/lang/IndexOutOfBoundsException" ∧ (pl < 0 ∨ ¬ pl < 4)) ∨ (E = "java/lang/IllegalStateException" ∧ ¬ pl < 0 ∧ pl < 4))) 2 12 (va_A (ww_X11_save cB cC cI cJ cZ cP h0 f_tape f_words f_grammar f_meanings f_story f_draft f_told f_play f_machine f_teller f_saved f_isSaved f_past pl) sz) := by
  refine vx_ofW (cc := cX11_save) (maxL := 2) (ret := none) (by decide) rfl ?_
  intro p e s m args below meth c s₁ B hml htab hv
  obtain ⟨rfl, hsz, hP, hK, hD0, hE, hX⟩ := hv
  have hx := B.exec
  have hb := B.bytes
  have hr := B.returns
  have hts0 := atoms_spec (ws := (g_ws yX11_save cX11_save 2 none)) B.pre
  have hts : ∀ w ∈ lw_good, w.before ([.ref h0, .int pl] : List Value).toArray s = true := fun w h => hts0 w (List.mem_cons_of_mem _ h)
  have hown : s.vm.findClass RX11 = some m.cls := findClass_of_methodNamed B.named
  have hlocks := B.notSynchronized
  subst hsz
  have hD := hD0.self (sz := s.heap.size)
  generalize hAe : va_A (ww_X11_save cB cC cI cJ cZ cP h0 f_tape f_words f_grammar f_meanings f_story f_draft f_told f_play f_machine f_teller f_saved f_isSaved f_past pl) s.heap.size = A at hD hE hX ⊢
  have hA : ∀ q : Nat, s.heap.size ≤ q → A q := fun q h => by rw [← hAe]; exact Or.inr h
  have hN := hE.1
  have hS : va_S A s.heap s.heap [] := va_S.rf
  have hP : va_P (dC, dI) vwCl [(h0, .inr (11, [.ref f_tape, .int 0, .ref f_words, .ref f_grammar, .ref f_meanings, .ref f_story, .ref f_draft, .int 0, .int 0, .int (-1), .ref f_told, .ref f_play, .ref f_machine, .ref f_teller, .ref f_saved, .ref f_isSaved, .ref f_past, .int 0, .int 0]))] s.heap := hP
  have hl := lv_entry ([.ref h0, .int pl]) (n := 2) (Nat.le_of_ble_eq_true rfl)
  rw [lg_entry_eq]
  generalize (lg_sl ([.ref h0, .int pl]) ++ List.replicate (2 - (lg_sl ([.ref h0, .int pl])).length) Slot.unset).toArray = ls at hl ⊢
  have hl : lv_has ls 2 [(0, .ref h0), (1, .int pl)] := hl
  refine lv_aload_n hx hb dX11_save_0 rfl (lv_at hl 0 rfl) ?_
  refine lv_iload_n hx hb dX11_save_1 rfl (lv_at hl 1 rfl) ?_
  have hPc := hP.sub (ws' := [(h0, .inr (11, [.ref f_tape, .int 0, .ref f_words, .ref f_grammar, .ref f_meanings, .ref f_story, .ref f_draft, .int 0, .int 0, .int (-1), .ref f_told, .ref f_play, .ref f_machine, .ref f_teller, .ref f_saved, .ref f_isSaved, .ref f_past, .int 0, .int 0]))]) [0] rfl
  have hDc := hD.sub (ws' := [(h0, .inr (11, [.ref f_tape, .int 0, .ref f_words, .ref f_grammar, .ref f_meanings, .ref f_story, .ref f_draft, .int 0, .int 0, .int (-1), .ref f_told, .ref f_play, .ref f_machine, .ref f_teller, .ref f_saved, .ref f_isSaved, .ref f_past, .int 0, .int 0]))]) [0] (by decide +kernel) rfl
  have hFc := va_free (wc := [(h0, .inr (11, [.ref f_tape, .int 0, .ref f_words, .ref f_grammar, .ref f_meanings, .ref f_story, .ref f_draft, .int 0, .int 0, .int (-1), .ref f_told, .ref f_play, .ref f_machine, .ref f_teller, .ref f_saved, .ref f_isSaved, .ref f_past, .int 0, .int 0]))]) hD hS hA [0] rfl
  refine g_oxv (wc := [(h0, .inr (11, [.ref f_tape, .int 0, .ref f_words, .ref f_grammar, .ref f_meanings, .ref f_story, .ref f_draft, .int 0, .int 0, .int (-1), .ref f_told, .ref f_play, .ref f_machine, .ref f_teller, .ref f_saved, .ref f_isSaved, .ref f_past, .int 0, .int 0]))]) (wr := []) hP hD hS hFc [0] [] rfl rfl (by decide +kernel) (by decide +kernel) (vx_runV (As := [.int pl]) (rest := []) ⟨hx, hb, hml, hown, hts⟩ (c_X11_needPlace l dC dI cB cC cI cJ cZ cP hfl s.heap.size h0 f_tape f_words f_grammar f_meanings f_story f_draft f_told f_play f_machine f_teller f_saved f_isSaved f_past pl ) (cwV 1 hts (g_gV wq_1282 wq_1283 wq_2111 wq_1 wq_1284) rfl rfl rfl (by decide +kernel) ⟨Nat.le_of_ble_eq_true rfl, Nat.le_of_ble_eq_true rfl⟩) (g_preV g_bl0 hK hPc hDc hS hE hFc g_to0 (q0 := 0) (ci := 11) rfl rfl) rfl rfl hl.1 rfl (lv_room (Nat.le_of_ble_eq_true rfl)) dX11_save_2 ⟨Nat.le_of_ble_eq_true rfl, Nat.le_of_ble_eq_true rfl⟩) (fun E ce q9 H1 locs1 hXP hP1 hD1 hS1 hce hcv hcl => vx_out (fun x hx => (htab x hx).elim) hlocks hce hcv hcl (g_passed (hP1.sub (ws' := [(h0, .inr (11, [.ref f_tape, .int 0, .ref f_words, .ref f_grammar, .ref f_meanings, .ref f_story, .ref f_draft, .int 0, .int 0, .int (-1), .ref f_told, .ref f_play, .ref f_machine, .ref f_teller, .ref f_saved, .ref f_isSaved, .ref f_past, .int 0, .int 0]))]) [0] rfl) (hD1.sub (ws' := [(h0, .inr (11, [.ref f_tape, .int 0, .ref f_words, .ref f_grammar, .ref f_meanings, .ref f_story, .ref f_draft, .int 0, .int 0, .int (-1), .ref f_told, .ref f_play, .ref f_machine, .ref f_teller, .ref f_saved, .ref f_isSaved, .ref f_past, .int 0, .int 0]))]) [0] (by decide +kernel) rfl) hS1 (Or.inl hXP)) hS1.2.2 (Nat.le_of_ble_eq_true rfl) (Nat.le_of_ble_eq_true rfl)) (fun u_2 H_3 locs w_1 hP' hD' hS' => ?_)
  clear hPc hDc hFc
  have w_1 : ¬ pl < 0 ∧ pl < 4 := w_1
  replace hP : va_P (dC, dI) vwCl [(h0, .inr (11, [.ref f_tape, .int 0, .ref f_words, .ref f_grammar, .ref f_meanings, .ref f_story, .ref f_draft, .int 0, .int 0, .int (-1), .ref f_told, .ref f_play, .ref f_machine, .ref f_teller, .ref f_saved, .ref f_isSaved, .ref f_past, .int 0, .int 0]))] H_3 := hP'
  replace hD : va_D A [(h0, .inr (11, [.ref f_tape, .int 0, .ref f_words, .ref f_grammar, .ref f_meanings, .ref f_story, .ref f_draft, .int 0, .int 0, .int (-1), .ref f_told, .ref f_play, .ref f_machine, .ref f_teller, .ref f_saved, .ref f_isSaved, .ref f_past, .int 0, .int 0]))] := hD'
  replace hS := hS'
  clear hP' hD' hS'
  refine W.widen (k := 1) (n := 6) (Nat.le_of_ble_eq_true rfl) (Nat.le_of_ble_eq_true rfl) ?_
  refine lv_aload_n hx hb dX11_save_5 rfl (lv_at hl 0 rfl) ?_
  have hPc := hP.sub (ws' := [(h0, .inr (11, [.ref f_tape, .int 0, .ref f_words, .ref f_grammar, .ref f_meanings, .ref f_story, .ref f_draft, .int 0, .int 0, .int (-1), .ref f_told, .ref f_play, .ref f_machine, .ref f_teller, .ref f_saved, .ref f_isSaved, .ref f_past, .int 0, .int 0]))]) [0] rfl
  have hDc := hD.sub (ws' := [(h0, .inr (11, [.ref f_tape, .int 0, .ref f_words, .ref f_grammar, .ref f_meanings, .ref f_story, .ref f_draft, .int 0, .int 0, .int (-1), .ref f_told, .ref f_play, .ref f_machine, .ref f_teller, .ref f_saved, .ref f_isSaved, .ref f_past, .int 0, .int 0]))]) [0] (by decide +kernel) rfl
  have hFc := va_free (wc := [(h0, .inr (11, [.ref f_tape, .int 0, .ref f_words, .ref f_grammar, .ref f_meanings, .ref f_story, .ref f_draft, .int 0, .int 0, .int (-1), .ref f_told, .ref f_play, .ref f_machine, .ref f_teller, .ref f_saved, .ref f_isSaved, .ref f_past, .int 0, .int 0]))]) hD hS hA [0] rfl
  refine g_oxv (wc := [(h0, .inr (11, [.ref f_tape, .int 0, .ref f_words, .ref f_grammar, .ref f_meanings, .ref f_story, .ref f_draft, .int 0, .int 0, .int (-1), .ref f_told, .ref f_play, .ref f_machine, .ref f_teller, .ref f_saved, .ref f_isSaved, .ref f_past, .int 0, .int 0]))]) (wr := []) hP hD hS hFc [0] [] rfl rfl (by decide +kernel) (by decide +kernel) (vx_runV (As := []) (rest := []) ⟨hx, hb, hml, hown, hts⟩ (c_X11_needPlay l dC dI cB cC cI cJ cZ cP hfl H_3.size h0 f_tape f_words f_grammar f_meanings f_story f_draft f_told f_play f_machine f_teller f_saved f_isSaved f_past ) (cwV 0 hts (g_gV wq_1043 wq_1044 wq_2070 wq_1 wq_1045) rfl rfl rfl (by decide +kernel) ⟨Nat.le_of_ble_eq_true rfl, Nat.le_of_ble_eq_true rfl⟩) (g_preV g_bl0 hK hPc hDc hS hE hFc g_to0 (q0 := 0) (ci := 11) rfl rfl) rfl rfl hl.1 rfl (lv_room (Nat.le_of_ble_eq_true rfl)) dX11_save_6 ⟨Nat.le_of_ble_eq_true rfl, Nat.le_of_ble_eq_true rfl⟩) (fun E ce q9 H1 locs1 hXP hP1 hD1 hS1 hce hcv hcl => vx_out (fun x hx => (htab x hx).elim) hlocks hce hcv hcl (g_passed (hP1.sub (ws' := [(h0, .inr (11, [.ref f_tape, .int 0, .ref f_words, .ref f_grammar, .ref f_meanings, .ref f_story, .ref f_draft, .int 0, .int 0, .int (-1), .ref f_told, .ref f_play, .ref f_machine, .ref f_teller, .ref f_saved, .ref f_isSaved, .ref f_past, .int 0, .int 0]))]) [0] rfl) (hD1.sub (ws' := [(h0, .inr (11, [.ref f_tape, .int 0, .ref f_words, .ref f_grammar, .ref f_meanings, .ref f_story, .ref f_draft, .int 0, .int 0, .int (-1), .ref f_told, .ref f_play, .ref f_machine, .ref f_teller, .ref f_saved, .ref f_isSaved, .ref f_past, .int 0, .int 0]))]) [0] (by decide +kernel) rfl) hS1 (Or.inr ⟨hXP, w_1⟩)) hS1.2.2 (Nat.le_of_ble_eq_true rfl) (Nat.le_of_ble_eq_true rfl)) (fun u_5 H_6 locs w_4 hP' hD' hS' => ?_)
  clear hPc hDc hFc
  have w_4 : False := w_4
  replace hP : va_P (dC, dI) vwCl [(h0, .inr (11, [.ref f_tape, .int 0, .ref f_words, .ref f_grammar, .ref f_meanings, .ref f_story, .ref f_draft, .int 0, .int 0, .int (-1), .ref f_told, .ref f_play, .ref f_machine, .ref f_teller, .ref f_saved, .ref f_isSaved, .ref f_past, .int 0, .int 0]))] H_6 := hP'
  replace hD : va_D A [(h0, .inr (11, [.ref f_tape, .int 0, .ref f_words, .ref f_grammar, .ref f_meanings, .ref f_story, .ref f_draft, .int 0, .int 0, .int (-1), .ref f_told, .ref f_play, .ref f_machine, .ref f_teller, .ref f_saved, .ref f_isSaved, .ref f_past, .int 0, .int 0]))] := hD'
  replace hS := hS'
  clear hP' hD' hS'
  refine W.widen (k := 2) (n := 12) (Nat.le_of_ble_eq_true rfl) (Nat.le_of_ble_eq_true rfl) ?_
  exact w_4.elim

abbrev ww_X11_restore (cB cC cI cJ cZ cP : ClassId) (h0 : Nat) (f_tape : Nat) (f_words : Nat) (f_grammar : Nat) (f_meanings : Nat) (f_story : Nat) (f_draft : Nat) (f_told : Nat) (f_play : Nat) (f_machine : Nat) (f_teller : Nat) (f_saved : Nat) (f_isSaved : Nat) (f_past : Nat) (pl : Int32) : va_W := [(h0, .inr (11, [.ref f_tape, .int 0, .ref f_words, .ref f_grammar, .ref f_meanings, .ref f_story, .ref f_draft, .int 0, .int 0, .int (-1), .ref f_told, .ref f_play, .ref f_machine, .ref f_teller, .ref f_saved, .ref f_isSaved, .ref f_past, .int 0, .int 0])), (f_isSaved, .inl (cZ, 4, .inl ((fun _ => 0))))]
abbrev q_X11_restore (dC : Nat → ClassId) (dI : Nat → Nat → Nat) (cB cC cI cJ cZ cP : ClassId) (h0 : Nat) (f_tape : Nat) (f_words : Nat) (f_grammar : Nat) (f_meanings : Nat) (f_story : Nat) (f_draft : Nat) (f_told : Nat) (f_play : Nat) (f_machine : Nat) (f_teller : Nat) (f_saved : Nat) (f_isSaved : Nat) (f_past : Nat) (pl : Int32) (A : Nat → Prop) : Array Value → State → Outcome → State → Prop := va_Qv (fun (_ : Unit) => False) (g_Bo (dC, dI) A (fun (_ : Unit) => [(h0, .inr (11, [.ref f_tape, .int 0, .ref f_words, .ref f_grammar, .ref f_meanings, .ref f_story, .ref f_draft, .int 0, .int 0, .int (-1), .ref f_told, .ref f_play, .ref f_machine, .ref f_teller, .ref f_saved, .ref f_isSaved, .ref f_past, .int 0, .int 0])), (f_isSaved, .inl (cZ, 4, .inl ((fun _ => 0))))])) A
set_option maxHeartbeats 4000000 in
set_option maxRecDepth 100000 in
theorem c_X11_restore (l : Launch) (dC : Nat → ClassId) (dI : Nat → Nat → Nat) (cB cC cI cJ cZ cP : ClassId) (hfl : l.stackTraces = false) (sz : Nat) (h0 : Nat) (f_tape : Nat) (f_words : Nat) (f_grammar : Nat) (f_meanings : Nat) (f_story : Nat) (f_draft : Nat) (f_told : Nat) (f_play : Nat) (f_machine : Nat) (f_teller : Nat) (f_saved : Nat) (f_isSaved : Nat) (f_past : Nat) (pl : Int32)  : vx_Met l yX11_restore (g_ws yX11_restore cX11_restore 2 none) ({ frames := 7, cells := 2, slots := 12, locals := 111 }) (va_Pc [.ref h0, .int pl] (g_B (dC, dI) [(cB, .byte), (cC, .char), (cI, .int), (cJ, .long), (cZ, .boolean), (cP, .object "StoryHouse$Play")] sz (ww_X11_restore cB cC cI cJ cZ cP h0 f_tape f_words f_grammar f_meanings f_story f_draft f_told f_play f_machine f_teller f_saved f_isSaved f_past pl) g_0)) (q_X11_restore dC dI cB cC cI cJ cZ cP h0 f_tape f_words f_grammar f_meanings f_story f_draft f_told f_play f_machine f_teller f_saved f_isSaved f_past pl (va_A (ww_X11_restore cB cC cI cJ cZ cP h0 f_tape f_words f_grammar f_meanings f_story f_draft f_told f_play f_machine f_teller f_saved f_isSaved f_past pl) sz)) (g_X (dC, dI) (va_A (ww_X11_restore cB cC cI cJ cZ cP h0 f_tape f_words f_grammar f_meanings f_story f_draft f_told f_play f_machine f_teller f_saved f_isSaved f_past pl) sz) [(h0, .inr (11, [.ref f_tape, .int 0, .ref f_words, .ref f_grammar, .ref f_meanings, .ref f_story, .ref f_draft, .int 0, .int 0, .int (-1), .ref f_told, .ref f_play, .ref f_machine, .ref f_teller, .ref f_saved, .ref f_isSaved, .ref f_past, .int 0, .int 0])), (f_isSaved, .inl (cZ, 4, .inl ((fun _ => 0))))] (fun E : String => (E = "java/lang/IndexOutOfBoundsException" ∧ (pl < 0 ∨ ¬ pl < 4)) ∨ (E = "java/lang/IllegalStateException" ∧ ¬ pl < 0 ∧ pl < 4))) 2 12 (va_A (ww_X11_restore cB cC cI cJ cZ cP h0 f_tape f_words f_grammar f_meanings f_story f_draft f_told f_play f_machine f_teller f_saved f_isSaved f_past pl) sz) := by
  refine vx_ofW (cc := cX11_restore) (maxL := 2) (ret := none) (by decide) rfl ?_
  intro p e s m args below meth c s₁ B hml htab hv
  obtain ⟨rfl, hsz, hP, hK, hD0, hE, hX⟩ := hv
  have hx := B.exec
  have hb := B.bytes
  have hr := B.returns
  have hts0 := atoms_spec (ws := (g_ws yX11_restore cX11_restore 2 none)) B.pre
  have hts : ∀ w ∈ lw_good, w.before ([.ref h0, .int pl] : List Value).toArray s = true := fun w h => hts0 w (List.mem_cons_of_mem _ h)
  have hown : s.vm.findClass RX11 = some m.cls := findClass_of_methodNamed B.named
  have hlocks := B.notSynchronized
  subst hsz
  have hD := hD0.self (sz := s.heap.size)
  generalize hAe : va_A (ww_X11_restore cB cC cI cJ cZ cP h0 f_tape f_words f_grammar f_meanings f_story f_draft f_told f_play f_machine f_teller f_saved f_isSaved f_past pl) s.heap.size = A at hD hE hX ⊢
  have hA : ∀ q : Nat, s.heap.size ≤ q → A q := fun q h => by rw [← hAe]; exact Or.inr h
  have hN := hE.1
  have hS : va_S A s.heap s.heap [] := va_S.rf
  have hP : va_P (dC, dI) vwCl [(h0, .inr (11, [.ref f_tape, .int 0, .ref f_words, .ref f_grammar, .ref f_meanings, .ref f_story, .ref f_draft, .int 0, .int 0, .int (-1), .ref f_told, .ref f_play, .ref f_machine, .ref f_teller, .ref f_saved, .ref f_isSaved, .ref f_past, .int 0, .int 0])), (f_isSaved, .inl (cZ, 4, .inl ((fun _ => 0))))] s.heap := hP
  have hl := lv_entry ([.ref h0, .int pl]) (n := 2) (Nat.le_of_ble_eq_true rfl)
  rw [lg_entry_eq]
  generalize (lg_sl ([.ref h0, .int pl]) ++ List.replicate (2 - (lg_sl ([.ref h0, .int pl])).length) Slot.unset).toArray = ls at hl ⊢
  have hl : lv_has ls 2 [(0, .ref h0), (1, .int pl)] := hl
  refine lv_aload_n hx hb dX11_restore_0 rfl (lv_at hl 0 rfl) ?_
  refine lv_iload_n hx hb dX11_restore_1 rfl (lv_at hl 1 rfl) ?_
  have hPc := hP.sub (ws' := [(h0, .inr (11, [.ref f_tape, .int 0, .ref f_words, .ref f_grammar, .ref f_meanings, .ref f_story, .ref f_draft, .int 0, .int 0, .int (-1), .ref f_told, .ref f_play, .ref f_machine, .ref f_teller, .ref f_saved, .ref f_isSaved, .ref f_past, .int 0, .int 0]))]) [0] rfl
  have hDc := hD.sub (ws' := [(h0, .inr (11, [.ref f_tape, .int 0, .ref f_words, .ref f_grammar, .ref f_meanings, .ref f_story, .ref f_draft, .int 0, .int 0, .int (-1), .ref f_told, .ref f_play, .ref f_machine, .ref f_teller, .ref f_saved, .ref f_isSaved, .ref f_past, .int 0, .int 0]))]) [0] (by decide +kernel) rfl
  have hFc := va_free (wc := [(h0, .inr (11, [.ref f_tape, .int 0, .ref f_words, .ref f_grammar, .ref f_meanings, .ref f_story, .ref f_draft, .int 0, .int 0, .int (-1), .ref f_told, .ref f_play, .ref f_machine, .ref f_teller, .ref f_saved, .ref f_isSaved, .ref f_past, .int 0, .int 0]))]) hD hS hA [0] rfl
  refine g_oxv (wc := [(h0, .inr (11, [.ref f_tape, .int 0, .ref f_words, .ref f_grammar, .ref f_meanings, .ref f_story, .ref f_draft, .int 0, .int 0, .int (-1), .ref f_told, .ref f_play, .ref f_machine, .ref f_teller, .ref f_saved, .ref f_isSaved, .ref f_past, .int 0, .int 0]))]) (wr := [(f_isSaved, .inl (cZ, 4, .inl ((fun _ => 0))))]) hP hD hS hFc [0] [1] rfl rfl (by decide +kernel) (by decide +kernel) (vx_runV (As := [.int pl]) (rest := []) ⟨hx, hb, hml, hown, hts⟩ (c_X11_needPlace l dC dI cB cC cI cJ cZ cP hfl s.heap.size h0 f_tape f_words f_grammar f_meanings f_story f_draft f_told f_play f_machine f_teller f_saved f_isSaved f_past pl ) (cwV 1 hts (g_gV wq_1282 wq_1283 wq_2111 wq_1 wq_1284) rfl rfl rfl (by decide +kernel) ⟨Nat.le_of_ble_eq_true rfl, Nat.le_of_ble_eq_true rfl⟩) (g_preV g_bl0 hK hPc hDc hS hE hFc g_to0 (q0 := 0) (ci := 11) rfl rfl) rfl rfl hl.1 rfl (lv_room (Nat.le_of_ble_eq_true rfl)) dX11_restore_2 ⟨Nat.le_of_ble_eq_true rfl, Nat.le_of_ble_eq_true rfl⟩) (fun E ce q9 H1 locs1 hXP hP1 hD1 hS1 hce hcv hcl => vx_out (fun x hx => (htab x hx).elim) hlocks hce hcv hcl (g_passed (hP1.sub (ws' := [(h0, .inr (11, [.ref f_tape, .int 0, .ref f_words, .ref f_grammar, .ref f_meanings, .ref f_story, .ref f_draft, .int 0, .int 0, .int (-1), .ref f_told, .ref f_play, .ref f_machine, .ref f_teller, .ref f_saved, .ref f_isSaved, .ref f_past, .int 0, .int 0])), (f_isSaved, .inl (cZ, 4, .inl ((fun _ => 0))))]) [1, 0] rfl) (hD1.sub (ws' := [(h0, .inr (11, [.ref f_tape, .int 0, .ref f_words, .ref f_grammar, .ref f_meanings, .ref f_story, .ref f_draft, .int 0, .int 0, .int (-1), .ref f_told, .ref f_play, .ref f_machine, .ref f_teller, .ref f_saved, .ref f_isSaved, .ref f_past, .int 0, .int 0])), (f_isSaved, .inl (cZ, 4, .inl ((fun _ => 0))))]) [1, 0] (by decide +kernel) rfl) hS1 (Or.inl hXP)) hS1.2.2 (Nat.le_of_ble_eq_true rfl) (Nat.le_of_ble_eq_true rfl)) (fun u_2 H_3 locs w_1 hP' hD' hS' => ?_)
  clear hPc hDc hFc
  have w_1 : ¬ pl < 0 ∧ pl < 4 := w_1
  replace hP : va_P (dC, dI) vwCl [(f_isSaved, .inl (cZ, 4, .inl ((fun _ => 0)))), (h0, .inr (11, [.ref f_tape, .int 0, .ref f_words, .ref f_grammar, .ref f_meanings, .ref f_story, .ref f_draft, .int 0, .int 0, .int (-1), .ref f_told, .ref f_play, .ref f_machine, .ref f_teller, .ref f_saved, .ref f_isSaved, .ref f_past, .int 0, .int 0]))] H_3 := hP'
  replace hD : va_D A [(f_isSaved, .inl (cZ, 4, .inl ((fun _ => 0)))), (h0, .inr (11, [.ref f_tape, .int 0, .ref f_words, .ref f_grammar, .ref f_meanings, .ref f_story, .ref f_draft, .int 0, .int 0, .int (-1), .ref f_told, .ref f_play, .ref f_machine, .ref f_teller, .ref f_saved, .ref f_isSaved, .ref f_past, .int 0, .int 0]))] := hD'
  replace hS := hS'
  clear hP' hD' hS'
  refine W.widen (k := 1) (n := 6) (Nat.le_of_ble_eq_true rfl) (Nat.le_of_ble_eq_true rfl) ?_
  refine lv_aload_n hx hb dX11_restore_5 rfl (lv_at hl 0 rfl) ?_
  refine va_get (D := (dC, dI)) (ci := 11) (v := .ref f_isSaved) (C := RX11) (T := TX11) (N := 19) hx hb hts ii_X11 hown hK hP 1 rfl rfl 15 (by decide) (hts (.fieldLink RX11 86 "StoryHouse" "isSaved" "[Z") wq_318) (fun _ h9 => h9) rfl dX11_restore_6 ?_
  refine lv_iload_n hx hb dX11_restore_9 rfl (lv_at hl 1 rfl) ?_
  refine va_zald hx hb hK hP 0 4 rfl rfl (g_in4 w_1) dX11_restore_10 ?_
  refine lv_topi (fun x_4 ex_4 => ?_)
  refine lv_if_ne (tgt := 24) hx hb dX11_restore_11 (by decide) (fun c_5 => absurd c_5 (by exact fun h => h ex_4)) (fun c_5 => ?_)
  obtain ⟨q_6, vq_6, hRq_6, hSq_6⟩ := hE.2.2.2.2 _ (List.mem_of_getElem? (i := 72) rfl)
  have hPx := hP.sub (ws' := [(h0, .inr (11, [.ref f_tape, .int 0, .ref f_words, .ref f_grammar, .ref f_meanings, .ref f_story, .ref f_draft, .int 0, .int 0, .int (-1), .ref f_told, .ref f_play, .ref f_machine, .ref f_teller, .ref f_saved, .ref f_isSaved, .ref f_past, .int 0, .int 0])), (f_isSaved, .inl (cZ, 4, .inl ((fun _ => 0))))]) [1, 0] rfl
  have hDx := hD.sub (ws' := [(h0, .inr (11, [.ref f_tape, .int 0, .ref f_words, .ref f_grammar, .ref f_meanings, .ref f_story, .ref f_draft, .int 0, .int 0, .int (-1), .ref f_told, .ref f_play, .ref f_machine, .ref f_teller, .ref f_saved, .ref f_isSaved, .ref f_past, .int 0, .int 0])), (f_isSaved, .inl (cZ, 4, .inl ((fun _ => 0))))]) [1, 0] (by decide +kernel) rfl
  exact vx_throwS hx hb hfl (own := RX11) (cls := "java/lang/IllegalStateException") (text := "nothing was saved there") (names := ["java/lang/RuntimeException", "java/lang/Exception"]) (A := A) hown (by decide +kernel) (by decide +kernel) (hts (.classLink RX11 115 "java/lang/IllegalStateException") wq_942) (hts (.initialized "java/lang/IllegalStateException") wq_18) hRq_6 (g_bad hN (fun w h => hts w (wx_119 w h)) (by decide +kernel) (g_badB hN (List.mem_of_getElem? (i := 1) rfl))) (by decide +kernel) hE.2.1 hE.2.2.1 hS (hl.1.trans hml.symm) dX11_restore_14 dX11_restore_17 dX11_restore_18 dX11_restore_20 dX11_restore_23 (fun x hx => (htab x hx).elim) (by decide) (by decide) (Nat.le_of_ble_eq_true rfl) (Nat.le_of_ble_eq_true rfl) hlocks (g_thr hPx hDx hS (Or.inr ⟨rfl, w_1⟩)) hS.2.2 (Nat.le_of_ble_eq_true rfl) (Nat.le_of_ble_eq_true rfl)

abbrev ww_X11_undo (cB cC cI cJ cZ cP : ClassId) (h0 : Nat) (f_tape : Nat) (f_words : Nat) (f_grammar : Nat) (f_meanings : Nat) (f_story : Nat) (f_draft : Nat) (f_told : Nat) (f_play : Nat) (f_machine : Nat) (f_teller : Nat) (f_saved : Nat) (f_isSaved : Nat) (f_past : Nat) : va_W := [(h0, .inr (11, [.ref f_tape, .int 0, .ref f_words, .ref f_grammar, .ref f_meanings, .ref f_story, .ref f_draft, .int 0, .int 0, .int (-1), .ref f_told, .ref f_play, .ref f_machine, .ref f_teller, .ref f_saved, .ref f_isSaved, .ref f_past, .int 0, .int 0]))]
abbrev q_X11_undo (dC : Nat → ClassId) (dI : Nat → Nat → Nat) (cB cC cI cJ cZ cP : ClassId) (h0 : Nat) (f_tape : Nat) (f_words : Nat) (f_grammar : Nat) (f_meanings : Nat) (f_story : Nat) (f_draft : Nat) (f_told : Nat) (f_play : Nat) (f_machine : Nat) (f_teller : Nat) (f_saved : Nat) (f_isSaved : Nat) (f_past : Nat) (A : Nat → Prop) : Array Value → State → Outcome → State → Prop := va_Qi (fun (r : Int32) (_ : Unit) => False) (g_Bo (dC, dI) A (fun (_ : Unit) => [(h0, .inr (11, [.ref f_tape, .int 0, .ref f_words, .ref f_grammar, .ref f_meanings, .ref f_story, .ref f_draft, .int 0, .int 0, .int (-1), .ref f_told, .ref f_play, .ref f_machine, .ref f_teller, .ref f_saved, .ref f_isSaved, .ref f_past, .int 0, .int 0]))])) A
set_option maxHeartbeats 4000000 in
set_option maxRecDepth 100000 in
theorem c_X11_undo (l : Launch) (dC : Nat → ClassId) (dI : Nat → Nat → Nat) (cB cC cI cJ cZ cP : ClassId) (hfl : l.stackTraces = false) (sz : Nat) (h0 : Nat) (f_tape : Nat) (f_words : Nat) (f_grammar : Nat) (f_meanings : Nat) (f_story : Nat) (f_draft : Nat) (f_told : Nat) (f_play : Nat) (f_machine : Nat) (f_teller : Nat) (f_saved : Nat) (f_isSaved : Nat) (f_past : Nat)  : vx_Met l yX11_undo (g_ws yX11_undo cX11_undo 1 (some .boolean)) ({ frames := 7, cells := 1, slots := 6, locals := 110 }) (va_Pc [.ref h0] (g_B (dC, dI) [(cB, .byte), (cC, .char), (cI, .int), (cJ, .long), (cZ, .boolean), (cP, .object "StoryHouse$Play")] sz (ww_X11_undo cB cC cI cJ cZ cP h0 f_tape f_words f_grammar f_meanings f_story f_draft f_told f_play f_machine f_teller f_saved f_isSaved f_past) g_0)) (q_X11_undo dC dI cB cC cI cJ cZ cP h0 f_tape f_words f_grammar f_meanings f_story f_draft f_told f_play f_machine f_teller f_saved f_isSaved f_past (va_A (ww_X11_undo cB cC cI cJ cZ cP h0 f_tape f_words f_grammar f_meanings f_story f_draft f_told f_play f_machine f_teller f_saved f_isSaved f_past) sz)) (g_X (dC, dI) (va_A (ww_X11_undo cB cC cI cJ cZ cP h0 f_tape f_words f_grammar f_meanings f_story f_draft f_told f_play f_machine f_teller f_saved f_isSaved f_past) sz) [(h0, .inr (11, [.ref f_tape, .int 0, .ref f_words, .ref f_grammar, .ref f_meanings, .ref f_story, .ref f_draft, .int 0, .int 0, .int (-1), .ref f_told, .ref f_play, .ref f_machine, .ref f_teller, .ref f_saved, .ref f_isSaved, .ref f_past, .int 0, .int 0]))] (fun E : String => E = "java/lang/IllegalStateException")) 1 6 (va_A (ww_X11_undo cB cC cI cJ cZ cP h0 f_tape f_words f_grammar f_meanings f_story f_draft f_told f_play f_machine f_teller f_saved f_isSaved f_past) sz) := by
  refine vx_ofW (cc := cX11_undo) (maxL := 1) (ret := (some .boolean)) (by decide) rfl ?_
  intro p e s m args below meth c s₁ B hml htab hv
  obtain ⟨rfl, hsz, hP, hK, hD0, hE, hX⟩ := hv
  have hx := B.exec
  have hb := B.bytes
  have hr := B.returns
  have hts0 := atoms_spec (ws := (g_ws yX11_undo cX11_undo 1 (some .boolean))) B.pre
  have hts : ∀ w ∈ lw_good, w.before ([.ref h0] : List Value).toArray s = true := fun w h => hts0 w (List.mem_cons_of_mem _ h)
  have hown : s.vm.findClass RX11 = some m.cls := findClass_of_methodNamed B.named
  have hlocks := B.notSynchronized
  subst hsz
  have hD := hD0.self (sz := s.heap.size)
  generalize hAe : va_A (ww_X11_undo cB cC cI cJ cZ cP h0 f_tape f_words f_grammar f_meanings f_story f_draft f_told f_play f_machine f_teller f_saved f_isSaved f_past) s.heap.size = A at hD hE hX ⊢
  have hA : ∀ q : Nat, s.heap.size ≤ q → A q := fun q h => by rw [← hAe]; exact Or.inr h
  have hN := hE.1
  have hS : va_S A s.heap s.heap [] := va_S.rf
  have hP : va_P (dC, dI) vwCl [(h0, .inr (11, [.ref f_tape, .int 0, .ref f_words, .ref f_grammar, .ref f_meanings, .ref f_story, .ref f_draft, .int 0, .int 0, .int (-1), .ref f_told, .ref f_play, .ref f_machine, .ref f_teller, .ref f_saved, .ref f_isSaved, .ref f_past, .int 0, .int 0]))] s.heap := hP
  have hl := lv_entry ([.ref h0]) (n := 1) (Nat.le_of_ble_eq_true rfl)
  rw [lg_entry_eq]
  generalize (lg_sl ([.ref h0]) ++ List.replicate (1 - (lg_sl ([.ref h0])).length) Slot.unset).toArray = ls at hl ⊢
  have hl : lv_has ls 1 [(0, .ref h0)] := hl
  refine lv_aload_n hx hb dX11_undo_0 rfl (lv_at hl 0 rfl) ?_
  have hPc := hP.sub (ws' := [(h0, .inr (11, [.ref f_tape, .int 0, .ref f_words, .ref f_grammar, .ref f_meanings, .ref f_story, .ref f_draft, .int 0, .int 0, .int (-1), .ref f_told, .ref f_play, .ref f_machine, .ref f_teller, .ref f_saved, .ref f_isSaved, .ref f_past, .int 0, .int 0]))]) [0] rfl
  have hDc := hD.sub (ws' := [(h0, .inr (11, [.ref f_tape, .int 0, .ref f_words, .ref f_grammar, .ref f_meanings, .ref f_story, .ref f_draft, .int 0, .int 0, .int (-1), .ref f_told, .ref f_play, .ref f_machine, .ref f_teller, .ref f_saved, .ref f_isSaved, .ref f_past, .int 0, .int 0]))]) [0] (by decide +kernel) rfl
  have hFc := va_free (wc := [(h0, .inr (11, [.ref f_tape, .int 0, .ref f_words, .ref f_grammar, .ref f_meanings, .ref f_story, .ref f_draft, .int 0, .int 0, .int (-1), .ref f_told, .ref f_play, .ref f_machine, .ref f_teller, .ref f_saved, .ref f_isSaved, .ref f_past, .int 0, .int 0]))]) hD hS hA [0] rfl
  refine g_oxv (wc := [(h0, .inr (11, [.ref f_tape, .int 0, .ref f_words, .ref f_grammar, .ref f_meanings, .ref f_story, .ref f_draft, .int 0, .int 0, .int (-1), .ref f_told, .ref f_play, .ref f_machine, .ref f_teller, .ref f_saved, .ref f_isSaved, .ref f_past, .int 0, .int 0]))]) (wr := []) hP hD hS hFc [0] [] rfl rfl (by decide +kernel) (by decide +kernel) (vx_runV (As := []) (rest := []) ⟨hx, hb, hml, hown, hts⟩ (c_X11_needPlay l dC dI cB cC cI cJ cZ cP hfl s.heap.size h0 f_tape f_words f_grammar f_meanings f_story f_draft f_told f_play f_machine f_teller f_saved f_isSaved f_past ) (cwV 0 hts (g_gV wq_1043 wq_1044 wq_2070 wq_1 wq_1045) rfl rfl rfl (by decide +kernel) ⟨Nat.le_of_ble_eq_true rfl, Nat.le_of_ble_eq_true rfl⟩) (g_preV g_bl0 hK hPc hDc hS hE hFc g_to0 (q0 := 0) (ci := 11) rfl rfl) rfl rfl hl.1 rfl (lv_room (Nat.le_of_ble_eq_true rfl)) dX11_undo_1 ⟨Nat.le_of_ble_eq_true rfl, Nat.le_of_ble_eq_true rfl⟩) (fun E ce q9 H1 locs1 hXP hP1 hD1 hS1 hce hcv hcl => vx_out (fun x hx => (htab x hx).elim) hlocks hce hcv hcl (g_passed (hP1.sub (ws' := [(h0, .inr (11, [.ref f_tape, .int 0, .ref f_words, .ref f_grammar, .ref f_meanings, .ref f_story, .ref f_draft, .int 0, .int 0, .int (-1), .ref f_told, .ref f_play, .ref f_machine, .ref f_teller, .ref f_saved, .ref f_isSaved, .ref f_past, .int 0, .int 0]))]) [0] rfl) (hD1.sub (ws' := [(h0, .inr (11, [.ref f_tape, .int 0, .ref f_words, .ref f_grammar, .ref f_meanings, .ref f_story, .ref f_draft, .int 0, .int 0, .int (-1), .ref f_told, .ref f_play, .ref f_machine, .ref f_teller, .ref f_saved, .ref f_isSaved, .ref f_past, .int 0, .int 0]))]) [0] (by decide +kernel) rfl) hS1 (by first | exact hXP | assumption)) hS1.2.2 (Nat.le_of_ble_eq_true rfl) (Nat.le_of_ble_eq_true rfl)) (fun u_2 H_3 locs w_1 hP' hD' hS' => ?_)
  clear hPc hDc hFc
  have w_1 : False := w_1
  replace hP : va_P (dC, dI) vwCl [(h0, .inr (11, [.ref f_tape, .int 0, .ref f_words, .ref f_grammar, .ref f_meanings, .ref f_story, .ref f_draft, .int 0, .int 0, .int (-1), .ref f_told, .ref f_play, .ref f_machine, .ref f_teller, .ref f_saved, .ref f_isSaved, .ref f_past, .int 0, .int 0]))] H_3 := hP'
  replace hD : va_D A [(h0, .inr (11, [.ref f_tape, .int 0, .ref f_words, .ref f_grammar, .ref f_meanings, .ref f_story, .ref f_draft, .int 0, .int 0, .int (-1), .ref f_told, .ref f_play, .ref f_machine, .ref f_teller, .ref f_saved, .ref f_isSaved, .ref f_past, .int 0, .int 0]))] := hD'
  replace hS := hS'
  clear hP' hD' hS'
  refine W.widen (k := 1) (n := 6) (Nat.le_of_ble_eq_true rfl) (Nat.le_of_ble_eq_true rfl) ?_
  exact w_1.elim

abbrev ww_X11_holder (cB cC cI cJ cZ cP : ClassId) (h0 : Nat) (f_tape : Nat) (f_words : Nat) (f_grammar : Nat) (f_meanings : Nat) (f_story : Nat) (f_draft : Nat) (f_told : Nat) (f_play : Nat) (f_machine : Nat) (f_teller : Nat) (f_saved : Nat) (f_isSaved : Nat) (f_past : Nat) (ob : Int32) : va_W := [(h0, .inr (11, [.ref f_tape, .int 0, .ref f_words, .ref f_grammar, .ref f_meanings, .ref f_story, .ref f_draft, .int 0, .int 0, .int (-1), .ref f_told, .ref f_play, .ref f_machine, .ref f_teller, .ref f_saved, .ref f_isSaved, .ref f_past, .int 0, .int 0]))]
abbrev q_X11_holder (dC : Nat → ClassId) (dI : Nat → Nat → Nat) (cB cC cI cJ cZ cP : ClassId) (h0 : Nat) (f_tape : Nat) (f_words : Nat) (f_grammar : Nat) (f_meanings : Nat) (f_story : Nat) (f_draft : Nat) (f_told : Nat) (f_play : Nat) (f_machine : Nat) (f_teller : Nat) (f_saved : Nat) (f_isSaved : Nat) (f_past : Nat) (ob : Int32) (A : Nat → Prop) : Array Value → State → Outcome → State → Prop := va_Qi (fun (r : Int32) (_ : Unit) => False) (g_Bo (dC, dI) A (fun (_ : Unit) => [(h0, .inr (11, [.ref f_tape, .int 0, .ref f_words, .ref f_grammar, .ref f_meanings, .ref f_story, .ref f_draft, .int 0, .int 0, .int (-1), .ref f_told, .ref f_play, .ref f_machine, .ref f_teller, .ref f_saved, .ref f_isSaved, .ref f_past, .int 0, .int 0]))])) A
set_option maxHeartbeats 4000000 in
set_option maxRecDepth 100000 in
theorem c_X11_holder (l : Launch) (dC : Nat → ClassId) (dI : Nat → Nat → Nat) (cB cC cI cJ cZ cP : ClassId) (hfl : l.stackTraces = false) (sz : Nat) (h0 : Nat) (f_tape : Nat) (f_words : Nat) (f_grammar : Nat) (f_meanings : Nat) (f_story : Nat) (f_draft : Nat) (f_told : Nat) (f_play : Nat) (f_machine : Nat) (f_teller : Nat) (f_saved : Nat) (f_isSaved : Nat) (f_past : Nat) (ob : Int32)  : vx_Met l yX11_holder (g_ws yX11_holder cX11_holder 2 (some .int)) ({ frames := 7, cells := 1, slots := 6, locals := 111 }) (va_Pc [.ref h0, .int ob] (g_B (dC, dI) [(cB, .byte), (cC, .char), (cI, .int), (cJ, .long), (cZ, .boolean), (cP, .object "StoryHouse$Play")] sz (ww_X11_holder cB cC cI cJ cZ cP h0 f_tape f_words f_grammar f_meanings f_story f_draft f_told f_play f_machine f_teller f_saved f_isSaved f_past ob) g_0)) (q_X11_holder dC dI cB cC cI cJ cZ cP h0 f_tape f_words f_grammar f_meanings f_story f_draft f_told f_play f_machine f_teller f_saved f_isSaved f_past ob (va_A (ww_X11_holder cB cC cI cJ cZ cP h0 f_tape f_words f_grammar f_meanings f_story f_draft f_told f_play f_machine f_teller f_saved f_isSaved f_past ob) sz)) (g_X (dC, dI) (va_A (ww_X11_holder cB cC cI cJ cZ cP h0 f_tape f_words f_grammar f_meanings f_story f_draft f_told f_play f_machine f_teller f_saved f_isSaved f_past ob) sz) [(h0, .inr (11, [.ref f_tape, .int 0, .ref f_words, .ref f_grammar, .ref f_meanings, .ref f_story, .ref f_draft, .int 0, .int 0, .int (-1), .ref f_told, .ref f_play, .ref f_machine, .ref f_teller, .ref f_saved, .ref f_isSaved, .ref f_past, .int 0, .int 0]))] (fun E : String => E = "java/lang/IndexOutOfBoundsException")) 1 6 (va_A (ww_X11_holder cB cC cI cJ cZ cP h0 f_tape f_words f_grammar f_meanings f_story f_draft f_told f_play f_machine f_teller f_saved f_isSaved f_past ob) sz) := by
  refine vx_ofW (cc := cX11_holder) (maxL := 2) (ret := (some .int)) (by decide) rfl ?_
  intro p e s m args below meth c s₁ B hml htab hv
  obtain ⟨rfl, hsz, hP, hK, hD0, hE, hX⟩ := hv
  have hx := B.exec
  have hb := B.bytes
  have hr := B.returns
  have hts0 := atoms_spec (ws := (g_ws yX11_holder cX11_holder 2 (some .int))) B.pre
  have hts : ∀ w ∈ lw_good, w.before ([.ref h0, .int ob] : List Value).toArray s = true := fun w h => hts0 w (List.mem_cons_of_mem _ h)
  have hown : s.vm.findClass RX11 = some m.cls := findClass_of_methodNamed B.named
  have hlocks := B.notSynchronized
  subst hsz
  have hD := hD0.self (sz := s.heap.size)
  generalize hAe : va_A (ww_X11_holder cB cC cI cJ cZ cP h0 f_tape f_words f_grammar f_meanings f_story f_draft f_told f_play f_machine f_teller f_saved f_isSaved f_past ob) s.heap.size = A at hD hE hX ⊢
  have hA : ∀ q : Nat, s.heap.size ≤ q → A q := fun q h => by rw [← hAe]; exact Or.inr h
  have hN := hE.1
  have hS : va_S A s.heap s.heap [] := va_S.rf
  have hP : va_P (dC, dI) vwCl [(h0, .inr (11, [.ref f_tape, .int 0, .ref f_words, .ref f_grammar, .ref f_meanings, .ref f_story, .ref f_draft, .int 0, .int 0, .int (-1), .ref f_told, .ref f_play, .ref f_machine, .ref f_teller, .ref f_saved, .ref f_isSaved, .ref f_past, .int 0, .int 0]))] s.heap := hP
  have hl := lv_entry ([.ref h0, .int ob]) (n := 2) (Nat.le_of_ble_eq_true rfl)
  rw [lg_entry_eq]
  generalize (lg_sl ([.ref h0, .int ob]) ++ List.replicate (2 - (lg_sl ([.ref h0, .int ob])).length) Slot.unset).toArray = ls at hl ⊢
  have hl : lv_has ls 2 [(0, .ref h0), (1, .int ob)] := hl
  refine lv_aload_n hx hb dX11_holder_0 rfl (lv_at hl 0 rfl) ?_
  refine lv_iload_n hx hb dX11_holder_1 rfl (lv_at hl 1 rfl) ?_
  have hPc := hP.sub (ws' := [(h0, .inr (11, [.ref f_tape, .int 0, .ref f_words, .ref f_grammar, .ref f_meanings, .ref f_story, .ref f_draft, .int 0, .int 0, .int (-1), .ref f_told, .ref f_play, .ref f_machine, .ref f_teller, .ref f_saved, .ref f_isSaved, .ref f_past, .int 0, .int 0]))]) [0] rfl
  have hDc := hD.sub (ws' := [(h0, .inr (11, [.ref f_tape, .int 0, .ref f_words, .ref f_grammar, .ref f_meanings, .ref f_story, .ref f_draft, .int 0, .int 0, .int (-1), .ref f_told, .ref f_play, .ref f_machine, .ref f_teller, .ref f_saved, .ref f_isSaved, .ref f_past, .int 0, .int 0]))]) [0] (by decide +kernel) rfl
  have hFc := va_free (wc := [(h0, .inr (11, [.ref f_tape, .int 0, .ref f_words, .ref f_grammar, .ref f_meanings, .ref f_story, .ref f_draft, .int 0, .int 0, .int (-1), .ref f_told, .ref f_play, .ref f_machine, .ref f_teller, .ref f_saved, .ref f_isSaved, .ref f_past, .int 0, .int 0]))]) hD hS hA [0] rfl
  refine g_oxv (wc := [(h0, .inr (11, [.ref f_tape, .int 0, .ref f_words, .ref f_grammar, .ref f_meanings, .ref f_story, .ref f_draft, .int 0, .int 0, .int (-1), .ref f_told, .ref f_play, .ref f_machine, .ref f_teller, .ref f_saved, .ref f_isSaved, .ref f_past, .int 0, .int 0]))]) (wr := []) hP hD hS hFc [0] [] rfl rfl (by decide +kernel) (by decide +kernel) (vx_runV (As := [.int ob]) (rest := []) ⟨hx, hb, hml, hown, hts⟩ (c_X11_needObject l dC dI cB cC cI cJ cZ cP hfl s.heap.size h0 f_tape f_words f_grammar f_meanings f_story f_draft f_told f_play f_machine f_teller f_saved f_isSaved f_past ob ) (cwV 1 hts (g_gV wq_1306 wq_1307 wq_2112 wq_1 wq_1308) rfl rfl rfl (by decide +kernel) ⟨Nat.le_of_ble_eq_true rfl, Nat.le_of_ble_eq_true rfl⟩) (g_preV g_bl0 hK hPc hDc hS hE hFc g_to0 (q0 := 0) (ci := 11) rfl rfl) rfl rfl hl.1 rfl (lv_room (Nat.le_of_ble_eq_true rfl)) dX11_holder_2 ⟨Nat.le_of_ble_eq_true rfl, Nat.le_of_ble_eq_true rfl⟩) (fun E ce q9 H1 locs1 hXP hP1 hD1 hS1 hce hcv hcl => vx_out (fun x hx => (htab x hx).elim) hlocks hce hcv hcl (g_passed (hP1.sub (ws' := [(h0, .inr (11, [.ref f_tape, .int 0, .ref f_words, .ref f_grammar, .ref f_meanings, .ref f_story, .ref f_draft, .int 0, .int 0, .int (-1), .ref f_told, .ref f_play, .ref f_machine, .ref f_teller, .ref f_saved, .ref f_isSaved, .ref f_past, .int 0, .int 0]))]) [0] rfl) (hD1.sub (ws' := [(h0, .inr (11, [.ref f_tape, .int 0, .ref f_words, .ref f_grammar, .ref f_meanings, .ref f_story, .ref f_draft, .int 0, .int 0, .int (-1), .ref f_told, .ref f_play, .ref f_machine, .ref f_teller, .ref f_saved, .ref f_isSaved, .ref f_past, .int 0, .int 0]))]) [0] (by decide +kernel) rfl) hS1 (by first | exact hXP | assumption)) hS1.2.2 (Nat.le_of_ble_eq_true rfl) (Nat.le_of_ble_eq_true rfl)) (fun u_2 H_3 locs w_1 hP' hD' hS' => ?_)
  clear hPc hDc hFc
  have w_1 : False := w_1
  replace hP : va_P (dC, dI) vwCl [(h0, .inr (11, [.ref f_tape, .int 0, .ref f_words, .ref f_grammar, .ref f_meanings, .ref f_story, .ref f_draft, .int 0, .int 0, .int (-1), .ref f_told, .ref f_play, .ref f_machine, .ref f_teller, .ref f_saved, .ref f_isSaved, .ref f_past, .int 0, .int 0]))] H_3 := hP'
  replace hD : va_D A [(h0, .inr (11, [.ref f_tape, .int 0, .ref f_words, .ref f_grammar, .ref f_meanings, .ref f_story, .ref f_draft, .int 0, .int 0, .int (-1), .ref f_told, .ref f_play, .ref f_machine, .ref f_teller, .ref f_saved, .ref f_isSaved, .ref f_past, .int 0, .int 0]))] := hD'
  replace hS := hS'
  clear hP' hD' hS'
  refine W.widen (k := 1) (n := 6) (Nat.le_of_ble_eq_true rfl) (Nat.le_of_ble_eq_true rfl) ?_
  exact w_1.elim

abbrev ww_X11_first (cB cC cI cJ cZ cP : ClassId) (h0 : Nat) (f_tape : Nat) (f_words : Nat) (f_grammar : Nat) (f_meanings : Nat) (f_story : Nat) (f_draft : Nat) (f_told : Nat) (f_play : Nat) (f_machine : Nat) (f_teller : Nat) (f_saved : Nat) (f_isSaved : Nat) (f_past : Nat) (ob : Int32) (nx : Int32) : va_W := [(h0, .inr (11, [.ref f_tape, .int 0, .ref f_words, .ref f_grammar, .ref f_meanings, .ref f_story, .ref f_draft, .int 0, .int 0, .int (-1), .ref f_told, .ref f_play, .ref f_machine, .ref f_teller, .ref f_saved, .ref f_isSaved, .ref f_past, .int 0, .int 0]))]
abbrev q_X11_first (dC : Nat → ClassId) (dI : Nat → Nat → Nat) (cB cC cI cJ cZ cP : ClassId) (h0 : Nat) (f_tape : Nat) (f_words : Nat) (f_grammar : Nat) (f_meanings : Nat) (f_story : Nat) (f_draft : Nat) (f_told : Nat) (f_play : Nat) (f_machine : Nat) (f_teller : Nat) (f_saved : Nat) (f_isSaved : Nat) (f_past : Nat) (ob : Int32) (nx : Int32) (A : Nat → Prop) : Array Value → State → Outcome → State → Prop := va_Qi (fun (r : Int32) (_ : Unit) => False) (g_Bo (dC, dI) A (fun (_ : Unit) => [(h0, .inr (11, [.ref f_tape, .int 0, .ref f_words, .ref f_grammar, .ref f_meanings, .ref f_story, .ref f_draft, .int 0, .int 0, .int (-1), .ref f_told, .ref f_play, .ref f_machine, .ref f_teller, .ref f_saved, .ref f_isSaved, .ref f_past, .int 0, .int 0]))])) A
set_option maxHeartbeats 4000000 in
set_option maxRecDepth 100000 in
theorem c_X11_first (l : Launch) (dC : Nat → ClassId) (dI : Nat → Nat → Nat) (cB cC cI cJ cZ cP : ClassId) (hfl : l.stackTraces = false) (sz : Nat) (h0 : Nat) (f_tape : Nat) (f_words : Nat) (f_grammar : Nat) (f_meanings : Nat) (f_story : Nat) (f_draft : Nat) (f_told : Nat) (f_play : Nat) (f_machine : Nat) (f_teller : Nat) (f_saved : Nat) (f_isSaved : Nat) (f_past : Nat) (ob : Int32) (nx : Int32)  : vx_Met l yX11_first (g_ws yX11_first cX11_first 3 (some .int)) ({ frames := 7, cells := 1, slots := 6, locals := 111 }) (va_Pc [.ref h0, .int ob, .int nx] (g_B (dC, dI) [(cB, .byte), (cC, .char), (cI, .int), (cJ, .long), (cZ, .boolean), (cP, .object "StoryHouse$Play")] sz (ww_X11_first cB cC cI cJ cZ cP h0 f_tape f_words f_grammar f_meanings f_story f_draft f_told f_play f_machine f_teller f_saved f_isSaved f_past ob nx) g_0)) (q_X11_first dC dI cB cC cI cJ cZ cP h0 f_tape f_words f_grammar f_meanings f_story f_draft f_told f_play f_machine f_teller f_saved f_isSaved f_past ob nx (va_A (ww_X11_first cB cC cI cJ cZ cP h0 f_tape f_words f_grammar f_meanings f_story f_draft f_told f_play f_machine f_teller f_saved f_isSaved f_past ob nx) sz)) (g_X (dC, dI) (va_A (ww_X11_first cB cC cI cJ cZ cP h0 f_tape f_words f_grammar f_meanings f_story f_draft f_told f_play f_machine f_teller f_saved f_isSaved f_past ob nx) sz) [(h0, .inr (11, [.ref f_tape, .int 0, .ref f_words, .ref f_grammar, .ref f_meanings, .ref f_story, .ref f_draft, .int 0, .int 0, .int (-1), .ref f_told, .ref f_play, .ref f_machine, .ref f_teller, .ref f_saved, .ref f_isSaved, .ref f_past, .int 0, .int 0]))] (fun E : String => E = "java/lang/IndexOutOfBoundsException")) 1 6 (va_A (ww_X11_first cB cC cI cJ cZ cP h0 f_tape f_words f_grammar f_meanings f_story f_draft f_told f_play f_machine f_teller f_saved f_isSaved f_past ob nx) sz) := by
  refine vx_ofW (cc := cX11_first) (maxL := 3) (ret := (some .int)) (by decide) rfl ?_
  intro p e s m args below meth c s₁ B hml htab hv
  obtain ⟨rfl, hsz, hP, hK, hD0, hE, hX⟩ := hv
  have hx := B.exec
  have hb := B.bytes
  have hr := B.returns
  have hts0 := atoms_spec (ws := (g_ws yX11_first cX11_first 3 (some .int))) B.pre
  have hts : ∀ w ∈ lw_good, w.before ([.ref h0, .int ob, .int nx] : List Value).toArray s = true := fun w h => hts0 w (List.mem_cons_of_mem _ h)
  have hown : s.vm.findClass RX11 = some m.cls := findClass_of_methodNamed B.named
  have hlocks := B.notSynchronized
  subst hsz
  have hD := hD0.self (sz := s.heap.size)
  generalize hAe : va_A (ww_X11_first cB cC cI cJ cZ cP h0 f_tape f_words f_grammar f_meanings f_story f_draft f_told f_play f_machine f_teller f_saved f_isSaved f_past ob nx) s.heap.size = A at hD hE hX ⊢
  have hA : ∀ q : Nat, s.heap.size ≤ q → A q := fun q h => by rw [← hAe]; exact Or.inr h
  have hN := hE.1
  have hS : va_S A s.heap s.heap [] := va_S.rf
  have hP : va_P (dC, dI) vwCl [(h0, .inr (11, [.ref f_tape, .int 0, .ref f_words, .ref f_grammar, .ref f_meanings, .ref f_story, .ref f_draft, .int 0, .int 0, .int (-1), .ref f_told, .ref f_play, .ref f_machine, .ref f_teller, .ref f_saved, .ref f_isSaved, .ref f_past, .int 0, .int 0]))] s.heap := hP
  have hl := lv_entry ([.ref h0, .int ob, .int nx]) (n := 3) (Nat.le_of_ble_eq_true rfl)
  rw [lg_entry_eq]
  generalize (lg_sl ([.ref h0, .int ob, .int nx]) ++ List.replicate (3 - (lg_sl ([.ref h0, .int ob, .int nx])).length) Slot.unset).toArray = ls at hl ⊢
  have hl : lv_has ls 3 [(0, .ref h0), (1, .int ob), (2, .int nx)] := hl
  refine lv_aload_n hx hb dX11_first_0 rfl (lv_at hl 0 rfl) ?_
  refine lv_iload_n hx hb dX11_first_1 rfl (lv_at hl 1 rfl) ?_
  have hPc := hP.sub (ws' := [(h0, .inr (11, [.ref f_tape, .int 0, .ref f_words, .ref f_grammar, .ref f_meanings, .ref f_story, .ref f_draft, .int 0, .int 0, .int (-1), .ref f_told, .ref f_play, .ref f_machine, .ref f_teller, .ref f_saved, .ref f_isSaved, .ref f_past, .int 0, .int 0]))]) [0] rfl
  have hDc := hD.sub (ws' := [(h0, .inr (11, [.ref f_tape, .int 0, .ref f_words, .ref f_grammar, .ref f_meanings, .ref f_story, .ref f_draft, .int 0, .int 0, .int (-1), .ref f_told, .ref f_play, .ref f_machine, .ref f_teller, .ref f_saved, .ref f_isSaved, .ref f_past, .int 0, .int 0]))]) [0] (by decide +kernel) rfl
  have hFc := va_free (wc := [(h0, .inr (11, [.ref f_tape, .int 0, .ref f_words, .ref f_grammar, .ref f_meanings, .ref f_story, .ref f_draft, .int 0, .int 0, .int (-1), .ref f_told, .ref f_play, .ref f_machine, .ref f_teller, .ref f_saved, .ref f_isSaved, .ref f_past, .int 0, .int 0]))]) hD hS hA [0] rfl
  refine g_oxv (wc := [(h0, .inr (11, [.ref f_tape, .int 0, .ref f_words, .ref f_grammar, .ref f_meanings, .ref f_story, .ref f_draft, .int 0, .int 0, .int (-1), .ref f_told, .ref f_play, .ref f_machine, .ref f_teller, .ref f_saved, .ref f_isSaved, .ref f_past, .int 0, .int 0]))]) (wr := []) hP hD hS hFc [0] [] rfl rfl (by decide +kernel) (by decide +kernel) (vx_runV (As := [.int ob]) (rest := []) ⟨hx, hb, hml, hown, hts⟩ (c_X11_needObject l dC dI cB cC cI cJ cZ cP hfl s.heap.size h0 f_tape f_words f_grammar f_meanings f_story f_draft f_told f_play f_machine f_teller f_saved f_isSaved f_past ob ) (cwV 1 hts (g_gV wq_1306 wq_1307 wq_2112 wq_1 wq_1308) rfl rfl rfl (by decide +kernel) ⟨Nat.le_of_ble_eq_true rfl, Nat.le_of_ble_eq_true rfl⟩) (g_preV g_bl0 hK hPc hDc hS hE hFc g_to0 (q0 := 0) (ci := 11) rfl rfl) rfl rfl hl.1 rfl (lv_room (Nat.le_of_ble_eq_true rfl)) dX11_first_2 ⟨Nat.le_of_ble_eq_true rfl, Nat.le_of_ble_eq_true rfl⟩) (fun E ce q9 H1 locs1 hXP hP1 hD1 hS1 hce hcv hcl => vx_out (fun x hx => (htab x hx).elim) hlocks hce hcv hcl (g_passed (hP1.sub (ws' := [(h0, .inr (11, [.ref f_tape, .int 0, .ref f_words, .ref f_grammar, .ref f_meanings, .ref f_story, .ref f_draft, .int 0, .int 0, .int (-1), .ref f_told, .ref f_play, .ref f_machine, .ref f_teller, .ref f_saved, .ref f_isSaved, .ref f_past, .int 0, .int 0]))]) [0] rfl) (hD1.sub (ws' := [(h0, .inr (11, [.ref f_tape, .int 0, .ref f_words, .ref f_grammar, .ref f_meanings, .ref f_story, .ref f_draft, .int 0, .int 0, .int (-1), .ref f_told, .ref f_play, .ref f_machine, .ref f_teller, .ref f_saved, .ref f_isSaved, .ref f_past, .int 0, .int 0]))]) [0] (by decide +kernel) rfl) hS1 (by first | exact hXP | assumption)) hS1.2.2 (Nat.le_of_ble_eq_true rfl) (Nat.le_of_ble_eq_true rfl)) (fun u_2 H_3 locs w_1 hP' hD' hS' => ?_)
  clear hPc hDc hFc
  have w_1 : False := w_1
  replace hP : va_P (dC, dI) vwCl [(h0, .inr (11, [.ref f_tape, .int 0, .ref f_words, .ref f_grammar, .ref f_meanings, .ref f_story, .ref f_draft, .int 0, .int 0, .int (-1), .ref f_told, .ref f_play, .ref f_machine, .ref f_teller, .ref f_saved, .ref f_isSaved, .ref f_past, .int 0, .int 0]))] H_3 := hP'
  replace hD : va_D A [(h0, .inr (11, [.ref f_tape, .int 0, .ref f_words, .ref f_grammar, .ref f_meanings, .ref f_story, .ref f_draft, .int 0, .int 0, .int (-1), .ref f_told, .ref f_play, .ref f_machine, .ref f_teller, .ref f_saved, .ref f_isSaved, .ref f_past, .int 0, .int 0]))] := hD'
  replace hS := hS'
  clear hP' hD' hS'
  refine W.widen (k := 1) (n := 6) (Nat.le_of_ble_eq_true rfl) (Nat.le_of_ble_eq_true rfl) ?_
  exact w_1.elim

abbrev ww_X11_has (cB cC cI cJ cZ cP : ClassId) (h0 : Nat) (f_tape : Nat) (f_words : Nat) (f_grammar : Nat) (f_meanings : Nat) (f_story : Nat) (f_draft : Nat) (f_told : Nat) (f_play : Nat) (f_machine : Nat) (f_teller : Nat) (f_saved : Nat) (f_isSaved : Nat) (f_past : Nat) (ob : Int32) (att : Int32) : va_W := [(h0, .inr (11, [.ref f_tape, .int 0, .ref f_words, .ref f_grammar, .ref f_meanings, .ref f_story, .ref f_draft, .int 0, .int 0, .int (-1), .ref f_told, .ref f_play, .ref f_machine, .ref f_teller, .ref f_saved, .ref f_isSaved, .ref f_past, .int 0, .int 0]))]
abbrev q_X11_has (dC : Nat → ClassId) (dI : Nat → Nat → Nat) (cB cC cI cJ cZ cP : ClassId) (h0 : Nat) (f_tape : Nat) (f_words : Nat) (f_grammar : Nat) (f_meanings : Nat) (f_story : Nat) (f_draft : Nat) (f_told : Nat) (f_play : Nat) (f_machine : Nat) (f_teller : Nat) (f_saved : Nat) (f_isSaved : Nat) (f_past : Nat) (ob : Int32) (att : Int32) (A : Nat → Prop) : Array Value → State → Outcome → State → Prop := va_Qi (fun (r : Int32) (_ : Unit) => False) (g_Bo (dC, dI) A (fun (_ : Unit) => [(h0, .inr (11, [.ref f_tape, .int 0, .ref f_words, .ref f_grammar, .ref f_meanings, .ref f_story, .ref f_draft, .int 0, .int 0, .int (-1), .ref f_told, .ref f_play, .ref f_machine, .ref f_teller, .ref f_saved, .ref f_isSaved, .ref f_past, .int 0, .int 0]))])) A
set_option maxHeartbeats 4000000 in
set_option maxRecDepth 100000 in
theorem c_X11_has (l : Launch) (dC : Nat → ClassId) (dI : Nat → Nat → Nat) (cB cC cI cJ cZ cP : ClassId) (hfl : l.stackTraces = false) (sz : Nat) (h0 : Nat) (f_tape : Nat) (f_words : Nat) (f_grammar : Nat) (f_meanings : Nat) (f_story : Nat) (f_draft : Nat) (f_told : Nat) (f_play : Nat) (f_machine : Nat) (f_teller : Nat) (f_saved : Nat) (f_isSaved : Nat) (f_past : Nat) (ob : Int32) (att : Int32)  : vx_Met l yX11_has (g_ws yX11_has cX11_has 3 (some .boolean)) ({ frames := 7, cells := 1, slots := 6, locals := 111 }) (va_Pc [.ref h0, .int ob, .int att] (g_B (dC, dI) [(cB, .byte), (cC, .char), (cI, .int), (cJ, .long), (cZ, .boolean), (cP, .object "StoryHouse$Play")] sz (ww_X11_has cB cC cI cJ cZ cP h0 f_tape f_words f_grammar f_meanings f_story f_draft f_told f_play f_machine f_teller f_saved f_isSaved f_past ob att) g_0)) (q_X11_has dC dI cB cC cI cJ cZ cP h0 f_tape f_words f_grammar f_meanings f_story f_draft f_told f_play f_machine f_teller f_saved f_isSaved f_past ob att (va_A (ww_X11_has cB cC cI cJ cZ cP h0 f_tape f_words f_grammar f_meanings f_story f_draft f_told f_play f_machine f_teller f_saved f_isSaved f_past ob att) sz)) (g_X (dC, dI) (va_A (ww_X11_has cB cC cI cJ cZ cP h0 f_tape f_words f_grammar f_meanings f_story f_draft f_told f_play f_machine f_teller f_saved f_isSaved f_past ob att) sz) [(h0, .inr (11, [.ref f_tape, .int 0, .ref f_words, .ref f_grammar, .ref f_meanings, .ref f_story, .ref f_draft, .int 0, .int 0, .int (-1), .ref f_told, .ref f_play, .ref f_machine, .ref f_teller, .ref f_saved, .ref f_isSaved, .ref f_past, .int 0, .int 0]))] (fun E : String => E = "java/lang/IndexOutOfBoundsException")) 1 6 (va_A (ww_X11_has cB cC cI cJ cZ cP h0 f_tape f_words f_grammar f_meanings f_story f_draft f_told f_play f_machine f_teller f_saved f_isSaved f_past ob att) sz) := by
  refine vx_ofW (cc := cX11_has) (maxL := 3) (ret := (some .boolean)) (by decide) rfl ?_
  intro p e s m args below meth c s₁ B hml htab hv
  obtain ⟨rfl, hsz, hP, hK, hD0, hE, hX⟩ := hv
  have hx := B.exec
  have hb := B.bytes
  have hr := B.returns
  have hts0 := atoms_spec (ws := (g_ws yX11_has cX11_has 3 (some .boolean))) B.pre
  have hts : ∀ w ∈ lw_good, w.before ([.ref h0, .int ob, .int att] : List Value).toArray s = true := fun w h => hts0 w (List.mem_cons_of_mem _ h)
  have hown : s.vm.findClass RX11 = some m.cls := findClass_of_methodNamed B.named
  have hlocks := B.notSynchronized
  subst hsz
  have hD := hD0.self (sz := s.heap.size)
  generalize hAe : va_A (ww_X11_has cB cC cI cJ cZ cP h0 f_tape f_words f_grammar f_meanings f_story f_draft f_told f_play f_machine f_teller f_saved f_isSaved f_past ob att) s.heap.size = A at hD hE hX ⊢
  have hA : ∀ q : Nat, s.heap.size ≤ q → A q := fun q h => by rw [← hAe]; exact Or.inr h
  have hN := hE.1
  have hS : va_S A s.heap s.heap [] := va_S.rf
  have hP : va_P (dC, dI) vwCl [(h0, .inr (11, [.ref f_tape, .int 0, .ref f_words, .ref f_grammar, .ref f_meanings, .ref f_story, .ref f_draft, .int 0, .int 0, .int (-1), .ref f_told, .ref f_play, .ref f_machine, .ref f_teller, .ref f_saved, .ref f_isSaved, .ref f_past, .int 0, .int 0]))] s.heap := hP
  have hl := lv_entry ([.ref h0, .int ob, .int att]) (n := 3) (Nat.le_of_ble_eq_true rfl)
  rw [lg_entry_eq]
  generalize (lg_sl ([.ref h0, .int ob, .int att]) ++ List.replicate (3 - (lg_sl ([.ref h0, .int ob, .int att])).length) Slot.unset).toArray = ls at hl ⊢
  have hl : lv_has ls 3 [(0, .ref h0), (1, .int ob), (2, .int att)] := hl
  refine lv_aload_n hx hb dX11_has_0 rfl (lv_at hl 0 rfl) ?_
  refine lv_iload_n hx hb dX11_has_1 rfl (lv_at hl 1 rfl) ?_
  have hPc := hP.sub (ws' := [(h0, .inr (11, [.ref f_tape, .int 0, .ref f_words, .ref f_grammar, .ref f_meanings, .ref f_story, .ref f_draft, .int 0, .int 0, .int (-1), .ref f_told, .ref f_play, .ref f_machine, .ref f_teller, .ref f_saved, .ref f_isSaved, .ref f_past, .int 0, .int 0]))]) [0] rfl
  have hDc := hD.sub (ws' := [(h0, .inr (11, [.ref f_tape, .int 0, .ref f_words, .ref f_grammar, .ref f_meanings, .ref f_story, .ref f_draft, .int 0, .int 0, .int (-1), .ref f_told, .ref f_play, .ref f_machine, .ref f_teller, .ref f_saved, .ref f_isSaved, .ref f_past, .int 0, .int 0]))]) [0] (by decide +kernel) rfl
  have hFc := va_free (wc := [(h0, .inr (11, [.ref f_tape, .int 0, .ref f_words, .ref f_grammar, .ref f_meanings, .ref f_story, .ref f_draft, .int 0, .int 0, .int (-1), .ref f_told, .ref f_play, .ref f_machine, .ref f_teller, .ref f_saved, .ref f_isSaved, .ref f_past, .int 0, .int 0]))]) hD hS hA [0] rfl
  refine g_oxv (wc := [(h0, .inr (11, [.ref f_tape, .int 0, .ref f_words, .ref f_grammar, .ref f_meanings, .ref f_story, .ref f_draft, .int 0, .int 0, .int (-1), .ref f_told, .ref f_play, .ref f_machine, .ref f_teller, .ref f_saved, .ref f_isSaved, .ref f_past, .int 0, .int 0]))]) (wr := []) hP hD hS hFc [0] [] rfl rfl (by decide +kernel) (by decide +kernel) (vx_runV (As := [.int ob]) (rest := []) ⟨hx, hb, hml, hown, hts⟩ (c_X11_needObject l dC dI cB cC cI cJ cZ cP hfl s.heap.size h0 f_tape f_words f_grammar f_meanings f_story f_draft f_told f_play f_machine f_teller f_saved f_isSaved f_past ob ) (cwV 1 hts (g_gV wq_1306 wq_1307 wq_2112 wq_1 wq_1308) rfl rfl rfl (by decide +kernel) ⟨Nat.le_of_ble_eq_true rfl, Nat.le_of_ble_eq_true rfl⟩) (g_preV g_bl0 hK hPc hDc hS hE hFc g_to0 (q0 := 0) (ci := 11) rfl rfl) rfl rfl hl.1 rfl (lv_room (Nat.le_of_ble_eq_true rfl)) dX11_has_2 ⟨Nat.le_of_ble_eq_true rfl, Nat.le_of_ble_eq_true rfl⟩) (fun E ce q9 H1 locs1 hXP hP1 hD1 hS1 hce hcv hcl => vx_out (fun x hx => (htab x hx).elim) hlocks hce hcv hcl (g_passed (hP1.sub (ws' := [(h0, .inr (11, [.ref f_tape, .int 0, .ref f_words, .ref f_grammar, .ref f_meanings, .ref f_story, .ref f_draft, .int 0, .int 0, .int (-1), .ref f_told, .ref f_play, .ref f_machine, .ref f_teller, .ref f_saved, .ref f_isSaved, .ref f_past, .int 0, .int 0]))]) [0] rfl) (hD1.sub (ws' := [(h0, .inr (11, [.ref f_tape, .int 0, .ref f_words, .ref f_grammar, .ref f_meanings, .ref f_story, .ref f_draft, .int 0, .int 0, .int (-1), .ref f_told, .ref f_play, .ref f_machine, .ref f_teller, .ref f_saved, .ref f_isSaved, .ref f_past, .int 0, .int 0]))]) [0] (by decide +kernel) rfl) hS1 (by first | exact hXP | assumption)) hS1.2.2 (Nat.le_of_ble_eq_true rfl) (Nat.le_of_ble_eq_true rfl)) (fun u_2 H_3 locs w_1 hP' hD' hS' => ?_)
  clear hPc hDc hFc
  have w_1 : False := w_1
  replace hP : va_P (dC, dI) vwCl [(h0, .inr (11, [.ref f_tape, .int 0, .ref f_words, .ref f_grammar, .ref f_meanings, .ref f_story, .ref f_draft, .int 0, .int 0, .int (-1), .ref f_told, .ref f_play, .ref f_machine, .ref f_teller, .ref f_saved, .ref f_isSaved, .ref f_past, .int 0, .int 0]))] H_3 := hP'
  replace hD : va_D A [(h0, .inr (11, [.ref f_tape, .int 0, .ref f_words, .ref f_grammar, .ref f_meanings, .ref f_story, .ref f_draft, .int 0, .int 0, .int (-1), .ref f_told, .ref f_play, .ref f_machine, .ref f_teller, .ref f_saved, .ref f_isSaved, .ref f_past, .int 0, .int 0]))] := hD'
  replace hS := hS'
  clear hP' hD' hS'
  refine W.widen (k := 1) (n := 6) (Nat.le_of_ble_eq_true rfl) (Nat.le_of_ble_eq_true rfl) ?_
  exact w_1.elim

abbrev ww_X11_value (cB cC cI cJ cZ cP : ClassId) (h0 : Nat) (f_tape : Nat) (f_words : Nat) (f_grammar : Nat) (f_meanings : Nat) (f_story : Nat) (f_draft : Nat) (f_told : Nat) (f_play : Nat) (f_machine : Nat) (f_teller : Nat) (f_saved : Nat) (f_isSaved : Nat) (f_past : Nat) (ka : Int32) : va_W := [(h0, .inr (11, [.ref f_tape, .int 0, .ref f_words, .ref f_grammar, .ref f_meanings, .ref f_story, .ref f_draft, .int 0, .int 0, .int (-1), .ref f_told, .ref f_play, .ref f_machine, .ref f_teller, .ref f_saved, .ref f_isSaved, .ref f_past, .int 0, .int 0]))]
abbrev q_X11_value (dC : Nat → ClassId) (dI : Nat → Nat → Nat) (cB cC cI cJ cZ cP : ClassId) (h0 : Nat) (f_tape : Nat) (f_words : Nat) (f_grammar : Nat) (f_meanings : Nat) (f_story : Nat) (f_draft : Nat) (f_told : Nat) (f_play : Nat) (f_machine : Nat) (f_teller : Nat) (f_saved : Nat) (f_isSaved : Nat) (f_past : Nat) (ka : Int32) (A : Nat → Prop) : Array Value → State → Outcome → State → Prop := va_Qi (fun (r : Int32) (_ : Unit) => False) (g_Bo (dC, dI) A (fun (_ : Unit) => [(h0, .inr (11, [.ref f_tape, .int 0, .ref f_words, .ref f_grammar, .ref f_meanings, .ref f_story, .ref f_draft, .int 0, .int 0, .int (-1), .ref f_told, .ref f_play, .ref f_machine, .ref f_teller, .ref f_saved, .ref f_isSaved, .ref f_past, .int 0, .int 0]))])) A
set_option maxHeartbeats 4000000 in
set_option maxRecDepth 100000 in
theorem c_X11_value (l : Launch) (dC : Nat → ClassId) (dI : Nat → Nat → Nat) (cB cC cI cJ cZ cP : ClassId) (hfl : l.stackTraces = false) (sz : Nat) (h0 : Nat) (f_tape : Nat) (f_words : Nat) (f_grammar : Nat) (f_meanings : Nat) (f_story : Nat) (f_draft : Nat) (f_told : Nat) (f_play : Nat) (f_machine : Nat) (f_teller : Nat) (f_saved : Nat) (f_isSaved : Nat) (f_past : Nat) (ka : Int32)  : vx_Met l yX11_value (g_ws yX11_value cX11_value 2 (some .int)) ({ frames := 6, cells := 1, slots := 6, locals := 90 }) (va_Pc [.ref h0, .int ka] (g_B (dC, dI) [(cB, .byte), (cC, .char), (cI, .int), (cJ, .long), (cZ, .boolean), (cP, .object "StoryHouse$Play")] sz (ww_X11_value cB cC cI cJ cZ cP h0 f_tape f_words f_grammar f_meanings f_story f_draft f_told f_play f_machine f_teller f_saved f_isSaved f_past ka) g_0)) (q_X11_value dC dI cB cC cI cJ cZ cP h0 f_tape f_words f_grammar f_meanings f_story f_draft f_told f_play f_machine f_teller f_saved f_isSaved f_past ka (va_A (ww_X11_value cB cC cI cJ cZ cP h0 f_tape f_words f_grammar f_meanings f_story f_draft f_told f_play f_machine f_teller f_saved f_isSaved f_past ka) sz)) (g_X (dC, dI) (va_A (ww_X11_value cB cC cI cJ cZ cP h0 f_tape f_words f_grammar f_meanings f_story f_draft f_told f_play f_machine f_teller f_saved f_isSaved f_past ka) sz) [(h0, .inr (11, [.ref f_tape, .int 0, .ref f_words, .ref f_grammar, .ref f_meanings, .ref f_story, .ref f_draft, .int 0, .int 0, .int (-1), .ref f_told, .ref f_play, .ref f_machine, .ref f_teller, .ref f_saved, .ref f_isSaved, .ref f_past, .int 0, .int 0]))] (fun E : String => E = "java/lang/IndexOutOfBoundsException")) 1 6 (va_A (ww_X11_value cB cC cI cJ cZ cP h0 f_tape f_words f_grammar f_meanings f_story f_draft f_told f_play f_machine f_teller f_saved f_isSaved f_past ka) sz) := by
  refine vx_ofW (cc := cX11_value) (maxL := 2) (ret := (some .int)) (by decide) rfl ?_
  intro p e s m args below meth c s₁ B hml htab hv
  obtain ⟨rfl, hsz, hP, hK, hD0, hE, hX⟩ := hv
  have hx := B.exec
  have hb := B.bytes
  have hr := B.returns
  have hts0 := atoms_spec (ws := (g_ws yX11_value cX11_value 2 (some .int))) B.pre
  have hts : ∀ w ∈ lw_good, w.before ([.ref h0, .int ka] : List Value).toArray s = true := fun w h => hts0 w (List.mem_cons_of_mem _ h)
  have hown : s.vm.findClass RX11 = some m.cls := findClass_of_methodNamed B.named
  have hlocks := B.notSynchronized
  subst hsz
  have hD := hD0.self (sz := s.heap.size)
  generalize hAe : va_A (ww_X11_value cB cC cI cJ cZ cP h0 f_tape f_words f_grammar f_meanings f_story f_draft f_told f_play f_machine f_teller f_saved f_isSaved f_past ka) s.heap.size = A at hD hE hX ⊢
  have hA : ∀ q : Nat, s.heap.size ≤ q → A q := fun q h => by rw [← hAe]; exact Or.inr h
  have hN := hE.1
  have hS : va_S A s.heap s.heap [] := va_S.rf
  have hP : va_P (dC, dI) vwCl [(h0, .inr (11, [.ref f_tape, .int 0, .ref f_words, .ref f_grammar, .ref f_meanings, .ref f_story, .ref f_draft, .int 0, .int 0, .int (-1), .ref f_told, .ref f_play, .ref f_machine, .ref f_teller, .ref f_saved, .ref f_isSaved, .ref f_past, .int 0, .int 0]))] s.heap := hP
  have hl := lv_entry ([.ref h0, .int ka]) (n := 2) (Nat.le_of_ble_eq_true rfl)
  rw [lg_entry_eq]
  generalize (lg_sl ([.ref h0, .int ka]) ++ List.replicate (2 - (lg_sl ([.ref h0, .int ka])).length) Slot.unset).toArray = ls at hl ⊢
  have hl : lv_has ls 2 [(0, .ref h0), (1, .int ka)] := hl
  refine lv_aload_n hx hb dX11_value_0 rfl (lv_at hl 0 rfl) ?_
  refine va_get (D := (dC, dI)) (ci := 11) (v := .int 0) (C := RX11) (T := TX11) (N := 19) hx hb hts ii_X11 hown hK hP 0 rfl rfl 7 (by decide) (hts (.fieldLink RX11 162 "StoryHouse" "built" "Z") wq_310) (fun _ h9 => h9) rfl dX11_value_1 ?_
  refine lv_if_eq (tgt := 24) hx hb dX11_value_4 (by decide) (fun c_1 => ?_) (fun c_1 => absurd (by decide +kernel) c_1)
  obtain ⟨q_2, vq_2, hRq_2, hSq_2⟩ := hE.2.2.2.2 _ (List.mem_of_getElem? (i := 75) rfl)
  have hPx := hP.sub (ws' := [(h0, .inr (11, [.ref f_tape, .int 0, .ref f_words, .ref f_grammar, .ref f_meanings, .ref f_story, .ref f_draft, .int 0, .int 0, .int (-1), .ref f_told, .ref f_play, .ref f_machine, .ref f_teller, .ref f_saved, .ref f_isSaved, .ref f_past, .int 0, .int 0]))]) [0] rfl
  have hDx := hD.sub (ws' := [(h0, .inr (11, [.ref f_tape, .int 0, .ref f_words, .ref f_grammar, .ref f_meanings, .ref f_story, .ref f_draft, .int 0, .int 0, .int (-1), .ref f_told, .ref f_play, .ref f_machine, .ref f_teller, .ref f_saved, .ref f_isSaved, .ref f_past, .int 0, .int 0]))]) [0] (by decide +kernel) rfl
  exact vx_throwSW hx hb hfl (own := RX11) (cls := "java/lang/IndexOutOfBoundsException") (text := "there is no such var") (names := ["java/lang/RuntimeException", "java/lang/Exception"]) (A := A) hown (by decide +kernel) (by decide +kernel) (hts (.classLink RX11 223 "java/lang/IndexOutOfBoundsException") wq_1273) (hts (.initialized "java/lang/IndexOutOfBoundsException") wq_27) hRq_2 (g_bad hN (fun w h => hts w (wx_227 w h)) (by decide +kernel) (g_badB hN (List.mem_of_getElem? (i := 2) rfl))) (by decide +kernel) hE.2.1 hE.2.2.1 hS (hl.1.trans hml.symm) dX11_value_24 dX11_value_27 dX11_value_28 dX11_value_31 dX11_value_34 (fun x hx => (htab x hx).elim) (by decide) (by decide) (Nat.le_of_ble_eq_true rfl) (Nat.le_of_ble_eq_true rfl) hlocks (g_thr hPx hDx hS (by first | rfl | trivial | assumption | exact ⟨rfl, by assumption⟩)) hS.2.2 (Nat.le_of_ble_eq_true rfl) (Nat.le_of_ble_eq_true rfl)

abbrev ww_X11_cell (cB cC cI cJ cZ cP : ClassId) (h0 : Nat) (f_tape : Nat) (f_words : Nat) (f_grammar : Nat) (f_meanings : Nat) (f_story : Nat) (f_draft : Nat) (f_told : Nat) (f_play : Nat) (f_machine : Nat) (f_teller : Nat) (f_saved : Nat) (f_isSaved : Nat) (f_past : Nat) (ka : Int32) (ia : Int32) : va_W := [(h0, .inr (11, [.ref f_tape, .int 0, .ref f_words, .ref f_grammar, .ref f_meanings, .ref f_story, .ref f_draft, .int 0, .int 0, .int (-1), .ref f_told, .ref f_play, .ref f_machine, .ref f_teller, .ref f_saved, .ref f_isSaved, .ref f_past, .int 0, .int 0]))]
abbrev q_X11_cell (dC : Nat → ClassId) (dI : Nat → Nat → Nat) (cB cC cI cJ cZ cP : ClassId) (h0 : Nat) (f_tape : Nat) (f_words : Nat) (f_grammar : Nat) (f_meanings : Nat) (f_story : Nat) (f_draft : Nat) (f_told : Nat) (f_play : Nat) (f_machine : Nat) (f_teller : Nat) (f_saved : Nat) (f_isSaved : Nat) (f_past : Nat) (ka : Int32) (ia : Int32) (A : Nat → Prop) : Array Value → State → Outcome → State → Prop := va_Qi (fun (r : Int32) (_ : Unit) => False) (g_Bo (dC, dI) A (fun (_ : Unit) => [(h0, .inr (11, [.ref f_tape, .int 0, .ref f_words, .ref f_grammar, .ref f_meanings, .ref f_story, .ref f_draft, .int 0, .int 0, .int (-1), .ref f_told, .ref f_play, .ref f_machine, .ref f_teller, .ref f_saved, .ref f_isSaved, .ref f_past, .int 0, .int 0]))])) A
set_option maxHeartbeats 4000000 in
set_option maxRecDepth 100000 in
theorem c_X11_cell (l : Launch) (dC : Nat → ClassId) (dI : Nat → Nat → Nat) (cB cC cI cJ cZ cP : ClassId) (hfl : l.stackTraces = false) (sz : Nat) (h0 : Nat) (f_tape : Nat) (f_words : Nat) (f_grammar : Nat) (f_meanings : Nat) (f_story : Nat) (f_draft : Nat) (f_told : Nat) (f_play : Nat) (f_machine : Nat) (f_teller : Nat) (f_saved : Nat) (f_isSaved : Nat) (f_past : Nat) (ka : Int32) (ia : Int32)  : vx_Met l yX11_cell (g_ws yX11_cell cX11_cell 3 (some .int)) ({ frames := 6, cells := 1, slots := 6, locals := 90 }) (va_Pc [.ref h0, .int ka, .int ia] (g_B (dC, dI) [(cB, .byte), (cC, .char), (cI, .int), (cJ, .long), (cZ, .boolean), (cP, .object "StoryHouse$Play")] sz (ww_X11_cell cB cC cI cJ cZ cP h0 f_tape f_words f_grammar f_meanings f_story f_draft f_told f_play f_machine f_teller f_saved f_isSaved f_past ka ia) g_0)) (q_X11_cell dC dI cB cC cI cJ cZ cP h0 f_tape f_words f_grammar f_meanings f_story f_draft f_told f_play f_machine f_teller f_saved f_isSaved f_past ka ia (va_A (ww_X11_cell cB cC cI cJ cZ cP h0 f_tape f_words f_grammar f_meanings f_story f_draft f_told f_play f_machine f_teller f_saved f_isSaved f_past ka ia) sz)) (g_X (dC, dI) (va_A (ww_X11_cell cB cC cI cJ cZ cP h0 f_tape f_words f_grammar f_meanings f_story f_draft f_told f_play f_machine f_teller f_saved f_isSaved f_past ka ia) sz) [(h0, .inr (11, [.ref f_tape, .int 0, .ref f_words, .ref f_grammar, .ref f_meanings, .ref f_story, .ref f_draft, .int 0, .int 0, .int (-1), .ref f_told, .ref f_play, .ref f_machine, .ref f_teller, .ref f_saved, .ref f_isSaved, .ref f_past, .int 0, .int 0]))] (fun E : String => E = "java/lang/IndexOutOfBoundsException")) 1 6 (va_A (ww_X11_cell cB cC cI cJ cZ cP h0 f_tape f_words f_grammar f_meanings f_story f_draft f_told f_play f_machine f_teller f_saved f_isSaved f_past ka ia) sz) := by
  refine vx_ofW (cc := cX11_cell) (maxL := 3) (ret := (some .int)) (by decide) rfl ?_
  intro p e s m args below meth c s₁ B hml htab hv
  obtain ⟨rfl, hsz, hP, hK, hD0, hE, hX⟩ := hv
  have hx := B.exec
  have hb := B.bytes
  have hr := B.returns
  have hts0 := atoms_spec (ws := (g_ws yX11_cell cX11_cell 3 (some .int))) B.pre
  have hts : ∀ w ∈ lw_good, w.before ([.ref h0, .int ka, .int ia] : List Value).toArray s = true := fun w h => hts0 w (List.mem_cons_of_mem _ h)
  have hown : s.vm.findClass RX11 = some m.cls := findClass_of_methodNamed B.named
  have hlocks := B.notSynchronized
  subst hsz
  have hD := hD0.self (sz := s.heap.size)
  generalize hAe : va_A (ww_X11_cell cB cC cI cJ cZ cP h0 f_tape f_words f_grammar f_meanings f_story f_draft f_told f_play f_machine f_teller f_saved f_isSaved f_past ka ia) s.heap.size = A at hD hE hX ⊢
  have hA : ∀ q : Nat, s.heap.size ≤ q → A q := fun q h => by rw [← hAe]; exact Or.inr h
  have hN := hE.1
  have hS : va_S A s.heap s.heap [] := va_S.rf
  have hP : va_P (dC, dI) vwCl [(h0, .inr (11, [.ref f_tape, .int 0, .ref f_words, .ref f_grammar, .ref f_meanings, .ref f_story, .ref f_draft, .int 0, .int 0, .int (-1), .ref f_told, .ref f_play, .ref f_machine, .ref f_teller, .ref f_saved, .ref f_isSaved, .ref f_past, .int 0, .int 0]))] s.heap := hP
  have hl := lv_entry ([.ref h0, .int ka, .int ia]) (n := 3) (Nat.le_of_ble_eq_true rfl)
  rw [lg_entry_eq]
  generalize (lg_sl ([.ref h0, .int ka, .int ia]) ++ List.replicate (3 - (lg_sl ([.ref h0, .int ka, .int ia])).length) Slot.unset).toArray = ls at hl ⊢
  have hl : lv_has ls 3 [(0, .ref h0), (1, .int ka), (2, .int ia)] := hl
  refine lv_aload_n hx hb dX11_cell_0 rfl (lv_at hl 0 rfl) ?_
  refine va_get (D := (dC, dI)) (ci := 11) (v := .int 0) (C := RX11) (T := TX11) (N := 19) hx hb hts ii_X11 hown hK hP 0 rfl rfl 7 (by decide) (hts (.fieldLink RX11 162 "StoryHouse" "built" "Z") wq_310) (fun _ h9 => h9) rfl dX11_cell_1 ?_
  refine lv_if_eq (tgt := 37) hx hb dX11_cell_4 (by decide) (fun c_1 => ?_) (fun c_1 => absurd (by decide +kernel) c_1)
  obtain ⟨q_2, vq_2, hRq_2, hSq_2⟩ := hE.2.2.2.2 _ (List.mem_of_getElem? (i := 76) rfl)
  have hPx := hP.sub (ws' := [(h0, .inr (11, [.ref f_tape, .int 0, .ref f_words, .ref f_grammar, .ref f_meanings, .ref f_story, .ref f_draft, .int 0, .int 0, .int (-1), .ref f_told, .ref f_play, .ref f_machine, .ref f_teller, .ref f_saved, .ref f_isSaved, .ref f_past, .int 0, .int 0]))]) [0] rfl
  have hDx := hD.sub (ws' := [(h0, .inr (11, [.ref f_tape, .int 0, .ref f_words, .ref f_grammar, .ref f_meanings, .ref f_story, .ref f_draft, .int 0, .int 0, .int (-1), .ref f_told, .ref f_play, .ref f_machine, .ref f_teller, .ref f_saved, .ref f_isSaved, .ref f_past, .int 0, .int 0]))]) [0] (by decide +kernel) rfl
  exact vx_throwSW hx hb hfl (own := RX11) (cls := "java/lang/IndexOutOfBoundsException") (text := "there is no such cell") (names := ["java/lang/RuntimeException", "java/lang/Exception"]) (A := A) hown (by decide +kernel) (by decide +kernel) (hts (.classLink RX11 223 "java/lang/IndexOutOfBoundsException") wq_1273) (hts (.initialized "java/lang/IndexOutOfBoundsException") wq_27) hRq_2 (g_bad hN (fun w h => hts w (wx_227 w h)) (by decide +kernel) (g_badB hN (List.mem_of_getElem? (i := 2) rfl))) (by decide +kernel) hE.2.1 hE.2.2.1 hS (hl.1.trans hml.symm) dX11_cell_37 dX11_cell_40 dX11_cell_41 dX11_cell_44 dX11_cell_47 (fun x hx => (htab x hx).elim) (by decide) (by decide) (Nat.le_of_ble_eq_true rfl) (Nat.le_of_ble_eq_true rfl) hlocks (g_thr hPx hDx hS (by first | rfl | trivial | assumption | exact ⟨rfl, by assumption⟩)) hS.2.2 (Nat.le_of_ble_eq_true rfl) (Nat.le_of_ble_eq_true rfl)

abbrev ww_X11_told (cB cC cI cJ cZ cP : ClassId) (h0 : Nat) (f_tape : Nat) (f_words : Nat) (f_grammar : Nat) (f_meanings : Nat) (f_story : Nat) (f_draft : Nat) (f_told : Nat) (f_play : Nat) (f_machine : Nat) (f_teller : Nat) (f_saved : Nat) (f_isSaved : Nat) (f_past : Nat) (wh : Int32) : va_W := [(h0, .inr (11, [.ref f_tape, .int 0, .ref f_words, .ref f_grammar, .ref f_meanings, .ref f_story, .ref f_draft, .int 0, .int 0, .int (-1), .ref f_told, .ref f_play, .ref f_machine, .ref f_teller, .ref f_saved, .ref f_isSaved, .ref f_past, .int 0, .int 0]))]
abbrev q_X11_told (dC : Nat → ClassId) (dI : Nat → Nat → Nat) (cB cC cI cJ cZ cP : ClassId) (h0 : Nat) (f_tape : Nat) (f_words : Nat) (f_grammar : Nat) (f_meanings : Nat) (f_story : Nat) (f_draft : Nat) (f_told : Nat) (f_play : Nat) (f_machine : Nat) (f_teller : Nat) (f_saved : Nat) (f_isSaved : Nat) (f_past : Nat) (wh : Int32) (A : Nat → Prop) : Array Value → State → Outcome → State → Prop := va_Qi (fun (r : Int32) (_ : Unit) => r = 0 ∧ ¬ wh < 0 ∧ wh ≤ 11) (g_Bo (dC, dI) A (fun (_ : Unit) => [(h0, .inr (11, [.ref f_tape, .int 0, .ref f_words, .ref f_grammar, .ref f_meanings, .ref f_story, .ref f_draft, .int 0, .int 0, .int (-1), .ref f_told, .ref f_play, .ref f_machine, .ref f_teller, .ref f_saved, .ref f_isSaved, .ref f_past, .int 0, .int 0]))])) A
set_option maxHeartbeats 4000000 in
set_option maxRecDepth 100000 in
theorem c_X11_told (l : Launch) (dC : Nat → ClassId) (dI : Nat → Nat → Nat) (cB cC cI cJ cZ cP : ClassId) (hfl : l.stackTraces = false) (sz : Nat) (h0 : Nat) (f_tape : Nat) (f_words : Nat) (f_grammar : Nat) (f_meanings : Nat) (f_story : Nat) (f_draft : Nat) (f_told : Nat) (f_play : Nat) (f_machine : Nat) (f_teller : Nat) (f_saved : Nat) (f_isSaved : Nat) (f_past : Nat) (wh : Int32)  : vx_Met l yX11_told (g_ws yX11_told cX11_told 2 (some .int)) ({ frames := 6, cells := 1, slots := 6, locals := 90 }) (va_Pc [.ref h0, .int wh] (g_B (dC, dI) [(cB, .byte), (cC, .char), (cI, .int), (cJ, .long), (cZ, .boolean), (cP, .object "StoryHouse$Play")] sz (ww_X11_told cB cC cI cJ cZ cP h0 f_tape f_words f_grammar f_meanings f_story f_draft f_told f_play f_machine f_teller f_saved f_isSaved f_past wh) g_0)) (q_X11_told dC dI cB cC cI cJ cZ cP h0 f_tape f_words f_grammar f_meanings f_story f_draft f_told f_play f_machine f_teller f_saved f_isSaved f_past wh (va_A (ww_X11_told cB cC cI cJ cZ cP h0 f_tape f_words f_grammar f_meanings f_story f_draft f_told f_play f_machine f_teller f_saved f_isSaved f_past wh) sz)) (g_X (dC, dI) (va_A (ww_X11_told cB cC cI cJ cZ cP h0 f_tape f_words f_grammar f_meanings f_story f_draft f_told f_play f_machine f_teller f_saved f_isSaved f_past wh) sz) [(h0, .inr (11, [.ref f_tape, .int 0, .ref f_words, .ref f_grammar, .ref f_meanings, .ref f_story, .ref f_draft, .int 0, .int 0, .int (-1), .ref f_told, .ref f_play, .ref f_machine, .ref f_teller, .ref f_saved, .ref f_isSaved, .ref f_past, .int 0, .int 0]))] (fun E : String => E = "java/lang/IllegalArgumentException" ∧ (wh < 0 ∨ ¬ wh ≤ 11))) 1 6 (va_A (ww_X11_told cB cC cI cJ cZ cP h0 f_tape f_words f_grammar f_meanings f_story f_draft f_told f_play f_machine f_teller f_saved f_isSaved f_past wh) sz) := by
  refine vx_ofW (cc := cX11_told) (maxL := 2) (ret := (some .int)) (by decide) rfl ?_
  intro p e s m args below meth c s₁ B hml htab hv
  obtain ⟨rfl, hsz, hP, hK, hD0, hE, hX⟩ := hv
  have hx := B.exec
  have hb := B.bytes
  have hr := B.returns
  have hts0 := atoms_spec (ws := (g_ws yX11_told cX11_told 2 (some .int))) B.pre
  have hts : ∀ w ∈ lw_good, w.before ([.ref h0, .int wh] : List Value).toArray s = true := fun w h => hts0 w (List.mem_cons_of_mem _ h)
  have hown : s.vm.findClass RX11 = some m.cls := findClass_of_methodNamed B.named
  have hlocks := B.notSynchronized
  subst hsz
  have hD := hD0.self (sz := s.heap.size)
  generalize hAe : va_A (ww_X11_told cB cC cI cJ cZ cP h0 f_tape f_words f_grammar f_meanings f_story f_draft f_told f_play f_machine f_teller f_saved f_isSaved f_past wh) s.heap.size = A at hD hE hX ⊢
  have hA : ∀ q : Nat, s.heap.size ≤ q → A q := fun q h => by rw [← hAe]; exact Or.inr h
  have hN := hE.1
  have hS : va_S A s.heap s.heap [] := va_S.rf
  have hP : va_P (dC, dI) vwCl [(h0, .inr (11, [.ref f_tape, .int 0, .ref f_words, .ref f_grammar, .ref f_meanings, .ref f_story, .ref f_draft, .int 0, .int 0, .int (-1), .ref f_told, .ref f_play, .ref f_machine, .ref f_teller, .ref f_saved, .ref f_isSaved, .ref f_past, .int 0, .int 0]))] s.heap := hP
  have hl := lv_entry ([.ref h0, .int wh]) (n := 2) (Nat.le_of_ble_eq_true rfl)
  rw [lg_entry_eq]
  generalize (lg_sl ([.ref h0, .int wh]) ++ List.replicate (2 - (lg_sl ([.ref h0, .int wh])).length) Slot.unset).toArray = ls at hl ⊢
  have hl : lv_has ls 2 [(0, .ref h0), (1, .int wh)] := hl
  refine lv_iload_n hx hb dX11_told_0 rfl (lv_at hl 1 rfl) ?_
  refine lv_if_lt (tgt := 10) hx hb dX11_told_1 (by decide) (fun c_1 => ?_) (fun c_1 => ?_)
  · obtain ⟨q_2, vq_2, hRq_2, hSq_2⟩ := hE.2.2.2.2 _ (List.mem_of_getElem? (i := 77) rfl)
    have hPx := hP.sub (ws' := [(h0, .inr (11, [.ref f_tape, .int 0, .ref f_words, .ref f_grammar, .ref f_meanings, .ref f_story, .ref f_draft, .int 0, .int 0, .int (-1), .ref f_told, .ref f_play, .ref f_machine, .ref f_teller, .ref f_saved, .ref f_isSaved, .ref f_past, .int 0, .int 0]))]) [0] rfl
    have hDx := hD.sub (ws' := [(h0, .inr (11, [.ref f_tape, .int 0, .ref f_words, .ref f_grammar, .ref f_meanings, .ref f_story, .ref f_draft, .int 0, .int 0, .int (-1), .ref f_told, .ref f_play, .ref f_machine, .ref f_teller, .ref f_saved, .ref f_isSaved, .ref f_past, .int 0, .int 0]))]) [0] (by decide +kernel) rfl
    exact vx_throwSW hx hb hfl (own := RX11) (cls := "java/lang/IllegalArgumentException") (text := "what is not 0 .. 11") (names := ["java/lang/RuntimeException", "java/lang/Exception"]) (A := A) hown (by decide +kernel) (by decide +kernel) (hts (.classLink RX11 95 "java/lang/IllegalArgumentException") wq_925) (hts (.initialized "java/lang/IllegalArgumentException") wq_17) hRq_2 (g_bad hN (fun w h => hts w (wx_99 w h)) (by decide +kernel) (g_badB hN (List.mem_of_getElem? (i := 0) rfl))) (by decide +kernel) hE.2.1 hE.2.2.1 hS (hl.1.trans hml.symm) dX11_told_10 dX11_told_13 dX11_told_14 dX11_told_17 dX11_told_20 (fun x hx => (htab x hx).elim) (by decide) (by decide) (Nat.le_of_ble_eq_true rfl) (Nat.le_of_ble_eq_true rfl) hlocks (g_thr hPx hDx hS ⟨rfl, by first | exact Or.inl (by assumption) | exact Or.inr (by assumption)⟩) hS.2.2 (Nat.le_of_ble_eq_true rfl) (Nat.le_of_ble_eq_true rfl)
  · refine lv_iload_n hx hb dX11_told_4 rfl (lv_at hl 1 rfl) ?_
    refine lv_bipush (v := 11) hx hb dX11_told_5 (by decide +kernel) ?_
    refine lv_icmp_le (tgt := 21) hx hb dX11_told_7 (by decide) (fun c_3 => ?_) (fun c_3 => ?_)
    · refine lv_aload_n hx hb dX11_told_21 rfl (lv_at hl 0 rfl) ?_
      refine va_get (D := (dC, dI)) (ci := 11) (v := .int 0) (C := RX11) (T := TX11) (N := 19) hx hb hts ii_X11 hown hK hP 0 rfl rfl 7 (by decide) (hts (.fieldLink RX11 162 "StoryHouse" "built" "Z") wq_310) (fun _ h9 => h9) rfl dX11_told_22 ?_
      refine lv_if_ne (tgt := 30) hx hb dX11_told_25 (by decide) (fun c_4 => absurd c_4 (by decide +kernel)) (fun c_4 => ?_)
      refine lv_iconst (v := 0) hx hb dX11_told_28 (by decide +kernel) ?_
      have hP9 := hP.sub (ws' := [(h0, .inr (11, [.ref f_tape, .int 0, .ref f_words, .ref f_grammar, .ref f_meanings, .ref f_story, .ref f_draft, .int 0, .int 0, .int (-1), .ref f_told, .ref f_play, .ref f_machine, .ref f_teller, .ref f_saved, .ref f_isSaved, .ref f_past, .int 0, .int 0]))]) [0] rfl
      have hD9 := hD.sub (ws' := [(h0, .inr (11, [.ref f_tape, .int 0, .ref f_words, .ref f_grammar, .ref f_meanings, .ref f_story, .ref f_draft, .int 0, .int 0, .int (-1), .ref f_told, .ref f_play, .ref f_machine, .ref f_teller, .ref f_saved, .ref f_isSaved, .ref f_past, .int 0, .int 0]))]) [0] (by decide +kernel) rfl
      refine W.widen (k := 1) (n := 6) (Nat.le_of_ble_eq_true rfl) (Nat.le_of_ble_eq_true rfl) ?_
      refine vx_ret ?_
      exact W.iret (v := 0) hx hb hr (fun t ht hW => ⟨⟨0, (), rfl, (⟨rfl, by assumption, by assumption⟩), by rw [ht]; exact hP9, hD9⟩, hS.F ht⟩) hS.2.2 dX11_told_29
    · obtain ⟨q_5, vq_5, hRq_5, hSq_5⟩ := hE.2.2.2.2 _ (List.mem_of_getElem? (i := 77) rfl)
      have hPx := hP.sub (ws' := [(h0, .inr (11, [.ref f_tape, .int 0, .ref f_words, .ref f_grammar, .ref f_meanings, .ref f_story, .ref f_draft, .int 0, .int 0, .int (-1), .ref f_told, .ref f_play, .ref f_machine, .ref f_teller, .ref f_saved, .ref f_isSaved, .ref f_past, .int 0, .int 0]))]) [0] rfl
      have hDx := hD.sub (ws' := [(h0, .inr (11, [.ref f_tape, .int 0, .ref f_words, .ref f_grammar, .ref f_meanings, .ref f_story, .ref f_draft, .int 0, .int 0, .int (-1), .ref f_told, .ref f_play, .ref f_machine, .ref f_teller, .ref f_saved, .ref f_isSaved, .ref f_past, .int 0, .int 0]))]) [0] (by decide +kernel) rfl
      exact vx_throwSW hx hb hfl (own := RX11) (cls := "java/lang/IllegalArgumentException") (text := "what is not 0 .. 11") (names := ["java/lang/RuntimeException", "java/lang/Exception"]) (A := A) hown (by decide +kernel) (by decide +kernel) (hts (.classLink RX11 95 "java/lang/IllegalArgumentException") wq_925) (hts (.initialized "java/lang/IllegalArgumentException") wq_17) hRq_5 (g_bad hN (fun w h => hts w (wx_99 w h)) (by decide +kernel) (g_badB hN (List.mem_of_getElem? (i := 0) rfl))) (by decide +kernel) hE.2.1 hE.2.2.1 hS (hl.1.trans hml.symm) dX11_told_10 dX11_told_13 dX11_told_14 dX11_told_17 dX11_told_20 (fun x hx => (htab x hx).elim) (by decide) (by decide) (Nat.le_of_ble_eq_true rfl) (Nat.le_of_ble_eq_true rfl) hlocks (g_thr hPx hDx hS ⟨rfl, by first | exact Or.inl (by assumption) | exact Or.inr (by assumption)⟩) hS.2.2 (Nat.le_of_ble_eq_true rfl) (Nat.le_of_ble_eq_true rfl)

abbrev ww_X11_size (cB cC cI cJ cZ cP : ClassId) (h0 : Nat) (f_tape : Nat) (f_words : Nat) (f_grammar : Nat) (f_meanings : Nat) (f_story : Nat) (f_draft : Nat) (f_told : Nat) (f_play : Nat) (f_machine : Nat) (f_teller : Nat) (f_saved : Nat) (f_isSaved : Nat) (f_past : Nat) (f_bytes : Nat) : va_W := [(h0, .inr (11, [.ref f_tape, .int 0, .ref f_words, .ref f_grammar, .ref f_meanings, .ref f_story, .ref f_draft, .int 0, .int 0, .int (-1), .ref f_told, .ref f_play, .ref f_machine, .ref f_teller, .ref f_saved, .ref f_isSaved, .ref f_past, .int 0, .int 0])), (f_told, .inr (5, [.ref f_bytes, .int 0]))]
abbrev q_X11_size (dC : Nat → ClassId) (dI : Nat → Nat → Nat) (cB cC cI cJ cZ cP : ClassId) (h0 : Nat) (f_tape : Nat) (f_words : Nat) (f_grammar : Nat) (f_meanings : Nat) (f_story : Nat) (f_draft : Nat) (f_told : Nat) (f_play : Nat) (f_machine : Nat) (f_teller : Nat) (f_saved : Nat) (f_isSaved : Nat) (f_past : Nat) (f_bytes : Nat) (A : Nat → Prop) : Array Value → State → Outcome → State → Prop := va_Qi (fun (r : Int32) (_ : Unit) => r = 0) (g_Bo (dC, dI) A (fun (_ : Unit) => [(h0, .inr (11, [.ref f_tape, .int 0, .ref f_words, .ref f_grammar, .ref f_meanings, .ref f_story, .ref f_draft, .int 0, .int 0, .int (-1), .ref f_told, .ref f_play, .ref f_machine, .ref f_teller, .ref f_saved, .ref f_isSaved, .ref f_past, .int 0, .int 0])), (f_told, .inr (5, [.ref f_bytes, .int 0]))])) A
set_option maxHeartbeats 4000000 in
set_option maxRecDepth 100000 in
theorem c_X11_size (l : Launch) (dC : Nat → ClassId) (dI : Nat → Nat → Nat) (cB cC cI cJ cZ cP : ClassId) (sz : Nat) (h0 : Nat) (f_tape : Nat) (f_words : Nat) (f_grammar : Nat) (f_meanings : Nat) (f_story : Nat) (f_draft : Nat) (f_told : Nat) (f_play : Nat) (f_machine : Nat) (f_teller : Nat) (f_saved : Nat) (f_isSaved : Nat) (f_past : Nat) (f_bytes : Nat)  : Met l yX11_size (g_ws yX11_size cX11_size 1 (some .int)) ({ frames := 1, cells := 0, slots := 0, locals := 40 }) (va_Pc [.ref h0] (g_B (dC, dI) [(cB, .byte), (cC, .char), (cI, .int), (cJ, .long), (cZ, .boolean), (cP, .object "StoryHouse$Play")] sz (ww_X11_size cB cC cI cJ cZ cP h0 f_tape f_words f_grammar f_meanings f_story f_draft f_told f_play f_machine f_teller f_saved f_isSaved f_past f_bytes) g_0)) (q_X11_size dC dI cB cC cI cJ cZ cP h0 f_tape f_words f_grammar f_meanings f_story f_draft f_told f_play f_machine f_teller f_saved f_isSaved f_past f_bytes (va_A (ww_X11_size cB cC cI cJ cZ cP h0 f_tape f_words f_grammar f_meanings f_story f_draft f_told f_play f_machine f_teller f_saved f_isSaved f_past f_bytes) sz)) 0 0 (va_A (ww_X11_size cB cC cI cJ cZ cP h0 f_tape f_words f_grammar f_meanings f_story f_draft f_told f_play f_machine f_teller f_saved f_isSaved f_past f_bytes) sz) := by
  refine Met.ofW (cc := cX11_size) (maxL := 1) (ret := (some .int)) (by decide) rfl ?_
  intro p e s m args below meth c s₁ B hml hv
  obtain ⟨rfl, hsz, hP, hK, hD0, hE, hX⟩ := hv
  have hx := B.exec
  have hb := B.bytes
  have hr := B.returns
  have hts0 := atoms_spec (ws := (g_ws yX11_size cX11_size 1 (some .int))) B.pre
  have hts : ∀ w ∈ lw_good, w.before ([.ref h0] : List Value).toArray s = true := fun w h => hts0 w (List.mem_cons_of_mem _ h)
  have hown : s.vm.findClass RX11 = some m.cls := findClass_of_methodNamed B.named
  have hlocks := B.notSynchronized
  subst hsz
  have hD := hD0.self (sz := s.heap.size)
  generalize hAe : va_A (ww_X11_size cB cC cI cJ cZ cP h0 f_tape f_words f_grammar f_meanings f_story f_draft f_told f_play f_machine f_teller f_saved f_isSaved f_past f_bytes) s.heap.size = A at hD hE hX ⊢
  have hA : ∀ q : Nat, s.heap.size ≤ q → A q := fun q h => by rw [← hAe]; exact Or.inr h
  have hN := hE.1
  have hS : va_S A s.heap s.heap [] := va_S.rf
  have hP : va_P (dC, dI) vwCl [(h0, .inr (11, [.ref f_tape, .int 0, .ref f_words, .ref f_grammar, .ref f_meanings, .ref f_story, .ref f_draft, .int 0, .int 0, .int (-1), .ref f_told, .ref f_play, .ref f_machine, .ref f_teller, .ref f_saved, .ref f_isSaved, .ref f_past, .int 0, .int 0])), (f_told, .inr (5, [.ref f_bytes, .int 0]))] s.heap := hP
  have hl := lv_entry ([.ref h0]) (n := 1) (Nat.le_of_ble_eq_true rfl)
  rw [lg_entry_eq]
  generalize (lg_sl ([.ref h0]) ++ List.replicate (1 - (lg_sl ([.ref h0])).length) Slot.unset).toArray = ls at hl ⊢
  have hl : lv_has ls 1 [(0, .ref h0)] := hl
  refine lv_aload_n hx hb dX11_size_0 rfl (lv_at hl 0 rfl) ?_
  refine va_get (D := (dC, dI)) (ci := 11) (v := .ref f_told) (C := RX11) (T := TX11) (N := 19) hx hb hts ii_X11 hown hK hP 0 rfl rfl 10 (by decide) (hts (.fieldLink RX11 53 "StoryHouse" "told" "LStoryHouse$Out;") wq_313) (fun _ h9 => h9) rfl dX11_size_1 ?_
  refine va_get (D := (dC, dI)) (ci := 5) (v := .int 0) (C := RX5) (T := TX5) (N := 2) hx hb hts ii_X5 hown hK hP 1 rfl rfl 1 (by decide) (hts (.fieldLink RX11 220 "StoryHouse$Out" "length" "I") wq_211) (fun _ h9 => h9) rfl dX11_size_4 ?_
  have hP9 := hP.sub (ws' := [(h0, .inr (11, [.ref f_tape, .int 0, .ref f_words, .ref f_grammar, .ref f_meanings, .ref f_story, .ref f_draft, .int 0, .int 0, .int (-1), .ref f_told, .ref f_play, .ref f_machine, .ref f_teller, .ref f_saved, .ref f_isSaved, .ref f_past, .int 0, .int 0])), (f_told, .inr (5, [.ref f_bytes, .int 0]))]) [0, 1] rfl
  have hD9 := hD.sub (ws' := [(h0, .inr (11, [.ref f_tape, .int 0, .ref f_words, .ref f_grammar, .ref f_meanings, .ref f_story, .ref f_draft, .int 0, .int 0, .int (-1), .ref f_told, .ref f_play, .ref f_machine, .ref f_teller, .ref f_saved, .ref f_isSaved, .ref f_past, .int 0, .int 0])), (f_told, .inr (5, [.ref f_bytes, .int 0]))]) [0, 1] (by decide +kernel) rfl
  refine W.widen (k := 0) (n := 0) (Nat.le_of_ble_eq_true rfl) (Nat.le_of_ble_eq_true rfl) ?_
  exact W.iret (v := 0) hx hb hr (fun t ht hW => ⟨⟨0, (), rfl, (by first | trivial | rfl | assumption), by rw [ht]; exact hP9, hD9⟩, hS.F ht⟩) hS.2.2 dX11_size_7

abbrev ww_X11_place (cB cC cI cJ cZ cP : ClassId) (h0 : Nat) (f_tape : Nat) (f_words : Nat) (f_grammar : Nat) (f_meanings : Nat) (f_story : Nat) (f_draft : Nat) (f_told : Nat) (f_play : Nat) (f_machine : Nat) (f_teller : Nat) (f_saved : Nat) (f_isSaved : Nat) (f_past : Nat) : va_W := [(h0, .inr (11, [.ref f_tape, .int 0, .ref f_words, .ref f_grammar, .ref f_meanings, .ref f_story, .ref f_draft, .int 0, .int 0, .int (-1), .ref f_told, .ref f_play, .ref f_machine, .ref f_teller, .ref f_saved, .ref f_isSaved, .ref f_past, .int 0, .int 0]))]
abbrev q_X11_place (dC : Nat → ClassId) (dI : Nat → Nat → Nat) (cB cC cI cJ cZ cP : ClassId) (h0 : Nat) (f_tape : Nat) (f_words : Nat) (f_grammar : Nat) (f_meanings : Nat) (f_story : Nat) (f_draft : Nat) (f_told : Nat) (f_play : Nat) (f_machine : Nat) (f_teller : Nat) (f_saved : Nat) (f_isSaved : Nat) (f_past : Nat) (A : Nat → Prop) : Array Value → State → Outcome → State → Prop := va_Qi (fun (r : Int32) (_ : Unit) => r = (-1)) (g_Bo (dC, dI) A (fun (_ : Unit) => [(h0, .inr (11, [.ref f_tape, .int 0, .ref f_words, .ref f_grammar, .ref f_meanings, .ref f_story, .ref f_draft, .int 0, .int 0, .int (-1), .ref f_told, .ref f_play, .ref f_machine, .ref f_teller, .ref f_saved, .ref f_isSaved, .ref f_past, .int 0, .int 0]))])) A
set_option maxHeartbeats 4000000 in
set_option maxRecDepth 100000 in
theorem c_X11_place (l : Launch) (dC : Nat → ClassId) (dI : Nat → Nat → Nat) (cB cC cI cJ cZ cP : ClassId) (sz : Nat) (h0 : Nat) (f_tape : Nat) (f_words : Nat) (f_grammar : Nat) (f_meanings : Nat) (f_story : Nat) (f_draft : Nat) (f_told : Nat) (f_play : Nat) (f_machine : Nat) (f_teller : Nat) (f_saved : Nat) (f_isSaved : Nat) (f_past : Nat)  : Met l yX11_place (g_ws yX11_place cX11_place 1 (some .int)) ({ frames := 1, cells := 0, slots := 0, locals := 40 }) (va_Pc [.ref h0] (g_B (dC, dI) [(cB, .byte), (cC, .char), (cI, .int), (cJ, .long), (cZ, .boolean), (cP, .object "StoryHouse$Play")] sz (ww_X11_place cB cC cI cJ cZ cP h0 f_tape f_words f_grammar f_meanings f_story f_draft f_told f_play f_machine f_teller f_saved f_isSaved f_past) g_0)) (q_X11_place dC dI cB cC cI cJ cZ cP h0 f_tape f_words f_grammar f_meanings f_story f_draft f_told f_play f_machine f_teller f_saved f_isSaved f_past (va_A (ww_X11_place cB cC cI cJ cZ cP h0 f_tape f_words f_grammar f_meanings f_story f_draft f_told f_play f_machine f_teller f_saved f_isSaved f_past) sz)) 0 0 (va_A (ww_X11_place cB cC cI cJ cZ cP h0 f_tape f_words f_grammar f_meanings f_story f_draft f_told f_play f_machine f_teller f_saved f_isSaved f_past) sz) := by
  refine Met.ofW (cc := cX11_place) (maxL := 1) (ret := (some .int)) (by decide) rfl ?_
  intro p e s m args below meth c s₁ B hml hv
  obtain ⟨rfl, hsz, hP, hK, hD0, hE, hX⟩ := hv
  have hx := B.exec
  have hb := B.bytes
  have hr := B.returns
  have hts0 := atoms_spec (ws := (g_ws yX11_place cX11_place 1 (some .int))) B.pre
  have hts : ∀ w ∈ lw_good, w.before ([.ref h0] : List Value).toArray s = true := fun w h => hts0 w (List.mem_cons_of_mem _ h)
  have hown : s.vm.findClass RX11 = some m.cls := findClass_of_methodNamed B.named
  have hlocks := B.notSynchronized
  subst hsz
  have hD := hD0.self (sz := s.heap.size)
  generalize hAe : va_A (ww_X11_place cB cC cI cJ cZ cP h0 f_tape f_words f_grammar f_meanings f_story f_draft f_told f_play f_machine f_teller f_saved f_isSaved f_past) s.heap.size = A at hD hE hX ⊢
  have hA : ∀ q : Nat, s.heap.size ≤ q → A q := fun q h => by rw [← hAe]; exact Or.inr h
  have hN := hE.1
  have hS : va_S A s.heap s.heap [] := va_S.rf
  have hP : va_P (dC, dI) vwCl [(h0, .inr (11, [.ref f_tape, .int 0, .ref f_words, .ref f_grammar, .ref f_meanings, .ref f_story, .ref f_draft, .int 0, .int 0, .int (-1), .ref f_told, .ref f_play, .ref f_machine, .ref f_teller, .ref f_saved, .ref f_isSaved, .ref f_past, .int 0, .int 0]))] s.heap := hP
  have hl := lv_entry ([.ref h0]) (n := 1) (Nat.le_of_ble_eq_true rfl)
  rw [lg_entry_eq]
  generalize (lg_sl ([.ref h0]) ++ List.replicate (1 - (lg_sl ([.ref h0])).length) Slot.unset).toArray = ls at hl ⊢
  have hl : lv_has ls 1 [(0, .ref h0)] := hl
  refine lv_aload_n hx hb dX11_place_0 rfl (lv_at hl 0 rfl) ?_
  refine va_get (D := (dC, dI)) (ci := 11) (v := .int (-1)) (C := RX11) (T := TX11) (N := 19) hx hb hts ii_X11 hown hK hP 0 rfl rfl 9 (by decide) (hts (.fieldLink RX11 46 "StoryHouse" "faultPlace" "I") wq_312) (fun _ h9 => h9) rfl dX11_place_1 ?_
  have hP9 := hP.sub (ws' := [(h0, .inr (11, [.ref f_tape, .int 0, .ref f_words, .ref f_grammar, .ref f_meanings, .ref f_story, .ref f_draft, .int 0, .int 0, .int (-1), .ref f_told, .ref f_play, .ref f_machine, .ref f_teller, .ref f_saved, .ref f_isSaved, .ref f_past, .int 0, .int 0]))]) [0] rfl
  have hD9 := hD.sub (ws' := [(h0, .inr (11, [.ref f_tape, .int 0, .ref f_words, .ref f_grammar, .ref f_meanings, .ref f_story, .ref f_draft, .int 0, .int 0, .int (-1), .ref f_told, .ref f_play, .ref f_machine, .ref f_teller, .ref f_saved, .ref f_isSaved, .ref f_past, .int 0, .int 0]))]) [0] (by decide +kernel) rfl
  refine W.widen (k := 0) (n := 0) (Nat.le_of_ble_eq_true rfl) (Nat.le_of_ble_eq_true rfl) ?_
  exact W.iret (v := (-1)) hx hb hr (fun t ht hW => ⟨⟨(-1), (), rfl, (by first | trivial | rfl | assumption), by rw [ht]; exact hP9, hD9⟩, hS.F ht⟩) hS.2.2 dX11_place_4

abbrev ww_X11_sound (cB cC cI cJ cZ cP : ClassId) (h0 : Nat) (f_tape : Nat) (f_words : Nat) (f_grammar : Nat) (f_meanings : Nat) (f_story : Nat) (f_draft : Nat) (f_told : Nat) (f_play : Nat) (f_machine : Nat) (f_teller : Nat) (f_saved : Nat) (f_isSaved : Nat) (f_past : Nat) : va_W := [(h0, .inr (11, [.ref f_tape, .int 0, .ref f_words, .ref f_grammar, .ref f_meanings, .ref f_story, .ref f_draft, .int 0, .int 0, .int (-1), .ref f_told, .ref f_play, .ref f_machine, .ref f_teller, .ref f_saved, .ref f_isSaved, .ref f_past, .int 0, .int 0]))]
abbrev q_X11_sound (dC : Nat → ClassId) (dI : Nat → Nat → Nat) (cB cC cI cJ cZ cP : ClassId) (h0 : Nat) (f_tape : Nat) (f_words : Nat) (f_grammar : Nat) (f_meanings : Nat) (f_story : Nat) (f_draft : Nat) (f_told : Nat) (f_play : Nat) (f_machine : Nat) (f_teller : Nat) (f_saved : Nat) (f_isSaved : Nat) (f_past : Nat) (A : Nat → Prop) : Array Value → State → Outcome → State → Prop := va_Qi (fun (r : Int32) (_ : Unit) => r = 1) (g_Bo (dC, dI) A (fun (_ : Unit) => [(h0, .inr (11, [.ref f_tape, .int 0, .ref f_words, .ref f_grammar, .ref f_meanings, .ref f_story, .ref f_draft, .int 0, .int 0, .int (-1), .ref f_told, .ref f_play, .ref f_machine, .ref f_teller, .ref f_saved, .ref f_isSaved, .ref f_past, .int 0, .int 0]))])) A
set_option maxHeartbeats 4000000 in
set_option maxRecDepth 100000 in
theorem c_X11_sound (l : Launch) (dC : Nat → ClassId) (dI : Nat → Nat → Nat) (cB cC cI cJ cZ cP : ClassId) (sz : Nat) (h0 : Nat) (f_tape : Nat) (f_words : Nat) (f_grammar : Nat) (f_meanings : Nat) (f_story : Nat) (f_draft : Nat) (f_told : Nat) (f_play : Nat) (f_machine : Nat) (f_teller : Nat) (f_saved : Nat) (f_isSaved : Nat) (f_past : Nat)  : Met l yX11_sound (g_ws yX11_sound cX11_sound 1 (some .boolean)) ({ frames := 1, cells := 0, slots := 0, locals := 40 }) (va_Pc [.ref h0] (g_B (dC, dI) [(cB, .byte), (cC, .char), (cI, .int), (cJ, .long), (cZ, .boolean), (cP, .object "StoryHouse$Play")] sz (ww_X11_sound cB cC cI cJ cZ cP h0 f_tape f_words f_grammar f_meanings f_story f_draft f_told f_play f_machine f_teller f_saved f_isSaved f_past) g_0)) (q_X11_sound dC dI cB cC cI cJ cZ cP h0 f_tape f_words f_grammar f_meanings f_story f_draft f_told f_play f_machine f_teller f_saved f_isSaved f_past (va_A (ww_X11_sound cB cC cI cJ cZ cP h0 f_tape f_words f_grammar f_meanings f_story f_draft f_told f_play f_machine f_teller f_saved f_isSaved f_past) sz)) 0 0 (va_A (ww_X11_sound cB cC cI cJ cZ cP h0 f_tape f_words f_grammar f_meanings f_story f_draft f_told f_play f_machine f_teller f_saved f_isSaved f_past) sz) := by
  refine Met.ofW (cc := cX11_sound) (maxL := 1) (ret := (some .boolean)) (by decide) rfl ?_
  intro p e s m args below meth c s₁ B hml hv
  obtain ⟨rfl, hsz, hP, hK, hD0, hE, hX⟩ := hv
  have hx := B.exec
  have hb := B.bytes
  have hr := B.returns
  have hts0 := atoms_spec (ws := (g_ws yX11_sound cX11_sound 1 (some .boolean))) B.pre
  have hts : ∀ w ∈ lw_good, w.before ([.ref h0] : List Value).toArray s = true := fun w h => hts0 w (List.mem_cons_of_mem _ h)
  have hown : s.vm.findClass RX11 = some m.cls := findClass_of_methodNamed B.named
  have hlocks := B.notSynchronized
  subst hsz
  have hD := hD0.self (sz := s.heap.size)
  generalize hAe : va_A (ww_X11_sound cB cC cI cJ cZ cP h0 f_tape f_words f_grammar f_meanings f_story f_draft f_told f_play f_machine f_teller f_saved f_isSaved f_past) s.heap.size = A at hD hE hX ⊢
  have hA : ∀ q : Nat, s.heap.size ≤ q → A q := fun q h => by rw [← hAe]; exact Or.inr h
  have hN := hE.1
  have hS : va_S A s.heap s.heap [] := va_S.rf
  have hP : va_P (dC, dI) vwCl [(h0, .inr (11, [.ref f_tape, .int 0, .ref f_words, .ref f_grammar, .ref f_meanings, .ref f_story, .ref f_draft, .int 0, .int 0, .int (-1), .ref f_told, .ref f_play, .ref f_machine, .ref f_teller, .ref f_saved, .ref f_isSaved, .ref f_past, .int 0, .int 0]))] s.heap := hP
  have hl := lv_entry ([.ref h0]) (n := 1) (Nat.le_of_ble_eq_true rfl)
  rw [lg_entry_eq]
  generalize (lg_sl ([.ref h0]) ++ List.replicate (1 - (lg_sl ([.ref h0])).length) Slot.unset).toArray = ls at hl ⊢
  have hl : lv_has ls 1 [(0, .ref h0)] := hl
  refine lv_aload_n hx hb dX11_sound_0 rfl (lv_at hl 0 rfl) ?_
  refine va_get (D := (dC, dI)) (ci := 11) (v := .int 0) (C := RX11) (T := TX11) (N := 19) hx hb hts ii_X11 hown hK hP 0 rfl rfl 7 (by decide) (hts (.fieldLink RX11 162 "StoryHouse" "built" "Z") wq_310) (fun _ h9 => h9) rfl dX11_sound_1 ?_
  refine lv_if_ne (tgt := 9) hx hb dX11_sound_4 (by decide) (fun c_1 => absurd c_1 (by decide +kernel)) (fun c_1 => ?_)
  refine lv_iconst (v := 1) hx hb dX11_sound_7 (by decide +kernel) ?_
  have hP9 := hP.sub (ws' := [(h0, .inr (11, [.ref f_tape, .int 0, .ref f_words, .ref f_grammar, .ref f_meanings, .ref f_story, .ref f_draft, .int 0, .int 0, .int (-1), .ref f_told, .ref f_play, .ref f_machine, .ref f_teller, .ref f_saved, .ref f_isSaved, .ref f_past, .int 0, .int 0]))]) [0] rfl
  have hD9 := hD.sub (ws' := [(h0, .inr (11, [.ref f_tape, .int 0, .ref f_words, .ref f_grammar, .ref f_meanings, .ref f_story, .ref f_draft, .int 0, .int 0, .int (-1), .ref f_told, .ref f_play, .ref f_machine, .ref f_teller, .ref f_saved, .ref f_isSaved, .ref f_past, .int 0, .int 0]))]) [0] (by decide +kernel) rfl
  refine W.widen (k := 0) (n := 0) (Nat.le_of_ble_eq_true rfl) (Nat.le_of_ble_eq_true rfl) ?_
  exact W.zret (v := 1) hx hb hr (by decide +kernel) (fun t ht hW => ⟨⟨1, (), rfl, (by first | trivial | rfl | assumption), by rw [ht]; exact hP9, hD9⟩, hS.F ht⟩) hS.2.2 dX11_sound_8

abbrev ww_X11_out (cB cC cI cJ cZ cP : ClassId) (h0 : Nat) (f_tape : Nat) (f_words : Nat) (f_grammar : Nat) (f_meanings : Nat) (f_story : Nat) (f_draft : Nat) (f_told : Nat) (f_play : Nat) (f_machine : Nat) (f_teller : Nat) (f_saved : Nat) (f_isSaved : Nat) (f_past : Nat) (f_bytes : Nat) (ia : Int32) : va_W := [(h0, .inr (11, [.ref f_tape, .int 0, .ref f_words, .ref f_grammar, .ref f_meanings, .ref f_story, .ref f_draft, .int 0, .int 0, .int (-1), .ref f_told, .ref f_play, .ref f_machine, .ref f_teller, .ref f_saved, .ref f_isSaved, .ref f_past, .int 0, .int 0])), (f_told, .inr (5, [.ref f_bytes, .int 0]))]
abbrev q_X11_out (dC : Nat → ClassId) (dI : Nat → Nat → Nat) (cB cC cI cJ cZ cP : ClassId) (h0 : Nat) (f_tape : Nat) (f_words : Nat) (f_grammar : Nat) (f_meanings : Nat) (f_story : Nat) (f_draft : Nat) (f_told : Nat) (f_play : Nat) (f_machine : Nat) (f_teller : Nat) (f_saved : Nat) (f_isSaved : Nat) (f_past : Nat) (f_bytes : Nat) (ia : Int32) (A : Nat → Prop) : Array Value → State → Outcome → State → Prop := va_Qi (fun (r : Int32) (_ : Unit) => False) (g_Bo (dC, dI) A (fun (_ : Unit) => [(h0, .inr (11, [.ref f_tape, .int 0, .ref f_words, .ref f_grammar, .ref f_meanings, .ref f_story, .ref f_draft, .int 0, .int 0, .int (-1), .ref f_told, .ref f_play, .ref f_machine, .ref f_teller, .ref f_saved, .ref f_isSaved, .ref f_past, .int 0, .int 0])), (f_told, .inr (5, [.ref f_bytes, .int 0]))])) A
set_option maxHeartbeats 4000000 in
set_option maxRecDepth 100000 in
theorem c_X11_out (l : Launch) (dC : Nat → ClassId) (dI : Nat → Nat → Nat) (cB cC cI cJ cZ cP : ClassId) (hfl : l.stackTraces = false) (sz : Nat) (h0 : Nat) (f_tape : Nat) (f_words : Nat) (f_grammar : Nat) (f_meanings : Nat) (f_story : Nat) (f_draft : Nat) (f_told : Nat) (f_play : Nat) (f_machine : Nat) (f_teller : Nat) (f_saved : Nat) (f_isSaved : Nat) (f_past : Nat) (f_bytes : Nat) (ia : Int32)  : vx_Met l yX11_out (g_ws yX11_out cX11_out 2 (some .int)) ({ frames := 6, cells := 1, slots := 6, locals := 90 }) (va_Pc [.ref h0, .int ia] (g_B (dC, dI) [(cB, .byte), (cC, .char), (cI, .int), (cJ, .long), (cZ, .boolean), (cP, .object "StoryHouse$Play")] sz (ww_X11_out cB cC cI cJ cZ cP h0 f_tape f_words f_grammar f_meanings f_story f_draft f_told f_play f_machine f_teller f_saved f_isSaved f_past f_bytes ia) g_0)) (q_X11_out dC dI cB cC cI cJ cZ cP h0 f_tape f_words f_grammar f_meanings f_story f_draft f_told f_play f_machine f_teller f_saved f_isSaved f_past f_bytes ia (va_A (ww_X11_out cB cC cI cJ cZ cP h0 f_tape f_words f_grammar f_meanings f_story f_draft f_told f_play f_machine f_teller f_saved f_isSaved f_past f_bytes ia) sz)) (g_X (dC, dI) (va_A (ww_X11_out cB cC cI cJ cZ cP h0 f_tape f_words f_grammar f_meanings f_story f_draft f_told f_play f_machine f_teller f_saved f_isSaved f_past f_bytes ia) sz) [(h0, .inr (11, [.ref f_tape, .int 0, .ref f_words, .ref f_grammar, .ref f_meanings, .ref f_story, .ref f_draft, .int 0, .int 0, .int (-1), .ref f_told, .ref f_play, .ref f_machine, .ref f_teller, .ref f_saved, .ref f_isSaved, .ref f_past, .int 0, .int 0])), (f_told, .inr (5, [.ref f_bytes, .int 0]))] (fun E : String => E = "java/lang/IndexOutOfBoundsException")) 1 6 (va_A (ww_X11_out cB cC cI cJ cZ cP h0 f_tape f_words f_grammar f_meanings f_story f_draft f_told f_play f_machine f_teller f_saved f_isSaved f_past f_bytes ia) sz) := by
  refine vx_ofW (cc := cX11_out) (maxL := 2) (ret := (some .int)) (by decide) rfl ?_
  intro p e s m args below meth c s₁ B hml htab hv
  obtain ⟨rfl, hsz, hP, hK, hD0, hE, hX⟩ := hv
  have hx := B.exec
  have hb := B.bytes
  have hr := B.returns
  have hts0 := atoms_spec (ws := (g_ws yX11_out cX11_out 2 (some .int))) B.pre
  have hts : ∀ w ∈ lw_good, w.before ([.ref h0, .int ia] : List Value).toArray s = true := fun w h => hts0 w (List.mem_cons_of_mem _ h)
  have hown : s.vm.findClass RX11 = some m.cls := findClass_of_methodNamed B.named
  have hlocks := B.notSynchronized
  subst hsz
  have hD := hD0.self (sz := s.heap.size)
  generalize hAe : va_A (ww_X11_out cB cC cI cJ cZ cP h0 f_tape f_words f_grammar f_meanings f_story f_draft f_told f_play f_machine f_teller f_saved f_isSaved f_past f_bytes ia) s.heap.size = A at hD hE hX ⊢
  have hA : ∀ q : Nat, s.heap.size ≤ q → A q := fun q h => by rw [← hAe]; exact Or.inr h
  have hN := hE.1
  have hS : va_S A s.heap s.heap [] := va_S.rf
  have hP : va_P (dC, dI) vwCl [(h0, .inr (11, [.ref f_tape, .int 0, .ref f_words, .ref f_grammar, .ref f_meanings, .ref f_story, .ref f_draft, .int 0, .int 0, .int (-1), .ref f_told, .ref f_play, .ref f_machine, .ref f_teller, .ref f_saved, .ref f_isSaved, .ref f_past, .int 0, .int 0])), (f_told, .inr (5, [.ref f_bytes, .int 0]))] s.heap := hP
  have hl := lv_entry ([.ref h0, .int ia]) (n := 2) (Nat.le_of_ble_eq_true rfl)
  rw [lg_entry_eq]
  generalize (lg_sl ([.ref h0, .int ia]) ++ List.replicate (2 - (lg_sl ([.ref h0, .int ia])).length) Slot.unset).toArray = ls at hl ⊢
  have hl : lv_has ls 2 [(0, .ref h0), (1, .int ia)] := hl
  refine lv_iload_n hx hb dX11_out_0 rfl (lv_at hl 1 rfl) ?_
  refine lv_if_lt (tgt := 15) hx hb dX11_out_1 (by decide) (fun c_1 => ?_) (fun c_1 => ?_)
  · obtain ⟨q_2, vq_2, hRq_2, hSq_2⟩ := hE.2.2.2.2 _ (List.mem_of_getElem? (i := 70) rfl)
    have hPx := hP.sub (ws' := [(h0, .inr (11, [.ref f_tape, .int 0, .ref f_words, .ref f_grammar, .ref f_meanings, .ref f_story, .ref f_draft, .int 0, .int 0, .int (-1), .ref f_told, .ref f_play, .ref f_machine, .ref f_teller, .ref f_saved, .ref f_isSaved, .ref f_past, .int 0, .int 0])), (f_told, .inr (5, [.ref f_bytes, .int 0]))]) [0, 1] rfl
    have hDx := hD.sub (ws' := [(h0, .inr (11, [.ref f_tape, .int 0, .ref f_words, .ref f_grammar, .ref f_meanings, .ref f_story, .ref f_draft, .int 0, .int 0, .int (-1), .ref f_told, .ref f_play, .ref f_machine, .ref f_teller, .ref f_saved, .ref f_isSaved, .ref f_past, .int 0, .int 0])), (f_told, .inr (5, [.ref f_bytes, .int 0]))]) [0, 1] (by decide +kernel) rfl
    exact vx_throwS hx hb hfl (own := RX11) (cls := "java/lang/IndexOutOfBoundsException") (text := "there is no such byte") (names := ["java/lang/RuntimeException", "java/lang/Exception"]) (A := A) hown (by decide +kernel) (by decide +kernel) (hts (.classLink RX11 223 "java/lang/IndexOutOfBoundsException") wq_1273) (hts (.initialized "java/lang/IndexOutOfBoundsException") wq_27) hRq_2 (g_bad hN (fun w h => hts w (wx_227 w h)) (by decide +kernel) (g_badB hN (List.mem_of_getElem? (i := 2) rfl))) (by decide +kernel) hE.2.1 hE.2.2.1 hS (hl.1.trans hml.symm) dX11_out_15 dX11_out_18 dX11_out_19 dX11_out_21 dX11_out_24 (fun x hx => (htab x hx).elim) (by decide) (by decide) (Nat.le_of_ble_eq_true rfl) (Nat.le_of_ble_eq_true rfl) hlocks (g_thr hPx hDx hS (by first | rfl | trivial | assumption | exact ⟨rfl, by assumption⟩)) hS.2.2 (Nat.le_of_ble_eq_true rfl) (Nat.le_of_ble_eq_true rfl)
  · refine lv_iload_n hx hb dX11_out_4 rfl (lv_at hl 1 rfl) ?_
    refine lv_aload_n hx hb dX11_out_5 rfl (lv_at hl 0 rfl) ?_
    refine va_get (D := (dC, dI)) (ci := 11) (v := .ref f_told) (C := RX11) (T := TX11) (N := 19) hx hb hts ii_X11 hown hK hP 0 rfl rfl 10 (by decide) (hts (.fieldLink RX11 53 "StoryHouse" "told" "LStoryHouse$Out;") wq_313) (fun _ h9 => h9) rfl dX11_out_6 ?_
    refine va_get (D := (dC, dI)) (ci := 5) (v := .int 0) (C := RX5) (T := TX5) (N := 2) hx hb hts ii_X5 hown hK hP 1 rfl rfl 1 (by decide) (hts (.fieldLink RX11 220 "StoryHouse$Out" "length" "I") wq_211) (fun _ h9 => h9) rfl dX11_out_9 ?_
    refine lv_icmp_lt (tgt := 25) hx hb dX11_out_12 (by decide) (fun c_3 => absurd c_3 (by assumption)) (fun c_3 => ?_)
    obtain ⟨q_4, vq_4, hRq_4, hSq_4⟩ := hE.2.2.2.2 _ (List.mem_of_getElem? (i := 70) rfl)
    have hPx := hP.sub (ws' := [(h0, .inr (11, [.ref f_tape, .int 0, .ref f_words, .ref f_grammar, .ref f_meanings, .ref f_story, .ref f_draft, .int 0, .int 0, .int (-1), .ref f_told, .ref f_play, .ref f_machine, .ref f_teller, .ref f_saved, .ref f_isSaved, .ref f_past, .int 0, .int 0])), (f_told, .inr (5, [.ref f_bytes, .int 0]))]) [0, 1] rfl
    have hDx := hD.sub (ws' := [(h0, .inr (11, [.ref f_tape, .int 0, .ref f_words, .ref f_grammar, .ref f_meanings, .ref f_story, .ref f_draft, .int 0, .int 0, .int (-1), .ref f_told, .ref f_play, .ref f_machine, .ref f_teller, .ref f_saved, .ref f_isSaved, .ref f_past, .int 0, .int 0])), (f_told, .inr (5, [.ref f_bytes, .int 0]))]) [0, 1] (by decide +kernel) rfl
    exact vx_throwS hx hb hfl (own := RX11) (cls := "java/lang/IndexOutOfBoundsException") (text := "there is no such byte") (names := ["java/lang/RuntimeException", "java/lang/Exception"]) (A := A) hown (by decide +kernel) (by decide +kernel) (hts (.classLink RX11 223 "java/lang/IndexOutOfBoundsException") wq_1273) (hts (.initialized "java/lang/IndexOutOfBoundsException") wq_27) hRq_4 (g_bad hN (fun w h => hts w (wx_227 w h)) (by decide +kernel) (g_badB hN (List.mem_of_getElem? (i := 2) rfl))) (by decide +kernel) hE.2.1 hE.2.2.1 hS (hl.1.trans hml.symm) dX11_out_15 dX11_out_18 dX11_out_19 dX11_out_21 dX11_out_24 (fun x hx => (htab x hx).elim) (by decide) (by decide) (Nat.le_of_ble_eq_true rfl) (Nat.le_of_ble_eq_true rfl) hlocks (g_thr hPx hDx hS (by first | rfl | trivial | assumption | exact ⟨rfl, by assumption⟩)) hS.2.2 (Nat.le_of_ble_eq_true rfl) (Nat.le_of_ble_eq_true rfl)
