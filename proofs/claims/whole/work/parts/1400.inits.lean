/-! the constructors that make no other object of the class -/
theorem dX5_init_0 : decode cX5_init 0 = .ok (.aload_n 0, 1) := by decide +kernel
theorem dX5_init_1 : decode cX5_init 1 = .ok (.invokespecial 3, 3) := by decide +kernel
theorem dX5_init_4 : decode cX5_init 4 = .ok (.aload_n 0, 1) := by decide +kernel
theorem dX5_init_5 : decode cX5_init 5 = .ok (.sipush 3000, 3) := by decide +kernel
theorem dX5_init_8 : decode cX5_init 8 = .ok (.newarray .byte, 2) := by decide +kernel
theorem dX5_init_10 : decode cX5_init 10 = .ok (.putfield 9, 3) := by decide +kernel
theorem dX5_init_13 : decode cX5_init 13 = .ok (.return_, 1) := by decide +kernel
theorem dX1_init_0 : decode cX1_init 0 = .ok (.aload_n 0, 1) := by decide +kernel
theorem dX1_init_1 : decode cX1_init 1 = .ok (.invokespecial 3, 3) := by decide +kernel
theorem dX1_init_4 : decode cX1_init 4 = .ok (.aload_n 0, 1) := by decide +kernel
theorem dX1_init_5 : decode cX1_init 5 = .ok (.sipush 2000, 3) := by decide +kernel
theorem dX1_init_8 : decode cX1_init 8 = .ok (.newarray .long, 2) := by decide +kernel
theorem dX1_init_10 : decode cX1_init 10 = .ok (.putfield 11, 3) := by decide +kernel
theorem dX1_init_13 : decode cX1_init 13 = .ok (.aload_n 0, 1) := by decide +kernel
theorem dX1_init_14 : decode cX1_init 14 = .ok (.sipush 2000, 3) := by decide +kernel
theorem dX1_init_17 : decode cX1_init 17 = .ok (.newarray .int, 2) := by decide +kernel
theorem dX1_init_19 : decode cX1_init 19 = .ok (.putfield 15, 3) := by decide +kernel
theorem dX1_init_22 : decode cX1_init 22 = .ok (.return_, 1) := by decide +kernel
theorem dX0_init_0 : decode cX0_init 0 = .ok (.aload_n 0, 1) := by decide +kernel
theorem dX0_init_1 : decode cX0_init 1 = .ok (.invokespecial 3, 3) := by decide +kernel
theorem dX0_init_4 : decode cX0_init 4 = .ok (.aload_n 0, 1) := by decide +kernel
theorem dX0_init_5 : decode cX0_init 5 = .ok (.ldc 11, 2) := by decide +kernel
theorem dX0_init_7 : decode cX0_init 7 = .ok (.newarray .byte, 2) := by decide +kernel
theorem dX0_init_9 : decode cX0_init 9 = .ok (.putfield 12, 3) := by decide +kernel
theorem dX0_init_12 : decode cX0_init 12 = .ok (.aload_n 0, 1) := by decide +kernel
theorem dX0_init_13 : decode cX0_init 13 = .ok (.sipush 320, 3) := by decide +kernel
theorem dX0_init_16 : decode cX0_init 16 = .ok (.newarray .int, 2) := by decide +kernel
theorem dX0_init_18 : decode cX0_init 18 = .ok (.putfield 16, 3) := by decide +kernel
theorem dX0_init_21 : decode cX0_init 21 = .ok (.aload_n 0, 1) := by decide +kernel
theorem dX0_init_22 : decode cX0_init 22 = .ok (.sipush 320, 3) := by decide +kernel
theorem dX0_init_25 : decode cX0_init 25 = .ok (.newarray .int, 2) := by decide +kernel
theorem dX0_init_27 : decode cX0_init 27 = .ok (.putfield 20, 3) := by decide +kernel
theorem dX0_init_30 : decode cX0_init 30 = .ok (.aload_n 0, 1) := by decide +kernel
theorem dX0_init_31 : decode cX0_init 31 = .ok (.bipush 100, 2) := by decide +kernel
theorem dX0_init_33 : decode cX0_init 33 = .ok (.newarray .int, 2) := by decide +kernel
theorem dX0_init_35 : decode cX0_init 35 = .ok (.putfield 23, 3) := by decide +kernel
theorem dX0_init_38 : decode cX0_init 38 = .ok (.return_, 1) := by decide +kernel
theorem dX9_init_0 : decode cX9_init 0 = .ok (.aload_n 0, 1) := by decide +kernel
theorem dX9_init_1 : decode cX9_init 1 = .ok (.invokespecial 3, 3) := by decide +kernel
theorem dX9_init_4 : decode cX9_init 4 = .ok (.aload_n 0, 1) := by decide +kernel
theorem dX9_init_5 : decode cX9_init 5 = .ok (.sipush 16000, 3) := by decide +kernel
theorem dX9_init_8 : decode cX9_init 8 = .ok (.newarray .char, 2) := by decide +kernel
theorem dX9_init_10 : decode cX9_init 10 = .ok (.putfield 11, 3) := by decide +kernel
theorem dX9_init_13 : decode cX9_init 13 = .ok (.aload_n 0, 1) := by decide +kernel
theorem dX9_init_14 : decode cX9_init 14 = .ok (.sipush 8000, 3) := by decide +kernel
theorem dX9_init_17 : decode cX9_init 17 = .ok (.newarray .int, 2) := by decide +kernel
theorem dX9_init_19 : decode cX9_init 19 = .ok (.putfield 15, 3) := by decide +kernel
theorem dX9_init_22 : decode cX9_init 22 = .ok (.aload_n 0, 1) := by decide +kernel
theorem dX9_init_23 : decode cX9_init 23 = .ok (.sipush 8000, 3) := by decide +kernel
theorem dX9_init_26 : decode cX9_init 26 = .ok (.newarray .int, 2) := by decide +kernel
theorem dX9_init_28 : decode cX9_init 28 = .ok (.putfield 19, 3) := by decide +kernel
theorem dX9_init_31 : decode cX9_init 31 = .ok (.aload_n 0, 1) := by decide +kernel
theorem dX9_init_32 : decode cX9_init 32 = .ok (.sipush 16000, 3) := by decide +kernel
theorem dX9_init_35 : decode cX9_init 35 = .ok (.newarray .byte, 2) := by decide +kernel
theorem dX9_init_37 : decode cX9_init 37 = .ok (.putfield 22, 3) := by decide +kernel
theorem dX9_init_40 : decode cX9_init 40 = .ok (.aload_n 0, 1) := by decide +kernel
theorem dX9_init_41 : decode cX9_init 41 = .ok (.sipush 200, 3) := by decide +kernel
theorem dX9_init_44 : decode cX9_init 44 = .ok (.newarray .byte, 2) := by decide +kernel
theorem dX9_init_46 : decode cX9_init 46 = .ok (.putfield 26, 3) := by decide +kernel
theorem dX9_init_49 : decode cX9_init 49 = .ok (.return_, 1) := by decide +kernel
theorem dX10_init_0 : decode cX10_init 0 = .ok (.aload_n 0, 1) := by decide +kernel
theorem dX10_init_1 : decode cX10_init 1 = .ok (.invokespecial 3, 3) := by decide +kernel
theorem dX10_init_4 : decode cX10_init 4 = .ok (.aload_n 0, 1) := by decide +kernel
theorem dX10_init_5 : decode cX10_init 5 = .ok (.sipush 16000, 3) := by decide +kernel
theorem dX10_init_8 : decode cX10_init 8 = .ok (.newarray .byte, 2) := by decide +kernel
theorem dX10_init_10 : decode cX10_init 10 = .ok (.putfield 9, 3) := by decide +kernel
theorem dX10_init_13 : decode cX10_init 13 = .ok (.aload_n 0, 1) := by decide +kernel
theorem dX10_init_14 : decode cX10_init 14 = .ok (.sipush 16001, 3) := by decide +kernel
theorem dX10_init_17 : decode cX10_init 17 = .ok (.newarray .int, 2) := by decide +kernel
theorem dX10_init_19 : decode cX10_init 19 = .ok (.putfield 15, 3) := by decide +kernel
theorem dX10_init_22 : decode cX10_init 22 = .ok (.aload_n 0, 1) := by decide +kernel
theorem dX10_init_23 : decode cX10_init 23 = .ok (.sipush 16001, 3) := by decide +kernel
theorem dX10_init_26 : decode cX10_init 26 = .ok (.newarray .int, 2) := by decide +kernel
theorem dX10_init_28 : decode cX10_init 28 = .ok (.putfield 19, 3) := by decide +kernel
theorem dX10_init_31 : decode cX10_init 31 = .ok (.aload_n 0, 1) := by decide +kernel
theorem dX10_init_32 : decode cX10_init 32 = .ok (.sipush 16001, 3) := by decide +kernel
theorem dX10_init_35 : decode cX10_init 35 = .ok (.newarray .int, 2) := by decide +kernel
theorem dX10_init_37 : decode cX10_init 37 = .ok (.putfield 22, 3) := by decide +kernel
theorem dX10_init_40 : decode cX10_init 40 = .ok (.aload_n 0, 1) := by decide +kernel
theorem dX10_init_41 : decode cX10_init 41 = .ok (.sipush 16001, 3) := by decide +kernel
theorem dX10_init_44 : decode cX10_init 44 = .ok (.newarray .int, 2) := by decide +kernel
theorem dX10_init_46 : decode cX10_init 46 = .ok (.putfield 25, 3) := by decide +kernel
theorem dX10_init_49 : decode cX10_init 49 = .ok (.aload_n 0, 1) := by decide +kernel
theorem dX10_init_50 : decode cX10_init 50 = .ok (.sipush 16001, 3) := by decide +kernel
theorem dX10_init_53 : decode cX10_init 53 = .ok (.newarray .int, 2) := by decide +kernel
theorem dX10_init_55 : decode cX10_init 55 = .ok (.putfield 28, 3) := by decide +kernel
theorem dX10_init_58 : decode cX10_init 58 = .ok (.aload_n 0, 1) := by decide +kernel
theorem dX10_init_59 : decode cX10_init 59 = .ok (.sipush 4500, 3) := by decide +kernel
theorem dX10_init_62 : decode cX10_init 62 = .ok (.newarray .long, 2) := by decide +kernel
theorem dX10_init_64 : decode cX10_init 64 = .ok (.putfield 31, 3) := by decide +kernel
theorem dX10_init_67 : decode cX10_init 67 = .ok (.aload_n 0, 1) := by decide +kernel
theorem dX10_init_68 : decode cX10_init 68 = .ok (.sipush 8192, 3) := by decide +kernel
theorem dX10_init_71 : decode cX10_init 71 = .ok (.newarray .int, 2) := by decide +kernel
theorem dX10_init_73 : decode cX10_init 73 = .ok (.putfield 35, 3) := by decide +kernel
theorem dX10_init_76 : decode cX10_init 76 = .ok (.return_, 1) := by decide +kernel
theorem dX6_init_0 : decode cX6_init 0 = .ok (.aload_n 0, 1) := by decide +kernel
theorem dX6_init_1 : decode cX6_init 1 = .ok (.invokespecial 3, 3) := by decide +kernel
theorem dX6_init_4 : decode cX6_init 4 = .ok (.aload_n 0, 1) := by decide +kernel
theorem dX6_init_5 : decode cX6_init 5 = .ok (.bipush 121, 2) := by decide +kernel
theorem dX6_init_7 : decode cX6_init 7 = .ok (.newarray .int, 2) := by decide +kernel
theorem dX6_init_9 : decode cX6_init 9 = .ok (.putfield 9, 3) := by decide +kernel
theorem dX6_init_12 : decode cX6_init 12 = .ok (.aload_n 0, 1) := by decide +kernel
theorem dX6_init_13 : decode cX6_init 13 = .ok (.bipush 121, 2) := by decide +kernel
theorem dX6_init_15 : decode cX6_init 15 = .ok (.newarray .int, 2) := by decide +kernel
theorem dX6_init_17 : decode cX6_init 17 = .ok (.putfield 15, 3) := by decide +kernel
theorem dX6_init_20 : decode cX6_init 20 = .ok (.aload_n 0, 1) := by decide +kernel
theorem dX6_init_21 : decode cX6_init 21 = .ok (.bipush 121, 2) := by decide +kernel
theorem dX6_init_23 : decode cX6_init 23 = .ok (.newarray .int, 2) := by decide +kernel
theorem dX6_init_25 : decode cX6_init 25 = .ok (.putfield 18, 3) := by decide +kernel
theorem dX6_init_28 : decode cX6_init 28 = .ok (.aload_n 0, 1) := by decide +kernel
theorem dX6_init_29 : decode cX6_init 29 = .ok (.bipush 121, 2) := by decide +kernel
theorem dX6_init_31 : decode cX6_init 31 = .ok (.newarray .int, 2) := by decide +kernel
theorem dX6_init_33 : decode cX6_init 33 = .ok (.putfield 21, 3) := by decide +kernel
theorem dX6_init_36 : decode cX6_init 36 = .ok (.aload_n 0, 1) := by decide +kernel
theorem dX6_init_37 : decode cX6_init 37 = .ok (.bipush 100, 2) := by decide +kernel
theorem dX6_init_39 : decode cX6_init 39 = .ok (.newarray .int, 2) := by decide +kernel
theorem dX6_init_41 : decode cX6_init 41 = .ok (.putfield 24, 3) := by decide +kernel
theorem dX6_init_44 : decode cX6_init 44 = .ok (.aload_n 0, 1) := by decide +kernel
theorem dX6_init_45 : decode cX6_init 45 = .ok (.sipush 1000, 3) := by decide +kernel
theorem dX6_init_48 : decode cX6_init 48 = .ok (.newarray .int, 2) := by decide +kernel
theorem dX6_init_50 : decode cX6_init 50 = .ok (.putfield 27, 3) := by decide +kernel
theorem dX6_init_53 : decode cX6_init 53 = .ok (.aload_n 0, 1) := by decide +kernel
theorem dX6_init_54 : decode cX6_init 54 = .ok (.bipush 120, 2) := by decide +kernel
theorem dX6_init_56 : decode cX6_init 56 = .ok (.newarray .byte, 2) := by decide +kernel
theorem dX6_init_58 : decode cX6_init 58 = .ok (.putfield 30, 3) := by decide +kernel
theorem dX6_init_61 : decode cX6_init 61 = .ok (.return_, 1) := by decide +kernel
theorem dX2_init_0 : decode cX2_init 0 = .ok (.aload_n 0, 1) := by decide +kernel
theorem dX2_init_1 : decode cX2_init 1 = .ok (.invokespecial 3, 3) := by decide +kernel
theorem dX2_init_4 : decode cX2_init 4 = .ok (.aload_n 0, 1) := by decide +kernel
theorem dX2_init_5 : decode cX2_init 5 = .ok (.aload_n 1, 1) := by decide +kernel
theorem dX2_init_6 : decode cX2_init 6 = .ok (.putfield 9, 3) := by decide +kernel
theorem dX2_init_9 : decode cX2_init 9 = .ok (.return_, 1) := by decide +kernel
theorem dX3_init_0 : decode cX3_init 0 = .ok (.aload_n 0, 1) := by decide +kernel
theorem dX3_init_1 : decode cX3_init 1 = .ok (.invokespecial 3, 3) := by decide +kernel
theorem dX3_init_4 : decode cX3_init 4 = .ok (.aload_n 0, 1) := by decide +kernel
theorem dX3_init_5 : decode cX3_init 5 = .ok (.sipush 9000, 3) := by decide +kernel
theorem dX3_init_8 : decode cX3_init 8 = .ok (.newarray .int, 2) := by decide +kernel
theorem dX3_init_10 : decode cX3_init 10 = .ok (.putfield 11, 3) := by decide +kernel
theorem dX3_init_13 : decode cX3_init 13 = .ok (.aload_n 0, 1) := by decide +kernel
theorem dX3_init_14 : decode cX3_init 14 = .ok (.bipush 30, 2) := by decide +kernel
theorem dX3_init_16 : decode cX3_init 16 = .ok (.newarray .int, 2) := by decide +kernel
theorem dX3_init_18 : decode cX3_init 18 = .ok (.putfield 15, 3) := by decide +kernel
theorem dX3_init_21 : decode cX3_init 21 = .ok (.aload_n 0, 1) := by decide +kernel
theorem dX3_init_22 : decode cX3_init 22 = .ok (.bipush 30, 2) := by decide +kernel
theorem dX3_init_24 : decode cX3_init 24 = .ok (.newarray .int, 2) := by decide +kernel
theorem dX3_init_26 : decode cX3_init 26 = .ok (.putfield 18, 3) := by decide +kernel
theorem dX3_init_29 : decode cX3_init 29 = .ok (.aload_n 0, 1) := by decide +kernel
theorem dX3_init_30 : decode cX3_init 30 = .ok (.iconst 1, 1) := by decide +kernel
theorem dX3_init_31 : decode cX3_init 31 = .ok (.putfield 21, 3) := by decide +kernel
theorem dX3_init_34 : decode cX3_init 34 = .ok (.aload_n 0, 1) := by decide +kernel
theorem dX3_init_35 : decode cX3_init 35 = .ok (.sipush 200, 3) := by decide +kernel
theorem dX3_init_38 : decode cX3_init 38 = .ok (.newarray .byte, 2) := by decide +kernel
theorem dX3_init_40 : decode cX3_init 40 = .ok (.putfield 25, 3) := by decide +kernel
theorem dX3_init_43 : decode cX3_init 43 = .ok (.aload_n 0, 1) := by decide +kernel
theorem dX3_init_44 : decode cX3_init 44 = .ok (.aload_n 1, 1) := by decide +kernel
theorem dX3_init_45 : decode cX3_init 45 = .ok (.putfield 29, 3) := by decide +kernel
theorem dX3_init_48 : decode cX3_init 48 = .ok (.aload_n 0, 1) := by decide +kernel
theorem dX3_init_49 : decode cX3_init 49 = .ok (.aload_n 2, 1) := by decide +kernel
theorem dX3_init_50 : decode cX3_init 50 = .ok (.putfield 33, 3) := by decide +kernel
theorem dX3_init_53 : decode cX3_init 53 = .ok (.return_, 1) := by decide +kernel
theorem dX4_init_0 : decode cX4_init 0 = .ok (.aload_n 0, 1) := by decide +kernel
theorem dX4_init_1 : decode cX4_init 1 = .ok (.invokespecial 3, 3) := by decide +kernel
theorem dX4_init_4 : decode cX4_init 4 = .ok (.aload_n 0, 1) := by decide +kernel
theorem dX4_init_5 : decode cX4_init 5 = .ok (.sipush 4500, 3) := by decide +kernel
theorem dX4_init_8 : decode cX4_init 8 = .ok (.newarray .int, 2) := by decide +kernel
theorem dX4_init_10 : decode cX4_init 10 = .ok (.putfield 11, 3) := by decide +kernel
theorem dX4_init_13 : decode cX4_init 13 = .ok (.aload_n 0, 1) := by decide +kernel
theorem dX4_init_14 : decode cX4_init 14 = .ok (.sipush 4500, 3) := by decide +kernel
theorem dX4_init_17 : decode cX4_init 17 = .ok (.newarray .int, 2) := by decide +kernel
theorem dX4_init_19 : decode cX4_init 19 = .ok (.putfield 17, 3) := by decide +kernel
theorem dX4_init_22 : decode cX4_init 22 = .ok (.aload_n 0, 1) := by decide +kernel
theorem dX4_init_23 : decode cX4_init 23 = .ok (.sipush 4500, 3) := by decide +kernel
theorem dX4_init_26 : decode cX4_init 26 = .ok (.newarray .int, 2) := by decide +kernel
theorem dX4_init_28 : decode cX4_init 28 = .ok (.putfield 20, 3) := by decide +kernel
theorem dX4_init_31 : decode cX4_init 31 = .ok (.aload_n 0, 1) := by decide +kernel
theorem dX4_init_32 : decode cX4_init 32 = .ok (.sipush 4500, 3) := by decide +kernel
theorem dX4_init_35 : decode cX4_init 35 = .ok (.newarray .int, 2) := by decide +kernel
theorem dX4_init_37 : decode cX4_init 37 = .ok (.putfield 23, 3) := by decide +kernel
theorem dX4_init_40 : decode cX4_init 40 = .ok (.aload_n 0, 1) := by decide +kernel
theorem dX4_init_41 : decode cX4_init 41 = .ok (.bipush 14, 2) := by decide +kernel
theorem dX4_init_43 : decode cX4_init 43 = .ok (.newarray .int, 2) := by decide +kernel
theorem dX4_init_45 : decode cX4_init 45 = .ok (.putfield 26, 3) := by decide +kernel
theorem dX4_init_48 : decode cX4_init 48 = .ok (.aload_n 0, 1) := by decide +kernel
theorem dX4_init_49 : decode cX4_init 49 = .ok (.bipush 31, 2) := by decide +kernel
theorem dX4_init_51 : decode cX4_init 51 = .ok (.newarray .int, 2) := by decide +kernel
theorem dX4_init_53 : decode cX4_init 53 = .ok (.putfield 29, 3) := by decide +kernel
theorem dX4_init_56 : decode cX4_init 56 = .ok (.aload_n 0, 1) := by decide +kernel
theorem dX4_init_57 : decode cX4_init 57 = .ok (.aload_n 1, 1) := by decide +kernel
theorem dX4_init_58 : decode cX4_init 58 = .ok (.putfield 32, 3) := by decide +kernel
theorem dX4_init_61 : decode cX4_init 61 = .ok (.return_, 1) := by decide +kernel
theorem dX8_init_0 : decode cX8_init 0 = .ok (.aload_n 0, 1) := by decide +kernel
theorem dX8_init_1 : decode cX8_init 1 = .ok (.invokespecial 3, 3) := by decide +kernel
theorem dX8_init_4 : decode cX8_init 4 = .ok (.aload_n 0, 1) := by decide +kernel
theorem dX8_init_5 : decode cX8_init 5 = .ok (.bipush 120, 2) := by decide +kernel
theorem dX8_init_7 : decode cX8_init 7 = .ok (.newarray .byte, 2) := by decide +kernel
theorem dX8_init_9 : decode cX8_init 9 = .ok (.putfield 9, 3) := by decide +kernel
theorem dX8_init_12 : decode cX8_init 12 = .ok (.aload_n 0, 1) := by decide +kernel
theorem dX8_init_13 : decode cX8_init 13 = .ok (.bipush 12, 2) := by decide +kernel
theorem dX8_init_15 : decode cX8_init 15 = .ok (.newarray .int, 2) := by decide +kernel
theorem dX8_init_17 : decode cX8_init 17 = .ok (.putfield 15, 3) := by decide +kernel
theorem dX8_init_20 : decode cX8_init 20 = .ok (.aload_n 0, 1) := by decide +kernel
theorem dX8_init_21 : decode cX8_init 21 = .ok (.bipush 120, 2) := by decide +kernel
theorem dX8_init_23 : decode cX8_init 23 = .ok (.newarray .int, 2) := by decide +kernel
theorem dX8_init_25 : decode cX8_init 25 = .ok (.putfield 19, 3) := by decide +kernel
theorem dX8_init_28 : decode cX8_init 28 = .ok (.aload_n 0, 1) := by decide +kernel
theorem dX8_init_29 : decode cX8_init 29 = .ok (.aload_n 1, 1) := by decide +kernel
theorem dX8_init_30 : decode cX8_init 30 = .ok (.putfield 22, 3) := by decide +kernel
theorem dX8_init_33 : decode cX8_init 33 = .ok (.aload_n 0, 1) := by decide +kernel
theorem dX8_init_34 : decode cX8_init 34 = .ok (.aload_n 2, 1) := by decide +kernel
theorem dX8_init_35 : decode cX8_init 35 = .ok (.putfield 26, 3) := by decide +kernel
theorem dX8_init_38 : decode cX8_init 38 = .ok (.aload_n 0, 1) := by decide +kernel
theorem dX8_init_39 : decode cX8_init 39 = .ok (.aload_n 3, 1) := by decide +kernel
theorem dX8_init_40 : decode cX8_init 40 = .ok (.putfield 30, 3) := by decide +kernel
theorem dX8_init_43 : decode cX8_init 43 = .ok (.return_, 1) := by decide +kernel
abbrev ww_X5_init (cB cC cI cJ cZ cP : ClassId) (h0 : Nat) : va_W := [(h0, .inr (5, [.null, .int 0]))]
abbrev q_X5_init (dC : Nat → ClassId) (dI : Nat → Nat → Nat) (cB cC cI cJ cZ cP : ClassId) (h0 : Nat) (A : Nat → Prop) : Array Value → State → Outcome → State → Prop := va_Qv (fun (q_1 : Nat) => True) (g_Bo (dC, dI) A (fun (q_1 : Nat) => [(h0, .inr (5, [.ref q_1, .int 0])), (q_1, .inl (cB, 3000, .inl ((fun _ => 0))))])) A
set_option maxHeartbeats 4000000 in
set_option maxRecDepth 100000 in
theorem c_X5_init (l : Launch) (dC : Nat → ClassId) (dI : Nat → Nat → Nat) (cB cC cI cJ cZ cP : ClassId) (sz : Nat) (h0 : Nat)  : Met l yX5_init (g_ws yX5_init cX5_init 1 none) ({ frames := 1, cells := 1, slots := 3000, locals := 40 }) (va_Pc [.ref h0] (g_B (dC, dI) [(cB, .byte), (cC, .char), (cI, .int), (cJ, .long), (cZ, .boolean), (cP, .object "StoryHouse$Play")] sz (ww_X5_init cB cC cI cJ cZ cP h0) g_0)) (q_X5_init dC dI cB cC cI cJ cZ cP h0 (va_A (ww_X5_init cB cC cI cJ cZ cP h0) sz)) 1 3000 (va_A (ww_X5_init cB cC cI cJ cZ cP h0) sz) := by
  refine Met.ofW (cc := cX5_init) (maxL := 1) (ret := none) (by decide) rfl ?_
  intro p e s m args below meth c s₁ B hml hv
  obtain ⟨rfl, hsz, hP, hK, hD0, hE, hX⟩ := hv
  have hx := B.exec
  have hb := B.bytes
  have hr := B.returns
  have hts0 := atoms_spec (ws := (g_ws yX5_init cX5_init 1 none)) B.pre
  have hts : ∀ w ∈ lw_good, w.before ([.ref h0] : List Value).toArray s = true := fun w h => hts0 w (List.mem_cons_of_mem _ h)
  have hown : s.vm.findClass RX5 = some m.cls := findClass_of_methodNamed B.named
  have hlocks := B.notSynchronized
  have hin : meth.name = "<init>" := (name_of_methodNamed B.named B.method).1
  subst hsz
  have hD := hD0.self (sz := s.heap.size)
  generalize hAe : va_A (ww_X5_init cB cC cI cJ cZ cP h0) s.heap.size = A at hD hE hX ⊢
  have hA : ∀ q : Nat, s.heap.size ≤ q → A q := fun q h => by rw [← hAe]; exact Or.inr h
  have hN := hE.1
  have hS : va_S A s.heap s.heap [] := va_S.rf
  have hP : va_P (dC, dI) vwCl [(h0, .inr (5, [.null, .int 0]))] s.heap := hP
  have hl := lv_entry ([.ref h0]) (n := 1) (Nat.le_of_ble_eq_true rfl)
  rw [lg_entry_eq]
  generalize (lg_sl ([.ref h0]) ++ List.replicate (1 - (lg_sl ([.ref h0])).length) Slot.unset).toArray = ls at hl ⊢
  have hl : lv_has ls 1 [(0, .ref h0)] := hl
  refine lv_aload_n hx hb dX5_init_0 rfl (lv_at hl 0 rfl) ?_
  refine W.objInit hx hb hown (hts (.methodLink RX5 3 objectInit) wq_207) (hts (.instanceMethod objectInit) wq_34) (hts (.code objectInit ⟨#[0xb1]⟩ 1 none) wq_35) rfl (by rw [hml]; exact hl.1) rfl dX5_init_1 (Nat.le_of_ble_eq_true rfl) (Nat.le_of_ble_eq_true rfl) ?_
  refine W.eq (g2 := F0 m 4 ls []) rfl ?_
  refine lv_aload_n hx hb dX5_init_4 rfl (lv_at hl 0 rfl) ?_
  refine lv_sipush (v := 3000) hx hb dX5_init_5 (by decide +kernel) ?_
  refine g_newB hx hb (hts (.arrayClass .byte) wq_62) hK 0 rfl hP hD hS hA 3000 (by decide +kernel) (by decide +kernel) (Nat.le_of_ble_eq_true rfl) (Nat.le_of_ble_eq_true rfl) (Nat.le_of_ble_eq_true rfl) dX5_init_8 (fun q_1 H_2 hP' hD' hS' => ?_)
  replace hP : va_P (dC, dI) vwCl [(h0, .inr (5, [.null, .int 0])), (q_1, .inl (cB, 3000, .inl ((fun _ => 0))))] H_2 := hP'
  replace hD : va_D A [(h0, .inr (5, [.null, .int 0])), (q_1, .inl (cB, 3000, .inl ((fun _ => 0))))] := hD'
  replace hS := hS'
  clear hP' hD' hS'
  refine W.widen (k := 1) (n := 3000) (Nat.le_of_ble_eq_true rfl) (Nat.le_of_ble_eq_true rfl) ?_
  refine va_putF (D := (dC, dI)) (ci := 5) (v := .ref q_1) (ty := .array .byte) (C := RX5) (T := TX5) (N := 2) hx hb hts ii_X5 tyX5 tyX5_ok nmX5 hown hK hP hD hS 0 rfl rfl 0 (by decide) (hts (.fieldLink RX5 9 "StoryHouse$Out" "bytes" "[B") wq_208) (fun _ h9 => h9) rfl hin rfl (by decide +kernel) rfl rfl (Nat.le_of_ble_eq_true rfl) dX5_init_10 (fun H_3 locs hP' hD' hS' => ?_)
  replace hP : va_P (dC, dI) vwCl [(h0, .inr (5, [.ref q_1, .int 0])), (q_1, .inl (cB, 3000, .inl ((fun _ => 0))))] H_3 := hP'
  replace hD : va_D A [(h0, .inr (5, [.ref q_1, .int 0])), (q_1, .inl (cB, 3000, .inl ((fun _ => 0))))] := hD'
  replace hS := hS'
  clear hP' hD' hS'
  have hP9 := hP.sub (ws' := [(h0, .inr (5, [.ref q_1, .int 0])), (q_1, .inl (cB, 3000, .inl ((fun _ => 0))))]) [0, 1] rfl
  have hD9 := hD.sub (ws' := [(h0, .inr (5, [.ref q_1, .int 0])), (q_1, .inl (cB, 3000, .inl ((fun _ => 0))))]) [0, 1] (by decide +kernel) rfl
  refine W.widen (k := 1) (n := 3000) (Nat.le_of_ble_eq_true rfl) (Nat.le_of_ble_eq_true rfl) ?_
  exact W.vret hx hb hr (fun t ht hW => ⟨⟨q_1, rfl, (by first | trivial | rfl | assumption), by rw [ht]; exact hP9, hD9⟩, hS.F ht⟩) hS.2.2 dX5_init_13
abbrev ww_X1_init (cB cC cI cJ cZ cP : ClassId) (h0 : Nat) : va_W := [(h0, .inr (1, [.null, .null, .int 0]))]
abbrev q_X1_init (dC : Nat → ClassId) (dI : Nat → Nat → Nat) (cB cC cI cJ cZ cP : ClassId) (h0 : Nat) (A : Nat → Prop) : Array Value → State → Outcome → State → Prop := va_Qv (fun (u : Nat × Nat) => match u with | (q_1, q_4) => True) (g_Bo (dC, dI) A (fun (u : Nat × Nat) => match u with | (q_1, q_4) => [(h0, .inr (1, [.ref q_1, .ref q_4, .int 0])), (q_1, .inl (cJ, 2000, .inr (.inl ((fun _ => 0))))), (q_4, .inl (cI, 2000, .inl ((fun _ => 0))))])) A
set_option maxHeartbeats 4000000 in
set_option maxRecDepth 100000 in
theorem c_X1_init (l : Launch) (dC : Nat → ClassId) (dI : Nat → Nat → Nat) (cB cC cI cJ cZ cP : ClassId) (sz : Nat) (h0 : Nat)  : Met l yX1_init (g_ws yX1_init cX1_init 1 none) ({ frames := 1, cells := 2, slots := 4000, locals := 40 }) (va_Pc [.ref h0] (g_B (dC, dI) [(cB, .byte), (cC, .char), (cI, .int), (cJ, .long), (cZ, .boolean), (cP, .object "StoryHouse$Play")] sz (ww_X1_init cB cC cI cJ cZ cP h0) g_0)) (q_X1_init dC dI cB cC cI cJ cZ cP h0 (va_A (ww_X1_init cB cC cI cJ cZ cP h0) sz)) 2 4000 (va_A (ww_X1_init cB cC cI cJ cZ cP h0) sz) := by
  refine Met.ofW (cc := cX1_init) (maxL := 1) (ret := none) (by decide) rfl ?_
  intro p e s m args below meth c s₁ B hml hv
  obtain ⟨rfl, hsz, hP, hK, hD0, hE, hX⟩ := hv
  have hx := B.exec
  have hb := B.bytes
  have hr := B.returns
  have hts0 := atoms_spec (ws := (g_ws yX1_init cX1_init 1 none)) B.pre
  have hts : ∀ w ∈ lw_good, w.before ([.ref h0] : List Value).toArray s = true := fun w h => hts0 w (List.mem_cons_of_mem _ h)
  have hown : s.vm.findClass RX1 = some m.cls := findClass_of_methodNamed B.named
  have hlocks := B.notSynchronized
  have hin : meth.name = "<init>" := (name_of_methodNamed B.named B.method).1
  subst hsz
  have hD := hD0.self (sz := s.heap.size)
  generalize hAe : va_A (ww_X1_init cB cC cI cJ cZ cP h0) s.heap.size = A at hD hE hX ⊢
  have hA : ∀ q : Nat, s.heap.size ≤ q → A q := fun q h => by rw [← hAe]; exact Or.inr h
  have hN := hE.1
  have hS : va_S A s.heap s.heap [] := va_S.rf
  have hP : va_P (dC, dI) vwCl [(h0, .inr (1, [.null, .null, .int 0]))] s.heap := hP
  have hl := lv_entry ([.ref h0]) (n := 1) (Nat.le_of_ble_eq_true rfl)
  rw [lg_entry_eq]
  generalize (lg_sl ([.ref h0]) ++ List.replicate (1 - (lg_sl ([.ref h0])).length) Slot.unset).toArray = ls at hl ⊢
  have hl : lv_has ls 1 [(0, .ref h0)] := hl
  refine lv_aload_n hx hb dX1_init_0 rfl (lv_at hl 0 rfl) ?_
  refine W.objInit hx hb hown (hts (.methodLink RX1 3 objectInit) wq_148) (hts (.instanceMethod objectInit) wq_34) (hts (.code objectInit ⟨#[0xb1]⟩ 1 none) wq_35) rfl (by rw [hml]; exact hl.1) rfl dX1_init_1 (Nat.le_of_ble_eq_true rfl) (Nat.le_of_ble_eq_true rfl) ?_
  refine W.eq (g2 := F0 m 4 ls []) rfl ?_
  refine lv_aload_n hx hb dX1_init_4 rfl (lv_at hl 0 rfl) ?_
  refine lv_sipush (v := 2000) hx hb dX1_init_5 (by decide +kernel) ?_
  refine g_newJ hx hb (hts (.arrayClass .long) wq_64) hK 3 rfl hP hD hS hA 2000 (by decide +kernel) (by decide +kernel) (Nat.le_of_ble_eq_true rfl) (Nat.le_of_ble_eq_true rfl) (Nat.le_of_ble_eq_true rfl) dX1_init_8 (fun q_1 H_2 hP' hD' hS' => ?_)
  replace hP : va_P (dC, dI) vwCl [(h0, .inr (1, [.null, .null, .int 0])), (q_1, .inl (cJ, 2000, .inr (.inl ((fun _ => 0)))))] H_2 := hP'
  replace hD : va_D A [(h0, .inr (1, [.null, .null, .int 0])), (q_1, .inl (cJ, 2000, .inr (.inl ((fun _ => 0)))))] := hD'
  replace hS := hS'
  clear hP' hD' hS'
  refine W.widen (k := 1) (n := 2000) (Nat.le_of_ble_eq_true rfl) (Nat.le_of_ble_eq_true rfl) ?_
  refine va_putF (D := (dC, dI)) (ci := 1) (v := .ref q_1) (ty := .array .long) (C := RX1) (T := TX1) (N := 3) hx hb hts ii_X1 tyX1 tyX1_ok nmX1 hown hK hP hD hS 0 rfl rfl 0 (by decide) (hts (.fieldLink RX1 11 "StoryHouse$Dictionary" "terms" "[J") wq_149) (fun _ h9 => h9) rfl hin rfl (by decide +kernel) rfl rfl (Nat.le_of_ble_eq_true rfl) dX1_init_10 (fun H_3 locs hP' hD' hS' => ?_)
  replace hP : va_P (dC, dI) vwCl [(h0, .inr (1, [.ref q_1, .null, .int 0])), (q_1, .inl (cJ, 2000, .inr (.inl ((fun _ => 0)))))] H_3 := hP'
  replace hD : va_D A [(h0, .inr (1, [.ref q_1, .null, .int 0])), (q_1, .inl (cJ, 2000, .inr (.inl ((fun _ => 0)))))] := hD'
  replace hS := hS'
  clear hP' hD' hS'
  refine lv_aload_n hx hb dX1_init_13 rfl (lv_at hl 0 rfl) ?_
  refine lv_sipush (v := 2000) hx hb dX1_init_14 (by decide +kernel) ?_
  refine g_newI hx hb (hts (.arrayClass .int) wq_63) hK 2 rfl hP hD hS hA 2000 (by decide +kernel) (by decide +kernel) (Nat.le_of_ble_eq_true rfl) (Nat.le_of_ble_eq_true rfl) (Nat.le_of_ble_eq_true rfl) dX1_init_17 (fun q_4 H_5 hP' hD' hS' => ?_)
  replace hP : va_P (dC, dI) vwCl [(h0, .inr (1, [.ref q_1, .null, .int 0])), (q_1, .inl (cJ, 2000, .inr (.inl ((fun _ => 0))))), (q_4, .inl (cI, 2000, .inl ((fun _ => 0))))] H_5 := hP'
  replace hD : va_D A [(h0, .inr (1, [.ref q_1, .null, .int 0])), (q_1, .inl (cJ, 2000, .inr (.inl ((fun _ => 0))))), (q_4, .inl (cI, 2000, .inl ((fun _ => 0))))] := hD'
  replace hS := hS'
  clear hP' hD' hS'
  refine W.widen (k := 2) (n := 4000) (Nat.le_of_ble_eq_true rfl) (Nat.le_of_ble_eq_true rfl) ?_
  refine va_putF (D := (dC, dI)) (ci := 1) (v := .ref q_4) (ty := .array .int) (C := RX1) (T := TX1) (N := 3) hx hb hts ii_X1 tyX1 tyX1_ok nmX1 hown hK hP hD hS 0 rfl rfl 1 (by decide) (hts (.fieldLink RX1 15 "StoryHouse$Dictionary" "numbers" "[I") wq_150) (fun _ h9 => h9) rfl hin rfl (by decide +kernel) rfl rfl (Nat.le_of_ble_eq_true rfl) dX1_init_19 (fun H_6 locs hP' hD' hS' => ?_)
  replace hP : va_P (dC, dI) vwCl [(h0, .inr (1, [.ref q_1, .ref q_4, .int 0])), (q_1, .inl (cJ, 2000, .inr (.inl ((fun _ => 0))))), (q_4, .inl (cI, 2000, .inl ((fun _ => 0))))] H_6 := hP'
  replace hD : va_D A [(h0, .inr (1, [.ref q_1, .ref q_4, .int 0])), (q_1, .inl (cJ, 2000, .inr (.inl ((fun _ => 0))))), (q_4, .inl (cI, 2000, .inl ((fun _ => 0))))] := hD'
  replace hS := hS'
  clear hP' hD' hS'
  have hP9 := hP.sub (ws' := [(h0, .inr (1, [.ref q_1, .ref q_4, .int 0])), (q_1, .inl (cJ, 2000, .inr (.inl ((fun _ => 0))))), (q_4, .inl (cI, 2000, .inl ((fun _ => 0))))]) [0, 1, 2] rfl
  have hD9 := hD.sub (ws' := [(h0, .inr (1, [.ref q_1, .ref q_4, .int 0])), (q_1, .inl (cJ, 2000, .inr (.inl ((fun _ => 0))))), (q_4, .inl (cI, 2000, .inl ((fun _ => 0))))]) [0, 1, 2] (by decide +kernel) rfl
  refine W.widen (k := 2) (n := 4000) (Nat.le_of_ble_eq_true rfl) (Nat.le_of_ble_eq_true rfl) ?_
  exact W.vret hx hb hr (fun t ht hW => ⟨⟨(q_1, q_4), rfl, (by first | trivial | rfl | assumption), by rw [ht]; exact hP9, hD9⟩, hS.F ht⟩) hS.2.2 dX1_init_22
abbrev ww_X0_init (cB cC cI cJ cZ cP : ClassId) (h0 : Nat) : va_W := [(h0, .inr (0, [.null, .int 0, .null, .null, .null, .int 0, .int 0, .int 0, .int 0]))]
abbrev q_X0_init (dC : Nat → ClassId) (dI : Nat → Nat → Nat) (cB cC cI cJ cZ cP : ClassId) (h0 : Nat) (A : Nat → Prop) : Array Value → State → Outcome → State → Prop := va_Qv (fun (u : Nat × Nat × Nat × Nat) => match u with | (q_1, q_4, q_7, q_10) => True) (g_Bo (dC, dI) A (fun (u : Nat × Nat × Nat × Nat) => match u with | (q_1, q_4, q_7, q_10) => [(h0, .inr (0, [.ref q_1, .int 0, .ref q_4, .ref q_7, .ref q_10, .int 0, .int 0, .int 0, .int 0])), (q_1, .inl (cB, 40000, .inl ((fun _ => 0)))), (q_4, .inl (cI, 320, .inl ((fun _ => 0)))), (q_7, .inl (cI, 320, .inl ((fun _ => 0)))), (q_10, .inl (cI, 100, .inl ((fun _ => 0))))])) A
set_option maxHeartbeats 4000000 in
set_option maxRecDepth 100000 in
theorem c_X0_init (l : Launch) (dC : Nat → ClassId) (dI : Nat → Nat → Nat) (cB cC cI cJ cZ cP : ClassId) (sz : Nat) (h0 : Nat)  : Met l yX0_init (g_ws yX0_init cX0_init 1 none) ({ frames := 1, cells := 4, slots := 40740, locals := 40 }) (va_Pc [.ref h0] (g_B (dC, dI) [(cB, .byte), (cC, .char), (cI, .int), (cJ, .long), (cZ, .boolean), (cP, .object "StoryHouse$Play")] sz (ww_X0_init cB cC cI cJ cZ cP h0) g_0)) (q_X0_init dC dI cB cC cI cJ cZ cP h0 (va_A (ww_X0_init cB cC cI cJ cZ cP h0) sz)) 4 40740 (va_A (ww_X0_init cB cC cI cJ cZ cP h0) sz) := by
  refine Met.ofW (cc := cX0_init) (maxL := 1) (ret := none) (by decide) rfl ?_
  intro p e s m args below meth c s₁ B hml hv
  obtain ⟨rfl, hsz, hP, hK, hD0, hE, hX⟩ := hv
  have hx := B.exec
  have hb := B.bytes
  have hr := B.returns
  have hts0 := atoms_spec (ws := (g_ws yX0_init cX0_init 1 none)) B.pre
  have hts : ∀ w ∈ lw_good, w.before ([.ref h0] : List Value).toArray s = true := fun w h => hts0 w (List.mem_cons_of_mem _ h)
  have hown : s.vm.findClass RX0 = some m.cls := findClass_of_methodNamed B.named
  have hlocks := B.notSynchronized
  have hin : meth.name = "<init>" := (name_of_methodNamed B.named B.method).1
  subst hsz
  have hD := hD0.self (sz := s.heap.size)
  generalize hAe : va_A (ww_X0_init cB cC cI cJ cZ cP h0) s.heap.size = A at hD hE hX ⊢
  have hA : ∀ q : Nat, s.heap.size ≤ q → A q := fun q h => by rw [← hAe]; exact Or.inr h
  have hN := hE.1
  have hS : va_S A s.heap s.heap [] := va_S.rf
  have hP : va_P (dC, dI) vwCl [(h0, .inr (0, [.null, .int 0, .null, .null, .null, .int 0, .int 0, .int 0, .int 0]))] s.heap := hP
  have hl := lv_entry ([.ref h0]) (n := 1) (Nat.le_of_ble_eq_true rfl)
  rw [lg_entry_eq]
  generalize (lg_sl ([.ref h0]) ++ List.replicate (1 - (lg_sl ([.ref h0])).length) Slot.unset).toArray = ls at hl ⊢
  have hl : lv_has ls 1 [(0, .ref h0)] := hl
  refine lv_aload_n hx hb dX0_init_0 rfl (lv_at hl 0 rfl) ?_
  refine W.objInit hx hb hown (hts (.methodLink RX0 3 objectInit) wq_114) (hts (.instanceMethod objectInit) wq_34) (hts (.code objectInit ⟨#[0xb1]⟩ 1 none) wq_35) rfl (by rw [hml]; exact hl.1) rfl dX0_init_1 (Nat.le_of_ble_eq_true rfl) (Nat.le_of_ble_eq_true rfl) ?_
  refine W.eq (g2 := F0 m 4 ls []) rfl ?_
  refine lv_aload_n hx hb dX0_init_4 rfl (lv_at hl 0 rfl) ?_
  refine lv_ldc (v := 40000) hx hb hown (hts (.constant RX0 11 (40000)) wq_115) dX0_init_5 ?_
  refine g_newB hx hb (hts (.arrayClass .byte) wq_62) hK 0 rfl hP hD hS hA 40000 (by decide +kernel) (by decide +kernel) (Nat.le_of_ble_eq_true rfl) (Nat.le_of_ble_eq_true rfl) (Nat.le_of_ble_eq_true rfl) dX0_init_7 (fun q_1 H_2 hP' hD' hS' => ?_)
  replace hP : va_P (dC, dI) vwCl [(h0, .inr (0, [.null, .int 0, .null, .null, .null, .int 0, .int 0, .int 0, .int 0])), (q_1, .inl (cB, 40000, .inl ((fun _ => 0))))] H_2 := hP'
  replace hD : va_D A [(h0, .inr (0, [.null, .int 0, .null, .null, .null, .int 0, .int 0, .int 0, .int 0])), (q_1, .inl (cB, 40000, .inl ((fun _ => 0))))] := hD'
  replace hS := hS'
  clear hP' hD' hS'
  refine W.widen (k := 1) (n := 40000) (Nat.le_of_ble_eq_true rfl) (Nat.le_of_ble_eq_true rfl) ?_
  refine va_putF (D := (dC, dI)) (ci := 0) (v := .ref q_1) (ty := .array .byte) (C := RX0) (T := TX0) (N := 9) hx hb hts ii_X0 tyX0 tyX0_ok nmX0 hown hK hP hD hS 0 rfl rfl 0 (by decide) (hts (.fieldLink RX0 12 "StoryHouse$Code" "bytes" "[B") wq_116) (fun _ h9 => h9) rfl hin rfl (by decide +kernel) rfl rfl (Nat.le_of_ble_eq_true rfl) dX0_init_9 (fun H_3 locs hP' hD' hS' => ?_)
  replace hP : va_P (dC, dI) vwCl [(h0, .inr (0, [.ref q_1, .int 0, .null, .null, .null, .int 0, .int 0, .int 0, .int 0])), (q_1, .inl (cB, 40000, .inl ((fun _ => 0))))] H_3 := hP'
  replace hD : va_D A [(h0, .inr (0, [.ref q_1, .int 0, .null, .null, .null, .int 0, .int 0, .int 0, .int 0])), (q_1, .inl (cB, 40000, .inl ((fun _ => 0))))] := hD'
  replace hS := hS'
  clear hP' hD' hS'
  refine lv_aload_n hx hb dX0_init_12 rfl (lv_at hl 0 rfl) ?_
  refine lv_sipush (v := 320) hx hb dX0_init_13 (by decide +kernel) ?_
  refine g_newI hx hb (hts (.arrayClass .int) wq_63) hK 2 rfl hP hD hS hA 320 (by decide +kernel) (by decide +kernel) (Nat.le_of_ble_eq_true rfl) (Nat.le_of_ble_eq_true rfl) (Nat.le_of_ble_eq_true rfl) dX0_init_16 (fun q_4 H_5 hP' hD' hS' => ?_)
  replace hP : va_P (dC, dI) vwCl [(h0, .inr (0, [.ref q_1, .int 0, .null, .null, .null, .int 0, .int 0, .int 0, .int 0])), (q_1, .inl (cB, 40000, .inl ((fun _ => 0)))), (q_4, .inl (cI, 320, .inl ((fun _ => 0))))] H_5 := hP'
  replace hD : va_D A [(h0, .inr (0, [.ref q_1, .int 0, .null, .null, .null, .int 0, .int 0, .int 0, .int 0])), (q_1, .inl (cB, 40000, .inl ((fun _ => 0)))), (q_4, .inl (cI, 320, .inl ((fun _ => 0))))] := hD'
  replace hS := hS'
  clear hP' hD' hS'
  refine W.widen (k := 2) (n := 40320) (Nat.le_of_ble_eq_true rfl) (Nat.le_of_ble_eq_true rfl) ?_
  refine va_putF (D := (dC, dI)) (ci := 0) (v := .ref q_4) (ty := .array .int) (C := RX0) (T := TX0) (N := 9) hx hb hts ii_X0 tyX0 tyX0_ok nmX0 hown hK hP hD hS 0 rfl rfl 2 (by decide) (hts (.fieldLink RX0 16 "StoryHouse$Code" "begins" "[I") wq_119) (fun _ h9 => h9) rfl hin rfl (by decide +kernel) rfl rfl (Nat.le_of_ble_eq_true rfl) dX0_init_18 (fun H_6 locs hP' hD' hS' => ?_)
  replace hP : va_P (dC, dI) vwCl [(h0, .inr (0, [.ref q_1, .int 0, .ref q_4, .null, .null, .int 0, .int 0, .int 0, .int 0])), (q_1, .inl (cB, 40000, .inl ((fun _ => 0)))), (q_4, .inl (cI, 320, .inl ((fun _ => 0))))] H_6 := hP'
  replace hD : va_D A [(h0, .inr (0, [.ref q_1, .int 0, .ref q_4, .null, .null, .int 0, .int 0, .int 0, .int 0])), (q_1, .inl (cB, 40000, .inl ((fun _ => 0)))), (q_4, .inl (cI, 320, .inl ((fun _ => 0))))] := hD'
  replace hS := hS'
  clear hP' hD' hS'
  refine lv_aload_n hx hb dX0_init_21 rfl (lv_at hl 0 rfl) ?_
  refine lv_sipush (v := 320) hx hb dX0_init_22 (by decide +kernel) ?_
  refine g_newI hx hb (hts (.arrayClass .int) wq_63) hK 2 rfl hP hD hS hA 320 (by decide +kernel) (by decide +kernel) (Nat.le_of_ble_eq_true rfl) (Nat.le_of_ble_eq_true rfl) (Nat.le_of_ble_eq_true rfl) dX0_init_25 (fun q_7 H_8 hP' hD' hS' => ?_)
  replace hP : va_P (dC, dI) vwCl [(h0, .inr (0, [.ref q_1, .int 0, .ref q_4, .null, .null, .int 0, .int 0, .int 0, .int 0])), (q_1, .inl (cB, 40000, .inl ((fun _ => 0)))), (q_4, .inl (cI, 320, .inl ((fun _ => 0)))), (q_7, .inl (cI, 320, .inl ((fun _ => 0))))] H_8 := hP'
  replace hD : va_D A [(h0, .inr (0, [.ref q_1, .int 0, .ref q_4, .null, .null, .int 0, .int 0, .int 0, .int 0])), (q_1, .inl (cB, 40000, .inl ((fun _ => 0)))), (q_4, .inl (cI, 320, .inl ((fun _ => 0)))), (q_7, .inl (cI, 320, .inl ((fun _ => 0))))] := hD'
  replace hS := hS'
  clear hP' hD' hS'
  refine W.widen (k := 3) (n := 40640) (Nat.le_of_ble_eq_true rfl) (Nat.le_of_ble_eq_true rfl) ?_
  refine va_putF (D := (dC, dI)) (ci := 0) (v := .ref q_7) (ty := .array .int) (C := RX0) (T := TX0) (N := 9) hx hb hts ii_X0 tyX0 tyX0_ok nmX0 hown hK hP hD hS 0 rfl rfl 3 (by decide) (hts (.fieldLink RX0 20 "StoryHouse$Code" "ends" "[I") wq_120) (fun _ h9 => h9) rfl hin rfl (by decide +kernel) rfl rfl (Nat.le_of_ble_eq_true rfl) dX0_init_27 (fun H_9 locs hP' hD' hS' => ?_)
  replace hP : va_P (dC, dI) vwCl [(h0, .inr (0, [.ref q_1, .int 0, .ref q_4, .ref q_7, .null, .int 0, .int 0, .int 0, .int 0])), (q_1, .inl (cB, 40000, .inl ((fun _ => 0)))), (q_4, .inl (cI, 320, .inl ((fun _ => 0)))), (q_7, .inl (cI, 320, .inl ((fun _ => 0))))] H_9 := hP'
  replace hD : va_D A [(h0, .inr (0, [.ref q_1, .int 0, .ref q_4, .ref q_7, .null, .int 0, .int 0, .int 0, .int 0])), (q_1, .inl (cB, 40000, .inl ((fun _ => 0)))), (q_4, .inl (cI, 320, .inl ((fun _ => 0)))), (q_7, .inl (cI, 320, .inl ((fun _ => 0))))] := hD'
  replace hS := hS'
  clear hP' hD' hS'
  refine lv_aload_n hx hb dX0_init_30 rfl (lv_at hl 0 rfl) ?_
  refine lv_bipush (v := 100) hx hb dX0_init_31 (by decide +kernel) ?_
  refine g_newI hx hb (hts (.arrayClass .int) wq_63) hK 2 rfl hP hD hS hA 100 (by decide +kernel) (by decide +kernel) (Nat.le_of_ble_eq_true rfl) (Nat.le_of_ble_eq_true rfl) (Nat.le_of_ble_eq_true rfl) dX0_init_33 (fun q_10 H_11 hP' hD' hS' => ?_)
  replace hP : va_P (dC, dI) vwCl [(h0, .inr (0, [.ref q_1, .int 0, .ref q_4, .ref q_7, .null, .int 0, .int 0, .int 0, .int 0])), (q_1, .inl (cB, 40000, .inl ((fun _ => 0)))), (q_4, .inl (cI, 320, .inl ((fun _ => 0)))), (q_7, .inl (cI, 320, .inl ((fun _ => 0)))), (q_10, .inl (cI, 100, .inl ((fun _ => 0))))] H_11 := hP'
  replace hD : va_D A [(h0, .inr (0, [.ref q_1, .int 0, .ref q_4, .ref q_7, .null, .int 0, .int 0, .int 0, .int 0])), (q_1, .inl (cB, 40000, .inl ((fun _ => 0)))), (q_4, .inl (cI, 320, .inl ((fun _ => 0)))), (q_7, .inl (cI, 320, .inl ((fun _ => 0)))), (q_10, .inl (cI, 100, .inl ((fun _ => 0))))] := hD'
  replace hS := hS'
  clear hP' hD' hS'
  refine W.widen (k := 4) (n := 40740) (Nat.le_of_ble_eq_true rfl) (Nat.le_of_ble_eq_true rfl) ?_
  refine va_putF (D := (dC, dI)) (ci := 0) (v := .ref q_10) (ty := .array .int) (C := RX0) (T := TX0) (N := 9) hx hb hts ii_X0 tyX0 tyX0_ok nmX0 hown hK hP hD hS 0 rfl rfl 4 (by decide) (hts (.fieldLink RX0 23 "StoryHouse$Code" "lists" "[I") wq_121) (fun _ h9 => h9) rfl hin rfl (by decide +kernel) rfl rfl (Nat.le_of_ble_eq_true rfl) dX0_init_35 (fun H_12 locs hP' hD' hS' => ?_)
  replace hP : va_P (dC, dI) vwCl [(h0, .inr (0, [.ref q_1, .int 0, .ref q_4, .ref q_7, .ref q_10, .int 0, .int 0, .int 0, .int 0])), (q_1, .inl (cB, 40000, .inl ((fun _ => 0)))), (q_4, .inl (cI, 320, .inl ((fun _ => 0)))), (q_7, .inl (cI, 320, .inl ((fun _ => 0)))), (q_10, .inl (cI, 100, .inl ((fun _ => 0))))] H_12 := hP'
  replace hD : va_D A [(h0, .inr (0, [.ref q_1, .int 0, .ref q_4, .ref q_7, .ref q_10, .int 0, .int 0, .int 0, .int 0])), (q_1, .inl (cB, 40000, .inl ((fun _ => 0)))), (q_4, .inl (cI, 320, .inl ((fun _ => 0)))), (q_7, .inl (cI, 320, .inl ((fun _ => 0)))), (q_10, .inl (cI, 100, .inl ((fun _ => 0))))] := hD'
  replace hS := hS'
  clear hP' hD' hS'
  have hP9 := hP.sub (ws' := [(h0, .inr (0, [.ref q_1, .int 0, .ref q_4, .ref q_7, .ref q_10, .int 0, .int 0, .int 0, .int 0])), (q_1, .inl (cB, 40000, .inl ((fun _ => 0)))), (q_4, .inl (cI, 320, .inl ((fun _ => 0)))), (q_7, .inl (cI, 320, .inl ((fun _ => 0)))), (q_10, .inl (cI, 100, .inl ((fun _ => 0))))]) [0, 1, 2, 3, 4] rfl
  have hD9 := hD.sub (ws' := [(h0, .inr (0, [.ref q_1, .int 0, .ref q_4, .ref q_7, .ref q_10, .int 0, .int 0, .int 0, .int 0])), (q_1, .inl (cB, 40000, .inl ((fun _ => 0)))), (q_4, .inl (cI, 320, .inl ((fun _ => 0)))), (q_7, .inl (cI, 320, .inl ((fun _ => 0)))), (q_10, .inl (cI, 100, .inl ((fun _ => 0))))]) [0, 1, 2, 3, 4] (by decide +kernel) rfl
  refine W.widen (k := 4) (n := 40740) (Nat.le_of_ble_eq_true rfl) (Nat.le_of_ble_eq_true rfl) ?_
  exact W.vret hx hb hr (fun t ht hW => ⟨⟨(q_1, q_4, q_7, q_10), rfl, (by first | trivial | rfl | assumption), by rw [ht]; exact hP9, hD9⟩, hS.F ht⟩) hS.2.2 dX0_init_38
abbrev ww_X9_init (cB cC cI cJ cZ cP : ClassId) (h0 : Nat) : va_W := [(h0, .inr (9, [.null, .int 0, .int 0, .int 0, .null, .null, .int 0, .null, .null]))]
abbrev q_X9_init (dC : Nat → ClassId) (dI : Nat → Nat → Nat) (cB cC cI cJ cZ cP : ClassId) (h0 : Nat) (A : Nat → Prop) : Array Value → State → Outcome → State → Prop := va_Qv (fun (u : Nat × Nat × Nat × Nat × Nat) => match u with | (q_1, q_4, q_7, q_10, q_13) => True) (g_Bo (dC, dI) A (fun (u : Nat × Nat × Nat × Nat × Nat) => match u with | (q_1, q_4, q_7, q_10, q_13) => [(h0, .inr (9, [.ref q_1, .int 0, .int 0, .int 0, .ref q_4, .ref q_7, .int 0, .ref q_10, .ref q_13])), (q_1, .inl (cC, 16000, .inl ((fun _ => 0)))), (q_4, .inl (cI, 8000, .inl ((fun _ => 0)))), (q_7, .inl (cI, 8000, .inl ((fun _ => 0)))), (q_10, .inl (cB, 16000, .inl ((fun _ => 0)))), (q_13, .inl (cB, 200, .inl ((fun _ => 0))))])) A
set_option maxHeartbeats 4000000 in
set_option maxRecDepth 100000 in
theorem c_X9_init (l : Launch) (dC : Nat → ClassId) (dI : Nat → Nat → Nat) (cB cC cI cJ cZ cP : ClassId) (sz : Nat) (h0 : Nat)  : Met l yX9_init (g_ws yX9_init cX9_init 1 none) ({ frames := 1, cells := 5, slots := 48200, locals := 40 }) (va_Pc [.ref h0] (g_B (dC, dI) [(cB, .byte), (cC, .char), (cI, .int), (cJ, .long), (cZ, .boolean), (cP, .object "StoryHouse$Play")] sz (ww_X9_init cB cC cI cJ cZ cP h0) g_0)) (q_X9_init dC dI cB cC cI cJ cZ cP h0 (va_A (ww_X9_init cB cC cI cJ cZ cP h0) sz)) 5 48200 (va_A (ww_X9_init cB cC cI cJ cZ cP h0) sz) := by
  refine Met.ofW (cc := cX9_init) (maxL := 1) (ret := none) (by decide) rfl ?_
  intro p e s m args below meth c s₁ B hml hv
  obtain ⟨rfl, hsz, hP, hK, hD0, hE, hX⟩ := hv
  have hx := B.exec
  have hb := B.bytes
  have hr := B.returns
  have hts0 := atoms_spec (ws := (g_ws yX9_init cX9_init 1 none)) B.pre
  have hts : ∀ w ∈ lw_good, w.before ([.ref h0] : List Value).toArray s = true := fun w h => hts0 w (List.mem_cons_of_mem _ h)
  have hown : s.vm.findClass RX9 = some m.cls := findClass_of_methodNamed B.named
  have hlocks := B.notSynchronized
  have hin : meth.name = "<init>" := (name_of_methodNamed B.named B.method).1
  subst hsz
  have hD := hD0.self (sz := s.heap.size)
  generalize hAe : va_A (ww_X9_init cB cC cI cJ cZ cP h0) s.heap.size = A at hD hE hX ⊢
  have hA : ∀ q : Nat, s.heap.size ≤ q → A q := fun q h => by rw [← hAe]; exact Or.inr h
  have hN := hE.1
  have hS : va_S A s.heap s.heap [] := va_S.rf
  have hP : va_P (dC, dI) vwCl [(h0, .inr (9, [.null, .int 0, .int 0, .int 0, .null, .null, .int 0, .null, .null]))] s.heap := hP
  have hl := lv_entry ([.ref h0]) (n := 1) (Nat.le_of_ble_eq_true rfl)
  rw [lg_entry_eq]
  generalize (lg_sl ([.ref h0]) ++ List.replicate (1 - (lg_sl ([.ref h0])).length) Slot.unset).toArray = ls at hl ⊢
  have hl : lv_has ls 1 [(0, .ref h0)] := hl
  refine lv_aload_n hx hb dX9_init_0 rfl (lv_at hl 0 rfl) ?_
  refine W.objInit hx hb hown (hts (.methodLink RX9 3 objectInit) wq_133) (hts (.instanceMethod objectInit) wq_34) (hts (.code objectInit ⟨#[0xb1]⟩ 1 none) wq_35) rfl (by rw [hml]; exact hl.1) rfl dX9_init_1 (Nat.le_of_ble_eq_true rfl) (Nat.le_of_ble_eq_true rfl) ?_
  refine W.eq (g2 := F0 m 4 ls []) rfl ?_
  refine lv_aload_n hx hb dX9_init_4 rfl (lv_at hl 0 rfl) ?_
  refine lv_sipush (v := 16000) hx hb dX9_init_5 (by decide +kernel) ?_
  refine g_newC hx hb (hts (.arrayClass .char) wq_143) hK 1 rfl hP hD hS hA 16000 (by decide +kernel) (by decide +kernel) (Nat.le_of_ble_eq_true rfl) (Nat.le_of_ble_eq_true rfl) (Nat.le_of_ble_eq_true rfl) dX9_init_8 (fun q_1 H_2 hP' hD' hS' => ?_)
  replace hP : va_P (dC, dI) vwCl [(h0, .inr (9, [.null, .int 0, .int 0, .int 0, .null, .null, .int 0, .null, .null])), (q_1, .inl (cC, 16000, .inl ((fun _ => 0))))] H_2 := hP'
  replace hD : va_D A [(h0, .inr (9, [.null, .int 0, .int 0, .int 0, .null, .null, .int 0, .null, .null])), (q_1, .inl (cC, 16000, .inl ((fun _ => 0))))] := hD'
  replace hS := hS'
  clear hP' hD' hS'
  refine W.widen (k := 1) (n := 16000) (Nat.le_of_ble_eq_true rfl) (Nat.le_of_ble_eq_true rfl) ?_
  refine va_putF (D := (dC, dI)) (ci := 9) (v := .ref q_1) (ty := .array .char) (C := RX9) (T := TX9) (N := 9) hx hb hts ii_X9 tyX9 tyX9_ok nmX9 hown hK hP hD hS 0 rfl rfl 0 (by decide) (hts (.fieldLink RX9 11 "StoryHouse$Texts" "units" "[C") wq_134) (fun _ h9 => h9) rfl hin rfl (by decide +kernel) rfl rfl (Nat.le_of_ble_eq_true rfl) dX9_init_10 (fun H_3 locs hP' hD' hS' => ?_)
  replace hP : va_P (dC, dI) vwCl [(h0, .inr (9, [.ref q_1, .int 0, .int 0, .int 0, .null, .null, .int 0, .null, .null])), (q_1, .inl (cC, 16000, .inl ((fun _ => 0))))] H_3 := hP'
  replace hD : va_D A [(h0, .inr (9, [.ref q_1, .int 0, .int 0, .int 0, .null, .null, .int 0, .null, .null])), (q_1, .inl (cC, 16000, .inl ((fun _ => 0))))] := hD'
  replace hS := hS'
  clear hP' hD' hS'
  refine lv_aload_n hx hb dX9_init_13 rfl (lv_at hl 0 rfl) ?_
  refine lv_sipush (v := 8000) hx hb dX9_init_14 (by decide +kernel) ?_
  refine g_newI hx hb (hts (.arrayClass .int) wq_63) hK 2 rfl hP hD hS hA 8000 (by decide +kernel) (by decide +kernel) (Nat.le_of_ble_eq_true rfl) (Nat.le_of_ble_eq_true rfl) (Nat.le_of_ble_eq_true rfl) dX9_init_17 (fun q_4 H_5 hP' hD' hS' => ?_)
  replace hP : va_P (dC, dI) vwCl [(h0, .inr (9, [.ref q_1, .int 0, .int 0, .int 0, .null, .null, .int 0, .null, .null])), (q_1, .inl (cC, 16000, .inl ((fun _ => 0)))), (q_4, .inl (cI, 8000, .inl ((fun _ => 0))))] H_5 := hP'
  replace hD : va_D A [(h0, .inr (9, [.ref q_1, .int 0, .int 0, .int 0, .null, .null, .int 0, .null, .null])), (q_1, .inl (cC, 16000, .inl ((fun _ => 0)))), (q_4, .inl (cI, 8000, .inl ((fun _ => 0))))] := hD'
  replace hS := hS'
  clear hP' hD' hS'
  refine W.widen (k := 2) (n := 24000) (Nat.le_of_ble_eq_true rfl) (Nat.le_of_ble_eq_true rfl) ?_
  refine va_putF (D := (dC, dI)) (ci := 9) (v := .ref q_4) (ty := .array .int) (C := RX9) (T := TX9) (N := 9) hx hb hts ii_X9 tyX9 tyX9_ok nmX9 hown hK hP hD hS 0 rfl rfl 4 (by decide) (hts (.fieldLink RX9 15 "StoryHouse$Texts" "begins" "[I") wq_138) (fun _ h9 => h9) rfl hin rfl (by decide +kernel) rfl rfl (Nat.le_of_ble_eq_true rfl) dX9_init_19 (fun H_6 locs hP' hD' hS' => ?_)
  replace hP : va_P (dC, dI) vwCl [(h0, .inr (9, [.ref q_1, .int 0, .int 0, .int 0, .ref q_4, .null, .int 0, .null, .null])), (q_1, .inl (cC, 16000, .inl ((fun _ => 0)))), (q_4, .inl (cI, 8000, .inl ((fun _ => 0))))] H_6 := hP'
  replace hD : va_D A [(h0, .inr (9, [.ref q_1, .int 0, .int 0, .int 0, .ref q_4, .null, .int 0, .null, .null])), (q_1, .inl (cC, 16000, .inl ((fun _ => 0)))), (q_4, .inl (cI, 8000, .inl ((fun _ => 0))))] := hD'
  replace hS := hS'
  clear hP' hD' hS'
  refine lv_aload_n hx hb dX9_init_22 rfl (lv_at hl 0 rfl) ?_
  refine lv_sipush (v := 8000) hx hb dX9_init_23 (by decide +kernel) ?_
  refine g_newI hx hb (hts (.arrayClass .int) wq_63) hK 2 rfl hP hD hS hA 8000 (by decide +kernel) (by decide +kernel) (Nat.le_of_ble_eq_true rfl) (Nat.le_of_ble_eq_true rfl) (Nat.le_of_ble_eq_true rfl) dX9_init_26 (fun q_7 H_8 hP' hD' hS' => ?_)
  replace hP : va_P (dC, dI) vwCl [(h0, .inr (9, [.ref q_1, .int 0, .int 0, .int 0, .ref q_4, .null, .int 0, .null, .null])), (q_1, .inl (cC, 16000, .inl ((fun _ => 0)))), (q_4, .inl (cI, 8000, .inl ((fun _ => 0)))), (q_7, .inl (cI, 8000, .inl ((fun _ => 0))))] H_8 := hP'
  replace hD : va_D A [(h0, .inr (9, [.ref q_1, .int 0, .int 0, .int 0, .ref q_4, .null, .int 0, .null, .null])), (q_1, .inl (cC, 16000, .inl ((fun _ => 0)))), (q_4, .inl (cI, 8000, .inl ((fun _ => 0)))), (q_7, .inl (cI, 8000, .inl ((fun _ => 0))))] := hD'
  replace hS := hS'
  clear hP' hD' hS'
  refine W.widen (k := 3) (n := 32000) (Nat.le_of_ble_eq_true rfl) (Nat.le_of_ble_eq_true rfl) ?_
  refine va_putF (D := (dC, dI)) (ci := 9) (v := .ref q_7) (ty := .array .int) (C := RX9) (T := TX9) (N := 9) hx hb hts ii_X9 tyX9 tyX9_ok nmX9 hown hK hP hD hS 0 rfl rfl 5 (by decide) (hts (.fieldLink RX9 19 "StoryHouse$Texts" "toldPlaces" "[I") wq_139) (fun _ h9 => h9) rfl hin rfl (by decide +kernel) rfl rfl (Nat.le_of_ble_eq_true rfl) dX9_init_28 (fun H_9 locs hP' hD' hS' => ?_)
  replace hP : va_P (dC, dI) vwCl [(h0, .inr (9, [.ref q_1, .int 0, .int 0, .int 0, .ref q_4, .ref q_7, .int 0, .null, .null])), (q_1, .inl (cC, 16000, .inl ((fun _ => 0)))), (q_4, .inl (cI, 8000, .inl ((fun _ => 0)))), (q_7, .inl (cI, 8000, .inl ((fun _ => 0))))] H_9 := hP'
  replace hD : va_D A [(h0, .inr (9, [.ref q_1, .int 0, .int 0, .int 0, .ref q_4, .ref q_7, .int 0, .null, .null])), (q_1, .inl (cC, 16000, .inl ((fun _ => 0)))), (q_4, .inl (cI, 8000, .inl ((fun _ => 0)))), (q_7, .inl (cI, 8000, .inl ((fun _ => 0))))] := hD'
  replace hS := hS'
  clear hP' hD' hS'
  refine lv_aload_n hx hb dX9_init_31 rfl (lv_at hl 0 rfl) ?_
  refine lv_sipush (v := 16000) hx hb dX9_init_32 (by decide +kernel) ?_
  refine g_newB hx hb (hts (.arrayClass .byte) wq_62) hK 0 rfl hP hD hS hA 16000 (by decide +kernel) (by decide +kernel) (Nat.le_of_ble_eq_true rfl) (Nat.le_of_ble_eq_true rfl) (Nat.le_of_ble_eq_true rfl) dX9_init_35 (fun q_10 H_11 hP' hD' hS' => ?_)
  replace hP : va_P (dC, dI) vwCl [(h0, .inr (9, [.ref q_1, .int 0, .int 0, .int 0, .ref q_4, .ref q_7, .int 0, .null, .null])), (q_1, .inl (cC, 16000, .inl ((fun _ => 0)))), (q_4, .inl (cI, 8000, .inl ((fun _ => 0)))), (q_7, .inl (cI, 8000, .inl ((fun _ => 0)))), (q_10, .inl (cB, 16000, .inl ((fun _ => 0))))] H_11 := hP'
  replace hD : va_D A [(h0, .inr (9, [.ref q_1, .int 0, .int 0, .int 0, .ref q_4, .ref q_7, .int 0, .null, .null])), (q_1, .inl (cC, 16000, .inl ((fun _ => 0)))), (q_4, .inl (cI, 8000, .inl ((fun _ => 0)))), (q_7, .inl (cI, 8000, .inl ((fun _ => 0)))), (q_10, .inl (cB, 16000, .inl ((fun _ => 0))))] := hD'
  replace hS := hS'
  clear hP' hD' hS'
  refine W.widen (k := 4) (n := 48000) (Nat.le_of_ble_eq_true rfl) (Nat.le_of_ble_eq_true rfl) ?_
  refine va_putF (D := (dC, dI)) (ci := 9) (v := .ref q_10) (ty := .array .byte) (C := RX9) (T := TX9) (N := 9) hx hb hts ii_X9 tyX9 tyX9_ok nmX9 hown hK hP hD hS 0 rfl rfl 7 (by decide) (hts (.fieldLink RX9 22 "StoryHouse$Texts" "source" "[B") wq_141) (fun _ h9 => h9) rfl hin rfl (by decide +kernel) rfl rfl (Nat.le_of_ble_eq_true rfl) dX9_init_37 (fun H_12 locs hP' hD' hS' => ?_)
  replace hP : va_P (dC, dI) vwCl [(h0, .inr (9, [.ref q_1, .int 0, .int 0, .int 0, .ref q_4, .ref q_7, .int 0, .ref q_10, .null])), (q_1, .inl (cC, 16000, .inl ((fun _ => 0)))), (q_4, .inl (cI, 8000, .inl ((fun _ => 0)))), (q_7, .inl (cI, 8000, .inl ((fun _ => 0)))), (q_10, .inl (cB, 16000, .inl ((fun _ => 0))))] H_12 := hP'
  replace hD : va_D A [(h0, .inr (9, [.ref q_1, .int 0, .int 0, .int 0, .ref q_4, .ref q_7, .int 0, .ref q_10, .null])), (q_1, .inl (cC, 16000, .inl ((fun _ => 0)))), (q_4, .inl (cI, 8000, .inl ((fun _ => 0)))), (q_7, .inl (cI, 8000, .inl ((fun _ => 0)))), (q_10, .inl (cB, 16000, .inl ((fun _ => 0))))] := hD'
  replace hS := hS'
  clear hP' hD' hS'
  refine lv_aload_n hx hb dX9_init_40 rfl (lv_at hl 0 rfl) ?_
  refine lv_sipush (v := 200) hx hb dX9_init_41 (by decide +kernel) ?_
  refine g_newB hx hb (hts (.arrayClass .byte) wq_62) hK 0 rfl hP hD hS hA 200 (by decide +kernel) (by decide +kernel) (Nat.le_of_ble_eq_true rfl) (Nat.le_of_ble_eq_true rfl) (Nat.le_of_ble_eq_true rfl) dX9_init_44 (fun q_13 H_14 hP' hD' hS' => ?_)
  replace hP : va_P (dC, dI) vwCl [(h0, .inr (9, [.ref q_1, .int 0, .int 0, .int 0, .ref q_4, .ref q_7, .int 0, .ref q_10, .null])), (q_1, .inl (cC, 16000, .inl ((fun _ => 0)))), (q_4, .inl (cI, 8000, .inl ((fun _ => 0)))), (q_7, .inl (cI, 8000, .inl ((fun _ => 0)))), (q_10, .inl (cB, 16000, .inl ((fun _ => 0)))), (q_13, .inl (cB, 200, .inl ((fun _ => 0))))] H_14 := hP'
  replace hD : va_D A [(h0, .inr (9, [.ref q_1, .int 0, .int 0, .int 0, .ref q_4, .ref q_7, .int 0, .ref q_10, .null])), (q_1, .inl (cC, 16000, .inl ((fun _ => 0)))), (q_4, .inl (cI, 8000, .inl ((fun _ => 0)))), (q_7, .inl (cI, 8000, .inl ((fun _ => 0)))), (q_10, .inl (cB, 16000, .inl ((fun _ => 0)))), (q_13, .inl (cB, 200, .inl ((fun _ => 0))))] := hD'
  replace hS := hS'
  clear hP' hD' hS'
  refine W.widen (k := 5) (n := 48200) (Nat.le_of_ble_eq_true rfl) (Nat.le_of_ble_eq_true rfl) ?_
  refine va_putF (D := (dC, dI)) (ci := 9) (v := .ref q_13) (ty := .array .byte) (C := RX9) (T := TX9) (N := 9) hx hb hts ii_X9 tyX9 tyX9_ok nmX9 hown hK hP hD hS 0 rfl rfl 8 (by decide) (hts (.fieldLink RX9 26 "StoryHouse$Texts" "row" "[B") wq_142) (fun _ h9 => h9) rfl hin rfl (by decide +kernel) rfl rfl (Nat.le_of_ble_eq_true rfl) dX9_init_46 (fun H_15 locs hP' hD' hS' => ?_)
  replace hP : va_P (dC, dI) vwCl [(h0, .inr (9, [.ref q_1, .int 0, .int 0, .int 0, .ref q_4, .ref q_7, .int 0, .ref q_10, .ref q_13])), (q_1, .inl (cC, 16000, .inl ((fun _ => 0)))), (q_4, .inl (cI, 8000, .inl ((fun _ => 0)))), (q_7, .inl (cI, 8000, .inl ((fun _ => 0)))), (q_10, .inl (cB, 16000, .inl ((fun _ => 0)))), (q_13, .inl (cB, 200, .inl ((fun _ => 0))))] H_15 := hP'
  replace hD : va_D A [(h0, .inr (9, [.ref q_1, .int 0, .int 0, .int 0, .ref q_4, .ref q_7, .int 0, .ref q_10, .ref q_13])), (q_1, .inl (cC, 16000, .inl ((fun _ => 0)))), (q_4, .inl (cI, 8000, .inl ((fun _ => 0)))), (q_7, .inl (cI, 8000, .inl ((fun _ => 0)))), (q_10, .inl (cB, 16000, .inl ((fun _ => 0)))), (q_13, .inl (cB, 200, .inl ((fun _ => 0))))] := hD'
  replace hS := hS'
  clear hP' hD' hS'
  have hP9 := hP.sub (ws' := [(h0, .inr (9, [.ref q_1, .int 0, .int 0, .int 0, .ref q_4, .ref q_7, .int 0, .ref q_10, .ref q_13])), (q_1, .inl (cC, 16000, .inl ((fun _ => 0)))), (q_4, .inl (cI, 8000, .inl ((fun _ => 0)))), (q_7, .inl (cI, 8000, .inl ((fun _ => 0)))), (q_10, .inl (cB, 16000, .inl ((fun _ => 0)))), (q_13, .inl (cB, 200, .inl ((fun _ => 0))))]) [0, 1, 2, 3, 4, 5] rfl
  have hD9 := hD.sub (ws' := [(h0, .inr (9, [.ref q_1, .int 0, .int 0, .int 0, .ref q_4, .ref q_7, .int 0, .ref q_10, .ref q_13])), (q_1, .inl (cC, 16000, .inl ((fun _ => 0)))), (q_4, .inl (cI, 8000, .inl ((fun _ => 0)))), (q_7, .inl (cI, 8000, .inl ((fun _ => 0)))), (q_10, .inl (cB, 16000, .inl ((fun _ => 0)))), (q_13, .inl (cB, 200, .inl ((fun _ => 0))))]) [0, 1, 2, 3, 4, 5] (by decide +kernel) rfl
  refine W.widen (k := 5) (n := 48200) (Nat.le_of_ble_eq_true rfl) (Nat.le_of_ble_eq_true rfl) ?_
  exact W.vret hx hb hr (fun t ht hW => ⟨⟨(q_1, q_4, q_7, q_10, q_13), rfl, (by first | trivial | rfl | assumption), by rw [ht]; exact hP9, hD9⟩, hS.F ht⟩) hS.2.2 dX9_init_49
abbrev ww_X10_init (cB cC cI cJ cZ cP : ClassId) (h0 : Nat) : va_W := [(h0, .inr (10, [.null, .int 0, .int 0, .null, .null, .null, .null, .null, .null, .null, .int 0, .int 0]))]
abbrev q_X10_init (dC : Nat → ClassId) (dI : Nat → Nat → Nat) (cB cC cI cJ cZ cP : ClassId) (h0 : Nat) (A : Nat → Prop) : Array Value → State → Outcome → State → Prop := va_Qv (fun (u : Nat × Nat × Nat × Nat × Nat × Nat × Nat × Nat) => match u with | (q_1, q_4, q_7, q_10, q_13, q_16, q_19, q_22) => True) (g_Bo (dC, dI) A (fun (u : Nat × Nat × Nat × Nat × Nat × Nat × Nat × Nat) => match u with | (q_1, q_4, q_7, q_10, q_13, q_16, q_19, q_22) => [(h0, .inr (10, [.ref q_1, .int 0, .int 0, .ref q_4, .ref q_7, .ref q_10, .ref q_13, .ref q_16, .ref q_19, .ref q_22, .int 0, .int 0])), (q_1, .inl (cB, 16000, .inl ((fun _ => 0)))), (q_4, .inl (cI, 16001, .inl ((fun _ => 0)))), (q_7, .inl (cI, 16001, .inl ((fun _ => 0)))), (q_10, .inl (cI, 16001, .inl ((fun _ => 0)))), (q_13, .inl (cI, 16001, .inl ((fun _ => 0)))), (q_16, .inl (cI, 16001, .inl ((fun _ => 0)))), (q_19, .inl (cJ, 4500, .inr (.inl ((fun _ => 0))))), (q_22, .inl (cI, 8192, .inl ((fun _ => 0))))])) A
set_option maxHeartbeats 4000000 in
set_option maxRecDepth 100000 in
theorem c_X10_init (l : Launch) (dC : Nat → ClassId) (dI : Nat → Nat → Nat) (cB cC cI cJ cZ cP : ClassId) (sz : Nat) (h0 : Nat)  : Met l yX10_init (g_ws yX10_init cX10_init 1 none) ({ frames := 1, cells := 8, slots := 108697, locals := 40 }) (va_Pc [.ref h0] (g_B (dC, dI) [(cB, .byte), (cC, .char), (cI, .int), (cJ, .long), (cZ, .boolean), (cP, .object "StoryHouse$Play")] sz (ww_X10_init cB cC cI cJ cZ cP h0) g_0)) (q_X10_init dC dI cB cC cI cJ cZ cP h0 (va_A (ww_X10_init cB cC cI cJ cZ cP h0) sz)) 8 108697 (va_A (ww_X10_init cB cC cI cJ cZ cP h0) sz) := by
  refine Met.ofW (cc := cX10_init) (maxL := 1) (ret := none) (by decide) rfl ?_
  intro p e s m args below meth c s₁ B hml hv
  obtain ⟨rfl, hsz, hP, hK, hD0, hE, hX⟩ := hv
  have hx := B.exec
  have hb := B.bytes
  have hr := B.returns
  have hts0 := atoms_spec (ws := (g_ws yX10_init cX10_init 1 none)) B.pre
  have hts : ∀ w ∈ lw_good, w.before ([.ref h0] : List Value).toArray s = true := fun w h => hts0 w (List.mem_cons_of_mem _ h)
  have hown : s.vm.findClass RX10 = some m.cls := findClass_of_methodNamed B.named
  have hlocks := B.notSynchronized
  have hin : meth.name = "<init>" := (name_of_methodNamed B.named B.method).1
  subst hsz
  have hD := hD0.self (sz := s.heap.size)
  generalize hAe : va_A (ww_X10_init cB cC cI cJ cZ cP h0) s.heap.size = A at hD hE hX ⊢
  have hA : ∀ q : Nat, s.heap.size ≤ q → A q := fun q h => by rw [← hAe]; exact Or.inr h
  have hN := hE.1
  have hS : va_S A s.heap s.heap [] := va_S.rf
  have hP : va_P (dC, dI) vwCl [(h0, .inr (10, [.null, .int 0, .int 0, .null, .null, .null, .null, .null, .null, .null, .int 0, .int 0]))] s.heap := hP
  have hl := lv_entry ([.ref h0]) (n := 1) (Nat.le_of_ble_eq_true rfl)
  rw [lg_entry_eq]
  generalize (lg_sl ([.ref h0]) ++ List.replicate (1 - (lg_sl ([.ref h0])).length) Slot.unset).toArray = ls at hl ⊢
  have hl : lv_has ls 1 [(0, .ref h0)] := hl
  refine lv_aload_n hx hb dX10_init_0 rfl (lv_at hl 0 rfl) ?_
  refine W.objInit hx hb hown (hts (.methodLink RX10 3 objectInit) wq_40) (hts (.instanceMethod objectInit) wq_34) (hts (.code objectInit ⟨#[0xb1]⟩ 1 none) wq_35) rfl (by rw [hml]; exact hl.1) rfl dX10_init_1 (Nat.le_of_ble_eq_true rfl) (Nat.le_of_ble_eq_true rfl) ?_
  refine W.eq (g2 := F0 m 4 ls []) rfl ?_
  refine lv_aload_n hx hb dX10_init_4 rfl (lv_at hl 0 rfl) ?_
  refine lv_sipush (v := 16000) hx hb dX10_init_5 (by decide +kernel) ?_
  refine g_newB hx hb (hts (.arrayClass .byte) wq_62) hK 0 rfl hP hD hS hA 16000 (by decide +kernel) (by decide +kernel) (Nat.le_of_ble_eq_true rfl) (Nat.le_of_ble_eq_true rfl) (Nat.le_of_ble_eq_true rfl) dX10_init_8 (fun q_1 H_2 hP' hD' hS' => ?_)
  replace hP : va_P (dC, dI) vwCl [(h0, .inr (10, [.null, .int 0, .int 0, .null, .null, .null, .null, .null, .null, .null, .int 0, .int 0])), (q_1, .inl (cB, 16000, .inl ((fun _ => 0))))] H_2 := hP'
  replace hD : va_D A [(h0, .inr (10, [.null, .int 0, .int 0, .null, .null, .null, .null, .null, .null, .null, .int 0, .int 0])), (q_1, .inl (cB, 16000, .inl ((fun _ => 0))))] := hD'
  replace hS := hS'
  clear hP' hD' hS'
  refine W.widen (k := 1) (n := 16000) (Nat.le_of_ble_eq_true rfl) (Nat.le_of_ble_eq_true rfl) ?_
  refine va_putF (D := (dC, dI)) (ci := 10) (v := .ref q_1) (ty := .array .byte) (C := RX10) (T := TX10) (N := 12) hx hb hts ii_X10 tyX10 tyX10_ok nmX10 hown hK hP hD hS 0 rfl rfl 0 (by decide) (hts (.fieldLink RX10 9 "StoryHouse$Words" "source" "[B") wq_41) (fun _ h9 => h9) rfl hin rfl (by decide +kernel) rfl rfl (Nat.le_of_ble_eq_true rfl) dX10_init_10 (fun H_3 locs hP' hD' hS' => ?_)
  replace hP : va_P (dC, dI) vwCl [(h0, .inr (10, [.ref q_1, .int 0, .int 0, .null, .null, .null, .null, .null, .null, .null, .int 0, .int 0])), (q_1, .inl (cB, 16000, .inl ((fun _ => 0))))] H_3 := hP'
  replace hD : va_D A [(h0, .inr (10, [.ref q_1, .int 0, .int 0, .null, .null, .null, .null, .null, .null, .null, .int 0, .int 0])), (q_1, .inl (cB, 16000, .inl ((fun _ => 0))))] := hD'
  replace hS := hS'
  clear hP' hD' hS'
  refine lv_aload_n hx hb dX10_init_13 rfl (lv_at hl 0 rfl) ?_
  refine lv_sipush (v := 16001) hx hb dX10_init_14 (by decide +kernel) ?_
  refine g_newI hx hb (hts (.arrayClass .int) wq_63) hK 2 rfl hP hD hS hA 16001 (by decide +kernel) (by decide +kernel) (Nat.le_of_ble_eq_true rfl) (Nat.le_of_ble_eq_true rfl) (Nat.le_of_ble_eq_true rfl) dX10_init_17 (fun q_4 H_5 hP' hD' hS' => ?_)
  replace hP : va_P (dC, dI) vwCl [(h0, .inr (10, [.ref q_1, .int 0, .int 0, .null, .null, .null, .null, .null, .null, .null, .int 0, .int 0])), (q_1, .inl (cB, 16000, .inl ((fun _ => 0)))), (q_4, .inl (cI, 16001, .inl ((fun _ => 0))))] H_5 := hP'
  replace hD : va_D A [(h0, .inr (10, [.ref q_1, .int 0, .int 0, .null, .null, .null, .null, .null, .null, .null, .int 0, .int 0])), (q_1, .inl (cB, 16000, .inl ((fun _ => 0)))), (q_4, .inl (cI, 16001, .inl ((fun _ => 0))))] := hD'
  replace hS := hS'
  clear hP' hD' hS'
  refine W.widen (k := 2) (n := 32001) (Nat.le_of_ble_eq_true rfl) (Nat.le_of_ble_eq_true rfl) ?_
  refine va_putF (D := (dC, dI)) (ci := 10) (v := .ref q_4) (ty := .array .int) (C := RX10) (T := TX10) (N := 12) hx hb hts ii_X10 tyX10 tyX10_ok nmX10 hown hK hP hD hS 0 rfl rfl 3 (by decide) (hts (.fieldLink RX10 15 "StoryHouse$Words" "kinds" "[I") wq_49) (fun _ h9 => h9) rfl hin rfl (by decide +kernel) rfl rfl (Nat.le_of_ble_eq_true rfl) dX10_init_19 (fun H_6 locs hP' hD' hS' => ?_)
  replace hP : va_P (dC, dI) vwCl [(h0, .inr (10, [.ref q_1, .int 0, .int 0, .ref q_4, .null, .null, .null, .null, .null, .null, .int 0, .int 0])), (q_1, .inl (cB, 16000, .inl ((fun _ => 0)))), (q_4, .inl (cI, 16001, .inl ((fun _ => 0))))] H_6 := hP'
  replace hD : va_D A [(h0, .inr (10, [.ref q_1, .int 0, .int 0, .ref q_4, .null, .null, .null, .null, .null, .null, .int 0, .int 0])), (q_1, .inl (cB, 16000, .inl ((fun _ => 0)))), (q_4, .inl (cI, 16001, .inl ((fun _ => 0))))] := hD'
  replace hS := hS'
  clear hP' hD' hS'
  refine lv_aload_n hx hb dX10_init_22 rfl (lv_at hl 0 rfl) ?_
  refine lv_sipush (v := 16001) hx hb dX10_init_23 (by decide +kernel) ?_
  refine g_newI hx hb (hts (.arrayClass .int) wq_63) hK 2 rfl hP hD hS hA 16001 (by decide +kernel) (by decide +kernel) (Nat.le_of_ble_eq_true rfl) (Nat.le_of_ble_eq_true rfl) (Nat.le_of_ble_eq_true rfl) dX10_init_26 (fun q_7 H_8 hP' hD' hS' => ?_)
  replace hP : va_P (dC, dI) vwCl [(h0, .inr (10, [.ref q_1, .int 0, .int 0, .ref q_4, .null, .null, .null, .null, .null, .null, .int 0, .int 0])), (q_1, .inl (cB, 16000, .inl ((fun _ => 0)))), (q_4, .inl (cI, 16001, .inl ((fun _ => 0)))), (q_7, .inl (cI, 16001, .inl ((fun _ => 0))))] H_8 := hP'
  replace hD : va_D A [(h0, .inr (10, [.ref q_1, .int 0, .int 0, .ref q_4, .null, .null, .null, .null, .null, .null, .int 0, .int 0])), (q_1, .inl (cB, 16000, .inl ((fun _ => 0)))), (q_4, .inl (cI, 16001, .inl ((fun _ => 0)))), (q_7, .inl (cI, 16001, .inl ((fun _ => 0))))] := hD'
  replace hS := hS'
  clear hP' hD' hS'
  refine W.widen (k := 3) (n := 48002) (Nat.le_of_ble_eq_true rfl) (Nat.le_of_ble_eq_true rfl) ?_
  refine va_putF (D := (dC, dI)) (ci := 10) (v := .ref q_7) (ty := .array .int) (C := RX10) (T := TX10) (N := 12) hx hb hts ii_X10 tyX10 tyX10_ok nmX10 hown hK hP hD hS 0 rfl rfl 4 (by decide) (hts (.fieldLink RX10 19 "StoryHouse$Words" "places" "[I") wq_50) (fun _ h9 => h9) rfl hin rfl (by decide +kernel) rfl rfl (Nat.le_of_ble_eq_true rfl) dX10_init_28 (fun H_9 locs hP' hD' hS' => ?_)
  replace hP : va_P (dC, dI) vwCl [(h0, .inr (10, [.ref q_1, .int 0, .int 0, .ref q_4, .ref q_7, .null, .null, .null, .null, .null, .int 0, .int 0])), (q_1, .inl (cB, 16000, .inl ((fun _ => 0)))), (q_4, .inl (cI, 16001, .inl ((fun _ => 0)))), (q_7, .inl (cI, 16001, .inl ((fun _ => 0))))] H_9 := hP'
  replace hD : va_D A [(h0, .inr (10, [.ref q_1, .int 0, .int 0, .ref q_4, .ref q_7, .null, .null, .null, .null, .null, .int 0, .int 0])), (q_1, .inl (cB, 16000, .inl ((fun _ => 0)))), (q_4, .inl (cI, 16001, .inl ((fun _ => 0)))), (q_7, .inl (cI, 16001, .inl ((fun _ => 0))))] := hD'
  replace hS := hS'
  clear hP' hD' hS'
  refine lv_aload_n hx hb dX10_init_31 rfl (lv_at hl 0 rfl) ?_
  refine lv_sipush (v := 16001) hx hb dX10_init_32 (by decide +kernel) ?_
  refine g_newI hx hb (hts (.arrayClass .int) wq_63) hK 2 rfl hP hD hS hA 16001 (by decide +kernel) (by decide +kernel) (Nat.le_of_ble_eq_true rfl) (Nat.le_of_ble_eq_true rfl) (Nat.le_of_ble_eq_true rfl) dX10_init_35 (fun q_10 H_11 hP' hD' hS' => ?_)
  replace hP : va_P (dC, dI) vwCl [(h0, .inr (10, [.ref q_1, .int 0, .int 0, .ref q_4, .ref q_7, .null, .null, .null, .null, .null, .int 0, .int 0])), (q_1, .inl (cB, 16000, .inl ((fun _ => 0)))), (q_4, .inl (cI, 16001, .inl ((fun _ => 0)))), (q_7, .inl (cI, 16001, .inl ((fun _ => 0)))), (q_10, .inl (cI, 16001, .inl ((fun _ => 0))))] H_11 := hP'
  replace hD : va_D A [(h0, .inr (10, [.ref q_1, .int 0, .int 0, .ref q_4, .ref q_7, .null, .null, .null, .null, .null, .int 0, .int 0])), (q_1, .inl (cB, 16000, .inl ((fun _ => 0)))), (q_4, .inl (cI, 16001, .inl ((fun _ => 0)))), (q_7, .inl (cI, 16001, .inl ((fun _ => 0)))), (q_10, .inl (cI, 16001, .inl ((fun _ => 0))))] := hD'
  replace hS := hS'
  clear hP' hD' hS'
  refine W.widen (k := 4) (n := 64003) (Nat.le_of_ble_eq_true rfl) (Nat.le_of_ble_eq_true rfl) ?_
  refine va_putF (D := (dC, dI)) (ci := 10) (v := .ref q_10) (ty := .array .int) (C := RX10) (T := TX10) (N := 12) hx hb hts ii_X10 tyX10 tyX10_ok nmX10 hown hK hP hD hS 0 rfl rfl 5 (by decide) (hts (.fieldLink RX10 22 "StoryHouse$Words" "values" "[I") wq_51) (fun _ h9 => h9) rfl hin rfl (by decide +kernel) rfl rfl (Nat.le_of_ble_eq_true rfl) dX10_init_37 (fun H_12 locs hP' hD' hS' => ?_)
  replace hP : va_P (dC, dI) vwCl [(h0, .inr (10, [.ref q_1, .int 0, .int 0, .ref q_4, .ref q_7, .ref q_10, .null, .null, .null, .null, .int 0, .int 0])), (q_1, .inl (cB, 16000, .inl ((fun _ => 0)))), (q_4, .inl (cI, 16001, .inl ((fun _ => 0)))), (q_7, .inl (cI, 16001, .inl ((fun _ => 0)))), (q_10, .inl (cI, 16001, .inl ((fun _ => 0))))] H_12 := hP'
  replace hD : va_D A [(h0, .inr (10, [.ref q_1, .int 0, .int 0, .ref q_4, .ref q_7, .ref q_10, .null, .null, .null, .null, .int 0, .int 0])), (q_1, .inl (cB, 16000, .inl ((fun _ => 0)))), (q_4, .inl (cI, 16001, .inl ((fun _ => 0)))), (q_7, .inl (cI, 16001, .inl ((fun _ => 0)))), (q_10, .inl (cI, 16001, .inl ((fun _ => 0))))] := hD'
  replace hS := hS'
  clear hP' hD' hS'
  refine lv_aload_n hx hb dX10_init_40 rfl (lv_at hl 0 rfl) ?_
  refine lv_sipush (v := 16001) hx hb dX10_init_41 (by decide +kernel) ?_
  refine g_newI hx hb (hts (.arrayClass .int) wq_63) hK 2 rfl hP hD hS hA 16001 (by decide +kernel) (by decide +kernel) (Nat.le_of_ble_eq_true rfl) (Nat.le_of_ble_eq_true rfl) (Nat.le_of_ble_eq_true rfl) dX10_init_44 (fun q_13 H_14 hP' hD' hS' => ?_)
  replace hP : va_P (dC, dI) vwCl [(h0, .inr (10, [.ref q_1, .int 0, .int 0, .ref q_4, .ref q_7, .ref q_10, .null, .null, .null, .null, .int 0, .int 0])), (q_1, .inl (cB, 16000, .inl ((fun _ => 0)))), (q_4, .inl (cI, 16001, .inl ((fun _ => 0)))), (q_7, .inl (cI, 16001, .inl ((fun _ => 0)))), (q_10, .inl (cI, 16001, .inl ((fun _ => 0)))), (q_13, .inl (cI, 16001, .inl ((fun _ => 0))))] H_14 := hP'
  replace hD : va_D A [(h0, .inr (10, [.ref q_1, .int 0, .int 0, .ref q_4, .ref q_7, .ref q_10, .null, .null, .null, .null, .int 0, .int 0])), (q_1, .inl (cB, 16000, .inl ((fun _ => 0)))), (q_4, .inl (cI, 16001, .inl ((fun _ => 0)))), (q_7, .inl (cI, 16001, .inl ((fun _ => 0)))), (q_10, .inl (cI, 16001, .inl ((fun _ => 0)))), (q_13, .inl (cI, 16001, .inl ((fun _ => 0))))] := hD'
  replace hS := hS'
  clear hP' hD' hS'
  refine W.widen (k := 5) (n := 80004) (Nat.le_of_ble_eq_true rfl) (Nat.le_of_ble_eq_true rfl) ?_
  refine va_putF (D := (dC, dI)) (ci := 10) (v := .ref q_13) (ty := .array .int) (C := RX10) (T := TX10) (N := 12) hx hb hts ii_X10 tyX10 tyX10_ok nmX10 hown hK hP hD hS 0 rfl rfl 6 (by decide) (hts (.fieldLink RX10 25 "StoryHouse$Words" "notes" "[I") wq_52) (fun _ h9 => h9) rfl hin rfl (by decide +kernel) rfl rfl (Nat.le_of_ble_eq_true rfl) dX10_init_46 (fun H_15 locs hP' hD' hS' => ?_)
  replace hP : va_P (dC, dI) vwCl [(h0, .inr (10, [.ref q_1, .int 0, .int 0, .ref q_4, .ref q_7, .ref q_10, .ref q_13, .null, .null, .null, .int 0, .int 0])), (q_1, .inl (cB, 16000, .inl ((fun _ => 0)))), (q_4, .inl (cI, 16001, .inl ((fun _ => 0)))), (q_7, .inl (cI, 16001, .inl ((fun _ => 0)))), (q_10, .inl (cI, 16001, .inl ((fun _ => 0)))), (q_13, .inl (cI, 16001, .inl ((fun _ => 0))))] H_15 := hP'
  replace hD : va_D A [(h0, .inr (10, [.ref q_1, .int 0, .int 0, .ref q_4, .ref q_7, .ref q_10, .ref q_13, .null, .null, .null, .int 0, .int 0])), (q_1, .inl (cB, 16000, .inl ((fun _ => 0)))), (q_4, .inl (cI, 16001, .inl ((fun _ => 0)))), (q_7, .inl (cI, 16001, .inl ((fun _ => 0)))), (q_10, .inl (cI, 16001, .inl ((fun _ => 0)))), (q_13, .inl (cI, 16001, .inl ((fun _ => 0))))] := hD'
  replace hS := hS'
  clear hP' hD' hS'
  refine lv_aload_n hx hb dX10_init_49 rfl (lv_at hl 0 rfl) ?_
  refine lv_sipush (v := 16001) hx hb dX10_init_50 (by decide +kernel) ?_
  refine g_newI hx hb (hts (.arrayClass .int) wq_63) hK 2 rfl hP hD hS hA 16001 (by decide +kernel) (by decide +kernel) (Nat.le_of_ble_eq_true rfl) (Nat.le_of_ble_eq_true rfl) (Nat.le_of_ble_eq_true rfl) dX10_init_53 (fun q_16 H_17 hP' hD' hS' => ?_)
  replace hP : va_P (dC, dI) vwCl [(h0, .inr (10, [.ref q_1, .int 0, .int 0, .ref q_4, .ref q_7, .ref q_10, .ref q_13, .null, .null, .null, .int 0, .int 0])), (q_1, .inl (cB, 16000, .inl ((fun _ => 0)))), (q_4, .inl (cI, 16001, .inl ((fun _ => 0)))), (q_7, .inl (cI, 16001, .inl ((fun _ => 0)))), (q_10, .inl (cI, 16001, .inl ((fun _ => 0)))), (q_13, .inl (cI, 16001, .inl ((fun _ => 0)))), (q_16, .inl (cI, 16001, .inl ((fun _ => 0))))] H_17 := hP'
  replace hD : va_D A [(h0, .inr (10, [.ref q_1, .int 0, .int 0, .ref q_4, .ref q_7, .ref q_10, .ref q_13, .null, .null, .null, .int 0, .int 0])), (q_1, .inl (cB, 16000, .inl ((fun _ => 0)))), (q_4, .inl (cI, 16001, .inl ((fun _ => 0)))), (q_7, .inl (cI, 16001, .inl ((fun _ => 0)))), (q_10, .inl (cI, 16001, .inl ((fun _ => 0)))), (q_13, .inl (cI, 16001, .inl ((fun _ => 0)))), (q_16, .inl (cI, 16001, .inl ((fun _ => 0))))] := hD'
  replace hS := hS'
  clear hP' hD' hS'
  refine W.widen (k := 6) (n := 96005) (Nat.le_of_ble_eq_true rfl) (Nat.le_of_ble_eq_true rfl) ?_
  refine va_putF (D := (dC, dI)) (ci := 10) (v := .ref q_16) (ty := .array .int) (C := RX10) (T := TX10) (N := 12) hx hb hts ii_X10 tyX10 tyX10_ok nmX10 hown hK hP hD hS 0 rfl rfl 7 (by decide) (hts (.fieldLink RX10 28 "StoryHouse$Words" "meanings" "[I") wq_55) (fun _ h9 => h9) rfl hin rfl (by decide +kernel) rfl rfl (Nat.le_of_ble_eq_true rfl) dX10_init_55 (fun H_18 locs hP' hD' hS' => ?_)
  replace hP : va_P (dC, dI) vwCl [(h0, .inr (10, [.ref q_1, .int 0, .int 0, .ref q_4, .ref q_7, .ref q_10, .ref q_13, .ref q_16, .null, .null, .int 0, .int 0])), (q_1, .inl (cB, 16000, .inl ((fun _ => 0)))), (q_4, .inl (cI, 16001, .inl ((fun _ => 0)))), (q_7, .inl (cI, 16001, .inl ((fun _ => 0)))), (q_10, .inl (cI, 16001, .inl ((fun _ => 0)))), (q_13, .inl (cI, 16001, .inl ((fun _ => 0)))), (q_16, .inl (cI, 16001, .inl ((fun _ => 0))))] H_18 := hP'
  replace hD : va_D A [(h0, .inr (10, [.ref q_1, .int 0, .int 0, .ref q_4, .ref q_7, .ref q_10, .ref q_13, .ref q_16, .null, .null, .int 0, .int 0])), (q_1, .inl (cB, 16000, .inl ((fun _ => 0)))), (q_4, .inl (cI, 16001, .inl ((fun _ => 0)))), (q_7, .inl (cI, 16001, .inl ((fun _ => 0)))), (q_10, .inl (cI, 16001, .inl ((fun _ => 0)))), (q_13, .inl (cI, 16001, .inl ((fun _ => 0)))), (q_16, .inl (cI, 16001, .inl ((fun _ => 0))))] := hD'
  replace hS := hS'
  clear hP' hD' hS'
  refine lv_aload_n hx hb dX10_init_58 rfl (lv_at hl 0 rfl) ?_
  refine lv_sipush (v := 4500) hx hb dX10_init_59 (by decide +kernel) ?_
  refine g_newJ hx hb (hts (.arrayClass .long) wq_64) hK 3 rfl hP hD hS hA 4500 (by decide +kernel) (by decide +kernel) (Nat.le_of_ble_eq_true rfl) (Nat.le_of_ble_eq_true rfl) (Nat.le_of_ble_eq_true rfl) dX10_init_62 (fun q_19 H_20 hP' hD' hS' => ?_)
  replace hP : va_P (dC, dI) vwCl [(h0, .inr (10, [.ref q_1, .int 0, .int 0, .ref q_4, .ref q_7, .ref q_10, .ref q_13, .ref q_16, .null, .null, .int 0, .int 0])), (q_1, .inl (cB, 16000, .inl ((fun _ => 0)))), (q_4, .inl (cI, 16001, .inl ((fun _ => 0)))), (q_7, .inl (cI, 16001, .inl ((fun _ => 0)))), (q_10, .inl (cI, 16001, .inl ((fun _ => 0)))), (q_13, .inl (cI, 16001, .inl ((fun _ => 0)))), (q_16, .inl (cI, 16001, .inl ((fun _ => 0)))), (q_19, .inl (cJ, 4500, .inr (.inl ((fun _ => 0)))))] H_20 := hP'
  replace hD : va_D A [(h0, .inr (10, [.ref q_1, .int 0, .int 0, .ref q_4, .ref q_7, .ref q_10, .ref q_13, .ref q_16, .null, .null, .int 0, .int 0])), (q_1, .inl (cB, 16000, .inl ((fun _ => 0)))), (q_4, .inl (cI, 16001, .inl ((fun _ => 0)))), (q_7, .inl (cI, 16001, .inl ((fun _ => 0)))), (q_10, .inl (cI, 16001, .inl ((fun _ => 0)))), (q_13, .inl (cI, 16001, .inl ((fun _ => 0)))), (q_16, .inl (cI, 16001, .inl ((fun _ => 0)))), (q_19, .inl (cJ, 4500, .inr (.inl ((fun _ => 0)))))] := hD'
  replace hS := hS'
  clear hP' hD' hS'
  refine W.widen (k := 7) (n := 100505) (Nat.le_of_ble_eq_true rfl) (Nat.le_of_ble_eq_true rfl) ?_
  refine va_putF (D := (dC, dI)) (ci := 10) (v := .ref q_19) (ty := .array .long) (C := RX10) (T := TX10) (N := 12) hx hb hts ii_X10 tyX10 tyX10_ok nmX10 hown hK hP hD hS 0 rfl rfl 8 (by decide) (hts (.fieldLink RX10 31 "StoryHouse$Words" "names" "[J") wq_58) (fun _ h9 => h9) rfl hin rfl (by decide +kernel) rfl rfl (Nat.le_of_ble_eq_true rfl) dX10_init_64 (fun H_21 locs hP' hD' hS' => ?_)
  replace hP : va_P (dC, dI) vwCl [(h0, .inr (10, [.ref q_1, .int 0, .int 0, .ref q_4, .ref q_7, .ref q_10, .ref q_13, .ref q_16, .ref q_19, .null, .int 0, .int 0])), (q_1, .inl (cB, 16000, .inl ((fun _ => 0)))), (q_4, .inl (cI, 16001, .inl ((fun _ => 0)))), (q_7, .inl (cI, 16001, .inl ((fun _ => 0)))), (q_10, .inl (cI, 16001, .inl ((fun _ => 0)))), (q_13, .inl (cI, 16001, .inl ((fun _ => 0)))), (q_16, .inl (cI, 16001, .inl ((fun _ => 0)))), (q_19, .inl (cJ, 4500, .inr (.inl ((fun _ => 0)))))] H_21 := hP'
  replace hD : va_D A [(h0, .inr (10, [.ref q_1, .int 0, .int 0, .ref q_4, .ref q_7, .ref q_10, .ref q_13, .ref q_16, .ref q_19, .null, .int 0, .int 0])), (q_1, .inl (cB, 16000, .inl ((fun _ => 0)))), (q_4, .inl (cI, 16001, .inl ((fun _ => 0)))), (q_7, .inl (cI, 16001, .inl ((fun _ => 0)))), (q_10, .inl (cI, 16001, .inl ((fun _ => 0)))), (q_13, .inl (cI, 16001, .inl ((fun _ => 0)))), (q_16, .inl (cI, 16001, .inl ((fun _ => 0)))), (q_19, .inl (cJ, 4500, .inr (.inl ((fun _ => 0)))))] := hD'
  replace hS := hS'
  clear hP' hD' hS'
  refine lv_aload_n hx hb dX10_init_67 rfl (lv_at hl 0 rfl) ?_
  refine lv_sipush (v := 8192) hx hb dX10_init_68 (by decide +kernel) ?_
  refine g_newI hx hb (hts (.arrayClass .int) wq_63) hK 2 rfl hP hD hS hA 8192 (by decide +kernel) (by decide +kernel) (Nat.le_of_ble_eq_true rfl) (Nat.le_of_ble_eq_true rfl) (Nat.le_of_ble_eq_true rfl) dX10_init_71 (fun q_22 H_23 hP' hD' hS' => ?_)
  replace hP : va_P (dC, dI) vwCl [(h0, .inr (10, [.ref q_1, .int 0, .int 0, .ref q_4, .ref q_7, .ref q_10, .ref q_13, .ref q_16, .ref q_19, .null, .int 0, .int 0])), (q_1, .inl (cB, 16000, .inl ((fun _ => 0)))), (q_4, .inl (cI, 16001, .inl ((fun _ => 0)))), (q_7, .inl (cI, 16001, .inl ((fun _ => 0)))), (q_10, .inl (cI, 16001, .inl ((fun _ => 0)))), (q_13, .inl (cI, 16001, .inl ((fun _ => 0)))), (q_16, .inl (cI, 16001, .inl ((fun _ => 0)))), (q_19, .inl (cJ, 4500, .inr (.inl ((fun _ => 0))))), (q_22, .inl (cI, 8192, .inl ((fun _ => 0))))] H_23 := hP'
  replace hD : va_D A [(h0, .inr (10, [.ref q_1, .int 0, .int 0, .ref q_4, .ref q_7, .ref q_10, .ref q_13, .ref q_16, .ref q_19, .null, .int 0, .int 0])), (q_1, .inl (cB, 16000, .inl ((fun _ => 0)))), (q_4, .inl (cI, 16001, .inl ((fun _ => 0)))), (q_7, .inl (cI, 16001, .inl ((fun _ => 0)))), (q_10, .inl (cI, 16001, .inl ((fun _ => 0)))), (q_13, .inl (cI, 16001, .inl ((fun _ => 0)))), (q_16, .inl (cI, 16001, .inl ((fun _ => 0)))), (q_19, .inl (cJ, 4500, .inr (.inl ((fun _ => 0))))), (q_22, .inl (cI, 8192, .inl ((fun _ => 0))))] := hD'
  replace hS := hS'
  clear hP' hD' hS'
  refine W.widen (k := 8) (n := 108697) (Nat.le_of_ble_eq_true rfl) (Nat.le_of_ble_eq_true rfl) ?_
  refine va_putF (D := (dC, dI)) (ci := 10) (v := .ref q_22) (ty := .array .int) (C := RX10) (T := TX10) (N := 12) hx hb hts ii_X10 tyX10 tyX10_ok nmX10 hown hK hP hD hS 0 rfl rfl 9 (by decide) (hts (.fieldLink RX10 35 "StoryHouse$Words" "slots" "[I") wq_59) (fun _ h9 => h9) rfl hin rfl (by decide +kernel) rfl rfl (Nat.le_of_ble_eq_true rfl) dX10_init_73 (fun H_24 locs hP' hD' hS' => ?_)
  replace hP : va_P (dC, dI) vwCl [(h0, .inr (10, [.ref q_1, .int 0, .int 0, .ref q_4, .ref q_7, .ref q_10, .ref q_13, .ref q_16, .ref q_19, .ref q_22, .int 0, .int 0])), (q_1, .inl (cB, 16000, .inl ((fun _ => 0)))), (q_4, .inl (cI, 16001, .inl ((fun _ => 0)))), (q_7, .inl (cI, 16001, .inl ((fun _ => 0)))), (q_10, .inl (cI, 16001, .inl ((fun _ => 0)))), (q_13, .inl (cI, 16001, .inl ((fun _ => 0)))), (q_16, .inl (cI, 16001, .inl ((fun _ => 0)))), (q_19, .inl (cJ, 4500, .inr (.inl ((fun _ => 0))))), (q_22, .inl (cI, 8192, .inl ((fun _ => 0))))] H_24 := hP'
  replace hD : va_D A [(h0, .inr (10, [.ref q_1, .int 0, .int 0, .ref q_4, .ref q_7, .ref q_10, .ref q_13, .ref q_16, .ref q_19, .ref q_22, .int 0, .int 0])), (q_1, .inl (cB, 16000, .inl ((fun _ => 0)))), (q_4, .inl (cI, 16001, .inl ((fun _ => 0)))), (q_7, .inl (cI, 16001, .inl ((fun _ => 0)))), (q_10, .inl (cI, 16001, .inl ((fun _ => 0)))), (q_13, .inl (cI, 16001, .inl ((fun _ => 0)))), (q_16, .inl (cI, 16001, .inl ((fun _ => 0)))), (q_19, .inl (cJ, 4500, .inr (.inl ((fun _ => 0))))), (q_22, .inl (cI, 8192, .inl ((fun _ => 0))))] := hD'
  replace hS := hS'
  clear hP' hD' hS'
  have hP9 := hP.sub (ws' := [(h0, .inr (10, [.ref q_1, .int 0, .int 0, .ref q_4, .ref q_7, .ref q_10, .ref q_13, .ref q_16, .ref q_19, .ref q_22, .int 0, .int 0])), (q_1, .inl (cB, 16000, .inl ((fun _ => 0)))), (q_4, .inl (cI, 16001, .inl ((fun _ => 0)))), (q_7, .inl (cI, 16001, .inl ((fun _ => 0)))), (q_10, .inl (cI, 16001, .inl ((fun _ => 0)))), (q_13, .inl (cI, 16001, .inl ((fun _ => 0)))), (q_16, .inl (cI, 16001, .inl ((fun _ => 0)))), (q_19, .inl (cJ, 4500, .inr (.inl ((fun _ => 0))))), (q_22, .inl (cI, 8192, .inl ((fun _ => 0))))]) [0, 1, 2, 3, 4, 5, 6, 7, 8] rfl
  have hD9 := hD.sub (ws' := [(h0, .inr (10, [.ref q_1, .int 0, .int 0, .ref q_4, .ref q_7, .ref q_10, .ref q_13, .ref q_16, .ref q_19, .ref q_22, .int 0, .int 0])), (q_1, .inl (cB, 16000, .inl ((fun _ => 0)))), (q_4, .inl (cI, 16001, .inl ((fun _ => 0)))), (q_7, .inl (cI, 16001, .inl ((fun _ => 0)))), (q_10, .inl (cI, 16001, .inl ((fun _ => 0)))), (q_13, .inl (cI, 16001, .inl ((fun _ => 0)))), (q_16, .inl (cI, 16001, .inl ((fun _ => 0)))), (q_19, .inl (cJ, 4500, .inr (.inl ((fun _ => 0))))), (q_22, .inl (cI, 8192, .inl ((fun _ => 0))))]) [0, 1, 2, 3, 4, 5, 6, 7, 8] (by decide +kernel) rfl
  refine W.widen (k := 8) (n := 108697) (Nat.le_of_ble_eq_true rfl) (Nat.le_of_ble_eq_true rfl) ?_
  exact W.vret hx hb hr (fun t ht hW => ⟨⟨(q_1, q_4, q_7, q_10, q_13, q_16, q_19, q_22), rfl, (by first | trivial | rfl | assumption), by rw [ht]; exact hP9, hD9⟩, hS.F ht⟩) hS.2.2 dX10_init_76
abbrev ww_X6_init (cB cC cI cJ cZ cP : ClassId) (h0 : Nat) : va_W := [(h0, .inr (6, [.null, .null, .null, .null, .null, .null, .null, .int 0, .int 0, .int 0, .int 0, .int 0]))]
abbrev q_X6_init (dC : Nat → ClassId) (dI : Nat → Nat → Nat) (cB cC cI cJ cZ cP : ClassId) (h0 : Nat) (A : Nat → Prop) : Array Value → State → Outcome → State → Prop := va_Qv (fun (u : Nat × Nat × Nat × Nat × Nat × Nat × Nat) => match u with | (q_1, q_4, q_7, q_10, q_13, q_16, q_19) => True) (g_Bo (dC, dI) A (fun (u : Nat × Nat × Nat × Nat × Nat × Nat × Nat) => match u with | (q_1, q_4, q_7, q_10, q_13, q_16, q_19) => [(h0, .inr (6, [.ref q_1, .ref q_4, .ref q_7, .ref q_10, .ref q_13, .ref q_16, .ref q_19, .int 0, .int 0, .int 0, .int 0, .int 0])), (q_1, .inl (cI, 121, .inl ((fun _ => 0)))), (q_4, .inl (cI, 121, .inl ((fun _ => 0)))), (q_7, .inl (cI, 121, .inl ((fun _ => 0)))), (q_10, .inl (cI, 121, .inl ((fun _ => 0)))), (q_13, .inl (cI, 100, .inl ((fun _ => 0)))), (q_16, .inl (cI, 1000, .inl ((fun _ => 0)))), (q_19, .inl (cB, 120, .inl ((fun _ => 0))))])) A
set_option maxHeartbeats 4000000 in
set_option maxRecDepth 100000 in
theorem c_X6_init (l : Launch) (dC : Nat → ClassId) (dI : Nat → Nat → Nat) (cB cC cI cJ cZ cP : ClassId) (sz : Nat) (h0 : Nat)  : Met l yX6_init (g_ws yX6_init cX6_init 1 none) ({ frames := 1, cells := 7, slots := 1704, locals := 40 }) (va_Pc [.ref h0] (g_B (dC, dI) [(cB, .byte), (cC, .char), (cI, .int), (cJ, .long), (cZ, .boolean), (cP, .object "StoryHouse$Play")] sz (ww_X6_init cB cC cI cJ cZ cP h0) g_0)) (q_X6_init dC dI cB cC cI cJ cZ cP h0 (va_A (ww_X6_init cB cC cI cJ cZ cP h0) sz)) 7 1704 (va_A (ww_X6_init cB cC cI cJ cZ cP h0) sz) := by
  refine Met.ofW (cc := cX6_init) (maxL := 1) (ret := none) (by decide) rfl ?_
  intro p e s m args below meth c s₁ B hml hv
  obtain ⟨rfl, hsz, hP, hK, hD0, hE, hX⟩ := hv
  have hx := B.exec
  have hb := B.bytes
  have hr := B.returns
  have hts0 := atoms_spec (ws := (g_ws yX6_init cX6_init 1 none)) B.pre
  have hts : ∀ w ∈ lw_good, w.before ([.ref h0] : List Value).toArray s = true := fun w h => hts0 w (List.mem_cons_of_mem _ h)
  have hown : s.vm.findClass RX6 = some m.cls := findClass_of_methodNamed B.named
  have hlocks := B.notSynchronized
  have hin : meth.name = "<init>" := (name_of_methodNamed B.named B.method).1
  subst hsz
  have hD := hD0.self (sz := s.heap.size)
  generalize hAe : va_A (ww_X6_init cB cC cI cJ cZ cP h0) s.heap.size = A at hD hE hX ⊢
  have hA : ∀ q : Nat, s.heap.size ≤ q → A q := fun q h => by rw [← hAe]; exact Or.inr h
  have hN := hE.1
  have hS : va_S A s.heap s.heap [] := va_S.rf
  have hP : va_P (dC, dI) vwCl [(h0, .inr (6, [.null, .null, .null, .null, .null, .null, .null, .int 0, .int 0, .int 0, .int 0, .int 0]))] s.heap := hP
  have hl := lv_entry ([.ref h0]) (n := 1) (Nat.le_of_ble_eq_true rfl)
  rw [lg_entry_eq]
  generalize (lg_sl ([.ref h0]) ++ List.replicate (1 - (lg_sl ([.ref h0])).length) Slot.unset).toArray = ls at hl ⊢
  have hl : lv_has ls 1 [(0, .ref h0)] := hl
  refine lv_aload_n hx hb dX6_init_0 rfl (lv_at hl 0 rfl) ?_
  refine W.objInit hx hb hown (hts (.methodLink RX6 3 objectInit) wq_216) (hts (.instanceMethod objectInit) wq_34) (hts (.code objectInit ⟨#[0xb1]⟩ 1 none) wq_35) rfl (by rw [hml]; exact hl.1) rfl dX6_init_1 (Nat.le_of_ble_eq_true rfl) (Nat.le_of_ble_eq_true rfl) ?_
  refine W.eq (g2 := F0 m 4 ls []) rfl ?_
  refine lv_aload_n hx hb dX6_init_4 rfl (lv_at hl 0 rfl) ?_
  refine lv_bipush (v := 121) hx hb dX6_init_5 (by decide +kernel) ?_
  refine g_newI hx hb (hts (.arrayClass .int) wq_63) hK 2 rfl hP hD hS hA 121 (by decide +kernel) (by decide +kernel) (Nat.le_of_ble_eq_true rfl) (Nat.le_of_ble_eq_true rfl) (Nat.le_of_ble_eq_true rfl) dX6_init_7 (fun q_1 H_2 hP' hD' hS' => ?_)
  replace hP : va_P (dC, dI) vwCl [(h0, .inr (6, [.null, .null, .null, .null, .null, .null, .null, .int 0, .int 0, .int 0, .int 0, .int 0])), (q_1, .inl (cI, 121, .inl ((fun _ => 0))))] H_2 := hP'
  replace hD : va_D A [(h0, .inr (6, [.null, .null, .null, .null, .null, .null, .null, .int 0, .int 0, .int 0, .int 0, .int 0])), (q_1, .inl (cI, 121, .inl ((fun _ => 0))))] := hD'
  replace hS := hS'
  clear hP' hD' hS'
  refine W.widen (k := 1) (n := 121) (Nat.le_of_ble_eq_true rfl) (Nat.le_of_ble_eq_true rfl) ?_
  refine va_putF (D := (dC, dI)) (ci := 6) (v := .ref q_1) (ty := .array .int) (C := RX6) (T := TX6) (N := 12) hx hb hts ii_X6 tyX6 tyX6_ok nmX6 hown hK hP hD hS 0 rfl rfl 0 (by decide) (hts (.fieldLink RX6 9 "StoryHouse$Play" "parents" "[I") wq_217) (fun _ h9 => h9) rfl hin rfl (by decide +kernel) rfl rfl (Nat.le_of_ble_eq_true rfl) dX6_init_9 (fun H_3 locs hP' hD' hS' => ?_)
  replace hP : va_P (dC, dI) vwCl [(h0, .inr (6, [.ref q_1, .null, .null, .null, .null, .null, .null, .int 0, .int 0, .int 0, .int 0, .int 0])), (q_1, .inl (cI, 121, .inl ((fun _ => 0))))] H_3 := hP'
  replace hD : va_D A [(h0, .inr (6, [.ref q_1, .null, .null, .null, .null, .null, .null, .int 0, .int 0, .int 0, .int 0, .int 0])), (q_1, .inl (cI, 121, .inl ((fun _ => 0))))] := hD'
  replace hS := hS'
  clear hP' hD' hS'
  refine lv_aload_n hx hb dX6_init_12 rfl (lv_at hl 0 rfl) ?_
  refine lv_bipush (v := 121) hx hb dX6_init_13 (by decide +kernel) ?_
  refine g_newI hx hb (hts (.arrayClass .int) wq_63) hK 2 rfl hP hD hS hA 121 (by decide +kernel) (by decide +kernel) (Nat.le_of_ble_eq_true rfl) (Nat.le_of_ble_eq_true rfl) (Nat.le_of_ble_eq_true rfl) dX6_init_15 (fun q_4 H_5 hP' hD' hS' => ?_)
  replace hP : va_P (dC, dI) vwCl [(h0, .inr (6, [.ref q_1, .null, .null, .null, .null, .null, .null, .int 0, .int 0, .int 0, .int 0, .int 0])), (q_1, .inl (cI, 121, .inl ((fun _ => 0)))), (q_4, .inl (cI, 121, .inl ((fun _ => 0))))] H_5 := hP'
  replace hD : va_D A [(h0, .inr (6, [.ref q_1, .null, .null, .null, .null, .null, .null, .int 0, .int 0, .int 0, .int 0, .int 0])), (q_1, .inl (cI, 121, .inl ((fun _ => 0)))), (q_4, .inl (cI, 121, .inl ((fun _ => 0))))] := hD'
  replace hS := hS'
  clear hP' hD' hS'
  refine W.widen (k := 2) (n := 242) (Nat.le_of_ble_eq_true rfl) (Nat.le_of_ble_eq_true rfl) ?_
  refine va_putF (D := (dC, dI)) (ci := 6) (v := .ref q_4) (ty := .array .int) (C := RX6) (T := TX6) (N := 12) hx hb hts ii_X6 tyX6 tyX6_ok nmX6 hown hK hP hD hS 0 rfl rfl 1 (by decide) (hts (.fieldLink RX6 15 "StoryHouse$Play" "firsts" "[I") wq_221) (fun _ h9 => h9) rfl hin rfl (by decide +kernel) rfl rfl (Nat.le_of_ble_eq_true rfl) dX6_init_17 (fun H_6 locs hP' hD' hS' => ?_)
  replace hP : va_P (dC, dI) vwCl [(h0, .inr (6, [.ref q_1, .ref q_4, .null, .null, .null, .null, .null, .int 0, .int 0, .int 0, .int 0, .int 0])), (q_1, .inl (cI, 121, .inl ((fun _ => 0)))), (q_4, .inl (cI, 121, .inl ((fun _ => 0))))] H_6 := hP'
  replace hD : va_D A [(h0, .inr (6, [.ref q_1, .ref q_4, .null, .null, .null, .null, .null, .int 0, .int 0, .int 0, .int 0, .int 0])), (q_1, .inl (cI, 121, .inl ((fun _ => 0)))), (q_4, .inl (cI, 121, .inl ((fun _ => 0))))] := hD'
  replace hS := hS'
  clear hP' hD' hS'
  refine lv_aload_n hx hb dX6_init_20 rfl (lv_at hl 0 rfl) ?_
  refine lv_bipush (v := 121) hx hb dX6_init_21 (by decide +kernel) ?_
  refine g_newI hx hb (hts (.arrayClass .int) wq_63) hK 2 rfl hP hD hS hA 121 (by decide +kernel) (by decide +kernel) (Nat.le_of_ble_eq_true rfl) (Nat.le_of_ble_eq_true rfl) (Nat.le_of_ble_eq_true rfl) dX6_init_23 (fun q_7 H_8 hP' hD' hS' => ?_)
  replace hP : va_P (dC, dI) vwCl [(h0, .inr (6, [.ref q_1, .ref q_4, .null, .null, .null, .null, .null, .int 0, .int 0, .int 0, .int 0, .int 0])), (q_1, .inl (cI, 121, .inl ((fun _ => 0)))), (q_4, .inl (cI, 121, .inl ((fun _ => 0)))), (q_7, .inl (cI, 121, .inl ((fun _ => 0))))] H_8 := hP'
  replace hD : va_D A [(h0, .inr (6, [.ref q_1, .ref q_4, .null, .null, .null, .null, .null, .int 0, .int 0, .int 0, .int 0, .int 0])), (q_1, .inl (cI, 121, .inl ((fun _ => 0)))), (q_4, .inl (cI, 121, .inl ((fun _ => 0)))), (q_7, .inl (cI, 121, .inl ((fun _ => 0))))] := hD'
  replace hS := hS'
  clear hP' hD' hS'
  refine W.widen (k := 3) (n := 363) (Nat.le_of_ble_eq_true rfl) (Nat.le_of_ble_eq_true rfl) ?_
  refine va_putF (D := (dC, dI)) (ci := 6) (v := .ref q_7) (ty := .array .int) (C := RX6) (T := TX6) (N := 12) hx hb hts ii_X6 tyX6 tyX6_ok nmX6 hown hK hP hD hS 0 rfl rfl 2 (by decide) (hts (.fieldLink RX6 18 "StoryHouse$Play" "nexts" "[I") wq_225) (fun _ h9 => h9) rfl hin rfl (by decide +kernel) rfl rfl (Nat.le_of_ble_eq_true rfl) dX6_init_25 (fun H_9 locs hP' hD' hS' => ?_)
  replace hP : va_P (dC, dI) vwCl [(h0, .inr (6, [.ref q_1, .ref q_4, .ref q_7, .null, .null, .null, .null, .int 0, .int 0, .int 0, .int 0, .int 0])), (q_1, .inl (cI, 121, .inl ((fun _ => 0)))), (q_4, .inl (cI, 121, .inl ((fun _ => 0)))), (q_7, .inl (cI, 121, .inl ((fun _ => 0))))] H_9 := hP'
  replace hD : va_D A [(h0, .inr (6, [.ref q_1, .ref q_4, .ref q_7, .null, .null, .null, .null, .int 0, .int 0, .int 0, .int 0, .int 0])), (q_1, .inl (cI, 121, .inl ((fun _ => 0)))), (q_4, .inl (cI, 121, .inl ((fun _ => 0)))), (q_7, .inl (cI, 121, .inl ((fun _ => 0))))] := hD'
  replace hS := hS'
  clear hP' hD' hS'
  refine lv_aload_n hx hb dX6_init_28 rfl (lv_at hl 0 rfl) ?_
  refine lv_bipush (v := 121) hx hb dX6_init_29 (by decide +kernel) ?_
  refine g_newI hx hb (hts (.arrayClass .int) wq_63) hK 2 rfl hP hD hS hA 121 (by decide +kernel) (by decide +kernel) (Nat.le_of_ble_eq_true rfl) (Nat.le_of_ble_eq_true rfl) (Nat.le_of_ble_eq_true rfl) dX6_init_31 (fun q_10 H_11 hP' hD' hS' => ?_)
  replace hP : va_P (dC, dI) vwCl [(h0, .inr (6, [.ref q_1, .ref q_4, .ref q_7, .null, .null, .null, .null, .int 0, .int 0, .int 0, .int 0, .int 0])), (q_1, .inl (cI, 121, .inl ((fun _ => 0)))), (q_4, .inl (cI, 121, .inl ((fun _ => 0)))), (q_7, .inl (cI, 121, .inl ((fun _ => 0)))), (q_10, .inl (cI, 121, .inl ((fun _ => 0))))] H_11 := hP'
  replace hD : va_D A [(h0, .inr (6, [.ref q_1, .ref q_4, .ref q_7, .null, .null, .null, .null, .int 0, .int 0, .int 0, .int 0, .int 0])), (q_1, .inl (cI, 121, .inl ((fun _ => 0)))), (q_4, .inl (cI, 121, .inl ((fun _ => 0)))), (q_7, .inl (cI, 121, .inl ((fun _ => 0)))), (q_10, .inl (cI, 121, .inl ((fun _ => 0))))] := hD'
  replace hS := hS'
  clear hP' hD' hS'
  refine W.widen (k := 4) (n := 484) (Nat.le_of_ble_eq_true rfl) (Nat.le_of_ble_eq_true rfl) ?_
  refine va_putF (D := (dC, dI)) (ci := 6) (v := .ref q_10) (ty := .array .int) (C := RX6) (T := TX6) (N := 12) hx hb hts ii_X6 tyX6 tyX6_ok nmX6 hown hK hP hD hS 0 rfl rfl 3 (by decide) (hts (.fieldLink RX6 21 "StoryHouse$Play" "traits" "[I") wq_229) (fun _ h9 => h9) rfl hin rfl (by decide +kernel) rfl rfl (Nat.le_of_ble_eq_true rfl) dX6_init_33 (fun H_12 locs hP' hD' hS' => ?_)
  replace hP : va_P (dC, dI) vwCl [(h0, .inr (6, [.ref q_1, .ref q_4, .ref q_7, .ref q_10, .null, .null, .null, .int 0, .int 0, .int 0, .int 0, .int 0])), (q_1, .inl (cI, 121, .inl ((fun _ => 0)))), (q_4, .inl (cI, 121, .inl ((fun _ => 0)))), (q_7, .inl (cI, 121, .inl ((fun _ => 0)))), (q_10, .inl (cI, 121, .inl ((fun _ => 0))))] H_12 := hP'
  replace hD : va_D A [(h0, .inr (6, [.ref q_1, .ref q_4, .ref q_7, .ref q_10, .null, .null, .null, .int 0, .int 0, .int 0, .int 0, .int 0])), (q_1, .inl (cI, 121, .inl ((fun _ => 0)))), (q_4, .inl (cI, 121, .inl ((fun _ => 0)))), (q_7, .inl (cI, 121, .inl ((fun _ => 0)))), (q_10, .inl (cI, 121, .inl ((fun _ => 0))))] := hD'
  replace hS := hS'
  clear hP' hD' hS'
  refine lv_aload_n hx hb dX6_init_36 rfl (lv_at hl 0 rfl) ?_
  refine lv_bipush (v := 100) hx hb dX6_init_37 (by decide +kernel) ?_
  refine g_newI hx hb (hts (.arrayClass .int) wq_63) hK 2 rfl hP hD hS hA 100 (by decide +kernel) (by decide +kernel) (Nat.le_of_ble_eq_true rfl) (Nat.le_of_ble_eq_true rfl) (Nat.le_of_ble_eq_true rfl) dX6_init_39 (fun q_13 H_14 hP' hD' hS' => ?_)
  replace hP : va_P (dC, dI) vwCl [(h0, .inr (6, [.ref q_1, .ref q_4, .ref q_7, .ref q_10, .null, .null, .null, .int 0, .int 0, .int 0, .int 0, .int 0])), (q_1, .inl (cI, 121, .inl ((fun _ => 0)))), (q_4, .inl (cI, 121, .inl ((fun _ => 0)))), (q_7, .inl (cI, 121, .inl ((fun _ => 0)))), (q_10, .inl (cI, 121, .inl ((fun _ => 0)))), (q_13, .inl (cI, 100, .inl ((fun _ => 0))))] H_14 := hP'
  replace hD : va_D A [(h0, .inr (6, [.ref q_1, .ref q_4, .ref q_7, .ref q_10, .null, .null, .null, .int 0, .int 0, .int 0, .int 0, .int 0])), (q_1, .inl (cI, 121, .inl ((fun _ => 0)))), (q_4, .inl (cI, 121, .inl ((fun _ => 0)))), (q_7, .inl (cI, 121, .inl ((fun _ => 0)))), (q_10, .inl (cI, 121, .inl ((fun _ => 0)))), (q_13, .inl (cI, 100, .inl ((fun _ => 0))))] := hD'
  replace hS := hS'
  clear hP' hD' hS'
  refine W.widen (k := 5) (n := 584) (Nat.le_of_ble_eq_true rfl) (Nat.le_of_ble_eq_true rfl) ?_
  refine va_putF (D := (dC, dI)) (ci := 6) (v := .ref q_13) (ty := .array .int) (C := RX6) (T := TX6) (N := 12) hx hb hts ii_X6 tyX6 tyX6_ok nmX6 hown hK hP hD hS 0 rfl rfl 4 (by decide) (hts (.fieldLink RX6 24 "StoryHouse$Play" "vars" "[I") wq_230) (fun _ h9 => h9) rfl hin rfl (by decide +kernel) rfl rfl (Nat.le_of_ble_eq_true rfl) dX6_init_41 (fun H_15 locs hP' hD' hS' => ?_)
  replace hP : va_P (dC, dI) vwCl [(h0, .inr (6, [.ref q_1, .ref q_4, .ref q_7, .ref q_10, .ref q_13, .null, .null, .int 0, .int 0, .int 0, .int 0, .int 0])), (q_1, .inl (cI, 121, .inl ((fun _ => 0)))), (q_4, .inl (cI, 121, .inl ((fun _ => 0)))), (q_7, .inl (cI, 121, .inl ((fun _ => 0)))), (q_10, .inl (cI, 121, .inl ((fun _ => 0)))), (q_13, .inl (cI, 100, .inl ((fun _ => 0))))] H_15 := hP'
  replace hD : va_D A [(h0, .inr (6, [.ref q_1, .ref q_4, .ref q_7, .ref q_10, .ref q_13, .null, .null, .int 0, .int 0, .int 0, .int 0, .int 0])), (q_1, .inl (cI, 121, .inl ((fun _ => 0)))), (q_4, .inl (cI, 121, .inl ((fun _ => 0)))), (q_7, .inl (cI, 121, .inl ((fun _ => 0)))), (q_10, .inl (cI, 121, .inl ((fun _ => 0)))), (q_13, .inl (cI, 100, .inl ((fun _ => 0))))] := hD'
  replace hS := hS'
  clear hP' hD' hS'
  refine lv_aload_n hx hb dX6_init_44 rfl (lv_at hl 0 rfl) ?_
  refine lv_sipush (v := 1000) hx hb dX6_init_45 (by decide +kernel) ?_
  refine g_newI hx hb (hts (.arrayClass .int) wq_63) hK 2 rfl hP hD hS hA 1000 (by decide +kernel) (by decide +kernel) (Nat.le_of_ble_eq_true rfl) (Nat.le_of_ble_eq_true rfl) (Nat.le_of_ble_eq_true rfl) dX6_init_48 (fun q_16 H_17 hP' hD' hS' => ?_)
  replace hP : va_P (dC, dI) vwCl [(h0, .inr (6, [.ref q_1, .ref q_4, .ref q_7, .ref q_10, .ref q_13, .null, .null, .int 0, .int 0, .int 0, .int 0, .int 0])), (q_1, .inl (cI, 121, .inl ((fun _ => 0)))), (q_4, .inl (cI, 121, .inl ((fun _ => 0)))), (q_7, .inl (cI, 121, .inl ((fun _ => 0)))), (q_10, .inl (cI, 121, .inl ((fun _ => 0)))), (q_13, .inl (cI, 100, .inl ((fun _ => 0)))), (q_16, .inl (cI, 1000, .inl ((fun _ => 0))))] H_17 := hP'
  replace hD : va_D A [(h0, .inr (6, [.ref q_1, .ref q_4, .ref q_7, .ref q_10, .ref q_13, .null, .null, .int 0, .int 0, .int 0, .int 0, .int 0])), (q_1, .inl (cI, 121, .inl ((fun _ => 0)))), (q_4, .inl (cI, 121, .inl ((fun _ => 0)))), (q_7, .inl (cI, 121, .inl ((fun _ => 0)))), (q_10, .inl (cI, 121, .inl ((fun _ => 0)))), (q_13, .inl (cI, 100, .inl ((fun _ => 0)))), (q_16, .inl (cI, 1000, .inl ((fun _ => 0))))] := hD'
  replace hS := hS'
  clear hP' hD' hS'
  refine W.widen (k := 6) (n := 1584) (Nat.le_of_ble_eq_true rfl) (Nat.le_of_ble_eq_true rfl) ?_
  refine va_putF (D := (dC, dI)) (ci := 6) (v := .ref q_16) (ty := .array .int) (C := RX6) (T := TX6) (N := 12) hx hb hts ii_X6 tyX6 tyX6_ok nmX6 hown hK hP hD hS 0 rfl rfl 5 (by decide) (hts (.fieldLink RX6 27 "StoryHouse$Play" "cells" "[I") wq_233) (fun _ h9 => h9) rfl hin rfl (by decide +kernel) rfl rfl (Nat.le_of_ble_eq_true rfl) dX6_init_50 (fun H_18 locs hP' hD' hS' => ?_)
  replace hP : va_P (dC, dI) vwCl [(h0, .inr (6, [.ref q_1, .ref q_4, .ref q_7, .ref q_10, .ref q_13, .ref q_16, .null, .int 0, .int 0, .int 0, .int 0, .int 0])), (q_1, .inl (cI, 121, .inl ((fun _ => 0)))), (q_4, .inl (cI, 121, .inl ((fun _ => 0)))), (q_7, .inl (cI, 121, .inl ((fun _ => 0)))), (q_10, .inl (cI, 121, .inl ((fun _ => 0)))), (q_13, .inl (cI, 100, .inl ((fun _ => 0)))), (q_16, .inl (cI, 1000, .inl ((fun _ => 0))))] H_18 := hP'
  replace hD : va_D A [(h0, .inr (6, [.ref q_1, .ref q_4, .ref q_7, .ref q_10, .ref q_13, .ref q_16, .null, .int 0, .int 0, .int 0, .int 0, .int 0])), (q_1, .inl (cI, 121, .inl ((fun _ => 0)))), (q_4, .inl (cI, 121, .inl ((fun _ => 0)))), (q_7, .inl (cI, 121, .inl ((fun _ => 0)))), (q_10, .inl (cI, 121, .inl ((fun _ => 0)))), (q_13, .inl (cI, 100, .inl ((fun _ => 0)))), (q_16, .inl (cI, 1000, .inl ((fun _ => 0))))] := hD'
  replace hS := hS'
  clear hP' hD' hS'
  refine lv_aload_n hx hb dX6_init_53 rfl (lv_at hl 0 rfl) ?_
  refine lv_bipush (v := 120) hx hb dX6_init_54 (by decide +kernel) ?_
  refine g_newB hx hb (hts (.arrayClass .byte) wq_62) hK 0 rfl hP hD hS hA 120 (by decide +kernel) (by decide +kernel) (Nat.le_of_ble_eq_true rfl) (Nat.le_of_ble_eq_true rfl) (Nat.le_of_ble_eq_true rfl) dX6_init_56 (fun q_19 H_20 hP' hD' hS' => ?_)
  replace hP : va_P (dC, dI) vwCl [(h0, .inr (6, [.ref q_1, .ref q_4, .ref q_7, .ref q_10, .ref q_13, .ref q_16, .null, .int 0, .int 0, .int 0, .int 0, .int 0])), (q_1, .inl (cI, 121, .inl ((fun _ => 0)))), (q_4, .inl (cI, 121, .inl ((fun _ => 0)))), (q_7, .inl (cI, 121, .inl ((fun _ => 0)))), (q_10, .inl (cI, 121, .inl ((fun _ => 0)))), (q_13, .inl (cI, 100, .inl ((fun _ => 0)))), (q_16, .inl (cI, 1000, .inl ((fun _ => 0)))), (q_19, .inl (cB, 120, .inl ((fun _ => 0))))] H_20 := hP'
  replace hD : va_D A [(h0, .inr (6, [.ref q_1, .ref q_4, .ref q_7, .ref q_10, .ref q_13, .ref q_16, .null, .int 0, .int 0, .int 0, .int 0, .int 0])), (q_1, .inl (cI, 121, .inl ((fun _ => 0)))), (q_4, .inl (cI, 121, .inl ((fun _ => 0)))), (q_7, .inl (cI, 121, .inl ((fun _ => 0)))), (q_10, .inl (cI, 121, .inl ((fun _ => 0)))), (q_13, .inl (cI, 100, .inl ((fun _ => 0)))), (q_16, .inl (cI, 1000, .inl ((fun _ => 0)))), (q_19, .inl (cB, 120, .inl ((fun _ => 0))))] := hD'
  replace hS := hS'
  clear hP' hD' hS'
  refine W.widen (k := 7) (n := 1704) (Nat.le_of_ble_eq_true rfl) (Nat.le_of_ble_eq_true rfl) ?_
  refine va_putF (D := (dC, dI)) (ci := 6) (v := .ref q_19) (ty := .array .byte) (C := RX6) (T := TX6) (N := 12) hx hb hts ii_X6 tyX6 tyX6_ok nmX6 hown hK hP hD hS 0 rfl rfl 6 (by decide) (hts (.fieldLink RX6 30 "StoryHouse$Play" "line" "[B") wq_236) (fun _ h9 => h9) rfl hin rfl (by decide +kernel) rfl rfl (Nat.le_of_ble_eq_true rfl) dX6_init_58 (fun H_21 locs hP' hD' hS' => ?_)
  replace hP : va_P (dC, dI) vwCl [(h0, .inr (6, [.ref q_1, .ref q_4, .ref q_7, .ref q_10, .ref q_13, .ref q_16, .ref q_19, .int 0, .int 0, .int 0, .int 0, .int 0])), (q_1, .inl (cI, 121, .inl ((fun _ => 0)))), (q_4, .inl (cI, 121, .inl ((fun _ => 0)))), (q_7, .inl (cI, 121, .inl ((fun _ => 0)))), (q_10, .inl (cI, 121, .inl ((fun _ => 0)))), (q_13, .inl (cI, 100, .inl ((fun _ => 0)))), (q_16, .inl (cI, 1000, .inl ((fun _ => 0)))), (q_19, .inl (cB, 120, .inl ((fun _ => 0))))] H_21 := hP'
  replace hD : va_D A [(h0, .inr (6, [.ref q_1, .ref q_4, .ref q_7, .ref q_10, .ref q_13, .ref q_16, .ref q_19, .int 0, .int 0, .int 0, .int 0, .int 0])), (q_1, .inl (cI, 121, .inl ((fun _ => 0)))), (q_4, .inl (cI, 121, .inl ((fun _ => 0)))), (q_7, .inl (cI, 121, .inl ((fun _ => 0)))), (q_10, .inl (cI, 121, .inl ((fun _ => 0)))), (q_13, .inl (cI, 100, .inl ((fun _ => 0)))), (q_16, .inl (cI, 1000, .inl ((fun _ => 0)))), (q_19, .inl (cB, 120, .inl ((fun _ => 0))))] := hD'
  replace hS := hS'
  clear hP' hD' hS'
  have hP9 := hP.sub (ws' := [(h0, .inr (6, [.ref q_1, .ref q_4, .ref q_7, .ref q_10, .ref q_13, .ref q_16, .ref q_19, .int 0, .int 0, .int 0, .int 0, .int 0])), (q_1, .inl (cI, 121, .inl ((fun _ => 0)))), (q_4, .inl (cI, 121, .inl ((fun _ => 0)))), (q_7, .inl (cI, 121, .inl ((fun _ => 0)))), (q_10, .inl (cI, 121, .inl ((fun _ => 0)))), (q_13, .inl (cI, 100, .inl ((fun _ => 0)))), (q_16, .inl (cI, 1000, .inl ((fun _ => 0)))), (q_19, .inl (cB, 120, .inl ((fun _ => 0))))]) [0, 1, 2, 3, 4, 5, 6, 7] rfl
  have hD9 := hD.sub (ws' := [(h0, .inr (6, [.ref q_1, .ref q_4, .ref q_7, .ref q_10, .ref q_13, .ref q_16, .ref q_19, .int 0, .int 0, .int 0, .int 0, .int 0])), (q_1, .inl (cI, 121, .inl ((fun _ => 0)))), (q_4, .inl (cI, 121, .inl ((fun _ => 0)))), (q_7, .inl (cI, 121, .inl ((fun _ => 0)))), (q_10, .inl (cI, 121, .inl ((fun _ => 0)))), (q_13, .inl (cI, 100, .inl ((fun _ => 0)))), (q_16, .inl (cI, 1000, .inl ((fun _ => 0)))), (q_19, .inl (cB, 120, .inl ((fun _ => 0))))]) [0, 1, 2, 3, 4, 5, 6, 7] (by decide +kernel) rfl
  refine W.widen (k := 7) (n := 1704) (Nat.le_of_ble_eq_true rfl) (Nat.le_of_ble_eq_true rfl) ?_
  exact W.vret hx hb hr (fun t ht hW => ⟨⟨(q_1, q_4, q_7, q_10, q_13, q_16, q_19), rfl, (by first | trivial | rfl | assumption), by rw [ht]; exact hP9, hD9⟩, hS.F ht⟩) hS.2.2 dX6_init_61
abbrev ww_X2_init (cB cC cI cJ cZ cP : ClassId) (h0 : Nat) (a1 : Nat) : va_W := [(h0, .inr (2, [.null, .null, .int 0, .int 0, .int 0, .int 0, .int 0, .int 0]))]
abbrev q_X2_init (dC : Nat → ClassId) (dI : Nat → Nat → Nat) (cB cC cI cJ cZ cP : ClassId) (h0 : Nat) (a1 : Nat) (A : Nat → Prop) : Array Value → State → Outcome → State → Prop := va_Qv (fun (_ : Unit) => True) (g_Bo (dC, dI) A (fun (_ : Unit) => [(h0, .inr (2, [.ref a1, .null, .int 0, .int 0, .int 0, .int 0, .int 0, .int 0]))])) A
set_option maxHeartbeats 4000000 in
set_option maxRecDepth 100000 in
theorem c_X2_init (l : Launch) (dC : Nat → ClassId) (dI : Nat → Nat → Nat) (cB cC cI cJ cZ cP : ClassId) (sz : Nat) (h0 : Nat) (a1 : Nat)  : Met l yX2_init (g_ws yX2_init cX2_init 2 none) ({ frames := 1, cells := 0, slots := 0, locals := 40 }) (va_Pc [.ref h0, .ref a1] (g_B (dC, dI) [(cB, .byte), (cC, .char), (cI, .int), (cJ, .long), (cZ, .boolean), (cP, .object "StoryHouse$Play")] sz (ww_X2_init cB cC cI cJ cZ cP h0 a1) g_0)) (q_X2_init dC dI cB cC cI cJ cZ cP h0 a1 (va_A (ww_X2_init cB cC cI cJ cZ cP h0 a1) sz)) 0 0 (va_A (ww_X2_init cB cC cI cJ cZ cP h0 a1) sz) := by
  refine Met.ofW (cc := cX2_init) (maxL := 2) (ret := none) (by decide) rfl ?_
  intro p e s m args below meth c s₁ B hml hv
  obtain ⟨rfl, hsz, hP, hK, hD0, hE, hX⟩ := hv
  have hx := B.exec
  have hb := B.bytes
  have hr := B.returns
  have hts0 := atoms_spec (ws := (g_ws yX2_init cX2_init 2 none)) B.pre
  have hts : ∀ w ∈ lw_good, w.before ([.ref h0, .ref a1] : List Value).toArray s = true := fun w h => hts0 w (List.mem_cons_of_mem _ h)
  have hown : s.vm.findClass RX2 = some m.cls := findClass_of_methodNamed B.named
  have hlocks := B.notSynchronized
  have hin : meth.name = "<init>" := (name_of_methodNamed B.named B.method).1
  subst hsz
  have hD := hD0.self (sz := s.heap.size)
  generalize hAe : va_A (ww_X2_init cB cC cI cJ cZ cP h0 a1) s.heap.size = A at hD hE hX ⊢
  have hA : ∀ q : Nat, s.heap.size ≤ q → A q := fun q h => by rw [← hAe]; exact Or.inr h
  have hN := hE.1
  have hS : va_S A s.heap s.heap [] := va_S.rf
  have hP : va_P (dC, dI) vwCl [(h0, .inr (2, [.null, .null, .int 0, .int 0, .int 0, .int 0, .int 0, .int 0]))] s.heap := hP
  have hl := lv_entry ([.ref h0, .ref a1]) (n := 2) (Nat.le_of_ble_eq_true rfl)
  rw [lg_entry_eq]
  generalize (lg_sl ([.ref h0, .ref a1]) ++ List.replicate (2 - (lg_sl ([.ref h0, .ref a1])).length) Slot.unset).toArray = ls at hl ⊢
  have hl : lv_has ls 2 [(0, .ref h0), (1, .ref a1)] := hl
  refine lv_aload_n hx hb dX2_init_0 rfl (lv_at hl 0 rfl) ?_
  refine W.objInit hx hb hown (hts (.methodLink RX2 3 objectInit) wq_70) (hts (.instanceMethod objectInit) wq_34) (hts (.code objectInit ⟨#[0xb1]⟩ 1 none) wq_35) rfl (by rw [hml]; exact hl.1) rfl dX2_init_1 (Nat.le_of_ble_eq_true rfl) (Nat.le_of_ble_eq_true rfl) ?_
  refine W.eq (g2 := F0 m 4 ls []) rfl ?_
  refine lv_aload_n hx hb dX2_init_4 rfl (lv_at hl 0 rfl) ?_
  refine lv_aload_n hx hb dX2_init_5 rfl (lv_at hl 1 rfl) ?_
  refine va_putF (D := (dC, dI)) (ci := 2) (v := .ref a1) (ty := .object "StoryHouse$Words") (C := RX2) (T := TX2) (N := 8) hx hb hts ii_X2 tyX2 tyX2_ok nmX2 hown hK hP hD hS 0 rfl rfl 0 (by decide) (hts (.fieldLink RX2 9 "StoryHouse$Grammar" "words" "LStoryHouse$Words;") wq_71) (fun _ h9 => h9) rfl hin rfl (by decide +kernel) rfl rfl (Nat.le_of_ble_eq_true rfl) dX2_init_6 (fun H_1 locs hP' hD' hS' => ?_)
  replace hP : va_P (dC, dI) vwCl [(h0, .inr (2, [.ref a1, .null, .int 0, .int 0, .int 0, .int 0, .int 0, .int 0]))] H_1 := hP'
  replace hD : va_D A [(h0, .inr (2, [.ref a1, .null, .int 0, .int 0, .int 0, .int 0, .int 0, .int 0]))] := hD'
  replace hS := hS'
  clear hP' hD' hS'
  have hP9 := hP.sub (ws' := [(h0, .inr (2, [.ref a1, .null, .int 0, .int 0, .int 0, .int 0, .int 0, .int 0]))]) [0] rfl
  have hD9 := hD.sub (ws' := [(h0, .inr (2, [.ref a1, .null, .int 0, .int 0, .int 0, .int 0, .int 0, .int 0]))]) [0] (by decide +kernel) rfl
  refine W.widen (k := 0) (n := 0) (Nat.le_of_ble_eq_true rfl) (Nat.le_of_ble_eq_true rfl) ?_
  exact W.vret hx hb hr (fun t ht hW => ⟨⟨(), rfl, (by first | trivial | rfl | assumption), by rw [ht]; exact hP9, hD9⟩, hS.F ht⟩) hS.2.2 dX2_init_9
abbrev ww_X3_init (cB cC cI cJ cZ cP : ClassId) (h0 : Nat) (a1 : Nat) (a2 : Nat) : va_W := [(h0, .inr (3, [.null, .null, .null, .int 0, .int 0, .int 0, .null, .int 0, .int 0, .int 0, .null, .null, .int 0, .int 0, .int 0, .null]))]
abbrev q_X3_init (dC : Nat → ClassId) (dI : Nat → Nat → Nat) (cB cC cI cJ cZ cP : ClassId) (h0 : Nat) (a1 : Nat) (a2 : Nat) (A : Nat → Prop) : Array Value → State → Outcome → State → Prop := va_Qv (fun (u : Nat × Nat × Nat × Nat) => match u with | (q_1, q_4, q_7, q_11) => True) (g_Bo (dC, dI) A (fun (u : Nat × Nat × Nat × Nat) => match u with | (q_1, q_4, q_7, q_11) => [(h0, .inr (3, [.ref a1, .ref a2, .null, .int 0, .int 0, .int 0, .ref q_1, .int 0, .int 0, .int 0, .ref q_4, .ref q_7, .int 0, .int 0, .int 1, .ref q_11])), (q_1, .inl (cI, 9000, .inl ((fun _ => 0)))), (q_4, .inl (cI, 30, .inl ((fun _ => 0)))), (q_7, .inl (cI, 30, .inl ((fun _ => 0)))), (q_11, .inl (cB, 200, .inl ((fun _ => 0))))])) A
set_option maxHeartbeats 4000000 in
set_option maxRecDepth 100000 in
theorem c_X3_init (l : Launch) (dC : Nat → ClassId) (dI : Nat → Nat → Nat) (cB cC cI cJ cZ cP : ClassId) (sz : Nat) (h0 : Nat) (a1 : Nat) (a2 : Nat)  : Met l yX3_init (g_ws yX3_init cX3_init 3 none) ({ frames := 1, cells := 4, slots := 9260, locals := 40 }) (va_Pc [.ref h0, .ref a1, .ref a2] (g_B (dC, dI) [(cB, .byte), (cC, .char), (cI, .int), (cJ, .long), (cZ, .boolean), (cP, .object "StoryHouse$Play")] sz (ww_X3_init cB cC cI cJ cZ cP h0 a1 a2) g_0)) (q_X3_init dC dI cB cC cI cJ cZ cP h0 a1 a2 (va_A (ww_X3_init cB cC cI cJ cZ cP h0 a1 a2) sz)) 4 9260 (va_A (ww_X3_init cB cC cI cJ cZ cP h0 a1 a2) sz) := by
  refine Met.ofW (cc := cX3_init) (maxL := 3) (ret := none) (by decide) rfl ?_
  intro p e s m args below meth c s₁ B hml hv
  obtain ⟨rfl, hsz, hP, hK, hD0, hE, hX⟩ := hv
  have hx := B.exec
  have hb := B.bytes
  have hr := B.returns
  have hts0 := atoms_spec (ws := (g_ws yX3_init cX3_init 3 none)) B.pre
  have hts : ∀ w ∈ lw_good, w.before ([.ref h0, .ref a1, .ref a2] : List Value).toArray s = true := fun w h => hts0 w (List.mem_cons_of_mem _ h)
  have hown : s.vm.findClass RX3 = some m.cls := findClass_of_methodNamed B.named
  have hlocks := B.notSynchronized
  have hin : meth.name = "<init>" := (name_of_methodNamed B.named B.method).1
  subst hsz
  have hD := hD0.self (sz := s.heap.size)
  generalize hAe : va_A (ww_X3_init cB cC cI cJ cZ cP h0 a1 a2) s.heap.size = A at hD hE hX ⊢
  have hA : ∀ q : Nat, s.heap.size ≤ q → A q := fun q h => by rw [← hAe]; exact Or.inr h
  have hN := hE.1
  have hS : va_S A s.heap s.heap [] := va_S.rf
  have hP : va_P (dC, dI) vwCl [(h0, .inr (3, [.null, .null, .null, .int 0, .int 0, .int 0, .null, .int 0, .int 0, .int 0, .null, .null, .int 0, .int 0, .int 0, .null]))] s.heap := hP
  have hl := lv_entry ([.ref h0, .ref a1, .ref a2]) (n := 3) (Nat.le_of_ble_eq_true rfl)
  rw [lg_entry_eq]
  generalize (lg_sl ([.ref h0, .ref a1, .ref a2]) ++ List.replicate (3 - (lg_sl ([.ref h0, .ref a1, .ref a2])).length) Slot.unset).toArray = ls at hl ⊢
  have hl : lv_has ls 3 [(0, .ref h0), (1, .ref a1), (2, .ref a2)] := hl
  refine lv_aload_n hx hb dX3_init_0 rfl (lv_at hl 0 rfl) ?_
  refine W.objInit hx hb hown (hts (.methodLink RX3 3 objectInit) wq_258) (hts (.instanceMethod objectInit) wq_34) (hts (.code objectInit ⟨#[0xb1]⟩ 1 none) wq_35) rfl (by rw [hml]; exact hl.1) rfl dX3_init_1 (Nat.le_of_ble_eq_true rfl) (Nat.le_of_ble_eq_true rfl) ?_
  refine W.eq (g2 := F0 m 4 ls []) rfl ?_
  refine lv_aload_n hx hb dX3_init_4 rfl (lv_at hl 0 rfl) ?_
  refine lv_sipush (v := 9000) hx hb dX3_init_5 (by decide +kernel) ?_
  refine g_newI hx hb (hts (.arrayClass .int) wq_63) hK 2 rfl hP hD hS hA 9000 (by decide +kernel) (by decide +kernel) (Nat.le_of_ble_eq_true rfl) (Nat.le_of_ble_eq_true rfl) (Nat.le_of_ble_eq_true rfl) dX3_init_8 (fun q_1 H_2 hP' hD' hS' => ?_)
  replace hP : va_P (dC, dI) vwCl [(h0, .inr (3, [.null, .null, .null, .int 0, .int 0, .int 0, .null, .int 0, .int 0, .int 0, .null, .null, .int 0, .int 0, .int 0, .null])), (q_1, .inl (cI, 9000, .inl ((fun _ => 0))))] H_2 := hP'
  replace hD : va_D A [(h0, .inr (3, [.null, .null, .null, .int 0, .int 0, .int 0, .null, .int 0, .int 0, .int 0, .null, .null, .int 0, .int 0, .int 0, .null])), (q_1, .inl (cI, 9000, .inl ((fun _ => 0))))] := hD'
  replace hS := hS'
  clear hP' hD' hS'
  refine W.widen (k := 1) (n := 9000) (Nat.le_of_ble_eq_true rfl) (Nat.le_of_ble_eq_true rfl) ?_
  refine va_putF (D := (dC, dI)) (ci := 3) (v := .ref q_1) (ty := .array .int) (C := RX3) (T := TX3) (N := 16) hx hb hts ii_X3 tyX3 tyX3_ok nmX3 hown hK hP hD hS 0 rfl rfl 6 (by decide) (hts (.fieldLink RX3 11 "StoryHouse$Machine" "stack" "[I") wq_270) (fun _ h9 => h9) rfl hin rfl (by decide +kernel) rfl rfl (Nat.le_of_ble_eq_true rfl) dX3_init_10 (fun H_3 locs hP' hD' hS' => ?_)
  replace hP : va_P (dC, dI) vwCl [(h0, .inr (3, [.null, .null, .null, .int 0, .int 0, .int 0, .ref q_1, .int 0, .int 0, .int 0, .null, .null, .int 0, .int 0, .int 0, .null])), (q_1, .inl (cI, 9000, .inl ((fun _ => 0))))] H_3 := hP'
  replace hD : va_D A [(h0, .inr (3, [.null, .null, .null, .int 0, .int 0, .int 0, .ref q_1, .int 0, .int 0, .int 0, .null, .null, .int 0, .int 0, .int 0, .null])), (q_1, .inl (cI, 9000, .inl ((fun _ => 0))))] := hD'
  replace hS := hS'
  clear hP' hD' hS'
  refine lv_aload_n hx hb dX3_init_13 rfl (lv_at hl 0 rfl) ?_
  refine lv_bipush (v := 30) hx hb dX3_init_14 (by decide +kernel) ?_
  refine g_newI hx hb (hts (.arrayClass .int) wq_63) hK 2 rfl hP hD hS hA 30 (by decide +kernel) (by decide +kernel) (Nat.le_of_ble_eq_true rfl) (Nat.le_of_ble_eq_true rfl) (Nat.le_of_ble_eq_true rfl) dX3_init_16 (fun q_4 H_5 hP' hD' hS' => ?_)
  replace hP : va_P (dC, dI) vwCl [(h0, .inr (3, [.null, .null, .null, .int 0, .int 0, .int 0, .ref q_1, .int 0, .int 0, .int 0, .null, .null, .int 0, .int 0, .int 0, .null])), (q_1, .inl (cI, 9000, .inl ((fun _ => 0)))), (q_4, .inl (cI, 30, .inl ((fun _ => 0))))] H_5 := hP'
  replace hD : va_D A [(h0, .inr (3, [.null, .null, .null, .int 0, .int 0, .int 0, .ref q_1, .int 0, .int 0, .int 0, .null, .null, .int 0, .int 0, .int 0, .null])), (q_1, .inl (cI, 9000, .inl ((fun _ => 0)))), (q_4, .inl (cI, 30, .inl ((fun _ => 0))))] := hD'
  replace hS := hS'
  clear hP' hD' hS'
  refine W.widen (k := 2) (n := 9030) (Nat.le_of_ble_eq_true rfl) (Nat.le_of_ble_eq_true rfl) ?_
  refine va_putF (D := (dC, dI)) (ci := 3) (v := .ref q_4) (ty := .array .int) (C := RX3) (T := TX3) (N := 16) hx hb hts ii_X3 tyX3 tyX3_ok nmX3 hown hK hP hD hS 0 rfl rfl 10 (by decide) (hts (.fieldLink RX3 15 "StoryHouse$Machine" "returns" "[I") wq_274) (fun _ h9 => h9) rfl hin rfl (by decide +kernel) rfl rfl (Nat.le_of_ble_eq_true rfl) dX3_init_18 (fun H_6 locs hP' hD' hS' => ?_)
  replace hP : va_P (dC, dI) vwCl [(h0, .inr (3, [.null, .null, .null, .int 0, .int 0, .int 0, .ref q_1, .int 0, .int 0, .int 0, .ref q_4, .null, .int 0, .int 0, .int 0, .null])), (q_1, .inl (cI, 9000, .inl ((fun _ => 0)))), (q_4, .inl (cI, 30, .inl ((fun _ => 0))))] H_6 := hP'
  replace hD : va_D A [(h0, .inr (3, [.null, .null, .null, .int 0, .int 0, .int 0, .ref q_1, .int 0, .int 0, .int 0, .ref q_4, .null, .int 0, .int 0, .int 0, .null])), (q_1, .inl (cI, 9000, .inl ((fun _ => 0)))), (q_4, .inl (cI, 30, .inl ((fun _ => 0))))] := hD'
  replace hS := hS'
  clear hP' hD' hS'
  refine lv_aload_n hx hb dX3_init_21 rfl (lv_at hl 0 rfl) ?_
  refine lv_bipush (v := 30) hx hb dX3_init_22 (by decide +kernel) ?_
  refine g_newI hx hb (hts (.arrayClass .int) wq_63) hK 2 rfl hP hD hS hA 30 (by decide +kernel) (by decide +kernel) (Nat.le_of_ble_eq_true rfl) (Nat.le_of_ble_eq_true rfl) (Nat.le_of_ble_eq_true rfl) dX3_init_24 (fun q_7 H_8 hP' hD' hS' => ?_)
  replace hP : va_P (dC, dI) vwCl [(h0, .inr (3, [.null, .null, .null, .int 0, .int 0, .int 0, .ref q_1, .int 0, .int 0, .int 0, .ref q_4, .null, .int 0, .int 0, .int 0, .null])), (q_1, .inl (cI, 9000, .inl ((fun _ => 0)))), (q_4, .inl (cI, 30, .inl ((fun _ => 0)))), (q_7, .inl (cI, 30, .inl ((fun _ => 0))))] H_8 := hP'
  replace hD : va_D A [(h0, .inr (3, [.null, .null, .null, .int 0, .int 0, .int 0, .ref q_1, .int 0, .int 0, .int 0, .ref q_4, .null, .int 0, .int 0, .int 0, .null])), (q_1, .inl (cI, 9000, .inl ((fun _ => 0)))), (q_4, .inl (cI, 30, .inl ((fun _ => 0)))), (q_7, .inl (cI, 30, .inl ((fun _ => 0))))] := hD'
  replace hS := hS'
  clear hP' hD' hS'
  refine W.widen (k := 3) (n := 9060) (Nat.le_of_ble_eq_true rfl) (Nat.le_of_ble_eq_true rfl) ?_
  refine va_putF (D := (dC, dI)) (ci := 3) (v := .ref q_7) (ty := .array .int) (C := RX3) (T := TX3) (N := 16) hx hb hts ii_X3 tyX3 tyX3_ok nmX3 hown hK hP hD hS 0 rfl rfl 11 (by decide) (hts (.fieldLink RX3 18 "StoryHouse$Machine" "bases" "[I") wq_275) (fun _ h9 => h9) rfl hin rfl (by decide +kernel) rfl rfl (Nat.le_of_ble_eq_true rfl) dX3_init_26 (fun H_9 locs hP' hD' hS' => ?_)
  replace hP : va_P (dC, dI) vwCl [(h0, .inr (3, [.null, .null, .null, .int 0, .int 0, .int 0, .ref q_1, .int 0, .int 0, .int 0, .ref q_4, .ref q_7, .int 0, .int 0, .int 0, .null])), (q_1, .inl (cI, 9000, .inl ((fun _ => 0)))), (q_4, .inl (cI, 30, .inl ((fun _ => 0)))), (q_7, .inl (cI, 30, .inl ((fun _ => 0))))] H_9 := hP'
  replace hD : va_D A [(h0, .inr (3, [.null, .null, .null, .int 0, .int 0, .int 0, .ref q_1, .int 0, .int 0, .int 0, .ref q_4, .ref q_7, .int 0, .int 0, .int 0, .null])), (q_1, .inl (cI, 9000, .inl ((fun _ => 0)))), (q_4, .inl (cI, 30, .inl ((fun _ => 0)))), (q_7, .inl (cI, 30, .inl ((fun _ => 0))))] := hD'
  replace hS := hS'
  clear hP' hD' hS'
  refine lv_aload_n hx hb dX3_init_29 rfl (lv_at hl 0 rfl) ?_
  refine lv_iconst (v := 1) hx hb dX3_init_30 (by decide +kernel) ?_
  refine va_put (D := (dC, dI)) (ci := 3) (v := .int 1) (ty := .int) (C := RX3) (T := TX3) (N := 16) hx hb hts ii_X3 tyX3 tyX3_ok nmX3 hown hK hP hD hS 0 rfl rfl 14 (by decide) (hts (.fieldLink RX3 21 "StoryHouse$Machine" "how" "I") wq_278) (fun _ h9 => h9) rfl (by decide +kernel) rfl rfl (Nat.le_of_ble_eq_true rfl) dX3_init_31 (fun H_10 locs hP' hD' hS' => ?_)
  replace hP : va_P (dC, dI) vwCl [(h0, .inr (3, [.null, .null, .null, .int 0, .int 0, .int 0, .ref q_1, .int 0, .int 0, .int 0, .ref q_4, .ref q_7, .int 0, .int 0, .int 1, .null])), (q_1, .inl (cI, 9000, .inl ((fun _ => 0)))), (q_4, .inl (cI, 30, .inl ((fun _ => 0)))), (q_7, .inl (cI, 30, .inl ((fun _ => 0))))] H_10 := hP'
  replace hD : va_D A [(h0, .inr (3, [.null, .null, .null, .int 0, .int 0, .int 0, .ref q_1, .int 0, .int 0, .int 0, .ref q_4, .ref q_7, .int 0, .int 0, .int 1, .null])), (q_1, .inl (cI, 9000, .inl ((fun _ => 0)))), (q_4, .inl (cI, 30, .inl ((fun _ => 0)))), (q_7, .inl (cI, 30, .inl ((fun _ => 0))))] := hD'
  replace hS := hS'
  clear hP' hD' hS'
  refine lv_aload_n hx hb dX3_init_34 rfl (lv_at hl 0 rfl) ?_
  refine lv_sipush (v := 200) hx hb dX3_init_35 (by decide +kernel) ?_
  refine g_newB hx hb (hts (.arrayClass .byte) wq_62) hK 0 rfl hP hD hS hA 200 (by decide +kernel) (by decide +kernel) (Nat.le_of_ble_eq_true rfl) (Nat.le_of_ble_eq_true rfl) (Nat.le_of_ble_eq_true rfl) dX3_init_38 (fun q_11 H_12 hP' hD' hS' => ?_)
  replace hP : va_P (dC, dI) vwCl [(h0, .inr (3, [.null, .null, .null, .int 0, .int 0, .int 0, .ref q_1, .int 0, .int 0, .int 0, .ref q_4, .ref q_7, .int 0, .int 0, .int 1, .null])), (q_1, .inl (cI, 9000, .inl ((fun _ => 0)))), (q_4, .inl (cI, 30, .inl ((fun _ => 0)))), (q_7, .inl (cI, 30, .inl ((fun _ => 0)))), (q_11, .inl (cB, 200, .inl ((fun _ => 0))))] H_12 := hP'
  replace hD : va_D A [(h0, .inr (3, [.null, .null, .null, .int 0, .int 0, .int 0, .ref q_1, .int 0, .int 0, .int 0, .ref q_4, .ref q_7, .int 0, .int 0, .int 1, .null])), (q_1, .inl (cI, 9000, .inl ((fun _ => 0)))), (q_4, .inl (cI, 30, .inl ((fun _ => 0)))), (q_7, .inl (cI, 30, .inl ((fun _ => 0)))), (q_11, .inl (cB, 200, .inl ((fun _ => 0))))] := hD'
  replace hS := hS'
  clear hP' hD' hS'
  refine W.widen (k := 4) (n := 9260) (Nat.le_of_ble_eq_true rfl) (Nat.le_of_ble_eq_true rfl) ?_
  refine va_putF (D := (dC, dI)) (ci := 3) (v := .ref q_11) (ty := .array .byte) (C := RX3) (T := TX3) (N := 16) hx hb hts ii_X3 tyX3 tyX3_ok nmX3 hown hK hP hD hS 0 rfl rfl 15 (by decide) (hts (.fieldLink RX3 25 "StoryHouse$Machine" "row" "[B") wq_279) (fun _ h9 => h9) rfl hin rfl (by decide +kernel) rfl rfl (Nat.le_of_ble_eq_true rfl) dX3_init_40 (fun H_13 locs hP' hD' hS' => ?_)
  replace hP : va_P (dC, dI) vwCl [(h0, .inr (3, [.null, .null, .null, .int 0, .int 0, .int 0, .ref q_1, .int 0, .int 0, .int 0, .ref q_4, .ref q_7, .int 0, .int 0, .int 1, .ref q_11])), (q_1, .inl (cI, 9000, .inl ((fun _ => 0)))), (q_4, .inl (cI, 30, .inl ((fun _ => 0)))), (q_7, .inl (cI, 30, .inl ((fun _ => 0)))), (q_11, .inl (cB, 200, .inl ((fun _ => 0))))] H_13 := hP'
  replace hD : va_D A [(h0, .inr (3, [.null, .null, .null, .int 0, .int 0, .int 0, .ref q_1, .int 0, .int 0, .int 0, .ref q_4, .ref q_7, .int 0, .int 0, .int 1, .ref q_11])), (q_1, .inl (cI, 9000, .inl ((fun _ => 0)))), (q_4, .inl (cI, 30, .inl ((fun _ => 0)))), (q_7, .inl (cI, 30, .inl ((fun _ => 0)))), (q_11, .inl (cB, 200, .inl ((fun _ => 0))))] := hD'
  replace hS := hS'
  clear hP' hD' hS'
  refine lv_aload_n hx hb dX3_init_43 rfl (lv_at hl 0 rfl) ?_
  refine lv_aload_n hx hb dX3_init_44 rfl (lv_at hl 1 rfl) ?_
  refine va_putF (D := (dC, dI)) (ci := 3) (v := .ref a1) (ty := .object "StoryHouse$Play") (C := RX3) (T := TX3) (N := 16) hx hb hts ii_X3 tyX3 tyX3_ok nmX3 hown hK hP hD hS 0 rfl rfl 0 (by decide) (hts (.fieldLink RX3 29 "StoryHouse$Machine" "play" "LStoryHouse$Play;") wq_259) (fun _ h9 => h9) rfl hin rfl (by decide +kernel) rfl rfl (Nat.le_of_ble_eq_true rfl) dX3_init_45 (fun H_14 locs hP' hD' hS' => ?_)
  replace hP : va_P (dC, dI) vwCl [(h0, .inr (3, [.ref a1, .null, .null, .int 0, .int 0, .int 0, .ref q_1, .int 0, .int 0, .int 0, .ref q_4, .ref q_7, .int 0, .int 0, .int 1, .ref q_11])), (q_1, .inl (cI, 9000, .inl ((fun _ => 0)))), (q_4, .inl (cI, 30, .inl ((fun _ => 0)))), (q_7, .inl (cI, 30, .inl ((fun _ => 0)))), (q_11, .inl (cB, 200, .inl ((fun _ => 0))))] H_14 := hP'
  replace hD : va_D A [(h0, .inr (3, [.ref a1, .null, .null, .int 0, .int 0, .int 0, .ref q_1, .int 0, .int 0, .int 0, .ref q_4, .ref q_7, .int 0, .int 0, .int 1, .ref q_11])), (q_1, .inl (cI, 9000, .inl ((fun _ => 0)))), (q_4, .inl (cI, 30, .inl ((fun _ => 0)))), (q_7, .inl (cI, 30, .inl ((fun _ => 0)))), (q_11, .inl (cB, 200, .inl ((fun _ => 0))))] := hD'
  replace hS := hS'
  clear hP' hD' hS'
  refine lv_aload_n hx hb dX3_init_48 rfl (lv_at hl 0 rfl) ?_
  refine lv_aload_n hx hb dX3_init_49 rfl (lv_at hl 2 rfl) ?_
  refine va_putF (D := (dC, dI)) (ci := 3) (v := .ref a2) (ty := .object "StoryHouse$Out") (C := RX3) (T := TX3) (N := 16) hx hb hts ii_X3 tyX3 tyX3_ok nmX3 hown hK hP hD hS 0 rfl rfl 1 (by decide) (hts (.fieldLink RX3 33 "StoryHouse$Machine" "told" "LStoryHouse$Out;") wq_260) (fun _ h9 => h9) rfl hin rfl (by decide +kernel) rfl rfl (Nat.le_of_ble_eq_true rfl) dX3_init_50 (fun H_15 locs hP' hD' hS' => ?_)
  replace hP : va_P (dC, dI) vwCl [(h0, .inr (3, [.ref a1, .ref a2, .null, .int 0, .int 0, .int 0, .ref q_1, .int 0, .int 0, .int 0, .ref q_4, .ref q_7, .int 0, .int 0, .int 1, .ref q_11])), (q_1, .inl (cI, 9000, .inl ((fun _ => 0)))), (q_4, .inl (cI, 30, .inl ((fun _ => 0)))), (q_7, .inl (cI, 30, .inl ((fun _ => 0)))), (q_11, .inl (cB, 200, .inl ((fun _ => 0))))] H_15 := hP'
  replace hD : va_D A [(h0, .inr (3, [.ref a1, .ref a2, .null, .int 0, .int 0, .int 0, .ref q_1, .int 0, .int 0, .int 0, .ref q_4, .ref q_7, .int 0, .int 0, .int 1, .ref q_11])), (q_1, .inl (cI, 9000, .inl ((fun _ => 0)))), (q_4, .inl (cI, 30, .inl ((fun _ => 0)))), (q_7, .inl (cI, 30, .inl ((fun _ => 0)))), (q_11, .inl (cB, 200, .inl ((fun _ => 0))))] := hD'
  replace hS := hS'
  clear hP' hD' hS'
  have hP9 := hP.sub (ws' := [(h0, .inr (3, [.ref a1, .ref a2, .null, .int 0, .int 0, .int 0, .ref q_1, .int 0, .int 0, .int 0, .ref q_4, .ref q_7, .int 0, .int 0, .int 1, .ref q_11])), (q_1, .inl (cI, 9000, .inl ((fun _ => 0)))), (q_4, .inl (cI, 30, .inl ((fun _ => 0)))), (q_7, .inl (cI, 30, .inl ((fun _ => 0)))), (q_11, .inl (cB, 200, .inl ((fun _ => 0))))]) [0, 1, 2, 3, 4] rfl
  have hD9 := hD.sub (ws' := [(h0, .inr (3, [.ref a1, .ref a2, .null, .int 0, .int 0, .int 0, .ref q_1, .int 0, .int 0, .int 0, .ref q_4, .ref q_7, .int 0, .int 0, .int 1, .ref q_11])), (q_1, .inl (cI, 9000, .inl ((fun _ => 0)))), (q_4, .inl (cI, 30, .inl ((fun _ => 0)))), (q_7, .inl (cI, 30, .inl ((fun _ => 0)))), (q_11, .inl (cB, 200, .inl ((fun _ => 0))))]) [0, 1, 2, 3, 4] (by decide +kernel) rfl
  refine W.widen (k := 4) (n := 9260) (Nat.le_of_ble_eq_true rfl) (Nat.le_of_ble_eq_true rfl) ?_
  exact W.vret hx hb hr (fun t ht hW => ⟨⟨(q_1, q_4, q_7, q_11), rfl, (by first | trivial | rfl | assumption), by rw [ht]; exact hP9, hD9⟩, hS.F ht⟩) hS.2.2 dX3_init_53
abbrev ww_X4_init (cB cC cI cJ cZ cP : ClassId) (h0 : Nat) (a1 : Nat) : va_W := [(h0, .inr (4, [.null, .null, .null, .null, .null, .null, .null, .int 0, .int 0, .int 0, .null, .int 0, .int 0, .int 0, .int 0, .int 0, .int 0, .int 0]))]
abbrev q_X4_init (dC : Nat → ClassId) (dI : Nat → Nat → Nat) (cB cC cI cJ cZ cP : ClassId) (h0 : Nat) (a1 : Nat) (A : Nat → Prop) : Array Value → State → Outcome → State → Prop := va_Qv (fun (u : Nat × Nat × Nat × Nat × Nat × Nat) => match u with | (q_1, q_4, q_7, q_10, q_13, q_16) => True) (g_Bo (dC, dI) A (fun (u : Nat × Nat × Nat × Nat × Nat × Nat) => match u with | (q_1, q_4, q_7, q_10, q_13, q_16) => [(h0, .inr (4, [.ref a1, .null, .ref q_1, .ref q_4, .ref q_7, .ref q_10, .ref q_13, .int 0, .int 0, .int 0, .ref q_16, .int 0, .int 0, .int 0, .int 0, .int 0, .int 0, .int 0])), (q_1, .inl (cI, 4500, .inl ((fun _ => 0)))), (q_4, .inl (cI, 4500, .inl ((fun _ => 0)))), (q_7, .inl (cI, 4500, .inl ((fun _ => 0)))), (q_10, .inl (cI, 4500, .inl ((fun _ => 0)))), (q_13, .inl (cI, 14, .inl ((fun _ => 0)))), (q_16, .inl (cI, 31, .inl ((fun _ => 0))))])) A
set_option maxHeartbeats 4000000 in
set_option maxRecDepth 100000 in
theorem c_X4_init (l : Launch) (dC : Nat → ClassId) (dI : Nat → Nat → Nat) (cB cC cI cJ cZ cP : ClassId) (sz : Nat) (h0 : Nat) (a1 : Nat)  : Met l yX4_init (g_ws yX4_init cX4_init 2 none) ({ frames := 1, cells := 6, slots := 18045, locals := 40 }) (va_Pc [.ref h0, .ref a1] (g_B (dC, dI) [(cB, .byte), (cC, .char), (cI, .int), (cJ, .long), (cZ, .boolean), (cP, .object "StoryHouse$Play")] sz (ww_X4_init cB cC cI cJ cZ cP h0 a1) g_0)) (q_X4_init dC dI cB cC cI cJ cZ cP h0 a1 (va_A (ww_X4_init cB cC cI cJ cZ cP h0 a1) sz)) 6 18045 (va_A (ww_X4_init cB cC cI cJ cZ cP h0 a1) sz) := by
  refine Met.ofW (cc := cX4_init) (maxL := 2) (ret := none) (by decide) rfl ?_
  intro p e s m args below meth c s₁ B hml hv
  obtain ⟨rfl, hsz, hP, hK, hD0, hE, hX⟩ := hv
  have hx := B.exec
  have hb := B.bytes
  have hr := B.returns
  have hts0 := atoms_spec (ws := (g_ws yX4_init cX4_init 2 none)) B.pre
  have hts : ∀ w ∈ lw_good, w.before ([.ref h0, .ref a1] : List Value).toArray s = true := fun w h => hts0 w (List.mem_cons_of_mem _ h)
  have hown : s.vm.findClass RX4 = some m.cls := findClass_of_methodNamed B.named
  have hlocks := B.notSynchronized
  have hin : meth.name = "<init>" := (name_of_methodNamed B.named B.method).1
  subst hsz
  have hD := hD0.self (sz := s.heap.size)
  generalize hAe : va_A (ww_X4_init cB cC cI cJ cZ cP h0 a1) s.heap.size = A at hD hE hX ⊢
  have hA : ∀ q : Nat, s.heap.size ≤ q → A q := fun q h => by rw [← hAe]; exact Or.inr h
  have hN := hE.1
  have hS : va_S A s.heap s.heap [] := va_S.rf
  have hP : va_P (dC, dI) vwCl [(h0, .inr (4, [.null, .null, .null, .null, .null, .null, .null, .int 0, .int 0, .int 0, .null, .int 0, .int 0, .int 0, .int 0, .int 0, .int 0, .int 0]))] s.heap := hP
  have hl := lv_entry ([.ref h0, .ref a1]) (n := 2) (Nat.le_of_ble_eq_true rfl)
  rw [lg_entry_eq]
  generalize (lg_sl ([.ref h0, .ref a1]) ++ List.replicate (2 - (lg_sl ([.ref h0, .ref a1])).length) Slot.unset).toArray = ls at hl ⊢
  have hl : lv_has ls 2 [(0, .ref h0), (1, .ref a1)] := hl
  refine lv_aload_n hx hb dX4_init_0 rfl (lv_at hl 0 rfl) ?_
  refine W.objInit hx hb hown (hts (.methodLink RX4 3 objectInit) wq_85) (hts (.instanceMethod objectInit) wq_34) (hts (.code objectInit ⟨#[0xb1]⟩ 1 none) wq_35) rfl (by rw [hml]; exact hl.1) rfl dX4_init_1 (Nat.le_of_ble_eq_true rfl) (Nat.le_of_ble_eq_true rfl) ?_
  refine W.eq (g2 := F0 m 4 ls []) rfl ?_
  refine lv_aload_n hx hb dX4_init_4 rfl (lv_at hl 0 rfl) ?_
  refine lv_sipush (v := 4500) hx hb dX4_init_5 (by decide +kernel) ?_
  refine g_newI hx hb (hts (.arrayClass .int) wq_63) hK 2 rfl hP hD hS hA 4500 (by decide +kernel) (by decide +kernel) (Nat.le_of_ble_eq_true rfl) (Nat.le_of_ble_eq_true rfl) (Nat.le_of_ble_eq_true rfl) dX4_init_8 (fun q_1 H_2 hP' hD' hS' => ?_)
  replace hP : va_P (dC, dI) vwCl [(h0, .inr (4, [.null, .null, .null, .null, .null, .null, .null, .int 0, .int 0, .int 0, .null, .int 0, .int 0, .int 0, .int 0, .int 0, .int 0, .int 0])), (q_1, .inl (cI, 4500, .inl ((fun _ => 0))))] H_2 := hP'
  replace hD : va_D A [(h0, .inr (4, [.null, .null, .null, .null, .null, .null, .null, .int 0, .int 0, .int 0, .null, .int 0, .int 0, .int 0, .int 0, .int 0, .int 0, .int 0])), (q_1, .inl (cI, 4500, .inl ((fun _ => 0))))] := hD'
  replace hS := hS'
  clear hP' hD' hS'
  refine W.widen (k := 1) (n := 4500) (Nat.le_of_ble_eq_true rfl) (Nat.le_of_ble_eq_true rfl) ?_
  refine va_putF (D := (dC, dI)) (ci := 4) (v := .ref q_1) (ty := .array .int) (C := RX4) (T := TX4) (N := 18) hx hb hts ii_X4 tyX4 tyX4_ok nmX4 hown hK hP hD hS 0 rfl rfl 2 (by decide) (hts (.fieldLink RX4 11 "StoryHouse$Meanings" "toldAt" "[I") wq_88) (fun _ h9 => h9) rfl hin rfl (by decide +kernel) rfl rfl (Nat.le_of_ble_eq_true rfl) dX4_init_10 (fun H_3 locs hP' hD' hS' => ?_)
  replace hP : va_P (dC, dI) vwCl [(h0, .inr (4, [.null, .null, .ref q_1, .null, .null, .null, .null, .int 0, .int 0, .int 0, .null, .int 0, .int 0, .int 0, .int 0, .int 0, .int 0, .int 0])), (q_1, .inl (cI, 4500, .inl ((fun _ => 0))))] H_3 := hP'
  replace hD : va_D A [(h0, .inr (4, [.null, .null, .ref q_1, .null, .null, .null, .null, .int 0, .int 0, .int 0, .null, .int 0, .int 0, .int 0, .int 0, .int 0, .int 0, .int 0])), (q_1, .inl (cI, 4500, .inl ((fun _ => 0))))] := hD'
  replace hS := hS'
  clear hP' hD' hS'
  refine lv_aload_n hx hb dX4_init_13 rfl (lv_at hl 0 rfl) ?_
  refine lv_sipush (v := 4500) hx hb dX4_init_14 (by decide +kernel) ?_
  refine g_newI hx hb (hts (.arrayClass .int) wq_63) hK 2 rfl hP hD hS hA 4500 (by decide +kernel) (by decide +kernel) (Nat.le_of_ble_eq_true rfl) (Nat.le_of_ble_eq_true rfl) (Nat.le_of_ble_eq_true rfl) dX4_init_17 (fun q_4 H_5 hP' hD' hS' => ?_)
  replace hP : va_P (dC, dI) vwCl [(h0, .inr (4, [.null, .null, .ref q_1, .null, .null, .null, .null, .int 0, .int 0, .int 0, .null, .int 0, .int 0, .int 0, .int 0, .int 0, .int 0, .int 0])), (q_1, .inl (cI, 4500, .inl ((fun _ => 0)))), (q_4, .inl (cI, 4500, .inl ((fun _ => 0))))] H_5 := hP'
  replace hD : va_D A [(h0, .inr (4, [.null, .null, .ref q_1, .null, .null, .null, .null, .int 0, .int 0, .int 0, .null, .int 0, .int 0, .int 0, .int 0, .int 0, .int 0, .int 0])), (q_1, .inl (cI, 4500, .inl ((fun _ => 0)))), (q_4, .inl (cI, 4500, .inl ((fun _ => 0))))] := hD'
  replace hS := hS'
  clear hP' hD' hS'
  refine W.widen (k := 2) (n := 9000) (Nat.le_of_ble_eq_true rfl) (Nat.le_of_ble_eq_true rfl) ?_
  refine va_putF (D := (dC, dI)) (ci := 4) (v := .ref q_4) (ty := .array .int) (C := RX4) (T := TX4) (N := 18) hx hb hts ii_X4 tyX4 tyX4_ok nmX4 hown hK hP hD hS 0 rfl rfl 3 (by decide) (hts (.fieldLink RX4 17 "StoryHouse$Meanings" "sorts" "[I") wq_89) (fun _ h9 => h9) rfl hin rfl (by decide +kernel) rfl rfl (Nat.le_of_ble_eq_true rfl) dX4_init_19 (fun H_6 locs hP' hD' hS' => ?_)
  replace hP : va_P (dC, dI) vwCl [(h0, .inr (4, [.null, .null, .ref q_1, .ref q_4, .null, .null, .null, .int 0, .int 0, .int 0, .null, .int 0, .int 0, .int 0, .int 0, .int 0, .int 0, .int 0])), (q_1, .inl (cI, 4500, .inl ((fun _ => 0)))), (q_4, .inl (cI, 4500, .inl ((fun _ => 0))))] H_6 := hP'
  replace hD : va_D A [(h0, .inr (4, [.null, .null, .ref q_1, .ref q_4, .null, .null, .null, .int 0, .int 0, .int 0, .null, .int 0, .int 0, .int 0, .int 0, .int 0, .int 0, .int 0])), (q_1, .inl (cI, 4500, .inl ((fun _ => 0)))), (q_4, .inl (cI, 4500, .inl ((fun _ => 0))))] := hD'
  replace hS := hS'
  clear hP' hD' hS'
  refine lv_aload_n hx hb dX4_init_22 rfl (lv_at hl 0 rfl) ?_
  refine lv_sipush (v := 4500) hx hb dX4_init_23 (by decide +kernel) ?_
  refine g_newI hx hb (hts (.arrayClass .int) wq_63) hK 2 rfl hP hD hS hA 4500 (by decide +kernel) (by decide +kernel) (Nat.le_of_ble_eq_true rfl) (Nat.le_of_ble_eq_true rfl) (Nat.le_of_ble_eq_true rfl) dX4_init_26 (fun q_7 H_8 hP' hD' hS' => ?_)
  replace hP : va_P (dC, dI) vwCl [(h0, .inr (4, [.null, .null, .ref q_1, .ref q_4, .null, .null, .null, .int 0, .int 0, .int 0, .null, .int 0, .int 0, .int 0, .int 0, .int 0, .int 0, .int 0])), (q_1, .inl (cI, 4500, .inl ((fun _ => 0)))), (q_4, .inl (cI, 4500, .inl ((fun _ => 0)))), (q_7, .inl (cI, 4500, .inl ((fun _ => 0))))] H_8 := hP'
  replace hD : va_D A [(h0, .inr (4, [.null, .null, .ref q_1, .ref q_4, .null, .null, .null, .int 0, .int 0, .int 0, .null, .int 0, .int 0, .int 0, .int 0, .int 0, .int 0, .int 0])), (q_1, .inl (cI, 4500, .inl ((fun _ => 0)))), (q_4, .inl (cI, 4500, .inl ((fun _ => 0)))), (q_7, .inl (cI, 4500, .inl ((fun _ => 0))))] := hD'
  replace hS := hS'
  clear hP' hD' hS'
  refine W.widen (k := 3) (n := 13500) (Nat.le_of_ble_eq_true rfl) (Nat.le_of_ble_eq_true rfl) ?_
  refine va_putF (D := (dC, dI)) (ci := 4) (v := .ref q_7) (ty := .array .int) (C := RX4) (T := TX4) (N := 18) hx hb hts ii_X4 tyX4 tyX4_ok nmX4 hown hK hP hD hS 0 rfl rfl 4 (by decide) (hts (.fieldLink RX4 20 "StoryHouse$Meanings" "numbers" "[I") wq_90) (fun _ h9 => h9) rfl hin rfl (by decide +kernel) rfl rfl (Nat.le_of_ble_eq_true rfl) dX4_init_28 (fun H_9 locs hP' hD' hS' => ?_)
  replace hP : va_P (dC, dI) vwCl [(h0, .inr (4, [.null, .null, .ref q_1, .ref q_4, .ref q_7, .null, .null, .int 0, .int 0, .int 0, .null, .int 0, .int 0, .int 0, .int 0, .int 0, .int 0, .int 0])), (q_1, .inl (cI, 4500, .inl ((fun _ => 0)))), (q_4, .inl (cI, 4500, .inl ((fun _ => 0)))), (q_7, .inl (cI, 4500, .inl ((fun _ => 0))))] H_9 := hP'
  replace hD : va_D A [(h0, .inr (4, [.null, .null, .ref q_1, .ref q_4, .ref q_7, .null, .null, .int 0, .int 0, .int 0, .null, .int 0, .int 0, .int 0, .int 0, .int 0, .int 0, .int 0])), (q_1, .inl (cI, 4500, .inl ((fun _ => 0)))), (q_4, .inl (cI, 4500, .inl ((fun _ => 0)))), (q_7, .inl (cI, 4500, .inl ((fun _ => 0))))] := hD'
  replace hS := hS'
  clear hP' hD' hS'
  refine lv_aload_n hx hb dX4_init_31 rfl (lv_at hl 0 rfl) ?_
  refine lv_sipush (v := 4500) hx hb dX4_init_32 (by decide +kernel) ?_
  refine g_newI hx hb (hts (.arrayClass .int) wq_63) hK 2 rfl hP hD hS hA 4500 (by decide +kernel) (by decide +kernel) (Nat.le_of_ble_eq_true rfl) (Nat.le_of_ble_eq_true rfl) (Nat.le_of_ble_eq_true rfl) dX4_init_35 (fun q_10 H_11 hP' hD' hS' => ?_)
  replace hP : va_P (dC, dI) vwCl [(h0, .inr (4, [.null, .null, .ref q_1, .ref q_4, .ref q_7, .null, .null, .int 0, .int 0, .int 0, .null, .int 0, .int 0, .int 0, .int 0, .int 0, .int 0, .int 0])), (q_1, .inl (cI, 4500, .inl ((fun _ => 0)))), (q_4, .inl (cI, 4500, .inl ((fun _ => 0)))), (q_7, .inl (cI, 4500, .inl ((fun _ => 0)))), (q_10, .inl (cI, 4500, .inl ((fun _ => 0))))] H_11 := hP'
  replace hD : va_D A [(h0, .inr (4, [.null, .null, .ref q_1, .ref q_4, .ref q_7, .null, .null, .int 0, .int 0, .int 0, .null, .int 0, .int 0, .int 0, .int 0, .int 0, .int 0, .int 0])), (q_1, .inl (cI, 4500, .inl ((fun _ => 0)))), (q_4, .inl (cI, 4500, .inl ((fun _ => 0)))), (q_7, .inl (cI, 4500, .inl ((fun _ => 0)))), (q_10, .inl (cI, 4500, .inl ((fun _ => 0))))] := hD'
  replace hS := hS'
  clear hP' hD' hS'
  refine W.widen (k := 4) (n := 18000) (Nat.le_of_ble_eq_true rfl) (Nat.le_of_ble_eq_true rfl) ?_
  refine va_putF (D := (dC, dI)) (ci := 4) (v := .ref q_10) (ty := .array .int) (C := RX4) (T := TX4) (N := 18) hx hb hts ii_X4 tyX4 tyX4_ok nmX4 hown hK hP hD hS 0 rfl rfl 5 (by decide) (hts (.fieldLink RX4 23 "StoryHouse$Meanings" "seen" "[I") wq_91) (fun _ h9 => h9) rfl hin rfl (by decide +kernel) rfl rfl (Nat.le_of_ble_eq_true rfl) dX4_init_37 (fun H_12 locs hP' hD' hS' => ?_)
  replace hP : va_P (dC, dI) vwCl [(h0, .inr (4, [.null, .null, .ref q_1, .ref q_4, .ref q_7, .ref q_10, .null, .int 0, .int 0, .int 0, .null, .int 0, .int 0, .int 0, .int 0, .int 0, .int 0, .int 0])), (q_1, .inl (cI, 4500, .inl ((fun _ => 0)))), (q_4, .inl (cI, 4500, .inl ((fun _ => 0)))), (q_7, .inl (cI, 4500, .inl ((fun _ => 0)))), (q_10, .inl (cI, 4500, .inl ((fun _ => 0))))] H_12 := hP'
  replace hD : va_D A [(h0, .inr (4, [.null, .null, .ref q_1, .ref q_4, .ref q_7, .ref q_10, .null, .int 0, .int 0, .int 0, .null, .int 0, .int 0, .int 0, .int 0, .int 0, .int 0, .int 0])), (q_1, .inl (cI, 4500, .inl ((fun _ => 0)))), (q_4, .inl (cI, 4500, .inl ((fun _ => 0)))), (q_7, .inl (cI, 4500, .inl ((fun _ => 0)))), (q_10, .inl (cI, 4500, .inl ((fun _ => 0))))] := hD'
  replace hS := hS'
  clear hP' hD' hS'
  refine lv_aload_n hx hb dX4_init_40 rfl (lv_at hl 0 rfl) ?_
  refine lv_bipush (v := 14) hx hb dX4_init_41 (by decide +kernel) ?_
  refine g_newI hx hb (hts (.arrayClass .int) wq_63) hK 2 rfl hP hD hS hA 14 (by decide +kernel) (by decide +kernel) (Nat.le_of_ble_eq_true rfl) (Nat.le_of_ble_eq_true rfl) (Nat.le_of_ble_eq_true rfl) dX4_init_43 (fun q_13 H_14 hP' hD' hS' => ?_)
  replace hP : va_P (dC, dI) vwCl [(h0, .inr (4, [.null, .null, .ref q_1, .ref q_4, .ref q_7, .ref q_10, .null, .int 0, .int 0, .int 0, .null, .int 0, .int 0, .int 0, .int 0, .int 0, .int 0, .int 0])), (q_1, .inl (cI, 4500, .inl ((fun _ => 0)))), (q_4, .inl (cI, 4500, .inl ((fun _ => 0)))), (q_7, .inl (cI, 4500, .inl ((fun _ => 0)))), (q_10, .inl (cI, 4500, .inl ((fun _ => 0)))), (q_13, .inl (cI, 14, .inl ((fun _ => 0))))] H_14 := hP'
  replace hD : va_D A [(h0, .inr (4, [.null, .null, .ref q_1, .ref q_4, .ref q_7, .ref q_10, .null, .int 0, .int 0, .int 0, .null, .int 0, .int 0, .int 0, .int 0, .int 0, .int 0, .int 0])), (q_1, .inl (cI, 4500, .inl ((fun _ => 0)))), (q_4, .inl (cI, 4500, .inl ((fun _ => 0)))), (q_7, .inl (cI, 4500, .inl ((fun _ => 0)))), (q_10, .inl (cI, 4500, .inl ((fun _ => 0)))), (q_13, .inl (cI, 14, .inl ((fun _ => 0))))] := hD'
  replace hS := hS'
  clear hP' hD' hS'
  refine W.widen (k := 5) (n := 18014) (Nat.le_of_ble_eq_true rfl) (Nat.le_of_ble_eq_true rfl) ?_
  refine va_putF (D := (dC, dI)) (ci := 4) (v := .ref q_13) (ty := .array .int) (C := RX4) (T := TX4) (N := 18) hx hb hts ii_X4 tyX4 tyX4_ok nmX4 hown hK hP hD hS 0 rfl rfl 6 (by decide) (hts (.fieldLink RX4 26 "StoryHouse$Meanings" "seenNames" "[I") wq_92) (fun _ h9 => h9) rfl hin rfl (by decide +kernel) rfl rfl (Nat.le_of_ble_eq_true rfl) dX4_init_45 (fun H_15 locs hP' hD' hS' => ?_)
  replace hP : va_P (dC, dI) vwCl [(h0, .inr (4, [.null, .null, .ref q_1, .ref q_4, .ref q_7, .ref q_10, .ref q_13, .int 0, .int 0, .int 0, .null, .int 0, .int 0, .int 0, .int 0, .int 0, .int 0, .int 0])), (q_1, .inl (cI, 4500, .inl ((fun _ => 0)))), (q_4, .inl (cI, 4500, .inl ((fun _ => 0)))), (q_7, .inl (cI, 4500, .inl ((fun _ => 0)))), (q_10, .inl (cI, 4500, .inl ((fun _ => 0)))), (q_13, .inl (cI, 14, .inl ((fun _ => 0))))] H_15 := hP'
  replace hD : va_D A [(h0, .inr (4, [.null, .null, .ref q_1, .ref q_4, .ref q_7, .ref q_10, .ref q_13, .int 0, .int 0, .int 0, .null, .int 0, .int 0, .int 0, .int 0, .int 0, .int 0, .int 0])), (q_1, .inl (cI, 4500, .inl ((fun _ => 0)))), (q_4, .inl (cI, 4500, .inl ((fun _ => 0)))), (q_7, .inl (cI, 4500, .inl ((fun _ => 0)))), (q_10, .inl (cI, 4500, .inl ((fun _ => 0)))), (q_13, .inl (cI, 14, .inl ((fun _ => 0))))] := hD'
  replace hS := hS'
  clear hP' hD' hS'
  refine lv_aload_n hx hb dX4_init_48 rfl (lv_at hl 0 rfl) ?_
  refine lv_bipush (v := 31) hx hb dX4_init_49 (by decide +kernel) ?_
  refine g_newI hx hb (hts (.arrayClass .int) wq_63) hK 2 rfl hP hD hS hA 31 (by decide +kernel) (by decide +kernel) (Nat.le_of_ble_eq_true rfl) (Nat.le_of_ble_eq_true rfl) (Nat.le_of_ble_eq_true rfl) dX4_init_51 (fun q_16 H_17 hP' hD' hS' => ?_)
  replace hP : va_P (dC, dI) vwCl [(h0, .inr (4, [.null, .null, .ref q_1, .ref q_4, .ref q_7, .ref q_10, .ref q_13, .int 0, .int 0, .int 0, .null, .int 0, .int 0, .int 0, .int 0, .int 0, .int 0, .int 0])), (q_1, .inl (cI, 4500, .inl ((fun _ => 0)))), (q_4, .inl (cI, 4500, .inl ((fun _ => 0)))), (q_7, .inl (cI, 4500, .inl ((fun _ => 0)))), (q_10, .inl (cI, 4500, .inl ((fun _ => 0)))), (q_13, .inl (cI, 14, .inl ((fun _ => 0)))), (q_16, .inl (cI, 31, .inl ((fun _ => 0))))] H_17 := hP'
  replace hD : va_D A [(h0, .inr (4, [.null, .null, .ref q_1, .ref q_4, .ref q_7, .ref q_10, .ref q_13, .int 0, .int 0, .int 0, .null, .int 0, .int 0, .int 0, .int 0, .int 0, .int 0, .int 0])), (q_1, .inl (cI, 4500, .inl ((fun _ => 0)))), (q_4, .inl (cI, 4500, .inl ((fun _ => 0)))), (q_7, .inl (cI, 4500, .inl ((fun _ => 0)))), (q_10, .inl (cI, 4500, .inl ((fun _ => 0)))), (q_13, .inl (cI, 14, .inl ((fun _ => 0)))), (q_16, .inl (cI, 31, .inl ((fun _ => 0))))] := hD'
  replace hS := hS'
  clear hP' hD' hS'
  refine W.widen (k := 6) (n := 18045) (Nat.le_of_ble_eq_true rfl) (Nat.le_of_ble_eq_true rfl) ?_
  refine va_putF (D := (dC, dI)) (ci := 4) (v := .ref q_16) (ty := .array .int) (C := RX4) (T := TX4) (N := 18) hx hb hts ii_X4 tyX4 tyX4_ok nmX4 hown hK hP hD hS 0 rfl rfl 10 (by decide) (hts (.fieldLink RX4 29 "StoryHouse$Meanings" "marks" "[I") wq_96) (fun _ h9 => h9) rfl hin rfl (by decide +kernel) rfl rfl (Nat.le_of_ble_eq_true rfl) dX4_init_53 (fun H_18 locs hP' hD' hS' => ?_)
  replace hP : va_P (dC, dI) vwCl [(h0, .inr (4, [.null, .null, .ref q_1, .ref q_4, .ref q_7, .ref q_10, .ref q_13, .int 0, .int 0, .int 0, .ref q_16, .int 0, .int 0, .int 0, .int 0, .int 0, .int 0, .int 0])), (q_1, .inl (cI, 4500, .inl ((fun _ => 0)))), (q_4, .inl (cI, 4500, .inl ((fun _ => 0)))), (q_7, .inl (cI, 4500, .inl ((fun _ => 0)))), (q_10, .inl (cI, 4500, .inl ((fun _ => 0)))), (q_13, .inl (cI, 14, .inl ((fun _ => 0)))), (q_16, .inl (cI, 31, .inl ((fun _ => 0))))] H_18 := hP'
  replace hD : va_D A [(h0, .inr (4, [.null, .null, .ref q_1, .ref q_4, .ref q_7, .ref q_10, .ref q_13, .int 0, .int 0, .int 0, .ref q_16, .int 0, .int 0, .int 0, .int 0, .int 0, .int 0, .int 0])), (q_1, .inl (cI, 4500, .inl ((fun _ => 0)))), (q_4, .inl (cI, 4500, .inl ((fun _ => 0)))), (q_7, .inl (cI, 4500, .inl ((fun _ => 0)))), (q_10, .inl (cI, 4500, .inl ((fun _ => 0)))), (q_13, .inl (cI, 14, .inl ((fun _ => 0)))), (q_16, .inl (cI, 31, .inl ((fun _ => 0))))] := hD'
  replace hS := hS'
  clear hP' hD' hS'
  refine lv_aload_n hx hb dX4_init_56 rfl (lv_at hl 0 rfl) ?_
  refine lv_aload_n hx hb dX4_init_57 rfl (lv_at hl 1 rfl) ?_
  refine va_putF (D := (dC, dI)) (ci := 4) (v := .ref a1) (ty := .object "StoryHouse$Words") (C := RX4) (T := TX4) (N := 18) hx hb hts ii_X4 tyX4 tyX4_ok nmX4 hown hK hP hD hS 0 rfl rfl 0 (by decide) (hts (.fieldLink RX4 32 "StoryHouse$Meanings" "words" "LStoryHouse$Words;") wq_86) (fun _ h9 => h9) rfl hin rfl (by decide +kernel) rfl rfl (Nat.le_of_ble_eq_true rfl) dX4_init_58 (fun H_19 locs hP' hD' hS' => ?_)
  replace hP : va_P (dC, dI) vwCl [(h0, .inr (4, [.ref a1, .null, .ref q_1, .ref q_4, .ref q_7, .ref q_10, .ref q_13, .int 0, .int 0, .int 0, .ref q_16, .int 0, .int 0, .int 0, .int 0, .int 0, .int 0, .int 0])), (q_1, .inl (cI, 4500, .inl ((fun _ => 0)))), (q_4, .inl (cI, 4500, .inl ((fun _ => 0)))), (q_7, .inl (cI, 4500, .inl ((fun _ => 0)))), (q_10, .inl (cI, 4500, .inl ((fun _ => 0)))), (q_13, .inl (cI, 14, .inl ((fun _ => 0)))), (q_16, .inl (cI, 31, .inl ((fun _ => 0))))] H_19 := hP'
  replace hD : va_D A [(h0, .inr (4, [.ref a1, .null, .ref q_1, .ref q_4, .ref q_7, .ref q_10, .ref q_13, .int 0, .int 0, .int 0, .ref q_16, .int 0, .int 0, .int 0, .int 0, .int 0, .int 0, .int 0])), (q_1, .inl (cI, 4500, .inl ((fun _ => 0)))), (q_4, .inl (cI, 4500, .inl ((fun _ => 0)))), (q_7, .inl (cI, 4500, .inl ((fun _ => 0)))), (q_10, .inl (cI, 4500, .inl ((fun _ => 0)))), (q_13, .inl (cI, 14, .inl ((fun _ => 0)))), (q_16, .inl (cI, 31, .inl ((fun _ => 0))))] := hD'
  replace hS := hS'
  clear hP' hD' hS'
  have hP9 := hP.sub (ws' := [(h0, .inr (4, [.ref a1, .null, .ref q_1, .ref q_4, .ref q_7, .ref q_10, .ref q_13, .int 0, .int 0, .int 0, .ref q_16, .int 0, .int 0, .int 0, .int 0, .int 0, .int 0, .int 0])), (q_1, .inl (cI, 4500, .inl ((fun _ => 0)))), (q_4, .inl (cI, 4500, .inl ((fun _ => 0)))), (q_7, .inl (cI, 4500, .inl ((fun _ => 0)))), (q_10, .inl (cI, 4500, .inl ((fun _ => 0)))), (q_13, .inl (cI, 14, .inl ((fun _ => 0)))), (q_16, .inl (cI, 31, .inl ((fun _ => 0))))]) [0, 1, 2, 3, 4, 5, 6] rfl
  have hD9 := hD.sub (ws' := [(h0, .inr (4, [.ref a1, .null, .ref q_1, .ref q_4, .ref q_7, .ref q_10, .ref q_13, .int 0, .int 0, .int 0, .ref q_16, .int 0, .int 0, .int 0, .int 0, .int 0, .int 0, .int 0])), (q_1, .inl (cI, 4500, .inl ((fun _ => 0)))), (q_4, .inl (cI, 4500, .inl ((fun _ => 0)))), (q_7, .inl (cI, 4500, .inl ((fun _ => 0)))), (q_10, .inl (cI, 4500, .inl ((fun _ => 0)))), (q_13, .inl (cI, 14, .inl ((fun _ => 0)))), (q_16, .inl (cI, 31, .inl ((fun _ => 0))))]) [0, 1, 2, 3, 4, 5, 6] (by decide +kernel) rfl
  refine W.widen (k := 6) (n := 18045) (Nat.le_of_ble_eq_true rfl) (Nat.le_of_ble_eq_true rfl) ?_
  exact W.vret hx hb hr (fun t ht hW => ⟨⟨(q_1, q_4, q_7, q_10, q_13, q_16), rfl, (by first | trivial | rfl | assumption), by rw [ht]; exact hP9, hD9⟩, hS.F ht⟩) hS.2.2 dX4_init_61
abbrev ww_X8_init (cB cC cI cJ cZ cP : ClassId) (h0 : Nat) (a1 : Nat) (a2 : Nat) (a3 : Nat) : va_W := [(h0, .inr (8, [.null, .null, .null, .null, .null, .int 0, .null, .int 0, .int 0, .int 0, .int 0, .int 0, .int 0, .int 0, .null, .int 0]))]
abbrev q_X8_init (dC : Nat → ClassId) (dI : Nat → Nat → Nat) (cB cC cI cJ cZ cP : ClassId) (h0 : Nat) (a1 : Nat) (a2 : Nat) (a3 : Nat) (A : Nat → Prop) : Array Value → State → Outcome → State → Prop := va_Qv (fun (u : Nat × Nat × Nat) => match u with | (q_1, q_4, q_7) => True) (g_Bo (dC, dI) A (fun (u : Nat × Nat × Nat) => match u with | (q_1, q_4, q_7) => [(h0, .inr (8, [.ref a1, .ref a2, .ref a3, .null, .ref q_1, .int 0, .ref q_4, .int 0, .int 0, .int 0, .int 0, .int 0, .int 0, .int 0, .ref q_7, .int 0])), (q_1, .inl (cB, 120, .inl ((fun _ => 0)))), (q_4, .inl (cI, 12, .inl ((fun _ => 0)))), (q_7, .inl (cI, 120, .inl ((fun _ => 0))))])) A
set_option maxHeartbeats 4000000 in
set_option maxRecDepth 100000 in
theorem c_X8_init (l : Launch) (dC : Nat → ClassId) (dI : Nat → Nat → Nat) (cB cC cI cJ cZ cP : ClassId) (sz : Nat) (h0 : Nat) (a1 : Nat) (a2 : Nat) (a3 : Nat)  : Met l yX8_init (g_ws yX8_init cX8_init 4 none) ({ frames := 1, cells := 3, slots := 252, locals := 40 }) (va_Pc [.ref h0, .ref a1, .ref a2, .ref a3] (g_B (dC, dI) [(cB, .byte), (cC, .char), (cI, .int), (cJ, .long), (cZ, .boolean), (cP, .object "StoryHouse$Play")] sz (ww_X8_init cB cC cI cJ cZ cP h0 a1 a2 a3) g_0)) (q_X8_init dC dI cB cC cI cJ cZ cP h0 a1 a2 a3 (va_A (ww_X8_init cB cC cI cJ cZ cP h0 a1 a2 a3) sz)) 3 252 (va_A (ww_X8_init cB cC cI cJ cZ cP h0 a1 a2 a3) sz) := by
  refine Met.ofW (cc := cX8_init) (maxL := 4) (ret := none) (by decide) rfl ?_
  intro p e s m args below meth c s₁ B hml hv
  obtain ⟨rfl, hsz, hP, hK, hD0, hE, hX⟩ := hv
  have hx := B.exec
  have hb := B.bytes
  have hr := B.returns
  have hts0 := atoms_spec (ws := (g_ws yX8_init cX8_init 4 none)) B.pre
  have hts : ∀ w ∈ lw_good, w.before ([.ref h0, .ref a1, .ref a2, .ref a3] : List Value).toArray s = true := fun w h => hts0 w (List.mem_cons_of_mem _ h)
  have hown : s.vm.findClass RX8 = some m.cls := findClass_of_methodNamed B.named
  have hlocks := B.notSynchronized
  have hin : meth.name = "<init>" := (name_of_methodNamed B.named B.method).1
  subst hsz
  have hD := hD0.self (sz := s.heap.size)
  generalize hAe : va_A (ww_X8_init cB cC cI cJ cZ cP h0 a1 a2 a3) s.heap.size = A at hD hE hX ⊢
  have hA : ∀ q : Nat, s.heap.size ≤ q → A q := fun q h => by rw [← hAe]; exact Or.inr h
  have hN := hE.1
  have hS : va_S A s.heap s.heap [] := va_S.rf
  have hP : va_P (dC, dI) vwCl [(h0, .inr (8, [.null, .null, .null, .null, .null, .int 0, .null, .int 0, .int 0, .int 0, .int 0, .int 0, .int 0, .int 0, .null, .int 0]))] s.heap := hP
  have hl := lv_entry ([.ref h0, .ref a1, .ref a2, .ref a3]) (n := 4) (Nat.le_of_ble_eq_true rfl)
  rw [lg_entry_eq]
  generalize (lg_sl ([.ref h0, .ref a1, .ref a2, .ref a3]) ++ List.replicate (4 - (lg_sl ([.ref h0, .ref a1, .ref a2, .ref a3])).length) Slot.unset).toArray = ls at hl ⊢
  have hl : lv_has ls 4 [(0, .ref h0), (1, .ref a1), (2, .ref a2), (3, .ref a3)] := hl
  refine lv_aload_n hx hb dX8_init_0 rfl (lv_at hl 0 rfl) ?_
  refine W.objInit hx hb hown (hts (.methodLink RX8 3 objectInit) wq_285) (hts (.instanceMethod objectInit) wq_34) (hts (.code objectInit ⟨#[0xb1]⟩ 1 none) wq_35) rfl (by rw [hml]; exact hl.1) rfl dX8_init_1 (Nat.le_of_ble_eq_true rfl) (Nat.le_of_ble_eq_true rfl) ?_
  refine W.eq (g2 := F0 m 4 ls []) rfl ?_
  refine lv_aload_n hx hb dX8_init_4 rfl (lv_at hl 0 rfl) ?_
  refine lv_bipush (v := 120) hx hb dX8_init_5 (by decide +kernel) ?_
  refine g_newB hx hb (hts (.arrayClass .byte) wq_62) hK 0 rfl hP hD hS hA 120 (by decide +kernel) (by decide +kernel) (Nat.le_of_ble_eq_true rfl) (Nat.le_of_ble_eq_true rfl) (Nat.le_of_ble_eq_true rfl) dX8_init_7 (fun q_1 H_2 hP' hD' hS' => ?_)
  replace hP : va_P (dC, dI) vwCl [(h0, .inr (8, [.null, .null, .null, .null, .null, .int 0, .null, .int 0, .int 0, .int 0, .int 0, .int 0, .int 0, .int 0, .null, .int 0])), (q_1, .inl (cB, 120, .inl ((fun _ => 0))))] H_2 := hP'
  replace hD : va_D A [(h0, .inr (8, [.null, .null, .null, .null, .null, .int 0, .null, .int 0, .int 0, .int 0, .int 0, .int 0, .int 0, .int 0, .null, .int 0])), (q_1, .inl (cB, 120, .inl ((fun _ => 0))))] := hD'
  replace hS := hS'
  clear hP' hD' hS'
  refine W.widen (k := 1) (n := 120) (Nat.le_of_ble_eq_true rfl) (Nat.le_of_ble_eq_true rfl) ?_
  refine va_putF (D := (dC, dI)) (ci := 8) (v := .ref q_1) (ty := .array .byte) (C := RX8) (T := TX8) (N := 16) hx hb hts ii_X8 tyX8 tyX8_ok nmX8 hown hK hP hD hS 0 rfl rfl 4 (by decide) (hts (.fieldLink RX8 9 "StoryHouse$Teller" "line" "[B") wq_291) (fun _ h9 => h9) rfl hin rfl (by decide +kernel) rfl rfl (Nat.le_of_ble_eq_true rfl) dX8_init_9 (fun H_3 locs hP' hD' hS' => ?_)
  replace hP : va_P (dC, dI) vwCl [(h0, .inr (8, [.null, .null, .null, .null, .ref q_1, .int 0, .null, .int 0, .int 0, .int 0, .int 0, .int 0, .int 0, .int 0, .null, .int 0])), (q_1, .inl (cB, 120, .inl ((fun _ => 0))))] H_3 := hP'
  replace hD : va_D A [(h0, .inr (8, [.null, .null, .null, .null, .ref q_1, .int 0, .null, .int 0, .int 0, .int 0, .int 0, .int 0, .int 0, .int 0, .null, .int 0])), (q_1, .inl (cB, 120, .inl ((fun _ => 0))))] := hD'
  replace hS := hS'
  clear hP' hD' hS'
  refine lv_aload_n hx hb dX8_init_12 rfl (lv_at hl 0 rfl) ?_
  refine lv_bipush (v := 12) hx hb dX8_init_13 (by decide +kernel) ?_
  refine g_newI hx hb (hts (.arrayClass .int) wq_63) hK 2 rfl hP hD hS hA 12 (by decide +kernel) (by decide +kernel) (Nat.le_of_ble_eq_true rfl) (Nat.le_of_ble_eq_true rfl) (Nat.le_of_ble_eq_true rfl) dX8_init_15 (fun q_4 H_5 hP' hD' hS' => ?_)
  replace hP : va_P (dC, dI) vwCl [(h0, .inr (8, [.null, .null, .null, .null, .ref q_1, .int 0, .null, .int 0, .int 0, .int 0, .int 0, .int 0, .int 0, .int 0, .null, .int 0])), (q_1, .inl (cB, 120, .inl ((fun _ => 0)))), (q_4, .inl (cI, 12, .inl ((fun _ => 0))))] H_5 := hP'
  replace hD : va_D A [(h0, .inr (8, [.null, .null, .null, .null, .ref q_1, .int 0, .null, .int 0, .int 0, .int 0, .int 0, .int 0, .int 0, .int 0, .null, .int 0])), (q_1, .inl (cB, 120, .inl ((fun _ => 0)))), (q_4, .inl (cI, 12, .inl ((fun _ => 0))))] := hD'
  replace hS := hS'
  clear hP' hD' hS'
  refine W.widen (k := 2) (n := 132) (Nat.le_of_ble_eq_true rfl) (Nat.le_of_ble_eq_true rfl) ?_
  refine va_putF (D := (dC, dI)) (ci := 8) (v := .ref q_4) (ty := .array .int) (C := RX8) (T := TX8) (N := 16) hx hb hts ii_X8 tyX8 tyX8_ok nmX8 hown hK hP hD hS 0 rfl rfl 6 (by decide) (hts (.fieldLink RX8 15 "StoryHouse$Teller" "terms" "[I") wq_293) (fun _ h9 => h9) rfl hin rfl (by decide +kernel) rfl rfl (Nat.le_of_ble_eq_true rfl) dX8_init_17 (fun H_6 locs hP' hD' hS' => ?_)
  replace hP : va_P (dC, dI) vwCl [(h0, .inr (8, [.null, .null, .null, .null, .ref q_1, .int 0, .ref q_4, .int 0, .int 0, .int 0, .int 0, .int 0, .int 0, .int 0, .null, .int 0])), (q_1, .inl (cB, 120, .inl ((fun _ => 0)))), (q_4, .inl (cI, 12, .inl ((fun _ => 0))))] H_6 := hP'
  replace hD : va_D A [(h0, .inr (8, [.null, .null, .null, .null, .ref q_1, .int 0, .ref q_4, .int 0, .int 0, .int 0, .int 0, .int 0, .int 0, .int 0, .null, .int 0])), (q_1, .inl (cB, 120, .inl ((fun _ => 0)))), (q_4, .inl (cI, 12, .inl ((fun _ => 0))))] := hD'
  replace hS := hS'
  clear hP' hD' hS'
  refine lv_aload_n hx hb dX8_init_20 rfl (lv_at hl 0 rfl) ?_
  refine lv_bipush (v := 120) hx hb dX8_init_21 (by decide +kernel) ?_
  refine g_newI hx hb (hts (.arrayClass .int) wq_63) hK 2 rfl hP hD hS hA 120 (by decide +kernel) (by decide +kernel) (Nat.le_of_ble_eq_true rfl) (Nat.le_of_ble_eq_true rfl) (Nat.le_of_ble_eq_true rfl) dX8_init_23 (fun q_7 H_8 hP' hD' hS' => ?_)
  replace hP : va_P (dC, dI) vwCl [(h0, .inr (8, [.null, .null, .null, .null, .ref q_1, .int 0, .ref q_4, .int 0, .int 0, .int 0, .int 0, .int 0, .int 0, .int 0, .null, .int 0])), (q_1, .inl (cB, 120, .inl ((fun _ => 0)))), (q_4, .inl (cI, 12, .inl ((fun _ => 0)))), (q_7, .inl (cI, 120, .inl ((fun _ => 0))))] H_8 := hP'
  replace hD : va_D A [(h0, .inr (8, [.null, .null, .null, .null, .ref q_1, .int 0, .ref q_4, .int 0, .int 0, .int 0, .int 0, .int 0, .int 0, .int 0, .null, .int 0])), (q_1, .inl (cB, 120, .inl ((fun _ => 0)))), (q_4, .inl (cI, 12, .inl ((fun _ => 0)))), (q_7, .inl (cI, 120, .inl ((fun _ => 0))))] := hD'
  replace hS := hS'
  clear hP' hD' hS'
  refine W.widen (k := 3) (n := 252) (Nat.le_of_ble_eq_true rfl) (Nat.le_of_ble_eq_true rfl) ?_
  refine va_putF (D := (dC, dI)) (ci := 8) (v := .ref q_7) (ty := .array .int) (C := RX8) (T := TX8) (N := 16) hx hb hts ii_X8 tyX8 tyX8_ok nmX8 hown hK hP hD hS 0 rfl rfl 14 (by decide) (hts (.fieldLink RX8 19 "StoryHouse$Teller" "chosen" "[I") wq_301) (fun _ h9 => h9) rfl hin rfl (by decide +kernel) rfl rfl (Nat.le_of_ble_eq_true rfl) dX8_init_25 (fun H_9 locs hP' hD' hS' => ?_)
  replace hP : va_P (dC, dI) vwCl [(h0, .inr (8, [.null, .null, .null, .null, .ref q_1, .int 0, .ref q_4, .int 0, .int 0, .int 0, .int 0, .int 0, .int 0, .int 0, .ref q_7, .int 0])), (q_1, .inl (cB, 120, .inl ((fun _ => 0)))), (q_4, .inl (cI, 12, .inl ((fun _ => 0)))), (q_7, .inl (cI, 120, .inl ((fun _ => 0))))] H_9 := hP'
  replace hD : va_D A [(h0, .inr (8, [.null, .null, .null, .null, .ref q_1, .int 0, .ref q_4, .int 0, .int 0, .int 0, .int 0, .int 0, .int 0, .int 0, .ref q_7, .int 0])), (q_1, .inl (cB, 120, .inl ((fun _ => 0)))), (q_4, .inl (cI, 12, .inl ((fun _ => 0)))), (q_7, .inl (cI, 120, .inl ((fun _ => 0))))] := hD'
  replace hS := hS'
  clear hP' hD' hS'
  refine lv_aload_n hx hb dX8_init_28 rfl (lv_at hl 0 rfl) ?_
  refine lv_aload_n hx hb dX8_init_29 rfl (lv_at hl 1 rfl) ?_
  refine va_putF (D := (dC, dI)) (ci := 8) (v := .ref a1) (ty := .object "StoryHouse$Play") (C := RX8) (T := TX8) (N := 16) hx hb hts ii_X8 tyX8 tyX8_ok nmX8 hown hK hP hD hS 0 rfl rfl 0 (by decide) (hts (.fieldLink RX8 22 "StoryHouse$Teller" "play" "LStoryHouse$Play;") wq_286) (fun _ h9 => h9) rfl hin rfl (by decide +kernel) rfl rfl (Nat.le_of_ble_eq_true rfl) dX8_init_30 (fun H_10 locs hP' hD' hS' => ?_)
  replace hP : va_P (dC, dI) vwCl [(h0, .inr (8, [.ref a1, .null, .null, .null, .ref q_1, .int 0, .ref q_4, .int 0, .int 0, .int 0, .int 0, .int 0, .int 0, .int 0, .ref q_7, .int 0])), (q_1, .inl (cB, 120, .inl ((fun _ => 0)))), (q_4, .inl (cI, 12, .inl ((fun _ => 0)))), (q_7, .inl (cI, 120, .inl ((fun _ => 0))))] H_10 := hP'
  replace hD : va_D A [(h0, .inr (8, [.ref a1, .null, .null, .null, .ref q_1, .int 0, .ref q_4, .int 0, .int 0, .int 0, .int 0, .int 0, .int 0, .int 0, .ref q_7, .int 0])), (q_1, .inl (cB, 120, .inl ((fun _ => 0)))), (q_4, .inl (cI, 12, .inl ((fun _ => 0)))), (q_7, .inl (cI, 120, .inl ((fun _ => 0))))] := hD'
  replace hS := hS'
  clear hP' hD' hS'
  refine lv_aload_n hx hb dX8_init_33 rfl (lv_at hl 0 rfl) ?_
  refine lv_aload_n hx hb dX8_init_34 rfl (lv_at hl 2 rfl) ?_
  refine va_putF (D := (dC, dI)) (ci := 8) (v := .ref a2) (ty := .object "StoryHouse$Out") (C := RX8) (T := TX8) (N := 16) hx hb hts ii_X8 tyX8 tyX8_ok nmX8 hown hK hP hD hS 0 rfl rfl 1 (by decide) (hts (.fieldLink RX8 26 "StoryHouse$Teller" "told" "LStoryHouse$Out;") wq_287) (fun _ h9 => h9) rfl hin rfl (by decide +kernel) rfl rfl (Nat.le_of_ble_eq_true rfl) dX8_init_35 (fun H_11 locs hP' hD' hS' => ?_)
  replace hP : va_P (dC, dI) vwCl [(h0, .inr (8, [.ref a1, .ref a2, .null, .null, .ref q_1, .int 0, .ref q_4, .int 0, .int 0, .int 0, .int 0, .int 0, .int 0, .int 0, .ref q_7, .int 0])), (q_1, .inl (cB, 120, .inl ((fun _ => 0)))), (q_4, .inl (cI, 12, .inl ((fun _ => 0)))), (q_7, .inl (cI, 120, .inl ((fun _ => 0))))] H_11 := hP'
  replace hD : va_D A [(h0, .inr (8, [.ref a1, .ref a2, .null, .null, .ref q_1, .int 0, .ref q_4, .int 0, .int 0, .int 0, .int 0, .int 0, .int 0, .int 0, .ref q_7, .int 0])), (q_1, .inl (cB, 120, .inl ((fun _ => 0)))), (q_4, .inl (cI, 12, .inl ((fun _ => 0)))), (q_7, .inl (cI, 120, .inl ((fun _ => 0))))] := hD'
  replace hS := hS'
  clear hP' hD' hS'
  refine lv_aload_n hx hb dX8_init_38 rfl (lv_at hl 0 rfl) ?_
  refine lv_aload_n hx hb dX8_init_39 rfl (lv_at hl 3 rfl) ?_
  refine va_putF (D := (dC, dI)) (ci := 8) (v := .ref a3) (ty := .object "StoryHouse$Machine") (C := RX8) (T := TX8) (N := 16) hx hb hts ii_X8 tyX8 tyX8_ok nmX8 hown hK hP hD hS 0 rfl rfl 2 (by decide) (hts (.fieldLink RX8 30 "StoryHouse$Teller" "machine" "LStoryHouse$Machine;") wq_288) (fun _ h9 => h9) rfl hin rfl (by decide +kernel) rfl rfl (Nat.le_of_ble_eq_true rfl) dX8_init_40 (fun H_12 locs hP' hD' hS' => ?_)
  replace hP : va_P (dC, dI) vwCl [(h0, .inr (8, [.ref a1, .ref a2, .ref a3, .null, .ref q_1, .int 0, .ref q_4, .int 0, .int 0, .int 0, .int 0, .int 0, .int 0, .int 0, .ref q_7, .int 0])), (q_1, .inl (cB, 120, .inl ((fun _ => 0)))), (q_4, .inl (cI, 12, .inl ((fun _ => 0)))), (q_7, .inl (cI, 120, .inl ((fun _ => 0))))] H_12 := hP'
  replace hD : va_D A [(h0, .inr (8, [.ref a1, .ref a2, .ref a3, .null, .ref q_1, .int 0, .ref q_4, .int 0, .int 0, .int 0, .int 0, .int 0, .int 0, .int 0, .ref q_7, .int 0])), (q_1, .inl (cB, 120, .inl ((fun _ => 0)))), (q_4, .inl (cI, 12, .inl ((fun _ => 0)))), (q_7, .inl (cI, 120, .inl ((fun _ => 0))))] := hD'
  replace hS := hS'
  clear hP' hD' hS'
  have hP9 := hP.sub (ws' := [(h0, .inr (8, [.ref a1, .ref a2, .ref a3, .null, .ref q_1, .int 0, .ref q_4, .int 0, .int 0, .int 0, .int 0, .int 0, .int 0, .int 0, .ref q_7, .int 0])), (q_1, .inl (cB, 120, .inl ((fun _ => 0)))), (q_4, .inl (cI, 12, .inl ((fun _ => 0)))), (q_7, .inl (cI, 120, .inl ((fun _ => 0))))]) [0, 1, 2, 3] rfl
  have hD9 := hD.sub (ws' := [(h0, .inr (8, [.ref a1, .ref a2, .ref a3, .null, .ref q_1, .int 0, .ref q_4, .int 0, .int 0, .int 0, .int 0, .int 0, .int 0, .int 0, .ref q_7, .int 0])), (q_1, .inl (cB, 120, .inl ((fun _ => 0)))), (q_4, .inl (cI, 12, .inl ((fun _ => 0)))), (q_7, .inl (cI, 120, .inl ((fun _ => 0))))]) [0, 1, 2, 3] (by decide +kernel) rfl
  refine W.widen (k := 3) (n := 252) (Nat.le_of_ble_eq_true rfl) (Nat.le_of_ble_eq_true rfl) ?_
  exact W.vret hx hb hr (fun t ht hW => ⟨⟨(q_1, q_4, q_7), rfl, (by first | trivial | rfl | assumption), by rw [ht]; exact hP9, hD9⟩, hS.F ht⟩) hS.2.2 dX8_init_43
