/-! methods of the class: what each does is its function -/
theorem dX2_block_0 : decode cX2_block 0 = .ok (.aload_n 0, 1) := by decide +kernel
theorem dX2_block_1 : decode cX2_block 1 = .ok (.bipush 123, 2) := by decide +kernel
theorem dX2_block_3 : decode cX2_block 3 = .ok (.invokevirtual 123, 3) := by decide +kernel
theorem dX2_block_6 : decode cX2_block 6 = .ok (.iconst 0, 1) := by decide +kernel
theorem dX2_block_7 : decode cX2_block 7 = .ok (.istore_n 1, 1) := by decide +kernel
theorem dX2_block_8 : decode cX2_block 8 = .ok (.iload_n 1, 1) := by decide +kernel
theorem dX2_block_9 : decode cX2_block 9 = .ok (.aload_n 0, 1) := by decide +kernel
theorem dX2_block_10 : decode cX2_block 10 = .ok (.getfield 9, 3) := by decide +kernel
theorem dX2_block_13 : decode cX2_block 13 = .ok (.getfield 38, 3) := by decide +kernel
theorem dX2_block_16 : decode cX2_block 16 = .ok (.if_icmp .ge 29, 3) := by decide +kernel
theorem dX2_block_19 : decode cX2_block 19 = .ok (.aload_n 0, 1) := by decide +kernel
theorem dX2_block_20 : decode cX2_block 20 = .ok (.getfield 29, 3) := by decide +kernel
theorem dX2_block_23 : decode cX2_block 23 = .ok (.bipush 125, 2) := by decide +kernel
theorem dX2_block_25 : decode cX2_block 25 = .ok (.if_icmp .eq 20, 3) := by decide +kernel
theorem dX2_block_28 : decode cX2_block 28 = .ok (.aload_n 0, 1) := by decide +kernel
theorem dX2_block_29 : decode cX2_block 29 = .ok (.getfield 29, 3) := by decide +kernel
theorem dX2_block_32 : decode cX2_block 32 = .ok (.ifCond .eq 13, 3) := by decide +kernel
theorem dX2_block_35 : decode cX2_block 35 = .ok (.aload_n 0, 1) := by decide +kernel
theorem dX2_block_36 : decode cX2_block 36 = .ok (.invokevirtual 143, 3) := by decide +kernel
theorem dX2_block_39 : decode cX2_block 39 = .ok (.iinc 1 1, 3) := by decide +kernel
theorem dX2_block_42 : decode cX2_block 42 = .ok (.goto (-34), 3) := by decide +kernel
theorem dX2_block_45 : decode cX2_block 45 = .ok (.aload_n 0, 1) := by decide +kernel
theorem dX2_block_46 : decode cX2_block 46 = .ok (.bipush 125, 2) := by decide +kernel
theorem dX2_block_48 : decode cX2_block 48 = .ok (.invokevirtual 130, 3) := by decide +kernel
theorem dX2_block_51 : decode cX2_block 51 = .ok (.return_, 1) := by decide +kernel
theorem dX2_statement_0 : decode cX2_statement 0 = .ok (.aload_n 0, 1) := by decide +kernel
theorem dX2_statement_1 : decode cX2_statement 1 = .ok (.getfield 29, 3) := by decide +kernel
theorem dX2_statement_4 : decode cX2_statement 4 = .ok (.invokestatic 146, 3) := by decide +kernel
theorem dX2_statement_7 : decode cX2_statement 7 = .ok (.istore_n 1, 1) := by decide +kernel
theorem dX2_statement_8 : decode cX2_statement 8 = .ok (.aload_n 0, 1) := by decide +kernel
theorem dX2_statement_9 : decode cX2_statement 9 = .ok (.getfield 29, 3) := by decide +kernel
theorem dX2_statement_12 : decode cX2_statement 12 = .ok (.sipush 248, 3) := by decide +kernel
theorem dX2_statement_15 : decode cX2_statement 15 = .ok (.if_icmp .ne 12, 3) := by decide +kernel
theorem dX2_statement_18 : decode cX2_statement 18 = .ok (.aload_n 0, 1) := by decide +kernel
theorem dX2_statement_19 : decode cX2_statement 19 = .ok (.invokevirtual 107, 3) := by decide +kernel
theorem dX2_statement_22 : decode cX2_statement 22 = .ok (.aload_n 0, 1) := by decide +kernel
theorem dX2_statement_23 : decode cX2_statement 23 = .ok (.invokevirtual 149, 3) := by decide +kernel
theorem dX2_statement_26 : decode cX2_statement 26 = .ok (.return_, 1) := by decide +kernel
theorem dX2_statement_27 : decode cX2_statement 27 = .ok (.aload_n 0, 1) := by decide +kernel
theorem dX2_statement_28 : decode cX2_statement 28 = .ok (.getfield 29, 3) := by decide +kernel
theorem dX2_statement_31 : decode cX2_statement 31 = .ok (.sipush 250, 3) := by decide +kernel
theorem dX2_statement_34 : decode cX2_statement 34 = .ok (.if_icmp .ne 12, 3) := by decide +kernel
theorem dX2_statement_37 : decode cX2_statement 37 = .ok (.aload_n 0, 1) := by decide +kernel
theorem dX2_statement_38 : decode cX2_statement 38 = .ok (.invokevirtual 107, 3) := by decide +kernel
theorem dX2_statement_41 : decode cX2_statement 41 = .ok (.aload_n 0, 1) := by decide +kernel
theorem dX2_statement_42 : decode cX2_statement 42 = .ok (.invokevirtual 152, 3) := by decide +kernel
theorem dX2_statement_45 : decode cX2_statement 45 = .ok (.return_, 1) := by decide +kernel
theorem dX2_statement_46 : decode cX2_statement 46 = .ok (.iload_n 1, 1) := by decide +kernel
theorem dX2_statement_47 : decode cX2_statement 47 = .ok (.iconst (-1), 1) := by decide +kernel
theorem dX2_statement_48 : decode cX2_statement 48 = .ok (.if_icmp .eq 15, 3) := by decide +kernel
theorem dX2_statement_51 : decode cX2_statement 51 = .ok (.aload_n 0, 1) := by decide +kernel
theorem dX2_statement_52 : decode cX2_statement 52 = .ok (.invokevirtual 107, 3) := by decide +kernel
theorem dX2_statement_55 : decode cX2_statement 55 = .ok (.aload_n 0, 1) := by decide +kernel
theorem dX2_statement_56 : decode cX2_statement 56 = .ok (.iload_n 1, 1) := by decide +kernel
theorem dX2_statement_57 : decode cX2_statement 57 = .ok (.invokevirtual 155, 3) := by decide +kernel
theorem dX2_statement_60 : decode cX2_statement 60 = .ok (.goto 57, 3) := by decide +kernel
theorem dX2_statement_63 : decode cX2_statement 63 = .ok (.aload_n 0, 1) := by decide +kernel
theorem dX2_statement_64 : decode cX2_statement 64 = .ok (.sipush 241, 3) := by decide +kernel
theorem dX2_statement_67 : decode cX2_statement 67 = .ok (.invokevirtual 126, 3) := by decide +kernel
theorem dX2_statement_70 : decode cX2_statement 70 = .ok (.ifCond .eq 10, 3) := by decide +kernel
theorem dX2_statement_73 : decode cX2_statement 73 = .ok (.aload_n 0, 1) := by decide +kernel
theorem dX2_statement_74 : decode cX2_statement 74 = .ok (.invokevirtual 158, 3) := by decide +kernel
theorem dX2_statement_77 : decode cX2_statement 77 = .ok (.goto 40, 3) := by decide +kernel
theorem dX2_statement_80 : decode cX2_statement 80 = .ok (.aload_n 0, 1) := by decide +kernel
theorem dX2_statement_81 : decode cX2_statement 81 = .ok (.sipush 242, 3) := by decide +kernel
theorem dX2_statement_84 : decode cX2_statement 84 = .ok (.invokevirtual 126, 3) := by decide +kernel
theorem dX2_statement_87 : decode cX2_statement 87 = .ok (.ifCond .eq 10, 3) := by decide +kernel
theorem dX2_statement_90 : decode cX2_statement 90 = .ok (.aload_n 0, 1) := by decide +kernel
theorem dX2_statement_91 : decode cX2_statement 91 = .ok (.invokevirtual 161, 3) := by decide +kernel
theorem dX2_statement_94 : decode cX2_statement 94 = .ok (.goto 23, 3) := by decide +kernel
theorem dX2_statement_97 : decode cX2_statement 97 = .ok (.aload_n 0, 1) := by decide +kernel
theorem dX2_statement_98 : decode cX2_statement 98 = .ok (.getfield 29, 3) := by decide +kernel
theorem dX2_statement_101 : decode cX2_statement 101 = .ok (.iconst 2, 1) := by decide +kernel
theorem dX2_statement_102 : decode cX2_statement 102 = .ok (.if_icmp .ne 10, 3) := by decide +kernel
theorem dX2_statement_105 : decode cX2_statement 105 = .ok (.aload_n 0, 1) := by decide +kernel
theorem dX2_statement_106 : decode cX2_statement 106 = .ok (.invokevirtual 164, 3) := by decide +kernel
theorem dX2_statement_109 : decode cX2_statement 109 = .ok (.goto 8, 3) := by decide +kernel
theorem dX2_statement_112 : decode cX2_statement 112 = .ok (.aload_n 0, 1) := by decide +kernel
theorem dX2_statement_113 : decode cX2_statement 113 = .ok (.iconst 2, 1) := by decide +kernel
theorem dX2_statement_114 : decode cX2_statement 114 = .ok (.invokevirtual 110, 3) := by decide +kernel
theorem dX2_statement_117 : decode cX2_statement 117 = .ok (.aload_n 0, 1) := by decide +kernel
theorem dX2_statement_118 : decode cX2_statement 118 = .ok (.bipush 59, 2) := by decide +kernel
theorem dX2_statement_120 : decode cX2_statement 120 = .ok (.invokevirtual 120, 3) := by decide +kernel
theorem dX2_statement_123 : decode cX2_statement 123 = .ok (.return_, 1) := by decide +kernel
theorem dX2_ifStatement_0 : decode cX2_ifStatement 0 = .ok (.aload_n 0, 1) := by decide +kernel
theorem dX2_ifStatement_1 : decode cX2_ifStatement 1 = .ok (.invokevirtual 167, 3) := by decide +kernel
theorem dX2_ifStatement_4 : decode cX2_ifStatement 4 = .ok (.aload_n 0, 1) := by decide +kernel
theorem dX2_ifStatement_5 : decode cX2_ifStatement 5 = .ok (.getfield 15, 3) := by decide +kernel
theorem dX2_ifStatement_8 : decode cX2_ifStatement 8 = .ok (.bipush 42, 2) := by decide +kernel
theorem dX2_ifStatement_10 : decode cX2_ifStatement 10 = .ok (.iconst 0, 1) := by decide +kernel
theorem dX2_ifStatement_11 : decode cX2_ifStatement 11 = .ok (.invokevirtual 176, 3) := by decide +kernel
theorem dX2_ifStatement_14 : decode cX2_ifStatement 14 = .ok (.istore_n 1, 1) := by decide +kernel
theorem dX2_ifStatement_15 : decode cX2_ifStatement 15 = .ok (.aload_n 0, 1) := by decide +kernel
theorem dX2_ifStatement_16 : decode cX2_ifStatement 16 = .ok (.invokevirtual 83, 3) := by decide +kernel
theorem dX2_ifStatement_19 : decode cX2_ifStatement 19 = .ok (.aload_n 0, 1) := by decide +kernel
theorem dX2_ifStatement_20 : decode cX2_ifStatement 20 = .ok (.sipush 249, 3) := by decide +kernel
theorem dX2_ifStatement_23 : decode cX2_ifStatement 23 = .ok (.invokevirtual 126, 3) := by decide +kernel
theorem dX2_ifStatement_26 : decode cX2_ifStatement 26 = .ok (.ifCond .ne 12, 3) := by decide +kernel
theorem dX2_ifStatement_29 : decode cX2_ifStatement 29 = .ok (.aload_n 0, 1) := by decide +kernel
theorem dX2_ifStatement_30 : decode cX2_ifStatement 30 = .ok (.getfield 15, 3) := by decide +kernel
theorem dX2_ifStatement_33 : decode cX2_ifStatement 33 = .ok (.iload_n 1, 1) := by decide +kernel
theorem dX2_ifStatement_34 : decode cX2_ifStatement 34 = .ok (.invokevirtual 188, 3) := by decide +kernel
theorem dX2_ifStatement_37 : decode cX2_ifStatement 37 = .ok (.return_, 1) := by decide +kernel
theorem dX2_ifStatement_38 : decode cX2_ifStatement 38 = .ok (.aload_n 0, 1) := by decide +kernel
theorem dX2_ifStatement_39 : decode cX2_ifStatement 39 = .ok (.getfield 15, 3) := by decide +kernel
theorem dX2_ifStatement_42 : decode cX2_ifStatement 42 = .ok (.bipush 41, 2) := by decide +kernel
theorem dX2_ifStatement_44 : decode cX2_ifStatement 44 = .ok (.iconst 0, 1) := by decide +kernel
theorem dX2_ifStatement_45 : decode cX2_ifStatement 45 = .ok (.invokevirtual 176, 3) := by decide +kernel
theorem dX2_ifStatement_48 : decode cX2_ifStatement 48 = .ok (.istore_n 2, 1) := by decide +kernel
theorem dX2_ifStatement_49 : decode cX2_ifStatement 49 = .ok (.aload_n 0, 1) := by decide +kernel
theorem dX2_ifStatement_50 : decode cX2_ifStatement 50 = .ok (.getfield 15, 3) := by decide +kernel
theorem dX2_ifStatement_53 : decode cX2_ifStatement 53 = .ok (.iload_n 1, 1) := by decide +kernel
theorem dX2_ifStatement_54 : decode cX2_ifStatement 54 = .ok (.invokevirtual 188, 3) := by decide +kernel
theorem dX2_ifStatement_57 : decode cX2_ifStatement 57 = .ok (.aload_n 0, 1) := by decide +kernel
theorem dX2_ifStatement_58 : decode cX2_ifStatement 58 = .ok (.getfield 29, 3) := by decide +kernel
theorem dX2_ifStatement_61 : decode cX2_ifStatement 61 = .ok (.sipush 248, 3) := by decide +kernel
theorem dX2_ifStatement_64 : decode cX2_ifStatement 64 = .ok (.if_icmp .ne 24, 3) := by decide +kernel
theorem dX2_ifStatement_67 : decode cX2_ifStatement 67 = .ok (.aload_n 0, 1) := by decide +kernel
theorem dX2_ifStatement_68 : decode cX2_ifStatement 68 = .ok (.invokevirtual 117, 3) := by decide +kernel
theorem dX2_ifStatement_71 : decode cX2_ifStatement 71 = .ok (.aload_n 0, 1) := by decide +kernel
theorem dX2_ifStatement_72 : decode cX2_ifStatement 72 = .ok (.invokevirtual 149, 3) := by decide +kernel
theorem dX2_ifStatement_75 : decode cX2_ifStatement 75 = .ok (.aload_n 0, 1) := by decide +kernel
theorem dX2_ifStatement_76 : decode cX2_ifStatement 76 = .ok (.dup, 1) := by decide +kernel
theorem dX2_ifStatement_77 : decode cX2_ifStatement 77 = .ok (.getfield 32, 3) := by decide +kernel
theorem dX2_ifStatement_80 : decode cX2_ifStatement 80 = .ok (.iconst 1, 1) := by decide +kernel
theorem dX2_ifStatement_81 : decode cX2_ifStatement 81 = .ok (.isub, 1) := by decide +kernel
theorem dX2_ifStatement_82 : decode cX2_ifStatement 82 = .ok (.putfield 32, 3) := by decide +kernel
theorem dX2_ifStatement_85 : decode cX2_ifStatement 85 = .ok (.goto 7, 3) := by decide +kernel
theorem dX2_ifStatement_88 : decode cX2_ifStatement 88 = .ok (.aload_n 0, 1) := by decide +kernel
theorem dX2_ifStatement_89 : decode cX2_ifStatement 89 = .ok (.invokevirtual 83, 3) := by decide +kernel
theorem dX2_ifStatement_92 : decode cX2_ifStatement 92 = .ok (.aload_n 0, 1) := by decide +kernel
theorem dX2_ifStatement_93 : decode cX2_ifStatement 93 = .ok (.getfield 15, 3) := by decide +kernel
theorem dX2_ifStatement_96 : decode cX2_ifStatement 96 = .ok (.iload_n 2, 1) := by decide +kernel
theorem dX2_ifStatement_97 : decode cX2_ifStatement 97 = .ok (.invokevirtual 188, 3) := by decide +kernel
theorem dX2_ifStatement_100 : decode cX2_ifStatement 100 = .ok (.return_, 1) := by decide +kernel
theorem dX2_whileStatement_0 : decode cX2_whileStatement 0 = .ok (.aload_n 0, 1) := by decide +kernel
theorem dX2_whileStatement_1 : decode cX2_whileStatement 1 = .ok (.getfield 15, 3) := by decide +kernel
theorem dX2_whileStatement_4 : decode cX2_whileStatement 4 = .ok (.getfield 191, 3) := by decide +kernel
theorem dX2_whileStatement_7 : decode cX2_whileStatement 7 = .ok (.istore_n 1, 1) := by decide +kernel
theorem dX2_whileStatement_8 : decode cX2_whileStatement 8 = .ok (.aload_n 0, 1) := by decide +kernel
theorem dX2_whileStatement_9 : decode cX2_whileStatement 9 = .ok (.invokevirtual 167, 3) := by decide +kernel
theorem dX2_whileStatement_12 : decode cX2_whileStatement 12 = .ok (.aload_n 0, 1) := by decide +kernel
theorem dX2_whileStatement_13 : decode cX2_whileStatement 13 = .ok (.getfield 15, 3) := by decide +kernel
theorem dX2_whileStatement_16 : decode cX2_whileStatement 16 = .ok (.bipush 42, 2) := by decide +kernel
theorem dX2_whileStatement_18 : decode cX2_whileStatement 18 = .ok (.iconst 0, 1) := by decide +kernel
theorem dX2_whileStatement_19 : decode cX2_whileStatement 19 = .ok (.invokevirtual 176, 3) := by decide +kernel
theorem dX2_whileStatement_22 : decode cX2_whileStatement 22 = .ok (.istore_n 2, 1) := by decide +kernel
theorem dX2_whileStatement_23 : decode cX2_whileStatement 23 = .ok (.aload_n 0, 1) := by decide +kernel
theorem dX2_whileStatement_24 : decode cX2_whileStatement 24 = .ok (.getfield 15, 3) := by decide +kernel
theorem dX2_whileStatement_27 : decode cX2_whileStatement 27 = .ok (.iconst 3, 1) := by decide +kernel
theorem dX2_whileStatement_28 : decode cX2_whileStatement 28 = .ok (.invokevirtual 90, 3) := by decide +kernel
theorem dX2_whileStatement_31 : decode cX2_whileStatement 31 = .ok (.aload_n 0, 1) := by decide +kernel
theorem dX2_whileStatement_32 : decode cX2_whileStatement 32 = .ok (.invokevirtual 83, 3) := by decide +kernel
theorem dX2_whileStatement_35 : decode cX2_whileStatement 35 = .ok (.aload_n 0, 1) := by decide +kernel
theorem dX2_whileStatement_36 : decode cX2_whileStatement 36 = .ok (.getfield 15, 3) := by decide +kernel
theorem dX2_whileStatement_39 : decode cX2_whileStatement 39 = .ok (.bipush 41, 2) := by decide +kernel
theorem dX2_whileStatement_41 : decode cX2_whileStatement 41 = .ok (.iload_n 1, 1) := by decide +kernel
theorem dX2_whileStatement_42 : decode cX2_whileStatement 42 = .ok (.invokevirtual 176, 3) := by decide +kernel
theorem dX2_whileStatement_45 : decode cX2_whileStatement 45 = .ok (.pop, 1) := by decide +kernel
theorem dX2_whileStatement_46 : decode cX2_whileStatement 46 = .ok (.aload_n 0, 1) := by decide +kernel
theorem dX2_whileStatement_47 : decode cX2_whileStatement 47 = .ok (.getfield 15, 3) := by decide +kernel
theorem dX2_whileStatement_50 : decode cX2_whileStatement 50 = .ok (.iload_n 2, 1) := by decide +kernel
theorem dX2_whileStatement_51 : decode cX2_whileStatement 51 = .ok (.invokevirtual 188, 3) := by decide +kernel
theorem dX2_whileStatement_54 : decode cX2_whileStatement 54 = .ok (.return_, 1) := by decide +kernel
def F_X2_block (rec : HG)  (Γ : HS) : HR :=
  (F_X2_open 123 Γ).bind fun u_1 =>
  loopF (fun (again_4 : (Int32 × HS) → HR) (s_3 : Int32 × HS) => (
    bnd (fun  (σ_7 : HS) => (
      (F_X2_shut 125 σ_7).bind fun u_11 =>
      some (0, u_11.2)
    ) : HS → HR) fun j_8 =>
    if ((s_3.2 1).1 2) ≤ s_3.1 then (
      j_8  s_3.2
    ) else (
      if ((s_3.2 2).1 3) = 125 then (
        j_8  s_3.2
      ) else (
        if ((s_3.2 2).1 3) = 0 then (
          j_8  s_3.2
        ) else (
          (rec 1 0 0 0 s_3.2).bind fun u_22 =>
          bnd (s_3.1 + 1) fun (x_24 : Int32) =>
          again_4 (x_24, u_22.2)
        )
      )
    )
  )) FU (0, u_1.2)
set_option maxHeartbeats 4000000 in
set_option maxRecDepth 100000 in
theorem k_X2_block_st (l : Launch) (dC : Nat → ClassId) (dI : Nat → Nat → Nat) (cB cC cI cJ cZ cP : ClassId) (oA : Nat → Nat) (rA : Nat → Nat → Nat) (d : Nat) (rec : HG) (hI0 : ∀ (sz : Nat)  (Γ : HS) (res : Int32 × HS), rec 0 0 0 0 Γ = some res → Met l yX2_block (g_ws yX2_block cX2_block 2 none) ({ frames := 306 + d, cells := 0, slots := 0, locals := 6746 + 22 * d }) (va_Pc [.ref (oA 2)] (g_B (dC, dI) [(cB, .byte), (cC, .char), (cI, .int), (cJ, .long), (cZ, .boolean), (cP, .object "StoryHouse$Play")] sz (b_g cB cC cI cJ cZ oA rA Γ ++ b_w cB cC cI cJ cZ oA rA Γ ++ b_c cB cC cI cJ cZ oA rA Γ) g_0)) (va_Qv (fun (_ : Unit) => True) (g_Bo (dC, dI) (va_A (b_g cB cC cI cJ cZ oA rA Γ ++ b_w cB cC cI cJ cZ oA rA Γ ++ b_c cB cC cI cJ cZ oA rA Γ) sz) (fun (_ : Unit) => (b_g cB cC cI cJ cZ oA rA res.2 ++ b_w cB cC cI cJ cZ oA rA res.2 ++ b_c cB cC cI cJ cZ oA rA res.2))) (va_A (b_g cB cC cI cJ cZ oA rA Γ ++ b_w cB cC cI cJ cZ oA rA Γ ++ b_c cB cC cI cJ cZ oA rA Γ) sz)) 0 0 (va_A (b_g cB cC cI cJ cZ oA rA Γ ++ b_w cB cC cI cJ cZ oA rA Γ ++ b_c cB cC cI cJ cZ oA rA Γ) sz)) (hI1 : ∀ (sz : Nat)  (Γ : HS) (res : Int32 × HS), rec 1 0 0 0 Γ = some res → Met l yX2_statement (g_ws yX2_statement cX2_statement 2 none) ({ frames := 306 + d, cells := 0, slots := 0, locals := 6746 + 22 * d }) (va_Pc [.ref (oA 2)] (g_B (dC, dI) [(cB, .byte), (cC, .char), (cI, .int), (cJ, .long), (cZ, .boolean), (cP, .object "StoryHouse$Play")] sz (b_g cB cC cI cJ cZ oA rA Γ ++ b_w cB cC cI cJ cZ oA rA Γ ++ b_c cB cC cI cJ cZ oA rA Γ) g_0)) (va_Qv (fun (_ : Unit) => True) (g_Bo (dC, dI) (va_A (b_g cB cC cI cJ cZ oA rA Γ ++ b_w cB cC cI cJ cZ oA rA Γ ++ b_c cB cC cI cJ cZ oA rA Γ) sz) (fun (_ : Unit) => (b_g cB cC cI cJ cZ oA rA res.2 ++ b_w cB cC cI cJ cZ oA rA res.2 ++ b_c cB cC cI cJ cZ oA rA res.2))) (va_A (b_g cB cC cI cJ cZ oA rA Γ ++ b_w cB cC cI cJ cZ oA rA Γ ++ b_c cB cC cI cJ cZ oA rA Γ) sz)) 0 0 (va_A (b_g cB cC cI cJ cZ oA rA Γ ++ b_w cB cC cI cJ cZ oA rA Γ ++ b_c cB cC cI cJ cZ oA rA Γ) sz)) (hI2 : ∀ (sz : Nat)  (Γ : HS) (res : Int32 × HS), rec 2 0 0 0 Γ = some res → Met l yX2_ifStatement (g_ws yX2_ifStatement cX2_ifStatement 3 none) ({ frames := 306 + d, cells := 0, slots := 0, locals := 6746 + 22 * d }) (va_Pc [.ref (oA 2)] (g_B (dC, dI) [(cB, .byte), (cC, .char), (cI, .int), (cJ, .long), (cZ, .boolean), (cP, .object "StoryHouse$Play")] sz (b_g cB cC cI cJ cZ oA rA Γ ++ b_w cB cC cI cJ cZ oA rA Γ ++ b_c cB cC cI cJ cZ oA rA Γ) g_0)) (va_Qv (fun (_ : Unit) => True) (g_Bo (dC, dI) (va_A (b_g cB cC cI cJ cZ oA rA Γ ++ b_w cB cC cI cJ cZ oA rA Γ ++ b_c cB cC cI cJ cZ oA rA Γ) sz) (fun (_ : Unit) => (b_g cB cC cI cJ cZ oA rA res.2 ++ b_w cB cC cI cJ cZ oA rA res.2 ++ b_c cB cC cI cJ cZ oA rA res.2))) (va_A (b_g cB cC cI cJ cZ oA rA Γ ++ b_w cB cC cI cJ cZ oA rA Γ ++ b_c cB cC cI cJ cZ oA rA Γ) sz)) 0 0 (va_A (b_g cB cC cI cJ cZ oA rA Γ ++ b_w cB cC cI cJ cZ oA rA Γ ++ b_c cB cC cI cJ cZ oA rA Γ) sz)) (hI3 : ∀ (sz : Nat)  (Γ : HS) (res : Int32 × HS), rec 3 0 0 0 Γ = some res → Met l yX2_whileStatement (g_ws yX2_whileStatement cX2_whileStatement 3 none) ({ frames := 306 + d, cells := 0, slots := 0, locals := 6746 + 22 * d }) (va_Pc [.ref (oA 2)] (g_B (dC, dI) [(cB, .byte), (cC, .char), (cI, .int), (cJ, .long), (cZ, .boolean), (cP, .object "StoryHouse$Play")] sz (b_g cB cC cI cJ cZ oA rA Γ ++ b_w cB cC cI cJ cZ oA rA Γ ++ b_c cB cC cI cJ cZ oA rA Γ) g_0)) (va_Qv (fun (_ : Unit) => True) (g_Bo (dC, dI) (va_A (b_g cB cC cI cJ cZ oA rA Γ ++ b_w cB cC cI cJ cZ oA rA Γ ++ b_c cB cC cI cJ cZ oA rA Γ) sz) (fun (_ : Unit) => (b_g cB cC cI cJ cZ oA rA res.2 ++ b_w cB cC cI cJ cZ oA rA res.2 ++ b_c cB cC cI cJ cZ oA rA res.2))) (va_A (b_g cB cC cI cJ cZ oA rA Γ ++ b_w cB cC cI cJ cZ oA rA Γ ++ b_c cB cC cI cJ cZ oA rA Γ) sz)) 0 0 (va_A (b_g cB cC cI cJ cZ oA rA Γ ++ b_w cB cC cI cJ cZ oA rA Γ ++ b_c cB cC cI cJ cZ oA rA Γ) sz)) (sz : Nat)   (Γ : HS) (res : Int32 × HS) (hF : F_X2_block rec  Γ = some res) : Met l yX2_block (g_ws yX2_block cX2_block 2 none) ({ frames := 306 + (d + 1), cells := 0, slots := 0, locals := 6746 + 22 * (d + 1) }) (va_Pc [.ref (oA 2)] (g_B (dC, dI) [(cB, .byte), (cC, .char), (cI, .int), (cJ, .long), (cZ, .boolean), (cP, .object "StoryHouse$Play")] sz (b_g cB cC cI cJ cZ oA rA Γ ++ b_w cB cC cI cJ cZ oA rA Γ ++ b_c cB cC cI cJ cZ oA rA Γ) g_0)) (va_Qv (fun (_ : Unit) => True) (g_Bo (dC, dI) (va_A (b_g cB cC cI cJ cZ oA rA Γ ++ b_w cB cC cI cJ cZ oA rA Γ ++ b_c cB cC cI cJ cZ oA rA Γ) sz) (fun (_ : Unit) => (b_g cB cC cI cJ cZ oA rA res.2 ++ b_w cB cC cI cJ cZ oA rA res.2 ++ b_c cB cC cI cJ cZ oA rA res.2))) (va_A (b_g cB cC cI cJ cZ oA rA Γ ++ b_w cB cC cI cJ cZ oA rA Γ ++ b_c cB cC cI cJ cZ oA rA Γ) sz)) 0 0 (va_A (b_g cB cC cI cJ cZ oA rA Γ ++ b_w cB cC cI cJ cZ oA rA Γ ++ b_c cB cC cI cJ cZ oA rA Γ) sz) := by
  refine Met.ofW (cc := cX2_block) (maxL := 2) (ret := none) (by decide) rfl ?_
  intro p e s m args below meth c s₁ B hml hv
  obtain ⟨rfl, hsz, hP, hK, hD0, hE, hX⟩ := hv
  have hx := B.exec
  have hb := B.bytes
  have hr := B.returns
  have hts0 := atoms_spec (ws := g_ws yX2_block cX2_block 2 none) B.pre
  have hts : ∀ w ∈ lw_good, w.before ([.ref (oA 2)] : List Value).toArray s = true := fun w z => hts0 w (List.mem_cons_of_mem _ z)
  have hown : s.vm.findClass RX2 = some m.cls := findClass_of_methodNamed B.named
  have hlocks := B.notSynchronized
  subst hsz
  have hD1 := hD0.self (sz := s.heap.size)
  generalize hAe : va_A (b_g cB cC cI cJ cZ oA rA Γ ++ b_w cB cC cI cJ cZ oA rA Γ ++ b_c cB cC cI cJ cZ oA rA Γ) s.heap.size = A at hD1 hE hX ⊢
  have hA : ∀ q : Nat, s.heap.size ≤ q → A q := fun q z => by rw [← hAe]; exact Or.inr z
  have hDD : ∀ Γ : HS, va_D A (b_g cB cC cI cJ cZ oA rA Γ ++ b_w cB cC cI cJ cZ oA rA Γ ++ b_c cB cC cI cJ cZ oA rA Γ) := fun Γ9 => va_D_fst (ws := (b_g cB cC cI cJ cZ oA rA Γ ++ b_w cB cC cI cJ cZ oA rA Γ ++ b_c cB cC cI cJ cZ oA rA Γ)) (ws' := (b_g cB cC cI cJ cZ oA rA Γ9 ++ b_w cB cC cI cJ cZ oA rA Γ9 ++ b_c cB cC cI cJ cZ oA rA Γ9)) rfl hD1
  have hN := hE.1
  have hS : va_S A s.heap s.heap [] := va_S.rf
  have hl := lv_entry ([.ref (oA 2)]) (n := 2) (Nat.le_of_ble_eq_true rfl)
  rw [lg_entry_eq]
  generalize (lg_sl ([.ref (oA 2)]) ++ List.replicate (2 - (lg_sl ([.ref (oA 2)])).length) Slot.unset).toArray = ls at hl ⊢
  have hl : lv_has ls 2 [(0, .ref (oA 2))] := hl
  unfold F_X2_block at hF
  refine lv_aload_n hx hb dX2_block_0 rfl (lv_at hl 0 rfl) ?_
  refine lv_bipush (v := 123) hx hb dX2_block_1 (by decide +kernel) ?_
  obtain ⟨u_1, hu_1, hF_2⟩ := Option.bind_eq_some_iff.mp hF
  clear hF
  have hPc := bx_P (bs := [b_g cB cC cI cJ cZ oA rA Γ, b_w cB cC cI cJ cZ oA rA Γ, b_c cB cC cI cJ cZ oA rA Γ]) (bs' := [b_g cB cC cI cJ cZ oA rA Γ, b_w cB cC cI cJ cZ oA rA Γ, b_c cB cC cI cJ cZ oA rA Γ]) (ws' := (b_g cB cC cI cJ cZ oA rA Γ ++ b_w cB cC cI cJ cZ oA rA Γ ++ b_c cB cC cI cJ cZ oA rA Γ)) hP fl_3 fl_3 [0, 1, 2] rfl
  have hDc := bx_D (bs := [b_g cB cC cI cJ cZ oA rA Γ, b_w cB cC cI cJ cZ oA rA Γ, b_c cB cC cI cJ cZ oA rA Γ]) (bs' := [b_g cB cC cI cJ cZ oA rA Γ, b_w cB cC cI cJ cZ oA rA Γ, b_c cB cC cI cJ cZ oA rA Γ]) (ws' := (b_g cB cC cI cJ cZ oA rA Γ ++ b_w cB cC cI cJ cZ oA rA Γ ++ b_c cB cC cI cJ cZ oA rA Γ)) (hDD Γ) fl_3 fl_3 [0, 1, 2] (by decide +kernel) rfl
  have hFc := bx_F (bs := [b_g cB cC cI cJ cZ oA rA Γ, b_w cB cC cI cJ cZ oA rA Γ, b_c cB cC cI cJ cZ oA rA Γ]) (bs' := [b_g cB cC cI cJ cZ oA rA Γ, b_w cB cC cI cJ cZ oA rA Γ, b_c cB cC cI cJ cZ oA rA Γ]) (wc := (b_g cB cC cI cJ cZ oA rA Γ ++ b_w cB cC cI cJ cZ oA rA Γ ++ b_c cB cC cI cJ cZ oA rA Γ)) (hDD Γ) hS hA fl_3 fl_3 [0, 1, 2] rfl
  refine g_ofv (wc := (b_g cB cC cI cJ cZ oA rA Γ ++ b_w cB cC cI cJ cZ oA rA Γ ++ b_c cB cC cI cJ cZ oA rA Γ)) (wr := ([] : va_W)) hP (hDD Γ) hS hFc (bx_ix [b_g cB cC cI cJ cZ oA rA Γ, b_w cB cC cI cJ cZ oA rA Γ, b_c cB cC cI cJ cZ oA rA Γ] [0, 1, 2]) (bx_ix [b_g cB cC cI cJ cZ oA rA Γ, b_w cB cC cI cJ cZ oA rA Γ, b_c cB cC cI cJ cZ oA rA Γ] []) (bx_C (bs := [b_g cB cC cI cJ cZ oA rA Γ, b_w cB cC cI cJ cZ oA rA Γ, b_c cB cC cI cJ cZ oA rA Γ]) (bs' := [b_g cB cC cI cJ cZ oA rA Γ, b_w cB cC cI cJ cZ oA rA Γ, b_c cB cC cI cJ cZ oA rA Γ]) (is := [0, 1, 2]) fl_3 fl_3 rfl) (bx_C (bs := [b_g cB cC cI cJ cZ oA rA Γ, b_w cB cC cI cJ cZ oA rA Γ, b_c cB cC cI cJ cZ oA rA Γ]) (bs' := []) (is := []) fl_3 fl_0 rfl) (bx_n (by decide +kernel)) (bx_d (by decide +kernel)) (va_runV (As := [.int 123]) (rest := []) ⟨hx, hb, hml, hown, hts⟩ (k_X2_open l dC dI cB cC cI cJ cZ cP oA rA s.heap.size  123 Γ _ hu_1) (cwV 1 hts (g_gV wq_567 wq_568 wq_2001 wq_3 wq_569) rfl rfl rfl (by decide +kernel) ⟨by show 3 + 1 ≤ 306 + (d + 1); omega, by show 8 + (2 + 11) + 81 ≤ 6746 + 22 * (d + 1); omega⟩) (g_preV g_bl0 hK hPc hDc hS hE hFc g_to0 (q0 := 0) (ci := 2) rfl rfl) rfl rfl hl.1 rfl (lv_room (Nat.le_of_ble_eq_true rfl)) dX2_block_3 ⟨Nat.le_of_ble_eq_true rfl, Nat.le_of_ble_eq_true rfl⟩) (fun u9 H locs hw9 hP' hD' hS => ?_)
  clear hPc hDc hFc
  have hP : va_P (dC, dI) vwCl (b_g cB cC cI cJ cZ oA rA u_1.2 ++ b_w cB cC cI cJ cZ oA rA u_1.2 ++ b_c cB cC cI cJ cZ oA rA u_1.2) H := hP'
  clear hP' hD'
  refine lv_iconst (v := 0) hx hb dX2_block_6 (by decide +kernel) ?_
  refine lv_istore_n (lv' := [(1, .int 0), (0, .ref (oA 2))]) hx hb dX2_block_7 rfl hl (by decide) rfl (fun ls hl => ?_)
  refine loopF_ind (P := fun (s_3 : Int32 × HS) => ∀ (H : Heap) (locs : List Loc), va_P (dC, dI) vwCl (b_g cB cC cI cJ cZ oA rA s_3.2 ++ b_w cB cC cI cJ cZ oA rA s_3.2 ++ b_c cB cC cI cJ cZ oA rA s_3.2) H → va_S A s.heap H locs → ∀ ls : Array Slot, lv_has ls 2 [(0, .ref (oA 2)), (1, .int s_3.1)] → W p l e (headSpec (g_ws yX2_block cX2_block 2 none) { frames := 306 + (d + 1), cells := 0, slots := 0, locals := 6746 + 22 * (d + 1) }).room s m ([.ref (oA 2)] : List Value).toArray below meth c H locs 0 0 (MQ below (va_Qv (fun (_ : Unit) => True) (g_Bo (dC, dI) A (fun (_ : Unit) => (b_g cB cC cI cJ cZ oA rA res.2 ++ b_w cB cC cI cJ cZ oA rA res.2 ++ b_c cB cC cI cJ cZ oA rA res.2))) A) ([.ref (oA 2)] : List Value).toArray s 0 0 A) (F0 m 8 ls [])) ?_ _ _ hF_2 _ _ hP hS ls (lv_sub hl [1, 0] rfl)
  intro again_4 s_3 ih_5 hF_6
  intro H locs hP hS ls hl
  refine lv_iload_n hx hb dX2_block_8 rfl (lv_at hl 1 rfl) ?_
  refine lv_aload_n hx hb dX2_block_9 rfl (lv_at hl 0 rfl) ?_
  refine va_get (D := (dC, dI)) (ci := 2) (v := .ref (oA 1)) (C := RX2) (T := TX2) (N := 8) hx hb hts ii_X2 hown hK hP 0 rfl rfl 0 (by decide) (hts (.fieldLink RX2 9 "StoryHouse$Grammar" "words" "LStoryHouse$Words;") wq_71) (fun _ h9 => h9) rfl dX2_block_10 ?_
  refine va_get (D := (dC, dI)) (ci := 10) (v := .int ((s_3.2 1).1 2)) (C := RX10) (T := TX10) (N := 12) hx hb hts ii_X10 hown hK hP 1 rfl rfl 2 (by decide) (hts (.fieldLink RX2 38 "StoryHouse$Words" "count" "I") wq_47) (fun _ h9 => h9) rfl dX2_block_13 ?_
  obtain ⟨j_8, ej_8, hF_9⟩ := bnd_e hF_6
  clear hF_6
  have Jj_8 : ∀  (σ_7 : HS), j_8  σ_7 = some res → ∀ (H : Heap) (locs : List Loc), va_P (dC, dI) vwCl (b_g cB cC cI cJ cZ oA rA σ_7 ++ b_w cB cC cI cJ cZ oA rA σ_7 ++ b_c cB cC cI cJ cZ oA rA σ_7) H → va_S A s.heap H locs → ∀ ls : Array Slot, lv_has ls 2 [(0, .ref (oA 2))] → W p l e (headSpec (g_ws yX2_block cX2_block 2 none) { frames := 306 + (d + 1), cells := 0, slots := 0, locals := 6746 + 22 * (d + 1) }).room s m ([.ref (oA 2)] : List Value).toArray below meth c H locs 0 0 (MQ below (va_Qv (fun (_ : Unit) => True) (g_Bo (dC, dI) A (fun (_ : Unit) => (b_g cB cC cI cJ cZ oA rA res.2 ++ b_w cB cC cI cJ cZ oA rA res.2 ++ b_c cB cC cI cJ cZ oA rA res.2))) A) ([.ref (oA 2)] : List Value).toArray s 0 0 A) (F0 m 45 ls []) := by
    intro  σ_7 hF0 H locs hP hS ls hl
    subst ej_8
    have hF_10 := hF0
    clear hF0
    refine lv_aload_n hx hb dX2_block_45 rfl (lv_at hl 0 rfl) ?_
    refine lv_bipush (v := 125) hx hb dX2_block_46 (by decide +kernel) ?_
    obtain ⟨u_11, hu_11, hF_12⟩ := Option.bind_eq_some_iff.mp hF_10
    clear hF_10
    have hPc := bx_P (bs := [b_g cB cC cI cJ cZ oA rA σ_7, b_w cB cC cI cJ cZ oA rA σ_7, b_c cB cC cI cJ cZ oA rA σ_7]) (bs' := [b_g cB cC cI cJ cZ oA rA σ_7, b_w cB cC cI cJ cZ oA rA σ_7, b_c cB cC cI cJ cZ oA rA σ_7]) (ws' := (b_g cB cC cI cJ cZ oA rA σ_7 ++ b_w cB cC cI cJ cZ oA rA σ_7 ++ b_c cB cC cI cJ cZ oA rA σ_7)) hP fl_3 fl_3 [0, 1, 2] rfl
    have hDc := bx_D (bs := [b_g cB cC cI cJ cZ oA rA σ_7, b_w cB cC cI cJ cZ oA rA σ_7, b_c cB cC cI cJ cZ oA rA σ_7]) (bs' := [b_g cB cC cI cJ cZ oA rA σ_7, b_w cB cC cI cJ cZ oA rA σ_7, b_c cB cC cI cJ cZ oA rA σ_7]) (ws' := (b_g cB cC cI cJ cZ oA rA σ_7 ++ b_w cB cC cI cJ cZ oA rA σ_7 ++ b_c cB cC cI cJ cZ oA rA σ_7)) (hDD σ_7) fl_3 fl_3 [0, 1, 2] (by decide +kernel) rfl
    have hFc := bx_F (bs := [b_g cB cC cI cJ cZ oA rA σ_7, b_w cB cC cI cJ cZ oA rA σ_7, b_c cB cC cI cJ cZ oA rA σ_7]) (bs' := [b_g cB cC cI cJ cZ oA rA σ_7, b_w cB cC cI cJ cZ oA rA σ_7, b_c cB cC cI cJ cZ oA rA σ_7]) (wc := (b_g cB cC cI cJ cZ oA rA σ_7 ++ b_w cB cC cI cJ cZ oA rA σ_7 ++ b_c cB cC cI cJ cZ oA rA σ_7)) (hDD σ_7) hS hA fl_3 fl_3 [0, 1, 2] rfl
    refine g_ofv (wc := (b_g cB cC cI cJ cZ oA rA σ_7 ++ b_w cB cC cI cJ cZ oA rA σ_7 ++ b_c cB cC cI cJ cZ oA rA σ_7)) (wr := ([] : va_W)) hP (hDD σ_7) hS hFc (bx_ix [b_g cB cC cI cJ cZ oA rA σ_7, b_w cB cC cI cJ cZ oA rA σ_7, b_c cB cC cI cJ cZ oA rA σ_7] [0, 1, 2]) (bx_ix [b_g cB cC cI cJ cZ oA rA σ_7, b_w cB cC cI cJ cZ oA rA σ_7, b_c cB cC cI cJ cZ oA rA σ_7] []) (bx_C (bs := [b_g cB cC cI cJ cZ oA rA σ_7, b_w cB cC cI cJ cZ oA rA σ_7, b_c cB cC cI cJ cZ oA rA σ_7]) (bs' := [b_g cB cC cI cJ cZ oA rA σ_7, b_w cB cC cI cJ cZ oA rA σ_7, b_c cB cC cI cJ cZ oA rA σ_7]) (is := [0, 1, 2]) fl_3 fl_3 rfl) (bx_C (bs := [b_g cB cC cI cJ cZ oA rA σ_7, b_w cB cC cI cJ cZ oA rA σ_7, b_c cB cC cI cJ cZ oA rA σ_7]) (bs' := []) (is := []) fl_3 fl_0 rfl) (bx_n (by decide +kernel)) (bx_d (by decide +kernel)) (va_runV (As := [.int 125]) (rest := []) ⟨hx, hb, hml, hown, hts⟩ (k_X2_shut l dC dI cB cC cI cJ cZ cP oA rA H.size  125 σ_7 _ hu_11) (cwV 1 hts (g_gV wq_576 wq_577 wq_2004 wq_3 wq_578) rfl rfl rfl (by decide +kernel) ⟨by show 3 + 1 ≤ 306 + (d + 1); omega, by show 8 + (2 + 11) + 82 ≤ 6746 + 22 * (d + 1); omega⟩) (g_preV g_bl0 hK hPc hDc hS hE hFc g_to0 (q0 := 0) (ci := 2) rfl rfl) rfl rfl hl.1 rfl (lv_room (Nat.le_of_ble_eq_true rfl)) dX2_block_48 ⟨Nat.le_of_ble_eq_true rfl, Nat.le_of_ble_eq_true rfl⟩) (fun u9 H locs hw9 hP' hD' hS => ?_)
    clear hPc hDc hFc
    have hP : va_P (dC, dI) vwCl (b_g cB cC cI cJ cZ oA rA u_11.2 ++ b_w cB cC cI cJ cZ oA rA u_11.2 ++ b_c cB cC cI cJ cZ oA rA u_11.2) H := hP'
    clear hP' hD'
    have h9 := Option.some.inj hF_12
    subst h9
    exact W.vret hx hb hr (fun t ht hW => ⟨⟨(), rfl, trivial, m_end ht hP, hDD _⟩, hS.F ht⟩) hS.2.2 dX2_block_51
  refine lv_icmp_ge (tgt := 45) hx hb dX2_block_16 (by decide) (fun c_13 => ?_) (fun c_13 => ?_)
  · have hF_14 := ipos c_13 hF_9
    clear hF_9
    exact Jj_8  s_3.2 hF_14 _ _ hP hS ls (lv_sub hl [0] rfl)
  · have hF_15 := ineg c_13 hF_9
    clear hF_9
    refine lv_aload_n hx hb dX2_block_19 rfl (lv_at hl 0 rfl) ?_
    refine va_get (D := (dC, dI)) (ci := 2) (v := .int ((s_3.2 2).1 3)) (C := RX2) (T := TX2) (N := 8) hx hb hts ii_X2 hown hK hP 0 rfl rfl 3 (by decide) (hts (.fieldLink RX2 29 "StoryHouse$Grammar" "kind" "I") wq_74) (fun _ h9 => h9) rfl dX2_block_20 ?_
    refine lv_bipush (v := 125) hx hb dX2_block_23 (by decide +kernel) ?_
    refine lv_icmp_eq (tgt := 45) hx hb dX2_block_25 (by decide) (fun c_16 => ?_) (fun c_16 => ?_)
    · have hF_17 := ipos c_16 hF_15
      clear hF_15
      exact Jj_8  s_3.2 hF_17 _ _ hP hS ls (lv_sub hl [0] rfl)
    · have hF_18 := ineg c_16 hF_15
      clear hF_15
      refine lv_aload_n hx hb dX2_block_28 rfl (lv_at hl 0 rfl) ?_
      refine va_get (D := (dC, dI)) (ci := 2) (v := .int ((s_3.2 2).1 3)) (C := RX2) (T := TX2) (N := 8) hx hb hts ii_X2 hown hK hP 0 rfl rfl 3 (by decide) (hts (.fieldLink RX2 29 "StoryHouse$Grammar" "kind" "I") wq_74) (fun _ h9 => h9) rfl dX2_block_29 ?_
      refine lv_if_eq (tgt := 45) hx hb dX2_block_32 (by decide) (fun c_19 => ?_) (fun c_19 => ?_)
      · have hF_20 := ipos c_19 hF_18
        clear hF_18
        exact Jj_8  s_3.2 hF_20 _ _ hP hS ls (lv_sub hl [0] rfl)
      · have hF_21 := ineg c_19 hF_18
        clear hF_18
        refine lv_aload_n hx hb dX2_block_35 rfl (lv_at hl 0 rfl) ?_
        obtain ⟨u_22, hu_22, hF_23⟩ := Option.bind_eq_some_iff.mp hF_21
        clear hF_21
        have hPc := bx_P (bs := [b_g cB cC cI cJ cZ oA rA s_3.2, b_w cB cC cI cJ cZ oA rA s_3.2, b_c cB cC cI cJ cZ oA rA s_3.2]) (bs' := [b_g cB cC cI cJ cZ oA rA s_3.2, b_w cB cC cI cJ cZ oA rA s_3.2, b_c cB cC cI cJ cZ oA rA s_3.2]) (ws' := (b_g cB cC cI cJ cZ oA rA s_3.2 ++ b_w cB cC cI cJ cZ oA rA s_3.2 ++ b_c cB cC cI cJ cZ oA rA s_3.2)) hP fl_3 fl_3 [0, 1, 2] rfl
        have hDc := bx_D (bs := [b_g cB cC cI cJ cZ oA rA s_3.2, b_w cB cC cI cJ cZ oA rA s_3.2, b_c cB cC cI cJ cZ oA rA s_3.2]) (bs' := [b_g cB cC cI cJ cZ oA rA s_3.2, b_w cB cC cI cJ cZ oA rA s_3.2, b_c cB cC cI cJ cZ oA rA s_3.2]) (ws' := (b_g cB cC cI cJ cZ oA rA s_3.2 ++ b_w cB cC cI cJ cZ oA rA s_3.2 ++ b_c cB cC cI cJ cZ oA rA s_3.2)) (hDD s_3.2) fl_3 fl_3 [0, 1, 2] (by decide +kernel) rfl
        have hFc := bx_F (bs := [b_g cB cC cI cJ cZ oA rA s_3.2, b_w cB cC cI cJ cZ oA rA s_3.2, b_c cB cC cI cJ cZ oA rA s_3.2]) (bs' := [b_g cB cC cI cJ cZ oA rA s_3.2, b_w cB cC cI cJ cZ oA rA s_3.2, b_c cB cC cI cJ cZ oA rA s_3.2]) (wc := (b_g cB cC cI cJ cZ oA rA s_3.2 ++ b_w cB cC cI cJ cZ oA rA s_3.2 ++ b_c cB cC cI cJ cZ oA rA s_3.2)) (hDD s_3.2) hS hA fl_3 fl_3 [0, 1, 2] rfl
        refine g_ofv (wc := (b_g cB cC cI cJ cZ oA rA s_3.2 ++ b_w cB cC cI cJ cZ oA rA s_3.2 ++ b_c cB cC cI cJ cZ oA rA s_3.2)) (wr := ([] : va_W)) hP (hDD s_3.2) hS hFc (bx_ix [b_g cB cC cI cJ cZ oA rA s_3.2, b_w cB cC cI cJ cZ oA rA s_3.2, b_c cB cC cI cJ cZ oA rA s_3.2] [0, 1, 2]) (bx_ix [b_g cB cC cI cJ cZ oA rA s_3.2, b_w cB cC cI cJ cZ oA rA s_3.2, b_c cB cC cI cJ cZ oA rA s_3.2] []) (bx_C (bs := [b_g cB cC cI cJ cZ oA rA s_3.2, b_w cB cC cI cJ cZ oA rA s_3.2, b_c cB cC cI cJ cZ oA rA s_3.2]) (bs' := [b_g cB cC cI cJ cZ oA rA s_3.2, b_w cB cC cI cJ cZ oA rA s_3.2, b_c cB cC cI cJ cZ oA rA s_3.2]) (is := [0, 1, 2]) fl_3 fl_3 rfl) (bx_C (bs := [b_g cB cC cI cJ cZ oA rA s_3.2, b_w cB cC cI cJ cZ oA rA s_3.2, b_c cB cC cI cJ cZ oA rA s_3.2]) (bs' := []) (is := []) fl_3 fl_0 rfl) (bx_n (by decide +kernel)) (bx_d (by decide +kernel)) (va_runV (As := []) (rest := []) ⟨hx, hb, hml, hown, hts⟩ (hI1 H.size s_3.2 _ hu_22) (cwV 0 hts (g_gV wq_618 wq_619 wq_2014 wq_3 wq_620) rfl rfl rfl (by decide +kernel) ⟨by show 306 + d + 1 ≤ 306 + (d + 1); omega, by show 8 + (2 + 11) + (6746 + 22 * d) ≤ 6746 + 22 * (d + 1); omega⟩) (g_preV g_bl0 hK hPc hDc hS hE hFc g_to0 (q0 := 0) (ci := 2) rfl rfl) rfl rfl hl.1 rfl (lv_room (Nat.le_of_ble_eq_true rfl)) dX2_block_36 ⟨Nat.le_of_ble_eq_true rfl, Nat.le_of_ble_eq_true rfl⟩) (fun u9 H locs hw9 hP' hD' hS => ?_)
        clear hPc hDc hFc
        have hP : va_P (dC, dI) vwCl (b_g cB cC cI cJ cZ oA rA u_22.2 ++ b_w cB cC cI cJ cZ oA rA u_22.2 ++ b_c cB cC cI cJ cZ oA rA u_22.2) H := hP'
        clear hP' hD'
        obtain ⟨x_24, ex_24, hF_25⟩ := bnd_e hF_23
        clear hF_23
        refine lv_iinc (v := x_24) (lv' := [(1, .int x_24), (0, .ref (oA 2))]) hx hb dX2_block_39 hl (k := 1) rfl (by rw [ex_24]; rfl) (by decide) rfl (fun ls hl => ?_)
        refine lv_goto (tgt := 8) hx hb dX2_block_42 (by decide) ?_
        exact ih_5 (x_24, u_22.2) hF_25 _ _ hP hS ls (lv_sub hl [1, 0] rfl)

def F_X2_statement (rec : HG)  (Γ : HS) : HR :=
  (F_X2_plainOp ((Γ 2).1 3) Γ).bind fun u_1 =>
  if ((Γ 2).1 3) = 248 then (
    (F_X2_pass Γ).bind fun u_5 =>
    (rec 2 0 0 0 u_5.2).bind fun u_7 =>
    some (0, u_7.2)
  ) else (
    if ((Γ 2).1 3) = 250 then (
      (F_X2_pass Γ).bind fun u_12 =>
      (rec 3 0 0 0 u_12.2).bind fun u_14 =>
      some (0, u_14.2)
    ) else (
      bnd (fun  (σ_17 : HS) => (
        (F_X2_need 59 σ_17).bind fun u_21 =>
        some (0, u_21.2)
      ) : HS → HR) fun j_18 =>
      if u_1.1 = (-1) then (
        (F_X2_accept 241 Γ).bind fun u_25 =>
        if u_25.1 = 0 then (
          (F_X2_accept 242 u_25.2).bind fun u_29 =>
          if u_29.1 = 0 then (
            if ((u_29.2 2).1 3) = 2 then (
              (F_X2_named u_29.2).bind fun u_35 =>
              j_18  u_35.2
            ) else (
              (F_X2_fail 2 u_29.2).bind fun u_38 =>
              j_18  u_38.2
            )
          ) else (
            (F_X2_let u_29.2).bind fun u_41 =>
            j_18  u_41.2
          )
        ) else (
          (F_X2_say u_25.2).bind fun u_44 =>
          j_18  u_44.2
        )
      ) else (
        (F_X2_pass Γ).bind fun u_47 =>
        (F_X2_plainStatement u_1.1 u_47.2).bind fun u_49 =>
        j_18  u_49.2
      )
    )
  )
set_option maxHeartbeats 4000000 in
set_option maxRecDepth 100000 in
theorem k_X2_statement_st (l : Launch) (dC : Nat → ClassId) (dI : Nat → Nat → Nat) (cB cC cI cJ cZ cP : ClassId) (oA : Nat → Nat) (rA : Nat → Nat → Nat) (d : Nat) (rec : HG) (hI0 : ∀ (sz : Nat)  (Γ : HS) (res : Int32 × HS), rec 0 0 0 0 Γ = some res → Met l yX2_block (g_ws yX2_block cX2_block 2 none) ({ frames := 306 + d, cells := 0, slots := 0, locals := 6746 + 22 * d }) (va_Pc [.ref (oA 2)] (g_B (dC, dI) [(cB, .byte), (cC, .char), (cI, .int), (cJ, .long), (cZ, .boolean), (cP, .object "StoryHouse$Play")] sz (b_g cB cC cI cJ cZ oA rA Γ ++ b_w cB cC cI cJ cZ oA rA Γ ++ b_c cB cC cI cJ cZ oA rA Γ) g_0)) (va_Qv (fun (_ : Unit) => True) (g_Bo (dC, dI) (va_A (b_g cB cC cI cJ cZ oA rA Γ ++ b_w cB cC cI cJ cZ oA rA Γ ++ b_c cB cC cI cJ cZ oA rA Γ) sz) (fun (_ : Unit) => (b_g cB cC cI cJ cZ oA rA res.2 ++ b_w cB cC cI cJ cZ oA rA res.2 ++ b_c cB cC cI cJ cZ oA rA res.2))) (va_A (b_g cB cC cI cJ cZ oA rA Γ ++ b_w cB cC cI cJ cZ oA rA Γ ++ b_c cB cC cI cJ cZ oA rA Γ) sz)) 0 0 (va_A (b_g cB cC cI cJ cZ oA rA Γ ++ b_w cB cC cI cJ cZ oA rA Γ ++ b_c cB cC cI cJ cZ oA rA Γ) sz)) (hI1 : ∀ (sz : Nat)  (Γ : HS) (res : Int32 × HS), rec 1 0 0 0 Γ = some res → Met l yX2_statement (g_ws yX2_statement cX2_statement 2 none) ({ frames := 306 + d, cells := 0, slots := 0, locals := 6746 + 22 * d }) (va_Pc [.ref (oA 2)] (g_B (dC, dI) [(cB, .byte), (cC, .char), (cI, .int), (cJ, .long), (cZ, .boolean), (cP, .object "StoryHouse$Play")] sz (b_g cB cC cI cJ cZ oA rA Γ ++ b_w cB cC cI cJ cZ oA rA Γ ++ b_c cB cC cI cJ cZ oA rA Γ) g_0)) (va_Qv (fun (_ : Unit) => True) (g_Bo (dC, dI) (va_A (b_g cB cC cI cJ cZ oA rA Γ ++ b_w cB cC cI cJ cZ oA rA Γ ++ b_c cB cC cI cJ cZ oA rA Γ) sz) (fun (_ : Unit) => (b_g cB cC cI cJ cZ oA rA res.2 ++ b_w cB cC cI cJ cZ oA rA res.2 ++ b_c cB cC cI cJ cZ oA rA res.2))) (va_A (b_g cB cC cI cJ cZ oA rA Γ ++ b_w cB cC cI cJ cZ oA rA Γ ++ b_c cB cC cI cJ cZ oA rA Γ) sz)) 0 0 (va_A (b_g cB cC cI cJ cZ oA rA Γ ++ b_w cB cC cI cJ cZ oA rA Γ ++ b_c cB cC cI cJ cZ oA rA Γ) sz)) (hI2 : ∀ (sz : Nat)  (Γ : HS) (res : Int32 × HS), rec 2 0 0 0 Γ = some res → Met l yX2_ifStatement (g_ws yX2_ifStatement cX2_ifStatement 3 none) ({ frames := 306 + d, cells := 0, slots := 0, locals := 6746 + 22 * d }) (va_Pc [.ref (oA 2)] (g_B (dC, dI) [(cB, .byte), (cC, .char), (cI, .int), (cJ, .long), (cZ, .boolean), (cP, .object "StoryHouse$Play")] sz (b_g cB cC cI cJ cZ oA rA Γ ++ b_w cB cC cI cJ cZ oA rA Γ ++ b_c cB cC cI cJ cZ oA rA Γ) g_0)) (va_Qv (fun (_ : Unit) => True) (g_Bo (dC, dI) (va_A (b_g cB cC cI cJ cZ oA rA Γ ++ b_w cB cC cI cJ cZ oA rA Γ ++ b_c cB cC cI cJ cZ oA rA Γ) sz) (fun (_ : Unit) => (b_g cB cC cI cJ cZ oA rA res.2 ++ b_w cB cC cI cJ cZ oA rA res.2 ++ b_c cB cC cI cJ cZ oA rA res.2))) (va_A (b_g cB cC cI cJ cZ oA rA Γ ++ b_w cB cC cI cJ cZ oA rA Γ ++ b_c cB cC cI cJ cZ oA rA Γ) sz)) 0 0 (va_A (b_g cB cC cI cJ cZ oA rA Γ ++ b_w cB cC cI cJ cZ oA rA Γ ++ b_c cB cC cI cJ cZ oA rA Γ) sz)) (hI3 : ∀ (sz : Nat)  (Γ : HS) (res : Int32 × HS), rec 3 0 0 0 Γ = some res → Met l yX2_whileStatement (g_ws yX2_whileStatement cX2_whileStatement 3 none) ({ frames := 306 + d, cells := 0, slots := 0, locals := 6746 + 22 * d }) (va_Pc [.ref (oA 2)] (g_B (dC, dI) [(cB, .byte), (cC, .char), (cI, .int), (cJ, .long), (cZ, .boolean), (cP, .object "StoryHouse$Play")] sz (b_g cB cC cI cJ cZ oA rA Γ ++ b_w cB cC cI cJ cZ oA rA Γ ++ b_c cB cC cI cJ cZ oA rA Γ) g_0)) (va_Qv (fun (_ : Unit) => True) (g_Bo (dC, dI) (va_A (b_g cB cC cI cJ cZ oA rA Γ ++ b_w cB cC cI cJ cZ oA rA Γ ++ b_c cB cC cI cJ cZ oA rA Γ) sz) (fun (_ : Unit) => (b_g cB cC cI cJ cZ oA rA res.2 ++ b_w cB cC cI cJ cZ oA rA res.2 ++ b_c cB cC cI cJ cZ oA rA res.2))) (va_A (b_g cB cC cI cJ cZ oA rA Γ ++ b_w cB cC cI cJ cZ oA rA Γ ++ b_c cB cC cI cJ cZ oA rA Γ) sz)) 0 0 (va_A (b_g cB cC cI cJ cZ oA rA Γ ++ b_w cB cC cI cJ cZ oA rA Γ ++ b_c cB cC cI cJ cZ oA rA Γ) sz)) (sz : Nat)   (Γ : HS) (res : Int32 × HS) (hF : F_X2_statement rec  Γ = some res) : Met l yX2_statement (g_ws yX2_statement cX2_statement 2 none) ({ frames := 306 + (d + 1), cells := 0, slots := 0, locals := 6746 + 22 * (d + 1) }) (va_Pc [.ref (oA 2)] (g_B (dC, dI) [(cB, .byte), (cC, .char), (cI, .int), (cJ, .long), (cZ, .boolean), (cP, .object "StoryHouse$Play")] sz (b_g cB cC cI cJ cZ oA rA Γ ++ b_w cB cC cI cJ cZ oA rA Γ ++ b_c cB cC cI cJ cZ oA rA Γ) g_0)) (va_Qv (fun (_ : Unit) => True) (g_Bo (dC, dI) (va_A (b_g cB cC cI cJ cZ oA rA Γ ++ b_w cB cC cI cJ cZ oA rA Γ ++ b_c cB cC cI cJ cZ oA rA Γ) sz) (fun (_ : Unit) => (b_g cB cC cI cJ cZ oA rA res.2 ++ b_w cB cC cI cJ cZ oA rA res.2 ++ b_c cB cC cI cJ cZ oA rA res.2))) (va_A (b_g cB cC cI cJ cZ oA rA Γ ++ b_w cB cC cI cJ cZ oA rA Γ ++ b_c cB cC cI cJ cZ oA rA Γ) sz)) 0 0 (va_A (b_g cB cC cI cJ cZ oA rA Γ ++ b_w cB cC cI cJ cZ oA rA Γ ++ b_c cB cC cI cJ cZ oA rA Γ) sz) := by
  refine Met.ofW (cc := cX2_statement) (maxL := 2) (ret := none) (by decide) rfl ?_
  intro p e s m args below meth c s₁ B hml hv
  obtain ⟨rfl, hsz, hP, hK, hD0, hE, hX⟩ := hv
  have hx := B.exec
  have hb := B.bytes
  have hr := B.returns
  have hts0 := atoms_spec (ws := g_ws yX2_statement cX2_statement 2 none) B.pre
  have hts : ∀ w ∈ lw_good, w.before ([.ref (oA 2)] : List Value).toArray s = true := fun w z => hts0 w (List.mem_cons_of_mem _ z)
  have hown : s.vm.findClass RX2 = some m.cls := findClass_of_methodNamed B.named
  have hlocks := B.notSynchronized
  subst hsz
  have hD1 := hD0.self (sz := s.heap.size)
  generalize hAe : va_A (b_g cB cC cI cJ cZ oA rA Γ ++ b_w cB cC cI cJ cZ oA rA Γ ++ b_c cB cC cI cJ cZ oA rA Γ) s.heap.size = A at hD1 hE hX ⊢
  have hA : ∀ q : Nat, s.heap.size ≤ q → A q := fun q z => by rw [← hAe]; exact Or.inr z
  have hDD : ∀ Γ : HS, va_D A (b_g cB cC cI cJ cZ oA rA Γ ++ b_w cB cC cI cJ cZ oA rA Γ ++ b_c cB cC cI cJ cZ oA rA Γ) := fun Γ9 => va_D_fst (ws := (b_g cB cC cI cJ cZ oA rA Γ ++ b_w cB cC cI cJ cZ oA rA Γ ++ b_c cB cC cI cJ cZ oA rA Γ)) (ws' := (b_g cB cC cI cJ cZ oA rA Γ9 ++ b_w cB cC cI cJ cZ oA rA Γ9 ++ b_c cB cC cI cJ cZ oA rA Γ9)) rfl hD1
  have hN := hE.1
  have hS : va_S A s.heap s.heap [] := va_S.rf
  have hl := lv_entry ([.ref (oA 2)]) (n := 2) (Nat.le_of_ble_eq_true rfl)
  rw [lg_entry_eq]
  generalize (lg_sl ([.ref (oA 2)]) ++ List.replicate (2 - (lg_sl ([.ref (oA 2)])).length) Slot.unset).toArray = ls at hl ⊢
  have hl : lv_has ls 2 [(0, .ref (oA 2))] := hl
  unfold F_X2_statement at hF
  refine lv_aload_n hx hb dX2_statement_0 rfl (lv_at hl 0 rfl) ?_
  refine va_get (D := (dC, dI)) (ci := 2) (v := .int ((Γ 2).1 3)) (C := RX2) (T := TX2) (N := 8) hx hb hts ii_X2 hown hK hP 0 rfl rfl 3 (by decide) (hts (.fieldLink RX2 29 "StoryHouse$Grammar" "kind" "I") wq_74) (fun _ h9 => h9) rfl dX2_statement_1 ?_
  obtain ⟨u_1, hu_1, hF_2⟩ := Option.bind_eq_some_iff.mp hF
  clear hF
  have hPc : va_P (dC, dI) vwCl [] s.heap := fun k q z => by simp at z
  have hDc : va_D A [] := ⟨fun i j p q z => by simp at z, fun k q z => by simp at z⟩
  have hFc := c_nil hA hS
  refine c_cs (v := u_1.1) hA hP hS (va_runS (As := [.int ((Γ 2).1 3)]) (rest := []) ⟨hx, hb, hml, hown, hts⟩ (k_X2_plainOp l dC dI cB cC cI cJ cZ cP oA rA s.heap.size  ((Γ 2).1 3) Γ _ hu_1) (va_cwS 1 hts (g_gS wq_621 wq_622 wq_3 wq_623) rfl rfl rfl (by decide +kernel) ⟨by show 1 + 1 ≤ 306 + (d + 1); omega, by show 8 + (1 + 11) + 40 ≤ 6746 + 22 * (d + 1); omega⟩) (g_preS g_bl0 hK hPc hDc hS hE hFc g_to0) rfl rfl hl.1 rfl (lv_room (Nat.le_of_ble_eq_true rfl)) dX2_statement_4 ⟨Nat.le_of_ble_eq_true rfl, Nat.le_of_ble_eq_true rfl⟩) (fun H locs hP hS => ?_)
  clear hPc hDc hFc
  refine lv_istore_n (lv' := [(1, .int u_1.1), (0, .ref (oA 2))]) hx hb dX2_statement_7 rfl hl (by decide) rfl (fun ls hl => ?_)
  refine lv_aload_n hx hb dX2_statement_8 rfl (lv_at hl 1 rfl) ?_
  refine va_get (D := (dC, dI)) (ci := 2) (v := .int ((Γ 2).1 3)) (C := RX2) (T := TX2) (N := 8) hx hb hts ii_X2 hown hK hP 0 rfl rfl 3 (by decide) (hts (.fieldLink RX2 29 "StoryHouse$Grammar" "kind" "I") wq_74) (fun _ h9 => h9) rfl dX2_statement_9 ?_
  refine lv_sipush (v := 248) hx hb dX2_statement_12 (by decide +kernel) ?_
  refine lv_icmp_ne (tgt := 27) hx hb dX2_statement_15 (by decide) (fun c_3 => ?_) (fun c_3 => ?_)
  · have hF_9 := ineg c_3 hF_2
    clear hF_2
    refine lv_aload_n hx hb dX2_statement_27 rfl (lv_at hl 1 rfl) ?_
    refine va_get (D := (dC, dI)) (ci := 2) (v := .int ((Γ 2).1 3)) (C := RX2) (T := TX2) (N := 8) hx hb hts ii_X2 hown hK hP 0 rfl rfl 3 (by decide) (hts (.fieldLink RX2 29 "StoryHouse$Grammar" "kind" "I") wq_74) (fun _ h9 => h9) rfl dX2_statement_28 ?_
    refine lv_sipush (v := 250) hx hb dX2_statement_31 (by decide +kernel) ?_
    refine lv_icmp_ne (tgt := 46) hx hb dX2_statement_34 (by decide) (fun c_10 => ?_) (fun c_10 => ?_)
    · have hF_16 := ineg c_10 hF_9
      clear hF_9
      refine lv_iload_n hx hb dX2_statement_46 rfl (lv_at hl 0 rfl) ?_
      refine lv_iconst (v := (-1)) hx hb dX2_statement_47 (by decide +kernel) ?_
      obtain ⟨j_18, ej_18, hF_19⟩ := bnd_e hF_16
      clear hF_16
      have Jj_18 : ∀  (σ_17 : HS), j_18  σ_17 = some res → ∀ (H : Heap) (locs : List Loc), va_P (dC, dI) vwCl (b_g cB cC cI cJ cZ oA rA σ_17 ++ b_w cB cC cI cJ cZ oA rA σ_17 ++ b_c cB cC cI cJ cZ oA rA σ_17) H → va_S A s.heap H locs → ∀ ls : Array Slot, lv_has ls 2 [(0, .ref (oA 2))] → W p l e (headSpec (g_ws yX2_statement cX2_statement 2 none) { frames := 306 + (d + 1), cells := 0, slots := 0, locals := 6746 + 22 * (d + 1) }).room s m ([.ref (oA 2)] : List Value).toArray below meth c H locs 0 0 (MQ below (va_Qv (fun (_ : Unit) => True) (g_Bo (dC, dI) A (fun (_ : Unit) => (b_g cB cC cI cJ cZ oA rA res.2 ++ b_w cB cC cI cJ cZ oA rA res.2 ++ b_c cB cC cI cJ cZ oA rA res.2))) A) ([.ref (oA 2)] : List Value).toArray s 0 0 A) (F0 m 117 ls []) := by
        intro  σ_17 hF0 H locs hP hS ls hl
        subst ej_18
        have hF_20 := hF0
        clear hF0
        refine lv_aload_n hx hb dX2_statement_117 rfl (lv_at hl 0 rfl) ?_
        refine lv_bipush (v := 59) hx hb dX2_statement_118 (by decide +kernel) ?_
        obtain ⟨u_21, hu_21, hF_22⟩ := Option.bind_eq_some_iff.mp hF_20
        clear hF_20
        have hPc := bx_P (bs := [b_g cB cC cI cJ cZ oA rA σ_17, b_w cB cC cI cJ cZ oA rA σ_17, b_c cB cC cI cJ cZ oA rA σ_17]) (bs' := [b_g cB cC cI cJ cZ oA rA σ_17, b_w cB cC cI cJ cZ oA rA σ_17, b_c cB cC cI cJ cZ oA rA σ_17]) (ws' := (b_g cB cC cI cJ cZ oA rA σ_17 ++ b_w cB cC cI cJ cZ oA rA σ_17 ++ b_c cB cC cI cJ cZ oA rA σ_17)) hP fl_3 fl_3 [0, 1, 2] rfl
        have hDc := bx_D (bs := [b_g cB cC cI cJ cZ oA rA σ_17, b_w cB cC cI cJ cZ oA rA σ_17, b_c cB cC cI cJ cZ oA rA σ_17]) (bs' := [b_g cB cC cI cJ cZ oA rA σ_17, b_w cB cC cI cJ cZ oA rA σ_17, b_c cB cC cI cJ cZ oA rA σ_17]) (ws' := (b_g cB cC cI cJ cZ oA rA σ_17 ++ b_w cB cC cI cJ cZ oA rA σ_17 ++ b_c cB cC cI cJ cZ oA rA σ_17)) (hDD σ_17) fl_3 fl_3 [0, 1, 2] (by decide +kernel) rfl
        have hFc := bx_F (bs := [b_g cB cC cI cJ cZ oA rA σ_17, b_w cB cC cI cJ cZ oA rA σ_17, b_c cB cC cI cJ cZ oA rA σ_17]) (bs' := [b_g cB cC cI cJ cZ oA rA σ_17, b_w cB cC cI cJ cZ oA rA σ_17, b_c cB cC cI cJ cZ oA rA σ_17]) (wc := (b_g cB cC cI cJ cZ oA rA σ_17 ++ b_w cB cC cI cJ cZ oA rA σ_17 ++ b_c cB cC cI cJ cZ oA rA σ_17)) (hDD σ_17) hS hA fl_3 fl_3 [0, 1, 2] rfl
        refine g_ofv (wc := (b_g cB cC cI cJ cZ oA rA σ_17 ++ b_w cB cC cI cJ cZ oA rA σ_17 ++ b_c cB cC cI cJ cZ oA rA σ_17)) (wr := ([] : va_W)) hP (hDD σ_17) hS hFc (bx_ix [b_g cB cC cI cJ cZ oA rA σ_17, b_w cB cC cI cJ cZ oA rA σ_17, b_c cB cC cI cJ cZ oA rA σ_17] [0, 1, 2]) (bx_ix [b_g cB cC cI cJ cZ oA rA σ_17, b_w cB cC cI cJ cZ oA rA σ_17, b_c cB cC cI cJ cZ oA rA σ_17] []) (bx_C (bs := [b_g cB cC cI cJ cZ oA rA σ_17, b_w cB cC cI cJ cZ oA rA σ_17, b_c cB cC cI cJ cZ oA rA σ_17]) (bs' := [b_g cB cC cI cJ cZ oA rA σ_17, b_w cB cC cI cJ cZ oA rA σ_17, b_c cB cC cI cJ cZ oA rA σ_17]) (is := [0, 1, 2]) fl_3 fl_3 rfl) (bx_C (bs := [b_g cB cC cI cJ cZ oA rA σ_17, b_w cB cC cI cJ cZ oA rA σ_17, b_c cB cC cI cJ cZ oA rA σ_17]) (bs' := []) (is := []) fl_3 fl_0 rfl) (bx_n (by decide +kernel)) (bx_d (by decide +kernel)) (va_runV (As := [.int 59]) (rest := []) ⟨hx, hb, hml, hown, hts⟩ (k_X2_need l dC dI cB cC cI cJ cZ cP oA rA H.size  59 σ_17 _ hu_21) (cwV 1 hts (g_gV wq_564 wq_565 wq_2000 wq_3 wq_566) rfl rfl rfl (by decide +kernel) ⟨by show 2 + 1 ≤ 306 + (d + 1); omega, by show 8 + (2 + 11) + 61 ≤ 6746 + 22 * (d + 1); omega⟩) (g_preV g_bl0 hK hPc hDc hS hE hFc g_to0 (q0 := 0) (ci := 2) rfl rfl) rfl rfl hl.1 rfl (lv_room (Nat.le_of_ble_eq_true rfl)) dX2_statement_120 ⟨Nat.le_of_ble_eq_true rfl, Nat.le_of_ble_eq_true rfl⟩) (fun u9 H locs hw9 hP' hD' hS => ?_)
        clear hPc hDc hFc
        have hP : va_P (dC, dI) vwCl (b_g cB cC cI cJ cZ oA rA u_21.2 ++ b_w cB cC cI cJ cZ oA rA u_21.2 ++ b_c cB cC cI cJ cZ oA rA u_21.2) H := hP'
        clear hP' hD'
        have h9 := Option.some.inj hF_22
        subst h9
        exact W.vret hx hb hr (fun t ht hW => ⟨⟨(), rfl, trivial, m_end ht hP, hDD _⟩, hS.F ht⟩) hS.2.2 dX2_statement_123
      refine lv_icmp_eq (tgt := 63) hx hb dX2_statement_48 (by decide) (fun c_23 => ?_) (fun c_23 => ?_)
      · have hF_24 := ipos c_23 hF_19
        clear hF_19
        refine lv_aload_n hx hb dX2_statement_63 rfl (lv_at hl 1 rfl) ?_
        refine lv_sipush (v := 241) hx hb dX2_statement_64 (by decide +kernel) ?_
        obtain ⟨u_25, hu_25, hF_26⟩ := Option.bind_eq_some_iff.mp hF_24
        clear hF_24
        have hPc := bx_P (bs := [b_g cB cC cI cJ cZ oA rA Γ, b_w cB cC cI cJ cZ oA rA Γ, b_c cB cC cI cJ cZ oA rA Γ]) (bs' := [b_g cB cC cI cJ cZ oA rA Γ, b_w cB cC cI cJ cZ oA rA Γ, b_c cB cC cI cJ cZ oA rA Γ]) (ws' := (b_g cB cC cI cJ cZ oA rA Γ ++ b_w cB cC cI cJ cZ oA rA Γ ++ b_c cB cC cI cJ cZ oA rA Γ)) hP fl_3 fl_3 [0, 1, 2] rfl
        have hDc := bx_D (bs := [b_g cB cC cI cJ cZ oA rA Γ, b_w cB cC cI cJ cZ oA rA Γ, b_c cB cC cI cJ cZ oA rA Γ]) (bs' := [b_g cB cC cI cJ cZ oA rA Γ, b_w cB cC cI cJ cZ oA rA Γ, b_c cB cC cI cJ cZ oA rA Γ]) (ws' := (b_g cB cC cI cJ cZ oA rA Γ ++ b_w cB cC cI cJ cZ oA rA Γ ++ b_c cB cC cI cJ cZ oA rA Γ)) (hDD Γ) fl_3 fl_3 [0, 1, 2] (by decide +kernel) rfl
        have hFc := bx_F (bs := [b_g cB cC cI cJ cZ oA rA Γ, b_w cB cC cI cJ cZ oA rA Γ, b_c cB cC cI cJ cZ oA rA Γ]) (bs' := [b_g cB cC cI cJ cZ oA rA Γ, b_w cB cC cI cJ cZ oA rA Γ, b_c cB cC cI cJ cZ oA rA Γ]) (wc := (b_g cB cC cI cJ cZ oA rA Γ ++ b_w cB cC cI cJ cZ oA rA Γ ++ b_c cB cC cI cJ cZ oA rA Γ)) (hDD Γ) hS hA fl_3 fl_3 [0, 1, 2] rfl
        refine g_ofi (wc := (b_g cB cC cI cJ cZ oA rA Γ ++ b_w cB cC cI cJ cZ oA rA Γ ++ b_c cB cC cI cJ cZ oA rA Γ)) (wr := ([] : va_W)) hP (hDD Γ) hS hFc (bx_ix [b_g cB cC cI cJ cZ oA rA Γ, b_w cB cC cI cJ cZ oA rA Γ, b_c cB cC cI cJ cZ oA rA Γ] [0, 1, 2]) (bx_ix [b_g cB cC cI cJ cZ oA rA Γ, b_w cB cC cI cJ cZ oA rA Γ, b_c cB cC cI cJ cZ oA rA Γ] []) (bx_C (bs := [b_g cB cC cI cJ cZ oA rA Γ, b_w cB cC cI cJ cZ oA rA Γ, b_c cB cC cI cJ cZ oA rA Γ]) (bs' := [b_g cB cC cI cJ cZ oA rA Γ, b_w cB cC cI cJ cZ oA rA Γ, b_c cB cC cI cJ cZ oA rA Γ]) (is := [0, 1, 2]) fl_3 fl_3 rfl) (bx_C (bs := [b_g cB cC cI cJ cZ oA rA Γ, b_w cB cC cI cJ cZ oA rA Γ, b_c cB cC cI cJ cZ oA rA Γ]) (bs' := []) (is := []) fl_3 fl_0 rfl) (bx_n (by decide +kernel)) (bx_d (by decide +kernel)) (va_runV (As := [.int 241]) (rest := []) ⟨hx, hb, hml, hown, hts⟩ (k_X2_accept l dC dI cB cC cI cJ cZ cP oA rA H.size  241 Γ _ hu_25) (cwV 1 hts (g_gV wq_573 wq_574 wq_2003 wq_3 wq_575) rfl rfl rfl (by decide +kernel) ⟨by show 2 + 1 ≤ 306 + (d + 1); omega, by show 8 + (2 + 11) + 60 ≤ 6746 + 22 * (d + 1); omega⟩) (g_preV g_bl0 hK hPc hDc hS hE hFc g_to0 (q0 := 0) (ci := 2) rfl rfl) rfl rfl hl.1 rfl (lv_room (Nat.le_of_ble_eq_true rfl)) dX2_statement_67 ⟨Nat.le_of_ble_eq_true rfl, Nat.le_of_ble_eq_true rfl⟩) (fun r9 u9 H locs hw9 hP' hD' hS => ?_)
        clear hPc hDc hFc
        subst hw9
        have hP : va_P (dC, dI) vwCl (b_g cB cC cI cJ cZ oA rA u_25.2 ++ b_w cB cC cI cJ cZ oA rA u_25.2 ++ b_c cB cC cI cJ cZ oA rA u_25.2) H := hP'
        clear hP' hD'
        refine lv_if_eq (tgt := 80) hx hb dX2_statement_70 (by decide) (fun c_27 => ?_) (fun c_27 => ?_)
        · have hF_28 := ipos c_27 hF_26
          clear hF_26
          refine lv_aload_n hx hb dX2_statement_80 rfl (lv_at hl 1 rfl) ?_
          refine lv_sipush (v := 242) hx hb dX2_statement_81 (by decide +kernel) ?_
          obtain ⟨u_29, hu_29, hF_30⟩ := Option.bind_eq_some_iff.mp hF_28
          clear hF_28
          have hPc := bx_P (bs := [b_g cB cC cI cJ cZ oA rA u_25.2, b_w cB cC cI cJ cZ oA rA u_25.2, b_c cB cC cI cJ cZ oA rA u_25.2]) (bs' := [b_g cB cC cI cJ cZ oA rA u_25.2, b_w cB cC cI cJ cZ oA rA u_25.2, b_c cB cC cI cJ cZ oA rA u_25.2]) (ws' := (b_g cB cC cI cJ cZ oA rA u_25.2 ++ b_w cB cC cI cJ cZ oA rA u_25.2 ++ b_c cB cC cI cJ cZ oA rA u_25.2)) hP fl_3 fl_3 [0, 1, 2] rfl
          have hDc := bx_D (bs := [b_g cB cC cI cJ cZ oA rA u_25.2, b_w cB cC cI cJ cZ oA rA u_25.2, b_c cB cC cI cJ cZ oA rA u_25.2]) (bs' := [b_g cB cC cI cJ cZ oA rA u_25.2, b_w cB cC cI cJ cZ oA rA u_25.2, b_c cB cC cI cJ cZ oA rA u_25.2]) (ws' := (b_g cB cC cI cJ cZ oA rA u_25.2 ++ b_w cB cC cI cJ cZ oA rA u_25.2 ++ b_c cB cC cI cJ cZ oA rA u_25.2)) (hDD u_25.2) fl_3 fl_3 [0, 1, 2] (by decide +kernel) rfl
          have hFc := bx_F (bs := [b_g cB cC cI cJ cZ oA rA u_25.2, b_w cB cC cI cJ cZ oA rA u_25.2, b_c cB cC cI cJ cZ oA rA u_25.2]) (bs' := [b_g cB cC cI cJ cZ oA rA u_25.2, b_w cB cC cI cJ cZ oA rA u_25.2, b_c cB cC cI cJ cZ oA rA u_25.2]) (wc := (b_g cB cC cI cJ cZ oA rA u_25.2 ++ b_w cB cC cI cJ cZ oA rA u_25.2 ++ b_c cB cC cI cJ cZ oA rA u_25.2)) (hDD u_25.2) hS hA fl_3 fl_3 [0, 1, 2] rfl
          refine g_ofi (wc := (b_g cB cC cI cJ cZ oA rA u_25.2 ++ b_w cB cC cI cJ cZ oA rA u_25.2 ++ b_c cB cC cI cJ cZ oA rA u_25.2)) (wr := ([] : va_W)) hP (hDD u_25.2) hS hFc (bx_ix [b_g cB cC cI cJ cZ oA rA u_25.2, b_w cB cC cI cJ cZ oA rA u_25.2, b_c cB cC cI cJ cZ oA rA u_25.2] [0, 1, 2]) (bx_ix [b_g cB cC cI cJ cZ oA rA u_25.2, b_w cB cC cI cJ cZ oA rA u_25.2, b_c cB cC cI cJ cZ oA rA u_25.2] []) (bx_C (bs := [b_g cB cC cI cJ cZ oA rA u_25.2, b_w cB cC cI cJ cZ oA rA u_25.2, b_c cB cC cI cJ cZ oA rA u_25.2]) (bs' := [b_g cB cC cI cJ cZ oA rA u_25.2, b_w cB cC cI cJ cZ oA rA u_25.2, b_c cB cC cI cJ cZ oA rA u_25.2]) (is := [0, 1, 2]) fl_3 fl_3 rfl) (bx_C (bs := [b_g cB cC cI cJ cZ oA rA u_25.2, b_w cB cC cI cJ cZ oA rA u_25.2, b_c cB cC cI cJ cZ oA rA u_25.2]) (bs' := []) (is := []) fl_3 fl_0 rfl) (bx_n (by decide +kernel)) (bx_d (by decide +kernel)) (va_runV (As := [.int 242]) (rest := []) ⟨hx, hb, hml, hown, hts⟩ (k_X2_accept l dC dI cB cC cI cJ cZ cP oA rA H.size  242 u_25.2 _ hu_29) (cwV 1 hts (g_gV wq_573 wq_574 wq_2003 wq_3 wq_575) rfl rfl rfl (by decide +kernel) ⟨by show 2 + 1 ≤ 306 + (d + 1); omega, by show 8 + (2 + 11) + 60 ≤ 6746 + 22 * (d + 1); omega⟩) (g_preV g_bl0 hK hPc hDc hS hE hFc g_to0 (q0 := 0) (ci := 2) rfl rfl) rfl rfl hl.1 rfl (lv_room (Nat.le_of_ble_eq_true rfl)) dX2_statement_84 ⟨Nat.le_of_ble_eq_true rfl, Nat.le_of_ble_eq_true rfl⟩) (fun r9 u9 H locs hw9 hP' hD' hS => ?_)
          clear hPc hDc hFc
          subst hw9
          have hP : va_P (dC, dI) vwCl (b_g cB cC cI cJ cZ oA rA u_29.2 ++ b_w cB cC cI cJ cZ oA rA u_29.2 ++ b_c cB cC cI cJ cZ oA rA u_29.2) H := hP'
          clear hP' hD'
          refine lv_if_eq (tgt := 97) hx hb dX2_statement_87 (by decide) (fun c_31 => ?_) (fun c_31 => ?_)
          · have hF_32 := ipos c_31 hF_30
            clear hF_30
            refine lv_aload_n hx hb dX2_statement_97 rfl (lv_at hl 1 rfl) ?_
            refine va_get (D := (dC, dI)) (ci := 2) (v := .int ((u_29.2 2).1 3)) (C := RX2) (T := TX2) (N := 8) hx hb hts ii_X2 hown hK hP 0 rfl rfl 3 (by decide) (hts (.fieldLink RX2 29 "StoryHouse$Grammar" "kind" "I") wq_74) (fun _ h9 => h9) rfl dX2_statement_98 ?_
            refine lv_iconst (v := 2) hx hb dX2_statement_101 (by decide +kernel) ?_
            refine lv_icmp_ne (tgt := 112) hx hb dX2_statement_102 (by decide) (fun c_33 => ?_) (fun c_33 => ?_)
            · have hF_37 := ineg c_33 hF_32
              clear hF_32
              refine lv_aload_n hx hb dX2_statement_112 rfl (lv_at hl 1 rfl) ?_
              refine lv_iconst (v := 2) hx hb dX2_statement_113 (by decide +kernel) ?_
              obtain ⟨u_38, hu_38, hF_39⟩ := Option.bind_eq_some_iff.mp hF_37
              clear hF_37
              have hPc := bx_P (bs := [b_g cB cC cI cJ cZ oA rA u_29.2, b_w cB cC cI cJ cZ oA rA u_29.2, b_c cB cC cI cJ cZ oA rA u_29.2]) (bs' := [b_g cB cC cI cJ cZ oA rA u_29.2, b_w cB cC cI cJ cZ oA rA u_29.2, b_c cB cC cI cJ cZ oA rA u_29.2]) (ws' := (b_g cB cC cI cJ cZ oA rA u_29.2 ++ b_w cB cC cI cJ cZ oA rA u_29.2 ++ b_c cB cC cI cJ cZ oA rA u_29.2)) hP fl_3 fl_3 [0, 1, 2] rfl
              have hDc := bx_D (bs := [b_g cB cC cI cJ cZ oA rA u_29.2, b_w cB cC cI cJ cZ oA rA u_29.2, b_c cB cC cI cJ cZ oA rA u_29.2]) (bs' := [b_g cB cC cI cJ cZ oA rA u_29.2, b_w cB cC cI cJ cZ oA rA u_29.2, b_c cB cC cI cJ cZ oA rA u_29.2]) (ws' := (b_g cB cC cI cJ cZ oA rA u_29.2 ++ b_w cB cC cI cJ cZ oA rA u_29.2 ++ b_c cB cC cI cJ cZ oA rA u_29.2)) (hDD u_29.2) fl_3 fl_3 [0, 1, 2] (by decide +kernel) rfl
              have hFc := bx_F (bs := [b_g cB cC cI cJ cZ oA rA u_29.2, b_w cB cC cI cJ cZ oA rA u_29.2, b_c cB cC cI cJ cZ oA rA u_29.2]) (bs' := [b_g cB cC cI cJ cZ oA rA u_29.2, b_w cB cC cI cJ cZ oA rA u_29.2, b_c cB cC cI cJ cZ oA rA u_29.2]) (wc := (b_g cB cC cI cJ cZ oA rA u_29.2 ++ b_w cB cC cI cJ cZ oA rA u_29.2 ++ b_c cB cC cI cJ cZ oA rA u_29.2)) (hDD u_29.2) hS hA fl_3 fl_3 [0, 1, 2] rfl
              refine g_ofv (wc := (b_g cB cC cI cJ cZ oA rA u_29.2 ++ b_w cB cC cI cJ cZ oA rA u_29.2 ++ b_c cB cC cI cJ cZ oA rA u_29.2)) (wr := ([] : va_W)) hP (hDD u_29.2) hS hFc (bx_ix [b_g cB cC cI cJ cZ oA rA u_29.2, b_w cB cC cI cJ cZ oA rA u_29.2, b_c cB cC cI cJ cZ oA rA u_29.2] [0, 1, 2]) (bx_ix [b_g cB cC cI cJ cZ oA rA u_29.2, b_w cB cC cI cJ cZ oA rA u_29.2, b_c cB cC cI cJ cZ oA rA u_29.2] []) (bx_C (bs := [b_g cB cC cI cJ cZ oA rA u_29.2, b_w cB cC cI cJ cZ oA rA u_29.2, b_c cB cC cI cJ cZ oA rA u_29.2]) (bs' := [b_g cB cC cI cJ cZ oA rA u_29.2, b_w cB cC cI cJ cZ oA rA u_29.2, b_c cB cC cI cJ cZ oA rA u_29.2]) (is := [0, 1, 2]) fl_3 fl_3 rfl) (bx_C (bs := [b_g cB cC cI cJ cZ oA rA u_29.2, b_w cB cC cI cJ cZ oA rA u_29.2, b_c cB cC cI cJ cZ oA rA u_29.2]) (bs' := []) (is := []) fl_3 fl_0 rfl) (bx_n (by decide +kernel)) (bx_d (by decide +kernel)) (va_runV (As := [.int 2]) (rest := []) ⟨hx, hb, hml, hown, hts⟩ (k_X2_fail l dC dI cB cC cI cJ cZ cP oA rA H.size  2 u_29.2 _ hu_38) (cwV 1 hts (g_gV wq_558 wq_559 wq_1998 wq_3 wq_560) rfl rfl rfl (by decide +kernel) ⟨by show 1 + 1 ≤ 306 + (d + 1); omega, by show 8 + (2 + 11) + 40 ≤ 6746 + 22 * (d + 1); omega⟩) (g_preV g_bl0 hK hPc hDc hS hE hFc g_to0 (q0 := 0) (ci := 2) rfl rfl) rfl rfl hl.1 rfl (lv_room (Nat.le_of_ble_eq_true rfl)) dX2_statement_114 ⟨Nat.le_of_ble_eq_true rfl, Nat.le_of_ble_eq_true rfl⟩) (fun u9 H locs hw9 hP' hD' hS => ?_)
              clear hPc hDc hFc
              have hP : va_P (dC, dI) vwCl (b_g cB cC cI cJ cZ oA rA u_38.2 ++ b_w cB cC cI cJ cZ oA rA u_38.2 ++ b_c cB cC cI cJ cZ oA rA u_38.2) H := hP'
              clear hP' hD'
              exact Jj_18  u_38.2 hF_39 _ _ hP hS ls (lv_sub hl [1] rfl)
            · have hF_34 := ipos c_33 hF_32
              clear hF_32
              refine lv_aload_n hx hb dX2_statement_105 rfl (lv_at hl 1 rfl) ?_
              obtain ⟨u_35, hu_35, hF_36⟩ := Option.bind_eq_some_iff.mp hF_34
              clear hF_34
              have hPc := bx_P (bs := [b_g cB cC cI cJ cZ oA rA u_29.2, b_w cB cC cI cJ cZ oA rA u_29.2, b_c cB cC cI cJ cZ oA rA u_29.2]) (bs' := [b_g cB cC cI cJ cZ oA rA u_29.2, b_w cB cC cI cJ cZ oA rA u_29.2, b_c cB cC cI cJ cZ oA rA u_29.2]) (ws' := (b_g cB cC cI cJ cZ oA rA u_29.2 ++ b_w cB cC cI cJ cZ oA rA u_29.2 ++ b_c cB cC cI cJ cZ oA rA u_29.2)) hP fl_3 fl_3 [0, 1, 2] rfl
              have hDc := bx_D (bs := [b_g cB cC cI cJ cZ oA rA u_29.2, b_w cB cC cI cJ cZ oA rA u_29.2, b_c cB cC cI cJ cZ oA rA u_29.2]) (bs' := [b_g cB cC cI cJ cZ oA rA u_29.2, b_w cB cC cI cJ cZ oA rA u_29.2, b_c cB cC cI cJ cZ oA rA u_29.2]) (ws' := (b_g cB cC cI cJ cZ oA rA u_29.2 ++ b_w cB cC cI cJ cZ oA rA u_29.2 ++ b_c cB cC cI cJ cZ oA rA u_29.2)) (hDD u_29.2) fl_3 fl_3 [0, 1, 2] (by decide +kernel) rfl
              have hFc := bx_F (bs := [b_g cB cC cI cJ cZ oA rA u_29.2, b_w cB cC cI cJ cZ oA rA u_29.2, b_c cB cC cI cJ cZ oA rA u_29.2]) (bs' := [b_g cB cC cI cJ cZ oA rA u_29.2, b_w cB cC cI cJ cZ oA rA u_29.2, b_c cB cC cI cJ cZ oA rA u_29.2]) (wc := (b_g cB cC cI cJ cZ oA rA u_29.2 ++ b_w cB cC cI cJ cZ oA rA u_29.2 ++ b_c cB cC cI cJ cZ oA rA u_29.2)) (hDD u_29.2) hS hA fl_3 fl_3 [0, 1, 2] rfl
              refine g_ofv (wc := (b_g cB cC cI cJ cZ oA rA u_29.2 ++ b_w cB cC cI cJ cZ oA rA u_29.2 ++ b_c cB cC cI cJ cZ oA rA u_29.2)) (wr := ([] : va_W)) hP (hDD u_29.2) hS hFc (bx_ix [b_g cB cC cI cJ cZ oA rA u_29.2, b_w cB cC cI cJ cZ oA rA u_29.2, b_c cB cC cI cJ cZ oA rA u_29.2] [0, 1, 2]) (bx_ix [b_g cB cC cI cJ cZ oA rA u_29.2, b_w cB cC cI cJ cZ oA rA u_29.2, b_c cB cC cI cJ cZ oA rA u_29.2] []) (bx_C (bs := [b_g cB cC cI cJ cZ oA rA u_29.2, b_w cB cC cI cJ cZ oA rA u_29.2, b_c cB cC cI cJ cZ oA rA u_29.2]) (bs' := [b_g cB cC cI cJ cZ oA rA u_29.2, b_w cB cC cI cJ cZ oA rA u_29.2, b_c cB cC cI cJ cZ oA rA u_29.2]) (is := [0, 1, 2]) fl_3 fl_3 rfl) (bx_C (bs := [b_g cB cC cI cJ cZ oA rA u_29.2, b_w cB cC cI cJ cZ oA rA u_29.2, b_c cB cC cI cJ cZ oA rA u_29.2]) (bs' := []) (is := []) fl_3 fl_0 rfl) (bx_n (by decide +kernel)) (bx_d (by decide +kernel)) (va_runV (As := []) (rest := []) ⟨hx, hb, hml, hown, hts⟩ (k_X2_named l dC dI cB cC cI cJ cZ cP oA rA H.size  u_29.2 _ hu_35) (cwV 0 hts (g_gV wq_691 wq_692 wq_2031 wq_3 wq_693) rfl rfl rfl (by decide +kernel) ⟨by show 305 + 1 ≤ 306 + (d + 1); omega, by show 8 + (2 + 11) + 6724 ≤ 6746 + 22 * (d + 1); omega⟩) (g_preV g_bl0 hK hPc hDc hS hE hFc g_to0 (q0 := 0) (ci := 2) rfl rfl) rfl rfl hl.1 rfl (lv_room (Nat.le_of_ble_eq_true rfl)) dX2_statement_106 ⟨Nat.le_of_ble_eq_true rfl, Nat.le_of_ble_eq_true rfl⟩) (fun u9 H locs hw9 hP' hD' hS => ?_)
              clear hPc hDc hFc
              have hP : va_P (dC, dI) vwCl (b_g cB cC cI cJ cZ oA rA u_35.2 ++ b_w cB cC cI cJ cZ oA rA u_35.2 ++ b_c cB cC cI cJ cZ oA rA u_35.2) H := hP'
              clear hP' hD'
              refine lv_goto (tgt := 117) hx hb dX2_statement_109 (by decide) ?_
              exact Jj_18  u_35.2 hF_36 _ _ hP hS ls (lv_sub hl [1] rfl)
          · have hF_40 := ineg c_31 hF_30
            clear hF_30
            refine lv_aload_n hx hb dX2_statement_90 rfl (lv_at hl 1 rfl) ?_
            obtain ⟨u_41, hu_41, hF_42⟩ := Option.bind_eq_some_iff.mp hF_40
            clear hF_40
            have hPc := bx_P (bs := [b_g cB cC cI cJ cZ oA rA u_29.2, b_w cB cC cI cJ cZ oA rA u_29.2, b_c cB cC cI cJ cZ oA rA u_29.2]) (bs' := [b_g cB cC cI cJ cZ oA rA u_29.2, b_w cB cC cI cJ cZ oA rA u_29.2, b_c cB cC cI cJ cZ oA rA u_29.2]) (ws' := (b_g cB cC cI cJ cZ oA rA u_29.2 ++ b_w cB cC cI cJ cZ oA rA u_29.2 ++ b_c cB cC cI cJ cZ oA rA u_29.2)) hP fl_3 fl_3 [0, 1, 2] rfl
            have hDc := bx_D (bs := [b_g cB cC cI cJ cZ oA rA u_29.2, b_w cB cC cI cJ cZ oA rA u_29.2, b_c cB cC cI cJ cZ oA rA u_29.2]) (bs' := [b_g cB cC cI cJ cZ oA rA u_29.2, b_w cB cC cI cJ cZ oA rA u_29.2, b_c cB cC cI cJ cZ oA rA u_29.2]) (ws' := (b_g cB cC cI cJ cZ oA rA u_29.2 ++ b_w cB cC cI cJ cZ oA rA u_29.2 ++ b_c cB cC cI cJ cZ oA rA u_29.2)) (hDD u_29.2) fl_3 fl_3 [0, 1, 2] (by decide +kernel) rfl
            have hFc := bx_F (bs := [b_g cB cC cI cJ cZ oA rA u_29.2, b_w cB cC cI cJ cZ oA rA u_29.2, b_c cB cC cI cJ cZ oA rA u_29.2]) (bs' := [b_g cB cC cI cJ cZ oA rA u_29.2, b_w cB cC cI cJ cZ oA rA u_29.2, b_c cB cC cI cJ cZ oA rA u_29.2]) (wc := (b_g cB cC cI cJ cZ oA rA u_29.2 ++ b_w cB cC cI cJ cZ oA rA u_29.2 ++ b_c cB cC cI cJ cZ oA rA u_29.2)) (hDD u_29.2) hS hA fl_3 fl_3 [0, 1, 2] rfl
            refine g_ofv (wc := (b_g cB cC cI cJ cZ oA rA u_29.2 ++ b_w cB cC cI cJ cZ oA rA u_29.2 ++ b_c cB cC cI cJ cZ oA rA u_29.2)) (wr := ([] : va_W)) hP (hDD u_29.2) hS hFc (bx_ix [b_g cB cC cI cJ cZ oA rA u_29.2, b_w cB cC cI cJ cZ oA rA u_29.2, b_c cB cC cI cJ cZ oA rA u_29.2] [0, 1, 2]) (bx_ix [b_g cB cC cI cJ cZ oA rA u_29.2, b_w cB cC cI cJ cZ oA rA u_29.2, b_c cB cC cI cJ cZ oA rA u_29.2] []) (bx_C (bs := [b_g cB cC cI cJ cZ oA rA u_29.2, b_w cB cC cI cJ cZ oA rA u_29.2, b_c cB cC cI cJ cZ oA rA u_29.2]) (bs' := [b_g cB cC cI cJ cZ oA rA u_29.2, b_w cB cC cI cJ cZ oA rA u_29.2, b_c cB cC cI cJ cZ oA rA u_29.2]) (is := [0, 1, 2]) fl_3 fl_3 rfl) (bx_C (bs := [b_g cB cC cI cJ cZ oA rA u_29.2, b_w cB cC cI cJ cZ oA rA u_29.2, b_c cB cC cI cJ cZ oA rA u_29.2]) (bs' := []) (is := []) fl_3 fl_0 rfl) (bx_n (by decide +kernel)) (bx_d (by decide +kernel)) (va_runV (As := []) (rest := []) ⟨hx, hb, hml, hown, hts⟩ (k_X2_let l dC dI cB cC cI cJ cZ cP oA rA H.size  u_29.2 _ hu_41) (cwV 0 hts (g_gV wq_688 wq_689 wq_2030 wq_3 wq_690) rfl rfl rfl (by decide +kernel) ⟨by show 305 + 1 ≤ 306 + (d + 1); omega, by show 8 + (2 + 11) + 6724 ≤ 6746 + 22 * (d + 1); omega⟩) (g_preV g_bl0 hK hPc hDc hS hE hFc g_to0 (q0 := 0) (ci := 2) rfl rfl) rfl rfl hl.1 rfl (lv_room (Nat.le_of_ble_eq_true rfl)) dX2_statement_91 ⟨Nat.le_of_ble_eq_true rfl, Nat.le_of_ble_eq_true rfl⟩) (fun u9 H locs hw9 hP' hD' hS => ?_)
            clear hPc hDc hFc
            have hP : va_P (dC, dI) vwCl (b_g cB cC cI cJ cZ oA rA u_41.2 ++ b_w cB cC cI cJ cZ oA rA u_41.2 ++ b_c cB cC cI cJ cZ oA rA u_41.2) H := hP'
            clear hP' hD'
            refine lv_goto (tgt := 117) hx hb dX2_statement_94 (by decide) ?_
            exact Jj_18  u_41.2 hF_42 _ _ hP hS ls (lv_sub hl [1] rfl)
        · have hF_43 := ineg c_27 hF_26
          clear hF_26
          refine lv_aload_n hx hb dX2_statement_73 rfl (lv_at hl 1 rfl) ?_
          obtain ⟨u_44, hu_44, hF_45⟩ := Option.bind_eq_some_iff.mp hF_43
          clear hF_43
          have hPc := bx_P (bs := [b_g cB cC cI cJ cZ oA rA u_25.2, b_w cB cC cI cJ cZ oA rA u_25.2, b_c cB cC cI cJ cZ oA rA u_25.2]) (bs' := [b_g cB cC cI cJ cZ oA rA u_25.2, b_w cB cC cI cJ cZ oA rA u_25.2, b_c cB cC cI cJ cZ oA rA u_25.2]) (ws' := (b_g cB cC cI cJ cZ oA rA u_25.2 ++ b_w cB cC cI cJ cZ oA rA u_25.2 ++ b_c cB cC cI cJ cZ oA rA u_25.2)) hP fl_3 fl_3 [0, 1, 2] rfl
          have hDc := bx_D (bs := [b_g cB cC cI cJ cZ oA rA u_25.2, b_w cB cC cI cJ cZ oA rA u_25.2, b_c cB cC cI cJ cZ oA rA u_25.2]) (bs' := [b_g cB cC cI cJ cZ oA rA u_25.2, b_w cB cC cI cJ cZ oA rA u_25.2, b_c cB cC cI cJ cZ oA rA u_25.2]) (ws' := (b_g cB cC cI cJ cZ oA rA u_25.2 ++ b_w cB cC cI cJ cZ oA rA u_25.2 ++ b_c cB cC cI cJ cZ oA rA u_25.2)) (hDD u_25.2) fl_3 fl_3 [0, 1, 2] (by decide +kernel) rfl
          have hFc := bx_F (bs := [b_g cB cC cI cJ cZ oA rA u_25.2, b_w cB cC cI cJ cZ oA rA u_25.2, b_c cB cC cI cJ cZ oA rA u_25.2]) (bs' := [b_g cB cC cI cJ cZ oA rA u_25.2, b_w cB cC cI cJ cZ oA rA u_25.2, b_c cB cC cI cJ cZ oA rA u_25.2]) (wc := (b_g cB cC cI cJ cZ oA rA u_25.2 ++ b_w cB cC cI cJ cZ oA rA u_25.2 ++ b_c cB cC cI cJ cZ oA rA u_25.2)) (hDD u_25.2) hS hA fl_3 fl_3 [0, 1, 2] rfl
          refine g_ofv (wc := (b_g cB cC cI cJ cZ oA rA u_25.2 ++ b_w cB cC cI cJ cZ oA rA u_25.2 ++ b_c cB cC cI cJ cZ oA rA u_25.2)) (wr := ([] : va_W)) hP (hDD u_25.2) hS hFc (bx_ix [b_g cB cC cI cJ cZ oA rA u_25.2, b_w cB cC cI cJ cZ oA rA u_25.2, b_c cB cC cI cJ cZ oA rA u_25.2] [0, 1, 2]) (bx_ix [b_g cB cC cI cJ cZ oA rA u_25.2, b_w cB cC cI cJ cZ oA rA u_25.2, b_c cB cC cI cJ cZ oA rA u_25.2] []) (bx_C (bs := [b_g cB cC cI cJ cZ oA rA u_25.2, b_w cB cC cI cJ cZ oA rA u_25.2, b_c cB cC cI cJ cZ oA rA u_25.2]) (bs' := [b_g cB cC cI cJ cZ oA rA u_25.2, b_w cB cC cI cJ cZ oA rA u_25.2, b_c cB cC cI cJ cZ oA rA u_25.2]) (is := [0, 1, 2]) fl_3 fl_3 rfl) (bx_C (bs := [b_g cB cC cI cJ cZ oA rA u_25.2, b_w cB cC cI cJ cZ oA rA u_25.2, b_c cB cC cI cJ cZ oA rA u_25.2]) (bs' := []) (is := []) fl_3 fl_0 rfl) (bx_n (by decide +kernel)) (bx_d (by decide +kernel)) (va_runV (As := []) (rest := []) ⟨hx, hb, hml, hown, hts⟩ (k_X2_say l dC dI cB cC cI cJ cZ cP oA rA H.size  u_25.2 _ hu_44) (cwV 0 hts (g_gV wq_685 wq_686 wq_2029 wq_3 wq_687) rfl rfl rfl (by decide +kernel) ⟨by show 305 + 1 ≤ 306 + (d + 1); omega, by show 8 + (3 + 11) + 6724 ≤ 6746 + 22 * (d + 1); omega⟩) (g_preV g_bl0 hK hPc hDc hS hE hFc g_to0 (q0 := 0) (ci := 2) rfl rfl) rfl rfl hl.1 rfl (lv_room (Nat.le_of_ble_eq_true rfl)) dX2_statement_74 ⟨Nat.le_of_ble_eq_true rfl, Nat.le_of_ble_eq_true rfl⟩) (fun u9 H locs hw9 hP' hD' hS => ?_)
          clear hPc hDc hFc
          have hP : va_P (dC, dI) vwCl (b_g cB cC cI cJ cZ oA rA u_44.2 ++ b_w cB cC cI cJ cZ oA rA u_44.2 ++ b_c cB cC cI cJ cZ oA rA u_44.2) H := hP'
          clear hP' hD'
          refine lv_goto (tgt := 117) hx hb dX2_statement_77 (by decide) ?_
          exact Jj_18  u_44.2 hF_45 _ _ hP hS ls (lv_sub hl [1] rfl)
      · have hF_46 := ineg c_23 hF_19
        clear hF_19
        refine lv_aload_n hx hb dX2_statement_51 rfl (lv_at hl 1 rfl) ?_
        obtain ⟨u_47, hu_47, hF_48⟩ := Option.bind_eq_some_iff.mp hF_46
        clear hF_46
        have hPc := bx_P (bs := [b_g cB cC cI cJ cZ oA rA Γ, b_w cB cC cI cJ cZ oA rA Γ, b_c cB cC cI cJ cZ oA rA Γ]) (bs' := [b_g cB cC cI cJ cZ oA rA Γ, b_w cB cC cI cJ cZ oA rA Γ, b_c cB cC cI cJ cZ oA rA Γ]) (ws' := (b_g cB cC cI cJ cZ oA rA Γ ++ b_w cB cC cI cJ cZ oA rA Γ ++ b_c cB cC cI cJ cZ oA rA Γ)) hP fl_3 fl_3 [0, 1, 2] rfl
        have hDc := bx_D (bs := [b_g cB cC cI cJ cZ oA rA Γ, b_w cB cC cI cJ cZ oA rA Γ, b_c cB cC cI cJ cZ oA rA Γ]) (bs' := [b_g cB cC cI cJ cZ oA rA Γ, b_w cB cC cI cJ cZ oA rA Γ, b_c cB cC cI cJ cZ oA rA Γ]) (ws' := (b_g cB cC cI cJ cZ oA rA Γ ++ b_w cB cC cI cJ cZ oA rA Γ ++ b_c cB cC cI cJ cZ oA rA Γ)) (hDD Γ) fl_3 fl_3 [0, 1, 2] (by decide +kernel) rfl
        have hFc := bx_F (bs := [b_g cB cC cI cJ cZ oA rA Γ, b_w cB cC cI cJ cZ oA rA Γ, b_c cB cC cI cJ cZ oA rA Γ]) (bs' := [b_g cB cC cI cJ cZ oA rA Γ, b_w cB cC cI cJ cZ oA rA Γ, b_c cB cC cI cJ cZ oA rA Γ]) (wc := (b_g cB cC cI cJ cZ oA rA Γ ++ b_w cB cC cI cJ cZ oA rA Γ ++ b_c cB cC cI cJ cZ oA rA Γ)) (hDD Γ) hS hA fl_3 fl_3 [0, 1, 2] rfl
        refine g_ofv (wc := (b_g cB cC cI cJ cZ oA rA Γ ++ b_w cB cC cI cJ cZ oA rA Γ ++ b_c cB cC cI cJ cZ oA rA Γ)) (wr := ([] : va_W)) hP (hDD Γ) hS hFc (bx_ix [b_g cB cC cI cJ cZ oA rA Γ, b_w cB cC cI cJ cZ oA rA Γ, b_c cB cC cI cJ cZ oA rA Γ] [0, 1, 2]) (bx_ix [b_g cB cC cI cJ cZ oA rA Γ, b_w cB cC cI cJ cZ oA rA Γ, b_c cB cC cI cJ cZ oA rA Γ] []) (bx_C (bs := [b_g cB cC cI cJ cZ oA rA Γ, b_w cB cC cI cJ cZ oA rA Γ, b_c cB cC cI cJ cZ oA rA Γ]) (bs' := [b_g cB cC cI cJ cZ oA rA Γ, b_w cB cC cI cJ cZ oA rA Γ, b_c cB cC cI cJ cZ oA rA Γ]) (is := [0, 1, 2]) fl_3 fl_3 rfl) (bx_C (bs := [b_g cB cC cI cJ cZ oA rA Γ, b_w cB cC cI cJ cZ oA rA Γ, b_c cB cC cI cJ cZ oA rA Γ]) (bs' := []) (is := []) fl_3 fl_0 rfl) (bx_n (by decide +kernel)) (bx_d (by decide +kernel)) (va_runV (As := []) (rest := []) ⟨hx, hb, hml, hown, hts⟩ (k_X2_pass l dC dI cB cC cI cJ cZ cP oA rA H.size  Γ _ hu_47) (cwV 0 hts (g_gV wq_555 wq_556 wq_1997 wq_3 wq_557) rfl rfl rfl (by decide +kernel) ⟨by show 1 + 1 ≤ 306 + (d + 1); omega, by show 8 + (1 + 11) + 40 ≤ 6746 + 22 * (d + 1); omega⟩) (g_preV g_bl0 hK hPc hDc hS hE hFc g_to0 (q0 := 0) (ci := 2) rfl rfl) rfl rfl hl.1 rfl (lv_room (Nat.le_of_ble_eq_true rfl)) dX2_statement_52 ⟨Nat.le_of_ble_eq_true rfl, Nat.le_of_ble_eq_true rfl⟩) (fun u9 H locs hw9 hP' hD' hS => ?_)
        clear hPc hDc hFc
        have hP : va_P (dC, dI) vwCl (b_g cB cC cI cJ cZ oA rA u_47.2 ++ b_w cB cC cI cJ cZ oA rA u_47.2 ++ b_c cB cC cI cJ cZ oA rA u_47.2) H := hP'
        clear hP' hD'
        refine lv_aload_n hx hb dX2_statement_55 rfl (lv_at hl 1 rfl) ?_
        refine lv_iload_n hx hb dX2_statement_56 rfl (lv_at hl 0 rfl) ?_
        obtain ⟨u_49, hu_49, hF_50⟩ := Option.bind_eq_some_iff.mp hF_48
        clear hF_48
        have hPc := bx_P (bs := [b_g cB cC cI cJ cZ oA rA u_47.2, b_w cB cC cI cJ cZ oA rA u_47.2, b_c cB cC cI cJ cZ oA rA u_47.2]) (bs' := [b_g cB cC cI cJ cZ oA rA u_47.2, b_w cB cC cI cJ cZ oA rA u_47.2, b_c cB cC cI cJ cZ oA rA u_47.2]) (ws' := (b_g cB cC cI cJ cZ oA rA u_47.2 ++ b_w cB cC cI cJ cZ oA rA u_47.2 ++ b_c cB cC cI cJ cZ oA rA u_47.2)) hP fl_3 fl_3 [0, 1, 2] rfl
        have hDc := bx_D (bs := [b_g cB cC cI cJ cZ oA rA u_47.2, b_w cB cC cI cJ cZ oA rA u_47.2, b_c cB cC cI cJ cZ oA rA u_47.2]) (bs' := [b_g cB cC cI cJ cZ oA rA u_47.2, b_w cB cC cI cJ cZ oA rA u_47.2, b_c cB cC cI cJ cZ oA rA u_47.2]) (ws' := (b_g cB cC cI cJ cZ oA rA u_47.2 ++ b_w cB cC cI cJ cZ oA rA u_47.2 ++ b_c cB cC cI cJ cZ oA rA u_47.2)) (hDD u_47.2) fl_3 fl_3 [0, 1, 2] (by decide +kernel) rfl
        have hFc := bx_F (bs := [b_g cB cC cI cJ cZ oA rA u_47.2, b_w cB cC cI cJ cZ oA rA u_47.2, b_c cB cC cI cJ cZ oA rA u_47.2]) (bs' := [b_g cB cC cI cJ cZ oA rA u_47.2, b_w cB cC cI cJ cZ oA rA u_47.2, b_c cB cC cI cJ cZ oA rA u_47.2]) (wc := (b_g cB cC cI cJ cZ oA rA u_47.2 ++ b_w cB cC cI cJ cZ oA rA u_47.2 ++ b_c cB cC cI cJ cZ oA rA u_47.2)) (hDD u_47.2) hS hA fl_3 fl_3 [0, 1, 2] rfl
        refine g_ofv (wc := (b_g cB cC cI cJ cZ oA rA u_47.2 ++ b_w cB cC cI cJ cZ oA rA u_47.2 ++ b_c cB cC cI cJ cZ oA rA u_47.2)) (wr := ([] : va_W)) hP (hDD u_47.2) hS hFc (bx_ix [b_g cB cC cI cJ cZ oA rA u_47.2, b_w cB cC cI cJ cZ oA rA u_47.2, b_c cB cC cI cJ cZ oA rA u_47.2] [0, 1, 2]) (bx_ix [b_g cB cC cI cJ cZ oA rA u_47.2, b_w cB cC cI cJ cZ oA rA u_47.2, b_c cB cC cI cJ cZ oA rA u_47.2] []) (bx_C (bs := [b_g cB cC cI cJ cZ oA rA u_47.2, b_w cB cC cI cJ cZ oA rA u_47.2, b_c cB cC cI cJ cZ oA rA u_47.2]) (bs' := [b_g cB cC cI cJ cZ oA rA u_47.2, b_w cB cC cI cJ cZ oA rA u_47.2, b_c cB cC cI cJ cZ oA rA u_47.2]) (is := [0, 1, 2]) fl_3 fl_3 rfl) (bx_C (bs := [b_g cB cC cI cJ cZ oA rA u_47.2, b_w cB cC cI cJ cZ oA rA u_47.2, b_c cB cC cI cJ cZ oA rA u_47.2]) (bs' := []) (is := []) fl_3 fl_0 rfl) (bx_n (by decide +kernel)) (bx_d (by decide +kernel)) (va_runV (As := [.int u_1.1]) (rest := []) ⟨hx, hb, hml, hown, hts⟩ (k_X2_plainStatement l dC dI cB cC cI cJ cZ cP oA rA H.size  u_1.1 u_47.2 _ hu_49) (cwV 1 hts (g_gV wq_682 wq_683 wq_2028 wq_3 wq_684) rfl rfl rfl (by decide +kernel) ⟨by show 305 + 1 ≤ 306 + (d + 1); omega, by show 8 + (2 + 11) + 6724 ≤ 6746 + 22 * (d + 1); omega⟩) (g_preV g_bl0 hK hPc hDc hS hE hFc g_to0 (q0 := 0) (ci := 2) rfl rfl) rfl rfl hl.1 rfl (lv_room (Nat.le_of_ble_eq_true rfl)) dX2_statement_57 ⟨Nat.le_of_ble_eq_true rfl, Nat.le_of_ble_eq_true rfl⟩) (fun u9 H locs hw9 hP' hD' hS => ?_)
        clear hPc hDc hFc
        have hP : va_P (dC, dI) vwCl (b_g cB cC cI cJ cZ oA rA u_49.2 ++ b_w cB cC cI cJ cZ oA rA u_49.2 ++ b_c cB cC cI cJ cZ oA rA u_49.2) H := hP'
        clear hP' hD'
        refine lv_goto (tgt := 117) hx hb dX2_statement_60 (by decide) ?_
        exact Jj_18  u_49.2 hF_50 _ _ hP hS ls (lv_sub hl [1] rfl)
    · have hF_11 := ipos c_10 hF_9
      clear hF_9
      refine lv_aload_n hx hb dX2_statement_37 rfl (lv_at hl 1 rfl) ?_
      obtain ⟨u_12, hu_12, hF_13⟩ := Option.bind_eq_some_iff.mp hF_11
      clear hF_11
      have hPc := bx_P (bs := [b_g cB cC cI cJ cZ oA rA Γ, b_w cB cC cI cJ cZ oA rA Γ, b_c cB cC cI cJ cZ oA rA Γ]) (bs' := [b_g cB cC cI cJ cZ oA rA Γ, b_w cB cC cI cJ cZ oA rA Γ, b_c cB cC cI cJ cZ oA rA Γ]) (ws' := (b_g cB cC cI cJ cZ oA rA Γ ++ b_w cB cC cI cJ cZ oA rA Γ ++ b_c cB cC cI cJ cZ oA rA Γ)) hP fl_3 fl_3 [0, 1, 2] rfl
      have hDc := bx_D (bs := [b_g cB cC cI cJ cZ oA rA Γ, b_w cB cC cI cJ cZ oA rA Γ, b_c cB cC cI cJ cZ oA rA Γ]) (bs' := [b_g cB cC cI cJ cZ oA rA Γ, b_w cB cC cI cJ cZ oA rA Γ, b_c cB cC cI cJ cZ oA rA Γ]) (ws' := (b_g cB cC cI cJ cZ oA rA Γ ++ b_w cB cC cI cJ cZ oA rA Γ ++ b_c cB cC cI cJ cZ oA rA Γ)) (hDD Γ) fl_3 fl_3 [0, 1, 2] (by decide +kernel) rfl
      have hFc := bx_F (bs := [b_g cB cC cI cJ cZ oA rA Γ, b_w cB cC cI cJ cZ oA rA Γ, b_c cB cC cI cJ cZ oA rA Γ]) (bs' := [b_g cB cC cI cJ cZ oA rA Γ, b_w cB cC cI cJ cZ oA rA Γ, b_c cB cC cI cJ cZ oA rA Γ]) (wc := (b_g cB cC cI cJ cZ oA rA Γ ++ b_w cB cC cI cJ cZ oA rA Γ ++ b_c cB cC cI cJ cZ oA rA Γ)) (hDD Γ) hS hA fl_3 fl_3 [0, 1, 2] rfl
      refine g_ofv (wc := (b_g cB cC cI cJ cZ oA rA Γ ++ b_w cB cC cI cJ cZ oA rA Γ ++ b_c cB cC cI cJ cZ oA rA Γ)) (wr := ([] : va_W)) hP (hDD Γ) hS hFc (bx_ix [b_g cB cC cI cJ cZ oA rA Γ, b_w cB cC cI cJ cZ oA rA Γ, b_c cB cC cI cJ cZ oA rA Γ] [0, 1, 2]) (bx_ix [b_g cB cC cI cJ cZ oA rA Γ, b_w cB cC cI cJ cZ oA rA Γ, b_c cB cC cI cJ cZ oA rA Γ] []) (bx_C (bs := [b_g cB cC cI cJ cZ oA rA Γ, b_w cB cC cI cJ cZ oA rA Γ, b_c cB cC cI cJ cZ oA rA Γ]) (bs' := [b_g cB cC cI cJ cZ oA rA Γ, b_w cB cC cI cJ cZ oA rA Γ, b_c cB cC cI cJ cZ oA rA Γ]) (is := [0, 1, 2]) fl_3 fl_3 rfl) (bx_C (bs := [b_g cB cC cI cJ cZ oA rA Γ, b_w cB cC cI cJ cZ oA rA Γ, b_c cB cC cI cJ cZ oA rA Γ]) (bs' := []) (is := []) fl_3 fl_0 rfl) (bx_n (by decide +kernel)) (bx_d (by decide +kernel)) (va_runV (As := []) (rest := []) ⟨hx, hb, hml, hown, hts⟩ (k_X2_pass l dC dI cB cC cI cJ cZ cP oA rA H.size  Γ _ hu_12) (cwV 0 hts (g_gV wq_555 wq_556 wq_1997 wq_3 wq_557) rfl rfl rfl (by decide +kernel) ⟨by show 1 + 1 ≤ 306 + (d + 1); omega, by show 8 + (1 + 11) + 40 ≤ 6746 + 22 * (d + 1); omega⟩) (g_preV g_bl0 hK hPc hDc hS hE hFc g_to0 (q0 := 0) (ci := 2) rfl rfl) rfl rfl hl.1 rfl (lv_room (Nat.le_of_ble_eq_true rfl)) dX2_statement_38 ⟨Nat.le_of_ble_eq_true rfl, Nat.le_of_ble_eq_true rfl⟩) (fun u9 H locs hw9 hP' hD' hS => ?_)
      clear hPc hDc hFc
      have hP : va_P (dC, dI) vwCl (b_g cB cC cI cJ cZ oA rA u_12.2 ++ b_w cB cC cI cJ cZ oA rA u_12.2 ++ b_c cB cC cI cJ cZ oA rA u_12.2) H := hP'
      clear hP' hD'
      refine lv_aload_n hx hb dX2_statement_41 rfl (lv_at hl 1 rfl) ?_
      obtain ⟨u_14, hu_14, hF_15⟩ := Option.bind_eq_some_iff.mp hF_13
      clear hF_13
      have hPc := bx_P (bs := [b_g cB cC cI cJ cZ oA rA u_12.2, b_w cB cC cI cJ cZ oA rA u_12.2, b_c cB cC cI cJ cZ oA rA u_12.2]) (bs' := [b_g cB cC cI cJ cZ oA rA u_12.2, b_w cB cC cI cJ cZ oA rA u_12.2, b_c cB cC cI cJ cZ oA rA u_12.2]) (ws' := (b_g cB cC cI cJ cZ oA rA u_12.2 ++ b_w cB cC cI cJ cZ oA rA u_12.2 ++ b_c cB cC cI cJ cZ oA rA u_12.2)) hP fl_3 fl_3 [0, 1, 2] rfl
      have hDc := bx_D (bs := [b_g cB cC cI cJ cZ oA rA u_12.2, b_w cB cC cI cJ cZ oA rA u_12.2, b_c cB cC cI cJ cZ oA rA u_12.2]) (bs' := [b_g cB cC cI cJ cZ oA rA u_12.2, b_w cB cC cI cJ cZ oA rA u_12.2, b_c cB cC cI cJ cZ oA rA u_12.2]) (ws' := (b_g cB cC cI cJ cZ oA rA u_12.2 ++ b_w cB cC cI cJ cZ oA rA u_12.2 ++ b_c cB cC cI cJ cZ oA rA u_12.2)) (hDD u_12.2) fl_3 fl_3 [0, 1, 2] (by decide +kernel) rfl
      have hFc := bx_F (bs := [b_g cB cC cI cJ cZ oA rA u_12.2, b_w cB cC cI cJ cZ oA rA u_12.2, b_c cB cC cI cJ cZ oA rA u_12.2]) (bs' := [b_g cB cC cI cJ cZ oA rA u_12.2, b_w cB cC cI cJ cZ oA rA u_12.2, b_c cB cC cI cJ cZ oA rA u_12.2]) (wc := (b_g cB cC cI cJ cZ oA rA u_12.2 ++ b_w cB cC cI cJ cZ oA rA u_12.2 ++ b_c cB cC cI cJ cZ oA rA u_12.2)) (hDD u_12.2) hS hA fl_3 fl_3 [0, 1, 2] rfl
      refine g_ofv (wc := (b_g cB cC cI cJ cZ oA rA u_12.2 ++ b_w cB cC cI cJ cZ oA rA u_12.2 ++ b_c cB cC cI cJ cZ oA rA u_12.2)) (wr := ([] : va_W)) hP (hDD u_12.2) hS hFc (bx_ix [b_g cB cC cI cJ cZ oA rA u_12.2, b_w cB cC cI cJ cZ oA rA u_12.2, b_c cB cC cI cJ cZ oA rA u_12.2] [0, 1, 2]) (bx_ix [b_g cB cC cI cJ cZ oA rA u_12.2, b_w cB cC cI cJ cZ oA rA u_12.2, b_c cB cC cI cJ cZ oA rA u_12.2] []) (bx_C (bs := [b_g cB cC cI cJ cZ oA rA u_12.2, b_w cB cC cI cJ cZ oA rA u_12.2, b_c cB cC cI cJ cZ oA rA u_12.2]) (bs' := [b_g cB cC cI cJ cZ oA rA u_12.2, b_w cB cC cI cJ cZ oA rA u_12.2, b_c cB cC cI cJ cZ oA rA u_12.2]) (is := [0, 1, 2]) fl_3 fl_3 rfl) (bx_C (bs := [b_g cB cC cI cJ cZ oA rA u_12.2, b_w cB cC cI cJ cZ oA rA u_12.2, b_c cB cC cI cJ cZ oA rA u_12.2]) (bs' := []) (is := []) fl_3 fl_0 rfl) (bx_n (by decide +kernel)) (bx_d (by decide +kernel)) (va_runV (As := []) (rest := []) ⟨hx, hb, hml, hown, hts⟩ (hI3 H.size u_12.2 _ hu_14) (cwV 0 hts (g_gV wq_679 wq_680 wq_2027 wq_3 wq_681) rfl rfl rfl (by decide +kernel) ⟨by show 306 + d + 1 ≤ 306 + (d + 1); omega, by show 8 + (3 + 11) + (6746 + 22 * d) ≤ 6746 + 22 * (d + 1); omega⟩) (g_preV g_bl0 hK hPc hDc hS hE hFc g_to0 (q0 := 0) (ci := 2) rfl rfl) rfl rfl hl.1 rfl (lv_room (Nat.le_of_ble_eq_true rfl)) dX2_statement_42 ⟨Nat.le_of_ble_eq_true rfl, Nat.le_of_ble_eq_true rfl⟩) (fun u9 H locs hw9 hP' hD' hS => ?_)
      clear hPc hDc hFc
      have hP : va_P (dC, dI) vwCl (b_g cB cC cI cJ cZ oA rA u_14.2 ++ b_w cB cC cI cJ cZ oA rA u_14.2 ++ b_c cB cC cI cJ cZ oA rA u_14.2) H := hP'
      clear hP' hD'
      have h9 := Option.some.inj hF_15
      subst h9
      exact W.vret hx hb hr (fun t ht hW => ⟨⟨(), rfl, trivial, m_end ht hP, hDD _⟩, hS.F ht⟩) hS.2.2 dX2_statement_45
  · have hF_4 := ipos c_3 hF_2
    clear hF_2
    refine lv_aload_n hx hb dX2_statement_18 rfl (lv_at hl 1 rfl) ?_
    obtain ⟨u_5, hu_5, hF_6⟩ := Option.bind_eq_some_iff.mp hF_4
    clear hF_4
    have hPc := bx_P (bs := [b_g cB cC cI cJ cZ oA rA Γ, b_w cB cC cI cJ cZ oA rA Γ, b_c cB cC cI cJ cZ oA rA Γ]) (bs' := [b_g cB cC cI cJ cZ oA rA Γ, b_w cB cC cI cJ cZ oA rA Γ, b_c cB cC cI cJ cZ oA rA Γ]) (ws' := (b_g cB cC cI cJ cZ oA rA Γ ++ b_w cB cC cI cJ cZ oA rA Γ ++ b_c cB cC cI cJ cZ oA rA Γ)) hP fl_3 fl_3 [0, 1, 2] rfl
    have hDc := bx_D (bs := [b_g cB cC cI cJ cZ oA rA Γ, b_w cB cC cI cJ cZ oA rA Γ, b_c cB cC cI cJ cZ oA rA Γ]) (bs' := [b_g cB cC cI cJ cZ oA rA Γ, b_w cB cC cI cJ cZ oA rA Γ, b_c cB cC cI cJ cZ oA rA Γ]) (ws' := (b_g cB cC cI cJ cZ oA rA Γ ++ b_w cB cC cI cJ cZ oA rA Γ ++ b_c cB cC cI cJ cZ oA rA Γ)) (hDD Γ) fl_3 fl_3 [0, 1, 2] (by decide +kernel) rfl
    have hFc := bx_F (bs := [b_g cB cC cI cJ cZ oA rA Γ, b_w cB cC cI cJ cZ oA rA Γ, b_c cB cC cI cJ cZ oA rA Γ]) (bs' := [b_g cB cC cI cJ cZ oA rA Γ, b_w cB cC cI cJ cZ oA rA Γ, b_c cB cC cI cJ cZ oA rA Γ]) (wc := (b_g cB cC cI cJ cZ oA rA Γ ++ b_w cB cC cI cJ cZ oA rA Γ ++ b_c cB cC cI cJ cZ oA rA Γ)) (hDD Γ) hS hA fl_3 fl_3 [0, 1, 2] rfl
    refine g_ofv (wc := (b_g cB cC cI cJ cZ oA rA Γ ++ b_w cB cC cI cJ cZ oA rA Γ ++ b_c cB cC cI cJ cZ oA rA Γ)) (wr := ([] : va_W)) hP (hDD Γ) hS hFc (bx_ix [b_g cB cC cI cJ cZ oA rA Γ, b_w cB cC cI cJ cZ oA rA Γ, b_c cB cC cI cJ cZ oA rA Γ] [0, 1, 2]) (bx_ix [b_g cB cC cI cJ cZ oA rA Γ, b_w cB cC cI cJ cZ oA rA Γ, b_c cB cC cI cJ cZ oA rA Γ] []) (bx_C (bs := [b_g cB cC cI cJ cZ oA rA Γ, b_w cB cC cI cJ cZ oA rA Γ, b_c cB cC cI cJ cZ oA rA Γ]) (bs' := [b_g cB cC cI cJ cZ oA rA Γ, b_w cB cC cI cJ cZ oA rA Γ, b_c cB cC cI cJ cZ oA rA Γ]) (is := [0, 1, 2]) fl_3 fl_3 rfl) (bx_C (bs := [b_g cB cC cI cJ cZ oA rA Γ, b_w cB cC cI cJ cZ oA rA Γ, b_c cB cC cI cJ cZ oA rA Γ]) (bs' := []) (is := []) fl_3 fl_0 rfl) (bx_n (by decide +kernel)) (bx_d (by decide +kernel)) (va_runV (As := []) (rest := []) ⟨hx, hb, hml, hown, hts⟩ (k_X2_pass l dC dI cB cC cI cJ cZ cP oA rA H.size  Γ _ hu_5) (cwV 0 hts (g_gV wq_555 wq_556 wq_1997 wq_3 wq_557) rfl rfl rfl (by decide +kernel) ⟨by show 1 + 1 ≤ 306 + (d + 1); omega, by show 8 + (1 + 11) + 40 ≤ 6746 + 22 * (d + 1); omega⟩) (g_preV g_bl0 hK hPc hDc hS hE hFc g_to0 (q0 := 0) (ci := 2) rfl rfl) rfl rfl hl.1 rfl (lv_room (Nat.le_of_ble_eq_true rfl)) dX2_statement_19 ⟨Nat.le_of_ble_eq_true rfl, Nat.le_of_ble_eq_true rfl⟩) (fun u9 H locs hw9 hP' hD' hS => ?_)
    clear hPc hDc hFc
    have hP : va_P (dC, dI) vwCl (b_g cB cC cI cJ cZ oA rA u_5.2 ++ b_w cB cC cI cJ cZ oA rA u_5.2 ++ b_c cB cC cI cJ cZ oA rA u_5.2) H := hP'
    clear hP' hD'
    refine lv_aload_n hx hb dX2_statement_22 rfl (lv_at hl 1 rfl) ?_
    obtain ⟨u_7, hu_7, hF_8⟩ := Option.bind_eq_some_iff.mp hF_6
    clear hF_6
    have hPc := bx_P (bs := [b_g cB cC cI cJ cZ oA rA u_5.2, b_w cB cC cI cJ cZ oA rA u_5.2, b_c cB cC cI cJ cZ oA rA u_5.2]) (bs' := [b_g cB cC cI cJ cZ oA rA u_5.2, b_w cB cC cI cJ cZ oA rA u_5.2, b_c cB cC cI cJ cZ oA rA u_5.2]) (ws' := (b_g cB cC cI cJ cZ oA rA u_5.2 ++ b_w cB cC cI cJ cZ oA rA u_5.2 ++ b_c cB cC cI cJ cZ oA rA u_5.2)) hP fl_3 fl_3 [0, 1, 2] rfl
    have hDc := bx_D (bs := [b_g cB cC cI cJ cZ oA rA u_5.2, b_w cB cC cI cJ cZ oA rA u_5.2, b_c cB cC cI cJ cZ oA rA u_5.2]) (bs' := [b_g cB cC cI cJ cZ oA rA u_5.2, b_w cB cC cI cJ cZ oA rA u_5.2, b_c cB cC cI cJ cZ oA rA u_5.2]) (ws' := (b_g cB cC cI cJ cZ oA rA u_5.2 ++ b_w cB cC cI cJ cZ oA rA u_5.2 ++ b_c cB cC cI cJ cZ oA rA u_5.2)) (hDD u_5.2) fl_3 fl_3 [0, 1, 2] (by decide +kernel) rfl
    have hFc := bx_F (bs := [b_g cB cC cI cJ cZ oA rA u_5.2, b_w cB cC cI cJ cZ oA rA u_5.2, b_c cB cC cI cJ cZ oA rA u_5.2]) (bs' := [b_g cB cC cI cJ cZ oA rA u_5.2, b_w cB cC cI cJ cZ oA rA u_5.2, b_c cB cC cI cJ cZ oA rA u_5.2]) (wc := (b_g cB cC cI cJ cZ oA rA u_5.2 ++ b_w cB cC cI cJ cZ oA rA u_5.2 ++ b_c cB cC cI cJ cZ oA rA u_5.2)) (hDD u_5.2) hS hA fl_3 fl_3 [0, 1, 2] rfl
    refine g_ofv (wc := (b_g cB cC cI cJ cZ oA rA u_5.2 ++ b_w cB cC cI cJ cZ oA rA u_5.2 ++ b_c cB cC cI cJ cZ oA rA u_5.2)) (wr := ([] : va_W)) hP (hDD u_5.2) hS hFc (bx_ix [b_g cB cC cI cJ cZ oA rA u_5.2, b_w cB cC cI cJ cZ oA rA u_5.2, b_c cB cC cI cJ cZ oA rA u_5.2] [0, 1, 2]) (bx_ix [b_g cB cC cI cJ cZ oA rA u_5.2, b_w cB cC cI cJ cZ oA rA u_5.2, b_c cB cC cI cJ cZ oA rA u_5.2] []) (bx_C (bs := [b_g cB cC cI cJ cZ oA rA u_5.2, b_w cB cC cI cJ cZ oA rA u_5.2, b_c cB cC cI cJ cZ oA rA u_5.2]) (bs' := [b_g cB cC cI cJ cZ oA rA u_5.2, b_w cB cC cI cJ cZ oA rA u_5.2, b_c cB cC cI cJ cZ oA rA u_5.2]) (is := [0, 1, 2]) fl_3 fl_3 rfl) (bx_C (bs := [b_g cB cC cI cJ cZ oA rA u_5.2, b_w cB cC cI cJ cZ oA rA u_5.2, b_c cB cC cI cJ cZ oA rA u_5.2]) (bs' := []) (is := []) fl_3 fl_0 rfl) (bx_n (by decide +kernel)) (bx_d (by decide +kernel)) (va_runV (As := []) (rest := []) ⟨hx, hb, hml, hown, hts⟩ (hI2 H.size u_5.2 _ hu_7) (cwV 0 hts (g_gV wq_624 wq_625 wq_2015 wq_3 wq_626) rfl rfl rfl (by decide +kernel) ⟨by show 306 + d + 1 ≤ 306 + (d + 1); omega, by show 8 + (3 + 11) + (6746 + 22 * d) ≤ 6746 + 22 * (d + 1); omega⟩) (g_preV g_bl0 hK hPc hDc hS hE hFc g_to0 (q0 := 0) (ci := 2) rfl rfl) rfl rfl hl.1 rfl (lv_room (Nat.le_of_ble_eq_true rfl)) dX2_statement_23 ⟨Nat.le_of_ble_eq_true rfl, Nat.le_of_ble_eq_true rfl⟩) (fun u9 H locs hw9 hP' hD' hS => ?_)
    clear hPc hDc hFc
    have hP : va_P (dC, dI) vwCl (b_g cB cC cI cJ cZ oA rA u_7.2 ++ b_w cB cC cI cJ cZ oA rA u_7.2 ++ b_c cB cC cI cJ cZ oA rA u_7.2) H := hP'
    clear hP' hD'
    have h9 := Option.some.inj hF_8
    subst h9
    exact W.vret hx hb hr (fun t ht hW => ⟨⟨(), rfl, trivial, m_end ht hP, hDD _⟩, hS.F ht⟩) hS.2.2 dX2_statement_26

def F_X2_ifStatement (rec : HG)  (Γ : HS) : HR :=
  (G_X2_expression Γ).bind fun u_1 =>
  (F_X0_add_ 42 0 u_1.2).bind fun u_3 =>
  bnd (mrg (fun j => j == 5) u_1.2 u_3.2) fun σ_5 =>
  (rec 0 0 0 0 σ_5).bind fun u_7 =>
  (F_X2_accept 249 u_7.2).bind fun u_9 =>
  if u_9.1 = 0 then (
    (F_X0_aim u_3.1 u_9.2).bind fun u_13 =>
    bnd (mrg (fun j => j == 5) u_9.2 u_13.2) fun σ_15 =>
    some (0, σ_15)
  ) else (
    (F_X0_add_ 41 0 u_9.2).bind fun u_18 =>
    bnd (mrg (fun j => j == 5) u_9.2 u_18.2) fun σ_20 =>
    (F_X0_aim u_3.1 σ_20).bind fun u_22 =>
    bnd (mrg (fun j => j == 5) σ_20 u_22.2) fun σ_24 =>
    bnd (fun  (σ_26 : HS) => (
      (F_X0_aim u_18.1 σ_26).bind fun u_30 =>
      bnd (mrg (fun j => j == 5) σ_26 u_30.2) fun σ_32 =>
      some (0, σ_32)
    ) : HS → HR) fun j_27 =>
    if ((σ_24 2).1 3) = 248 then (
      (F_X2_deepen σ_24).bind fun u_36 =>
      (rec 2 0 0 0 u_36.2).bind fun u_38 =>
      bnd (cI' u_38.2 2 4 (((u_38.2 2).1 4) - 1)) fun σ_40 =>
      j_27  σ_40
    ) else (
      (rec 0 0 0 0 σ_24).bind fun u_43 =>
      j_27  u_43.2
    )
  )
set_option maxHeartbeats 4000000 in
set_option maxRecDepth 100000 in
theorem k_X2_ifStatement_st (l : Launch) (dC : Nat → ClassId) (dI : Nat → Nat → Nat) (cB cC cI cJ cZ cP : ClassId) (oA : Nat → Nat) (rA : Nat → Nat → Nat) (d : Nat) (rec : HG) (hI0 : ∀ (sz : Nat)  (Γ : HS) (res : Int32 × HS), rec 0 0 0 0 Γ = some res → Met l yX2_block (g_ws yX2_block cX2_block 2 none) ({ frames := 306 + d, cells := 0, slots := 0, locals := 6746 + 22 * d }) (va_Pc [.ref (oA 2)] (g_B (dC, dI) [(cB, .byte), (cC, .char), (cI, .int), (cJ, .long), (cZ, .boolean), (cP, .object "StoryHouse$Play")] sz (b_g cB cC cI cJ cZ oA rA Γ ++ b_w cB cC cI cJ cZ oA rA Γ ++ b_c cB cC cI cJ cZ oA rA Γ) g_0)) (va_Qv (fun (_ : Unit) => True) (g_Bo (dC, dI) (va_A (b_g cB cC cI cJ cZ oA rA Γ ++ b_w cB cC cI cJ cZ oA rA Γ ++ b_c cB cC cI cJ cZ oA rA Γ) sz) (fun (_ : Unit) => (b_g cB cC cI cJ cZ oA rA res.2 ++ b_w cB cC cI cJ cZ oA rA res.2 ++ b_c cB cC cI cJ cZ oA rA res.2))) (va_A (b_g cB cC cI cJ cZ oA rA Γ ++ b_w cB cC cI cJ cZ oA rA Γ ++ b_c cB cC cI cJ cZ oA rA Γ) sz)) 0 0 (va_A (b_g cB cC cI cJ cZ oA rA Γ ++ b_w cB cC cI cJ cZ oA rA Γ ++ b_c cB cC cI cJ cZ oA rA Γ) sz)) (hI1 : ∀ (sz : Nat)  (Γ : HS) (res : Int32 × HS), rec 1 0 0 0 Γ = some res → Met l yX2_statement (g_ws yX2_statement cX2_statement 2 none) ({ frames := 306 + d, cells := 0, slots := 0, locals := 6746 + 22 * d }) (va_Pc [.ref (oA 2)] (g_B (dC, dI) [(cB, .byte), (cC, .char), (cI, .int), (cJ, .long), (cZ, .boolean), (cP, .object "StoryHouse$Play")] sz (b_g cB cC cI cJ cZ oA rA Γ ++ b_w cB cC cI cJ cZ oA rA Γ ++ b_c cB cC cI cJ cZ oA rA Γ) g_0)) (va_Qv (fun (_ : Unit) => True) (g_Bo (dC, dI) (va_A (b_g cB cC cI cJ cZ oA rA Γ ++ b_w cB cC cI cJ cZ oA rA Γ ++ b_c cB cC cI cJ cZ oA rA Γ) sz) (fun (_ : Unit) => (b_g cB cC cI cJ cZ oA rA res.2 ++ b_w cB cC cI cJ cZ oA rA res.2 ++ b_c cB cC cI cJ cZ oA rA res.2))) (va_A (b_g cB cC cI cJ cZ oA rA Γ ++ b_w cB cC cI cJ cZ oA rA Γ ++ b_c cB cC cI cJ cZ oA rA Γ) sz)) 0 0 (va_A (b_g cB cC cI cJ cZ oA rA Γ ++ b_w cB cC cI cJ cZ oA rA Γ ++ b_c cB cC cI cJ cZ oA rA Γ) sz)) (hI2 : ∀ (sz : Nat)  (Γ : HS) (res : Int32 × HS), rec 2 0 0 0 Γ = some res → Met l yX2_ifStatement (g_ws yX2_ifStatement cX2_ifStatement 3 none) ({ frames := 306 + d, cells := 0, slots := 0, locals := 6746 + 22 * d }) (va_Pc [.ref (oA 2)] (g_B (dC, dI) [(cB, .byte), (cC, .char), (cI, .int), (cJ, .long), (cZ, .boolean), (cP, .object "StoryHouse$Play")] sz (b_g cB cC cI cJ cZ oA rA Γ ++ b_w cB cC cI cJ cZ oA rA Γ ++ b_c cB cC cI cJ cZ oA rA Γ) g_0)) (va_Qv (fun (_ : Unit) => True) (g_Bo (dC, dI) (va_A (b_g cB cC cI cJ cZ oA rA Γ ++ b_w cB cC cI cJ cZ oA rA Γ ++ b_c cB cC cI cJ cZ oA rA Γ) sz) (fun (_ : Unit) => (b_g cB cC cI cJ cZ oA rA res.2 ++ b_w cB cC cI cJ cZ oA rA res.2 ++ b_c cB cC cI cJ cZ oA rA res.2))) (va_A (b_g cB cC cI cJ cZ oA rA Γ ++ b_w cB cC cI cJ cZ oA rA Γ ++ b_c cB cC cI cJ cZ oA rA Γ) sz)) 0 0 (va_A (b_g cB cC cI cJ cZ oA rA Γ ++ b_w cB cC cI cJ cZ oA rA Γ ++ b_c cB cC cI cJ cZ oA rA Γ) sz)) (hI3 : ∀ (sz : Nat)  (Γ : HS) (res : Int32 × HS), rec 3 0 0 0 Γ = some res → Met l yX2_whileStatement (g_ws yX2_whileStatement cX2_whileStatement 3 none) ({ frames := 306 + d, cells := 0, slots := 0, locals := 6746 + 22 * d }) (va_Pc [.ref (oA 2)] (g_B (dC, dI) [(cB, .byte), (cC, .char), (cI, .int), (cJ, .long), (cZ, .boolean), (cP, .object "StoryHouse$Play")] sz (b_g cB cC cI cJ cZ oA rA Γ ++ b_w cB cC cI cJ cZ oA rA Γ ++ b_c cB cC cI cJ cZ oA rA Γ) g_0)) (va_Qv (fun (_ : Unit) => True) (g_Bo (dC, dI) (va_A (b_g cB cC cI cJ cZ oA rA Γ ++ b_w cB cC cI cJ cZ oA rA Γ ++ b_c cB cC cI cJ cZ oA rA Γ) sz) (fun (_ : Unit) => (b_g cB cC cI cJ cZ oA rA res.2 ++ b_w cB cC cI cJ cZ oA rA res.2 ++ b_c cB cC cI cJ cZ oA rA res.2))) (va_A (b_g cB cC cI cJ cZ oA rA Γ ++ b_w cB cC cI cJ cZ oA rA Γ ++ b_c cB cC cI cJ cZ oA rA Γ) sz)) 0 0 (va_A (b_g cB cC cI cJ cZ oA rA Γ ++ b_w cB cC cI cJ cZ oA rA Γ ++ b_c cB cC cI cJ cZ oA rA Γ) sz)) (sz : Nat)   (Γ : HS) (res : Int32 × HS) (hF : F_X2_ifStatement rec  Γ = some res) : Met l yX2_ifStatement (g_ws yX2_ifStatement cX2_ifStatement 3 none) ({ frames := 306 + (d + 1), cells := 0, slots := 0, locals := 6746 + 22 * (d + 1) }) (va_Pc [.ref (oA 2)] (g_B (dC, dI) [(cB, .byte), (cC, .char), (cI, .int), (cJ, .long), (cZ, .boolean), (cP, .object "StoryHouse$Play")] sz (b_g cB cC cI cJ cZ oA rA Γ ++ b_w cB cC cI cJ cZ oA rA Γ ++ b_c cB cC cI cJ cZ oA rA Γ) g_0)) (va_Qv (fun (_ : Unit) => True) (g_Bo (dC, dI) (va_A (b_g cB cC cI cJ cZ oA rA Γ ++ b_w cB cC cI cJ cZ oA rA Γ ++ b_c cB cC cI cJ cZ oA rA Γ) sz) (fun (_ : Unit) => (b_g cB cC cI cJ cZ oA rA res.2 ++ b_w cB cC cI cJ cZ oA rA res.2 ++ b_c cB cC cI cJ cZ oA rA res.2))) (va_A (b_g cB cC cI cJ cZ oA rA Γ ++ b_w cB cC cI cJ cZ oA rA Γ ++ b_c cB cC cI cJ cZ oA rA Γ) sz)) 0 0 (va_A (b_g cB cC cI cJ cZ oA rA Γ ++ b_w cB cC cI cJ cZ oA rA Γ ++ b_c cB cC cI cJ cZ oA rA Γ) sz) := by
  refine Met.ofW (cc := cX2_ifStatement) (maxL := 3) (ret := none) (by decide) rfl ?_
  intro p e s m args below meth c s₁ B hml hv
  obtain ⟨rfl, hsz, hP, hK, hD0, hE, hX⟩ := hv
  have hx := B.exec
  have hb := B.bytes
  have hr := B.returns
  have hts0 := atoms_spec (ws := g_ws yX2_ifStatement cX2_ifStatement 3 none) B.pre
  have hts : ∀ w ∈ lw_good, w.before ([.ref (oA 2)] : List Value).toArray s = true := fun w z => hts0 w (List.mem_cons_of_mem _ z)
  have hown : s.vm.findClass RX2 = some m.cls := findClass_of_methodNamed B.named
  have hlocks := B.notSynchronized
  subst hsz
  have hD1 := hD0.self (sz := s.heap.size)
  generalize hAe : va_A (b_g cB cC cI cJ cZ oA rA Γ ++ b_w cB cC cI cJ cZ oA rA Γ ++ b_c cB cC cI cJ cZ oA rA Γ) s.heap.size = A at hD1 hE hX ⊢
  have hA : ∀ q : Nat, s.heap.size ≤ q → A q := fun q z => by rw [← hAe]; exact Or.inr z
  have hDD : ∀ Γ : HS, va_D A (b_g cB cC cI cJ cZ oA rA Γ ++ b_w cB cC cI cJ cZ oA rA Γ ++ b_c cB cC cI cJ cZ oA rA Γ) := fun Γ9 => va_D_fst (ws := (b_g cB cC cI cJ cZ oA rA Γ ++ b_w cB cC cI cJ cZ oA rA Γ ++ b_c cB cC cI cJ cZ oA rA Γ)) (ws' := (b_g cB cC cI cJ cZ oA rA Γ9 ++ b_w cB cC cI cJ cZ oA rA Γ9 ++ b_c cB cC cI cJ cZ oA rA Γ9)) rfl hD1
  have hN := hE.1
  have hS : va_S A s.heap s.heap [] := va_S.rf
  have hl := lv_entry ([.ref (oA 2)]) (n := 3) (Nat.le_of_ble_eq_true rfl)
  rw [lg_entry_eq]
  generalize (lg_sl ([.ref (oA 2)]) ++ List.replicate (3 - (lg_sl ([.ref (oA 2)])).length) Slot.unset).toArray = ls at hl ⊢
  have hl : lv_has ls 3 [(0, .ref (oA 2))] := hl
  unfold F_X2_ifStatement at hF
  refine lv_aload_n hx hb dX2_ifStatement_0 rfl (lv_at hl 0 rfl) ?_
  obtain ⟨u_1, hu_1, hF_2⟩ := Option.bind_eq_some_iff.mp hF
  clear hF
  have hPc := bx_P (bs := [b_g cB cC cI cJ cZ oA rA Γ, b_w cB cC cI cJ cZ oA rA Γ, b_c cB cC cI cJ cZ oA rA Γ]) (bs' := [b_g cB cC cI cJ cZ oA rA Γ, b_w cB cC cI cJ cZ oA rA Γ, b_c cB cC cI cJ cZ oA rA Γ]) (ws' := (b_g cB cC cI cJ cZ oA rA Γ ++ b_w cB cC cI cJ cZ oA rA Γ ++ b_c cB cC cI cJ cZ oA rA Γ)) hP fl_3 fl_3 [0, 1, 2] rfl
  have hDc := bx_D (bs := [b_g cB cC cI cJ cZ oA rA Γ, b_w cB cC cI cJ cZ oA rA Γ, b_c cB cC cI cJ cZ oA rA Γ]) (bs' := [b_g cB cC cI cJ cZ oA rA Γ, b_w cB cC cI cJ cZ oA rA Γ, b_c cB cC cI cJ cZ oA rA Γ]) (ws' := (b_g cB cC cI cJ cZ oA rA Γ ++ b_w cB cC cI cJ cZ oA rA Γ ++ b_c cB cC cI cJ cZ oA rA Γ)) (hDD Γ) fl_3 fl_3 [0, 1, 2] (by decide +kernel) rfl
  have hFc := bx_F (bs := [b_g cB cC cI cJ cZ oA rA Γ, b_w cB cC cI cJ cZ oA rA Γ, b_c cB cC cI cJ cZ oA rA Γ]) (bs' := [b_g cB cC cI cJ cZ oA rA Γ, b_w cB cC cI cJ cZ oA rA Γ, b_c cB cC cI cJ cZ oA rA Γ]) (wc := (b_g cB cC cI cJ cZ oA rA Γ ++ b_w cB cC cI cJ cZ oA rA Γ ++ b_c cB cC cI cJ cZ oA rA Γ)) (hDD Γ) hS hA fl_3 fl_3 [0, 1, 2] rfl
  refine g_ofv (wc := (b_g cB cC cI cJ cZ oA rA Γ ++ b_w cB cC cI cJ cZ oA rA Γ ++ b_c cB cC cI cJ cZ oA rA Γ)) (wr := ([] : va_W)) hP (hDD Γ) hS hFc (bx_ix [b_g cB cC cI cJ cZ oA rA Γ, b_w cB cC cI cJ cZ oA rA Γ, b_c cB cC cI cJ cZ oA rA Γ] [0, 1, 2]) (bx_ix [b_g cB cC cI cJ cZ oA rA Γ, b_w cB cC cI cJ cZ oA rA Γ, b_c cB cC cI cJ cZ oA rA Γ] []) (bx_C (bs := [b_g cB cC cI cJ cZ oA rA Γ, b_w cB cC cI cJ cZ oA rA Γ, b_c cB cC cI cJ cZ oA rA Γ]) (bs' := [b_g cB cC cI cJ cZ oA rA Γ, b_w cB cC cI cJ cZ oA rA Γ, b_c cB cC cI cJ cZ oA rA Γ]) (is := [0, 1, 2]) fl_3 fl_3 rfl) (bx_C (bs := [b_g cB cC cI cJ cZ oA rA Γ, b_w cB cC cI cJ cZ oA rA Γ, b_c cB cC cI cJ cZ oA rA Γ]) (bs' := []) (is := []) fl_3 fl_0 rfl) (bx_n (by decide +kernel)) (bx_d (by decide +kernel)) (va_runV (As := []) (rest := []) ⟨hx, hb, hml, hown, hts⟩ (k_X2_expression l dC dI cB cC cI cJ cZ cP oA rA s.heap.size  Γ _ hu_1) (cwV 0 hts (g_gV wq_627 wq_628 wq_2016 wq_3 wq_629) rfl rfl rfl (by decide +kernel) ⟨by show 304 + 1 ≤ 306 + (d + 1); omega, by show 8 + (3 + 11) + 6702 ≤ 6746 + 22 * (d + 1); omega⟩) (g_preV g_bl0 hK hPc hDc hS hE hFc g_to0 (q0 := 0) (ci := 2) rfl rfl) rfl rfl hl.1 rfl (lv_room (Nat.le_of_ble_eq_true rfl)) dX2_ifStatement_1 ⟨Nat.le_of_ble_eq_true rfl, Nat.le_of_ble_eq_true rfl⟩) (fun u9 H locs hw9 hP' hD' hS => ?_)
  clear hPc hDc hFc
  have hP : va_P (dC, dI) vwCl (b_g cB cC cI cJ cZ oA rA u_1.2 ++ b_w cB cC cI cJ cZ oA rA u_1.2 ++ b_c cB cC cI cJ cZ oA rA u_1.2) H := hP'
  clear hP' hD'
  refine lv_aload_n hx hb dX2_ifStatement_4 rfl (lv_at hl 0 rfl) ?_
  refine va_get (D := (dC, dI)) (ci := 2) (v := .ref (oA 5)) (C := RX2) (T := TX2) (N := 8) hx hb hts ii_X2 hown hK hP 0 rfl rfl 1 (by decide) (hts (.fieldLink RX2 15 "StoryHouse$Grammar" "code" "LStoryHouse$Code;") wq_72) (fun _ h9 => h9) rfl dX2_ifStatement_5 ?_
  refine lv_bipush (v := 42) hx hb dX2_ifStatement_8 (by decide +kernel) ?_
  refine lv_iconst (v := 0) hx hb dX2_ifStatement_10 (by decide +kernel) ?_
  obtain ⟨u_3, hu_3, hF_4⟩ := Option.bind_eq_some_iff.mp hF_2
  clear hF_2
  have hPc := bx_P (bs := [b_g cB cC cI cJ cZ oA rA u_1.2, b_w cB cC cI cJ cZ oA rA u_1.2, b_c cB cC cI cJ cZ oA rA u_1.2]) (bs' := [b_c cB cC cI cJ cZ oA rA u_1.2]) (ws' := (b_c cB cC cI cJ cZ oA rA u_1.2)) hP fl_3 fl_1 [2] rfl
  have hDc := bx_D (bs := [b_g cB cC cI cJ cZ oA rA u_1.2, b_w cB cC cI cJ cZ oA rA u_1.2, b_c cB cC cI cJ cZ oA rA u_1.2]) (bs' := [b_c cB cC cI cJ cZ oA rA u_1.2]) (ws' := (b_c cB cC cI cJ cZ oA rA u_1.2)) (hDD u_1.2) fl_3 fl_1 [2] (by decide +kernel) rfl
  have hFc := bx_F (bs := [b_g cB cC cI cJ cZ oA rA u_1.2, b_w cB cC cI cJ cZ oA rA u_1.2, b_c cB cC cI cJ cZ oA rA u_1.2]) (bs' := [b_c cB cC cI cJ cZ oA rA u_1.2]) (wc := (b_c cB cC cI cJ cZ oA rA u_1.2)) (hDD u_1.2) hS hA fl_3 fl_1 [2] rfl
  refine g_ofi (wc := (b_c cB cC cI cJ cZ oA rA u_1.2)) (wr := (b_g cB cC cI cJ cZ oA rA u_1.2 ++ b_w cB cC cI cJ cZ oA rA u_1.2)) hP (hDD u_1.2) hS hFc (bx_ix [b_g cB cC cI cJ cZ oA rA u_1.2, b_w cB cC cI cJ cZ oA rA u_1.2, b_c cB cC cI cJ cZ oA rA u_1.2] [2]) (bx_ix [b_g cB cC cI cJ cZ oA rA u_1.2, b_w cB cC cI cJ cZ oA rA u_1.2, b_c cB cC cI cJ cZ oA rA u_1.2] [0, 1]) (bx_C (bs := [b_g cB cC cI cJ cZ oA rA u_1.2, b_w cB cC cI cJ cZ oA rA u_1.2, b_c cB cC cI cJ cZ oA rA u_1.2]) (bs' := [b_c cB cC cI cJ cZ oA rA u_1.2]) (is := [2]) fl_3 fl_1 rfl) (bx_C (bs := [b_g cB cC cI cJ cZ oA rA u_1.2, b_w cB cC cI cJ cZ oA rA u_1.2, b_c cB cC cI cJ cZ oA rA u_1.2]) (bs' := [b_g cB cC cI cJ cZ oA rA u_1.2, b_w cB cC cI cJ cZ oA rA u_1.2]) (is := [0, 1]) fl_3 fl_2 rfl) (bx_n (by decide +kernel)) (bx_d (by decide +kernel)) (va_runV (As := [.int 42, .int 0]) (rest := []) ⟨hx, hb, hml, hown, hts⟩ (k_X0_add_ l dC dI cB cC cI cJ cZ cP oA rA H.size  42 0 u_1.2 _ hu_3) (cwV 2 hts (g_gV wq_656 wq_657 wq_658 wq_6 wq_659) rfl rfl rfl (by decide +kernel) ⟨by show 1 + 1 ≤ 306 + (d + 1); omega, by show 8 + (3 + 11) + 40 ≤ 6746 + 22 * (d + 1); omega⟩) (g_preV g_bl0 hK hPc hDc hS hE hFc g_to0 (q0 := 0) (ci := 0) rfl rfl) rfl rfl hl.1 rfl (lv_room (Nat.le_of_ble_eq_true rfl)) dX2_ifStatement_11 ⟨Nat.le_of_ble_eq_true rfl, Nat.le_of_ble_eq_true rfl⟩) (fun r9 u9 H locs hw9 hP' hD' hS => ?_)
  clear hPc hDc hFc
  subst hw9
  obtain ⟨σ_5, eσ_5, hF_6⟩ := bnd_e hF_4
  clear hF_4
  have hP : va_P (dC, dI) vwCl (b_g cB cC cI cJ cZ oA rA σ_5 ++ b_w cB cC cI cJ cZ oA rA σ_5 ++ b_c cB cC cI cJ cZ oA rA σ_5) H := by rw [eσ_5]; exact bx_P (bs := [b_g cB cC cI cJ cZ oA rA u_1.2, b_w cB cC cI cJ cZ oA rA u_1.2] ++ [b_c cB cC cI cJ cZ oA rA u_3.2]) (bs' := [b_g cB cC cI cJ cZ oA rA (mrg (fun j => j == 5) u_1.2 u_3.2), b_w cB cC cI cJ cZ oA rA (mrg (fun j => j == 5) u_1.2 u_3.2), b_c cB cC cI cJ cZ oA rA (mrg (fun j => j == 5) u_1.2 u_3.2)]) hP' (fl_a fl_2 fl_1) fl_3 [0, 1, 2] rfl
  clear hP' hD'
  refine lv_istore_n (lv' := [(1, .int u_3.1), (0, .ref (oA 2))]) hx hb dX2_ifStatement_14 rfl hl (by decide) rfl (fun ls hl => ?_)
  refine lv_aload_n hx hb dX2_ifStatement_15 rfl (lv_at hl 1 rfl) ?_
  obtain ⟨u_7, hu_7, hF_8⟩ := Option.bind_eq_some_iff.mp hF_6
  clear hF_6
  have hPc := bx_P (bs := [b_g cB cC cI cJ cZ oA rA σ_5, b_w cB cC cI cJ cZ oA rA σ_5, b_c cB cC cI cJ cZ oA rA σ_5]) (bs' := [b_g cB cC cI cJ cZ oA rA σ_5, b_w cB cC cI cJ cZ oA rA σ_5, b_c cB cC cI cJ cZ oA rA σ_5]) (ws' := (b_g cB cC cI cJ cZ oA rA σ_5 ++ b_w cB cC cI cJ cZ oA rA σ_5 ++ b_c cB cC cI cJ cZ oA rA σ_5)) hP fl_3 fl_3 [0, 1, 2] rfl
  have hDc := bx_D (bs := [b_g cB cC cI cJ cZ oA rA σ_5, b_w cB cC cI cJ cZ oA rA σ_5, b_c cB cC cI cJ cZ oA rA σ_5]) (bs' := [b_g cB cC cI cJ cZ oA rA σ_5, b_w cB cC cI cJ cZ oA rA σ_5, b_c cB cC cI cJ cZ oA rA σ_5]) (ws' := (b_g cB cC cI cJ cZ oA rA σ_5 ++ b_w cB cC cI cJ cZ oA rA σ_5 ++ b_c cB cC cI cJ cZ oA rA σ_5)) (hDD σ_5) fl_3 fl_3 [0, 1, 2] (by decide +kernel) rfl
  have hFc := bx_F (bs := [b_g cB cC cI cJ cZ oA rA σ_5, b_w cB cC cI cJ cZ oA rA σ_5, b_c cB cC cI cJ cZ oA rA σ_5]) (bs' := [b_g cB cC cI cJ cZ oA rA σ_5, b_w cB cC cI cJ cZ oA rA σ_5, b_c cB cC cI cJ cZ oA rA σ_5]) (wc := (b_g cB cC cI cJ cZ oA rA σ_5 ++ b_w cB cC cI cJ cZ oA rA σ_5 ++ b_c cB cC cI cJ cZ oA rA σ_5)) (hDD σ_5) hS hA fl_3 fl_3 [0, 1, 2] rfl
  refine g_ofv (wc := (b_g cB cC cI cJ cZ oA rA σ_5 ++ b_w cB cC cI cJ cZ oA rA σ_5 ++ b_c cB cC cI cJ cZ oA rA σ_5)) (wr := ([] : va_W)) hP (hDD σ_5) hS hFc (bx_ix [b_g cB cC cI cJ cZ oA rA σ_5, b_w cB cC cI cJ cZ oA rA σ_5, b_c cB cC cI cJ cZ oA rA σ_5] [0, 1, 2]) (bx_ix [b_g cB cC cI cJ cZ oA rA σ_5, b_w cB cC cI cJ cZ oA rA σ_5, b_c cB cC cI cJ cZ oA rA σ_5] []) (bx_C (bs := [b_g cB cC cI cJ cZ oA rA σ_5, b_w cB cC cI cJ cZ oA rA σ_5, b_c cB cC cI cJ cZ oA rA σ_5]) (bs' := [b_g cB cC cI cJ cZ oA rA σ_5, b_w cB cC cI cJ cZ oA rA σ_5, b_c cB cC cI cJ cZ oA rA σ_5]) (is := [0, 1, 2]) fl_3 fl_3 rfl) (bx_C (bs := [b_g cB cC cI cJ cZ oA rA σ_5, b_w cB cC cI cJ cZ oA rA σ_5, b_c cB cC cI cJ cZ oA rA σ_5]) (bs' := []) (is := []) fl_3 fl_0 rfl) (bx_n (by decide +kernel)) (bx_d (by decide +kernel)) (va_runV (As := []) (rest := []) ⟨hx, hb, hml, hown, hts⟩ (hI0 H.size σ_5 _ hu_7) (cwV 0 hts (g_gV wq_615 wq_616 wq_2013 wq_3 wq_617) rfl rfl rfl (by decide +kernel) ⟨by show 306 + d + 1 ≤ 306 + (d + 1); omega, by show 8 + (2 + 11) + (6746 + 22 * d) ≤ 6746 + 22 * (d + 1); omega⟩) (g_preV g_bl0 hK hPc hDc hS hE hFc g_to0 (q0 := 0) (ci := 2) rfl rfl) rfl rfl hl.1 rfl (lv_room (Nat.le_of_ble_eq_true rfl)) dX2_ifStatement_16 ⟨Nat.le_of_ble_eq_true rfl, Nat.le_of_ble_eq_true rfl⟩) (fun u9 H locs hw9 hP' hD' hS => ?_)
  clear hPc hDc hFc
  have hP : va_P (dC, dI) vwCl (b_g cB cC cI cJ cZ oA rA u_7.2 ++ b_w cB cC cI cJ cZ oA rA u_7.2 ++ b_c cB cC cI cJ cZ oA rA u_7.2) H := hP'
  clear hP' hD'
  refine lv_aload_n hx hb dX2_ifStatement_19 rfl (lv_at hl 1 rfl) ?_
  refine lv_sipush (v := 249) hx hb dX2_ifStatement_20 (by decide +kernel) ?_
  obtain ⟨u_9, hu_9, hF_10⟩ := Option.bind_eq_some_iff.mp hF_8
  clear hF_8
  have hPc := bx_P (bs := [b_g cB cC cI cJ cZ oA rA u_7.2, b_w cB cC cI cJ cZ oA rA u_7.2, b_c cB cC cI cJ cZ oA rA u_7.2]) (bs' := [b_g cB cC cI cJ cZ oA rA u_7.2, b_w cB cC cI cJ cZ oA rA u_7.2, b_c cB cC cI cJ cZ oA rA u_7.2]) (ws' := (b_g cB cC cI cJ cZ oA rA u_7.2 ++ b_w cB cC cI cJ cZ oA rA u_7.2 ++ b_c cB cC cI cJ cZ oA rA u_7.2)) hP fl_3 fl_3 [0, 1, 2] rfl
  have hDc := bx_D (bs := [b_g cB cC cI cJ cZ oA rA u_7.2, b_w cB cC cI cJ cZ oA rA u_7.2, b_c cB cC cI cJ cZ oA rA u_7.2]) (bs' := [b_g cB cC cI cJ cZ oA rA u_7.2, b_w cB cC cI cJ cZ oA rA u_7.2, b_c cB cC cI cJ cZ oA rA u_7.2]) (ws' := (b_g cB cC cI cJ cZ oA rA u_7.2 ++ b_w cB cC cI cJ cZ oA rA u_7.2 ++ b_c cB cC cI cJ cZ oA rA u_7.2)) (hDD u_7.2) fl_3 fl_3 [0, 1, 2] (by decide +kernel) rfl
  have hFc := bx_F (bs := [b_g cB cC cI cJ cZ oA rA u_7.2, b_w cB cC cI cJ cZ oA rA u_7.2, b_c cB cC cI cJ cZ oA rA u_7.2]) (bs' := [b_g cB cC cI cJ cZ oA rA u_7.2, b_w cB cC cI cJ cZ oA rA u_7.2, b_c cB cC cI cJ cZ oA rA u_7.2]) (wc := (b_g cB cC cI cJ cZ oA rA u_7.2 ++ b_w cB cC cI cJ cZ oA rA u_7.2 ++ b_c cB cC cI cJ cZ oA rA u_7.2)) (hDD u_7.2) hS hA fl_3 fl_3 [0, 1, 2] rfl
  refine g_ofi (wc := (b_g cB cC cI cJ cZ oA rA u_7.2 ++ b_w cB cC cI cJ cZ oA rA u_7.2 ++ b_c cB cC cI cJ cZ oA rA u_7.2)) (wr := ([] : va_W)) hP (hDD u_7.2) hS hFc (bx_ix [b_g cB cC cI cJ cZ oA rA u_7.2, b_w cB cC cI cJ cZ oA rA u_7.2, b_c cB cC cI cJ cZ oA rA u_7.2] [0, 1, 2]) (bx_ix [b_g cB cC cI cJ cZ oA rA u_7.2, b_w cB cC cI cJ cZ oA rA u_7.2, b_c cB cC cI cJ cZ oA rA u_7.2] []) (bx_C (bs := [b_g cB cC cI cJ cZ oA rA u_7.2, b_w cB cC cI cJ cZ oA rA u_7.2, b_c cB cC cI cJ cZ oA rA u_7.2]) (bs' := [b_g cB cC cI cJ cZ oA rA u_7.2, b_w cB cC cI cJ cZ oA rA u_7.2, b_c cB cC cI cJ cZ oA rA u_7.2]) (is := [0, 1, 2]) fl_3 fl_3 rfl) (bx_C (bs := [b_g cB cC cI cJ cZ oA rA u_7.2, b_w cB cC cI cJ cZ oA rA u_7.2, b_c cB cC cI cJ cZ oA rA u_7.2]) (bs' := []) (is := []) fl_3 fl_0 rfl) (bx_n (by decide +kernel)) (bx_d (by decide +kernel)) (va_runV (As := [.int 249]) (rest := []) ⟨hx, hb, hml, hown, hts⟩ (k_X2_accept l dC dI cB cC cI cJ cZ cP oA rA H.size  249 u_7.2 _ hu_9) (cwV 1 hts (g_gV wq_573 wq_574 wq_2003 wq_3 wq_575) rfl rfl rfl (by decide +kernel) ⟨by show 2 + 1 ≤ 306 + (d + 1); omega, by show 8 + (2 + 11) + 60 ≤ 6746 + 22 * (d + 1); omega⟩) (g_preV g_bl0 hK hPc hDc hS hE hFc g_to0 (q0 := 0) (ci := 2) rfl rfl) rfl rfl hl.1 rfl (lv_room (Nat.le_of_ble_eq_true rfl)) dX2_ifStatement_23 ⟨Nat.le_of_ble_eq_true rfl, Nat.le_of_ble_eq_true rfl⟩) (fun r9 u9 H locs hw9 hP' hD' hS => ?_)
  clear hPc hDc hFc
  subst hw9
  have hP : va_P (dC, dI) vwCl (b_g cB cC cI cJ cZ oA rA u_9.2 ++ b_w cB cC cI cJ cZ oA rA u_9.2 ++ b_c cB cC cI cJ cZ oA rA u_9.2) H := hP'
  clear hP' hD'
  refine lv_if_ne (tgt := 38) hx hb dX2_ifStatement_26 (by decide) (fun c_11 => ?_) (fun c_11 => ?_)
  · have hF_17 := ineg c_11 hF_10
    clear hF_10
    refine lv_aload_n hx hb dX2_ifStatement_38 rfl (lv_at hl 1 rfl) ?_
    refine va_get (D := (dC, dI)) (ci := 2) (v := .ref (oA 5)) (C := RX2) (T := TX2) (N := 8) hx hb hts ii_X2 hown hK hP 0 rfl rfl 1 (by decide) (hts (.fieldLink RX2 15 "StoryHouse$Grammar" "code" "LStoryHouse$Code;") wq_72) (fun _ h9 => h9) rfl dX2_ifStatement_39 ?_
    refine lv_bipush (v := 41) hx hb dX2_ifStatement_42 (by decide +kernel) ?_
    refine lv_iconst (v := 0) hx hb dX2_ifStatement_44 (by decide +kernel) ?_
    obtain ⟨u_18, hu_18, hF_19⟩ := Option.bind_eq_some_iff.mp hF_17
    clear hF_17
    have hPc := bx_P (bs := [b_g cB cC cI cJ cZ oA rA u_9.2, b_w cB cC cI cJ cZ oA rA u_9.2, b_c cB cC cI cJ cZ oA rA u_9.2]) (bs' := [b_c cB cC cI cJ cZ oA rA u_9.2]) (ws' := (b_c cB cC cI cJ cZ oA rA u_9.2)) hP fl_3 fl_1 [2] rfl
    have hDc := bx_D (bs := [b_g cB cC cI cJ cZ oA rA u_9.2, b_w cB cC cI cJ cZ oA rA u_9.2, b_c cB cC cI cJ cZ oA rA u_9.2]) (bs' := [b_c cB cC cI cJ cZ oA rA u_9.2]) (ws' := (b_c cB cC cI cJ cZ oA rA u_9.2)) (hDD u_9.2) fl_3 fl_1 [2] (by decide +kernel) rfl
    have hFc := bx_F (bs := [b_g cB cC cI cJ cZ oA rA u_9.2, b_w cB cC cI cJ cZ oA rA u_9.2, b_c cB cC cI cJ cZ oA rA u_9.2]) (bs' := [b_c cB cC cI cJ cZ oA rA u_9.2]) (wc := (b_c cB cC cI cJ cZ oA rA u_9.2)) (hDD u_9.2) hS hA fl_3 fl_1 [2] rfl
    refine g_ofi (wc := (b_c cB cC cI cJ cZ oA rA u_9.2)) (wr := (b_g cB cC cI cJ cZ oA rA u_9.2 ++ b_w cB cC cI cJ cZ oA rA u_9.2)) hP (hDD u_9.2) hS hFc (bx_ix [b_g cB cC cI cJ cZ oA rA u_9.2, b_w cB cC cI cJ cZ oA rA u_9.2, b_c cB cC cI cJ cZ oA rA u_9.2] [2]) (bx_ix [b_g cB cC cI cJ cZ oA rA u_9.2, b_w cB cC cI cJ cZ oA rA u_9.2, b_c cB cC cI cJ cZ oA rA u_9.2] [0, 1]) (bx_C (bs := [b_g cB cC cI cJ cZ oA rA u_9.2, b_w cB cC cI cJ cZ oA rA u_9.2, b_c cB cC cI cJ cZ oA rA u_9.2]) (bs' := [b_c cB cC cI cJ cZ oA rA u_9.2]) (is := [2]) fl_3 fl_1 rfl) (bx_C (bs := [b_g cB cC cI cJ cZ oA rA u_9.2, b_w cB cC cI cJ cZ oA rA u_9.2, b_c cB cC cI cJ cZ oA rA u_9.2]) (bs' := [b_g cB cC cI cJ cZ oA rA u_9.2, b_w cB cC cI cJ cZ oA rA u_9.2]) (is := [0, 1]) fl_3 fl_2 rfl) (bx_n (by decide +kernel)) (bx_d (by decide +kernel)) (va_runV (As := [.int 41, .int 0]) (rest := []) ⟨hx, hb, hml, hown, hts⟩ (k_X0_add_ l dC dI cB cC cI cJ cZ cP oA rA H.size  41 0 u_9.2 _ hu_18) (cwV 2 hts (g_gV wq_656 wq_657 wq_658 wq_6 wq_659) rfl rfl rfl (by decide +kernel) ⟨by show 1 + 1 ≤ 306 + (d + 1); omega, by show 8 + (3 + 11) + 40 ≤ 6746 + 22 * (d + 1); omega⟩) (g_preV g_bl0 hK hPc hDc hS hE hFc g_to0 (q0 := 0) (ci := 0) rfl rfl) rfl rfl hl.1 rfl (lv_room (Nat.le_of_ble_eq_true rfl)) dX2_ifStatement_45 ⟨Nat.le_of_ble_eq_true rfl, Nat.le_of_ble_eq_true rfl⟩) (fun r9 u9 H locs hw9 hP' hD' hS => ?_)
    clear hPc hDc hFc
    subst hw9
    obtain ⟨σ_20, eσ_20, hF_21⟩ := bnd_e hF_19
    clear hF_19
    have hP : va_P (dC, dI) vwCl (b_g cB cC cI cJ cZ oA rA σ_20 ++ b_w cB cC cI cJ cZ oA rA σ_20 ++ b_c cB cC cI cJ cZ oA rA σ_20) H := by rw [eσ_20]; exact bx_P (bs := [b_g cB cC cI cJ cZ oA rA u_9.2, b_w cB cC cI cJ cZ oA rA u_9.2] ++ [b_c cB cC cI cJ cZ oA rA u_18.2]) (bs' := [b_g cB cC cI cJ cZ oA rA (mrg (fun j => j == 5) u_9.2 u_18.2), b_w cB cC cI cJ cZ oA rA (mrg (fun j => j == 5) u_9.2 u_18.2), b_c cB cC cI cJ cZ oA rA (mrg (fun j => j == 5) u_9.2 u_18.2)]) hP' (fl_a fl_2 fl_1) fl_3 [0, 1, 2] rfl
    clear hP' hD'
    refine lv_istore_n (lv' := [(2, .int u_18.1), (1, .int u_3.1), (0, .ref (oA 2))]) hx hb dX2_ifStatement_48 rfl hl (by decide) rfl (fun ls hl => ?_)
    refine lv_aload_n hx hb dX2_ifStatement_49 rfl (lv_at hl 2 rfl) ?_
    refine va_get (D := (dC, dI)) (ci := 2) (v := .ref (oA 5)) (C := RX2) (T := TX2) (N := 8) hx hb hts ii_X2 hown hK hP 0 rfl rfl 1 (by decide) (hts (.fieldLink RX2 15 "StoryHouse$Grammar" "code" "LStoryHouse$Code;") wq_72) (fun _ h9 => h9) rfl dX2_ifStatement_50 ?_
    refine lv_iload_n hx hb dX2_ifStatement_53 rfl (lv_at hl 1 rfl) ?_
    obtain ⟨u_22, hu_22, hF_23⟩ := Option.bind_eq_some_iff.mp hF_21
    clear hF_21
    have hPc := bx_P (bs := [b_g cB cC cI cJ cZ oA rA σ_20, b_w cB cC cI cJ cZ oA rA σ_20, b_c cB cC cI cJ cZ oA rA σ_20]) (bs' := [b_c cB cC cI cJ cZ oA rA σ_20]) (ws' := (b_c cB cC cI cJ cZ oA rA σ_20)) hP fl_3 fl_1 [2] rfl
    have hDc := bx_D (bs := [b_g cB cC cI cJ cZ oA rA σ_20, b_w cB cC cI cJ cZ oA rA σ_20, b_c cB cC cI cJ cZ oA rA σ_20]) (bs' := [b_c cB cC cI cJ cZ oA rA σ_20]) (ws' := (b_c cB cC cI cJ cZ oA rA σ_20)) (hDD σ_20) fl_3 fl_1 [2] (by decide +kernel) rfl
    have hFc := bx_F (bs := [b_g cB cC cI cJ cZ oA rA σ_20, b_w cB cC cI cJ cZ oA rA σ_20, b_c cB cC cI cJ cZ oA rA σ_20]) (bs' := [b_c cB cC cI cJ cZ oA rA σ_20]) (wc := (b_c cB cC cI cJ cZ oA rA σ_20)) (hDD σ_20) hS hA fl_3 fl_1 [2] rfl
    refine g_ofv (wc := (b_c cB cC cI cJ cZ oA rA σ_20)) (wr := (b_g cB cC cI cJ cZ oA rA σ_20 ++ b_w cB cC cI cJ cZ oA rA σ_20)) hP (hDD σ_20) hS hFc (bx_ix [b_g cB cC cI cJ cZ oA rA σ_20, b_w cB cC cI cJ cZ oA rA σ_20, b_c cB cC cI cJ cZ oA rA σ_20] [2]) (bx_ix [b_g cB cC cI cJ cZ oA rA σ_20, b_w cB cC cI cJ cZ oA rA σ_20, b_c cB cC cI cJ cZ oA rA σ_20] [0, 1]) (bx_C (bs := [b_g cB cC cI cJ cZ oA rA σ_20, b_w cB cC cI cJ cZ oA rA σ_20, b_c cB cC cI cJ cZ oA rA σ_20]) (bs' := [b_c cB cC cI cJ cZ oA rA σ_20]) (is := [2]) fl_3 fl_1 rfl) (bx_C (bs := [b_g cB cC cI cJ cZ oA rA σ_20, b_w cB cC cI cJ cZ oA rA σ_20, b_c cB cC cI cJ cZ oA rA σ_20]) (bs' := [b_g cB cC cI cJ cZ oA rA σ_20, b_w cB cC cI cJ cZ oA rA σ_20]) (is := [0, 1]) fl_3 fl_2 rfl) (bx_n (by decide +kernel)) (bx_d (by decide +kernel)) (va_runV (As := [.int u_3.1]) (rest := []) ⟨hx, hb, hml, hown, hts⟩ (k_X0_aim l dC dI cB cC cI cJ cZ cP oA rA H.size  u_3.1 σ_20 _ hu_22) (cwV 1 hts (g_gV wq_672 wq_673 wq_674 wq_6 wq_675) rfl rfl rfl (by decide +kernel) ⟨by show 2 + 1 ≤ 306 + (d + 1); omega, by show 8 + (2 + 11) + 62 ≤ 6746 + 22 * (d + 1); omega⟩) (g_preV g_bl0 hK hPc hDc hS hE hFc g_to0 (q0 := 0) (ci := 0) rfl rfl) rfl rfl hl.1 rfl (lv_room (Nat.le_of_ble_eq_true rfl)) dX2_ifStatement_54 ⟨Nat.le_of_ble_eq_true rfl, Nat.le_of_ble_eq_true rfl⟩) (fun u9 H locs hw9 hP' hD' hS => ?_)
    clear hPc hDc hFc
    obtain ⟨σ_24, eσ_24, hF_25⟩ := bnd_e hF_23
    clear hF_23
    have hP : va_P (dC, dI) vwCl (b_g cB cC cI cJ cZ oA rA σ_24 ++ b_w cB cC cI cJ cZ oA rA σ_24 ++ b_c cB cC cI cJ cZ oA rA σ_24) H := by rw [eσ_24]; exact bx_P (bs := [b_g cB cC cI cJ cZ oA rA σ_20, b_w cB cC cI cJ cZ oA rA σ_20] ++ [b_c cB cC cI cJ cZ oA rA u_22.2]) (bs' := [b_g cB cC cI cJ cZ oA rA (mrg (fun j => j == 5) σ_20 u_22.2), b_w cB cC cI cJ cZ oA rA (mrg (fun j => j == 5) σ_20 u_22.2), b_c cB cC cI cJ cZ oA rA (mrg (fun j => j == 5) σ_20 u_22.2)]) hP' (fl_a fl_2 fl_1) fl_3 [0, 1, 2] rfl
    clear hP' hD'
    refine lv_aload_n hx hb dX2_ifStatement_57 rfl (lv_at hl 2 rfl) ?_
    refine va_get (D := (dC, dI)) (ci := 2) (v := .int ((σ_24 2).1 3)) (C := RX2) (T := TX2) (N := 8) hx hb hts ii_X2 hown hK hP 0 rfl rfl 3 (by decide) (hts (.fieldLink RX2 29 "StoryHouse$Grammar" "kind" "I") wq_74) (fun _ h9 => h9) rfl dX2_ifStatement_58 ?_
    refine lv_sipush (v := 248) hx hb dX2_ifStatement_61 (by decide +kernel) ?_
    obtain ⟨j_27, ej_27, hF_28⟩ := bnd_e hF_25
    clear hF_25
    have Jj_27 : ∀  (σ_26 : HS), j_27  σ_26 = some res → ∀ (H : Heap) (locs : List Loc), va_P (dC, dI) vwCl (b_g cB cC cI cJ cZ oA rA σ_26 ++ b_w cB cC cI cJ cZ oA rA σ_26 ++ b_c cB cC cI cJ cZ oA rA σ_26) H → va_S A s.heap H locs → ∀ ls : Array Slot, lv_has ls 3 [(0, .ref (oA 2)), (2, .int u_18.1)] → W p l e (headSpec (g_ws yX2_ifStatement cX2_ifStatement 3 none) { frames := 306 + (d + 1), cells := 0, slots := 0, locals := 6746 + 22 * (d + 1) }).room s m ([.ref (oA 2)] : List Value).toArray below meth c H locs 0 0 (MQ below (va_Qv (fun (_ : Unit) => True) (g_Bo (dC, dI) A (fun (_ : Unit) => (b_g cB cC cI cJ cZ oA rA res.2 ++ b_w cB cC cI cJ cZ oA rA res.2 ++ b_c cB cC cI cJ cZ oA rA res.2))) A) ([.ref (oA 2)] : List Value).toArray s 0 0 A) (F0 m 92 ls []) := by
      intro  σ_26 hF0 H locs hP hS ls hl
      subst ej_27
      have hF_29 := hF0
      clear hF0
      refine lv_aload_n hx hb dX2_ifStatement_92 rfl (lv_at hl 0 rfl) ?_
      refine va_get (D := (dC, dI)) (ci := 2) (v := .ref (oA 5)) (C := RX2) (T := TX2) (N := 8) hx hb hts ii_X2 hown hK hP 0 rfl rfl 1 (by decide) (hts (.fieldLink RX2 15 "StoryHouse$Grammar" "code" "LStoryHouse$Code;") wq_72) (fun _ h9 => h9) rfl dX2_ifStatement_93 ?_
      refine lv_iload_n hx hb dX2_ifStatement_96 rfl (lv_at hl 1 rfl) ?_
      obtain ⟨u_30, hu_30, hF_31⟩ := Option.bind_eq_some_iff.mp hF_29
      clear hF_29
      have hPc := bx_P (bs := [b_g cB cC cI cJ cZ oA rA σ_26, b_w cB cC cI cJ cZ oA rA σ_26, b_c cB cC cI cJ cZ oA rA σ_26]) (bs' := [b_c cB cC cI cJ cZ oA rA σ_26]) (ws' := (b_c cB cC cI cJ cZ oA rA σ_26)) hP fl_3 fl_1 [2] rfl
      have hDc := bx_D (bs := [b_g cB cC cI cJ cZ oA rA σ_26, b_w cB cC cI cJ cZ oA rA σ_26, b_c cB cC cI cJ cZ oA rA σ_26]) (bs' := [b_c cB cC cI cJ cZ oA rA σ_26]) (ws' := (b_c cB cC cI cJ cZ oA rA σ_26)) (hDD σ_26) fl_3 fl_1 [2] (by decide +kernel) rfl
      have hFc := bx_F (bs := [b_g cB cC cI cJ cZ oA rA σ_26, b_w cB cC cI cJ cZ oA rA σ_26, b_c cB cC cI cJ cZ oA rA σ_26]) (bs' := [b_c cB cC cI cJ cZ oA rA σ_26]) (wc := (b_c cB cC cI cJ cZ oA rA σ_26)) (hDD σ_26) hS hA fl_3 fl_1 [2] rfl
      refine g_ofv (wc := (b_c cB cC cI cJ cZ oA rA σ_26)) (wr := (b_g cB cC cI cJ cZ oA rA σ_26 ++ b_w cB cC cI cJ cZ oA rA σ_26)) hP (hDD σ_26) hS hFc (bx_ix [b_g cB cC cI cJ cZ oA rA σ_26, b_w cB cC cI cJ cZ oA rA σ_26, b_c cB cC cI cJ cZ oA rA σ_26] [2]) (bx_ix [b_g cB cC cI cJ cZ oA rA σ_26, b_w cB cC cI cJ cZ oA rA σ_26, b_c cB cC cI cJ cZ oA rA σ_26] [0, 1]) (bx_C (bs := [b_g cB cC cI cJ cZ oA rA σ_26, b_w cB cC cI cJ cZ oA rA σ_26, b_c cB cC cI cJ cZ oA rA σ_26]) (bs' := [b_c cB cC cI cJ cZ oA rA σ_26]) (is := [2]) fl_3 fl_1 rfl) (bx_C (bs := [b_g cB cC cI cJ cZ oA rA σ_26, b_w cB cC cI cJ cZ oA rA σ_26, b_c cB cC cI cJ cZ oA rA σ_26]) (bs' := [b_g cB cC cI cJ cZ oA rA σ_26, b_w cB cC cI cJ cZ oA rA σ_26]) (is := [0, 1]) fl_3 fl_2 rfl) (bx_n (by decide +kernel)) (bx_d (by decide +kernel)) (va_runV (As := [.int u_18.1]) (rest := []) ⟨hx, hb, hml, hown, hts⟩ (k_X0_aim l dC dI cB cC cI cJ cZ cP oA rA H.size  u_18.1 σ_26 _ hu_30) (cwV 1 hts (g_gV wq_672 wq_673 wq_674 wq_6 wq_675) rfl rfl rfl (by decide +kernel) ⟨by show 2 + 1 ≤ 306 + (d + 1); omega, by show 8 + (2 + 11) + 62 ≤ 6746 + 22 * (d + 1); omega⟩) (g_preV g_bl0 hK hPc hDc hS hE hFc g_to0 (q0 := 0) (ci := 0) rfl rfl) rfl rfl hl.1 rfl (lv_room (Nat.le_of_ble_eq_true rfl)) dX2_ifStatement_97 ⟨Nat.le_of_ble_eq_true rfl, Nat.le_of_ble_eq_true rfl⟩) (fun u9 H locs hw9 hP' hD' hS => ?_)
      clear hPc hDc hFc
      obtain ⟨σ_32, eσ_32, hF_33⟩ := bnd_e hF_31
      clear hF_31
      have hP : va_P (dC, dI) vwCl (b_g cB cC cI cJ cZ oA rA σ_32 ++ b_w cB cC cI cJ cZ oA rA σ_32 ++ b_c cB cC cI cJ cZ oA rA σ_32) H := by rw [eσ_32]; exact bx_P (bs := [b_g cB cC cI cJ cZ oA rA σ_26, b_w cB cC cI cJ cZ oA rA σ_26] ++ [b_c cB cC cI cJ cZ oA rA u_30.2]) (bs' := [b_g cB cC cI cJ cZ oA rA (mrg (fun j => j == 5) σ_26 u_30.2), b_w cB cC cI cJ cZ oA rA (mrg (fun j => j == 5) σ_26 u_30.2), b_c cB cC cI cJ cZ oA rA (mrg (fun j => j == 5) σ_26 u_30.2)]) hP' (fl_a fl_2 fl_1) fl_3 [0, 1, 2] rfl
      clear hP' hD'
      have h9 := Option.some.inj hF_33
      subst h9
      exact W.vret hx hb hr (fun t ht hW => ⟨⟨(), rfl, trivial, m_end ht hP, hDD _⟩, hS.F ht⟩) hS.2.2 dX2_ifStatement_100
    refine lv_icmp_ne (tgt := 88) hx hb dX2_ifStatement_64 (by decide) (fun c_34 => ?_) (fun c_34 => ?_)
    · have hF_42 := ineg c_34 hF_28
      clear hF_28
      refine lv_aload_n hx hb dX2_ifStatement_88 rfl (lv_at hl 2 rfl) ?_
      obtain ⟨u_43, hu_43, hF_44⟩ := Option.bind_eq_some_iff.mp hF_42
      clear hF_42
      have hPc := bx_P (bs := [b_g cB cC cI cJ cZ oA rA σ_24, b_w cB cC cI cJ cZ oA rA σ_24, b_c cB cC cI cJ cZ oA rA σ_24]) (bs' := [b_g cB cC cI cJ cZ oA rA σ_24, b_w cB cC cI cJ cZ oA rA σ_24, b_c cB cC cI cJ cZ oA rA σ_24]) (ws' := (b_g cB cC cI cJ cZ oA rA σ_24 ++ b_w cB cC cI cJ cZ oA rA σ_24 ++ b_c cB cC cI cJ cZ oA rA σ_24)) hP fl_3 fl_3 [0, 1, 2] rfl
      have hDc := bx_D (bs := [b_g cB cC cI cJ cZ oA rA σ_24, b_w cB cC cI cJ cZ oA rA σ_24, b_c cB cC cI cJ cZ oA rA σ_24]) (bs' := [b_g cB cC cI cJ cZ oA rA σ_24, b_w cB cC cI cJ cZ oA rA σ_24, b_c cB cC cI cJ cZ oA rA σ_24]) (ws' := (b_g cB cC cI cJ cZ oA rA σ_24 ++ b_w cB cC cI cJ cZ oA rA σ_24 ++ b_c cB cC cI cJ cZ oA rA σ_24)) (hDD σ_24) fl_3 fl_3 [0, 1, 2] (by decide +kernel) rfl
      have hFc := bx_F (bs := [b_g cB cC cI cJ cZ oA rA σ_24, b_w cB cC cI cJ cZ oA rA σ_24, b_c cB cC cI cJ cZ oA rA σ_24]) (bs' := [b_g cB cC cI cJ cZ oA rA σ_24, b_w cB cC cI cJ cZ oA rA σ_24, b_c cB cC cI cJ cZ oA rA σ_24]) (wc := (b_g cB cC cI cJ cZ oA rA σ_24 ++ b_w cB cC cI cJ cZ oA rA σ_24 ++ b_c cB cC cI cJ cZ oA rA σ_24)) (hDD σ_24) hS hA fl_3 fl_3 [0, 1, 2] rfl
      refine g_ofv (wc := (b_g cB cC cI cJ cZ oA rA σ_24 ++ b_w cB cC cI cJ cZ oA rA σ_24 ++ b_c cB cC cI cJ cZ oA rA σ_24)) (wr := ([] : va_W)) hP (hDD σ_24) hS hFc (bx_ix [b_g cB cC cI cJ cZ oA rA σ_24, b_w cB cC cI cJ cZ oA rA σ_24, b_c cB cC cI cJ cZ oA rA σ_24] [0, 1, 2]) (bx_ix [b_g cB cC cI cJ cZ oA rA σ_24, b_w cB cC cI cJ cZ oA rA σ_24, b_c cB cC cI cJ cZ oA rA σ_24] []) (bx_C (bs := [b_g cB cC cI cJ cZ oA rA σ_24, b_w cB cC cI cJ cZ oA rA σ_24, b_c cB cC cI cJ cZ oA rA σ_24]) (bs' := [b_g cB cC cI cJ cZ oA rA σ_24, b_w cB cC cI cJ cZ oA rA σ_24, b_c cB cC cI cJ cZ oA rA σ_24]) (is := [0, 1, 2]) fl_3 fl_3 rfl) (bx_C (bs := [b_g cB cC cI cJ cZ oA rA σ_24, b_w cB cC cI cJ cZ oA rA σ_24, b_c cB cC cI cJ cZ oA rA σ_24]) (bs' := []) (is := []) fl_3 fl_0 rfl) (bx_n (by decide +kernel)) (bx_d (by decide +kernel)) (va_runV (As := []) (rest := []) ⟨hx, hb, hml, hown, hts⟩ (hI0 H.size σ_24 _ hu_43) (cwV 0 hts (g_gV wq_615 wq_616 wq_2013 wq_3 wq_617) rfl rfl rfl (by decide +kernel) ⟨by show 306 + d + 1 ≤ 306 + (d + 1); omega, by show 8 + (2 + 11) + (6746 + 22 * d) ≤ 6746 + 22 * (d + 1); omega⟩) (g_preV g_bl0 hK hPc hDc hS hE hFc g_to0 (q0 := 0) (ci := 2) rfl rfl) rfl rfl hl.1 rfl (lv_room (Nat.le_of_ble_eq_true rfl)) dX2_ifStatement_89 ⟨Nat.le_of_ble_eq_true rfl, Nat.le_of_ble_eq_true rfl⟩) (fun u9 H locs hw9 hP' hD' hS => ?_)
      clear hPc hDc hFc
      have hP : va_P (dC, dI) vwCl (b_g cB cC cI cJ cZ oA rA u_43.2 ++ b_w cB cC cI cJ cZ oA rA u_43.2 ++ b_c cB cC cI cJ cZ oA rA u_43.2) H := hP'
      clear hP' hD'
      exact Jj_27  u_43.2 hF_44 _ _ hP hS ls (lv_sub hl [2, 0] rfl)
    · have hF_35 := ipos c_34 hF_28
      clear hF_28
      refine lv_aload_n hx hb dX2_ifStatement_67 rfl (lv_at hl 2 rfl) ?_
      obtain ⟨u_36, hu_36, hF_37⟩ := Option.bind_eq_some_iff.mp hF_35
      clear hF_35
      have hPc := bx_P (bs := [b_g cB cC cI cJ cZ oA rA σ_24, b_w cB cC cI cJ cZ oA rA σ_24, b_c cB cC cI cJ cZ oA rA σ_24]) (bs' := [b_g cB cC cI cJ cZ oA rA σ_24, b_w cB cC cI cJ cZ oA rA σ_24, b_c cB cC cI cJ cZ oA rA σ_24]) (ws' := (b_g cB cC cI cJ cZ oA rA σ_24 ++ b_w cB cC cI cJ cZ oA rA σ_24 ++ b_c cB cC cI cJ cZ oA rA σ_24)) hP fl_3 fl_3 [0, 1, 2] rfl
      have hDc := bx_D (bs := [b_g cB cC cI cJ cZ oA rA σ_24, b_w cB cC cI cJ cZ oA rA σ_24, b_c cB cC cI cJ cZ oA rA σ_24]) (bs' := [b_g cB cC cI cJ cZ oA rA σ_24, b_w cB cC cI cJ cZ oA rA σ_24, b_c cB cC cI cJ cZ oA rA σ_24]) (ws' := (b_g cB cC cI cJ cZ oA rA σ_24 ++ b_w cB cC cI cJ cZ oA rA σ_24 ++ b_c cB cC cI cJ cZ oA rA σ_24)) (hDD σ_24) fl_3 fl_3 [0, 1, 2] (by decide +kernel) rfl
      have hFc := bx_F (bs := [b_g cB cC cI cJ cZ oA rA σ_24, b_w cB cC cI cJ cZ oA rA σ_24, b_c cB cC cI cJ cZ oA rA σ_24]) (bs' := [b_g cB cC cI cJ cZ oA rA σ_24, b_w cB cC cI cJ cZ oA rA σ_24, b_c cB cC cI cJ cZ oA rA σ_24]) (wc := (b_g cB cC cI cJ cZ oA rA σ_24 ++ b_w cB cC cI cJ cZ oA rA σ_24 ++ b_c cB cC cI cJ cZ oA rA σ_24)) (hDD σ_24) hS hA fl_3 fl_3 [0, 1, 2] rfl
      refine g_ofv (wc := (b_g cB cC cI cJ cZ oA rA σ_24 ++ b_w cB cC cI cJ cZ oA rA σ_24 ++ b_c cB cC cI cJ cZ oA rA σ_24)) (wr := ([] : va_W)) hP (hDD σ_24) hS hFc (bx_ix [b_g cB cC cI cJ cZ oA rA σ_24, b_w cB cC cI cJ cZ oA rA σ_24, b_c cB cC cI cJ cZ oA rA σ_24] [0, 1, 2]) (bx_ix [b_g cB cC cI cJ cZ oA rA σ_24, b_w cB cC cI cJ cZ oA rA σ_24, b_c cB cC cI cJ cZ oA rA σ_24] []) (bx_C (bs := [b_g cB cC cI cJ cZ oA rA σ_24, b_w cB cC cI cJ cZ oA rA σ_24, b_c cB cC cI cJ cZ oA rA σ_24]) (bs' := [b_g cB cC cI cJ cZ oA rA σ_24, b_w cB cC cI cJ cZ oA rA σ_24, b_c cB cC cI cJ cZ oA rA σ_24]) (is := [0, 1, 2]) fl_3 fl_3 rfl) (bx_C (bs := [b_g cB cC cI cJ cZ oA rA σ_24, b_w cB cC cI cJ cZ oA rA σ_24, b_c cB cC cI cJ cZ oA rA σ_24]) (bs' := []) (is := []) fl_3 fl_0 rfl) (bx_n (by decide +kernel)) (bx_d (by decide +kernel)) (va_runV (As := []) (rest := []) ⟨hx, hb, hml, hown, hts⟩ (k_X2_deepen l dC dI cB cC cI cJ cZ cP oA rA H.size  σ_24 _ hu_36) (cwV 0 hts (g_gV wq_570 wq_571 wq_2002 wq_3 wq_572) rfl rfl rfl (by decide +kernel) ⟨by show 2 + 1 ≤ 306 + (d + 1); omega, by show 8 + (1 + 11) + 61 ≤ 6746 + 22 * (d + 1); omega⟩) (g_preV g_bl0 hK hPc hDc hS hE hFc g_to0 (q0 := 0) (ci := 2) rfl rfl) rfl rfl hl.1 rfl (lv_room (Nat.le_of_ble_eq_true rfl)) dX2_ifStatement_68 ⟨Nat.le_of_ble_eq_true rfl, Nat.le_of_ble_eq_true rfl⟩) (fun u9 H locs hw9 hP' hD' hS => ?_)
      clear hPc hDc hFc
      have hP : va_P (dC, dI) vwCl (b_g cB cC cI cJ cZ oA rA u_36.2 ++ b_w cB cC cI cJ cZ oA rA u_36.2 ++ b_c cB cC cI cJ cZ oA rA u_36.2) H := hP'
      clear hP' hD'
      refine lv_aload_n hx hb dX2_ifStatement_71 rfl (lv_at hl 2 rfl) ?_
      obtain ⟨u_38, hu_38, hF_39⟩ := Option.bind_eq_some_iff.mp hF_37
      clear hF_37
      have hPc := bx_P (bs := [b_g cB cC cI cJ cZ oA rA u_36.2, b_w cB cC cI cJ cZ oA rA u_36.2, b_c cB cC cI cJ cZ oA rA u_36.2]) (bs' := [b_g cB cC cI cJ cZ oA rA u_36.2, b_w cB cC cI cJ cZ oA rA u_36.2, b_c cB cC cI cJ cZ oA rA u_36.2]) (ws' := (b_g cB cC cI cJ cZ oA rA u_36.2 ++ b_w cB cC cI cJ cZ oA rA u_36.2 ++ b_c cB cC cI cJ cZ oA rA u_36.2)) hP fl_3 fl_3 [0, 1, 2] rfl
      have hDc := bx_D (bs := [b_g cB cC cI cJ cZ oA rA u_36.2, b_w cB cC cI cJ cZ oA rA u_36.2, b_c cB cC cI cJ cZ oA rA u_36.2]) (bs' := [b_g cB cC cI cJ cZ oA rA u_36.2, b_w cB cC cI cJ cZ oA rA u_36.2, b_c cB cC cI cJ cZ oA rA u_36.2]) (ws' := (b_g cB cC cI cJ cZ oA rA u_36.2 ++ b_w cB cC cI cJ cZ oA rA u_36.2 ++ b_c cB cC cI cJ cZ oA rA u_36.2)) (hDD u_36.2) fl_3 fl_3 [0, 1, 2] (by decide +kernel) rfl
      have hFc := bx_F (bs := [b_g cB cC cI cJ cZ oA rA u_36.2, b_w cB cC cI cJ cZ oA rA u_36.2, b_c cB cC cI cJ cZ oA rA u_36.2]) (bs' := [b_g cB cC cI cJ cZ oA rA u_36.2, b_w cB cC cI cJ cZ oA rA u_36.2, b_c cB cC cI cJ cZ oA rA u_36.2]) (wc := (b_g cB cC cI cJ cZ oA rA u_36.2 ++ b_w cB cC cI cJ cZ oA rA u_36.2 ++ b_c cB cC cI cJ cZ oA rA u_36.2)) (hDD u_36.2) hS hA fl_3 fl_3 [0, 1, 2] rfl
      refine g_ofv (wc := (b_g cB cC cI cJ cZ oA rA u_36.2 ++ b_w cB cC cI cJ cZ oA rA u_36.2 ++ b_c cB cC cI cJ cZ oA rA u_36.2)) (wr := ([] : va_W)) hP (hDD u_36.2) hS hFc (bx_ix [b_g cB cC cI cJ cZ oA rA u_36.2, b_w cB cC cI cJ cZ oA rA u_36.2, b_c cB cC cI cJ cZ oA rA u_36.2] [0, 1, 2]) (bx_ix [b_g cB cC cI cJ cZ oA rA u_36.2, b_w cB cC cI cJ cZ oA rA u_36.2, b_c cB cC cI cJ cZ oA rA u_36.2] []) (bx_C (bs := [b_g cB cC cI cJ cZ oA rA u_36.2, b_w cB cC cI cJ cZ oA rA u_36.2, b_c cB cC cI cJ cZ oA rA u_36.2]) (bs' := [b_g cB cC cI cJ cZ oA rA u_36.2, b_w cB cC cI cJ cZ oA rA u_36.2, b_c cB cC cI cJ cZ oA rA u_36.2]) (is := [0, 1, 2]) fl_3 fl_3 rfl) (bx_C (bs := [b_g cB cC cI cJ cZ oA rA u_36.2, b_w cB cC cI cJ cZ oA rA u_36.2, b_c cB cC cI cJ cZ oA rA u_36.2]) (bs' := []) (is := []) fl_3 fl_0 rfl) (bx_n (by decide +kernel)) (bx_d (by decide +kernel)) (va_runV (As := []) (rest := []) ⟨hx, hb, hml, hown, hts⟩ (hI2 H.size u_36.2 _ hu_38) (cwV 0 hts (g_gV wq_624 wq_625 wq_2015 wq_3 wq_626) rfl rfl rfl (by decide +kernel) ⟨by show 306 + d + 1 ≤ 306 + (d + 1); omega, by show 8 + (3 + 11) + (6746 + 22 * d) ≤ 6746 + 22 * (d + 1); omega⟩) (g_preV g_bl0 hK hPc hDc hS hE hFc g_to0 (q0 := 0) (ci := 2) rfl rfl) rfl rfl hl.1 rfl (lv_room (Nat.le_of_ble_eq_true rfl)) dX2_ifStatement_72 ⟨Nat.le_of_ble_eq_true rfl, Nat.le_of_ble_eq_true rfl⟩) (fun u9 H locs hw9 hP' hD' hS => ?_)
      clear hPc hDc hFc
      have hP : va_P (dC, dI) vwCl (b_g cB cC cI cJ cZ oA rA u_38.2 ++ b_w cB cC cI cJ cZ oA rA u_38.2 ++ b_c cB cC cI cJ cZ oA rA u_38.2) H := hP'
      clear hP' hD'
      refine lv_aload_n hx hb dX2_ifStatement_75 rfl (lv_at hl 2 rfl) ?_
      refine lv_dup hx hb dX2_ifStatement_76 rfl ?_
      refine va_get (D := (dC, dI)) (ci := 2) (v := .int ((u_38.2 2).1 4)) (C := RX2) (T := TX2) (N := 8) hx hb hts ii_X2 hown hK hP 0 rfl rfl 4 (by decide) (hts (.fieldLink RX2 32 "StoryHouse$Grammar" "nest" "I") wq_75) (fun _ h9 => h9) rfl dX2_ifStatement_77 ?_
      refine lv_iconst (v := 1) hx hb dX2_ifStatement_80 (by decide +kernel) ?_
      refine lv_isub hx hb dX2_ifStatement_81 ?_
      obtain ⟨σ_40, eσ_40, hF_41⟩ := bnd_e hF_39
      clear hF_39
      refine va_put (D := (dC, dI)) (ci := 2) (v := .int (((u_38.2 2).1 4) - 1)) (ty := .int) (C := RX2) (T := TX2) (N := 8) hx hb hts ii_X2 tyX2 tyX2_ok nmX2 hown hK hP (hDD _) hS 0 rfl rfl 4 (by decide) (hts (.fieldLink RX2 32 "StoryHouse$Grammar" "nest" "I") wq_75) (fun _ h9 => h9) rfl (by decide +kernel) rfl rfl (Nat.le_of_ble_eq_true rfl) dX2_ifStatement_82 (fun H locs hP' _ hS => ?_)
      have hP : va_P (dC, dI) vwCl (b_g cB cC cI cJ cZ oA rA σ_40 ++ b_w cB cC cI cJ cZ oA rA σ_40 ++ b_c cB cC cI cJ cZ oA rA σ_40) H := by rw [eσ_40]; exact cs_gwc_g_4 ▸ hP'
      clear hP'
      refine lv_goto (tgt := 92) hx hb dX2_ifStatement_85 (by decide) ?_
      exact Jj_27  σ_40 hF_41 _ _ hP hS ls (lv_sub hl [2, 0] rfl)
  · have hF_12 := ipos c_11 hF_10
    clear hF_10
    refine lv_aload_n hx hb dX2_ifStatement_29 rfl (lv_at hl 1 rfl) ?_
    refine va_get (D := (dC, dI)) (ci := 2) (v := .ref (oA 5)) (C := RX2) (T := TX2) (N := 8) hx hb hts ii_X2 hown hK hP 0 rfl rfl 1 (by decide) (hts (.fieldLink RX2 15 "StoryHouse$Grammar" "code" "LStoryHouse$Code;") wq_72) (fun _ h9 => h9) rfl dX2_ifStatement_30 ?_
    refine lv_iload_n hx hb dX2_ifStatement_33 rfl (lv_at hl 0 rfl) ?_
    obtain ⟨u_13, hu_13, hF_14⟩ := Option.bind_eq_some_iff.mp hF_12
    clear hF_12
    have hPc := bx_P (bs := [b_g cB cC cI cJ cZ oA rA u_9.2, b_w cB cC cI cJ cZ oA rA u_9.2, b_c cB cC cI cJ cZ oA rA u_9.2]) (bs' := [b_c cB cC cI cJ cZ oA rA u_9.2]) (ws' := (b_c cB cC cI cJ cZ oA rA u_9.2)) hP fl_3 fl_1 [2] rfl
    have hDc := bx_D (bs := [b_g cB cC cI cJ cZ oA rA u_9.2, b_w cB cC cI cJ cZ oA rA u_9.2, b_c cB cC cI cJ cZ oA rA u_9.2]) (bs' := [b_c cB cC cI cJ cZ oA rA u_9.2]) (ws' := (b_c cB cC cI cJ cZ oA rA u_9.2)) (hDD u_9.2) fl_3 fl_1 [2] (by decide +kernel) rfl
    have hFc := bx_F (bs := [b_g cB cC cI cJ cZ oA rA u_9.2, b_w cB cC cI cJ cZ oA rA u_9.2, b_c cB cC cI cJ cZ oA rA u_9.2]) (bs' := [b_c cB cC cI cJ cZ oA rA u_9.2]) (wc := (b_c cB cC cI cJ cZ oA rA u_9.2)) (hDD u_9.2) hS hA fl_3 fl_1 [2] rfl
    refine g_ofv (wc := (b_c cB cC cI cJ cZ oA rA u_9.2)) (wr := (b_g cB cC cI cJ cZ oA rA u_9.2 ++ b_w cB cC cI cJ cZ oA rA u_9.2)) hP (hDD u_9.2) hS hFc (bx_ix [b_g cB cC cI cJ cZ oA rA u_9.2, b_w cB cC cI cJ cZ oA rA u_9.2, b_c cB cC cI cJ cZ oA rA u_9.2] [2]) (bx_ix [b_g cB cC cI cJ cZ oA rA u_9.2, b_w cB cC cI cJ cZ oA rA u_9.2, b_c cB cC cI cJ cZ oA rA u_9.2] [0, 1]) (bx_C (bs := [b_g cB cC cI cJ cZ oA rA u_9.2, b_w cB cC cI cJ cZ oA rA u_9.2, b_c cB cC cI cJ cZ oA rA u_9.2]) (bs' := [b_c cB cC cI cJ cZ oA rA u_9.2]) (is := [2]) fl_3 fl_1 rfl) (bx_C (bs := [b_g cB cC cI cJ cZ oA rA u_9.2, b_w cB cC cI cJ cZ oA rA u_9.2, b_c cB cC cI cJ cZ oA rA u_9.2]) (bs' := [b_g cB cC cI cJ cZ oA rA u_9.2, b_w cB cC cI cJ cZ oA rA u_9.2]) (is := [0, 1]) fl_3 fl_2 rfl) (bx_n (by decide +kernel)) (bx_d (by decide +kernel)) (va_runV (As := [.int u_3.1]) (rest := []) ⟨hx, hb, hml, hown, hts⟩ (k_X0_aim l dC dI cB cC cI cJ cZ cP oA rA H.size  u_3.1 u_9.2 _ hu_13) (cwV 1 hts (g_gV wq_672 wq_673 wq_674 wq_6 wq_675) rfl rfl rfl (by decide +kernel) ⟨by show 2 + 1 ≤ 306 + (d + 1); omega, by show 8 + (2 + 11) + 62 ≤ 6746 + 22 * (d + 1); omega⟩) (g_preV g_bl0 hK hPc hDc hS hE hFc g_to0 (q0 := 0) (ci := 0) rfl rfl) rfl rfl hl.1 rfl (lv_room (Nat.le_of_ble_eq_true rfl)) dX2_ifStatement_34 ⟨Nat.le_of_ble_eq_true rfl, Nat.le_of_ble_eq_true rfl⟩) (fun u9 H locs hw9 hP' hD' hS => ?_)
    clear hPc hDc hFc
    obtain ⟨σ_15, eσ_15, hF_16⟩ := bnd_e hF_14
    clear hF_14
    have hP : va_P (dC, dI) vwCl (b_g cB cC cI cJ cZ oA rA σ_15 ++ b_w cB cC cI cJ cZ oA rA σ_15 ++ b_c cB cC cI cJ cZ oA rA σ_15) H := by rw [eσ_15]; exact bx_P (bs := [b_g cB cC cI cJ cZ oA rA u_9.2, b_w cB cC cI cJ cZ oA rA u_9.2] ++ [b_c cB cC cI cJ cZ oA rA u_13.2]) (bs' := [b_g cB cC cI cJ cZ oA rA (mrg (fun j => j == 5) u_9.2 u_13.2), b_w cB cC cI cJ cZ oA rA (mrg (fun j => j == 5) u_9.2 u_13.2), b_c cB cC cI cJ cZ oA rA (mrg (fun j => j == 5) u_9.2 u_13.2)]) hP' (fl_a fl_2 fl_1) fl_3 [0, 1, 2] rfl
    clear hP' hD'
    have h9 := Option.some.inj hF_16
    subst h9
    exact W.vret hx hb hr (fun t ht hW => ⟨⟨(), rfl, trivial, m_end ht hP, hDD _⟩, hS.F ht⟩) hS.2.2 dX2_ifStatement_37

def F_X2_whileStatement (rec : HG)  (Γ : HS) : HR :=
  bnd (((Γ 5).1 1)) fun (x_1 : Int32) =>
  (G_X2_expression Γ).bind fun u_3 =>
  (F_X0_add_ 42 0 u_3.2).bind fun u_5 =>
  bnd (mrg (fun j => j == 5) u_3.2 u_5.2) fun σ_7 =>
  (F_X0_add 3 σ_7).bind fun u_9 =>
  bnd (mrg (fun j => j == 5) σ_7 u_9.2) fun σ_11 =>
  (rec 0 0 0 0 σ_11).bind fun u_13 =>
  (F_X0_add_ 41 x_1 u_13.2).bind fun u_15 =>
  bnd (mrg (fun j => j == 5) u_13.2 u_15.2) fun σ_17 =>
  (F_X0_aim u_5.1 σ_17).bind fun u_19 =>
  bnd (mrg (fun j => j == 5) σ_17 u_19.2) fun σ_21 =>
  some (0, σ_21)
set_option maxHeartbeats 4000000 in
set_option maxRecDepth 100000 in
theorem k_X2_whileStatement_st (l : Launch) (dC : Nat → ClassId) (dI : Nat → Nat → Nat) (cB cC cI cJ cZ cP : ClassId) (oA : Nat → Nat) (rA : Nat → Nat → Nat) (d : Nat) (rec : HG) (hI0 : ∀ (sz : Nat)  (Γ : HS) (res : Int32 × HS), rec 0 0 0 0 Γ = some res → Met l yX2_block (g_ws yX2_block cX2_block 2 none) ({ frames := 306 + d, cells := 0, slots := 0, locals := 6746 + 22 * d }) (va_Pc [.ref (oA 2)] (g_B (dC, dI) [(cB, .byte), (cC, .char), (cI, .int), (cJ, .long), (cZ, .boolean), (cP, .object "StoryHouse$Play")] sz (b_g cB cC cI cJ cZ oA rA Γ ++ b_w cB cC cI cJ cZ oA rA Γ ++ b_c cB cC cI cJ cZ oA rA Γ) g_0)) (va_Qv (fun (_ : Unit) => True) (g_Bo (dC, dI) (va_A (b_g cB cC cI cJ cZ oA rA Γ ++ b_w cB cC cI cJ cZ oA rA Γ ++ b_c cB cC cI cJ cZ oA rA Γ) sz) (fun (_ : Unit) => (b_g cB cC cI cJ cZ oA rA res.2 ++ b_w cB cC cI cJ cZ oA rA res.2 ++ b_c cB cC cI cJ cZ oA rA res.2))) (va_A (b_g cB cC cI cJ cZ oA rA Γ ++ b_w cB cC cI cJ cZ oA rA Γ ++ b_c cB cC cI cJ cZ oA rA Γ) sz)) 0 0 (va_A (b_g cB cC cI cJ cZ oA rA Γ ++ b_w cB cC cI cJ cZ oA rA Γ ++ b_c cB cC cI cJ cZ oA rA Γ) sz)) (hI1 : ∀ (sz : Nat)  (Γ : HS) (res : Int32 × HS), rec 1 0 0 0 Γ = some res → Met l yX2_statement (g_ws yX2_statement cX2_statement 2 none) ({ frames := 306 + d, cells := 0, slots := 0, locals := 6746 + 22 * d }) (va_Pc [.ref (oA 2)] (g_B (dC, dI) [(cB, .byte), (cC, .char), (cI, .int), (cJ, .long), (cZ, .boolean), (cP, .object "StoryHouse$Play")] sz (b_g cB cC cI cJ cZ oA rA Γ ++ b_w cB cC cI cJ cZ oA rA Γ ++ b_c cB cC cI cJ cZ oA rA Γ) g_0)) (va_Qv (fun (_ : Unit) => True) (g_Bo (dC, dI) (va_A (b_g cB cC cI cJ cZ oA rA Γ ++ b_w cB cC cI cJ cZ oA rA Γ ++ b_c cB cC cI cJ cZ oA rA Γ) sz) (fun (_ : Unit) => (b_g cB cC cI cJ cZ oA rA res.2 ++ b_w cB cC cI cJ cZ oA rA res.2 ++ b_c cB cC cI cJ cZ oA rA res.2))) (va_A (b_g cB cC cI cJ cZ oA rA Γ ++ b_w cB cC cI cJ cZ oA rA Γ ++ b_c cB cC cI cJ cZ oA rA Γ) sz)) 0 0 (va_A (b_g cB cC cI cJ cZ oA rA Γ ++ b_w cB cC cI cJ cZ oA rA Γ ++ b_c cB cC cI cJ cZ oA rA Γ) sz)) (hI2 : ∀ (sz : Nat)  (Γ : HS) (res : Int32 × HS), rec 2 0 0 0 Γ = some res → Met l yX2_ifStatement (g_ws yX2_ifStatement cX2_ifStatement 3 none) ({ frames := 306 + d, cells := 0, slots := 0, locals := 6746 + 22 * d }) (va_Pc [.ref (oA 2)] (g_B (dC, dI) [(cB, .byte), (cC, .char), (cI, .int), (cJ, .long), (cZ, .boolean), (cP, .object "StoryHouse$Play")] sz (b_g cB cC cI cJ cZ oA rA Γ ++ b_w cB cC cI cJ cZ oA rA Γ ++ b_c cB cC cI cJ cZ oA rA Γ) g_0)) (va_Qv (fun (_ : Unit) => True) (g_Bo (dC, dI) (va_A (b_g cB cC cI cJ cZ oA rA Γ ++ b_w cB cC cI cJ cZ oA rA Γ ++ b_c cB cC cI cJ cZ oA rA Γ) sz) (fun (_ : Unit) => (b_g cB cC cI cJ cZ oA rA res.2 ++ b_w cB cC cI cJ cZ oA rA res.2 ++ b_c cB cC cI cJ cZ oA rA res.2))) (va_A (b_g cB cC cI cJ cZ oA rA Γ ++ b_w cB cC cI cJ cZ oA rA Γ ++ b_c cB cC cI cJ cZ oA rA Γ) sz)) 0 0 (va_A (b_g cB cC cI cJ cZ oA rA Γ ++ b_w cB cC cI cJ cZ oA rA Γ ++ b_c cB cC cI cJ cZ oA rA Γ) sz)) (hI3 : ∀ (sz : Nat)  (Γ : HS) (res : Int32 × HS), rec 3 0 0 0 Γ = some res → Met l yX2_whileStatement (g_ws yX2_whileStatement cX2_whileStatement 3 none) ({ frames := 306 + d, cells := 0, slots := 0, locals := 6746 + 22 * d }) (va_Pc [.ref (oA 2)] (g_B (dC, dI) [(cB, .byte), (cC, .char), (cI, .int), (cJ, .long), (cZ, .boolean), (cP, .object "StoryHouse$Play")] sz (b_g cB cC cI cJ cZ oA rA Γ ++ b_w cB cC cI cJ cZ oA rA Γ ++ b_c cB cC cI cJ cZ oA rA Γ) g_0)) (va_Qv (fun (_ : Unit) => True) (g_Bo (dC, dI) (va_A (b_g cB cC cI cJ cZ oA rA Γ ++ b_w cB cC cI cJ cZ oA rA Γ ++ b_c cB cC cI cJ cZ oA rA Γ) sz) (fun (_ : Unit) => (b_g cB cC cI cJ cZ oA rA res.2 ++ b_w cB cC cI cJ cZ oA rA res.2 ++ b_c cB cC cI cJ cZ oA rA res.2))) (va_A (b_g cB cC cI cJ cZ oA rA Γ ++ b_w cB cC cI cJ cZ oA rA Γ ++ b_c cB cC cI cJ cZ oA rA Γ) sz)) 0 0 (va_A (b_g cB cC cI cJ cZ oA rA Γ ++ b_w cB cC cI cJ cZ oA rA Γ ++ b_c cB cC cI cJ cZ oA rA Γ) sz)) (sz : Nat)   (Γ : HS) (res : Int32 × HS) (hF : F_X2_whileStatement rec  Γ = some res) : Met l yX2_whileStatement (g_ws yX2_whileStatement cX2_whileStatement 3 none) ({ frames := 306 + (d + 1), cells := 0, slots := 0, locals := 6746 + 22 * (d + 1) }) (va_Pc [.ref (oA 2)] (g_B (dC, dI) [(cB, .byte), (cC, .char), (cI, .int), (cJ, .long), (cZ, .boolean), (cP, .object "StoryHouse$Play")] sz (b_g cB cC cI cJ cZ oA rA Γ ++ b_w cB cC cI cJ cZ oA rA Γ ++ b_c cB cC cI cJ cZ oA rA Γ) g_0)) (va_Qv (fun (_ : Unit) => True) (g_Bo (dC, dI) (va_A (b_g cB cC cI cJ cZ oA rA Γ ++ b_w cB cC cI cJ cZ oA rA Γ ++ b_c cB cC cI cJ cZ oA rA Γ) sz) (fun (_ : Unit) => (b_g cB cC cI cJ cZ oA rA res.2 ++ b_w cB cC cI cJ cZ oA rA res.2 ++ b_c cB cC cI cJ cZ oA rA res.2))) (va_A (b_g cB cC cI cJ cZ oA rA Γ ++ b_w cB cC cI cJ cZ oA rA Γ ++ b_c cB cC cI cJ cZ oA rA Γ) sz)) 0 0 (va_A (b_g cB cC cI cJ cZ oA rA Γ ++ b_w cB cC cI cJ cZ oA rA Γ ++ b_c cB cC cI cJ cZ oA rA Γ) sz) := by
  refine Met.ofW (cc := cX2_whileStatement) (maxL := 3) (ret := none) (by decide) rfl ?_
  intro p e s m args below meth c s₁ B hml hv
  obtain ⟨rfl, hsz, hP, hK, hD0, hE, hX⟩ := hv
  have hx := B.exec
  have hb := B.bytes
  have hr := B.returns
  have hts0 := atoms_spec (ws := g_ws yX2_whileStatement cX2_whileStatement 3 none) B.pre
  have hts : ∀ w ∈ lw_good, w.before ([.ref (oA 2)] : List Value).toArray s = true := fun w z => hts0 w (List.mem_cons_of_mem _ z)
  have hown : s.vm.findClass RX2 = some m.cls := findClass_of_methodNamed B.named
  have hlocks := B.notSynchronized
  subst hsz
  have hD1 := hD0.self (sz := s.heap.size)
  generalize hAe : va_A (b_g cB cC cI cJ cZ oA rA Γ ++ b_w cB cC cI cJ cZ oA rA Γ ++ b_c cB cC cI cJ cZ oA rA Γ) s.heap.size = A at hD1 hE hX ⊢
  have hA : ∀ q : Nat, s.heap.size ≤ q → A q := fun q z => by rw [← hAe]; exact Or.inr z
  have hDD : ∀ Γ : HS, va_D A (b_g cB cC cI cJ cZ oA rA Γ ++ b_w cB cC cI cJ cZ oA rA Γ ++ b_c cB cC cI cJ cZ oA rA Γ) := fun Γ9 => va_D_fst (ws := (b_g cB cC cI cJ cZ oA rA Γ ++ b_w cB cC cI cJ cZ oA rA Γ ++ b_c cB cC cI cJ cZ oA rA Γ)) (ws' := (b_g cB cC cI cJ cZ oA rA Γ9 ++ b_w cB cC cI cJ cZ oA rA Γ9 ++ b_c cB cC cI cJ cZ oA rA Γ9)) rfl hD1
  have hN := hE.1
  have hS : va_S A s.heap s.heap [] := va_S.rf
  have hl := lv_entry ([.ref (oA 2)]) (n := 3) (Nat.le_of_ble_eq_true rfl)
  rw [lg_entry_eq]
  generalize (lg_sl ([.ref (oA 2)]) ++ List.replicate (3 - (lg_sl ([.ref (oA 2)])).length) Slot.unset).toArray = ls at hl ⊢
  have hl : lv_has ls 3 [(0, .ref (oA 2))] := hl
  unfold F_X2_whileStatement at hF
  refine lv_aload_n hx hb dX2_whileStatement_0 rfl (lv_at hl 0 rfl) ?_
  refine va_get (D := (dC, dI)) (ci := 2) (v := .ref (oA 5)) (C := RX2) (T := TX2) (N := 8) hx hb hts ii_X2 hown hK hP 0 rfl rfl 1 (by decide) (hts (.fieldLink RX2 15 "StoryHouse$Grammar" "code" "LStoryHouse$Code;") wq_72) (fun _ h9 => h9) rfl dX2_whileStatement_1 ?_
  refine va_get (D := (dC, dI)) (ci := 0) (v := .int ((Γ 5).1 1)) (C := RX0) (T := TX0) (N := 9) hx hb hts ii_X0 hown hK hP 10 rfl rfl 1 (by decide) (hts (.fieldLink RX2 191 "StoryHouse$Code" "length" "I") wq_118) (fun _ h9 => h9) rfl dX2_whileStatement_4 ?_
  obtain ⟨x_1, ex_1, hF_2⟩ := bnd_e hF
  clear hF
  refine m_top ex_1 ?_
  refine lv_istore_n (lv' := [(1, .int x_1), (0, .ref (oA 2))]) hx hb dX2_whileStatement_7 rfl hl (by decide) rfl (fun ls hl => ?_)
  refine lv_aload_n hx hb dX2_whileStatement_8 rfl (lv_at hl 1 rfl) ?_
  obtain ⟨u_3, hu_3, hF_4⟩ := Option.bind_eq_some_iff.mp hF_2
  clear hF_2
  have hPc := bx_P (bs := [b_g cB cC cI cJ cZ oA rA Γ, b_w cB cC cI cJ cZ oA rA Γ, b_c cB cC cI cJ cZ oA rA Γ]) (bs' := [b_g cB cC cI cJ cZ oA rA Γ, b_w cB cC cI cJ cZ oA rA Γ, b_c cB cC cI cJ cZ oA rA Γ]) (ws' := (b_g cB cC cI cJ cZ oA rA Γ ++ b_w cB cC cI cJ cZ oA rA Γ ++ b_c cB cC cI cJ cZ oA rA Γ)) hP fl_3 fl_3 [0, 1, 2] rfl
  have hDc := bx_D (bs := [b_g cB cC cI cJ cZ oA rA Γ, b_w cB cC cI cJ cZ oA rA Γ, b_c cB cC cI cJ cZ oA rA Γ]) (bs' := [b_g cB cC cI cJ cZ oA rA Γ, b_w cB cC cI cJ cZ oA rA Γ, b_c cB cC cI cJ cZ oA rA Γ]) (ws' := (b_g cB cC cI cJ cZ oA rA Γ ++ b_w cB cC cI cJ cZ oA rA Γ ++ b_c cB cC cI cJ cZ oA rA Γ)) (hDD Γ) fl_3 fl_3 [0, 1, 2] (by decide +kernel) rfl
  have hFc := bx_F (bs := [b_g cB cC cI cJ cZ oA rA Γ, b_w cB cC cI cJ cZ oA rA Γ, b_c cB cC cI cJ cZ oA rA Γ]) (bs' := [b_g cB cC cI cJ cZ oA rA Γ, b_w cB cC cI cJ cZ oA rA Γ, b_c cB cC cI cJ cZ oA rA Γ]) (wc := (b_g cB cC cI cJ cZ oA rA Γ ++ b_w cB cC cI cJ cZ oA rA Γ ++ b_c cB cC cI cJ cZ oA rA Γ)) (hDD Γ) hS hA fl_3 fl_3 [0, 1, 2] rfl
  refine g_ofv (wc := (b_g cB cC cI cJ cZ oA rA Γ ++ b_w cB cC cI cJ cZ oA rA Γ ++ b_c cB cC cI cJ cZ oA rA Γ)) (wr := ([] : va_W)) hP (hDD Γ) hS hFc (bx_ix [b_g cB cC cI cJ cZ oA rA Γ, b_w cB cC cI cJ cZ oA rA Γ, b_c cB cC cI cJ cZ oA rA Γ] [0, 1, 2]) (bx_ix [b_g cB cC cI cJ cZ oA rA Γ, b_w cB cC cI cJ cZ oA rA Γ, b_c cB cC cI cJ cZ oA rA Γ] []) (bx_C (bs := [b_g cB cC cI cJ cZ oA rA Γ, b_w cB cC cI cJ cZ oA rA Γ, b_c cB cC cI cJ cZ oA rA Γ]) (bs' := [b_g cB cC cI cJ cZ oA rA Γ, b_w cB cC cI cJ cZ oA rA Γ, b_c cB cC cI cJ cZ oA rA Γ]) (is := [0, 1, 2]) fl_3 fl_3 rfl) (bx_C (bs := [b_g cB cC cI cJ cZ oA rA Γ, b_w cB cC cI cJ cZ oA rA Γ, b_c cB cC cI cJ cZ oA rA Γ]) (bs' := []) (is := []) fl_3 fl_0 rfl) (bx_n (by decide +kernel)) (bx_d (by decide +kernel)) (va_runV (As := []) (rest := []) ⟨hx, hb, hml, hown, hts⟩ (k_X2_expression l dC dI cB cC cI cJ cZ cP oA rA s.heap.size  Γ _ hu_3) (cwV 0 hts (g_gV wq_627 wq_628 wq_2016 wq_3 wq_629) rfl rfl rfl (by decide +kernel) ⟨by show 304 + 1 ≤ 306 + (d + 1); omega, by show 8 + (3 + 11) + 6702 ≤ 6746 + 22 * (d + 1); omega⟩) (g_preV g_bl0 hK hPc hDc hS hE hFc g_to0 (q0 := 0) (ci := 2) rfl rfl) rfl rfl hl.1 rfl (lv_room (Nat.le_of_ble_eq_true rfl)) dX2_whileStatement_9 ⟨Nat.le_of_ble_eq_true rfl, Nat.le_of_ble_eq_true rfl⟩) (fun u9 H locs hw9 hP' hD' hS => ?_)
  clear hPc hDc hFc
  have hP : va_P (dC, dI) vwCl (b_g cB cC cI cJ cZ oA rA u_3.2 ++ b_w cB cC cI cJ cZ oA rA u_3.2 ++ b_c cB cC cI cJ cZ oA rA u_3.2) H := hP'
  clear hP' hD'
  refine lv_aload_n hx hb dX2_whileStatement_12 rfl (lv_at hl 1 rfl) ?_
  refine va_get (D := (dC, dI)) (ci := 2) (v := .ref (oA 5)) (C := RX2) (T := TX2) (N := 8) hx hb hts ii_X2 hown hK hP 0 rfl rfl 1 (by decide) (hts (.fieldLink RX2 15 "StoryHouse$Grammar" "code" "LStoryHouse$Code;") wq_72) (fun _ h9 => h9) rfl dX2_whileStatement_13 ?_
  refine lv_bipush (v := 42) hx hb dX2_whileStatement_16 (by decide +kernel) ?_
  refine lv_iconst (v := 0) hx hb dX2_whileStatement_18 (by decide +kernel) ?_
  obtain ⟨u_5, hu_5, hF_6⟩ := Option.bind_eq_some_iff.mp hF_4
  clear hF_4
  have hPc := bx_P (bs := [b_g cB cC cI cJ cZ oA rA u_3.2, b_w cB cC cI cJ cZ oA rA u_3.2, b_c cB cC cI cJ cZ oA rA u_3.2]) (bs' := [b_c cB cC cI cJ cZ oA rA u_3.2]) (ws' := (b_c cB cC cI cJ cZ oA rA u_3.2)) hP fl_3 fl_1 [2] rfl
  have hDc := bx_D (bs := [b_g cB cC cI cJ cZ oA rA u_3.2, b_w cB cC cI cJ cZ oA rA u_3.2, b_c cB cC cI cJ cZ oA rA u_3.2]) (bs' := [b_c cB cC cI cJ cZ oA rA u_3.2]) (ws' := (b_c cB cC cI cJ cZ oA rA u_3.2)) (hDD u_3.2) fl_3 fl_1 [2] (by decide +kernel) rfl
  have hFc := bx_F (bs := [b_g cB cC cI cJ cZ oA rA u_3.2, b_w cB cC cI cJ cZ oA rA u_3.2, b_c cB cC cI cJ cZ oA rA u_3.2]) (bs' := [b_c cB cC cI cJ cZ oA rA u_3.2]) (wc := (b_c cB cC cI cJ cZ oA rA u_3.2)) (hDD u_3.2) hS hA fl_3 fl_1 [2] rfl
  refine g_ofi (wc := (b_c cB cC cI cJ cZ oA rA u_3.2)) (wr := (b_g cB cC cI cJ cZ oA rA u_3.2 ++ b_w cB cC cI cJ cZ oA rA u_3.2)) hP (hDD u_3.2) hS hFc (bx_ix [b_g cB cC cI cJ cZ oA rA u_3.2, b_w cB cC cI cJ cZ oA rA u_3.2, b_c cB cC cI cJ cZ oA rA u_3.2] [2]) (bx_ix [b_g cB cC cI cJ cZ oA rA u_3.2, b_w cB cC cI cJ cZ oA rA u_3.2, b_c cB cC cI cJ cZ oA rA u_3.2] [0, 1]) (bx_C (bs := [b_g cB cC cI cJ cZ oA rA u_3.2, b_w cB cC cI cJ cZ oA rA u_3.2, b_c cB cC cI cJ cZ oA rA u_3.2]) (bs' := [b_c cB cC cI cJ cZ oA rA u_3.2]) (is := [2]) fl_3 fl_1 rfl) (bx_C (bs := [b_g cB cC cI cJ cZ oA rA u_3.2, b_w cB cC cI cJ cZ oA rA u_3.2, b_c cB cC cI cJ cZ oA rA u_3.2]) (bs' := [b_g cB cC cI cJ cZ oA rA u_3.2, b_w cB cC cI cJ cZ oA rA u_3.2]) (is := [0, 1]) fl_3 fl_2 rfl) (bx_n (by decide +kernel)) (bx_d (by decide +kernel)) (va_runV (As := [.int 42, .int 0]) (rest := []) ⟨hx, hb, hml, hown, hts⟩ (k_X0_add_ l dC dI cB cC cI cJ cZ cP oA rA H.size  42 0 u_3.2 _ hu_5) (cwV 2 hts (g_gV wq_656 wq_657 wq_658 wq_6 wq_659) rfl rfl rfl (by decide +kernel) ⟨by show 1 + 1 ≤ 306 + (d + 1); omega, by show 8 + (3 + 11) + 40 ≤ 6746 + 22 * (d + 1); omega⟩) (g_preV g_bl0 hK hPc hDc hS hE hFc g_to0 (q0 := 0) (ci := 0) rfl rfl) rfl rfl hl.1 rfl (lv_room (Nat.le_of_ble_eq_true rfl)) dX2_whileStatement_19 ⟨Nat.le_of_ble_eq_true rfl, Nat.le_of_ble_eq_true rfl⟩) (fun r9 u9 H locs hw9 hP' hD' hS => ?_)
  clear hPc hDc hFc
  subst hw9
  obtain ⟨σ_7, eσ_7, hF_8⟩ := bnd_e hF_6
  clear hF_6
  have hP : va_P (dC, dI) vwCl (b_g cB cC cI cJ cZ oA rA σ_7 ++ b_w cB cC cI cJ cZ oA rA σ_7 ++ b_c cB cC cI cJ cZ oA rA σ_7) H := by rw [eσ_7]; exact bx_P (bs := [b_g cB cC cI cJ cZ oA rA u_3.2, b_w cB cC cI cJ cZ oA rA u_3.2] ++ [b_c cB cC cI cJ cZ oA rA u_5.2]) (bs' := [b_g cB cC cI cJ cZ oA rA (mrg (fun j => j == 5) u_3.2 u_5.2), b_w cB cC cI cJ cZ oA rA (mrg (fun j => j == 5) u_3.2 u_5.2), b_c cB cC cI cJ cZ oA rA (mrg (fun j => j == 5) u_3.2 u_5.2)]) hP' (fl_a fl_2 fl_1) fl_3 [0, 1, 2] rfl
  clear hP' hD'
  refine lv_istore_n (lv' := [(2, .int u_5.1), (1, .int x_1), (0, .ref (oA 2))]) hx hb dX2_whileStatement_22 rfl hl (by decide) rfl (fun ls hl => ?_)
  refine lv_aload_n hx hb dX2_whileStatement_23 rfl (lv_at hl 2 rfl) ?_
  refine va_get (D := (dC, dI)) (ci := 2) (v := .ref (oA 5)) (C := RX2) (T := TX2) (N := 8) hx hb hts ii_X2 hown hK hP 0 rfl rfl 1 (by decide) (hts (.fieldLink RX2 15 "StoryHouse$Grammar" "code" "LStoryHouse$Code;") wq_72) (fun _ h9 => h9) rfl dX2_whileStatement_24 ?_
  refine lv_iconst (v := 3) hx hb dX2_whileStatement_27 (by decide +kernel) ?_
  obtain ⟨u_9, hu_9, hF_10⟩ := Option.bind_eq_some_iff.mp hF_8
  clear hF_8
  have hPc := bx_P (bs := [b_g cB cC cI cJ cZ oA rA σ_7, b_w cB cC cI cJ cZ oA rA σ_7, b_c cB cC cI cJ cZ oA rA σ_7]) (bs' := [b_c cB cC cI cJ cZ oA rA σ_7]) (ws' := (b_c cB cC cI cJ cZ oA rA σ_7)) hP fl_3 fl_1 [2] rfl
  have hDc := bx_D (bs := [b_g cB cC cI cJ cZ oA rA σ_7, b_w cB cC cI cJ cZ oA rA σ_7, b_c cB cC cI cJ cZ oA rA σ_7]) (bs' := [b_c cB cC cI cJ cZ oA rA σ_7]) (ws' := (b_c cB cC cI cJ cZ oA rA σ_7)) (hDD σ_7) fl_3 fl_1 [2] (by decide +kernel) rfl
  have hFc := bx_F (bs := [b_g cB cC cI cJ cZ oA rA σ_7, b_w cB cC cI cJ cZ oA rA σ_7, b_c cB cC cI cJ cZ oA rA σ_7]) (bs' := [b_c cB cC cI cJ cZ oA rA σ_7]) (wc := (b_c cB cC cI cJ cZ oA rA σ_7)) (hDD σ_7) hS hA fl_3 fl_1 [2] rfl
  refine g_ofv (wc := (b_c cB cC cI cJ cZ oA rA σ_7)) (wr := (b_g cB cC cI cJ cZ oA rA σ_7 ++ b_w cB cC cI cJ cZ oA rA σ_7)) hP (hDD σ_7) hS hFc (bx_ix [b_g cB cC cI cJ cZ oA rA σ_7, b_w cB cC cI cJ cZ oA rA σ_7, b_c cB cC cI cJ cZ oA rA σ_7] [2]) (bx_ix [b_g cB cC cI cJ cZ oA rA σ_7, b_w cB cC cI cJ cZ oA rA σ_7, b_c cB cC cI cJ cZ oA rA σ_7] [0, 1]) (bx_C (bs := [b_g cB cC cI cJ cZ oA rA σ_7, b_w cB cC cI cJ cZ oA rA σ_7, b_c cB cC cI cJ cZ oA rA σ_7]) (bs' := [b_c cB cC cI cJ cZ oA rA σ_7]) (is := [2]) fl_3 fl_1 rfl) (bx_C (bs := [b_g cB cC cI cJ cZ oA rA σ_7, b_w cB cC cI cJ cZ oA rA σ_7, b_c cB cC cI cJ cZ oA rA σ_7]) (bs' := [b_g cB cC cI cJ cZ oA rA σ_7, b_w cB cC cI cJ cZ oA rA σ_7]) (is := [0, 1]) fl_3 fl_2 rfl) (bx_n (by decide +kernel)) (bx_d (by decide +kernel)) (va_runV (As := [.int 3]) (rest := []) ⟨hx, hb, hml, hown, hts⟩ (k_X0_add l dC dI cB cC cI cJ cZ cP oA rA H.size  3 σ_7 _ hu_9) (cwV 1 hts (g_gV wq_636 wq_637 wq_638 wq_6 wq_639) rfl rfl rfl (by decide +kernel) ⟨by show 1 + 1 ≤ 306 + (d + 1); omega, by show 8 + (2 + 11) + 40 ≤ 6746 + 22 * (d + 1); omega⟩) (g_preV g_bl0 hK hPc hDc hS hE hFc g_to0 (q0 := 0) (ci := 0) rfl rfl) rfl rfl hl.1 rfl (lv_room (Nat.le_of_ble_eq_true rfl)) dX2_whileStatement_28 ⟨Nat.le_of_ble_eq_true rfl, Nat.le_of_ble_eq_true rfl⟩) (fun u9 H locs hw9 hP' hD' hS => ?_)
  clear hPc hDc hFc
  obtain ⟨σ_11, eσ_11, hF_12⟩ := bnd_e hF_10
  clear hF_10
  have hP : va_P (dC, dI) vwCl (b_g cB cC cI cJ cZ oA rA σ_11 ++ b_w cB cC cI cJ cZ oA rA σ_11 ++ b_c cB cC cI cJ cZ oA rA σ_11) H := by rw [eσ_11]; exact bx_P (bs := [b_g cB cC cI cJ cZ oA rA σ_7, b_w cB cC cI cJ cZ oA rA σ_7] ++ [b_c cB cC cI cJ cZ oA rA u_9.2]) (bs' := [b_g cB cC cI cJ cZ oA rA (mrg (fun j => j == 5) σ_7 u_9.2), b_w cB cC cI cJ cZ oA rA (mrg (fun j => j == 5) σ_7 u_9.2), b_c cB cC cI cJ cZ oA rA (mrg (fun j => j == 5) σ_7 u_9.2)]) hP' (fl_a fl_2 fl_1) fl_3 [0, 1, 2] rfl
  clear hP' hD'
  refine lv_aload_n hx hb dX2_whileStatement_31 rfl (lv_at hl 2 rfl) ?_
  obtain ⟨u_13, hu_13, hF_14⟩ := Option.bind_eq_some_iff.mp hF_12
  clear hF_12
  have hPc := bx_P (bs := [b_g cB cC cI cJ cZ oA rA σ_11, b_w cB cC cI cJ cZ oA rA σ_11, b_c cB cC cI cJ cZ oA rA σ_11]) (bs' := [b_g cB cC cI cJ cZ oA rA σ_11, b_w cB cC cI cJ cZ oA rA σ_11, b_c cB cC cI cJ cZ oA rA σ_11]) (ws' := (b_g cB cC cI cJ cZ oA rA σ_11 ++ b_w cB cC cI cJ cZ oA rA σ_11 ++ b_c cB cC cI cJ cZ oA rA σ_11)) hP fl_3 fl_3 [0, 1, 2] rfl
  have hDc := bx_D (bs := [b_g cB cC cI cJ cZ oA rA σ_11, b_w cB cC cI cJ cZ oA rA σ_11, b_c cB cC cI cJ cZ oA rA σ_11]) (bs' := [b_g cB cC cI cJ cZ oA rA σ_11, b_w cB cC cI cJ cZ oA rA σ_11, b_c cB cC cI cJ cZ oA rA σ_11]) (ws' := (b_g cB cC cI cJ cZ oA rA σ_11 ++ b_w cB cC cI cJ cZ oA rA σ_11 ++ b_c cB cC cI cJ cZ oA rA σ_11)) (hDD σ_11) fl_3 fl_3 [0, 1, 2] (by decide +kernel) rfl
  have hFc := bx_F (bs := [b_g cB cC cI cJ cZ oA rA σ_11, b_w cB cC cI cJ cZ oA rA σ_11, b_c cB cC cI cJ cZ oA rA σ_11]) (bs' := [b_g cB cC cI cJ cZ oA rA σ_11, b_w cB cC cI cJ cZ oA rA σ_11, b_c cB cC cI cJ cZ oA rA σ_11]) (wc := (b_g cB cC cI cJ cZ oA rA σ_11 ++ b_w cB cC cI cJ cZ oA rA σ_11 ++ b_c cB cC cI cJ cZ oA rA σ_11)) (hDD σ_11) hS hA fl_3 fl_3 [0, 1, 2] rfl
  refine g_ofv (wc := (b_g cB cC cI cJ cZ oA rA σ_11 ++ b_w cB cC cI cJ cZ oA rA σ_11 ++ b_c cB cC cI cJ cZ oA rA σ_11)) (wr := ([] : va_W)) hP (hDD σ_11) hS hFc (bx_ix [b_g cB cC cI cJ cZ oA rA σ_11, b_w cB cC cI cJ cZ oA rA σ_11, b_c cB cC cI cJ cZ oA rA σ_11] [0, 1, 2]) (bx_ix [b_g cB cC cI cJ cZ oA rA σ_11, b_w cB cC cI cJ cZ oA rA σ_11, b_c cB cC cI cJ cZ oA rA σ_11] []) (bx_C (bs := [b_g cB cC cI cJ cZ oA rA σ_11, b_w cB cC cI cJ cZ oA rA σ_11, b_c cB cC cI cJ cZ oA rA σ_11]) (bs' := [b_g cB cC cI cJ cZ oA rA σ_11, b_w cB cC cI cJ cZ oA rA σ_11, b_c cB cC cI cJ cZ oA rA σ_11]) (is := [0, 1, 2]) fl_3 fl_3 rfl) (bx_C (bs := [b_g cB cC cI cJ cZ oA rA σ_11, b_w cB cC cI cJ cZ oA rA σ_11, b_c cB cC cI cJ cZ oA rA σ_11]) (bs' := []) (is := []) fl_3 fl_0 rfl) (bx_n (by decide +kernel)) (bx_d (by decide +kernel)) (va_runV (As := []) (rest := []) ⟨hx, hb, hml, hown, hts⟩ (hI0 H.size σ_11 _ hu_13) (cwV 0 hts (g_gV wq_615 wq_616 wq_2013 wq_3 wq_617) rfl rfl rfl (by decide +kernel) ⟨by show 306 + d + 1 ≤ 306 + (d + 1); omega, by show 8 + (2 + 11) + (6746 + 22 * d) ≤ 6746 + 22 * (d + 1); omega⟩) (g_preV g_bl0 hK hPc hDc hS hE hFc g_to0 (q0 := 0) (ci := 2) rfl rfl) rfl rfl hl.1 rfl (lv_room (Nat.le_of_ble_eq_true rfl)) dX2_whileStatement_32 ⟨Nat.le_of_ble_eq_true rfl, Nat.le_of_ble_eq_true rfl⟩) (fun u9 H locs hw9 hP' hD' hS => ?_)
  clear hPc hDc hFc
  have hP : va_P (dC, dI) vwCl (b_g cB cC cI cJ cZ oA rA u_13.2 ++ b_w cB cC cI cJ cZ oA rA u_13.2 ++ b_c cB cC cI cJ cZ oA rA u_13.2) H := hP'
  clear hP' hD'
  refine lv_aload_n hx hb dX2_whileStatement_35 rfl (lv_at hl 2 rfl) ?_
  refine va_get (D := (dC, dI)) (ci := 2) (v := .ref (oA 5)) (C := RX2) (T := TX2) (N := 8) hx hb hts ii_X2 hown hK hP 0 rfl rfl 1 (by decide) (hts (.fieldLink RX2 15 "StoryHouse$Grammar" "code" "LStoryHouse$Code;") wq_72) (fun _ h9 => h9) rfl dX2_whileStatement_36 ?_
  refine lv_bipush (v := 41) hx hb dX2_whileStatement_39 (by decide +kernel) ?_
  refine lv_iload_n hx hb dX2_whileStatement_41 rfl (lv_at hl 1 rfl) ?_
  obtain ⟨u_15, hu_15, hF_16⟩ := Option.bind_eq_some_iff.mp hF_14
  clear hF_14
  have hPc := bx_P (bs := [b_g cB cC cI cJ cZ oA rA u_13.2, b_w cB cC cI cJ cZ oA rA u_13.2, b_c cB cC cI cJ cZ oA rA u_13.2]) (bs' := [b_c cB cC cI cJ cZ oA rA u_13.2]) (ws' := (b_c cB cC cI cJ cZ oA rA u_13.2)) hP fl_3 fl_1 [2] rfl
  have hDc := bx_D (bs := [b_g cB cC cI cJ cZ oA rA u_13.2, b_w cB cC cI cJ cZ oA rA u_13.2, b_c cB cC cI cJ cZ oA rA u_13.2]) (bs' := [b_c cB cC cI cJ cZ oA rA u_13.2]) (ws' := (b_c cB cC cI cJ cZ oA rA u_13.2)) (hDD u_13.2) fl_3 fl_1 [2] (by decide +kernel) rfl
  have hFc := bx_F (bs := [b_g cB cC cI cJ cZ oA rA u_13.2, b_w cB cC cI cJ cZ oA rA u_13.2, b_c cB cC cI cJ cZ oA rA u_13.2]) (bs' := [b_c cB cC cI cJ cZ oA rA u_13.2]) (wc := (b_c cB cC cI cJ cZ oA rA u_13.2)) (hDD u_13.2) hS hA fl_3 fl_1 [2] rfl
  refine g_ofi (wc := (b_c cB cC cI cJ cZ oA rA u_13.2)) (wr := (b_g cB cC cI cJ cZ oA rA u_13.2 ++ b_w cB cC cI cJ cZ oA rA u_13.2)) hP (hDD u_13.2) hS hFc (bx_ix [b_g cB cC cI cJ cZ oA rA u_13.2, b_w cB cC cI cJ cZ oA rA u_13.2, b_c cB cC cI cJ cZ oA rA u_13.2] [2]) (bx_ix [b_g cB cC cI cJ cZ oA rA u_13.2, b_w cB cC cI cJ cZ oA rA u_13.2, b_c cB cC cI cJ cZ oA rA u_13.2] [0, 1]) (bx_C (bs := [b_g cB cC cI cJ cZ oA rA u_13.2, b_w cB cC cI cJ cZ oA rA u_13.2, b_c cB cC cI cJ cZ oA rA u_13.2]) (bs' := [b_c cB cC cI cJ cZ oA rA u_13.2]) (is := [2]) fl_3 fl_1 rfl) (bx_C (bs := [b_g cB cC cI cJ cZ oA rA u_13.2, b_w cB cC cI cJ cZ oA rA u_13.2, b_c cB cC cI cJ cZ oA rA u_13.2]) (bs' := [b_g cB cC cI cJ cZ oA rA u_13.2, b_w cB cC cI cJ cZ oA rA u_13.2]) (is := [0, 1]) fl_3 fl_2 rfl) (bx_n (by decide +kernel)) (bx_d (by decide +kernel)) (va_runV (As := [.int 41, .int x_1]) (rest := []) ⟨hx, hb, hml, hown, hts⟩ (k_X0_add_ l dC dI cB cC cI cJ cZ cP oA rA H.size  41 x_1 u_13.2 _ hu_15) (cwV 2 hts (g_gV wq_656 wq_657 wq_658 wq_6 wq_659) rfl rfl rfl (by decide +kernel) ⟨by show 1 + 1 ≤ 306 + (d + 1); omega, by show 8 + (3 + 11) + 40 ≤ 6746 + 22 * (d + 1); omega⟩) (g_preV g_bl0 hK hPc hDc hS hE hFc g_to0 (q0 := 0) (ci := 0) rfl rfl) rfl rfl hl.1 rfl (lv_room (Nat.le_of_ble_eq_true rfl)) dX2_whileStatement_42 ⟨Nat.le_of_ble_eq_true rfl, Nat.le_of_ble_eq_true rfl⟩) (fun r9 u9 H locs hw9 hP' hD' hS => ?_)
  clear hPc hDc hFc
  subst hw9
  obtain ⟨σ_17, eσ_17, hF_18⟩ := bnd_e hF_16
  clear hF_16
  have hP : va_P (dC, dI) vwCl (b_g cB cC cI cJ cZ oA rA σ_17 ++ b_w cB cC cI cJ cZ oA rA σ_17 ++ b_c cB cC cI cJ cZ oA rA σ_17) H := by rw [eσ_17]; exact bx_P (bs := [b_g cB cC cI cJ cZ oA rA u_13.2, b_w cB cC cI cJ cZ oA rA u_13.2] ++ [b_c cB cC cI cJ cZ oA rA u_15.2]) (bs' := [b_g cB cC cI cJ cZ oA rA (mrg (fun j => j == 5) u_13.2 u_15.2), b_w cB cC cI cJ cZ oA rA (mrg (fun j => j == 5) u_13.2 u_15.2), b_c cB cC cI cJ cZ oA rA (mrg (fun j => j == 5) u_13.2 u_15.2)]) hP' (fl_a fl_2 fl_1) fl_3 [0, 1, 2] rfl
  clear hP' hD'
  refine lv_pop hx hb dX2_whileStatement_45 rfl ?_
  refine lv_aload_n hx hb dX2_whileStatement_46 rfl (lv_at hl 2 rfl) ?_
  refine va_get (D := (dC, dI)) (ci := 2) (v := .ref (oA 5)) (C := RX2) (T := TX2) (N := 8) hx hb hts ii_X2 hown hK hP 0 rfl rfl 1 (by decide) (hts (.fieldLink RX2 15 "StoryHouse$Grammar" "code" "LStoryHouse$Code;") wq_72) (fun _ h9 => h9) rfl dX2_whileStatement_47 ?_
  refine lv_iload_n hx hb dX2_whileStatement_50 rfl (lv_at hl 0 rfl) ?_
  obtain ⟨u_19, hu_19, hF_20⟩ := Option.bind_eq_some_iff.mp hF_18
  clear hF_18
  have hPc := bx_P (bs := [b_g cB cC cI cJ cZ oA rA σ_17, b_w cB cC cI cJ cZ oA rA σ_17, b_c cB cC cI cJ cZ oA rA σ_17]) (bs' := [b_c cB cC cI cJ cZ oA rA σ_17]) (ws' := (b_c cB cC cI cJ cZ oA rA σ_17)) hP fl_3 fl_1 [2] rfl
  have hDc := bx_D (bs := [b_g cB cC cI cJ cZ oA rA σ_17, b_w cB cC cI cJ cZ oA rA σ_17, b_c cB cC cI cJ cZ oA rA σ_17]) (bs' := [b_c cB cC cI cJ cZ oA rA σ_17]) (ws' := (b_c cB cC cI cJ cZ oA rA σ_17)) (hDD σ_17) fl_3 fl_1 [2] (by decide +kernel) rfl
  have hFc := bx_F (bs := [b_g cB cC cI cJ cZ oA rA σ_17, b_w cB cC cI cJ cZ oA rA σ_17, b_c cB cC cI cJ cZ oA rA σ_17]) (bs' := [b_c cB cC cI cJ cZ oA rA σ_17]) (wc := (b_c cB cC cI cJ cZ oA rA σ_17)) (hDD σ_17) hS hA fl_3 fl_1 [2] rfl
  refine g_ofv (wc := (b_c cB cC cI cJ cZ oA rA σ_17)) (wr := (b_g cB cC cI cJ cZ oA rA σ_17 ++ b_w cB cC cI cJ cZ oA rA σ_17)) hP (hDD σ_17) hS hFc (bx_ix [b_g cB cC cI cJ cZ oA rA σ_17, b_w cB cC cI cJ cZ oA rA σ_17, b_c cB cC cI cJ cZ oA rA σ_17] [2]) (bx_ix [b_g cB cC cI cJ cZ oA rA σ_17, b_w cB cC cI cJ cZ oA rA σ_17, b_c cB cC cI cJ cZ oA rA σ_17] [0, 1]) (bx_C (bs := [b_g cB cC cI cJ cZ oA rA σ_17, b_w cB cC cI cJ cZ oA rA σ_17, b_c cB cC cI cJ cZ oA rA σ_17]) (bs' := [b_c cB cC cI cJ cZ oA rA σ_17]) (is := [2]) fl_3 fl_1 rfl) (bx_C (bs := [b_g cB cC cI cJ cZ oA rA σ_17, b_w cB cC cI cJ cZ oA rA σ_17, b_c cB cC cI cJ cZ oA rA σ_17]) (bs' := [b_g cB cC cI cJ cZ oA rA σ_17, b_w cB cC cI cJ cZ oA rA σ_17]) (is := [0, 1]) fl_3 fl_2 rfl) (bx_n (by decide +kernel)) (bx_d (by decide +kernel)) (va_runV (As := [.int u_5.1]) (rest := []) ⟨hx, hb, hml, hown, hts⟩ (k_X0_aim l dC dI cB cC cI cJ cZ cP oA rA H.size  u_5.1 σ_17 _ hu_19) (cwV 1 hts (g_gV wq_672 wq_673 wq_674 wq_6 wq_675) rfl rfl rfl (by decide +kernel) ⟨by show 2 + 1 ≤ 306 + (d + 1); omega, by show 8 + (2 + 11) + 62 ≤ 6746 + 22 * (d + 1); omega⟩) (g_preV g_bl0 hK hPc hDc hS hE hFc g_to0 (q0 := 0) (ci := 0) rfl rfl) rfl rfl hl.1 rfl (lv_room (Nat.le_of_ble_eq_true rfl)) dX2_whileStatement_51 ⟨Nat.le_of_ble_eq_true rfl, Nat.le_of_ble_eq_true rfl⟩) (fun u9 H locs hw9 hP' hD' hS => ?_)
  clear hPc hDc hFc
  obtain ⟨σ_21, eσ_21, hF_22⟩ := bnd_e hF_20
  clear hF_20
  have hP : va_P (dC, dI) vwCl (b_g cB cC cI cJ cZ oA rA σ_21 ++ b_w cB cC cI cJ cZ oA rA σ_21 ++ b_c cB cC cI cJ cZ oA rA σ_21) H := by rw [eσ_21]; exact bx_P (bs := [b_g cB cC cI cJ cZ oA rA σ_17, b_w cB cC cI cJ cZ oA rA σ_17] ++ [b_c cB cC cI cJ cZ oA rA u_19.2]) (bs' := [b_g cB cC cI cJ cZ oA rA (mrg (fun j => j == 5) σ_17 u_19.2), b_w cB cC cI cJ cZ oA rA (mrg (fun j => j == 5) σ_17 u_19.2), b_c cB cC cI cJ cZ oA rA (mrg (fun j => j == 5) σ_17 u_19.2)]) hP' (fl_a fl_2 fl_1) fl_3 [0, 1, 2] rfl
  clear hP' hD'
  have h9 := Option.some.inj hF_22
  subst h9
  exact W.vret hx hb hr (fun t ht hW => ⟨⟨(), rfl, trivial, m_end ht hP, hDD _⟩, hS.F ht⟩) hS.2.2 dX2_whileStatement_54

/-- the group, by its depth -/
def gB : Nat → HG
  | 0, _, _, _, _, _ => none
  | d + 1, t, a, b, c, Γ => if t = 0 then F_X2_block (gB d)  Γ else if t = 1 then F_X2_statement (gB d)  Γ else if t = 2 then F_X2_ifStatement (gB d)  Γ else if t = 3 then F_X2_whileStatement (gB d)  Γ else none
theorem gB_0 (d : Nat) (a b c : Int32) (Γ : HS) : gB (d + 1) 0 a b c Γ = F_X2_block (gB d)  Γ := by
  rw [gB]
  exact if_pos rfl
theorem gB_1 (d : Nat) (a b c : Int32) (Γ : HS) : gB (d + 1) 1 a b c Γ = F_X2_statement (gB d)  Γ := by
  rw [gB]
  exact (if_neg (by decide)).trans (if_pos rfl)
theorem gB_2 (d : Nat) (a b c : Int32) (Γ : HS) : gB (d + 1) 2 a b c Γ = F_X2_ifStatement (gB d)  Γ := by
  rw [gB]
  exact (if_neg (by decide)).trans ((if_neg (by decide)).trans (if_pos rfl))
theorem gB_3 (d : Nat) (a b c : Int32) (Γ : HS) : gB (d + 1) 3 a b c Γ = F_X2_whileStatement (gB d)  Γ := by
  rw [gB]
  exact (if_neg (by decide)).trans ((if_neg (by decide)).trans ((if_neg (by decide)).trans (if_pos rfl)))
set_option maxHeartbeats 4000000 in
theorem gB_all (l : Launch) (dC : Nat → ClassId) (dI : Nat → Nat → Nat) (cB cC cI cJ cZ cP : ClassId) (oA : Nat → Nat) (rA : Nat → Nat → Nat) : ∀ d : Nat, (∀ (sz : Nat)  (Γ : HS) (res : Int32 × HS), gB d 0 0 0 0 Γ = some res → Met l yX2_block (g_ws yX2_block cX2_block 2 none) ({ frames := 306 + d, cells := 0, slots := 0, locals := 6746 + 22 * d }) (va_Pc [.ref (oA 2)] (g_B (dC, dI) [(cB, .byte), (cC, .char), (cI, .int), (cJ, .long), (cZ, .boolean), (cP, .object "StoryHouse$Play")] sz (b_g cB cC cI cJ cZ oA rA Γ ++ b_w cB cC cI cJ cZ oA rA Γ ++ b_c cB cC cI cJ cZ oA rA Γ) g_0)) (va_Qv (fun (_ : Unit) => True) (g_Bo (dC, dI) (va_A (b_g cB cC cI cJ cZ oA rA Γ ++ b_w cB cC cI cJ cZ oA rA Γ ++ b_c cB cC cI cJ cZ oA rA Γ) sz) (fun (_ : Unit) => (b_g cB cC cI cJ cZ oA rA res.2 ++ b_w cB cC cI cJ cZ oA rA res.2 ++ b_c cB cC cI cJ cZ oA rA res.2))) (va_A (b_g cB cC cI cJ cZ oA rA Γ ++ b_w cB cC cI cJ cZ oA rA Γ ++ b_c cB cC cI cJ cZ oA rA Γ) sz)) 0 0 (va_A (b_g cB cC cI cJ cZ oA rA Γ ++ b_w cB cC cI cJ cZ oA rA Γ ++ b_c cB cC cI cJ cZ oA rA Γ) sz)) ∧ (∀ (sz : Nat)  (Γ : HS) (res : Int32 × HS), gB d 1 0 0 0 Γ = some res → Met l yX2_statement (g_ws yX2_statement cX2_statement 2 none) ({ frames := 306 + d, cells := 0, slots := 0, locals := 6746 + 22 * d }) (va_Pc [.ref (oA 2)] (g_B (dC, dI) [(cB, .byte), (cC, .char), (cI, .int), (cJ, .long), (cZ, .boolean), (cP, .object "StoryHouse$Play")] sz (b_g cB cC cI cJ cZ oA rA Γ ++ b_w cB cC cI cJ cZ oA rA Γ ++ b_c cB cC cI cJ cZ oA rA Γ) g_0)) (va_Qv (fun (_ : Unit) => True) (g_Bo (dC, dI) (va_A (b_g cB cC cI cJ cZ oA rA Γ ++ b_w cB cC cI cJ cZ oA rA Γ ++ b_c cB cC cI cJ cZ oA rA Γ) sz) (fun (_ : Unit) => (b_g cB cC cI cJ cZ oA rA res.2 ++ b_w cB cC cI cJ cZ oA rA res.2 ++ b_c cB cC cI cJ cZ oA rA res.2))) (va_A (b_g cB cC cI cJ cZ oA rA Γ ++ b_w cB cC cI cJ cZ oA rA Γ ++ b_c cB cC cI cJ cZ oA rA Γ) sz)) 0 0 (va_A (b_g cB cC cI cJ cZ oA rA Γ ++ b_w cB cC cI cJ cZ oA rA Γ ++ b_c cB cC cI cJ cZ oA rA Γ) sz)) ∧ (∀ (sz : Nat)  (Γ : HS) (res : Int32 × HS), gB d 2 0 0 0 Γ = some res → Met l yX2_ifStatement (g_ws yX2_ifStatement cX2_ifStatement 3 none) ({ frames := 306 + d, cells := 0, slots := 0, locals := 6746 + 22 * d }) (va_Pc [.ref (oA 2)] (g_B (dC, dI) [(cB, .byte), (cC, .char), (cI, .int), (cJ, .long), (cZ, .boolean), (cP, .object "StoryHouse$Play")] sz (b_g cB cC cI cJ cZ oA rA Γ ++ b_w cB cC cI cJ cZ oA rA Γ ++ b_c cB cC cI cJ cZ oA rA Γ) g_0)) (va_Qv (fun (_ : Unit) => True) (g_Bo (dC, dI) (va_A (b_g cB cC cI cJ cZ oA rA Γ ++ b_w cB cC cI cJ cZ oA rA Γ ++ b_c cB cC cI cJ cZ oA rA Γ) sz) (fun (_ : Unit) => (b_g cB cC cI cJ cZ oA rA res.2 ++ b_w cB cC cI cJ cZ oA rA res.2 ++ b_c cB cC cI cJ cZ oA rA res.2))) (va_A (b_g cB cC cI cJ cZ oA rA Γ ++ b_w cB cC cI cJ cZ oA rA Γ ++ b_c cB cC cI cJ cZ oA rA Γ) sz)) 0 0 (va_A (b_g cB cC cI cJ cZ oA rA Γ ++ b_w cB cC cI cJ cZ oA rA Γ ++ b_c cB cC cI cJ cZ oA rA Γ) sz)) ∧ (∀ (sz : Nat)  (Γ : HS) (res : Int32 × HS), gB d 3 0 0 0 Γ = some res → Met l yX2_whileStatement (g_ws yX2_whileStatement cX2_whileStatement 3 none) ({ frames := 306 + d, cells := 0, slots := 0, locals := 6746 + 22 * d }) (va_Pc [.ref (oA 2)] (g_B (dC, dI) [(cB, .byte), (cC, .char), (cI, .int), (cJ, .long), (cZ, .boolean), (cP, .object "StoryHouse$Play")] sz (b_g cB cC cI cJ cZ oA rA Γ ++ b_w cB cC cI cJ cZ oA rA Γ ++ b_c cB cC cI cJ cZ oA rA Γ) g_0)) (va_Qv (fun (_ : Unit) => True) (g_Bo (dC, dI) (va_A (b_g cB cC cI cJ cZ oA rA Γ ++ b_w cB cC cI cJ cZ oA rA Γ ++ b_c cB cC cI cJ cZ oA rA Γ) sz) (fun (_ : Unit) => (b_g cB cC cI cJ cZ oA rA res.2 ++ b_w cB cC cI cJ cZ oA rA res.2 ++ b_c cB cC cI cJ cZ oA rA res.2))) (va_A (b_g cB cC cI cJ cZ oA rA Γ ++ b_w cB cC cI cJ cZ oA rA Γ ++ b_c cB cC cI cJ cZ oA rA Γ) sz)) 0 0 (va_A (b_g cB cC cI cJ cZ oA rA Γ ++ b_w cB cC cI cJ cZ oA rA Γ ++ b_c cB cC cI cJ cZ oA rA Γ) sz)) := by
  intro d
  induction d with
  | zero => exact ⟨(fun sz  Γ res hz => by cases hz), (fun sz  Γ res hz => by cases hz), (fun sz  Γ res hz => by cases hz), (fun sz  Γ res hz => by cases hz)⟩
  | succ d ih =>
    obtain ⟨hI0, hI1, hI2, hI3⟩ := ih
    exact ⟨(fun sz  Γ res hF => k_X2_block_st l dC dI cB cC cI cJ cZ cP oA rA d (gB d) hI0 hI1 hI2 hI3 sz  Γ res ((gB_0 d 0 0 0 Γ).symm.trans hF)), (fun sz  Γ res hF => k_X2_statement_st l dC dI cB cC cI cJ cZ cP oA rA d (gB d) hI0 hI1 hI2 hI3 sz  Γ res ((gB_1 d 0 0 0 Γ).symm.trans hF)), (fun sz  Γ res hF => k_X2_ifStatement_st l dC dI cB cC cI cJ cZ cP oA rA d (gB d) hI0 hI1 hI2 hI3 sz  Γ res ((gB_2 d 0 0 0 Γ).symm.trans hF)), (fun sz  Γ res hF => k_X2_whileStatement_st l dC dI cB cC cI cJ cZ cP oA rA d (gB d) hI0 hI1 hI2 hI3 sz  Γ res ((gB_3 d 0 0 0 Γ).symm.trans hF))⟩

def G_X2_block  (Γ : HS) : HR := gB 100 0 0 0 0 Γ
theorem k_X2_block (l : Launch) (dC : Nat → ClassId) (dI : Nat → Nat → Nat) (cB cC cI cJ cZ cP : ClassId) (oA : Nat → Nat) (rA : Nat → Nat → Nat) : ∀ (sz : Nat)  (Γ : HS) (res : Int32 × HS), G_X2_block  Γ = some res → Met l yX2_block (g_ws yX2_block cX2_block 2 none) ({ frames := 406, cells := 0, slots := 0, locals := 8946 }) (va_Pc [.ref (oA 2)] (g_B (dC, dI) [(cB, .byte), (cC, .char), (cI, .int), (cJ, .long), (cZ, .boolean), (cP, .object "StoryHouse$Play")] sz (b_g cB cC cI cJ cZ oA rA Γ ++ b_w cB cC cI cJ cZ oA rA Γ ++ b_c cB cC cI cJ cZ oA rA Γ) g_0)) (va_Qv (fun (_ : Unit) => True) (g_Bo (dC, dI) (va_A (b_g cB cC cI cJ cZ oA rA Γ ++ b_w cB cC cI cJ cZ oA rA Γ ++ b_c cB cC cI cJ cZ oA rA Γ) sz) (fun (_ : Unit) => (b_g cB cC cI cJ cZ oA rA res.2 ++ b_w cB cC cI cJ cZ oA rA res.2 ++ b_c cB cC cI cJ cZ oA rA res.2))) (va_A (b_g cB cC cI cJ cZ oA rA Γ ++ b_w cB cC cI cJ cZ oA rA Γ ++ b_c cB cC cI cJ cZ oA rA Γ) sz)) 0 0 (va_A (b_g cB cC cI cJ cZ oA rA Γ ++ b_w cB cC cI cJ cZ oA rA Γ ++ b_c cB cC cI cJ cZ oA rA Γ) sz) := (gB_all l dC dI cB cC cI cJ cZ cP oA rA 100).1

def G_X2_statement  (Γ : HS) : HR := gB 100 1 0 0 0 Γ
theorem k_X2_statement (l : Launch) (dC : Nat → ClassId) (dI : Nat → Nat → Nat) (cB cC cI cJ cZ cP : ClassId) (oA : Nat → Nat) (rA : Nat → Nat → Nat) : ∀ (sz : Nat)  (Γ : HS) (res : Int32 × HS), G_X2_statement  Γ = some res → Met l yX2_statement (g_ws yX2_statement cX2_statement 2 none) ({ frames := 406, cells := 0, slots := 0, locals := 8946 }) (va_Pc [.ref (oA 2)] (g_B (dC, dI) [(cB, .byte), (cC, .char), (cI, .int), (cJ, .long), (cZ, .boolean), (cP, .object "StoryHouse$Play")] sz (b_g cB cC cI cJ cZ oA rA Γ ++ b_w cB cC cI cJ cZ oA rA Γ ++ b_c cB cC cI cJ cZ oA rA Γ) g_0)) (va_Qv (fun (_ : Unit) => True) (g_Bo (dC, dI) (va_A (b_g cB cC cI cJ cZ oA rA Γ ++ b_w cB cC cI cJ cZ oA rA Γ ++ b_c cB cC cI cJ cZ oA rA Γ) sz) (fun (_ : Unit) => (b_g cB cC cI cJ cZ oA rA res.2 ++ b_w cB cC cI cJ cZ oA rA res.2 ++ b_c cB cC cI cJ cZ oA rA res.2))) (va_A (b_g cB cC cI cJ cZ oA rA Γ ++ b_w cB cC cI cJ cZ oA rA Γ ++ b_c cB cC cI cJ cZ oA rA Γ) sz)) 0 0 (va_A (b_g cB cC cI cJ cZ oA rA Γ ++ b_w cB cC cI cJ cZ oA rA Γ ++ b_c cB cC cI cJ cZ oA rA Γ) sz) := (gB_all l dC dI cB cC cI cJ cZ cP oA rA 100).2.1

def G_X2_ifStatement  (Γ : HS) : HR := gB 100 2 0 0 0 Γ
theorem k_X2_ifStatement (l : Launch) (dC : Nat → ClassId) (dI : Nat → Nat → Nat) (cB cC cI cJ cZ cP : ClassId) (oA : Nat → Nat) (rA : Nat → Nat → Nat) : ∀ (sz : Nat)  (Γ : HS) (res : Int32 × HS), G_X2_ifStatement  Γ = some res → Met l yX2_ifStatement (g_ws yX2_ifStatement cX2_ifStatement 3 none) ({ frames := 406, cells := 0, slots := 0, locals := 8946 }) (va_Pc [.ref (oA 2)] (g_B (dC, dI) [(cB, .byte), (cC, .char), (cI, .int), (cJ, .long), (cZ, .boolean), (cP, .object "StoryHouse$Play")] sz (b_g cB cC cI cJ cZ oA rA Γ ++ b_w cB cC cI cJ cZ oA rA Γ ++ b_c cB cC cI cJ cZ oA rA Γ) g_0)) (va_Qv (fun (_ : Unit) => True) (g_Bo (dC, dI) (va_A (b_g cB cC cI cJ cZ oA rA Γ ++ b_w cB cC cI cJ cZ oA rA Γ ++ b_c cB cC cI cJ cZ oA rA Γ) sz) (fun (_ : Unit) => (b_g cB cC cI cJ cZ oA rA res.2 ++ b_w cB cC cI cJ cZ oA rA res.2 ++ b_c cB cC cI cJ cZ oA rA res.2))) (va_A (b_g cB cC cI cJ cZ oA rA Γ ++ b_w cB cC cI cJ cZ oA rA Γ ++ b_c cB cC cI cJ cZ oA rA Γ) sz)) 0 0 (va_A (b_g cB cC cI cJ cZ oA rA Γ ++ b_w cB cC cI cJ cZ oA rA Γ ++ b_c cB cC cI cJ cZ oA rA Γ) sz) := (gB_all l dC dI cB cC cI cJ cZ cP oA rA 100).2.2.1

def G_X2_whileStatement  (Γ : HS) : HR := gB 100 3 0 0 0 Γ
theorem k_X2_whileStatement (l : Launch) (dC : Nat → ClassId) (dI : Nat → Nat → Nat) (cB cC cI cJ cZ cP : ClassId) (oA : Nat → Nat) (rA : Nat → Nat → Nat) : ∀ (sz : Nat)  (Γ : HS) (res : Int32 × HS), G_X2_whileStatement  Γ = some res → Met l yX2_whileStatement (g_ws yX2_whileStatement cX2_whileStatement 3 none) ({ frames := 406, cells := 0, slots := 0, locals := 8946 }) (va_Pc [.ref (oA 2)] (g_B (dC, dI) [(cB, .byte), (cC, .char), (cI, .int), (cJ, .long), (cZ, .boolean), (cP, .object "StoryHouse$Play")] sz (b_g cB cC cI cJ cZ oA rA Γ ++ b_w cB cC cI cJ cZ oA rA Γ ++ b_c cB cC cI cJ cZ oA rA Γ) g_0)) (va_Qv (fun (_ : Unit) => True) (g_Bo (dC, dI) (va_A (b_g cB cC cI cJ cZ oA rA Γ ++ b_w cB cC cI cJ cZ oA rA Γ ++ b_c cB cC cI cJ cZ oA rA Γ) sz) (fun (_ : Unit) => (b_g cB cC cI cJ cZ oA rA res.2 ++ b_w cB cC cI cJ cZ oA rA res.2 ++ b_c cB cC cI cJ cZ oA rA res.2))) (va_A (b_g cB cC cI cJ cZ oA rA Γ ++ b_w cB cC cI cJ cZ oA rA Γ ++ b_c cB cC cI cJ cZ oA rA Γ) sz)) 0 0 (va_A (b_g cB cC cI cJ cZ oA rA Γ ++ b_w cB cC cI cJ cZ oA rA Γ ++ b_c cB cC cI cJ cZ oA rA Γ) sz) := (gB_all l dC dI cB cC cI cJ cZ cP oA rA 100).2.2.2
