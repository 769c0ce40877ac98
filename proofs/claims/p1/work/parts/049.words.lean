/-! the words of an empty source -/
theorem g_inL {i N : Int32} {n : Nat} (hN : N.toInt = n) (h0 : ¬ i < 0) (h : ¬ N ≤ i) : vp_in i n := by
  rw [vp_in_iff]
  have e0 : (0 : Int32).toInt = 0 := by decide +kernel
  rw [Int32.lt_iff_toInt_lt, e0] at h0
  rw [Int32.le_iff_toInt_le, hN] at h
  omega
theorem g_inLt {i N : Int32} {n : Nat} (hN : N.toInt = n) (h0 : ¬ i < 0) (h : i < N) : vp_in i n := g_inL hN h0 (Int32.not_le.mpr h)
theorem g_mu2 {i n x : Int32} (hn : n < 100) (hi : ¬ n < i) (e : x = i + 1) : (n.toInt + 1 - x.toInt).toNat < (n.toInt + 1 - i.toInt).toNat := by
  rw [Int32.lt_iff_toInt_lt] at hi hn
  have h2 := Int32.le_toInt i
  have e1 : (1 : Int32).toInt = 1 := by decide +kernel
  have e100 : (100 : Int32).toInt = 100 := by decide +kernel
  rw [e100] at hn
  rw [e, Int32.toInt_add, e1, Int.bmod_eq_of_le (by omega) (by omega)]
  omega
theorem g_nIt {k : Nat} (h : k < 2 ^ 31) : (nI k).toNatClampNeg = k := nI_clamp h
theorem g_fl {x : Int32} {k n : Nat} (ex : x = nI k) (hk : k ≤ n) (hn : n < 2 ^ 31) (h : ¬ Int32.ofNat n ≤ x) : k + 1 ≤ n := by
  rw [ex, Int32.le_iff_toInt_le, show (Int32.ofNat n).toInt = n from nI_toInt hn, nI_toInt (by omega)] at h
  omega
theorem g_fe {x : Int32} {k n : Nat} (ex : x = nI k) (hk : k ≤ n) (hn : n < 2 ^ 31) (h : Int32.ofNat n ≤ x) : k = n := by
  rw [ex, Int32.le_iff_toInt_le, show (Int32.ofNat n).toInt = n from nI_toInt hn, nI_toInt (by omega)] at h
  omega
theorem g_fg {g : Nat → Int32} {k : Nat} {x : Int32} (hg : ∀ j : Nat, j < k → g j = x) (hk : k < 2 ^ 31) : ∀ j : Nat, j < k + 1 → upd g (nI k).toNatClampNeg x j = x := fun j hj => by
  rw [nI_clamp hk]
  rcases Nat.lt_succ_iff_lt_or_eq.mp hj with h | h
  · rw [pk_un (by omega)]; exact hg j h
  · rw [h]; exact pk_us
theorem dJ7_fill_53178_0 : decode cJ7_fill_53178 0 = .ok (.iconst 0, 1) := by decide +kernel
theorem dJ7_fill_53178_1 : decode cJ7_fill_53178 1 = .ok (.istore_n 2, 1) := by decide +kernel
theorem dJ7_fill_53178_2 : decode cJ7_fill_53178 2 = .ok (.aload_n 0, 1) := by decide +kernel
theorem dJ7_fill_53178_3 : decode cJ7_fill_53178 3 = .ok (.arraylength, 1) := by decide +kernel
theorem dJ7_fill_53178_4 : decode cJ7_fill_53178 4 = .ok (.istore_n 3, 1) := by decide +kernel
theorem dJ7_fill_53178_5 : decode cJ7_fill_53178 5 = .ok (.iload_n 2, 1) := by decide +kernel
theorem dJ7_fill_53178_6 : decode cJ7_fill_53178 6 = .ok (.iload_n 3, 1) := by decide +kernel
theorem dJ7_fill_53178_7 : decode cJ7_fill_53178 7 = .ok (.if_icmp .ge 13, 3) := by decide +kernel
theorem dJ7_fill_53178_10 : decode cJ7_fill_53178 10 = .ok (.aload_n 0, 1) := by decide +kernel
theorem dJ7_fill_53178_11 : decode cJ7_fill_53178 11 = .ok (.iload_n 2, 1) := by decide +kernel
theorem dJ7_fill_53178_12 : decode cJ7_fill_53178 12 = .ok (.iload_n 1, 1) := by decide +kernel
theorem dJ7_fill_53178_13 : decode cJ7_fill_53178 13 = .ok (.iastore, 1) := by decide +kernel
theorem dJ7_fill_53178_14 : decode cJ7_fill_53178 14 = .ok (.iinc 2 1, 3) := by decide +kernel
theorem dJ7_fill_53178_17 : decode cJ7_fill_53178 17 = .ok (.goto (-12), 3) := by decide +kernel
theorem dJ7_fill_53178_20 : decode cJ7_fill_53178 20 = .ok (.return_, 1) := by decide +kernel
theorem dX10_rememberName_0 : decode cX10_rememberName 0 = .ok (.aload_n 0, 1) := by decide +kernel
theorem dX10_rememberName_1 : decode cX10_rememberName 1 = .ok (.getfield 63, 3) := by decide +kernel
theorem dX10_rememberName_4 : decode cX10_rememberName 4 = .ok (.aload_n 0, 1) := by decide +kernel
theorem dX10_rememberName_5 : decode cX10_rememberName 5 = .ok (.getfield 31, 3) := by decide +kernel
theorem dX10_rememberName_8 : decode cX10_rememberName 8 = .ok (.arraylength, 1) := by decide +kernel
theorem dX10_rememberName_9 : decode cX10_rememberName 9 = .ok (.if_icmp .lt 5, 3) := by decide +kernel
theorem dX10_rememberName_12 : decode cX10_rememberName 12 = .ok (.iconst 0, 1) := by decide +kernel
theorem dX10_rememberName_13 : decode cX10_rememberName 13 = .ok (.ireturn, 1) := by decide +kernel
theorem dX10_rememberName_14 : decode cX10_rememberName 14 = .ok (.aload_n 0, 1) := by decide +kernel
theorem dX10_rememberName_15 : decode cX10_rememberName 15 = .ok (.getfield 31, 3) := by decide +kernel
theorem dX10_rememberName_18 : decode cX10_rememberName 18 = .ok (.aload_n 0, 1) := by decide +kernel
theorem dX10_rememberName_19 : decode cX10_rememberName 19 = .ok (.getfield 63, 3) := by decide +kernel
theorem dX10_rememberName_22 : decode cX10_rememberName 22 = .ok (.lload_n 2, 1) := by decide +kernel
theorem dX10_rememberName_23 : decode cX10_rememberName 23 = .ok (.lastore, 1) := by decide +kernel
theorem dX10_rememberName_24 : decode cX10_rememberName 24 = .ok (.aload_n 0, 1) := by decide +kernel
theorem dX10_rememberName_25 : decode cX10_rememberName 25 = .ok (.dup, 1) := by decide +kernel
theorem dX10_rememberName_26 : decode cX10_rememberName 26 = .ok (.getfield 63, 3) := by decide +kernel
theorem dX10_rememberName_29 : decode cX10_rememberName 29 = .ok (.iconst 1, 1) := by decide +kernel
theorem dX10_rememberName_30 : decode cX10_rememberName 30 = .ok (.iadd, 1) := by decide +kernel
theorem dX10_rememberName_31 : decode cX10_rememberName 31 = .ok (.putfield 63, 3) := by decide +kernel
theorem dX10_rememberName_34 : decode cX10_rememberName 34 = .ok (.aload_n 0, 1) := by decide +kernel
theorem dX10_rememberName_35 : decode cX10_rememberName 35 = .ok (.getfield 35, 3) := by decide +kernel
theorem dX10_rememberName_38 : decode cX10_rememberName 38 = .ok (.iload_n 1, 1) := by decide +kernel
theorem dX10_rememberName_39 : decode cX10_rememberName 39 = .ok (.aload_n 0, 1) := by decide +kernel
theorem dX10_rememberName_40 : decode cX10_rememberName 40 = .ok (.getfield 63, 3) := by decide +kernel
theorem dX10_rememberName_43 : decode cX10_rememberName 43 = .ok (.invokestatic 109, 3) := by decide +kernel
theorem dX10_rememberName_46 : decode cX10_rememberName 46 = .ok (.aload_n 0, 1) := by decide +kernel
theorem dX10_rememberName_47 : decode cX10_rememberName 47 = .ok (.getfield 63, 3) := by decide +kernel
theorem dX10_rememberName_50 : decode cX10_rememberName 50 = .ok (.iconst 1, 1) := by decide +kernel
theorem dX10_rememberName_51 : decode cX10_rememberName 51 = .ok (.isub, 1) := by decide +kernel
theorem dX10_rememberName_52 : decode cX10_rememberName 52 = .ok (.ireturn, 1) := by decide +kernel
theorem dX10_numberOf_0 : decode cX10_numberOf 0 = .ok (.lload_n 1, 1) := by decide +kernel
theorem dX10_numberOf_1 : decode cX10_numberOf 1 = .ok (.ldc2_w 103, 3) := by decide +kernel
theorem dX10_numberOf_4 : decode cX10_numberOf 4 = .ok (.lmul, 1) := by decide +kernel
theorem dX10_numberOf_5 : decode cX10_numberOf 5 = .ok (.bipush 40, 2) := by decide +kernel
theorem dX10_numberOf_7 : decode cX10_numberOf 7 = .ok (.lushr, 1) := by decide +kernel
theorem dX10_numberOf_8 : decode cX10_numberOf 8 = .ok (.l2i, 1) := by decide +kernel
theorem dX10_numberOf_9 : decode cX10_numberOf 9 = .ok (.sipush 8191, 3) := by decide +kernel
theorem dX10_numberOf_12 : decode cX10_numberOf 12 = .ok (.iand, 1) := by decide +kernel
theorem dX10_numberOf_13 : decode cX10_numberOf 13 = .ok (.istore_n 3, 1) := by decide +kernel
theorem dX10_numberOf_14 : decode cX10_numberOf 14 = .ok (.iconst 0, 1) := by decide +kernel
theorem dX10_numberOf_15 : decode cX10_numberOf 15 = .ok (.istore 4, 2) := by decide +kernel
theorem dX10_numberOf_17 : decode cX10_numberOf 17 = .ok (.iload 4, 2) := by decide +kernel
theorem dX10_numberOf_19 : decode cX10_numberOf 19 = .ok (.sipush 8192, 3) := by decide +kernel
theorem dX10_numberOf_22 : decode cX10_numberOf 22 = .ok (.if_icmp .ge 70, 3) := by decide +kernel
theorem dX10_numberOf_25 : decode cX10_numberOf 25 = .ok (.iload_n 3, 1) := by decide +kernel
theorem dX10_numberOf_26 : decode cX10_numberOf 26 = .ok (.iload 4, 2) := by decide +kernel
theorem dX10_numberOf_28 : decode cX10_numberOf 28 = .ok (.iadd, 1) := by decide +kernel
theorem dX10_numberOf_29 : decode cX10_numberOf 29 = .ok (.sipush 8191, 3) := by decide +kernel
theorem dX10_numberOf_32 : decode cX10_numberOf 32 = .ok (.iand, 1) := by decide +kernel
theorem dX10_numberOf_33 : decode cX10_numberOf 33 = .ok (.istore 5, 2) := by decide +kernel
theorem dX10_numberOf_35 : decode cX10_numberOf 35 = .ok (.aload_n 0, 1) := by decide +kernel
theorem dX10_numberOf_36 : decode cX10_numberOf 36 = .ok (.getfield 35, 3) := by decide +kernel
theorem dX10_numberOf_39 : decode cX10_numberOf 39 = .ok (.iload 5, 2) := by decide +kernel
theorem dX10_numberOf_41 : decode cX10_numberOf 41 = .ok (.invokestatic 97, 3) := by decide +kernel
theorem dX10_numberOf_44 : decode cX10_numberOf 44 = .ok (.iconst 1, 1) := by decide +kernel
theorem dX10_numberOf_45 : decode cX10_numberOf 45 = .ok (.isub, 1) := by decide +kernel
theorem dX10_numberOf_46 : decode cX10_numberOf 46 = .ok (.istore 6, 2) := by decide +kernel
theorem dX10_numberOf_48 : decode cX10_numberOf 48 = .ok (.iload 6, 2) := by decide +kernel
theorem dX10_numberOf_50 : decode cX10_numberOf 50 = .ok (.ifCond .ge 11, 3) := by decide +kernel
theorem dX10_numberOf_53 : decode cX10_numberOf 53 = .ok (.aload_n 0, 1) := by decide +kernel
theorem dX10_numberOf_54 : decode cX10_numberOf 54 = .ok (.iload 5, 2) := by decide +kernel
theorem dX10_numberOf_56 : decode cX10_numberOf 56 = .ok (.lload_n 1, 1) := by decide +kernel
theorem dX10_numberOf_57 : decode cX10_numberOf 57 = .ok (.invokevirtual 105, 3) := by decide +kernel
theorem dX10_numberOf_60 : decode cX10_numberOf 60 = .ok (.ireturn, 1) := by decide +kernel
theorem dX10_numberOf_61 : decode cX10_numberOf 61 = .ok (.iload 6, 2) := by decide +kernel
theorem dX10_numberOf_63 : decode cX10_numberOf 63 = .ok (.aload_n 0, 1) := by decide +kernel
theorem dX10_numberOf_64 : decode cX10_numberOf 64 = .ok (.getfield 31, 3) := by decide +kernel
theorem dX10_numberOf_67 : decode cX10_numberOf 67 = .ok (.arraylength, 1) := by decide +kernel
theorem dX10_numberOf_68 : decode cX10_numberOf 68 = .ok (.if_icmp .ge 18, 3) := by decide +kernel
theorem dX10_numberOf_71 : decode cX10_numberOf 71 = .ok (.aload_n 0, 1) := by decide +kernel
theorem dX10_numberOf_72 : decode cX10_numberOf 72 = .ok (.getfield 31, 3) := by decide +kernel
theorem dX10_numberOf_75 : decode cX10_numberOf 75 = .ok (.iload 6, 2) := by decide +kernel
theorem dX10_numberOf_77 : decode cX10_numberOf 77 = .ok (.laload, 1) := by decide +kernel
theorem dX10_numberOf_78 : decode cX10_numberOf 78 = .ok (.lload_n 1, 1) := by decide +kernel
theorem dX10_numberOf_79 : decode cX10_numberOf 79 = .ok (.lcmp, 1) := by decide +kernel
theorem dX10_numberOf_80 : decode cX10_numberOf 80 = .ok (.ifCond .ne 6, 3) := by decide +kernel
theorem dX10_numberOf_83 : decode cX10_numberOf 83 = .ok (.iload 6, 2) := by decide +kernel
theorem dX10_numberOf_85 : decode cX10_numberOf 85 = .ok (.ireturn, 1) := by decide +kernel
theorem dX10_numberOf_86 : decode cX10_numberOf 86 = .ok (.iinc 4 1, 3) := by decide +kernel
theorem dX10_numberOf_89 : decode cX10_numberOf 89 = .ok (.goto (-72), 3) := by decide +kernel
theorem dX10_numberOf_92 : decode cX10_numberOf 92 = .ok (.iconst 0, 1) := by decide +kernel
theorem dX10_numberOf_93 : decode cX10_numberOf 93 = .ok (.ireturn, 1) := by decide +kernel
theorem dX10_learn_0 : decode cX10_learn 0 = .ok (.iconst 0, 1) := by decide +kernel
theorem dX10_learn_1 : decode cX10_learn 1 = .ok (.istore_n 2, 1) := by decide +kernel
theorem dX10_learn_2 : decode cX10_learn 2 = .ok (.iconst 0, 1) := by decide +kernel
theorem dX10_learn_3 : decode cX10_learn 3 = .ok (.istore_n 3, 1) := by decide +kernel
theorem dX10_learn_4 : decode cX10_learn 4 = .ok (.iload_n 3, 1) := by decide +kernel
theorem dX10_learn_5 : decode cX10_learn 5 = .ok (.aload_n 1, 1) := by decide +kernel
theorem dX10_learn_6 : decode cX10_learn 6 = .ok (.invokevirtual 113, 3) := by decide +kernel
theorem dX10_learn_9 : decode cX10_learn 9 = .ok (.if_icmp .ge 43, 3) := by decide +kernel
theorem dX10_learn_12 : decode cX10_learn 12 = .ok (.iload_n 2, 1) := by decide +kernel
theorem dX10_learn_13 : decode cX10_learn 13 = .ok (.aload_n 1, 1) := by decide +kernel
theorem dX10_learn_14 : decode cX10_learn 14 = .ok (.invokevirtual 113, 3) := by decide +kernel
theorem dX10_learn_17 : decode cX10_learn 17 = .ok (.if_icmp .ge 35, 3) := by decide +kernel
theorem dX10_learn_20 : decode cX10_learn 20 = .ok (.aload_n 1, 1) := by decide +kernel
theorem dX10_learn_21 : decode cX10_learn 21 = .ok (.iload_n 2, 1) := by decide +kernel
theorem dX10_learn_22 : decode cX10_learn 22 = .ok (.invokestatic 118, 3) := by decide +kernel
theorem dX10_learn_25 : decode cX10_learn 25 = .ok (.istore 4, 2) := by decide +kernel
theorem dX10_learn_27 : decode cX10_learn 27 = .ok (.aload_n 0, 1) := by decide +kernel
theorem dX10_learn_28 : decode cX10_learn 28 = .ok (.aload_n 1, 1) := by decide +kernel
theorem dX10_learn_29 : decode cX10_learn 29 = .ok (.iload_n 2, 1) := by decide +kernel
theorem dX10_learn_30 : decode cX10_learn 30 = .ok (.iload 4, 2) := by decide +kernel
theorem dX10_learn_32 : decode cX10_learn 32 = .ok (.bipush 12, 2) := by decide +kernel
theorem dX10_learn_34 : decode cX10_learn 34 = .ok (.invokestatic 122, 3) := by decide +kernel
theorem dX10_learn_37 : decode cX10_learn 37 = .ok (.invokevirtual 126, 3) := by decide +kernel
theorem dX10_learn_40 : decode cX10_learn 40 = .ok (.pop, 1) := by decide +kernel
theorem dX10_learn_41 : decode cX10_learn 41 = .ok (.iload 4, 2) := by decide +kernel
theorem dX10_learn_43 : decode cX10_learn 43 = .ok (.iconst 1, 1) := by decide +kernel
theorem dX10_learn_44 : decode cX10_learn 44 = .ok (.iadd, 1) := by decide +kernel
theorem dX10_learn_45 : decode cX10_learn 45 = .ok (.istore_n 2, 1) := by decide +kernel
theorem dX10_learn_46 : decode cX10_learn 46 = .ok (.iinc 3 1, 3) := by decide +kernel
theorem dX10_learn_49 : decode cX10_learn 49 = .ok (.goto (-45), 3) := by decide +kernel
theorem dX10_learn_52 : decode cX10_learn 52 = .ok (.return_, 1) := by decide +kernel
theorem dX10_skip_0 : decode cX10_skip 0 = .ok (.iconst 0, 1) := by decide +kernel
theorem dX10_skip_1 : decode cX10_skip 1 = .ok (.istore_n 2, 1) := by decide +kernel
theorem dX10_skip_2 : decode cX10_skip 2 = .ok (.iconst 0, 1) := by decide +kernel
theorem dX10_skip_3 : decode cX10_skip 3 = .ok (.iload_n 1, 1) := by decide +kernel
theorem dX10_skip_4 : decode cX10_skip 4 = .ok (.invokestatic 44, 3) := by decide +kernel
theorem dX10_skip_7 : decode cX10_skip 7 = .ok (.istore_n 3, 1) := by decide +kernel
theorem dX10_skip_8 : decode cX10_skip 8 = .ok (.iload_n 3, 1) := by decide +kernel
theorem dX10_skip_9 : decode cX10_skip 9 = .ok (.aload_n 0, 1) := by decide +kernel
theorem dX10_skip_10 : decode cX10_skip 10 = .ok (.getfield 47, 3) := by decide +kernel
theorem dX10_skip_13 : decode cX10_skip 13 = .ok (.if_icmp .ge 63, 3) := by decide +kernel
theorem dX10_skip_16 : decode cX10_skip 16 = .ok (.iload_n 3, 1) := by decide +kernel
theorem dX10_skip_17 : decode cX10_skip 17 = .ok (.aload_n 0, 1) := by decide +kernel
theorem dX10_skip_18 : decode cX10_skip 18 = .ok (.getfield 9, 3) := by decide +kernel
theorem dX10_skip_21 : decode cX10_skip 21 = .ok (.arraylength, 1) := by decide +kernel
theorem dX10_skip_22 : decode cX10_skip 22 = .ok (.if_icmp .ge 54, 3) := by decide +kernel
theorem dX10_skip_25 : decode cX10_skip 25 = .ok (.aload_n 0, 1) := by decide +kernel
theorem dX10_skip_26 : decode cX10_skip 26 = .ok (.getfield 9, 3) := by decide +kernel
theorem dX10_skip_29 : decode cX10_skip 29 = .ok (.iload_n 3, 1) := by decide +kernel
theorem dX10_skip_30 : decode cX10_skip 30 = .ok (.baload, 1) := by decide +kernel
theorem dX10_skip_31 : decode cX10_skip 31 = .ok (.istore 4, 2) := by decide +kernel
theorem dX10_skip_33 : decode cX10_skip 33 = .ok (.iload 4, 2) := by decide +kernel
theorem dX10_skip_35 : decode cX10_skip 35 = .ok (.bipush 10, 2) := by decide +kernel
theorem dX10_skip_37 : decode cX10_skip 37 = .ok (.if_icmp .ne 8, 3) := by decide +kernel
theorem dX10_skip_40 : decode cX10_skip 40 = .ok (.iconst 0, 1) := by decide +kernel
theorem dX10_skip_41 : decode cX10_skip 41 = .ok (.istore_n 2, 1) := by decide +kernel
theorem dX10_skip_42 : decode cX10_skip 42 = .ok (.goto 28, 3) := by decide +kernel
theorem dX10_skip_45 : decode cX10_skip 45 = .ok (.iload 4, 2) := by decide +kernel
theorem dX10_skip_47 : decode cX10_skip 47 = .ok (.bipush 35, 2) := by decide +kernel
theorem dX10_skip_49 : decode cX10_skip 49 = .ok (.if_icmp .ne 8, 3) := by decide +kernel
theorem dX10_skip_52 : decode cX10_skip 52 = .ok (.iconst 1, 1) := by decide +kernel
theorem dX10_skip_53 : decode cX10_skip 53 = .ok (.istore_n 2, 1) := by decide +kernel
theorem dX10_skip_54 : decode cX10_skip 54 = .ok (.goto 16, 3) := by decide +kernel
theorem dX10_skip_57 : decode cX10_skip 57 = .ok (.iload 4, 2) := by decide +kernel
theorem dX10_skip_59 : decode cX10_skip 59 = .ok (.bipush 32, 2) := by decide +kernel
theorem dX10_skip_61 : decode cX10_skip 61 = .ok (.if_icmp .eq 9, 3) := by decide +kernel
theorem dX10_skip_64 : decode cX10_skip 64 = .ok (.iload_n 2, 1) := by decide +kernel
theorem dX10_skip_65 : decode cX10_skip 65 = .ok (.ifCond .ne 5, 3) := by decide +kernel
theorem dX10_skip_68 : decode cX10_skip 68 = .ok (.iload_n 3, 1) := by decide +kernel
theorem dX10_skip_69 : decode cX10_skip 69 = .ok (.ireturn, 1) := by decide +kernel
theorem dX10_skip_70 : decode cX10_skip 70 = .ok (.iinc 3 1, 3) := by decide +kernel
theorem dX10_skip_73 : decode cX10_skip 73 = .ok (.goto (-65), 3) := by decide +kernel
theorem dX10_skip_76 : decode cX10_skip 76 = .ok (.aload_n 0, 1) := by decide +kernel
theorem dX10_skip_77 : decode cX10_skip 77 = .ok (.getfield 47, 3) := by decide +kernel
theorem dX10_skip_80 : decode cX10_skip 80 = .ok (.ireturn, 1) := by decide +kernel
theorem dX10_add_0 : decode cX10_add 0 = .ok (.aload_n 0, 1) := by decide +kernel
theorem dX10_add_1 : decode cX10_add 1 = .ok (.getfield 57, 3) := by decide +kernel
theorem dX10_add_4 : decode cX10_add 4 = .ok (.ifCond .lt 83, 3) := by decide +kernel
theorem dX10_add_7 : decode cX10_add 7 = .ok (.aload_n 0, 1) := by decide +kernel
theorem dX10_add_8 : decode cX10_add 8 = .ok (.getfield 57, 3) := by decide +kernel
theorem dX10_add_11 : decode cX10_add 11 = .ok (.aload_n 0, 1) := by decide +kernel
theorem dX10_add_12 : decode cX10_add 12 = .ok (.getfield 15, 3) := by decide +kernel
theorem dX10_add_15 : decode cX10_add 15 = .ok (.arraylength, 1) := by decide +kernel
theorem dX10_add_16 : decode cX10_add 16 = .ok (.if_icmp .ge 71, 3) := by decide +kernel
theorem dX10_add_19 : decode cX10_add 19 = .ok (.aload_n 0, 1) := by decide +kernel
theorem dX10_add_20 : decode cX10_add 20 = .ok (.getfield 15, 3) := by decide +kernel
theorem dX10_add_23 : decode cX10_add 23 = .ok (.aload_n 0, 1) := by decide +kernel
theorem dX10_add_24 : decode cX10_add 24 = .ok (.getfield 57, 3) := by decide +kernel
theorem dX10_add_27 : decode cX10_add 27 = .ok (.iload_n 1, 1) := by decide +kernel
theorem dX10_add_28 : decode cX10_add 28 = .ok (.iastore, 1) := by decide +kernel
theorem dX10_add_29 : decode cX10_add 29 = .ok (.aload_n 0, 1) := by decide +kernel
theorem dX10_add_30 : decode cX10_add 30 = .ok (.getfield 19, 3) := by decide +kernel
theorem dX10_add_33 : decode cX10_add 33 = .ok (.aload_n 0, 1) := by decide +kernel
theorem dX10_add_34 : decode cX10_add 34 = .ok (.getfield 57, 3) := by decide +kernel
theorem dX10_add_37 : decode cX10_add 37 = .ok (.iload_n 2, 1) := by decide +kernel
theorem dX10_add_38 : decode cX10_add 38 = .ok (.invokestatic 109, 3) := by decide +kernel
theorem dX10_add_41 : decode cX10_add 41 = .ok (.aload_n 0, 1) := by decide +kernel
theorem dX10_add_42 : decode cX10_add 42 = .ok (.getfield 22, 3) := by decide +kernel
theorem dX10_add_45 : decode cX10_add 45 = .ok (.aload_n 0, 1) := by decide +kernel
theorem dX10_add_46 : decode cX10_add 46 = .ok (.getfield 57, 3) := by decide +kernel
theorem dX10_add_49 : decode cX10_add 49 = .ok (.iload_n 3, 1) := by decide +kernel
theorem dX10_add_50 : decode cX10_add 50 = .ok (.invokestatic 109, 3) := by decide +kernel
theorem dX10_add_53 : decode cX10_add 53 = .ok (.aload_n 0, 1) := by decide +kernel
theorem dX10_add_54 : decode cX10_add 54 = .ok (.getfield 25, 3) := by decide +kernel
theorem dX10_add_57 : decode cX10_add 57 = .ok (.aload_n 0, 1) := by decide +kernel
theorem dX10_add_58 : decode cX10_add 58 = .ok (.getfield 57, 3) := by decide +kernel
theorem dX10_add_61 : decode cX10_add 61 = .ok (.iconst 0, 1) := by decide +kernel
theorem dX10_add_62 : decode cX10_add 62 = .ok (.invokestatic 109, 3) := by decide +kernel
theorem dX10_add_65 : decode cX10_add 65 = .ok (.aload_n 0, 1) := by decide +kernel
theorem dX10_add_66 : decode cX10_add 66 = .ok (.getfield 28, 3) := by decide +kernel
theorem dX10_add_69 : decode cX10_add 69 = .ok (.aload_n 0, 1) := by decide +kernel
theorem dX10_add_70 : decode cX10_add 70 = .ok (.getfield 57, 3) := by decide +kernel
theorem dX10_add_73 : decode cX10_add 73 = .ok (.iconst 0, 1) := by decide +kernel
theorem dX10_add_74 : decode cX10_add 74 = .ok (.invokestatic 109, 3) := by decide +kernel
theorem dX10_add_77 : decode cX10_add 77 = .ok (.aload_n 0, 1) := by decide +kernel
theorem dX10_add_78 : decode cX10_add 78 = .ok (.dup, 1) := by decide +kernel
theorem dX10_add_79 : decode cX10_add 79 = .ok (.getfield 57, 3) := by decide +kernel
theorem dX10_add_82 : decode cX10_add 82 = .ok (.iconst 1, 1) := by decide +kernel
theorem dX10_add_83 : decode cX10_add 83 = .ok (.iadd, 1) := by decide +kernel
theorem dX10_add_84 : decode cX10_add 84 = .ok (.putfield 57, 3) := by decide +kernel
theorem dX10_add_87 : decode cX10_add 87 = .ok (.iload_n 2, 1) := by decide +kernel
theorem dX10_add_88 : decode cX10_add 88 = .ok (.ireturn, 1) := by decide +kernel
theorem dX10_cut_0 : decode cX10_cut 0 = .ok (.aload_n 0, 1) := by decide +kernel
theorem dX10_cut_1 : decode cX10_cut 1 = .ok (.iconst 0, 1) := by decide +kernel
theorem dX10_cut_2 : decode cX10_cut 2 = .ok (.iload_n 2, 1) := by decide +kernel
theorem dX10_cut_3 : decode cX10_cut 3 = .ok (.aload_n 1, 1) := by decide +kernel
theorem dX10_cut_4 : decode cX10_cut 4 = .ok (.arraylength, 1) := by decide +kernel
theorem dX10_cut_5 : decode cX10_cut 5 = .ok (.aload_n 0, 1) := by decide +kernel
theorem dX10_cut_6 : decode cX10_cut 6 = .ok (.getfield 9, 3) := by decide +kernel
theorem dX10_cut_9 : decode cX10_cut 9 = .ok (.arraylength, 1) := by decide +kernel
theorem dX10_cut_10 : decode cX10_cut 10 = .ok (.invokestatic 38, 3) := by decide +kernel
theorem dX10_cut_13 : decode cX10_cut 13 = .ok (.invokestatic 38, 3) := by decide +kernel
theorem dX10_cut_16 : decode cX10_cut 16 = .ok (.invokestatic 44, 3) := by decide +kernel
theorem dX10_cut_19 : decode cX10_cut 19 = .ok (.putfield 47, 3) := by decide +kernel
theorem dX10_cut_22 : decode cX10_cut 22 = .ok (.aload_n 1, 1) := by decide +kernel
theorem dX10_cut_23 : decode cX10_cut 23 = .ok (.iconst 0, 1) := by decide +kernel
theorem dX10_cut_24 : decode cX10_cut 24 = .ok (.aload_n 0, 1) := by decide +kernel
theorem dX10_cut_25 : decode cX10_cut 25 = .ok (.getfield 9, 3) := by decide +kernel
theorem dX10_cut_28 : decode cX10_cut 28 = .ok (.iconst 0, 1) := by decide +kernel
theorem dX10_cut_29 : decode cX10_cut 29 = .ok (.aload_n 0, 1) := by decide +kernel
theorem dX10_cut_30 : decode cX10_cut 30 = .ok (.getfield 47, 3) := by decide +kernel
theorem dX10_cut_33 : decode cX10_cut 33 = .ok (.invokestatic 51, 3) := by decide +kernel
theorem dX10_cut_36 : decode cX10_cut 36 = .ok (.aload_n 0, 1) := by decide +kernel
theorem dX10_cut_37 : decode cX10_cut 37 = .ok (.iconst 0, 1) := by decide +kernel
theorem dX10_cut_38 : decode cX10_cut 38 = .ok (.putfield 57, 3) := by decide +kernel
theorem dX10_cut_41 : decode cX10_cut 41 = .ok (.aload_n 0, 1) := by decide +kernel
theorem dX10_cut_42 : decode cX10_cut 42 = .ok (.iconst 0, 1) := by decide +kernel
theorem dX10_cut_43 : decode cX10_cut 43 = .ok (.putfield 60, 3) := by decide +kernel
theorem dX10_cut_46 : decode cX10_cut 46 = .ok (.aload_n 0, 1) := by decide +kernel
theorem dX10_cut_47 : decode cX10_cut 47 = .ok (.iconst 0, 1) := by decide +kernel
theorem dX10_cut_48 : decode cX10_cut 48 = .ok (.putfield 63, 3) := by decide +kernel
theorem dX10_cut_51 : decode cX10_cut 51 = .ok (.aload_n 0, 1) := by decide +kernel
theorem dX10_cut_52 : decode cX10_cut 52 = .ok (.getfield 35, 3) := by decide +kernel
theorem dX10_cut_55 : decode cX10_cut 55 = .ok (.iconst 0, 1) := by decide +kernel
theorem dX10_cut_56 : decode cX10_cut 56 = .ok (.invokestatic 66, 3) := by decide +kernel
theorem dX10_cut_59 : decode cX10_cut 59 = .ok (.aload_n 0, 1) := by decide +kernel
theorem dX10_cut_60 : decode cX10_cut 60 = .ok (.ldc 72, 2) := by decide +kernel
theorem dX10_cut_62 : decode cX10_cut 62 = .ok (.invokevirtual 74, 3) := by decide +kernel
theorem dX10_cut_65 : decode cX10_cut 65 = .ok (.aload_n 0, 1) := by decide +kernel
theorem dX10_cut_66 : decode cX10_cut 66 = .ok (.ldc 78, 2) := by decide +kernel
theorem dX10_cut_68 : decode cX10_cut 68 = .ok (.invokevirtual 74, 3) := by decide +kernel
theorem dX10_cut_71 : decode cX10_cut 71 = .ok (.aload_n 0, 1) := by decide +kernel
theorem dX10_cut_72 : decode cX10_cut 72 = .ok (.ldc 80, 2) := by decide +kernel
theorem dX10_cut_74 : decode cX10_cut 74 = .ok (.invokevirtual 74, 3) := by decide +kernel
theorem dX10_cut_77 : decode cX10_cut 77 = .ok (.aload_n 0, 1) := by decide +kernel
theorem dX10_cut_78 : decode cX10_cut 78 = .ok (.ldc 82, 2) := by decide +kernel
theorem dX10_cut_80 : decode cX10_cut 80 = .ok (.invokevirtual 74, 3) := by decide +kernel
theorem dX10_cut_83 : decode cX10_cut 83 = .ok (.aload_n 0, 1) := by decide +kernel
theorem dX10_cut_84 : decode cX10_cut 84 = .ok (.ldc 84, 2) := by decide +kernel
theorem dX10_cut_86 : decode cX10_cut 86 = .ok (.invokevirtual 74, 3) := by decide +kernel
theorem dX10_cut_89 : decode cX10_cut 89 = .ok (.aload_n 0, 1) := by decide +kernel
theorem dX10_cut_90 : decode cX10_cut 90 = .ok (.iconst 0, 1) := by decide +kernel
theorem dX10_cut_91 : decode cX10_cut 91 = .ok (.invokevirtual 86, 3) := by decide +kernel
theorem dX10_cut_94 : decode cX10_cut 94 = .ok (.istore_n 3, 1) := by decide +kernel
theorem dX10_cut_95 : decode cX10_cut 95 = .ok (.iconst 0, 1) := by decide +kernel
theorem dX10_cut_96 : decode cX10_cut 96 = .ok (.istore 4, 2) := by decide +kernel
theorem dX10_cut_98 : decode cX10_cut 98 = .ok (.iload 4, 2) := by decide +kernel
theorem dX10_cut_100 : decode cX10_cut 100 = .ok (.aload_n 0, 1) := by decide +kernel
theorem dX10_cut_101 : decode cX10_cut 101 = .ok (.getfield 47, 3) := by decide +kernel
theorem dX10_cut_104 : decode cX10_cut 104 = .ok (.if_icmp .ge 27, 3) := by decide +kernel
theorem dX10_cut_107 : decode cX10_cut 107 = .ok (.iload_n 3, 1) := by decide +kernel
theorem dX10_cut_108 : decode cX10_cut 108 = .ok (.aload_n 0, 1) := by decide +kernel
theorem dX10_cut_109 : decode cX10_cut 109 = .ok (.getfield 47, 3) := by decide +kernel
theorem dX10_cut_112 : decode cX10_cut 112 = .ok (.if_icmp .ge 19, 3) := by decide +kernel
theorem dX10_cut_115 : decode cX10_cut 115 = .ok (.aload_n 0, 1) := by decide +kernel
theorem dX10_cut_116 : decode cX10_cut 116 = .ok (.aload_n 0, 1) := by decide +kernel
theorem dX10_cut_117 : decode cX10_cut 117 = .ok (.iload_n 3, 1) := by decide +kernel
theorem dX10_cut_118 : decode cX10_cut 118 = .ok (.invokevirtual 90, 3) := by decide +kernel
theorem dX10_cut_121 : decode cX10_cut 121 = .ok (.invokevirtual 86, 3) := by decide +kernel
theorem dX10_cut_124 : decode cX10_cut 124 = .ok (.istore_n 3, 1) := by decide +kernel
theorem dX10_cut_125 : decode cX10_cut 125 = .ok (.iinc 4 1, 3) := by decide +kernel
theorem dX10_cut_128 : decode cX10_cut 128 = .ok (.goto (-30), 3) := by decide +kernel
theorem dX10_cut_131 : decode cX10_cut 131 = .ok (.aload_n 0, 1) := by decide +kernel
theorem dX10_cut_132 : decode cX10_cut 132 = .ok (.iconst 0, 1) := by decide +kernel
theorem dX10_cut_133 : decode cX10_cut 133 = .ok (.aload_n 0, 1) := by decide +kernel
theorem dX10_cut_134 : decode cX10_cut 134 = .ok (.getfield 47, 3) := by decide +kernel
theorem dX10_cut_137 : decode cX10_cut 137 = .ok (.iconst 0, 1) := by decide +kernel
theorem dX10_cut_138 : decode cX10_cut 138 = .ok (.invokevirtual 93, 3) := by decide +kernel
theorem dX10_cut_141 : decode cX10_cut 141 = .ok (.pop, 1) := by decide +kernel
theorem dX10_cut_142 : decode cX10_cut 142 = .ok (.return_, 1) := by decide +kernel
abbrev ww_J7_fill_53178 (cB cC cI cJ cZ cP : ClassId) (ra : Nat) (x : Int32) (rn : Nat) (rf : Nat → Int32) : va_W := [(ra, .inl (cI, rn, .inl rf))]
abbrev q_J7_fill_53178 (dC : Nat → ClassId) (dI : Nat → Nat → Nat) (cB cC cI cJ cZ cP : ClassId) (ra : Nat) (x : Int32) (rn : Nat) (rf : Nat → Int32) (A : Nat → Prop) : Array Value → State → Outcome → State → Prop := va_Qv (fun (pf : Nat → Int32) => ∀ j : Nat, j < rn → pf j = x) (g_Bo (dC, dI) A (fun (pf : Nat → Int32) => [(ra, .inl (cI, rn, .inl pf))])) A
set_option maxHeartbeats 4000000 in
set_option maxRecDepth 100000 in
theorem c_J7_fill_53178 (l : Launch) (dC : Nat → ClassId) (dI : Nat → Nat → Nat) (cB cC cI cJ cZ cP : ClassId) (sz : Nat) (ra : Nat) (x : Int32) (rn : Nat) (rf : Nat → Int32) (hrn : rn < 2 ^ 31) : Met l yJ7_fill_53178 (g_ws yJ7_fill_53178 cJ7_fill_53178 4 none) ({ frames := 1, cells := 0, slots := 0, locals := 40 }) (va_Pc [.ref ra, .int x] (g_B (dC, dI) [(cB, .byte), (cC, .char), (cI, .int), (cJ, .long), (cZ, .boolean), (cP, .object "StoryHouse$Play")] sz (ww_J7_fill_53178 cB cC cI cJ cZ cP ra x rn rf) g_0)) (q_J7_fill_53178 dC dI cB cC cI cJ cZ cP ra x rn rf (va_A (ww_J7_fill_53178 cB cC cI cJ cZ cP ra x rn rf) sz)) 0 0 (va_A (ww_J7_fill_53178 cB cC cI cJ cZ cP ra x rn rf) sz) := by
  refine Met.ofW (cc := cJ7_fill_53178) (maxL := 4) (ret := none) (by decide) rfl ?_
  intro p e s m args below meth c s₁ B hml hv
  obtain ⟨rfl, hsz, hP, hK, hD0, hE, hX⟩ := hv
  have hx := B.exec
  have hb := B.bytes
  have hr := B.returns
  have hts0 := atoms_spec (ws := (g_ws yJ7_fill_53178 cJ7_fill_53178 4 none)) B.pre
  have hts : ∀ w ∈ lw_good, w.before ([.ref ra, .int x] : List Value).toArray s = true := fun w h => hts0 w (List.mem_cons_of_mem _ h)
  have hown : s.vm.findClass RJ7 = some m.cls := findClass_of_methodNamed B.named
  have hlocks := B.notSynchronized
  subst hsz
  have hD := hD0.self (sz := s.heap.size)
  generalize hAe : va_A (ww_J7_fill_53178 cB cC cI cJ cZ cP ra x rn rf) s.heap.size = A at hD hE hX ⊢
  have hA : ∀ q : Nat, s.heap.size ≤ q → A q := fun q h => by rw [← hAe]; exact Or.inr h
  have hN := hE.1
  have hS : va_S A s.heap s.heap [] := va_S.rf
  have hP : va_P (dC, dI) vwCl [(ra, .inl (cI, rn, .inl rf))] s.heap := hP
  have hl := lv_entry ([.ref ra, .int x]) (n := 4) (Nat.le_of_ble_eq_true rfl)
  rw [lg_entry_eq]
  generalize (lg_sl ([.ref ra, .int x]) ++ List.replicate (4 - (lg_sl ([.ref ra, .int x])).length) Slot.unset).toArray = ls at hl ⊢
  have hl : lv_has ls 4 [(0, .ref ra), (1, .int x)] := hl
  refine lv_iconst (v := 0) hx hb dJ7_fill_53178_0 (by decide +kernel) ?_
  refine lv_istore_n (lv' := [(2, .int 0), (0, .ref ra), (1, .int x)]) hx hb dJ7_fill_53178_1 rfl hl (by decide) rfl (fun ls hl => ?_)
  refine lv_aload_n hx hb dJ7_fill_53178_2 rfl (lv_at hl 1 rfl) ?_
  refine va_alen (v := Int32.ofNat rn) hx hb hK hP 0 2 rfl rfl rfl dJ7_fill_53178_3 ?_
  refine lv_istore_n (lv' := [(3, .int (Int32.ofNat rn)), (2, .int 0), (0, .ref ra), (1, .int x)]) hx hb dJ7_fill_53178_4 rfl hl (by decide) rfl (fun ls hl => ?_)
  have LOOP_1 : ∀ (fu : Nat) (k : Nat) (x2 : Int32) (g : Nat → Int32) (ex2 : x2 = nI k) (hk : k ≤ rn) (hg : ∀ j : Nat, j < k → g j = x) (hfu : rn - k < fu) (H : Heap) (locs : List Loc), va_P (dC, dI) vwCl [(ra, .inl (cI, rn, .inl g))] H → va_D A [(ra, .inl (cI, rn, .inl g))] → va_S A s.heap H locs → ∀ ls : Array Slot, lv_has ls 4 [(0, .ref ra), (1, .int x), (2, .int x2), (3, .int (Int32.ofNat rn))] → W p l e ({ frames := 1, cells := 0, slots := 0, locals := 40 }) s m ([.ref ra, .int x] : List Value).toArray below meth c H locs 0 0 (MQ below (q_J7_fill_53178 dC dI cB cC cI cJ cZ cP ra x rn rf A) ([.ref ra, .int x] : List Value).toArray s 0 0 A) (F0 m 5 ls []) := by
    intro fu
    induction fu with
    | zero => intro k x2 g ex2 hk hg hfu; exact absurd hfu (Nat.not_lt_zero _)
    | succ fu ih =>
      intro k x2 g ex2 hk hg hfu H locs hP hD hS ls hl
      refine lv_iload_n hx hb dJ7_fill_53178_5 rfl (lv_at hl 2 rfl) ?_
      refine lv_iload_n hx hb dJ7_fill_53178_6 rfl (lv_at hl 3 rfl) ?_
      refine lv_icmp_ge (tgt := 20) hx hb dJ7_fill_53178_7 (by decide) (fun c_2 => ?_) (fun c_2 => ?_)
      · have hP9 := hP.sub (ws' := [(ra, .inl (cI, rn, .inl g))]) [0] rfl
        have hD9 := hD.sub (ws' := [(ra, .inl (cI, rn, .inl g))]) [0] (by decide +kernel) rfl
        refine W.widen (k := 0) (n := 0) (Nat.le_of_ble_eq_true rfl) (Nat.le_of_ble_eq_true rfl) ?_
        exact W.vret hx hb hr (fun t ht hW => ⟨⟨g, rfl, ((fun j hj => hg j (by rw [g_fe ex2 hk hrn (by assumption)]; exact hj))), by rw [ht]; exact hP9, hD9⟩, hS.F ht⟩) hS.2.2 dJ7_fill_53178_20
      · refine lv_aload_n hx hb dJ7_fill_53178_10 rfl (lv_at hl 0 rfl) ?_
        refine lv_iload_n hx hb dJ7_fill_53178_11 rfl (lv_at hl 2 rfl) ?_
        refine lv_iload_n hx hb dJ7_fill_53178_12 rfl (lv_at hl 1 rfl) ?_
        refine va_iast hx hb hK hP hD hS 0 2 rfl rfl (by rw [ex2]; exact vp_in_nI (by have := g_fl ex2 hk hrn (by assumption); omega) hrn) dJ7_fill_53178_13 (fun H_3 locs hP' hD' hS' => ?_)
        obtain ⟨f_4, ef_4⟩ : ∃ g9 : Nat → Int32, g9 = (upd g x2.toNatClampNeg x) := ⟨_, rfl⟩
        replace hP : va_P (dC, dI) vwCl [(ra, .inl (cI, rn, .inl f_4))] H_3 := by rw [ef_4]; exact hP'
        replace hD : va_D A [(ra, .inl (cI, rn, .inl f_4))] := by rw [ef_4]; exact hD'
        replace hS := hS'
        clear hP' hD' hS'
        obtain ⟨x_5, ex_5⟩ : ∃ y : Int32, y = x2 + 1 := ⟨_, rfl⟩
        refine lv_iinc (v := x_5) (lv' := [(2, .int x_5), (0, .ref ra), (1, .int x), (3, .int (Int32.ofNat rn))]) hx hb dJ7_fill_53178_14 hl (k := 2) rfl (by rw [ex_5]; rfl) (by decide) rfl (fun ls hl => ?_)
        refine lv_goto (tgt := 5) hx hb dJ7_fill_53178_17 (by decide) ?_
        exact ih (k + 1) x_5 f_4 (by rw [ex_5, ex2]; exact (nI_succ k).symm) (g_fl ex2 hk hrn (by assumption)) (by rw [ef_4, ex2]; exact g_fg hg (by omega)) (by have := g_fl ex2 hk hrn (by assumption); omega) _ _ hP hD hS ls (lv_sub hl [1, 2, 0, 3] rfl)
  exact LOOP_1 _ 0 0 rf nI_0.symm (Nat.zero_le _) (fun j h => absurd h (Nat.not_lt_zero _)) (Nat.lt_succ_self _) _ _ hP hD hS ls (lv_sub hl [2, 3, 1, 0] rfl)

abbrev ww_X10_rememberName (cB cC cI cJ cZ cP : ClassId) (w0 : Nat) (f_source : Nat) (i_length : Int32) (i_count : Int32) (f_kinds : Nat) (f_places : Nat) (f_values : Nat) (f_notes : Nat) (f_meanings : Nat) (f_names : Nat) (f_slots : Nat) (i_strings : Int32) (nm : Int32) (nf : Nat → Int64) (sf : Nat → Int32) (sl : Int32) (pk : Int64) : va_W := [(w0, .inr (10, [.ref f_source, .int i_length, .int i_count, .ref f_kinds, .ref f_places, .ref f_values, .ref f_notes, .ref f_meanings, .ref f_names, .ref f_slots, .int nm, .int i_strings])), (f_names, .inl (cJ, 4500, .inr (.inl nf))), (f_slots, .inl (cI, 8192, .inl sf))]
abbrev q_X10_rememberName (dC : Nat → ClassId) (dI : Nat → Nat → Nat) (cB cC cI cJ cZ cP : ClassId) (w0 : Nat) (f_source : Nat) (i_length : Int32) (i_count : Int32) (f_kinds : Nat) (f_places : Nat) (f_values : Nat) (f_notes : Nat) (f_meanings : Nat) (f_names : Nat) (f_slots : Nat) (i_strings : Int32) (nm : Int32) (nf : Nat → Int64) (sf : Nat → Int32) (sl : Int32) (pk : Int64) (A : Nat → Prop) : Array Value → State → Outcome → State → Prop := va_Qi (fun (r : Int32) (u : Int32 × (Nat → Int64) × (Nat → Int32)) => match u with | (nm2, nf2, sf2) => ¬ nm2 < 0) (g_Bo (dC, dI) A (fun (u : Int32 × (Nat → Int64) × (Nat → Int32)) => match u with | (nm2, nf2, sf2) => [(w0, .inr (10, [.ref f_source, .int i_length, .int i_count, .ref f_kinds, .ref f_places, .ref f_values, .ref f_notes, .ref f_meanings, .ref f_names, .ref f_slots, .int nm2, .int i_strings])), (f_names, .inl (cJ, 4500, .inr (.inl nf2))), (f_slots, .inl (cI, 8192, .inl sf2))])) A
set_option maxHeartbeats 4000000 in
set_option maxRecDepth 100000 in
theorem c_X10_rememberName (l : Launch) (dC : Nat → ClassId) (dI : Nat → Nat → Nat) (cB cC cI cJ cZ cP : ClassId) (sz : Nat) (w0 : Nat) (f_source : Nat) (i_length : Int32) (i_count : Int32) (f_kinds : Nat) (f_places : Nat) (f_values : Nat) (f_notes : Nat) (f_meanings : Nat) (f_names : Nat) (f_slots : Nat) (i_strings : Int32) (nm : Int32) (nf : Nat → Int64) (sf : Nat → Int32) (sl : Int32) (pk : Int64) (hnm : ¬ nm < 0) : Met l yX10_rememberName (g_ws yX10_rememberName cX10_rememberName 4 (some .int)) ({ frames := 2, cells := 0, slots := 0, locals := 62 }) (va_Pc [.ref w0, .int sl, .long pk] (g_B (dC, dI) [(cB, .byte), (cC, .char), (cI, .int), (cJ, .long), (cZ, .boolean), (cP, .object "StoryHouse$Play")] sz (ww_X10_rememberName cB cC cI cJ cZ cP w0 f_source i_length i_count f_kinds f_places f_values f_notes f_meanings f_names f_slots i_strings nm nf sf sl pk) g_0)) (q_X10_rememberName dC dI cB cC cI cJ cZ cP w0 f_source i_length i_count f_kinds f_places f_values f_notes f_meanings f_names f_slots i_strings nm nf sf sl pk (va_A (ww_X10_rememberName cB cC cI cJ cZ cP w0 f_source i_length i_count f_kinds f_places f_values f_notes f_meanings f_names f_slots i_strings nm nf sf sl pk) sz)) 0 0 (va_A (ww_X10_rememberName cB cC cI cJ cZ cP w0 f_source i_length i_count f_kinds f_places f_values f_notes f_meanings f_names f_slots i_strings nm nf sf sl pk) sz) := by
  refine Met.ofW (cc := cX10_rememberName) (maxL := 4) (ret := (some .int)) (by decide) rfl ?_
  intro p e s m args below meth c s₁ B hml hv
  obtain ⟨rfl, hsz, hP, hK, hD0, hE, hX⟩ := hv
  have hx := B.exec
  have hb := B.bytes
  have hr := B.returns
  have hts0 := atoms_spec (ws := (g_ws yX10_rememberName cX10_rememberName 4 (some .int))) B.pre
  have hts : ∀ w ∈ lw_good, w.before ([.ref w0, .int sl, .long pk] : List Value).toArray s = true := fun w h => hts0 w (List.mem_cons_of_mem _ h)
  have hown : s.vm.findClass RX10 = some m.cls := findClass_of_methodNamed B.named
  have hlocks := B.notSynchronized
  subst hsz
  have hD := hD0.self (sz := s.heap.size)
  generalize hAe : va_A (ww_X10_rememberName cB cC cI cJ cZ cP w0 f_source i_length i_count f_kinds f_places f_values f_notes f_meanings f_names f_slots i_strings nm nf sf sl pk) s.heap.size = A at hD hE hX ⊢
  have hA : ∀ q : Nat, s.heap.size ≤ q → A q := fun q h => by rw [← hAe]; exact Or.inr h
  have hN := hE.1
  have hS : va_S A s.heap s.heap [] := va_S.rf
  have hP : va_P (dC, dI) vwCl [(w0, .inr (10, [.ref f_source, .int i_length, .int i_count, .ref f_kinds, .ref f_places, .ref f_values, .ref f_notes, .ref f_meanings, .ref f_names, .ref f_slots, .int nm, .int i_strings])), (f_names, .inl (cJ, 4500, .inr (.inl nf))), (f_slots, .inl (cI, 8192, .inl sf))] s.heap := hP
  have hl := lv_entry ([.ref w0, .int sl, .long pk]) (n := 4) (Nat.le_of_ble_eq_true rfl)
  rw [lg_entry_eq]
  generalize (lg_sl ([.ref w0, .int sl, .long pk]) ++ List.replicate (4 - (lg_sl ([.ref w0, .int sl, .long pk])).length) Slot.unset).toArray = ls at hl ⊢
  have hl : lv_has ls 4 [(0, .ref w0), (1, .int sl), (2, .long pk)] := hl
  refine lv_aload_n hx hb dX10_rememberName_0 rfl (lv_at hl 0 rfl) ?_
  refine va_get (D := (dC, dI)) (ci := 10) (v := .int nm) (C := RX10) (T := TX10) (N := 12) hx hb hts ii_X10 hown hK hP 0 rfl rfl 10 (by decide) (hts (.fieldLink RX10 63 "StoryHouse$Words" "named" "I") wq_60) (fun _ h9 => h9) rfl dX10_rememberName_1 ?_
  refine lv_aload_n hx hb dX10_rememberName_4 rfl (lv_at hl 0 rfl) ?_
  refine va_get (D := (dC, dI)) (ci := 10) (v := .ref f_names) (C := RX10) (T := TX10) (N := 12) hx hb hts ii_X10 hown hK hP 0 rfl rfl 8 (by decide) (hts (.fieldLink RX10 31 "StoryHouse$Words" "names" "[J") wq_58) (fun _ h9 => h9) rfl dX10_rememberName_5 ?_
  refine va_alen (v := 4500) hx hb hK hP 1 3 rfl rfl (by first | rfl | decide +kernel) dX10_rememberName_8 ?_
  refine lv_icmp_lt (tgt := 14) hx hb dX10_rememberName_9 (by decide) (fun c_1 => ?_) (fun c_1 => ?_)
  · refine lv_aload_n hx hb dX10_rememberName_14 rfl (lv_at hl 0 rfl) ?_
    refine va_get (D := (dC, dI)) (ci := 10) (v := .ref f_names) (C := RX10) (T := TX10) (N := 12) hx hb hts ii_X10 hown hK hP 0 rfl rfl 8 (by decide) (hts (.fieldLink RX10 31 "StoryHouse$Words" "names" "[J") wq_58) (fun _ h9 => h9) rfl dX10_rememberName_15 ?_
    refine lv_aload_n hx hb dX10_rememberName_18 rfl (lv_at hl 0 rfl) ?_
    refine va_get (D := (dC, dI)) (ci := 10) (v := .int nm) (C := RX10) (T := TX10) (N := 12) hx hb hts ii_X10 hown hK hP 0 rfl rfl 10 (by decide) (hts (.fieldLink RX10 63 "StoryHouse$Words" "named" "I") wq_60) (fun _ h9 => h9) rfl dX10_rememberName_19 ?_
    refine lv_lload_n hx hb dX10_rememberName_22 rfl (lv_at hl 2 rfl) ?_
    refine va_last hx hb hK hP hD hS 1 3 rfl rfl (g_inLt (N := 4500) (by decide +kernel) hnm (by assumption)) dX10_rememberName_23 (fun H_2 locs hP' hD' hS' => ?_)
    obtain ⟨f_3, ef_3⟩ : ∃ g9 : Nat → Int64, g9 = (vp_updL nf nm.toNatClampNeg pk) := ⟨_, rfl⟩
    replace hP : va_P (dC, dI) vwCl [(w0, .inr (10, [.ref f_source, .int i_length, .int i_count, .ref f_kinds, .ref f_places, .ref f_values, .ref f_notes, .ref f_meanings, .ref f_names, .ref f_slots, .int nm, .int i_strings])), (f_names, .inl (cJ, 4500, .inr (.inl f_3))), (f_slots, .inl (cI, 8192, .inl sf))] H_2 := by rw [ef_3]; exact hP'
    replace hD : va_D A [(w0, .inr (10, [.ref f_source, .int i_length, .int i_count, .ref f_kinds, .ref f_places, .ref f_values, .ref f_notes, .ref f_meanings, .ref f_names, .ref f_slots, .int nm, .int i_strings])), (f_names, .inl (cJ, 4500, .inr (.inl f_3))), (f_slots, .inl (cI, 8192, .inl sf))] := by rw [ef_3]; exact hD'
    replace hS := hS'
    clear hP' hD' hS'
    refine lv_aload_n hx hb dX10_rememberName_24 rfl (lv_at hl 0 rfl) ?_
    refine lv_dup hx hb dX10_rememberName_25 rfl ?_
    refine va_get (D := (dC, dI)) (ci := 10) (v := .int nm) (C := RX10) (T := TX10) (N := 12) hx hb hts ii_X10 hown hK hP 0 rfl rfl 10 (by decide) (hts (.fieldLink RX10 63 "StoryHouse$Words" "named" "I") wq_60) (fun _ h9 => h9) rfl dX10_rememberName_26 ?_
    refine lv_iconst (v := 1) hx hb dX10_rememberName_29 (by decide +kernel) ?_
    refine lv_iadd hx hb dX10_rememberName_30 ?_
    refine lv_topi (fun x_4 ex_4 => ?_)
    refine va_put (D := (dC, dI)) (ci := 10) (v := .int x_4) (ty := .int) (C := RX10) (T := TX10) (N := 12) hx hb hts ii_X10 tyX10 tyX10_ok nmX10 hown hK hP hD hS 0 rfl rfl 10 (by decide) (hts (.fieldLink RX10 63 "StoryHouse$Words" "named" "I") wq_60) (fun _ h9 => h9) rfl (by decide +kernel) rfl rfl (Nat.le_of_ble_eq_true rfl) dX10_rememberName_31 (fun H_5 locs hP' hD' hS' => ?_)
    replace hP : va_P (dC, dI) vwCl [(w0, .inr (10, [.ref f_source, .int i_length, .int i_count, .ref f_kinds, .ref f_places, .ref f_values, .ref f_notes, .ref f_meanings, .ref f_names, .ref f_slots, .int x_4, .int i_strings])), (f_names, .inl (cJ, 4500, .inr (.inl f_3))), (f_slots, .inl (cI, 8192, .inl sf))] H_5 := hP'
    replace hD : va_D A [(w0, .inr (10, [.ref f_source, .int i_length, .int i_count, .ref f_kinds, .ref f_places, .ref f_values, .ref f_notes, .ref f_meanings, .ref f_names, .ref f_slots, .int x_4, .int i_strings])), (f_names, .inl (cJ, 4500, .inr (.inl f_3))), (f_slots, .inl (cI, 8192, .inl sf))] := hD'
    replace hS := hS'
    clear hP' hD' hS'
    refine lv_aload_n hx hb dX10_rememberName_34 rfl (lv_at hl 0 rfl) ?_
    refine va_get (D := (dC, dI)) (ci := 10) (v := .ref f_slots) (C := RX10) (T := TX10) (N := 12) hx hb hts ii_X10 hown hK hP 0 rfl rfl 9 (by decide) (hts (.fieldLink RX10 35 "StoryHouse$Words" "slots" "[I") wq_59) (fun _ h9 => h9) rfl dX10_rememberName_35 ?_
    refine lv_iload_n hx hb dX10_rememberName_38 rfl (lv_at hl 1 rfl) ?_
    refine lv_aload_n hx hb dX10_rememberName_39 rfl (lv_at hl 0 rfl) ?_
    refine va_get (D := (dC, dI)) (ci := 10) (v := .int x_4) (C := RX10) (T := TX10) (N := 12) hx hb hts ii_X10 hown hK hP 0 rfl rfl 10 (by decide) (hts (.fieldLink RX10 63 "StoryHouse$Words" "named" "I") wq_60) (fun _ h9 => h9) rfl dX10_rememberName_40 ?_
    have hPc := hP.sub (ws' := [(f_slots, .inl (cI, 8192, .inl sf))]) [2] rfl
    have hDc := hD.sub (ws' := [(f_slots, .inl (cI, 8192, .inl sf))]) [2] (by decide +kernel) rfl
    have hFc := va_free (wc := [(f_slots, .inl (cI, 8192, .inl sf))]) hD hS hA [2] rfl
    refine g_ofv (wc := [(f_slots, .inl (cI, 8192, .inl sf))]) (wr := [(w0, .inr (10, [.ref f_source, .int i_length, .int i_count, .ref f_kinds, .ref f_places, .ref f_values, .ref f_notes, .ref f_meanings, .ref f_names, .ref f_slots, .int x_4, .int i_strings])), (f_names, .inl (cJ, 4500, .inr (.inl f_3)))]) hP hD hS hFc [2] [0, 1] rfl rfl (by decide +kernel) (by decide +kernel) (va_runSN (As := [.ref f_slots, .int sl, .int x_4]) (rest := []) ⟨hx, hb, hml, hown, hts⟩ (c_X11_put l dC dI cB cC cI cJ cZ cP H_5.size f_slots sl x_4 8192 sf (by decide)) ⟨va_cnB 3 hts (g_gA wq_412) rfl rfl rfl (hN.at 10 rfl) (hts (.initialized RX11) wq_1) (by decide +kernel) ⟨Nat.le_of_ble_eq_true rfl, Nat.le_of_ble_eq_true rfl⟩, (hts (.static yX11_put) wq_411), trivial⟩ (g_preS g_bl0 hK hPc hDc hS hE hFc g_to0) rfl rfl hl.1 rfl (lv_room (Nat.le_of_ble_eq_true rfl)) dX10_rememberName_43 ⟨Nat.le_of_ble_eq_true rfl, Nat.le_of_ble_eq_true rfl⟩) (fun u_7 H_8 locs w_6 hP' hD' hS' => ?_)
    clear hPc hDc hFc
    have w_6 : u_7 = g_put 8192 sf sl x_4 := w_6
    replace hP : va_P (dC, dI) vwCl [(w0, .inr (10, [.ref f_source, .int i_length, .int i_count, .ref f_kinds, .ref f_places, .ref f_values, .ref f_notes, .ref f_meanings, .ref f_names, .ref f_slots, .int x_4, .int i_strings])), (f_names, .inl (cJ, 4500, .inr (.inl f_3))), (f_slots, .inl (cI, 8192, .inl u_7))] H_8 := hP'
    replace hD : va_D A [(w0, .inr (10, [.ref f_source, .int i_length, .int i_count, .ref f_kinds, .ref f_places, .ref f_values, .ref f_notes, .ref f_meanings, .ref f_names, .ref f_slots, .int x_4, .int i_strings])), (f_names, .inl (cJ, 4500, .inr (.inl f_3))), (f_slots, .inl (cI, 8192, .inl u_7))] := hD'
    replace hS := hS'
    clear hP' hD' hS'
    refine lv_aload_n hx hb dX10_rememberName_46 rfl (lv_at hl 0 rfl) ?_
    refine va_get (D := (dC, dI)) (ci := 10) (v := .int x_4) (C := RX10) (T := TX10) (N := 12) hx hb hts ii_X10 hown hK hP 0 rfl rfl 10 (by decide) (hts (.fieldLink RX10 63 "StoryHouse$Words" "named" "I") wq_60) (fun _ h9 => h9) rfl dX10_rememberName_47 ?_
    refine lv_iconst (v := 1) hx hb dX10_rememberName_50 (by decide +kernel) ?_
    refine lv_isub hx hb dX10_rememberName_51 ?_
    refine lv_topi (fun x_9 ex_9 => ?_)
    have hP9 := hP.sub (ws' := [(w0, .inr (10, [.ref f_source, .int i_length, .int i_count, .ref f_kinds, .ref f_places, .ref f_values, .ref f_notes, .ref f_meanings, .ref f_names, .ref f_slots, .int x_4, .int i_strings])), (f_names, .inl (cJ, 4500, .inr (.inl f_3))), (f_slots, .inl (cI, 8192, .inl u_7))]) [0, 1, 2] rfl
    have hD9 := hD.sub (ws' := [(w0, .inr (10, [.ref f_source, .int i_length, .int i_count, .ref f_kinds, .ref f_places, .ref f_values, .ref f_notes, .ref f_meanings, .ref f_names, .ref f_slots, .int x_4, .int i_strings])), (f_names, .inl (cJ, 4500, .inr (.inl f_3))), (f_slots, .inl (cI, 8192, .inl u_7))]) [0, 1, 2] (by decide +kernel) rfl
    refine W.widen (k := 0) (n := 0) (Nat.le_of_ble_eq_true rfl) (Nat.le_of_ble_eq_true rfl) ?_
    exact W.iret (v := x_9) hx hb hr (fun t ht hW => ⟨⟨x_9, (x_4, f_3, u_7), rfl, ((g_up hnm (Int32.not_le.mpr (by assumption : nm < 4500)) ex_4)), by rw [ht]; exact hP9, hD9⟩, hS.F ht⟩) hS.2.2 dX10_rememberName_52
  · refine lv_iconst (v := 0) hx hb dX10_rememberName_12 (by decide +kernel) ?_
    have hP9 := hP.sub (ws' := [(w0, .inr (10, [.ref f_source, .int i_length, .int i_count, .ref f_kinds, .ref f_places, .ref f_values, .ref f_notes, .ref f_meanings, .ref f_names, .ref f_slots, .int nm, .int i_strings])), (f_names, .inl (cJ, 4500, .inr (.inl nf))), (f_slots, .inl (cI, 8192, .inl sf))]) [0, 1, 2] rfl
    have hD9 := hD.sub (ws' := [(w0, .inr (10, [.ref f_source, .int i_length, .int i_count, .ref f_kinds, .ref f_places, .ref f_values, .ref f_notes, .ref f_meanings, .ref f_names, .ref f_slots, .int nm, .int i_strings])), (f_names, .inl (cJ, 4500, .inr (.inl nf))), (f_slots, .inl (cI, 8192, .inl sf))]) [0, 1, 2] (by decide +kernel) rfl
    refine W.widen (k := 0) (n := 0) (Nat.le_of_ble_eq_true rfl) (Nat.le_of_ble_eq_true rfl) ?_
    exact W.iret (v := 0) hx hb hr (fun t ht hW => ⟨⟨0, (nm, nf, sf), rfl, (hnm), by rw [ht]; exact hP9, hD9⟩, hS.F ht⟩) hS.2.2 dX10_rememberName_13

abbrev ww_X10_numberOf (cB cC cI cJ cZ cP : ClassId) (w0 : Nat) (f_source : Nat) (i_length : Int32) (i_count : Int32) (f_kinds : Nat) (f_places : Nat) (f_values : Nat) (f_notes : Nat) (f_meanings : Nat) (f_names : Nat) (f_slots : Nat) (i_strings : Int32) (nm : Int32) (nf : Nat → Int64) (sf : Nat → Int32) (pk : Int64) : va_W := [(w0, .inr (10, [.ref f_source, .int i_length, .int i_count, .ref f_kinds, .ref f_places, .ref f_values, .ref f_notes, .ref f_meanings, .ref f_names, .ref f_slots, .int nm, .int i_strings])), (f_names, .inl (cJ, 4500, .inr (.inl nf))), (f_slots, .inl (cI, 8192, .inl sf))]
abbrev q_X10_numberOf (dC : Nat → ClassId) (dI : Nat → Nat → Nat) (cB cC cI cJ cZ cP : ClassId) (w0 : Nat) (f_source : Nat) (i_length : Int32) (i_count : Int32) (f_kinds : Nat) (f_places : Nat) (f_values : Nat) (f_notes : Nat) (f_meanings : Nat) (f_names : Nat) (f_slots : Nat) (i_strings : Int32) (nm : Int32) (nf : Nat → Int64) (sf : Nat → Int32) (pk : Int64) (A : Nat → Prop) : Array Value → State → Outcome → State → Prop := va_Qi (fun (r : Int32) (u : Int32 × (Nat → Int64) × (Nat → Int32)) => match u with | (nm2, nf2, sf2) => ¬ nm2 < 0) (g_Bo (dC, dI) A (fun (u : Int32 × (Nat → Int64) × (Nat → Int32)) => match u with | (nm2, nf2, sf2) => [(w0, .inr (10, [.ref f_source, .int i_length, .int i_count, .ref f_kinds, .ref f_places, .ref f_values, .ref f_notes, .ref f_meanings, .ref f_names, .ref f_slots, .int nm2, .int i_strings])), (f_names, .inl (cJ, 4500, .inr (.inl nf2))), (f_slots, .inl (cI, 8192, .inl sf2))])) A
set_option maxHeartbeats 4000000 in
set_option maxRecDepth 100000 in
theorem c_X10_numberOf (l : Launch) (dC : Nat → ClassId) (dI : Nat → Nat → Nat) (cB cC cI cJ cZ cP : ClassId) (sz : Nat) (w0 : Nat) (f_source : Nat) (i_length : Int32) (i_count : Int32) (f_kinds : Nat) (f_places : Nat) (f_values : Nat) (f_notes : Nat) (f_meanings : Nat) (f_names : Nat) (f_slots : Nat) (i_strings : Int32) (nm : Int32) (nf : Nat → Int64) (sf : Nat → Int32) (pk : Int64) (hnm : ¬ nm < 0) : Met l yX10_numberOf (g_ws yX10_numberOf cX10_numberOf 7 (some .int)) ({ frames := 3, cells := 0, slots := 0, locals := 85 }) (va_Pc [.ref w0, .long pk] (g_B (dC, dI) [(cB, .byte), (cC, .char), (cI, .int), (cJ, .long), (cZ, .boolean), (cP, .object "StoryHouse$Play")] sz (ww_X10_numberOf cB cC cI cJ cZ cP w0 f_source i_length i_count f_kinds f_places f_values f_notes f_meanings f_names f_slots i_strings nm nf sf pk) g_0)) (q_X10_numberOf dC dI cB cC cI cJ cZ cP w0 f_source i_length i_count f_kinds f_places f_values f_notes f_meanings f_names f_slots i_strings nm nf sf pk (va_A (ww_X10_numberOf cB cC cI cJ cZ cP w0 f_source i_length i_count f_kinds f_places f_values f_notes f_meanings f_names f_slots i_strings nm nf sf pk) sz)) 0 0 (va_A (ww_X10_numberOf cB cC cI cJ cZ cP w0 f_source i_length i_count f_kinds f_places f_values f_notes f_meanings f_names f_slots i_strings nm nf sf pk) sz) := by
  refine Met.ofW (cc := cX10_numberOf) (maxL := 7) (ret := (some .int)) (by decide) rfl ?_
  intro p e s m args below meth c s₁ B hml hv
  obtain ⟨rfl, hsz, hP, hK, hD0, hE, hX⟩ := hv
  have hx := B.exec
  have hb := B.bytes
  have hr := B.returns
  have hts0 := atoms_spec (ws := (g_ws yX10_numberOf cX10_numberOf 7 (some .int))) B.pre
  have hts : ∀ w ∈ lw_good, w.before ([.ref w0, .long pk] : List Value).toArray s = true := fun w h => hts0 w (List.mem_cons_of_mem _ h)
  have hown : s.vm.findClass RX10 = some m.cls := findClass_of_methodNamed B.named
  have hlocks := B.notSynchronized
  subst hsz
  have hD := hD0.self (sz := s.heap.size)
  generalize hAe : va_A (ww_X10_numberOf cB cC cI cJ cZ cP w0 f_source i_length i_count f_kinds f_places f_values f_notes f_meanings f_names f_slots i_strings nm nf sf pk) s.heap.size = A at hD hE hX ⊢
  have hA : ∀ q : Nat, s.heap.size ≤ q → A q := fun q h => by rw [← hAe]; exact Or.inr h
  have hN := hE.1
  have hS : va_S A s.heap s.heap [] := va_S.rf
  have hP : va_P (dC, dI) vwCl [(w0, .inr (10, [.ref f_source, .int i_length, .int i_count, .ref f_kinds, .ref f_places, .ref f_values, .ref f_notes, .ref f_meanings, .ref f_names, .ref f_slots, .int nm, .int i_strings])), (f_names, .inl (cJ, 4500, .inr (.inl nf))), (f_slots, .inl (cI, 8192, .inl sf))] s.heap := hP
  have hl := lv_entry ([.ref w0, .long pk]) (n := 7) (Nat.le_of_ble_eq_true rfl)
  rw [lg_entry_eq]
  generalize (lg_sl ([.ref w0, .long pk]) ++ List.replicate (7 - (lg_sl ([.ref w0, .long pk])).length) Slot.unset).toArray = ls at hl ⊢
  have hl : lv_has ls 7 [(0, .ref w0), (1, .long pk)] := hl
  refine lv_lload_n hx hb dX10_numberOf_0 rfl (lv_at hl 1 rfl) ?_
  refine lv_ldc2 (v := (-7046029254386353131)) hx hb hown (hts (.constantLong RX10 103 (-7046029254386353131)) wq_405) dX10_numberOf_1 ?_
  refine lv_lmul hx hb dX10_numberOf_4 ?_
  refine lv_topl (fun y_1 ey_1 => ?_)
  refine lv_bipush (v := 40) hx hb dX10_numberOf_5 (by decide +kernel) ?_
  refine lv_lushr hx hb dX10_numberOf_7 rfl ?_
  refine lv_topl (fun y_2 ey_2 => ?_)
  refine lv_l2i hx hb dX10_numberOf_8 rfl ?_
  refine lv_topi (fun x_3 ex_3 => ?_)
  refine lv_sipush (v := 8191) hx hb dX10_numberOf_9 (by decide +kernel) ?_
  refine lv_iand hx hb dX10_numberOf_12 ?_
  refine lv_topi (fun x_4 ex_4 => ?_)
  refine lv_istore_n (lv' := [(3, .int x_4), (0, .ref w0), (1, .long pk)]) hx hb dX10_numberOf_13 rfl hl (by decide) rfl (fun ls hl => ?_)
  refine lv_iconst (v := 0) hx hb dX10_numberOf_14 (by decide +kernel) ?_
  refine lv_istore (lv' := [(4, .int 0), (3, .int x_4), (0, .ref w0), (1, .long pk)]) hx hb dX10_numberOf_15 hl (by decide) rfl (fun ls hl => ?_)
  have LOOP_5 : ∀ (fu : Nat) (x4 : Int32)  (hfu : ((8192 : Int32).toInt - x4.toInt).toNat < fu) (H : Heap) (locs : List Loc), va_P (dC, dI) vwCl [(w0, .inr (10, [.ref f_source, .int i_length, .int i_count, .ref f_kinds, .ref f_places, .ref f_values, .ref f_notes, .ref f_meanings, .ref f_names, .ref f_slots, .int nm, .int i_strings])), (f_names, .inl (cJ, 4500, .inr (.inl nf))), (f_slots, .inl (cI, 8192, .inl sf))] H → va_D A [(w0, .inr (10, [.ref f_source, .int i_length, .int i_count, .ref f_kinds, .ref f_places, .ref f_values, .ref f_notes, .ref f_meanings, .ref f_names, .ref f_slots, .int nm, .int i_strings])), (f_names, .inl (cJ, 4500, .inr (.inl nf))), (f_slots, .inl (cI, 8192, .inl sf))] → va_S A s.heap H locs → ∀ ls : Array Slot, lv_has ls 7 [(0, .ref w0), (1, .long pk), (3, .int x_4), (4, .int x4)] → W p l e ({ frames := 3, cells := 0, slots := 0, locals := 85 }) s m ([.ref w0, .long pk] : List Value).toArray below meth c H locs 0 0 (MQ below (q_X10_numberOf dC dI cB cC cI cJ cZ cP w0 f_source i_length i_count f_kinds f_places f_values f_notes f_meanings f_names f_slots i_strings nm nf sf pk A) ([.ref w0, .long pk] : List Value).toArray s 0 0 A) (F0 m 17 ls []) := by
    intro fu
    induction fu with
    | zero => intro x4  hfu; exact absurd hfu (Nat.not_lt_zero _)
    | succ fu ih =>
      intro x4  hfu H locs hP hD hS ls hl
      refine lv_iload hx hb dX10_numberOf_17 (lv_at hl 3 rfl) ?_
      refine lv_sipush (v := 8192) hx hb dX10_numberOf_19 (by decide +kernel) ?_
      refine lv_icmp_ge (tgt := 92) hx hb dX10_numberOf_22 (by decide) (fun c_6 => ?_) (fun c_6 => ?_)
      · refine lv_iconst (v := 0) hx hb dX10_numberOf_92 (by decide +kernel) ?_
        have hP9 := hP.sub (ws' := [(w0, .inr (10, [.ref f_source, .int i_length, .int i_count, .ref f_kinds, .ref f_places, .ref f_values, .ref f_notes, .ref f_meanings, .ref f_names, .ref f_slots, .int nm, .int i_strings])), (f_names, .inl (cJ, 4500, .inr (.inl nf))), (f_slots, .inl (cI, 8192, .inl sf))]) [0, 1, 2] rfl
        have hD9 := hD.sub (ws' := [(w0, .inr (10, [.ref f_source, .int i_length, .int i_count, .ref f_kinds, .ref f_places, .ref f_values, .ref f_notes, .ref f_meanings, .ref f_names, .ref f_slots, .int nm, .int i_strings])), (f_names, .inl (cJ, 4500, .inr (.inl nf))), (f_slots, .inl (cI, 8192, .inl sf))]) [0, 1, 2] (by decide +kernel) rfl
        refine W.widen (k := 0) (n := 0) (Nat.le_of_ble_eq_true rfl) (Nat.le_of_ble_eq_true rfl) ?_
        exact W.iret (v := 0) hx hb hr (fun t ht hW => ⟨⟨0, (nm, nf, sf), rfl, ((by assumption)), by rw [ht]; exact hP9, hD9⟩, hS.F ht⟩) hS.2.2 dX10_numberOf_93
      · refine lv_iload_n hx hb dX10_numberOf_25 rfl (lv_at hl 2 rfl) ?_
        refine lv_iload hx hb dX10_numberOf_26 (lv_at hl 3 rfl) ?_
        refine lv_iadd hx hb dX10_numberOf_28 ?_
        refine lv_topi (fun x_7 ex_7 => ?_)
        refine lv_sipush (v := 8191) hx hb dX10_numberOf_29 (by decide +kernel) ?_
        refine lv_iand hx hb dX10_numberOf_32 ?_
        refine lv_topi (fun x_8 ex_8 => ?_)
        refine lv_istore (lv' := [(5, .int x_8), (0, .ref w0), (1, .long pk), (3, .int x_4), (4, .int x4)]) hx hb dX10_numberOf_33 hl (by decide) rfl (fun ls hl => ?_)
        refine lv_aload_n hx hb dX10_numberOf_35 rfl (lv_at hl 1 rfl) ?_
        refine va_get (D := (dC, dI)) (ci := 10) (v := .ref f_slots) (C := RX10) (T := TX10) (N := 12) hx hb hts ii_X10 hown hK hP 0 rfl rfl 9 (by decide) (hts (.fieldLink RX10 35 "StoryHouse$Words" "slots" "[I") wq_59) (fun _ h9 => h9) rfl dX10_numberOf_36 ?_
        refine lv_iload hx hb dX10_numberOf_39 (lv_at hl 0 rfl) ?_
        have hPc := hP.sub (ws' := [(f_slots, .inl (cI, 8192, .inl sf))]) [2] rfl
        have hDc := hD.sub (ws' := [(f_slots, .inl (cI, 8192, .inl sf))]) [2] (by decide +kernel) rfl
        have hFc := va_free (wc := [(f_slots, .inl (cI, 8192, .inl sf))]) hD hS hA [2] rfl
        refine g_ofi (wc := [(f_slots, .inl (cI, 8192, .inl sf))]) (wr := [(w0, .inr (10, [.ref f_source, .int i_length, .int i_count, .ref f_kinds, .ref f_places, .ref f_values, .ref f_notes, .ref f_meanings, .ref f_names, .ref f_slots, .int nm, .int i_strings])), (f_names, .inl (cJ, 4500, .inr (.inl nf)))]) hP hD hS hFc [2] [0, 1] rfl rfl (by decide +kernel) (by decide +kernel) (va_runSN (As := [.ref f_slots, .int x_8]) (rest := []) ⟨hx, hb, hml, hown, hts⟩ (c_X11_at l dC dI cB cC cI cJ cZ cP H.size f_slots x_8 8192 sf (by decide)) ⟨va_cnB 2 hts (g_gA wq_407) rfl rfl rfl (hN.at 9 rfl) (hts (.initialized RX11) wq_1) (by decide +kernel) ⟨Nat.le_of_ble_eq_true rfl, Nat.le_of_ble_eq_true rfl⟩, (hts (.static yX11_at) wq_406), trivial⟩ (g_preS g_bl0 hK hPc hDc hS hE hFc g_to0) rfl rfl hl.1 rfl (lv_room (Nat.le_of_ble_eq_true rfl)) dX10_numberOf_41 ⟨Nat.le_of_ble_eq_true rfl, Nat.le_of_ble_eq_true rfl⟩) (fun r_11 u_10 H_12 locs w_9 hP' hD' hS' => ?_)
        clear hPc hDc hFc
        have w_9 : r_11 = g_at 8192 sf x_8 := w_9
        replace hP : va_P (dC, dI) vwCl [(w0, .inr (10, [.ref f_source, .int i_length, .int i_count, .ref f_kinds, .ref f_places, .ref f_values, .ref f_notes, .ref f_meanings, .ref f_names, .ref f_slots, .int nm, .int i_strings])), (f_names, .inl (cJ, 4500, .inr (.inl nf))), (f_slots, .inl (cI, 8192, .inl sf))] H_12 := hP'
        replace hD : va_D A [(w0, .inr (10, [.ref f_source, .int i_length, .int i_count, .ref f_kinds, .ref f_places, .ref f_values, .ref f_notes, .ref f_meanings, .ref f_names, .ref f_slots, .int nm, .int i_strings])), (f_names, .inl (cJ, 4500, .inr (.inl nf))), (f_slots, .inl (cI, 8192, .inl sf))] := hD'
        replace hS := hS'
        clear hP' hD' hS'
        obtain rfl : (g_at 8192 sf x_8) = r_11 := (w_9).symm
        refine lv_iconst (v := 1) hx hb dX10_numberOf_44 (by decide +kernel) ?_
        refine lv_isub hx hb dX10_numberOf_45 ?_
        refine lv_topi (fun x_13 ex_13 => ?_)
        refine lv_istore (lv' := [(6, .int x_13), (5, .int x_8), (0, .ref w0), (1, .long pk), (3, .int x_4), (4, .int x4)]) hx hb dX10_numberOf_46 hl (by decide) rfl (fun ls hl => ?_)
        refine lv_iload hx hb dX10_numberOf_48 (lv_at hl 0 rfl) ?_
        refine lv_if_ge (tgt := 61) hx hb dX10_numberOf_50 (by decide) (fun c_14 => ?_) (fun c_14 => ?_)
        · refine lv_iload hx hb dX10_numberOf_61 (lv_at hl 0 rfl) ?_
          refine lv_aload_n hx hb dX10_numberOf_63 rfl (lv_at hl 2 rfl) ?_
          refine va_get (D := (dC, dI)) (ci := 10) (v := .ref f_names) (C := RX10) (T := TX10) (N := 12) hx hb hts ii_X10 hown hK hP 0 rfl rfl 8 (by decide) (hts (.fieldLink RX10 31 "StoryHouse$Words" "names" "[J") wq_58) (fun _ h9 => h9) rfl dX10_numberOf_64 ?_
          refine va_alen (v := 4500) hx hb hK hP 1 3 rfl rfl (by first | rfl | decide +kernel) dX10_numberOf_67 ?_
          refine lv_icmp_ge (tgt := 86) hx hb dX10_numberOf_68 (by decide) (fun c_15 => ?_) (fun c_15 => ?_)
          · obtain ⟨x_16, ex_16⟩ : ∃ y : Int32, y = x4 + 1 := ⟨_, rfl⟩
            refine lv_iinc (v := x_16) (lv' := [(4, .int x_16), (6, .int x_13), (5, .int x_8), (0, .ref w0), (1, .long pk), (3, .int x_4)]) hx hb dX10_numberOf_86 hl (k := 5) rfl (by rw [ex_16]; rfl) (by decide) rfl (fun ls hl => ?_)
            refine lv_goto (tgt := 17) hx hb dX10_numberOf_89 (by decide) ?_
            exact ih x_16  (Nat.lt_of_lt_of_le (g_mu (by assumption) ex_16) (Nat.le_of_lt_succ hfu)) _ _ hP hD hS ls (lv_sub hl [3, 4, 5, 0] rfl)
          · refine lv_aload_n hx hb dX10_numberOf_71 rfl (lv_at hl 2 rfl) ?_
            refine va_get (D := (dC, dI)) (ci := 10) (v := .ref f_names) (C := RX10) (T := TX10) (N := 12) hx hb hts ii_X10 hown hK hP 0 rfl rfl 8 (by decide) (hts (.fieldLink RX10 31 "StoryHouse$Words" "names" "[J") wq_58) (fun _ h9 => h9) rfl dX10_numberOf_72 ?_
            refine lv_iload hx hb dX10_numberOf_75 (lv_at hl 0 rfl) ?_
            refine va_lald hx hb hK hP 1 3 rfl rfl (g_inL (N := 4500) (by decide +kernel) (by first | assumption | exact Int32.not_lt.mpr (by assumption)) (by assumption)) dX10_numberOf_77 ?_
            refine lv_topl (fun y_17 ey_17 => ?_)
            refine lv_lload_n hx hb dX10_numberOf_78 rfl (lv_at hl 3 rfl) ?_
            refine W.lcmp hx hb dX10_numberOf_79 ?_
            refine lv_topi (fun x_18 ex_18 => ?_)
            refine lv_if_ne (tgt := 86) hx hb dX10_numberOf_80 (by decide) (fun c_19 => ?_) (fun c_19 => ?_)
            · obtain ⟨x_20, ex_20⟩ : ∃ y : Int32, y = x4 + 1 := ⟨_, rfl⟩
              refine lv_iinc (v := x_20) (lv' := [(4, .int x_20), (6, .int x_13), (5, .int x_8), (0, .ref w0), (1, .long pk), (3, .int x_4)]) hx hb dX10_numberOf_86 hl (k := 5) rfl (by rw [ex_20]; rfl) (by decide) rfl (fun ls hl => ?_)
              refine lv_goto (tgt := 17) hx hb dX10_numberOf_89 (by decide) ?_
              exact ih x_20  (Nat.lt_of_lt_of_le (g_mu (by assumption) ex_20) (Nat.le_of_lt_succ hfu)) _ _ hP hD hS ls (lv_sub hl [3, 4, 5, 0] rfl)
            · refine lv_iload hx hb dX10_numberOf_83 (lv_at hl 0 rfl) ?_
              have hP9 := hP.sub (ws' := [(w0, .inr (10, [.ref f_source, .int i_length, .int i_count, .ref f_kinds, .ref f_places, .ref f_values, .ref f_notes, .ref f_meanings, .ref f_names, .ref f_slots, .int nm, .int i_strings])), (f_names, .inl (cJ, 4500, .inr (.inl nf))), (f_slots, .inl (cI, 8192, .inl sf))]) [0, 1, 2] rfl
              have hD9 := hD.sub (ws' := [(w0, .inr (10, [.ref f_source, .int i_length, .int i_count, .ref f_kinds, .ref f_places, .ref f_values, .ref f_notes, .ref f_meanings, .ref f_names, .ref f_slots, .int nm, .int i_strings])), (f_names, .inl (cJ, 4500, .inr (.inl nf))), (f_slots, .inl (cI, 8192, .inl sf))]) [0, 1, 2] (by decide +kernel) rfl
              refine W.widen (k := 0) (n := 0) (Nat.le_of_ble_eq_true rfl) (Nat.le_of_ble_eq_true rfl) ?_
              exact W.iret (v := x_13) hx hb hr (fun t ht hW => ⟨⟨x_13, (nm, nf, sf), rfl, ((by assumption)), by rw [ht]; exact hP9, hD9⟩, hS.F ht⟩) hS.2.2 dX10_numberOf_85
        · refine lv_aload_n hx hb dX10_numberOf_53 rfl (lv_at hl 2 rfl) ?_
          refine lv_iload hx hb dX10_numberOf_54 (lv_at hl 1 rfl) ?_
          refine lv_lload_n hx hb dX10_numberOf_56 rfl (lv_at hl 3 rfl) ?_
          have hPc := hP.sub (ws' := [(w0, .inr (10, [.ref f_source, .int i_length, .int i_count, .ref f_kinds, .ref f_places, .ref f_values, .ref f_notes, .ref f_meanings, .ref f_names, .ref f_slots, .int nm, .int i_strings])), (f_names, .inl (cJ, 4500, .inr (.inl nf))), (f_slots, .inl (cI, 8192, .inl sf))]) [0, 1, 2] rfl
          have hDc := hD.sub (ws' := [(w0, .inr (10, [.ref f_source, .int i_length, .int i_count, .ref f_kinds, .ref f_places, .ref f_values, .ref f_notes, .ref f_meanings, .ref f_names, .ref f_slots, .int nm, .int i_strings])), (f_names, .inl (cJ, 4500, .inr (.inl nf))), (f_slots, .inl (cI, 8192, .inl sf))]) [0, 1, 2] (by decide +kernel) rfl
          have hFc := va_free (wc := [(w0, .inr (10, [.ref f_source, .int i_length, .int i_count, .ref f_kinds, .ref f_places, .ref f_values, .ref f_notes, .ref f_meanings, .ref f_names, .ref f_slots, .int nm, .int i_strings])), (f_names, .inl (cJ, 4500, .inr (.inl nf))), (f_slots, .inl (cI, 8192, .inl sf))]) hD hS hA [0, 1, 2] rfl
          refine g_ofi (wc := [(w0, .inr (10, [.ref f_source, .int i_length, .int i_count, .ref f_kinds, .ref f_places, .ref f_values, .ref f_notes, .ref f_meanings, .ref f_names, .ref f_slots, .int nm, .int i_strings])), (f_names, .inl (cJ, 4500, .inr (.inl nf))), (f_slots, .inl (cI, 8192, .inl sf))]) (wr := []) hP hD hS hFc [0, 1, 2] [] rfl rfl (by decide +kernel) (by decide +kernel) (va_runV (As := [.int x_8, .long pk]) (rest := []) ⟨hx, hb, hml, hown, hts⟩ (c_X10_rememberName l dC dI cB cC cI cJ cZ cP H_12.size w0 f_source i_length i_count f_kinds f_places f_values f_notes f_meanings f_names f_slots i_strings nm nf sf x_8 pk (by first | assumption | decide +kernel)) (cwV 2 hts (g_gV wq_408 wq_409 wq_1980 wq_2 wq_410) rfl rfl rfl (by decide +kernel) ⟨Nat.le_of_ble_eq_true rfl, Nat.le_of_ble_eq_true rfl⟩) (g_preV g_bl0 hK hPc hDc hS hE hFc g_to0 (q0 := 0) (ci := 10) rfl rfl) rfl rfl hl.1 rfl (lv_room (Nat.le_of_ble_eq_true rfl)) dX10_numberOf_57 ⟨Nat.le_of_ble_eq_true rfl, Nat.le_of_ble_eq_true rfl⟩) (fun r_23 u_22 H_24 locs w_21 hP' hD' hS' => ?_)
          clear hPc hDc hFc
          obtain ⟨o_25, o_26, o_27⟩ := u_22
          have w_21 : ¬ o_25 < 0 := w_21
          replace hP : va_P (dC, dI) vwCl [(w0, .inr (10, [.ref f_source, .int i_length, .int i_count, .ref f_kinds, .ref f_places, .ref f_values, .ref f_notes, .ref f_meanings, .ref f_names, .ref f_slots, .int o_25, .int i_strings])), (f_names, .inl (cJ, 4500, .inr (.inl o_26))), (f_slots, .inl (cI, 8192, .inl o_27))] H_24 := hP'
          replace hD : va_D A [(w0, .inr (10, [.ref f_source, .int i_length, .int i_count, .ref f_kinds, .ref f_places, .ref f_values, .ref f_notes, .ref f_meanings, .ref f_names, .ref f_slots, .int o_25, .int i_strings])), (f_names, .inl (cJ, 4500, .inr (.inl o_26))), (f_slots, .inl (cI, 8192, .inl o_27))] := hD'
          replace hS := hS'
          clear hP' hD' hS'
          have hP9 := hP.sub (ws' := [(w0, .inr (10, [.ref f_source, .int i_length, .int i_count, .ref f_kinds, .ref f_places, .ref f_values, .ref f_notes, .ref f_meanings, .ref f_names, .ref f_slots, .int o_25, .int i_strings])), (f_names, .inl (cJ, 4500, .inr (.inl o_26))), (f_slots, .inl (cI, 8192, .inl o_27))]) [0, 1, 2] rfl
          have hD9 := hD.sub (ws' := [(w0, .inr (10, [.ref f_source, .int i_length, .int i_count, .ref f_kinds, .ref f_places, .ref f_values, .ref f_notes, .ref f_meanings, .ref f_names, .ref f_slots, .int o_25, .int i_strings])), (f_names, .inl (cJ, 4500, .inr (.inl o_26))), (f_slots, .inl (cI, 8192, .inl o_27))]) [0, 1, 2] (by decide +kernel) rfl
          refine W.widen (k := 0) (n := 0) (Nat.le_of_ble_eq_true rfl) (Nat.le_of_ble_eq_true rfl) ?_
          exact W.iret (v := r_23) hx hb hr (fun t ht hW => ⟨⟨r_23, (o_25, o_26, o_27), rfl, ((by assumption)), by rw [ht]; exact hP9, hD9⟩, hS.F ht⟩) hS.2.2 dX10_numberOf_60
  exact LOOP_5 _ 0  (Nat.lt_succ_self _) _ _ hP hD hS ls (lv_sub hl [2, 3, 1, 0] rfl)

abbrev ww_X10_learn (cB cC cI cJ cZ cP : ClassId) (w0 : Nat) (f_source : Nat) (i_length : Int32) (i_count : Int32) (f_kinds : Nat) (f_places : Nat) (f_values : Nat) (f_notes : Nat) (f_meanings : Nat) (f_names : Nat) (f_slots : Nat) (i_strings : Int32) (nm : Int32) (nf : Nat → Int64) (sf : Nat → Int32) (q : Nat) (v : Nat) (byt : List Int32) : va_W := [(w0, .inr (10, [.ref f_source, .int i_length, .int i_count, .ref f_kinds, .ref f_places, .ref f_values, .ref f_notes, .ref f_meanings, .ref f_names, .ref f_slots, .int nm, .int i_strings])), (f_names, .inl (cJ, 4500, .inr (.inl nf))), (f_slots, .inl (cI, 8192, .inl sf))]
abbrev q_X10_learn (dC : Nat → ClassId) (dI : Nat → Nat → Nat) (cB cC cI cJ cZ cP : ClassId) (w0 : Nat) (f_source : Nat) (i_length : Int32) (i_count : Int32) (f_kinds : Nat) (f_places : Nat) (f_values : Nat) (f_notes : Nat) (f_meanings : Nat) (f_names : Nat) (f_slots : Nat) (i_strings : Int32) (nm : Int32) (nf : Nat → Int64) (sf : Nat → Int32) (q : Nat) (v : Nat) (byt : List Int32) (A : Nat → Prop) : Array Value → State → Outcome → State → Prop := va_Qv (fun (u : Int32 × (Nat → Int64) × (Nat → Int32)) => match u with | (nm2, nf2, sf2) => ¬ nm2 < 0) (g_Bo (dC, dI) A (fun (u : Int32 × (Nat → Int64) × (Nat → Int32)) => match u with | (nm2, nf2, sf2) => [(w0, .inr (10, [.ref f_source, .int i_length, .int i_count, .ref f_kinds, .ref f_places, .ref f_values, .ref f_notes, .ref f_meanings, .ref f_names, .ref f_slots, .int nm2, .int i_strings])), (f_names, .inl (cJ, 4500, .inr (.inl nf2))), (f_slots, .inl (cI, 8192, .inl sf2))])) A
set_option maxHeartbeats 4000000 in
set_option maxRecDepth 100000 in
theorem c_X10_learn (l : Launch) (dC : Nat → ClassId) (dI : Nat → Nat → Nat) (cB cC cI cJ cZ cP : ClassId) (sz : Nat) (w0 : Nat) (f_source : Nat) (i_length : Int32) (i_count : Int32) (f_kinds : Nat) (f_places : Nat) (f_values : Nat) (f_notes : Nat) (f_meanings : Nat) (f_names : Nat) (f_slots : Nat) (i_strings : Int32) (nm : Int32) (nf : Nat → Int64) (sf : Nat → Int32) (q : Nat) (v : Nat) (byt : List Int32) (hnm : ¬ nm < 0) : Met l yX10_learn (g_ws yX10_learn cX10_learn 5 none) ({ frames := 6, cells := 0, slots := 0, locals := 153 }) (va_Pc [.ref w0, .ref q] (g_B (dC, dI) [(cB, .byte), (cC, .char), (cI, .int), (cJ, .long), (cZ, .boolean), (cP, .object "StoryHouse$Play")] sz (ww_X10_learn cB cC cI cJ cZ cP w0 f_source i_length i_count f_kinds f_places f_values f_notes f_meanings f_names f_slots i_strings nm nf sf q v byt) ((fun U : State => g_S q v byt (va_A (ww_X10_learn cB cC cI cJ cZ cP w0 f_source i_length i_count f_kinds f_places f_values f_notes f_meanings f_names f_slots i_strings nm nf sf q v byt) sz) U U.heap)))) (q_X10_learn dC dI cB cC cI cJ cZ cP w0 f_source i_length i_count f_kinds f_places f_values f_notes f_meanings f_names f_slots i_strings nm nf sf q v byt (va_A (ww_X10_learn cB cC cI cJ cZ cP w0 f_source i_length i_count f_kinds f_places f_values f_notes f_meanings f_names f_slots i_strings nm nf sf q v byt) sz)) 0 0 (va_A (ww_X10_learn cB cC cI cJ cZ cP w0 f_source i_length i_count f_kinds f_places f_values f_notes f_meanings f_names f_slots i_strings nm nf sf q v byt) sz) := by
  refine Met.ofW (cc := cX10_learn) (maxL := 5) (ret := none) (by decide) rfl ?_
  intro p e s m args below meth c s₁ B hml hv
  obtain ⟨rfl, hsz, hP, hK, hD0, hE, hX⟩ := hv
  have hx := B.exec
  have hb := B.bytes
  have hr := B.returns
  have hts0 := atoms_spec (ws := (g_ws yX10_learn cX10_learn 5 none)) B.pre
  have hts : ∀ w ∈ lw_good, w.before ([.ref w0, .ref q] : List Value).toArray s = true := fun w h => hts0 w (List.mem_cons_of_mem _ h)
  have hown : s.vm.findClass RX10 = some m.cls := findClass_of_methodNamed B.named
  have hlocks := B.notSynchronized
  subst hsz
  have hD := hD0.self (sz := s.heap.size)
  generalize hAe : va_A (ww_X10_learn cB cC cI cJ cZ cP w0 f_source i_length i_count f_kinds f_places f_values f_notes f_meanings f_names f_slots i_strings nm nf sf q v byt) s.heap.size = A at hD hE hX ⊢
  have hA : ∀ q : Nat, s.heap.size ≤ q → A q := fun q h => by rw [← hAe]; exact Or.inr h
  have hN := hE.1
  have hS : va_S A s.heap s.heap [] := va_S.rf
  have hP : va_P (dC, dI) vwCl [(w0, .inr (10, [.ref f_source, .int i_length, .int i_count, .ref f_kinds, .ref f_places, .ref f_values, .ref f_notes, .ref f_meanings, .ref f_names, .ref f_slots, .int nm, .int i_strings])), (f_names, .inl (cJ, 4500, .inr (.inl nf))), (f_slots, .inl (cI, 8192, .inl sf))] s.heap := hP
  have hl := lv_entry ([.ref w0, .ref q]) (n := 5) (Nat.le_of_ble_eq_true rfl)
  rw [lg_entry_eq]
  generalize (lg_sl ([.ref w0, .ref q]) ++ List.replicate (5 - (lg_sl ([.ref w0, .ref q])).length) Slot.unset).toArray = ls at hl ⊢
  have hl : lv_has ls 5 [(0, .ref w0), (1, .ref q)] := hl
  have hStr : g_S q v byt A s s.heap := hX
  refine lv_iconst (v := 0) hx hb dX10_learn_0 (by decide +kernel) ?_
  refine lv_istore_n (lv' := [(2, .int 0), (0, .ref w0), (1, .ref q)]) hx hb dX10_learn_1 rfl hl (by decide) rfl (fun ls hl => ?_)
  refine lv_iconst (v := 0) hx hb dX10_learn_2 (by decide +kernel) ?_
  refine lv_istore_n (lv' := [(3, .int 0), (2, .int 0), (0, .ref w0), (1, .ref q)]) hx hb dX10_learn_3 rfl hl (by decide) rfl (fun ls hl => ?_)
  have LOOP_1 : ∀ (fu : Nat) (x2 : Int32) (x3 : Int32) (nm1 : Int32) (nf1 : Nat → Int64) (sf1 : Nat → Int32) (hnm1 : ¬ nm1 < 0) (hfu : ((Int32.ofNat byt.length).toInt - x3.toInt).toNat < fu) (H : Heap) (locs : List Loc), va_P (dC, dI) vwCl [(w0, .inr (10, [.ref f_source, .int i_length, .int i_count, .ref f_kinds, .ref f_places, .ref f_values, .ref f_notes, .ref f_meanings, .ref f_names, .ref f_slots, .int nm1, .int i_strings])), (f_names, .inl (cJ, 4500, .inr (.inl nf1))), (f_slots, .inl (cI, 8192, .inl sf1))] H → va_D A [(w0, .inr (10, [.ref f_source, .int i_length, .int i_count, .ref f_kinds, .ref f_places, .ref f_values, .ref f_notes, .ref f_meanings, .ref f_names, .ref f_slots, .int nm1, .int i_strings])), (f_names, .inl (cJ, 4500, .inr (.inl nf1))), (f_slots, .inl (cI, 8192, .inl sf1))] → va_S A s.heap H locs → ∀ ls : Array Slot, lv_has ls 5 [(0, .ref w0), (1, .ref q), (2, .int x2), (3, .int x3)] → W p l e ({ frames := 6, cells := 0, slots := 0, locals := 153 }) s m ([.ref w0, .ref q] : List Value).toArray below meth c H locs 0 0 (MQ below (q_X10_learn dC dI cB cC cI cJ cZ cP w0 f_source i_length i_count f_kinds f_places f_values f_notes f_meanings f_names f_slots i_strings nm nf sf q v byt A) ([.ref w0, .ref q] : List Value).toArray s 0 0 A) (F0 m 4 ls []) := by
    intro fu
    induction fu with
    | zero => intro x2 x3 nm1 nf1 sf1 hnm1 hfu; exact absurd hfu (Nat.not_lt_zero _)
    | succ fu ih =>
      intro x2 x3 nm1 nf1 sf1 hnm1 hfu H locs hP hD hS ls hl
      refine lv_iload_n hx hb dX10_learn_4 rfl (lv_at hl 3 rfl) ?_
      refine lv_aload_n hx hb dX10_learn_5 rfl (lv_at hl 1 rfl) ?_
      have hPc := hP.sub (ws' := []) [] rfl
      have hDc := hD.sub (ws' := []) [] (by decide +kernel) rfl
      have hFc := va_free (wc := []) hD hS hA [] rfl
      refine g_ofi (wc := []) (wr := [(w0, .inr (10, [.ref f_source, .int i_length, .int i_count, .ref f_kinds, .ref f_places, .ref f_values, .ref f_notes, .ref f_meanings, .ref f_names, .ref f_slots, .int nm1, .int i_strings])), (f_names, .inl (cJ, 4500, .inr (.inl nf1))), (f_slots, .inl (cI, 8192, .inl sf1))]) hP hD hS hFc [] [0, 1, 2] rfl rfl (by decide +kernel) (by decide +kernel) (va_runV (As := []) (rest := [.int x3]) ⟨hx, hb, hml, hown, hts⟩ (c_J0_length_8abf5 l dC dI cB cC cI cJ cZ cP H.size q v byt ) (cwV 0 hts (g_gV wq_345 wq_346 wq_347 wq_22 wq_348) rfl rfl rfl (by decide +kernel) ⟨Nat.le_of_ble_eq_true rfl, Nat.le_of_ble_eq_true rfl⟩) (g_preVs g_blS hK hPc hDc hS hE hFc (g_toS hStr hS hFc) (va_Orecv hStr.1 hS)) rfl rfl hl.1 rfl (lv_room (Nat.le_of_ble_eq_true rfl)) dX10_learn_6 ⟨Nat.le_of_ble_eq_true rfl, Nat.le_of_ble_eq_true rfl⟩) (fun r_4 u_3 H_5 locs w_2 hP' hD' hS' => ?_)
      clear hPc hDc hFc
      have w_2 : r_4 = Int32.ofNat byt.length := w_2
      replace hP : va_P (dC, dI) vwCl [(w0, .inr (10, [.ref f_source, .int i_length, .int i_count, .ref f_kinds, .ref f_places, .ref f_values, .ref f_notes, .ref f_meanings, .ref f_names, .ref f_slots, .int nm1, .int i_strings])), (f_names, .inl (cJ, 4500, .inr (.inl nf1))), (f_slots, .inl (cI, 8192, .inl sf1))] H_5 := hP'
      replace hD : va_D A [(w0, .inr (10, [.ref f_source, .int i_length, .int i_count, .ref f_kinds, .ref f_places, .ref f_values, .ref f_notes, .ref f_meanings, .ref f_names, .ref f_slots, .int nm1, .int i_strings])), (f_names, .inl (cJ, 4500, .inr (.inl nf1))), (f_slots, .inl (cI, 8192, .inl sf1))] := hD'
      replace hS := hS'
      clear hP' hD' hS'
      obtain rfl : (Int32.ofNat byt.length) = r_4 := (w_2).symm
      refine lv_icmp_ge (tgt := 52) hx hb dX10_learn_9 (by decide) (fun c_6 => ?_) (fun c_6 => ?_)
      · have hP9 := hP.sub (ws' := [(w0, .inr (10, [.ref f_source, .int i_length, .int i_count, .ref f_kinds, .ref f_places, .ref f_values, .ref f_notes, .ref f_meanings, .ref f_names, .ref f_slots, .int nm1, .int i_strings])), (f_names, .inl (cJ, 4500, .inr (.inl nf1))), (f_slots, .inl (cI, 8192, .inl sf1))]) [0, 1, 2] rfl
        have hD9 := hD.sub (ws' := [(w0, .inr (10, [.ref f_source, .int i_length, .int i_count, .ref f_kinds, .ref f_places, .ref f_values, .ref f_notes, .ref f_meanings, .ref f_names, .ref f_slots, .int nm1, .int i_strings])), (f_names, .inl (cJ, 4500, .inr (.inl nf1))), (f_slots, .inl (cI, 8192, .inl sf1))]) [0, 1, 2] (by decide +kernel) rfl
        refine W.widen (k := 0) (n := 0) (Nat.le_of_ble_eq_true rfl) (Nat.le_of_ble_eq_true rfl) ?_
        exact W.vret hx hb hr (fun t ht hW => ⟨⟨(nm1, nf1, sf1), rfl, (hnm1), by rw [ht]; exact hP9, hD9⟩, hS.F ht⟩) hS.2.2 dX10_learn_52
      · refine lv_iload_n hx hb dX10_learn_12 rfl (lv_at hl 2 rfl) ?_
        refine lv_aload_n hx hb dX10_learn_13 rfl (lv_at hl 1 rfl) ?_
        have hPc := hP.sub (ws' := []) [] rfl
        have hDc := hD.sub (ws' := []) [] (by decide +kernel) rfl
        have hFc := va_free (wc := []) hD hS hA [] rfl
        refine g_ofi (wc := []) (wr := [(w0, .inr (10, [.ref f_source, .int i_length, .int i_count, .ref f_kinds, .ref f_places, .ref f_values, .ref f_notes, .ref f_meanings, .ref f_names, .ref f_slots, .int nm1, .int i_strings])), (f_names, .inl (cJ, 4500, .inr (.inl nf1))), (f_slots, .inl (cI, 8192, .inl sf1))]) hP hD hS hFc [] [0, 1, 2] rfl rfl (by decide +kernel) (by decide +kernel) (va_runV (As := []) (rest := [.int x2]) ⟨hx, hb, hml, hown, hts⟩ (c_J0_length_8abf5 l dC dI cB cC cI cJ cZ cP H_5.size q v byt ) (cwV 0 hts (g_gV wq_345 wq_346 wq_347 wq_22 wq_348) rfl rfl rfl (by decide +kernel) ⟨Nat.le_of_ble_eq_true rfl, Nat.le_of_ble_eq_true rfl⟩) (g_preVs g_blS hK hPc hDc hS hE hFc (g_toS hStr hS hFc) (va_Orecv hStr.1 hS)) rfl rfl hl.1 rfl (lv_room (Nat.le_of_ble_eq_true rfl)) dX10_learn_14 ⟨Nat.le_of_ble_eq_true rfl, Nat.le_of_ble_eq_true rfl⟩) (fun r_9 u_8 H_10 locs w_7 hP' hD' hS' => ?_)
        clear hPc hDc hFc
        have w_7 : r_9 = Int32.ofNat byt.length := w_7
        replace hP : va_P (dC, dI) vwCl [(w0, .inr (10, [.ref f_source, .int i_length, .int i_count, .ref f_kinds, .ref f_places, .ref f_values, .ref f_notes, .ref f_meanings, .ref f_names, .ref f_slots, .int nm1, .int i_strings])), (f_names, .inl (cJ, 4500, .inr (.inl nf1))), (f_slots, .inl (cI, 8192, .inl sf1))] H_10 := hP'
        replace hD : va_D A [(w0, .inr (10, [.ref f_source, .int i_length, .int i_count, .ref f_kinds, .ref f_places, .ref f_values, .ref f_notes, .ref f_meanings, .ref f_names, .ref f_slots, .int nm1, .int i_strings])), (f_names, .inl (cJ, 4500, .inr (.inl nf1))), (f_slots, .inl (cI, 8192, .inl sf1))] := hD'
        replace hS := hS'
        clear hP' hD' hS'
        obtain rfl : (Int32.ofNat byt.length) = r_9 := (w_7).symm
        refine lv_icmp_ge (tgt := 52) hx hb dX10_learn_17 (by decide) (fun c_11 => ?_) (fun c_11 => ?_)
        · have hP9 := hP.sub (ws' := [(w0, .inr (10, [.ref f_source, .int i_length, .int i_count, .ref f_kinds, .ref f_places, .ref f_values, .ref f_notes, .ref f_meanings, .ref f_names, .ref f_slots, .int nm1, .int i_strings])), (f_names, .inl (cJ, 4500, .inr (.inl nf1))), (f_slots, .inl (cI, 8192, .inl sf1))]) [0, 1, 2] rfl
          have hD9 := hD.sub (ws' := [(w0, .inr (10, [.ref f_source, .int i_length, .int i_count, .ref f_kinds, .ref f_places, .ref f_values, .ref f_notes, .ref f_meanings, .ref f_names, .ref f_slots, .int nm1, .int i_strings])), (f_names, .inl (cJ, 4500, .inr (.inl nf1))), (f_slots, .inl (cI, 8192, .inl sf1))]) [0, 1, 2] (by decide +kernel) rfl
          refine W.widen (k := 0) (n := 0) (Nat.le_of_ble_eq_true rfl) (Nat.le_of_ble_eq_true rfl) ?_
          exact W.vret hx hb hr (fun t ht hW => ⟨⟨(nm1, nf1, sf1), rfl, (hnm1), by rw [ht]; exact hP9, hD9⟩, hS.F ht⟩) hS.2.2 dX10_learn_52
        · refine lv_aload_n hx hb dX10_learn_20 rfl (lv_at hl 1 rfl) ?_
          refine lv_iload_n hx hb dX10_learn_21 rfl (lv_at hl 2 rfl) ?_
          have hPc := hP.sub (ws' := []) [] rfl
          have hDc := hD.sub (ws' := []) [] (by decide +kernel) rfl
          have hFc := va_free (wc := []) hD hS hA [] rfl
          refine g_ofi (wc := []) (wr := [(w0, .inr (10, [.ref f_source, .int i_length, .int i_count, .ref f_kinds, .ref f_places, .ref f_values, .ref f_notes, .ref f_meanings, .ref f_names, .ref f_slots, .int nm1, .int i_strings])), (f_names, .inl (cJ, 4500, .inr (.inl nf1))), (f_slots, .inl (cI, 8192, .inl sf1))]) hP hD hS hFc [] [0, 1, 2] rfl rfl (by decide +kernel) (by decide +kernel) (va_runSN (As := [.ref q, .int x2]) (rest := []) ⟨hx, hb, hml, hown, hts⟩ (c_X11_wordEnd l dC dI cB cC cI cJ cZ cP H_10.size q x2 v byt ) ⟨va_cnB 2 hts (g_gA wq_355) rfl rfl rfl (hN.at 7 rfl) (hts (.initialized RX11) wq_1) (by decide +kernel) ⟨Nat.le_of_ble_eq_true rfl, Nat.le_of_ble_eq_true rfl⟩, (hts (.static yX11_wordEnd) wq_354), trivial⟩ (g_preS g_blS hK hPc hDc hS hE hFc (g_toS hStr hS hFc)) rfl rfl hl.1 rfl (lv_room (Nat.le_of_ble_eq_true rfl)) dX10_learn_22 ⟨Nat.le_of_ble_eq_true rfl, Nat.le_of_ble_eq_true rfl⟩) (fun r_14 u_13 H_15 locs w_12 hP' hD' hS' => ?_)
          clear hPc hDc hFc
          have w_12 : True := w_12
          replace hP : va_P (dC, dI) vwCl [(w0, .inr (10, [.ref f_source, .int i_length, .int i_count, .ref f_kinds, .ref f_places, .ref f_values, .ref f_notes, .ref f_meanings, .ref f_names, .ref f_slots, .int nm1, .int i_strings])), (f_names, .inl (cJ, 4500, .inr (.inl nf1))), (f_slots, .inl (cI, 8192, .inl sf1))] H_15 := hP'
          replace hD : va_D A [(w0, .inr (10, [.ref f_source, .int i_length, .int i_count, .ref f_kinds, .ref f_places, .ref f_values, .ref f_notes, .ref f_meanings, .ref f_names, .ref f_slots, .int nm1, .int i_strings])), (f_names, .inl (cJ, 4500, .inr (.inl nf1))), (f_slots, .inl (cI, 8192, .inl sf1))] := hD'
          replace hS := hS'
          clear hP' hD' hS'
          refine lv_istore (lv' := [(4, .int r_14), (0, .ref w0), (1, .ref q), (2, .int x2), (3, .int x3)]) hx hb dX10_learn_25 hl (by decide) rfl (fun ls hl => ?_)
          refine lv_aload_n hx hb dX10_learn_27 rfl (lv_at hl 1 rfl) ?_
          refine lv_aload_n hx hb dX10_learn_28 rfl (lv_at hl 2 rfl) ?_
          refine lv_iload_n hx hb dX10_learn_29 rfl (lv_at hl 3 rfl) ?_
          refine lv_iload hx hb dX10_learn_30 (lv_at hl 0 rfl) ?_
          refine lv_bipush (v := 12) hx hb dX10_learn_32 (by decide +kernel) ?_
          have hPc := hP.sub (ws' := []) [] rfl
          have hDc := hD.sub (ws' := []) [] (by decide +kernel) rfl
          have hFc := va_free (wc := []) hD hS hA [] rfl
          refine g_ofl (wc := []) (wr := [(w0, .inr (10, [.ref f_source, .int i_length, .int i_count, .ref f_kinds, .ref f_places, .ref f_values, .ref f_notes, .ref f_meanings, .ref f_names, .ref f_slots, .int nm1, .int i_strings])), (f_names, .inl (cJ, 4500, .inr (.inl nf1))), (f_slots, .inl (cI, 8192, .inl sf1))]) hP hD hS hFc [] [0, 1, 2] rfl rfl (by decide +kernel) (by decide +kernel) (va_runSN (As := [.ref q, .int x2, .int r_14, .int 12]) (rest := [.ref w0]) ⟨hx, hb, hml, hown, hts⟩ (c_X11_packed l dC dI cB cC cI cJ cZ cP H_15.size q x2 r_14 12 v byt ) ⟨va_cnB 4 hts (g_gA wq_393) rfl rfl rfl (hN.at 8 rfl) (hts (.initialized RX11) wq_1) (by decide +kernel) ⟨Nat.le_of_ble_eq_true rfl, Nat.le_of_ble_eq_true rfl⟩, (hts (.static yX11_packed) wq_392), trivial⟩ (g_preS g_blS hK hPc hDc hS hE hFc (g_toS hStr hS hFc)) rfl rfl hl.1 rfl (lv_room (Nat.le_of_ble_eq_true rfl)) dX10_learn_34 ⟨Nat.le_of_ble_eq_true rfl, Nat.le_of_ble_eq_true rfl⟩) (fun y_18 u_17 H_19 locs w_16 hP' hD' hS' => ?_)
          clear hPc hDc hFc
          have w_16 : True := w_16
          replace hP : va_P (dC, dI) vwCl [(w0, .inr (10, [.ref f_source, .int i_length, .int i_count, .ref f_kinds, .ref f_places, .ref f_values, .ref f_notes, .ref f_meanings, .ref f_names, .ref f_slots, .int nm1, .int i_strings])), (f_names, .inl (cJ, 4500, .inr (.inl nf1))), (f_slots, .inl (cI, 8192, .inl sf1))] H_19 := hP'
          replace hD : va_D A [(w0, .inr (10, [.ref f_source, .int i_length, .int i_count, .ref f_kinds, .ref f_places, .ref f_values, .ref f_notes, .ref f_meanings, .ref f_names, .ref f_slots, .int nm1, .int i_strings])), (f_names, .inl (cJ, 4500, .inr (.inl nf1))), (f_slots, .inl (cI, 8192, .inl sf1))] := hD'
          replace hS := hS'
          clear hP' hD' hS'
          have hPc := hP.sub (ws' := [(w0, .inr (10, [.ref f_source, .int i_length, .int i_count, .ref f_kinds, .ref f_places, .ref f_values, .ref f_notes, .ref f_meanings, .ref f_names, .ref f_slots, .int nm1, .int i_strings])), (f_names, .inl (cJ, 4500, .inr (.inl nf1))), (f_slots, .inl (cI, 8192, .inl sf1))]) [0, 1, 2] rfl
          have hDc := hD.sub (ws' := [(w0, .inr (10, [.ref f_source, .int i_length, .int i_count, .ref f_kinds, .ref f_places, .ref f_values, .ref f_notes, .ref f_meanings, .ref f_names, .ref f_slots, .int nm1, .int i_strings])), (f_names, .inl (cJ, 4500, .inr (.inl nf1))), (f_slots, .inl (cI, 8192, .inl sf1))]) [0, 1, 2] (by decide +kernel) rfl
          have hFc := va_free (wc := [(w0, .inr (10, [.ref f_source, .int i_length, .int i_count, .ref f_kinds, .ref f_places, .ref f_values, .ref f_notes, .ref f_meanings, .ref f_names, .ref f_slots, .int nm1, .int i_strings])), (f_names, .inl (cJ, 4500, .inr (.inl nf1))), (f_slots, .inl (cI, 8192, .inl sf1))]) hD hS hA [0, 1, 2] rfl
          refine g_ofi (wc := [(w0, .inr (10, [.ref f_source, .int i_length, .int i_count, .ref f_kinds, .ref f_places, .ref f_values, .ref f_notes, .ref f_meanings, .ref f_names, .ref f_slots, .int nm1, .int i_strings])), (f_names, .inl (cJ, 4500, .inr (.inl nf1))), (f_slots, .inl (cI, 8192, .inl sf1))]) (wr := []) hP hD hS hFc [0, 1, 2] [] rfl rfl (by decide +kernel) (by decide +kernel) (va_runV (As := [.long y_18]) (rest := []) ⟨hx, hb, hml, hown, hts⟩ (c_X10_numberOf l dC dI cB cC cI cJ cZ cP H_19.size w0 f_source i_length i_count f_kinds f_places f_values f_notes f_meanings f_names f_slots i_strings nm1 nf1 sf1 y_18 (hnm1)) (cwV 1 hts (g_gV wq_401 wq_402 wq_403 wq_2 wq_404) rfl rfl rfl (by decide +kernel) ⟨Nat.le_of_ble_eq_true rfl, Nat.le_of_ble_eq_true rfl⟩) (g_preV g_bl0 hK hPc hDc hS hE hFc g_to0 (q0 := 0) (ci := 10) rfl rfl) rfl rfl hl.1 rfl (lv_room (Nat.le_of_ble_eq_true rfl)) dX10_learn_37 ⟨Nat.le_of_ble_eq_true rfl, Nat.le_of_ble_eq_true rfl⟩) (fun r_22 u_21 H_23 locs w_20 hP' hD' hS' => ?_)
          clear hPc hDc hFc
          obtain ⟨o_24, o_25, o_26⟩ := u_21
          have w_20 : ¬ o_24 < 0 := w_20
          replace hP : va_P (dC, dI) vwCl [(w0, .inr (10, [.ref f_source, .int i_length, .int i_count, .ref f_kinds, .ref f_places, .ref f_values, .ref f_notes, .ref f_meanings, .ref f_names, .ref f_slots, .int o_24, .int i_strings])), (f_names, .inl (cJ, 4500, .inr (.inl o_25))), (f_slots, .inl (cI, 8192, .inl o_26))] H_23 := hP'
          replace hD : va_D A [(w0, .inr (10, [.ref f_source, .int i_length, .int i_count, .ref f_kinds, .ref f_places, .ref f_values, .ref f_notes, .ref f_meanings, .ref f_names, .ref f_slots, .int o_24, .int i_strings])), (f_names, .inl (cJ, 4500, .inr (.inl o_25))), (f_slots, .inl (cI, 8192, .inl o_26))] := hD'
          replace hS := hS'
          clear hP' hD' hS'
          refine lv_pop hx hb dX10_learn_40 rfl ?_
          refine lv_iload hx hb dX10_learn_41 (lv_at hl 0 rfl) ?_
          refine lv_iconst (v := 1) hx hb dX10_learn_43 (by decide +kernel) ?_
          refine lv_iadd hx hb dX10_learn_44 ?_
          refine lv_topi (fun x_27 ex_27 => ?_)
          refine lv_istore_n (lv' := [(2, .int x_27), (4, .int r_14), (0, .ref w0), (1, .ref q), (3, .int x3)]) hx hb dX10_learn_45 rfl hl (by decide) rfl (fun ls hl => ?_)
          obtain ⟨x_28, ex_28⟩ : ∃ y : Int32, y = x3 + 1 := ⟨_, rfl⟩
          refine lv_iinc (v := x_28) (lv' := [(3, .int x_28), (2, .int x_27), (4, .int r_14), (0, .ref w0), (1, .ref q)]) hx hb dX10_learn_46 hl (k := 4) rfl (by rw [ex_28]; rfl) (by decide) rfl (fun ls hl => ?_)
          refine lv_goto (tgt := 4) hx hb dX10_learn_49 (by decide) ?_
          exact ih x_27 x_28 o_24 o_25 o_26 (by assumption) (Nat.lt_of_lt_of_le (g_mu (by assumption) ex_28) (Nat.le_of_lt_succ hfu)) _ _ hP hD hS ls (lv_sub hl [3, 4, 1, 0] rfl)
  exact LOOP_1 _ 0 0 nm nf sf hnm (Nat.lt_succ_self _) _ _ hP hD hS ls (lv_sub hl [2, 3, 1, 0] rfl)

abbrev ww_X10_skip (cB cC cI cJ cZ cP : ClassId) (w0 : Nat) (f_source : Nat) (f_kinds : Nat) (f_places : Nat) (f_values : Nat) (f_notes : Nat) (f_meanings : Nat) (f_names : Nat) (f_slots : Nat) (nm : Int32) : va_W := [(w0, .inr (10, [.ref f_source, .int 0, .int 0, .ref f_kinds, .ref f_places, .ref f_values, .ref f_notes, .ref f_meanings, .ref f_names, .ref f_slots, .int nm, .int 0]))]
abbrev q_X10_skip (dC : Nat → ClassId) (dI : Nat → Nat → Nat) (cB cC cI cJ cZ cP : ClassId) (w0 : Nat) (f_source : Nat) (f_kinds : Nat) (f_places : Nat) (f_values : Nat) (f_notes : Nat) (f_meanings : Nat) (f_names : Nat) (f_slots : Nat) (nm : Int32) (A : Nat → Prop) : Array Value → State → Outcome → State → Prop := va_Qi (fun (r : Int32) (_ : Unit) => r = 0) (g_Bo (dC, dI) A (fun (_ : Unit) => [(w0, .inr (10, [.ref f_source, .int 0, .int 0, .ref f_kinds, .ref f_places, .ref f_values, .ref f_notes, .ref f_meanings, .ref f_names, .ref f_slots, .int nm, .int 0]))])) A
set_option maxHeartbeats 4000000 in
set_option maxRecDepth 100000 in
theorem c_X10_skip (l : Launch) (dC : Nat → ClassId) (dI : Nat → Nat → Nat) (cB cC cI cJ cZ cP : ClassId) (sz : Nat) (w0 : Nat) (f_source : Nat) (f_kinds : Nat) (f_places : Nat) (f_values : Nat) (f_notes : Nat) (f_meanings : Nat) (f_names : Nat) (f_slots : Nat) (nm : Int32)  : Met l yX10_skip (g_ws yX10_skip cX10_skip 5 (some .int)) ({ frames := 1, cells := 0, slots := 0, locals := 40 }) (va_Pc [.ref w0, .int 0] (g_B (dC, dI) [(cB, .byte), (cC, .char), (cI, .int), (cJ, .long), (cZ, .boolean), (cP, .object "StoryHouse$Play")] sz (ww_X10_skip cB cC cI cJ cZ cP w0 f_source f_kinds f_places f_values f_notes f_meanings f_names f_slots nm) g_0)) (q_X10_skip dC dI cB cC cI cJ cZ cP w0 f_source f_kinds f_places f_values f_notes f_meanings f_names f_slots nm (va_A (ww_X10_skip cB cC cI cJ cZ cP w0 f_source f_kinds f_places f_values f_notes f_meanings f_names f_slots nm) sz)) 0 0 (va_A (ww_X10_skip cB cC cI cJ cZ cP w0 f_source f_kinds f_places f_values f_notes f_meanings f_names f_slots nm) sz) := by
  refine Met.ofW (cc := cX10_skip) (maxL := 5) (ret := (some .int)) (by decide) rfl ?_
  intro p e s m args below meth c s₁ B hml hv
  obtain ⟨rfl, hsz, hP, hK, hD0, hE, hX⟩ := hv
  have hx := B.exec
  have hb := B.bytes
  have hr := B.returns
  have hts0 := atoms_spec (ws := (g_ws yX10_skip cX10_skip 5 (some .int))) B.pre
  have hts : ∀ w ∈ lw_good, w.before ([.ref w0, .int 0] : List Value).toArray s = true := fun w h => hts0 w (List.mem_cons_of_mem _ h)
  have hown : s.vm.findClass RX10 = some m.cls := findClass_of_methodNamed B.named
  have hlocks := B.notSynchronized
  subst hsz
  have hD := hD0.self (sz := s.heap.size)
  generalize hAe : va_A (ww_X10_skip cB cC cI cJ cZ cP w0 f_source f_kinds f_places f_values f_notes f_meanings f_names f_slots nm) s.heap.size = A at hD hE hX ⊢
  have hA : ∀ q : Nat, s.heap.size ≤ q → A q := fun q h => by rw [← hAe]; exact Or.inr h
  have hN := hE.1
  have hS : va_S A s.heap s.heap [] := va_S.rf
  have hP : va_P (dC, dI) vwCl [(w0, .inr (10, [.ref f_source, .int 0, .int 0, .ref f_kinds, .ref f_places, .ref f_values, .ref f_notes, .ref f_meanings, .ref f_names, .ref f_slots, .int nm, .int 0]))] s.heap := hP
  have hl := lv_entry ([.ref w0, .int 0]) (n := 5) (Nat.le_of_ble_eq_true rfl)
  rw [lg_entry_eq]
  generalize (lg_sl ([.ref w0, .int 0]) ++ List.replicate (5 - (lg_sl ([.ref w0, .int 0])).length) Slot.unset).toArray = ls at hl ⊢
  have hl : lv_has ls 5 [(0, .ref w0), (1, .int 0)] := hl
  refine lv_iconst (v := 0) hx hb dX10_skip_0 (by decide +kernel) ?_
  refine lv_istore_n (lv' := [(2, .int 0), (0, .ref w0), (1, .int 0)]) hx hb dX10_skip_1 rfl hl (by decide) rfl (fun ls hl => ?_)
  refine lv_iconst (v := 0) hx hb dX10_skip_2 (by decide +kernel) ?_
  refine lv_iload_n hx hb dX10_skip_3 rfl (lv_at hl 2 rfl) ?_
  refine va_mmax hx hb (hml.trans hl.1.symm) hown (hts (.methodLink RX10 44 yJ9_max_7cf53) wq_333) (hts (.static yJ9_max_7cf53) wq_334) (hts (.initialized RJ9) wq_19) (hts (.code yJ9_max_7cf53 cJ9_max_7cf53 2 (some .int)) wq_335) (Nat.le_of_ble_eq_true rfl) (Nat.le_of_ble_eq_true rfl) (Nat.le_of_ble_eq_true rfl) (Nat.le_of_ble_eq_true rfl) dX10_skip_4 ?_
  refine lv_topi (fun x_1 ex_1 => ?_)
  obtain rfl : x_1 = 0 := ex_1.trans (by decide +kernel)
  refine lv_istore_n (lv' := [(3, .int 0), (2, .int 0), (0, .ref w0), (1, .int 0)]) hx hb dX10_skip_7 rfl hl (by decide) rfl (fun ls hl => ?_)
  refine lv_iload_n hx hb dX10_skip_8 rfl (lv_at hl 0 rfl) ?_
  refine lv_aload_n hx hb dX10_skip_9 rfl (lv_at hl 2 rfl) ?_
  refine va_get (D := (dC, dI)) (ci := 10) (v := .int 0) (C := RX10) (T := TX10) (N := 12) hx hb hts ii_X10 hown hK hP 0 rfl rfl 1 (by decide) (hts (.fieldLink RX10 47 "StoryHouse$Words" "length" "I") wq_43) (fun _ h9 => h9) rfl dX10_skip_10 ?_
  refine lv_icmp_ge (tgt := 76) hx hb dX10_skip_13 (by decide) (fun c_2 => ?_) (fun c_2 => absurd (by decide +kernel) c_2)
  refine lv_aload_n hx hb dX10_skip_76 rfl (lv_at hl 2 rfl) ?_
  refine va_get (D := (dC, dI)) (ci := 10) (v := .int 0) (C := RX10) (T := TX10) (N := 12) hx hb hts ii_X10 hown hK hP 0 rfl rfl 1 (by decide) (hts (.fieldLink RX10 47 "StoryHouse$Words" "length" "I") wq_43) (fun _ h9 => h9) rfl dX10_skip_77 ?_
  have hP9 := hP.sub (ws' := [(w0, .inr (10, [.ref f_source, .int 0, .int 0, .ref f_kinds, .ref f_places, .ref f_values, .ref f_notes, .ref f_meanings, .ref f_names, .ref f_slots, .int nm, .int 0]))]) [0] rfl
  have hD9 := hD.sub (ws' := [(w0, .inr (10, [.ref f_source, .int 0, .int 0, .ref f_kinds, .ref f_places, .ref f_values, .ref f_notes, .ref f_meanings, .ref f_names, .ref f_slots, .int nm, .int 0]))]) [0] (by decide +kernel) rfl
  refine W.widen (k := 0) (n := 0) (Nat.le_of_ble_eq_true rfl) (Nat.le_of_ble_eq_true rfl) ?_
  exact W.iret (v := 0) hx hb hr (fun t ht hW => ⟨⟨0, (), rfl, (by first | trivial | rfl | assumption), by rw [ht]; exact hP9, hD9⟩, hS.F ht⟩) hS.2.2 dX10_skip_80

abbrev ww_X10_add (cB cC cI cJ cZ cP : ClassId) (w0 : Nat) (f_source : Nat) (f_kinds : Nat) (f_places : Nat) (f_values : Nat) (f_notes : Nat) (f_meanings : Nat) (f_names : Nat) (f_slots : Nat) (nm : Int32) (kif : Nat → Int32) (plf : Nat → Int32) (vaf : Nat → Int32) (nof : Nat → Int32) (mef : Nat → Int32) : va_W := [(w0, .inr (10, [.ref f_source, .int 0, .int 0, .ref f_kinds, .ref f_places, .ref f_values, .ref f_notes, .ref f_meanings, .ref f_names, .ref f_slots, .int nm, .int 0])), (f_kinds, .inl (cI, 16001, .inl kif)), (f_places, .inl (cI, 16001, .inl plf)), (f_values, .inl (cI, 16001, .inl vaf)), (f_notes, .inl (cI, 16001, .inl nof)), (f_meanings, .inl (cI, 16001, .inl mef))]
abbrev q_X10_add (dC : Nat → ClassId) (dI : Nat → Nat → Nat) (cB cC cI cJ cZ cP : ClassId) (w0 : Nat) (f_source : Nat) (f_kinds : Nat) (f_places : Nat) (f_values : Nat) (f_notes : Nat) (f_meanings : Nat) (f_names : Nat) (f_slots : Nat) (nm : Int32) (kif : Nat → Int32) (plf : Nat → Int32) (vaf : Nat → Int32) (nof : Nat → Int32) (mef : Nat → Int32) (A : Nat → Prop) : Array Value → State → Outcome → State → Prop := va_Qi (fun (r : Int32) (u : (Nat → Int32) × (Nat → Int32) × (Nat → Int32) × (Nat → Int32) × (Nat → Int32)) => match u with | (kin, pln, van, non, men) => r = 0 ∧ kin 0 = 0) (g_Bo (dC, dI) A (fun (u : (Nat → Int32) × (Nat → Int32) × (Nat → Int32) × (Nat → Int32) × (Nat → Int32)) => match u with | (kin, pln, van, non, men) => [(w0, .inr (10, [.ref f_source, .int 0, .int 1, .ref f_kinds, .ref f_places, .ref f_values, .ref f_notes, .ref f_meanings, .ref f_names, .ref f_slots, .int nm, .int 0])), (f_kinds, .inl (cI, 16001, .inl kin)), (f_places, .inl (cI, 16001, .inl pln)), (f_values, .inl (cI, 16001, .inl van)), (f_notes, .inl (cI, 16001, .inl non)), (f_meanings, .inl (cI, 16001, .inl men))])) A
set_option maxHeartbeats 4000000 in
set_option maxRecDepth 100000 in
theorem c_X10_add (l : Launch) (dC : Nat → ClassId) (dI : Nat → Nat → Nat) (cB cC cI cJ cZ cP : ClassId) (sz : Nat) (w0 : Nat) (f_source : Nat) (f_kinds : Nat) (f_places : Nat) (f_values : Nat) (f_notes : Nat) (f_meanings : Nat) (f_names : Nat) (f_slots : Nat) (nm : Int32) (kif : Nat → Int32) (plf : Nat → Int32) (vaf : Nat → Int32) (nof : Nat → Int32) (mef : Nat → Int32)  : Met l yX10_add (g_ws yX10_add cX10_add 4 (some .int)) ({ frames := 2, cells := 0, slots := 0, locals := 62 }) (va_Pc [.ref w0, .int 0, .int 0, .int 0] (g_B (dC, dI) [(cB, .byte), (cC, .char), (cI, .int), (cJ, .long), (cZ, .boolean), (cP, .object "StoryHouse$Play")] sz (ww_X10_add cB cC cI cJ cZ cP w0 f_source f_kinds f_places f_values f_notes f_meanings f_names f_slots nm kif plf vaf nof mef) g_0)) (q_X10_add dC dI cB cC cI cJ cZ cP w0 f_source f_kinds f_places f_values f_notes f_meanings f_names f_slots nm kif plf vaf nof mef (va_A (ww_X10_add cB cC cI cJ cZ cP w0 f_source f_kinds f_places f_values f_notes f_meanings f_names f_slots nm kif plf vaf nof mef) sz)) 0 0 (va_A (ww_X10_add cB cC cI cJ cZ cP w0 f_source f_kinds f_places f_values f_notes f_meanings f_names f_slots nm kif plf vaf nof mef) sz) := by
  refine Met.ofW (cc := cX10_add) (maxL := 4) (ret := (some .int)) (by decide) rfl ?_
  intro p e s m args below meth c s₁ B hml hv
  obtain ⟨rfl, hsz, hP, hK, hD0, hE, hX⟩ := hv
  have hx := B.exec
  have hb := B.bytes
  have hr := B.returns
  have hts0 := atoms_spec (ws := (g_ws yX10_add cX10_add 4 (some .int))) B.pre
  have hts : ∀ w ∈ lw_good, w.before ([.ref w0, .int 0, .int 0, .int 0] : List Value).toArray s = true := fun w h => hts0 w (List.mem_cons_of_mem _ h)
  have hown : s.vm.findClass RX10 = some m.cls := findClass_of_methodNamed B.named
  have hlocks := B.notSynchronized
  subst hsz
  have hD := hD0.self (sz := s.heap.size)
  generalize hAe : va_A (ww_X10_add cB cC cI cJ cZ cP w0 f_source f_kinds f_places f_values f_notes f_meanings f_names f_slots nm kif plf vaf nof mef) s.heap.size = A at hD hE hX ⊢
  have hA : ∀ q : Nat, s.heap.size ≤ q → A q := fun q h => by rw [← hAe]; exact Or.inr h
  have hN := hE.1
  have hS : va_S A s.heap s.heap [] := va_S.rf
  have hP : va_P (dC, dI) vwCl [(w0, .inr (10, [.ref f_source, .int 0, .int 0, .ref f_kinds, .ref f_places, .ref f_values, .ref f_notes, .ref f_meanings, .ref f_names, .ref f_slots, .int nm, .int 0])), (f_kinds, .inl (cI, 16001, .inl kif)), (f_places, .inl (cI, 16001, .inl plf)), (f_values, .inl (cI, 16001, .inl vaf)), (f_notes, .inl (cI, 16001, .inl nof)), (f_meanings, .inl (cI, 16001, .inl mef))] s.heap := hP
  have hl := lv_entry ([.ref w0, .int 0, .int 0, .int 0]) (n := 4) (Nat.le_of_ble_eq_true rfl)
  rw [lg_entry_eq]
  generalize (lg_sl ([.ref w0, .int 0, .int 0, .int 0]) ++ List.replicate (4 - (lg_sl ([.ref w0, .int 0, .int 0, .int 0])).length) Slot.unset).toArray = ls at hl ⊢
  have hl : lv_has ls 4 [(0, .ref w0), (1, .int 0), (2, .int 0), (3, .int 0)] := hl
  refine lv_aload_n hx hb dX10_add_0 rfl (lv_at hl 0 rfl) ?_
  refine va_get (D := (dC, dI)) (ci := 10) (v := .int 0) (C := RX10) (T := TX10) (N := 12) hx hb hts ii_X10 hown hK hP 0 rfl rfl 2 (by decide) (hts (.fieldLink RX10 57 "StoryHouse$Words" "count" "I") wq_46) (fun _ h9 => h9) rfl dX10_add_1 ?_
  refine lv_if_lt (tgt := 87) hx hb dX10_add_4 (by decide) (fun c_1 => absurd c_1 (by decide +kernel)) (fun c_1 => ?_)
  refine lv_aload_n hx hb dX10_add_7 rfl (lv_at hl 0 rfl) ?_
  refine va_get (D := (dC, dI)) (ci := 10) (v := .int 0) (C := RX10) (T := TX10) (N := 12) hx hb hts ii_X10 hown hK hP 0 rfl rfl 2 (by decide) (hts (.fieldLink RX10 57 "StoryHouse$Words" "count" "I") wq_46) (fun _ h9 => h9) rfl dX10_add_8 ?_
  refine lv_aload_n hx hb dX10_add_11 rfl (lv_at hl 0 rfl) ?_
  refine va_get (D := (dC, dI)) (ci := 10) (v := .ref f_kinds) (C := RX10) (T := TX10) (N := 12) hx hb hts ii_X10 hown hK hP 0 rfl rfl 3 (by decide) (hts (.fieldLink RX10 15 "StoryHouse$Words" "kinds" "[I") wq_49) (fun _ h9 => h9) rfl dX10_add_12 ?_
  refine va_alen (v := 16001) hx hb hK hP 1 2 rfl rfl (by first | rfl | decide +kernel) dX10_add_15 ?_
  refine lv_icmp_ge (tgt := 87) hx hb dX10_add_16 (by decide) (fun c_2 => absurd c_2 (by decide +kernel)) (fun c_2 => ?_)
  refine lv_aload_n hx hb dX10_add_19 rfl (lv_at hl 0 rfl) ?_
  refine va_get (D := (dC, dI)) (ci := 10) (v := .ref f_kinds) (C := RX10) (T := TX10) (N := 12) hx hb hts ii_X10 hown hK hP 0 rfl rfl 3 (by decide) (hts (.fieldLink RX10 15 "StoryHouse$Words" "kinds" "[I") wq_49) (fun _ h9 => h9) rfl dX10_add_20 ?_
  refine lv_aload_n hx hb dX10_add_23 rfl (lv_at hl 0 rfl) ?_
  refine va_get (D := (dC, dI)) (ci := 10) (v := .int 0) (C := RX10) (T := TX10) (N := 12) hx hb hts ii_X10 hown hK hP 0 rfl rfl 2 (by decide) (hts (.fieldLink RX10 57 "StoryHouse$Words" "count" "I") wq_46) (fun _ h9 => h9) rfl dX10_add_24 ?_
  refine lv_iload_n hx hb dX10_add_27 rfl (lv_at hl 1 rfl) ?_
  refine va_iast hx hb hK hP hD hS 1 2 rfl rfl (vp_in_iff.mpr (by decide +kernel)) dX10_add_28 (fun H_3 locs hP' hD' hS' => ?_)
  obtain ⟨f_4, ef_4⟩ : ∃ g9 : Nat → Int32, g9 = (upd kif (0 : Int32).toNatClampNeg 0) := ⟨_, rfl⟩
  replace hP : va_P (dC, dI) vwCl [(w0, .inr (10, [.ref f_source, .int 0, .int 0, .ref f_kinds, .ref f_places, .ref f_values, .ref f_notes, .ref f_meanings, .ref f_names, .ref f_slots, .int nm, .int 0])), (f_kinds, .inl (cI, 16001, .inl f_4)), (f_places, .inl (cI, 16001, .inl plf)), (f_values, .inl (cI, 16001, .inl vaf)), (f_notes, .inl (cI, 16001, .inl nof)), (f_meanings, .inl (cI, 16001, .inl mef))] H_3 := by rw [ef_4]; exact hP'
  replace hD : va_D A [(w0, .inr (10, [.ref f_source, .int 0, .int 0, .ref f_kinds, .ref f_places, .ref f_values, .ref f_notes, .ref f_meanings, .ref f_names, .ref f_slots, .int nm, .int 0])), (f_kinds, .inl (cI, 16001, .inl f_4)), (f_places, .inl (cI, 16001, .inl plf)), (f_values, .inl (cI, 16001, .inl vaf)), (f_notes, .inl (cI, 16001, .inl nof)), (f_meanings, .inl (cI, 16001, .inl mef))] := by rw [ef_4]; exact hD'
  replace hS := hS'
  clear hP' hD' hS'
  refine lv_aload_n hx hb dX10_add_29 rfl (lv_at hl 0 rfl) ?_
  refine va_get (D := (dC, dI)) (ci := 10) (v := .ref f_places) (C := RX10) (T := TX10) (N := 12) hx hb hts ii_X10 hown hK hP 0 rfl rfl 4 (by decide) (hts (.fieldLink RX10 19 "StoryHouse$Words" "places" "[I") wq_50) (fun _ h9 => h9) rfl dX10_add_30 ?_
  refine lv_aload_n hx hb dX10_add_33 rfl (lv_at hl 0 rfl) ?_
  refine va_get (D := (dC, dI)) (ci := 10) (v := .int 0) (C := RX10) (T := TX10) (N := 12) hx hb hts ii_X10 hown hK hP 0 rfl rfl 2 (by decide) (hts (.fieldLink RX10 57 "StoryHouse$Words" "count" "I") wq_46) (fun _ h9 => h9) rfl dX10_add_34 ?_
  refine lv_iload_n hx hb dX10_add_37 rfl (lv_at hl 2 rfl) ?_
  have hPc := hP.sub (ws' := [(f_places, .inl (cI, 16001, .inl plf))]) [2] rfl
  have hDc := hD.sub (ws' := [(f_places, .inl (cI, 16001, .inl plf))]) [2] (by decide +kernel) rfl
  have hFc := va_free (wc := [(f_places, .inl (cI, 16001, .inl plf))]) hD hS hA [2] rfl
  refine g_ofv (wc := [(f_places, .inl (cI, 16001, .inl plf))]) (wr := [(w0, .inr (10, [.ref f_source, .int 0, .int 0, .ref f_kinds, .ref f_places, .ref f_values, .ref f_notes, .ref f_meanings, .ref f_names, .ref f_slots, .int nm, .int 0])), (f_kinds, .inl (cI, 16001, .inl f_4)), (f_values, .inl (cI, 16001, .inl vaf)), (f_notes, .inl (cI, 16001, .inl nof)), (f_meanings, .inl (cI, 16001, .inl mef))]) hP hD hS hFc [2] [0, 1, 3, 4, 5] rfl rfl (by decide +kernel) (by decide +kernel) (va_runSN (As := [.ref f_places, .int 0, .int 0]) (rest := []) ⟨hx, hb, hml, hown, hts⟩ (c_X11_put l dC dI cB cC cI cJ cZ cP H_3.size f_places 0 0 16001 plf (by decide)) ⟨va_cnB 3 hts (g_gA wq_412) rfl rfl rfl (hN.at 10 rfl) (hts (.initialized RX11) wq_1) (by decide +kernel) ⟨Nat.le_of_ble_eq_true rfl, Nat.le_of_ble_eq_true rfl⟩, (hts (.static yX11_put) wq_411), trivial⟩ (g_preS g_bl0 hK hPc hDc hS hE hFc g_to0) rfl rfl hl.1 rfl (lv_room (Nat.le_of_ble_eq_true rfl)) dX10_add_38 ⟨Nat.le_of_ble_eq_true rfl, Nat.le_of_ble_eq_true rfl⟩) (fun u_6 H_7 locs w_5 hP' hD' hS' => ?_)
  clear hPc hDc hFc
  have w_5 : u_6 = g_put 16001 plf 0 0 := w_5
  replace hP : va_P (dC, dI) vwCl [(w0, .inr (10, [.ref f_source, .int 0, .int 0, .ref f_kinds, .ref f_places, .ref f_values, .ref f_notes, .ref f_meanings, .ref f_names, .ref f_slots, .int nm, .int 0])), (f_kinds, .inl (cI, 16001, .inl f_4)), (f_values, .inl (cI, 16001, .inl vaf)), (f_notes, .inl (cI, 16001, .inl nof)), (f_meanings, .inl (cI, 16001, .inl mef)), (f_places, .inl (cI, 16001, .inl u_6))] H_7 := hP'
  replace hD : va_D A [(w0, .inr (10, [.ref f_source, .int 0, .int 0, .ref f_kinds, .ref f_places, .ref f_values, .ref f_notes, .ref f_meanings, .ref f_names, .ref f_slots, .int nm, .int 0])), (f_kinds, .inl (cI, 16001, .inl f_4)), (f_values, .inl (cI, 16001, .inl vaf)), (f_notes, .inl (cI, 16001, .inl nof)), (f_meanings, .inl (cI, 16001, .inl mef)), (f_places, .inl (cI, 16001, .inl u_6))] := hD'
  replace hS := hS'
  clear hP' hD' hS'
  refine lv_aload_n hx hb dX10_add_41 rfl (lv_at hl 0 rfl) ?_
  refine va_get (D := (dC, dI)) (ci := 10) (v := .ref f_values) (C := RX10) (T := TX10) (N := 12) hx hb hts ii_X10 hown hK hP 0 rfl rfl 5 (by decide) (hts (.fieldLink RX10 22 "StoryHouse$Words" "values" "[I") wq_51) (fun _ h9 => h9) rfl dX10_add_42 ?_
  refine lv_aload_n hx hb dX10_add_45 rfl (lv_at hl 0 rfl) ?_
  refine va_get (D := (dC, dI)) (ci := 10) (v := .int 0) (C := RX10) (T := TX10) (N := 12) hx hb hts ii_X10 hown hK hP 0 rfl rfl 2 (by decide) (hts (.fieldLink RX10 57 "StoryHouse$Words" "count" "I") wq_46) (fun _ h9 => h9) rfl dX10_add_46 ?_
  refine lv_iload_n hx hb dX10_add_49 rfl (lv_at hl 3 rfl) ?_
  have hPc := hP.sub (ws' := [(f_values, .inl (cI, 16001, .inl vaf))]) [2] rfl
  have hDc := hD.sub (ws' := [(f_values, .inl (cI, 16001, .inl vaf))]) [2] (by decide +kernel) rfl
  have hFc := va_free (wc := [(f_values, .inl (cI, 16001, .inl vaf))]) hD hS hA [2] rfl
  refine g_ofv (wc := [(f_values, .inl (cI, 16001, .inl vaf))]) (wr := [(w0, .inr (10, [.ref f_source, .int 0, .int 0, .ref f_kinds, .ref f_places, .ref f_values, .ref f_notes, .ref f_meanings, .ref f_names, .ref f_slots, .int nm, .int 0])), (f_kinds, .inl (cI, 16001, .inl f_4)), (f_notes, .inl (cI, 16001, .inl nof)), (f_meanings, .inl (cI, 16001, .inl mef)), (f_places, .inl (cI, 16001, .inl u_6))]) hP hD hS hFc [2] [0, 1, 3, 4, 5] rfl rfl (by decide +kernel) (by decide +kernel) (va_runSN (As := [.ref f_values, .int 0, .int 0]) (rest := []) ⟨hx, hb, hml, hown, hts⟩ (c_X11_put l dC dI cB cC cI cJ cZ cP H_7.size f_values 0 0 16001 vaf (by decide)) ⟨va_cnB 3 hts (g_gA wq_412) rfl rfl rfl (hN.at 10 rfl) (hts (.initialized RX11) wq_1) (by decide +kernel) ⟨Nat.le_of_ble_eq_true rfl, Nat.le_of_ble_eq_true rfl⟩, (hts (.static yX11_put) wq_411), trivial⟩ (g_preS g_bl0 hK hPc hDc hS hE hFc g_to0) rfl rfl hl.1 rfl (lv_room (Nat.le_of_ble_eq_true rfl)) dX10_add_50 ⟨Nat.le_of_ble_eq_true rfl, Nat.le_of_ble_eq_true rfl⟩) (fun u_9 H_10 locs w_8 hP' hD' hS' => ?_)
  clear hPc hDc hFc
  have w_8 : u_9 = g_put 16001 vaf 0 0 := w_8
  replace hP : va_P (dC, dI) vwCl [(w0, .inr (10, [.ref f_source, .int 0, .int 0, .ref f_kinds, .ref f_places, .ref f_values, .ref f_notes, .ref f_meanings, .ref f_names, .ref f_slots, .int nm, .int 0])), (f_kinds, .inl (cI, 16001, .inl f_4)), (f_notes, .inl (cI, 16001, .inl nof)), (f_meanings, .inl (cI, 16001, .inl mef)), (f_places, .inl (cI, 16001, .inl u_6)), (f_values, .inl (cI, 16001, .inl u_9))] H_10 := hP'
  replace hD : va_D A [(w0, .inr (10, [.ref f_source, .int 0, .int 0, .ref f_kinds, .ref f_places, .ref f_values, .ref f_notes, .ref f_meanings, .ref f_names, .ref f_slots, .int nm, .int 0])), (f_kinds, .inl (cI, 16001, .inl f_4)), (f_notes, .inl (cI, 16001, .inl nof)), (f_meanings, .inl (cI, 16001, .inl mef)), (f_places, .inl (cI, 16001, .inl u_6)), (f_values, .inl (cI, 16001, .inl u_9))] := hD'
  replace hS := hS'
  clear hP' hD' hS'
  refine lv_aload_n hx hb dX10_add_53 rfl (lv_at hl 0 rfl) ?_
  refine va_get (D := (dC, dI)) (ci := 10) (v := .ref f_notes) (C := RX10) (T := TX10) (N := 12) hx hb hts ii_X10 hown hK hP 0 rfl rfl 6 (by decide) (hts (.fieldLink RX10 25 "StoryHouse$Words" "notes" "[I") wq_52) (fun _ h9 => h9) rfl dX10_add_54 ?_
  refine lv_aload_n hx hb dX10_add_57 rfl (lv_at hl 0 rfl) ?_
  refine va_get (D := (dC, dI)) (ci := 10) (v := .int 0) (C := RX10) (T := TX10) (N := 12) hx hb hts ii_X10 hown hK hP 0 rfl rfl 2 (by decide) (hts (.fieldLink RX10 57 "StoryHouse$Words" "count" "I") wq_46) (fun _ h9 => h9) rfl dX10_add_58 ?_
  refine lv_iconst (v := 0) hx hb dX10_add_61 (by decide +kernel) ?_
  have hPc := hP.sub (ws' := [(f_notes, .inl (cI, 16001, .inl nof))]) [2] rfl
  have hDc := hD.sub (ws' := [(f_notes, .inl (cI, 16001, .inl nof))]) [2] (by decide +kernel) rfl
  have hFc := va_free (wc := [(f_notes, .inl (cI, 16001, .inl nof))]) hD hS hA [2] rfl
  refine g_ofv (wc := [(f_notes, .inl (cI, 16001, .inl nof))]) (wr := [(w0, .inr (10, [.ref f_source, .int 0, .int 0, .ref f_kinds, .ref f_places, .ref f_values, .ref f_notes, .ref f_meanings, .ref f_names, .ref f_slots, .int nm, .int 0])), (f_kinds, .inl (cI, 16001, .inl f_4)), (f_meanings, .inl (cI, 16001, .inl mef)), (f_places, .inl (cI, 16001, .inl u_6)), (f_values, .inl (cI, 16001, .inl u_9))]) hP hD hS hFc [2] [0, 1, 3, 4, 5] rfl rfl (by decide +kernel) (by decide +kernel) (va_runSN (As := [.ref f_notes, .int 0, .int 0]) (rest := []) ⟨hx, hb, hml, hown, hts⟩ (c_X11_put l dC dI cB cC cI cJ cZ cP H_10.size f_notes 0 0 16001 nof (by decide)) ⟨va_cnB 3 hts (g_gA wq_412) rfl rfl rfl (hN.at 10 rfl) (hts (.initialized RX11) wq_1) (by decide +kernel) ⟨Nat.le_of_ble_eq_true rfl, Nat.le_of_ble_eq_true rfl⟩, (hts (.static yX11_put) wq_411), trivial⟩ (g_preS g_bl0 hK hPc hDc hS hE hFc g_to0) rfl rfl hl.1 rfl (lv_room (Nat.le_of_ble_eq_true rfl)) dX10_add_62 ⟨Nat.le_of_ble_eq_true rfl, Nat.le_of_ble_eq_true rfl⟩) (fun u_12 H_13 locs w_11 hP' hD' hS' => ?_)
  clear hPc hDc hFc
  have w_11 : u_12 = g_put 16001 nof 0 0 := w_11
  replace hP : va_P (dC, dI) vwCl [(w0, .inr (10, [.ref f_source, .int 0, .int 0, .ref f_kinds, .ref f_places, .ref f_values, .ref f_notes, .ref f_meanings, .ref f_names, .ref f_slots, .int nm, .int 0])), (f_kinds, .inl (cI, 16001, .inl f_4)), (f_meanings, .inl (cI, 16001, .inl mef)), (f_places, .inl (cI, 16001, .inl u_6)), (f_values, .inl (cI, 16001, .inl u_9)), (f_notes, .inl (cI, 16001, .inl u_12))] H_13 := hP'
  replace hD : va_D A [(w0, .inr (10, [.ref f_source, .int 0, .int 0, .ref f_kinds, .ref f_places, .ref f_values, .ref f_notes, .ref f_meanings, .ref f_names, .ref f_slots, .int nm, .int 0])), (f_kinds, .inl (cI, 16001, .inl f_4)), (f_meanings, .inl (cI, 16001, .inl mef)), (f_places, .inl (cI, 16001, .inl u_6)), (f_values, .inl (cI, 16001, .inl u_9)), (f_notes, .inl (cI, 16001, .inl u_12))] := hD'
  replace hS := hS'
  clear hP' hD' hS'
  refine lv_aload_n hx hb dX10_add_65 rfl (lv_at hl 0 rfl) ?_
  refine va_get (D := (dC, dI)) (ci := 10) (v := .ref f_meanings) (C := RX10) (T := TX10) (N := 12) hx hb hts ii_X10 hown hK hP 0 rfl rfl 7 (by decide) (hts (.fieldLink RX10 28 "StoryHouse$Words" "meanings" "[I") wq_55) (fun _ h9 => h9) rfl dX10_add_66 ?_
  refine lv_aload_n hx hb dX10_add_69 rfl (lv_at hl 0 rfl) ?_
  refine va_get (D := (dC, dI)) (ci := 10) (v := .int 0) (C := RX10) (T := TX10) (N := 12) hx hb hts ii_X10 hown hK hP 0 rfl rfl 2 (by decide) (hts (.fieldLink RX10 57 "StoryHouse$Words" "count" "I") wq_46) (fun _ h9 => h9) rfl dX10_add_70 ?_
  refine lv_iconst (v := 0) hx hb dX10_add_73 (by decide +kernel) ?_
  have hPc := hP.sub (ws' := [(f_meanings, .inl (cI, 16001, .inl mef))]) [2] rfl
  have hDc := hD.sub (ws' := [(f_meanings, .inl (cI, 16001, .inl mef))]) [2] (by decide +kernel) rfl
  have hFc := va_free (wc := [(f_meanings, .inl (cI, 16001, .inl mef))]) hD hS hA [2] rfl
  refine g_ofv (wc := [(f_meanings, .inl (cI, 16001, .inl mef))]) (wr := [(w0, .inr (10, [.ref f_source, .int 0, .int 0, .ref f_kinds, .ref f_places, .ref f_values, .ref f_notes, .ref f_meanings, .ref f_names, .ref f_slots, .int nm, .int 0])), (f_kinds, .inl (cI, 16001, .inl f_4)), (f_places, .inl (cI, 16001, .inl u_6)), (f_values, .inl (cI, 16001, .inl u_9)), (f_notes, .inl (cI, 16001, .inl u_12))]) hP hD hS hFc [2] [0, 1, 3, 4, 5] rfl rfl (by decide +kernel) (by decide +kernel) (va_runSN (As := [.ref f_meanings, .int 0, .int 0]) (rest := []) ⟨hx, hb, hml, hown, hts⟩ (c_X11_put l dC dI cB cC cI cJ cZ cP H_13.size f_meanings 0 0 16001 mef (by decide)) ⟨va_cnB 3 hts (g_gA wq_412) rfl rfl rfl (hN.at 10 rfl) (hts (.initialized RX11) wq_1) (by decide +kernel) ⟨Nat.le_of_ble_eq_true rfl, Nat.le_of_ble_eq_true rfl⟩, (hts (.static yX11_put) wq_411), trivial⟩ (g_preS g_bl0 hK hPc hDc hS hE hFc g_to0) rfl rfl hl.1 rfl (lv_room (Nat.le_of_ble_eq_true rfl)) dX10_add_74 ⟨Nat.le_of_ble_eq_true rfl, Nat.le_of_ble_eq_true rfl⟩) (fun u_15 H_16 locs w_14 hP' hD' hS' => ?_)
  clear hPc hDc hFc
  have w_14 : u_15 = g_put 16001 mef 0 0 := w_14
  replace hP : va_P (dC, dI) vwCl [(w0, .inr (10, [.ref f_source, .int 0, .int 0, .ref f_kinds, .ref f_places, .ref f_values, .ref f_notes, .ref f_meanings, .ref f_names, .ref f_slots, .int nm, .int 0])), (f_kinds, .inl (cI, 16001, .inl f_4)), (f_places, .inl (cI, 16001, .inl u_6)), (f_values, .inl (cI, 16001, .inl u_9)), (f_notes, .inl (cI, 16001, .inl u_12)), (f_meanings, .inl (cI, 16001, .inl u_15))] H_16 := hP'
  replace hD : va_D A [(w0, .inr (10, [.ref f_source, .int 0, .int 0, .ref f_kinds, .ref f_places, .ref f_values, .ref f_notes, .ref f_meanings, .ref f_names, .ref f_slots, .int nm, .int 0])), (f_kinds, .inl (cI, 16001, .inl f_4)), (f_places, .inl (cI, 16001, .inl u_6)), (f_values, .inl (cI, 16001, .inl u_9)), (f_notes, .inl (cI, 16001, .inl u_12)), (f_meanings, .inl (cI, 16001, .inl u_15))] := hD'
  replace hS := hS'
  clear hP' hD' hS'
  refine lv_aload_n hx hb dX10_add_77 rfl (lv_at hl 0 rfl) ?_
  refine lv_dup hx hb dX10_add_78 rfl ?_
  refine va_get (D := (dC, dI)) (ci := 10) (v := .int 0) (C := RX10) (T := TX10) (N := 12) hx hb hts ii_X10 hown hK hP 0 rfl rfl 2 (by decide) (hts (.fieldLink RX10 57 "StoryHouse$Words" "count" "I") wq_46) (fun _ h9 => h9) rfl dX10_add_79 ?_
  refine lv_iconst (v := 1) hx hb dX10_add_82 (by decide +kernel) ?_
  refine lv_iadd hx hb dX10_add_83 ?_
  refine lv_topi (fun x_17 ex_17 => ?_)
  obtain rfl : x_17 = 1 := ex_17.trans (by decide +kernel)
  refine va_put (D := (dC, dI)) (ci := 10) (v := .int 1) (ty := .int) (C := RX10) (T := TX10) (N := 12) hx hb hts ii_X10 tyX10 tyX10_ok nmX10 hown hK hP hD hS 0 rfl rfl 2 (by decide) (hts (.fieldLink RX10 57 "StoryHouse$Words" "count" "I") wq_46) (fun _ h9 => h9) rfl (by decide +kernel) rfl rfl (Nat.le_of_ble_eq_true rfl) dX10_add_84 (fun H_18 locs hP' hD' hS' => ?_)
  replace hP : va_P (dC, dI) vwCl [(w0, .inr (10, [.ref f_source, .int 0, .int 1, .ref f_kinds, .ref f_places, .ref f_values, .ref f_notes, .ref f_meanings, .ref f_names, .ref f_slots, .int nm, .int 0])), (f_kinds, .inl (cI, 16001, .inl f_4)), (f_places, .inl (cI, 16001, .inl u_6)), (f_values, .inl (cI, 16001, .inl u_9)), (f_notes, .inl (cI, 16001, .inl u_12)), (f_meanings, .inl (cI, 16001, .inl u_15))] H_18 := hP'
  replace hD : va_D A [(w0, .inr (10, [.ref f_source, .int 0, .int 1, .ref f_kinds, .ref f_places, .ref f_values, .ref f_notes, .ref f_meanings, .ref f_names, .ref f_slots, .int nm, .int 0])), (f_kinds, .inl (cI, 16001, .inl f_4)), (f_places, .inl (cI, 16001, .inl u_6)), (f_values, .inl (cI, 16001, .inl u_9)), (f_notes, .inl (cI, 16001, .inl u_12)), (f_meanings, .inl (cI, 16001, .inl u_15))] := hD'
  replace hS := hS'
  clear hP' hD' hS'
  refine lv_iload_n hx hb dX10_add_87 rfl (lv_at hl 2 rfl) ?_
  have hP9 := hP.sub (ws' := [(w0, .inr (10, [.ref f_source, .int 0, .int 1, .ref f_kinds, .ref f_places, .ref f_values, .ref f_notes, .ref f_meanings, .ref f_names, .ref f_slots, .int nm, .int 0])), (f_kinds, .inl (cI, 16001, .inl f_4)), (f_places, .inl (cI, 16001, .inl u_6)), (f_values, .inl (cI, 16001, .inl u_9)), (f_notes, .inl (cI, 16001, .inl u_12)), (f_meanings, .inl (cI, 16001, .inl u_15))]) [0, 1, 2, 3, 4, 5] rfl
  have hD9 := hD.sub (ws' := [(w0, .inr (10, [.ref f_source, .int 0, .int 1, .ref f_kinds, .ref f_places, .ref f_values, .ref f_notes, .ref f_meanings, .ref f_names, .ref f_slots, .int nm, .int 0])), (f_kinds, .inl (cI, 16001, .inl f_4)), (f_places, .inl (cI, 16001, .inl u_6)), (f_values, .inl (cI, 16001, .inl u_9)), (f_notes, .inl (cI, 16001, .inl u_12)), (f_meanings, .inl (cI, 16001, .inl u_15))]) [0, 1, 2, 3, 4, 5] (by decide +kernel) rfl
  refine W.widen (k := 0) (n := 0) (Nat.le_of_ble_eq_true rfl) (Nat.le_of_ble_eq_true rfl) ?_
  exact W.iret (v := 0) hx hb hr (fun t ht hW => ⟨⟨0, (f_4, u_6, u_9, u_12, u_15), rfl, (⟨rfl, by rw [ef_4]; exact pk_us⟩), by rw [ht]; exact hP9, hD9⟩, hS.F ht⟩) hS.2.2 dX10_add_88

abbrev ww_X10_cut (cB cC cI cJ cZ cP : ClassId) (w0 : Nat) (f_source : Nat) (f_kinds : Nat) (f_places : Nat) (f_values : Nat) (f_notes : Nat) (f_meanings : Nat) (f_names : Nat) (f_slots : Nat) (tp : Nat) (tf : Nat → Int32) (so : Nat → Int32) (nf : Nat → Int64) (sf : Nat → Int32) (kif : Nat → Int32) (plf : Nat → Int32) (vaf : Nat → Int32) (nof : Nat → Int32) (mef : Nat → Int32) : va_W := [(w0, .inr (10, [.ref f_source, .int 0, .int 0, .ref f_kinds, .ref f_places, .ref f_values, .ref f_notes, .ref f_meanings, .ref f_names, .ref f_slots, .int 0, .int 0])), (tp, .inl (cB, 16000, .inl tf)), (f_source, .inl (cB, 16000, .inl so)), (f_names, .inl (cJ, 4500, .inr (.inl nf))), (f_slots, .inl (cI, 8192, .inl sf)), (f_kinds, .inl (cI, 16001, .inl kif)), (f_places, .inl (cI, 16001, .inl plf)), (f_values, .inl (cI, 16001, .inl vaf)), (f_notes, .inl (cI, 16001, .inl nof)), (f_meanings, .inl (cI, 16001, .inl mef))]
abbrev q_X10_cut (dC : Nat → ClassId) (dI : Nat → Nat → Nat) (cB cC cI cJ cZ cP : ClassId) (w0 : Nat) (f_source : Nat) (f_kinds : Nat) (f_places : Nat) (f_values : Nat) (f_notes : Nat) (f_meanings : Nat) (f_names : Nat) (f_slots : Nat) (tp : Nat) (tf : Nat → Int32) (so : Nat → Int32) (nf : Nat → Int64) (sf : Nat → Int32) (kif : Nat → Int32) (plf : Nat → Int32) (vaf : Nat → Int32) (nof : Nat → Int32) (mef : Nat → Int32) (A : Nat → Prop) : Array Value → State → Outcome → State → Prop := va_Qv (fun (u : Int32 × (Nat → Int32) × (Nat → Int64) × (Nat → Int32) × (Nat → Int32) × (Nat → Int32) × (Nat → Int32) × (Nat → Int32) × (Nat → Int32)) => match u with | (nm2, so2, nf2, sf2, kin, pln, van, non, men) => ¬ nm2 < 0 ∧ kin 0 = 0) (g_Bo (dC, dI) A (fun (u : Int32 × (Nat → Int32) × (Nat → Int64) × (Nat → Int32) × (Nat → Int32) × (Nat → Int32) × (Nat → Int32) × (Nat → Int32) × (Nat → Int32)) => match u with | (nm2, so2, nf2, sf2, kin, pln, van, non, men) => [(w0, .inr (10, [.ref f_source, .int 0, .int 1, .ref f_kinds, .ref f_places, .ref f_values, .ref f_notes, .ref f_meanings, .ref f_names, .ref f_slots, .int nm2, .int 0])), (tp, .inl (cB, 16000, .inl tf)), (f_source, .inl (cB, 16000, .inl so2)), (f_names, .inl (cJ, 4500, .inr (.inl nf2))), (f_slots, .inl (cI, 8192, .inl sf2)), (f_kinds, .inl (cI, 16001, .inl kin)), (f_places, .inl (cI, 16001, .inl pln)), (f_values, .inl (cI, 16001, .inl van)), (f_notes, .inl (cI, 16001, .inl non)), (f_meanings, .inl (cI, 16001, .inl men))])) A
set_option maxHeartbeats 4000000 in
set_option maxRecDepth 100000 in
theorem c_X10_cut (l : Launch) (dC : Nat → ClassId) (dI : Nat → Nat → Nat) (cB cC cI cJ cZ cP : ClassId) (sz : Nat) (w0 : Nat) (f_source : Nat) (f_kinds : Nat) (f_places : Nat) (f_values : Nat) (f_notes : Nat) (f_meanings : Nat) (f_names : Nat) (f_slots : Nat) (tp : Nat) (tf : Nat → Int32) (so : Nat → Int32) (nf : Nat → Int64) (sf : Nat → Int32) (kif : Nat → Int32) (plf : Nat → Int32) (vaf : Nat → Int32) (nof : Nat → Int32) (mef : Nat → Int32)  : Met l yX10_cut (g_ws yX10_cut cX10_cut 5 none) ({ frames := 7, cells := 0, slots := 0, locals := 177 }) (va_Pc [.ref w0, .ref tp, .int 0] (g_B (dC, dI) [(cB, .byte), (cC, .char), (cI, .int), (cJ, .long), (cZ, .boolean), (cP, .object "StoryHouse$Play")] sz (ww_X10_cut cB cC cI cJ cZ cP w0 f_source f_kinds f_places f_values f_notes f_meanings f_names f_slots tp tf so nf sf kif plf vaf nof mef) g_0)) (q_X10_cut dC dI cB cC cI cJ cZ cP w0 f_source f_kinds f_places f_values f_notes f_meanings f_names f_slots tp tf so nf sf kif plf vaf nof mef (va_A (ww_X10_cut cB cC cI cJ cZ cP w0 f_source f_kinds f_places f_values f_notes f_meanings f_names f_slots tp tf so nf sf kif plf vaf nof mef) sz)) 0 0 (va_A (ww_X10_cut cB cC cI cJ cZ cP w0 f_source f_kinds f_places f_values f_notes f_meanings f_names f_slots tp tf so nf sf kif plf vaf nof mef) sz) := by
  refine Met.ofW (cc := cX10_cut) (maxL := 5) (ret := none) (by decide) rfl ?_
  intro p e s m args below meth c s₁ B hml hv
  obtain ⟨rfl, hsz, hP, hK, hD0, hE, hX⟩ := hv
  have hx := B.exec
  have hb := B.bytes
  have hr := B.returns
  have hts0 := atoms_spec (ws := (g_ws yX10_cut cX10_cut 5 none)) B.pre
  have hts : ∀ w ∈ lw_good, w.before ([.ref w0, .ref tp, .int 0] : List Value).toArray s = true := fun w h => hts0 w (List.mem_cons_of_mem _ h)
  have hown : s.vm.findClass RX10 = some m.cls := findClass_of_methodNamed B.named
  have hlocks := B.notSynchronized
  subst hsz
  have hD := hD0.self (sz := s.heap.size)
  generalize hAe : va_A (ww_X10_cut cB cC cI cJ cZ cP w0 f_source f_kinds f_places f_values f_notes f_meanings f_names f_slots tp tf so nf sf kif plf vaf nof mef) s.heap.size = A at hD hE hX ⊢
  have hA : ∀ q : Nat, s.heap.size ≤ q → A q := fun q h => by rw [← hAe]; exact Or.inr h
  have hN := hE.1
  have hS : va_S A s.heap s.heap [] := va_S.rf
  have hP : va_P (dC, dI) vwCl [(w0, .inr (10, [.ref f_source, .int 0, .int 0, .ref f_kinds, .ref f_places, .ref f_values, .ref f_notes, .ref f_meanings, .ref f_names, .ref f_slots, .int 0, .int 0])), (tp, .inl (cB, 16000, .inl tf)), (f_source, .inl (cB, 16000, .inl so)), (f_names, .inl (cJ, 4500, .inr (.inl nf))), (f_slots, .inl (cI, 8192, .inl sf)), (f_kinds, .inl (cI, 16001, .inl kif)), (f_places, .inl (cI, 16001, .inl plf)), (f_values, .inl (cI, 16001, .inl vaf)), (f_notes, .inl (cI, 16001, .inl nof)), (f_meanings, .inl (cI, 16001, .inl mef))] s.heap := hP
  have hl := lv_entry ([.ref w0, .ref tp, .int 0]) (n := 5) (Nat.le_of_ble_eq_true rfl)
  rw [lg_entry_eq]
  generalize (lg_sl ([.ref w0, .ref tp, .int 0]) ++ List.replicate (5 - (lg_sl ([.ref w0, .ref tp, .int 0])).length) Slot.unset).toArray = ls at hl ⊢
  have hl : lv_has ls 5 [(0, .ref w0), (1, .ref tp), (2, .int 0)] := hl
  refine lv_aload_n hx hb dX10_cut_0 rfl (lv_at hl 0 rfl) ?_
  refine lv_iconst (v := 0) hx hb dX10_cut_1 (by decide +kernel) ?_
  refine lv_iload_n hx hb dX10_cut_2 rfl (lv_at hl 2 rfl) ?_
  refine lv_aload_n hx hb dX10_cut_3 rfl (lv_at hl 1 rfl) ?_
  refine va_alen (v := 16000) hx hb hK hP 1 0 rfl rfl (by first | rfl | decide +kernel) dX10_cut_4 ?_
  refine lv_aload_n hx hb dX10_cut_5 rfl (lv_at hl 0 rfl) ?_
  refine va_get (D := (dC, dI)) (ci := 10) (v := .ref f_source) (C := RX10) (T := TX10) (N := 12) hx hb hts ii_X10 hown hK hP 0 rfl rfl 0 (by decide) (hts (.fieldLink RX10 9 "StoryHouse$Words" "source" "[B") wq_41) (fun _ h9 => h9) rfl dX10_cut_6 ?_
  refine va_alen (v := 16000) hx hb hK hP 2 0 rfl rfl (by first | rfl | decide +kernel) dX10_cut_9 ?_
  refine va_mmin hx hb (hml.trans hl.1.symm) hown (hts (.methodLink RX10 38 yJ9_min_7cf53) wq_330) (hts (.static yJ9_min_7cf53) wq_331) (hts (.initialized RJ9) wq_19) (hts (.code yJ9_min_7cf53 cJ9_min_7cf53 2 (some .int)) wq_332) (Nat.le_of_ble_eq_true rfl) (Nat.le_of_ble_eq_true rfl) (Nat.le_of_ble_eq_true rfl) (Nat.le_of_ble_eq_true rfl) dX10_cut_10 ?_
  refine lv_topi (fun x_1 ex_1 => ?_)
  obtain rfl : x_1 = 16000 := ex_1.trans (by decide +kernel)
  refine va_mmin hx hb (hml.trans hl.1.symm) hown (hts (.methodLink RX10 38 yJ9_min_7cf53) wq_330) (hts (.static yJ9_min_7cf53) wq_331) (hts (.initialized RJ9) wq_19) (hts (.code yJ9_min_7cf53 cJ9_min_7cf53 2 (some .int)) wq_332) (Nat.le_of_ble_eq_true rfl) (Nat.le_of_ble_eq_true rfl) (Nat.le_of_ble_eq_true rfl) (Nat.le_of_ble_eq_true rfl) dX10_cut_13 ?_
  refine lv_topi (fun x_2 ex_2 => ?_)
  obtain rfl : x_2 = 0 := ex_2.trans (by decide +kernel)
  refine va_mmax hx hb (hml.trans hl.1.symm) hown (hts (.methodLink RX10 44 yJ9_max_7cf53) wq_333) (hts (.static yJ9_max_7cf53) wq_334) (hts (.initialized RJ9) wq_19) (hts (.code yJ9_max_7cf53 cJ9_max_7cf53 2 (some .int)) wq_335) (Nat.le_of_ble_eq_true rfl) (Nat.le_of_ble_eq_true rfl) (Nat.le_of_ble_eq_true rfl) (Nat.le_of_ble_eq_true rfl) dX10_cut_16 ?_
  refine lv_topi (fun x_3 ex_3 => ?_)
  obtain rfl : x_3 = 0 := ex_3.trans (by decide +kernel)
  refine va_put (D := (dC, dI)) (ci := 10) (v := .int 0) (ty := .int) (C := RX10) (T := TX10) (N := 12) hx hb hts ii_X10 tyX10 tyX10_ok nmX10 hown hK hP hD hS 0 rfl rfl 1 (by decide) (hts (.fieldLink RX10 47 "StoryHouse$Words" "length" "I") wq_43) (fun _ h9 => h9) rfl (by decide +kernel) rfl rfl (Nat.le_of_ble_eq_true rfl) dX10_cut_19 (fun H_4 locs hP' hD' hS' => ?_)
  replace hP : va_P (dC, dI) vwCl [(w0, .inr (10, [.ref f_source, .int 0, .int 0, .ref f_kinds, .ref f_places, .ref f_values, .ref f_notes, .ref f_meanings, .ref f_names, .ref f_slots, .int 0, .int 0])), (tp, .inl (cB, 16000, .inl tf)), (f_source, .inl (cB, 16000, .inl so)), (f_names, .inl (cJ, 4500, .inr (.inl nf))), (f_slots, .inl (cI, 8192, .inl sf)), (f_kinds, .inl (cI, 16001, .inl kif)), (f_places, .inl (cI, 16001, .inl plf)), (f_values, .inl (cI, 16001, .inl vaf)), (f_notes, .inl (cI, 16001, .inl nof)), (f_meanings, .inl (cI, 16001, .inl mef))] H_4 := hP'
  replace hD : va_D A [(w0, .inr (10, [.ref f_source, .int 0, .int 0, .ref f_kinds, .ref f_places, .ref f_values, .ref f_notes, .ref f_meanings, .ref f_names, .ref f_slots, .int 0, .int 0])), (tp, .inl (cB, 16000, .inl tf)), (f_source, .inl (cB, 16000, .inl so)), (f_names, .inl (cJ, 4500, .inr (.inl nf))), (f_slots, .inl (cI, 8192, .inl sf)), (f_kinds, .inl (cI, 16001, .inl kif)), (f_places, .inl (cI, 16001, .inl plf)), (f_values, .inl (cI, 16001, .inl vaf)), (f_notes, .inl (cI, 16001, .inl nof)), (f_meanings, .inl (cI, 16001, .inl mef))] := hD'
  replace hS := hS'
  clear hP' hD' hS'
  refine lv_aload_n hx hb dX10_cut_22 rfl (lv_at hl 1 rfl) ?_
  refine lv_iconst (v := 0) hx hb dX10_cut_23 (by decide +kernel) ?_
  refine lv_aload_n hx hb dX10_cut_24 rfl (lv_at hl 0 rfl) ?_
  refine va_get (D := (dC, dI)) (ci := 10) (v := .ref f_source) (C := RX10) (T := TX10) (N := 12) hx hb hts ii_X10 hown hK hP 0 rfl rfl 0 (by decide) (hts (.fieldLink RX10 9 "StoryHouse$Words" "source" "[B") wq_41) (fun _ h9 => h9) rfl dX10_cut_25 ?_
  refine lv_iconst (v := 0) hx hb dX10_cut_28 (by decide +kernel) ?_
  refine lv_aload_n hx hb dX10_cut_29 rfl (lv_at hl 0 rfl) ?_
  refine va_get (D := (dC, dI)) (ci := 10) (v := .int 0) (C := RX10) (T := TX10) (N := 12) hx hb hts ii_X10 hown hK hP 0 rfl rfl 1 (by decide) (hts (.fieldLink RX10 47 "StoryHouse$Words" "length" "I") wq_43) (fun _ h9 => h9) rfl dX10_cut_30 ?_
  refine va_copyi hx hb (hml.trans hl.1.symm) hown (hts (.methodLink RX10 51 arraycopyName) wq_336) (hts (.native arraycopyName) wq_338) (hts (.static arraycopyName) wq_337) (hts (.initialized RJ10) wq_20) hK hP hD hS 1 2 0 0 rfl rfl rfl rfl rfl (by decide +kernel) (by decide +kernel) (by decide +kernel) (by decide +kernel) (by decide +kernel) (fun i hi => absurd (show i < 0 from hi) (Nat.not_lt_zero i)) (by decide +kernel) (by decide +kernel) dX10_cut_33 (fun H_5 locs hP' hD' hS' => ?_)
  obtain ⟨f_6, ef_6⟩ : ∃ g9 : Nat → Int32, g9 = va_cpy tf so (0 : Int32).toNatClampNeg (0 : Int32).toNatClampNeg (0 : Int32).toNatClampNeg := ⟨_, rfl⟩
  replace hP : va_P (dC, dI) vwCl [(w0, .inr (10, [.ref f_source, .int 0, .int 0, .ref f_kinds, .ref f_places, .ref f_values, .ref f_notes, .ref f_meanings, .ref f_names, .ref f_slots, .int 0, .int 0])), (tp, .inl (cB, 16000, .inl tf)), (f_source, .inl (cB, 16000, .inl f_6)), (f_names, .inl (cJ, 4500, .inr (.inl nf))), (f_slots, .inl (cI, 8192, .inl sf)), (f_kinds, .inl (cI, 16001, .inl kif)), (f_places, .inl (cI, 16001, .inl plf)), (f_values, .inl (cI, 16001, .inl vaf)), (f_notes, .inl (cI, 16001, .inl nof)), (f_meanings, .inl (cI, 16001, .inl mef))] H_5 := by rw [ef_6]; exact hP'
  replace hD : va_D A [(w0, .inr (10, [.ref f_source, .int 0, .int 0, .ref f_kinds, .ref f_places, .ref f_values, .ref f_notes, .ref f_meanings, .ref f_names, .ref f_slots, .int 0, .int 0])), (tp, .inl (cB, 16000, .inl tf)), (f_source, .inl (cB, 16000, .inl f_6)), (f_names, .inl (cJ, 4500, .inr (.inl nf))), (f_slots, .inl (cI, 8192, .inl sf)), (f_kinds, .inl (cI, 16001, .inl kif)), (f_places, .inl (cI, 16001, .inl plf)), (f_values, .inl (cI, 16001, .inl vaf)), (f_notes, .inl (cI, 16001, .inl nof)), (f_meanings, .inl (cI, 16001, .inl mef))] := by rw [ef_6]; exact hD'
  replace hS := hS'
  clear hP' hD' hS'
  refine lv_aload_n hx hb dX10_cut_36 rfl (lv_at hl 0 rfl) ?_
  refine lv_iconst (v := 0) hx hb dX10_cut_37 (by decide +kernel) ?_
  refine va_put (D := (dC, dI)) (ci := 10) (v := .int 0) (ty := .int) (C := RX10) (T := TX10) (N := 12) hx hb hts ii_X10 tyX10 tyX10_ok nmX10 hown hK hP hD hS 0 rfl rfl 2 (by decide) (hts (.fieldLink RX10 57 "StoryHouse$Words" "count" "I") wq_46) (fun _ h9 => h9) rfl (by decide +kernel) rfl rfl (Nat.le_of_ble_eq_true rfl) dX10_cut_38 (fun H_7 locs hP' hD' hS' => ?_)
  replace hP : va_P (dC, dI) vwCl [(w0, .inr (10, [.ref f_source, .int 0, .int 0, .ref f_kinds, .ref f_places, .ref f_values, .ref f_notes, .ref f_meanings, .ref f_names, .ref f_slots, .int 0, .int 0])), (tp, .inl (cB, 16000, .inl tf)), (f_source, .inl (cB, 16000, .inl f_6)), (f_names, .inl (cJ, 4500, .inr (.inl nf))), (f_slots, .inl (cI, 8192, .inl sf)), (f_kinds, .inl (cI, 16001, .inl kif)), (f_places, .inl (cI, 16001, .inl plf)), (f_values, .inl (cI, 16001, .inl vaf)), (f_notes, .inl (cI, 16001, .inl nof)), (f_meanings, .inl (cI, 16001, .inl mef))] H_7 := hP'
  replace hD : va_D A [(w0, .inr (10, [.ref f_source, .int 0, .int 0, .ref f_kinds, .ref f_places, .ref f_values, .ref f_notes, .ref f_meanings, .ref f_names, .ref f_slots, .int 0, .int 0])), (tp, .inl (cB, 16000, .inl tf)), (f_source, .inl (cB, 16000, .inl f_6)), (f_names, .inl (cJ, 4500, .inr (.inl nf))), (f_slots, .inl (cI, 8192, .inl sf)), (f_kinds, .inl (cI, 16001, .inl kif)), (f_places, .inl (cI, 16001, .inl plf)), (f_values, .inl (cI, 16001, .inl vaf)), (f_notes, .inl (cI, 16001, .inl nof)), (f_meanings, .inl (cI, 16001, .inl mef))] := hD'
  replace hS := hS'
  clear hP' hD' hS'
  refine lv_aload_n hx hb dX10_cut_41 rfl (lv_at hl 0 rfl) ?_
  refine lv_iconst (v := 0) hx hb dX10_cut_42 (by decide +kernel) ?_
  refine va_put (D := (dC, dI)) (ci := 10) (v := .int 0) (ty := .int) (C := RX10) (T := TX10) (N := 12) hx hb hts ii_X10 tyX10 tyX10_ok nmX10 hown hK hP hD hS 0 rfl rfl 11 (by decide) (hts (.fieldLink RX10 60 "StoryHouse$Words" "strings" "I") wq_61) (fun _ h9 => h9) rfl (by decide +kernel) rfl rfl (Nat.le_of_ble_eq_true rfl) dX10_cut_43 (fun H_8 locs hP' hD' hS' => ?_)
  replace hP : va_P (dC, dI) vwCl [(w0, .inr (10, [.ref f_source, .int 0, .int 0, .ref f_kinds, .ref f_places, .ref f_values, .ref f_notes, .ref f_meanings, .ref f_names, .ref f_slots, .int 0, .int 0])), (tp, .inl (cB, 16000, .inl tf)), (f_source, .inl (cB, 16000, .inl f_6)), (f_names, .inl (cJ, 4500, .inr (.inl nf))), (f_slots, .inl (cI, 8192, .inl sf)), (f_kinds, .inl (cI, 16001, .inl kif)), (f_places, .inl (cI, 16001, .inl plf)), (f_values, .inl (cI, 16001, .inl vaf)), (f_notes, .inl (cI, 16001, .inl nof)), (f_meanings, .inl (cI, 16001, .inl mef))] H_8 := hP'
  replace hD : va_D A [(w0, .inr (10, [.ref f_source, .int 0, .int 0, .ref f_kinds, .ref f_places, .ref f_values, .ref f_notes, .ref f_meanings, .ref f_names, .ref f_slots, .int 0, .int 0])), (tp, .inl (cB, 16000, .inl tf)), (f_source, .inl (cB, 16000, .inl f_6)), (f_names, .inl (cJ, 4500, .inr (.inl nf))), (f_slots, .inl (cI, 8192, .inl sf)), (f_kinds, .inl (cI, 16001, .inl kif)), (f_places, .inl (cI, 16001, .inl plf)), (f_values, .inl (cI, 16001, .inl vaf)), (f_notes, .inl (cI, 16001, .inl nof)), (f_meanings, .inl (cI, 16001, .inl mef))] := hD'
  replace hS := hS'
  clear hP' hD' hS'
  refine lv_aload_n hx hb dX10_cut_46 rfl (lv_at hl 0 rfl) ?_
  refine lv_iconst (v := 0) hx hb dX10_cut_47 (by decide +kernel) ?_
  refine va_put (D := (dC, dI)) (ci := 10) (v := .int 0) (ty := .int) (C := RX10) (T := TX10) (N := 12) hx hb hts ii_X10 tyX10 tyX10_ok nmX10 hown hK hP hD hS 0 rfl rfl 10 (by decide) (hts (.fieldLink RX10 63 "StoryHouse$Words" "named" "I") wq_60) (fun _ h9 => h9) rfl (by decide +kernel) rfl rfl (Nat.le_of_ble_eq_true rfl) dX10_cut_48 (fun H_9 locs hP' hD' hS' => ?_)
  replace hP : va_P (dC, dI) vwCl [(w0, .inr (10, [.ref f_source, .int 0, .int 0, .ref f_kinds, .ref f_places, .ref f_values, .ref f_notes, .ref f_meanings, .ref f_names, .ref f_slots, .int 0, .int 0])), (tp, .inl (cB, 16000, .inl tf)), (f_source, .inl (cB, 16000, .inl f_6)), (f_names, .inl (cJ, 4500, .inr (.inl nf))), (f_slots, .inl (cI, 8192, .inl sf)), (f_kinds, .inl (cI, 16001, .inl kif)), (f_places, .inl (cI, 16001, .inl plf)), (f_values, .inl (cI, 16001, .inl vaf)), (f_notes, .inl (cI, 16001, .inl nof)), (f_meanings, .inl (cI, 16001, .inl mef))] H_9 := hP'
  replace hD : va_D A [(w0, .inr (10, [.ref f_source, .int 0, .int 0, .ref f_kinds, .ref f_places, .ref f_values, .ref f_notes, .ref f_meanings, .ref f_names, .ref f_slots, .int 0, .int 0])), (tp, .inl (cB, 16000, .inl tf)), (f_source, .inl (cB, 16000, .inl f_6)), (f_names, .inl (cJ, 4500, .inr (.inl nf))), (f_slots, .inl (cI, 8192, .inl sf)), (f_kinds, .inl (cI, 16001, .inl kif)), (f_places, .inl (cI, 16001, .inl plf)), (f_values, .inl (cI, 16001, .inl vaf)), (f_notes, .inl (cI, 16001, .inl nof)), (f_meanings, .inl (cI, 16001, .inl mef))] := hD'
  replace hS := hS'
  clear hP' hD' hS'
  refine lv_aload_n hx hb dX10_cut_51 rfl (lv_at hl 0 rfl) ?_
  refine va_get (D := (dC, dI)) (ci := 10) (v := .ref f_slots) (C := RX10) (T := TX10) (N := 12) hx hb hts ii_X10 hown hK hP 0 rfl rfl 9 (by decide) (hts (.fieldLink RX10 35 "StoryHouse$Words" "slots" "[I") wq_59) (fun _ h9 => h9) rfl dX10_cut_52 ?_
  refine lv_iconst (v := 0) hx hb dX10_cut_55 (by decide +kernel) ?_
  have hPc := hP.sub (ws' := [(f_slots, .inl (cI, 8192, .inl sf))]) [4] rfl
  have hDc := hD.sub (ws' := [(f_slots, .inl (cI, 8192, .inl sf))]) [4] (by decide +kernel) rfl
  have hFc := va_free (wc := [(f_slots, .inl (cI, 8192, .inl sf))]) hD hS hA [4] rfl
  refine g_ofv (wc := [(f_slots, .inl (cI, 8192, .inl sf))]) (wr := [(w0, .inr (10, [.ref f_source, .int 0, .int 0, .ref f_kinds, .ref f_places, .ref f_values, .ref f_notes, .ref f_meanings, .ref f_names, .ref f_slots, .int 0, .int 0])), (tp, .inl (cB, 16000, .inl tf)), (f_source, .inl (cB, 16000, .inl f_6)), (f_names, .inl (cJ, 4500, .inr (.inl nf))), (f_kinds, .inl (cI, 16001, .inl kif)), (f_places, .inl (cI, 16001, .inl plf)), (f_values, .inl (cI, 16001, .inl vaf)), (f_notes, .inl (cI, 16001, .inl nof)), (f_meanings, .inl (cI, 16001, .inl mef))]) hP hD hS hFc [4] [0, 1, 2, 3, 5, 6, 7, 8, 9] rfl rfl (by decide +kernel) (by decide +kernel) (va_runS (As := [.ref f_slots, .int 0]) (rest := []) ⟨hx, hb, hml, hown, hts⟩ (c_J7_fill_53178 l dC dI cB cC cI cJ cZ cP H_9.size f_slots 0 8192 sf (by decide)) (va_cwS 2 hts (g_gS wq_339 wq_340 wq_21 wq_341) rfl rfl rfl (by decide +kernel) ⟨Nat.le_of_ble_eq_true rfl, Nat.le_of_ble_eq_true rfl⟩) (g_preS g_bl0 hK hPc hDc hS hE hFc g_to0) rfl rfl hl.1 rfl (lv_room (Nat.le_of_ble_eq_true rfl)) dX10_cut_56 ⟨Nat.le_of_ble_eq_true rfl, Nat.le_of_ble_eq_true rfl⟩) (fun u_11 H_12 locs w_10 hP' hD' hS' => ?_)
  clear hPc hDc hFc
  have w_10 : ∀ j : Nat, j < 8192 → u_11 j = 0 := w_10
  replace hP : va_P (dC, dI) vwCl [(w0, .inr (10, [.ref f_source, .int 0, .int 0, .ref f_kinds, .ref f_places, .ref f_values, .ref f_notes, .ref f_meanings, .ref f_names, .ref f_slots, .int 0, .int 0])), (tp, .inl (cB, 16000, .inl tf)), (f_source, .inl (cB, 16000, .inl f_6)), (f_names, .inl (cJ, 4500, .inr (.inl nf))), (f_kinds, .inl (cI, 16001, .inl kif)), (f_places, .inl (cI, 16001, .inl plf)), (f_values, .inl (cI, 16001, .inl vaf)), (f_notes, .inl (cI, 16001, .inl nof)), (f_meanings, .inl (cI, 16001, .inl mef)), (f_slots, .inl (cI, 8192, .inl u_11))] H_12 := hP'
  replace hD : va_D A [(w0, .inr (10, [.ref f_source, .int 0, .int 0, .ref f_kinds, .ref f_places, .ref f_values, .ref f_notes, .ref f_meanings, .ref f_names, .ref f_slots, .int 0, .int 0])), (tp, .inl (cB, 16000, .inl tf)), (f_source, .inl (cB, 16000, .inl f_6)), (f_names, .inl (cJ, 4500, .inr (.inl nf))), (f_kinds, .inl (cI, 16001, .inl kif)), (f_places, .inl (cI, 16001, .inl plf)), (f_values, .inl (cI, 16001, .inl vaf)), (f_notes, .inl (cI, 16001, .inl nof)), (f_meanings, .inl (cI, 16001, .inl mef)), (f_slots, .inl (cI, 8192, .inl u_11))] := hD'
  replace hS := hS'
  clear hP' hD' hS'
  refine lv_aload_n hx hb dX10_cut_59 rfl (lv_at hl 0 rfl) ?_
  obtain ⟨q_13, vq_13, hRq_13, hSq_13⟩ := hE.2.2.2.2 _ (List.mem_of_getElem? (i := 0) rfl)
  refine va_ldcS (own := RX10) (tx := "north south east west up down container fixed hidden light open supporter dark alone one two ") hx hb hown hRq_13 dX10_cut_60 ?_
  have hPc := hP.sub (ws' := [(w0, .inr (10, [.ref f_source, .int 0, .int 0, .ref f_kinds, .ref f_places, .ref f_values, .ref f_notes, .ref f_meanings, .ref f_names, .ref f_slots, .int 0, .int 0])), (f_names, .inl (cJ, 4500, .inr (.inl nf))), (f_slots, .inl (cI, 8192, .inl u_11))]) [0, 3, 9] rfl
  have hDc := hD.sub (ws' := [(w0, .inr (10, [.ref f_source, .int 0, .int 0, .ref f_kinds, .ref f_places, .ref f_values, .ref f_notes, .ref f_meanings, .ref f_names, .ref f_slots, .int 0, .int 0])), (f_names, .inl (cJ, 4500, .inr (.inl nf))), (f_slots, .inl (cI, 8192, .inl u_11))]) [0, 3, 9] (by decide +kernel) rfl
  have hFc := va_free (wc := [(w0, .inr (10, [.ref f_source, .int 0, .int 0, .ref f_kinds, .ref f_places, .ref f_values, .ref f_notes, .ref f_meanings, .ref f_names, .ref f_slots, .int 0, .int 0])), (f_names, .inl (cJ, 4500, .inr (.inl nf))), (f_slots, .inl (cI, 8192, .inl u_11))]) hD hS hA [0, 3, 9] rfl
  refine g_ofv (wc := [(w0, .inr (10, [.ref f_source, .int 0, .int 0, .ref f_kinds, .ref f_places, .ref f_values, .ref f_notes, .ref f_meanings, .ref f_names, .ref f_slots, .int 0, .int 0])), (f_names, .inl (cJ, 4500, .inr (.inl nf))), (f_slots, .inl (cI, 8192, .inl u_11))]) (wr := [(tp, .inl (cB, 16000, .inl tf)), (f_source, .inl (cB, 16000, .inl f_6)), (f_kinds, .inl (cI, 16001, .inl kif)), (f_places, .inl (cI, 16001, .inl plf)), (f_values, .inl (cI, 16001, .inl vaf)), (f_notes, .inl (cI, 16001, .inl nof)), (f_meanings, .inl (cI, 16001, .inl mef))]) hP hD hS hFc [0, 3, 9] [1, 2, 4, 5, 6, 7, 8] rfl rfl (by decide +kernel) (by decide +kernel) (va_runV (As := [.ref q_13]) (rest := []) ⟨hx, hb, hml, hown, hts⟩ (c_X10_learn l dC dI cB cC cI cJ cZ cP H_12.size w0 f_source 0 0 f_kinds f_places f_values f_notes f_meanings f_names f_slots 0 0 nf u_11 q_13 vq_13 [110, 111, 114, 116, 104, 32, 115, 111, 117, 116, 104, 32, 101, 97, 115, 116, 32, 119, 101, 115, 116, 32, 117, 112, 32, 100, 111, 119, 110, 32, 99, 111, 110, 116, 97, 105, 110, 101, 114, 32, 102, 105, 120, 101, 100, 32, 104, 105, 100, 100, 101, 110, 32, 108, 105, 103, 104, 116, 32, 111, 112, 101, 110, 32, 115, 117, 112, 112, 111, 114, 116, 101, 114, 32, 100, 97, 114, 107, 32, 97, 108, 111, 110, 101, 32, 111, 110, 101, 32, 116, 119, 111, 32] (by decide +kernel)) (cwV 1 hts (g_gV wq_342 wq_343 wq_1979 wq_2 wq_344) rfl rfl rfl (by decide +kernel) ⟨Nat.le_of_ble_eq_true rfl, Nat.le_of_ble_eq_true rfl⟩) (g_preV g_blS hK hPc hDc hS hE hFc (g_toS hSq_13 hS hFc) (q0 := 0) (ci := 10) rfl rfl) rfl rfl hl.1 rfl (lv_room (Nat.le_of_ble_eq_true rfl)) dX10_cut_62 ⟨Nat.le_of_ble_eq_true rfl, Nat.le_of_ble_eq_true rfl⟩) (fun u_15 H_16 locs w_14 hP' hD' hS' => ?_)
  clear hPc hDc hFc
  obtain ⟨o_17, o_18, o_19⟩ := u_15
  have w_14 : ¬ o_17 < 0 := w_14
  replace hP : va_P (dC, dI) vwCl [(tp, .inl (cB, 16000, .inl tf)), (f_source, .inl (cB, 16000, .inl f_6)), (f_kinds, .inl (cI, 16001, .inl kif)), (f_places, .inl (cI, 16001, .inl plf)), (f_values, .inl (cI, 16001, .inl vaf)), (f_notes, .inl (cI, 16001, .inl nof)), (f_meanings, .inl (cI, 16001, .inl mef)), (w0, .inr (10, [.ref f_source, .int 0, .int 0, .ref f_kinds, .ref f_places, .ref f_values, .ref f_notes, .ref f_meanings, .ref f_names, .ref f_slots, .int o_17, .int 0])), (f_names, .inl (cJ, 4500, .inr (.inl o_18))), (f_slots, .inl (cI, 8192, .inl o_19))] H_16 := hP'
  replace hD : va_D A [(tp, .inl (cB, 16000, .inl tf)), (f_source, .inl (cB, 16000, .inl f_6)), (f_kinds, .inl (cI, 16001, .inl kif)), (f_places, .inl (cI, 16001, .inl plf)), (f_values, .inl (cI, 16001, .inl vaf)), (f_notes, .inl (cI, 16001, .inl nof)), (f_meanings, .inl (cI, 16001, .inl mef)), (w0, .inr (10, [.ref f_source, .int 0, .int 0, .ref f_kinds, .ref f_places, .ref f_values, .ref f_notes, .ref f_meanings, .ref f_names, .ref f_slots, .int o_17, .int 0])), (f_names, .inl (cJ, 4500, .inr (.inl o_18))), (f_slots, .inl (cI, 8192, .inl o_19))] := hD'
  replace hS := hS'
  clear hP' hD' hS'
  refine lv_aload_n hx hb dX10_cut_65 rfl (lv_at hl 0 rfl) ?_
  obtain ⟨q_20, vq_20, hRq_20, hSq_20⟩ := hE.2.2.2.2 _ (List.mem_of_getElem? (i := 1) rfl)
  refine va_ldcS (own := RX10) (tx := "and or not in has holder first next random here noun second player name ") hx hb hown hRq_20 dX10_cut_66 ?_
  have hPc := hP.sub (ws' := [(w0, .inr (10, [.ref f_source, .int 0, .int 0, .ref f_kinds, .ref f_places, .ref f_values, .ref f_notes, .ref f_meanings, .ref f_names, .ref f_slots, .int o_17, .int 0])), (f_names, .inl (cJ, 4500, .inr (.inl o_18))), (f_slots, .inl (cI, 8192, .inl o_19))]) [7, 8, 9] rfl
  have hDc := hD.sub (ws' := [(w0, .inr (10, [.ref f_source, .int 0, .int 0, .ref f_kinds, .ref f_places, .ref f_values, .ref f_notes, .ref f_meanings, .ref f_names, .ref f_slots, .int o_17, .int 0])), (f_names, .inl (cJ, 4500, .inr (.inl o_18))), (f_slots, .inl (cI, 8192, .inl o_19))]) [7, 8, 9] (by decide +kernel) rfl
  have hFc := va_free (wc := [(w0, .inr (10, [.ref f_source, .int 0, .int 0, .ref f_kinds, .ref f_places, .ref f_values, .ref f_notes, .ref f_meanings, .ref f_names, .ref f_slots, .int o_17, .int 0])), (f_names, .inl (cJ, 4500, .inr (.inl o_18))), (f_slots, .inl (cI, 8192, .inl o_19))]) hD hS hA [7, 8, 9] rfl
  refine g_ofv (wc := [(w0, .inr (10, [.ref f_source, .int 0, .int 0, .ref f_kinds, .ref f_places, .ref f_values, .ref f_notes, .ref f_meanings, .ref f_names, .ref f_slots, .int o_17, .int 0])), (f_names, .inl (cJ, 4500, .inr (.inl o_18))), (f_slots, .inl (cI, 8192, .inl o_19))]) (wr := [(tp, .inl (cB, 16000, .inl tf)), (f_source, .inl (cB, 16000, .inl f_6)), (f_kinds, .inl (cI, 16001, .inl kif)), (f_places, .inl (cI, 16001, .inl plf)), (f_values, .inl (cI, 16001, .inl vaf)), (f_notes, .inl (cI, 16001, .inl nof)), (f_meanings, .inl (cI, 16001, .inl mef))]) hP hD hS hFc [7, 8, 9] [0, 1, 2, 3, 4, 5, 6] rfl rfl (by decide +kernel) (by decide +kernel) (va_runV (As := [.ref q_20]) (rest := []) ⟨hx, hb, hml, hown, hts⟩ (c_X10_learn l dC dI cB cC cI cJ cZ cP H_16.size w0 f_source 0 0 f_kinds f_places f_values f_notes f_meanings f_names f_slots 0 o_17 o_18 o_19 q_20 vq_20 [97, 110, 100, 32, 111, 114, 32, 110, 111, 116, 32, 105, 110, 32, 104, 97, 115, 32, 104, 111, 108, 100, 101, 114, 32, 102, 105, 114, 115, 116, 32, 110, 101, 120, 116, 32, 114, 97, 110, 100, 111, 109, 32, 104, 101, 114, 101, 32, 110, 111, 117, 110, 32, 115, 101, 99, 111, 110, 100, 32, 112, 108, 97, 121, 101, 114, 32, 110, 97, 109, 101, 32] (by first | assumption | decide +kernel)) (cwV 1 hts (g_gV wq_342 wq_343 wq_1979 wq_2 wq_344) rfl rfl rfl (by decide +kernel) ⟨Nat.le_of_ble_eq_true rfl, Nat.le_of_ble_eq_true rfl⟩) (g_preV g_blS hK hPc hDc hS hE hFc (g_toS hSq_20 hS hFc) (q0 := 0) (ci := 10) rfl rfl) rfl rfl hl.1 rfl (lv_room (Nat.le_of_ble_eq_true rfl)) dX10_cut_68 ⟨Nat.le_of_ble_eq_true rfl, Nat.le_of_ble_eq_true rfl⟩) (fun u_22 H_23 locs w_21 hP' hD' hS' => ?_)
  clear hPc hDc hFc
  obtain ⟨o_24, o_25, o_26⟩ := u_22
  have w_21 : ¬ o_24 < 0 := w_21
  replace hP : va_P (dC, dI) vwCl [(tp, .inl (cB, 16000, .inl tf)), (f_source, .inl (cB, 16000, .inl f_6)), (f_kinds, .inl (cI, 16001, .inl kif)), (f_places, .inl (cI, 16001, .inl plf)), (f_values, .inl (cI, 16001, .inl vaf)), (f_notes, .inl (cI, 16001, .inl nof)), (f_meanings, .inl (cI, 16001, .inl mef)), (w0, .inr (10, [.ref f_source, .int 0, .int 0, .ref f_kinds, .ref f_places, .ref f_values, .ref f_notes, .ref f_meanings, .ref f_names, .ref f_slots, .int o_24, .int 0])), (f_names, .inl (cJ, 4500, .inr (.inl o_25))), (f_slots, .inl (cI, 8192, .inl o_26))] H_23 := hP'
  replace hD : va_D A [(tp, .inl (cB, 16000, .inl tf)), (f_source, .inl (cB, 16000, .inl f_6)), (f_kinds, .inl (cI, 16001, .inl kif)), (f_places, .inl (cI, 16001, .inl plf)), (f_values, .inl (cI, 16001, .inl vaf)), (f_notes, .inl (cI, 16001, .inl nof)), (f_meanings, .inl (cI, 16001, .inl mef)), (w0, .inr (10, [.ref f_source, .int 0, .int 0, .ref f_kinds, .ref f_places, .ref f_values, .ref f_notes, .ref f_meanings, .ref f_names, .ref f_slots, .int o_24, .int 0])), (f_names, .inl (cJ, 4500, .inr (.inl o_25))), (f_slots, .inl (cI, 8192, .inl o_26))] := hD'
  replace hS := hS'
  clear hP' hD' hS'
  refine lv_aload_n hx hb dX10_cut_71 rfl (lv_at hl 0 rfl) ?_
  obtain ⟨q_27, vq_27, hRq_27, hSq_27⟩ := hE.2.2.2.2 _ (List.mem_of_getElem? (i := 2) rfl)
  refine va_ldcS (own := RX10) (tx := "room thing verb var array def on each text exit word ") hx hb hown hRq_27 dX10_cut_72 ?_
  have hPc := hP.sub (ws' := [(w0, .inr (10, [.ref f_source, .int 0, .int 0, .ref f_kinds, .ref f_places, .ref f_values, .ref f_notes, .ref f_meanings, .ref f_names, .ref f_slots, .int o_24, .int 0])), (f_names, .inl (cJ, 4500, .inr (.inl o_25))), (f_slots, .inl (cI, 8192, .inl o_26))]) [7, 8, 9] rfl
  have hDc := hD.sub (ws' := [(w0, .inr (10, [.ref f_source, .int 0, .int 0, .ref f_kinds, .ref f_places, .ref f_values, .ref f_notes, .ref f_meanings, .ref f_names, .ref f_slots, .int o_24, .int 0])), (f_names, .inl (cJ, 4500, .inr (.inl o_25))), (f_slots, .inl (cI, 8192, .inl o_26))]) [7, 8, 9] (by decide +kernel) rfl
  have hFc := va_free (wc := [(w0, .inr (10, [.ref f_source, .int 0, .int 0, .ref f_kinds, .ref f_places, .ref f_values, .ref f_notes, .ref f_meanings, .ref f_names, .ref f_slots, .int o_24, .int 0])), (f_names, .inl (cJ, 4500, .inr (.inl o_25))), (f_slots, .inl (cI, 8192, .inl o_26))]) hD hS hA [7, 8, 9] rfl
  refine g_ofv (wc := [(w0, .inr (10, [.ref f_source, .int 0, .int 0, .ref f_kinds, .ref f_places, .ref f_values, .ref f_notes, .ref f_meanings, .ref f_names, .ref f_slots, .int o_24, .int 0])), (f_names, .inl (cJ, 4500, .inr (.inl o_25))), (f_slots, .inl (cI, 8192, .inl o_26))]) (wr := [(tp, .inl (cB, 16000, .inl tf)), (f_source, .inl (cB, 16000, .inl f_6)), (f_kinds, .inl (cI, 16001, .inl kif)), (f_places, .inl (cI, 16001, .inl plf)), (f_values, .inl (cI, 16001, .inl vaf)), (f_notes, .inl (cI, 16001, .inl nof)), (f_meanings, .inl (cI, 16001, .inl mef))]) hP hD hS hFc [7, 8, 9] [0, 1, 2, 3, 4, 5, 6] rfl rfl (by decide +kernel) (by decide +kernel) (va_runV (As := [.ref q_27]) (rest := []) ⟨hx, hb, hml, hown, hts⟩ (c_X10_learn l dC dI cB cC cI cJ cZ cP H_23.size w0 f_source 0 0 f_kinds f_places f_values f_notes f_meanings f_names f_slots 0 o_24 o_25 o_26 q_27 vq_27 [114, 111, 111, 109, 32, 116, 104, 105, 110, 103, 32, 118, 101, 114, 98, 32, 118, 97, 114, 32, 97, 114, 114, 97, 121, 32, 100, 101, 102, 32, 111, 110, 32, 101, 97, 99, 104, 32, 116, 101, 120, 116, 32, 101, 120, 105, 116, 32, 119, 111, 114, 100, 32] (by first | assumption | decide +kernel)) (cwV 1 hts (g_gV wq_342 wq_343 wq_1979 wq_2 wq_344) rfl rfl rfl (by decide +kernel) ⟨Nat.le_of_ble_eq_true rfl, Nat.le_of_ble_eq_true rfl⟩) (g_preV g_blS hK hPc hDc hS hE hFc (g_toS hSq_27 hS hFc) (q0 := 0) (ci := 10) rfl rfl) rfl rfl hl.1 rfl (lv_room (Nat.le_of_ble_eq_true rfl)) dX10_cut_74 ⟨Nat.le_of_ble_eq_true rfl, Nat.le_of_ble_eq_true rfl⟩) (fun u_29 H_30 locs w_28 hP' hD' hS' => ?_)
  clear hPc hDc hFc
  obtain ⟨o_31, o_32, o_33⟩ := u_29
  have w_28 : ¬ o_31 < 0 := w_28
  replace hP : va_P (dC, dI) vwCl [(tp, .inl (cB, 16000, .inl tf)), (f_source, .inl (cB, 16000, .inl f_6)), (f_kinds, .inl (cI, 16001, .inl kif)), (f_places, .inl (cI, 16001, .inl plf)), (f_values, .inl (cI, 16001, .inl vaf)), (f_notes, .inl (cI, 16001, .inl nof)), (f_meanings, .inl (cI, 16001, .inl mef)), (w0, .inr (10, [.ref f_source, .int 0, .int 0, .ref f_kinds, .ref f_places, .ref f_values, .ref f_notes, .ref f_meanings, .ref f_names, .ref f_slots, .int o_31, .int 0])), (f_names, .inl (cJ, 4500, .inr (.inl o_32))), (f_slots, .inl (cI, 8192, .inl o_33))] H_30 := hP'
  replace hD : va_D A [(tp, .inl (cB, 16000, .inl tf)), (f_source, .inl (cB, 16000, .inl f_6)), (f_kinds, .inl (cI, 16001, .inl kif)), (f_places, .inl (cI, 16001, .inl plf)), (f_values, .inl (cI, 16001, .inl vaf)), (f_notes, .inl (cI, 16001, .inl nof)), (f_meanings, .inl (cI, 16001, .inl mef)), (w0, .inr (10, [.ref f_source, .int 0, .int 0, .ref f_kinds, .ref f_places, .ref f_values, .ref f_notes, .ref f_meanings, .ref f_names, .ref f_slots, .int o_31, .int 0])), (f_names, .inl (cJ, 4500, .inr (.inl o_32))), (f_slots, .inl (cI, 8192, .inl o_33))] := hD'
  replace hS := hS'
  clear hP' hD' hS'
  refine lv_aload_n hx hb dX10_cut_77 rfl (lv_at hl 0 rfl) ?_
  obtain ⟨q_34, vq_34, hRq_34, hSq_34⟩ := hE.2.2.2.2 _ (List.mem_of_getElem? (i := 3) rfl)
  refine va_ldcS (own := RX10) (tx := "say let move to remove set clear if else while return done win lose any all ") hx hb hown hRq_34 dX10_cut_78 ?_
  have hPc := hP.sub (ws' := [(w0, .inr (10, [.ref f_source, .int 0, .int 0, .ref f_kinds, .ref f_places, .ref f_values, .ref f_notes, .ref f_meanings, .ref f_names, .ref f_slots, .int o_31, .int 0])), (f_names, .inl (cJ, 4500, .inr (.inl o_32))), (f_slots, .inl (cI, 8192, .inl o_33))]) [7, 8, 9] rfl
  have hDc := hD.sub (ws' := [(w0, .inr (10, [.ref f_source, .int 0, .int 0, .ref f_kinds, .ref f_places, .ref f_values, .ref f_notes, .ref f_meanings, .ref f_names, .ref f_slots, .int o_31, .int 0])), (f_names, .inl (cJ, 4500, .inr (.inl o_32))), (f_slots, .inl (cI, 8192, .inl o_33))]) [7, 8, 9] (by decide +kernel) rfl
  have hFc := va_free (wc := [(w0, .inr (10, [.ref f_source, .int 0, .int 0, .ref f_kinds, .ref f_places, .ref f_values, .ref f_notes, .ref f_meanings, .ref f_names, .ref f_slots, .int o_31, .int 0])), (f_names, .inl (cJ, 4500, .inr (.inl o_32))), (f_slots, .inl (cI, 8192, .inl o_33))]) hD hS hA [7, 8, 9] rfl
  refine g_ofv (wc := [(w0, .inr (10, [.ref f_source, .int 0, .int 0, .ref f_kinds, .ref f_places, .ref f_values, .ref f_notes, .ref f_meanings, .ref f_names, .ref f_slots, .int o_31, .int 0])), (f_names, .inl (cJ, 4500, .inr (.inl o_32))), (f_slots, .inl (cI, 8192, .inl o_33))]) (wr := [(tp, .inl (cB, 16000, .inl tf)), (f_source, .inl (cB, 16000, .inl f_6)), (f_kinds, .inl (cI, 16001, .inl kif)), (f_places, .inl (cI, 16001, .inl plf)), (f_values, .inl (cI, 16001, .inl vaf)), (f_notes, .inl (cI, 16001, .inl nof)), (f_meanings, .inl (cI, 16001, .inl mef))]) hP hD hS hFc [7, 8, 9] [0, 1, 2, 3, 4, 5, 6] rfl rfl (by decide +kernel) (by decide +kernel) (va_runV (As := [.ref q_34]) (rest := []) ⟨hx, hb, hml, hown, hts⟩ (c_X10_learn l dC dI cB cC cI cJ cZ cP H_30.size w0 f_source 0 0 f_kinds f_places f_values f_notes f_meanings f_names f_slots 0 o_31 o_32 o_33 q_34 vq_34 [115, 97, 121, 32, 108, 101, 116, 32, 109, 111, 118, 101, 32, 116, 111, 32, 114, 101, 109, 111, 118, 101, 32, 115, 101, 116, 32, 99, 108, 101, 97, 114, 32, 105, 102, 32, 101, 108, 115, 101, 32, 119, 104, 105, 108, 101, 32, 114, 101, 116, 117, 114, 110, 32, 100, 111, 110, 101, 32, 119, 105, 110, 32, 108, 111, 115, 101, 32, 97, 110, 121, 32, 97, 108, 108, 32] (by first | assumption | decide +kernel)) (cwV 1 hts (g_gV wq_342 wq_343 wq_1979 wq_2 wq_344) rfl rfl rfl (by decide +kernel) ⟨Nat.le_of_ble_eq_true rfl, Nat.le_of_ble_eq_true rfl⟩) (g_preV g_blS hK hPc hDc hS hE hFc (g_toS hSq_34 hS hFc) (q0 := 0) (ci := 10) rfl rfl) rfl rfl hl.1 rfl (lv_room (Nat.le_of_ble_eq_true rfl)) dX10_cut_80 ⟨Nat.le_of_ble_eq_true rfl, Nat.le_of_ble_eq_true rfl⟩) (fun u_36 H_37 locs w_35 hP' hD' hS' => ?_)
  clear hPc hDc hFc
  obtain ⟨o_38, o_39, o_40⟩ := u_36
  have w_35 : ¬ o_38 < 0 := w_35
  replace hP : va_P (dC, dI) vwCl [(tp, .inl (cB, 16000, .inl tf)), (f_source, .inl (cB, 16000, .inl f_6)), (f_kinds, .inl (cI, 16001, .inl kif)), (f_places, .inl (cI, 16001, .inl plf)), (f_values, .inl (cI, 16001, .inl vaf)), (f_notes, .inl (cI, 16001, .inl nof)), (f_meanings, .inl (cI, 16001, .inl mef)), (w0, .inr (10, [.ref f_source, .int 0, .int 0, .ref f_kinds, .ref f_places, .ref f_values, .ref f_notes, .ref f_meanings, .ref f_names, .ref f_slots, .int o_38, .int 0])), (f_names, .inl (cJ, 4500, .inr (.inl o_39))), (f_slots, .inl (cI, 8192, .inl o_40))] H_37 := hP'
  replace hD : va_D A [(tp, .inl (cB, 16000, .inl tf)), (f_source, .inl (cB, 16000, .inl f_6)), (f_kinds, .inl (cI, 16001, .inl kif)), (f_places, .inl (cI, 16001, .inl plf)), (f_values, .inl (cI, 16001, .inl vaf)), (f_notes, .inl (cI, 16001, .inl nof)), (f_meanings, .inl (cI, 16001, .inl mef)), (w0, .inr (10, [.ref f_source, .int 0, .int 0, .ref f_kinds, .ref f_places, .ref f_values, .ref f_notes, .ref f_meanings, .ref f_names, .ref f_slots, .int o_38, .int 0])), (f_names, .inl (cJ, 4500, .inr (.inl o_39))), (f_slots, .inl (cI, 8192, .inl o_40))] := hD'
  replace hS := hS'
  clear hP' hD' hS'
  refine lv_aload_n hx hb dX10_cut_83 rfl (lv_at hl 0 rfl) ?_
  obtain ⟨q_41, vq_41, hRq_41, hSq_41⟩ := hE.2.2.2.2 _ (List.mem_of_getElem? (i := 4) rfl)
  refine va_ldcS (own := RX10) (tx := "look inventory wait take drop examine open close putin puton go ") hx hb hown hRq_41 dX10_cut_84 ?_
  have hPc := hP.sub (ws' := [(w0, .inr (10, [.ref f_source, .int 0, .int 0, .ref f_kinds, .ref f_places, .ref f_values, .ref f_notes, .ref f_meanings, .ref f_names, .ref f_slots, .int o_38, .int 0])), (f_names, .inl (cJ, 4500, .inr (.inl o_39))), (f_slots, .inl (cI, 8192, .inl o_40))]) [7, 8, 9] rfl
  have hDc := hD.sub (ws' := [(w0, .inr (10, [.ref f_source, .int 0, .int 0, .ref f_kinds, .ref f_places, .ref f_values, .ref f_notes, .ref f_meanings, .ref f_names, .ref f_slots, .int o_38, .int 0])), (f_names, .inl (cJ, 4500, .inr (.inl o_39))), (f_slots, .inl (cI, 8192, .inl o_40))]) [7, 8, 9] (by decide +kernel) rfl
  have hFc := va_free (wc := [(w0, .inr (10, [.ref f_source, .int 0, .int 0, .ref f_kinds, .ref f_places, .ref f_values, .ref f_notes, .ref f_meanings, .ref f_names, .ref f_slots, .int o_38, .int 0])), (f_names, .inl (cJ, 4500, .inr (.inl o_39))), (f_slots, .inl (cI, 8192, .inl o_40))]) hD hS hA [7, 8, 9] rfl
  refine g_ofv (wc := [(w0, .inr (10, [.ref f_source, .int 0, .int 0, .ref f_kinds, .ref f_places, .ref f_values, .ref f_notes, .ref f_meanings, .ref f_names, .ref f_slots, .int o_38, .int 0])), (f_names, .inl (cJ, 4500, .inr (.inl o_39))), (f_slots, .inl (cI, 8192, .inl o_40))]) (wr := [(tp, .inl (cB, 16000, .inl tf)), (f_source, .inl (cB, 16000, .inl f_6)), (f_kinds, .inl (cI, 16001, .inl kif)), (f_places, .inl (cI, 16001, .inl plf)), (f_values, .inl (cI, 16001, .inl vaf)), (f_notes, .inl (cI, 16001, .inl nof)), (f_meanings, .inl (cI, 16001, .inl mef))]) hP hD hS hFc [7, 8, 9] [0, 1, 2, 3, 4, 5, 6] rfl rfl (by decide +kernel) (by decide +kernel) (va_runV (As := [.ref q_41]) (rest := []) ⟨hx, hb, hml, hown, hts⟩ (c_X10_learn l dC dI cB cC cI cJ cZ cP H_37.size w0 f_source 0 0 f_kinds f_places f_values f_notes f_meanings f_names f_slots 0 o_38 o_39 o_40 q_41 vq_41 [108, 111, 111, 107, 32, 105, 110, 118, 101, 110, 116, 111, 114, 121, 32, 119, 97, 105, 116, 32, 116, 97, 107, 101, 32, 100, 114, 111, 112, 32, 101, 120, 97, 109, 105, 110, 101, 32, 111, 112, 101, 110, 32, 99, 108, 111, 115, 101, 32, 112, 117, 116, 105, 110, 32, 112, 117, 116, 111, 110, 32, 103, 111, 32] (by first | assumption | decide +kernel)) (cwV 1 hts (g_gV wq_342 wq_343 wq_1979 wq_2 wq_344) rfl rfl rfl (by decide +kernel) ⟨Nat.le_of_ble_eq_true rfl, Nat.le_of_ble_eq_true rfl⟩) (g_preV g_blS hK hPc hDc hS hE hFc (g_toS hSq_41 hS hFc) (q0 := 0) (ci := 10) rfl rfl) rfl rfl hl.1 rfl (lv_room (Nat.le_of_ble_eq_true rfl)) dX10_cut_86 ⟨Nat.le_of_ble_eq_true rfl, Nat.le_of_ble_eq_true rfl⟩) (fun u_43 H_44 locs w_42 hP' hD' hS' => ?_)
  clear hPc hDc hFc
  obtain ⟨o_45, o_46, o_47⟩ := u_43
  have w_42 : ¬ o_45 < 0 := w_42
  replace hP : va_P (dC, dI) vwCl [(tp, .inl (cB, 16000, .inl tf)), (f_source, .inl (cB, 16000, .inl f_6)), (f_kinds, .inl (cI, 16001, .inl kif)), (f_places, .inl (cI, 16001, .inl plf)), (f_values, .inl (cI, 16001, .inl vaf)), (f_notes, .inl (cI, 16001, .inl nof)), (f_meanings, .inl (cI, 16001, .inl mef)), (w0, .inr (10, [.ref f_source, .int 0, .int 0, .ref f_kinds, .ref f_places, .ref f_values, .ref f_notes, .ref f_meanings, .ref f_names, .ref f_slots, .int o_45, .int 0])), (f_names, .inl (cJ, 4500, .inr (.inl o_46))), (f_slots, .inl (cI, 8192, .inl o_47))] H_44 := hP'
  replace hD : va_D A [(tp, .inl (cB, 16000, .inl tf)), (f_source, .inl (cB, 16000, .inl f_6)), (f_kinds, .inl (cI, 16001, .inl kif)), (f_places, .inl (cI, 16001, .inl plf)), (f_values, .inl (cI, 16001, .inl vaf)), (f_notes, .inl (cI, 16001, .inl nof)), (f_meanings, .inl (cI, 16001, .inl mef)), (w0, .inr (10, [.ref f_source, .int 0, .int 0, .ref f_kinds, .ref f_places, .ref f_values, .ref f_notes, .ref f_meanings, .ref f_names, .ref f_slots, .int o_45, .int 0])), (f_names, .inl (cJ, 4500, .inr (.inl o_46))), (f_slots, .inl (cI, 8192, .inl o_47))] := hD'
  replace hS := hS'
  clear hP' hD' hS'
  refine lv_aload_n hx hb dX10_cut_89 rfl (lv_at hl 0 rfl) ?_
  refine lv_iconst (v := 0) hx hb dX10_cut_90 (by decide +kernel) ?_
  have hPc := hP.sub (ws' := [(w0, .inr (10, [.ref f_source, .int 0, .int 0, .ref f_kinds, .ref f_places, .ref f_values, .ref f_notes, .ref f_meanings, .ref f_names, .ref f_slots, .int o_45, .int 0]))]) [7] rfl
  have hDc := hD.sub (ws' := [(w0, .inr (10, [.ref f_source, .int 0, .int 0, .ref f_kinds, .ref f_places, .ref f_values, .ref f_notes, .ref f_meanings, .ref f_names, .ref f_slots, .int o_45, .int 0]))]) [7] (by decide +kernel) rfl
  have hFc := va_free (wc := [(w0, .inr (10, [.ref f_source, .int 0, .int 0, .ref f_kinds, .ref f_places, .ref f_values, .ref f_notes, .ref f_meanings, .ref f_names, .ref f_slots, .int o_45, .int 0]))]) hD hS hA [7] rfl
  refine g_ofi (wc := [(w0, .inr (10, [.ref f_source, .int 0, .int 0, .ref f_kinds, .ref f_places, .ref f_values, .ref f_notes, .ref f_meanings, .ref f_names, .ref f_slots, .int o_45, .int 0]))]) (wr := [(tp, .inl (cB, 16000, .inl tf)), (f_source, .inl (cB, 16000, .inl f_6)), (f_kinds, .inl (cI, 16001, .inl kif)), (f_places, .inl (cI, 16001, .inl plf)), (f_values, .inl (cI, 16001, .inl vaf)), (f_notes, .inl (cI, 16001, .inl nof)), (f_meanings, .inl (cI, 16001, .inl mef)), (f_names, .inl (cJ, 4500, .inr (.inl o_46))), (f_slots, .inl (cI, 8192, .inl o_47))]) hP hD hS hFc [7] [0, 1, 2, 3, 4, 5, 6, 8, 9] rfl rfl (by decide +kernel) (by decide +kernel) (va_runV (As := [.int 0]) (rest := []) ⟨hx, hb, hml, hown, hts⟩ (c_X10_skip l dC dI cB cC cI cJ cZ cP H_44.size w0 f_source f_kinds f_places f_values f_notes f_meanings f_names f_slots o_45 ) (cwV 1 hts (g_gV wq_413 wq_414 wq_1981 wq_2 wq_415) rfl rfl rfl (by decide +kernel) ⟨Nat.le_of_ble_eq_true rfl, Nat.le_of_ble_eq_true rfl⟩) (g_preV g_bl0 hK hPc hDc hS hE hFc g_to0 (q0 := 0) (ci := 10) rfl rfl) rfl rfl hl.1 rfl (lv_room (Nat.le_of_ble_eq_true rfl)) dX10_cut_91 ⟨Nat.le_of_ble_eq_true rfl, Nat.le_of_ble_eq_true rfl⟩) (fun r_50 u_49 H_51 locs w_48 hP' hD' hS' => ?_)
  clear hPc hDc hFc
  have w_48 : r_50 = 0 := w_48
  replace hP : va_P (dC, dI) vwCl [(tp, .inl (cB, 16000, .inl tf)), (f_source, .inl (cB, 16000, .inl f_6)), (f_kinds, .inl (cI, 16001, .inl kif)), (f_places, .inl (cI, 16001, .inl plf)), (f_values, .inl (cI, 16001, .inl vaf)), (f_notes, .inl (cI, 16001, .inl nof)), (f_meanings, .inl (cI, 16001, .inl mef)), (f_names, .inl (cJ, 4500, .inr (.inl o_46))), (f_slots, .inl (cI, 8192, .inl o_47)), (w0, .inr (10, [.ref f_source, .int 0, .int 0, .ref f_kinds, .ref f_places, .ref f_values, .ref f_notes, .ref f_meanings, .ref f_names, .ref f_slots, .int o_45, .int 0]))] H_51 := hP'
  replace hD : va_D A [(tp, .inl (cB, 16000, .inl tf)), (f_source, .inl (cB, 16000, .inl f_6)), (f_kinds, .inl (cI, 16001, .inl kif)), (f_places, .inl (cI, 16001, .inl plf)), (f_values, .inl (cI, 16001, .inl vaf)), (f_notes, .inl (cI, 16001, .inl nof)), (f_meanings, .inl (cI, 16001, .inl mef)), (f_names, .inl (cJ, 4500, .inr (.inl o_46))), (f_slots, .inl (cI, 8192, .inl o_47)), (w0, .inr (10, [.ref f_source, .int 0, .int 0, .ref f_kinds, .ref f_places, .ref f_values, .ref f_notes, .ref f_meanings, .ref f_names, .ref f_slots, .int o_45, .int 0]))] := hD'
  replace hS := hS'
  clear hP' hD' hS'
  obtain rfl : 0 = r_50 := (w_48).symm
  refine lv_istore_n (lv' := [(3, .int 0), (0, .ref w0), (1, .ref tp), (2, .int 0)]) hx hb dX10_cut_94 rfl hl (by decide) rfl (fun ls hl => ?_)
  refine lv_iconst (v := 0) hx hb dX10_cut_95 (by decide +kernel) ?_
  refine lv_istore (lv' := [(4, .int 0), (3, .int 0), (0, .ref w0), (1, .ref tp), (2, .int 0)]) hx hb dX10_cut_96 hl (by decide) rfl (fun ls hl => ?_)
  refine lv_iload hx hb dX10_cut_98 (lv_at hl 0 rfl) ?_
  refine lv_aload_n hx hb dX10_cut_100 rfl (lv_at hl 2 rfl) ?_
  refine va_get (D := (dC, dI)) (ci := 10) (v := .int 0) (C := RX10) (T := TX10) (N := 12) hx hb hts ii_X10 hown hK hP 9 rfl rfl 1 (by decide) (hts (.fieldLink RX10 47 "StoryHouse$Words" "length" "I") wq_43) (fun _ h9 => h9) rfl dX10_cut_101 ?_
  refine lv_icmp_ge (tgt := 131) hx hb dX10_cut_104 (by decide) (fun c_52 => ?_) (fun c_52 => absurd (by decide +kernel) c_52)
  refine lv_aload_n hx hb dX10_cut_131 rfl (lv_at hl 2 rfl) ?_
  refine lv_iconst (v := 0) hx hb dX10_cut_132 (by decide +kernel) ?_
  refine lv_aload_n hx hb dX10_cut_133 rfl (lv_at hl 2 rfl) ?_
  refine va_get (D := (dC, dI)) (ci := 10) (v := .int 0) (C := RX10) (T := TX10) (N := 12) hx hb hts ii_X10 hown hK hP 9 rfl rfl 1 (by decide) (hts (.fieldLink RX10 47 "StoryHouse$Words" "length" "I") wq_43) (fun _ h9 => h9) rfl dX10_cut_134 ?_
  refine lv_iconst (v := 0) hx hb dX10_cut_137 (by decide +kernel) ?_
  have hPc := hP.sub (ws' := [(w0, .inr (10, [.ref f_source, .int 0, .int 0, .ref f_kinds, .ref f_places, .ref f_values, .ref f_notes, .ref f_meanings, .ref f_names, .ref f_slots, .int o_45, .int 0])), (f_kinds, .inl (cI, 16001, .inl kif)), (f_places, .inl (cI, 16001, .inl plf)), (f_values, .inl (cI, 16001, .inl vaf)), (f_notes, .inl (cI, 16001, .inl nof)), (f_meanings, .inl (cI, 16001, .inl mef))]) [9, 2, 3, 4, 5, 6] rfl
  have hDc := hD.sub (ws' := [(w0, .inr (10, [.ref f_source, .int 0, .int 0, .ref f_kinds, .ref f_places, .ref f_values, .ref f_notes, .ref f_meanings, .ref f_names, .ref f_slots, .int o_45, .int 0])), (f_kinds, .inl (cI, 16001, .inl kif)), (f_places, .inl (cI, 16001, .inl plf)), (f_values, .inl (cI, 16001, .inl vaf)), (f_notes, .inl (cI, 16001, .inl nof)), (f_meanings, .inl (cI, 16001, .inl mef))]) [9, 2, 3, 4, 5, 6] (by decide +kernel) rfl
  have hFc := va_free (wc := [(w0, .inr (10, [.ref f_source, .int 0, .int 0, .ref f_kinds, .ref f_places, .ref f_values, .ref f_notes, .ref f_meanings, .ref f_names, .ref f_slots, .int o_45, .int 0])), (f_kinds, .inl (cI, 16001, .inl kif)), (f_places, .inl (cI, 16001, .inl plf)), (f_values, .inl (cI, 16001, .inl vaf)), (f_notes, .inl (cI, 16001, .inl nof)), (f_meanings, .inl (cI, 16001, .inl mef))]) hD hS hA [9, 2, 3, 4, 5, 6] rfl
  refine g_ofi (wc := [(w0, .inr (10, [.ref f_source, .int 0, .int 0, .ref f_kinds, .ref f_places, .ref f_values, .ref f_notes, .ref f_meanings, .ref f_names, .ref f_slots, .int o_45, .int 0])), (f_kinds, .inl (cI, 16001, .inl kif)), (f_places, .inl (cI, 16001, .inl plf)), (f_values, .inl (cI, 16001, .inl vaf)), (f_notes, .inl (cI, 16001, .inl nof)), (f_meanings, .inl (cI, 16001, .inl mef))]) (wr := [(tp, .inl (cB, 16000, .inl tf)), (f_source, .inl (cB, 16000, .inl f_6)), (f_names, .inl (cJ, 4500, .inr (.inl o_46))), (f_slots, .inl (cI, 8192, .inl o_47))]) hP hD hS hFc [9, 2, 3, 4, 5, 6] [0, 1, 7, 8] rfl rfl (by decide +kernel) (by decide +kernel) (va_runV (As := [.int 0, .int 0, .int 0]) (rest := []) ⟨hx, hb, hml, hown, hts⟩ (c_X10_add l dC dI cB cC cI cJ cZ cP H_51.size w0 f_source f_kinds f_places f_values f_notes f_meanings f_names f_slots o_45 kif plf vaf nof mef ) (cwV 3 hts (g_gV wq_431 wq_432 wq_1986 wq_2 wq_433) rfl rfl rfl (by decide +kernel) ⟨Nat.le_of_ble_eq_true rfl, Nat.le_of_ble_eq_true rfl⟩) (g_preV g_bl0 hK hPc hDc hS hE hFc g_to0 (q0 := 0) (ci := 10) rfl rfl) rfl rfl hl.1 rfl (lv_room (Nat.le_of_ble_eq_true rfl)) dX10_cut_138 ⟨Nat.le_of_ble_eq_true rfl, Nat.le_of_ble_eq_true rfl⟩) (fun r_55 u_54 H_56 locs w_53 hP' hD' hS' => ?_)
  clear hPc hDc hFc
  obtain ⟨o_57, o_58, o_59, o_60, o_61⟩ := u_54
  have w_53 : r_55 = 0 ∧ o_57 0 = 0 := w_53
  replace hP : va_P (dC, dI) vwCl [(tp, .inl (cB, 16000, .inl tf)), (f_source, .inl (cB, 16000, .inl f_6)), (f_names, .inl (cJ, 4500, .inr (.inl o_46))), (f_slots, .inl (cI, 8192, .inl o_47)), (w0, .inr (10, [.ref f_source, .int 0, .int 1, .ref f_kinds, .ref f_places, .ref f_values, .ref f_notes, .ref f_meanings, .ref f_names, .ref f_slots, .int o_45, .int 0])), (f_kinds, .inl (cI, 16001, .inl o_57)), (f_places, .inl (cI, 16001, .inl o_58)), (f_values, .inl (cI, 16001, .inl o_59)), (f_notes, .inl (cI, 16001, .inl o_60)), (f_meanings, .inl (cI, 16001, .inl o_61))] H_56 := hP'
  replace hD : va_D A [(tp, .inl (cB, 16000, .inl tf)), (f_source, .inl (cB, 16000, .inl f_6)), (f_names, .inl (cJ, 4500, .inr (.inl o_46))), (f_slots, .inl (cI, 8192, .inl o_47)), (w0, .inr (10, [.ref f_source, .int 0, .int 1, .ref f_kinds, .ref f_places, .ref f_values, .ref f_notes, .ref f_meanings, .ref f_names, .ref f_slots, .int o_45, .int 0])), (f_kinds, .inl (cI, 16001, .inl o_57)), (f_places, .inl (cI, 16001, .inl o_58)), (f_values, .inl (cI, 16001, .inl o_59)), (f_notes, .inl (cI, 16001, .inl o_60)), (f_meanings, .inl (cI, 16001, .inl o_61))] := hD'
  replace hS := hS'
  clear hP' hD' hS'
  obtain rfl : 0 = r_55 := (w_53.1).symm
  refine lv_pop hx hb dX10_cut_141 rfl ?_
  have hP9 := hP.sub (ws' := [(w0, .inr (10, [.ref f_source, .int 0, .int 1, .ref f_kinds, .ref f_places, .ref f_values, .ref f_notes, .ref f_meanings, .ref f_names, .ref f_slots, .int o_45, .int 0])), (tp, .inl (cB, 16000, .inl tf)), (f_source, .inl (cB, 16000, .inl f_6)), (f_names, .inl (cJ, 4500, .inr (.inl o_46))), (f_slots, .inl (cI, 8192, .inl o_47)), (f_kinds, .inl (cI, 16001, .inl o_57)), (f_places, .inl (cI, 16001, .inl o_58)), (f_values, .inl (cI, 16001, .inl o_59)), (f_notes, .inl (cI, 16001, .inl o_60)), (f_meanings, .inl (cI, 16001, .inl o_61))]) [4, 0, 1, 2, 3, 5, 6, 7, 8, 9] rfl
  have hD9 := hD.sub (ws' := [(w0, .inr (10, [.ref f_source, .int 0, .int 1, .ref f_kinds, .ref f_places, .ref f_values, .ref f_notes, .ref f_meanings, .ref f_names, .ref f_slots, .int o_45, .int 0])), (tp, .inl (cB, 16000, .inl tf)), (f_source, .inl (cB, 16000, .inl f_6)), (f_names, .inl (cJ, 4500, .inr (.inl o_46))), (f_slots, .inl (cI, 8192, .inl o_47)), (f_kinds, .inl (cI, 16001, .inl o_57)), (f_places, .inl (cI, 16001, .inl o_58)), (f_values, .inl (cI, 16001, .inl o_59)), (f_notes, .inl (cI, 16001, .inl o_60)), (f_meanings, .inl (cI, 16001, .inl o_61))]) [4, 0, 1, 2, 3, 5, 6, 7, 8, 9] (by decide +kernel) rfl
  refine W.widen (k := 0) (n := 0) (Nat.le_of_ble_eq_true rfl) (Nat.le_of_ble_eq_true rfl) ?_
  exact W.vret hx hb hr (fun t ht hW => ⟨⟨(o_45, f_6, o_46, o_47, o_57, o_58, o_59, o_60, o_61), rfl, (⟨by assumption, w_53.2⟩), by rw [ht]; exact hP9, hD9⟩, hS.F ht⟩) hS.2.2 dX10_cut_142
