/-! the law's wrappers: what the class throws is caught -/
theorem g_u0 (f : Nat → Int64) (x : Int64) : vp_updL f (0 : Int32).toNatClampNeg x 0 = x := by
  have h : (0 : Int32).toNatClampNeg = 0 := by decide +kernel
  rw [h]; simp [vp_updL]
theorem dL_feed_0 : decode cL_feed 0 = .ok (.aload 4, 2) := by decide +kernel
theorem dL_feed_2 : decode cL_feed 2 = .ok (.iconst 0, 1) := by decide +kernel
theorem dL_feed_3 : decode cL_feed 3 = .ok (.aload_n 0, 1) := by decide +kernel
theorem dL_feed_4 : decode cL_feed 4 = .ok (.lload_n 1, 1) := by decide +kernel
theorem dL_feed_5 : decode cL_feed 5 = .ok (.iload_n 3, 1) := by decide +kernel
theorem dL_feed_6 : decode cL_feed 6 = .ok (.invokevirtual 7, 3) := by decide +kernel
theorem dL_feed_9 : decode cL_feed 9 = .ok (.i2l, 1) := by decide +kernel
theorem dL_feed_10 : decode cL_feed 10 = .ok (.lastore, 1) := by decide +kernel
theorem dL_feed_11 : decode cL_feed 11 = .ok (.goto 11, 3) := by decide +kernel
theorem dL_feed_14 : decode cL_feed 14 = .ok (.astore 5, 2) := by decide +kernel
theorem dL_feed_16 : decode cL_feed 16 = .ok (.iconst 1, 1) := by decide +kernel
theorem dL_feed_17 : decode cL_feed 17 = .ok (.ireturn, 1) := by decide +kernel
theorem dL_feed_18 : decode cL_feed 18 = .ok (.astore 5, 2) := by decide +kernel
theorem dL_feed_20 : decode cL_feed 20 = .ok (.iconst 2, 1) := by decide +kernel
theorem dL_feed_21 : decode cL_feed 21 = .ok (.ireturn, 1) := by decide +kernel
theorem dL_feed_22 : decode cL_feed 22 = .ok (.iconst 0, 1) := by decide +kernel
theorem dL_feed_23 : decode cL_feed 23 = .ok (.ireturn, 1) := by decide +kernel
theorem dL_begin_0 : decode cL_begin 0 = .ok (.aload_n 0, 1) := by decide +kernel
theorem dL_begin_1 : decode cL_begin 1 = .ok (.iload_n 1, 1) := by decide +kernel
theorem dL_begin_2 : decode cL_begin 2 = .ok (.invokevirtual 17, 3) := by decide +kernel
theorem dL_begin_5 : decode cL_begin 5 = .ok (.goto 6, 3) := by decide +kernel
theorem dL_begin_8 : decode cL_begin 8 = .ok (.astore_n 2, 1) := by decide +kernel
theorem dL_begin_9 : decode cL_begin 9 = .ok (.iconst 1, 1) := by decide +kernel
theorem dL_begin_10 : decode cL_begin 10 = .ok (.ireturn, 1) := by decide +kernel
theorem dL_begin_11 : decode cL_begin 11 = .ok (.iconst 0, 1) := by decide +kernel
theorem dL_begin_12 : decode cL_begin 12 = .ok (.ireturn, 1) := by decide +kernel
theorem dL_enter_0 : decode cL_enter 0 = .ok (.aload_n 1, 1) := by decide +kernel
theorem dL_enter_1 : decode cL_enter 1 = .ok (.iconst 0, 1) := by decide +kernel
theorem dL_enter_2 : decode cL_enter 2 = .ok (.aload_n 0, 1) := by decide +kernel
theorem dL_enter_3 : decode cL_enter 3 = .ok (.invokevirtual 21, 3) := by decide +kernel
theorem dL_enter_6 : decode cL_enter 6 = .ok (.i2l, 1) := by decide +kernel
theorem dL_enter_7 : decode cL_enter 7 = .ok (.lastore, 1) := by decide +kernel
theorem dL_enter_8 : decode cL_enter 8 = .ok (.goto 6, 3) := by decide +kernel
theorem dL_enter_11 : decode cL_enter 11 = .ok (.astore_n 2, 1) := by decide +kernel
theorem dL_enter_12 : decode cL_enter 12 = .ok (.iconst 1, 1) := by decide +kernel
theorem dL_enter_13 : decode cL_enter 13 = .ok (.ireturn, 1) := by decide +kernel
theorem dL_enter_14 : decode cL_enter 14 = .ok (.iconst 0, 1) := by decide +kernel
theorem dL_enter_15 : decode cL_enter 15 = .ok (.ireturn, 1) := by decide +kernel
theorem dL_undo_0 : decode cL_undo 0 = .ok (.aload_n 1, 1) := by decide +kernel
theorem dL_undo_1 : decode cL_undo 1 = .ok (.iconst 0, 1) := by decide +kernel
theorem dL_undo_2 : decode cL_undo 2 = .ok (.aload_n 0, 1) := by decide +kernel
theorem dL_undo_3 : decode cL_undo 3 = .ok (.invokevirtual 37, 3) := by decide +kernel
theorem dL_undo_6 : decode cL_undo 6 = .ok (.ifCond .eq 7, 3) := by decide +kernel
theorem dL_undo_9 : decode cL_undo 9 = .ok (.lconst 1, 1) := by decide +kernel
theorem dL_undo_10 : decode cL_undo 10 = .ok (.goto 4, 3) := by decide +kernel
theorem dL_undo_13 : decode cL_undo 13 = .ok (.lconst 0, 1) := by decide +kernel
theorem dL_undo_14 : decode cL_undo 14 = .ok (.lastore, 1) := by decide +kernel
theorem dL_undo_15 : decode cL_undo 15 = .ok (.goto 6, 3) := by decide +kernel
theorem dL_undo_18 : decode cL_undo 18 = .ok (.astore_n 2, 1) := by decide +kernel
theorem dL_undo_19 : decode cL_undo 19 = .ok (.iconst 1, 1) := by decide +kernel
theorem dL_undo_20 : decode cL_undo 20 = .ok (.ireturn, 1) := by decide +kernel
theorem dL_undo_21 : decode cL_undo 21 = .ok (.iconst 0, 1) := by decide +kernel
theorem dL_undo_22 : decode cL_undo 22 = .ok (.ireturn, 1) := by decide +kernel
theorem dL_holder_0 : decode cL_holder 0 = .ok (.aload_n 2, 1) := by decide +kernel
theorem dL_holder_1 : decode cL_holder 1 = .ok (.iconst 0, 1) := by decide +kernel
theorem dL_holder_2 : decode cL_holder 2 = .ok (.aload_n 0, 1) := by decide +kernel
theorem dL_holder_3 : decode cL_holder 3 = .ok (.iload_n 1, 1) := by decide +kernel
theorem dL_holder_4 : decode cL_holder 4 = .ok (.invokevirtual 41, 3) := by decide +kernel
theorem dL_holder_7 : decode cL_holder 7 = .ok (.i2l, 1) := by decide +kernel
theorem dL_holder_8 : decode cL_holder 8 = .ok (.lastore, 1) := by decide +kernel
theorem dL_holder_9 : decode cL_holder 9 = .ok (.goto 9, 3) := by decide +kernel
theorem dL_holder_12 : decode cL_holder 12 = .ok (.astore_n 3, 1) := by decide +kernel
theorem dL_holder_13 : decode cL_holder 13 = .ok (.iconst 1, 1) := by decide +kernel
theorem dL_holder_14 : decode cL_holder 14 = .ok (.ireturn, 1) := by decide +kernel
theorem dL_holder_15 : decode cL_holder 15 = .ok (.astore_n 3, 1) := by decide +kernel
theorem dL_holder_16 : decode cL_holder 16 = .ok (.iconst 2, 1) := by decide +kernel
theorem dL_holder_17 : decode cL_holder 17 = .ok (.ireturn, 1) := by decide +kernel
theorem dL_holder_18 : decode cL_holder 18 = .ok (.iconst 0, 1) := by decide +kernel
theorem dL_holder_19 : decode cL_holder 19 = .ok (.ireturn, 1) := by decide +kernel
theorem dL_first_0 : decode cL_first 0 = .ok (.aload_n 3, 1) := by decide +kernel
theorem dL_first_1 : decode cL_first 1 = .ok (.iconst 0, 1) := by decide +kernel
theorem dL_first_2 : decode cL_first 2 = .ok (.aload_n 0, 1) := by decide +kernel
theorem dL_first_3 : decode cL_first 3 = .ok (.iload_n 1, 1) := by decide +kernel
theorem dL_first_4 : decode cL_first 4 = .ok (.iload_n 2, 1) := by decide +kernel
theorem dL_first_5 : decode cL_first 5 = .ok (.invokevirtual 44, 3) := by decide +kernel
theorem dL_first_8 : decode cL_first 8 = .ok (.i2l, 1) := by decide +kernel
theorem dL_first_9 : decode cL_first 9 = .ok (.lastore, 1) := by decide +kernel
theorem dL_first_10 : decode cL_first 10 = .ok (.goto 11, 3) := by decide +kernel
theorem dL_first_13 : decode cL_first 13 = .ok (.astore 4, 2) := by decide +kernel
theorem dL_first_15 : decode cL_first 15 = .ok (.iconst 1, 1) := by decide +kernel
theorem dL_first_16 : decode cL_first 16 = .ok (.ireturn, 1) := by decide +kernel
theorem dL_first_17 : decode cL_first 17 = .ok (.astore 4, 2) := by decide +kernel
theorem dL_first_19 : decode cL_first 19 = .ok (.iconst 2, 1) := by decide +kernel
theorem dL_first_20 : decode cL_first 20 = .ok (.ireturn, 1) := by decide +kernel
theorem dL_first_21 : decode cL_first 21 = .ok (.iconst 0, 1) := by decide +kernel
theorem dL_first_22 : decode cL_first 22 = .ok (.ireturn, 1) := by decide +kernel
theorem dL_has_0 : decode cL_has 0 = .ok (.aload_n 3, 1) := by decide +kernel
theorem dL_has_1 : decode cL_has 1 = .ok (.iconst 0, 1) := by decide +kernel
theorem dL_has_2 : decode cL_has 2 = .ok (.aload_n 0, 1) := by decide +kernel
theorem dL_has_3 : decode cL_has 3 = .ok (.iload_n 1, 1) := by decide +kernel
theorem dL_has_4 : decode cL_has 4 = .ok (.iload_n 2, 1) := by decide +kernel
theorem dL_has_5 : decode cL_has 5 = .ok (.invokevirtual 48, 3) := by decide +kernel
theorem dL_has_8 : decode cL_has 8 = .ok (.ifCond .eq 7, 3) := by decide +kernel
theorem dL_has_11 : decode cL_has 11 = .ok (.lconst 1, 1) := by decide +kernel
theorem dL_has_12 : decode cL_has 12 = .ok (.goto 4, 3) := by decide +kernel
theorem dL_has_15 : decode cL_has 15 = .ok (.lconst 0, 1) := by decide +kernel
theorem dL_has_16 : decode cL_has 16 = .ok (.lastore, 1) := by decide +kernel
theorem dL_has_17 : decode cL_has 17 = .ok (.goto 15, 3) := by decide +kernel
theorem dL_has_20 : decode cL_has 20 = .ok (.astore 4, 2) := by decide +kernel
theorem dL_has_22 : decode cL_has 22 = .ok (.iconst 1, 1) := by decide +kernel
theorem dL_has_23 : decode cL_has 23 = .ok (.ireturn, 1) := by decide +kernel
theorem dL_has_24 : decode cL_has 24 = .ok (.astore 4, 2) := by decide +kernel
theorem dL_has_26 : decode cL_has 26 = .ok (.iconst 2, 1) := by decide +kernel
theorem dL_has_27 : decode cL_has 27 = .ok (.ireturn, 1) := by decide +kernel
theorem dL_has_28 : decode cL_has 28 = .ok (.astore 4, 2) := by decide +kernel
theorem dL_has_30 : decode cL_has 30 = .ok (.iconst 3, 1) := by decide +kernel
theorem dL_has_31 : decode cL_has 31 = .ok (.ireturn, 1) := by decide +kernel
theorem dL_has_32 : decode cL_has 32 = .ok (.iconst 0, 1) := by decide +kernel
theorem dL_has_33 : decode cL_has 33 = .ok (.ireturn, 1) := by decide +kernel
theorem dL_value_0 : decode cL_value 0 = .ok (.aload_n 2, 1) := by decide +kernel
theorem dL_value_1 : decode cL_value 1 = .ok (.iconst 0, 1) := by decide +kernel
theorem dL_value_2 : decode cL_value 2 = .ok (.aload_n 0, 1) := by decide +kernel
theorem dL_value_3 : decode cL_value 3 = .ok (.iload_n 1, 1) := by decide +kernel
theorem dL_value_4 : decode cL_value 4 = .ok (.invokevirtual 52, 3) := by decide +kernel
theorem dL_value_7 : decode cL_value 7 = .ok (.i2l, 1) := by decide +kernel
theorem dL_value_8 : decode cL_value 8 = .ok (.lastore, 1) := by decide +kernel
theorem dL_value_9 : decode cL_value 9 = .ok (.goto 9, 3) := by decide +kernel
theorem dL_value_12 : decode cL_value 12 = .ok (.astore_n 3, 1) := by decide +kernel
theorem dL_value_13 : decode cL_value 13 = .ok (.iconst 1, 1) := by decide +kernel
theorem dL_value_14 : decode cL_value 14 = .ok (.ireturn, 1) := by decide +kernel
theorem dL_value_15 : decode cL_value 15 = .ok (.astore_n 3, 1) := by decide +kernel
theorem dL_value_16 : decode cL_value 16 = .ok (.iconst 2, 1) := by decide +kernel
theorem dL_value_17 : decode cL_value 17 = .ok (.ireturn, 1) := by decide +kernel
theorem dL_value_18 : decode cL_value 18 = .ok (.iconst 0, 1) := by decide +kernel
theorem dL_value_19 : decode cL_value 19 = .ok (.ireturn, 1) := by decide +kernel
theorem dL_cell_0 : decode cL_cell 0 = .ok (.aload_n 3, 1) := by decide +kernel
theorem dL_cell_1 : decode cL_cell 1 = .ok (.iconst 0, 1) := by decide +kernel
theorem dL_cell_2 : decode cL_cell 2 = .ok (.aload_n 0, 1) := by decide +kernel
theorem dL_cell_3 : decode cL_cell 3 = .ok (.iload_n 1, 1) := by decide +kernel
theorem dL_cell_4 : decode cL_cell 4 = .ok (.iload_n 2, 1) := by decide +kernel
theorem dL_cell_5 : decode cL_cell 5 = .ok (.invokevirtual 55, 3) := by decide +kernel
theorem dL_cell_8 : decode cL_cell 8 = .ok (.i2l, 1) := by decide +kernel
theorem dL_cell_9 : decode cL_cell 9 = .ok (.lastore, 1) := by decide +kernel
theorem dL_cell_10 : decode cL_cell 10 = .ok (.goto 11, 3) := by decide +kernel
theorem dL_cell_13 : decode cL_cell 13 = .ok (.astore 4, 2) := by decide +kernel
theorem dL_cell_15 : decode cL_cell 15 = .ok (.iconst 1, 1) := by decide +kernel
theorem dL_cell_16 : decode cL_cell 16 = .ok (.ireturn, 1) := by decide +kernel
theorem dL_cell_17 : decode cL_cell 17 = .ok (.astore 4, 2) := by decide +kernel
theorem dL_cell_19 : decode cL_cell 19 = .ok (.iconst 2, 1) := by decide +kernel
theorem dL_cell_20 : decode cL_cell 20 = .ok (.ireturn, 1) := by decide +kernel
theorem dL_cell_21 : decode cL_cell 21 = .ok (.iconst 0, 1) := by decide +kernel
theorem dL_cell_22 : decode cL_cell 22 = .ok (.ireturn, 1) := by decide +kernel
theorem dL_out_0 : decode cL_out 0 = .ok (.aload_n 2, 1) := by decide +kernel
theorem dL_out_1 : decode cL_out 1 = .ok (.iconst 0, 1) := by decide +kernel
theorem dL_out_2 : decode cL_out 2 = .ok (.aload_n 0, 1) := by decide +kernel
theorem dL_out_3 : decode cL_out 3 = .ok (.iload_n 1, 1) := by decide +kernel
theorem dL_out_4 : decode cL_out 4 = .ok (.invokevirtual 25, 3) := by decide +kernel
theorem dL_out_7 : decode cL_out 7 = .ok (.i2l, 1) := by decide +kernel
theorem dL_out_8 : decode cL_out 8 = .ok (.lastore, 1) := by decide +kernel
theorem dL_out_9 : decode cL_out 9 = .ok (.goto 6, 3) := by decide +kernel
theorem dL_out_12 : decode cL_out 12 = .ok (.astore_n 3, 1) := by decide +kernel
theorem dL_out_13 : decode cL_out 13 = .ok (.iconst 1, 1) := by decide +kernel
theorem dL_out_14 : decode cL_out 14 = .ok (.ireturn, 1) := by decide +kernel
theorem dL_out_15 : decode cL_out 15 = .ok (.iconst 0, 1) := by decide +kernel
theorem dL_out_16 : decode cL_out 16 = .ok (.ireturn, 1) := by decide +kernel
theorem dL_save_0 : decode cL_save 0 = .ok (.aload_n 0, 1) := by decide +kernel
theorem dL_save_1 : decode cL_save 1 = .ok (.iload_n 1, 1) := by decide +kernel
theorem dL_save_2 : decode cL_save 2 = .ok (.invokevirtual 31, 3) := by decide +kernel
theorem dL_save_5 : decode cL_save 5 = .ok (.goto 9, 3) := by decide +kernel
theorem dL_save_8 : decode cL_save 8 = .ok (.astore_n 2, 1) := by decide +kernel
theorem dL_save_9 : decode cL_save 9 = .ok (.iconst 1, 1) := by decide +kernel
theorem dL_save_10 : decode cL_save 10 = .ok (.ireturn, 1) := by decide +kernel
theorem dL_save_11 : decode cL_save 11 = .ok (.astore_n 2, 1) := by decide +kernel
theorem dL_save_12 : decode cL_save 12 = .ok (.iconst 2, 1) := by decide +kernel
theorem dL_save_13 : decode cL_save 13 = .ok (.ireturn, 1) := by decide +kernel
theorem dL_save_14 : decode cL_save 14 = .ok (.iconst 0, 1) := by decide +kernel
theorem dL_save_15 : decode cL_save 15 = .ok (.ireturn, 1) := by decide +kernel
theorem dL_restore_0 : decode cL_restore 0 = .ok (.aload_n 0, 1) := by decide +kernel
theorem dL_restore_1 : decode cL_restore 1 = .ok (.iload_n 1, 1) := by decide +kernel
theorem dL_restore_2 : decode cL_restore 2 = .ok (.invokevirtual 34, 3) := by decide +kernel
theorem dL_restore_5 : decode cL_restore 5 = .ok (.goto 9, 3) := by decide +kernel
theorem dL_restore_8 : decode cL_restore 8 = .ok (.astore_n 2, 1) := by decide +kernel
theorem dL_restore_9 : decode cL_restore 9 = .ok (.iconst 1, 1) := by decide +kernel
theorem dL_restore_10 : decode cL_restore 10 = .ok (.ireturn, 1) := by decide +kernel
theorem dL_restore_11 : decode cL_restore 11 = .ok (.astore_n 2, 1) := by decide +kernel
theorem dL_restore_12 : decode cL_restore 12 = .ok (.iconst 2, 1) := by decide +kernel
theorem dL_restore_13 : decode cL_restore 13 = .ok (.ireturn, 1) := by decide +kernel
theorem dL_restore_14 : decode cL_restore 14 = .ok (.iconst 0, 1) := by decide +kernel
theorem dL_restore_15 : decode cL_restore 15 = .ok (.ireturn, 1) := by decide +kernel
theorem dL_told_0 : decode cL_told 0 = .ok (.aload_n 2, 1) := by decide +kernel
theorem dL_told_1 : decode cL_told 1 = .ok (.iconst 0, 1) := by decide +kernel
theorem dL_told_2 : decode cL_told 2 = .ok (.aload_n 0, 1) := by decide +kernel
theorem dL_told_3 : decode cL_told 3 = .ok (.iload_n 1, 1) := by decide +kernel
theorem dL_told_4 : decode cL_told 4 = .ok (.invokevirtual 59, 3) := by decide +kernel
theorem dL_told_7 : decode cL_told 7 = .ok (.i2l, 1) := by decide +kernel
theorem dL_told_8 : decode cL_told 8 = .ok (.lastore, 1) := by decide +kernel
theorem dL_told_9 : decode cL_told 9 = .ok (.goto 6, 3) := by decide +kernel
theorem dL_told_12 : decode cL_told 12 = .ok (.astore_n 3, 1) := by decide +kernel
theorem dL_told_13 : decode cL_told 13 = .ok (.iconst 1, 1) := by decide +kernel
theorem dL_told_14 : decode cL_told 14 = .ok (.ireturn, 1) := by decide +kernel
theorem dL_told_15 : decode cL_told 15 = .ok (.iconst 0, 1) := by decide +kernel
theorem dL_told_16 : decode cL_told 16 = .ok (.ireturn, 1) := by decide +kernel
abbrev ww_L_feed (cB cC cI cJ cZ cP : ClassId) (h0 : Nat) (f_tape : Nat) (f_words : Nat) (f_grammar : Nat) (f_meanings : Nat) (f_story : Nat) (f_draft : Nat) (f_told : Nat) (f_play : Nat) (f_machine : Nat) (f_teller : Nat) (f_saved : Nat) (f_isSaved : Nat) (f_past : Nat) (row : Int64) (n : Int32) (tf : Nat → Int32) (oa : Nat) (og : Nat → Int64) : va_W := [(h0, .inr (11, [.ref f_tape, .int 0, .ref f_words, .ref f_grammar, .ref f_meanings, .ref f_story, .ref f_draft, .int 0, .int 0, .int (-1), .ref f_told, .ref f_play, .ref f_machine, .ref f_teller, .ref f_saved, .ref f_isSaved, .ref f_past, .int 0, .int 0])), (f_tape, .inl (cB, 16000, .inl tf)), (oa, .inl (cJ, 1, .inr (.inl og)))]
abbrev q_L_feed (dC : Nat → ClassId) (dI : Nat → Nat → Nat) (cB cC cI cJ cZ cP : ClassId) (h0 : Nat) (f_tape : Nat) (f_words : Nat) (f_grammar : Nat) (f_meanings : Nat) (f_story : Nat) (f_draft : Nat) (f_told : Nat) (f_play : Nat) (f_machine : Nat) (f_teller : Nat) (f_saved : Nat) (f_isSaved : Nat) (f_past : Nat) (row : Int64) (n : Int32) (tf : Nat → Int32) (oa : Nat) (og : Nat → Int64) (A : Nat → Prop) : Array Value → State → Outcome → State → Prop := va_Qi (fun (r : Int32) (u : Int32 × (Nat → Int32) × (Nat → Int64)) => match u with | (tl2, tf2, og2) => (g_fit row n ∧ r = 0 ∧ og2 0 = n.toInt64) ∨ (¬ g_fit row n ∧ r = 1)) (g_Bo (dC, dI) A (fun (u : Int32 × (Nat → Int32) × (Nat → Int64)) => match u with | (tl2, tf2, og2) => [(h0, .inr (11, [.ref f_tape, .int tl2, .ref f_words, .ref f_grammar, .ref f_meanings, .ref f_story, .ref f_draft, .int 0, .int 0, .int (-1), .ref f_told, .ref f_play, .ref f_machine, .ref f_teller, .ref f_saved, .ref f_isSaved, .ref f_past, .int 0, .int 0])), (f_tape, .inl (cB, 16000, .inl tf2)), (oa, .inl (cJ, 1, .inr (.inl og2)))])) A
set_option maxHeartbeats 4000000 in
set_option maxRecDepth 100000 in
theorem c_L_feed (l : Launch) (dC : Nat → ClassId) (dI : Nat → Nat → Nat) (cB cC cI cJ cZ cP : ClassId) (hfl : l.stackTraces = false) (sz : Nat) (h0 : Nat) (f_tape : Nat) (f_words : Nat) (f_grammar : Nat) (f_meanings : Nat) (f_story : Nat) (f_draft : Nat) (f_told : Nat) (f_play : Nat) (f_machine : Nat) (f_teller : Nat) (f_saved : Nat) (f_isSaved : Nat) (f_past : Nat) (row : Int64) (n : Int32) (tf : Nat → Int32) (oa : Nat) (og : Nat → Int64)  : Met l yL_feed (g_wsW yL_feed cL_feed 6 (some .int) [(0, 11, 14, 13), (0, 11, 18, 15)]) ({ frames := 7, cells := 1, slots := 6, locals := 114 }) (va_Pc [.ref h0, .long row, .int n, .ref oa] (g_B (dC, dI) [(cB, .byte), (cC, .char), (cI, .int), (cJ, .long), (cZ, .boolean), (cP, .object "StoryHouse$Play")] sz (ww_L_feed cB cC cI cJ cZ cP h0 f_tape f_words f_grammar f_meanings f_story f_draft f_told f_play f_machine f_teller f_saved f_isSaved f_past row n tf oa og) g_0)) (q_L_feed dC dI cB cC cI cJ cZ cP h0 f_tape f_words f_grammar f_meanings f_story f_draft f_told f_play f_machine f_teller f_saved f_isSaved f_past row n tf oa og (va_A (ww_L_feed cB cC cI cJ cZ cP h0 f_tape f_words f_grammar f_meanings f_story f_draft f_told f_play f_machine f_teller f_saved f_isSaved f_past row n tf oa og) sz)) 1 6 (va_A (ww_L_feed cB cC cI cJ cZ cP h0 f_tape f_words f_grammar f_meanings f_story f_draft f_told f_play f_machine f_teller f_saved f_isSaved f_past row n tf oa og) sz) := by
  refine va_MetW (cc := cL_feed) (maxL := 6) (ret := (some .int)) (hh := [(0, 11, 14, 13), (0, 11, 18, 15)]) (by decide) rfl ?_
  intro p e s m args below meth c s₁ B hml hv
  obtain ⟨rfl, hsz, hP, hK, hD0, hE, hX⟩ := hv
  have hx := B.exec
  have hb := B.bytes
  have hr := B.returns
  have hts0 := atoms_spec (ws := (g_wsW yL_feed cL_feed 6 (some .int) [(0, 11, 14, 13), (0, 11, 18, 15)])) B.pre
  have hts : ∀ w ∈ lw_good, w.before ([.ref h0, .long row, .int n, .ref oa] : List Value).toArray s = true := fun w h => hts0 w (List.mem_cons_of_mem _ h)
  have hown : s.vm.findClass RL = some m.cls := findClass_of_methodNamed B.named
  have hlocks := B.notSynchronized
  subst hsz
  have hD := hD0.self (sz := s.heap.size)
  generalize hAe : va_A (ww_L_feed cB cC cI cJ cZ cP h0 f_tape f_words f_grammar f_meanings f_story f_draft f_told f_play f_machine f_teller f_saved f_isSaved f_past row n tf oa og) s.heap.size = A at hD hE hX ⊢
  have hA : ∀ q : Nat, s.heap.size ≤ q → A q := fun q h => by rw [← hAe]; exact Or.inr h
  have hN := hE.1
  have hS : va_S A s.heap s.heap [] := va_S.rf
  have htb := vx_table (x := yL_feed) B (hts0 (.codeWith yL_feed cL_feed 6 (some .int) [(0, 11, 14, 13), (0, 11, 18, 15)]) List.mem_cons_self)
  have hP : va_P (dC, dI) vwCl [(h0, .inr (11, [.ref f_tape, .int 0, .ref f_words, .ref f_grammar, .ref f_meanings, .ref f_story, .ref f_draft, .int 0, .int 0, .int (-1), .ref f_told, .ref f_play, .ref f_machine, .ref f_teller, .ref f_saved, .ref f_isSaved, .ref f_past, .int 0, .int 0])), (f_tape, .inl (cB, 16000, .inl tf)), (oa, .inl (cJ, 1, .inr (.inl og)))] s.heap := hP
  have hl := lv_entry ([.ref h0, .long row, .int n, .ref oa]) (n := 6) (Nat.le_of_ble_eq_true rfl)
  rw [lg_entry_eq]
  generalize (lg_sl ([.ref h0, .long row, .int n, .ref oa]) ++ List.replicate (6 - (lg_sl ([.ref h0, .long row, .int n, .ref oa])).length) Slot.unset).toArray = ls at hl ⊢
  have hl : lv_has ls 6 [(0, .ref h0), (1, .long row), (3, .int n), (4, .ref oa)] := hl
  refine lv_aload hx hb dL_feed_0 (lv_at hl 3 rfl) ?_
  refine lv_iconst (v := 0) hx hb dL_feed_2 (by decide +kernel) ?_
  refine lv_aload_n hx hb dL_feed_3 rfl (lv_at hl 0 rfl) ?_
  refine lv_lload_n hx hb dL_feed_4 rfl (lv_at hl 1 rfl) ?_
  refine lv_iload_n hx hb dL_feed_5 rfl (lv_at hl 2 rfl) ?_
  have hPc := hP.sub (ws' := [(h0, .inr (11, [.ref f_tape, .int 0, .ref f_words, .ref f_grammar, .ref f_meanings, .ref f_story, .ref f_draft, .int 0, .int 0, .int (-1), .ref f_told, .ref f_play, .ref f_machine, .ref f_teller, .ref f_saved, .ref f_isSaved, .ref f_past, .int 0, .int 0])), (f_tape, .inl (cB, 16000, .inl tf))]) [0, 1] rfl
  have hDc := hD.sub (ws' := [(h0, .inr (11, [.ref f_tape, .int 0, .ref f_words, .ref f_grammar, .ref f_meanings, .ref f_story, .ref f_draft, .int 0, .int 0, .int (-1), .ref f_told, .ref f_play, .ref f_machine, .ref f_teller, .ref f_saved, .ref f_isSaved, .ref f_past, .int 0, .int 0])), (f_tape, .inl (cB, 16000, .inl tf))]) [0, 1] (by decide +kernel) rfl
  have hFc := va_free (wc := [(h0, .inr (11, [.ref f_tape, .int 0, .ref f_words, .ref f_grammar, .ref f_meanings, .ref f_story, .ref f_draft, .int 0, .int 0, .int (-1), .ref f_told, .ref f_play, .ref f_machine, .ref f_teller, .ref f_saved, .ref f_isSaved, .ref f_past, .int 0, .int 0])), (f_tape, .inl (cB, 16000, .inl tf))]) hD hS hA [0, 1] rfl
  refine g_oxi (wc := [(h0, .inr (11, [.ref f_tape, .int 0, .ref f_words, .ref f_grammar, .ref f_meanings, .ref f_story, .ref f_draft, .int 0, .int 0, .int (-1), .ref f_told, .ref f_play, .ref f_machine, .ref f_teller, .ref f_saved, .ref f_isSaved, .ref f_past, .int 0, .int 0])), (f_tape, .inl (cB, 16000, .inl tf))]) (wr := [(oa, .inl (cJ, 1, .inr (.inl og)))]) hP hD hS hFc [0, 1] [2] rfl rfl (by decide +kernel) (by decide +kernel) (vx_runV (As := [.long row, .int n]) (rest := [.int 0, .ref oa]) ⟨hx, hb, hml, hown, hts⟩ (c_X11_feed l dC dI cB cC cI cJ cZ cP hfl s.heap.size h0 f_tape f_words f_grammar f_meanings f_story f_draft f_told f_play f_machine f_teller f_saved f_isSaved f_past row n tf ) (cwV 2 hts (g_gV wq_921 wq_922 wq_923 wq_1 wq_924) rfl rfl rfl (by decide +kernel) ⟨Nat.le_of_ble_eq_true rfl, Nat.le_of_ble_eq_true rfl⟩) (g_preV g_bl0 hK hPc hDc hS hE hFc g_to0 (q0 := 0) (ci := 11) rfl rfl) rfl rfl hl.1 rfl (lv_room (Nat.le_of_ble_eq_true rfl)) dL_feed_6 ⟨Nat.le_of_ble_eq_true rfl, Nat.le_of_ble_eq_true rfl⟩) (fun E ce q9 H1 locs1 hXP hP' hD' hS' hce hcv hcl => ?_) (fun r_3 u_2 H_4 locs w_1 hP' hD' hS' => ?_)
  · clear hPc hDc hFc
    obtain ⟨rfl, hwx⟩ := hXP
    refine vx_catch (E := "java/lang/IllegalArgumentException") (name := "java/lang/IllegalArgumentException") hown [] ⟨0, 11, 14, 13⟩ [⟨0, 11, 18, 15⟩] (by rw [htb]; rfl) (fun z hz => nomatch hz) (by decide +kernel) (by decide) (hts (.classLink RL 13 "java/lang/IllegalArgumentException") wq_919) (va_Nw.use rfl (hN.2.2.2.1 _ (List.mem_of_getElem? (i := 0) rfl)).1) hce hcv hcl ?_
    replace hP := hP'; replace hD := hD'; replace hS := hS'; clear hP' hD' hS'
    replace hP : va_P (dC, dI) vwCl [(oa, .inl (cJ, 1, .inr (.inl og))), (h0, .inr (11, [.ref f_tape, .int 0, .ref f_words, .ref f_grammar, .ref f_meanings, .ref f_story, .ref f_draft, .int 0, .int 0, .int (-1), .ref f_told, .ref f_play, .ref f_machine, .ref f_teller, .ref f_saved, .ref f_isSaved, .ref f_past, .int 0, .int 0])), (f_tape, .inl (cB, 16000, .inl tf))] H1 := hP
    replace hD : va_D A [(oa, .inl (cJ, 1, .inr (.inl og))), (h0, .inr (11, [.ref f_tape, .int 0, .ref f_words, .ref f_grammar, .ref f_meanings, .ref f_story, .ref f_draft, .int 0, .int 0, .int (-1), .ref f_told, .ref f_play, .ref f_machine, .ref f_teller, .ref f_saved, .ref f_isSaved, .ref f_past, .int 0, .int 0])), (f_tape, .inl (cB, 16000, .inl tf))] := hD
    refine lv_astore (lv' := [(5, .ref q9), (0, .ref h0), (1, .long row), (3, .int n), (4, .ref oa)]) hx hb dL_feed_14 hl (by decide) rfl (fun ls hl => ?_)
    refine lv_iconst (v := 1) hx hb dL_feed_16 (by decide +kernel) ?_
    have hP9 := hP.sub (ws' := [(h0, .inr (11, [.ref f_tape, .int 0, .ref f_words, .ref f_grammar, .ref f_meanings, .ref f_story, .ref f_draft, .int 0, .int 0, .int (-1), .ref f_told, .ref f_play, .ref f_machine, .ref f_teller, .ref f_saved, .ref f_isSaved, .ref f_past, .int 0, .int 0])), (f_tape, .inl (cB, 16000, .inl tf)), (oa, .inl (cJ, 1, .inr (.inl og)))]) [1, 2, 0] rfl
    have hD9 := hD.sub (ws' := [(h0, .inr (11, [.ref f_tape, .int 0, .ref f_words, .ref f_grammar, .ref f_meanings, .ref f_story, .ref f_draft, .int 0, .int 0, .int (-1), .ref f_told, .ref f_play, .ref f_machine, .ref f_teller, .ref f_saved, .ref f_isSaved, .ref f_past, .int 0, .int 0])), (f_tape, .inl (cB, 16000, .inl tf)), (oa, .inl (cJ, 1, .inr (.inl og)))]) [1, 2, 0] (by decide +kernel) rfl
    refine W.widen (k := 1) (n := 6) (Nat.le_of_ble_eq_true rfl) (Nat.le_of_ble_eq_true rfl) ?_
    exact W.iret (v := 1) hx hb hr (fun t ht hW => ⟨⟨1, (0, tf, og), rfl, (Or.inr ⟨hwx, rfl⟩), by rw [ht]; exact hP9, hD9⟩, hS.F ht⟩) hS.2.2 dL_feed_17
  clear hPc hDc hFc
  obtain ⟨o_5, o_6⟩ := u_2
  have w_1 : r_3 = n ∧ o_5 = n ∧ g_fit row n := w_1
  replace hP : va_P (dC, dI) vwCl [(oa, .inl (cJ, 1, .inr (.inl og))), (h0, .inr (11, [.ref f_tape, .int o_5, .ref f_words, .ref f_grammar, .ref f_meanings, .ref f_story, .ref f_draft, .int 0, .int 0, .int (-1), .ref f_told, .ref f_play, .ref f_machine, .ref f_teller, .ref f_saved, .ref f_isSaved, .ref f_past, .int 0, .int 0])), (f_tape, .inl (cB, 16000, .inl o_6))] H_4 := hP'
  replace hD : va_D A [(oa, .inl (cJ, 1, .inr (.inl og))), (h0, .inr (11, [.ref f_tape, .int o_5, .ref f_words, .ref f_grammar, .ref f_meanings, .ref f_story, .ref f_draft, .int 0, .int 0, .int (-1), .ref f_told, .ref f_play, .ref f_machine, .ref f_teller, .ref f_saved, .ref f_isSaved, .ref f_past, .int 0, .int 0])), (f_tape, .inl (cB, 16000, .inl o_6))] := hD'
  replace hS := hS'
  clear hP' hD' hS'
  refine W.widen (k := 1) (n := 6) (Nat.le_of_ble_eq_true rfl) (Nat.le_of_ble_eq_true rfl) ?_
  refine lv_i2l hx hb dL_feed_9 rfl ?_
  refine lv_topl (fun y_7 ey_7 => ?_)
  refine va_last hx hb hK hP hD hS 0 3 rfl rfl (vp_in_iff.mpr (by decide +kernel)) dL_feed_10 (fun H_8 locs hP' hD' hS' => ?_)
  obtain ⟨f_9, ef_9⟩ : ∃ g9 : Nat → Int64, g9 = (vp_updL og (0 : Int32).toNatClampNeg y_7) := ⟨_, rfl⟩
  replace hP : va_P (dC, dI) vwCl [(oa, .inl (cJ, 1, .inr (.inl f_9))), (h0, .inr (11, [.ref f_tape, .int o_5, .ref f_words, .ref f_grammar, .ref f_meanings, .ref f_story, .ref f_draft, .int 0, .int 0, .int (-1), .ref f_told, .ref f_play, .ref f_machine, .ref f_teller, .ref f_saved, .ref f_isSaved, .ref f_past, .int 0, .int 0])), (f_tape, .inl (cB, 16000, .inl o_6))] H_8 := by rw [ef_9]; exact hP'
  replace hD : va_D A [(oa, .inl (cJ, 1, .inr (.inl f_9))), (h0, .inr (11, [.ref f_tape, .int o_5, .ref f_words, .ref f_grammar, .ref f_meanings, .ref f_story, .ref f_draft, .int 0, .int 0, .int (-1), .ref f_told, .ref f_play, .ref f_machine, .ref f_teller, .ref f_saved, .ref f_isSaved, .ref f_past, .int 0, .int 0])), (f_tape, .inl (cB, 16000, .inl o_6))] := by rw [ef_9]; exact hD'
  replace hS := hS'
  clear hP' hD' hS'
  refine lv_goto (tgt := 22) hx hb dL_feed_11 (by decide) ?_
  refine lv_iconst (v := 0) hx hb dL_feed_22 (by decide +kernel) ?_
  have hP9 := hP.sub (ws' := [(h0, .inr (11, [.ref f_tape, .int o_5, .ref f_words, .ref f_grammar, .ref f_meanings, .ref f_story, .ref f_draft, .int 0, .int 0, .int (-1), .ref f_told, .ref f_play, .ref f_machine, .ref f_teller, .ref f_saved, .ref f_isSaved, .ref f_past, .int 0, .int 0])), (f_tape, .inl (cB, 16000, .inl o_6)), (oa, .inl (cJ, 1, .inr (.inl f_9)))]) [1, 2, 0] rfl
  have hD9 := hD.sub (ws' := [(h0, .inr (11, [.ref f_tape, .int o_5, .ref f_words, .ref f_grammar, .ref f_meanings, .ref f_story, .ref f_draft, .int 0, .int 0, .int (-1), .ref f_told, .ref f_play, .ref f_machine, .ref f_teller, .ref f_saved, .ref f_isSaved, .ref f_past, .int 0, .int 0])), (f_tape, .inl (cB, 16000, .inl o_6)), (oa, .inl (cJ, 1, .inr (.inl f_9)))]) [1, 2, 0] (by decide +kernel) rfl
  refine W.widen (k := 1) (n := 6) (Nat.le_of_ble_eq_true rfl) (Nat.le_of_ble_eq_true rfl) ?_
  exact W.iret (v := 0) hx hb hr (fun t ht hW => ⟨⟨0, (o_5, o_6, f_9), rfl, (Or.inl ⟨w_1.2.2, rfl, by subst_vars; rw [g_u0, w_1.1]⟩), by rw [ht]; exact hP9, hD9⟩, hS.F ht⟩) hS.2.2 dL_feed_23

abbrev ww_L_begin (cB cC cI cJ cZ cP : ClassId) (h0 : Nat) (f_tape : Nat) (f_words : Nat) (f_grammar : Nat) (f_meanings : Nat) (f_story : Nat) (f_draft : Nat) (f_told : Nat) (f_play : Nat) (f_machine : Nat) (f_teller : Nat) (f_saved : Nat) (f_isSaved : Nat) (f_past : Nat) (sd : Int32) : va_W := [(h0, .inr (11, [.ref f_tape, .int 0, .ref f_words, .ref f_grammar, .ref f_meanings, .ref f_story, .ref f_draft, .int 0, .int 0, .int (-1), .ref f_told, .ref f_play, .ref f_machine, .ref f_teller, .ref f_saved, .ref f_isSaved, .ref f_past, .int 0, .int 0]))]
abbrev q_L_begin (dC : Nat → ClassId) (dI : Nat → Nat → Nat) (cB cC cI cJ cZ cP : ClassId) (h0 : Nat) (f_tape : Nat) (f_words : Nat) (f_grammar : Nat) (f_meanings : Nat) (f_story : Nat) (f_draft : Nat) (f_told : Nat) (f_play : Nat) (f_machine : Nat) (f_teller : Nat) (f_saved : Nat) (f_isSaved : Nat) (f_past : Nat) (sd : Int32) (A : Nat → Prop) : Array Value → State → Outcome → State → Prop := va_Qi (fun (r : Int32) (_ : Unit) => r = 1) (g_Bo (dC, dI) A (fun (_ : Unit) => [(h0, .inr (11, [.ref f_tape, .int 0, .ref f_words, .ref f_grammar, .ref f_meanings, .ref f_story, .ref f_draft, .int 0, .int 0, .int (-1), .ref f_told, .ref f_play, .ref f_machine, .ref f_teller, .ref f_saved, .ref f_isSaved, .ref f_past, .int 0, .int 0]))])) A
set_option maxHeartbeats 4000000 in
set_option maxRecDepth 100000 in
theorem c_L_begin (l : Launch) (dC : Nat → ClassId) (dI : Nat → Nat → Nat) (cB cC cI cJ cZ cP : ClassId) (hfl : l.stackTraces = false) (sz : Nat) (h0 : Nat) (f_tape : Nat) (f_words : Nat) (f_grammar : Nat) (f_meanings : Nat) (f_story : Nat) (f_draft : Nat) (f_told : Nat) (f_play : Nat) (f_machine : Nat) (f_teller : Nat) (f_saved : Nat) (f_isSaved : Nat) (f_past : Nat) (sd : Int32)  : Met l yL_begin (g_wsW yL_begin cL_begin 3 (some .int) [(0, 5, 8, 15)]) ({ frames := 7, cells := 1, slots := 6, locals := 111 }) (va_Pc [.ref h0, .int sd] (g_B (dC, dI) [(cB, .byte), (cC, .char), (cI, .int), (cJ, .long), (cZ, .boolean), (cP, .object "StoryHouse$Play")] sz (ww_L_begin cB cC cI cJ cZ cP h0 f_tape f_words f_grammar f_meanings f_story f_draft f_told f_play f_machine f_teller f_saved f_isSaved f_past sd) g_0)) (q_L_begin dC dI cB cC cI cJ cZ cP h0 f_tape f_words f_grammar f_meanings f_story f_draft f_told f_play f_machine f_teller f_saved f_isSaved f_past sd (va_A (ww_L_begin cB cC cI cJ cZ cP h0 f_tape f_words f_grammar f_meanings f_story f_draft f_told f_play f_machine f_teller f_saved f_isSaved f_past sd) sz)) 1 6 (va_A (ww_L_begin cB cC cI cJ cZ cP h0 f_tape f_words f_grammar f_meanings f_story f_draft f_told f_play f_machine f_teller f_saved f_isSaved f_past sd) sz) := by
  refine va_MetW (cc := cL_begin) (maxL := 3) (ret := (some .int)) (hh := [(0, 5, 8, 15)]) (by decide) rfl ?_
  intro p e s m args below meth c s₁ B hml hv
  obtain ⟨rfl, hsz, hP, hK, hD0, hE, hX⟩ := hv
  have hx := B.exec
  have hb := B.bytes
  have hr := B.returns
  have hts0 := atoms_spec (ws := (g_wsW yL_begin cL_begin 3 (some .int) [(0, 5, 8, 15)])) B.pre
  have hts : ∀ w ∈ lw_good, w.before ([.ref h0, .int sd] : List Value).toArray s = true := fun w h => hts0 w (List.mem_cons_of_mem _ h)
  have hown : s.vm.findClass RL = some m.cls := findClass_of_methodNamed B.named
  have hlocks := B.notSynchronized
  subst hsz
  have hD := hD0.self (sz := s.heap.size)
  generalize hAe : va_A (ww_L_begin cB cC cI cJ cZ cP h0 f_tape f_words f_grammar f_meanings f_story f_draft f_told f_play f_machine f_teller f_saved f_isSaved f_past sd) s.heap.size = A at hD hE hX ⊢
  have hA : ∀ q : Nat, s.heap.size ≤ q → A q := fun q h => by rw [← hAe]; exact Or.inr h
  have hN := hE.1
  have hS : va_S A s.heap s.heap [] := va_S.rf
  have htb := vx_table (x := yL_begin) B (hts0 (.codeWith yL_begin cL_begin 3 (some .int) [(0, 5, 8, 15)]) List.mem_cons_self)
  have hP : va_P (dC, dI) vwCl [(h0, .inr (11, [.ref f_tape, .int 0, .ref f_words, .ref f_grammar, .ref f_meanings, .ref f_story, .ref f_draft, .int 0, .int 0, .int (-1), .ref f_told, .ref f_play, .ref f_machine, .ref f_teller, .ref f_saved, .ref f_isSaved, .ref f_past, .int 0, .int 0]))] s.heap := hP
  have hl := lv_entry ([.ref h0, .int sd]) (n := 3) (Nat.le_of_ble_eq_true rfl)
  rw [lg_entry_eq]
  generalize (lg_sl ([.ref h0, .int sd]) ++ List.replicate (3 - (lg_sl ([.ref h0, .int sd])).length) Slot.unset).toArray = ls at hl ⊢
  have hl : lv_has ls 3 [(0, .ref h0), (1, .int sd)] := hl
  refine lv_aload_n hx hb dL_begin_0 rfl (lv_at hl 0 rfl) ?_
  refine lv_iload_n hx hb dL_begin_1 rfl (lv_at hl 1 rfl) ?_
  have hPc := hP.sub (ws' := [(h0, .inr (11, [.ref f_tape, .int 0, .ref f_words, .ref f_grammar, .ref f_meanings, .ref f_story, .ref f_draft, .int 0, .int 0, .int (-1), .ref f_told, .ref f_play, .ref f_machine, .ref f_teller, .ref f_saved, .ref f_isSaved, .ref f_past, .int 0, .int 0]))]) [0] rfl
  have hDc := hD.sub (ws' := [(h0, .inr (11, [.ref f_tape, .int 0, .ref f_words, .ref f_grammar, .ref f_meanings, .ref f_story, .ref f_draft, .int 0, .int 0, .int (-1), .ref f_told, .ref f_play, .ref f_machine, .ref f_teller, .ref f_saved, .ref f_isSaved, .ref f_past, .int 0, .int 0]))]) [0] (by decide +kernel) rfl
  have hFc := va_free (wc := [(h0, .inr (11, [.ref f_tape, .int 0, .ref f_words, .ref f_grammar, .ref f_meanings, .ref f_story, .ref f_draft, .int 0, .int 0, .int (-1), .ref f_told, .ref f_play, .ref f_machine, .ref f_teller, .ref f_saved, .ref f_isSaved, .ref f_past, .int 0, .int 0]))]) hD hS hA [0] rfl
  refine g_oxv (wc := [(h0, .inr (11, [.ref f_tape, .int 0, .ref f_words, .ref f_grammar, .ref f_meanings, .ref f_story, .ref f_draft, .int 0, .int 0, .int (-1), .ref f_told, .ref f_play, .ref f_machine, .ref f_teller, .ref f_saved, .ref f_isSaved, .ref f_past, .int 0, .int 0]))]) (wr := []) hP hD hS hFc [0] [] rfl rfl (by decide +kernel) (by decide +kernel) (vx_runV (As := [.int sd]) (rest := []) ⟨hx, hb, hml, hown, hts⟩ (c_X11_begin l dC dI cB cC cI cJ cZ cP hfl s.heap.size h0 f_tape f_words f_grammar f_meanings f_story f_draft f_told f_play f_machine f_teller f_saved f_isSaved f_past sd ) (cwV 1 hts (g_gV wq_947 wq_948 wq_949 wq_1 wq_950) rfl rfl rfl (by decide +kernel) ⟨Nat.le_of_ble_eq_true rfl, Nat.le_of_ble_eq_true rfl⟩) (g_preV g_bl0 hK hPc hDc hS hE hFc g_to0 (q0 := 0) (ci := 11) rfl rfl) rfl rfl hl.1 rfl (lv_room (Nat.le_of_ble_eq_true rfl)) dL_begin_2 ⟨Nat.le_of_ble_eq_true rfl, Nat.le_of_ble_eq_true rfl⟩) (fun E ce q9 H1 locs1 hXP hP' hD' hS' hce hcv hcl => ?_) (fun u_2 H_3 locs w_1 hP' hD' hS' => ?_)
  · clear hPc hDc hFc
    obtain rfl := hXP
    refine vx_catch (E := "java/lang/IllegalStateException") (name := "java/lang/IllegalStateException") hown [] ⟨0, 5, 8, 15⟩ [] (by rw [htb]; rfl) (fun z hz => nomatch hz) (by decide +kernel) (by decide) (hts (.classLink RL 15 "java/lang/IllegalStateException") wq_920) (va_Nw.use rfl (hN.2.2.2.1 _ (List.mem_of_getElem? (i := 1) rfl)).1) hce hcv hcl ?_
    replace hP := hP'; replace hD := hD'; replace hS := hS'; clear hP' hD' hS'
    replace hP : va_P (dC, dI) vwCl [(h0, .inr (11, [.ref f_tape, .int 0, .ref f_words, .ref f_grammar, .ref f_meanings, .ref f_story, .ref f_draft, .int 0, .int 0, .int (-1), .ref f_told, .ref f_play, .ref f_machine, .ref f_teller, .ref f_saved, .ref f_isSaved, .ref f_past, .int 0, .int 0]))] H1 := hP
    replace hD : va_D A [(h0, .inr (11, [.ref f_tape, .int 0, .ref f_words, .ref f_grammar, .ref f_meanings, .ref f_story, .ref f_draft, .int 0, .int 0, .int (-1), .ref f_told, .ref f_play, .ref f_machine, .ref f_teller, .ref f_saved, .ref f_isSaved, .ref f_past, .int 0, .int 0]))] := hD
    refine lv_astore_n (lv' := [(2, .ref q9), (0, .ref h0), (1, .int sd)]) hx hb dL_begin_8 rfl hl (by decide) rfl (fun ls hl => ?_)
    refine lv_iconst (v := 1) hx hb dL_begin_9 (by decide +kernel) ?_
    have hP9 := hP.sub (ws' := [(h0, .inr (11, [.ref f_tape, .int 0, .ref f_words, .ref f_grammar, .ref f_meanings, .ref f_story, .ref f_draft, .int 0, .int 0, .int (-1), .ref f_told, .ref f_play, .ref f_machine, .ref f_teller, .ref f_saved, .ref f_isSaved, .ref f_past, .int 0, .int 0]))]) [0] rfl
    have hD9 := hD.sub (ws' := [(h0, .inr (11, [.ref f_tape, .int 0, .ref f_words, .ref f_grammar, .ref f_meanings, .ref f_story, .ref f_draft, .int 0, .int 0, .int (-1), .ref f_told, .ref f_play, .ref f_machine, .ref f_teller, .ref f_saved, .ref f_isSaved, .ref f_past, .int 0, .int 0]))]) [0] (by decide +kernel) rfl
    refine W.widen (k := 1) (n := 6) (Nat.le_of_ble_eq_true rfl) (Nat.le_of_ble_eq_true rfl) ?_
    exact W.iret (v := 1) hx hb hr (fun t ht hW => ⟨⟨1, (), rfl, (by first | trivial | rfl | assumption), by rw [ht]; exact hP9, hD9⟩, hS.F ht⟩) hS.2.2 dL_begin_10
  clear hPc hDc hFc
  have w_1 : False := w_1
  replace hP : va_P (dC, dI) vwCl [(h0, .inr (11, [.ref f_tape, .int 0, .ref f_words, .ref f_grammar, .ref f_meanings, .ref f_story, .ref f_draft, .int 0, .int 0, .int (-1), .ref f_told, .ref f_play, .ref f_machine, .ref f_teller, .ref f_saved, .ref f_isSaved, .ref f_past, .int 0, .int 0]))] H_3 := hP'
  replace hD : va_D A [(h0, .inr (11, [.ref f_tape, .int 0, .ref f_words, .ref f_grammar, .ref f_meanings, .ref f_story, .ref f_draft, .int 0, .int 0, .int (-1), .ref f_told, .ref f_play, .ref f_machine, .ref f_teller, .ref f_saved, .ref f_isSaved, .ref f_past, .int 0, .int 0]))] := hD'
  replace hS := hS'
  clear hP' hD' hS'
  refine W.widen (k := 1) (n := 6) (Nat.le_of_ble_eq_true rfl) (Nat.le_of_ble_eq_true rfl) ?_
  exact w_1.elim

abbrev ww_L_enter (cB cC cI cJ cZ cP : ClassId) (h0 : Nat) (f_tape : Nat) (f_words : Nat) (f_grammar : Nat) (f_meanings : Nat) (f_story : Nat) (f_draft : Nat) (f_told : Nat) (f_play : Nat) (f_machine : Nat) (f_teller : Nat) (f_saved : Nat) (f_isSaved : Nat) (f_past : Nat) (oa : Nat) (og : Nat → Int64) : va_W := [(h0, .inr (11, [.ref f_tape, .int 0, .ref f_words, .ref f_grammar, .ref f_meanings, .ref f_story, .ref f_draft, .int 0, .int 0, .int (-1), .ref f_told, .ref f_play, .ref f_machine, .ref f_teller, .ref f_saved, .ref f_isSaved, .ref f_past, .int 0, .int 0])), (oa, .inl (cJ, 1, .inr (.inl og)))]
abbrev q_L_enter (dC : Nat → ClassId) (dI : Nat → Nat → Nat) (cB cC cI cJ cZ cP : ClassId) (h0 : Nat) (f_tape : Nat) (f_words : Nat) (f_grammar : Nat) (f_meanings : Nat) (f_story : Nat) (f_draft : Nat) (f_told : Nat) (f_play : Nat) (f_machine : Nat) (f_teller : Nat) (f_saved : Nat) (f_isSaved : Nat) (f_past : Nat) (oa : Nat) (og : Nat → Int64) (A : Nat → Prop) : Array Value → State → Outcome → State → Prop := va_Qi (fun (r : Int32) (og2 : Nat → Int64) => r = 1) (g_Bo (dC, dI) A (fun (og2 : Nat → Int64) => [(h0, .inr (11, [.ref f_tape, .int 0, .ref f_words, .ref f_grammar, .ref f_meanings, .ref f_story, .ref f_draft, .int 0, .int 0, .int (-1), .ref f_told, .ref f_play, .ref f_machine, .ref f_teller, .ref f_saved, .ref f_isSaved, .ref f_past, .int 0, .int 0])), (oa, .inl (cJ, 1, .inr (.inl og2)))])) A
set_option maxHeartbeats 4000000 in
set_option maxRecDepth 100000 in
theorem c_L_enter (l : Launch) (dC : Nat → ClassId) (dI : Nat → Nat → Nat) (cB cC cI cJ cZ cP : ClassId) (hfl : l.stackTraces = false) (sz : Nat) (h0 : Nat) (f_tape : Nat) (f_words : Nat) (f_grammar : Nat) (f_meanings : Nat) (f_story : Nat) (f_draft : Nat) (f_told : Nat) (f_play : Nat) (f_machine : Nat) (f_teller : Nat) (f_saved : Nat) (f_isSaved : Nat) (f_past : Nat) (oa : Nat) (og : Nat → Int64)  : Met l yL_enter (g_wsW yL_enter cL_enter 3 (some .int) [(0, 8, 11, 15)]) ({ frames := 8, cells := 1, slots := 6, locals := 132 }) (va_Pc [.ref h0, .ref oa] (g_B (dC, dI) [(cB, .byte), (cC, .char), (cI, .int), (cJ, .long), (cZ, .boolean), (cP, .object "StoryHouse$Play")] sz (ww_L_enter cB cC cI cJ cZ cP h0 f_tape f_words f_grammar f_meanings f_story f_draft f_told f_play f_machine f_teller f_saved f_isSaved f_past oa og) g_0)) (q_L_enter dC dI cB cC cI cJ cZ cP h0 f_tape f_words f_grammar f_meanings f_story f_draft f_told f_play f_machine f_teller f_saved f_isSaved f_past oa og (va_A (ww_L_enter cB cC cI cJ cZ cP h0 f_tape f_words f_grammar f_meanings f_story f_draft f_told f_play f_machine f_teller f_saved f_isSaved f_past oa og) sz)) 1 6 (va_A (ww_L_enter cB cC cI cJ cZ cP h0 f_tape f_words f_grammar f_meanings f_story f_draft f_told f_play f_machine f_teller f_saved f_isSaved f_past oa og) sz) := by
  refine va_MetW (cc := cL_enter) (maxL := 3) (ret := (some .int)) (hh := [(0, 8, 11, 15)]) (by decide) rfl ?_
  intro p e s m args below meth c s₁ B hml hv
  obtain ⟨rfl, hsz, hP, hK, hD0, hE, hX⟩ := hv
  have hx := B.exec
  have hb := B.bytes
  have hr := B.returns
  have hts0 := atoms_spec (ws := (g_wsW yL_enter cL_enter 3 (some .int) [(0, 8, 11, 15)])) B.pre
  have hts : ∀ w ∈ lw_good, w.before ([.ref h0, .ref oa] : List Value).toArray s = true := fun w h => hts0 w (List.mem_cons_of_mem _ h)
  have hown : s.vm.findClass RL = some m.cls := findClass_of_methodNamed B.named
  have hlocks := B.notSynchronized
  subst hsz
  have hD := hD0.self (sz := s.heap.size)
  generalize hAe : va_A (ww_L_enter cB cC cI cJ cZ cP h0 f_tape f_words f_grammar f_meanings f_story f_draft f_told f_play f_machine f_teller f_saved f_isSaved f_past oa og) s.heap.size = A at hD hE hX ⊢
  have hA : ∀ q : Nat, s.heap.size ≤ q → A q := fun q h => by rw [← hAe]; exact Or.inr h
  have hN := hE.1
  have hS : va_S A s.heap s.heap [] := va_S.rf
  have htb := vx_table (x := yL_enter) B (hts0 (.codeWith yL_enter cL_enter 3 (some .int) [(0, 8, 11, 15)]) List.mem_cons_self)
  have hP : va_P (dC, dI) vwCl [(h0, .inr (11, [.ref f_tape, .int 0, .ref f_words, .ref f_grammar, .ref f_meanings, .ref f_story, .ref f_draft, .int 0, .int 0, .int (-1), .ref f_told, .ref f_play, .ref f_machine, .ref f_teller, .ref f_saved, .ref f_isSaved, .ref f_past, .int 0, .int 0])), (oa, .inl (cJ, 1, .inr (.inl og)))] s.heap := hP
  have hl := lv_entry ([.ref h0, .ref oa]) (n := 3) (Nat.le_of_ble_eq_true rfl)
  rw [lg_entry_eq]
  generalize (lg_sl ([.ref h0, .ref oa]) ++ List.replicate (3 - (lg_sl ([.ref h0, .ref oa])).length) Slot.unset).toArray = ls at hl ⊢
  have hl : lv_has ls 3 [(0, .ref h0), (1, .ref oa)] := hl
  refine lv_aload_n hx hb dL_enter_0 rfl (lv_at hl 1 rfl) ?_
  refine lv_iconst (v := 0) hx hb dL_enter_1 (by decide +kernel) ?_
  refine lv_aload_n hx hb dL_enter_2 rfl (lv_at hl 0 rfl) ?_
  have hPc := hP.sub (ws' := [(h0, .inr (11, [.ref f_tape, .int 0, .ref f_words, .ref f_grammar, .ref f_meanings, .ref f_story, .ref f_draft, .int 0, .int 0, .int (-1), .ref f_told, .ref f_play, .ref f_machine, .ref f_teller, .ref f_saved, .ref f_isSaved, .ref f_past, .int 0, .int 0]))]) [0] rfl
  have hDc := hD.sub (ws' := [(h0, .inr (11, [.ref f_tape, .int 0, .ref f_words, .ref f_grammar, .ref f_meanings, .ref f_story, .ref f_draft, .int 0, .int 0, .int (-1), .ref f_told, .ref f_play, .ref f_machine, .ref f_teller, .ref f_saved, .ref f_isSaved, .ref f_past, .int 0, .int 0]))]) [0] (by decide +kernel) rfl
  have hFc := va_free (wc := [(h0, .inr (11, [.ref f_tape, .int 0, .ref f_words, .ref f_grammar, .ref f_meanings, .ref f_story, .ref f_draft, .int 0, .int 0, .int (-1), .ref f_told, .ref f_play, .ref f_machine, .ref f_teller, .ref f_saved, .ref f_isSaved, .ref f_past, .int 0, .int 0]))]) hD hS hA [0] rfl
  refine g_oxi (wc := [(h0, .inr (11, [.ref f_tape, .int 0, .ref f_words, .ref f_grammar, .ref f_meanings, .ref f_story, .ref f_draft, .int 0, .int 0, .int (-1), .ref f_told, .ref f_play, .ref f_machine, .ref f_teller, .ref f_saved, .ref f_isSaved, .ref f_past, .int 0, .int 0]))]) (wr := [(oa, .inl (cJ, 1, .inr (.inl og)))]) hP hD hS hFc [0] [1] rfl rfl (by decide +kernel) (by decide +kernel) (vx_runV (As := []) (rest := [.int 0, .ref oa]) ⟨hx, hb, hml, hown, hts⟩ (c_X11_enter l dC dI cB cC cI cJ cZ cP hfl s.heap.size h0 f_tape f_words f_grammar f_meanings f_story f_draft f_told f_play f_machine f_teller f_saved f_isSaved f_past ) (cwV 0 hts (g_gV wq_1039 wq_1040 wq_1041 wq_1 wq_1042) rfl rfl rfl (by decide +kernel) ⟨Nat.le_of_ble_eq_true rfl, Nat.le_of_ble_eq_true rfl⟩) (g_preV g_bl0 hK hPc hDc hS hE hFc g_to0 (q0 := 0) (ci := 11) rfl rfl) rfl rfl hl.1 rfl (lv_room (Nat.le_of_ble_eq_true rfl)) dL_enter_3 ⟨Nat.le_of_ble_eq_true rfl, Nat.le_of_ble_eq_true rfl⟩) (fun E ce q9 H1 locs1 hXP hP' hD' hS' hce hcv hcl => ?_) (fun r_3 u_2 H_4 locs w_1 hP' hD' hS' => ?_)
  · clear hPc hDc hFc
    obtain rfl := hXP
    refine vx_catch (E := "java/lang/IllegalStateException") (name := "java/lang/IllegalStateException") hown [] ⟨0, 8, 11, 15⟩ [] (by rw [htb]; rfl) (fun z hz => nomatch hz) (by decide +kernel) (by decide) (hts (.classLink RL 15 "java/lang/IllegalStateException") wq_920) (va_Nw.use rfl (hN.2.2.2.1 _ (List.mem_of_getElem? (i := 1) rfl)).1) hce hcv hcl ?_
    replace hP := hP'; replace hD := hD'; replace hS := hS'; clear hP' hD' hS'
    replace hP : va_P (dC, dI) vwCl [(oa, .inl (cJ, 1, .inr (.inl og))), (h0, .inr (11, [.ref f_tape, .int 0, .ref f_words, .ref f_grammar, .ref f_meanings, .ref f_story, .ref f_draft, .int 0, .int 0, .int (-1), .ref f_told, .ref f_play, .ref f_machine, .ref f_teller, .ref f_saved, .ref f_isSaved, .ref f_past, .int 0, .int 0]))] H1 := hP
    replace hD : va_D A [(oa, .inl (cJ, 1, .inr (.inl og))), (h0, .inr (11, [.ref f_tape, .int 0, .ref f_words, .ref f_grammar, .ref f_meanings, .ref f_story, .ref f_draft, .int 0, .int 0, .int (-1), .ref f_told, .ref f_play, .ref f_machine, .ref f_teller, .ref f_saved, .ref f_isSaved, .ref f_past, .int 0, .int 0]))] := hD
    refine lv_astore_n (lv' := [(2, .ref q9), (0, .ref h0), (1, .ref oa)]) hx hb dL_enter_11 rfl hl (by decide) rfl (fun ls hl => ?_)
    refine lv_iconst (v := 1) hx hb dL_enter_12 (by decide +kernel) ?_
    have hP9 := hP.sub (ws' := [(h0, .inr (11, [.ref f_tape, .int 0, .ref f_words, .ref f_grammar, .ref f_meanings, .ref f_story, .ref f_draft, .int 0, .int 0, .int (-1), .ref f_told, .ref f_play, .ref f_machine, .ref f_teller, .ref f_saved, .ref f_isSaved, .ref f_past, .int 0, .int 0])), (oa, .inl (cJ, 1, .inr (.inl og)))]) [1, 0] rfl
    have hD9 := hD.sub (ws' := [(h0, .inr (11, [.ref f_tape, .int 0, .ref f_words, .ref f_grammar, .ref f_meanings, .ref f_story, .ref f_draft, .int 0, .int 0, .int (-1), .ref f_told, .ref f_play, .ref f_machine, .ref f_teller, .ref f_saved, .ref f_isSaved, .ref f_past, .int 0, .int 0])), (oa, .inl (cJ, 1, .inr (.inl og)))]) [1, 0] (by decide +kernel) rfl
    refine W.widen (k := 1) (n := 6) (Nat.le_of_ble_eq_true rfl) (Nat.le_of_ble_eq_true rfl) ?_
    exact W.iret (v := 1) hx hb hr (fun t ht hW => ⟨⟨1, og, rfl, (by first | trivial | rfl | assumption), by rw [ht]; exact hP9, hD9⟩, hS.F ht⟩) hS.2.2 dL_enter_13
  clear hPc hDc hFc
  have w_1 : False := w_1
  replace hP : va_P (dC, dI) vwCl [(oa, .inl (cJ, 1, .inr (.inl og))), (h0, .inr (11, [.ref f_tape, .int 0, .ref f_words, .ref f_grammar, .ref f_meanings, .ref f_story, .ref f_draft, .int 0, .int 0, .int (-1), .ref f_told, .ref f_play, .ref f_machine, .ref f_teller, .ref f_saved, .ref f_isSaved, .ref f_past, .int 0, .int 0]))] H_4 := hP'
  replace hD : va_D A [(oa, .inl (cJ, 1, .inr (.inl og))), (h0, .inr (11, [.ref f_tape, .int 0, .ref f_words, .ref f_grammar, .ref f_meanings, .ref f_story, .ref f_draft, .int 0, .int 0, .int (-1), .ref f_told, .ref f_play, .ref f_machine, .ref f_teller, .ref f_saved, .ref f_isSaved, .ref f_past, .int 0, .int 0]))] := hD'
  replace hS := hS'
  clear hP' hD' hS'
  refine W.widen (k := 1) (n := 6) (Nat.le_of_ble_eq_true rfl) (Nat.le_of_ble_eq_true rfl) ?_
  exact w_1.elim

abbrev ww_L_undo (cB cC cI cJ cZ cP : ClassId) (h0 : Nat) (f_tape : Nat) (f_words : Nat) (f_grammar : Nat) (f_meanings : Nat) (f_story : Nat) (f_draft : Nat) (f_told : Nat) (f_play : Nat) (f_machine : Nat) (f_teller : Nat) (f_saved : Nat) (f_isSaved : Nat) (f_past : Nat) (oa : Nat) (og : Nat → Int64) : va_W := [(h0, .inr (11, [.ref f_tape, .int 0, .ref f_words, .ref f_grammar, .ref f_meanings, .ref f_story, .ref f_draft, .int 0, .int 0, .int (-1), .ref f_told, .ref f_play, .ref f_machine, .ref f_teller, .ref f_saved, .ref f_isSaved, .ref f_past, .int 0, .int 0])), (oa, .inl (cJ, 1, .inr (.inl og)))]
abbrev q_L_undo (dC : Nat → ClassId) (dI : Nat → Nat → Nat) (cB cC cI cJ cZ cP : ClassId) (h0 : Nat) (f_tape : Nat) (f_words : Nat) (f_grammar : Nat) (f_meanings : Nat) (f_story : Nat) (f_draft : Nat) (f_told : Nat) (f_play : Nat) (f_machine : Nat) (f_teller : Nat) (f_saved : Nat) (f_isSaved : Nat) (f_past : Nat) (oa : Nat) (og : Nat → Int64) (A : Nat → Prop) : Array Value → State → Outcome → State → Prop := va_Qi (fun (r : Int32) (og2 : Nat → Int64) => r = 1) (g_Bo (dC, dI) A (fun (og2 : Nat → Int64) => [(h0, .inr (11, [.ref f_tape, .int 0, .ref f_words, .ref f_grammar, .ref f_meanings, .ref f_story, .ref f_draft, .int 0, .int 0, .int (-1), .ref f_told, .ref f_play, .ref f_machine, .ref f_teller, .ref f_saved, .ref f_isSaved, .ref f_past, .int 0, .int 0])), (oa, .inl (cJ, 1, .inr (.inl og2)))])) A
set_option maxHeartbeats 4000000 in
set_option maxRecDepth 100000 in
theorem c_L_undo (l : Launch) (dC : Nat → ClassId) (dI : Nat → Nat → Nat) (cB cC cI cJ cZ cP : ClassId) (hfl : l.stackTraces = false) (sz : Nat) (h0 : Nat) (f_tape : Nat) (f_words : Nat) (f_grammar : Nat) (f_meanings : Nat) (f_story : Nat) (f_draft : Nat) (f_told : Nat) (f_play : Nat) (f_machine : Nat) (f_teller : Nat) (f_saved : Nat) (f_isSaved : Nat) (f_past : Nat) (oa : Nat) (og : Nat → Int64)  : Met l yL_undo (g_wsW yL_undo cL_undo 3 (some .int) [(0, 15, 18, 15)]) ({ frames := 8, cells := 1, slots := 6, locals := 130 }) (va_Pc [.ref h0, .ref oa] (g_B (dC, dI) [(cB, .byte), (cC, .char), (cI, .int), (cJ, .long), (cZ, .boolean), (cP, .object "StoryHouse$Play")] sz (ww_L_undo cB cC cI cJ cZ cP h0 f_tape f_words f_grammar f_meanings f_story f_draft f_told f_play f_machine f_teller f_saved f_isSaved f_past oa og) g_0)) (q_L_undo dC dI cB cC cI cJ cZ cP h0 f_tape f_words f_grammar f_meanings f_story f_draft f_told f_play f_machine f_teller f_saved f_isSaved f_past oa og (va_A (ww_L_undo cB cC cI cJ cZ cP h0 f_tape f_words f_grammar f_meanings f_story f_draft f_told f_play f_machine f_teller f_saved f_isSaved f_past oa og) sz)) 1 6 (va_A (ww_L_undo cB cC cI cJ cZ cP h0 f_tape f_words f_grammar f_meanings f_story f_draft f_told f_play f_machine f_teller f_saved f_isSaved f_past oa og) sz) := by
  refine va_MetW (cc := cL_undo) (maxL := 3) (ret := (some .int)) (hh := [(0, 15, 18, 15)]) (by decide) rfl ?_
  intro p e s m args below meth c s₁ B hml hv
  obtain ⟨rfl, hsz, hP, hK, hD0, hE, hX⟩ := hv
  have hx := B.exec
  have hb := B.bytes
  have hr := B.returns
  have hts0 := atoms_spec (ws := (g_wsW yL_undo cL_undo 3 (some .int) [(0, 15, 18, 15)])) B.pre
  have hts : ∀ w ∈ lw_good, w.before ([.ref h0, .ref oa] : List Value).toArray s = true := fun w h => hts0 w (List.mem_cons_of_mem _ h)
  have hown : s.vm.findClass RL = some m.cls := findClass_of_methodNamed B.named
  have hlocks := B.notSynchronized
  subst hsz
  have hD := hD0.self (sz := s.heap.size)
  generalize hAe : va_A (ww_L_undo cB cC cI cJ cZ cP h0 f_tape f_words f_grammar f_meanings f_story f_draft f_told f_play f_machine f_teller f_saved f_isSaved f_past oa og) s.heap.size = A at hD hE hX ⊢
  have hA : ∀ q : Nat, s.heap.size ≤ q → A q := fun q h => by rw [← hAe]; exact Or.inr h
  have hN := hE.1
  have hS : va_S A s.heap s.heap [] := va_S.rf
  have htb := vx_table (x := yL_undo) B (hts0 (.codeWith yL_undo cL_undo 3 (some .int) [(0, 15, 18, 15)]) List.mem_cons_self)
  have hP : va_P (dC, dI) vwCl [(h0, .inr (11, [.ref f_tape, .int 0, .ref f_words, .ref f_grammar, .ref f_meanings, .ref f_story, .ref f_draft, .int 0, .int 0, .int (-1), .ref f_told, .ref f_play, .ref f_machine, .ref f_teller, .ref f_saved, .ref f_isSaved, .ref f_past, .int 0, .int 0])), (oa, .inl (cJ, 1, .inr (.inl og)))] s.heap := hP
  have hl := lv_entry ([.ref h0, .ref oa]) (n := 3) (Nat.le_of_ble_eq_true rfl)
  rw [lg_entry_eq]
  generalize (lg_sl ([.ref h0, .ref oa]) ++ List.replicate (3 - (lg_sl ([.ref h0, .ref oa])).length) Slot.unset).toArray = ls at hl ⊢
  have hl : lv_has ls 3 [(0, .ref h0), (1, .ref oa)] := hl
  refine lv_aload_n hx hb dL_undo_0 rfl (lv_at hl 1 rfl) ?_
  refine lv_iconst (v := 0) hx hb dL_undo_1 (by decide +kernel) ?_
  refine lv_aload_n hx hb dL_undo_2 rfl (lv_at hl 0 rfl) ?_
  have hPc := hP.sub (ws' := [(h0, .inr (11, [.ref f_tape, .int 0, .ref f_words, .ref f_grammar, .ref f_meanings, .ref f_story, .ref f_draft, .int 0, .int 0, .int (-1), .ref f_told, .ref f_play, .ref f_machine, .ref f_teller, .ref f_saved, .ref f_isSaved, .ref f_past, .int 0, .int 0]))]) [0] rfl
  have hDc := hD.sub (ws' := [(h0, .inr (11, [.ref f_tape, .int 0, .ref f_words, .ref f_grammar, .ref f_meanings, .ref f_story, .ref f_draft, .int 0, .int 0, .int (-1), .ref f_told, .ref f_play, .ref f_machine, .ref f_teller, .ref f_saved, .ref f_isSaved, .ref f_past, .int 0, .int 0]))]) [0] (by decide +kernel) rfl
  have hFc := va_free (wc := [(h0, .inr (11, [.ref f_tape, .int 0, .ref f_words, .ref f_grammar, .ref f_meanings, .ref f_story, .ref f_draft, .int 0, .int 0, .int (-1), .ref f_told, .ref f_play, .ref f_machine, .ref f_teller, .ref f_saved, .ref f_isSaved, .ref f_past, .int 0, .int 0]))]) hD hS hA [0] rfl
  refine g_oxi (wc := [(h0, .inr (11, [.ref f_tape, .int 0, .ref f_words, .ref f_grammar, .ref f_meanings, .ref f_story, .ref f_draft, .int 0, .int 0, .int (-1), .ref f_told, .ref f_play, .ref f_machine, .ref f_teller, .ref f_saved, .ref f_isSaved, .ref f_past, .int 0, .int 0]))]) (wr := [(oa, .inl (cJ, 1, .inr (.inl og)))]) hP hD hS hFc [0] [1] rfl rfl (by decide +kernel) (by decide +kernel) (vx_runV (As := []) (rest := [.int 0, .ref oa]) ⟨hx, hb, hml, hown, hts⟩ (c_X11_undo l dC dI cB cC cI cJ cZ cP hfl s.heap.size h0 f_tape f_words f_grammar f_meanings f_story f_draft f_told f_play f_machine f_teller f_saved f_isSaved f_past ) (cwV 0 hts (g_gV wq_1295 wq_1296 wq_1297 wq_1 wq_1298) rfl rfl rfl (by decide +kernel) ⟨Nat.le_of_ble_eq_true rfl, Nat.le_of_ble_eq_true rfl⟩) (g_preV g_bl0 hK hPc hDc hS hE hFc g_to0 (q0 := 0) (ci := 11) rfl rfl) rfl rfl hl.1 rfl (lv_room (Nat.le_of_ble_eq_true rfl)) dL_undo_3 ⟨Nat.le_of_ble_eq_true rfl, Nat.le_of_ble_eq_true rfl⟩) (fun E ce q9 H1 locs1 hXP hP' hD' hS' hce hcv hcl => ?_) (fun r_3 u_2 H_4 locs w_1 hP' hD' hS' => ?_)
  · clear hPc hDc hFc
    obtain rfl := hXP
    refine vx_catch (E := "java/lang/IllegalStateException") (name := "java/lang/IllegalStateException") hown [] ⟨0, 15, 18, 15⟩ [] (by rw [htb]; rfl) (fun z hz => nomatch hz) (by decide +kernel) (by decide) (hts (.classLink RL 15 "java/lang/IllegalStateException") wq_920) (va_Nw.use rfl (hN.2.2.2.1 _ (List.mem_of_getElem? (i := 1) rfl)).1) hce hcv hcl ?_
    replace hP := hP'; replace hD := hD'; replace hS := hS'; clear hP' hD' hS'
    replace hP : va_P (dC, dI) vwCl [(oa, .inl (cJ, 1, .inr (.inl og))), (h0, .inr (11, [.ref f_tape, .int 0, .ref f_words, .ref f_grammar, .ref f_meanings, .ref f_story, .ref f_draft, .int 0, .int 0, .int (-1), .ref f_told, .ref f_play, .ref f_machine, .ref f_teller, .ref f_saved, .ref f_isSaved, .ref f_past, .int 0, .int 0]))] H1 := hP
    replace hD : va_D A [(oa, .inl (cJ, 1, .inr (.inl og))), (h0, .inr (11, [.ref f_tape, .int 0, .ref f_words, .ref f_grammar, .ref f_meanings, .ref f_story, .ref f_draft, .int 0, .int 0, .int (-1), .ref f_told, .ref f_play, .ref f_machine, .ref f_teller, .ref f_saved, .ref f_isSaved, .ref f_past, .int 0, .int 0]))] := hD
    refine lv_astore_n (lv' := [(2, .ref q9), (0, .ref h0), (1, .ref oa)]) hx hb dL_undo_18 rfl hl (by decide) rfl (fun ls hl => ?_)
    refine lv_iconst (v := 1) hx hb dL_undo_19 (by decide +kernel) ?_
    have hP9 := hP.sub (ws' := [(h0, .inr (11, [.ref f_tape, .int 0, .ref f_words, .ref f_grammar, .ref f_meanings, .ref f_story, .ref f_draft, .int 0, .int 0, .int (-1), .ref f_told, .ref f_play, .ref f_machine, .ref f_teller, .ref f_saved, .ref f_isSaved, .ref f_past, .int 0, .int 0])), (oa, .inl (cJ, 1, .inr (.inl og)))]) [1, 0] rfl
    have hD9 := hD.sub (ws' := [(h0, .inr (11, [.ref f_tape, .int 0, .ref f_words, .ref f_grammar, .ref f_meanings, .ref f_story, .ref f_draft, .int 0, .int 0, .int (-1), .ref f_told, .ref f_play, .ref f_machine, .ref f_teller, .ref f_saved, .ref f_isSaved, .ref f_past, .int 0, .int 0])), (oa, .inl (cJ, 1, .inr (.inl og)))]) [1, 0] (by decide +kernel) rfl
    refine W.widen (k := 1) (n := 6) (Nat.le_of_ble_eq_true rfl) (Nat.le_of_ble_eq_true rfl) ?_
    exact W.iret (v := 1) hx hb hr (fun t ht hW => ⟨⟨1, og, rfl, (by first | trivial | rfl | assumption), by rw [ht]; exact hP9, hD9⟩, hS.F ht⟩) hS.2.2 dL_undo_20
  clear hPc hDc hFc
  have w_1 : False := w_1
  replace hP : va_P (dC, dI) vwCl [(oa, .inl (cJ, 1, .inr (.inl og))), (h0, .inr (11, [.ref f_tape, .int 0, .ref f_words, .ref f_grammar, .ref f_meanings, .ref f_story, .ref f_draft, .int 0, .int 0, .int (-1), .ref f_told, .ref f_play, .ref f_machine, .ref f_teller, .ref f_saved, .ref f_isSaved, .ref f_past, .int 0, .int 0]))] H_4 := hP'
  replace hD : va_D A [(oa, .inl (cJ, 1, .inr (.inl og))), (h0, .inr (11, [.ref f_tape, .int 0, .ref f_words, .ref f_grammar, .ref f_meanings, .ref f_story, .ref f_draft, .int 0, .int 0, .int (-1), .ref f_told, .ref f_play, .ref f_machine, .ref f_teller, .ref f_saved, .ref f_isSaved, .ref f_past, .int 0, .int 0]))] := hD'
  replace hS := hS'
  clear hP' hD' hS'
  refine W.widen (k := 1) (n := 6) (Nat.le_of_ble_eq_true rfl) (Nat.le_of_ble_eq_true rfl) ?_
  exact w_1.elim

abbrev ww_L_holder (cB cC cI cJ cZ cP : ClassId) (h0 : Nat) (f_tape : Nat) (f_words : Nat) (f_grammar : Nat) (f_meanings : Nat) (f_story : Nat) (f_draft : Nat) (f_told : Nat) (f_play : Nat) (f_machine : Nat) (f_teller : Nat) (f_saved : Nat) (f_isSaved : Nat) (f_past : Nat) (ob : Int32) (oa : Nat) (og : Nat → Int64) : va_W := [(h0, .inr (11, [.ref f_tape, .int 0, .ref f_words, .ref f_grammar, .ref f_meanings, .ref f_story, .ref f_draft, .int 0, .int 0, .int (-1), .ref f_told, .ref f_play, .ref f_machine, .ref f_teller, .ref f_saved, .ref f_isSaved, .ref f_past, .int 0, .int 0])), (oa, .inl (cJ, 1, .inr (.inl og)))]
abbrev q_L_holder (dC : Nat → ClassId) (dI : Nat → Nat → Nat) (cB cC cI cJ cZ cP : ClassId) (h0 : Nat) (f_tape : Nat) (f_words : Nat) (f_grammar : Nat) (f_meanings : Nat) (f_story : Nat) (f_draft : Nat) (f_told : Nat) (f_play : Nat) (f_machine : Nat) (f_teller : Nat) (f_saved : Nat) (f_isSaved : Nat) (f_past : Nat) (ob : Int32) (oa : Nat) (og : Nat → Int64) (A : Nat → Prop) : Array Value → State → Outcome → State → Prop := va_Qi (fun (r : Int32) (og2 : Nat → Int64) => r = 1) (g_Bo (dC, dI) A (fun (og2 : Nat → Int64) => [(h0, .inr (11, [.ref f_tape, .int 0, .ref f_words, .ref f_grammar, .ref f_meanings, .ref f_story, .ref f_draft, .int 0, .int 0, .int (-1), .ref f_told, .ref f_play, .ref f_machine, .ref f_teller, .ref f_saved, .ref f_isSaved, .ref f_past, .int 0, .int 0])), (oa, .inl (cJ, 1, .inr (.inl og2)))])) A
set_option maxHeartbeats 4000000 in
set_option maxRecDepth 100000 in
theorem c_L_holder (l : Launch) (dC : Nat → ClassId) (dI : Nat → Nat → Nat) (cB cC cI cJ cZ cP : ClassId) (hfl : l.stackTraces = false) (sz : Nat) (h0 : Nat) (f_tape : Nat) (f_words : Nat) (f_grammar : Nat) (f_meanings : Nat) (f_story : Nat) (f_draft : Nat) (f_told : Nat) (f_play : Nat) (f_machine : Nat) (f_teller : Nat) (f_saved : Nat) (f_isSaved : Nat) (f_past : Nat) (ob : Int32) (oa : Nat) (og : Nat → Int64)  : Met l yL_holder (g_wsW yL_holder cL_holder 4 (some .int) [(0, 9, 12, 29), (0, 9, 15, 15)]) ({ frames := 8, cells := 1, slots := 6, locals := 132 }) (va_Pc [.ref h0, .int ob, .ref oa] (g_B (dC, dI) [(cB, .byte), (cC, .char), (cI, .int), (cJ, .long), (cZ, .boolean), (cP, .object "StoryHouse$Play")] sz (ww_L_holder cB cC cI cJ cZ cP h0 f_tape f_words f_grammar f_meanings f_story f_draft f_told f_play f_machine f_teller f_saved f_isSaved f_past ob oa og) g_0)) (q_L_holder dC dI cB cC cI cJ cZ cP h0 f_tape f_words f_grammar f_meanings f_story f_draft f_told f_play f_machine f_teller f_saved f_isSaved f_past ob oa og (va_A (ww_L_holder cB cC cI cJ cZ cP h0 f_tape f_words f_grammar f_meanings f_story f_draft f_told f_play f_machine f_teller f_saved f_isSaved f_past ob oa og) sz)) 1 6 (va_A (ww_L_holder cB cC cI cJ cZ cP h0 f_tape f_words f_grammar f_meanings f_story f_draft f_told f_play f_machine f_teller f_saved f_isSaved f_past ob oa og) sz) := by
  refine va_MetW (cc := cL_holder) (maxL := 4) (ret := (some .int)) (hh := [(0, 9, 12, 29), (0, 9, 15, 15)]) (by decide) rfl ?_
  intro p e s m args below meth c s₁ B hml hv
  obtain ⟨rfl, hsz, hP, hK, hD0, hE, hX⟩ := hv
  have hx := B.exec
  have hb := B.bytes
  have hr := B.returns
  have hts0 := atoms_spec (ws := (g_wsW yL_holder cL_holder 4 (some .int) [(0, 9, 12, 29), (0, 9, 15, 15)])) B.pre
  have hts : ∀ w ∈ lw_good, w.before ([.ref h0, .int ob, .ref oa] : List Value).toArray s = true := fun w h => hts0 w (List.mem_cons_of_mem _ h)
  have hown : s.vm.findClass RL = some m.cls := findClass_of_methodNamed B.named
  have hlocks := B.notSynchronized
  subst hsz
  have hD := hD0.self (sz := s.heap.size)
  generalize hAe : va_A (ww_L_holder cB cC cI cJ cZ cP h0 f_tape f_words f_grammar f_meanings f_story f_draft f_told f_play f_machine f_teller f_saved f_isSaved f_past ob oa og) s.heap.size = A at hD hE hX ⊢
  have hA : ∀ q : Nat, s.heap.size ≤ q → A q := fun q h => by rw [← hAe]; exact Or.inr h
  have hN := hE.1
  have hS : va_S A s.heap s.heap [] := va_S.rf
  have htb := vx_table (x := yL_holder) B (hts0 (.codeWith yL_holder cL_holder 4 (some .int) [(0, 9, 12, 29), (0, 9, 15, 15)]) List.mem_cons_self)
  have hP : va_P (dC, dI) vwCl [(h0, .inr (11, [.ref f_tape, .int 0, .ref f_words, .ref f_grammar, .ref f_meanings, .ref f_story, .ref f_draft, .int 0, .int 0, .int (-1), .ref f_told, .ref f_play, .ref f_machine, .ref f_teller, .ref f_saved, .ref f_isSaved, .ref f_past, .int 0, .int 0])), (oa, .inl (cJ, 1, .inr (.inl og)))] s.heap := hP
  have hl := lv_entry ([.ref h0, .int ob, .ref oa]) (n := 4) (Nat.le_of_ble_eq_true rfl)
  rw [lg_entry_eq]
  generalize (lg_sl ([.ref h0, .int ob, .ref oa]) ++ List.replicate (4 - (lg_sl ([.ref h0, .int ob, .ref oa])).length) Slot.unset).toArray = ls at hl ⊢
  have hl : lv_has ls 4 [(0, .ref h0), (1, .int ob), (2, .ref oa)] := hl
  refine lv_aload_n hx hb dL_holder_0 rfl (lv_at hl 2 rfl) ?_
  refine lv_iconst (v := 0) hx hb dL_holder_1 (by decide +kernel) ?_
  refine lv_aload_n hx hb dL_holder_2 rfl (lv_at hl 0 rfl) ?_
  refine lv_iload_n hx hb dL_holder_3 rfl (lv_at hl 1 rfl) ?_
  have hPc := hP.sub (ws' := [(h0, .inr (11, [.ref f_tape, .int 0, .ref f_words, .ref f_grammar, .ref f_meanings, .ref f_story, .ref f_draft, .int 0, .int 0, .int (-1), .ref f_told, .ref f_play, .ref f_machine, .ref f_teller, .ref f_saved, .ref f_isSaved, .ref f_past, .int 0, .int 0]))]) [0] rfl
  have hDc := hD.sub (ws' := [(h0, .inr (11, [.ref f_tape, .int 0, .ref f_words, .ref f_grammar, .ref f_meanings, .ref f_story, .ref f_draft, .int 0, .int 0, .int (-1), .ref f_told, .ref f_play, .ref f_machine, .ref f_teller, .ref f_saved, .ref f_isSaved, .ref f_past, .int 0, .int 0]))]) [0] (by decide +kernel) rfl
  have hFc := va_free (wc := [(h0, .inr (11, [.ref f_tape, .int 0, .ref f_words, .ref f_grammar, .ref f_meanings, .ref f_story, .ref f_draft, .int 0, .int 0, .int (-1), .ref f_told, .ref f_play, .ref f_machine, .ref f_teller, .ref f_saved, .ref f_isSaved, .ref f_past, .int 0, .int 0]))]) hD hS hA [0] rfl
  refine g_oxi (wc := [(h0, .inr (11, [.ref f_tape, .int 0, .ref f_words, .ref f_grammar, .ref f_meanings, .ref f_story, .ref f_draft, .int 0, .int 0, .int (-1), .ref f_told, .ref f_play, .ref f_machine, .ref f_teller, .ref f_saved, .ref f_isSaved, .ref f_past, .int 0, .int 0]))]) (wr := [(oa, .inl (cJ, 1, .inr (.inl og)))]) hP hD hS hFc [0] [1] rfl rfl (by decide +kernel) (by decide +kernel) (vx_runV (As := [.int ob]) (rest := [.int 0, .ref oa]) ⟨hx, hb, hml, hown, hts⟩ (c_X11_holder l dC dI cB cC cI cJ cZ cP hfl s.heap.size h0 f_tape f_words f_grammar f_meanings f_story f_draft f_told f_play f_machine f_teller f_saved f_isSaved f_past ob ) (cwV 1 hts (g_gV wq_1302 wq_1303 wq_1304 wq_1 wq_1305) rfl rfl rfl (by decide +kernel) ⟨Nat.le_of_ble_eq_true rfl, Nat.le_of_ble_eq_true rfl⟩) (g_preV g_bl0 hK hPc hDc hS hE hFc g_to0 (q0 := 0) (ci := 11) rfl rfl) rfl rfl hl.1 rfl (lv_room (Nat.le_of_ble_eq_true rfl)) dL_holder_4 ⟨Nat.le_of_ble_eq_true rfl, Nat.le_of_ble_eq_true rfl⟩) (fun E ce q9 H1 locs1 hXP hP' hD' hS' hce hcv hcl => ?_) (fun r_3 u_2 H_4 locs w_1 hP' hD' hS' => ?_)
  · clear hPc hDc hFc
    obtain rfl := hXP
    refine vx_catch (E := "java/lang/IndexOutOfBoundsException") (name := "java/lang/IndexOutOfBoundsException") hown [] ⟨0, 9, 12, 29⟩ [⟨0, 9, 15, 15⟩] (by rw [htb]; rfl) (fun z hz => nomatch hz) (by decide +kernel) (by decide) (hts (.classLink RL 29 "java/lang/IndexOutOfBoundsException") wq_1268) (va_Nw.use rfl (hN.2.2.2.1 _ (List.mem_of_getElem? (i := 2) rfl)).1) hce hcv hcl ?_
    replace hP := hP'; replace hD := hD'; replace hS := hS'; clear hP' hD' hS'
    replace hP : va_P (dC, dI) vwCl [(oa, .inl (cJ, 1, .inr (.inl og))), (h0, .inr (11, [.ref f_tape, .int 0, .ref f_words, .ref f_grammar, .ref f_meanings, .ref f_story, .ref f_draft, .int 0, .int 0, .int (-1), .ref f_told, .ref f_play, .ref f_machine, .ref f_teller, .ref f_saved, .ref f_isSaved, .ref f_past, .int 0, .int 0]))] H1 := hP
    replace hD : va_D A [(oa, .inl (cJ, 1, .inr (.inl og))), (h0, .inr (11, [.ref f_tape, .int 0, .ref f_words, .ref f_grammar, .ref f_meanings, .ref f_story, .ref f_draft, .int 0, .int 0, .int (-1), .ref f_told, .ref f_play, .ref f_machine, .ref f_teller, .ref f_saved, .ref f_isSaved, .ref f_past, .int 0, .int 0]))] := hD
    refine lv_astore_n (lv' := [(3, .ref q9), (0, .ref h0), (1, .int ob), (2, .ref oa)]) hx hb dL_holder_12 rfl hl (by decide) rfl (fun ls hl => ?_)
    refine lv_iconst (v := 1) hx hb dL_holder_13 (by decide +kernel) ?_
    have hP9 := hP.sub (ws' := [(h0, .inr (11, [.ref f_tape, .int 0, .ref f_words, .ref f_grammar, .ref f_meanings, .ref f_story, .ref f_draft, .int 0, .int 0, .int (-1), .ref f_told, .ref f_play, .ref f_machine, .ref f_teller, .ref f_saved, .ref f_isSaved, .ref f_past, .int 0, .int 0])), (oa, .inl (cJ, 1, .inr (.inl og)))]) [1, 0] rfl
    have hD9 := hD.sub (ws' := [(h0, .inr (11, [.ref f_tape, .int 0, .ref f_words, .ref f_grammar, .ref f_meanings, .ref f_story, .ref f_draft, .int 0, .int 0, .int (-1), .ref f_told, .ref f_play, .ref f_machine, .ref f_teller, .ref f_saved, .ref f_isSaved, .ref f_past, .int 0, .int 0])), (oa, .inl (cJ, 1, .inr (.inl og)))]) [1, 0] (by decide +kernel) rfl
    refine W.widen (k := 1) (n := 6) (Nat.le_of_ble_eq_true rfl) (Nat.le_of_ble_eq_true rfl) ?_
    exact W.iret (v := 1) hx hb hr (fun t ht hW => ⟨⟨1, og, rfl, (by first | trivial | rfl | assumption), by rw [ht]; exact hP9, hD9⟩, hS.F ht⟩) hS.2.2 dL_holder_14
  clear hPc hDc hFc
  have w_1 : False := w_1
  replace hP : va_P (dC, dI) vwCl [(oa, .inl (cJ, 1, .inr (.inl og))), (h0, .inr (11, [.ref f_tape, .int 0, .ref f_words, .ref f_grammar, .ref f_meanings, .ref f_story, .ref f_draft, .int 0, .int 0, .int (-1), .ref f_told, .ref f_play, .ref f_machine, .ref f_teller, .ref f_saved, .ref f_isSaved, .ref f_past, .int 0, .int 0]))] H_4 := hP'
  replace hD : va_D A [(oa, .inl (cJ, 1, .inr (.inl og))), (h0, .inr (11, [.ref f_tape, .int 0, .ref f_words, .ref f_grammar, .ref f_meanings, .ref f_story, .ref f_draft, .int 0, .int 0, .int (-1), .ref f_told, .ref f_play, .ref f_machine, .ref f_teller, .ref f_saved, .ref f_isSaved, .ref f_past, .int 0, .int 0]))] := hD'
  replace hS := hS'
  clear hP' hD' hS'
  refine W.widen (k := 1) (n := 6) (Nat.le_of_ble_eq_true rfl) (Nat.le_of_ble_eq_true rfl) ?_
  exact w_1.elim

abbrev ww_L_first (cB cC cI cJ cZ cP : ClassId) (h0 : Nat) (f_tape : Nat) (f_words : Nat) (f_grammar : Nat) (f_meanings : Nat) (f_story : Nat) (f_draft : Nat) (f_told : Nat) (f_play : Nat) (f_machine : Nat) (f_teller : Nat) (f_saved : Nat) (f_isSaved : Nat) (f_past : Nat) (ob : Int32) (nx : Int32) (oa : Nat) (og : Nat → Int64) : va_W := [(h0, .inr (11, [.ref f_tape, .int 0, .ref f_words, .ref f_grammar, .ref f_meanings, .ref f_story, .ref f_draft, .int 0, .int 0, .int (-1), .ref f_told, .ref f_play, .ref f_machine, .ref f_teller, .ref f_saved, .ref f_isSaved, .ref f_past, .int 0, .int 0])), (oa, .inl (cJ, 1, .inr (.inl og)))]
abbrev q_L_first (dC : Nat → ClassId) (dI : Nat → Nat → Nat) (cB cC cI cJ cZ cP : ClassId) (h0 : Nat) (f_tape : Nat) (f_words : Nat) (f_grammar : Nat) (f_meanings : Nat) (f_story : Nat) (f_draft : Nat) (f_told : Nat) (f_play : Nat) (f_machine : Nat) (f_teller : Nat) (f_saved : Nat) (f_isSaved : Nat) (f_past : Nat) (ob : Int32) (nx : Int32) (oa : Nat) (og : Nat → Int64) (A : Nat → Prop) : Array Value → State → Outcome → State → Prop := va_Qi (fun (r : Int32) (og2 : Nat → Int64) => r = 1) (g_Bo (dC, dI) A (fun (og2 : Nat → Int64) => [(h0, .inr (11, [.ref f_tape, .int 0, .ref f_words, .ref f_grammar, .ref f_meanings, .ref f_story, .ref f_draft, .int 0, .int 0, .int (-1), .ref f_told, .ref f_play, .ref f_machine, .ref f_teller, .ref f_saved, .ref f_isSaved, .ref f_past, .int 0, .int 0])), (oa, .inl (cJ, 1, .inr (.inl og2)))])) A
set_option maxHeartbeats 4000000 in
set_option maxRecDepth 100000 in
theorem c_L_first (l : Launch) (dC : Nat → ClassId) (dI : Nat → Nat → Nat) (cB cC cI cJ cZ cP : ClassId) (hfl : l.stackTraces = false) (sz : Nat) (h0 : Nat) (f_tape : Nat) (f_words : Nat) (f_grammar : Nat) (f_meanings : Nat) (f_story : Nat) (f_draft : Nat) (f_told : Nat) (f_play : Nat) (f_machine : Nat) (f_teller : Nat) (f_saved : Nat) (f_isSaved : Nat) (f_past : Nat) (ob : Int32) (nx : Int32) (oa : Nat) (og : Nat → Int64)  : Met l yL_first (g_wsW yL_first cL_first 5 (some .int) [(0, 10, 13, 29), (0, 10, 17, 15)]) ({ frames := 8, cells := 1, slots := 6, locals := 133 }) (va_Pc [.ref h0, .int ob, .int nx, .ref oa] (g_B (dC, dI) [(cB, .byte), (cC, .char), (cI, .int), (cJ, .long), (cZ, .boolean), (cP, .object "StoryHouse$Play")] sz (ww_L_first cB cC cI cJ cZ cP h0 f_tape f_words f_grammar f_meanings f_story f_draft f_told f_play f_machine f_teller f_saved f_isSaved f_past ob nx oa og) g_0)) (q_L_first dC dI cB cC cI cJ cZ cP h0 f_tape f_words f_grammar f_meanings f_story f_draft f_told f_play f_machine f_teller f_saved f_isSaved f_past ob nx oa og (va_A (ww_L_first cB cC cI cJ cZ cP h0 f_tape f_words f_grammar f_meanings f_story f_draft f_told f_play f_machine f_teller f_saved f_isSaved f_past ob nx oa og) sz)) 1 6 (va_A (ww_L_first cB cC cI cJ cZ cP h0 f_tape f_words f_grammar f_meanings f_story f_draft f_told f_play f_machine f_teller f_saved f_isSaved f_past ob nx oa og) sz) := by
  refine va_MetW (cc := cL_first) (maxL := 5) (ret := (some .int)) (hh := [(0, 10, 13, 29), (0, 10, 17, 15)]) (by decide) rfl ?_
  intro p e s m args below meth c s₁ B hml hv
  obtain ⟨rfl, hsz, hP, hK, hD0, hE, hX⟩ := hv
  have hx := B.exec
  have hb := B.bytes
  have hr := B.returns
  have hts0 := atoms_spec (ws := (g_wsW yL_first cL_first 5 (some .int) [(0, 10, 13, 29), (0, 10, 17, 15)])) B.pre
  have hts : ∀ w ∈ lw_good, w.before ([.ref h0, .int ob, .int nx, .ref oa] : List Value).toArray s = true := fun w h => hts0 w (List.mem_cons_of_mem _ h)
  have hown : s.vm.findClass RL = some m.cls := findClass_of_methodNamed B.named
  have hlocks := B.notSynchronized
  subst hsz
  have hD := hD0.self (sz := s.heap.size)
  generalize hAe : va_A (ww_L_first cB cC cI cJ cZ cP h0 f_tape f_words f_grammar f_meanings f_story f_draft f_told f_play f_machine f_teller f_saved f_isSaved f_past ob nx oa og) s.heap.size = A at hD hE hX ⊢
  have hA : ∀ q : Nat, s.heap.size ≤ q → A q := fun q h => by rw [← hAe]; exact Or.inr h
  have hN := hE.1
  have hS : va_S A s.heap s.heap [] := va_S.rf
  have htb := vx_table (x := yL_first) B (hts0 (.codeWith yL_first cL_first 5 (some .int) [(0, 10, 13, 29), (0, 10, 17, 15)]) List.mem_cons_self)
  have hP : va_P (dC, dI) vwCl [(h0, .inr (11, [.ref f_tape, .int 0, .ref f_words, .ref f_grammar, .ref f_meanings, .ref f_story, .ref f_draft, .int 0, .int 0, .int (-1), .ref f_told, .ref f_play, .ref f_machine, .ref f_teller, .ref f_saved, .ref f_isSaved, .ref f_past, .int 0, .int 0])), (oa, .inl (cJ, 1, .inr (.inl og)))] s.heap := hP
  have hl := lv_entry ([.ref h0, .int ob, .int nx, .ref oa]) (n := 5) (Nat.le_of_ble_eq_true rfl)
  rw [lg_entry_eq]
  generalize (lg_sl ([.ref h0, .int ob, .int nx, .ref oa]) ++ List.replicate (5 - (lg_sl ([.ref h0, .int ob, .int nx, .ref oa])).length) Slot.unset).toArray = ls at hl ⊢
  have hl : lv_has ls 5 [(0, .ref h0), (1, .int ob), (2, .int nx), (3, .ref oa)] := hl
  refine lv_aload_n hx hb dL_first_0 rfl (lv_at hl 3 rfl) ?_
  refine lv_iconst (v := 0) hx hb dL_first_1 (by decide +kernel) ?_
  refine lv_aload_n hx hb dL_first_2 rfl (lv_at hl 0 rfl) ?_
  refine lv_iload_n hx hb dL_first_3 rfl (lv_at hl 1 rfl) ?_
  refine lv_iload_n hx hb dL_first_4 rfl (lv_at hl 2 rfl) ?_
  have hPc := hP.sub (ws' := [(h0, .inr (11, [.ref f_tape, .int 0, .ref f_words, .ref f_grammar, .ref f_meanings, .ref f_story, .ref f_draft, .int 0, .int 0, .int (-1), .ref f_told, .ref f_play, .ref f_machine, .ref f_teller, .ref f_saved, .ref f_isSaved, .ref f_past, .int 0, .int 0]))]) [0] rfl
  have hDc := hD.sub (ws' := [(h0, .inr (11, [.ref f_tape, .int 0, .ref f_words, .ref f_grammar, .ref f_meanings, .ref f_story, .ref f_draft, .int 0, .int 0, .int (-1), .ref f_told, .ref f_play, .ref f_machine, .ref f_teller, .ref f_saved, .ref f_isSaved, .ref f_past, .int 0, .int 0]))]) [0] (by decide +kernel) rfl
  have hFc := va_free (wc := [(h0, .inr (11, [.ref f_tape, .int 0, .ref f_words, .ref f_grammar, .ref f_meanings, .ref f_story, .ref f_draft, .int 0, .int 0, .int (-1), .ref f_told, .ref f_play, .ref f_machine, .ref f_teller, .ref f_saved, .ref f_isSaved, .ref f_past, .int 0, .int 0]))]) hD hS hA [0] rfl
  refine g_oxi (wc := [(h0, .inr (11, [.ref f_tape, .int 0, .ref f_words, .ref f_grammar, .ref f_meanings, .ref f_story, .ref f_draft, .int 0, .int 0, .int (-1), .ref f_told, .ref f_play, .ref f_machine, .ref f_teller, .ref f_saved, .ref f_isSaved, .ref f_past, .int 0, .int 0]))]) (wr := [(oa, .inl (cJ, 1, .inr (.inl og)))]) hP hD hS hFc [0] [1] rfl rfl (by decide +kernel) (by decide +kernel) (vx_runV (As := [.int ob, .int nx]) (rest := [.int 0, .ref oa]) ⟨hx, hb, hml, hown, hts⟩ (c_X11_first l dC dI cB cC cI cJ cZ cP hfl s.heap.size h0 f_tape f_words f_grammar f_meanings f_story f_draft f_told f_play f_machine f_teller f_saved f_isSaved f_past ob nx ) (cwV 2 hts (g_gV wq_1313 wq_1314 wq_1315 wq_1 wq_1316) rfl rfl rfl (by decide +kernel) ⟨Nat.le_of_ble_eq_true rfl, Nat.le_of_ble_eq_true rfl⟩) (g_preV g_bl0 hK hPc hDc hS hE hFc g_to0 (q0 := 0) (ci := 11) rfl rfl) rfl rfl hl.1 rfl (lv_room (Nat.le_of_ble_eq_true rfl)) dL_first_5 ⟨Nat.le_of_ble_eq_true rfl, Nat.le_of_ble_eq_true rfl⟩) (fun E ce q9 H1 locs1 hXP hP' hD' hS' hce hcv hcl => ?_) (fun r_3 u_2 H_4 locs w_1 hP' hD' hS' => ?_)
  · clear hPc hDc hFc
    obtain rfl := hXP
    refine vx_catch (E := "java/lang/IndexOutOfBoundsException") (name := "java/lang/IndexOutOfBoundsException") hown [] ⟨0, 10, 13, 29⟩ [⟨0, 10, 17, 15⟩] (by rw [htb]; rfl) (fun z hz => nomatch hz) (by decide +kernel) (by decide) (hts (.classLink RL 29 "java/lang/IndexOutOfBoundsException") wq_1268) (va_Nw.use rfl (hN.2.2.2.1 _ (List.mem_of_getElem? (i := 2) rfl)).1) hce hcv hcl ?_
    replace hP := hP'; replace hD := hD'; replace hS := hS'; clear hP' hD' hS'
    replace hP : va_P (dC, dI) vwCl [(oa, .inl (cJ, 1, .inr (.inl og))), (h0, .inr (11, [.ref f_tape, .int 0, .ref f_words, .ref f_grammar, .ref f_meanings, .ref f_story, .ref f_draft, .int 0, .int 0, .int (-1), .ref f_told, .ref f_play, .ref f_machine, .ref f_teller, .ref f_saved, .ref f_isSaved, .ref f_past, .int 0, .int 0]))] H1 := hP
    replace hD : va_D A [(oa, .inl (cJ, 1, .inr (.inl og))), (h0, .inr (11, [.ref f_tape, .int 0, .ref f_words, .ref f_grammar, .ref f_meanings, .ref f_story, .ref f_draft, .int 0, .int 0, .int (-1), .ref f_told, .ref f_play, .ref f_machine, .ref f_teller, .ref f_saved, .ref f_isSaved, .ref f_past, .int 0, .int 0]))] := hD
    refine lv_astore (lv' := [(4, .ref q9), (0, .ref h0), (1, .int ob), (2, .int nx), (3, .ref oa)]) hx hb dL_first_13 hl (by decide) rfl (fun ls hl => ?_)
    refine lv_iconst (v := 1) hx hb dL_first_15 (by decide +kernel) ?_
    have hP9 := hP.sub (ws' := [(h0, .inr (11, [.ref f_tape, .int 0, .ref f_words, .ref f_grammar, .ref f_meanings, .ref f_story, .ref f_draft, .int 0, .int 0, .int (-1), .ref f_told, .ref f_play, .ref f_machine, .ref f_teller, .ref f_saved, .ref f_isSaved, .ref f_past, .int 0, .int 0])), (oa, .inl (cJ, 1, .inr (.inl og)))]) [1, 0] rfl
    have hD9 := hD.sub (ws' := [(h0, .inr (11, [.ref f_tape, .int 0, .ref f_words, .ref f_grammar, .ref f_meanings, .ref f_story, .ref f_draft, .int 0, .int 0, .int (-1), .ref f_told, .ref f_play, .ref f_machine, .ref f_teller, .ref f_saved, .ref f_isSaved, .ref f_past, .int 0, .int 0])), (oa, .inl (cJ, 1, .inr (.inl og)))]) [1, 0] (by decide +kernel) rfl
    refine W.widen (k := 1) (n := 6) (Nat.le_of_ble_eq_true rfl) (Nat.le_of_ble_eq_true rfl) ?_
    exact W.iret (v := 1) hx hb hr (fun t ht hW => ⟨⟨1, og, rfl, (by first | trivial | rfl | assumption), by rw [ht]; exact hP9, hD9⟩, hS.F ht⟩) hS.2.2 dL_first_16
  clear hPc hDc hFc
  have w_1 : False := w_1
  replace hP : va_P (dC, dI) vwCl [(oa, .inl (cJ, 1, .inr (.inl og))), (h0, .inr (11, [.ref f_tape, .int 0, .ref f_words, .ref f_grammar, .ref f_meanings, .ref f_story, .ref f_draft, .int 0, .int 0, .int (-1), .ref f_told, .ref f_play, .ref f_machine, .ref f_teller, .ref f_saved, .ref f_isSaved, .ref f_past, .int 0, .int 0]))] H_4 := hP'
  replace hD : va_D A [(oa, .inl (cJ, 1, .inr (.inl og))), (h0, .inr (11, [.ref f_tape, .int 0, .ref f_words, .ref f_grammar, .ref f_meanings, .ref f_story, .ref f_draft, .int 0, .int 0, .int (-1), .ref f_told, .ref f_play, .ref f_machine, .ref f_teller, .ref f_saved, .ref f_isSaved, .ref f_past, .int 0, .int 0]))] := hD'
  replace hS := hS'
  clear hP' hD' hS'
  refine W.widen (k := 1) (n := 6) (Nat.le_of_ble_eq_true rfl) (Nat.le_of_ble_eq_true rfl) ?_
  exact w_1.elim

abbrev ww_L_has (cB cC cI cJ cZ cP : ClassId) (h0 : Nat) (f_tape : Nat) (f_words : Nat) (f_grammar : Nat) (f_meanings : Nat) (f_story : Nat) (f_draft : Nat) (f_told : Nat) (f_play : Nat) (f_machine : Nat) (f_teller : Nat) (f_saved : Nat) (f_isSaved : Nat) (f_past : Nat) (ob : Int32) (att : Int32) (oa : Nat) (og : Nat → Int64) : va_W := [(h0, .inr (11, [.ref f_tape, .int 0, .ref f_words, .ref f_grammar, .ref f_meanings, .ref f_story, .ref f_draft, .int 0, .int 0, .int (-1), .ref f_told, .ref f_play, .ref f_machine, .ref f_teller, .ref f_saved, .ref f_isSaved, .ref f_past, .int 0, .int 0])), (oa, .inl (cJ, 1, .inr (.inl og)))]
abbrev q_L_has (dC : Nat → ClassId) (dI : Nat → Nat → Nat) (cB cC cI cJ cZ cP : ClassId) (h0 : Nat) (f_tape : Nat) (f_words : Nat) (f_grammar : Nat) (f_meanings : Nat) (f_story : Nat) (f_draft : Nat) (f_told : Nat) (f_play : Nat) (f_machine : Nat) (f_teller : Nat) (f_saved : Nat) (f_isSaved : Nat) (f_past : Nat) (ob : Int32) (att : Int32) (oa : Nat) (og : Nat → Int64) (A : Nat → Prop) : Array Value → State → Outcome → State → Prop := va_Qi (fun (r : Int32) (og2 : Nat → Int64) => r = 1) (g_Bo (dC, dI) A (fun (og2 : Nat → Int64) => [(h0, .inr (11, [.ref f_tape, .int 0, .ref f_words, .ref f_grammar, .ref f_meanings, .ref f_story, .ref f_draft, .int 0, .int 0, .int (-1), .ref f_told, .ref f_play, .ref f_machine, .ref f_teller, .ref f_saved, .ref f_isSaved, .ref f_past, .int 0, .int 0])), (oa, .inl (cJ, 1, .inr (.inl og2)))])) A
set_option maxHeartbeats 4000000 in
set_option maxRecDepth 100000 in
theorem c_L_has (l : Launch) (dC : Nat → ClassId) (dI : Nat → Nat → Nat) (cB cC cI cJ cZ cP : ClassId) (hfl : l.stackTraces = false) (sz : Nat) (h0 : Nat) (f_tape : Nat) (f_words : Nat) (f_grammar : Nat) (f_meanings : Nat) (f_story : Nat) (f_draft : Nat) (f_told : Nat) (f_play : Nat) (f_machine : Nat) (f_teller : Nat) (f_saved : Nat) (f_isSaved : Nat) (f_past : Nat) (ob : Int32) (att : Int32) (oa : Nat) (og : Nat → Int64)  : Met l yL_has (g_wsW yL_has cL_has 5 (some .int) [(0, 17, 20, 29), (0, 17, 24, 13), (0, 17, 28, 15)]) ({ frames := 8, cells := 1, slots := 6, locals := 133 }) (va_Pc [.ref h0, .int ob, .int att, .ref oa] (g_B (dC, dI) [(cB, .byte), (cC, .char), (cI, .int), (cJ, .long), (cZ, .boolean), (cP, .object "StoryHouse$Play")] sz (ww_L_has cB cC cI cJ cZ cP h0 f_tape f_words f_grammar f_meanings f_story f_draft f_told f_play f_machine f_teller f_saved f_isSaved f_past ob att oa og) g_0)) (q_L_has dC dI cB cC cI cJ cZ cP h0 f_tape f_words f_grammar f_meanings f_story f_draft f_told f_play f_machine f_teller f_saved f_isSaved f_past ob att oa og (va_A (ww_L_has cB cC cI cJ cZ cP h0 f_tape f_words f_grammar f_meanings f_story f_draft f_told f_play f_machine f_teller f_saved f_isSaved f_past ob att oa og) sz)) 1 6 (va_A (ww_L_has cB cC cI cJ cZ cP h0 f_tape f_words f_grammar f_meanings f_story f_draft f_told f_play f_machine f_teller f_saved f_isSaved f_past ob att oa og) sz) := by
  refine va_MetW (cc := cL_has) (maxL := 5) (ret := (some .int)) (hh := [(0, 17, 20, 29), (0, 17, 24, 13), (0, 17, 28, 15)]) (by decide) rfl ?_
  intro p e s m args below meth c s₁ B hml hv
  obtain ⟨rfl, hsz, hP, hK, hD0, hE, hX⟩ := hv
  have hx := B.exec
  have hb := B.bytes
  have hr := B.returns
  have hts0 := atoms_spec (ws := (g_wsW yL_has cL_has 5 (some .int) [(0, 17, 20, 29), (0, 17, 24, 13), (0, 17, 28, 15)])) B.pre
  have hts : ∀ w ∈ lw_good, w.before ([.ref h0, .int ob, .int att, .ref oa] : List Value).toArray s = true := fun w h => hts0 w (List.mem_cons_of_mem _ h)
  have hown : s.vm.findClass RL = some m.cls := findClass_of_methodNamed B.named
  have hlocks := B.notSynchronized
  subst hsz
  have hD := hD0.self (sz := s.heap.size)
  generalize hAe : va_A (ww_L_has cB cC cI cJ cZ cP h0 f_tape f_words f_grammar f_meanings f_story f_draft f_told f_play f_machine f_teller f_saved f_isSaved f_past ob att oa og) s.heap.size = A at hD hE hX ⊢
  have hA : ∀ q : Nat, s.heap.size ≤ q → A q := fun q h => by rw [← hAe]; exact Or.inr h
  have hN := hE.1
  have hS : va_S A s.heap s.heap [] := va_S.rf
  have htb := vx_table (x := yL_has) B (hts0 (.codeWith yL_has cL_has 5 (some .int) [(0, 17, 20, 29), (0, 17, 24, 13), (0, 17, 28, 15)]) List.mem_cons_self)
  have hP : va_P (dC, dI) vwCl [(h0, .inr (11, [.ref f_tape, .int 0, .ref f_words, .ref f_grammar, .ref f_meanings, .ref f_story, .ref f_draft, .int 0, .int 0, .int (-1), .ref f_told, .ref f_play, .ref f_machine, .ref f_teller, .ref f_saved, .ref f_isSaved, .ref f_past, .int 0, .int 0])), (oa, .inl (cJ, 1, .inr (.inl og)))] s.heap := hP
  have hl := lv_entry ([.ref h0, .int ob, .int att, .ref oa]) (n := 5) (Nat.le_of_ble_eq_true rfl)
  rw [lg_entry_eq]
  generalize (lg_sl ([.ref h0, .int ob, .int att, .ref oa]) ++ List.replicate (5 - (lg_sl ([.ref h0, .int ob, .int att, .ref oa])).length) Slot.unset).toArray = ls at hl ⊢
  have hl : lv_has ls 5 [(0, .ref h0), (1, .int ob), (2, .int att), (3, .ref oa)] := hl
  refine lv_aload_n hx hb dL_has_0 rfl (lv_at hl 3 rfl) ?_
  refine lv_iconst (v := 0) hx hb dL_has_1 (by decide +kernel) ?_
  refine lv_aload_n hx hb dL_has_2 rfl (lv_at hl 0 rfl) ?_
  refine lv_iload_n hx hb dL_has_3 rfl (lv_at hl 1 rfl) ?_
  refine lv_iload_n hx hb dL_has_4 rfl (lv_at hl 2 rfl) ?_
  have hPc := hP.sub (ws' := [(h0, .inr (11, [.ref f_tape, .int 0, .ref f_words, .ref f_grammar, .ref f_meanings, .ref f_story, .ref f_draft, .int 0, .int 0, .int (-1), .ref f_told, .ref f_play, .ref f_machine, .ref f_teller, .ref f_saved, .ref f_isSaved, .ref f_past, .int 0, .int 0]))]) [0] rfl
  have hDc := hD.sub (ws' := [(h0, .inr (11, [.ref f_tape, .int 0, .ref f_words, .ref f_grammar, .ref f_meanings, .ref f_story, .ref f_draft, .int 0, .int 0, .int (-1), .ref f_told, .ref f_play, .ref f_machine, .ref f_teller, .ref f_saved, .ref f_isSaved, .ref f_past, .int 0, .int 0]))]) [0] (by decide +kernel) rfl
  have hFc := va_free (wc := [(h0, .inr (11, [.ref f_tape, .int 0, .ref f_words, .ref f_grammar, .ref f_meanings, .ref f_story, .ref f_draft, .int 0, .int 0, .int (-1), .ref f_told, .ref f_play, .ref f_machine, .ref f_teller, .ref f_saved, .ref f_isSaved, .ref f_past, .int 0, .int 0]))]) hD hS hA [0] rfl
  refine g_oxi (wc := [(h0, .inr (11, [.ref f_tape, .int 0, .ref f_words, .ref f_grammar, .ref f_meanings, .ref f_story, .ref f_draft, .int 0, .int 0, .int (-1), .ref f_told, .ref f_play, .ref f_machine, .ref f_teller, .ref f_saved, .ref f_isSaved, .ref f_past, .int 0, .int 0]))]) (wr := [(oa, .inl (cJ, 1, .inr (.inl og)))]) hP hD hS hFc [0] [1] rfl rfl (by decide +kernel) (by decide +kernel) (vx_runV (As := [.int ob, .int att]) (rest := [.int 0, .ref oa]) ⟨hx, hb, hml, hown, hts⟩ (c_X11_has l dC dI cB cC cI cJ cZ cP hfl s.heap.size h0 f_tape f_words f_grammar f_meanings f_story f_draft f_told f_play f_machine f_teller f_saved f_isSaved f_past ob att ) (cwV 2 hts (g_gV wq_1320 wq_1321 wq_1322 wq_1 wq_1323) rfl rfl rfl (by decide +kernel) ⟨Nat.le_of_ble_eq_true rfl, Nat.le_of_ble_eq_true rfl⟩) (g_preV g_bl0 hK hPc hDc hS hE hFc g_to0 (q0 := 0) (ci := 11) rfl rfl) rfl rfl hl.1 rfl (lv_room (Nat.le_of_ble_eq_true rfl)) dL_has_5 ⟨Nat.le_of_ble_eq_true rfl, Nat.le_of_ble_eq_true rfl⟩) (fun E ce q9 H1 locs1 hXP hP' hD' hS' hce hcv hcl => ?_) (fun r_3 u_2 H_4 locs w_1 hP' hD' hS' => ?_)
  · clear hPc hDc hFc
    obtain rfl := hXP
    refine vx_catch (E := "java/lang/IndexOutOfBoundsException") (name := "java/lang/IndexOutOfBoundsException") hown [] ⟨0, 17, 20, 29⟩ [⟨0, 17, 24, 13⟩, ⟨0, 17, 28, 15⟩] (by rw [htb]; rfl) (fun z hz => nomatch hz) (by decide +kernel) (by decide) (hts (.classLink RL 29 "java/lang/IndexOutOfBoundsException") wq_1268) (va_Nw.use rfl (hN.2.2.2.1 _ (List.mem_of_getElem? (i := 2) rfl)).1) hce hcv hcl ?_
    replace hP := hP'; replace hD := hD'; replace hS := hS'; clear hP' hD' hS'
    replace hP : va_P (dC, dI) vwCl [(oa, .inl (cJ, 1, .inr (.inl og))), (h0, .inr (11, [.ref f_tape, .int 0, .ref f_words, .ref f_grammar, .ref f_meanings, .ref f_story, .ref f_draft, .int 0, .int 0, .int (-1), .ref f_told, .ref f_play, .ref f_machine, .ref f_teller, .ref f_saved, .ref f_isSaved, .ref f_past, .int 0, .int 0]))] H1 := hP
    replace hD : va_D A [(oa, .inl (cJ, 1, .inr (.inl og))), (h0, .inr (11, [.ref f_tape, .int 0, .ref f_words, .ref f_grammar, .ref f_meanings, .ref f_story, .ref f_draft, .int 0, .int 0, .int (-1), .ref f_told, .ref f_play, .ref f_machine, .ref f_teller, .ref f_saved, .ref f_isSaved, .ref f_past, .int 0, .int 0]))] := hD
    refine lv_astore (lv' := [(4, .ref q9), (0, .ref h0), (1, .int ob), (2, .int att), (3, .ref oa)]) hx hb dL_has_20 hl (by decide) rfl (fun ls hl => ?_)
    refine lv_iconst (v := 1) hx hb dL_has_22 (by decide +kernel) ?_
    have hP9 := hP.sub (ws' := [(h0, .inr (11, [.ref f_tape, .int 0, .ref f_words, .ref f_grammar, .ref f_meanings, .ref f_story, .ref f_draft, .int 0, .int 0, .int (-1), .ref f_told, .ref f_play, .ref f_machine, .ref f_teller, .ref f_saved, .ref f_isSaved, .ref f_past, .int 0, .int 0])), (oa, .inl (cJ, 1, .inr (.inl og)))]) [1, 0] rfl
    have hD9 := hD.sub (ws' := [(h0, .inr (11, [.ref f_tape, .int 0, .ref f_words, .ref f_grammar, .ref f_meanings, .ref f_story, .ref f_draft, .int 0, .int 0, .int (-1), .ref f_told, .ref f_play, .ref f_machine, .ref f_teller, .ref f_saved, .ref f_isSaved, .ref f_past, .int 0, .int 0])), (oa, .inl (cJ, 1, .inr (.inl og)))]) [1, 0] (by decide +kernel) rfl
    refine W.widen (k := 1) (n := 6) (Nat.le_of_ble_eq_true rfl) (Nat.le_of_ble_eq_true rfl) ?_
    exact W.iret (v := 1) hx hb hr (fun t ht hW => ⟨⟨1, og, rfl, (by first | trivial | rfl | assumption), by rw [ht]; exact hP9, hD9⟩, hS.F ht⟩) hS.2.2 dL_has_23
  clear hPc hDc hFc
  have w_1 : False := w_1
  replace hP : va_P (dC, dI) vwCl [(oa, .inl (cJ, 1, .inr (.inl og))), (h0, .inr (11, [.ref f_tape, .int 0, .ref f_words, .ref f_grammar, .ref f_meanings, .ref f_story, .ref f_draft, .int 0, .int 0, .int (-1), .ref f_told, .ref f_play, .ref f_machine, .ref f_teller, .ref f_saved, .ref f_isSaved, .ref f_past, .int 0, .int 0]))] H_4 := hP'
  replace hD : va_D A [(oa, .inl (cJ, 1, .inr (.inl og))), (h0, .inr (11, [.ref f_tape, .int 0, .ref f_words, .ref f_grammar, .ref f_meanings, .ref f_story, .ref f_draft, .int 0, .int 0, .int (-1), .ref f_told, .ref f_play, .ref f_machine, .ref f_teller, .ref f_saved, .ref f_isSaved, .ref f_past, .int 0, .int 0]))] := hD'
  replace hS := hS'
  clear hP' hD' hS'
  refine W.widen (k := 1) (n := 6) (Nat.le_of_ble_eq_true rfl) (Nat.le_of_ble_eq_true rfl) ?_
  exact w_1.elim

abbrev ww_L_value (cB cC cI cJ cZ cP : ClassId) (h0 : Nat) (f_tape : Nat) (f_words : Nat) (f_grammar : Nat) (f_meanings : Nat) (f_story : Nat) (f_draft : Nat) (f_told : Nat) (f_play : Nat) (f_machine : Nat) (f_teller : Nat) (f_saved : Nat) (f_isSaved : Nat) (f_past : Nat) (ka : Int32) (oa : Nat) (og : Nat → Int64) : va_W := [(h0, .inr (11, [.ref f_tape, .int 0, .ref f_words, .ref f_grammar, .ref f_meanings, .ref f_story, .ref f_draft, .int 0, .int 0, .int (-1), .ref f_told, .ref f_play, .ref f_machine, .ref f_teller, .ref f_saved, .ref f_isSaved, .ref f_past, .int 0, .int 0])), (oa, .inl (cJ, 1, .inr (.inl og)))]
abbrev q_L_value (dC : Nat → ClassId) (dI : Nat → Nat → Nat) (cB cC cI cJ cZ cP : ClassId) (h0 : Nat) (f_tape : Nat) (f_words : Nat) (f_grammar : Nat) (f_meanings : Nat) (f_story : Nat) (f_draft : Nat) (f_told : Nat) (f_play : Nat) (f_machine : Nat) (f_teller : Nat) (f_saved : Nat) (f_isSaved : Nat) (f_past : Nat) (ka : Int32) (oa : Nat) (og : Nat → Int64) (A : Nat → Prop) : Array Value → State → Outcome → State → Prop := va_Qi (fun (r : Int32) (og2 : Nat → Int64) => r = 1) (g_Bo (dC, dI) A (fun (og2 : Nat → Int64) => [(h0, .inr (11, [.ref f_tape, .int 0, .ref f_words, .ref f_grammar, .ref f_meanings, .ref f_story, .ref f_draft, .int 0, .int 0, .int (-1), .ref f_told, .ref f_play, .ref f_machine, .ref f_teller, .ref f_saved, .ref f_isSaved, .ref f_past, .int 0, .int 0])), (oa, .inl (cJ, 1, .inr (.inl og2)))])) A
set_option maxHeartbeats 4000000 in
set_option maxRecDepth 100000 in
theorem c_L_value (l : Launch) (dC : Nat → ClassId) (dI : Nat → Nat → Nat) (cB cC cI cJ cZ cP : ClassId) (hfl : l.stackTraces = false) (sz : Nat) (h0 : Nat) (f_tape : Nat) (f_words : Nat) (f_grammar : Nat) (f_meanings : Nat) (f_story : Nat) (f_draft : Nat) (f_told : Nat) (f_play : Nat) (f_machine : Nat) (f_teller : Nat) (f_saved : Nat) (f_isSaved : Nat) (f_past : Nat) (ka : Int32) (oa : Nat) (og : Nat → Int64)  : Met l yL_value (g_wsW yL_value cL_value 4 (some .int) [(0, 9, 12, 29), (0, 9, 15, 15)]) ({ frames := 7, cells := 1, slots := 6, locals := 111 }) (va_Pc [.ref h0, .int ka, .ref oa] (g_B (dC, dI) [(cB, .byte), (cC, .char), (cI, .int), (cJ, .long), (cZ, .boolean), (cP, .object "StoryHouse$Play")] sz (ww_L_value cB cC cI cJ cZ cP h0 f_tape f_words f_grammar f_meanings f_story f_draft f_told f_play f_machine f_teller f_saved f_isSaved f_past ka oa og) g_0)) (q_L_value dC dI cB cC cI cJ cZ cP h0 f_tape f_words f_grammar f_meanings f_story f_draft f_told f_play f_machine f_teller f_saved f_isSaved f_past ka oa og (va_A (ww_L_value cB cC cI cJ cZ cP h0 f_tape f_words f_grammar f_meanings f_story f_draft f_told f_play f_machine f_teller f_saved f_isSaved f_past ka oa og) sz)) 1 6 (va_A (ww_L_value cB cC cI cJ cZ cP h0 f_tape f_words f_grammar f_meanings f_story f_draft f_told f_play f_machine f_teller f_saved f_isSaved f_past ka oa og) sz) := by
  refine va_MetW (cc := cL_value) (maxL := 4) (ret := (some .int)) (hh := [(0, 9, 12, 29), (0, 9, 15, 15)]) (by decide) rfl ?_
  intro p e s m args below meth c s₁ B hml hv
  obtain ⟨rfl, hsz, hP, hK, hD0, hE, hX⟩ := hv
  have hx := B.exec
  have hb := B.bytes
  have hr := B.returns
  have hts0 := atoms_spec (ws := (g_wsW yL_value cL_value 4 (some .int) [(0, 9, 12, 29), (0, 9, 15, 15)])) B.pre
  have hts : ∀ w ∈ lw_good, w.before ([.ref h0, .int ka, .ref oa] : List Value).toArray s = true := fun w h => hts0 w (List.mem_cons_of_mem _ h)
  have hown : s.vm.findClass RL = some m.cls := findClass_of_methodNamed B.named
  have hlocks := B.notSynchronized
  subst hsz
  have hD := hD0.self (sz := s.heap.size)
  generalize hAe : va_A (ww_L_value cB cC cI cJ cZ cP h0 f_tape f_words f_grammar f_meanings f_story f_draft f_told f_play f_machine f_teller f_saved f_isSaved f_past ka oa og) s.heap.size = A at hD hE hX ⊢
  have hA : ∀ q : Nat, s.heap.size ≤ q → A q := fun q h => by rw [← hAe]; exact Or.inr h
  have hN := hE.1
  have hS : va_S A s.heap s.heap [] := va_S.rf
  have htb := vx_table (x := yL_value) B (hts0 (.codeWith yL_value cL_value 4 (some .int) [(0, 9, 12, 29), (0, 9, 15, 15)]) List.mem_cons_self)
  have hP : va_P (dC, dI) vwCl [(h0, .inr (11, [.ref f_tape, .int 0, .ref f_words, .ref f_grammar, .ref f_meanings, .ref f_story, .ref f_draft, .int 0, .int 0, .int (-1), .ref f_told, .ref f_play, .ref f_machine, .ref f_teller, .ref f_saved, .ref f_isSaved, .ref f_past, .int 0, .int 0])), (oa, .inl (cJ, 1, .inr (.inl og)))] s.heap := hP
  have hl := lv_entry ([.ref h0, .int ka, .ref oa]) (n := 4) (Nat.le_of_ble_eq_true rfl)
  rw [lg_entry_eq]
  generalize (lg_sl ([.ref h0, .int ka, .ref oa]) ++ List.replicate (4 - (lg_sl ([.ref h0, .int ka, .ref oa])).length) Slot.unset).toArray = ls at hl ⊢
  have hl : lv_has ls 4 [(0, .ref h0), (1, .int ka), (2, .ref oa)] := hl
  refine lv_aload_n hx hb dL_value_0 rfl (lv_at hl 2 rfl) ?_
  refine lv_iconst (v := 0) hx hb dL_value_1 (by decide +kernel) ?_
  refine lv_aload_n hx hb dL_value_2 rfl (lv_at hl 0 rfl) ?_
  refine lv_iload_n hx hb dL_value_3 rfl (lv_at hl 1 rfl) ?_
  have hPc := hP.sub (ws' := [(h0, .inr (11, [.ref f_tape, .int 0, .ref f_words, .ref f_grammar, .ref f_meanings, .ref f_story, .ref f_draft, .int 0, .int 0, .int (-1), .ref f_told, .ref f_play, .ref f_machine, .ref f_teller, .ref f_saved, .ref f_isSaved, .ref f_past, .int 0, .int 0]))]) [0] rfl
  have hDc := hD.sub (ws' := [(h0, .inr (11, [.ref f_tape, .int 0, .ref f_words, .ref f_grammar, .ref f_meanings, .ref f_story, .ref f_draft, .int 0, .int 0, .int (-1), .ref f_told, .ref f_play, .ref f_machine, .ref f_teller, .ref f_saved, .ref f_isSaved, .ref f_past, .int 0, .int 0]))]) [0] (by decide +kernel) rfl
  have hFc := va_free (wc := [(h0, .inr (11, [.ref f_tape, .int 0, .ref f_words, .ref f_grammar, .ref f_meanings, .ref f_story, .ref f_draft, .int 0, .int 0, .int (-1), .ref f_told, .ref f_play, .ref f_machine, .ref f_teller, .ref f_saved, .ref f_isSaved, .ref f_past, .int 0, .int 0]))]) hD hS hA [0] rfl
  refine g_oxi (wc := [(h0, .inr (11, [.ref f_tape, .int 0, .ref f_words, .ref f_grammar, .ref f_meanings, .ref f_story, .ref f_draft, .int 0, .int 0, .int (-1), .ref f_told, .ref f_play, .ref f_machine, .ref f_teller, .ref f_saved, .ref f_isSaved, .ref f_past, .int 0, .int 0]))]) (wr := [(oa, .inl (cJ, 1, .inr (.inl og)))]) hP hD hS hFc [0] [1] rfl rfl (by decide +kernel) (by decide +kernel) (vx_runV (As := [.int ka]) (rest := [.int 0, .ref oa]) ⟨hx, hb, hml, hown, hts⟩ (c_X11_value l dC dI cB cC cI cJ cZ cP hfl s.heap.size h0 f_tape f_words f_grammar f_meanings f_story f_draft f_told f_play f_machine f_teller f_saved f_isSaved f_past ka ) (cwV 1 hts (g_gV wq_1328 wq_1329 wq_1330 wq_1 wq_1331) rfl rfl rfl (by decide +kernel) ⟨Nat.le_of_ble_eq_true rfl, Nat.le_of_ble_eq_true rfl⟩) (g_preV g_bl0 hK hPc hDc hS hE hFc g_to0 (q0 := 0) (ci := 11) rfl rfl) rfl rfl hl.1 rfl (lv_room (Nat.le_of_ble_eq_true rfl)) dL_value_4 ⟨Nat.le_of_ble_eq_true rfl, Nat.le_of_ble_eq_true rfl⟩) (fun E ce q9 H1 locs1 hXP hP' hD' hS' hce hcv hcl => ?_) (fun r_3 u_2 H_4 locs w_1 hP' hD' hS' => ?_)
  · clear hPc hDc hFc
    obtain rfl := hXP
    refine vx_catch (E := "java/lang/IndexOutOfBoundsException") (name := "java/lang/IndexOutOfBoundsException") hown [] ⟨0, 9, 12, 29⟩ [⟨0, 9, 15, 15⟩] (by rw [htb]; rfl) (fun z hz => nomatch hz) (by decide +kernel) (by decide) (hts (.classLink RL 29 "java/lang/IndexOutOfBoundsException") wq_1268) (va_Nw.use rfl (hN.2.2.2.1 _ (List.mem_of_getElem? (i := 2) rfl)).1) hce hcv hcl ?_
    replace hP := hP'; replace hD := hD'; replace hS := hS'; clear hP' hD' hS'
    replace hP : va_P (dC, dI) vwCl [(oa, .inl (cJ, 1, .inr (.inl og))), (h0, .inr (11, [.ref f_tape, .int 0, .ref f_words, .ref f_grammar, .ref f_meanings, .ref f_story, .ref f_draft, .int 0, .int 0, .int (-1), .ref f_told, .ref f_play, .ref f_machine, .ref f_teller, .ref f_saved, .ref f_isSaved, .ref f_past, .int 0, .int 0]))] H1 := hP
    replace hD : va_D A [(oa, .inl (cJ, 1, .inr (.inl og))), (h0, .inr (11, [.ref f_tape, .int 0, .ref f_words, .ref f_grammar, .ref f_meanings, .ref f_story, .ref f_draft, .int 0, .int 0, .int (-1), .ref f_told, .ref f_play, .ref f_machine, .ref f_teller, .ref f_saved, .ref f_isSaved, .ref f_past, .int 0, .int 0]))] := hD
    refine lv_astore_n (lv' := [(3, .ref q9), (0, .ref h0), (1, .int ka), (2, .ref oa)]) hx hb dL_value_12 rfl hl (by decide) rfl (fun ls hl => ?_)
    refine lv_iconst (v := 1) hx hb dL_value_13 (by decide +kernel) ?_
    have hP9 := hP.sub (ws' := [(h0, .inr (11, [.ref f_tape, .int 0, .ref f_words, .ref f_grammar, .ref f_meanings, .ref f_story, .ref f_draft, .int 0, .int 0, .int (-1), .ref f_told, .ref f_play, .ref f_machine, .ref f_teller, .ref f_saved, .ref f_isSaved, .ref f_past, .int 0, .int 0])), (oa, .inl (cJ, 1, .inr (.inl og)))]) [1, 0] rfl
    have hD9 := hD.sub (ws' := [(h0, .inr (11, [.ref f_tape, .int 0, .ref f_words, .ref f_grammar, .ref f_meanings, .ref f_story, .ref f_draft, .int 0, .int 0, .int (-1), .ref f_told, .ref f_play, .ref f_machine, .ref f_teller, .ref f_saved, .ref f_isSaved, .ref f_past, .int 0, .int 0])), (oa, .inl (cJ, 1, .inr (.inl og)))]) [1, 0] (by decide +kernel) rfl
    refine W.widen (k := 1) (n := 6) (Nat.le_of_ble_eq_true rfl) (Nat.le_of_ble_eq_true rfl) ?_
    exact W.iret (v := 1) hx hb hr (fun t ht hW => ⟨⟨1, og, rfl, (by first | trivial | rfl | assumption), by rw [ht]; exact hP9, hD9⟩, hS.F ht⟩) hS.2.2 dL_value_14
  clear hPc hDc hFc
  have w_1 : False := w_1
  replace hP : va_P (dC, dI) vwCl [(oa, .inl (cJ, 1, .inr (.inl og))), (h0, .inr (11, [.ref f_tape, .int 0, .ref f_words, .ref f_grammar, .ref f_meanings, .ref f_story, .ref f_draft, .int 0, .int 0, .int (-1), .ref f_told, .ref f_play, .ref f_machine, .ref f_teller, .ref f_saved, .ref f_isSaved, .ref f_past, .int 0, .int 0]))] H_4 := hP'
  replace hD : va_D A [(oa, .inl (cJ, 1, .inr (.inl og))), (h0, .inr (11, [.ref f_tape, .int 0, .ref f_words, .ref f_grammar, .ref f_meanings, .ref f_story, .ref f_draft, .int 0, .int 0, .int (-1), .ref f_told, .ref f_play, .ref f_machine, .ref f_teller, .ref f_saved, .ref f_isSaved, .ref f_past, .int 0, .int 0]))] := hD'
  replace hS := hS'
  clear hP' hD' hS'
  refine W.widen (k := 1) (n := 6) (Nat.le_of_ble_eq_true rfl) (Nat.le_of_ble_eq_true rfl) ?_
  exact w_1.elim

abbrev ww_L_cell (cB cC cI cJ cZ cP : ClassId) (h0 : Nat) (f_tape : Nat) (f_words : Nat) (f_grammar : Nat) (f_meanings : Nat) (f_story : Nat) (f_draft : Nat) (f_told : Nat) (f_play : Nat) (f_machine : Nat) (f_teller : Nat) (f_saved : Nat) (f_isSaved : Nat) (f_past : Nat) (ka : Int32) (ia : Int32) (oa : Nat) (og : Nat → Int64) : va_W := [(h0, .inr (11, [.ref f_tape, .int 0, .ref f_words, .ref f_grammar, .ref f_meanings, .ref f_story, .ref f_draft, .int 0, .int 0, .int (-1), .ref f_told, .ref f_play, .ref f_machine, .ref f_teller, .ref f_saved, .ref f_isSaved, .ref f_past, .int 0, .int 0])), (oa, .inl (cJ, 1, .inr (.inl og)))]
abbrev q_L_cell (dC : Nat → ClassId) (dI : Nat → Nat → Nat) (cB cC cI cJ cZ cP : ClassId) (h0 : Nat) (f_tape : Nat) (f_words : Nat) (f_grammar : Nat) (f_meanings : Nat) (f_story : Nat) (f_draft : Nat) (f_told : Nat) (f_play : Nat) (f_machine : Nat) (f_teller : Nat) (f_saved : Nat) (f_isSaved : Nat) (f_past : Nat) (ka : Int32) (ia : Int32) (oa : Nat) (og : Nat → Int64) (A : Nat → Prop) : Array Value → State → Outcome → State → Prop := va_Qi (fun (r : Int32) (og2 : Nat → Int64) => r = 1) (g_Bo (dC, dI) A (fun (og2 : Nat → Int64) => [(h0, .inr (11, [.ref f_tape, .int 0, .ref f_words, .ref f_grammar, .ref f_meanings, .ref f_story, .ref f_draft, .int 0, .int 0, .int (-1), .ref f_told, .ref f_play, .ref f_machine, .ref f_teller, .ref f_saved, .ref f_isSaved, .ref f_past, .int 0, .int 0])), (oa, .inl (cJ, 1, .inr (.inl og2)))])) A
set_option maxHeartbeats 4000000 in
set_option maxRecDepth 100000 in
theorem c_L_cell (l : Launch) (dC : Nat → ClassId) (dI : Nat → Nat → Nat) (cB cC cI cJ cZ cP : ClassId) (hfl : l.stackTraces = false) (sz : Nat) (h0 : Nat) (f_tape : Nat) (f_words : Nat) (f_grammar : Nat) (f_meanings : Nat) (f_story : Nat) (f_draft : Nat) (f_told : Nat) (f_play : Nat) (f_machine : Nat) (f_teller : Nat) (f_saved : Nat) (f_isSaved : Nat) (f_past : Nat) (ka : Int32) (ia : Int32) (oa : Nat) (og : Nat → Int64)  : Met l yL_cell (g_wsW yL_cell cL_cell 5 (some .int) [(0, 10, 13, 29), (0, 10, 17, 15)]) ({ frames := 7, cells := 1, slots := 6, locals := 112 }) (va_Pc [.ref h0, .int ka, .int ia, .ref oa] (g_B (dC, dI) [(cB, .byte), (cC, .char), (cI, .int), (cJ, .long), (cZ, .boolean), (cP, .object "StoryHouse$Play")] sz (ww_L_cell cB cC cI cJ cZ cP h0 f_tape f_words f_grammar f_meanings f_story f_draft f_told f_play f_machine f_teller f_saved f_isSaved f_past ka ia oa og) g_0)) (q_L_cell dC dI cB cC cI cJ cZ cP h0 f_tape f_words f_grammar f_meanings f_story f_draft f_told f_play f_machine f_teller f_saved f_isSaved f_past ka ia oa og (va_A (ww_L_cell cB cC cI cJ cZ cP h0 f_tape f_words f_grammar f_meanings f_story f_draft f_told f_play f_machine f_teller f_saved f_isSaved f_past ka ia oa og) sz)) 1 6 (va_A (ww_L_cell cB cC cI cJ cZ cP h0 f_tape f_words f_grammar f_meanings f_story f_draft f_told f_play f_machine f_teller f_saved f_isSaved f_past ka ia oa og) sz) := by
  refine va_MetW (cc := cL_cell) (maxL := 5) (ret := (some .int)) (hh := [(0, 10, 13, 29), (0, 10, 17, 15)]) (by decide) rfl ?_
  intro p e s m args below meth c s₁ B hml hv
  obtain ⟨rfl, hsz, hP, hK, hD0, hE, hX⟩ := hv
  have hx := B.exec
  have hb := B.bytes
  have hr := B.returns
  have hts0 := atoms_spec (ws := (g_wsW yL_cell cL_cell 5 (some .int) [(0, 10, 13, 29), (0, 10, 17, 15)])) B.pre
  have hts : ∀ w ∈ lw_good, w.before ([.ref h0, .int ka, .int ia, .ref oa] : List Value).toArray s = true := fun w h => hts0 w (List.mem_cons_of_mem _ h)
  have hown : s.vm.findClass RL = some m.cls := findClass_of_methodNamed B.named
  have hlocks := B.notSynchronized
  subst hsz
  have hD := hD0.self (sz := s.heap.size)
  generalize hAe : va_A (ww_L_cell cB cC cI cJ cZ cP h0 f_tape f_words f_grammar f_meanings f_story f_draft f_told f_play f_machine f_teller f_saved f_isSaved f_past ka ia oa og) s.heap.size = A at hD hE hX ⊢
  have hA : ∀ q : Nat, s.heap.size ≤ q → A q := fun q h => by rw [← hAe]; exact Or.inr h
  have hN := hE.1
  have hS : va_S A s.heap s.heap [] := va_S.rf
  have htb := vx_table (x := yL_cell) B (hts0 (.codeWith yL_cell cL_cell 5 (some .int) [(0, 10, 13, 29), (0, 10, 17, 15)]) List.mem_cons_self)
  have hP : va_P (dC, dI) vwCl [(h0, .inr (11, [.ref f_tape, .int 0, .ref f_words, .ref f_grammar, .ref f_meanings, .ref f_story, .ref f_draft, .int 0, .int 0, .int (-1), .ref f_told, .ref f_play, .ref f_machine, .ref f_teller, .ref f_saved, .ref f_isSaved, .ref f_past, .int 0, .int 0])), (oa, .inl (cJ, 1, .inr (.inl og)))] s.heap := hP
  have hl := lv_entry ([.ref h0, .int ka, .int ia, .ref oa]) (n := 5) (Nat.le_of_ble_eq_true rfl)
  rw [lg_entry_eq]
  generalize (lg_sl ([.ref h0, .int ka, .int ia, .ref oa]) ++ List.replicate (5 - (lg_sl ([.ref h0, .int ka, .int ia, .ref oa])).length) Slot.unset).toArray = ls at hl ⊢
  have hl : lv_has ls 5 [(0, .ref h0), (1, .int ka), (2, .int ia), (3, .ref oa)] := hl
  refine lv_aload_n hx hb dL_cell_0 rfl (lv_at hl 3 rfl) ?_
  refine lv_iconst (v := 0) hx hb dL_cell_1 (by decide +kernel) ?_
  refine lv_aload_n hx hb dL_cell_2 rfl (lv_at hl 0 rfl) ?_
  refine lv_iload_n hx hb dL_cell_3 rfl (lv_at hl 1 rfl) ?_
  refine lv_iload_n hx hb dL_cell_4 rfl (lv_at hl 2 rfl) ?_
  have hPc := hP.sub (ws' := [(h0, .inr (11, [.ref f_tape, .int 0, .ref f_words, .ref f_grammar, .ref f_meanings, .ref f_story, .ref f_draft, .int 0, .int 0, .int (-1), .ref f_told, .ref f_play, .ref f_machine, .ref f_teller, .ref f_saved, .ref f_isSaved, .ref f_past, .int 0, .int 0]))]) [0] rfl
  have hDc := hD.sub (ws' := [(h0, .inr (11, [.ref f_tape, .int 0, .ref f_words, .ref f_grammar, .ref f_meanings, .ref f_story, .ref f_draft, .int 0, .int 0, .int (-1), .ref f_told, .ref f_play, .ref f_machine, .ref f_teller, .ref f_saved, .ref f_isSaved, .ref f_past, .int 0, .int 0]))]) [0] (by decide +kernel) rfl
  have hFc := va_free (wc := [(h0, .inr (11, [.ref f_tape, .int 0, .ref f_words, .ref f_grammar, .ref f_meanings, .ref f_story, .ref f_draft, .int 0, .int 0, .int (-1), .ref f_told, .ref f_play, .ref f_machine, .ref f_teller, .ref f_saved, .ref f_isSaved, .ref f_past, .int 0, .int 0]))]) hD hS hA [0] rfl
  refine g_oxi (wc := [(h0, .inr (11, [.ref f_tape, .int 0, .ref f_words, .ref f_grammar, .ref f_meanings, .ref f_story, .ref f_draft, .int 0, .int 0, .int (-1), .ref f_told, .ref f_play, .ref f_machine, .ref f_teller, .ref f_saved, .ref f_isSaved, .ref f_past, .int 0, .int 0]))]) (wr := [(oa, .inl (cJ, 1, .inr (.inl og)))]) hP hD hS hFc [0] [1] rfl rfl (by decide +kernel) (by decide +kernel) (vx_runV (As := [.int ka, .int ia]) (rest := [.int 0, .ref oa]) ⟨hx, hb, hml, hown, hts⟩ (c_X11_cell l dC dI cB cC cI cJ cZ cP hfl s.heap.size h0 f_tape f_words f_grammar f_meanings f_story f_draft f_told f_play f_machine f_teller f_saved f_isSaved f_past ka ia ) (cwV 2 hts (g_gV wq_1335 wq_1336 wq_1337 wq_1 wq_1338) rfl rfl rfl (by decide +kernel) ⟨Nat.le_of_ble_eq_true rfl, Nat.le_of_ble_eq_true rfl⟩) (g_preV g_bl0 hK hPc hDc hS hE hFc g_to0 (q0 := 0) (ci := 11) rfl rfl) rfl rfl hl.1 rfl (lv_room (Nat.le_of_ble_eq_true rfl)) dL_cell_5 ⟨Nat.le_of_ble_eq_true rfl, Nat.le_of_ble_eq_true rfl⟩) (fun E ce q9 H1 locs1 hXP hP' hD' hS' hce hcv hcl => ?_) (fun r_3 u_2 H_4 locs w_1 hP' hD' hS' => ?_)
  · clear hPc hDc hFc
    obtain rfl := hXP
    refine vx_catch (E := "java/lang/IndexOutOfBoundsException") (name := "java/lang/IndexOutOfBoundsException") hown [] ⟨0, 10, 13, 29⟩ [⟨0, 10, 17, 15⟩] (by rw [htb]; rfl) (fun z hz => nomatch hz) (by decide +kernel) (by decide) (hts (.classLink RL 29 "java/lang/IndexOutOfBoundsException") wq_1268) (va_Nw.use rfl (hN.2.2.2.1 _ (List.mem_of_getElem? (i := 2) rfl)).1) hce hcv hcl ?_
    replace hP := hP'; replace hD := hD'; replace hS := hS'; clear hP' hD' hS'
    replace hP : va_P (dC, dI) vwCl [(oa, .inl (cJ, 1, .inr (.inl og))), (h0, .inr (11, [.ref f_tape, .int 0, .ref f_words, .ref f_grammar, .ref f_meanings, .ref f_story, .ref f_draft, .int 0, .int 0, .int (-1), .ref f_told, .ref f_play, .ref f_machine, .ref f_teller, .ref f_saved, .ref f_isSaved, .ref f_past, .int 0, .int 0]))] H1 := hP
    replace hD : va_D A [(oa, .inl (cJ, 1, .inr (.inl og))), (h0, .inr (11, [.ref f_tape, .int 0, .ref f_words, .ref f_grammar, .ref f_meanings, .ref f_story, .ref f_draft, .int 0, .int 0, .int (-1), .ref f_told, .ref f_play, .ref f_machine, .ref f_teller, .ref f_saved, .ref f_isSaved, .ref f_past, .int 0, .int 0]))] := hD
    refine lv_astore (lv' := [(4, .ref q9), (0, .ref h0), (1, .int ka), (2, .int ia), (3, .ref oa)]) hx hb dL_cell_13 hl (by decide) rfl (fun ls hl => ?_)
    refine lv_iconst (v := 1) hx hb dL_cell_15 (by decide +kernel) ?_
    have hP9 := hP.sub (ws' := [(h0, .inr (11, [.ref f_tape, .int 0, .ref f_words, .ref f_grammar, .ref f_meanings, .ref f_story, .ref f_draft, .int 0, .int 0, .int (-1), .ref f_told, .ref f_play, .ref f_machine, .ref f_teller, .ref f_saved, .ref f_isSaved, .ref f_past, .int 0, .int 0])), (oa, .inl (cJ, 1, .inr (.inl og)))]) [1, 0] rfl
    have hD9 := hD.sub (ws' := [(h0, .inr (11, [.ref f_tape, .int 0, .ref f_words, .ref f_grammar, .ref f_meanings, .ref f_story, .ref f_draft, .int 0, .int 0, .int (-1), .ref f_told, .ref f_play, .ref f_machine, .ref f_teller, .ref f_saved, .ref f_isSaved, .ref f_past, .int 0, .int 0])), (oa, .inl (cJ, 1, .inr (.inl og)))]) [1, 0] (by decide +kernel) rfl
    refine W.widen (k := 1) (n := 6) (Nat.le_of_ble_eq_true rfl) (Nat.le_of_ble_eq_true rfl) ?_
    exact W.iret (v := 1) hx hb hr (fun t ht hW => ⟨⟨1, og, rfl, (by first | trivial | rfl | assumption), by rw [ht]; exact hP9, hD9⟩, hS.F ht⟩) hS.2.2 dL_cell_16
  clear hPc hDc hFc
  have w_1 : False := w_1
  replace hP : va_P (dC, dI) vwCl [(oa, .inl (cJ, 1, .inr (.inl og))), (h0, .inr (11, [.ref f_tape, .int 0, .ref f_words, .ref f_grammar, .ref f_meanings, .ref f_story, .ref f_draft, .int 0, .int 0, .int (-1), .ref f_told, .ref f_play, .ref f_machine, .ref f_teller, .ref f_saved, .ref f_isSaved, .ref f_past, .int 0, .int 0]))] H_4 := hP'
  replace hD : va_D A [(oa, .inl (cJ, 1, .inr (.inl og))), (h0, .inr (11, [.ref f_tape, .int 0, .ref f_words, .ref f_grammar, .ref f_meanings, .ref f_story, .ref f_draft, .int 0, .int 0, .int (-1), .ref f_told, .ref f_play, .ref f_machine, .ref f_teller, .ref f_saved, .ref f_isSaved, .ref f_past, .int 0, .int 0]))] := hD'
  replace hS := hS'
  clear hP' hD' hS'
  refine W.widen (k := 1) (n := 6) (Nat.le_of_ble_eq_true rfl) (Nat.le_of_ble_eq_true rfl) ?_
  exact w_1.elim

abbrev ww_L_out (cB cC cI cJ cZ cP : ClassId) (h0 : Nat) (f_tape : Nat) (f_words : Nat) (f_grammar : Nat) (f_meanings : Nat) (f_story : Nat) (f_draft : Nat) (f_told : Nat) (f_play : Nat) (f_machine : Nat) (f_teller : Nat) (f_saved : Nat) (f_isSaved : Nat) (f_past : Nat) (f_bytes : Nat) (ia : Int32) (oa : Nat) (og : Nat → Int64) : va_W := [(h0, .inr (11, [.ref f_tape, .int 0, .ref f_words, .ref f_grammar, .ref f_meanings, .ref f_story, .ref f_draft, .int 0, .int 0, .int (-1), .ref f_told, .ref f_play, .ref f_machine, .ref f_teller, .ref f_saved, .ref f_isSaved, .ref f_past, .int 0, .int 0])), (f_told, .inr (5, [.ref f_bytes, .int 0])), (oa, .inl (cJ, 1, .inr (.inl og)))]
abbrev q_L_out (dC : Nat → ClassId) (dI : Nat → Nat → Nat) (cB cC cI cJ cZ cP : ClassId) (h0 : Nat) (f_tape : Nat) (f_words : Nat) (f_grammar : Nat) (f_meanings : Nat) (f_story : Nat) (f_draft : Nat) (f_told : Nat) (f_play : Nat) (f_machine : Nat) (f_teller : Nat) (f_saved : Nat) (f_isSaved : Nat) (f_past : Nat) (f_bytes : Nat) (ia : Int32) (oa : Nat) (og : Nat → Int64) (A : Nat → Prop) : Array Value → State → Outcome → State → Prop := va_Qi (fun (r : Int32) (og2 : Nat → Int64) => r = 1) (g_Bo (dC, dI) A (fun (og2 : Nat → Int64) => [(h0, .inr (11, [.ref f_tape, .int 0, .ref f_words, .ref f_grammar, .ref f_meanings, .ref f_story, .ref f_draft, .int 0, .int 0, .int (-1), .ref f_told, .ref f_play, .ref f_machine, .ref f_teller, .ref f_saved, .ref f_isSaved, .ref f_past, .int 0, .int 0])), (f_told, .inr (5, [.ref f_bytes, .int 0])), (oa, .inl (cJ, 1, .inr (.inl og2)))])) A
set_option maxHeartbeats 4000000 in
set_option maxRecDepth 100000 in
theorem c_L_out (l : Launch) (dC : Nat → ClassId) (dI : Nat → Nat → Nat) (cB cC cI cJ cZ cP : ClassId) (hfl : l.stackTraces = false) (sz : Nat) (h0 : Nat) (f_tape : Nat) (f_words : Nat) (f_grammar : Nat) (f_meanings : Nat) (f_story : Nat) (f_draft : Nat) (f_told : Nat) (f_play : Nat) (f_machine : Nat) (f_teller : Nat) (f_saved : Nat) (f_isSaved : Nat) (f_past : Nat) (f_bytes : Nat) (ia : Int32) (oa : Nat) (og : Nat → Int64)  : Met l yL_out (g_wsW yL_out cL_out 4 (some .int) [(0, 9, 12, 29)]) ({ frames := 7, cells := 1, slots := 6, locals := 111 }) (va_Pc [.ref h0, .int ia, .ref oa] (g_B (dC, dI) [(cB, .byte), (cC, .char), (cI, .int), (cJ, .long), (cZ, .boolean), (cP, .object "StoryHouse$Play")] sz (ww_L_out cB cC cI cJ cZ cP h0 f_tape f_words f_grammar f_meanings f_story f_draft f_told f_play f_machine f_teller f_saved f_isSaved f_past f_bytes ia oa og) g_0)) (q_L_out dC dI cB cC cI cJ cZ cP h0 f_tape f_words f_grammar f_meanings f_story f_draft f_told f_play f_machine f_teller f_saved f_isSaved f_past f_bytes ia oa og (va_A (ww_L_out cB cC cI cJ cZ cP h0 f_tape f_words f_grammar f_meanings f_story f_draft f_told f_play f_machine f_teller f_saved f_isSaved f_past f_bytes ia oa og) sz)) 1 6 (va_A (ww_L_out cB cC cI cJ cZ cP h0 f_tape f_words f_grammar f_meanings f_story f_draft f_told f_play f_machine f_teller f_saved f_isSaved f_past f_bytes ia oa og) sz) := by
  refine va_MetW (cc := cL_out) (maxL := 4) (ret := (some .int)) (hh := [(0, 9, 12, 29)]) (by decide) rfl ?_
  intro p e s m args below meth c s₁ B hml hv
  obtain ⟨rfl, hsz, hP, hK, hD0, hE, hX⟩ := hv
  have hx := B.exec
  have hb := B.bytes
  have hr := B.returns
  have hts0 := atoms_spec (ws := (g_wsW yL_out cL_out 4 (some .int) [(0, 9, 12, 29)])) B.pre
  have hts : ∀ w ∈ lw_good, w.before ([.ref h0, .int ia, .ref oa] : List Value).toArray s = true := fun w h => hts0 w (List.mem_cons_of_mem _ h)
  have hown : s.vm.findClass RL = some m.cls := findClass_of_methodNamed B.named
  have hlocks := B.notSynchronized
  subst hsz
  have hD := hD0.self (sz := s.heap.size)
  generalize hAe : va_A (ww_L_out cB cC cI cJ cZ cP h0 f_tape f_words f_grammar f_meanings f_story f_draft f_told f_play f_machine f_teller f_saved f_isSaved f_past f_bytes ia oa og) s.heap.size = A at hD hE hX ⊢
  have hA : ∀ q : Nat, s.heap.size ≤ q → A q := fun q h => by rw [← hAe]; exact Or.inr h
  have hN := hE.1
  have hS : va_S A s.heap s.heap [] := va_S.rf
  have htb := vx_table (x := yL_out) B (hts0 (.codeWith yL_out cL_out 4 (some .int) [(0, 9, 12, 29)]) List.mem_cons_self)
  have hP : va_P (dC, dI) vwCl [(h0, .inr (11, [.ref f_tape, .int 0, .ref f_words, .ref f_grammar, .ref f_meanings, .ref f_story, .ref f_draft, .int 0, .int 0, .int (-1), .ref f_told, .ref f_play, .ref f_machine, .ref f_teller, .ref f_saved, .ref f_isSaved, .ref f_past, .int 0, .int 0])), (f_told, .inr (5, [.ref f_bytes, .int 0])), (oa, .inl (cJ, 1, .inr (.inl og)))] s.heap := hP
  have hl := lv_entry ([.ref h0, .int ia, .ref oa]) (n := 4) (Nat.le_of_ble_eq_true rfl)
  rw [lg_entry_eq]
  generalize (lg_sl ([.ref h0, .int ia, .ref oa]) ++ List.replicate (4 - (lg_sl ([.ref h0, .int ia, .ref oa])).length) Slot.unset).toArray = ls at hl ⊢
  have hl : lv_has ls 4 [(0, .ref h0), (1, .int ia), (2, .ref oa)] := hl
  refine lv_aload_n hx hb dL_out_0 rfl (lv_at hl 2 rfl) ?_
  refine lv_iconst (v := 0) hx hb dL_out_1 (by decide +kernel) ?_
  refine lv_aload_n hx hb dL_out_2 rfl (lv_at hl 0 rfl) ?_
  refine lv_iload_n hx hb dL_out_3 rfl (lv_at hl 1 rfl) ?_
  have hPc := hP.sub (ws' := [(h0, .inr (11, [.ref f_tape, .int 0, .ref f_words, .ref f_grammar, .ref f_meanings, .ref f_story, .ref f_draft, .int 0, .int 0, .int (-1), .ref f_told, .ref f_play, .ref f_machine, .ref f_teller, .ref f_saved, .ref f_isSaved, .ref f_past, .int 0, .int 0])), (f_told, .inr (5, [.ref f_bytes, .int 0]))]) [0, 1] rfl
  have hDc := hD.sub (ws' := [(h0, .inr (11, [.ref f_tape, .int 0, .ref f_words, .ref f_grammar, .ref f_meanings, .ref f_story, .ref f_draft, .int 0, .int 0, .int (-1), .ref f_told, .ref f_play, .ref f_machine, .ref f_teller, .ref f_saved, .ref f_isSaved, .ref f_past, .int 0, .int 0])), (f_told, .inr (5, [.ref f_bytes, .int 0]))]) [0, 1] (by decide +kernel) rfl
  have hFc := va_free (wc := [(h0, .inr (11, [.ref f_tape, .int 0, .ref f_words, .ref f_grammar, .ref f_meanings, .ref f_story, .ref f_draft, .int 0, .int 0, .int (-1), .ref f_told, .ref f_play, .ref f_machine, .ref f_teller, .ref f_saved, .ref f_isSaved, .ref f_past, .int 0, .int 0])), (f_told, .inr (5, [.ref f_bytes, .int 0]))]) hD hS hA [0, 1] rfl
  refine g_oxi (wc := [(h0, .inr (11, [.ref f_tape, .int 0, .ref f_words, .ref f_grammar, .ref f_meanings, .ref f_story, .ref f_draft, .int 0, .int 0, .int (-1), .ref f_told, .ref f_play, .ref f_machine, .ref f_teller, .ref f_saved, .ref f_isSaved, .ref f_past, .int 0, .int 0])), (f_told, .inr (5, [.ref f_bytes, .int 0]))]) (wr := [(oa, .inl (cJ, 1, .inr (.inl og)))]) hP hD hS hFc [0, 1] [2] rfl rfl (by decide +kernel) (by decide +kernel) (vx_runV (As := [.int ia]) (rest := [.int 0, .ref oa]) ⟨hx, hb, hml, hown, hts⟩ (c_X11_out l dC dI cB cC cI cJ cZ cP hfl s.heap.size h0 f_tape f_words f_grammar f_meanings f_story f_draft f_told f_play f_machine f_teller f_saved f_isSaved f_past f_bytes ia ) (cwV 1 hts (g_gV wq_1269 wq_1270 wq_1271 wq_1 wq_1272) rfl rfl rfl (by decide +kernel) ⟨Nat.le_of_ble_eq_true rfl, Nat.le_of_ble_eq_true rfl⟩) (g_preV g_bl0 hK hPc hDc hS hE hFc g_to0 (q0 := 0) (ci := 11) rfl rfl) rfl rfl hl.1 rfl (lv_room (Nat.le_of_ble_eq_true rfl)) dL_out_4 ⟨Nat.le_of_ble_eq_true rfl, Nat.le_of_ble_eq_true rfl⟩) (fun E ce q9 H1 locs1 hXP hP' hD' hS' hce hcv hcl => ?_) (fun r_3 u_2 H_4 locs w_1 hP' hD' hS' => ?_)
  · clear hPc hDc hFc
    obtain rfl := hXP
    refine vx_catch (E := "java/lang/IndexOutOfBoundsException") (name := "java/lang/IndexOutOfBoundsException") hown [] ⟨0, 9, 12, 29⟩ [] (by rw [htb]; rfl) (fun z hz => nomatch hz) (by decide +kernel) (by decide) (hts (.classLink RL 29 "java/lang/IndexOutOfBoundsException") wq_1268) (va_Nw.use rfl (hN.2.2.2.1 _ (List.mem_of_getElem? (i := 2) rfl)).1) hce hcv hcl ?_
    replace hP := hP'; replace hD := hD'; replace hS := hS'; clear hP' hD' hS'
    replace hP : va_P (dC, dI) vwCl [(oa, .inl (cJ, 1, .inr (.inl og))), (h0, .inr (11, [.ref f_tape, .int 0, .ref f_words, .ref f_grammar, .ref f_meanings, .ref f_story, .ref f_draft, .int 0, .int 0, .int (-1), .ref f_told, .ref f_play, .ref f_machine, .ref f_teller, .ref f_saved, .ref f_isSaved, .ref f_past, .int 0, .int 0])), (f_told, .inr (5, [.ref f_bytes, .int 0]))] H1 := hP
    replace hD : va_D A [(oa, .inl (cJ, 1, .inr (.inl og))), (h0, .inr (11, [.ref f_tape, .int 0, .ref f_words, .ref f_grammar, .ref f_meanings, .ref f_story, .ref f_draft, .int 0, .int 0, .int (-1), .ref f_told, .ref f_play, .ref f_machine, .ref f_teller, .ref f_saved, .ref f_isSaved, .ref f_past, .int 0, .int 0])), (f_told, .inr (5, [.ref f_bytes, .int 0]))] := hD
    refine lv_astore_n (lv' := [(3, .ref q9), (0, .ref h0), (1, .int ia), (2, .ref oa)]) hx hb dL_out_12 rfl hl (by decide) rfl (fun ls hl => ?_)
    refine lv_iconst (v := 1) hx hb dL_out_13 (by decide +kernel) ?_
    have hP9 := hP.sub (ws' := [(h0, .inr (11, [.ref f_tape, .int 0, .ref f_words, .ref f_grammar, .ref f_meanings, .ref f_story, .ref f_draft, .int 0, .int 0, .int (-1), .ref f_told, .ref f_play, .ref f_machine, .ref f_teller, .ref f_saved, .ref f_isSaved, .ref f_past, .int 0, .int 0])), (f_told, .inr (5, [.ref f_bytes, .int 0])), (oa, .inl (cJ, 1, .inr (.inl og)))]) [1, 2, 0] rfl
    have hD9 := hD.sub (ws' := [(h0, .inr (11, [.ref f_tape, .int 0, .ref f_words, .ref f_grammar, .ref f_meanings, .ref f_story, .ref f_draft, .int 0, .int 0, .int (-1), .ref f_told, .ref f_play, .ref f_machine, .ref f_teller, .ref f_saved, .ref f_isSaved, .ref f_past, .int 0, .int 0])), (f_told, .inr (5, [.ref f_bytes, .int 0])), (oa, .inl (cJ, 1, .inr (.inl og)))]) [1, 2, 0] (by decide +kernel) rfl
    refine W.widen (k := 1) (n := 6) (Nat.le_of_ble_eq_true rfl) (Nat.le_of_ble_eq_true rfl) ?_
    exact W.iret (v := 1) hx hb hr (fun t ht hW => ⟨⟨1, og, rfl, (by first | trivial | rfl | assumption), by rw [ht]; exact hP9, hD9⟩, hS.F ht⟩) hS.2.2 dL_out_14
  clear hPc hDc hFc
  have w_1 : False := w_1
  replace hP : va_P (dC, dI) vwCl [(oa, .inl (cJ, 1, .inr (.inl og))), (h0, .inr (11, [.ref f_tape, .int 0, .ref f_words, .ref f_grammar, .ref f_meanings, .ref f_story, .ref f_draft, .int 0, .int 0, .int (-1), .ref f_told, .ref f_play, .ref f_machine, .ref f_teller, .ref f_saved, .ref f_isSaved, .ref f_past, .int 0, .int 0])), (f_told, .inr (5, [.ref f_bytes, .int 0]))] H_4 := hP'
  replace hD : va_D A [(oa, .inl (cJ, 1, .inr (.inl og))), (h0, .inr (11, [.ref f_tape, .int 0, .ref f_words, .ref f_grammar, .ref f_meanings, .ref f_story, .ref f_draft, .int 0, .int 0, .int (-1), .ref f_told, .ref f_play, .ref f_machine, .ref f_teller, .ref f_saved, .ref f_isSaved, .ref f_past, .int 0, .int 0])), (f_told, .inr (5, [.ref f_bytes, .int 0]))] := hD'
  replace hS := hS'
  clear hP' hD' hS'
  refine W.widen (k := 1) (n := 6) (Nat.le_of_ble_eq_true rfl) (Nat.le_of_ble_eq_true rfl) ?_
  exact w_1.elim

abbrev ww_L_save (cB cC cI cJ cZ cP : ClassId) (h0 : Nat) (f_tape : Nat) (f_words : Nat) (f_grammar : Nat) (f_meanings : Nat) (f_story : Nat) (f_draft : Nat) (f_told : Nat) (f_play : Nat) (f_machine : Nat) (f_teller : Nat) (f_saved : Nat) (f_isSaved : Nat) (f_past : Nat) (pl : Int32) : va_W := [(h0, .inr (11, [.ref f_tape, .int 0, .ref f_words, .ref f_grammar, .ref f_meanings, .ref f_story, .ref f_draft, .int 0, .int 0, .int (-1), .ref f_told, .ref f_play, .ref f_machine, .ref f_teller, .ref f_saved, .ref f_isSaved, .ref f_past, .int 0, .int 0]))]
abbrev q_L_save (dC : Nat → ClassId) (dI : Nat → Nat → Nat) (cB cC cI cJ cZ cP : ClassId) (h0 : Nat) (f_tape : Nat) (f_words : Nat) (f_grammar : Nat) (f_meanings : Nat) (f_story : Nat) (f_draft : Nat) (f_told : Nat) (f_play : Nat) (f_machine : Nat) (f_teller : Nat) (f_saved : Nat) (f_isSaved : Nat) (f_past : Nat) (pl : Int32) (A : Nat → Prop) : Array Value → State → Outcome → State → Prop := va_Qi (fun (r : Int32) (_ : Unit) => (r = 1 ∧ (pl < 0 ∨ ¬ pl < 4)) ∨ (r = 2 ∧ ¬ pl < 0 ∧ pl < 4)) (g_Bo (dC, dI) A (fun (_ : Unit) => [(h0, .inr (11, [.ref f_tape, .int 0, .ref f_words, .ref f_grammar, .ref f_meanings, .ref f_story, .ref f_draft, .int 0, .int 0, .int (-1), .ref f_told, .ref f_play, .ref f_machine, .ref f_teller, .ref f_saved, .ref f_isSaved, .ref f_past, .int 0, .int 0]))])) A
set_option maxHeartbeats 4000000 in
set_option maxRecDepth 100000 in
theorem c_L_save (l : Launch) (dC : Nat → ClassId) (dI : Nat → Nat → Nat) (cB cC cI cJ cZ cP : ClassId) (hfl : l.stackTraces = false) (sz : Nat) (h0 : Nat) (f_tape : Nat) (f_words : Nat) (f_grammar : Nat) (f_meanings : Nat) (f_story : Nat) (f_draft : Nat) (f_told : Nat) (f_play : Nat) (f_machine : Nat) (f_teller : Nat) (f_saved : Nat) (f_isSaved : Nat) (f_past : Nat) (pl : Int32)  : Met l yL_save (g_wsW yL_save cL_save 3 (some .int) [(0, 5, 8, 29), (0, 5, 11, 15)]) ({ frames := 8, cells := 2, slots := 12, locals := 132 }) (va_Pc [.ref h0, .int pl] (g_B (dC, dI) [(cB, .byte), (cC, .char), (cI, .int), (cJ, .long), (cZ, .boolean), (cP, .object "StoryHouse$Play")] sz (ww_L_save cB cC cI cJ cZ cP h0 f_tape f_words f_grammar f_meanings f_story f_draft f_told f_play f_machine f_teller f_saved f_isSaved f_past pl) g_0)) (q_L_save dC dI cB cC cI cJ cZ cP h0 f_tape f_words f_grammar f_meanings f_story f_draft f_told f_play f_machine f_teller f_saved f_isSaved f_past pl (va_A (ww_L_save cB cC cI cJ cZ cP h0 f_tape f_words f_grammar f_meanings f_story f_draft f_told f_play f_machine f_teller f_saved f_isSaved f_past pl) sz)) 2 12 (va_A (ww_L_save cB cC cI cJ cZ cP h0 f_tape f_words f_grammar f_meanings f_story f_draft f_told f_play f_machine f_teller f_saved f_isSaved f_past pl) sz) := by
  refine va_MetW (cc := cL_save) (maxL := 3) (ret := (some .int)) (hh := [(0, 5, 8, 29), (0, 5, 11, 15)]) (by decide) rfl ?_
  intro p e s m args below meth c s₁ B hml hv
  obtain ⟨rfl, hsz, hP, hK, hD0, hE, hX⟩ := hv
  have hx := B.exec
  have hb := B.bytes
  have hr := B.returns
  have hts0 := atoms_spec (ws := (g_wsW yL_save cL_save 3 (some .int) [(0, 5, 8, 29), (0, 5, 11, 15)])) B.pre
  have hts : ∀ w ∈ lw_good, w.before ([.ref h0, .int pl] : List Value).toArray s = true := fun w h => hts0 w (List.mem_cons_of_mem _ h)
  have hown : s.vm.findClass RL = some m.cls := findClass_of_methodNamed B.named
  have hlocks := B.notSynchronized
  subst hsz
  have hD := hD0.self (sz := s.heap.size)
  generalize hAe : va_A (ww_L_save cB cC cI cJ cZ cP h0 f_tape f_words f_grammar f_meanings f_story f_draft f_told f_play f_machine f_teller f_saved f_isSaved f_past pl) s.heap.size = A at hD hE hX ⊢
  have hA : ∀ q : Nat, s.heap.size ≤ q → A q := fun q h => by rw [← hAe]; exact Or.inr h
  have hN := hE.1
  have hS : va_S A s.heap s.heap [] := va_S.rf
  have htb := vx_table (x := yL_save) B (hts0 (.codeWith yL_save cL_save 3 (some .int) [(0, 5, 8, 29), (0, 5, 11, 15)]) List.mem_cons_self)
  have hP : va_P (dC, dI) vwCl [(h0, .inr (11, [.ref f_tape, .int 0, .ref f_words, .ref f_grammar, .ref f_meanings, .ref f_story, .ref f_draft, .int 0, .int 0, .int (-1), .ref f_told, .ref f_play, .ref f_machine, .ref f_teller, .ref f_saved, .ref f_isSaved, .ref f_past, .int 0, .int 0]))] s.heap := hP
  have hl := lv_entry ([.ref h0, .int pl]) (n := 3) (Nat.le_of_ble_eq_true rfl)
  rw [lg_entry_eq]
  generalize (lg_sl ([.ref h0, .int pl]) ++ List.replicate (3 - (lg_sl ([.ref h0, .int pl])).length) Slot.unset).toArray = ls at hl ⊢
  have hl : lv_has ls 3 [(0, .ref h0), (1, .int pl)] := hl
  refine lv_aload_n hx hb dL_save_0 rfl (lv_at hl 0 rfl) ?_
  refine lv_iload_n hx hb dL_save_1 rfl (lv_at hl 1 rfl) ?_
  have hPc := hP.sub (ws' := [(h0, .inr (11, [.ref f_tape, .int 0, .ref f_words, .ref f_grammar, .ref f_meanings, .ref f_story, .ref f_draft, .int 0, .int 0, .int (-1), .ref f_told, .ref f_play, .ref f_machine, .ref f_teller, .ref f_saved, .ref f_isSaved, .ref f_past, .int 0, .int 0]))]) [0] rfl
  have hDc := hD.sub (ws' := [(h0, .inr (11, [.ref f_tape, .int 0, .ref f_words, .ref f_grammar, .ref f_meanings, .ref f_story, .ref f_draft, .int 0, .int 0, .int (-1), .ref f_told, .ref f_play, .ref f_machine, .ref f_teller, .ref f_saved, .ref f_isSaved, .ref f_past, .int 0, .int 0]))]) [0] (by decide +kernel) rfl
  have hFc := va_free (wc := [(h0, .inr (11, [.ref f_tape, .int 0, .ref f_words, .ref f_grammar, .ref f_meanings, .ref f_story, .ref f_draft, .int 0, .int 0, .int (-1), .ref f_told, .ref f_play, .ref f_machine, .ref f_teller, .ref f_saved, .ref f_isSaved, .ref f_past, .int 0, .int 0]))]) hD hS hA [0] rfl
  refine g_oxv (wc := [(h0, .inr (11, [.ref f_tape, .int 0, .ref f_words, .ref f_grammar, .ref f_meanings, .ref f_story, .ref f_draft, .int 0, .int 0, .int (-1), .ref f_told, .ref f_play, .ref f_machine, .ref f_teller, .ref f_saved, .ref f_isSaved, .ref f_past, .int 0, .int 0]))]) (wr := []) hP hD hS hFc [0] [] rfl rfl (by decide +kernel) (by decide +kernel) (vx_runV (As := [.int pl]) (rest := []) ⟨hx, hb, hml, hown, hts⟩ (c_X11_save l dC dI cB cC cI cJ cZ cP hfl s.heap.size h0 f_tape f_words f_grammar f_meanings f_story f_draft f_told f_play f_machine f_teller f_saved f_isSaved f_past pl ) (cwV 1 hts (g_gV wq_1278 wq_1279 wq_1280 wq_1 wq_1281) rfl rfl rfl (by decide +kernel) ⟨Nat.le_of_ble_eq_true rfl, Nat.le_of_ble_eq_true rfl⟩) (g_preV g_bl0 hK hPc hDc hS hE hFc g_to0 (q0 := 0) (ci := 11) rfl rfl) rfl rfl hl.1 rfl (lv_room (Nat.le_of_ble_eq_true rfl)) dL_save_2 ⟨Nat.le_of_ble_eq_true rfl, Nat.le_of_ble_eq_true rfl⟩) (fun E ce q9 H1 locs1 hXP hP' hD' hS' hce hcv hcl => ?_) (fun u_2 H_3 locs w_1 hP' hD' hS' => ?_)
  · clear hPc hDc hFc
    rcases hXP with ⟨rfl, hwx⟩ | ⟨rfl, hwx⟩
    · skip
      refine vx_catch (E := "java/lang/IndexOutOfBoundsException") (name := "java/lang/IndexOutOfBoundsException") hown [] ⟨0, 5, 8, 29⟩ [⟨0, 5, 11, 15⟩] (by rw [htb]; rfl) (fun z hz => nomatch hz) (by decide +kernel) (by decide) (hts (.classLink RL 29 "java/lang/IndexOutOfBoundsException") wq_1268) (va_Nw.use rfl (hN.2.2.2.1 _ (List.mem_of_getElem? (i := 2) rfl)).1) hce hcv hcl ?_
      replace hP := hP'; replace hD := hD'; replace hS := hS'; clear hP' hD' hS'
      replace hP : va_P (dC, dI) vwCl [(h0, .inr (11, [.ref f_tape, .int 0, .ref f_words, .ref f_grammar, .ref f_meanings, .ref f_story, .ref f_draft, .int 0, .int 0, .int (-1), .ref f_told, .ref f_play, .ref f_machine, .ref f_teller, .ref f_saved, .ref f_isSaved, .ref f_past, .int 0, .int 0]))] H1 := hP
      replace hD : va_D A [(h0, .inr (11, [.ref f_tape, .int 0, .ref f_words, .ref f_grammar, .ref f_meanings, .ref f_story, .ref f_draft, .int 0, .int 0, .int (-1), .ref f_told, .ref f_play, .ref f_machine, .ref f_teller, .ref f_saved, .ref f_isSaved, .ref f_past, .int 0, .int 0]))] := hD
      refine lv_astore_n (lv' := [(2, .ref q9), (0, .ref h0), (1, .int pl)]) hx hb dL_save_8 rfl hl (by decide) rfl (fun ls hl => ?_)
      refine lv_iconst (v := 1) hx hb dL_save_9 (by decide +kernel) ?_
      have hP9 := hP.sub (ws' := [(h0, .inr (11, [.ref f_tape, .int 0, .ref f_words, .ref f_grammar, .ref f_meanings, .ref f_story, .ref f_draft, .int 0, .int 0, .int (-1), .ref f_told, .ref f_play, .ref f_machine, .ref f_teller, .ref f_saved, .ref f_isSaved, .ref f_past, .int 0, .int 0]))]) [0] rfl
      have hD9 := hD.sub (ws' := [(h0, .inr (11, [.ref f_tape, .int 0, .ref f_words, .ref f_grammar, .ref f_meanings, .ref f_story, .ref f_draft, .int 0, .int 0, .int (-1), .ref f_told, .ref f_play, .ref f_machine, .ref f_teller, .ref f_saved, .ref f_isSaved, .ref f_past, .int 0, .int 0]))]) [0] (by decide +kernel) rfl
      refine W.widen (k := 2) (n := 12) (Nat.le_of_ble_eq_true rfl) (Nat.le_of_ble_eq_true rfl) ?_
      exact W.iret (v := 1) hx hb hr (fun t ht hW => ⟨⟨1, (), rfl, (Or.inl ⟨rfl, hwx⟩), by rw [ht]; exact hP9, hD9⟩, hS.F ht⟩) hS.2.2 dL_save_10
    · skip
      refine vx_catch (E := "java/lang/IllegalStateException") (name := "java/lang/IllegalStateException") hown [⟨0, 5, 8, 29⟩] ⟨0, 5, 11, 15⟩ [] (by rw [htb]; rfl) (fun z hz => by obtain rfl := List.mem_singleton.mp hz; exact Or.inr ⟨by decide, "java/lang/IndexOutOfBoundsException", (hts (.classLink RL 29 "java/lang/IndexOutOfBoundsException") wq_1268), (hN.2.2.2.1 _ (List.mem_of_getElem? (i := 1) rfl)).2 _ (List.mem_of_getElem? (i := 2) rfl) (by decide)⟩) (by decide +kernel) (by decide) (hts (.classLink RL 15 "java/lang/IllegalStateException") wq_920) (va_Nw.use rfl (hN.2.2.2.1 _ (List.mem_of_getElem? (i := 1) rfl)).1) hce hcv hcl ?_
      replace hP := hP'; replace hD := hD'; replace hS := hS'; clear hP' hD' hS'
      replace hP : va_P (dC, dI) vwCl [(h0, .inr (11, [.ref f_tape, .int 0, .ref f_words, .ref f_grammar, .ref f_meanings, .ref f_story, .ref f_draft, .int 0, .int 0, .int (-1), .ref f_told, .ref f_play, .ref f_machine, .ref f_teller, .ref f_saved, .ref f_isSaved, .ref f_past, .int 0, .int 0]))] H1 := hP
      replace hD : va_D A [(h0, .inr (11, [.ref f_tape, .int 0, .ref f_words, .ref f_grammar, .ref f_meanings, .ref f_story, .ref f_draft, .int 0, .int 0, .int (-1), .ref f_told, .ref f_play, .ref f_machine, .ref f_teller, .ref f_saved, .ref f_isSaved, .ref f_past, .int 0, .int 0]))] := hD
      refine lv_astore_n (lv' := [(2, .ref q9), (0, .ref h0), (1, .int pl)]) hx hb dL_save_11 rfl hl (by decide) rfl (fun ls hl => ?_)
      refine lv_iconst (v := 2) hx hb dL_save_12 (by decide +kernel) ?_
      have hP9 := hP.sub (ws' := [(h0, .inr (11, [.ref f_tape, .int 0, .ref f_words, .ref f_grammar, .ref f_meanings, .ref f_story, .ref f_draft, .int 0, .int 0, .int (-1), .ref f_told, .ref f_play, .ref f_machine, .ref f_teller, .ref f_saved, .ref f_isSaved, .ref f_past, .int 0, .int 0]))]) [0] rfl
      have hD9 := hD.sub (ws' := [(h0, .inr (11, [.ref f_tape, .int 0, .ref f_words, .ref f_grammar, .ref f_meanings, .ref f_story, .ref f_draft, .int 0, .int 0, .int (-1), .ref f_told, .ref f_play, .ref f_machine, .ref f_teller, .ref f_saved, .ref f_isSaved, .ref f_past, .int 0, .int 0]))]) [0] (by decide +kernel) rfl
      refine W.widen (k := 2) (n := 12) (Nat.le_of_ble_eq_true rfl) (Nat.le_of_ble_eq_true rfl) ?_
      exact W.iret (v := 2) hx hb hr (fun t ht hW => ⟨⟨2, (), rfl, (Or.inr ⟨rfl, hwx⟩), by rw [ht]; exact hP9, hD9⟩, hS.F ht⟩) hS.2.2 dL_save_13
  clear hPc hDc hFc
  have w_1 : False := w_1
  replace hP : va_P (dC, dI) vwCl [(h0, .inr (11, [.ref f_tape, .int 0, .ref f_words, .ref f_grammar, .ref f_meanings, .ref f_story, .ref f_draft, .int 0, .int 0, .int (-1), .ref f_told, .ref f_play, .ref f_machine, .ref f_teller, .ref f_saved, .ref f_isSaved, .ref f_past, .int 0, .int 0]))] H_3 := hP'
  replace hD : va_D A [(h0, .inr (11, [.ref f_tape, .int 0, .ref f_words, .ref f_grammar, .ref f_meanings, .ref f_story, .ref f_draft, .int 0, .int 0, .int (-1), .ref f_told, .ref f_play, .ref f_machine, .ref f_teller, .ref f_saved, .ref f_isSaved, .ref f_past, .int 0, .int 0]))] := hD'
  replace hS := hS'
  clear hP' hD' hS'
  refine W.widen (k := 2) (n := 12) (Nat.le_of_ble_eq_true rfl) (Nat.le_of_ble_eq_true rfl) ?_
  exact w_1.elim

abbrev ww_L_restore (cB cC cI cJ cZ cP : ClassId) (h0 : Nat) (f_tape : Nat) (f_words : Nat) (f_grammar : Nat) (f_meanings : Nat) (f_story : Nat) (f_draft : Nat) (f_told : Nat) (f_play : Nat) (f_machine : Nat) (f_teller : Nat) (f_saved : Nat) (f_isSaved : Nat) (f_past : Nat) (pl : Int32) : va_W := [(h0, .inr (11, [.ref f_tape, .int 0, .ref f_words, .ref f_grammar, .ref f_meanings, .ref f_story, .ref f_draft, .int 0, .int 0, .int (-1), .ref f_told, .ref f_play, .ref f_machine, .ref f_teller, .ref f_saved, .ref f_isSaved, .ref f_past, .int 0, .int 0])), (f_isSaved, .inl (cZ, 4, .inl ((fun _ => 0))))]
abbrev q_L_restore (dC : Nat → ClassId) (dI : Nat → Nat → Nat) (cB cC cI cJ cZ cP : ClassId) (h0 : Nat) (f_tape : Nat) (f_words : Nat) (f_grammar : Nat) (f_meanings : Nat) (f_story : Nat) (f_draft : Nat) (f_told : Nat) (f_play : Nat) (f_machine : Nat) (f_teller : Nat) (f_saved : Nat) (f_isSaved : Nat) (f_past : Nat) (pl : Int32) (A : Nat → Prop) : Array Value → State → Outcome → State → Prop := va_Qi (fun (r : Int32) (_ : Unit) => (r = 1 ∧ (pl < 0 ∨ ¬ pl < 4)) ∨ (r = 2 ∧ ¬ pl < 0 ∧ pl < 4)) (g_Bo (dC, dI) A (fun (_ : Unit) => [(h0, .inr (11, [.ref f_tape, .int 0, .ref f_words, .ref f_grammar, .ref f_meanings, .ref f_story, .ref f_draft, .int 0, .int 0, .int (-1), .ref f_told, .ref f_play, .ref f_machine, .ref f_teller, .ref f_saved, .ref f_isSaved, .ref f_past, .int 0, .int 0])), (f_isSaved, .inl (cZ, 4, .inl ((fun _ => 0))))])) A
set_option maxHeartbeats 4000000 in
set_option maxRecDepth 100000 in
theorem c_L_restore (l : Launch) (dC : Nat → ClassId) (dI : Nat → Nat → Nat) (cB cC cI cJ cZ cP : ClassId) (hfl : l.stackTraces = false) (sz : Nat) (h0 : Nat) (f_tape : Nat) (f_words : Nat) (f_grammar : Nat) (f_meanings : Nat) (f_story : Nat) (f_draft : Nat) (f_told : Nat) (f_play : Nat) (f_machine : Nat) (f_teller : Nat) (f_saved : Nat) (f_isSaved : Nat) (f_past : Nat) (pl : Int32)  : Met l yL_restore (g_wsW yL_restore cL_restore 3 (some .int) [(0, 5, 8, 29), (0, 5, 11, 15)]) ({ frames := 8, cells := 2, slots := 12, locals := 132 }) (va_Pc [.ref h0, .int pl] (g_B (dC, dI) [(cB, .byte), (cC, .char), (cI, .int), (cJ, .long), (cZ, .boolean), (cP, .object "StoryHouse$Play")] sz (ww_L_restore cB cC cI cJ cZ cP h0 f_tape f_words f_grammar f_meanings f_story f_draft f_told f_play f_machine f_teller f_saved f_isSaved f_past pl) g_0)) (q_L_restore dC dI cB cC cI cJ cZ cP h0 f_tape f_words f_grammar f_meanings f_story f_draft f_told f_play f_machine f_teller f_saved f_isSaved f_past pl (va_A (ww_L_restore cB cC cI cJ cZ cP h0 f_tape f_words f_grammar f_meanings f_story f_draft f_told f_play f_machine f_teller f_saved f_isSaved f_past pl) sz)) 2 12 (va_A (ww_L_restore cB cC cI cJ cZ cP h0 f_tape f_words f_grammar f_meanings f_story f_draft f_told f_play f_machine f_teller f_saved f_isSaved f_past pl) sz) := by
  refine va_MetW (cc := cL_restore) (maxL := 3) (ret := (some .int)) (hh := [(0, 5, 8, 29), (0, 5, 11, 15)]) (by decide) rfl ?_
  intro p e s m args below meth c s₁ B hml hv
  obtain ⟨rfl, hsz, hP, hK, hD0, hE, hX⟩ := hv
  have hx := B.exec
  have hb := B.bytes
  have hr := B.returns
  have hts0 := atoms_spec (ws := (g_wsW yL_restore cL_restore 3 (some .int) [(0, 5, 8, 29), (0, 5, 11, 15)])) B.pre
  have hts : ∀ w ∈ lw_good, w.before ([.ref h0, .int pl] : List Value).toArray s = true := fun w h => hts0 w (List.mem_cons_of_mem _ h)
  have hown : s.vm.findClass RL = some m.cls := findClass_of_methodNamed B.named
  have hlocks := B.notSynchronized
  subst hsz
  have hD := hD0.self (sz := s.heap.size)
  generalize hAe : va_A (ww_L_restore cB cC cI cJ cZ cP h0 f_tape f_words f_grammar f_meanings f_story f_draft f_told f_play f_machine f_teller f_saved f_isSaved f_past pl) s.heap.size = A at hD hE hX ⊢
  have hA : ∀ q : Nat, s.heap.size ≤ q → A q := fun q h => by rw [← hAe]; exact Or.inr h
  have hN := hE.1
  have hS : va_S A s.heap s.heap [] := va_S.rf
  have htb := vx_table (x := yL_restore) B (hts0 (.codeWith yL_restore cL_restore 3 (some .int) [(0, 5, 8, 29), (0, 5, 11, 15)]) List.mem_cons_self)
  have hP : va_P (dC, dI) vwCl [(h0, .inr (11, [.ref f_tape, .int 0, .ref f_words, .ref f_grammar, .ref f_meanings, .ref f_story, .ref f_draft, .int 0, .int 0, .int (-1), .ref f_told, .ref f_play, .ref f_machine, .ref f_teller, .ref f_saved, .ref f_isSaved, .ref f_past, .int 0, .int 0])), (f_isSaved, .inl (cZ, 4, .inl ((fun _ => 0))))] s.heap := hP
  have hl := lv_entry ([.ref h0, .int pl]) (n := 3) (Nat.le_of_ble_eq_true rfl)
  rw [lg_entry_eq]
  generalize (lg_sl ([.ref h0, .int pl]) ++ List.replicate (3 - (lg_sl ([.ref h0, .int pl])).length) Slot.unset).toArray = ls at hl ⊢
  have hl : lv_has ls 3 [(0, .ref h0), (1, .int pl)] := hl
  refine lv_aload_n hx hb dL_restore_0 rfl (lv_at hl 0 rfl) ?_
  refine lv_iload_n hx hb dL_restore_1 rfl (lv_at hl 1 rfl) ?_
  have hPc := hP.sub (ws' := [(h0, .inr (11, [.ref f_tape, .int 0, .ref f_words, .ref f_grammar, .ref f_meanings, .ref f_story, .ref f_draft, .int 0, .int 0, .int (-1), .ref f_told, .ref f_play, .ref f_machine, .ref f_teller, .ref f_saved, .ref f_isSaved, .ref f_past, .int 0, .int 0])), (f_isSaved, .inl (cZ, 4, .inl ((fun _ => 0))))]) [0, 1] rfl
  have hDc := hD.sub (ws' := [(h0, .inr (11, [.ref f_tape, .int 0, .ref f_words, .ref f_grammar, .ref f_meanings, .ref f_story, .ref f_draft, .int 0, .int 0, .int (-1), .ref f_told, .ref f_play, .ref f_machine, .ref f_teller, .ref f_saved, .ref f_isSaved, .ref f_past, .int 0, .int 0])), (f_isSaved, .inl (cZ, 4, .inl ((fun _ => 0))))]) [0, 1] (by decide +kernel) rfl
  have hFc := va_free (wc := [(h0, .inr (11, [.ref f_tape, .int 0, .ref f_words, .ref f_grammar, .ref f_meanings, .ref f_story, .ref f_draft, .int 0, .int 0, .int (-1), .ref f_told, .ref f_play, .ref f_machine, .ref f_teller, .ref f_saved, .ref f_isSaved, .ref f_past, .int 0, .int 0])), (f_isSaved, .inl (cZ, 4, .inl ((fun _ => 0))))]) hD hS hA [0, 1] rfl
  refine g_oxv (wc := [(h0, .inr (11, [.ref f_tape, .int 0, .ref f_words, .ref f_grammar, .ref f_meanings, .ref f_story, .ref f_draft, .int 0, .int 0, .int (-1), .ref f_told, .ref f_play, .ref f_machine, .ref f_teller, .ref f_saved, .ref f_isSaved, .ref f_past, .int 0, .int 0])), (f_isSaved, .inl (cZ, 4, .inl ((fun _ => 0))))]) (wr := []) hP hD hS hFc [0, 1] [] rfl rfl (by decide +kernel) (by decide +kernel) (vx_runV (As := [.int pl]) (rest := []) ⟨hx, hb, hml, hown, hts⟩ (c_X11_restore l dC dI cB cC cI cJ cZ cP hfl s.heap.size h0 f_tape f_words f_grammar f_meanings f_story f_draft f_told f_play f_machine f_teller f_saved f_isSaved f_past pl ) (cwV 1 hts (g_gV wq_1288 wq_1289 wq_1290 wq_1 wq_1291) rfl rfl rfl (by decide +kernel) ⟨Nat.le_of_ble_eq_true rfl, Nat.le_of_ble_eq_true rfl⟩) (g_preV g_bl0 hK hPc hDc hS hE hFc g_to0 (q0 := 0) (ci := 11) rfl rfl) rfl rfl hl.1 rfl (lv_room (Nat.le_of_ble_eq_true rfl)) dL_restore_2 ⟨Nat.le_of_ble_eq_true rfl, Nat.le_of_ble_eq_true rfl⟩) (fun E ce q9 H1 locs1 hXP hP' hD' hS' hce hcv hcl => ?_) (fun u_2 H_3 locs w_1 hP' hD' hS' => ?_)
  · clear hPc hDc hFc
    rcases hXP with ⟨rfl, hwx⟩ | ⟨rfl, hwx⟩
    · skip
      refine vx_catch (E := "java/lang/IndexOutOfBoundsException") (name := "java/lang/IndexOutOfBoundsException") hown [] ⟨0, 5, 8, 29⟩ [⟨0, 5, 11, 15⟩] (by rw [htb]; rfl) (fun z hz => nomatch hz) (by decide +kernel) (by decide) (hts (.classLink RL 29 "java/lang/IndexOutOfBoundsException") wq_1268) (va_Nw.use rfl (hN.2.2.2.1 _ (List.mem_of_getElem? (i := 2) rfl)).1) hce hcv hcl ?_
      replace hP := hP'; replace hD := hD'; replace hS := hS'; clear hP' hD' hS'
      replace hP : va_P (dC, dI) vwCl [(h0, .inr (11, [.ref f_tape, .int 0, .ref f_words, .ref f_grammar, .ref f_meanings, .ref f_story, .ref f_draft, .int 0, .int 0, .int (-1), .ref f_told, .ref f_play, .ref f_machine, .ref f_teller, .ref f_saved, .ref f_isSaved, .ref f_past, .int 0, .int 0])), (f_isSaved, .inl (cZ, 4, .inl ((fun _ => 0))))] H1 := hP
      replace hD : va_D A [(h0, .inr (11, [.ref f_tape, .int 0, .ref f_words, .ref f_grammar, .ref f_meanings, .ref f_story, .ref f_draft, .int 0, .int 0, .int (-1), .ref f_told, .ref f_play, .ref f_machine, .ref f_teller, .ref f_saved, .ref f_isSaved, .ref f_past, .int 0, .int 0])), (f_isSaved, .inl (cZ, 4, .inl ((fun _ => 0))))] := hD
      refine lv_astore_n (lv' := [(2, .ref q9), (0, .ref h0), (1, .int pl)]) hx hb dL_restore_8 rfl hl (by decide) rfl (fun ls hl => ?_)
      refine lv_iconst (v := 1) hx hb dL_restore_9 (by decide +kernel) ?_
      have hP9 := hP.sub (ws' := [(h0, .inr (11, [.ref f_tape, .int 0, .ref f_words, .ref f_grammar, .ref f_meanings, .ref f_story, .ref f_draft, .int 0, .int 0, .int (-1), .ref f_told, .ref f_play, .ref f_machine, .ref f_teller, .ref f_saved, .ref f_isSaved, .ref f_past, .int 0, .int 0])), (f_isSaved, .inl (cZ, 4, .inl ((fun _ => 0))))]) [0, 1] rfl
      have hD9 := hD.sub (ws' := [(h0, .inr (11, [.ref f_tape, .int 0, .ref f_words, .ref f_grammar, .ref f_meanings, .ref f_story, .ref f_draft, .int 0, .int 0, .int (-1), .ref f_told, .ref f_play, .ref f_machine, .ref f_teller, .ref f_saved, .ref f_isSaved, .ref f_past, .int 0, .int 0])), (f_isSaved, .inl (cZ, 4, .inl ((fun _ => 0))))]) [0, 1] (by decide +kernel) rfl
      refine W.widen (k := 2) (n := 12) (Nat.le_of_ble_eq_true rfl) (Nat.le_of_ble_eq_true rfl) ?_
      exact W.iret (v := 1) hx hb hr (fun t ht hW => ⟨⟨1, (), rfl, (Or.inl ⟨rfl, hwx⟩), by rw [ht]; exact hP9, hD9⟩, hS.F ht⟩) hS.2.2 dL_restore_10
    · skip
      refine vx_catch (E := "java/lang/IllegalStateException") (name := "java/lang/IllegalStateException") hown [⟨0, 5, 8, 29⟩] ⟨0, 5, 11, 15⟩ [] (by rw [htb]; rfl) (fun z hz => by obtain rfl := List.mem_singleton.mp hz; exact Or.inr ⟨by decide, "java/lang/IndexOutOfBoundsException", (hts (.classLink RL 29 "java/lang/IndexOutOfBoundsException") wq_1268), (hN.2.2.2.1 _ (List.mem_of_getElem? (i := 1) rfl)).2 _ (List.mem_of_getElem? (i := 2) rfl) (by decide)⟩) (by decide +kernel) (by decide) (hts (.classLink RL 15 "java/lang/IllegalStateException") wq_920) (va_Nw.use rfl (hN.2.2.2.1 _ (List.mem_of_getElem? (i := 1) rfl)).1) hce hcv hcl ?_
      replace hP := hP'; replace hD := hD'; replace hS := hS'; clear hP' hD' hS'
      replace hP : va_P (dC, dI) vwCl [(h0, .inr (11, [.ref f_tape, .int 0, .ref f_words, .ref f_grammar, .ref f_meanings, .ref f_story, .ref f_draft, .int 0, .int 0, .int (-1), .ref f_told, .ref f_play, .ref f_machine, .ref f_teller, .ref f_saved, .ref f_isSaved, .ref f_past, .int 0, .int 0])), (f_isSaved, .inl (cZ, 4, .inl ((fun _ => 0))))] H1 := hP
      replace hD : va_D A [(h0, .inr (11, [.ref f_tape, .int 0, .ref f_words, .ref f_grammar, .ref f_meanings, .ref f_story, .ref f_draft, .int 0, .int 0, .int (-1), .ref f_told, .ref f_play, .ref f_machine, .ref f_teller, .ref f_saved, .ref f_isSaved, .ref f_past, .int 0, .int 0])), (f_isSaved, .inl (cZ, 4, .inl ((fun _ => 0))))] := hD
      refine lv_astore_n (lv' := [(2, .ref q9), (0, .ref h0), (1, .int pl)]) hx hb dL_restore_11 rfl hl (by decide) rfl (fun ls hl => ?_)
      refine lv_iconst (v := 2) hx hb dL_restore_12 (by decide +kernel) ?_
      have hP9 := hP.sub (ws' := [(h0, .inr (11, [.ref f_tape, .int 0, .ref f_words, .ref f_grammar, .ref f_meanings, .ref f_story, .ref f_draft, .int 0, .int 0, .int (-1), .ref f_told, .ref f_play, .ref f_machine, .ref f_teller, .ref f_saved, .ref f_isSaved, .ref f_past, .int 0, .int 0])), (f_isSaved, .inl (cZ, 4, .inl ((fun _ => 0))))]) [0, 1] rfl
      have hD9 := hD.sub (ws' := [(h0, .inr (11, [.ref f_tape, .int 0, .ref f_words, .ref f_grammar, .ref f_meanings, .ref f_story, .ref f_draft, .int 0, .int 0, .int (-1), .ref f_told, .ref f_play, .ref f_machine, .ref f_teller, .ref f_saved, .ref f_isSaved, .ref f_past, .int 0, .int 0])), (f_isSaved, .inl (cZ, 4, .inl ((fun _ => 0))))]) [0, 1] (by decide +kernel) rfl
      refine W.widen (k := 2) (n := 12) (Nat.le_of_ble_eq_true rfl) (Nat.le_of_ble_eq_true rfl) ?_
      exact W.iret (v := 2) hx hb hr (fun t ht hW => ⟨⟨2, (), rfl, (Or.inr ⟨rfl, hwx⟩), by rw [ht]; exact hP9, hD9⟩, hS.F ht⟩) hS.2.2 dL_restore_13
  clear hPc hDc hFc
  have w_1 : False := w_1
  replace hP : va_P (dC, dI) vwCl [(h0, .inr (11, [.ref f_tape, .int 0, .ref f_words, .ref f_grammar, .ref f_meanings, .ref f_story, .ref f_draft, .int 0, .int 0, .int (-1), .ref f_told, .ref f_play, .ref f_machine, .ref f_teller, .ref f_saved, .ref f_isSaved, .ref f_past, .int 0, .int 0])), (f_isSaved, .inl (cZ, 4, .inl ((fun _ => 0))))] H_3 := hP'
  replace hD : va_D A [(h0, .inr (11, [.ref f_tape, .int 0, .ref f_words, .ref f_grammar, .ref f_meanings, .ref f_story, .ref f_draft, .int 0, .int 0, .int (-1), .ref f_told, .ref f_play, .ref f_machine, .ref f_teller, .ref f_saved, .ref f_isSaved, .ref f_past, .int 0, .int 0])), (f_isSaved, .inl (cZ, 4, .inl ((fun _ => 0))))] := hD'
  replace hS := hS'
  clear hP' hD' hS'
  refine W.widen (k := 2) (n := 12) (Nat.le_of_ble_eq_true rfl) (Nat.le_of_ble_eq_true rfl) ?_
  exact w_1.elim

abbrev ww_L_told (cB cC cI cJ cZ cP : ClassId) (h0 : Nat) (f_tape : Nat) (f_words : Nat) (f_grammar : Nat) (f_meanings : Nat) (f_story : Nat) (f_draft : Nat) (f_told : Nat) (f_play : Nat) (f_machine : Nat) (f_teller : Nat) (f_saved : Nat) (f_isSaved : Nat) (f_past : Nat) (wh : Int32) (oa : Nat) (og : Nat → Int64) : va_W := [(h0, .inr (11, [.ref f_tape, .int 0, .ref f_words, .ref f_grammar, .ref f_meanings, .ref f_story, .ref f_draft, .int 0, .int 0, .int (-1), .ref f_told, .ref f_play, .ref f_machine, .ref f_teller, .ref f_saved, .ref f_isSaved, .ref f_past, .int 0, .int 0])), (oa, .inl (cJ, 1, .inr (.inl og)))]
abbrev q_L_told (dC : Nat → ClassId) (dI : Nat → Nat → Nat) (cB cC cI cJ cZ cP : ClassId) (h0 : Nat) (f_tape : Nat) (f_words : Nat) (f_grammar : Nat) (f_meanings : Nat) (f_story : Nat) (f_draft : Nat) (f_told : Nat) (f_play : Nat) (f_machine : Nat) (f_teller : Nat) (f_saved : Nat) (f_isSaved : Nat) (f_past : Nat) (wh : Int32) (oa : Nat) (og : Nat → Int64) (A : Nat → Prop) : Array Value → State → Outcome → State → Prop := va_Qi (fun (r : Int32) (og2 : Nat → Int64) => (r = 1 ∧ (wh < 0 ∨ ¬ wh ≤ 11)) ∨ (r = 0 ∧ ¬ wh < 0 ∧ wh ≤ 11 ∧ og2 0 = 0)) (g_Bo (dC, dI) A (fun (og2 : Nat → Int64) => [(h0, .inr (11, [.ref f_tape, .int 0, .ref f_words, .ref f_grammar, .ref f_meanings, .ref f_story, .ref f_draft, .int 0, .int 0, .int (-1), .ref f_told, .ref f_play, .ref f_machine, .ref f_teller, .ref f_saved, .ref f_isSaved, .ref f_past, .int 0, .int 0])), (oa, .inl (cJ, 1, .inr (.inl og2)))])) A
set_option maxHeartbeats 4000000 in
set_option maxRecDepth 100000 in
theorem c_L_told (l : Launch) (dC : Nat → ClassId) (dI : Nat → Nat → Nat) (cB cC cI cJ cZ cP : ClassId) (hfl : l.stackTraces = false) (sz : Nat) (h0 : Nat) (f_tape : Nat) (f_words : Nat) (f_grammar : Nat) (f_meanings : Nat) (f_story : Nat) (f_draft : Nat) (f_told : Nat) (f_play : Nat) (f_machine : Nat) (f_teller : Nat) (f_saved : Nat) (f_isSaved : Nat) (f_past : Nat) (wh : Int32) (oa : Nat) (og : Nat → Int64)  : Met l yL_told (g_wsW yL_told cL_told 4 (some .int) [(0, 9, 12, 13)]) ({ frames := 7, cells := 1, slots := 6, locals := 111 }) (va_Pc [.ref h0, .int wh, .ref oa] (g_B (dC, dI) [(cB, .byte), (cC, .char), (cI, .int), (cJ, .long), (cZ, .boolean), (cP, .object "StoryHouse$Play")] sz (ww_L_told cB cC cI cJ cZ cP h0 f_tape f_words f_grammar f_meanings f_story f_draft f_told f_play f_machine f_teller f_saved f_isSaved f_past wh oa og) g_0)) (q_L_told dC dI cB cC cI cJ cZ cP h0 f_tape f_words f_grammar f_meanings f_story f_draft f_told f_play f_machine f_teller f_saved f_isSaved f_past wh oa og (va_A (ww_L_told cB cC cI cJ cZ cP h0 f_tape f_words f_grammar f_meanings f_story f_draft f_told f_play f_machine f_teller f_saved f_isSaved f_past wh oa og) sz)) 1 6 (va_A (ww_L_told cB cC cI cJ cZ cP h0 f_tape f_words f_grammar f_meanings f_story f_draft f_told f_play f_machine f_teller f_saved f_isSaved f_past wh oa og) sz) := by
  refine va_MetW (cc := cL_told) (maxL := 4) (ret := (some .int)) (hh := [(0, 9, 12, 13)]) (by decide) rfl ?_
  intro p e s m args below meth c s₁ B hml hv
  obtain ⟨rfl, hsz, hP, hK, hD0, hE, hX⟩ := hv
  have hx := B.exec
  have hb := B.bytes
  have hr := B.returns
  have hts0 := atoms_spec (ws := (g_wsW yL_told cL_told 4 (some .int) [(0, 9, 12, 13)])) B.pre
  have hts : ∀ w ∈ lw_good, w.before ([.ref h0, .int wh, .ref oa] : List Value).toArray s = true := fun w h => hts0 w (List.mem_cons_of_mem _ h)
  have hown : s.vm.findClass RL = some m.cls := findClass_of_methodNamed B.named
  have hlocks := B.notSynchronized
  subst hsz
  have hD := hD0.self (sz := s.heap.size)
  generalize hAe : va_A (ww_L_told cB cC cI cJ cZ cP h0 f_tape f_words f_grammar f_meanings f_story f_draft f_told f_play f_machine f_teller f_saved f_isSaved f_past wh oa og) s.heap.size = A at hD hE hX ⊢
  have hA : ∀ q : Nat, s.heap.size ≤ q → A q := fun q h => by rw [← hAe]; exact Or.inr h
  have hN := hE.1
  have hS : va_S A s.heap s.heap [] := va_S.rf
  have htb := vx_table (x := yL_told) B (hts0 (.codeWith yL_told cL_told 4 (some .int) [(0, 9, 12, 13)]) List.mem_cons_self)
  have hP : va_P (dC, dI) vwCl [(h0, .inr (11, [.ref f_tape, .int 0, .ref f_words, .ref f_grammar, .ref f_meanings, .ref f_story, .ref f_draft, .int 0, .int 0, .int (-1), .ref f_told, .ref f_play, .ref f_machine, .ref f_teller, .ref f_saved, .ref f_isSaved, .ref f_past, .int 0, .int 0])), (oa, .inl (cJ, 1, .inr (.inl og)))] s.heap := hP
  have hl := lv_entry ([.ref h0, .int wh, .ref oa]) (n := 4) (Nat.le_of_ble_eq_true rfl)
  rw [lg_entry_eq]
  generalize (lg_sl ([.ref h0, .int wh, .ref oa]) ++ List.replicate (4 - (lg_sl ([.ref h0, .int wh, .ref oa])).length) Slot.unset).toArray = ls at hl ⊢
  have hl : lv_has ls 4 [(0, .ref h0), (1, .int wh), (2, .ref oa)] := hl
  refine lv_aload_n hx hb dL_told_0 rfl (lv_at hl 2 rfl) ?_
  refine lv_iconst (v := 0) hx hb dL_told_1 (by decide +kernel) ?_
  refine lv_aload_n hx hb dL_told_2 rfl (lv_at hl 0 rfl) ?_
  refine lv_iload_n hx hb dL_told_3 rfl (lv_at hl 1 rfl) ?_
  have hPc := hP.sub (ws' := [(h0, .inr (11, [.ref f_tape, .int 0, .ref f_words, .ref f_grammar, .ref f_meanings, .ref f_story, .ref f_draft, .int 0, .int 0, .int (-1), .ref f_told, .ref f_play, .ref f_machine, .ref f_teller, .ref f_saved, .ref f_isSaved, .ref f_past, .int 0, .int 0]))]) [0] rfl
  have hDc := hD.sub (ws' := [(h0, .inr (11, [.ref f_tape, .int 0, .ref f_words, .ref f_grammar, .ref f_meanings, .ref f_story, .ref f_draft, .int 0, .int 0, .int (-1), .ref f_told, .ref f_play, .ref f_machine, .ref f_teller, .ref f_saved, .ref f_isSaved, .ref f_past, .int 0, .int 0]))]) [0] (by decide +kernel) rfl
  have hFc := va_free (wc := [(h0, .inr (11, [.ref f_tape, .int 0, .ref f_words, .ref f_grammar, .ref f_meanings, .ref f_story, .ref f_draft, .int 0, .int 0, .int (-1), .ref f_told, .ref f_play, .ref f_machine, .ref f_teller, .ref f_saved, .ref f_isSaved, .ref f_past, .int 0, .int 0]))]) hD hS hA [0] rfl
  refine g_oxi (wc := [(h0, .inr (11, [.ref f_tape, .int 0, .ref f_words, .ref f_grammar, .ref f_meanings, .ref f_story, .ref f_draft, .int 0, .int 0, .int (-1), .ref f_told, .ref f_play, .ref f_machine, .ref f_teller, .ref f_saved, .ref f_isSaved, .ref f_past, .int 0, .int 0]))]) (wr := [(oa, .inl (cJ, 1, .inr (.inl og)))]) hP hD hS hFc [0] [1] rfl rfl (by decide +kernel) (by decide +kernel) (vx_runV (As := [.int wh]) (rest := [.int 0, .ref oa]) ⟨hx, hb, hml, hown, hts⟩ (c_X11_told l dC dI cB cC cI cJ cZ cP hfl s.heap.size h0 f_tape f_words f_grammar f_meanings f_story f_draft f_told f_play f_machine f_teller f_saved f_isSaved f_past wh ) (cwV 1 hts (g_gV wq_1343 wq_1344 wq_1345 wq_1 wq_1346) rfl rfl rfl (by decide +kernel) ⟨Nat.le_of_ble_eq_true rfl, Nat.le_of_ble_eq_true rfl⟩) (g_preV g_bl0 hK hPc hDc hS hE hFc g_to0 (q0 := 0) (ci := 11) rfl rfl) rfl rfl hl.1 rfl (lv_room (Nat.le_of_ble_eq_true rfl)) dL_told_4 ⟨Nat.le_of_ble_eq_true rfl, Nat.le_of_ble_eq_true rfl⟩) (fun E ce q9 H1 locs1 hXP hP' hD' hS' hce hcv hcl => ?_) (fun r_3 u_2 H_4 locs w_1 hP' hD' hS' => ?_)
  · clear hPc hDc hFc
    obtain ⟨rfl, hwx⟩ := hXP
    refine vx_catch (E := "java/lang/IllegalArgumentException") (name := "java/lang/IllegalArgumentException") hown [] ⟨0, 9, 12, 13⟩ [] (by rw [htb]; rfl) (fun z hz => nomatch hz) (by decide +kernel) (by decide) (hts (.classLink RL 13 "java/lang/IllegalArgumentException") wq_919) (va_Nw.use rfl (hN.2.2.2.1 _ (List.mem_of_getElem? (i := 0) rfl)).1) hce hcv hcl ?_
    replace hP := hP'; replace hD := hD'; replace hS := hS'; clear hP' hD' hS'
    replace hP : va_P (dC, dI) vwCl [(oa, .inl (cJ, 1, .inr (.inl og))), (h0, .inr (11, [.ref f_tape, .int 0, .ref f_words, .ref f_grammar, .ref f_meanings, .ref f_story, .ref f_draft, .int 0, .int 0, .int (-1), .ref f_told, .ref f_play, .ref f_machine, .ref f_teller, .ref f_saved, .ref f_isSaved, .ref f_past, .int 0, .int 0]))] H1 := hP
    replace hD : va_D A [(oa, .inl (cJ, 1, .inr (.inl og))), (h0, .inr (11, [.ref f_tape, .int 0, .ref f_words, .ref f_grammar, .ref f_meanings, .ref f_story, .ref f_draft, .int 0, .int 0, .int (-1), .ref f_told, .ref f_play, .ref f_machine, .ref f_teller, .ref f_saved, .ref f_isSaved, .ref f_past, .int 0, .int 0]))] := hD
    refine lv_astore_n (lv' := [(3, .ref q9), (0, .ref h0), (1, .int wh), (2, .ref oa)]) hx hb dL_told_12 rfl hl (by decide) rfl (fun ls hl => ?_)
    refine lv_iconst (v := 1) hx hb dL_told_13 (by decide +kernel) ?_
    have hP9 := hP.sub (ws' := [(h0, .inr (11, [.ref f_tape, .int 0, .ref f_words, .ref f_grammar, .ref f_meanings, .ref f_story, .ref f_draft, .int 0, .int 0, .int (-1), .ref f_told, .ref f_play, .ref f_machine, .ref f_teller, .ref f_saved, .ref f_isSaved, .ref f_past, .int 0, .int 0])), (oa, .inl (cJ, 1, .inr (.inl og)))]) [1, 0] rfl
    have hD9 := hD.sub (ws' := [(h0, .inr (11, [.ref f_tape, .int 0, .ref f_words, .ref f_grammar, .ref f_meanings, .ref f_story, .ref f_draft, .int 0, .int 0, .int (-1), .ref f_told, .ref f_play, .ref f_machine, .ref f_teller, .ref f_saved, .ref f_isSaved, .ref f_past, .int 0, .int 0])), (oa, .inl (cJ, 1, .inr (.inl og)))]) [1, 0] (by decide +kernel) rfl
    refine W.widen (k := 1) (n := 6) (Nat.le_of_ble_eq_true rfl) (Nat.le_of_ble_eq_true rfl) ?_
    exact W.iret (v := 1) hx hb hr (fun t ht hW => ⟨⟨1, og, rfl, (Or.inl ⟨rfl, hwx⟩), by rw [ht]; exact hP9, hD9⟩, hS.F ht⟩) hS.2.2 dL_told_14
  clear hPc hDc hFc
  have w_1 : r_3 = 0 ∧ ¬ wh < 0 ∧ wh ≤ 11 := w_1
  replace hP : va_P (dC, dI) vwCl [(oa, .inl (cJ, 1, .inr (.inl og))), (h0, .inr (11, [.ref f_tape, .int 0, .ref f_words, .ref f_grammar, .ref f_meanings, .ref f_story, .ref f_draft, .int 0, .int 0, .int (-1), .ref f_told, .ref f_play, .ref f_machine, .ref f_teller, .ref f_saved, .ref f_isSaved, .ref f_past, .int 0, .int 0]))] H_4 := hP'
  replace hD : va_D A [(oa, .inl (cJ, 1, .inr (.inl og))), (h0, .inr (11, [.ref f_tape, .int 0, .ref f_words, .ref f_grammar, .ref f_meanings, .ref f_story, .ref f_draft, .int 0, .int 0, .int (-1), .ref f_told, .ref f_play, .ref f_machine, .ref f_teller, .ref f_saved, .ref f_isSaved, .ref f_past, .int 0, .int 0]))] := hD'
  replace hS := hS'
  clear hP' hD' hS'
  refine W.widen (k := 1) (n := 6) (Nat.le_of_ble_eq_true rfl) (Nat.le_of_ble_eq_true rfl) ?_
  obtain rfl : 0 = r_3 := (w_1.1).symm
  refine lv_i2l hx hb dL_told_7 rfl ?_
  refine lv_topl (fun y_5 ey_5 => ?_)
  refine va_last hx hb hK hP hD hS 0 3 rfl rfl (vp_in_iff.mpr (by decide +kernel)) dL_told_8 (fun H_6 locs hP' hD' hS' => ?_)
  obtain ⟨f_7, ef_7⟩ : ∃ g9 : Nat → Int64, g9 = (vp_updL og (0 : Int32).toNatClampNeg y_5) := ⟨_, rfl⟩
  replace hP : va_P (dC, dI) vwCl [(oa, .inl (cJ, 1, .inr (.inl f_7))), (h0, .inr (11, [.ref f_tape, .int 0, .ref f_words, .ref f_grammar, .ref f_meanings, .ref f_story, .ref f_draft, .int 0, .int 0, .int (-1), .ref f_told, .ref f_play, .ref f_machine, .ref f_teller, .ref f_saved, .ref f_isSaved, .ref f_past, .int 0, .int 0]))] H_6 := by rw [ef_7]; exact hP'
  replace hD : va_D A [(oa, .inl (cJ, 1, .inr (.inl f_7))), (h0, .inr (11, [.ref f_tape, .int 0, .ref f_words, .ref f_grammar, .ref f_meanings, .ref f_story, .ref f_draft, .int 0, .int 0, .int (-1), .ref f_told, .ref f_play, .ref f_machine, .ref f_teller, .ref f_saved, .ref f_isSaved, .ref f_past, .int 0, .int 0]))] := by rw [ef_7]; exact hD'
  replace hS := hS'
  clear hP' hD' hS'
  refine lv_goto (tgt := 15) hx hb dL_told_9 (by decide) ?_
  refine lv_iconst (v := 0) hx hb dL_told_15 (by decide +kernel) ?_
  have hP9 := hP.sub (ws' := [(h0, .inr (11, [.ref f_tape, .int 0, .ref f_words, .ref f_grammar, .ref f_meanings, .ref f_story, .ref f_draft, .int 0, .int 0, .int (-1), .ref f_told, .ref f_play, .ref f_machine, .ref f_teller, .ref f_saved, .ref f_isSaved, .ref f_past, .int 0, .int 0])), (oa, .inl (cJ, 1, .inr (.inl f_7)))]) [1, 0] rfl
  have hD9 := hD.sub (ws' := [(h0, .inr (11, [.ref f_tape, .int 0, .ref f_words, .ref f_grammar, .ref f_meanings, .ref f_story, .ref f_draft, .int 0, .int 0, .int (-1), .ref f_told, .ref f_play, .ref f_machine, .ref f_teller, .ref f_saved, .ref f_isSaved, .ref f_past, .int 0, .int 0])), (oa, .inl (cJ, 1, .inr (.inl f_7)))]) [1, 0] (by decide +kernel) rfl
  refine W.widen (k := 1) (n := 6) (Nat.le_of_ble_eq_true rfl) (Nat.le_of_ble_eq_true rfl) ?_
  exact W.iret (v := 0) hx hb hr (fun t ht hW => ⟨⟨0, f_7, rfl, (Or.inr ⟨rfl, w_1.2.1, w_1.2.2, by subst_vars; rw [g_u0]; rfl⟩), by rw [ht]; exact hP9, hD9⟩, hS.F ht⟩) hS.2.2 dL_told_16
