/-! feed of the class -/
/-- byte i of a row, as both sides take it -/
def g_byte (row : Int64) (i : Int32) : Int32 := (row.toUInt64 >>> (((8 : Int32) * i).toInt64.toUInt64 &&& Int64.toUInt64 63)).toInt64.toInt32 &&& 255
/-- a byte of the tape -/
def g_ok (c : Int32) : Prop := c = 10 ∨ (32 ≤ c ∧ c ≤ 126)
def g_okb (c : Int32) : Int32 := if c = 10 ∨ (32 ≤ c ∧ c ≤ 126) then 1 else 0
theorem g_okb1 {c : Int32} : g_okb c ≠ 0 ↔ g_ok c := by unfold g_okb g_ok; split <;> simp_all
/-- what a feed takes: 1 .. 8 bytes, each of the tape's -/
def g_fit (row : Int64) (n : Int32) : Prop := ¬ n < 1 ∧ n ≤ 8 ∧ ∀ j : Nat, nI j < n → j < 8 → g_ok (g_byte row (nI j))
theorem g_n8 {n : Int32} (h1 : ¬ n < 1) (h8 : n ≤ 8) : ∃ j : Nat, 1 ≤ j ∧ j ≤ 8 ∧ n = nI j := by
  have e1 : (1 : Int32).toInt = 1 := by decide +kernel
  have e8 : (8 : Int32).toInt = 8 := by decide +kernel
  rw [Int32.lt_iff_toInt_lt, e1] at h1
  rw [Int32.le_iff_toInt_le, e8] at h8
  have e0 : (0 : Int32).toInt = 0 := by decide +kernel
  obtain ⟨j, hj, e⟩ := nI_of (x := n) (by rw [Int32.lt_iff_toInt_lt, e0]; omega)
  have ej : n.toInt = j := by rw [e]; exact nI_toInt hj
  exact ⟨j, by omega, by omega, e⟩
theorem g_klt {x n : Int32} {k : Nat} (ex : x = nI k) (hk : k ≤ 8) (h8 : n ≤ 8) (h : x < n) : k < 8 := by
  have e8 : (8 : Int32).toInt = 8 := by decide +kernel
  rw [Int32.le_iff_toInt_le, e8] at h8
  rw [Int32.lt_iff_toInt_lt, ex, nI_toInt (by omega)] at h
  omega
theorem g_kle {x n : Int32} {k : Nat} (ex : x = nI k) (hk : k ≤ 8) (h8 : n ≤ 8) (h : x < n) : k + 1 ≤ 8 := g_klt ex hk h8 h
theorem g_kj {x n : Int32} {k j : Nat} (ex : x = nI k) (en : n = nI j) (hj : j ≤ 8) (hk : k ≤ j) (h : x < n) : k + 1 ≤ j := by
  rw [Int32.lt_iff_toInt_lt, ex, en, nI_toInt (by omega), nI_toInt (by omega)] at h
  omega
theorem g_jk {x n : Int32} {k j : Nat} (ex : x = nI k) (en : n = nI j) (hj : j ≤ 8) (hk : k ≤ 8) (h : n ≤ x) : j ≤ k := by
  rw [Int32.le_iff_toInt_le, ex, en, nI_toInt (by omega), nI_toInt (by omega)] at h
  omega
theorem g_end {x n : Int32} {k j : Nat} (ex : x = nI k) (en : n = nI j) (hj : j ≤ 8) (hk : k ≤ j) (h : n ≤ x) : k = j := by
  have := g_jk ex en hj (by omega) h
  omega
theorem g_in16 {x : Int32} {k j : Nat} (ex : x = nI k) (hk : k ≤ j) (hj : j ≤ 8) : vp_in x 16000 := by
  rw [ex]; exact vp_in_nI (by omega) (by omega)
theorem g_n16 {n : Int32} (h8 : n ≤ 8) : (0 : Int32) + n ≤ 16000 := by
  rw [Int32.zero_add]
  exact Int32.le_trans h8 (by decide +kernel)
theorem g_fitall {row : Int64} {n : Int32} {j : Nat} (en : n = nI j) (hj : j ≤ 8) (h : ∀ i : Nat, i < j → g_ok (g_byte row (nI i))) : ∀ i : Nat, nI i < n → i < 8 → g_ok (g_byte row (nI i)) := fun i hi h8 => h i (by
  rw [Int32.lt_iff_toInt_lt, en, nI_toInt (by omega), nI_toInt (by omega)] at hi
  omega)
theorem dX11_byteOf_0 : decode cX11_byteOf 0 = .ok (.lload_n 0, 1) := by decide +kernel
theorem dX11_byteOf_1 : decode cX11_byteOf 1 = .ok (.bipush 8, 2) := by decide +kernel
theorem dX11_byteOf_3 : decode cX11_byteOf 3 = .ok (.iload_n 2, 1) := by decide +kernel
theorem dX11_byteOf_4 : decode cX11_byteOf 4 = .ok (.imul, 1) := by decide +kernel
theorem dX11_byteOf_5 : decode cX11_byteOf 5 = .ok (.lushr, 1) := by decide +kernel
theorem dX11_byteOf_6 : decode cX11_byteOf 6 = .ok (.l2i, 1) := by decide +kernel
theorem dX11_byteOf_7 : decode cX11_byteOf 7 = .ok (.sipush 255, 3) := by decide +kernel
theorem dX11_byteOf_10 : decode cX11_byteOf 10 = .ok (.iand, 1) := by decide +kernel
theorem dX11_byteOf_11 : decode cX11_byteOf 11 = .ok (.ireturn, 1) := by decide +kernel
theorem dX11_isTapeByte_0 : decode cX11_isTapeByte 0 = .ok (.iload_n 0, 1) := by decide +kernel
theorem dX11_isTapeByte_1 : decode cX11_isTapeByte 1 = .ok (.bipush 10, 2) := by decide +kernel
theorem dX11_isTapeByte_3 : decode cX11_isTapeByte 3 = .ok (.if_icmp .eq 15, 3) := by decide +kernel
theorem dX11_isTapeByte_6 : decode cX11_isTapeByte 6 = .ok (.iload_n 0, 1) := by decide +kernel
theorem dX11_isTapeByte_7 : decode cX11_isTapeByte 7 = .ok (.bipush 32, 2) := by decide +kernel
theorem dX11_isTapeByte_9 : decode cX11_isTapeByte 9 = .ok (.if_icmp .lt 13, 3) := by decide +kernel
theorem dX11_isTapeByte_12 : decode cX11_isTapeByte 12 = .ok (.iload_n 0, 1) := by decide +kernel
theorem dX11_isTapeByte_13 : decode cX11_isTapeByte 13 = .ok (.bipush 126, 2) := by decide +kernel
theorem dX11_isTapeByte_15 : decode cX11_isTapeByte 15 = .ok (.if_icmp .gt 7, 3) := by decide +kernel
theorem dX11_isTapeByte_18 : decode cX11_isTapeByte 18 = .ok (.iconst 1, 1) := by decide +kernel
theorem dX11_isTapeByte_19 : decode cX11_isTapeByte 19 = .ok (.goto 4, 3) := by decide +kernel
theorem dX11_isTapeByte_22 : decode cX11_isTapeByte 22 = .ok (.iconst 0, 1) := by decide +kernel
theorem dX11_isTapeByte_23 : decode cX11_isTapeByte 23 = .ok (.ireturn, 1) := by decide +kernel
theorem dX11_feed_0 : decode cX11_feed 0 = .ok (.iload_n 3, 1) := by decide +kernel
theorem dX11_feed_1 : decode cX11_feed 1 = .ok (.iconst 1, 1) := by decide +kernel
theorem dX11_feed_2 : decode cX11_feed 2 = .ok (.if_icmp .lt 9, 3) := by decide +kernel
theorem dX11_feed_5 : decode cX11_feed 5 = .ok (.iload_n 3, 1) := by decide +kernel
theorem dX11_feed_6 : decode cX11_feed 6 = .ok (.bipush 8, 2) := by decide +kernel
theorem dX11_feed_8 : decode cX11_feed 8 = .ok (.if_icmp .le 13, 3) := by decide +kernel
theorem dX11_feed_11 : decode cX11_feed 11 = .ok (.new 95, 3) := by decide +kernel
theorem dX11_feed_14 : decode cX11_feed 14 = .ok (.dup, 1) := by decide +kernel
theorem dX11_feed_15 : decode cX11_feed 15 = .ok (.ldc 97, 2) := by decide +kernel
theorem dX11_feed_17 : decode cX11_feed 17 = .ok (.invokespecial 99, 3) := by decide +kernel
theorem dX11_feed_20 : decode cX11_feed 20 = .ok (.athrow, 1) := by decide +kernel
theorem dX11_feed_21 : decode cX11_feed 21 = .ok (.iconst 0, 1) := by decide +kernel
theorem dX11_feed_22 : decode cX11_feed 22 = .ok (.istore 4, 2) := by decide +kernel
theorem dX11_feed_24 : decode cX11_feed 24 = .ok (.iload 4, 2) := by decide +kernel
theorem dX11_feed_26 : decode cX11_feed 26 = .ok (.iload_n 3, 1) := by decide +kernel
theorem dX11_feed_27 : decode cX11_feed 27 = .ok (.if_icmp .ge 31, 3) := by decide +kernel
theorem dX11_feed_30 : decode cX11_feed 30 = .ok (.lload_n 1, 1) := by decide +kernel
theorem dX11_feed_31 : decode cX11_feed 31 = .ok (.iload 4, 2) := by decide +kernel
theorem dX11_feed_33 : decode cX11_feed 33 = .ok (.invokestatic 102, 3) := by decide +kernel
theorem dX11_feed_36 : decode cX11_feed 36 = .ok (.invokestatic 106, 3) := by decide +kernel
theorem dX11_feed_39 : decode cX11_feed 39 = .ok (.ifCond .ne 13, 3) := by decide +kernel
theorem dX11_feed_42 : decode cX11_feed 42 = .ok (.new 95, 3) := by decide +kernel
theorem dX11_feed_45 : decode cX11_feed 45 = .ok (.dup, 1) := by decide +kernel
theorem dX11_feed_46 : decode cX11_feed 46 = .ok (.ldc 110, 2) := by decide +kernel
theorem dX11_feed_48 : decode cX11_feed 48 = .ok (.invokespecial 99, 3) := by decide +kernel
theorem dX11_feed_51 : decode cX11_feed 51 = .ok (.athrow, 1) := by decide +kernel
theorem dX11_feed_52 : decode cX11_feed 52 = .ok (.iinc 4 1, 3) := by decide +kernel
theorem dX11_feed_55 : decode cX11_feed 55 = .ok (.goto (-31), 3) := by decide +kernel
theorem dX11_feed_58 : decode cX11_feed 58 = .ok (.aload_n 0, 1) := by decide +kernel
theorem dX11_feed_59 : decode cX11_feed 59 = .ok (.getfield 112, 3) := by decide +kernel
theorem dX11_feed_62 : decode cX11_feed 62 = .ok (.iload_n 3, 1) := by decide +kernel
theorem dX11_feed_63 : decode cX11_feed 63 = .ok (.iadd, 1) := by decide +kernel
theorem dX11_feed_64 : decode cX11_feed 64 = .ok (.sipush 16000, 3) := by decide +kernel
theorem dX11_feed_67 : decode cX11_feed 67 = .ok (.if_icmp .le 13, 3) := by decide +kernel
theorem dX11_feed_70 : decode cX11_feed 70 = .ok (.new 115, 3) := by decide +kernel
theorem dX11_feed_73 : decode cX11_feed 73 = .ok (.dup, 1) := by decide +kernel
theorem dX11_feed_74 : decode cX11_feed 74 = .ok (.ldc 117, 2) := by decide +kernel
theorem dX11_feed_76 : decode cX11_feed 76 = .ok (.invokespecial 119, 3) := by decide +kernel
theorem dX11_feed_79 : decode cX11_feed 79 = .ok (.athrow, 1) := by decide +kernel
theorem dX11_feed_80 : decode cX11_feed 80 = .ok (.iconst 0, 1) := by decide +kernel
theorem dX11_feed_81 : decode cX11_feed 81 = .ok (.istore 4, 2) := by decide +kernel
theorem dX11_feed_83 : decode cX11_feed 83 = .ok (.iload 4, 2) := by decide +kernel
theorem dX11_feed_85 : decode cX11_feed 85 = .ok (.iload_n 3, 1) := by decide +kernel
theorem dX11_feed_86 : decode cX11_feed 86 = .ok (.if_icmp .ge 35, 3) := by decide +kernel
theorem dX11_feed_89 : decode cX11_feed 89 = .ok (.aload_n 0, 1) := by decide +kernel
theorem dX11_feed_90 : decode cX11_feed 90 = .ok (.getfield 9, 3) := by decide +kernel
theorem dX11_feed_93 : decode cX11_feed 93 = .ok (.aload_n 0, 1) := by decide +kernel
theorem dX11_feed_94 : decode cX11_feed 94 = .ok (.getfield 112, 3) := by decide +kernel
theorem dX11_feed_97 : decode cX11_feed 97 = .ok (.lload_n 1, 1) := by decide +kernel
theorem dX11_feed_98 : decode cX11_feed 98 = .ok (.iload 4, 2) := by decide +kernel
theorem dX11_feed_100 : decode cX11_feed 100 = .ok (.invokestatic 102, 3) := by decide +kernel
theorem dX11_feed_103 : decode cX11_feed 103 = .ok (.i2b, 1) := by decide +kernel
theorem dX11_feed_104 : decode cX11_feed 104 = .ok (.bastore, 1) := by decide +kernel
theorem dX11_feed_105 : decode cX11_feed 105 = .ok (.aload_n 0, 1) := by decide +kernel
theorem dX11_feed_106 : decode cX11_feed 106 = .ok (.dup, 1) := by decide +kernel
theorem dX11_feed_107 : decode cX11_feed 107 = .ok (.getfield 112, 3) := by decide +kernel
theorem dX11_feed_110 : decode cX11_feed 110 = .ok (.iconst 1, 1) := by decide +kernel
theorem dX11_feed_111 : decode cX11_feed 111 = .ok (.iadd, 1) := by decide +kernel
theorem dX11_feed_112 : decode cX11_feed 112 = .ok (.putfield 112, 3) := by decide +kernel
theorem dX11_feed_115 : decode cX11_feed 115 = .ok (.iinc 4 1, 3) := by decide +kernel
theorem dX11_feed_118 : decode cX11_feed 118 = .ok (.goto (-35), 3) := by decide +kernel
theorem dX11_feed_121 : decode cX11_feed 121 = .ok (.aload_n 0, 1) := by decide +kernel
theorem dX11_feed_122 : decode cX11_feed 122 = .ok (.getfield 112, 3) := by decide +kernel
theorem dX11_feed_125 : decode cX11_feed 125 = .ok (.ireturn, 1) := by decide +kernel
abbrev ww_X11_byteOf (cB cC cI cJ cZ cP : ClassId) (row : Int64) (i : Int32) : va_W := []
abbrev q_X11_byteOf (dC : Nat → ClassId) (dI : Nat → Nat → Nat) (cB cC cI cJ cZ cP : ClassId) (row : Int64) (i : Int32) (A : Nat → Prop) : Array Value → State → Outcome → State → Prop := va_Qi (fun (r : Int32) (_ : Unit) => r = g_byte row i) (g_Bo (dC, dI) A (fun (_ : Unit) => [])) A
set_option maxHeartbeats 4000000 in
set_option maxRecDepth 100000 in
theorem c_X11_byteOf (l : Launch) (dC : Nat → ClassId) (dI : Nat → Nat → Nat) (cB cC cI cJ cZ cP : ClassId) (sz : Nat) (row : Int64) (i : Int32)  : Met l yX11_byteOf (g_ws yX11_byteOf cX11_byteOf 3 (some .int)) ({ frames := 1, cells := 0, slots := 0, locals := 40 }) (va_Pc [.long row, .int i] (g_B (dC, dI) [(cB, .byte), (cC, .char), (cI, .int), (cJ, .long), (cZ, .boolean), (cP, .object "StoryHouse$Play")] sz (ww_X11_byteOf cB cC cI cJ cZ cP row i) g_0)) (q_X11_byteOf dC dI cB cC cI cJ cZ cP row i (va_A (ww_X11_byteOf cB cC cI cJ cZ cP row i) sz)) 0 0 (va_A (ww_X11_byteOf cB cC cI cJ cZ cP row i) sz) := by
  refine Met.ofW (cc := cX11_byteOf) (maxL := 3) (ret := (some .int)) (by decide) rfl ?_
  intro p e s m args below meth c s₁ B hml hv
  obtain ⟨rfl, hsz, hP, hK, hD0, hE, hX⟩ := hv
  have hx := B.exec
  have hb := B.bytes
  have hr := B.returns
  have hts0 := atoms_spec (ws := (g_ws yX11_byteOf cX11_byteOf 3 (some .int))) B.pre
  have hts : ∀ w ∈ lw_good, w.before ([.long row, .int i] : List Value).toArray s = true := fun w h => hts0 w (List.mem_cons_of_mem _ h)
  have hown : s.vm.findClass RX11 = some m.cls := findClass_of_methodNamed B.named
  have hlocks := B.notSynchronized
  subst hsz
  have hD := hD0.self (sz := s.heap.size)
  generalize hAe : va_A (ww_X11_byteOf cB cC cI cJ cZ cP row i) s.heap.size = A at hD hE hX ⊢
  have hA : ∀ q : Nat, s.heap.size ≤ q → A q := fun q h => by rw [← hAe]; exact Or.inr h
  have hN := hE.1
  have hS : va_S A s.heap s.heap [] := va_S.rf
  have hP : va_P (dC, dI) vwCl [] s.heap := hP
  have hl := lv_entry ([.long row, .int i]) (n := 3) (Nat.le_of_ble_eq_true rfl)
  rw [lg_entry_eq]
  generalize (lg_sl ([.long row, .int i]) ++ List.replicate (3 - (lg_sl ([.long row, .int i])).length) Slot.unset).toArray = ls at hl ⊢
  have hl : lv_has ls 3 [(0, .long row), (2, .int i)] := hl
  refine lv_lload_n hx hb dX11_byteOf_0 rfl (lv_at hl 0 rfl) ?_
  refine lv_bipush (v := 8) hx hb dX11_byteOf_1 (by decide +kernel) ?_
  refine lv_iload_n hx hb dX11_byteOf_3 rfl (lv_at hl 1 rfl) ?_
  refine lv_imul hx hb dX11_byteOf_4 ?_
  refine lv_topi (fun x_1 ex_1 => ?_)
  refine lv_lushr hx hb dX11_byteOf_5 rfl ?_
  refine lv_topl (fun y_2 ey_2 => ?_)
  refine lv_l2i hx hb dX11_byteOf_6 rfl ?_
  refine lv_topi (fun x_3 ex_3 => ?_)
  refine lv_sipush (v := 255) hx hb dX11_byteOf_7 (by decide +kernel) ?_
  refine lv_iand hx hb dX11_byteOf_10 ?_
  refine lv_topi (fun x_4 ex_4 => ?_)
  have hP9 := hP.sub (ws' := []) [] rfl
  have hD9 := hD.sub (ws' := []) [] (by decide +kernel) rfl
  refine W.widen (k := 0) (n := 0) (Nat.le_of_ble_eq_true rfl) (Nat.le_of_ble_eq_true rfl) ?_
  exact W.iret (v := x_4) hx hb hr (fun t ht hW => ⟨⟨x_4, (), rfl, (by subst_vars; rfl), by rw [ht]; exact hP9, hD9⟩, hS.F ht⟩) hS.2.2 dX11_byteOf_11

abbrev ww_X11_isTapeByte (cB cC cI cJ cZ cP : ClassId) (cc : Int32) : va_W := []
abbrev q_X11_isTapeByte (dC : Nat → ClassId) (dI : Nat → Nat → Nat) (cB cC cI cJ cZ cP : ClassId) (cc : Int32) (A : Nat → Prop) : Array Value → State → Outcome → State → Prop := va_Qi (fun (r : Int32) (_ : Unit) => r = g_okb cc) (g_Bo (dC, dI) A (fun (_ : Unit) => [])) A
set_option maxHeartbeats 4000000 in
set_option maxRecDepth 100000 in
theorem c_X11_isTapeByte (l : Launch) (dC : Nat → ClassId) (dI : Nat → Nat → Nat) (cB cC cI cJ cZ cP : ClassId) (sz : Nat) (cc : Int32)  : Met l yX11_isTapeByte (g_ws yX11_isTapeByte cX11_isTapeByte 1 (some .boolean)) ({ frames := 1, cells := 0, slots := 0, locals := 40 }) (va_Pc [.int cc] (g_B (dC, dI) [(cB, .byte), (cC, .char), (cI, .int), (cJ, .long), (cZ, .boolean), (cP, .object "StoryHouse$Play")] sz (ww_X11_isTapeByte cB cC cI cJ cZ cP cc) g_0)) (q_X11_isTapeByte dC dI cB cC cI cJ cZ cP cc (va_A (ww_X11_isTapeByte cB cC cI cJ cZ cP cc) sz)) 0 0 (va_A (ww_X11_isTapeByte cB cC cI cJ cZ cP cc) sz) := by
  refine Met.ofW (cc := cX11_isTapeByte) (maxL := 1) (ret := (some .boolean)) (by decide) rfl ?_
  intro p e s m args below meth c s₁ B hml hv
  obtain ⟨rfl, hsz, hP, hK, hD0, hE, hX⟩ := hv
  have hx := B.exec
  have hb := B.bytes
  have hr := B.returns
  have hts0 := atoms_spec (ws := (g_ws yX11_isTapeByte cX11_isTapeByte 1 (some .boolean))) B.pre
  have hts : ∀ w ∈ lw_good, w.before ([.int cc] : List Value).toArray s = true := fun w h => hts0 w (List.mem_cons_of_mem _ h)
  have hown : s.vm.findClass RX11 = some m.cls := findClass_of_methodNamed B.named
  have hlocks := B.notSynchronized
  subst hsz
  have hD := hD0.self (sz := s.heap.size)
  generalize hAe : va_A (ww_X11_isTapeByte cB cC cI cJ cZ cP cc) s.heap.size = A at hD hE hX ⊢
  have hA : ∀ q : Nat, s.heap.size ≤ q → A q := fun q h => by rw [← hAe]; exact Or.inr h
  have hN := hE.1
  have hS : va_S A s.heap s.heap [] := va_S.rf
  have hP : va_P (dC, dI) vwCl [] s.heap := hP
  have hl := lv_entry ([.int cc]) (n := 1) (Nat.le_of_ble_eq_true rfl)
  rw [lg_entry_eq]
  generalize (lg_sl ([.int cc]) ++ List.replicate (1 - (lg_sl ([.int cc])).length) Slot.unset).toArray = ls at hl ⊢
  have hl : lv_has ls 1 [(0, .int cc)] := hl
  refine lv_iload_n hx hb dX11_isTapeByte_0 rfl (lv_at hl 0 rfl) ?_
  refine lv_bipush (v := 10) hx hb dX11_isTapeByte_1 (by decide +kernel) ?_
  refine lv_icmp_eq (tgt := 18) hx hb dX11_isTapeByte_3 (by decide) (fun c_1 => ?_) (fun c_1 => ?_)
  · refine lv_iconst (v := 1) hx hb dX11_isTapeByte_18 (by decide +kernel) ?_
    refine lv_goto (tgt := 23) hx hb dX11_isTapeByte_19 (by decide) ?_
    have hP9 := hP.sub (ws' := []) [] rfl
    have hD9 := hD.sub (ws' := []) [] (by decide +kernel) rfl
    refine W.widen (k := 0) (n := 0) (Nat.le_of_ble_eq_true rfl) (Nat.le_of_ble_eq_true rfl) ?_
    exact W.zret (v := 1) hx hb hr (by decide +kernel) (fun t ht hW => ⟨⟨1, (), rfl, ((if_pos (by first | exact Or.inl (by assumption) | exact Or.inr ⟨Int32.not_lt.mp (by assumption), Int32.not_lt.mp (by assumption)⟩)).symm), by rw [ht]; exact hP9, hD9⟩, hS.F ht⟩) hS.2.2 dX11_isTapeByte_23
  · refine lv_iload_n hx hb dX11_isTapeByte_6 rfl (lv_at hl 0 rfl) ?_
    refine lv_bipush (v := 32) hx hb dX11_isTapeByte_7 (by decide +kernel) ?_
    refine lv_icmp_lt (tgt := 22) hx hb dX11_isTapeByte_9 (by decide) (fun c_2 => ?_) (fun c_2 => ?_)
    · refine lv_iconst (v := 0) hx hb dX11_isTapeByte_22 (by decide +kernel) ?_
      have hP9 := hP.sub (ws' := []) [] rfl
      have hD9 := hD.sub (ws' := []) [] (by decide +kernel) rfl
      refine W.widen (k := 0) (n := 0) (Nat.le_of_ble_eq_true rfl) (Nat.le_of_ble_eq_true rfl) ?_
      exact W.zret (v := 0) hx hb hr (by decide +kernel) (fun t ht hW => ⟨⟨0, (), rfl, ((if_neg (fun h => h.elim (fun e => absurd e (by assumption)) (fun e => by first | exact absurd ‹cc < 32› (Int32.not_lt.mpr e.1) | exact absurd ‹126 < cc› (Int32.not_lt.mpr e.2)))).symm), by rw [ht]; exact hP9, hD9⟩, hS.F ht⟩) hS.2.2 dX11_isTapeByte_23
    · refine lv_iload_n hx hb dX11_isTapeByte_12 rfl (lv_at hl 0 rfl) ?_
      refine lv_bipush (v := 126) hx hb dX11_isTapeByte_13 (by decide +kernel) ?_
      refine lv_icmp_gt (tgt := 22) hx hb dX11_isTapeByte_15 (by decide) (fun c_3 => ?_) (fun c_3 => ?_)
      · refine lv_iconst (v := 0) hx hb dX11_isTapeByte_22 (by decide +kernel) ?_
        have hP9 := hP.sub (ws' := []) [] rfl
        have hD9 := hD.sub (ws' := []) [] (by decide +kernel) rfl
        refine W.widen (k := 0) (n := 0) (Nat.le_of_ble_eq_true rfl) (Nat.le_of_ble_eq_true rfl) ?_
        exact W.zret (v := 0) hx hb hr (by decide +kernel) (fun t ht hW => ⟨⟨0, (), rfl, ((if_neg (fun h => h.elim (fun e => absurd e (by assumption)) (fun e => by first | exact absurd ‹cc < 32› (Int32.not_lt.mpr e.1) | exact absurd ‹126 < cc› (Int32.not_lt.mpr e.2)))).symm), by rw [ht]; exact hP9, hD9⟩, hS.F ht⟩) hS.2.2 dX11_isTapeByte_23
      · refine lv_iconst (v := 1) hx hb dX11_isTapeByte_18 (by decide +kernel) ?_
        refine lv_goto (tgt := 23) hx hb dX11_isTapeByte_19 (by decide) ?_
        have hP9 := hP.sub (ws' := []) [] rfl
        have hD9 := hD.sub (ws' := []) [] (by decide +kernel) rfl
        refine W.widen (k := 0) (n := 0) (Nat.le_of_ble_eq_true rfl) (Nat.le_of_ble_eq_true rfl) ?_
        exact W.zret (v := 1) hx hb hr (by decide +kernel) (fun t ht hW => ⟨⟨1, (), rfl, ((if_pos (by first | exact Or.inl (by assumption) | exact Or.inr ⟨Int32.not_lt.mp (by assumption), Int32.not_lt.mp (by assumption)⟩)).symm), by rw [ht]; exact hP9, hD9⟩, hS.F ht⟩) hS.2.2 dX11_isTapeByte_23

abbrev ww_X11_feed (cB cC cI cJ cZ cP : ClassId) (h0 : Nat) (f_tape : Nat) (f_words : Nat) (f_grammar : Nat) (f_meanings : Nat) (f_story : Nat) (f_draft : Nat) (f_told : Nat) (f_play : Nat) (f_machine : Nat) (f_teller : Nat) (f_saved : Nat) (f_isSaved : Nat) (f_past : Nat) (row : Int64) (n : Int32) (tf : Nat → Int32) : va_W := [(h0, .inr (11, [.ref f_tape, .int 0, .ref f_words, .ref f_grammar, .ref f_meanings, .ref f_story, .ref f_draft, .int 0, .int 0, .int (-1), .ref f_told, .ref f_play, .ref f_machine, .ref f_teller, .ref f_saved, .ref f_isSaved, .ref f_past, .int 0, .int 0])), (f_tape, .inl (cB, 16000, .inl tf))]
abbrev q_X11_feed (dC : Nat → ClassId) (dI : Nat → Nat → Nat) (cB cC cI cJ cZ cP : ClassId) (h0 : Nat) (f_tape : Nat) (f_words : Nat) (f_grammar : Nat) (f_meanings : Nat) (f_story : Nat) (f_draft : Nat) (f_told : Nat) (f_play : Nat) (f_machine : Nat) (f_teller : Nat) (f_saved : Nat) (f_isSaved : Nat) (f_past : Nat) (row : Int64) (n : Int32) (tf : Nat → Int32) (A : Nat → Prop) : Array Value → State → Outcome → State → Prop := va_Qi (fun (r : Int32) (u : Int32 × (Nat → Int32)) => match u with | (tl2, tf2) => r = n ∧ tl2 = n ∧ g_fit row n) (g_Bo (dC, dI) A (fun (u : Int32 × (Nat → Int32)) => match u with | (tl2, tf2) => [(h0, .inr (11, [.ref f_tape, .int tl2, .ref f_words, .ref f_grammar, .ref f_meanings, .ref f_story, .ref f_draft, .int 0, .int 0, .int (-1), .ref f_told, .ref f_play, .ref f_machine, .ref f_teller, .ref f_saved, .ref f_isSaved, .ref f_past, .int 0, .int 0])), (f_tape, .inl (cB, 16000, .inl tf2))])) A
set_option maxHeartbeats 4000000 in
set_option maxRecDepth 100000 in
theorem c_X11_feed (l : Launch) (dC : Nat → ClassId) (dI : Nat → Nat → Nat) (cB cC cI cJ cZ cP : ClassId) (hfl : l.stackTraces = false) (sz : Nat) (h0 : Nat) (f_tape : Nat) (f_words : Nat) (f_grammar : Nat) (f_meanings : Nat) (f_story : Nat) (f_draft : Nat) (f_told : Nat) (f_play : Nat) (f_machine : Nat) (f_teller : Nat) (f_saved : Nat) (f_isSaved : Nat) (f_past : Nat) (row : Int64) (n : Int32) (tf : Nat → Int32)  : vx_Met l yX11_feed (g_ws yX11_feed cX11_feed 5 (some .int)) ({ frames := 6, cells := 1, slots := 6, locals := 90 }) (va_Pc [.ref h0, .long row, .int n] (g_B (dC, dI) [(cB, .byte), (cC, .char), (cI, .int), (cJ, .long), (cZ, .boolean), (cP, .object "StoryHouse$Play")] sz (ww_X11_feed cB cC cI cJ cZ cP h0 f_tape f_words f_grammar f_meanings f_story f_draft f_told f_play f_machine f_teller f_saved f_isSaved f_past row n tf) g_0)) (q_X11_feed dC dI cB cC cI cJ cZ cP h0 f_tape f_words f_grammar f_meanings f_story f_draft f_told f_play f_machine f_teller f_saved f_isSaved f_past row n tf (va_A (ww_X11_feed cB cC cI cJ cZ cP h0 f_tape f_words f_grammar f_meanings f_story f_draft f_told f_play f_machine f_teller f_saved f_isSaved f_past row n tf) sz)) (g_X (dC, dI) (va_A (ww_X11_feed cB cC cI cJ cZ cP h0 f_tape f_words f_grammar f_meanings f_story f_draft f_told f_play f_machine f_teller f_saved f_isSaved f_past row n tf) sz) [(h0, .inr (11, [.ref f_tape, .int 0, .ref f_words, .ref f_grammar, .ref f_meanings, .ref f_story, .ref f_draft, .int 0, .int 0, .int (-1), .ref f_told, .ref f_play, .ref f_machine, .ref f_teller, .ref f_saved, .ref f_isSaved, .ref f_past, .int 0, .int 0])), (f_tape, .inl (cB, 16000, .inl tf))] (fun E : String => E = "java/lang/IllegalArgumentException" ∧ ¬ g_fit row n)) 1 6 (va_A (ww_X11_feed cB cC cI cJ cZ cP h0 f_tape f_words f_grammar f_meanings f_story f_draft f_told f_play f_machine f_teller f_saved f_isSaved f_past row n tf) sz) := by
  refine vx_ofW (cc := cX11_feed) (maxL := 5) (ret := (some .int)) (by decide) rfl ?_
  intro p e s m args below meth c s₁ B hml htab hv
  obtain ⟨rfl, hsz, hP, hK, hD0, hE, hX⟩ := hv
  have hx := B.exec
  have hb := B.bytes
  have hr := B.returns
  have hts0 := atoms_spec (ws := (g_ws yX11_feed cX11_feed 5 (some .int))) B.pre
  have hts : ∀ w ∈ lw_good, w.before ([.ref h0, .long row, .int n] : List Value).toArray s = true := fun w h => hts0 w (List.mem_cons_of_mem _ h)
  have hown : s.vm.findClass RX11 = some m.cls := findClass_of_methodNamed B.named
  have hlocks := B.notSynchronized
  subst hsz
  have hD := hD0.self (sz := s.heap.size)
  generalize hAe : va_A (ww_X11_feed cB cC cI cJ cZ cP h0 f_tape f_words f_grammar f_meanings f_story f_draft f_told f_play f_machine f_teller f_saved f_isSaved f_past row n tf) s.heap.size = A at hD hE hX ⊢
  have hA : ∀ q : Nat, s.heap.size ≤ q → A q := fun q h => by rw [← hAe]; exact Or.inr h
  have hN := hE.1
  have hS : va_S A s.heap s.heap [] := va_S.rf
  have hP : va_P (dC, dI) vwCl [(h0, .inr (11, [.ref f_tape, .int 0, .ref f_words, .ref f_grammar, .ref f_meanings, .ref f_story, .ref f_draft, .int 0, .int 0, .int (-1), .ref f_told, .ref f_play, .ref f_machine, .ref f_teller, .ref f_saved, .ref f_isSaved, .ref f_past, .int 0, .int 0])), (f_tape, .inl (cB, 16000, .inl tf))] s.heap := hP
  have hl := lv_entry ([.ref h0, .long row, .int n]) (n := 5) (Nat.le_of_ble_eq_true rfl)
  rw [lg_entry_eq]
  generalize (lg_sl ([.ref h0, .long row, .int n]) ++ List.replicate (5 - (lg_sl ([.ref h0, .long row, .int n])).length) Slot.unset).toArray = ls at hl ⊢
  have hl : lv_has ls 5 [(0, .ref h0), (1, .long row), (3, .int n)] := hl
  refine lv_iload_n hx hb dX11_feed_0 rfl (lv_at hl 2 rfl) ?_
  refine lv_iconst (v := 1) hx hb dX11_feed_1 (by decide +kernel) ?_
  refine lv_icmp_lt (tgt := 11) hx hb dX11_feed_2 (by decide) (fun c_1 => ?_) (fun c_1 => ?_)
  · obtain ⟨q_2, vq_2, hRq_2, hSq_2⟩ := hE.2.2.2.2 _ (List.mem_of_getElem? (i := 22) rfl)
    have hPx := hP.sub (ws' := [(h0, .inr (11, [.ref f_tape, .int 0, .ref f_words, .ref f_grammar, .ref f_meanings, .ref f_story, .ref f_draft, .int 0, .int 0, .int (-1), .ref f_told, .ref f_play, .ref f_machine, .ref f_teller, .ref f_saved, .ref f_isSaved, .ref f_past, .int 0, .int 0])), (f_tape, .inl (cB, 16000, .inl tf))]) [0, 1] rfl
    have hDx := hD.sub (ws' := [(h0, .inr (11, [.ref f_tape, .int 0, .ref f_words, .ref f_grammar, .ref f_meanings, .ref f_story, .ref f_draft, .int 0, .int 0, .int (-1), .ref f_told, .ref f_play, .ref f_machine, .ref f_teller, .ref f_saved, .ref f_isSaved, .ref f_past, .int 0, .int 0])), (f_tape, .inl (cB, 16000, .inl tf))]) [0, 1] (by decide +kernel) rfl
    exact vx_throwS hx hb hfl (own := RX11) (cls := "java/lang/IllegalArgumentException") (text := "n is not 1 .. 8") (names := ["java/lang/RuntimeException", "java/lang/Exception"]) (A := A) hown (by decide +kernel) (by decide +kernel) (hts (.classLink RX11 95 "java/lang/IllegalArgumentException") wq_925) (hts (.initialized "java/lang/IllegalArgumentException") wq_17) hRq_2 (g_bad hN (fun w h => hts w (wx_99 w h)) (by decide +kernel) (g_badB hN (List.mem_of_getElem? (i := 0) rfl))) (by decide +kernel) hE.2.1 hE.2.2.1 hS (hl.1.trans hml.symm) dX11_feed_11 dX11_feed_14 dX11_feed_15 dX11_feed_17 dX11_feed_20 (fun x hx => (htab x hx).elim) (by decide) (by decide) (Nat.le_of_ble_eq_true rfl) (Nat.le_of_ble_eq_true rfl) hlocks (g_thr hPx hDx hS ⟨rfl, fun h => by first | exact h.1 (by assumption) | exact absurd h.2.1 (by assumption)⟩) hS.2.2 (Nat.le_of_ble_eq_true rfl) (Nat.le_of_ble_eq_true rfl)
  · refine lv_iload_n hx hb dX11_feed_5 rfl (lv_at hl 2 rfl) ?_
    refine lv_bipush (v := 8) hx hb dX11_feed_6 (by decide +kernel) ?_
    refine lv_icmp_le (tgt := 21) hx hb dX11_feed_8 (by decide) (fun c_3 => ?_) (fun c_3 => ?_)
    · have h1 : ¬ n < 1 := by assumption
      have h8 : n ≤ 8 := by assumption
      obtain ⟨j, hj1, hj8, en⟩ := g_n8 h1 h8
      refine lv_iconst (v := 0) hx hb dX11_feed_21 (by decide +kernel) ?_
      refine lv_istore (lv' := [(4, .int 0), (0, .ref h0), (1, .long row), (3, .int n)]) hx hb dX11_feed_22 hl (by decide) rfl (fun ls hl => ?_)
      have LOOP_4 : ∀ (fu : Nat) (k : Nat) (x4 : Int32) (ex4 : x4 = nI k) (hk : k ≤ 8) (hok : ∀ j : Nat, j < k → g_ok (g_byte row (nI j))) (hfu : 9 - k < fu) (H : Heap) (locs : List Loc), va_P (dC, dI) vwCl [(h0, .inr (11, [.ref f_tape, .int 0, .ref f_words, .ref f_grammar, .ref f_meanings, .ref f_story, .ref f_draft, .int 0, .int 0, .int (-1), .ref f_told, .ref f_play, .ref f_machine, .ref f_teller, .ref f_saved, .ref f_isSaved, .ref f_past, .int 0, .int 0])), (f_tape, .inl (cB, 16000, .inl tf))] H → va_D A [(h0, .inr (11, [.ref f_tape, .int 0, .ref f_words, .ref f_grammar, .ref f_meanings, .ref f_story, .ref f_draft, .int 0, .int 0, .int (-1), .ref f_told, .ref f_play, .ref f_machine, .ref f_teller, .ref f_saved, .ref f_isSaved, .ref f_past, .int 0, .int 0])), (f_tape, .inl (cB, 16000, .inl tf))] → va_S A s.heap H locs → ∀ ls : Array Slot, lv_has ls 5 [(0, .ref h0), (1, .long row), (3, .int n), (4, .int x4)] → W p l e ({ frames := 6, cells := 1, slots := 6, locals := 90 }) s m ([.ref h0, .long row, .int n] : List Value).toArray below meth c H locs 0 0 (vx_MQ below (q_X11_feed dC dI cB cC cI cJ cZ cP h0 f_tape f_words f_grammar f_meanings f_story f_draft f_told f_play f_machine f_teller f_saved f_isSaved f_past row n tf A) (g_X (dC, dI) A [(h0, .inr (11, [.ref f_tape, .int 0, .ref f_words, .ref f_grammar, .ref f_meanings, .ref f_story, .ref f_draft, .int 0, .int 0, .int (-1), .ref f_told, .ref f_play, .ref f_machine, .ref f_teller, .ref f_saved, .ref f_isSaved, .ref f_past, .int 0, .int 0])), (f_tape, .inl (cB, 16000, .inl tf))] (fun E : String => E = "java/lang/IllegalArgumentException" ∧ ¬ g_fit row n)) ([.ref h0, .long row, .int n] : List Value).toArray s 1 6 A) (F0 m 24 ls []) := by
        intro fu
        induction fu with
        | zero => intro k x4 ex4 hk hok hfu; exact absurd hfu (Nat.not_lt_zero _)
        | succ fu ih =>
          intro k x4 ex4 hk hok hfu H locs hP hD hS ls hl
          refine lv_iload hx hb dX11_feed_24 (lv_at hl 3 rfl) ?_
          refine lv_iload_n hx hb dX11_feed_26 rfl (lv_at hl 2 rfl) ?_
          refine lv_icmp_ge (tgt := 58) hx hb dX11_feed_27 (by decide) (fun c_5 => ?_) (fun c_5 => ?_)
          · have hall : ∀ i : Nat, i < j → g_ok (g_byte row (nI i)) := fun i hi => hok i (Nat.lt_of_lt_of_le hi (g_jk ex4 en hj8 hk (by assumption)))
            refine lv_aload_n hx hb dX11_feed_58 rfl (lv_at hl 0 rfl) ?_
            refine va_get (D := (dC, dI)) (ci := 11) (v := .int 0) (C := RX11) (T := TX11) (N := 19) hx hb hts ii_X11 hown hK hP 0 rfl rfl 1 (by decide) (hts (.fieldLink RX11 112 "StoryHouse" "tapeLength" "I") wq_304) (fun _ h9 => h9) rfl dX11_feed_59 ?_
            refine lv_iload_n hx hb dX11_feed_62 rfl (lv_at hl 2 rfl) ?_
            refine lv_iadd hx hb dX11_feed_63 ?_
            refine lv_topi (fun x_6 ex_6 => ?_)
            refine lv_sipush (v := 16000) hx hb dX11_feed_64 (by decide +kernel) ?_
            refine lv_icmp_le (tgt := 80) hx hb dX11_feed_67 (by decide) (fun c_7 => ?_) (fun c_7 => absurd (by rw [ex_6]; exact g_n16 h8) c_7)
            refine lv_iconst (v := 0) hx hb dX11_feed_80 (by decide +kernel) ?_
            refine lv_istore (lv' := [(4, .int 0), (0, .ref h0), (1, .long row), (3, .int n)]) hx hb dX11_feed_81 hl (by decide) rfl (fun ls hl => ?_)
            have LOOP_8 : ∀ (fu : Nat) (k : Nat) (x4 : Int32) (tl : Int32) (g : Nat → Int32) (ex4 : x4 = nI k) (etl : tl = nI k) (hk : k ≤ j) (hfu : j + 1 - k < fu) (H : Heap) (locs : List Loc), va_P (dC, dI) vwCl [(h0, .inr (11, [.ref f_tape, .int tl, .ref f_words, .ref f_grammar, .ref f_meanings, .ref f_story, .ref f_draft, .int 0, .int 0, .int (-1), .ref f_told, .ref f_play, .ref f_machine, .ref f_teller, .ref f_saved, .ref f_isSaved, .ref f_past, .int 0, .int 0])), (f_tape, .inl (cB, 16000, .inl g))] H → va_D A [(h0, .inr (11, [.ref f_tape, .int tl, .ref f_words, .ref f_grammar, .ref f_meanings, .ref f_story, .ref f_draft, .int 0, .int 0, .int (-1), .ref f_told, .ref f_play, .ref f_machine, .ref f_teller, .ref f_saved, .ref f_isSaved, .ref f_past, .int 0, .int 0])), (f_tape, .inl (cB, 16000, .inl g))] → va_S A s.heap H locs → ∀ ls : Array Slot, lv_has ls 5 [(0, .ref h0), (1, .long row), (3, .int n), (4, .int x4)] → W p l e ({ frames := 6, cells := 1, slots := 6, locals := 90 }) s m ([.ref h0, .long row, .int n] : List Value).toArray below meth c H locs 0 0 (vx_MQ below (q_X11_feed dC dI cB cC cI cJ cZ cP h0 f_tape f_words f_grammar f_meanings f_story f_draft f_told f_play f_machine f_teller f_saved f_isSaved f_past row n tf A) (g_X (dC, dI) A [(h0, .inr (11, [.ref f_tape, .int 0, .ref f_words, .ref f_grammar, .ref f_meanings, .ref f_story, .ref f_draft, .int 0, .int 0, .int (-1), .ref f_told, .ref f_play, .ref f_machine, .ref f_teller, .ref f_saved, .ref f_isSaved, .ref f_past, .int 0, .int 0])), (f_tape, .inl (cB, 16000, .inl tf))] (fun E : String => E = "java/lang/IllegalArgumentException" ∧ ¬ g_fit row n)) ([.ref h0, .long row, .int n] : List Value).toArray s 1 6 A) (F0 m 83 ls []) := by
              intro fu
              induction fu with
              | zero => intro k x4 tl g ex4 etl hk hfu; exact absurd hfu (Nat.not_lt_zero _)
              | succ fu ih =>
                intro k x4 tl g ex4 etl hk hfu H locs hP hD hS ls hl
                refine lv_iload hx hb dX11_feed_83 (lv_at hl 3 rfl) ?_
                refine lv_iload_n hx hb dX11_feed_85 rfl (lv_at hl 2 rfl) ?_
                refine lv_icmp_ge (tgt := 121) hx hb dX11_feed_86 (by decide) (fun c_9 => ?_) (fun c_9 => ?_)
                · refine lv_aload_n hx hb dX11_feed_121 rfl (lv_at hl 0 rfl) ?_
                  refine va_get (D := (dC, dI)) (ci := 11) (v := .int tl) (C := RX11) (T := TX11) (N := 19) hx hb hts ii_X11 hown hK hP 0 rfl rfl 1 (by decide) (hts (.fieldLink RX11 112 "StoryHouse" "tapeLength" "I") wq_304) (fun _ h9 => h9) rfl dX11_feed_122 ?_
                  have hP9 := hP.sub (ws' := [(h0, .inr (11, [.ref f_tape, .int tl, .ref f_words, .ref f_grammar, .ref f_meanings, .ref f_story, .ref f_draft, .int 0, .int 0, .int (-1), .ref f_told, .ref f_play, .ref f_machine, .ref f_teller, .ref f_saved, .ref f_isSaved, .ref f_past, .int 0, .int 0])), (f_tape, .inl (cB, 16000, .inl g))]) [0, 1] rfl
                  have hD9 := hD.sub (ws' := [(h0, .inr (11, [.ref f_tape, .int tl, .ref f_words, .ref f_grammar, .ref f_meanings, .ref f_story, .ref f_draft, .int 0, .int 0, .int (-1), .ref f_told, .ref f_play, .ref f_machine, .ref f_teller, .ref f_saved, .ref f_isSaved, .ref f_past, .int 0, .int 0])), (f_tape, .inl (cB, 16000, .inl g))]) [0, 1] (by decide +kernel) rfl
                  refine W.widen (k := 1) (n := 6) (Nat.le_of_ble_eq_true rfl) (Nat.le_of_ble_eq_true rfl) ?_
                  refine vx_ret ?_
                  exact W.iret (v := tl) hx hb hr (fun t ht hW => ⟨⟨tl, (tl, g), rfl, (⟨by rw [etl, en, g_end ex4 en hj8 hk (by assumption)], by rw [etl, en, g_end ex4 en hj8 hk (by assumption)], ⟨h1, h8, g_fitall en hj8 hall⟩⟩), by rw [ht]; exact hP9, hD9⟩, hS.F ht⟩) hS.2.2 dX11_feed_125
                · refine lv_aload_n hx hb dX11_feed_89 rfl (lv_at hl 0 rfl) ?_
                  refine va_get (D := (dC, dI)) (ci := 11) (v := .ref f_tape) (C := RX11) (T := TX11) (N := 19) hx hb hts ii_X11 hown hK hP 0 rfl rfl 0 (by decide) (hts (.fieldLink RX11 9 "StoryHouse" "tape" "[B") wq_303) (fun _ h9 => h9) rfl dX11_feed_90 ?_
                  refine lv_aload_n hx hb dX11_feed_93 rfl (lv_at hl 0 rfl) ?_
                  refine va_get (D := (dC, dI)) (ci := 11) (v := .int tl) (C := RX11) (T := TX11) (N := 19) hx hb hts ii_X11 hown hK hP 0 rfl rfl 1 (by decide) (hts (.fieldLink RX11 112 "StoryHouse" "tapeLength" "I") wq_304) (fun _ h9 => h9) rfl dX11_feed_94 ?_
                  refine lv_lload_n hx hb dX11_feed_97 rfl (lv_at hl 1 rfl) ?_
                  refine lv_iload hx hb dX11_feed_98 (lv_at hl 3 rfl) ?_
                  have hPc := hP.sub (ws' := []) [] rfl
                  have hDc := hD.sub (ws' := []) [] (by decide +kernel) rfl
                  have hFc := va_free (wc := []) hD hS hA [] rfl
                  refine g_ofi (wc := []) (wr := [(h0, .inr (11, [.ref f_tape, .int tl, .ref f_words, .ref f_grammar, .ref f_meanings, .ref f_story, .ref f_draft, .int 0, .int 0, .int (-1), .ref f_told, .ref f_play, .ref f_machine, .ref f_teller, .ref f_saved, .ref f_isSaved, .ref f_past, .int 0, .int 0])), (f_tape, .inl (cB, 16000, .inl g))]) hP hD hS hFc [] [0, 1] rfl rfl (by decide +kernel) (by decide +kernel) (va_runS (As := [.long row, .int x4]) (rest := [.int tl, .ref f_tape]) ⟨hx, hb, hml, hown, hts⟩ (c_X11_byteOf l dC dI cB cC cI cJ cZ cP H.size row x4 ) (va_cwS 2 hts (g_gS wq_936 wq_937 wq_1 wq_938) rfl rfl rfl (by decide +kernel) ⟨Nat.le_of_ble_eq_true rfl, Nat.le_of_ble_eq_true rfl⟩) (g_preS g_bl0 hK hPc hDc hS hE hFc g_to0) rfl rfl hl.1 rfl (lv_room (Nat.le_of_ble_eq_true rfl)) dX11_feed_100 ⟨Nat.le_of_ble_eq_true rfl, Nat.le_of_ble_eq_true rfl⟩) (fun r_12 u_11 H_13 locs w_10 hP' hD' hS' => ?_)
                  clear hPc hDc hFc
                  have w_10 : r_12 = g_byte row x4 := w_10
                  replace hP : va_P (dC, dI) vwCl [(h0, .inr (11, [.ref f_tape, .int tl, .ref f_words, .ref f_grammar, .ref f_meanings, .ref f_story, .ref f_draft, .int 0, .int 0, .int (-1), .ref f_told, .ref f_play, .ref f_machine, .ref f_teller, .ref f_saved, .ref f_isSaved, .ref f_past, .int 0, .int 0])), (f_tape, .inl (cB, 16000, .inl g))] H_13 := hP'
                  replace hD : va_D A [(h0, .inr (11, [.ref f_tape, .int tl, .ref f_words, .ref f_grammar, .ref f_meanings, .ref f_story, .ref f_draft, .int 0, .int 0, .int (-1), .ref f_told, .ref f_play, .ref f_machine, .ref f_teller, .ref f_saved, .ref f_isSaved, .ref f_past, .int 0, .int 0])), (f_tape, .inl (cB, 16000, .inl g))] := hD'
                  replace hS := hS'
                  clear hP' hD' hS'
                  obtain rfl : (g_byte row x4) = r_12 := (w_10).symm
                  refine lv_i2b hx hb dX11_feed_103 rfl ?_
                  refine lv_topi (fun x_14 ex_14 => ?_)
                  refine va_bast hx hb hK hP hD hS 1 0 rfl rfl (g_in16 etl hk hj8) dX11_feed_104 (fun H_15 locs hP' hD' hS' => ?_)
                  obtain ⟨f_16, ef_16⟩ : ∃ g9 : Nat → Int32, g9 = (upd g tl.toNatClampNeg (vp_nar .byte x_14)) := ⟨_, rfl⟩
                  replace hP : va_P (dC, dI) vwCl [(h0, .inr (11, [.ref f_tape, .int tl, .ref f_words, .ref f_grammar, .ref f_meanings, .ref f_story, .ref f_draft, .int 0, .int 0, .int (-1), .ref f_told, .ref f_play, .ref f_machine, .ref f_teller, .ref f_saved, .ref f_isSaved, .ref f_past, .int 0, .int 0])), (f_tape, .inl (cB, 16000, .inl f_16))] H_15 := by rw [ef_16]; exact hP'
                  replace hD : va_D A [(h0, .inr (11, [.ref f_tape, .int tl, .ref f_words, .ref f_grammar, .ref f_meanings, .ref f_story, .ref f_draft, .int 0, .int 0, .int (-1), .ref f_told, .ref f_play, .ref f_machine, .ref f_teller, .ref f_saved, .ref f_isSaved, .ref f_past, .int 0, .int 0])), (f_tape, .inl (cB, 16000, .inl f_16))] := by rw [ef_16]; exact hD'
                  replace hS := hS'
                  clear hP' hD' hS'
                  refine lv_aload_n hx hb dX11_feed_105 rfl (lv_at hl 0 rfl) ?_
                  refine lv_dup hx hb dX11_feed_106 rfl ?_
                  refine va_get (D := (dC, dI)) (ci := 11) (v := .int tl) (C := RX11) (T := TX11) (N := 19) hx hb hts ii_X11 hown hK hP 0 rfl rfl 1 (by decide) (hts (.fieldLink RX11 112 "StoryHouse" "tapeLength" "I") wq_304) (fun _ h9 => h9) rfl dX11_feed_107 ?_
                  refine lv_iconst (v := 1) hx hb dX11_feed_110 (by decide +kernel) ?_
                  refine lv_iadd hx hb dX11_feed_111 ?_
                  refine lv_topi (fun x_17 ex_17 => ?_)
                  refine va_put (D := (dC, dI)) (ci := 11) (v := .int x_17) (ty := .int) (C := RX11) (T := TX11) (N := 19) hx hb hts ii_X11 tyX11 tyX11_ok nmX11 hown hK hP hD hS 0 rfl rfl 1 (by decide) (hts (.fieldLink RX11 112 "StoryHouse" "tapeLength" "I") wq_304) (fun _ h9 => h9) rfl (by decide +kernel) rfl rfl (Nat.le_of_ble_eq_true rfl) dX11_feed_112 (fun H_18 locs hP' hD' hS' => ?_)
                  replace hP : va_P (dC, dI) vwCl [(h0, .inr (11, [.ref f_tape, .int x_17, .ref f_words, .ref f_grammar, .ref f_meanings, .ref f_story, .ref f_draft, .int 0, .int 0, .int (-1), .ref f_told, .ref f_play, .ref f_machine, .ref f_teller, .ref f_saved, .ref f_isSaved, .ref f_past, .int 0, .int 0])), (f_tape, .inl (cB, 16000, .inl f_16))] H_18 := hP'
                  replace hD : va_D A [(h0, .inr (11, [.ref f_tape, .int x_17, .ref f_words, .ref f_grammar, .ref f_meanings, .ref f_story, .ref f_draft, .int 0, .int 0, .int (-1), .ref f_told, .ref f_play, .ref f_machine, .ref f_teller, .ref f_saved, .ref f_isSaved, .ref f_past, .int 0, .int 0])), (f_tape, .inl (cB, 16000, .inl f_16))] := hD'
                  replace hS := hS'
                  clear hP' hD' hS'
                  obtain ⟨x_19, ex_19⟩ : ∃ y : Int32, y = x4 + 1 := ⟨_, rfl⟩
                  refine lv_iinc (v := x_19) (lv' := [(4, .int x_19), (0, .ref h0), (1, .long row), (3, .int n)]) hx hb dX11_feed_115 hl (k := 3) rfl (by rw [ex_19]; rfl) (by decide) rfl (fun ls hl => ?_)
                  refine lv_goto (tgt := 83) hx hb dX11_feed_118 (by decide) ?_
                  exact ih (k + 1) x_19 x_17 f_16 (by rw [ex_19, ex4]; exact (nI_succ k).symm) (by rw [ex_17, etl]; exact (nI_succ k).symm) (g_kj ex4 en hj8 hk (Int32.not_le.mp (by assumption))) (by have := (g_kj ex4 en hj8 hk (Int32.not_le.mp (by assumption))); omega) _ _ hP hD hS ls (lv_sub hl [1, 2, 3, 0] rfl)
            exact LOOP_8 _ 0 0 0 tf nI_0.symm nI_0.symm (Nat.zero_le _) (Nat.lt_succ_self _) _ _ hP hD hS ls (lv_sub hl [1, 2, 3, 0] rfl)
          · refine lv_lload_n hx hb dX11_feed_30 rfl (lv_at hl 1 rfl) ?_
            refine lv_iload hx hb dX11_feed_31 (lv_at hl 3 rfl) ?_
            have hPc := hP.sub (ws' := []) [] rfl
            have hDc := hD.sub (ws' := []) [] (by decide +kernel) rfl
            have hFc := va_free (wc := []) hD hS hA [] rfl
            refine g_ofi (wc := []) (wr := [(h0, .inr (11, [.ref f_tape, .int 0, .ref f_words, .ref f_grammar, .ref f_meanings, .ref f_story, .ref f_draft, .int 0, .int 0, .int (-1), .ref f_told, .ref f_play, .ref f_machine, .ref f_teller, .ref f_saved, .ref f_isSaved, .ref f_past, .int 0, .int 0])), (f_tape, .inl (cB, 16000, .inl tf))]) hP hD hS hFc [] [0, 1] rfl rfl (by decide +kernel) (by decide +kernel) (va_runS (As := [.long row, .int x4]) (rest := []) ⟨hx, hb, hml, hown, hts⟩ (c_X11_byteOf l dC dI cB cC cI cJ cZ cP H.size row x4 ) (va_cwS 2 hts (g_gS wq_936 wq_937 wq_1 wq_938) rfl rfl rfl (by decide +kernel) ⟨Nat.le_of_ble_eq_true rfl, Nat.le_of_ble_eq_true rfl⟩) (g_preS g_bl0 hK hPc hDc hS hE hFc g_to0) rfl rfl hl.1 rfl (lv_room (Nat.le_of_ble_eq_true rfl)) dX11_feed_33 ⟨Nat.le_of_ble_eq_true rfl, Nat.le_of_ble_eq_true rfl⟩) (fun r_22 u_21 H_23 locs w_20 hP' hD' hS' => ?_)
            clear hPc hDc hFc
            have w_20 : r_22 = g_byte row x4 := w_20
            replace hP : va_P (dC, dI) vwCl [(h0, .inr (11, [.ref f_tape, .int 0, .ref f_words, .ref f_grammar, .ref f_meanings, .ref f_story, .ref f_draft, .int 0, .int 0, .int (-1), .ref f_told, .ref f_play, .ref f_machine, .ref f_teller, .ref f_saved, .ref f_isSaved, .ref f_past, .int 0, .int 0])), (f_tape, .inl (cB, 16000, .inl tf))] H_23 := hP'
            replace hD : va_D A [(h0, .inr (11, [.ref f_tape, .int 0, .ref f_words, .ref f_grammar, .ref f_meanings, .ref f_story, .ref f_draft, .int 0, .int 0, .int (-1), .ref f_told, .ref f_play, .ref f_machine, .ref f_teller, .ref f_saved, .ref f_isSaved, .ref f_past, .int 0, .int 0])), (f_tape, .inl (cB, 16000, .inl tf))] := hD'
            replace hS := hS'
            clear hP' hD' hS'
            obtain rfl : (g_byte row x4) = r_22 := (w_20).symm
            have hPc := hP.sub (ws' := []) [] rfl
            have hDc := hD.sub (ws' := []) [] (by decide +kernel) rfl
            have hFc := va_free (wc := []) hD hS hA [] rfl
            refine g_ofi (wc := []) (wr := [(h0, .inr (11, [.ref f_tape, .int 0, .ref f_words, .ref f_grammar, .ref f_meanings, .ref f_story, .ref f_draft, .int 0, .int 0, .int (-1), .ref f_told, .ref f_play, .ref f_machine, .ref f_teller, .ref f_saved, .ref f_isSaved, .ref f_past, .int 0, .int 0])), (f_tape, .inl (cB, 16000, .inl tf))]) hP hD hS hFc [] [0, 1] rfl rfl (by decide +kernel) (by decide +kernel) (va_runS (As := [.int (g_byte row x4)]) (rest := []) ⟨hx, hb, hml, hown, hts⟩ (c_X11_isTapeByte l dC dI cB cC cI cJ cZ cP H_23.size (g_byte row x4) ) (va_cwS 1 hts (g_gS wq_939 wq_940 wq_1 wq_941) rfl rfl rfl (by decide +kernel) ⟨Nat.le_of_ble_eq_true rfl, Nat.le_of_ble_eq_true rfl⟩) (g_preS g_bl0 hK hPc hDc hS hE hFc g_to0) rfl rfl hl.1 rfl (lv_room (Nat.le_of_ble_eq_true rfl)) dX11_feed_36 ⟨Nat.le_of_ble_eq_true rfl, Nat.le_of_ble_eq_true rfl⟩) (fun r_26 u_25 H_27 locs w_24 hP' hD' hS' => ?_)
            clear hPc hDc hFc
            have w_24 : r_26 = g_okb (g_byte row x4) := w_24
            replace hP : va_P (dC, dI) vwCl [(h0, .inr (11, [.ref f_tape, .int 0, .ref f_words, .ref f_grammar, .ref f_meanings, .ref f_story, .ref f_draft, .int 0, .int 0, .int (-1), .ref f_told, .ref f_play, .ref f_machine, .ref f_teller, .ref f_saved, .ref f_isSaved, .ref f_past, .int 0, .int 0])), (f_tape, .inl (cB, 16000, .inl tf))] H_27 := hP'
            replace hD : va_D A [(h0, .inr (11, [.ref f_tape, .int 0, .ref f_words, .ref f_grammar, .ref f_meanings, .ref f_story, .ref f_draft, .int 0, .int 0, .int (-1), .ref f_told, .ref f_play, .ref f_machine, .ref f_teller, .ref f_saved, .ref f_isSaved, .ref f_past, .int 0, .int 0])), (f_tape, .inl (cB, 16000, .inl tf))] := hD'
            replace hS := hS'
            clear hP' hD' hS'
            obtain rfl : (g_okb (g_byte row x4)) = r_26 := (w_24).symm
            refine lv_if_ne (tgt := 52) hx hb dX11_feed_39 (by decide) (fun c_28 => ?_) (fun c_28 => ?_)
            · obtain ⟨x_29, ex_29⟩ : ∃ y : Int32, y = x4 + 1 := ⟨_, rfl⟩
              refine lv_iinc (v := x_29) (lv' := [(4, .int x_29), (0, .ref h0), (1, .long row), (3, .int n)]) hx hb dX11_feed_52 hl (k := 3) rfl (by rw [ex_29]; rfl) (by decide) rfl (fun ls hl => ?_)
              refine lv_goto (tgt := 24) hx hb dX11_feed_55 (by decide) ?_
              exact ih (k + 1) x_29 (by rw [ex_29, ex4]; exact (nI_succ k).symm) (g_kle ex4 hk h8 (Int32.not_le.mp (by assumption))) (fun j hj => (Nat.lt_succ_iff_lt_or_eq.mp hj).elim (fun h => hok j h) (fun h => by rw [h]; exact g_okb1.mp (by rw [← ex4]; assumption))) (by have := g_kle ex4 hk h8 (Int32.not_le.mp (by assumption)); omega) _ _ hP hD hS ls (lv_sub hl [1, 2, 3, 0] rfl)
            · obtain ⟨q_30, vq_30, hRq_30, hSq_30⟩ := hE.2.2.2.2 _ (List.mem_of_getElem? (i := 23) rfl)
              have hPx := hP.sub (ws' := [(h0, .inr (11, [.ref f_tape, .int 0, .ref f_words, .ref f_grammar, .ref f_meanings, .ref f_story, .ref f_draft, .int 0, .int 0, .int (-1), .ref f_told, .ref f_play, .ref f_machine, .ref f_teller, .ref f_saved, .ref f_isSaved, .ref f_past, .int 0, .int 0])), (f_tape, .inl (cB, 16000, .inl tf))]) [0, 1] rfl
              have hDx := hD.sub (ws' := [(h0, .inr (11, [.ref f_tape, .int 0, .ref f_words, .ref f_grammar, .ref f_meanings, .ref f_story, .ref f_draft, .int 0, .int 0, .int (-1), .ref f_told, .ref f_play, .ref f_machine, .ref f_teller, .ref f_saved, .ref f_isSaved, .ref f_past, .int 0, .int 0])), (f_tape, .inl (cB, 16000, .inl tf))]) [0, 1] (by decide +kernel) rfl
              exact vx_throwS hx hb hfl (own := RX11) (cls := "java/lang/IllegalArgumentException") (text := "a byte is none of the tape's") (names := ["java/lang/RuntimeException", "java/lang/Exception"]) (A := A) hown (by decide +kernel) (by decide +kernel) (hts (.classLink RX11 95 "java/lang/IllegalArgumentException") wq_925) (hts (.initialized "java/lang/IllegalArgumentException") wq_17) hRq_30 (g_bad hN (fun w h => hts w (wx_99 w h)) (by decide +kernel) (g_badB hN (List.mem_of_getElem? (i := 0) rfl))) (by decide +kernel) hE.2.1 hE.2.2.1 hS (hl.1.trans hml.symm) dX11_feed_42 dX11_feed_45 dX11_feed_46 dX11_feed_48 dX11_feed_51 (fun x hx => (htab x hx).elim) (by decide) (by decide) (Nat.le_of_ble_eq_true rfl) (Nat.le_of_ble_eq_true rfl) hlocks (g_thr hPx hDx hS ⟨rfl, fun h => absurd (g_okb1.mpr (h.2.2 k (by rw [← ex4]; exact Int32.not_le.mp (by assumption)) (g_klt ex4 hk h.2.1 (Int32.not_le.mp (by assumption))))) (by rw [← ex4]; exact fun hh => hh (by assumption))⟩) hS.2.2 (Nat.le_of_ble_eq_true rfl) (Nat.le_of_ble_eq_true rfl)
      exact LOOP_4 _ 0 0 nI_0.symm (Nat.zero_le _) (fun j h => absurd h (Nat.not_lt_zero _)) (Nat.lt_succ_self _) _ _ hP hD hS ls (lv_sub hl [1, 2, 3, 0] rfl)
    · obtain ⟨q_31, vq_31, hRq_31, hSq_31⟩ := hE.2.2.2.2 _ (List.mem_of_getElem? (i := 22) rfl)
      have hPx := hP.sub (ws' := [(h0, .inr (11, [.ref f_tape, .int 0, .ref f_words, .ref f_grammar, .ref f_meanings, .ref f_story, .ref f_draft, .int 0, .int 0, .int (-1), .ref f_told, .ref f_play, .ref f_machine, .ref f_teller, .ref f_saved, .ref f_isSaved, .ref f_past, .int 0, .int 0])), (f_tape, .inl (cB, 16000, .inl tf))]) [0, 1] rfl
      have hDx := hD.sub (ws' := [(h0, .inr (11, [.ref f_tape, .int 0, .ref f_words, .ref f_grammar, .ref f_meanings, .ref f_story, .ref f_draft, .int 0, .int 0, .int (-1), .ref f_told, .ref f_play, .ref f_machine, .ref f_teller, .ref f_saved, .ref f_isSaved, .ref f_past, .int 0, .int 0])), (f_tape, .inl (cB, 16000, .inl tf))]) [0, 1] (by decide +kernel) rfl
      exact vx_throwS hx hb hfl (own := RX11) (cls := "java/lang/IllegalArgumentException") (text := "n is not 1 .. 8") (names := ["java/lang/RuntimeException", "java/lang/Exception"]) (A := A) hown (by decide +kernel) (by decide +kernel) (hts (.classLink RX11 95 "java/lang/IllegalArgumentException") wq_925) (hts (.initialized "java/lang/IllegalArgumentException") wq_17) hRq_31 (g_bad hN (fun w h => hts w (wx_99 w h)) (by decide +kernel) (g_badB hN (List.mem_of_getElem? (i := 0) rfl))) (by decide +kernel) hE.2.1 hE.2.2.1 hS (hl.1.trans hml.symm) dX11_feed_11 dX11_feed_14 dX11_feed_15 dX11_feed_17 dX11_feed_20 (fun x hx => (htab x hx).elim) (by decide) (by decide) (Nat.le_of_ble_eq_true rfl) (Nat.le_of_ble_eq_true rfl) hlocks (g_thr hPx hDx hS ⟨rfl, fun h => by first | exact h.1 (by assumption) | exact absurd h.2.1 (by assumption)⟩) hS.2.2 (Nat.le_of_ble_eq_true rfl) (Nat.le_of_ble_eq_true rfl)
