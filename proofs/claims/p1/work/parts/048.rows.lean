/-! rows and packed names -/
/-- what at() answers of a row of n places -/
def g_at (n : Nat) (f : Nat → Int32) (i : Int32) : Int32 := if i < 0 ∨ n ≤ i.toNatClampNeg then 0 else f i.toNatClampNeg
/-- what put() makes of a row -/
def g_put (n : Nat) (f : Nat → Int32) (i x : Int32) : Nat → Int32 := if i < 0 ∨ n ≤ i.toNatClampNeg then f else upd f i.toNatClampNeg x
theorem g_at_in {n : Nat} {f : Nat → Int32} {i : Int32} (h : vp_in i n) : g_at n f i = f i.toNatClampNeg := if_neg h
theorem g_put_in {n : Nat} {f : Nat → Int32} {i x : Int32} (h : vp_in i n) : g_put n f i x = upd f i.toNatClampNeg x := if_neg h
theorem g_nle {i : Int32} {n : Nat} (hn : n < 2 ^ 31) (h : Int32.ofNat n ≤ i) : n ≤ i.toNatClampNeg := by
  rw [Int32.le_iff_toInt_le, show (Int32.ofNat n).toInt = n from nI_toInt hn] at h
  show n ≤ i.toInt.toNat
  omega
theorem g_at_out {n : Nat} {f : Nat → Int32} {i : Int32} (hn : n < 2 ^ 31) (h : i < 0 ∨ Int32.ofNat n ≤ i) : g_at n f i = 0 := if_pos (h.elim Or.inl (fun q => Or.inr (g_nle hn q)))
theorem g_put_out {n : Nat} {f : Nat → Int32} {i x : Int32} (hn : n < 2 ^ 31) (h : i < 0 ∨ Int32.ofNat n ≤ i) : g_put n f i x = f := if_pos (h.elim Or.inl (fun q => Or.inr (g_nle hn q)))
/-- one step more of a loop that counts up -/
theorem g_mu {i n x : Int32} (hi : ¬ n ≤ i) (e : x = i + 1) : (n.toInt - x.toInt).toNat < (n.toInt - i.toInt).toNat := by
  rw [Int32.le_iff_toInt_le] at hi
  have h1 := Int32.toInt_lt n
  have h2 := Int32.le_toInt i
  rw [e, Int32.toInt_add]
  have e1 : (1 : Int32).toInt = 1 := by decide +kernel
  rw [e1, Int.bmod_eq_of_le (by omega) (by omega)]
  omega
theorem g_up {i n x : Int32} (h0 : ¬ i < 0) (hi : ¬ n ≤ i) (e : x = i + 1) : ¬ x < 0 := by
  rw [Int32.le_iff_toInt_le] at hi
  have e0 : (0 : Int32).toInt = 0 := by decide +kernel
  rw [Int32.lt_iff_toInt_lt, e0] at h0 ⊢
  have h1 := Int32.toInt_lt n
  have e1 : (1 : Int32).toInt = 1 := by decide +kernel
  rw [e, Int32.toInt_add, e1, Int.bmod_eq_of_le (by omega) (by omega)]
  omega
theorem g_max0 (x : Int32) : ¬ (if (0 : Int32) < x then x else 0) < 0 := by
  split
  · intro h; exact absurd (Int32.lt_trans ‹0 < x› h) (by decide +kernel)
  · decide +kernel
theorem dX11_at_0 : decode cX11_at 0 = .ok (.iload_n 1, 1) := by decide +kernel
theorem dX11_at_1 : decode cX11_at 1 = .ok (.ifCond .lt 15, 3) := by decide +kernel
theorem dX11_at_4 : decode cX11_at 4 = .ok (.iload_n 1, 1) := by decide +kernel
theorem dX11_at_5 : decode cX11_at 5 = .ok (.aload_n 0, 1) := by decide +kernel
theorem dX11_at_6 : decode cX11_at 6 = .ok (.arraylength, 1) := by decide +kernel
theorem dX11_at_7 : decode cX11_at 7 = .ok (.if_icmp .ge 9, 3) := by decide +kernel
theorem dX11_at_10 : decode cX11_at 10 = .ok (.aload_n 0, 1) := by decide +kernel
theorem dX11_at_11 : decode cX11_at 11 = .ok (.iload_n 1, 1) := by decide +kernel
theorem dX11_at_12 : decode cX11_at 12 = .ok (.iaload, 1) := by decide +kernel
theorem dX11_at_13 : decode cX11_at 13 = .ok (.goto 4, 3) := by decide +kernel
theorem dX11_at_16 : decode cX11_at 16 = .ok (.iconst 0, 1) := by decide +kernel
theorem dX11_at_17 : decode cX11_at 17 = .ok (.ireturn, 1) := by decide +kernel
theorem dX11_put_0 : decode cX11_put 0 = .ok (.iload_n 1, 1) := by decide +kernel
theorem dX11_put_1 : decode cX11_put 1 = .ok (.ifCond .lt 13, 3) := by decide +kernel
theorem dX11_put_4 : decode cX11_put 4 = .ok (.iload_n 1, 1) := by decide +kernel
theorem dX11_put_5 : decode cX11_put 5 = .ok (.aload_n 0, 1) := by decide +kernel
theorem dX11_put_6 : decode cX11_put 6 = .ok (.arraylength, 1) := by decide +kernel
theorem dX11_put_7 : decode cX11_put 7 = .ok (.if_icmp .ge 7, 3) := by decide +kernel
theorem dX11_put_10 : decode cX11_put 10 = .ok (.aload_n 0, 1) := by decide +kernel
theorem dX11_put_11 : decode cX11_put 11 = .ok (.iload_n 1, 1) := by decide +kernel
theorem dX11_put_12 : decode cX11_put 12 = .ok (.iload_n 2, 1) := by decide +kernel
theorem dX11_put_13 : decode cX11_put 13 = .ok (.iastore, 1) := by decide +kernel
theorem dX11_put_14 : decode cX11_put 14 = .ok (.return_, 1) := by decide +kernel
theorem dX11_isLetter_0 : decode cX11_isLetter 0 = .ok (.iload_n 0, 1) := by decide +kernel
theorem dX11_isLetter_1 : decode cX11_isLetter 1 = .ok (.bipush 97, 2) := by decide +kernel
theorem dX11_isLetter_3 : decode cX11_isLetter 3 = .ok (.if_icmp .lt 13, 3) := by decide +kernel
theorem dX11_isLetter_6 : decode cX11_isLetter 6 = .ok (.iload_n 0, 1) := by decide +kernel
theorem dX11_isLetter_7 : decode cX11_isLetter 7 = .ok (.bipush 122, 2) := by decide +kernel
theorem dX11_isLetter_9 : decode cX11_isLetter 9 = .ok (.if_icmp .gt 7, 3) := by decide +kernel
theorem dX11_isLetter_12 : decode cX11_isLetter 12 = .ok (.iconst 1, 1) := by decide +kernel
theorem dX11_isLetter_13 : decode cX11_isLetter 13 = .ok (.goto 4, 3) := by decide +kernel
theorem dX11_isLetter_16 : decode cX11_isLetter 16 = .ok (.iconst 0, 1) := by decide +kernel
theorem dX11_isLetter_17 : decode cX11_isLetter 17 = .ok (.ireturn, 1) := by decide +kernel
theorem dX11_nameSign_0 : decode cX11_nameSign 0 = .ok (.iload_n 0, 1) := by decide +kernel
theorem dX11_nameSign_1 : decode cX11_nameSign 1 = .ok (.invokestatic 311, 3) := by decide +kernel
theorem dX11_nameSign_4 : decode cX11_nameSign 4 = .ok (.ifCond .eq 12, 3) := by decide +kernel
theorem dX11_nameSign_7 : decode cX11_nameSign 7 = .ok (.iload_n 0, 1) := by decide +kernel
theorem dX11_nameSign_8 : decode cX11_nameSign 8 = .ok (.bipush 97, 2) := by decide +kernel
theorem dX11_nameSign_10 : decode cX11_nameSign 10 = .ok (.isub, 1) := by decide +kernel
theorem dX11_nameSign_11 : decode cX11_nameSign 11 = .ok (.iconst 1, 1) := by decide +kernel
theorem dX11_nameSign_12 : decode cX11_nameSign 12 = .ok (.iadd, 1) := by decide +kernel
theorem dX11_nameSign_13 : decode cX11_nameSign 13 = .ok (.goto 10, 3) := by decide +kernel
theorem dX11_nameSign_16 : decode cX11_nameSign 16 = .ok (.iload_n 0, 1) := by decide +kernel
theorem dX11_nameSign_17 : decode cX11_nameSign 17 = .ok (.bipush 48, 2) := by decide +kernel
theorem dX11_nameSign_19 : decode cX11_nameSign 19 = .ok (.isub, 1) := by decide +kernel
theorem dX11_nameSign_20 : decode cX11_nameSign 20 = .ok (.bipush 27, 2) := by decide +kernel
theorem dX11_nameSign_22 : decode cX11_nameSign 22 = .ok (.iadd, 1) := by decide +kernel
theorem dX11_nameSign_23 : decode cX11_nameSign 23 = .ok (.ireturn, 1) := by decide +kernel
theorem dX11_wordEnd_0 : decode cX11_wordEnd 0 = .ok (.iconst 0, 1) := by decide +kernel
theorem dX11_wordEnd_1 : decode cX11_wordEnd 1 = .ok (.iload_n 1, 1) := by decide +kernel
theorem dX11_wordEnd_2 : decode cX11_wordEnd 2 = .ok (.invokestatic 329, 3) := by decide +kernel
theorem dX11_wordEnd_5 : decode cX11_wordEnd 5 = .ok (.istore_n 2, 1) := by decide +kernel
theorem dX11_wordEnd_6 : decode cX11_wordEnd 6 = .ok (.iload_n 2, 1) := by decide +kernel
theorem dX11_wordEnd_7 : decode cX11_wordEnd 7 = .ok (.aload_n 0, 1) := by decide +kernel
theorem dX11_wordEnd_8 : decode cX11_wordEnd 8 = .ok (.invokevirtual 314, 3) := by decide +kernel
theorem dX11_wordEnd_11 : decode cX11_wordEnd 11 = .ok (.if_icmp .ge 21, 3) := by decide +kernel
theorem dX11_wordEnd_14 : decode cX11_wordEnd 14 = .ok (.aload_n 0, 1) := by decide +kernel
theorem dX11_wordEnd_15 : decode cX11_wordEnd 15 = .ok (.iload_n 2, 1) := by decide +kernel
theorem dX11_wordEnd_16 : decode cX11_wordEnd 16 = .ok (.invokevirtual 321, 3) := by decide +kernel
theorem dX11_wordEnd_19 : decode cX11_wordEnd 19 = .ok (.bipush 32, 2) := by decide +kernel
theorem dX11_wordEnd_21 : decode cX11_wordEnd 21 = .ok (.if_icmp .ne 5, 3) := by decide +kernel
theorem dX11_wordEnd_24 : decode cX11_wordEnd 24 = .ok (.iload_n 2, 1) := by decide +kernel
theorem dX11_wordEnd_25 : decode cX11_wordEnd 25 = .ok (.ireturn, 1) := by decide +kernel
theorem dX11_wordEnd_26 : decode cX11_wordEnd 26 = .ok (.iinc 2 1, 3) := by decide +kernel
theorem dX11_wordEnd_29 : decode cX11_wordEnd 29 = .ok (.goto (-23), 3) := by decide +kernel
theorem dX11_wordEnd_32 : decode cX11_wordEnd 32 = .ok (.aload_n 0, 1) := by decide +kernel
theorem dX11_wordEnd_33 : decode cX11_wordEnd 33 = .ok (.invokevirtual 314, 3) := by decide +kernel
theorem dX11_wordEnd_36 : decode cX11_wordEnd 36 = .ok (.ireturn, 1) := by decide +kernel
theorem dX11_packed_0 : decode cX11_packed 0 = .ok (.lconst 0, 1) := by decide +kernel
theorem dX11_packed_1 : decode cX11_packed 1 = .ok (.lstore 4, 2) := by decide +kernel
theorem dX11_packed_3 : decode cX11_packed 3 = .ok (.iconst 0, 1) := by decide +kernel
theorem dX11_packed_4 : decode cX11_packed 4 = .ok (.istore 6, 2) := by decide +kernel
theorem dX11_packed_6 : decode cX11_packed 6 = .ok (.iload 6, 2) := by decide +kernel
theorem dX11_packed_8 : decode cX11_packed 8 = .ok (.iload_n 3, 1) := by decide +kernel
theorem dX11_packed_9 : decode cX11_packed 9 = .ok (.if_icmp .ge 70, 3) := by decide +kernel
theorem dX11_packed_12 : decode cX11_packed 12 = .ok (.iload_n 1, 1) := by decide +kernel
theorem dX11_packed_13 : decode cX11_packed 13 = .ok (.iload 6, 2) := by decide +kernel
theorem dX11_packed_15 : decode cX11_packed 15 = .ok (.iadd, 1) := by decide +kernel
theorem dX11_packed_16 : decode cX11_packed 16 = .ok (.istore 7, 2) := by decide +kernel
theorem dX11_packed_18 : decode cX11_packed 18 = .ok (.iload 7, 2) := by decide +kernel
theorem dX11_packed_20 : decode cX11_packed 20 = .ok (.ifCond .lt 22, 3) := by decide +kernel
theorem dX11_packed_23 : decode cX11_packed 23 = .ok (.iload 7, 2) := by decide +kernel
theorem dX11_packed_25 : decode cX11_packed 25 = .ok (.iload_n 2, 1) := by decide +kernel
theorem dX11_packed_26 : decode cX11_packed 26 = .ok (.if_icmp .ge 16, 3) := by decide +kernel
theorem dX11_packed_29 : decode cX11_packed 29 = .ok (.iload 7, 2) := by decide +kernel
theorem dX11_packed_31 : decode cX11_packed 31 = .ok (.aload_n 0, 1) := by decide +kernel
theorem dX11_packed_32 : decode cX11_packed 32 = .ok (.invokevirtual 314, 3) := by decide +kernel
theorem dX11_packed_35 : decode cX11_packed 35 = .ok (.if_icmp .ge 7, 3) := by decide +kernel
theorem dX11_packed_38 : decode cX11_packed 38 = .ok (.iconst 1, 1) := by decide +kernel
theorem dX11_packed_39 : decode cX11_packed 39 = .ok (.goto 4, 3) := by decide +kernel
theorem dX11_packed_42 : decode cX11_packed 42 = .ok (.iconst 0, 1) := by decide +kernel
theorem dX11_packed_43 : decode cX11_packed 43 = .ok (.istore 8, 2) := by decide +kernel
theorem dX11_packed_45 : decode cX11_packed 45 = .ok (.lload 4, 2) := by decide +kernel
theorem dX11_packed_47 : decode cX11_packed 47 = .ok (.ldc2_w 319, 3) := by decide +kernel
theorem dX11_packed_50 : decode cX11_packed 50 = .ok (.lmul, 1) := by decide +kernel
theorem dX11_packed_51 : decode cX11_packed 51 = .ok (.iload 8, 2) := by decide +kernel
theorem dX11_packed_53 : decode cX11_packed 53 = .ok (.ifCond .eq 15, 3) := by decide +kernel
theorem dX11_packed_56 : decode cX11_packed 56 = .ok (.aload_n 0, 1) := by decide +kernel
theorem dX11_packed_57 : decode cX11_packed 57 = .ok (.iload 7, 2) := by decide +kernel
theorem dX11_packed_59 : decode cX11_packed 59 = .ok (.invokevirtual 321, 3) := by decide +kernel
theorem dX11_packed_62 : decode cX11_packed 62 = .ok (.invokestatic 325, 3) := by decide +kernel
theorem dX11_packed_65 : decode cX11_packed 65 = .ok (.goto 4, 3) := by decide +kernel
theorem dX11_packed_68 : decode cX11_packed 68 = .ok (.iconst 0, 1) := by decide +kernel
theorem dX11_packed_69 : decode cX11_packed 69 = .ok (.i2l, 1) := by decide +kernel
theorem dX11_packed_70 : decode cX11_packed 70 = .ok (.ladd, 1) := by decide +kernel
theorem dX11_packed_71 : decode cX11_packed 71 = .ok (.lstore 4, 2) := by decide +kernel
theorem dX11_packed_73 : decode cX11_packed 73 = .ok (.iinc 6 1, 3) := by decide +kernel
theorem dX11_packed_76 : decode cX11_packed 76 = .ok (.goto (-70), 3) := by decide +kernel
theorem dX11_packed_79 : decode cX11_packed 79 = .ok (.lload 4, 2) := by decide +kernel
theorem dX11_packed_81 : decode cX11_packed 81 = .ok (.lreturn, 1) := by decide +kernel
abbrev ww_X11_at (cB cC cI cJ cZ cP : ClassId) (ra : Nat) (i : Int32) (rn : Nat) (rf : Nat → Int32) : va_W := [(ra, .inl (cI, rn, .inl rf))]
abbrev q_X11_at (dC : Nat → ClassId) (dI : Nat → Nat → Nat) (cB cC cI cJ cZ cP : ClassId) (ra : Nat) (i : Int32) (rn : Nat) (rf : Nat → Int32) (A : Nat → Prop) : Array Value → State → Outcome → State → Prop := va_Qi (fun (r : Int32) (_ : Unit) => r = g_at rn rf i) (g_Bo (dC, dI) A (fun (_ : Unit) => [(ra, .inl (cI, rn, .inl rf))])) A
set_option maxHeartbeats 4000000 in
set_option maxRecDepth 100000 in
theorem c_X11_at (l : Launch) (dC : Nat → ClassId) (dI : Nat → Nat → Nat) (cB cC cI cJ cZ cP : ClassId) (sz : Nat) (ra : Nat) (i : Int32) (rn : Nat) (rf : Nat → Int32) (hrn : rn < 2 ^ 31) : Met l yX11_at (g_ws yX11_at cX11_at 2 (some .int)) ({ frames := 1, cells := 0, slots := 0, locals := 40 }) (va_Pc [.ref ra, .int i] (g_B (dC, dI) [(cB, .byte), (cC, .char), (cI, .int), (cJ, .long), (cZ, .boolean), (cP, .object "StoryHouse$Play")] sz (ww_X11_at cB cC cI cJ cZ cP ra i rn rf) g_0)) (q_X11_at dC dI cB cC cI cJ cZ cP ra i rn rf (va_A (ww_X11_at cB cC cI cJ cZ cP ra i rn rf) sz)) 0 0 (va_A (ww_X11_at cB cC cI cJ cZ cP ra i rn rf) sz) := by
  refine Met.ofW (cc := cX11_at) (maxL := 2) (ret := (some .int)) (by decide) rfl ?_
  intro p e s m args below meth c s₁ B hml hv
  obtain ⟨rfl, hsz, hP, hK, hD0, hE, hX⟩ := hv
  have hx := B.exec
  have hb := B.bytes
  have hr := B.returns
  have hts0 := atoms_spec (ws := (g_ws yX11_at cX11_at 2 (some .int))) B.pre
  have hts : ∀ w ∈ lw_good, w.before ([.ref ra, .int i] : List Value).toArray s = true := fun w h => hts0 w (List.mem_cons_of_mem _ h)
  have hown : s.vm.findClass RX11 = some m.cls := findClass_of_methodNamed B.named
  have hlocks := B.notSynchronized
  subst hsz
  have hD := hD0.self (sz := s.heap.size)
  generalize hAe : va_A (ww_X11_at cB cC cI cJ cZ cP ra i rn rf) s.heap.size = A at hD hE hX ⊢
  have hA : ∀ q : Nat, s.heap.size ≤ q → A q := fun q h => by rw [← hAe]; exact Or.inr h
  have hN := hE.1
  have hS : va_S A s.heap s.heap [] := va_S.rf
  have hP : va_P (dC, dI) vwCl [(ra, .inl (cI, rn, .inl rf))] s.heap := hP
  have hl := lv_entry ([.ref ra, .int i]) (n := 2) (Nat.le_of_ble_eq_true rfl)
  rw [lg_entry_eq]
  generalize (lg_sl ([.ref ra, .int i]) ++ List.replicate (2 - (lg_sl ([.ref ra, .int i])).length) Slot.unset).toArray = ls at hl ⊢
  have hl : lv_has ls 2 [(0, .ref ra), (1, .int i)] := hl
  refine lv_iload_n hx hb dX11_at_0 rfl (lv_at hl 1 rfl) ?_
  refine lv_if_lt (tgt := 16) hx hb dX11_at_1 (by decide) (fun c_1 => ?_) (fun c_1 => ?_)
  · refine lv_iconst (v := 0) hx hb dX11_at_16 (by decide +kernel) ?_
    have hP9 := hP.sub (ws' := [(ra, .inl (cI, rn, .inl rf))]) [0] rfl
    have hD9 := hD.sub (ws' := [(ra, .inl (cI, rn, .inl rf))]) [0] (by decide +kernel) rfl
    refine W.widen (k := 0) (n := 0) (Nat.le_of_ble_eq_true rfl) (Nat.le_of_ble_eq_true rfl) ?_
    exact W.iret (v := 0) hx hb hr (fun t ht hW => ⟨⟨0, (), rfl, ((g_at_out hrn (by first | exact Or.inl (by assumption) | exact Or.inr (by assumption))).symm), by rw [ht]; exact hP9, hD9⟩, hS.F ht⟩) hS.2.2 dX11_at_17
  · refine lv_iload_n hx hb dX11_at_4 rfl (lv_at hl 1 rfl) ?_
    refine lv_aload_n hx hb dX11_at_5 rfl (lv_at hl 0 rfl) ?_
    refine va_alen (v := Int32.ofNat rn) hx hb hK hP 0 2 rfl rfl rfl dX11_at_6 ?_
    refine lv_icmp_ge (tgt := 16) hx hb dX11_at_7 (by decide) (fun c_2 => ?_) (fun c_2 => ?_)
    · refine lv_iconst (v := 0) hx hb dX11_at_16 (by decide +kernel) ?_
      have hP9 := hP.sub (ws' := [(ra, .inl (cI, rn, .inl rf))]) [0] rfl
      have hD9 := hD.sub (ws' := [(ra, .inl (cI, rn, .inl rf))]) [0] (by decide +kernel) rfl
      refine W.widen (k := 0) (n := 0) (Nat.le_of_ble_eq_true rfl) (Nat.le_of_ble_eq_true rfl) ?_
      exact W.iret (v := 0) hx hb hr (fun t ht hW => ⟨⟨0, (), rfl, ((g_at_out hrn (by first | exact Or.inl (by assumption) | exact Or.inr (by assumption))).symm), by rw [ht]; exact hP9, hD9⟩, hS.F ht⟩) hS.2.2 dX11_at_17
    · refine lv_aload_n hx hb dX11_at_10 rfl (lv_at hl 0 rfl) ?_
      refine lv_iload_n hx hb dX11_at_11 rfl (lv_at hl 1 rfl) ?_
      refine va_iald hx hb hK hP 0 2 rfl rfl (g_inr hrn (by assumption) (by assumption)) dX11_at_12 ?_
      refine lv_topi (fun x_3 ex_3 => ?_)
      refine lv_goto (tgt := 17) hx hb dX11_at_13 (by decide) ?_
      have hP9 := hP.sub (ws' := [(ra, .inl (cI, rn, .inl rf))]) [0] rfl
      have hD9 := hD.sub (ws' := [(ra, .inl (cI, rn, .inl rf))]) [0] (by decide +kernel) rfl
      refine W.widen (k := 0) (n := 0) (Nat.le_of_ble_eq_true rfl) (Nat.le_of_ble_eq_true rfl) ?_
      exact W.iret (v := x_3) hx hb hr (fun t ht hW => ⟨⟨x_3, (), rfl, (by rw [ex_3]; exact (g_at_in (g_inr hrn (by assumption) (by assumption))).symm), by rw [ht]; exact hP9, hD9⟩, hS.F ht⟩) hS.2.2 dX11_at_17

abbrev ww_X11_put (cB cC cI cJ cZ cP : ClassId) (ra : Nat) (i : Int32) (x : Int32) (rn : Nat) (rf : Nat → Int32) : va_W := [(ra, .inl (cI, rn, .inl rf))]
abbrev q_X11_put (dC : Nat → ClassId) (dI : Nat → Nat → Nat) (cB cC cI cJ cZ cP : ClassId) (ra : Nat) (i : Int32) (x : Int32) (rn : Nat) (rf : Nat → Int32) (A : Nat → Prop) : Array Value → State → Outcome → State → Prop := va_Qv (fun (pf : Nat → Int32) => pf = g_put rn rf i x) (g_Bo (dC, dI) A (fun (pf : Nat → Int32) => [(ra, .inl (cI, rn, .inl pf))])) A
set_option maxHeartbeats 4000000 in
set_option maxRecDepth 100000 in
theorem c_X11_put (l : Launch) (dC : Nat → ClassId) (dI : Nat → Nat → Nat) (cB cC cI cJ cZ cP : ClassId) (sz : Nat) (ra : Nat) (i : Int32) (x : Int32) (rn : Nat) (rf : Nat → Int32) (hrn : rn < 2 ^ 31) : Met l yX11_put (g_ws yX11_put cX11_put 3 none) ({ frames := 1, cells := 0, slots := 0, locals := 40 }) (va_Pc [.ref ra, .int i, .int x] (g_B (dC, dI) [(cB, .byte), (cC, .char), (cI, .int), (cJ, .long), (cZ, .boolean), (cP, .object "StoryHouse$Play")] sz (ww_X11_put cB cC cI cJ cZ cP ra i x rn rf) g_0)) (q_X11_put dC dI cB cC cI cJ cZ cP ra i x rn rf (va_A (ww_X11_put cB cC cI cJ cZ cP ra i x rn rf) sz)) 0 0 (va_A (ww_X11_put cB cC cI cJ cZ cP ra i x rn rf) sz) := by
  refine Met.ofW (cc := cX11_put) (maxL := 3) (ret := none) (by decide) rfl ?_
  intro p e s m args below meth c s₁ B hml hv
  obtain ⟨rfl, hsz, hP, hK, hD0, hE, hX⟩ := hv
  have hx := B.exec
  have hb := B.bytes
  have hr := B.returns
  have hts0 := atoms_spec (ws := (g_ws yX11_put cX11_put 3 none)) B.pre
  have hts : ∀ w ∈ lw_good, w.before ([.ref ra, .int i, .int x] : List Value).toArray s = true := fun w h => hts0 w (List.mem_cons_of_mem _ h)
  have hown : s.vm.findClass RX11 = some m.cls := findClass_of_methodNamed B.named
  have hlocks := B.notSynchronized
  subst hsz
  have hD := hD0.self (sz := s.heap.size)
  generalize hAe : va_A (ww_X11_put cB cC cI cJ cZ cP ra i x rn rf) s.heap.size = A at hD hE hX ⊢
  have hA : ∀ q : Nat, s.heap.size ≤ q → A q := fun q h => by rw [← hAe]; exact Or.inr h
  have hN := hE.1
  have hS : va_S A s.heap s.heap [] := va_S.rf
  have hP : va_P (dC, dI) vwCl [(ra, .inl (cI, rn, .inl rf))] s.heap := hP
  have hl := lv_entry ([.ref ra, .int i, .int x]) (n := 3) (Nat.le_of_ble_eq_true rfl)
  rw [lg_entry_eq]
  generalize (lg_sl ([.ref ra, .int i, .int x]) ++ List.replicate (3 - (lg_sl ([.ref ra, .int i, .int x])).length) Slot.unset).toArray = ls at hl ⊢
  have hl : lv_has ls 3 [(0, .ref ra), (1, .int i), (2, .int x)] := hl
  refine lv_iload_n hx hb dX11_put_0 rfl (lv_at hl 1 rfl) ?_
  refine lv_if_lt (tgt := 14) hx hb dX11_put_1 (by decide) (fun c_1 => ?_) (fun c_1 => ?_)
  · have hP9 := hP.sub (ws' := [(ra, .inl (cI, rn, .inl rf))]) [0] rfl
    have hD9 := hD.sub (ws' := [(ra, .inl (cI, rn, .inl rf))]) [0] (by decide +kernel) rfl
    refine W.widen (k := 0) (n := 0) (Nat.le_of_ble_eq_true rfl) (Nat.le_of_ble_eq_true rfl) ?_
    exact W.vret hx hb hr (fun t ht hW => ⟨⟨rf, rfl, ((g_put_out hrn (by first | exact Or.inl (by assumption) | exact Or.inr (by assumption))).symm), by rw [ht]; exact hP9, hD9⟩, hS.F ht⟩) hS.2.2 dX11_put_14
  · refine lv_iload_n hx hb dX11_put_4 rfl (lv_at hl 1 rfl) ?_
    refine lv_aload_n hx hb dX11_put_5 rfl (lv_at hl 0 rfl) ?_
    refine va_alen (v := Int32.ofNat rn) hx hb hK hP 0 2 rfl rfl rfl dX11_put_6 ?_
    refine lv_icmp_ge (tgt := 14) hx hb dX11_put_7 (by decide) (fun c_2 => ?_) (fun c_2 => ?_)
    · have hP9 := hP.sub (ws' := [(ra, .inl (cI, rn, .inl rf))]) [0] rfl
      have hD9 := hD.sub (ws' := [(ra, .inl (cI, rn, .inl rf))]) [0] (by decide +kernel) rfl
      refine W.widen (k := 0) (n := 0) (Nat.le_of_ble_eq_true rfl) (Nat.le_of_ble_eq_true rfl) ?_
      exact W.vret hx hb hr (fun t ht hW => ⟨⟨rf, rfl, ((g_put_out hrn (by first | exact Or.inl (by assumption) | exact Or.inr (by assumption))).symm), by rw [ht]; exact hP9, hD9⟩, hS.F ht⟩) hS.2.2 dX11_put_14
    · refine lv_aload_n hx hb dX11_put_10 rfl (lv_at hl 0 rfl) ?_
      refine lv_iload_n hx hb dX11_put_11 rfl (lv_at hl 1 rfl) ?_
      refine lv_iload_n hx hb dX11_put_12 rfl (lv_at hl 2 rfl) ?_
      refine va_iast hx hb hK hP hD hS 0 2 rfl rfl (g_inr hrn (by assumption) (by assumption)) dX11_put_13 (fun H_3 locs hP' hD' hS' => ?_)
      obtain ⟨f_4, ef_4⟩ : ∃ g9 : Nat → Int32, g9 = (upd rf i.toNatClampNeg x) := ⟨_, rfl⟩
      replace hP : va_P (dC, dI) vwCl [(ra, .inl (cI, rn, .inl f_4))] H_3 := by rw [ef_4]; exact hP'
      replace hD : va_D A [(ra, .inl (cI, rn, .inl f_4))] := by rw [ef_4]; exact hD'
      replace hS := hS'
      clear hP' hD' hS'
      have hP9 := hP.sub (ws' := [(ra, .inl (cI, rn, .inl f_4))]) [0] rfl
      have hD9 := hD.sub (ws' := [(ra, .inl (cI, rn, .inl f_4))]) [0] (by decide +kernel) rfl
      refine W.widen (k := 0) (n := 0) (Nat.le_of_ble_eq_true rfl) (Nat.le_of_ble_eq_true rfl) ?_
      exact W.vret hx hb hr (fun t ht hW => ⟨⟨f_4, rfl, (by rw [ef_4]; exact (g_put_in (g_inr hrn (by assumption) (by assumption))).symm), by rw [ht]; exact hP9, hD9⟩, hS.F ht⟩) hS.2.2 dX11_put_14

abbrev ww_X11_isLetter (cB cC cI cJ cZ cP : ClassId) (cc : Int32) : va_W := []
abbrev q_X11_isLetter (dC : Nat → ClassId) (dI : Nat → Nat → Nat) (cB cC cI cJ cZ cP : ClassId) (cc : Int32) (A : Nat → Prop) : Array Value → State → Outcome → State → Prop := va_Qi (fun (r : Int32) (_ : Unit) => r = if 97 ≤ cc ∧ cc ≤ 122 then 1 else 0) (g_Bo (dC, dI) A (fun (_ : Unit) => [])) A
set_option maxHeartbeats 4000000 in
set_option maxRecDepth 100000 in
theorem c_X11_isLetter (l : Launch) (dC : Nat → ClassId) (dI : Nat → Nat → Nat) (cB cC cI cJ cZ cP : ClassId) (sz : Nat) (cc : Int32)  : Met l yX11_isLetter (g_ws yX11_isLetter cX11_isLetter 1 (some .boolean)) ({ frames := 1, cells := 0, slots := 0, locals := 40 }) (va_Pc [.int cc] (g_B (dC, dI) [(cB, .byte), (cC, .char), (cI, .int), (cJ, .long), (cZ, .boolean), (cP, .object "StoryHouse$Play")] sz (ww_X11_isLetter cB cC cI cJ cZ cP cc) g_0)) (q_X11_isLetter dC dI cB cC cI cJ cZ cP cc (va_A (ww_X11_isLetter cB cC cI cJ cZ cP cc) sz)) 0 0 (va_A (ww_X11_isLetter cB cC cI cJ cZ cP cc) sz) := by
  refine Met.ofW (cc := cX11_isLetter) (maxL := 1) (ret := (some .boolean)) (by decide) rfl ?_
  intro p e s m args below meth c s₁ B hml hv
  obtain ⟨rfl, hsz, hP, hK, hD0, hE, hX⟩ := hv
  have hx := B.exec
  have hb := B.bytes
  have hr := B.returns
  have hts0 := atoms_spec (ws := (g_ws yX11_isLetter cX11_isLetter 1 (some .boolean))) B.pre
  have hts : ∀ w ∈ lw_good, w.before ([.int cc] : List Value).toArray s = true := fun w h => hts0 w (List.mem_cons_of_mem _ h)
  have hown : s.vm.findClass RX11 = some m.cls := findClass_of_methodNamed B.named
  have hlocks := B.notSynchronized
  subst hsz
  have hD := hD0.self (sz := s.heap.size)
  generalize hAe : va_A (ww_X11_isLetter cB cC cI cJ cZ cP cc) s.heap.size = A at hD hE hX ⊢
  have hA : ∀ q : Nat, s.heap.size ≤ q → A q := fun q h => by rw [← hAe]; exact Or.inr h
  have hN := hE.1
  have hS : va_S A s.heap s.heap [] := va_S.rf
  have hP : va_P (dC, dI) vwCl [] s.heap := hP
  have hl := lv_entry ([.int cc]) (n := 1) (Nat.le_of_ble_eq_true rfl)
  rw [lg_entry_eq]
  generalize (lg_sl ([.int cc]) ++ List.replicate (1 - (lg_sl ([.int cc])).length) Slot.unset).toArray = ls at hl ⊢
  have hl : lv_has ls 1 [(0, .int cc)] := hl
  refine lv_iload_n hx hb dX11_isLetter_0 rfl (lv_at hl 0 rfl) ?_
  refine lv_bipush (v := 97) hx hb dX11_isLetter_1 (by decide +kernel) ?_
  refine lv_icmp_lt (tgt := 16) hx hb dX11_isLetter_3 (by decide) (fun c_1 => ?_) (fun c_1 => ?_)
  · refine lv_iconst (v := 0) hx hb dX11_isLetter_16 (by decide +kernel) ?_
    have hP9 := hP.sub (ws' := []) [] rfl
    have hD9 := hD.sub (ws' := []) [] (by decide +kernel) rfl
    refine W.widen (k := 0) (n := 0) (Nat.le_of_ble_eq_true rfl) (Nat.le_of_ble_eq_true rfl) ?_
    exact W.zret (v := 0) hx hb hr (by decide +kernel) (fun t ht hW => ⟨⟨0, (), rfl, ((if_neg (fun e => by first | exact absurd ‹cc < 97› (Int32.not_lt.mpr e.1) | exact absurd ‹122 < cc› (Int32.not_lt.mpr e.2))).symm), by rw [ht]; exact hP9, hD9⟩, hS.F ht⟩) hS.2.2 dX11_isLetter_17
  · refine lv_iload_n hx hb dX11_isLetter_6 rfl (lv_at hl 0 rfl) ?_
    refine lv_bipush (v := 122) hx hb dX11_isLetter_7 (by decide +kernel) ?_
    refine lv_icmp_gt (tgt := 16) hx hb dX11_isLetter_9 (by decide) (fun c_2 => ?_) (fun c_2 => ?_)
    · refine lv_iconst (v := 0) hx hb dX11_isLetter_16 (by decide +kernel) ?_
      have hP9 := hP.sub (ws' := []) [] rfl
      have hD9 := hD.sub (ws' := []) [] (by decide +kernel) rfl
      refine W.widen (k := 0) (n := 0) (Nat.le_of_ble_eq_true rfl) (Nat.le_of_ble_eq_true rfl) ?_
      exact W.zret (v := 0) hx hb hr (by decide +kernel) (fun t ht hW => ⟨⟨0, (), rfl, ((if_neg (fun e => by first | exact absurd ‹cc < 97› (Int32.not_lt.mpr e.1) | exact absurd ‹122 < cc› (Int32.not_lt.mpr e.2))).symm), by rw [ht]; exact hP9, hD9⟩, hS.F ht⟩) hS.2.2 dX11_isLetter_17
    · refine lv_iconst (v := 1) hx hb dX11_isLetter_12 (by decide +kernel) ?_
      refine lv_goto (tgt := 17) hx hb dX11_isLetter_13 (by decide) ?_
      have hP9 := hP.sub (ws' := []) [] rfl
      have hD9 := hD.sub (ws' := []) [] (by decide +kernel) rfl
      refine W.widen (k := 0) (n := 0) (Nat.le_of_ble_eq_true rfl) (Nat.le_of_ble_eq_true rfl) ?_
      exact W.zret (v := 1) hx hb hr (by decide +kernel) (fun t ht hW => ⟨⟨1, (), rfl, ((if_pos ⟨Int32.not_lt.mp (by assumption), Int32.not_lt.mp (by assumption)⟩).symm), by rw [ht]; exact hP9, hD9⟩, hS.F ht⟩) hS.2.2 dX11_isLetter_17

abbrev ww_X11_nameSign (cB cC cI cJ cZ cP : ClassId) (cc : Int32) : va_W := []
abbrev q_X11_nameSign (dC : Nat → ClassId) (dI : Nat → Nat → Nat) (cB cC cI cJ cZ cP : ClassId) (cc : Int32) (A : Nat → Prop) : Array Value → State → Outcome → State → Prop := va_Qi (fun (r : Int32) (_ : Unit) => True) (g_Bo (dC, dI) A (fun (_ : Unit) => [])) A
set_option maxHeartbeats 4000000 in
set_option maxRecDepth 100000 in
theorem c_X11_nameSign (l : Launch) (dC : Nat → ClassId) (dI : Nat → Nat → Nat) (cB cC cI cJ cZ cP : ClassId) (sz : Nat) (cc : Int32)  : Met l yX11_nameSign (g_ws yX11_nameSign cX11_nameSign 1 (some .int)) ({ frames := 2, cells := 0, slots := 0, locals := 60 }) (va_Pc [.int cc] (g_B (dC, dI) [(cB, .byte), (cC, .char), (cI, .int), (cJ, .long), (cZ, .boolean), (cP, .object "StoryHouse$Play")] sz (ww_X11_nameSign cB cC cI cJ cZ cP cc) g_0)) (q_X11_nameSign dC dI cB cC cI cJ cZ cP cc (va_A (ww_X11_nameSign cB cC cI cJ cZ cP cc) sz)) 0 0 (va_A (ww_X11_nameSign cB cC cI cJ cZ cP cc) sz) := by
  refine Met.ofW (cc := cX11_nameSign) (maxL := 1) (ret := (some .int)) (by decide) rfl ?_
  intro p e s m args below meth c s₁ B hml hv
  obtain ⟨rfl, hsz, hP, hK, hD0, hE, hX⟩ := hv
  have hx := B.exec
  have hb := B.bytes
  have hr := B.returns
  have hts0 := atoms_spec (ws := (g_ws yX11_nameSign cX11_nameSign 1 (some .int))) B.pre
  have hts : ∀ w ∈ lw_good, w.before ([.int cc] : List Value).toArray s = true := fun w h => hts0 w (List.mem_cons_of_mem _ h)
  have hown : s.vm.findClass RX11 = some m.cls := findClass_of_methodNamed B.named
  have hlocks := B.notSynchronized
  subst hsz
  have hD := hD0.self (sz := s.heap.size)
  generalize hAe : va_A (ww_X11_nameSign cB cC cI cJ cZ cP cc) s.heap.size = A at hD hE hX ⊢
  have hA : ∀ q : Nat, s.heap.size ≤ q → A q := fun q h => by rw [← hAe]; exact Or.inr h
  have hN := hE.1
  have hS : va_S A s.heap s.heap [] := va_S.rf
  have hP : va_P (dC, dI) vwCl [] s.heap := hP
  have hl := lv_entry ([.int cc]) (n := 1) (Nat.le_of_ble_eq_true rfl)
  rw [lg_entry_eq]
  generalize (lg_sl ([.int cc]) ++ List.replicate (1 - (lg_sl ([.int cc])).length) Slot.unset).toArray = ls at hl ⊢
  have hl : lv_has ls 1 [(0, .int cc)] := hl
  refine lv_iload_n hx hb dX11_nameSign_0 rfl (lv_at hl 0 rfl) ?_
  have hPc := hP.sub (ws' := []) [] rfl
  have hDc := hD.sub (ws' := []) [] (by decide +kernel) rfl
  have hFc := va_free (wc := []) hD hS hA [] rfl
  refine g_ofi (wc := []) (wr := []) hP hD hS hFc [] [] rfl rfl (by decide +kernel) (by decide +kernel) (va_runS (As := [.int cc]) (rest := []) ⟨hx, hb, hml, hown, hts⟩ (c_X11_isLetter l dC dI cB cC cI cJ cZ cP s.heap.size cc ) (va_cwS 1 hts (g_gS wq_398 wq_399 wq_1 wq_400) rfl rfl rfl (by decide +kernel) ⟨Nat.le_of_ble_eq_true rfl, Nat.le_of_ble_eq_true rfl⟩) (g_preS g_bl0 hK hPc hDc hS hE hFc g_to0) rfl rfl hl.1 rfl (lv_room (Nat.le_of_ble_eq_true rfl)) dX11_nameSign_1 ⟨Nat.le_of_ble_eq_true rfl, Nat.le_of_ble_eq_true rfl⟩) (fun r_3 u_2 H_4 locs w_1 hP' hD' hS' => ?_)
  clear hPc hDc hFc
  have w_1 : r_3 = if 97 ≤ cc ∧ cc ≤ 122 then 1 else 0 := w_1
  replace hP : va_P (dC, dI) vwCl [] H_4 := hP'
  replace hD : va_D A [] := hD'
  replace hS := hS'
  clear hP' hD' hS'
  refine lv_if_eq (tgt := 16) hx hb dX11_nameSign_4 (by decide) (fun c_5 => ?_) (fun c_5 => ?_)
  · refine lv_iload_n hx hb dX11_nameSign_16 rfl (lv_at hl 0 rfl) ?_
    refine lv_bipush (v := 48) hx hb dX11_nameSign_17 (by decide +kernel) ?_
    refine lv_isub hx hb dX11_nameSign_19 ?_
    refine lv_topi (fun x_6 ex_6 => ?_)
    refine lv_bipush (v := 27) hx hb dX11_nameSign_20 (by decide +kernel) ?_
    refine lv_iadd hx hb dX11_nameSign_22 ?_
    refine lv_topi (fun x_7 ex_7 => ?_)
    have hP9 := hP.sub (ws' := []) [] rfl
    have hD9 := hD.sub (ws' := []) [] (by decide +kernel) rfl
    refine W.widen (k := 0) (n := 0) (Nat.le_of_ble_eq_true rfl) (Nat.le_of_ble_eq_true rfl) ?_
    exact W.iret (v := x_7) hx hb hr (fun t ht hW => ⟨⟨x_7, (), rfl, (by first | trivial | rfl | assumption), by rw [ht]; exact hP9, hD9⟩, hS.F ht⟩) hS.2.2 dX11_nameSign_23
  · refine lv_iload_n hx hb dX11_nameSign_7 rfl (lv_at hl 0 rfl) ?_
    refine lv_bipush (v := 97) hx hb dX11_nameSign_8 (by decide +kernel) ?_
    refine lv_isub hx hb dX11_nameSign_10 ?_
    refine lv_topi (fun x_8 ex_8 => ?_)
    refine lv_iconst (v := 1) hx hb dX11_nameSign_11 (by decide +kernel) ?_
    refine lv_iadd hx hb dX11_nameSign_12 ?_
    refine lv_topi (fun x_9 ex_9 => ?_)
    refine lv_goto (tgt := 23) hx hb dX11_nameSign_13 (by decide) ?_
    have hP9 := hP.sub (ws' := []) [] rfl
    have hD9 := hD.sub (ws' := []) [] (by decide +kernel) rfl
    refine W.widen (k := 0) (n := 0) (Nat.le_of_ble_eq_true rfl) (Nat.le_of_ble_eq_true rfl) ?_
    exact W.iret (v := x_9) hx hb hr (fun t ht hW => ⟨⟨x_9, (), rfl, (by first | trivial | rfl | assumption), by rw [ht]; exact hP9, hD9⟩, hS.F ht⟩) hS.2.2 dX11_nameSign_23

abbrev ww_X11_wordEnd (cB cC cI cJ cZ cP : ClassId) (q : Nat) (from_ : Int32) (v : Nat) (byt : List Int32) : va_W := []
abbrev q_X11_wordEnd (dC : Nat → ClassId) (dI : Nat → Nat → Nat) (cB cC cI cJ cZ cP : ClassId) (q : Nat) (from_ : Int32) (v : Nat) (byt : List Int32) (A : Nat → Prop) : Array Value → State → Outcome → State → Prop := va_Qi (fun (r : Int32) (_ : Unit) => True) (g_Bo (dC, dI) A (fun (_ : Unit) => [])) A
set_option maxHeartbeats 4000000 in
set_option maxRecDepth 100000 in
theorem c_X11_wordEnd (l : Launch) (dC : Nat → ClassId) (dI : Nat → Nat → Nat) (cB cC cI cJ cZ cP : ClassId) (sz : Nat) (q : Nat) (from_ : Int32) (v : Nat) (byt : List Int32)  : Met l yX11_wordEnd (g_ws yX11_wordEnd cX11_wordEnd 3 (some .int)) ({ frames := 5, cells := 0, slots := 0, locals := 125 }) (va_Pc [.ref q, .int from_] (g_B (dC, dI) [(cB, .byte), (cC, .char), (cI, .int), (cJ, .long), (cZ, .boolean), (cP, .object "StoryHouse$Play")] sz (ww_X11_wordEnd cB cC cI cJ cZ cP q from_ v byt) ((fun U : State => g_S q v byt (va_A (ww_X11_wordEnd cB cC cI cJ cZ cP q from_ v byt) sz) U U.heap)))) (q_X11_wordEnd dC dI cB cC cI cJ cZ cP q from_ v byt (va_A (ww_X11_wordEnd cB cC cI cJ cZ cP q from_ v byt) sz)) 0 0 (va_A (ww_X11_wordEnd cB cC cI cJ cZ cP q from_ v byt) sz) := by
  refine Met.ofW (cc := cX11_wordEnd) (maxL := 3) (ret := (some .int)) (by decide) rfl ?_
  intro p e s m args below meth c s₁ B hml hv
  obtain ⟨rfl, hsz, hP, hK, hD0, hE, hX⟩ := hv
  have hx := B.exec
  have hb := B.bytes
  have hr := B.returns
  have hts0 := atoms_spec (ws := (g_ws yX11_wordEnd cX11_wordEnd 3 (some .int))) B.pre
  have hts : ∀ w ∈ lw_good, w.before ([.ref q, .int from_] : List Value).toArray s = true := fun w h => hts0 w (List.mem_cons_of_mem _ h)
  have hown : s.vm.findClass RX11 = some m.cls := findClass_of_methodNamed B.named
  have hlocks := B.notSynchronized
  subst hsz
  have hD := hD0.self (sz := s.heap.size)
  generalize hAe : va_A (ww_X11_wordEnd cB cC cI cJ cZ cP q from_ v byt) s.heap.size = A at hD hE hX ⊢
  have hA : ∀ q : Nat, s.heap.size ≤ q → A q := fun q h => by rw [← hAe]; exact Or.inr h
  have hN := hE.1
  have hS : va_S A s.heap s.heap [] := va_S.rf
  have hP : va_P (dC, dI) vwCl [] s.heap := hP
  have hl := lv_entry ([.ref q, .int from_]) (n := 3) (Nat.le_of_ble_eq_true rfl)
  rw [lg_entry_eq]
  generalize (lg_sl ([.ref q, .int from_]) ++ List.replicate (3 - (lg_sl ([.ref q, .int from_])).length) Slot.unset).toArray = ls at hl ⊢
  have hl : lv_has ls 3 [(0, .ref q), (1, .int from_)] := hl
  have hStr : g_S q v byt A s s.heap := hX
  refine lv_iconst (v := 0) hx hb dX11_wordEnd_0 (by decide +kernel) ?_
  refine lv_iload_n hx hb dX11_wordEnd_1 rfl (lv_at hl 1 rfl) ?_
  refine va_mmax hx hb (hml.trans hl.1.symm) hown (hts (.methodLink RX11 329 yJ9_max_7cf53) wq_356) (hts (.static yJ9_max_7cf53) wq_334) (hts (.initialized RJ9) wq_19) (hts (.code yJ9_max_7cf53 cJ9_max_7cf53 2 (some .int)) wq_335) (by decide) (by decide) (Nat.le_of_ble_eq_true rfl) (Nat.le_of_ble_eq_true rfl) dX11_wordEnd_2 ?_
  refine lv_topi (fun x_1 ex_1 => ?_)
  refine lv_istore_n (lv' := [(2, .int x_1), (0, .ref q), (1, .int from_)]) hx hb dX11_wordEnd_5 rfl hl (by decide) rfl (fun ls hl => ?_)
  have LOOP_2 : ∀ (fu : Nat) (x2 : Int32) (h0 : ¬ x2 < 0) (hfu : ((Int32.ofNat byt.length).toInt - x2.toInt).toNat < fu) (H : Heap) (locs : List Loc), va_P (dC, dI) vwCl [] H → va_D A [] → va_S A s.heap H locs → ∀ ls : Array Slot, lv_has ls 3 [(0, .ref q), (1, .int from_), (2, .int x2)] → W p l e ({ frames := 5, cells := 0, slots := 0, locals := 125 }) s m ([.ref q, .int from_] : List Value).toArray below meth c H locs 0 0 (MQ below (q_X11_wordEnd dC dI cB cC cI cJ cZ cP q from_ v byt A) ([.ref q, .int from_] : List Value).toArray s 0 0 A) (F0 m 6 ls []) := by
    intro fu
    induction fu with
    | zero => intro x2 h0 hfu; exact absurd hfu (Nat.not_lt_zero _)
    | succ fu ih =>
      intro x2 h0 hfu H locs hP hD hS ls hl
      refine lv_iload_n hx hb dX11_wordEnd_6 rfl (lv_at hl 2 rfl) ?_
      refine lv_aload_n hx hb dX11_wordEnd_7 rfl (lv_at hl 0 rfl) ?_
      have hPc := hP.sub (ws' := []) [] rfl
      have hDc := hD.sub (ws' := []) [] (by decide +kernel) rfl
      have hFc := va_free (wc := []) hD hS hA [] rfl
      refine g_ofi (wc := []) (wr := []) hP hD hS hFc [] [] rfl rfl (by decide +kernel) (by decide +kernel) (va_runV (As := []) (rest := [.int x2]) ⟨hx, hb, hml, hown, hts⟩ (c_J0_length_8abf5 l dC dI cB cC cI cJ cZ cP H.size q v byt ) (cwV 0 hts (g_gV wq_357 wq_346 wq_347 wq_22 wq_348) rfl rfl rfl (by decide +kernel) ⟨Nat.le_of_ble_eq_true rfl, Nat.le_of_ble_eq_true rfl⟩) (g_preVs g_blS hK hPc hDc hS hE hFc (g_toS hStr hS hFc) (va_Orecv hStr.1 hS)) rfl rfl hl.1 rfl (lv_room (Nat.le_of_ble_eq_true rfl)) dX11_wordEnd_8 ⟨Nat.le_of_ble_eq_true rfl, Nat.le_of_ble_eq_true rfl⟩) (fun r_5 u_4 H_6 locs w_3 hP' hD' hS' => ?_)
      clear hPc hDc hFc
      have w_3 : r_5 = Int32.ofNat byt.length := w_3
      replace hP : va_P (dC, dI) vwCl [] H_6 := hP'
      replace hD : va_D A [] := hD'
      replace hS := hS'
      clear hP' hD' hS'
      obtain rfl : (Int32.ofNat byt.length) = r_5 := (w_3).symm
      refine lv_icmp_ge (tgt := 32) hx hb dX11_wordEnd_11 (by decide) (fun c_7 => ?_) (fun c_7 => ?_)
      · refine lv_aload_n hx hb dX11_wordEnd_32 rfl (lv_at hl 0 rfl) ?_
        have hPc := hP.sub (ws' := []) [] rfl
        have hDc := hD.sub (ws' := []) [] (by decide +kernel) rfl
        have hFc := va_free (wc := []) hD hS hA [] rfl
        refine g_ofi (wc := []) (wr := []) hP hD hS hFc [] [] rfl rfl (by decide +kernel) (by decide +kernel) (va_runV (As := []) (rest := []) ⟨hx, hb, hml, hown, hts⟩ (c_J0_length_8abf5 l dC dI cB cC cI cJ cZ cP H_6.size q v byt ) (cwV 0 hts (g_gV wq_357 wq_346 wq_347 wq_22 wq_348) rfl rfl rfl (by decide +kernel) ⟨Nat.le_of_ble_eq_true rfl, Nat.le_of_ble_eq_true rfl⟩) (g_preVs g_blS hK hPc hDc hS hE hFc (g_toS hStr hS hFc) (va_Orecv hStr.1 hS)) rfl rfl hl.1 rfl (lv_room (Nat.le_of_ble_eq_true rfl)) dX11_wordEnd_33 ⟨Nat.le_of_ble_eq_true rfl, Nat.le_of_ble_eq_true rfl⟩) (fun r_10 u_9 H_11 locs w_8 hP' hD' hS' => ?_)
        clear hPc hDc hFc
        have w_8 : r_10 = Int32.ofNat byt.length := w_8
        replace hP : va_P (dC, dI) vwCl [] H_11 := hP'
        replace hD : va_D A [] := hD'
        replace hS := hS'
        clear hP' hD' hS'
        obtain rfl : (Int32.ofNat byt.length) = r_10 := (w_8).symm
        have hP9 := hP.sub (ws' := []) [] rfl
        have hD9 := hD.sub (ws' := []) [] (by decide +kernel) rfl
        refine W.widen (k := 0) (n := 0) (Nat.le_of_ble_eq_true rfl) (Nat.le_of_ble_eq_true rfl) ?_
        exact W.iret (v := (Int32.ofNat byt.length)) hx hb hr (fun t ht hW => ⟨⟨(Int32.ofNat byt.length), (), rfl, (by first | trivial | rfl | assumption), by rw [ht]; exact hP9, hD9⟩, hS.F ht⟩) hS.2.2 dX11_wordEnd_36
      · refine lv_aload_n hx hb dX11_wordEnd_14 rfl (lv_at hl 0 rfl) ?_
        refine lv_iload_n hx hb dX11_wordEnd_15 rfl (lv_at hl 2 rfl) ?_
        have hPc := hP.sub (ws' := []) [] rfl
        have hDc := hD.sub (ws' := []) [] (by decide +kernel) rfl
        have hFc := va_free (wc := []) hD hS hA [] rfl
        refine g_ofi (wc := []) (wr := []) hP hD hS hFc [] [] rfl rfl (by decide +kernel) (by decide +kernel) (va_runV (As := [.int x2]) (rest := []) ⟨hx, hb, hml, hown, hts⟩ (c_J0_charAt_5068e l dC dI cB cC cI cJ cZ cP H_6.size q x2 v byt (h0) (Int32.not_le.mp (by assumption))) (cwV 1 hts (g_gV wq_358 wq_359 wq_360 wq_22 wq_361) rfl rfl rfl (by decide +kernel) ⟨Nat.le_of_ble_eq_true rfl, Nat.le_of_ble_eq_true rfl⟩) (g_preVs g_blS hK hPc hDc hS hE hFc (g_toS hStr hS hFc) (va_Orecv hStr.1 hS)) rfl rfl hl.1 rfl (lv_room (Nat.le_of_ble_eq_true rfl)) dX11_wordEnd_16 ⟨Nat.le_of_ble_eq_true rfl, Nat.le_of_ble_eq_true rfl⟩) (fun r_14 u_13 H_15 locs w_12 hP' hD' hS' => ?_)
        clear hPc hDc hFc
        have w_12 : r_14 = g_chr (byt.getD x2.toNatClampNeg 0) := w_12
        replace hP : va_P (dC, dI) vwCl [] H_15 := hP'
        replace hD : va_D A [] := hD'
        replace hS := hS'
        clear hP' hD' hS'
        obtain rfl : (g_chr (byt.getD x2.toNatClampNeg 0)) = r_14 := (w_12).symm
        refine lv_bipush (v := 32) hx hb dX11_wordEnd_19 (by decide +kernel) ?_
        refine lv_icmp_ne (tgt := 26) hx hb dX11_wordEnd_21 (by decide) (fun c_16 => ?_) (fun c_16 => ?_)
        · obtain ⟨x_17, ex_17⟩ : ∃ y : Int32, y = x2 + 1 := ⟨_, rfl⟩
          refine lv_iinc (v := x_17) (lv' := [(2, .int x_17), (0, .ref q), (1, .int from_)]) hx hb dX11_wordEnd_26 hl (k := 2) rfl (by rw [ex_17]; rfl) (by decide) rfl (fun ls hl => ?_)
          refine lv_goto (tgt := 6) hx hb dX11_wordEnd_29 (by decide) ?_
          exact ih x_17 (g_up h0 (by assumption) ex_17) (Nat.lt_of_lt_of_le (g_mu (by assumption) ex_17) (Nat.le_of_lt_succ hfu)) _ _ hP hD hS ls (lv_sub hl [1, 2, 0] rfl)
        · refine lv_iload_n hx hb dX11_wordEnd_24 rfl (lv_at hl 2 rfl) ?_
          have hP9 := hP.sub (ws' := []) [] rfl
          have hD9 := hD.sub (ws' := []) [] (by decide +kernel) rfl
          refine W.widen (k := 0) (n := 0) (Nat.le_of_ble_eq_true rfl) (Nat.le_of_ble_eq_true rfl) ?_
          exact W.iret (v := x2) hx hb hr (fun t ht hW => ⟨⟨x2, (), rfl, (by first | trivial | rfl | assumption), by rw [ht]; exact hP9, hD9⟩, hS.F ht⟩) hS.2.2 dX11_wordEnd_25
  exact LOOP_2 _ x_1 (by rw [ex_1]; exact g_max0 _) (Nat.lt_succ_self _) _ _ hP hD hS ls (lv_sub hl [1, 2, 0] rfl)

abbrev ww_X11_packed (cB cC cI cJ cZ cP : ClassId) (q : Nat) (from_ : Int32) (to_ : Int32) (wd : Int32) (v : Nat) (byt : List Int32) : va_W := []
abbrev q_X11_packed (dC : Nat → ClassId) (dI : Nat → Nat → Nat) (cB cC cI cJ cZ cP : ClassId) (q : Nat) (from_ : Int32) (to_ : Int32) (wd : Int32) (v : Nat) (byt : List Int32) (A : Nat → Prop) : Array Value → State → Outcome → State → Prop := va_Ql (fun (r : Int64) (_ : Unit) => True) (g_Bo (dC, dI) A (fun (_ : Unit) => [])) A
set_option maxHeartbeats 4000000 in
set_option maxRecDepth 100000 in
theorem c_X11_packed (l : Launch) (dC : Nat → ClassId) (dI : Nat → Nat → Nat) (cB cC cI cJ cZ cP : ClassId) (sz : Nat) (q : Nat) (from_ : Int32) (to_ : Int32) (wd : Int32) (v : Nat) (byt : List Int32)  : Met l yX11_packed (g_ws yX11_packed cX11_packed 9 (some .long)) ({ frames := 5, cells := 0, slots := 0, locals := 125 }) (va_Pc [.ref q, .int from_, .int to_, .int wd] (g_B (dC, dI) [(cB, .byte), (cC, .char), (cI, .int), (cJ, .long), (cZ, .boolean), (cP, .object "StoryHouse$Play")] sz (ww_X11_packed cB cC cI cJ cZ cP q from_ to_ wd v byt) ((fun U : State => g_S q v byt (va_A (ww_X11_packed cB cC cI cJ cZ cP q from_ to_ wd v byt) sz) U U.heap)))) (q_X11_packed dC dI cB cC cI cJ cZ cP q from_ to_ wd v byt (va_A (ww_X11_packed cB cC cI cJ cZ cP q from_ to_ wd v byt) sz)) 0 0 (va_A (ww_X11_packed cB cC cI cJ cZ cP q from_ to_ wd v byt) sz) := by
  refine Met.ofW (cc := cX11_packed) (maxL := 9) (ret := (some .long)) (by decide) rfl ?_
  intro p e s m args below meth c s₁ B hml hv
  obtain ⟨rfl, hsz, hP, hK, hD0, hE, hX⟩ := hv
  have hx := B.exec
  have hb := B.bytes
  have hr := B.returns
  have hts0 := atoms_spec (ws := (g_ws yX11_packed cX11_packed 9 (some .long))) B.pre
  have hts : ∀ w ∈ lw_good, w.before ([.ref q, .int from_, .int to_, .int wd] : List Value).toArray s = true := fun w h => hts0 w (List.mem_cons_of_mem _ h)
  have hown : s.vm.findClass RX11 = some m.cls := findClass_of_methodNamed B.named
  have hlocks := B.notSynchronized
  subst hsz
  have hD := hD0.self (sz := s.heap.size)
  generalize hAe : va_A (ww_X11_packed cB cC cI cJ cZ cP q from_ to_ wd v byt) s.heap.size = A at hD hE hX ⊢
  have hA : ∀ q : Nat, s.heap.size ≤ q → A q := fun q h => by rw [← hAe]; exact Or.inr h
  have hN := hE.1
  have hS : va_S A s.heap s.heap [] := va_S.rf
  have hP : va_P (dC, dI) vwCl [] s.heap := hP
  have hl := lv_entry ([.ref q, .int from_, .int to_, .int wd]) (n := 9) (Nat.le_of_ble_eq_true rfl)
  rw [lg_entry_eq]
  generalize (lg_sl ([.ref q, .int from_, .int to_, .int wd]) ++ List.replicate (9 - (lg_sl ([.ref q, .int from_, .int to_, .int wd])).length) Slot.unset).toArray = ls at hl ⊢
  have hl : lv_has ls 9 [(0, .ref q), (1, .int from_), (2, .int to_), (3, .int wd)] := hl
  have hStr : g_S q v byt A s s.heap := hX
  refine lv_lconst (v := 0) hx hb dX11_packed_0 (by decide +kernel) ?_
  refine lv_lstore (lv' := [(4, .long 0), (0, .ref q), (1, .int from_), (2, .int to_), (3, .int wd)]) hx hb dX11_packed_1 hl (by decide) rfl (fun ls hl => ?_)
  refine lv_iconst (v := 0) hx hb dX11_packed_3 (by decide +kernel) ?_
  refine lv_istore (lv' := [(6, .int 0), (4, .long 0), (0, .ref q), (1, .int from_), (2, .int to_), (3, .int wd)]) hx hb dX11_packed_4 hl (by decide) rfl (fun ls hl => ?_)
  have LOOP_1 : ∀ (fu : Nat) (x6 : Int32) (y4 : Int64)  (hfu : (wd.toInt - x6.toInt).toNat < fu) (H : Heap) (locs : List Loc), va_P (dC, dI) vwCl [] H → va_D A [] → va_S A s.heap H locs → ∀ ls : Array Slot, lv_has ls 9 [(0, .ref q), (1, .int from_), (2, .int to_), (3, .int wd), (6, .int x6), (4, .long y4)] → W p l e ({ frames := 5, cells := 0, slots := 0, locals := 125 }) s m ([.ref q, .int from_, .int to_, .int wd] : List Value).toArray below meth c H locs 0 0 (MQ below (q_X11_packed dC dI cB cC cI cJ cZ cP q from_ to_ wd v byt A) ([.ref q, .int from_, .int to_, .int wd] : List Value).toArray s 0 0 A) (F0 m 6 ls []) := by
    intro fu
    induction fu with
    | zero => intro x6 y4  hfu; exact absurd hfu (Nat.not_lt_zero _)
    | succ fu ih =>
      intro x6 y4  hfu H locs hP hD hS ls hl
      refine lv_iload hx hb dX11_packed_6 (lv_at hl 4 rfl) ?_
      refine lv_iload_n hx hb dX11_packed_8 rfl (lv_at hl 3 rfl) ?_
      refine lv_icmp_ge (tgt := 79) hx hb dX11_packed_9 (by decide) (fun c_2 => ?_) (fun c_2 => ?_)
      · refine lv_lload hx hb dX11_packed_79 (lv_at hl 5 rfl) ?_
        have hP9 := hP.sub (ws' := []) [] rfl
        have hD9 := hD.sub (ws' := []) [] (by decide +kernel) rfl
        refine W.widen (k := 0) (n := 0) (Nat.le_of_ble_eq_true rfl) (Nat.le_of_ble_eq_true rfl) ?_
        exact W.lret (v := y4) hx hb hr (fun t ht hW => ⟨⟨y4, (), rfl, (by first | trivial | rfl | assumption), by rw [ht]; exact hP9, hD9⟩, hS.F ht⟩) hS.2.2 dX11_packed_81
      · refine lv_iload_n hx hb dX11_packed_12 rfl (lv_at hl 1 rfl) ?_
        refine lv_iload hx hb dX11_packed_13 (lv_at hl 4 rfl) ?_
        refine lv_iadd hx hb dX11_packed_15 ?_
        refine lv_topi (fun x_3 ex_3 => ?_)
        refine lv_istore (lv' := [(7, .int x_3), (0, .ref q), (1, .int from_), (2, .int to_), (3, .int wd), (6, .int x6), (4, .long y4)]) hx hb dX11_packed_16 hl (by decide) rfl (fun ls hl => ?_)
        refine lv_iload hx hb dX11_packed_18 (lv_at hl 0 rfl) ?_
        refine lv_if_lt (tgt := 42) hx hb dX11_packed_20 (by decide) (fun c_4 => ?_) (fun c_4 => ?_)
        · refine lv_iconst (v := 0) hx hb dX11_packed_42 (by decide +kernel) ?_
          refine lv_istore (lv' := [(8, .int 0), (7, .int x_3), (0, .ref q), (1, .int from_), (2, .int to_), (3, .int wd), (6, .int x6), (4, .long y4)]) hx hb dX11_packed_43 hl (by decide) rfl (fun ls hl => ?_)
          refine lv_lload hx hb dX11_packed_45 (lv_at hl 7 rfl) ?_
          refine lv_ldc2 (v := 37) hx hb hown (hts (.constantLong RX11 319 (37)) wq_394) dX11_packed_47 ?_
          refine lv_lmul hx hb dX11_packed_50 ?_
          refine lv_topl (fun y_5 ey_5 => ?_)
          refine lv_iload hx hb dX11_packed_51 (lv_at hl 0 rfl) ?_
          refine lv_if_eq (tgt := 68) hx hb dX11_packed_53 (by decide) (fun c_6 => ?_) (fun c_6 => absurd (by decide +kernel) c_6)
          refine lv_iconst (v := 0) hx hb dX11_packed_68 (by decide +kernel) ?_
          refine lv_i2l hx hb dX11_packed_69 rfl ?_
          refine lv_topl (fun y_7 ey_7 => ?_)
          refine lv_ladd hx hb dX11_packed_70 ?_
          refine lv_topl (fun y_8 ey_8 => ?_)
          refine lv_lstore (lv' := [(4, .long y_8), (8, .int 0), (7, .int x_3), (0, .ref q), (1, .int from_), (2, .int to_), (3, .int wd), (6, .int x6)]) hx hb dX11_packed_71 hl (by decide) rfl (fun ls hl => ?_)
          obtain ⟨x_9, ex_9⟩ : ∃ y : Int32, y = x6 + 1 := ⟨_, rfl⟩
          refine lv_iinc (v := x_9) (lv' := [(6, .int x_9), (4, .long y_8), (8, .int 0), (7, .int x_3), (0, .ref q), (1, .int from_), (2, .int to_), (3, .int wd)]) hx hb dX11_packed_73 hl (k := 7) rfl (by rw [ex_9]; rfl) (by decide) rfl (fun ls hl => ?_)
          refine lv_goto (tgt := 6) hx hb dX11_packed_76 (by decide) ?_
          exact ih x_9 y_8  (Nat.lt_of_lt_of_le (g_mu (by assumption) ex_9) (Nat.le_of_lt_succ hfu)) _ _ hP hD hS ls (lv_sub hl [4, 5, 6, 7, 0, 1] rfl)
        · refine lv_iload hx hb dX11_packed_23 (lv_at hl 0 rfl) ?_
          refine lv_iload_n hx hb dX11_packed_25 rfl (lv_at hl 3 rfl) ?_
          refine lv_icmp_ge (tgt := 42) hx hb dX11_packed_26 (by decide) (fun c_10 => ?_) (fun c_10 => ?_)
          · refine lv_iconst (v := 0) hx hb dX11_packed_42 (by decide +kernel) ?_
            refine lv_istore (lv' := [(8, .int 0), (7, .int x_3), (0, .ref q), (1, .int from_), (2, .int to_), (3, .int wd), (6, .int x6), (4, .long y4)]) hx hb dX11_packed_43 hl (by decide) rfl (fun ls hl => ?_)
            refine lv_lload hx hb dX11_packed_45 (lv_at hl 7 rfl) ?_
            refine lv_ldc2 (v := 37) hx hb hown (hts (.constantLong RX11 319 (37)) wq_394) dX11_packed_47 ?_
            refine lv_lmul hx hb dX11_packed_50 ?_
            refine lv_topl (fun y_11 ey_11 => ?_)
            refine lv_iload hx hb dX11_packed_51 (lv_at hl 0 rfl) ?_
            refine lv_if_eq (tgt := 68) hx hb dX11_packed_53 (by decide) (fun c_12 => ?_) (fun c_12 => absurd (by decide +kernel) c_12)
            refine lv_iconst (v := 0) hx hb dX11_packed_68 (by decide +kernel) ?_
            refine lv_i2l hx hb dX11_packed_69 rfl ?_
            refine lv_topl (fun y_13 ey_13 => ?_)
            refine lv_ladd hx hb dX11_packed_70 ?_
            refine lv_topl (fun y_14 ey_14 => ?_)
            refine lv_lstore (lv' := [(4, .long y_14), (8, .int 0), (7, .int x_3), (0, .ref q), (1, .int from_), (2, .int to_), (3, .int wd), (6, .int x6)]) hx hb dX11_packed_71 hl (by decide) rfl (fun ls hl => ?_)
            obtain ⟨x_15, ex_15⟩ : ∃ y : Int32, y = x6 + 1 := ⟨_, rfl⟩
            refine lv_iinc (v := x_15) (lv' := [(6, .int x_15), (4, .long y_14), (8, .int 0), (7, .int x_3), (0, .ref q), (1, .int from_), (2, .int to_), (3, .int wd)]) hx hb dX11_packed_73 hl (k := 7) rfl (by rw [ex_15]; rfl) (by decide) rfl (fun ls hl => ?_)
            refine lv_goto (tgt := 6) hx hb dX11_packed_76 (by decide) ?_
            exact ih x_15 y_14  (Nat.lt_of_lt_of_le (g_mu (by assumption) ex_15) (Nat.le_of_lt_succ hfu)) _ _ hP hD hS ls (lv_sub hl [4, 5, 6, 7, 0, 1] rfl)
          · refine lv_iload hx hb dX11_packed_29 (lv_at hl 0 rfl) ?_
            refine lv_aload_n hx hb dX11_packed_31 rfl (lv_at hl 1 rfl) ?_
            have hPc := hP.sub (ws' := []) [] rfl
            have hDc := hD.sub (ws' := []) [] (by decide +kernel) rfl
            have hFc := va_free (wc := []) hD hS hA [] rfl
            refine g_ofi (wc := []) (wr := []) hP hD hS hFc [] [] rfl rfl (by decide +kernel) (by decide +kernel) (va_runV (As := []) (rest := [.int x_3]) ⟨hx, hb, hml, hown, hts⟩ (c_J0_length_8abf5 l dC dI cB cC cI cJ cZ cP H.size q v byt ) (cwV 0 hts (g_gV wq_357 wq_346 wq_347 wq_22 wq_348) rfl rfl rfl (by decide +kernel) ⟨Nat.le_of_ble_eq_true rfl, Nat.le_of_ble_eq_true rfl⟩) (g_preVs g_blS hK hPc hDc hS hE hFc (g_toS hStr hS hFc) (va_Orecv hStr.1 hS)) rfl rfl hl.1 rfl (lv_room (Nat.le_of_ble_eq_true rfl)) dX11_packed_32 ⟨Nat.le_of_ble_eq_true rfl, Nat.le_of_ble_eq_true rfl⟩) (fun r_18 u_17 H_19 locs w_16 hP' hD' hS' => ?_)
            clear hPc hDc hFc
            have w_16 : r_18 = Int32.ofNat byt.length := w_16
            replace hP : va_P (dC, dI) vwCl [] H_19 := hP'
            replace hD : va_D A [] := hD'
            replace hS := hS'
            clear hP' hD' hS'
            obtain rfl : (Int32.ofNat byt.length) = r_18 := (w_16).symm
            refine lv_icmp_ge (tgt := 42) hx hb dX11_packed_35 (by decide) (fun c_20 => ?_) (fun c_20 => ?_)
            · refine lv_iconst (v := 0) hx hb dX11_packed_42 (by decide +kernel) ?_
              refine lv_istore (lv' := [(8, .int 0), (7, .int x_3), (0, .ref q), (1, .int from_), (2, .int to_), (3, .int wd), (6, .int x6), (4, .long y4)]) hx hb dX11_packed_43 hl (by decide) rfl (fun ls hl => ?_)
              refine lv_lload hx hb dX11_packed_45 (lv_at hl 7 rfl) ?_
              refine lv_ldc2 (v := 37) hx hb hown (hts (.constantLong RX11 319 (37)) wq_394) dX11_packed_47 ?_
              refine lv_lmul hx hb dX11_packed_50 ?_
              refine lv_topl (fun y_21 ey_21 => ?_)
              refine lv_iload hx hb dX11_packed_51 (lv_at hl 0 rfl) ?_
              refine lv_if_eq (tgt := 68) hx hb dX11_packed_53 (by decide) (fun c_22 => ?_) (fun c_22 => absurd (by decide +kernel) c_22)
              refine lv_iconst (v := 0) hx hb dX11_packed_68 (by decide +kernel) ?_
              refine lv_i2l hx hb dX11_packed_69 rfl ?_
              refine lv_topl (fun y_23 ey_23 => ?_)
              refine lv_ladd hx hb dX11_packed_70 ?_
              refine lv_topl (fun y_24 ey_24 => ?_)
              refine lv_lstore (lv' := [(4, .long y_24), (8, .int 0), (7, .int x_3), (0, .ref q), (1, .int from_), (2, .int to_), (3, .int wd), (6, .int x6)]) hx hb dX11_packed_71 hl (by decide) rfl (fun ls hl => ?_)
              obtain ⟨x_25, ex_25⟩ : ∃ y : Int32, y = x6 + 1 := ⟨_, rfl⟩
              refine lv_iinc (v := x_25) (lv' := [(6, .int x_25), (4, .long y_24), (8, .int 0), (7, .int x_3), (0, .ref q), (1, .int from_), (2, .int to_), (3, .int wd)]) hx hb dX11_packed_73 hl (k := 7) rfl (by rw [ex_25]; rfl) (by decide) rfl (fun ls hl => ?_)
              refine lv_goto (tgt := 6) hx hb dX11_packed_76 (by decide) ?_
              exact ih x_25 y_24  (Nat.lt_of_lt_of_le (g_mu (by assumption) ex_25) (Nat.le_of_lt_succ hfu)) _ _ hP hD hS ls (lv_sub hl [4, 5, 6, 7, 0, 1] rfl)
            · refine lv_iconst (v := 1) hx hb dX11_packed_38 (by decide +kernel) ?_
              refine lv_goto (tgt := 43) hx hb dX11_packed_39 (by decide) ?_
              refine lv_istore (lv' := [(8, .int 1), (7, .int x_3), (0, .ref q), (1, .int from_), (2, .int to_), (3, .int wd), (6, .int x6), (4, .long y4)]) hx hb dX11_packed_43 hl (by decide) rfl (fun ls hl => ?_)
              refine lv_lload hx hb dX11_packed_45 (lv_at hl 7 rfl) ?_
              refine lv_ldc2 (v := 37) hx hb hown (hts (.constantLong RX11 319 (37)) wq_394) dX11_packed_47 ?_
              refine lv_lmul hx hb dX11_packed_50 ?_
              refine lv_topl (fun y_26 ey_26 => ?_)
              refine lv_iload hx hb dX11_packed_51 (lv_at hl 0 rfl) ?_
              refine lv_if_eq (tgt := 68) hx hb dX11_packed_53 (by decide) (fun c_27 => absurd c_27 (by decide +kernel)) (fun c_27 => ?_)
              refine lv_aload_n hx hb dX11_packed_56 rfl (lv_at hl 2 rfl) ?_
              refine lv_iload hx hb dX11_packed_57 (lv_at hl 1 rfl) ?_
              have hPc := hP.sub (ws' := []) [] rfl
              have hDc := hD.sub (ws' := []) [] (by decide +kernel) rfl
              have hFc := va_free (wc := []) hD hS hA [] rfl
              refine g_ofi (wc := []) (wr := []) hP hD hS hFc [] [] rfl rfl (by decide +kernel) (by decide +kernel) (va_runV (As := [.int x_3]) (rest := [.long y_26]) ⟨hx, hb, hml, hown, hts⟩ (c_J0_charAt_5068e l dC dI cB cC cI cJ cZ cP H_19.size q x_3 v byt (by assumption) (Int32.not_le.mp (by assumption))) (cwV 1 hts (g_gV wq_358 wq_359 wq_360 wq_22 wq_361) rfl rfl rfl (by decide +kernel) ⟨Nat.le_of_ble_eq_true rfl, Nat.le_of_ble_eq_true rfl⟩) (g_preVs g_blS hK hPc hDc hS hE hFc (g_toS hStr hS hFc) (va_Orecv hStr.1 hS)) rfl rfl hl.1 rfl (lv_room (Nat.le_of_ble_eq_true rfl)) dX11_packed_59 ⟨Nat.le_of_ble_eq_true rfl, Nat.le_of_ble_eq_true rfl⟩) (fun r_30 u_29 H_31 locs w_28 hP' hD' hS' => ?_)
              clear hPc hDc hFc
              have w_28 : r_30 = g_chr (byt.getD x_3.toNatClampNeg 0) := w_28
              replace hP : va_P (dC, dI) vwCl [] H_31 := hP'
              replace hD : va_D A [] := hD'
              replace hS := hS'
              clear hP' hD' hS'
              obtain rfl : (g_chr (byt.getD x_3.toNatClampNeg 0)) = r_30 := (w_28).symm
              have hPc := hP.sub (ws' := []) [] rfl
              have hDc := hD.sub (ws' := []) [] (by decide +kernel) rfl
              have hFc := va_free (wc := []) hD hS hA [] rfl
              refine g_ofi (wc := []) (wr := []) hP hD hS hFc [] [] rfl rfl (by decide +kernel) (by decide +kernel) (va_runS (As := [.int (g_chr (byt.getD x_3.toNatClampNeg 0))]) (rest := [.long y_26]) ⟨hx, hb, hml, hown, hts⟩ (c_X11_nameSign l dC dI cB cC cI cJ cZ cP H_31.size (g_chr (byt.getD x_3.toNatClampNeg 0)) ) (va_cwS 1 hts (g_gS wq_395 wq_396 wq_1 wq_397) rfl rfl rfl (by decide +kernel) ⟨Nat.le_of_ble_eq_true rfl, Nat.le_of_ble_eq_true rfl⟩) (g_preS g_bl0 hK hPc hDc hS hE hFc g_to0) rfl rfl hl.1 rfl (lv_room (Nat.le_of_ble_eq_true rfl)) dX11_packed_62 ⟨Nat.le_of_ble_eq_true rfl, Nat.le_of_ble_eq_true rfl⟩) (fun r_34 u_33 H_35 locs w_32 hP' hD' hS' => ?_)
              clear hPc hDc hFc
              have w_32 : True := w_32
              replace hP : va_P (dC, dI) vwCl [] H_35 := hP'
              replace hD : va_D A [] := hD'
              replace hS := hS'
              clear hP' hD' hS'
              refine lv_goto (tgt := 69) hx hb dX11_packed_65 (by decide) ?_
              refine lv_i2l hx hb dX11_packed_69 rfl ?_
              refine lv_topl (fun y_36 ey_36 => ?_)
              refine lv_ladd hx hb dX11_packed_70 ?_
              refine lv_topl (fun y_37 ey_37 => ?_)
              refine lv_lstore (lv' := [(4, .long y_37), (8, .int 1), (7, .int x_3), (0, .ref q), (1, .int from_), (2, .int to_), (3, .int wd), (6, .int x6)]) hx hb dX11_packed_71 hl (by decide) rfl (fun ls hl => ?_)
              obtain ⟨x_38, ex_38⟩ : ∃ y : Int32, y = x6 + 1 := ⟨_, rfl⟩
              refine lv_iinc (v := x_38) (lv' := [(6, .int x_38), (4, .long y_37), (8, .int 1), (7, .int x_3), (0, .ref q), (1, .int from_), (2, .int to_), (3, .int wd)]) hx hb dX11_packed_73 hl (k := 7) rfl (by rw [ex_38]; rfl) (by decide) rfl (fun ls hl => ?_)
              refine lv_goto (tgt := 6) hx hb dX11_packed_76 (by decide) ?_
              exact ih x_38 y_37  (Nat.lt_of_lt_of_le (g_mu (by assumption) ex_38) (Nat.le_of_lt_succ hfu)) _ _ hP hD hS ls (lv_sub hl [4, 5, 6, 7, 0, 1] rfl)
  exact LOOP_1 _ 0 0  (Nat.lt_succ_self _) _ _ hP hD hS ls (lv_sub hl [2, 3, 4, 5, 0, 1] rfl)
