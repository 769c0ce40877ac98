/-! own methods -/
theorem dX11_byteOf_0 : decode cX11_byteOf 0 = .ok (.lload_n 0, 1) := by decide +kernel
theorem dX11_byteOf_1 : decode cX11_byteOf 1 = .ok (.bipush 8, 2) := by decide +kernel
theorem dX11_byteOf_3 : decode cX11_byteOf 3 = .ok (.iload_n 2, 1) := by decide +kernel
theorem dX11_byteOf_4 : decode cX11_byteOf 4 = .ok (.imul, 1) := by decide +kernel
theorem dX11_byteOf_5 : decode cX11_byteOf 5 = .ok (.lushr, 1) := by decide +kernel
theorem dX11_byteOf_6 : decode cX11_byteOf 6 = .ok (.l2i, 1) := by decide +kernel
theorem dX11_byteOf_7 : decode cX11_byteOf 7 = .ok (.sipush 255, 3) := by decide +kernel
theorem dX11_byteOf_10 : decode cX11_byteOf 10 = .ok (.iand, 1) := by decide +kernel
theorem dX11_byteOf_11 : decode cX11_byteOf 11 = .ok (.ireturn, 1) := by decide +kernel
def F_X11_byteOf (p0 : Int64) (p1 : Int32) (Γ : HS) : HR :=
  bnd ((((p0.toUInt64 >>> ((8 * p1).toInt64.toUInt64 &&& Int64.toUInt64 63)).toInt64).toInt32 &&& 255)) fun (x_1 : Int32) =>
  some (x_1, Γ)
set_option maxHeartbeats 4000000 in
set_option maxRecDepth 100000 in
theorem k_X11_byteOf (l : Launch) (dC : Nat → ClassId) (dI : Nat → Nat → Nat) (cB cC cI cJ cZ cP : ClassId) (oA : Nat → Nat) (rA : Nat → Nat → Nat) (sz : Nat)  (p0 : Int64) (p1 : Int32) (Γ : HS) (res : Int32 × HS) (hF : F_X11_byteOf p0 p1 Γ = some res) : Met l yX11_byteOf (g_ws yX11_byteOf cX11_byteOf 3 (some .int)) ({ frames := 1, cells := 0, slots := 0, locals := 40 }) (va_Pc [.long p0, .int p1] (g_B (dC, dI) [(cB, .byte), (cC, .char), (cI, .int), (cJ, .long), (cZ, .boolean), (cP, .object "StoryHouse$Play")] sz ([] : va_W) g_0)) (va_Qi (fun r (_ : Unit) => r = res.1) (g_Bo (dC, dI) (va_A ([] : va_W) sz) (fun (_ : Unit) => ([] : va_W))) (va_A ([] : va_W) sz)) 0 0 (va_A ([] : va_W) sz) := by
  refine Met.ofW (cc := cX11_byteOf) (maxL := 3) (ret := (some .int)) (by decide) rfl ?_
  intro p e s m args below meth c s₁ B hml hv
  obtain ⟨rfl, hsz, hP, hK, hD0, hE, hX⟩ := hv
  have hx := B.exec
  have hb := B.bytes
  have hr := B.returns
  have hts0 := atoms_spec (ws := g_ws yX11_byteOf cX11_byteOf 3 (some .int)) B.pre
  have hts : ∀ w ∈ lw_good, w.before ([.long p0, .int p1] : List Value).toArray s = true := fun w z => hts0 w (List.mem_cons_of_mem _ z)
  have hown : s.vm.findClass RX11 = some m.cls := findClass_of_methodNamed B.named
  have hlocks := B.notSynchronized
  subst hsz
  have hD1 := hD0.self (sz := s.heap.size)
  generalize hAe : va_A ([] : va_W) s.heap.size = A at hD1 hE hX ⊢
  have hA : ∀ q : Nat, s.heap.size ≤ q → A q := fun q z => by rw [← hAe]; exact Or.inr z
  have hDD : ∀ Γ : HS, va_D A ([] : va_W) := fun Γ9 => va_D_fst (ws := ([] : va_W)) (ws' := ([] : va_W)) rfl hD1
  have hN := hE.1
  have hS : va_S A s.heap s.heap [] := va_S.rf
  have hl := lv_entry ([.long p0, .int p1]) (n := 3) (Nat.le_of_ble_eq_true rfl)
  rw [lg_entry_eq]
  generalize (lg_sl ([.long p0, .int p1]) ++ List.replicate (3 - (lg_sl ([.long p0, .int p1])).length) Slot.unset).toArray = ls at hl ⊢
  have hl : lv_has ls 3 [(0, .long p0), (2, .int p1)] := hl
  unfold F_X11_byteOf at hF
  refine lv_lload_n hx hb dX11_byteOf_0 rfl (lv_at hl 0 rfl) ?_
  refine lv_bipush (v := 8) hx hb dX11_byteOf_1 (by decide +kernel) ?_
  refine lv_iload_n hx hb dX11_byteOf_3 rfl (lv_at hl 1 rfl) ?_
  refine lv_imul hx hb dX11_byteOf_4 ?_
  refine lv_lushr hx hb dX11_byteOf_5 rfl ?_
  refine lv_l2i hx hb dX11_byteOf_6 rfl ?_
  refine lv_sipush (v := 255) hx hb dX11_byteOf_7 (by decide +kernel) ?_
  refine lv_iand hx hb dX11_byteOf_10 ?_
  obtain ⟨x_1, ex_1, hF_2⟩ := bnd_e hF
  clear hF
  refine m_top ex_1 ?_
  have h9 := Option.some.inj hF_2
  subst h9
  exact W.iret (v := x_1) hx hb hr (fun t ht hW => ⟨⟨x_1, (), rfl, rfl, m_end ht hP, hDD Γ⟩, hS.F ht⟩) hS.2.2 dX11_byteOf_11

theorem dX11_isTapeByte_0 : decode cX11_isTapeByte 0 = .ok (.iload_n 0, 1) := by decide +kernel
theorem dX11_isTapeByte_1 : decode cX11_isTapeByte 1 = .ok (.bipush 10, 2) := by decide +kernel
theorem dX11_isTapeByte_3 : decode cX11_isTapeByte 3 = .ok (.if_icmp .eq 15, 3) := by decide +kernel
theorem dX11_isTapeByte_6 : decode cX11_isTapeByte 6 = .ok (.iload_n 0, 1) := by decide +kernel
theorem dX11_isTapeByte_7 : decode cX11_isTapeByte 7 = .ok (.bipush 32, 2) := by decide +kernel
theorem dX11_isTapeByte_9 : decode cX11_isTapeByte 9 = .ok (.if_icmp .lt 13, 3) := by decide +kernel
theorem dX11_isTapeByte_12 : decode cX11_isTapeByte 12 = .ok (.iload_n 0, 1) := by decide +kernel
theorem dX11_isTapeByte_13 : decode cX11_isTapeByte 13 = .ok (.bipush 126, 2) := by decide +kernel
theorem dX11_isTapeByte_15 : decode cX11_isTapeByte 15 = .ok (.if_icmp .gt 7, 3) := by decide +kernel
theorem dX11_isTapeByte_18 : decode cX11_isTapeByte 18 = .ok (.iconst 1, 1) := by decide +kernel
theorem dX11_isTapeByte_19 : decode cX11_isTapeByte 19 = .ok (.goto 4, 3) := by decide +kernel
theorem dX11_isTapeByte_22 : decode cX11_isTapeByte 22 = .ok (.iconst 0, 1) := by decide +kernel
theorem dX11_isTapeByte_23 : decode cX11_isTapeByte 23 = .ok (.ireturn, 1) := by decide +kernel
def F_X11_isTapeByte (p0 : Int32) (Γ : HS) : HR :=
  if p0 = 10 then (
    some (1, Γ)
  ) else (
    if p0 < 32 then (
      some (0, Γ)
    ) else (
      if 126 < p0 then (
        some (0, Γ)
      ) else (
        some (1, Γ)
      )
    )
  )
set_option maxHeartbeats 4000000 in
set_option maxRecDepth 100000 in
theorem k_X11_isTapeByte (l : Launch) (dC : Nat → ClassId) (dI : Nat → Nat → Nat) (cB cC cI cJ cZ cP : ClassId) (oA : Nat → Nat) (rA : Nat → Nat → Nat) (sz : Nat)  (p0 : Int32) (Γ : HS) (res : Int32 × HS) (hF : F_X11_isTapeByte p0 Γ = some res) : Met l yX11_isTapeByte (g_ws yX11_isTapeByte cX11_isTapeByte 1 (some .boolean)) ({ frames := 1, cells := 0, slots := 0, locals := 40 }) (va_Pc [.int p0] (g_B (dC, dI) [(cB, .byte), (cC, .char), (cI, .int), (cJ, .long), (cZ, .boolean), (cP, .object "StoryHouse$Play")] sz ([] : va_W) g_0)) (va_Qi (fun r (_ : Unit) => r = res.1) (g_Bo (dC, dI) (va_A ([] : va_W) sz) (fun (_ : Unit) => ([] : va_W))) (va_A ([] : va_W) sz)) 0 0 (va_A ([] : va_W) sz) := by
  refine Met.ofW (cc := cX11_isTapeByte) (maxL := 1) (ret := (some .boolean)) (by decide) rfl ?_
  intro p e s m args below meth c s₁ B hml hv
  obtain ⟨rfl, hsz, hP, hK, hD0, hE, hX⟩ := hv
  have hx := B.exec
  have hb := B.bytes
  have hr := B.returns
  have hts0 := atoms_spec (ws := g_ws yX11_isTapeByte cX11_isTapeByte 1 (some .boolean)) B.pre
  have hts : ∀ w ∈ lw_good, w.before ([.int p0] : List Value).toArray s = true := fun w z => hts0 w (List.mem_cons_of_mem _ z)
  have hown : s.vm.findClass RX11 = some m.cls := findClass_of_methodNamed B.named
  have hlocks := B.notSynchronized
  subst hsz
  have hD1 := hD0.self (sz := s.heap.size)
  generalize hAe : va_A ([] : va_W) s.heap.size = A at hD1 hE hX ⊢
  have hA : ∀ q : Nat, s.heap.size ≤ q → A q := fun q z => by rw [← hAe]; exact Or.inr z
  have hDD : ∀ Γ : HS, va_D A ([] : va_W) := fun Γ9 => va_D_fst (ws := ([] : va_W)) (ws' := ([] : va_W)) rfl hD1
  have hN := hE.1
  have hS : va_S A s.heap s.heap [] := va_S.rf
  have hl := lv_entry ([.int p0]) (n := 1) (Nat.le_of_ble_eq_true rfl)
  rw [lg_entry_eq]
  generalize (lg_sl ([.int p0]) ++ List.replicate (1 - (lg_sl ([.int p0])).length) Slot.unset).toArray = ls at hl ⊢
  have hl : lv_has ls 1 [(0, .int p0)] := hl
  unfold F_X11_isTapeByte at hF
  refine lv_iload_n hx hb dX11_isTapeByte_0 rfl (lv_at hl 0 rfl) ?_
  refine lv_bipush (v := 10) hx hb dX11_isTapeByte_1 (by decide +kernel) ?_
  refine lv_icmp_eq (tgt := 18) hx hb dX11_isTapeByte_3 (by decide) (fun c_1 => ?_) (fun c_1 => ?_)
  · have hF_2 := ipos c_1 hF
    clear hF
    refine lv_iconst (v := 1) hx hb dX11_isTapeByte_18 (by decide +kernel) ?_
    refine lv_goto (tgt := 23) hx hb dX11_isTapeByte_19 (by decide) ?_
    have h9 := Option.some.inj hF_2
    subst h9
    exact W.zret (v := 1) hx hb hr (by decide +kernel) (fun t ht hW => ⟨⟨1, (), rfl, rfl, m_end ht hP, hDD Γ⟩, hS.F ht⟩) hS.2.2 dX11_isTapeByte_23
  · have hF_3 := ineg c_1 hF
    clear hF
    refine lv_iload_n hx hb dX11_isTapeByte_6 rfl (lv_at hl 0 rfl) ?_
    refine lv_bipush (v := 32) hx hb dX11_isTapeByte_7 (by decide +kernel) ?_
    refine lv_icmp_lt (tgt := 22) hx hb dX11_isTapeByte_9 (by decide) (fun c_4 => ?_) (fun c_4 => ?_)
    · have hF_5 := ipos c_4 hF_3
      clear hF_3
      refine lv_iconst (v := 0) hx hb dX11_isTapeByte_22 (by decide +kernel) ?_
      have h9 := Option.some.inj hF_5
      subst h9
      exact W.zret (v := 0) hx hb hr (by decide +kernel) (fun t ht hW => ⟨⟨0, (), rfl, rfl, m_end ht hP, hDD Γ⟩, hS.F ht⟩) hS.2.2 dX11_isTapeByte_23
    · have hF_6 := ineg c_4 hF_3
      clear hF_3
      refine lv_iload_n hx hb dX11_isTapeByte_12 rfl (lv_at hl 0 rfl) ?_
      refine lv_bipush (v := 126) hx hb dX11_isTapeByte_13 (by decide +kernel) ?_
      refine lv_icmp_gt (tgt := 22) hx hb dX11_isTapeByte_15 (by decide) (fun c_7 => ?_) (fun c_7 => ?_)
      · have hF_8 := ipos c_7 hF_6
        clear hF_6
        refine lv_iconst (v := 0) hx hb dX11_isTapeByte_22 (by decide +kernel) ?_
        have h9 := Option.some.inj hF_8
        subst h9
        exact W.zret (v := 0) hx hb hr (by decide +kernel) (fun t ht hW => ⟨⟨0, (), rfl, rfl, m_end ht hP, hDD Γ⟩, hS.F ht⟩) hS.2.2 dX11_isTapeByte_23
      · have hF_9 := ineg c_7 hF_6
        clear hF_6
        refine lv_iconst (v := 1) hx hb dX11_isTapeByte_18 (by decide +kernel) ?_
        refine lv_goto (tgt := 23) hx hb dX11_isTapeByte_19 (by decide) ?_
        have h9 := Option.some.inj hF_9
        subst h9
        exact W.zret (v := 1) hx hb hr (by decide +kernel) (fun t ht hW => ⟨⟨1, (), rfl, rfl, m_end ht hP, hDD Γ⟩, hS.F ht⟩) hS.2.2 dX11_isTapeByte_23

theorem dX11_needPlay_0 : decode cX11_needPlay 0 = .ok (.aload_n 0, 1) := by decide +kernel
theorem dX11_needPlay_1 : decode cX11_needPlay 1 = .ok (.getfield 178, 3) := by decide +kernel
theorem dX11_needPlay_4 : decode cX11_needPlay 4 = .ok (.ifCond .ne 14, 3) := by decide +kernel
theorem dX11_needPlay_7 : decode cX11_needPlay 7 = .ok (.new 115, 3) := by decide +kernel
theorem dX11_needPlay_10 : decode cX11_needPlay 10 = .ok (.dup, 1) := by decide +kernel
theorem dX11_needPlay_11 : decode cX11_needPlay 11 = .ok (.ldc_w 305, 3) := by decide +kernel
theorem dX11_needPlay_14 : decode cX11_needPlay 14 = .ok (.invokespecial 119, 3) := by decide +kernel
theorem dX11_needPlay_17 : decode cX11_needPlay 17 = .ok (.athrow, 1) := by decide +kernel
theorem dX11_needPlay_18 : decode cX11_needPlay 18 = .ok (.return_, 1) := by decide +kernel
def F_X11_needPlay  (T : TS) : HA :=
  if ((T.1 0).1 8) = 0 then (
    some ((2, 0), T)
  ) else (
    some ((0, 0), T)
  )
set_option maxHeartbeats 8000000 in
set_option maxRecDepth 100000 in
theorem h_X11_needPlay (l : Launch) (dC : Nat → ClassId) (dI : Nat → Nat → Nat) (cB cC cI cJ cZ cP : ClassId) (oA : Nat → Nat) (rA : Nat → Nat → Nat) (hfl : l.stackTraces = false) (sz : Nat)  (T : TS) (res : (Int32 × Int32) × TS) (hF : F_X11_needPlay  T = some res) : vx_Met l yX11_needPlay (g_ws yX11_needPlay cX11_needPlay 1 none) ({ frames := 6, cells := 1, slots := 6, locals := 90 }) (va_Pc [.ref (oA 0)] (g_B (dC, dI) [(cB, .byte), (cC, .char), (cI, .int), (cJ, .long), (cZ, .boolean), (cP, .object "StoryHouse$Play")] sz (b_h cB cC cI cJ cZ cP oA rA T.1) g_0)) (va_Qv (fun (_ : Unit) => res.1.1 = 0) (g_Bo (dC, dI) (va_A (b_h cB cC cI cJ cZ cP oA rA T.1) sz) (fun (_ : Unit) => (b_h cB cC cI cJ cZ cP oA rA res.2.1))) (va_A (b_h cB cC cI cJ cZ cP oA rA T.1) sz)) (g_X (dC, dI) (va_A (b_h cB cC cI cJ cZ cP oA rA T.1) sz) (b_h cB cC cI cJ cZ cP oA rA res.2.1) (fun E : String => XN res.1.1 E)) 1 6 (va_A (b_h cB cC cI cJ cZ cP oA rA T.1) sz) := by
  refine vx_ofW (cc := cX11_needPlay) (maxL := 1) (ret := none) (by decide) rfl ?_
  intro p e s m args below meth c s₁ B hml htab hv
  obtain ⟨rfl, hsz, hP, hK, hD0, hE, hX⟩ := hv
  have hx := B.exec
  have hb := B.bytes
  have hr := B.returns
  have hts0 := atoms_spec (ws := g_ws yX11_needPlay cX11_needPlay 1 none) B.pre
  have hts : ∀ w ∈ lw_good, w.before ([.ref (oA 0)] : List Value).toArray s = true := fun w z => hts0 w (List.mem_cons_of_mem _ z)
  have hown : s.vm.findClass RX11 = some m.cls := findClass_of_methodNamed B.named
  have hlocks := B.notSynchronized
  subst hsz
  have hD1 := hD0.self (sz := s.heap.size)
  generalize hAe : va_A (b_h cB cC cI cJ cZ cP oA rA T.1) s.heap.size = A at hD1 hE hX ⊢
  have hA : ∀ q : Nat, s.heap.size ≤ q → A q := fun q z => by rw [← hAe]; exact Or.inr z
  have hDD : ∀ T : TS, va_D A (b_h cB cC cI cJ cZ cP oA rA T.1) := fun T9 => va_D_fst (ws := (b_h cB cC cI cJ cZ cP oA rA T.1)) (ws' := (b_h cB cC cI cJ cZ cP oA rA T9.1)) rfl hD1
  have hN := hE.1
  have hS : va_S A s.heap s.heap [] := va_S.rf
  have hl := lv_entry ([.ref (oA 0)]) (n := 1) (Nat.le_of_ble_eq_true rfl)
  rw [lg_entry_eq]
  generalize (lg_sl ([.ref (oA 0)]) ++ List.replicate (1 - (lg_sl ([.ref (oA 0)])).length) Slot.unset).toArray = ls at hl ⊢
  have hl : lv_has ls 1 [(0, .ref (oA 0))] := hl
  unfold F_X11_needPlay at hF
  refine lv_aload_n hx hb dX11_needPlay_0 rfl (lv_at hl 0 rfl) ?_
  refine va_get (D := (dC, dI)) (ci := 11) (v := .int ((T.1 0).1 8)) (C := RX11) (T := TX11) (N := 19) hx hb hts ii_X11 hown hK hP 0 rfl rfl 8 (by decide) (hts (.fieldLink RX11 178 "StoryHouse" "playing" "Z") wq_311) (fun _ h9 => h9) rfl dX11_needPlay_1 ?_
  refine lv_if_ne (tgt := 18) hx hb dX11_needPlay_4 (by decide) (fun c_1 => ?_) (fun c_1 => ?_)
  · have hF_4 := ineg c_1 hF
    clear hF
    have h9 := Option.some.inj hF_4
    subst h9
    refine W.widen (k := 1) (n := 6) (Nat.le_of_ble_eq_true rfl) (Nat.le_of_ble_eq_true rfl) ?_
    refine vx_ret ?_
    exact W.vret hx hb hr (fun t ht hW => ⟨⟨(), rfl, rfl, m_end ht hP, hDD _⟩, hS.F ht⟩) hS.2.2 dX11_needPlay_18
  · have hF_2 := ipos c_1 hF
    clear hF
    have h9 := Option.some.inj hF_2
    subst h9
    obtain ⟨q_3, vq_3, hRq_3, hSq_3⟩ := hE.2.2.2.2 _ (List.mem_of_getElem? (i := 35) rfl)
    exact vx_throwSW hx hb hfl (own := RX11) (cls := "java/lang/IllegalStateException") (text := "nothing is played") (names := ["java/lang/RuntimeException", "java/lang/Exception"]) (A := A) hown (by decide +kernel) (by decide +kernel) (hts (.classLink RX11 115 "java/lang/IllegalStateException") wq_942) (hts (.initialized "java/lang/IllegalStateException") wq_18) hRq_3 (g_bad hN (fun w h => hts w (wx_119 w h)) (by decide +kernel) (g_badB hN (List.mem_of_getElem? (i := 1) rfl))) (by decide +kernel) hE.2.1 hE.2.2.1 hS (hl.1.trans hml.symm) dX11_needPlay_7 dX11_needPlay_10 dX11_needPlay_11 dX11_needPlay_14 dX11_needPlay_17 (fun x hx => (htab x hx).elim) (by decide) (by decide) (Nat.le_of_ble_eq_true rfl) (Nat.le_of_ble_eq_true rfl) hlocks (g_thr hP (hDD _) hS XN_2) hS.2.2 (Nat.le_of_ble_eq_true rfl) (Nat.le_of_ble_eq_true rfl)

theorem dX11_needPlace_0 : decode cX11_needPlace 0 = .ok (.iload_n 1, 1) := by decide +kernel
theorem dX11_needPlace_1 : decode cX11_needPlace 1 = .ok (.ifCond .lt 8, 3) := by decide +kernel
theorem dX11_needPlace_4 : decode cX11_needPlace 4 = .ok (.iload_n 1, 1) := by decide +kernel
theorem dX11_needPlace_5 : decode cX11_needPlace 5 = .ok (.iconst 4, 1) := by decide +kernel
theorem dX11_needPlace_6 : decode cX11_needPlace 6 = .ok (.if_icmp .lt 14, 3) := by decide +kernel
theorem dX11_needPlace_9 : decode cX11_needPlace 9 = .ok (.new 223, 3) := by decide +kernel
theorem dX11_needPlace_12 : decode cX11_needPlace 12 = .ok (.dup, 1) := by decide +kernel
theorem dX11_needPlace_13 : decode cX11_needPlace 13 = .ok (.ldc_w 307, 3) := by decide +kernel
theorem dX11_needPlace_16 : decode cX11_needPlace 16 = .ok (.invokespecial 227, 3) := by decide +kernel
theorem dX11_needPlace_19 : decode cX11_needPlace 19 = .ok (.athrow, 1) := by decide +kernel
theorem dX11_needPlace_20 : decode cX11_needPlace 20 = .ok (.return_, 1) := by decide +kernel
def F_X11_needPlace (p0 : Int32) (T : TS) : HA :=
  bnd (fun  (σ_1 : TS) => (
    some ((3, 0), σ_1)
  ) : TS → HA) fun j_2 =>
  if p0 < 0 then (
    j_2  T
  ) else (
    if p0 < 4 then (
      some ((0, 0), T)
    ) else (
      j_2  T
    )
  )
set_option maxHeartbeats 8000000 in
set_option maxRecDepth 100000 in
theorem h_X11_needPlace (l : Launch) (dC : Nat → ClassId) (dI : Nat → Nat → Nat) (cB cC cI cJ cZ cP : ClassId) (oA : Nat → Nat) (rA : Nat → Nat → Nat) (hfl : l.stackTraces = false) (sz : Nat) (p0 : Int32) (T : TS) (res : (Int32 × Int32) × TS) (hF : F_X11_needPlace p0 T = some res) : vx_Met l yX11_needPlace (g_ws yX11_needPlace cX11_needPlace 2 none) ({ frames := 6, cells := 1, slots := 6, locals := 90 }) (va_Pc [.ref (oA 0), .int p0] (g_B (dC, dI) [(cB, .byte), (cC, .char), (cI, .int), (cJ, .long), (cZ, .boolean), (cP, .object "StoryHouse$Play")] sz (b_h cB cC cI cJ cZ cP oA rA T.1) g_0)) (va_Qv (fun (_ : Unit) => res.1.1 = 0) (g_Bo (dC, dI) (va_A (b_h cB cC cI cJ cZ cP oA rA T.1) sz) (fun (_ : Unit) => (b_h cB cC cI cJ cZ cP oA rA res.2.1))) (va_A (b_h cB cC cI cJ cZ cP oA rA T.1) sz)) (g_X (dC, dI) (va_A (b_h cB cC cI cJ cZ cP oA rA T.1) sz) (b_h cB cC cI cJ cZ cP oA rA res.2.1) (fun E : String => XN res.1.1 E)) 1 6 (va_A (b_h cB cC cI cJ cZ cP oA rA T.1) sz) := by
  refine vx_ofW (cc := cX11_needPlace) (maxL := 2) (ret := none) (by decide) rfl ?_
  intro p e s m args below meth c s₁ B hml htab hv
  obtain ⟨rfl, hsz, hP, hK, hD0, hE, hX⟩ := hv
  have hx := B.exec
  have hb := B.bytes
  have hr := B.returns
  have hts0 := atoms_spec (ws := g_ws yX11_needPlace cX11_needPlace 2 none) B.pre
  have hts : ∀ w ∈ lw_good, w.before ([.ref (oA 0), .int p0] : List Value).toArray s = true := fun w z => hts0 w (List.mem_cons_of_mem _ z)
  have hown : s.vm.findClass RX11 = some m.cls := findClass_of_methodNamed B.named
  have hlocks := B.notSynchronized
  subst hsz
  have hD1 := hD0.self (sz := s.heap.size)
  generalize hAe : va_A (b_h cB cC cI cJ cZ cP oA rA T.1) s.heap.size = A at hD1 hE hX ⊢
  have hA : ∀ q : Nat, s.heap.size ≤ q → A q := fun q z => by rw [← hAe]; exact Or.inr z
  have hDD : ∀ T : TS, va_D A (b_h cB cC cI cJ cZ cP oA rA T.1) := fun T9 => va_D_fst (ws := (b_h cB cC cI cJ cZ cP oA rA T.1)) (ws' := (b_h cB cC cI cJ cZ cP oA rA T9.1)) rfl hD1
  have hN := hE.1
  have hS : va_S A s.heap s.heap [] := va_S.rf
  have hl := lv_entry ([.ref (oA 0), .int p0]) (n := 2) (Nat.le_of_ble_eq_true rfl)
  rw [lg_entry_eq]
  generalize (lg_sl ([.ref (oA 0), .int p0]) ++ List.replicate (2 - (lg_sl ([.ref (oA 0), .int p0])).length) Slot.unset).toArray = ls at hl ⊢
  have hl : lv_has ls 2 [(0, .ref (oA 0)), (1, .int p0)] := hl
  unfold F_X11_needPlace at hF
  refine lv_iload_n hx hb dX11_needPlace_0 rfl (lv_at hl 1 rfl) ?_
  obtain ⟨j_2, ej_2, hF_3⟩ := bnd_e hF
  clear hF
  have Jj_2 : ∀  (σ_1 : TS), j_2  σ_1 = some res → ∀ (H : Heap) (locs : List Loc), va_P (dC, dI) vwCl (b_h cB cC cI cJ cZ cP oA rA σ_1.1) H → va_S A s.heap H locs → ∀ ls : Array Slot, lv_has ls 2 [] → W p l e (headSpec (g_ws yX11_needPlace cX11_needPlace 2 none) { frames := 6, cells := 1, slots := 6, locals := 90 }).room s m ([.ref (oA 0), .int p0] : List Value).toArray below meth c H locs 0 0 (vx_MQ below (va_Qv (fun (_ : Unit) => res.1.1 = 0) (g_Bo (dC, dI) A (fun (_ : Unit) => (b_h cB cC cI cJ cZ cP oA rA res.2.1))) A) (g_X (dC, dI) A (b_h cB cC cI cJ cZ cP oA rA res.2.1) (fun E : String => XN res.1.1 E)) ([.ref (oA 0), .int p0] : List Value).toArray s 1 6 A) (F0 m 9 ls []) := by
    intro  σ_1 hF0 H locs hP hS ls hl
    subst ej_2
    have hF_4 := hF0
    clear hF0
    have h9 := Option.some.inj hF_4
    subst h9
    obtain ⟨q_5, vq_5, hRq_5, hSq_5⟩ := hE.2.2.2.2 _ (List.mem_of_getElem? (i := 71) rfl)
    exact vx_throwSW hx hb hfl (own := RX11) (cls := "java/lang/IndexOutOfBoundsException") (text := "there is no such place") (names := ["java/lang/RuntimeException", "java/lang/Exception"]) (A := A) hown (by decide +kernel) (by decide +kernel) (hts (.classLink RX11 223 "java/lang/IndexOutOfBoundsException") wq_1273) (hts (.initialized "java/lang/IndexOutOfBoundsException") wq_27) hRq_5 (g_bad hN (fun w h => hts w (wx_227 w h)) (by decide +kernel) (g_badB hN (List.mem_of_getElem? (i := 2) rfl))) (by decide +kernel) hE.2.1 hE.2.2.1 hS (hl.1.trans hml.symm) dX11_needPlace_9 dX11_needPlace_12 dX11_needPlace_13 dX11_needPlace_16 dX11_needPlace_19 (fun x hx => (htab x hx).elim) (by decide) (by decide) (Nat.le_of_ble_eq_true rfl) (Nat.le_of_ble_eq_true rfl) hlocks (g_thr hP (hDD _) hS XN_3) hS.2.2 (Nat.le_of_ble_eq_true rfl) (Nat.le_of_ble_eq_true rfl)
  refine lv_if_lt (tgt := 9) hx hb dX11_needPlace_1 (by decide) (fun c_6 => ?_) (fun c_6 => ?_)
  · have hF_7 := ipos c_6 hF_3
    clear hF_3
    exact Jj_2  T hF_7 _ _ hP hS ls (lv_sub hl [] rfl)
  · have hF_8 := ineg c_6 hF_3
    clear hF_3
    refine lv_iload_n hx hb dX11_needPlace_4 rfl (lv_at hl 1 rfl) ?_
    refine lv_iconst (v := 4) hx hb dX11_needPlace_5 (by decide +kernel) ?_
    refine lv_icmp_lt (tgt := 20) hx hb dX11_needPlace_6 (by decide) (fun c_9 => ?_) (fun c_9 => ?_)
    · have hF_10 := ipos c_9 hF_8
      clear hF_8
      have h9 := Option.some.inj hF_10
      subst h9
      refine W.widen (k := 1) (n := 6) (Nat.le_of_ble_eq_true rfl) (Nat.le_of_ble_eq_true rfl) ?_
      refine vx_ret ?_
      exact W.vret hx hb hr (fun t ht hW => ⟨⟨(), rfl, rfl, m_end ht hP, hDD _⟩, hS.F ht⟩) hS.2.2 dX11_needPlace_20
    · have hF_11 := ineg c_9 hF_8
      clear hF_8
      exact Jj_2  T hF_11 _ _ hP hS ls (lv_sub hl [] rfl)

theorem dX11_needObject_0 : decode cX11_needObject 0 = .ok (.aload_n 0, 1) := by decide +kernel
theorem dX11_needObject_1 : decode cX11_needObject 1 = .ok (.getfield 162, 3) := by decide +kernel
theorem dX11_needObject_4 : decode cX11_needObject 4 = .ok (.ifCond .eq 21, 3) := by decide +kernel
theorem dX11_needObject_7 : decode cX11_needObject 7 = .ok (.iload_n 1, 1) := by decide +kernel
theorem dX11_needObject_8 : decode cX11_needObject 8 = .ok (.iconst 1, 1) := by decide +kernel
theorem dX11_needObject_9 : decode cX11_needObject 9 = .ok (.if_icmp .lt 16, 3) := by decide +kernel
theorem dX11_needObject_12 : decode cX11_needObject 12 = .ok (.iload_n 1, 1) := by decide +kernel
theorem dX11_needObject_13 : decode cX11_needObject 13 = .ok (.aload_n 0, 1) := by decide +kernel
theorem dX11_needObject_14 : decode cX11_needObject 14 = .ok (.getfield 39, 3) := by decide +kernel
theorem dX11_needObject_17 : decode cX11_needObject 17 = .ok (.getfield 158, 3) := by decide +kernel
theorem dX11_needObject_20 : decode cX11_needObject 20 = .ok (.iconst 0, 1) := by decide +kernel
theorem dX11_needObject_21 : decode cX11_needObject 21 = .ok (.iaload, 1) := by decide +kernel
theorem dX11_needObject_22 : decode cX11_needObject 22 = .ok (.if_icmp .le 14, 3) := by decide +kernel
theorem dX11_needObject_25 : decode cX11_needObject 25 = .ok (.new 223, 3) := by decide +kernel
theorem dX11_needObject_28 : decode cX11_needObject 28 = .ok (.dup, 1) := by decide +kernel
theorem dX11_needObject_29 : decode cX11_needObject 29 = .ok (.ldc_w 309, 3) := by decide +kernel
theorem dX11_needObject_32 : decode cX11_needObject 32 = .ok (.invokespecial 227, 3) := by decide +kernel
theorem dX11_needObject_35 : decode cX11_needObject 35 = .ok (.athrow, 1) := by decide +kernel
theorem dX11_needObject_36 : decode cX11_needObject 36 = .ok (.return_, 1) := by decide +kernel
def F_X11_needObject (p0 : Int32) (T : TS) : HA :=
  bnd (fun  (σ_1 : TS) => (
    some ((3, 0), σ_1)
  ) : TS → HA) fun j_2 =>
  if ((T.1 0).1 7) = 0 then (
    j_2  T
  ) else (
    if p0 < 1 then (
      j_2  T
    ) else (
      if p0 ≤ ((T.1 4).2.1 0 (0 : Int32).toNatClampNeg) then (
        some ((0, 0), T)
      ) else (
        j_2  T
      )
    )
  )
set_option maxHeartbeats 8000000 in
set_option maxRecDepth 100000 in
theorem h_X11_needObject (l : Launch) (dC : Nat → ClassId) (dI : Nat → Nat → Nat) (cB cC cI cJ cZ cP : ClassId) (oA : Nat → Nat) (rA : Nat → Nat → Nat) (hfl : l.stackTraces = false) (sz : Nat) (p0 : Int32) (T : TS) (res : (Int32 × Int32) × TS) (hF : F_X11_needObject p0 T = some res) : vx_Met l yX11_needObject (g_ws yX11_needObject cX11_needObject 2 none) ({ frames := 6, cells := 1, slots := 6, locals := 90 }) (va_Pc [.ref (oA 0), .int p0] (g_B (dC, dI) [(cB, .byte), (cC, .char), (cI, .int), (cJ, .long), (cZ, .boolean), (cP, .object "StoryHouse$Play")] sz (b_h cB cC cI cJ cZ cP oA rA T.1 ++ b_s cB cC cI cJ cZ oA rA T.1) g_0)) (va_Qv (fun (_ : Unit) => res.1.1 = 0) (g_Bo (dC, dI) (va_A (b_h cB cC cI cJ cZ cP oA rA T.1 ++ b_s cB cC cI cJ cZ oA rA T.1) sz) (fun (_ : Unit) => (b_h cB cC cI cJ cZ cP oA rA res.2.1 ++ b_s cB cC cI cJ cZ oA rA res.2.1))) (va_A (b_h cB cC cI cJ cZ cP oA rA T.1 ++ b_s cB cC cI cJ cZ oA rA T.1) sz)) (g_X (dC, dI) (va_A (b_h cB cC cI cJ cZ cP oA rA T.1 ++ b_s cB cC cI cJ cZ oA rA T.1) sz) (b_h cB cC cI cJ cZ cP oA rA res.2.1 ++ b_s cB cC cI cJ cZ oA rA res.2.1) (fun E : String => XN res.1.1 E)) 1 6 (va_A (b_h cB cC cI cJ cZ cP oA rA T.1 ++ b_s cB cC cI cJ cZ oA rA T.1) sz) := by
  refine vx_ofW (cc := cX11_needObject) (maxL := 2) (ret := none) (by decide) rfl ?_
  intro p e s m args below meth c s₁ B hml htab hv
  obtain ⟨rfl, hsz, hP, hK, hD0, hE, hX⟩ := hv
  have hx := B.exec
  have hb := B.bytes
  have hr := B.returns
  have hts0 := atoms_spec (ws := g_ws yX11_needObject cX11_needObject 2 none) B.pre
  have hts : ∀ w ∈ lw_good, w.before ([.ref (oA 0), .int p0] : List Value).toArray s = true := fun w z => hts0 w (List.mem_cons_of_mem _ z)
  have hown : s.vm.findClass RX11 = some m.cls := findClass_of_methodNamed B.named
  have hlocks := B.notSynchronized
  subst hsz
  have hD1 := hD0.self (sz := s.heap.size)
  generalize hAe : va_A (b_h cB cC cI cJ cZ cP oA rA T.1 ++ b_s cB cC cI cJ cZ oA rA T.1) s.heap.size = A at hD1 hE hX ⊢
  have hA : ∀ q : Nat, s.heap.size ≤ q → A q := fun q z => by rw [← hAe]; exact Or.inr z
  have hDD : ∀ T : TS, va_D A (b_h cB cC cI cJ cZ cP oA rA T.1 ++ b_s cB cC cI cJ cZ oA rA T.1) := fun T9 => va_D_fst (ws := (b_h cB cC cI cJ cZ cP oA rA T.1 ++ b_s cB cC cI cJ cZ oA rA T.1)) (ws' := (b_h cB cC cI cJ cZ cP oA rA T9.1 ++ b_s cB cC cI cJ cZ oA rA T9.1)) rfl hD1
  have hN := hE.1
  have hS : va_S A s.heap s.heap [] := va_S.rf
  have hl := lv_entry ([.ref (oA 0), .int p0]) (n := 2) (Nat.le_of_ble_eq_true rfl)
  rw [lg_entry_eq]
  generalize (lg_sl ([.ref (oA 0), .int p0]) ++ List.replicate (2 - (lg_sl ([.ref (oA 0), .int p0])).length) Slot.unset).toArray = ls at hl ⊢
  have hl : lv_has ls 2 [(0, .ref (oA 0)), (1, .int p0)] := hl
  unfold F_X11_needObject at hF
  refine lv_aload_n hx hb dX11_needObject_0 rfl (lv_at hl 0 rfl) ?_
  refine va_get (D := (dC, dI)) (ci := 11) (v := .int ((T.1 0).1 7)) (C := RX11) (T := TX11) (N := 19) hx hb hts ii_X11 hown hK hP 0 rfl rfl 7 (by decide) (hts (.fieldLink RX11 162 "StoryHouse" "built" "Z") wq_310) (fun _ h9 => h9) rfl dX11_needObject_1 ?_
  obtain ⟨j_2, ej_2, hF_3⟩ := bnd_e hF
  clear hF
  have Jj_2 : ∀  (σ_1 : TS), j_2  σ_1 = some res → ∀ (H : Heap) (locs : List Loc), va_P (dC, dI) vwCl (b_h cB cC cI cJ cZ cP oA rA σ_1.1 ++ b_s cB cC cI cJ cZ oA rA σ_1.1) H → va_S A s.heap H locs → ∀ ls : Array Slot, lv_has ls 2 [] → W p l e (headSpec (g_ws yX11_needObject cX11_needObject 2 none) { frames := 6, cells := 1, slots := 6, locals := 90 }).room s m ([.ref (oA 0), .int p0] : List Value).toArray below meth c H locs 0 0 (vx_MQ below (va_Qv (fun (_ : Unit) => res.1.1 = 0) (g_Bo (dC, dI) A (fun (_ : Unit) => (b_h cB cC cI cJ cZ cP oA rA res.2.1 ++ b_s cB cC cI cJ cZ oA rA res.2.1))) A) (g_X (dC, dI) A (b_h cB cC cI cJ cZ cP oA rA res.2.1 ++ b_s cB cC cI cJ cZ oA rA res.2.1) (fun E : String => XN res.1.1 E)) ([.ref (oA 0), .int p0] : List Value).toArray s 1 6 A) (F0 m 25 ls []) := by
    intro  σ_1 hF0 H locs hP hS ls hl
    subst ej_2
    have hF_4 := hF0
    clear hF0
    have h9 := Option.some.inj hF_4
    subst h9
    obtain ⟨q_5, vq_5, hRq_5, hSq_5⟩ := hE.2.2.2.2 _ (List.mem_of_getElem? (i := 73) rfl)
    exact vx_throwSW hx hb hfl (own := RX11) (cls := "java/lang/IndexOutOfBoundsException") (text := "there is no such object") (names := ["java/lang/RuntimeException", "java/lang/Exception"]) (A := A) hown (by decide +kernel) (by decide +kernel) (hts (.classLink RX11 223 "java/lang/IndexOutOfBoundsException") wq_1273) (hts (.initialized "java/lang/IndexOutOfBoundsException") wq_27) hRq_5 (g_bad hN (fun w h => hts w (wx_227 w h)) (by decide +kernel) (g_badB hN (List.mem_of_getElem? (i := 2) rfl))) (by decide +kernel) hE.2.1 hE.2.2.1 hS (hl.1.trans hml.symm) dX11_needObject_25 dX11_needObject_28 dX11_needObject_29 dX11_needObject_32 dX11_needObject_35 (fun x hx => (htab x hx).elim) (by decide) (by decide) (Nat.le_of_ble_eq_true rfl) (Nat.le_of_ble_eq_true rfl) hlocks (g_thr hP (hDD _) hS XN_3) hS.2.2 (Nat.le_of_ble_eq_true rfl) (Nat.le_of_ble_eq_true rfl)
  refine lv_if_eq (tgt := 25) hx hb dX11_needObject_4 (by decide) (fun c_6 => ?_) (fun c_6 => ?_)
  · have hF_7 := ipos c_6 hF_3
    clear hF_3
    exact Jj_2  T hF_7 _ _ hP hS ls (lv_sub hl [] rfl)
  · have hF_8 := ineg c_6 hF_3
    clear hF_3
    refine lv_iload_n hx hb dX11_needObject_7 rfl (lv_at hl 1 rfl) ?_
    refine lv_iconst (v := 1) hx hb dX11_needObject_8 (by decide +kernel) ?_
    refine lv_icmp_lt (tgt := 25) hx hb dX11_needObject_9 (by decide) (fun c_9 => ?_) (fun c_9 => ?_)
    · have hF_10 := ipos c_9 hF_8
      clear hF_8
      exact Jj_2  T hF_10 _ _ hP hS ls (lv_sub hl [] rfl)
    · have hF_11 := ineg c_9 hF_8
      clear hF_8
      refine lv_iload_n hx hb dX11_needObject_12 rfl (lv_at hl 1 rfl) ?_
      refine lv_aload_n hx hb dX11_needObject_13 rfl (lv_at hl 0 rfl) ?_
      refine va_get (D := (dC, dI)) (ci := 11) (v := .ref (oA 4)) (C := RX11) (T := TX11) (N := 19) hx hb hts ii_X11 hown hK hP 0 rfl rfl 5 (by decide) (hts (.fieldLink RX11 39 "StoryHouse" "story" "LStoryHouse$Story;") wq_308) (fun _ h9 => h9) rfl dX11_needObject_14 ?_
      refine va_get (D := (dC, dI)) (ci := 7) (v := .ref (rA 4 0)) (C := RX7) (T := TX7) (N := 19) hx hb hts ii_X7 hown hK hP 4 rfl rfl 0 (by decide) (hts (.fieldLink RX11 158 "StoryHouse$Story" "counts" "[I") wq_153) (fun _ h9 => h9) rfl dX11_needObject_17 ?_
      refine lv_iconst (v := 0) hx hb dX11_needObject_20 (by decide +kernel) ?_
      refine va_iald (f := (T.1 4).2.1 0) hx hb hK hP 5 2 rfl rfl (vp_in_iff.mpr (by decide +kernel)) dX11_needObject_21 ?_
      refine lv_icmp_le (tgt := 36) hx hb dX11_needObject_22 (by decide) (fun c_12 => ?_) (fun c_12 => ?_)
      · have hF_13 := ipos c_12 hF_11
        clear hF_11
        have h9 := Option.some.inj hF_13
        subst h9
        refine W.widen (k := 1) (n := 6) (Nat.le_of_ble_eq_true rfl) (Nat.le_of_ble_eq_true rfl) ?_
        refine vx_ret ?_
        exact W.vret hx hb hr (fun t ht hW => ⟨⟨(), rfl, rfl, m_end ht hP, hDD _⟩, hS.F ht⟩) hS.2.2 dX11_needObject_36
      · have hF_14 := ineg c_12 hF_11
        clear hF_11
        exact Jj_2  T hF_14 _ _ hP hS ls (lv_sub hl [] rfl)

theorem dX11_place_0 : decode cX11_place 0 = .ok (.aload_n 0, 1) := by decide +kernel
theorem dX11_place_1 : decode cX11_place 1 = .ok (.getfield 46, 3) := by decide +kernel
theorem dX11_place_4 : decode cX11_place 4 = .ok (.ireturn, 1) := by decide +kernel
def F_X11_place  (T : TS) : HA :=
  some ((0, ((T.1 0).1 9)), T)
set_option maxHeartbeats 8000000 in
set_option maxRecDepth 100000 in
theorem h_X11_place (l : Launch) (dC : Nat → ClassId) (dI : Nat → Nat → Nat) (cB cC cI cJ cZ cP : ClassId) (oA : Nat → Nat) (rA : Nat → Nat → Nat) (og om : Option Nat) (sz : Nat)  (T : TS) (res : (Int32 × Int32) × TS) (hF : F_X11_place  T = some res) : Met l yX11_place (g_ws yX11_place cX11_place 1 (some .int)) ({ frames := 1, cells := 0, slots := 0, locals := 40 }) (va_Pc [.ref (oA 0)] (g_B (dC, dI) [(cB, .byte), (cC, .char), (cI, .int), (cJ, .long), (cZ, .boolean), (cP, .object "StoryHouse$Play")] sz (b_H cB cC cI cJ cZ cP oA rA T og om) g_0)) (va_Qi (fun r (_ : Unit) => res.1.1 = 0 ∧ r = res.1.2) (g_Bo (dC, dI) (va_A (b_H cB cC cI cJ cZ cP oA rA T og om) sz) (fun (_ : Unit) => (b_H cB cC cI cJ cZ cP oA rA res.2 og om))) (va_A (b_H cB cC cI cJ cZ cP oA rA T og om) sz)) 0 0 (va_A (b_H cB cC cI cJ cZ cP oA rA T og om) sz) := by
  refine Met.ofW (cc := cX11_place) (maxL := 1) (ret := (some .int)) (by decide) rfl ?_
  intro p e s m args below meth c s₁ B hml hv
  obtain ⟨rfl, hsz, hP, hK, hD0, hE, hX⟩ := hv
  have hx := B.exec
  have hb := B.bytes
  have hr := B.returns
  have hts0 := atoms_spec (ws := g_ws yX11_place cX11_place 1 (some .int)) B.pre
  have hts : ∀ w ∈ lw_good, w.before ([.ref (oA 0)] : List Value).toArray s = true := fun w z => hts0 w (List.mem_cons_of_mem _ z)
  have hown : s.vm.findClass RX11 = some m.cls := findClass_of_methodNamed B.named
  have hlocks := B.notSynchronized
  subst hsz
  have hD1 := hD0.self (sz := s.heap.size)
  generalize hAe : va_A (b_H cB cC cI cJ cZ cP oA rA T og om) s.heap.size = A at hD1 hE hX ⊢
  have hA : ∀ q : Nat, s.heap.size ≤ q → A q := fun q z => by rw [← hAe]; exact Or.inr z
  have hDD : ∀ T : TS, va_D A (b_H cB cC cI cJ cZ cP oA rA T og om) := fun T9 => va_D_fst bH_fst hD1
  have hN := hE.1
  have hS : va_S A s.heap s.heap [] := va_S.rf
  have hl := lv_entry ([.ref (oA 0)]) (n := 1) (Nat.le_of_ble_eq_true rfl)
  rw [lg_entry_eq]
  generalize (lg_sl ([.ref (oA 0)]) ++ List.replicate (1 - (lg_sl ([.ref (oA 0)])).length) Slot.unset).toArray = ls at hl ⊢
  have hl : lv_has ls 1 [(0, .ref (oA 0))] := hl
  unfold F_X11_place at hF
  refine lv_aload_n hx hb dX11_place_0 rfl (lv_at hl 0 rfl) ?_
  refine va_get (D := (dC, dI)) (ci := 11) (v := .int ((T.1 0).1 9)) (C := RX11) (T := TX11) (N := 19) hx hb hts ii_X11 hown hK hP 0 rfl rfl 9 (by decide) (hts (.fieldLink RX11 46 "StoryHouse" "faultPlace" "I") wq_312) (fun _ h9 => h9) rfl dX11_place_1 ?_
  have h9 := Option.some.inj hF
  subst h9
  exact W.iret (v := ((T.1 0).1 9)) hx hb hr (fun t ht hW => ⟨⟨((T.1 0).1 9), (), rfl, ⟨rfl, rfl⟩, m_end ht hP, hDD _⟩, hS.F ht⟩) hS.2.2 dX11_place_4

theorem dX11_size_0 : decode cX11_size 0 = .ok (.aload_n 0, 1) := by decide +kernel
theorem dX11_size_1 : decode cX11_size 1 = .ok (.getfield 53, 3) := by decide +kernel
theorem dX11_size_4 : decode cX11_size 4 = .ok (.getfield 220, 3) := by decide +kernel
theorem dX11_size_7 : decode cX11_size 7 = .ok (.ireturn, 1) := by decide +kernel
def F_X11_size  (T : TS) : HA :=
  some ((0, ((T.1 8).1 1)), T)
set_option maxHeartbeats 8000000 in
set_option maxRecDepth 100000 in
theorem h_X11_size (l : Launch) (dC : Nat → ClassId) (dI : Nat → Nat → Nat) (cB cC cI cJ cZ cP : ClassId) (oA : Nat → Nat) (rA : Nat → Nat → Nat) (og om : Option Nat) (sz : Nat)  (T : TS) (res : (Int32 × Int32) × TS) (hF : F_X11_size  T = some res) : Met l yX11_size (g_ws yX11_size cX11_size 1 (some .int)) ({ frames := 1, cells := 0, slots := 0, locals := 40 }) (va_Pc [.ref (oA 0)] (g_B (dC, dI) [(cB, .byte), (cC, .char), (cI, .int), (cJ, .long), (cZ, .boolean), (cP, .object "StoryHouse$Play")] sz (b_H cB cC cI cJ cZ cP oA rA T og om) g_0)) (va_Qi (fun r (_ : Unit) => res.1.1 = 0 ∧ r = res.1.2) (g_Bo (dC, dI) (va_A (b_H cB cC cI cJ cZ cP oA rA T og om) sz) (fun (_ : Unit) => (b_H cB cC cI cJ cZ cP oA rA res.2 og om))) (va_A (b_H cB cC cI cJ cZ cP oA rA T og om) sz)) 0 0 (va_A (b_H cB cC cI cJ cZ cP oA rA T og om) sz) := by
  refine Met.ofW (cc := cX11_size) (maxL := 1) (ret := (some .int)) (by decide) rfl ?_
  intro p e s m args below meth c s₁ B hml hv
  obtain ⟨rfl, hsz, hP, hK, hD0, hE, hX⟩ := hv
  have hx := B.exec
  have hb := B.bytes
  have hr := B.returns
  have hts0 := atoms_spec (ws := g_ws yX11_size cX11_size 1 (some .int)) B.pre
  have hts : ∀ w ∈ lw_good, w.before ([.ref (oA 0)] : List Value).toArray s = true := fun w z => hts0 w (List.mem_cons_of_mem _ z)
  have hown : s.vm.findClass RX11 = some m.cls := findClass_of_methodNamed B.named
  have hlocks := B.notSynchronized
  subst hsz
  have hD1 := hD0.self (sz := s.heap.size)
  generalize hAe : va_A (b_H cB cC cI cJ cZ cP oA rA T og om) s.heap.size = A at hD1 hE hX ⊢
  have hA : ∀ q : Nat, s.heap.size ≤ q → A q := fun q z => by rw [← hAe]; exact Or.inr z
  have hDD : ∀ T : TS, va_D A (b_H cB cC cI cJ cZ cP oA rA T og om) := fun T9 => va_D_fst bH_fst hD1
  have hN := hE.1
  have hS : va_S A s.heap s.heap [] := va_S.rf
  have hl := lv_entry ([.ref (oA 0)]) (n := 1) (Nat.le_of_ble_eq_true rfl)
  rw [lg_entry_eq]
  generalize (lg_sl ([.ref (oA 0)]) ++ List.replicate (1 - (lg_sl ([.ref (oA 0)])).length) Slot.unset).toArray = ls at hl ⊢
  have hl : lv_has ls 1 [(0, .ref (oA 0))] := hl
  unfold F_X11_size at hF
  refine lv_aload_n hx hb dX11_size_0 rfl (lv_at hl 0 rfl) ?_
  refine va_get (D := (dC, dI)) (ci := 11) (v := .ref (oA 8)) (C := RX11) (T := TX11) (N := 19) hx hb hts ii_X11 hown hK hP 0 rfl rfl 10 (by decide) (hts (.fieldLink RX11 53 "StoryHouse" "told" "LStoryHouse$Out;") wq_313) (fun _ h9 => h9) rfl dX11_size_1 ?_
  refine va_get (D := (dC, dI)) (ci := 5) (v := .int ((T.1 8).1 1)) (C := RX5) (T := TX5) (N := 2) hx hb hts ii_X5 hown hK hP 53 rfl rfl 1 (by decide) (hts (.fieldLink RX11 220 "StoryHouse$Out" "length" "I") wq_211) (fun _ h9 => h9) rfl dX11_size_4 ?_
  have h9 := Option.some.inj hF
  subst h9
  exact W.iret (v := ((T.1 8).1 1)) hx hb hr (fun t ht hW => ⟨⟨((T.1 8).1 1), (), rfl, ⟨rfl, rfl⟩, m_end ht hP, hDD _⟩, hS.F ht⟩) hS.2.2 dX11_size_7

theorem dX11_out_0 : decode cX11_out 0 = .ok (.iload_n 1, 1) := by decide +kernel
theorem dX11_out_1 : decode cX11_out 1 = .ok (.ifCond .lt 14, 3) := by decide +kernel
theorem dX11_out_4 : decode cX11_out 4 = .ok (.iload_n 1, 1) := by decide +kernel
theorem dX11_out_5 : decode cX11_out 5 = .ok (.aload_n 0, 1) := by decide +kernel
theorem dX11_out_6 : decode cX11_out 6 = .ok (.getfield 53, 3) := by decide +kernel
theorem dX11_out_9 : decode cX11_out 9 = .ok (.getfield 220, 3) := by decide +kernel
theorem dX11_out_12 : decode cX11_out 12 = .ok (.if_icmp .lt 13, 3) := by decide +kernel
theorem dX11_out_15 : decode cX11_out 15 = .ok (.new 223, 3) := by decide +kernel
theorem dX11_out_18 : decode cX11_out 18 = .ok (.dup, 1) := by decide +kernel
theorem dX11_out_19 : decode cX11_out 19 = .ok (.ldc 225, 2) := by decide +kernel
theorem dX11_out_21 : decode cX11_out 21 = .ok (.invokespecial 227, 3) := by decide +kernel
theorem dX11_out_24 : decode cX11_out 24 = .ok (.athrow, 1) := by decide +kernel
theorem dX11_out_25 : decode cX11_out 25 = .ok (.aload_n 0, 1) := by decide +kernel
theorem dX11_out_26 : decode cX11_out 26 = .ok (.getfield 53, 3) := by decide +kernel
theorem dX11_out_29 : decode cX11_out 29 = .ok (.getfield 228, 3) := by decide +kernel
theorem dX11_out_32 : decode cX11_out 32 = .ok (.iload_n 1, 1) := by decide +kernel
theorem dX11_out_33 : decode cX11_out 33 = .ok (.baload, 1) := by decide +kernel
theorem dX11_out_34 : decode cX11_out 34 = .ok (.ireturn, 1) := by decide +kernel
def F_X11_out (p0 : Int32) (T : TS) : HA :=
  bnd (fun  (σ_1 : TS) => (
    some ((3, 0), σ_1)
  ) : TS → HA) fun j_2 =>
  if p0 < 0 then (
    j_2  T
  ) else (
    if p0 < ((T.1 8).1 1) then (
      if p0 < 0 ∨ 3000 ≤ p0.toNatClampNeg then none else
      some ((0, ((T.1 8).2.1 0 p0.toNatClampNeg)), T)
    ) else (
      j_2  T
    )
  )
set_option maxHeartbeats 8000000 in
set_option maxRecDepth 100000 in
theorem h_X11_out (l : Launch) (dC : Nat → ClassId) (dI : Nat → Nat → Nat) (cB cC cI cJ cZ cP : ClassId) (oA : Nat → Nat) (rA : Nat → Nat → Nat) (hfl : l.stackTraces = false) (og om : Option Nat) (sz : Nat) (p0 : Int32) (T : TS) (res : (Int32 × Int32) × TS) (hF : F_X11_out p0 T = some res) : vx_Met l yX11_out (g_ws yX11_out cX11_out 2 (some .int)) ({ frames := 6, cells := 1, slots := 6, locals := 90 }) (va_Pc [.ref (oA 0), .int p0] (g_B (dC, dI) [(cB, .byte), (cC, .char), (cI, .int), (cJ, .long), (cZ, .boolean), (cP, .object "StoryHouse$Play")] sz (b_H cB cC cI cJ cZ cP oA rA T og om) g_0)) (va_Qi (fun r (_ : Unit) => res.1.1 = 0 ∧ r = res.1.2) (g_Bo (dC, dI) (va_A (b_H cB cC cI cJ cZ cP oA rA T og om) sz) (fun (_ : Unit) => (b_H cB cC cI cJ cZ cP oA rA res.2 og om))) (va_A (b_H cB cC cI cJ cZ cP oA rA T og om) sz)) (g_X (dC, dI) (va_A (b_H cB cC cI cJ cZ cP oA rA T og om) sz) (b_H cB cC cI cJ cZ cP oA rA res.2 og om) (fun E : String => XN res.1.1 E)) 1 6 (va_A (b_H cB cC cI cJ cZ cP oA rA T og om) sz) := by
  refine vx_ofW (cc := cX11_out) (maxL := 2) (ret := (some .int)) (by decide) rfl ?_
  intro p e s m args below meth c s₁ B hml htab hv
  obtain ⟨rfl, hsz, hP, hK, hD0, hE, hX⟩ := hv
  have hx := B.exec
  have hb := B.bytes
  have hr := B.returns
  have hts0 := atoms_spec (ws := g_ws yX11_out cX11_out 2 (some .int)) B.pre
  have hts : ∀ w ∈ lw_good, w.before ([.ref (oA 0), .int p0] : List Value).toArray s = true := fun w z => hts0 w (List.mem_cons_of_mem _ z)
  have hown : s.vm.findClass RX11 = some m.cls := findClass_of_methodNamed B.named
  have hlocks := B.notSynchronized
  subst hsz
  have hD1 := hD0.self (sz := s.heap.size)
  generalize hAe : va_A (b_H cB cC cI cJ cZ cP oA rA T og om) s.heap.size = A at hD1 hE hX ⊢
  have hA : ∀ q : Nat, s.heap.size ≤ q → A q := fun q z => by rw [← hAe]; exact Or.inr z
  have hDD : ∀ T : TS, va_D A (b_H cB cC cI cJ cZ cP oA rA T og om) := fun T9 => va_D_fst bH_fst hD1
  have hN := hE.1
  have hS : va_S A s.heap s.heap [] := va_S.rf
  have hl := lv_entry ([.ref (oA 0), .int p0]) (n := 2) (Nat.le_of_ble_eq_true rfl)
  rw [lg_entry_eq]
  generalize (lg_sl ([.ref (oA 0), .int p0]) ++ List.replicate (2 - (lg_sl ([.ref (oA 0), .int p0])).length) Slot.unset).toArray = ls at hl ⊢
  have hl : lv_has ls 2 [(0, .ref (oA 0)), (1, .int p0)] := hl
  unfold F_X11_out at hF
  refine lv_iload_n hx hb dX11_out_0 rfl (lv_at hl 1 rfl) ?_
  obtain ⟨j_2, ej_2, hF_3⟩ := bnd_e hF
  clear hF
  have Jj_2 : ∀  (σ_1 : TS), j_2  σ_1 = some res → ∀ (H : Heap) (locs : List Loc), va_P (dC, dI) vwCl (b_H cB cC cI cJ cZ cP oA rA σ_1 og om) H → va_S A s.heap H locs → ∀ ls : Array Slot, lv_has ls 2 [] → W p l e (headSpec (g_ws yX11_out cX11_out 2 (some .int)) { frames := 6, cells := 1, slots := 6, locals := 90 }).room s m ([.ref (oA 0), .int p0] : List Value).toArray below meth c H locs 0 0 (vx_MQ below (va_Qi (fun r (_ : Unit) => res.1.1 = 0 ∧ r = res.1.2) (g_Bo (dC, dI) A (fun (_ : Unit) => (b_H cB cC cI cJ cZ cP oA rA res.2 og om))) A) (g_X (dC, dI) A (b_H cB cC cI cJ cZ cP oA rA res.2 og om) (fun E : String => XN res.1.1 E)) ([.ref (oA 0), .int p0] : List Value).toArray s 1 6 A) (F0 m 15 ls []) := by
    intro  σ_1 hF0 H locs hP hS ls hl
    subst ej_2
    have hF_4 := hF0
    clear hF0
    have h9 := Option.some.inj hF_4
    subst h9
    obtain ⟨q_5, vq_5, hRq_5, hSq_5⟩ := hE.2.2.2.2 _ (List.mem_of_getElem? (i := 70) rfl)
    exact vx_throwS hx hb hfl (own := RX11) (cls := "java/lang/IndexOutOfBoundsException") (text := "there is no such byte") (names := ["java/lang/RuntimeException", "java/lang/Exception"]) (A := A) hown (by decide +kernel) (by decide +kernel) (hts (.classLink RX11 223 "java/lang/IndexOutOfBoundsException") wq_1273) (hts (.initialized "java/lang/IndexOutOfBoundsException") wq_27) hRq_5 (g_bad hN (fun w h => hts w (wx_227 w h)) (by decide +kernel) (g_badB hN (List.mem_of_getElem? (i := 2) rfl))) (by decide +kernel) hE.2.1 hE.2.2.1 hS (hl.1.trans hml.symm) dX11_out_15 dX11_out_18 dX11_out_19 dX11_out_21 dX11_out_24 (fun x hx => (htab x hx).elim) (by decide) (by decide) (Nat.le_of_ble_eq_true rfl) (Nat.le_of_ble_eq_true rfl) hlocks (g_thr hP (hDD _) hS XN_3) hS.2.2 (Nat.le_of_ble_eq_true rfl) (Nat.le_of_ble_eq_true rfl)
  refine lv_if_lt (tgt := 15) hx hb dX11_out_1 (by decide) (fun c_6 => ?_) (fun c_6 => ?_)
  · have hF_7 := ipos c_6 hF_3
    clear hF_3
    exact Jj_2  T hF_7 _ _ hP hS ls (lv_sub hl [] rfl)
  · have hF_8 := ineg c_6 hF_3
    clear hF_3
    refine lv_iload_n hx hb dX11_out_4 rfl (lv_at hl 1 rfl) ?_
    refine lv_aload_n hx hb dX11_out_5 rfl (lv_at hl 0 rfl) ?_
    refine va_get (D := (dC, dI)) (ci := 11) (v := .ref (oA 8)) (C := RX11) (T := TX11) (N := 19) hx hb hts ii_X11 hown hK hP 0 rfl rfl 10 (by decide) (hts (.fieldLink RX11 53 "StoryHouse" "told" "LStoryHouse$Out;") wq_313) (fun _ h9 => h9) rfl dX11_out_6 ?_
    refine va_get (D := (dC, dI)) (ci := 5) (v := .int ((T.1 8).1 1)) (C := RX5) (T := TX5) (N := 2) hx hb hts ii_X5 hown hK hP 53 rfl rfl 1 (by decide) (hts (.fieldLink RX11 220 "StoryHouse$Out" "length" "I") wq_211) (fun _ h9 => h9) rfl dX11_out_9 ?_
    refine lv_icmp_lt (tgt := 25) hx hb dX11_out_12 (by decide) (fun c_9 => ?_) (fun c_9 => ?_)
    · have hF_10 := ipos c_9 hF_8
      clear hF_8
      refine lv_aload_n hx hb dX11_out_25 rfl (lv_at hl 0 rfl) ?_
      refine va_get (D := (dC, dI)) (ci := 11) (v := .ref (oA 8)) (C := RX11) (T := TX11) (N := 19) hx hb hts ii_X11 hown hK hP 0 rfl rfl 10 (by decide) (hts (.fieldLink RX11 53 "StoryHouse" "told" "LStoryHouse$Out;") wq_313) (fun _ h9 => h9) rfl dX11_out_26 ?_
      refine va_get (D := (dC, dI)) (ci := 5) (v := .ref (rA 8 0)) (C := RX5) (T := TX5) (N := 2) hx hb hts ii_X5 hown hK hP 53 rfl rfl 0 (by decide) (hts (.fieldLink RX11 228 "StoryHouse$Out" "bytes" "[B") wq_209) (fun _ h9 => h9) rfl dX11_out_29 ?_
      refine lv_iload_n hx hb dX11_out_32 rfl (lv_at hl 1 rfl) ?_
      obtain ⟨g_11, hF_12⟩ := nif_e hF_10
      clear hF_10
      refine va_bald (f := (T.1 8).2.1 0) hx hb hK hP 54 0 rfl rfl g_11 dX11_out_33 ?_
      have h9 := Option.some.inj hF_12
      subst h9
      refine W.widen (k := 1) (n := 6) (Nat.le_of_ble_eq_true rfl) (Nat.le_of_ble_eq_true rfl) ?_
      refine vx_ret ?_
      exact W.iret (v := ((T.1 8).2.1 0 p0.toNatClampNeg)) hx hb hr (fun t ht hW => ⟨⟨((T.1 8).2.1 0 p0.toNatClampNeg), (), rfl, ⟨rfl, rfl⟩, m_end ht hP, hDD _⟩, hS.F ht⟩) hS.2.2 dX11_out_34
    · have hF_13 := ineg c_9 hF_8
      clear hF_8
      exact Jj_2  T hF_13 _ _ hP hS ls (lv_sub hl [] rfl)

theorem dX11_holder_0 : decode cX11_holder 0 = .ok (.aload_n 0, 1) := by decide +kernel
theorem dX11_holder_1 : decode cX11_holder 1 = .ok (.iload_n 1, 1) := by decide +kernel
theorem dX11_holder_2 : decode cX11_holder 2 = .ok (.invokevirtual 237, 3) := by decide +kernel
theorem dX11_holder_5 : decode cX11_holder 5 = .ok (.aload_n 0, 1) := by decide +kernel
theorem dX11_holder_6 : decode cX11_holder 6 = .ok (.invokevirtual 184, 3) := by decide +kernel
theorem dX11_holder_9 : decode cX11_holder 9 = .ok (.aload_n 0, 1) := by decide +kernel
theorem dX11_holder_10 : decode cX11_holder 10 = .ok (.getfield 60, 3) := by decide +kernel
theorem dX11_holder_13 : decode cX11_holder 13 = .ok (.getfield 240, 3) := by decide +kernel
theorem dX11_holder_16 : decode cX11_holder 16 = .ok (.iload_n 1, 1) := by decide +kernel
theorem dX11_holder_17 : decode cX11_holder 17 = .ok (.invokestatic 243, 3) := by decide +kernel
theorem dX11_holder_20 : decode cX11_holder 20 = .ok (.ireturn, 1) := by decide +kernel
def F_X11_holder (p0 : Int32) (T : TS) : HA :=
  (F_X11_needObject p0 T).bind fun u_1 =>
  bnd (((mrg (fun j => j == 0 || j == 4) T.1 u_1.2.1, T.2) : TS)) fun σ_4 =>
  if ¬ u_1.1.1 = 0 then some ((u_1.1.1, 0), σ_4) else
  (F_X11_needPlay σ_4).bind fun u_8 =>
  bnd (((mrg (fun j => j == 0) σ_4.1 u_8.2.1, σ_4.2) : TS)) fun σ_11 =>
  if ¬ u_8.1.1 = 0 then some ((u_8.1.1, 0), σ_11) else
  bnd ((g_at 121 ((σ_11.1 9).2.1 0) p0)) fun (x_15 : Int32) =>
  some ((0, x_15), σ_11)
set_option maxHeartbeats 8000000 in
set_option maxRecDepth 100000 in
theorem h_X11_holder (l : Launch) (dC : Nat → ClassId) (dI : Nat → Nat → Nat) (cB cC cI cJ cZ cP : ClassId) (oA : Nat → Nat) (rA : Nat → Nat → Nat) (hfl : l.stackTraces = false) (og om : Option Nat) (sz : Nat) (p0 : Int32) (T : TS) (res : (Int32 × Int32) × TS) (hF : F_X11_holder p0 T = some res) : vx_Met l yX11_holder (g_ws yX11_holder cX11_holder 2 (some .int)) ({ frames := 7, cells := 2, slots := 12, locals := 111 }) (va_Pc [.ref (oA 0), .int p0] (g_B (dC, dI) [(cB, .byte), (cC, .char), (cI, .int), (cJ, .long), (cZ, .boolean), (cP, .object "StoryHouse$Play")] sz (b_H cB cC cI cJ cZ cP oA rA T og om) g_0)) (va_Qi (fun r (_ : Unit) => res.1.1 = 0 ∧ r = res.1.2) (g_Bo (dC, dI) (va_A (b_H cB cC cI cJ cZ cP oA rA T og om) sz) (fun (_ : Unit) => (b_H cB cC cI cJ cZ cP oA rA res.2 og om))) (va_A (b_H cB cC cI cJ cZ cP oA rA T og om) sz)) (g_X (dC, dI) (va_A (b_H cB cC cI cJ cZ cP oA rA T og om) sz) (b_H cB cC cI cJ cZ cP oA rA res.2 og om) (fun E : String => XN res.1.1 E)) 2 12 (va_A (b_H cB cC cI cJ cZ cP oA rA T og om) sz) := by
  refine vx_ofW (cc := cX11_holder) (maxL := 2) (ret := (some .int)) (by decide) rfl ?_
  intro p e s m args below meth c s₁ B hml htab hv
  obtain ⟨rfl, hsz, hP, hK, hD0, hE, hX⟩ := hv
  have hx := B.exec
  have hb := B.bytes
  have hr := B.returns
  have hts0 := atoms_spec (ws := g_ws yX11_holder cX11_holder 2 (some .int)) B.pre
  have hts : ∀ w ∈ lw_good, w.before ([.ref (oA 0), .int p0] : List Value).toArray s = true := fun w z => hts0 w (List.mem_cons_of_mem _ z)
  have hown : s.vm.findClass RX11 = some m.cls := findClass_of_methodNamed B.named
  have hlocks := B.notSynchronized
  subst hsz
  have hD1 := hD0.self (sz := s.heap.size)
  generalize hAe : va_A (b_H cB cC cI cJ cZ cP oA rA T og om) s.heap.size = A at hD1 hE hX ⊢
  have hA : ∀ q : Nat, s.heap.size ≤ q → A q := fun q z => by rw [← hAe]; exact Or.inr z
  have hDD : ∀ T : TS, va_D A (b_H cB cC cI cJ cZ cP oA rA T og om) := fun T9 => va_D_fst bH_fst hD1
  have hN := hE.1
  have hS : va_S A s.heap s.heap [] := va_S.rf
  have hl := lv_entry ([.ref (oA 0), .int p0]) (n := 2) (Nat.le_of_ble_eq_true rfl)
  rw [lg_entry_eq]
  generalize (lg_sl ([.ref (oA 0), .int p0]) ++ List.replicate (2 - (lg_sl ([.ref (oA 0), .int p0])).length) Slot.unset).toArray = ls at hl ⊢
  have hl : lv_has ls 2 [(0, .ref (oA 0)), (1, .int p0)] := hl
  unfold F_X11_holder at hF
  refine lv_aload_n hx hb dX11_holder_0 rfl (lv_at hl 0 rfl) ?_
  refine lv_iload_n hx hb dX11_holder_1 rfl (lv_at hl 1 rfl) ?_
  obtain ⟨u_1, hu_1, hF_2⟩ := Option.bind_eq_some_iff.mp hF
  clear hF
  have hPc := bx_P (bs := (b_HL cB cC cI cJ cZ cP oA rA T og om)) (bs' := [b_h cB cC cI cJ cZ cP oA rA T.1, b_s cB cC cI cJ cZ oA rA T.1]) (ws' := (b_h cB cC cI cJ cZ cP oA rA T.1 ++ b_s cB cC cI cJ cZ oA rA T.1)) hP fl_H fl_2 [0, 5] rfl
  have hDc := bx_D (bs := (b_HL cB cC cI cJ cZ cP oA rA T og om)) (bs' := [b_h cB cC cI cJ cZ cP oA rA T.1, b_s cB cC cI cJ cZ oA rA T.1]) (ws' := (b_h cB cC cI cJ cZ cP oA rA T.1 ++ b_s cB cC cI cJ cZ oA rA T.1)) (hDD T) fl_H fl_2 [0, 5] (by decide +kernel) rfl
  have hFc := bx_F (bs := (b_HL cB cC cI cJ cZ cP oA rA T og om)) (bs' := [b_h cB cC cI cJ cZ cP oA rA T.1, b_s cB cC cI cJ cZ oA rA T.1]) (wc := (b_h cB cC cI cJ cZ cP oA rA T.1 ++ b_s cB cC cI cJ cZ oA rA T.1)) (hDD T) hS hA fl_H fl_2 [0, 5] rfl
  obtain ⟨σ_4, eσ_4, hF_5⟩ := bnd_e hF_2
  clear hF_2
  refine g_oxv (wc := (b_h cB cC cI cJ cZ cP oA rA T.1 ++ b_s cB cC cI cJ cZ oA rA T.1)) (wr := (b_b cB cC cI cJ cZ oA rA T.1 ++ b_ga cB cC cI cJ cZ oA rA T.1 og ++ b_ma cB cC cI cJ cZ oA rA T.1 om ++ b_w cB cC cI cJ cZ oA rA T.1 ++ b_c cB cC cI cJ cZ oA rA T.1 ++ b_t cB cC cI cJ cZ oA rA T.1 ++ b_d cB cC cI cJ cZ oA rA T.1 ++ b_o cB cC cI cJ cZ oA rA T.1 ++ b_p cB cC cI cJ cZ oA rA T.1 ++ b_k cB cC cI cJ cZ oA rA T.1 ++ b_e cB cC cI cJ cZ oA rA T.1 ++ b_s cB cC cI cJ cZ (fun r => oA (dN r)) (fun r => rA (dN r)) T.2.1 ++ b_c cB cC cI cJ cZ (fun r => oA (dN r)) (fun r => rA (dN r)) T.2.1 ++ b_t cB cC cI cJ cZ (fun r => oA (dN r)) (fun r => rA (dN r)) T.2.1 ++ b_d cB cC cI cJ cZ (fun r => oA (dN r)) (fun r => rA (dN r)) T.2.1 ++ b_p cB cC cI cJ cZ (fun r => oA (pN 18 r)) (fun r => rA (pN 18 r)) (fun _ => T.2.2.1 0) ++ b_p cB cC cI cJ cZ (fun r => oA (pN 19 r)) (fun r => rA (pN 19 r)) (fun _ => T.2.2.1 1) ++ b_p cB cC cI cJ cZ (fun r => oA (pN 20 r)) (fun r => rA (pN 20 r)) (fun _ => T.2.2.1 2) ++ b_p cB cC cI cJ cZ (fun r => oA (pN 21 r)) (fun r => rA (pN 21 r)) (fun _ => T.2.2.1 3) ++ b_p cB cC cI cJ cZ (fun r => oA (pN 22 r)) (fun r => rA (pN 22 r)) (fun _ => T.2.2.2 0) ++ b_p cB cC cI cJ cZ (fun r => oA (pN 23 r)) (fun r => rA (pN 23 r)) (fun _ => T.2.2.2 1) ++ b_p cB cC cI cJ cZ (fun r => oA (pN 24 r)) (fun r => rA (pN 24 r)) (fun _ => T.2.2.2 2) ++ b_p cB cC cI cJ cZ (fun r => oA (pN 25 r)) (fun r => rA (pN 25 r)) (fun _ => T.2.2.2 3) ++ b_p cB cC cI cJ cZ (fun r => oA (pN 26 r)) (fun r => rA (pN 26 r)) (fun _ => T.2.2.2 4) ++ b_p cB cC cI cJ cZ (fun r => oA (pN 27 r)) (fun r => rA (pN 27 r)) (fun _ => T.2.2.2 5))) hP (hDD T) hS hFc (bx_ix (b_HL cB cC cI cJ cZ cP oA rA T og om) [0, 5]) (bx_ix (b_HL cB cC cI cJ cZ cP oA rA T og om) [1, 2, 3, 4, 6, 7, 8, 9, 10, 11, 12, 13, 14, 15, 16, 17, 18, 19, 20, 21, 22, 23, 24, 25, 26]) (bx_C (bs := (b_HL cB cC cI cJ cZ cP oA rA T og om)) (bs' := [b_h cB cC cI cJ cZ cP oA rA T.1, b_s cB cC cI cJ cZ oA rA T.1]) (is := [0, 5]) fl_H fl_2 rfl) (bx_C (bs := (b_HL cB cC cI cJ cZ cP oA rA T og om)) (bs' := [b_b cB cC cI cJ cZ oA rA T.1, b_ga cB cC cI cJ cZ oA rA T.1 og, b_ma cB cC cI cJ cZ oA rA T.1 om, b_w cB cC cI cJ cZ oA rA T.1, b_c cB cC cI cJ cZ oA rA T.1, b_t cB cC cI cJ cZ oA rA T.1, b_d cB cC cI cJ cZ oA rA T.1, b_o cB cC cI cJ cZ oA rA T.1, b_p cB cC cI cJ cZ oA rA T.1, b_k cB cC cI cJ cZ oA rA T.1, b_e cB cC cI cJ cZ oA rA T.1, b_s cB cC cI cJ cZ (fun r => oA (dN r)) (fun r => rA (dN r)) T.2.1, b_c cB cC cI cJ cZ (fun r => oA (dN r)) (fun r => rA (dN r)) T.2.1, b_t cB cC cI cJ cZ (fun r => oA (dN r)) (fun r => rA (dN r)) T.2.1, b_d cB cC cI cJ cZ (fun r => oA (dN r)) (fun r => rA (dN r)) T.2.1, b_p cB cC cI cJ cZ (fun r => oA (pN 18 r)) (fun r => rA (pN 18 r)) (fun _ => T.2.2.1 0), b_p cB cC cI cJ cZ (fun r => oA (pN 19 r)) (fun r => rA (pN 19 r)) (fun _ => T.2.2.1 1), b_p cB cC cI cJ cZ (fun r => oA (pN 20 r)) (fun r => rA (pN 20 r)) (fun _ => T.2.2.1 2), b_p cB cC cI cJ cZ (fun r => oA (pN 21 r)) (fun r => rA (pN 21 r)) (fun _ => T.2.2.1 3), b_p cB cC cI cJ cZ (fun r => oA (pN 22 r)) (fun r => rA (pN 22 r)) (fun _ => T.2.2.2 0), b_p cB cC cI cJ cZ (fun r => oA (pN 23 r)) (fun r => rA (pN 23 r)) (fun _ => T.2.2.2 1), b_p cB cC cI cJ cZ (fun r => oA (pN 24 r)) (fun r => rA (pN 24 r)) (fun _ => T.2.2.2 2), b_p cB cC cI cJ cZ (fun r => oA (pN 25 r)) (fun r => rA (pN 25 r)) (fun _ => T.2.2.2 3), b_p cB cC cI cJ cZ (fun r => oA (pN 26 r)) (fun r => rA (pN 26 r)) (fun _ => T.2.2.2 4), b_p cB cC cI cJ cZ (fun r => oA (pN 27 r)) (fun r => rA (pN 27 r)) (fun _ => T.2.2.2 5)]) (is := [1, 2, 3, 4, 6, 7, 8, 9, 10, 11, 12, 13, 14, 15, 16, 17, 18, 19, 20, 21, 22, 23, 24, 25, 26]) fl_H fl_25 rfl) (bx_n (by decide +kernel)) (bx_d (by decide +kernel)) (vx_runV (As := [.int p0]) (rest := []) ⟨hx, hb, hml, hown, hts⟩ (h_X11_needObject l dC dI cB cC cI cJ cZ cP oA rA hfl s.heap.size p0 T _ hu_1) (cwV 1 hts (g_gV wq_1306 wq_1307 wq_2112 wq_1 wq_1308) rfl rfl rfl (by decide +kernel) ⟨Nat.le_of_ble_eq_true rfl, Nat.le_of_ble_eq_true rfl⟩) (g_preV g_bl0 hK hPc hDc hS hE hFc g_to0 (q0 := 0) (ci := 11) rfl rfl) rfl rfl hl.1 rfl (lv_room (Nat.le_of_ble_eq_true rfl)) dX11_holder_2 ⟨Nat.le_of_ble_eq_true rfl, Nat.le_of_ble_eq_true rfl⟩) (fun E ce q9 H1 locs1 hXP hP1 hD1 hS1 hce hcv hcl => ?_) (fun u9 H locs hw9 hP' hD' hS => ?_)
  · have hF_6 := hif_n (XN_ne hXP) hF_5
    have h9 := Option.some.inj hF_6
    subst h9
    exact vx_out (fun x hx => (htab x hx).elim) hlocks hce hcv hcl (g_passed (ws := (b_H cB cC cI cJ cZ cP oA rA σ_4 og om)) (by rw [eσ_4]; exact bx_P (bs := [b_b cB cC cI cJ cZ oA rA T.1, b_ga cB cC cI cJ cZ oA rA T.1 og, b_ma cB cC cI cJ cZ oA rA T.1 om, b_w cB cC cI cJ cZ oA rA T.1, b_c cB cC cI cJ cZ oA rA T.1, b_t cB cC cI cJ cZ oA rA T.1, b_d cB cC cI cJ cZ oA rA T.1, b_o cB cC cI cJ cZ oA rA T.1, b_p cB cC cI cJ cZ oA rA T.1, b_k cB cC cI cJ cZ oA rA T.1, b_e cB cC cI cJ cZ oA rA T.1, b_s cB cC cI cJ cZ (fun r => oA (dN r)) (fun r => rA (dN r)) T.2.1, b_c cB cC cI cJ cZ (fun r => oA (dN r)) (fun r => rA (dN r)) T.2.1, b_t cB cC cI cJ cZ (fun r => oA (dN r)) (fun r => rA (dN r)) T.2.1, b_d cB cC cI cJ cZ (fun r => oA (dN r)) (fun r => rA (dN r)) T.2.1, b_p cB cC cI cJ cZ (fun r => oA (pN 18 r)) (fun r => rA (pN 18 r)) (fun _ => T.2.2.1 0), b_p cB cC cI cJ cZ (fun r => oA (pN 19 r)) (fun r => rA (pN 19 r)) (fun _ => T.2.2.1 1), b_p cB cC cI cJ cZ (fun r => oA (pN 20 r)) (fun r => rA (pN 20 r)) (fun _ => T.2.2.1 2), b_p cB cC cI cJ cZ (fun r => oA (pN 21 r)) (fun r => rA (pN 21 r)) (fun _ => T.2.2.1 3), b_p cB cC cI cJ cZ (fun r => oA (pN 22 r)) (fun r => rA (pN 22 r)) (fun _ => T.2.2.2 0), b_p cB cC cI cJ cZ (fun r => oA (pN 23 r)) (fun r => rA (pN 23 r)) (fun _ => T.2.2.2 1), b_p cB cC cI cJ cZ (fun r => oA (pN 24 r)) (fun r => rA (pN 24 r)) (fun _ => T.2.2.2 2), b_p cB cC cI cJ cZ (fun r => oA (pN 25 r)) (fun r => rA (pN 25 r)) (fun _ => T.2.2.2 3), b_p cB cC cI cJ cZ (fun r => oA (pN 26 r)) (fun r => rA (pN 26 r)) (fun _ => T.2.2.2 4), b_p cB cC cI cJ cZ (fun r => oA (pN 27 r)) (fun r => rA (pN 27 r)) (fun _ => T.2.2.2 5)] ++ [b_h cB cC cI cJ cZ cP oA rA u_1.2.1, b_s cB cC cI cJ cZ oA rA u_1.2.1]) (bs' := (b_HL cB cC cI cJ cZ cP oA rA ((mrg (fun j => j == 0 || j == 4) T.1 u_1.2.1, T.2) : TS) og om)) hP1 (fl_a fl_25 fl_2) fl_H [25, 0, 1, 2, 3, 26, 4, 5, 6, 7, 8, 9, 10, 11, 12, 13, 14, 15, 16, 17, 18, 19, 20, 21, 22, 23, 24] rfl) (hDD _) hS1 hXP) hS1.2.2 (Nat.le_of_ble_eq_true rfl) (Nat.le_of_ble_eq_true rfl)
  have hF_7 := hif_p hw9 hF_5
  clear hF_5
  have hP : va_P (dC, dI) vwCl (b_H cB cC cI cJ cZ cP oA rA σ_4 og om) H := by rw [eσ_4]; exact bx_P (bs := [b_b cB cC cI cJ cZ oA rA T.1, b_ga cB cC cI cJ cZ oA rA T.1 og, b_ma cB cC cI cJ cZ oA rA T.1 om, b_w cB cC cI cJ cZ oA rA T.1, b_c cB cC cI cJ cZ oA rA T.1, b_t cB cC cI cJ cZ oA rA T.1, b_d cB cC cI cJ cZ oA rA T.1, b_o cB cC cI cJ cZ oA rA T.1, b_p cB cC cI cJ cZ oA rA T.1, b_k cB cC cI cJ cZ oA rA T.1, b_e cB cC cI cJ cZ oA rA T.1, b_s cB cC cI cJ cZ (fun r => oA (dN r)) (fun r => rA (dN r)) T.2.1, b_c cB cC cI cJ cZ (fun r => oA (dN r)) (fun r => rA (dN r)) T.2.1, b_t cB cC cI cJ cZ (fun r => oA (dN r)) (fun r => rA (dN r)) T.2.1, b_d cB cC cI cJ cZ (fun r => oA (dN r)) (fun r => rA (dN r)) T.2.1, b_p cB cC cI cJ cZ (fun r => oA (pN 18 r)) (fun r => rA (pN 18 r)) (fun _ => T.2.2.1 0), b_p cB cC cI cJ cZ (fun r => oA (pN 19 r)) (fun r => rA (pN 19 r)) (fun _ => T.2.2.1 1), b_p cB cC cI cJ cZ (fun r => oA (pN 20 r)) (fun r => rA (pN 20 r)) (fun _ => T.2.2.1 2), b_p cB cC cI cJ cZ (fun r => oA (pN 21 r)) (fun r => rA (pN 21 r)) (fun _ => T.2.2.1 3), b_p cB cC cI cJ cZ (fun r => oA (pN 22 r)) (fun r => rA (pN 22 r)) (fun _ => T.2.2.2 0), b_p cB cC cI cJ cZ (fun r => oA (pN 23 r)) (fun r => rA (pN 23 r)) (fun _ => T.2.2.2 1), b_p cB cC cI cJ cZ (fun r => oA (pN 24 r)) (fun r => rA (pN 24 r)) (fun _ => T.2.2.2 2), b_p cB cC cI cJ cZ (fun r => oA (pN 25 r)) (fun r => rA (pN 25 r)) (fun _ => T.2.2.2 3), b_p cB cC cI cJ cZ (fun r => oA (pN 26 r)) (fun r => rA (pN 26 r)) (fun _ => T.2.2.2 4), b_p cB cC cI cJ cZ (fun r => oA (pN 27 r)) (fun r => rA (pN 27 r)) (fun _ => T.2.2.2 5)] ++ [b_h cB cC cI cJ cZ cP oA rA u_1.2.1, b_s cB cC cI cJ cZ oA rA u_1.2.1]) (bs' := (b_HL cB cC cI cJ cZ cP oA rA ((mrg (fun j => j == 0 || j == 4) T.1 u_1.2.1, T.2) : TS) og om)) hP' (fl_a fl_25 fl_2) fl_H [25, 0, 1, 2, 3, 26, 4, 5, 6, 7, 8, 9, 10, 11, 12, 13, 14, 15, 16, 17, 18, 19, 20, 21, 22, 23, 24] rfl
  clear hP' hD' hPc hDc hFc
  refine W.widen (k := 1) (n := 6) (Nat.le_of_ble_eq_true rfl) (Nat.le_of_ble_eq_true rfl) ?_
  refine lv_aload_n hx hb dX11_holder_5 rfl (lv_at hl 0 rfl) ?_
  obtain ⟨u_8, hu_8, hF_9⟩ := Option.bind_eq_some_iff.mp hF_7
  clear hF_7
  have hPc := bx_P (bs := (b_HL cB cC cI cJ cZ cP oA rA σ_4 og om)) (bs' := [b_h cB cC cI cJ cZ cP oA rA σ_4.1]) (ws' := (b_h cB cC cI cJ cZ cP oA rA σ_4.1)) hP fl_H fl_1 [0] rfl
  have hDc := bx_D (bs := (b_HL cB cC cI cJ cZ cP oA rA σ_4 og om)) (bs' := [b_h cB cC cI cJ cZ cP oA rA σ_4.1]) (ws' := (b_h cB cC cI cJ cZ cP oA rA σ_4.1)) (hDD σ_4) fl_H fl_1 [0] (by decide +kernel) rfl
  have hFc := bx_F (bs := (b_HL cB cC cI cJ cZ cP oA rA σ_4 og om)) (bs' := [b_h cB cC cI cJ cZ cP oA rA σ_4.1]) (wc := (b_h cB cC cI cJ cZ cP oA rA σ_4.1)) (hDD σ_4) hS hA fl_H fl_1 [0] rfl
  obtain ⟨σ_11, eσ_11, hF_12⟩ := bnd_e hF_9
  clear hF_9
  refine g_oxv (wc := (b_h cB cC cI cJ cZ cP oA rA σ_4.1)) (wr := (b_b cB cC cI cJ cZ oA rA σ_4.1 ++ b_ga cB cC cI cJ cZ oA rA σ_4.1 og ++ b_ma cB cC cI cJ cZ oA rA σ_4.1 om ++ b_w cB cC cI cJ cZ oA rA σ_4.1 ++ b_s cB cC cI cJ cZ oA rA σ_4.1 ++ b_c cB cC cI cJ cZ oA rA σ_4.1 ++ b_t cB cC cI cJ cZ oA rA σ_4.1 ++ b_d cB cC cI cJ cZ oA rA σ_4.1 ++ b_o cB cC cI cJ cZ oA rA σ_4.1 ++ b_p cB cC cI cJ cZ oA rA σ_4.1 ++ b_k cB cC cI cJ cZ oA rA σ_4.1 ++ b_e cB cC cI cJ cZ oA rA σ_4.1 ++ b_s cB cC cI cJ cZ (fun r => oA (dN r)) (fun r => rA (dN r)) σ_4.2.1 ++ b_c cB cC cI cJ cZ (fun r => oA (dN r)) (fun r => rA (dN r)) σ_4.2.1 ++ b_t cB cC cI cJ cZ (fun r => oA (dN r)) (fun r => rA (dN r)) σ_4.2.1 ++ b_d cB cC cI cJ cZ (fun r => oA (dN r)) (fun r => rA (dN r)) σ_4.2.1 ++ b_p cB cC cI cJ cZ (fun r => oA (pN 18 r)) (fun r => rA (pN 18 r)) (fun _ => σ_4.2.2.1 0) ++ b_p cB cC cI cJ cZ (fun r => oA (pN 19 r)) (fun r => rA (pN 19 r)) (fun _ => σ_4.2.2.1 1) ++ b_p cB cC cI cJ cZ (fun r => oA (pN 20 r)) (fun r => rA (pN 20 r)) (fun _ => σ_4.2.2.1 2) ++ b_p cB cC cI cJ cZ (fun r => oA (pN 21 r)) (fun r => rA (pN 21 r)) (fun _ => σ_4.2.2.1 3) ++ b_p cB cC cI cJ cZ (fun r => oA (pN 22 r)) (fun r => rA (pN 22 r)) (fun _ => σ_4.2.2.2 0) ++ b_p cB cC cI cJ cZ (fun r => oA (pN 23 r)) (fun r => rA (pN 23 r)) (fun _ => σ_4.2.2.2 1) ++ b_p cB cC cI cJ cZ (fun r => oA (pN 24 r)) (fun r => rA (pN 24 r)) (fun _ => σ_4.2.2.2 2) ++ b_p cB cC cI cJ cZ (fun r => oA (pN 25 r)) (fun r => rA (pN 25 r)) (fun _ => σ_4.2.2.2 3) ++ b_p cB cC cI cJ cZ (fun r => oA (pN 26 r)) (fun r => rA (pN 26 r)) (fun _ => σ_4.2.2.2 4) ++ b_p cB cC cI cJ cZ (fun r => oA (pN 27 r)) (fun r => rA (pN 27 r)) (fun _ => σ_4.2.2.2 5))) hP (hDD σ_4) hS hFc (bx_ix (b_HL cB cC cI cJ cZ cP oA rA σ_4 og om) [0]) (bx_ix (b_HL cB cC cI cJ cZ cP oA rA σ_4 og om) [1, 2, 3, 4, 5, 6, 7, 8, 9, 10, 11, 12, 13, 14, 15, 16, 17, 18, 19, 20, 21, 22, 23, 24, 25, 26]) (bx_C (bs := (b_HL cB cC cI cJ cZ cP oA rA σ_4 og om)) (bs' := [b_h cB cC cI cJ cZ cP oA rA σ_4.1]) (is := [0]) fl_H fl_1 rfl) (bx_C (bs := (b_HL cB cC cI cJ cZ cP oA rA σ_4 og om)) (bs' := [b_b cB cC cI cJ cZ oA rA σ_4.1, b_ga cB cC cI cJ cZ oA rA σ_4.1 og, b_ma cB cC cI cJ cZ oA rA σ_4.1 om, b_w cB cC cI cJ cZ oA rA σ_4.1, b_s cB cC cI cJ cZ oA rA σ_4.1, b_c cB cC cI cJ cZ oA rA σ_4.1, b_t cB cC cI cJ cZ oA rA σ_4.1, b_d cB cC cI cJ cZ oA rA σ_4.1, b_o cB cC cI cJ cZ oA rA σ_4.1, b_p cB cC cI cJ cZ oA rA σ_4.1, b_k cB cC cI cJ cZ oA rA σ_4.1, b_e cB cC cI cJ cZ oA rA σ_4.1, b_s cB cC cI cJ cZ (fun r => oA (dN r)) (fun r => rA (dN r)) σ_4.2.1, b_c cB cC cI cJ cZ (fun r => oA (dN r)) (fun r => rA (dN r)) σ_4.2.1, b_t cB cC cI cJ cZ (fun r => oA (dN r)) (fun r => rA (dN r)) σ_4.2.1, b_d cB cC cI cJ cZ (fun r => oA (dN r)) (fun r => rA (dN r)) σ_4.2.1, b_p cB cC cI cJ cZ (fun r => oA (pN 18 r)) (fun r => rA (pN 18 r)) (fun _ => σ_4.2.2.1 0), b_p cB cC cI cJ cZ (fun r => oA (pN 19 r)) (fun r => rA (pN 19 r)) (fun _ => σ_4.2.2.1 1), b_p cB cC cI cJ cZ (fun r => oA (pN 20 r)) (fun r => rA (pN 20 r)) (fun _ => σ_4.2.2.1 2), b_p cB cC cI cJ cZ (fun r => oA (pN 21 r)) (fun r => rA (pN 21 r)) (fun _ => σ_4.2.2.1 3), b_p cB cC cI cJ cZ (fun r => oA (pN 22 r)) (fun r => rA (pN 22 r)) (fun _ => σ_4.2.2.2 0), b_p cB cC cI cJ cZ (fun r => oA (pN 23 r)) (fun r => rA (pN 23 r)) (fun _ => σ_4.2.2.2 1), b_p cB cC cI cJ cZ (fun r => oA (pN 24 r)) (fun r => rA (pN 24 r)) (fun _ => σ_4.2.2.2 2), b_p cB cC cI cJ cZ (fun r => oA (pN 25 r)) (fun r => rA (pN 25 r)) (fun _ => σ_4.2.2.2 3), b_p cB cC cI cJ cZ (fun r => oA (pN 26 r)) (fun r => rA (pN 26 r)) (fun _ => σ_4.2.2.2 4), b_p cB cC cI cJ cZ (fun r => oA (pN 27 r)) (fun r => rA (pN 27 r)) (fun _ => σ_4.2.2.2 5)]) (is := [1, 2, 3, 4, 5, 6, 7, 8, 9, 10, 11, 12, 13, 14, 15, 16, 17, 18, 19, 20, 21, 22, 23, 24, 25, 26]) fl_H fl_26 rfl) (bx_n (by decide +kernel)) (bx_d (by decide +kernel)) (vx_runV (As := []) (rest := []) ⟨hx, hb, hml, hown, hts⟩ (h_X11_needPlay l dC dI cB cC cI cJ cZ cP oA rA hfl H.size σ_4 _ hu_8) (cwV 0 hts (g_gV wq_1043 wq_1044 wq_2070 wq_1 wq_1045) rfl rfl rfl (by decide +kernel) ⟨Nat.le_of_ble_eq_true rfl, Nat.le_of_ble_eq_true rfl⟩) (g_preV g_bl0 hK hPc hDc hS hE hFc g_to0 (q0 := 0) (ci := 11) rfl rfl) rfl rfl hl.1 rfl (lv_room (Nat.le_of_ble_eq_true rfl)) dX11_holder_6 ⟨Nat.le_of_ble_eq_true rfl, Nat.le_of_ble_eq_true rfl⟩) (fun E ce q9 H1 locs1 hXP hP1 hD1 hS1 hce hcv hcl => ?_) (fun u9 H locs hw9 hP' hD' hS => ?_)
  · have hF_13 := hif_n (XN_ne hXP) hF_12
    have h9 := Option.some.inj hF_13
    subst h9
    exact vx_out (fun x hx => (htab x hx).elim) hlocks hce hcv hcl (g_passed (ws := (b_H cB cC cI cJ cZ cP oA rA σ_11 og om)) (by rw [eσ_11]; exact bx_P (bs := [b_b cB cC cI cJ cZ oA rA σ_4.1, b_ga cB cC cI cJ cZ oA rA σ_4.1 og, b_ma cB cC cI cJ cZ oA rA σ_4.1 om, b_w cB cC cI cJ cZ oA rA σ_4.1, b_s cB cC cI cJ cZ oA rA σ_4.1, b_c cB cC cI cJ cZ oA rA σ_4.1, b_t cB cC cI cJ cZ oA rA σ_4.1, b_d cB cC cI cJ cZ oA rA σ_4.1, b_o cB cC cI cJ cZ oA rA σ_4.1, b_p cB cC cI cJ cZ oA rA σ_4.1, b_k cB cC cI cJ cZ oA rA σ_4.1, b_e cB cC cI cJ cZ oA rA σ_4.1, b_s cB cC cI cJ cZ (fun r => oA (dN r)) (fun r => rA (dN r)) σ_4.2.1, b_c cB cC cI cJ cZ (fun r => oA (dN r)) (fun r => rA (dN r)) σ_4.2.1, b_t cB cC cI cJ cZ (fun r => oA (dN r)) (fun r => rA (dN r)) σ_4.2.1, b_d cB cC cI cJ cZ (fun r => oA (dN r)) (fun r => rA (dN r)) σ_4.2.1, b_p cB cC cI cJ cZ (fun r => oA (pN 18 r)) (fun r => rA (pN 18 r)) (fun _ => σ_4.2.2.1 0), b_p cB cC cI cJ cZ (fun r => oA (pN 19 r)) (fun r => rA (pN 19 r)) (fun _ => σ_4.2.2.1 1), b_p cB cC cI cJ cZ (fun r => oA (pN 20 r)) (fun r => rA (pN 20 r)) (fun _ => σ_4.2.2.1 2), b_p cB cC cI cJ cZ (fun r => oA (pN 21 r)) (fun r => rA (pN 21 r)) (fun _ => σ_4.2.2.1 3), b_p cB cC cI cJ cZ (fun r => oA (pN 22 r)) (fun r => rA (pN 22 r)) (fun _ => σ_4.2.2.2 0), b_p cB cC cI cJ cZ (fun r => oA (pN 23 r)) (fun r => rA (pN 23 r)) (fun _ => σ_4.2.2.2 1), b_p cB cC cI cJ cZ (fun r => oA (pN 24 r)) (fun r => rA (pN 24 r)) (fun _ => σ_4.2.2.2 2), b_p cB cC cI cJ cZ (fun r => oA (pN 25 r)) (fun r => rA (pN 25 r)) (fun _ => σ_4.2.2.2 3), b_p cB cC cI cJ cZ (fun r => oA (pN 26 r)) (fun r => rA (pN 26 r)) (fun _ => σ_4.2.2.2 4), b_p cB cC cI cJ cZ (fun r => oA (pN 27 r)) (fun r => rA (pN 27 r)) (fun _ => σ_4.2.2.2 5)] ++ [b_h cB cC cI cJ cZ cP oA rA u_8.2.1]) (bs' := (b_HL cB cC cI cJ cZ cP oA rA ((mrg (fun j => j == 0) σ_4.1 u_8.2.1, σ_4.2) : TS) og om)) hP1 (fl_a fl_26 fl_1) fl_H [26, 0, 1, 2, 3, 4, 5, 6, 7, 8, 9, 10, 11, 12, 13, 14, 15, 16, 17, 18, 19, 20, 21, 22, 23, 24, 25] rfl) (hDD _) hS1 hXP) hS1.2.2 (Nat.le_of_ble_eq_true rfl) (Nat.le_of_ble_eq_true rfl)
  have hF_14 := hif_p hw9 hF_12
  clear hF_12
  have hP : va_P (dC, dI) vwCl (b_H cB cC cI cJ cZ cP oA rA σ_11 og om) H := by rw [eσ_11]; exact bx_P (bs := [b_b cB cC cI cJ cZ oA rA σ_4.1, b_ga cB cC cI cJ cZ oA rA σ_4.1 og, b_ma cB cC cI cJ cZ oA rA σ_4.1 om, b_w cB cC cI cJ cZ oA rA σ_4.1, b_s cB cC cI cJ cZ oA rA σ_4.1, b_c cB cC cI cJ cZ oA rA σ_4.1, b_t cB cC cI cJ cZ oA rA σ_4.1, b_d cB cC cI cJ cZ oA rA σ_4.1, b_o cB cC cI cJ cZ oA rA σ_4.1, b_p cB cC cI cJ cZ oA rA σ_4.1, b_k cB cC cI cJ cZ oA rA σ_4.1, b_e cB cC cI cJ cZ oA rA σ_4.1, b_s cB cC cI cJ cZ (fun r => oA (dN r)) (fun r => rA (dN r)) σ_4.2.1, b_c cB cC cI cJ cZ (fun r => oA (dN r)) (fun r => rA (dN r)) σ_4.2.1, b_t cB cC cI cJ cZ (fun r => oA (dN r)) (fun r => rA (dN r)) σ_4.2.1, b_d cB cC cI cJ cZ (fun r => oA (dN r)) (fun r => rA (dN r)) σ_4.2.1, b_p cB cC cI cJ cZ (fun r => oA (pN 18 r)) (fun r => rA (pN 18 r)) (fun _ => σ_4.2.2.1 0), b_p cB cC cI cJ cZ (fun r => oA (pN 19 r)) (fun r => rA (pN 19 r)) (fun _ => σ_4.2.2.1 1), b_p cB cC cI cJ cZ (fun r => oA (pN 20 r)) (fun r => rA (pN 20 r)) (fun _ => σ_4.2.2.1 2), b_p cB cC cI cJ cZ (fun r => oA (pN 21 r)) (fun r => rA (pN 21 r)) (fun _ => σ_4.2.2.1 3), b_p cB cC cI cJ cZ (fun r => oA (pN 22 r)) (fun r => rA (pN 22 r)) (fun _ => σ_4.2.2.2 0), b_p cB cC cI cJ cZ (fun r => oA (pN 23 r)) (fun r => rA (pN 23 r)) (fun _ => σ_4.2.2.2 1), b_p cB cC cI cJ cZ (fun r => oA (pN 24 r)) (fun r => rA (pN 24 r)) (fun _ => σ_4.2.2.2 2), b_p cB cC cI cJ cZ (fun r => oA (pN 25 r)) (fun r => rA (pN 25 r)) (fun _ => σ_4.2.2.2 3), b_p cB cC cI cJ cZ (fun r => oA (pN 26 r)) (fun r => rA (pN 26 r)) (fun _ => σ_4.2.2.2 4), b_p cB cC cI cJ cZ (fun r => oA (pN 27 r)) (fun r => rA (pN 27 r)) (fun _ => σ_4.2.2.2 5)] ++ [b_h cB cC cI cJ cZ cP oA rA u_8.2.1]) (bs' := (b_HL cB cC cI cJ cZ cP oA rA ((mrg (fun j => j == 0) σ_4.1 u_8.2.1, σ_4.2) : TS) og om)) hP' (fl_a fl_26 fl_1) fl_H [26, 0, 1, 2, 3, 4, 5, 6, 7, 8, 9, 10, 11, 12, 13, 14, 15, 16, 17, 18, 19, 20, 21, 22, 23, 24, 25] rfl
  clear hP' hD' hPc hDc hFc
  refine W.widen (k := 2) (n := 12) (Nat.le_of_ble_eq_true rfl) (Nat.le_of_ble_eq_true rfl) ?_
  refine lv_aload_n hx hb dX11_holder_9 rfl (lv_at hl 0 rfl) ?_
  refine va_get (D := (dC, dI)) (ci := 11) (v := .ref (oA 9)) (C := RX11) (T := TX11) (N := 19) hx hb hts ii_X11 hown hK hP 0 rfl rfl 11 (by decide) (hts (.fieldLink RX11 60 "StoryHouse" "play" "LStoryHouse$Play;") wq_314) (fun _ h9 => h9) rfl dX11_holder_10 ?_
  refine va_get (D := (dC, dI)) (ci := 6) (v := .ref (rA 9 0)) (C := RX6) (T := TX6) (N := 12) hx hb hts ii_X6 hown hK hP 55 rfl rfl 0 (by decide) (hts (.fieldLink RX11 240 "StoryHouse$Play" "parents" "[I") wq_218) (fun _ h9 => h9) rfl dX11_holder_13 ?_
  refine lv_iload_n hx hb dX11_holder_16 rfl (lv_at hl 1 rfl) ?_
  have hq9 : ((b_H cB cC cI cJ cZ cP oA rA σ_11 og om))[56]? = some (rA 9 0, .inl (cI, 121, .inl ((σ_11.1 9).2.1 0))) := rfl
  have hPc := hP.sub (ws' := [(rA 9 0, .inl (cI, 121, .inl ((σ_11.1 9).2.1 0)))]) [56] (pk_fm (er_C hq9))
  have hDc := (hDD σ_11).sub (ws' := [(rA 9 0, .inl (cI, 121, .inl ((σ_11.1 9).2.1 0)))]) [56] (by decide +kernel) (er_C hq9)
  have hFc := va_free (wc := [(rA 9 0, .inl (cI, 121, .inl ((σ_11.1 9).2.1 0)))]) (hDD σ_11) hS hA [56] (er_C hq9)
  refine g_ofi (wc := [(rA 9 0, .inl (cI, 121, .inl ((σ_11.1 9).2.1 0)))]) (wr := (((b_H cB cC cI cJ cZ cP oA rA σ_11 og om)).eraseIdx 56)) hP (hDD σ_11) hS hFc [56] ((List.range ((b_H cB cC cI cJ cZ cP oA rA σ_11 og om)).length).eraseIdx 56) (er_C hq9) er_R er_n er_d (va_runS (As := [.ref (rA 9 0), .int p0]) (rest := []) ⟨hx, hb, hml, hown, hts⟩ (c_X11_at l dC dI cB cC cI cJ cZ cP H.size (rA 9 0) p0 121 ((σ_11.1 9).2.1 0) (by decide)) (va_cwS 2 hts (g_gS wq_1309 wq_406 wq_1 wq_407) rfl rfl rfl (by decide +kernel) ⟨Nat.le_of_ble_eq_true rfl, Nat.le_of_ble_eq_true rfl⟩) (g_preS g_bl0 hK hPc hDc hS hE hFc g_to0) rfl rfl hl.1 rfl (lv_room (Nat.le_of_ble_eq_true rfl)) dX11_holder_17 ⟨Nat.le_of_ble_eq_true rfl, Nat.le_of_ble_eq_true rfl⟩) (fun r9 u9 H locs hw9 hP' hD' hS => ?_)
  clear hPc hDc hFc hD'
  have hP : va_P (dC, dI) vwCl (b_H cB cC cI cJ cZ cP oA rA σ_11 og om) H := er_I hP' hq9
  clear hP' hq9
  subst hw9
  obtain ⟨x_15, ex_15, hF_16⟩ := bnd_e hF_14
  clear hF_14
  refine m_top ex_15 ?_
  refine W.widen (k := 2) (n := 12) (Nat.le_of_ble_eq_true rfl) (Nat.le_of_ble_eq_true rfl) ?_
  have h9 := Option.some.inj hF_16
  subst h9
  refine W.widen (k := 2) (n := 12) (Nat.le_of_ble_eq_true rfl) (Nat.le_of_ble_eq_true rfl) ?_
  refine vx_ret ?_
  exact W.iret (v := x_15) hx hb hr (fun t ht hW => ⟨⟨x_15, (), rfl, ⟨rfl, rfl⟩, m_end ht hP, hDD _⟩, hS.F ht⟩) hS.2.2 dX11_holder_20

theorem dX11_first_0 : decode cX11_first 0 = .ok (.aload_n 0, 1) := by decide +kernel
theorem dX11_first_1 : decode cX11_first 1 = .ok (.iload_n 1, 1) := by decide +kernel
theorem dX11_first_2 : decode cX11_first 2 = .ok (.invokevirtual 237, 3) := by decide +kernel
theorem dX11_first_5 : decode cX11_first 5 = .ok (.aload_n 0, 1) := by decide +kernel
theorem dX11_first_6 : decode cX11_first 6 = .ok (.invokevirtual 184, 3) := by decide +kernel
theorem dX11_first_9 : decode cX11_first 9 = .ok (.iload_n 2, 1) := by decide +kernel
theorem dX11_first_10 : decode cX11_first 10 = .ok (.ifCond .eq 17, 3) := by decide +kernel
theorem dX11_first_13 : decode cX11_first 13 = .ok (.aload_n 0, 1) := by decide +kernel
theorem dX11_first_14 : decode cX11_first 14 = .ok (.getfield 60, 3) := by decide +kernel
theorem dX11_first_17 : decode cX11_first 17 = .ok (.getfield 247, 3) := by decide +kernel
theorem dX11_first_20 : decode cX11_first 20 = .ok (.iload_n 1, 1) := by decide +kernel
theorem dX11_first_21 : decode cX11_first 21 = .ok (.invokestatic 243, 3) := by decide +kernel
theorem dX11_first_24 : decode cX11_first 24 = .ok (.goto 14, 3) := by decide +kernel
theorem dX11_first_27 : decode cX11_first 27 = .ok (.aload_n 0, 1) := by decide +kernel
theorem dX11_first_28 : decode cX11_first 28 = .ok (.getfield 60, 3) := by decide +kernel
theorem dX11_first_31 : decode cX11_first 31 = .ok (.getfield 250, 3) := by decide +kernel
theorem dX11_first_34 : decode cX11_first 34 = .ok (.iload_n 1, 1) := by decide +kernel
theorem dX11_first_35 : decode cX11_first 35 = .ok (.invokestatic 243, 3) := by decide +kernel
theorem dX11_first_38 : decode cX11_first 38 = .ok (.ireturn, 1) := by decide +kernel
def F_X11_first (p0 : Int32) (p1 : Int32) (T : TS) : HA :=
  (F_X11_needObject p0 T).bind fun u_1 =>
  bnd (((mrg (fun j => j == 0 || j == 4) T.1 u_1.2.1, T.2) : TS)) fun σ_4 =>
  if ¬ u_1.1.1 = 0 then some ((u_1.1.1, 0), σ_4) else
  (F_X11_needPlay σ_4).bind fun u_8 =>
  bnd (((mrg (fun j => j == 0) σ_4.1 u_8.2.1, σ_4.2) : TS)) fun σ_11 =>
  if ¬ u_8.1.1 = 0 then some ((u_8.1.1, 0), σ_11) else
  if p1 = 0 then (
    bnd ((g_at 121 ((σ_11.1 9).2.1 1) p0)) fun (x_17 : Int32) =>
    some ((0, x_17), σ_11)
  ) else (
    bnd ((g_at 121 ((σ_11.1 9).2.1 2) p0)) fun (x_20 : Int32) =>
    some ((0, x_20), σ_11)
  )
set_option maxHeartbeats 8000000 in
set_option maxRecDepth 100000 in
theorem h_X11_first (l : Launch) (dC : Nat → ClassId) (dI : Nat → Nat → Nat) (cB cC cI cJ cZ cP : ClassId) (oA : Nat → Nat) (rA : Nat → Nat → Nat) (hfl : l.stackTraces = false) (og om : Option Nat) (sz : Nat) (p0 : Int32) (p1 : Int32) (T : TS) (res : (Int32 × Int32) × TS) (hF : F_X11_first p0 p1 T = some res) : vx_Met l yX11_first (g_ws yX11_first cX11_first 3 (some .int)) ({ frames := 7, cells := 2, slots := 12, locals := 111 }) (va_Pc [.ref (oA 0), .int p0, .int p1] (g_B (dC, dI) [(cB, .byte), (cC, .char), (cI, .int), (cJ, .long), (cZ, .boolean), (cP, .object "StoryHouse$Play")] sz (b_H cB cC cI cJ cZ cP oA rA T og om) g_0)) (va_Qi (fun r (_ : Unit) => res.1.1 = 0 ∧ r = res.1.2) (g_Bo (dC, dI) (va_A (b_H cB cC cI cJ cZ cP oA rA T og om) sz) (fun (_ : Unit) => (b_H cB cC cI cJ cZ cP oA rA res.2 og om))) (va_A (b_H cB cC cI cJ cZ cP oA rA T og om) sz)) (g_X (dC, dI) (va_A (b_H cB cC cI cJ cZ cP oA rA T og om) sz) (b_H cB cC cI cJ cZ cP oA rA res.2 og om) (fun E : String => XN res.1.1 E)) 2 12 (va_A (b_H cB cC cI cJ cZ cP oA rA T og om) sz) := by
  refine vx_ofW (cc := cX11_first) (maxL := 3) (ret := (some .int)) (by decide) rfl ?_
  intro p e s m args below meth c s₁ B hml htab hv
  obtain ⟨rfl, hsz, hP, hK, hD0, hE, hX⟩ := hv
  have hx := B.exec
  have hb := B.bytes
  have hr := B.returns
  have hts0 := atoms_spec (ws := g_ws yX11_first cX11_first 3 (some .int)) B.pre
  have hts : ∀ w ∈ lw_good, w.before ([.ref (oA 0), .int p0, .int p1] : List Value).toArray s = true := fun w z => hts0 w (List.mem_cons_of_mem _ z)
  have hown : s.vm.findClass RX11 = some m.cls := findClass_of_methodNamed B.named
  have hlocks := B.notSynchronized
  subst hsz
  have hD1 := hD0.self (sz := s.heap.size)
  generalize hAe : va_A (b_H cB cC cI cJ cZ cP oA rA T og om) s.heap.size = A at hD1 hE hX ⊢
  have hA : ∀ q : Nat, s.heap.size ≤ q → A q := fun q z => by rw [← hAe]; exact Or.inr z
  have hDD : ∀ T : TS, va_D A (b_H cB cC cI cJ cZ cP oA rA T og om) := fun T9 => va_D_fst bH_fst hD1
  have hN := hE.1
  have hS : va_S A s.heap s.heap [] := va_S.rf
  have hl := lv_entry ([.ref (oA 0), .int p0, .int p1]) (n := 3) (Nat.le_of_ble_eq_true rfl)
  rw [lg_entry_eq]
  generalize (lg_sl ([.ref (oA 0), .int p0, .int p1]) ++ List.replicate (3 - (lg_sl ([.ref (oA 0), .int p0, .int p1])).length) Slot.unset).toArray = ls at hl ⊢
  have hl : lv_has ls 3 [(0, .ref (oA 0)), (1, .int p0), (2, .int p1)] := hl
  unfold F_X11_first at hF
  refine lv_aload_n hx hb dX11_first_0 rfl (lv_at hl 0 rfl) ?_
  refine lv_iload_n hx hb dX11_first_1 rfl (lv_at hl 1 rfl) ?_
  obtain ⟨u_1, hu_1, hF_2⟩ := Option.bind_eq_some_iff.mp hF
  clear hF
  have hPc := bx_P (bs := (b_HL cB cC cI cJ cZ cP oA rA T og om)) (bs' := [b_h cB cC cI cJ cZ cP oA rA T.1, b_s cB cC cI cJ cZ oA rA T.1]) (ws' := (b_h cB cC cI cJ cZ cP oA rA T.1 ++ b_s cB cC cI cJ cZ oA rA T.1)) hP fl_H fl_2 [0, 5] rfl
  have hDc := bx_D (bs := (b_HL cB cC cI cJ cZ cP oA rA T og om)) (bs' := [b_h cB cC cI cJ cZ cP oA rA T.1, b_s cB cC cI cJ cZ oA rA T.1]) (ws' := (b_h cB cC cI cJ cZ cP oA rA T.1 ++ b_s cB cC cI cJ cZ oA rA T.1)) (hDD T) fl_H fl_2 [0, 5] (by decide +kernel) rfl
  have hFc := bx_F (bs := (b_HL cB cC cI cJ cZ cP oA rA T og om)) (bs' := [b_h cB cC cI cJ cZ cP oA rA T.1, b_s cB cC cI cJ cZ oA rA T.1]) (wc := (b_h cB cC cI cJ cZ cP oA rA T.1 ++ b_s cB cC cI cJ cZ oA rA T.1)) (hDD T) hS hA fl_H fl_2 [0, 5] rfl
  obtain ⟨σ_4, eσ_4, hF_5⟩ := bnd_e hF_2
  clear hF_2
  refine g_oxv (wc := (b_h cB cC cI cJ cZ cP oA rA T.1 ++ b_s cB cC cI cJ cZ oA rA T.1)) (wr := (b_b cB cC cI cJ cZ oA rA T.1 ++ b_ga cB cC cI cJ cZ oA rA T.1 og ++ b_ma cB cC cI cJ cZ oA rA T.1 om ++ b_w cB cC cI cJ cZ oA rA T.1 ++ b_c cB cC cI cJ cZ oA rA T.1 ++ b_t cB cC cI cJ cZ oA rA T.1 ++ b_d cB cC cI cJ cZ oA rA T.1 ++ b_o cB cC cI cJ cZ oA rA T.1 ++ b_p cB cC cI cJ cZ oA rA T.1 ++ b_k cB cC cI cJ cZ oA rA T.1 ++ b_e cB cC cI cJ cZ oA rA T.1 ++ b_s cB cC cI cJ cZ (fun r => oA (dN r)) (fun r => rA (dN r)) T.2.1 ++ b_c cB cC cI cJ cZ (fun r => oA (dN r)) (fun r => rA (dN r)) T.2.1 ++ b_t cB cC cI cJ cZ (fun r => oA (dN r)) (fun r => rA (dN r)) T.2.1 ++ b_d cB cC cI cJ cZ (fun r => oA (dN r)) (fun r => rA (dN r)) T.2.1 ++ b_p cB cC cI cJ cZ (fun r => oA (pN 18 r)) (fun r => rA (pN 18 r)) (fun _ => T.2.2.1 0) ++ b_p cB cC cI cJ cZ (fun r => oA (pN 19 r)) (fun r => rA (pN 19 r)) (fun _ => T.2.2.1 1) ++ b_p cB cC cI cJ cZ (fun r => oA (pN 20 r)) (fun r => rA (pN 20 r)) (fun _ => T.2.2.1 2) ++ b_p cB cC cI cJ cZ (fun r => oA (pN 21 r)) (fun r => rA (pN 21 r)) (fun _ => T.2.2.1 3) ++ b_p cB cC cI cJ cZ (fun r => oA (pN 22 r)) (fun r => rA (pN 22 r)) (fun _ => T.2.2.2 0) ++ b_p cB cC cI cJ cZ (fun r => oA (pN 23 r)) (fun r => rA (pN 23 r)) (fun _ => T.2.2.2 1) ++ b_p cB cC cI cJ cZ (fun r => oA (pN 24 r)) (fun r => rA (pN 24 r)) (fun _ => T.2.2.2 2) ++ b_p cB cC cI cJ cZ (fun r => oA (pN 25 r)) (fun r => rA (pN 25 r)) (fun _ => T.2.2.2 3) ++ b_p cB cC cI cJ cZ (fun r => oA (pN 26 r)) (fun r => rA (pN 26 r)) (fun _ => T.2.2.2 4) ++ b_p cB cC cI cJ cZ (fun r => oA (pN 27 r)) (fun r => rA (pN 27 r)) (fun _ => T.2.2.2 5))) hP (hDD T) hS hFc (bx_ix (b_HL cB cC cI cJ cZ cP oA rA T og om) [0, 5]) (bx_ix (b_HL cB cC cI cJ cZ cP oA rA T og om) [1, 2, 3, 4, 6, 7, 8, 9, 10, 11, 12, 13, 14, 15, 16, 17, 18, 19, 20, 21, 22, 23, 24, 25, 26]) (bx_C (bs := (b_HL cB cC cI cJ cZ cP oA rA T og om)) (bs' := [b_h cB cC cI cJ cZ cP oA rA T.1, b_s cB cC cI cJ cZ oA rA T.1]) (is := [0, 5]) fl_H fl_2 rfl) (bx_C (bs := (b_HL cB cC cI cJ cZ cP oA rA T og om)) (bs' := [b_b cB cC cI cJ cZ oA rA T.1, b_ga cB cC cI cJ cZ oA rA T.1 og, b_ma cB cC cI cJ cZ oA rA T.1 om, b_w cB cC cI cJ cZ oA rA T.1, b_c cB cC cI cJ cZ oA rA T.1, b_t cB cC cI cJ cZ oA rA T.1, b_d cB cC cI cJ cZ oA rA T.1, b_o cB cC cI cJ cZ oA rA T.1, b_p cB cC cI cJ cZ oA rA T.1, b_k cB cC cI cJ cZ oA rA T.1, b_e cB cC cI cJ cZ oA rA T.1, b_s cB cC cI cJ cZ (fun r => oA (dN r)) (fun r => rA (dN r)) T.2.1, b_c cB cC cI cJ cZ (fun r => oA (dN r)) (fun r => rA (dN r)) T.2.1, b_t cB cC cI cJ cZ (fun r => oA (dN r)) (fun r => rA (dN r)) T.2.1, b_d cB cC cI cJ cZ (fun r => oA (dN r)) (fun r => rA (dN r)) T.2.1, b_p cB cC cI cJ cZ (fun r => oA (pN 18 r)) (fun r => rA (pN 18 r)) (fun _ => T.2.2.1 0), b_p cB cC cI cJ cZ (fun r => oA (pN 19 r)) (fun r => rA (pN 19 r)) (fun _ => T.2.2.1 1), b_p cB cC cI cJ cZ (fun r => oA (pN 20 r)) (fun r => rA (pN 20 r)) (fun _ => T.2.2.1 2), b_p cB cC cI cJ cZ (fun r => oA (pN 21 r)) (fun r => rA (pN 21 r)) (fun _ => T.2.2.1 3), b_p cB cC cI cJ cZ (fun r => oA (pN 22 r)) (fun r => rA (pN 22 r)) (fun _ => T.2.2.2 0), b_p cB cC cI cJ cZ (fun r => oA (pN 23 r)) (fun r => rA (pN 23 r)) (fun _ => T.2.2.2 1), b_p cB cC cI cJ cZ (fun r => oA (pN 24 r)) (fun r => rA (pN 24 r)) (fun _ => T.2.2.2 2), b_p cB cC cI cJ cZ (fun r => oA (pN 25 r)) (fun r => rA (pN 25 r)) (fun _ => T.2.2.2 3), b_p cB cC cI cJ cZ (fun r => oA (pN 26 r)) (fun r => rA (pN 26 r)) (fun _ => T.2.2.2 4), b_p cB cC cI cJ cZ (fun r => oA (pN 27 r)) (fun r => rA (pN 27 r)) (fun _ => T.2.2.2 5)]) (is := [1, 2, 3, 4, 6, 7, 8, 9, 10, 11, 12, 13, 14, 15, 16, 17, 18, 19, 20, 21, 22, 23, 24, 25, 26]) fl_H fl_25 rfl) (bx_n (by decide +kernel)) (bx_d (by decide +kernel)) (vx_runV (As := [.int p0]) (rest := []) ⟨hx, hb, hml, hown, hts⟩ (h_X11_needObject l dC dI cB cC cI cJ cZ cP oA rA hfl s.heap.size p0 T _ hu_1) (cwV 1 hts (g_gV wq_1306 wq_1307 wq_2112 wq_1 wq_1308) rfl rfl rfl (by decide +kernel) ⟨Nat.le_of_ble_eq_true rfl, Nat.le_of_ble_eq_true rfl⟩) (g_preV g_bl0 hK hPc hDc hS hE hFc g_to0 (q0 := 0) (ci := 11) rfl rfl) rfl rfl hl.1 rfl (lv_room (Nat.le_of_ble_eq_true rfl)) dX11_first_2 ⟨Nat.le_of_ble_eq_true rfl, Nat.le_of_ble_eq_true rfl⟩) (fun E ce q9 H1 locs1 hXP hP1 hD1 hS1 hce hcv hcl => ?_) (fun u9 H locs hw9 hP' hD' hS => ?_)
  · have hF_6 := hif_n (XN_ne hXP) hF_5
    have h9 := Option.some.inj hF_6
    subst h9
    exact vx_out (fun x hx => (htab x hx).elim) hlocks hce hcv hcl (g_passed (ws := (b_H cB cC cI cJ cZ cP oA rA σ_4 og om)) (by rw [eσ_4]; exact bx_P (bs := [b_b cB cC cI cJ cZ oA rA T.1, b_ga cB cC cI cJ cZ oA rA T.1 og, b_ma cB cC cI cJ cZ oA rA T.1 om, b_w cB cC cI cJ cZ oA rA T.1, b_c cB cC cI cJ cZ oA rA T.1, b_t cB cC cI cJ cZ oA rA T.1, b_d cB cC cI cJ cZ oA rA T.1, b_o cB cC cI cJ cZ oA rA T.1, b_p cB cC cI cJ cZ oA rA T.1, b_k cB cC cI cJ cZ oA rA T.1, b_e cB cC cI cJ cZ oA rA T.1, b_s cB cC cI cJ cZ (fun r => oA (dN r)) (fun r => rA (dN r)) T.2.1, b_c cB cC cI cJ cZ (fun r => oA (dN r)) (fun r => rA (dN r)) T.2.1, b_t cB cC cI cJ cZ (fun r => oA (dN r)) (fun r => rA (dN r)) T.2.1, b_d cB cC cI cJ cZ (fun r => oA (dN r)) (fun r => rA (dN r)) T.2.1, b_p cB cC cI cJ cZ (fun r => oA (pN 18 r)) (fun r => rA (pN 18 r)) (fun _ => T.2.2.1 0), b_p cB cC cI cJ cZ (fun r => oA (pN 19 r)) (fun r => rA (pN 19 r)) (fun _ => T.2.2.1 1), b_p cB cC cI cJ cZ (fun r => oA (pN 20 r)) (fun r => rA (pN 20 r)) (fun _ => T.2.2.1 2), b_p cB cC cI cJ cZ (fun r => oA (pN 21 r)) (fun r => rA (pN 21 r)) (fun _ => T.2.2.1 3), b_p cB cC cI cJ cZ (fun r => oA (pN 22 r)) (fun r => rA (pN 22 r)) (fun _ => T.2.2.2 0), b_p cB cC cI cJ cZ (fun r => oA (pN 23 r)) (fun r => rA (pN 23 r)) (fun _ => T.2.2.2 1), b_p cB cC cI cJ cZ (fun r => oA (pN 24 r)) (fun r => rA (pN 24 r)) (fun _ => T.2.2.2 2), b_p cB cC cI cJ cZ (fun r => oA (pN 25 r)) (fun r => rA (pN 25 r)) (fun _ => T.2.2.2 3), b_p cB cC cI cJ cZ (fun r => oA (pN 26 r)) (fun r => rA (pN 26 r)) (fun _ => T.2.2.2 4), b_p cB cC cI cJ cZ (fun r => oA (pN 27 r)) (fun r => rA (pN 27 r)) (fun _ => T.2.2.2 5)] ++ [b_h cB cC cI cJ cZ cP oA rA u_1.2.1, b_s cB cC cI cJ cZ oA rA u_1.2.1]) (bs' := (b_HL cB cC cI cJ cZ cP oA rA ((mrg (fun j => j == 0 || j == 4) T.1 u_1.2.1, T.2) : TS) og om)) hP1 (fl_a fl_25 fl_2) fl_H [25, 0, 1, 2, 3, 26, 4, 5, 6, 7, 8, 9, 10, 11, 12, 13, 14, 15, 16, 17, 18, 19, 20, 21, 22, 23, 24] rfl) (hDD _) hS1 hXP) hS1.2.2 (Nat.le_of_ble_eq_true rfl) (Nat.le_of_ble_eq_true rfl)
  have hF_7 := hif_p hw9 hF_5
  clear hF_5
  have hP : va_P (dC, dI) vwCl (b_H cB cC cI cJ cZ cP oA rA σ_4 og om) H := by rw [eσ_4]; exact bx_P (bs := [b_b cB cC cI cJ cZ oA rA T.1, b_ga cB cC cI cJ cZ oA rA T.1 og, b_ma cB cC cI cJ cZ oA rA T.1 om, b_w cB cC cI cJ cZ oA rA T.1, b_c cB cC cI cJ cZ oA rA T.1, b_t cB cC cI cJ cZ oA rA T.1, b_d cB cC cI cJ cZ oA rA T.1, b_o cB cC cI cJ cZ oA rA T.1, b_p cB cC cI cJ cZ oA rA T.1, b_k cB cC cI cJ cZ oA rA T.1, b_e cB cC cI cJ cZ oA rA T.1, b_s cB cC cI cJ cZ (fun r => oA (dN r)) (fun r => rA (dN r)) T.2.1, b_c cB cC cI cJ cZ (fun r => oA (dN r)) (fun r => rA (dN r)) T.2.1, b_t cB cC cI cJ cZ (fun r => oA (dN r)) (fun r => rA (dN r)) T.2.1, b_d cB cC cI cJ cZ (fun r => oA (dN r)) (fun r => rA (dN r)) T.2.1, b_p cB cC cI cJ cZ (fun r => oA (pN 18 r)) (fun r => rA (pN 18 r)) (fun _ => T.2.2.1 0), b_p cB cC cI cJ cZ (fun r => oA (pN 19 r)) (fun r => rA (pN 19 r)) (fun _ => T.2.2.1 1), b_p cB cC cI cJ cZ (fun r => oA (pN 20 r)) (fun r => rA (pN 20 r)) (fun _ => T.2.2.1 2), b_p cB cC cI cJ cZ (fun r => oA (pN 21 r)) (fun r => rA (pN 21 r)) (fun _ => T.2.2.1 3), b_p cB cC cI cJ cZ (fun r => oA (pN 22 r)) (fun r => rA (pN 22 r)) (fun _ => T.2.2.2 0), b_p cB cC cI cJ cZ (fun r => oA (pN 23 r)) (fun r => rA (pN 23 r)) (fun _ => T.2.2.2 1), b_p cB cC cI cJ cZ (fun r => oA (pN 24 r)) (fun r => rA (pN 24 r)) (fun _ => T.2.2.2 2), b_p cB cC cI cJ cZ (fun r => oA (pN 25 r)) (fun r => rA (pN 25 r)) (fun _ => T.2.2.2 3), b_p cB cC cI cJ cZ (fun r => oA (pN 26 r)) (fun r => rA (pN 26 r)) (fun _ => T.2.2.2 4), b_p cB cC cI cJ cZ (fun r => oA (pN 27 r)) (fun r => rA (pN 27 r)) (fun _ => T.2.2.2 5)] ++ [b_h cB cC cI cJ cZ cP oA rA u_1.2.1, b_s cB cC cI cJ cZ oA rA u_1.2.1]) (bs' := (b_HL cB cC cI cJ cZ cP oA rA ((mrg (fun j => j == 0 || j == 4) T.1 u_1.2.1, T.2) : TS) og om)) hP' (fl_a fl_25 fl_2) fl_H [25, 0, 1, 2, 3, 26, 4, 5, 6, 7, 8, 9, 10, 11, 12, 13, 14, 15, 16, 17, 18, 19, 20, 21, 22, 23, 24] rfl
  clear hP' hD' hPc hDc hFc
  refine W.widen (k := 1) (n := 6) (Nat.le_of_ble_eq_true rfl) (Nat.le_of_ble_eq_true rfl) ?_
  refine lv_aload_n hx hb dX11_first_5 rfl (lv_at hl 0 rfl) ?_
  obtain ⟨u_8, hu_8, hF_9⟩ := Option.bind_eq_some_iff.mp hF_7
  clear hF_7
  have hPc := bx_P (bs := (b_HL cB cC cI cJ cZ cP oA rA σ_4 og om)) (bs' := [b_h cB cC cI cJ cZ cP oA rA σ_4.1]) (ws' := (b_h cB cC cI cJ cZ cP oA rA σ_4.1)) hP fl_H fl_1 [0] rfl
  have hDc := bx_D (bs := (b_HL cB cC cI cJ cZ cP oA rA σ_4 og om)) (bs' := [b_h cB cC cI cJ cZ cP oA rA σ_4.1]) (ws' := (b_h cB cC cI cJ cZ cP oA rA σ_4.1)) (hDD σ_4) fl_H fl_1 [0] (by decide +kernel) rfl
  have hFc := bx_F (bs := (b_HL cB cC cI cJ cZ cP oA rA σ_4 og om)) (bs' := [b_h cB cC cI cJ cZ cP oA rA σ_4.1]) (wc := (b_h cB cC cI cJ cZ cP oA rA σ_4.1)) (hDD σ_4) hS hA fl_H fl_1 [0] rfl
  obtain ⟨σ_11, eσ_11, hF_12⟩ := bnd_e hF_9
  clear hF_9
  refine g_oxv (wc := (b_h cB cC cI cJ cZ cP oA rA σ_4.1)) (wr := (b_b cB cC cI cJ cZ oA rA σ_4.1 ++ b_ga cB cC cI cJ cZ oA rA σ_4.1 og ++ b_ma cB cC cI cJ cZ oA rA σ_4.1 om ++ b_w cB cC cI cJ cZ oA rA σ_4.1 ++ b_s cB cC cI cJ cZ oA rA σ_4.1 ++ b_c cB cC cI cJ cZ oA rA σ_4.1 ++ b_t cB cC cI cJ cZ oA rA σ_4.1 ++ b_d cB cC cI cJ cZ oA rA σ_4.1 ++ b_o cB cC cI cJ cZ oA rA σ_4.1 ++ b_p cB cC cI cJ cZ oA rA σ_4.1 ++ b_k cB cC cI cJ cZ oA rA σ_4.1 ++ b_e cB cC cI cJ cZ oA rA σ_4.1 ++ b_s cB cC cI cJ cZ (fun r => oA (dN r)) (fun r => rA (dN r)) σ_4.2.1 ++ b_c cB cC cI cJ cZ (fun r => oA (dN r)) (fun r => rA (dN r)) σ_4.2.1 ++ b_t cB cC cI cJ cZ (fun r => oA (dN r)) (fun r => rA (dN r)) σ_4.2.1 ++ b_d cB cC cI cJ cZ (fun r => oA (dN r)) (fun r => rA (dN r)) σ_4.2.1 ++ b_p cB cC cI cJ cZ (fun r => oA (pN 18 r)) (fun r => rA (pN 18 r)) (fun _ => σ_4.2.2.1 0) ++ b_p cB cC cI cJ cZ (fun r => oA (pN 19 r)) (fun r => rA (pN 19 r)) (fun _ => σ_4.2.2.1 1) ++ b_p cB cC cI cJ cZ (fun r => oA (pN 20 r)) (fun r => rA (pN 20 r)) (fun _ => σ_4.2.2.1 2) ++ b_p cB cC cI cJ cZ (fun r => oA (pN 21 r)) (fun r => rA (pN 21 r)) (fun _ => σ_4.2.2.1 3) ++ b_p cB cC cI cJ cZ (fun r => oA (pN 22 r)) (fun r => rA (pN 22 r)) (fun _ => σ_4.2.2.2 0) ++ b_p cB cC cI cJ cZ (fun r => oA (pN 23 r)) (fun r => rA (pN 23 r)) (fun _ => σ_4.2.2.2 1) ++ b_p cB cC cI cJ cZ (fun r => oA (pN 24 r)) (fun r => rA (pN 24 r)) (fun _ => σ_4.2.2.2 2) ++ b_p cB cC cI cJ cZ (fun r => oA (pN 25 r)) (fun r => rA (pN 25 r)) (fun _ => σ_4.2.2.2 3) ++ b_p cB cC cI cJ cZ (fun r => oA (pN 26 r)) (fun r => rA (pN 26 r)) (fun _ => σ_4.2.2.2 4) ++ b_p cB cC cI cJ cZ (fun r => oA (pN 27 r)) (fun r => rA (pN 27 r)) (fun _ => σ_4.2.2.2 5))) hP (hDD σ_4) hS hFc (bx_ix (b_HL cB cC cI cJ cZ cP oA rA σ_4 og om) [0]) (bx_ix (b_HL cB cC cI cJ cZ cP oA rA σ_4 og om) [1, 2, 3, 4, 5, 6, 7, 8, 9, 10, 11, 12, 13, 14, 15, 16, 17, 18, 19, 20, 21, 22, 23, 24, 25, 26]) (bx_C (bs := (b_HL cB cC cI cJ cZ cP oA rA σ_4 og om)) (bs' := [b_h cB cC cI cJ cZ cP oA rA σ_4.1]) (is := [0]) fl_H fl_1 rfl) (bx_C (bs := (b_HL cB cC cI cJ cZ cP oA rA σ_4 og om)) (bs' := [b_b cB cC cI cJ cZ oA rA σ_4.1, b_ga cB cC cI cJ cZ oA rA σ_4.1 og, b_ma cB cC cI cJ cZ oA rA σ_4.1 om, b_w cB cC cI cJ cZ oA rA σ_4.1, b_s cB cC cI cJ cZ oA rA σ_4.1, b_c cB cC cI cJ cZ oA rA σ_4.1, b_t cB cC cI cJ cZ oA rA σ_4.1, b_d cB cC cI cJ cZ oA rA σ_4.1, b_o cB cC cI cJ cZ oA rA σ_4.1, b_p cB cC cI cJ cZ oA rA σ_4.1, b_k cB cC cI cJ cZ oA rA σ_4.1, b_e cB cC cI cJ cZ oA rA σ_4.1, b_s cB cC cI cJ cZ (fun r => oA (dN r)) (fun r => rA (dN r)) σ_4.2.1, b_c cB cC cI cJ cZ (fun r => oA (dN r)) (fun r => rA (dN r)) σ_4.2.1, b_t cB cC cI cJ cZ (fun r => oA (dN r)) (fun r => rA (dN r)) σ_4.2.1, b_d cB cC cI cJ cZ (fun r => oA (dN r)) (fun r => rA (dN r)) σ_4.2.1, b_p cB cC cI cJ cZ (fun r => oA (pN 18 r)) (fun r => rA (pN 18 r)) (fun _ => σ_4.2.2.1 0), b_p cB cC cI cJ cZ (fun r => oA (pN 19 r)) (fun r => rA (pN 19 r)) (fun _ => σ_4.2.2.1 1), b_p cB cC cI cJ cZ (fun r => oA (pN 20 r)) (fun r => rA (pN 20 r)) (fun _ => σ_4.2.2.1 2), b_p cB cC cI cJ cZ (fun r => oA (pN 21 r)) (fun r => rA (pN 21 r)) (fun _ => σ_4.2.2.1 3), b_p cB cC cI cJ cZ (fun r => oA (pN 22 r)) (fun r => rA (pN 22 r)) (fun _ => σ_4.2.2.2 0), b_p cB cC cI cJ cZ (fun r => oA (pN 23 r)) (fun r => rA (pN 23 r)) (fun _ => σ_4.2.2.2 1), b_p cB cC cI cJ cZ (fun r => oA (pN 24 r)) (fun r => rA (pN 24 r)) (fun _ => σ_4.2.2.2 2), b_p cB cC cI cJ cZ (fun r => oA (pN 25 r)) (fun r => rA (pN 25 r)) (fun _ => σ_4.2.2.2 3), b_p cB cC cI cJ cZ (fun r => oA (pN 26 r)) (fun r => rA (pN 26 r)) (fun _ => σ_4.2.2.2 4), b_p cB cC cI cJ cZ (fun r => oA (pN 27 r)) (fun r => rA (pN 27 r)) (fun _ => σ_4.2.2.2 5)]) (is := [1, 2, 3, 4, 5, 6, 7, 8, 9, 10, 11, 12, 13, 14, 15, 16, 17, 18, 19, 20, 21, 22, 23, 24, 25, 26]) fl_H fl_26 rfl) (bx_n (by decide +kernel)) (bx_d (by decide +kernel)) (vx_runV (As := []) (rest := []) ⟨hx, hb, hml, hown, hts⟩ (h_X11_needPlay l dC dI cB cC cI cJ cZ cP oA rA hfl H.size σ_4 _ hu_8) (cwV 0 hts (g_gV wq_1043 wq_1044 wq_2070 wq_1 wq_1045) rfl rfl rfl (by decide +kernel) ⟨Nat.le_of_ble_eq_true rfl, Nat.le_of_ble_eq_true rfl⟩) (g_preV g_bl0 hK hPc hDc hS hE hFc g_to0 (q0 := 0) (ci := 11) rfl rfl) rfl rfl hl.1 rfl (lv_room (Nat.le_of_ble_eq_true rfl)) dX11_first_6 ⟨Nat.le_of_ble_eq_true rfl, Nat.le_of_ble_eq_true rfl⟩) (fun E ce q9 H1 locs1 hXP hP1 hD1 hS1 hce hcv hcl => ?_) (fun u9 H locs hw9 hP' hD' hS => ?_)
  · have hF_13 := hif_n (XN_ne hXP) hF_12
    have h9 := Option.some.inj hF_13
    subst h9
    exact vx_out (fun x hx => (htab x hx).elim) hlocks hce hcv hcl (g_passed (ws := (b_H cB cC cI cJ cZ cP oA rA σ_11 og om)) (by rw [eσ_11]; exact bx_P (bs := [b_b cB cC cI cJ cZ oA rA σ_4.1, b_ga cB cC cI cJ cZ oA rA σ_4.1 og, b_ma cB cC cI cJ cZ oA rA σ_4.1 om, b_w cB cC cI cJ cZ oA rA σ_4.1, b_s cB cC cI cJ cZ oA rA σ_4.1, b_c cB cC cI cJ cZ oA rA σ_4.1, b_t cB cC cI cJ cZ oA rA σ_4.1, b_d cB cC cI cJ cZ oA rA σ_4.1, b_o cB cC cI cJ cZ oA rA σ_4.1, b_p cB cC cI cJ cZ oA rA σ_4.1, b_k cB cC cI cJ cZ oA rA σ_4.1, b_e cB cC cI cJ cZ oA rA σ_4.1, b_s cB cC cI cJ cZ (fun r => oA (dN r)) (fun r => rA (dN r)) σ_4.2.1, b_c cB cC cI cJ cZ (fun r => oA (dN r)) (fun r => rA (dN r)) σ_4.2.1, b_t cB cC cI cJ cZ (fun r => oA (dN r)) (fun r => rA (dN r)) σ_4.2.1, b_d cB cC cI cJ cZ (fun r => oA (dN r)) (fun r => rA (dN r)) σ_4.2.1, b_p cB cC cI cJ cZ (fun r => oA (pN 18 r)) (fun r => rA (pN 18 r)) (fun _ => σ_4.2.2.1 0), b_p cB cC cI cJ cZ (fun r => oA (pN 19 r)) (fun r => rA (pN 19 r)) (fun _ => σ_4.2.2.1 1), b_p cB cC cI cJ cZ (fun r => oA (pN 20 r)) (fun r => rA (pN 20 r)) (fun _ => σ_4.2.2.1 2), b_p cB cC cI cJ cZ (fun r => oA (pN 21 r)) (fun r => rA (pN 21 r)) (fun _ => σ_4.2.2.1 3), b_p cB cC cI cJ cZ (fun r => oA (pN 22 r)) (fun r => rA (pN 22 r)) (fun _ => σ_4.2.2.2 0), b_p cB cC cI cJ cZ (fun r => oA (pN 23 r)) (fun r => rA (pN 23 r)) (fun _ => σ_4.2.2.2 1), b_p cB cC cI cJ cZ (fun r => oA (pN 24 r)) (fun r => rA (pN 24 r)) (fun _ => σ_4.2.2.2 2), b_p cB cC cI cJ cZ (fun r => oA (pN 25 r)) (fun r => rA (pN 25 r)) (fun _ => σ_4.2.2.2 3), b_p cB cC cI cJ cZ (fun r => oA (pN 26 r)) (fun r => rA (pN 26 r)) (fun _ => σ_4.2.2.2 4), b_p cB cC cI cJ cZ (fun r => oA (pN 27 r)) (fun r => rA (pN 27 r)) (fun _ => σ_4.2.2.2 5)] ++ [b_h cB cC cI cJ cZ cP oA rA u_8.2.1]) (bs' := (b_HL cB cC cI cJ cZ cP oA rA ((mrg (fun j => j == 0) σ_4.1 u_8.2.1, σ_4.2) : TS) og om)) hP1 (fl_a fl_26 fl_1) fl_H [26, 0, 1, 2, 3, 4, 5, 6, 7, 8, 9, 10, 11, 12, 13, 14, 15, 16, 17, 18, 19, 20, 21, 22, 23, 24, 25] rfl) (hDD _) hS1 hXP) hS1.2.2 (Nat.le_of_ble_eq_true rfl) (Nat.le_of_ble_eq_true rfl)
  have hF_14 := hif_p hw9 hF_12
  clear hF_12
  have hP : va_P (dC, dI) vwCl (b_H cB cC cI cJ cZ cP oA rA σ_11 og om) H := by rw [eσ_11]; exact bx_P (bs := [b_b cB cC cI cJ cZ oA rA σ_4.1, b_ga cB cC cI cJ cZ oA rA σ_4.1 og, b_ma cB cC cI cJ cZ oA rA σ_4.1 om, b_w cB cC cI cJ cZ oA rA σ_4.1, b_s cB cC cI cJ cZ oA rA σ_4.1, b_c cB cC cI cJ cZ oA rA σ_4.1, b_t cB cC cI cJ cZ oA rA σ_4.1, b_d cB cC cI cJ cZ oA rA σ_4.1, b_o cB cC cI cJ cZ oA rA σ_4.1, b_p cB cC cI cJ cZ oA rA σ_4.1, b_k cB cC cI cJ cZ oA rA σ_4.1, b_e cB cC cI cJ cZ oA rA σ_4.1, b_s cB cC cI cJ cZ (fun r => oA (dN r)) (fun r => rA (dN r)) σ_4.2.1, b_c cB cC cI cJ cZ (fun r => oA (dN r)) (fun r => rA (dN r)) σ_4.2.1, b_t cB cC cI cJ cZ (fun r => oA (dN r)) (fun r => rA (dN r)) σ_4.2.1, b_d cB cC cI cJ cZ (fun r => oA (dN r)) (fun r => rA (dN r)) σ_4.2.1, b_p cB cC cI cJ cZ (fun r => oA (pN 18 r)) (fun r => rA (pN 18 r)) (fun _ => σ_4.2.2.1 0), b_p cB cC cI cJ cZ (fun r => oA (pN 19 r)) (fun r => rA (pN 19 r)) (fun _ => σ_4.2.2.1 1), b_p cB cC cI cJ cZ (fun r => oA (pN 20 r)) (fun r => rA (pN 20 r)) (fun _ => σ_4.2.2.1 2), b_p cB cC cI cJ cZ (fun r => oA (pN 21 r)) (fun r => rA (pN 21 r)) (fun _ => σ_4.2.2.1 3), b_p cB cC cI cJ cZ (fun r => oA (pN 22 r)) (fun r => rA (pN 22 r)) (fun _ => σ_4.2.2.2 0), b_p cB cC cI cJ cZ (fun r => oA (pN 23 r)) (fun r => rA (pN 23 r)) (fun _ => σ_4.2.2.2 1), b_p cB cC cI cJ cZ (fun r => oA (pN 24 r)) (fun r => rA (pN 24 r)) (fun _ => σ_4.2.2.2 2), b_p cB cC cI cJ cZ (fun r => oA (pN 25 r)) (fun r => rA (pN 25 r)) (fun _ => σ_4.2.2.2 3), b_p cB cC cI cJ cZ (fun r => oA (pN 26 r)) (fun r => rA (pN 26 r)) (fun _ => σ_4.2.2.2 4), b_p cB cC cI cJ cZ (fun r => oA (pN 27 r)) (fun r => rA (pN 27 r)) (fun _ => σ_4.2.2.2 5)] ++ [b_h cB cC cI cJ cZ cP oA rA u_8.2.1]) (bs' := (b_HL cB cC cI cJ cZ cP oA rA ((mrg (fun j => j == 0) σ_4.1 u_8.2.1, σ_4.2) : TS) og om)) hP' (fl_a fl_26 fl_1) fl_H [26, 0, 1, 2, 3, 4, 5, 6, 7, 8, 9, 10, 11, 12, 13, 14, 15, 16, 17, 18, 19, 20, 21, 22, 23, 24, 25] rfl
  clear hP' hD' hPc hDc hFc
  refine W.widen (k := 2) (n := 12) (Nat.le_of_ble_eq_true rfl) (Nat.le_of_ble_eq_true rfl) ?_
  refine lv_iload_n hx hb dX11_first_9 rfl (lv_at hl 2 rfl) ?_
  refine lv_if_eq (tgt := 27) hx hb dX11_first_10 (by decide) (fun c_15 => ?_) (fun c_15 => ?_)
  · have hF_16 := ipos c_15 hF_14
    clear hF_14
    refine lv_aload_n hx hb dX11_first_27 rfl (lv_at hl 0 rfl) ?_
    refine va_get (D := (dC, dI)) (ci := 11) (v := .ref (oA 9)) (C := RX11) (T := TX11) (N := 19) hx hb hts ii_X11 hown hK hP 0 rfl rfl 11 (by decide) (hts (.fieldLink RX11 60 "StoryHouse" "play" "LStoryHouse$Play;") wq_314) (fun _ h9 => h9) rfl dX11_first_28 ?_
    refine va_get (D := (dC, dI)) (ci := 6) (v := .ref (rA 9 1)) (C := RX6) (T := TX6) (N := 12) hx hb hts ii_X6 hown hK hP 55 rfl rfl 1 (by decide) (hts (.fieldLink RX11 250 "StoryHouse$Play" "firsts" "[I") wq_222) (fun _ h9 => h9) rfl dX11_first_31 ?_
    refine lv_iload_n hx hb dX11_first_34 rfl (lv_at hl 1 rfl) ?_
    have hq9 : ((b_H cB cC cI cJ cZ cP oA rA σ_11 og om))[57]? = some (rA 9 1, .inl (cI, 121, .inl ((σ_11.1 9).2.1 1))) := rfl
    have hPc := hP.sub (ws' := [(rA 9 1, .inl (cI, 121, .inl ((σ_11.1 9).2.1 1)))]) [57] (pk_fm (er_C hq9))
    have hDc := (hDD σ_11).sub (ws' := [(rA 9 1, .inl (cI, 121, .inl ((σ_11.1 9).2.1 1)))]) [57] (by decide +kernel) (er_C hq9)
    have hFc := va_free (wc := [(rA 9 1, .inl (cI, 121, .inl ((σ_11.1 9).2.1 1)))]) (hDD σ_11) hS hA [57] (er_C hq9)
    refine g_ofi (wc := [(rA 9 1, .inl (cI, 121, .inl ((σ_11.1 9).2.1 1)))]) (wr := (((b_H cB cC cI cJ cZ cP oA rA σ_11 og om)).eraseIdx 57)) hP (hDD σ_11) hS hFc [57] ((List.range ((b_H cB cC cI cJ cZ cP oA rA σ_11 og om)).length).eraseIdx 57) (er_C hq9) er_R er_n er_d (va_runS (As := [.ref (rA 9 1), .int p0]) (rest := []) ⟨hx, hb, hml, hown, hts⟩ (c_X11_at l dC dI cB cC cI cJ cZ cP H.size (rA 9 1) p0 121 ((σ_11.1 9).2.1 1) (by decide)) (va_cwS 2 hts (g_gS wq_1309 wq_406 wq_1 wq_407) rfl rfl rfl (by decide +kernel) ⟨Nat.le_of_ble_eq_true rfl, Nat.le_of_ble_eq_true rfl⟩) (g_preS g_bl0 hK hPc hDc hS hE hFc g_to0) rfl rfl hl.1 rfl (lv_room (Nat.le_of_ble_eq_true rfl)) dX11_first_35 ⟨Nat.le_of_ble_eq_true rfl, Nat.le_of_ble_eq_true rfl⟩) (fun r9 u9 H locs hw9 hP' hD' hS => ?_)
    clear hPc hDc hFc hD'
    have hP : va_P (dC, dI) vwCl (b_H cB cC cI cJ cZ cP oA rA σ_11 og om) H := er_I hP' hq9
    clear hP' hq9
    subst hw9
    obtain ⟨x_17, ex_17, hF_18⟩ := bnd_e hF_16
    clear hF_16
    refine m_top ex_17 ?_
    refine W.widen (k := 2) (n := 12) (Nat.le_of_ble_eq_true rfl) (Nat.le_of_ble_eq_true rfl) ?_
    have h9 := Option.some.inj hF_18
    subst h9
    refine W.widen (k := 2) (n := 12) (Nat.le_of_ble_eq_true rfl) (Nat.le_of_ble_eq_true rfl) ?_
    refine vx_ret ?_
    exact W.iret (v := x_17) hx hb hr (fun t ht hW => ⟨⟨x_17, (), rfl, ⟨rfl, rfl⟩, m_end ht hP, hDD _⟩, hS.F ht⟩) hS.2.2 dX11_first_38
  · have hF_19 := ineg c_15 hF_14
    clear hF_14
    refine lv_aload_n hx hb dX11_first_13 rfl (lv_at hl 0 rfl) ?_
    refine va_get (D := (dC, dI)) (ci := 11) (v := .ref (oA 9)) (C := RX11) (T := TX11) (N := 19) hx hb hts ii_X11 hown hK hP 0 rfl rfl 11 (by decide) (hts (.fieldLink RX11 60 "StoryHouse" "play" "LStoryHouse$Play;") wq_314) (fun _ h9 => h9) rfl dX11_first_14 ?_
    refine va_get (D := (dC, dI)) (ci := 6) (v := .ref (rA 9 2)) (C := RX6) (T := TX6) (N := 12) hx hb hts ii_X6 hown hK hP 55 rfl rfl 2 (by decide) (hts (.fieldLink RX11 247 "StoryHouse$Play" "nexts" "[I") wq_226) (fun _ h9 => h9) rfl dX11_first_17 ?_
    refine lv_iload_n hx hb dX11_first_20 rfl (lv_at hl 1 rfl) ?_
    have hq9 : ((b_H cB cC cI cJ cZ cP oA rA σ_11 og om))[58]? = some (rA 9 2, .inl (cI, 121, .inl ((σ_11.1 9).2.1 2))) := rfl
    have hPc := hP.sub (ws' := [(rA 9 2, .inl (cI, 121, .inl ((σ_11.1 9).2.1 2)))]) [58] (pk_fm (er_C hq9))
    have hDc := (hDD σ_11).sub (ws' := [(rA 9 2, .inl (cI, 121, .inl ((σ_11.1 9).2.1 2)))]) [58] (by decide +kernel) (er_C hq9)
    have hFc := va_free (wc := [(rA 9 2, .inl (cI, 121, .inl ((σ_11.1 9).2.1 2)))]) (hDD σ_11) hS hA [58] (er_C hq9)
    refine g_ofi (wc := [(rA 9 2, .inl (cI, 121, .inl ((σ_11.1 9).2.1 2)))]) (wr := (((b_H cB cC cI cJ cZ cP oA rA σ_11 og om)).eraseIdx 58)) hP (hDD σ_11) hS hFc [58] ((List.range ((b_H cB cC cI cJ cZ cP oA rA σ_11 og om)).length).eraseIdx 58) (er_C hq9) er_R er_n er_d (va_runS (As := [.ref (rA 9 2), .int p0]) (rest := []) ⟨hx, hb, hml, hown, hts⟩ (c_X11_at l dC dI cB cC cI cJ cZ cP H.size (rA 9 2) p0 121 ((σ_11.1 9).2.1 2) (by decide)) (va_cwS 2 hts (g_gS wq_1309 wq_406 wq_1 wq_407) rfl rfl rfl (by decide +kernel) ⟨Nat.le_of_ble_eq_true rfl, Nat.le_of_ble_eq_true rfl⟩) (g_preS g_bl0 hK hPc hDc hS hE hFc g_to0) rfl rfl hl.1 rfl (lv_room (Nat.le_of_ble_eq_true rfl)) dX11_first_21 ⟨Nat.le_of_ble_eq_true rfl, Nat.le_of_ble_eq_true rfl⟩) (fun r9 u9 H locs hw9 hP' hD' hS => ?_)
    clear hPc hDc hFc hD'
    have hP : va_P (dC, dI) vwCl (b_H cB cC cI cJ cZ cP oA rA σ_11 og om) H := er_I hP' hq9
    clear hP' hq9
    subst hw9
    obtain ⟨x_20, ex_20, hF_21⟩ := bnd_e hF_19
    clear hF_19
    refine m_top ex_20 ?_
    refine W.widen (k := 2) (n := 12) (Nat.le_of_ble_eq_true rfl) (Nat.le_of_ble_eq_true rfl) ?_
    refine lv_goto (tgt := 38) hx hb dX11_first_24 (by decide) ?_
    have h9 := Option.some.inj hF_21
    subst h9
    refine W.widen (k := 2) (n := 12) (Nat.le_of_ble_eq_true rfl) (Nat.le_of_ble_eq_true rfl) ?_
    refine vx_ret ?_
    exact W.iret (v := x_20) hx hb hr (fun t ht hW => ⟨⟨x_20, (), rfl, ⟨rfl, rfl⟩, m_end ht hP, hDD _⟩, hS.F ht⟩) hS.2.2 dX11_first_38
