/-! methods of the class: what each does is its function -/
theorem dX0_setPair_0 : decode cX0_setPair 0 = .ok (.iload_n 1, 1) := by decide +kernel
theorem dX0_setPair_1 : decode cX0_setPair 1 = .ok (.ifCond .lt 35, 3) := by decide +kernel
theorem dX0_setPair_4 : decode cX0_setPair 4 = .ok (.iload_n 1, 1) := by decide +kernel
theorem dX0_setPair_5 : decode cX0_setPair 5 = .ok (.iconst 1, 1) := by decide +kernel
theorem dX0_setPair_6 : decode cX0_setPair 6 = .ok (.iadd, 1) := by decide +kernel
theorem dX0_setPair_7 : decode cX0_setPair 7 = .ok (.aload_n 0, 1) := by decide +kernel
theorem dX0_setPair_8 : decode cX0_setPair 8 = .ok (.getfield 12, 3) := by decide +kernel
theorem dX0_setPair_11 : decode cX0_setPair 11 = .ok (.arraylength, 1) := by decide +kernel
theorem dX0_setPair_12 : decode cX0_setPair 12 = .ok (.if_icmp .ge 24, 3) := by decide +kernel
theorem dX0_setPair_15 : decode cX0_setPair 15 = .ok (.aload_n 0, 1) := by decide +kernel
theorem dX0_setPair_16 : decode cX0_setPair 16 = .ok (.getfield 12, 3) := by decide +kernel
theorem dX0_setPair_19 : decode cX0_setPair 19 = .ok (.iload_n 1, 1) := by decide +kernel
theorem dX0_setPair_20 : decode cX0_setPair 20 = .ok (.iload_n 2, 1) := by decide +kernel
theorem dX0_setPair_21 : decode cX0_setPair 21 = .ok (.bipush 8, 2) := by decide +kernel
theorem dX0_setPair_23 : decode cX0_setPair 23 = .ok (.ishr, 1) := by decide +kernel
theorem dX0_setPair_24 : decode cX0_setPair 24 = .ok (.i2b, 1) := by decide +kernel
theorem dX0_setPair_25 : decode cX0_setPair 25 = .ok (.bastore, 1) := by decide +kernel
theorem dX0_setPair_26 : decode cX0_setPair 26 = .ok (.aload_n 0, 1) := by decide +kernel
theorem dX0_setPair_27 : decode cX0_setPair 27 = .ok (.getfield 12, 3) := by decide +kernel
theorem dX0_setPair_30 : decode cX0_setPair 30 = .ok (.iload_n 1, 1) := by decide +kernel
theorem dX0_setPair_31 : decode cX0_setPair 31 = .ok (.iconst 1, 1) := by decide +kernel
theorem dX0_setPair_32 : decode cX0_setPair 32 = .ok (.iadd, 1) := by decide +kernel
theorem dX0_setPair_33 : decode cX0_setPair 33 = .ok (.iload_n 2, 1) := by decide +kernel
theorem dX0_setPair_34 : decode cX0_setPair 34 = .ok (.i2b, 1) := by decide +kernel
theorem dX0_setPair_35 : decode cX0_setPair 35 = .ok (.bastore, 1) := by decide +kernel
theorem dX0_setPair_36 : decode cX0_setPair 36 = .ok (.return_, 1) := by decide +kernel
def F_X0_setPair (p0 : Int32) (p1 : Int32) (Γ : HS) : HR :=
  if p0 < 0 then (
    some (0, Γ)
  ) else (
    if 40000 ≤ (p0 + 1) then (
      some (0, Γ)
    ) else (
      bnd ((p1 >>> (8 &&& 31)).toInt8.toInt32) fun (x_7 : Int32) =>
      if p0 < 0 ∨ 40000 ≤ p0.toNatClampNeg then none else
      bnd (cA' Γ 5 0 (upd ((Γ 5).2.1 0) p0.toNatClampNeg (vp_nar .byte x_7))) fun σ_11 =>
      bnd (p1.toInt8.toInt32) fun (x_13 : Int32) =>
      if (p0 + 1) < 0 ∨ 40000 ≤ (p0 + 1).toNatClampNeg then none else
      bnd (cA' σ_11 5 0 (upd ((σ_11 5).2.1 0) (p0 + 1).toNatClampNeg (vp_nar .byte x_13))) fun σ_17 =>
      some (0, σ_17)
    )
  )
set_option maxHeartbeats 4000000 in
set_option maxRecDepth 100000 in
theorem k_X0_setPair (l : Launch) (dC : Nat → ClassId) (dI : Nat → Nat → Nat) (cB cC cI cJ cZ cP : ClassId) (oA : Nat → Nat) (rA : Nat → Nat → Nat) (sz : Nat)  (p0 : Int32) (p1 : Int32) (Γ : HS) (res : Int32 × HS) (hF : F_X0_setPair p0 p1 Γ = some res) : Met l yX0_setPair (g_ws yX0_setPair cX0_setPair 3 none) ({ frames := 1, cells := 0, slots := 0, locals := 40 }) (va_Pc [.ref (oA 5), .int p0, .int p1] (g_B (dC, dI) [(cB, .byte), (cC, .char), (cI, .int), (cJ, .long), (cZ, .boolean), (cP, .object "StoryHouse$Play")] sz (b_c cB cC cI cJ cZ oA rA Γ) g_0)) (va_Qv (fun (_ : Unit) => True) (g_Bo (dC, dI) (va_A (b_c cB cC cI cJ cZ oA rA Γ) sz) (fun (_ : Unit) => (b_c cB cC cI cJ cZ oA rA res.2))) (va_A (b_c cB cC cI cJ cZ oA rA Γ) sz)) 0 0 (va_A (b_c cB cC cI cJ cZ oA rA Γ) sz) := by
  refine Met.ofW (cc := cX0_setPair) (maxL := 3) (ret := none) (by decide) rfl ?_
  intro p e s m args below meth c s₁ B hml hv
  obtain ⟨rfl, hsz, hP, hK, hD0, hE, hX⟩ := hv
  have hx := B.exec
  have hb := B.bytes
  have hr := B.returns
  have hts0 := atoms_spec (ws := g_ws yX0_setPair cX0_setPair 3 none) B.pre
  have hts : ∀ w ∈ lw_good, w.before ([.ref (oA 5), .int p0, .int p1] : List Value).toArray s = true := fun w z => hts0 w (List.mem_cons_of_mem _ z)
  have hown : s.vm.findClass RX0 = some m.cls := findClass_of_methodNamed B.named
  have hlocks := B.notSynchronized
  subst hsz
  have hD1 := hD0.self (sz := s.heap.size)
  generalize hAe : va_A (b_c cB cC cI cJ cZ oA rA Γ) s.heap.size = A at hD1 hE hX ⊢
  have hA : ∀ q : Nat, s.heap.size ≤ q → A q := fun q z => by rw [← hAe]; exact Or.inr z
  have hDD : ∀ Γ : HS, va_D A (b_c cB cC cI cJ cZ oA rA Γ) := fun Γ9 => va_D_fst (ws := (b_c cB cC cI cJ cZ oA rA Γ)) (ws' := (b_c cB cC cI cJ cZ oA rA Γ9)) rfl hD1
  have hN := hE.1
  have hS : va_S A s.heap s.heap [] := va_S.rf
  have hl := lv_entry ([.ref (oA 5), .int p0, .int p1]) (n := 3) (Nat.le_of_ble_eq_true rfl)
  rw [lg_entry_eq]
  generalize (lg_sl ([.ref (oA 5), .int p0, .int p1]) ++ List.replicate (3 - (lg_sl ([.ref (oA 5), .int p0, .int p1])).length) Slot.unset).toArray = ls at hl ⊢
  have hl : lv_has ls 3 [(0, .ref (oA 5)), (1, .int p0), (2, .int p1)] := hl
  unfold F_X0_setPair at hF
  refine lv_iload_n hx hb dX0_setPair_0 rfl (lv_at hl 1 rfl) ?_
  refine lv_if_lt (tgt := 36) hx hb dX0_setPair_1 (by decide) (fun c_1 => ?_) (fun c_1 => ?_)
  · have hF_2 := ipos c_1 hF
    clear hF
    have h9 := Option.some.inj hF_2
    subst h9
    exact W.vret hx hb hr (fun t ht hW => ⟨⟨(), rfl, trivial, m_end ht hP, hDD _⟩, hS.F ht⟩) hS.2.2 dX0_setPair_36
  · have hF_3 := ineg c_1 hF
    clear hF
    refine lv_iload_n hx hb dX0_setPair_4 rfl (lv_at hl 1 rfl) ?_
    refine lv_iconst (v := 1) hx hb dX0_setPair_5 (by decide +kernel) ?_
    refine lv_iadd hx hb dX0_setPair_6 ?_
    refine lv_aload_n hx hb dX0_setPair_7 rfl (lv_at hl 0 rfl) ?_
    refine va_get (D := (dC, dI)) (ci := 0) (v := .ref (rA 5 0)) (C := RX0) (T := TX0) (N := 9) hx hb hts ii_X0 hown hK hP 0 rfl rfl 0 (by decide) (hts (.fieldLink RX0 12 "StoryHouse$Code" "bytes" "[B") wq_116) (fun _ h9 => h9) rfl dX0_setPair_8 ?_
    refine va_alen (v := 40000) hx hb hK hP 1 0 rfl rfl (by first | rfl | decide +kernel) dX0_setPair_11 ?_
    refine lv_icmp_ge (tgt := 36) hx hb dX0_setPair_12 (by decide) (fun c_4 => ?_) (fun c_4 => ?_)
    · have hF_5 := ipos c_4 hF_3
      clear hF_3
      have h9 := Option.some.inj hF_5
      subst h9
      exact W.vret hx hb hr (fun t ht hW => ⟨⟨(), rfl, trivial, m_end ht hP, hDD _⟩, hS.F ht⟩) hS.2.2 dX0_setPair_36
    · have hF_6 := ineg c_4 hF_3
      clear hF_3
      refine lv_aload_n hx hb dX0_setPair_15 rfl (lv_at hl 0 rfl) ?_
      refine va_get (D := (dC, dI)) (ci := 0) (v := .ref (rA 5 0)) (C := RX0) (T := TX0) (N := 9) hx hb hts ii_X0 hown hK hP 0 rfl rfl 0 (by decide) (hts (.fieldLink RX0 12 "StoryHouse$Code" "bytes" "[B") wq_116) (fun _ h9 => h9) rfl dX0_setPair_16 ?_
      refine lv_iload_n hx hb dX0_setPair_19 rfl (lv_at hl 1 rfl) ?_
      refine lv_iload_n hx hb dX0_setPair_20 rfl (lv_at hl 2 rfl) ?_
      refine lv_bipush (v := 8) hx hb dX0_setPair_21 (by decide +kernel) ?_
      refine lv_ishr hx hb dX0_setPair_23 ?_
      refine lv_i2b hx hb dX0_setPair_24 rfl ?_
      obtain ⟨x_7, ex_7, hF_8⟩ := bnd_e hF_6
      clear hF_6
      refine m_top ex_7 ?_
      obtain ⟨g_9, hF_10⟩ := nif_e hF_8
      clear hF_8
      obtain ⟨σ_11, eσ_11, hF_12⟩ := bnd_e hF_10
      clear hF_10
      refine va_bast (f := (Γ 5).2.1 0) hx hb hK hP (hDD _) hS 1 0 rfl rfl g_9 dX0_setPair_25 (fun H locs hP' _ hS => ?_)
      have hP : va_P (dC, dI) vwCl (b_c cB cC cI cJ cZ oA rA σ_11) H := by rw [eσ_11]; exact cs_c_c_0 ▸ hP'
      clear hP'
      refine lv_aload_n hx hb dX0_setPair_26 rfl (lv_at hl 0 rfl) ?_
      refine va_get (D := (dC, dI)) (ci := 0) (v := .ref (rA 5 0)) (C := RX0) (T := TX0) (N := 9) hx hb hts ii_X0 hown hK hP 0 rfl rfl 0 (by decide) (hts (.fieldLink RX0 12 "StoryHouse$Code" "bytes" "[B") wq_116) (fun _ h9 => h9) rfl dX0_setPair_27 ?_
      refine lv_iload_n hx hb dX0_setPair_30 rfl (lv_at hl 1 rfl) ?_
      refine lv_iconst (v := 1) hx hb dX0_setPair_31 (by decide +kernel) ?_
      refine lv_iadd hx hb dX0_setPair_32 ?_
      refine lv_iload_n hx hb dX0_setPair_33 rfl (lv_at hl 2 rfl) ?_
      refine lv_i2b hx hb dX0_setPair_34 rfl ?_
      obtain ⟨x_13, ex_13, hF_14⟩ := bnd_e hF_12
      clear hF_12
      refine m_top ex_13 ?_
      obtain ⟨g_15, hF_16⟩ := nif_e hF_14
      clear hF_14
      obtain ⟨σ_17, eσ_17, hF_18⟩ := bnd_e hF_16
      clear hF_16
      refine va_bast (f := (σ_11 5).2.1 0) hx hb hK hP (hDD _) hS 1 0 rfl rfl g_15 dX0_setPair_35 (fun H locs hP' _ hS => ?_)
      have hP : va_P (dC, dI) vwCl (b_c cB cC cI cJ cZ oA rA σ_17) H := by rw [eσ_17]; exact cs_c_c_0 ▸ hP'
      clear hP'
      have h9 := Option.some.inj hF_18
      subst h9
      exact W.vret hx hb hr (fun t ht hW => ⟨⟨(), rfl, trivial, m_end ht hP, hDD _⟩, hS.F ht⟩) hS.2.2 dX0_setPair_36
theorem dX0_aim_0 : decode cX0_aim 0 = .ok (.aload_n 0, 1) := by decide +kernel
theorem dX0_aim_1 : decode cX0_aim 1 = .ok (.iload_n 1, 1) := by decide +kernel
theorem dX0_aim_2 : decode cX0_aim 2 = .ok (.aload_n 0, 1) := by decide +kernel
theorem dX0_aim_3 : decode cX0_aim 3 = .ok (.getfield 26, 3) := by decide +kernel
theorem dX0_aim_6 : decode cX0_aim 6 = .ok (.invokevirtual 54, 3) := by decide +kernel
theorem dX0_aim_9 : decode cX0_aim 9 = .ok (.return_, 1) := by decide +kernel
def F_X0_aim (p0 : Int32) (Γ : HS) : HR :=
  (F_X0_setPair p0 ((Γ 5).1 1) Γ).bind fun u_1 =>
  some (0, u_1.2)
set_option maxHeartbeats 4000000 in
set_option maxRecDepth 100000 in
theorem k_X0_aim (l : Launch) (dC : Nat → ClassId) (dI : Nat → Nat → Nat) (cB cC cI cJ cZ cP : ClassId) (oA : Nat → Nat) (rA : Nat → Nat → Nat) (sz : Nat)  (p0 : Int32) (Γ : HS) (res : Int32 × HS) (hF : F_X0_aim p0 Γ = some res) : Met l yX0_aim (g_ws yX0_aim cX0_aim 2 none) ({ frames := 2, cells := 0, slots := 0, locals := 62 }) (va_Pc [.ref (oA 5), .int p0] (g_B (dC, dI) [(cB, .byte), (cC, .char), (cI, .int), (cJ, .long), (cZ, .boolean), (cP, .object "StoryHouse$Play")] sz (b_c cB cC cI cJ cZ oA rA Γ) g_0)) (va_Qv (fun (_ : Unit) => True) (g_Bo (dC, dI) (va_A (b_c cB cC cI cJ cZ oA rA Γ) sz) (fun (_ : Unit) => (b_c cB cC cI cJ cZ oA rA res.2))) (va_A (b_c cB cC cI cJ cZ oA rA Γ) sz)) 0 0 (va_A (b_c cB cC cI cJ cZ oA rA Γ) sz) := by
  refine Met.ofW (cc := cX0_aim) (maxL := 2) (ret := none) (by decide) rfl ?_
  intro p e s m args below meth c s₁ B hml hv
  obtain ⟨rfl, hsz, hP, hK, hD0, hE, hX⟩ := hv
  have hx := B.exec
  have hb := B.bytes
  have hr := B.returns
  have hts0 := atoms_spec (ws := g_ws yX0_aim cX0_aim 2 none) B.pre
  have hts : ∀ w ∈ lw_good, w.before ([.ref (oA 5), .int p0] : List Value).toArray s = true := fun w z => hts0 w (List.mem_cons_of_mem _ z)
  have hown : s.vm.findClass RX0 = some m.cls := findClass_of_methodNamed B.named
  have hlocks := B.notSynchronized
  subst hsz
  have hD1 := hD0.self (sz := s.heap.size)
  generalize hAe : va_A (b_c cB cC cI cJ cZ oA rA Γ) s.heap.size = A at hD1 hE hX ⊢
  have hA : ∀ q : Nat, s.heap.size ≤ q → A q := fun q z => by rw [← hAe]; exact Or.inr z
  have hDD : ∀ Γ : HS, va_D A (b_c cB cC cI cJ cZ oA rA Γ) := fun Γ9 => va_D_fst (ws := (b_c cB cC cI cJ cZ oA rA Γ)) (ws' := (b_c cB cC cI cJ cZ oA rA Γ9)) rfl hD1
  have hN := hE.1
  have hS : va_S A s.heap s.heap [] := va_S.rf
  have hl := lv_entry ([.ref (oA 5), .int p0]) (n := 2) (Nat.le_of_ble_eq_true rfl)
  rw [lg_entry_eq]
  generalize (lg_sl ([.ref (oA 5), .int p0]) ++ List.replicate (2 - (lg_sl ([.ref (oA 5), .int p0])).length) Slot.unset).toArray = ls at hl ⊢
  have hl : lv_has ls 2 [(0, .ref (oA 5)), (1, .int p0)] := hl
  unfold F_X0_aim at hF
  refine lv_aload_n hx hb dX0_aim_0 rfl (lv_at hl 0 rfl) ?_
  refine lv_iload_n hx hb dX0_aim_1 rfl (lv_at hl 1 rfl) ?_
  refine lv_aload_n hx hb dX0_aim_2 rfl (lv_at hl 0 rfl) ?_
  refine va_get (D := (dC, dI)) (ci := 0) (v := .int ((Γ 5).1 1)) (C := RX0) (T := TX0) (N := 9) hx hb hts ii_X0 hown hK hP 0 rfl rfl 1 (by decide) (hts (.fieldLink RX0 26 "StoryHouse$Code" "length" "I") wq_117) (fun _ h9 => h9) rfl dX0_aim_3 ?_
  obtain ⟨u_1, hu_1, hF_2⟩ := Option.bind_eq_some_iff.mp hF
  clear hF
  have hPc := bx_P (bs := [b_c cB cC cI cJ cZ oA rA Γ]) (bs' := [b_c cB cC cI cJ cZ oA rA Γ]) (ws' := (b_c cB cC cI cJ cZ oA rA Γ)) hP fl_1 fl_1 [0] rfl
  have hDc := bx_D (bs := [b_c cB cC cI cJ cZ oA rA Γ]) (bs' := [b_c cB cC cI cJ cZ oA rA Γ]) (ws' := (b_c cB cC cI cJ cZ oA rA Γ)) (hDD Γ) fl_1 fl_1 [0] (by decide +kernel) rfl
  have hFc := bx_F (bs := [b_c cB cC cI cJ cZ oA rA Γ]) (bs' := [b_c cB cC cI cJ cZ oA rA Γ]) (wc := (b_c cB cC cI cJ cZ oA rA Γ)) (hDD Γ) hS hA fl_1 fl_1 [0] rfl
  refine g_ofv (wc := (b_c cB cC cI cJ cZ oA rA Γ)) (wr := ([] : va_W)) hP (hDD Γ) hS hFc (bx_ix [b_c cB cC cI cJ cZ oA rA Γ] [0]) (bx_ix [b_c cB cC cI cJ cZ oA rA Γ] []) (bx_C (bs := [b_c cB cC cI cJ cZ oA rA Γ]) (bs' := [b_c cB cC cI cJ cZ oA rA Γ]) (is := [0]) fl_1 fl_1 rfl) (bx_C (bs := [b_c cB cC cI cJ cZ oA rA Γ]) (bs' := []) (is := []) fl_1 fl_0 rfl) (bx_n (by decide +kernel)) (bx_d (by decide +kernel)) (va_runV (As := [.int p0, .int ((Γ 5).1 1)]) (rest := []) ⟨hx, hb, hml, hown, hts⟩ (k_X0_setPair l dC dI cB cC cI cJ cZ cP oA rA s.heap.size  p0 ((Γ 5).1 1) Γ _ hu_1) (cwV 2 hts (g_gV wq_676 wq_677 wq_2026 wq_6 wq_678) rfl rfl rfl (by decide +kernel) ⟨Nat.le_of_ble_eq_true rfl, Nat.le_of_ble_eq_true rfl⟩) (g_preV g_bl0 hK hPc hDc hS hE hFc g_to0 (q0 := 0) (ci := 0) rfl rfl) rfl rfl hl.1 rfl (lv_room (Nat.le_of_ble_eq_true rfl)) dX0_aim_6 ⟨Nat.le_of_ble_eq_true rfl, Nat.le_of_ble_eq_true rfl⟩) (fun u9 H locs hw9 hP' hD' hS => ?_)
  clear hPc hDc hFc
  have hP : va_P (dC, dI) vwCl (b_c cB cC cI cJ cZ oA rA u_1.2) H := hP'
  clear hP' hD'
  have h9 := Option.some.inj hF_2
  subst h9
  exact W.vret hx hb hr (fun t ht hW => ⟨⟨(), rfl, trivial, m_end ht hP, hDD _⟩, hS.F ht⟩) hS.2.2 dX0_aim_9
theorem dX0_byteAt_0 : decode cX0_byteAt 0 = .ok (.iload_n 1, 1) := by decide +kernel
theorem dX0_byteAt_1 : decode cX0_byteAt 1 = .ok (.ifCond .lt 33, 3) := by decide +kernel
theorem dX0_byteAt_4 : decode cX0_byteAt 4 = .ok (.iload_n 1, 1) := by decide +kernel
theorem dX0_byteAt_5 : decode cX0_byteAt 5 = .ok (.aload_n 0, 1) := by decide +kernel
theorem dX0_byteAt_6 : decode cX0_byteAt 6 = .ok (.getfield 26, 3) := by decide +kernel
theorem dX0_byteAt_9 : decode cX0_byteAt 9 = .ok (.if_icmp .ge 25, 3) := by decide +kernel
theorem dX0_byteAt_12 : decode cX0_byteAt 12 = .ok (.iload_n 1, 1) := by decide +kernel
theorem dX0_byteAt_13 : decode cX0_byteAt 13 = .ok (.aload_n 0, 1) := by decide +kernel
theorem dX0_byteAt_14 : decode cX0_byteAt 14 = .ok (.getfield 12, 3) := by decide +kernel
theorem dX0_byteAt_17 : decode cX0_byteAt 17 = .ok (.arraylength, 1) := by decide +kernel
theorem dX0_byteAt_18 : decode cX0_byteAt 18 = .ok (.if_icmp .ge 16, 3) := by decide +kernel
theorem dX0_byteAt_21 : decode cX0_byteAt 21 = .ok (.aload_n 0, 1) := by decide +kernel
theorem dX0_byteAt_22 : decode cX0_byteAt 22 = .ok (.getfield 12, 3) := by decide +kernel
theorem dX0_byteAt_25 : decode cX0_byteAt 25 = .ok (.iload_n 1, 1) := by decide +kernel
theorem dX0_byteAt_26 : decode cX0_byteAt 26 = .ok (.baload, 1) := by decide +kernel
theorem dX0_byteAt_27 : decode cX0_byteAt 27 = .ok (.sipush 255, 3) := by decide +kernel
theorem dX0_byteAt_30 : decode cX0_byteAt 30 = .ok (.iand, 1) := by decide +kernel
theorem dX0_byteAt_31 : decode cX0_byteAt 31 = .ok (.goto 4, 3) := by decide +kernel
theorem dX0_byteAt_34 : decode cX0_byteAt 34 = .ok (.iconst 0, 1) := by decide +kernel
theorem dX0_byteAt_35 : decode cX0_byteAt 35 = .ok (.ireturn, 1) := by decide +kernel
def F_X0_byteAt (p0 : Int32) (Γ : HS) : HR :=
  if p0 < 0 then (
    some (0, Γ)
  ) else (
    if ((Γ 5).1 1) ≤ p0 then (
      some (0, Γ)
    ) else (
      if 40000 ≤ p0 then (
        some (0, Γ)
      ) else (
        if p0 < 0 ∨ 40000 ≤ p0.toNatClampNeg then none else
        some ((((Γ 5).2.1 0 p0.toNatClampNeg) &&& 255), Γ)
      )
    )
  )
set_option maxHeartbeats 4000000 in
set_option maxRecDepth 100000 in
theorem k_X0_byteAt (l : Launch) (dC : Nat → ClassId) (dI : Nat → Nat → Nat) (cB cC cI cJ cZ cP : ClassId) (oA : Nat → Nat) (rA : Nat → Nat → Nat) (sz : Nat)  (p0 : Int32) (Γ : HS) (res : Int32 × HS) (hF : F_X0_byteAt p0 Γ = some res) : Met l yX0_byteAt (g_ws yX0_byteAt cX0_byteAt 2 (some .int)) ({ frames := 1, cells := 0, slots := 0, locals := 40 }) (va_Pc [.ref (oA 5), .int p0] (g_B (dC, dI) [(cB, .byte), (cC, .char), (cI, .int), (cJ, .long), (cZ, .boolean), (cP, .object "StoryHouse$Play")] sz (b_c cB cC cI cJ cZ oA rA Γ) g_0)) (va_Qi (fun r (_ : Unit) => r = res.1) (g_Bo (dC, dI) (va_A (b_c cB cC cI cJ cZ oA rA Γ) sz) (fun (_ : Unit) => (b_c cB cC cI cJ cZ oA rA res.2))) (va_A (b_c cB cC cI cJ cZ oA rA Γ) sz)) 0 0 (va_A (b_c cB cC cI cJ cZ oA rA Γ) sz) := by
  refine Met.ofW (cc := cX0_byteAt) (maxL := 2) (ret := (some .int)) (by decide) rfl ?_
  intro p e s m args below meth c s₁ B hml hv
  obtain ⟨rfl, hsz, hP, hK, hD0, hE, hX⟩ := hv
  have hx := B.exec
  have hb := B.bytes
  have hr := B.returns
  have hts0 := atoms_spec (ws := g_ws yX0_byteAt cX0_byteAt 2 (some .int)) B.pre
  have hts : ∀ w ∈ lw_good, w.before ([.ref (oA 5), .int p0] : List Value).toArray s = true := fun w z => hts0 w (List.mem_cons_of_mem _ z)
  have hown : s.vm.findClass RX0 = some m.cls := findClass_of_methodNamed B.named
  have hlocks := B.notSynchronized
  subst hsz
  have hD1 := hD0.self (sz := s.heap.size)
  generalize hAe : va_A (b_c cB cC cI cJ cZ oA rA Γ) s.heap.size = A at hD1 hE hX ⊢
  have hA : ∀ q : Nat, s.heap.size ≤ q → A q := fun q z => by rw [← hAe]; exact Or.inr z
  have hDD : ∀ Γ : HS, va_D A (b_c cB cC cI cJ cZ oA rA Γ) := fun Γ9 => va_D_fst (ws := (b_c cB cC cI cJ cZ oA rA Γ)) (ws' := (b_c cB cC cI cJ cZ oA rA Γ9)) rfl hD1
  have hN := hE.1
  have hS : va_S A s.heap s.heap [] := va_S.rf
  have hl := lv_entry ([.ref (oA 5), .int p0]) (n := 2) (Nat.le_of_ble_eq_true rfl)
  rw [lg_entry_eq]
  generalize (lg_sl ([.ref (oA 5), .int p0]) ++ List.replicate (2 - (lg_sl ([.ref (oA 5), .int p0])).length) Slot.unset).toArray = ls at hl ⊢
  have hl : lv_has ls 2 [(0, .ref (oA 5)), (1, .int p0)] := hl
  unfold F_X0_byteAt at hF
  refine lv_iload_n hx hb dX0_byteAt_0 rfl (lv_at hl 1 rfl) ?_
  refine lv_if_lt (tgt := 34) hx hb dX0_byteAt_1 (by decide) (fun c_1 => ?_) (fun c_1 => ?_)
  · have hF_2 := ipos c_1 hF
    clear hF
    refine lv_iconst (v := 0) hx hb dX0_byteAt_34 (by decide +kernel) ?_
    have h9 := Option.some.inj hF_2
    subst h9
    exact W.iret (v := 0) hx hb hr (fun t ht hW => ⟨⟨0, (), rfl, rfl, m_end ht hP, hDD _⟩, hS.F ht⟩) hS.2.2 dX0_byteAt_35
  · have hF_3 := ineg c_1 hF
    clear hF
    refine lv_iload_n hx hb dX0_byteAt_4 rfl (lv_at hl 1 rfl) ?_
    refine lv_aload_n hx hb dX0_byteAt_5 rfl (lv_at hl 0 rfl) ?_
    refine va_get (D := (dC, dI)) (ci := 0) (v := .int ((Γ 5).1 1)) (C := RX0) (T := TX0) (N := 9) hx hb hts ii_X0 hown hK hP 0 rfl rfl 1 (by decide) (hts (.fieldLink RX0 26 "StoryHouse$Code" "length" "I") wq_117) (fun _ h9 => h9) rfl dX0_byteAt_6 ?_
    refine lv_icmp_ge (tgt := 34) hx hb dX0_byteAt_9 (by decide) (fun c_4 => ?_) (fun c_4 => ?_)
    · have hF_5 := ipos c_4 hF_3
      clear hF_3
      refine lv_iconst (v := 0) hx hb dX0_byteAt_34 (by decide +kernel) ?_
      have h9 := Option.some.inj hF_5
      subst h9
      exact W.iret (v := 0) hx hb hr (fun t ht hW => ⟨⟨0, (), rfl, rfl, m_end ht hP, hDD _⟩, hS.F ht⟩) hS.2.2 dX0_byteAt_35
    · have hF_6 := ineg c_4 hF_3
      clear hF_3
      refine lv_iload_n hx hb dX0_byteAt_12 rfl (lv_at hl 1 rfl) ?_
      refine lv_aload_n hx hb dX0_byteAt_13 rfl (lv_at hl 0 rfl) ?_
      refine va_get (D := (dC, dI)) (ci := 0) (v := .ref (rA 5 0)) (C := RX0) (T := TX0) (N := 9) hx hb hts ii_X0 hown hK hP 0 rfl rfl 0 (by decide) (hts (.fieldLink RX0 12 "StoryHouse$Code" "bytes" "[B") wq_116) (fun _ h9 => h9) rfl dX0_byteAt_14 ?_
      refine va_alen (v := 40000) hx hb hK hP 1 0 rfl rfl (by first | rfl | decide +kernel) dX0_byteAt_17 ?_
      refine lv_icmp_ge (tgt := 34) hx hb dX0_byteAt_18 (by decide) (fun c_7 => ?_) (fun c_7 => ?_)
      · have hF_8 := ipos c_7 hF_6
        clear hF_6
        refine lv_iconst (v := 0) hx hb dX0_byteAt_34 (by decide +kernel) ?_
        have h9 := Option.some.inj hF_8
        subst h9
        exact W.iret (v := 0) hx hb hr (fun t ht hW => ⟨⟨0, (), rfl, rfl, m_end ht hP, hDD _⟩, hS.F ht⟩) hS.2.2 dX0_byteAt_35
      · have hF_9 := ineg c_7 hF_6
        clear hF_6
        refine lv_aload_n hx hb dX0_byteAt_21 rfl (lv_at hl 0 rfl) ?_
        refine va_get (D := (dC, dI)) (ci := 0) (v := .ref (rA 5 0)) (C := RX0) (T := TX0) (N := 9) hx hb hts ii_X0 hown hK hP 0 rfl rfl 0 (by decide) (hts (.fieldLink RX0 12 "StoryHouse$Code" "bytes" "[B") wq_116) (fun _ h9 => h9) rfl dX0_byteAt_22 ?_
        refine lv_iload_n hx hb dX0_byteAt_25 rfl (lv_at hl 1 rfl) ?_
        obtain ⟨g_10, hF_11⟩ := nif_e hF_9
        clear hF_9
        refine va_bald (f := (Γ 5).2.1 0) hx hb hK hP 1 0 rfl rfl g_10 dX0_byteAt_26 ?_
        refine lv_sipush (v := 255) hx hb dX0_byteAt_27 (by decide +kernel) ?_
        refine lv_iand hx hb dX0_byteAt_30 ?_
        refine lv_goto (tgt := 35) hx hb dX0_byteAt_31 (by decide) ?_
        have h9 := Option.some.inj hF_11
        subst h9
        exact W.iret (v := (((Γ 5).2.1 0 p0.toNatClampNeg) &&& 255)) hx hb hr (fun t ht hW => ⟨⟨(((Γ 5).2.1 0 p0.toNatClampNeg) &&& 255), (), rfl, rfl, m_end ht hP, hDD _⟩, hS.F ht⟩) hS.2.2 dX0_byteAt_35
theorem dX0_pairAt_0 : decode cX0_pairAt 0 = .ok (.aload_n 0, 1) := by decide +kernel
theorem dX0_pairAt_1 : decode cX0_pairAt 1 = .ok (.iload_n 1, 1) := by decide +kernel
theorem dX0_pairAt_2 : decode cX0_pairAt 2 = .ok (.invokevirtual 58, 3) := by decide +kernel
theorem dX0_pairAt_5 : decode cX0_pairAt 5 = .ok (.bipush 8, 2) := by decide +kernel
theorem dX0_pairAt_7 : decode cX0_pairAt 7 = .ok (.ishl, 1) := by decide +kernel
theorem dX0_pairAt_8 : decode cX0_pairAt 8 = .ok (.aload_n 0, 1) := by decide +kernel
theorem dX0_pairAt_9 : decode cX0_pairAt 9 = .ok (.iload_n 1, 1) := by decide +kernel
theorem dX0_pairAt_10 : decode cX0_pairAt 10 = .ok (.iconst 1, 1) := by decide +kernel
theorem dX0_pairAt_11 : decode cX0_pairAt 11 = .ok (.iadd, 1) := by decide +kernel
theorem dX0_pairAt_12 : decode cX0_pairAt 12 = .ok (.invokevirtual 58, 3) := by decide +kernel
theorem dX0_pairAt_15 : decode cX0_pairAt 15 = .ok (.ior, 1) := by decide +kernel
theorem dX0_pairAt_16 : decode cX0_pairAt 16 = .ok (.ireturn, 1) := by decide +kernel
def F_X0_pairAt (p0 : Int32) (Γ : HS) : HR :=
  (F_X0_byteAt p0 Γ).bind fun u_1 =>
  (F_X0_byteAt (p0 + 1) u_1.2).bind fun u_3 =>
  some (((u_1.1 <<< (8 &&& 31)) ||| u_3.1), u_3.2)
set_option maxHeartbeats 4000000 in
set_option maxRecDepth 100000 in
theorem k_X0_pairAt (l : Launch) (dC : Nat → ClassId) (dI : Nat → Nat → Nat) (cB cC cI cJ cZ cP : ClassId) (oA : Nat → Nat) (rA : Nat → Nat → Nat) (sz : Nat)  (p0 : Int32) (Γ : HS) (res : Int32 × HS) (hF : F_X0_pairAt p0 Γ = some res) : Met l yX0_pairAt (g_ws yX0_pairAt cX0_pairAt 2 (some .int)) ({ frames := 2, cells := 0, slots := 0, locals := 61 }) (va_Pc [.ref (oA 5), .int p0] (g_B (dC, dI) [(cB, .byte), (cC, .char), (cI, .int), (cJ, .long), (cZ, .boolean), (cP, .object "StoryHouse$Play")] sz (b_c cB cC cI cJ cZ oA rA Γ) g_0)) (va_Qi (fun r (_ : Unit) => r = res.1) (g_Bo (dC, dI) (va_A (b_c cB cC cI cJ cZ oA rA Γ) sz) (fun (_ : Unit) => (b_c cB cC cI cJ cZ oA rA res.2))) (va_A (b_c cB cC cI cJ cZ oA rA Γ) sz)) 0 0 (va_A (b_c cB cC cI cJ cZ oA rA Γ) sz) := by
  refine Met.ofW (cc := cX0_pairAt) (maxL := 2) (ret := (some .int)) (by decide) rfl ?_
  intro p e s m args below meth c s₁ B hml hv
  obtain ⟨rfl, hsz, hP, hK, hD0, hE, hX⟩ := hv
  have hx := B.exec
  have hb := B.bytes
  have hr := B.returns
  have hts0 := atoms_spec (ws := g_ws yX0_pairAt cX0_pairAt 2 (some .int)) B.pre
  have hts : ∀ w ∈ lw_good, w.before ([.ref (oA 5), .int p0] : List Value).toArray s = true := fun w z => hts0 w (List.mem_cons_of_mem _ z)
  have hown : s.vm.findClass RX0 = some m.cls := findClass_of_methodNamed B.named
  have hlocks := B.notSynchronized
  subst hsz
  have hD1 := hD0.self (sz := s.heap.size)
  generalize hAe : va_A (b_c cB cC cI cJ cZ oA rA Γ) s.heap.size = A at hD1 hE hX ⊢
  have hA : ∀ q : Nat, s.heap.size ≤ q → A q := fun q z => by rw [← hAe]; exact Or.inr z
  have hDD : ∀ Γ : HS, va_D A (b_c cB cC cI cJ cZ oA rA Γ) := fun Γ9 => va_D_fst (ws := (b_c cB cC cI cJ cZ oA rA Γ)) (ws' := (b_c cB cC cI cJ cZ oA rA Γ9)) rfl hD1
  have hN := hE.1
  have hS : va_S A s.heap s.heap [] := va_S.rf
  have hl := lv_entry ([.ref (oA 5), .int p0]) (n := 2) (Nat.le_of_ble_eq_true rfl)
  rw [lg_entry_eq]
  generalize (lg_sl ([.ref (oA 5), .int p0]) ++ List.replicate (2 - (lg_sl ([.ref (oA 5), .int p0])).length) Slot.unset).toArray = ls at hl ⊢
  have hl : lv_has ls 2 [(0, .ref (oA 5)), (1, .int p0)] := hl
  unfold F_X0_pairAt at hF
  refine lv_aload_n hx hb dX0_pairAt_0 rfl (lv_at hl 0 rfl) ?_
  refine lv_iload_n hx hb dX0_pairAt_1 rfl (lv_at hl 1 rfl) ?_
  obtain ⟨u_1, hu_1, hF_2⟩ := Option.bind_eq_some_iff.mp hF
  clear hF
  have hPc := bx_P (bs := [b_c cB cC cI cJ cZ oA rA Γ]) (bs' := [b_c cB cC cI cJ cZ oA rA Γ]) (ws' := (b_c cB cC cI cJ cZ oA rA Γ)) hP fl_1 fl_1 [0] rfl
  have hDc := bx_D (bs := [b_c cB cC cI cJ cZ oA rA Γ]) (bs' := [b_c cB cC cI cJ cZ oA rA Γ]) (ws' := (b_c cB cC cI cJ cZ oA rA Γ)) (hDD Γ) fl_1 fl_1 [0] (by decide +kernel) rfl
  have hFc := bx_F (bs := [b_c cB cC cI cJ cZ oA rA Γ]) (bs' := [b_c cB cC cI cJ cZ oA rA Γ]) (wc := (b_c cB cC cI cJ cZ oA rA Γ)) (hDD Γ) hS hA fl_1 fl_1 [0] rfl
  refine g_ofi (wc := (b_c cB cC cI cJ cZ oA rA Γ)) (wr := ([] : va_W)) hP (hDD Γ) hS hFc (bx_ix [b_c cB cC cI cJ cZ oA rA Γ] [0]) (bx_ix [b_c cB cC cI cJ cZ oA rA Γ] []) (bx_C (bs := [b_c cB cC cI cJ cZ oA rA Γ]) (bs' := [b_c cB cC cI cJ cZ oA rA Γ]) (is := [0]) fl_1 fl_1 rfl) (bx_C (bs := [b_c cB cC cI cJ cZ oA rA Γ]) (bs' := []) (is := []) fl_1 fl_0 rfl) (bx_n (by decide +kernel)) (bx_d (by decide +kernel)) (va_runV (As := [.int p0]) (rest := []) ⟨hx, hb, hml, hown, hts⟩ (k_X0_byteAt l dC dI cB cC cI cJ cZ cP oA rA s.heap.size  p0 Γ _ hu_1) (cwV 1 hts (g_gV wq_827 wq_828 wq_829 wq_6 wq_830) rfl rfl rfl (by decide +kernel) ⟨Nat.le_of_ble_eq_true rfl, Nat.le_of_ble_eq_true rfl⟩) (g_preV g_bl0 hK hPc hDc hS hE hFc g_to0 (q0 := 0) (ci := 0) rfl rfl) rfl rfl hl.1 rfl (lv_room (Nat.le_of_ble_eq_true rfl)) dX0_pairAt_2 ⟨Nat.le_of_ble_eq_true rfl, Nat.le_of_ble_eq_true rfl⟩) (fun r9 u9 H locs hw9 hP' hD' hS => ?_)
  clear hPc hDc hFc
  subst hw9
  have hP : va_P (dC, dI) vwCl (b_c cB cC cI cJ cZ oA rA u_1.2) H := hP'
  clear hP' hD'
  refine lv_bipush (v := 8) hx hb dX0_pairAt_5 (by decide +kernel) ?_
  refine lv_ishl hx hb dX0_pairAt_7 ?_
  refine lv_aload_n hx hb dX0_pairAt_8 rfl (lv_at hl 0 rfl) ?_
  refine lv_iload_n hx hb dX0_pairAt_9 rfl (lv_at hl 1 rfl) ?_
  refine lv_iconst (v := 1) hx hb dX0_pairAt_10 (by decide +kernel) ?_
  refine lv_iadd hx hb dX0_pairAt_11 ?_
  obtain ⟨u_3, hu_3, hF_4⟩ := Option.bind_eq_some_iff.mp hF_2
  clear hF_2
  have hPc := bx_P (bs := [b_c cB cC cI cJ cZ oA rA u_1.2]) (bs' := [b_c cB cC cI cJ cZ oA rA u_1.2]) (ws' := (b_c cB cC cI cJ cZ oA rA u_1.2)) hP fl_1 fl_1 [0] rfl
  have hDc := bx_D (bs := [b_c cB cC cI cJ cZ oA rA u_1.2]) (bs' := [b_c cB cC cI cJ cZ oA rA u_1.2]) (ws' := (b_c cB cC cI cJ cZ oA rA u_1.2)) (hDD u_1.2) fl_1 fl_1 [0] (by decide +kernel) rfl
  have hFc := bx_F (bs := [b_c cB cC cI cJ cZ oA rA u_1.2]) (bs' := [b_c cB cC cI cJ cZ oA rA u_1.2]) (wc := (b_c cB cC cI cJ cZ oA rA u_1.2)) (hDD u_1.2) hS hA fl_1 fl_1 [0] rfl
  refine g_ofi (wc := (b_c cB cC cI cJ cZ oA rA u_1.2)) (wr := ([] : va_W)) hP (hDD u_1.2) hS hFc (bx_ix [b_c cB cC cI cJ cZ oA rA u_1.2] [0]) (bx_ix [b_c cB cC cI cJ cZ oA rA u_1.2] []) (bx_C (bs := [b_c cB cC cI cJ cZ oA rA u_1.2]) (bs' := [b_c cB cC cI cJ cZ oA rA u_1.2]) (is := [0]) fl_1 fl_1 rfl) (bx_C (bs := [b_c cB cC cI cJ cZ oA rA u_1.2]) (bs' := []) (is := []) fl_1 fl_0 rfl) (bx_n (by decide +kernel)) (bx_d (by decide +kernel)) (va_runV (As := [.int (p0 + 1)]) (rest := [.int (u_1.1 <<< (8 &&& 31))]) ⟨hx, hb, hml, hown, hts⟩ (k_X0_byteAt l dC dI cB cC cI cJ cZ cP oA rA H.size  (p0 + 1) u_1.2 _ hu_3) (cwV 1 hts (g_gV wq_827 wq_828 wq_829 wq_6 wq_830) rfl rfl rfl (by decide +kernel) ⟨Nat.le_of_ble_eq_true rfl, Nat.le_of_ble_eq_true rfl⟩) (g_preV g_bl0 hK hPc hDc hS hE hFc g_to0 (q0 := 0) (ci := 0) rfl rfl) rfl rfl hl.1 rfl (lv_room (Nat.le_of_ble_eq_true rfl)) dX0_pairAt_12 ⟨Nat.le_of_ble_eq_true rfl, Nat.le_of_ble_eq_true rfl⟩) (fun r9 u9 H locs hw9 hP' hD' hS => ?_)
  clear hPc hDc hFc
  subst hw9
  have hP : va_P (dC, dI) vwCl (b_c cB cC cI cJ cZ oA rA u_3.2) H := hP'
  clear hP' hD'
  refine lv_ior hx hb dX0_pairAt_15 ?_
  have h9 := Option.some.inj hF_4
  subst h9
  exact W.iret (v := ((u_1.1 <<< (8 &&& 31)) ||| u_3.1)) hx hb hr (fun t ht hW => ⟨⟨((u_1.1 <<< (8 &&& 31)) ||| u_3.1), (), rfl, rfl, m_end ht hP, hDD _⟩, hS.F ht⟩) hS.2.2 dX0_pairAt_16
theorem dX0_setByte_0 : decode cX0_setByte 0 = .ok (.iload_n 1, 1) := by decide +kernel
theorem dX0_setByte_1 : decode cX0_setByte 1 = .ok (.ifCond .lt 20, 3) := by decide +kernel
theorem dX0_setByte_4 : decode cX0_setByte 4 = .ok (.iload_n 1, 1) := by decide +kernel
theorem dX0_setByte_5 : decode cX0_setByte 5 = .ok (.aload_n 0, 1) := by decide +kernel
theorem dX0_setByte_6 : decode cX0_setByte 6 = .ok (.getfield 12, 3) := by decide +kernel
theorem dX0_setByte_9 : decode cX0_setByte 9 = .ok (.arraylength, 1) := by decide +kernel
theorem dX0_setByte_10 : decode cX0_setByte 10 = .ok (.if_icmp .ge 11, 3) := by decide +kernel
theorem dX0_setByte_13 : decode cX0_setByte 13 = .ok (.aload_n 0, 1) := by decide +kernel
theorem dX0_setByte_14 : decode cX0_setByte 14 = .ok (.getfield 12, 3) := by decide +kernel
theorem dX0_setByte_17 : decode cX0_setByte 17 = .ok (.iload_n 1, 1) := by decide +kernel
theorem dX0_setByte_18 : decode cX0_setByte 18 = .ok (.iload_n 2, 1) := by decide +kernel
theorem dX0_setByte_19 : decode cX0_setByte 19 = .ok (.i2b, 1) := by decide +kernel
theorem dX0_setByte_20 : decode cX0_setByte 20 = .ok (.bastore, 1) := by decide +kernel
theorem dX0_setByte_21 : decode cX0_setByte 21 = .ok (.return_, 1) := by decide +kernel
def F_X0_setByte (p0 : Int32) (p1 : Int32) (Γ : HS) : HR :=
  if p0 < 0 then (
    some (0, Γ)
  ) else (
    if 40000 ≤ p0 then (
      some (0, Γ)
    ) else (
      bnd (p1.toInt8.toInt32) fun (x_7 : Int32) =>
      if p0 < 0 ∨ 40000 ≤ p0.toNatClampNeg then none else
      bnd (cA' Γ 5 0 (upd ((Γ 5).2.1 0) p0.toNatClampNeg (vp_nar .byte x_7))) fun σ_11 =>
      some (0, σ_11)
    )
  )
set_option maxHeartbeats 4000000 in
set_option maxRecDepth 100000 in
theorem k_X0_setByte (l : Launch) (dC : Nat → ClassId) (dI : Nat → Nat → Nat) (cB cC cI cJ cZ cP : ClassId) (oA : Nat → Nat) (rA : Nat → Nat → Nat) (sz : Nat)  (p0 : Int32) (p1 : Int32) (Γ : HS) (res : Int32 × HS) (hF : F_X0_setByte p0 p1 Γ = some res) : Met l yX0_setByte (g_ws yX0_setByte cX0_setByte 3 none) ({ frames := 1, cells := 0, slots := 0, locals := 40 }) (va_Pc [.ref (oA 5), .int p0, .int p1] (g_B (dC, dI) [(cB, .byte), (cC, .char), (cI, .int), (cJ, .long), (cZ, .boolean), (cP, .object "StoryHouse$Play")] sz (b_c cB cC cI cJ cZ oA rA Γ) g_0)) (va_Qv (fun (_ : Unit) => True) (g_Bo (dC, dI) (va_A (b_c cB cC cI cJ cZ oA rA Γ) sz) (fun (_ : Unit) => (b_c cB cC cI cJ cZ oA rA res.2))) (va_A (b_c cB cC cI cJ cZ oA rA Γ) sz)) 0 0 (va_A (b_c cB cC cI cJ cZ oA rA Γ) sz) := by
  refine Met.ofW (cc := cX0_setByte) (maxL := 3) (ret := none) (by decide) rfl ?_
  intro p e s m args below meth c s₁ B hml hv
  obtain ⟨rfl, hsz, hP, hK, hD0, hE, hX⟩ := hv
  have hx := B.exec
  have hb := B.bytes
  have hr := B.returns
  have hts0 := atoms_spec (ws := g_ws yX0_setByte cX0_setByte 3 none) B.pre
  have hts : ∀ w ∈ lw_good, w.before ([.ref (oA 5), .int p0, .int p1] : List Value).toArray s = true := fun w z => hts0 w (List.mem_cons_of_mem _ z)
  have hown : s.vm.findClass RX0 = some m.cls := findClass_of_methodNamed B.named
  have hlocks := B.notSynchronized
  subst hsz
  have hD1 := hD0.self (sz := s.heap.size)
  generalize hAe : va_A (b_c cB cC cI cJ cZ oA rA Γ) s.heap.size = A at hD1 hE hX ⊢
  have hA : ∀ q : Nat, s.heap.size ≤ q → A q := fun q z => by rw [← hAe]; exact Or.inr z
  have hDD : ∀ Γ : HS, va_D A (b_c cB cC cI cJ cZ oA rA Γ) := fun Γ9 => va_D_fst (ws := (b_c cB cC cI cJ cZ oA rA Γ)) (ws' := (b_c cB cC cI cJ cZ oA rA Γ9)) rfl hD1
  have hN := hE.1
  have hS : va_S A s.heap s.heap [] := va_S.rf
  have hl := lv_entry ([.ref (oA 5), .int p0, .int p1]) (n := 3) (Nat.le_of_ble_eq_true rfl)
  rw [lg_entry_eq]
  generalize (lg_sl ([.ref (oA 5), .int p0, .int p1]) ++ List.replicate (3 - (lg_sl ([.ref (oA 5), .int p0, .int p1])).length) Slot.unset).toArray = ls at hl ⊢
  have hl : lv_has ls 3 [(0, .ref (oA 5)), (1, .int p0), (2, .int p1)] := hl
  unfold F_X0_setByte at hF
  refine lv_iload_n hx hb dX0_setByte_0 rfl (lv_at hl 1 rfl) ?_
  refine lv_if_lt (tgt := 21) hx hb dX0_setByte_1 (by decide) (fun c_1 => ?_) (fun c_1 => ?_)
  · have hF_2 := ipos c_1 hF
    clear hF
    have h9 := Option.some.inj hF_2
    subst h9
    exact W.vret hx hb hr (fun t ht hW => ⟨⟨(), rfl, trivial, m_end ht hP, hDD _⟩, hS.F ht⟩) hS.2.2 dX0_setByte_21
  · have hF_3 := ineg c_1 hF
    clear hF
    refine lv_iload_n hx hb dX0_setByte_4 rfl (lv_at hl 1 rfl) ?_
    refine lv_aload_n hx hb dX0_setByte_5 rfl (lv_at hl 0 rfl) ?_
    refine va_get (D := (dC, dI)) (ci := 0) (v := .ref (rA 5 0)) (C := RX0) (T := TX0) (N := 9) hx hb hts ii_X0 hown hK hP 0 rfl rfl 0 (by decide) (hts (.fieldLink RX0 12 "StoryHouse$Code" "bytes" "[B") wq_116) (fun _ h9 => h9) rfl dX0_setByte_6 ?_
    refine va_alen (v := 40000) hx hb hK hP 1 0 rfl rfl (by first | rfl | decide +kernel) dX0_setByte_9 ?_
    refine lv_icmp_ge (tgt := 21) hx hb dX0_setByte_10 (by decide) (fun c_4 => ?_) (fun c_4 => ?_)
    · have hF_5 := ipos c_4 hF_3
      clear hF_3
      have h9 := Option.some.inj hF_5
      subst h9
      exact W.vret hx hb hr (fun t ht hW => ⟨⟨(), rfl, trivial, m_end ht hP, hDD _⟩, hS.F ht⟩) hS.2.2 dX0_setByte_21
    · have hF_6 := ineg c_4 hF_3
      clear hF_3
      refine lv_aload_n hx hb dX0_setByte_13 rfl (lv_at hl 0 rfl) ?_
      refine va_get (D := (dC, dI)) (ci := 0) (v := .ref (rA 5 0)) (C := RX0) (T := TX0) (N := 9) hx hb hts ii_X0 hown hK hP 0 rfl rfl 0 (by decide) (hts (.fieldLink RX0 12 "StoryHouse$Code" "bytes" "[B") wq_116) (fun _ h9 => h9) rfl dX0_setByte_14 ?_
      refine lv_iload_n hx hb dX0_setByte_17 rfl (lv_at hl 1 rfl) ?_
      refine lv_iload_n hx hb dX0_setByte_18 rfl (lv_at hl 2 rfl) ?_
      refine lv_i2b hx hb dX0_setByte_19 rfl ?_
      obtain ⟨x_7, ex_7, hF_8⟩ := bnd_e hF_6
      clear hF_6
      refine m_top ex_7 ?_
      obtain ⟨g_9, hF_10⟩ := nif_e hF_8
      clear hF_8
      obtain ⟨σ_11, eσ_11, hF_12⟩ := bnd_e hF_10
      clear hF_10
      refine va_bast (f := (Γ 5).2.1 0) hx hb hK hP (hDD _) hS 1 0 rfl rfl g_9 dX0_setByte_20 (fun H locs hP' _ hS => ?_)
      have hP : va_P (dC, dI) vwCl (b_c cB cC cI cJ cZ oA rA σ_11) H := by rw [eσ_11]; exact cs_c_c_0 ▸ hP'
      clear hP'
      have h9 := Option.some.inj hF_12
      subst h9
      exact W.vret hx hb hr (fun t ht hW => ⟨⟨(), rfl, trivial, m_end ht hP, hDD _⟩, hS.F ht⟩) hS.2.2 dX0_setByte_21
theorem dX0_widthOf_0 : decode cX0_widthOf 0 = .ok (.iload_n 0, 1) := by decide +kernel
theorem dX0_widthOf_1 : decode cX0_widthOf 1 = .ok (.bipush 33, 2) := by decide +kernel
theorem dX0_widthOf_3 : decode cX0_widthOf 3 = .ok (.if_icmp .lt 7, 3) := by decide +kernel
theorem dX0_widthOf_6 : decode cX0_widthOf 6 = .ok (.iconst 3, 1) := by decide +kernel
theorem dX0_widthOf_7 : decode cX0_widthOf 7 = .ok (.goto 4, 3) := by decide +kernel
theorem dX0_widthOf_10 : decode cX0_widthOf 10 = .ok (.iconst 1, 1) := by decide +kernel
theorem dX0_widthOf_11 : decode cX0_widthOf 11 = .ok (.ireturn, 1) := by decide +kernel
def F_X0_widthOf (p0 : Int32) (Γ : HS) : HR :=
  if p0 < 33 then (
    some (1, Γ)
  ) else (
    some (3, Γ)
  )
set_option maxHeartbeats 4000000 in
set_option maxRecDepth 100000 in
theorem k_X0_widthOf (l : Launch) (dC : Nat → ClassId) (dI : Nat → Nat → Nat) (cB cC cI cJ cZ cP : ClassId) (oA : Nat → Nat) (rA : Nat → Nat → Nat) (sz : Nat)  (p0 : Int32) (Γ : HS) (res : Int32 × HS) (hF : F_X0_widthOf p0 Γ = some res) : Met l yX0_widthOf (g_ws yX0_widthOf cX0_widthOf 1 (some .int)) ({ frames := 1, cells := 0, slots := 0, locals := 40 }) (va_Pc [.int p0] (g_B (dC, dI) [(cB, .byte), (cC, .char), (cI, .int), (cJ, .long), (cZ, .boolean), (cP, .object "StoryHouse$Play")] sz ([] : va_W) g_0)) (va_Qi (fun r (_ : Unit) => r = res.1) (g_Bo (dC, dI) (va_A ([] : va_W) sz) (fun (_ : Unit) => ([] : va_W))) (va_A ([] : va_W) sz)) 0 0 (va_A ([] : va_W) sz) := by
  refine Met.ofW (cc := cX0_widthOf) (maxL := 1) (ret := (some .int)) (by decide) rfl ?_
  intro p e s m args below meth c s₁ B hml hv
  obtain ⟨rfl, hsz, hP, hK, hD0, hE, hX⟩ := hv
  have hx := B.exec
  have hb := B.bytes
  have hr := B.returns
  have hts0 := atoms_spec (ws := g_ws yX0_widthOf cX0_widthOf 1 (some .int)) B.pre
  have hts : ∀ w ∈ lw_good, w.before ([.int p0] : List Value).toArray s = true := fun w z => hts0 w (List.mem_cons_of_mem _ z)
  have hown : s.vm.findClass RX0 = some m.cls := findClass_of_methodNamed B.named
  have hlocks := B.notSynchronized
  subst hsz
  have hD1 := hD0.self (sz := s.heap.size)
  generalize hAe : va_A ([] : va_W) s.heap.size = A at hD1 hE hX ⊢
  have hA : ∀ q : Nat, s.heap.size ≤ q → A q := fun q z => by rw [← hAe]; exact Or.inr z
  have hDD : ∀ Γ : HS, va_D A ([] : va_W) := fun Γ9 => va_D_fst (ws := ([] : va_W)) (ws' := ([] : va_W)) rfl hD1
  have hN := hE.1
  have hS : va_S A s.heap s.heap [] := va_S.rf
  have hl := lv_entry ([.int p0]) (n := 1) (Nat.le_of_ble_eq_true rfl)
  rw [lg_entry_eq]
  generalize (lg_sl ([.int p0]) ++ List.replicate (1 - (lg_sl ([.int p0])).length) Slot.unset).toArray = ls at hl ⊢
  have hl : lv_has ls 1 [(0, .int p0)] := hl
  unfold F_X0_widthOf at hF
  refine lv_iload_n hx hb dX0_widthOf_0 rfl (lv_at hl 0 rfl) ?_
  refine lv_bipush (v := 33) hx hb dX0_widthOf_1 (by decide +kernel) ?_
  refine lv_icmp_lt (tgt := 10) hx hb dX0_widthOf_3 (by decide) (fun c_1 => ?_) (fun c_1 => ?_)
  · have hF_2 := ipos c_1 hF
    clear hF
    refine lv_iconst (v := 1) hx hb dX0_widthOf_10 (by decide +kernel) ?_
    have h9 := Option.some.inj hF_2
    subst h9
    exact W.iret (v := 1) hx hb hr (fun t ht hW => ⟨⟨1, (), rfl, rfl, m_end ht hP, hDD Γ⟩, hS.F ht⟩) hS.2.2 dX0_widthOf_11
  · have hF_3 := ineg c_1 hF
    clear hF
    refine lv_iconst (v := 3) hx hb dX0_widthOf_6 (by decide +kernel) ?_
    refine lv_goto (tgt := 11) hx hb dX0_widthOf_7 (by decide) ?_
    have h9 := Option.some.inj hF_3
    subst h9
    exact W.iret (v := 3) hx hb hr (fun t ht hW => ⟨⟨3, (), rfl, rfl, m_end ht hP, hDD Γ⟩, hS.F ht⟩) hS.2.2 dX0_widthOf_11
theorem dX0_linked_0 : decode cX0_linked 0 = .ok (.iload_n 0, 1) := by decide +kernel
theorem dX0_linked_1 : decode cX0_linked 1 = .ok (.bipush 50, 2) := by decide +kernel
theorem dX0_linked_3 : decode cX0_linked 3 = .ok (.if_icmp .ne 16, 3) := by decide +kernel
theorem dX0_linked_6 : decode cX0_linked 6 = .ok (.iload_n 1, 1) := by decide +kernel
theorem dX0_linked_7 : decode cX0_linked 7 = .ok (.iconst 4, 1) := by decide +kernel
theorem dX0_linked_8 : decode cX0_linked 8 = .ok (.if_icmp .ne 8, 3) := by decide +kernel
theorem dX0_linked_11 : decode cX0_linked 11 = .ok (.bipush 37, 2) := by decide +kernel
theorem dX0_linked_13 : decode cX0_linked 13 = .ok (.goto 5, 3) := by decide +kernel
theorem dX0_linked_16 : decode cX0_linked 16 = .ok (.bipush 38, 2) := by decide +kernel
theorem dX0_linked_18 : decode cX0_linked 18 = .ok (.ireturn, 1) := by decide +kernel
theorem dX0_linked_19 : decode cX0_linked 19 = .ok (.iload_n 0, 1) := by decide +kernel
theorem dX0_linked_20 : decode cX0_linked 20 = .ok (.bipush 49, 2) := by decide +kernel
theorem dX0_linked_22 : decode cX0_linked 22 = .ok (.if_icmp .ne 27, 3) := by decide +kernel
theorem dX0_linked_25 : decode cX0_linked 25 = .ok (.iload_n 1, 1) := by decide +kernel
theorem dX0_linked_26 : decode cX0_linked 26 = .ok (.iconst 4, 1) := by decide +kernel
theorem dX0_linked_27 : decode cX0_linked 27 = .ok (.if_icmp .ne 8, 3) := by decide +kernel
theorem dX0_linked_30 : decode cX0_linked 30 = .ok (.bipush 34, 2) := by decide +kernel
theorem dX0_linked_32 : decode cX0_linked 32 = .ok (.goto 16, 3) := by decide +kernel
theorem dX0_linked_35 : decode cX0_linked 35 = .ok (.iload_n 1, 1) := by decide +kernel
theorem dX0_linked_36 : decode cX0_linked 36 = .ok (.bipush 7, 2) := by decide +kernel
theorem dX0_linked_38 : decode cX0_linked 38 = .ok (.if_icmp .ne 8, 3) := by decide +kernel
theorem dX0_linked_41 : decode cX0_linked 41 = .ok (.bipush 35, 2) := by decide +kernel
theorem dX0_linked_43 : decode cX0_linked 43 = .ok (.goto 5, 3) := by decide +kernel
theorem dX0_linked_46 : decode cX0_linked 46 = .ok (.bipush 33, 2) := by decide +kernel
theorem dX0_linked_48 : decode cX0_linked 48 = .ok (.ireturn, 1) := by decide +kernel
theorem dX0_linked_49 : decode cX0_linked 49 = .ok (.iload_n 0, 1) := by decide +kernel
theorem dX0_linked_50 : decode cX0_linked 50 = .ok (.ireturn, 1) := by decide +kernel
def F_X0_linked (p0 : Int32) (p1 : Int32) (Γ : HS) : HR :=
  if p0 = 50 then (
    if p1 = 4 then (
      some (37, Γ)
    ) else (
      some (38, Γ)
    )
  ) else (
    if p0 = 49 then (
      if p1 = 4 then (
        some (34, Γ)
      ) else (
        if p1 = 7 then (
          some (35, Γ)
        ) else (
          some (33, Γ)
        )
      )
    ) else (
      some (p0, Γ)
    )
  )
set_option maxHeartbeats 4000000 in
set_option maxRecDepth 100000 in
theorem k_X0_linked (l : Launch) (dC : Nat → ClassId) (dI : Nat → Nat → Nat) (cB cC cI cJ cZ cP : ClassId) (oA : Nat → Nat) (rA : Nat → Nat → Nat) (sz : Nat)  (p0 : Int32) (p1 : Int32) (Γ : HS) (res : Int32 × HS) (hF : F_X0_linked p0 p1 Γ = some res) : Met l yX0_linked (g_ws yX0_linked cX0_linked 2 (some .int)) ({ frames := 1, cells := 0, slots := 0, locals := 40 }) (va_Pc [.int p0, .int p1] (g_B (dC, dI) [(cB, .byte), (cC, .char), (cI, .int), (cJ, .long), (cZ, .boolean), (cP, .object "StoryHouse$Play")] sz ([] : va_W) g_0)) (va_Qi (fun r (_ : Unit) => r = res.1) (g_Bo (dC, dI) (va_A ([] : va_W) sz) (fun (_ : Unit) => ([] : va_W))) (va_A ([] : va_W) sz)) 0 0 (va_A ([] : va_W) sz) := by
  refine Met.ofW (cc := cX0_linked) (maxL := 2) (ret := (some .int)) (by decide) rfl ?_
  intro p e s m args below meth c s₁ B hml hv
  obtain ⟨rfl, hsz, hP, hK, hD0, hE, hX⟩ := hv
  have hx := B.exec
  have hb := B.bytes
  have hr := B.returns
  have hts0 := atoms_spec (ws := g_ws yX0_linked cX0_linked 2 (some .int)) B.pre
  have hts : ∀ w ∈ lw_good, w.before ([.int p0, .int p1] : List Value).toArray s = true := fun w z => hts0 w (List.mem_cons_of_mem _ z)
  have hown : s.vm.findClass RX0 = some m.cls := findClass_of_methodNamed B.named
  have hlocks := B.notSynchronized
  subst hsz
  have hD1 := hD0.self (sz := s.heap.size)
  generalize hAe : va_A ([] : va_W) s.heap.size = A at hD1 hE hX ⊢
  have hA : ∀ q : Nat, s.heap.size ≤ q → A q := fun q z => by rw [← hAe]; exact Or.inr z
  have hDD : ∀ Γ : HS, va_D A ([] : va_W) := fun Γ9 => va_D_fst (ws := ([] : va_W)) (ws' := ([] : va_W)) rfl hD1
  have hN := hE.1
  have hS : va_S A s.heap s.heap [] := va_S.rf
  have hl := lv_entry ([.int p0, .int p1]) (n := 2) (Nat.le_of_ble_eq_true rfl)
  rw [lg_entry_eq]
  generalize (lg_sl ([.int p0, .int p1]) ++ List.replicate (2 - (lg_sl ([.int p0, .int p1])).length) Slot.unset).toArray = ls at hl ⊢
  have hl : lv_has ls 2 [(0, .int p0), (1, .int p1)] := hl
  unfold F_X0_linked at hF
  refine lv_iload_n hx hb dX0_linked_0 rfl (lv_at hl 0 rfl) ?_
  refine lv_bipush (v := 50) hx hb dX0_linked_1 (by decide +kernel) ?_
  refine lv_icmp_ne (tgt := 19) hx hb dX0_linked_3 (by decide) (fun c_1 => ?_) (fun c_1 => ?_)
  · have hF_6 := ineg c_1 hF
    clear hF
    refine lv_iload_n hx hb dX0_linked_19 rfl (lv_at hl 0 rfl) ?_
    refine lv_bipush (v := 49) hx hb dX0_linked_20 (by decide +kernel) ?_
    refine lv_icmp_ne (tgt := 49) hx hb dX0_linked_22 (by decide) (fun c_7 => ?_) (fun c_7 => ?_)
    · have hF_15 := ineg c_7 hF_6
      clear hF_6
      refine lv_iload_n hx hb dX0_linked_49 rfl (lv_at hl 0 rfl) ?_
      have h9 := Option.some.inj hF_15
      subst h9
      exact W.iret (v := p0) hx hb hr (fun t ht hW => ⟨⟨p0, (), rfl, rfl, m_end ht hP, hDD Γ⟩, hS.F ht⟩) hS.2.2 dX0_linked_50
    · have hF_8 := ipos c_7 hF_6
      clear hF_6
      refine lv_iload_n hx hb dX0_linked_25 rfl (lv_at hl 1 rfl) ?_
      refine lv_iconst (v := 4) hx hb dX0_linked_26 (by decide +kernel) ?_
      refine lv_icmp_ne (tgt := 35) hx hb dX0_linked_27 (by decide) (fun c_9 => ?_) (fun c_9 => ?_)
      · have hF_11 := ineg c_9 hF_8
        clear hF_8
        refine lv_iload_n hx hb dX0_linked_35 rfl (lv_at hl 1 rfl) ?_
        refine lv_bipush (v := 7) hx hb dX0_linked_36 (by decide +kernel) ?_
        refine lv_icmp_ne (tgt := 46) hx hb dX0_linked_38 (by decide) (fun c_12 => ?_) (fun c_12 => ?_)
        · have hF_14 := ineg c_12 hF_11
          clear hF_11
          refine lv_bipush (v := 33) hx hb dX0_linked_46 (by decide +kernel) ?_
          have h9 := Option.some.inj hF_14
          subst h9
          exact W.iret (v := 33) hx hb hr (fun t ht hW => ⟨⟨33, (), rfl, rfl, m_end ht hP, hDD Γ⟩, hS.F ht⟩) hS.2.2 dX0_linked_48
        · have hF_13 := ipos c_12 hF_11
          clear hF_11
          refine lv_bipush (v := 35) hx hb dX0_linked_41 (by decide +kernel) ?_
          refine lv_goto (tgt := 48) hx hb dX0_linked_43 (by decide) ?_
          have h9 := Option.some.inj hF_13
          subst h9
          exact W.iret (v := 35) hx hb hr (fun t ht hW => ⟨⟨35, (), rfl, rfl, m_end ht hP, hDD Γ⟩, hS.F ht⟩) hS.2.2 dX0_linked_48
      · have hF_10 := ipos c_9 hF_8
        clear hF_8
        refine lv_bipush (v := 34) hx hb dX0_linked_30 (by decide +kernel) ?_
        refine lv_goto (tgt := 48) hx hb dX0_linked_32 (by decide) ?_
        have h9 := Option.some.inj hF_10
        subst h9
        exact W.iret (v := 34) hx hb hr (fun t ht hW => ⟨⟨34, (), rfl, rfl, m_end ht hP, hDD Γ⟩, hS.F ht⟩) hS.2.2 dX0_linked_48
  · have hF_2 := ipos c_1 hF
    clear hF
    refine lv_iload_n hx hb dX0_linked_6 rfl (lv_at hl 1 rfl) ?_
    refine lv_iconst (v := 4) hx hb dX0_linked_7 (by decide +kernel) ?_
    refine lv_icmp_ne (tgt := 16) hx hb dX0_linked_8 (by decide) (fun c_3 => ?_) (fun c_3 => ?_)
    · have hF_5 := ineg c_3 hF_2
      clear hF_2
      refine lv_bipush (v := 38) hx hb dX0_linked_16 (by decide +kernel) ?_
      have h9 := Option.some.inj hF_5
      subst h9
      exact W.iret (v := 38) hx hb hr (fun t ht hW => ⟨⟨38, (), rfl, rfl, m_end ht hP, hDD Γ⟩, hS.F ht⟩) hS.2.2 dX0_linked_18
    · have hF_4 := ipos c_3 hF_2
      clear hF_2
      refine lv_bipush (v := 37) hx hb dX0_linked_11 (by decide +kernel) ?_
      refine lv_goto (tgt := 18) hx hb dX0_linked_13 (by decide) ?_
      have h9 := Option.some.inj hF_4
      subst h9
      exact W.iret (v := 37) hx hb hr (fun t ht hW => ⟨⟨37, (), rfl, rfl, m_end ht hP, hDD Γ⟩, hS.F ht⟩) hS.2.2 dX0_linked_18
theorem dX0_link_0 : decode cX0_link 0 = .ok (.iconst 0, 1) := by decide +kernel
theorem dX0_link_1 : decode cX0_link 1 = .ok (.istore_n 2, 1) := by decide +kernel
theorem dX0_link_2 : decode cX0_link 2 = .ok (.iconst 0, 1) := by decide +kernel
theorem dX0_link_3 : decode cX0_link 3 = .ok (.istore_n 3, 1) := by decide +kernel
theorem dX0_link_4 : decode cX0_link 4 = .ok (.iload_n 3, 1) := by decide +kernel
theorem dX0_link_5 : decode cX0_link 5 = .ok (.ldc 11, 2) := by decide +kernel
theorem dX0_link_7 : decode cX0_link 7 = .ok (.if_icmp .ge 107, 3) := by decide +kernel
theorem dX0_link_10 : decode cX0_link 10 = .ok (.iload_n 2, 1) := by decide +kernel
theorem dX0_link_11 : decode cX0_link 11 = .ok (.aload_n 0, 1) := by decide +kernel
theorem dX0_link_12 : decode cX0_link 12 = .ok (.getfield 26, 3) := by decide +kernel
theorem dX0_link_15 : decode cX0_link 15 = .ok (.if_icmp .ge 99, 3) := by decide +kernel
theorem dX0_link_18 : decode cX0_link 18 = .ok (.aload_n 0, 1) := by decide +kernel
theorem dX0_link_19 : decode cX0_link 19 = .ok (.iload_n 2, 1) := by decide +kernel
theorem dX0_link_20 : decode cX0_link 20 = .ok (.invokevirtual 58, 3) := by decide +kernel
theorem dX0_link_23 : decode cX0_link 23 = .ok (.istore 4, 2) := by decide +kernel
theorem dX0_link_25 : decode cX0_link 25 = .ok (.iload 4, 2) := by decide +kernel
theorem dX0_link_27 : decode cX0_link 27 = .ok (.bipush 49, 2) := by decide +kernel
theorem dX0_link_29 : decode cX0_link 29 = .ok (.if_icmp .eq 31, 3) := by decide +kernel
theorem dX0_link_32 : decode cX0_link 32 = .ok (.iload 4, 2) := by decide +kernel
theorem dX0_link_34 : decode cX0_link 34 = .ok (.bipush 50, 2) := by decide +kernel
theorem dX0_link_36 : decode cX0_link 36 = .ok (.if_icmp .eq 24, 3) := by decide +kernel
theorem dX0_link_39 : decode cX0_link 39 = .ok (.iload 4, 2) := by decide +kernel
theorem dX0_link_41 : decode cX0_link 41 = .ok (.bipush 36, 2) := by decide +kernel
theorem dX0_link_43 : decode cX0_link 43 = .ok (.if_icmp .eq 17, 3) := by decide +kernel
theorem dX0_link_46 : decode cX0_link 46 = .ok (.iload 4, 2) := by decide +kernel
theorem dX0_link_48 : decode cX0_link 48 = .ok (.bipush 39, 2) := by decide +kernel
theorem dX0_link_50 : decode cX0_link 50 = .ok (.if_icmp .eq 10, 3) := by decide +kernel
theorem dX0_link_53 : decode cX0_link 53 = .ok (.iload 4, 2) := by decide +kernel
theorem dX0_link_55 : decode cX0_link 55 = .ok (.bipush 40, 2) := by decide +kernel
theorem dX0_link_57 : decode cX0_link 57 = .ok (.if_icmp .ne 43, 3) := by decide +kernel
theorem dX0_link_60 : decode cX0_link 60 = .ok (.aload_n 1, 1) := by decide +kernel
theorem dX0_link_61 : decode cX0_link 61 = .ok (.getfield 62, 3) := by decide +kernel
theorem dX0_link_64 : decode cX0_link 64 = .ok (.aload_n 0, 1) := by decide +kernel
theorem dX0_link_65 : decode cX0_link 65 = .ok (.iload_n 2, 1) := by decide +kernel
theorem dX0_link_66 : decode cX0_link 66 = .ok (.iconst 1, 1) := by decide +kernel
theorem dX0_link_67 : decode cX0_link 67 = .ok (.iadd, 1) := by decide +kernel
theorem dX0_link_68 : decode cX0_link 68 = .ok (.invokevirtual 67, 3) := by decide +kernel
theorem dX0_link_71 : decode cX0_link 71 = .ok (.invokestatic 50, 3) := by decide +kernel
theorem dX0_link_74 : decode cX0_link 74 = .ok (.istore 5, 2) := by decide +kernel
theorem dX0_link_76 : decode cX0_link 76 = .ok (.aload_n 0, 1) := by decide +kernel
theorem dX0_link_77 : decode cX0_link 77 = .ok (.iload_n 2, 1) := by decide +kernel
theorem dX0_link_78 : decode cX0_link 78 = .ok (.iload 4, 2) := by decide +kernel
theorem dX0_link_80 : decode cX0_link 80 = .ok (.iload 5, 2) := by decide +kernel
theorem dX0_link_82 : decode cX0_link 82 = .ok (.bipush 16, 2) := by decide +kernel
theorem dX0_link_84 : decode cX0_link 84 = .ok (.ishr, 1) := by decide +kernel
theorem dX0_link_85 : decode cX0_link 85 = .ok (.invokestatic 70, 3) := by decide +kernel
theorem dX0_link_88 : decode cX0_link 88 = .ok (.invokevirtual 74, 3) := by decide +kernel
theorem dX0_link_91 : decode cX0_link 91 = .ok (.aload_n 0, 1) := by decide +kernel
theorem dX0_link_92 : decode cX0_link 92 = .ok (.iload_n 2, 1) := by decide +kernel
theorem dX0_link_93 : decode cX0_link 93 = .ok (.iconst 1, 1) := by decide +kernel
theorem dX0_link_94 : decode cX0_link 94 = .ok (.iadd, 1) := by decide +kernel
theorem dX0_link_95 : decode cX0_link 95 = .ok (.iload 5, 2) := by decide +kernel
theorem dX0_link_97 : decode cX0_link 97 = .ok (.invokevirtual 54, 3) := by decide +kernel
theorem dX0_link_100 : decode cX0_link 100 = .ok (.iload_n 2, 1) := by decide +kernel
theorem dX0_link_101 : decode cX0_link 101 = .ok (.iload 4, 2) := by decide +kernel
theorem dX0_link_103 : decode cX0_link 103 = .ok (.invokestatic 77, 3) := by decide +kernel
theorem dX0_link_106 : decode cX0_link 106 = .ok (.iadd, 1) := by decide +kernel
theorem dX0_link_107 : decode cX0_link 107 = .ok (.istore_n 2, 1) := by decide +kernel
theorem dX0_link_108 : decode cX0_link 108 = .ok (.iinc 3 1, 3) := by decide +kernel
theorem dX0_link_111 : decode cX0_link 111 = .ok (.goto (-107), 3) := by decide +kernel
theorem dX0_link_114 : decode cX0_link 114 = .ok (.return_, 1) := by decide +kernel
def F_X0_link  (Γ : HS) : HR :=
  loopF (fun (again_2 : (Int32 × Int32 × HS) → HR) (s_1 : Int32 × Int32 × HS) => (
    if 40000 ≤ s_1.2.1 then (
      some (0, s_1.2.2)
    ) else (
      if ((s_1.2.2 5).1 1) ≤ s_1.1 then (
        some (0, s_1.2.2)
      ) else (
        (F_X0_byteAt s_1.1 s_1.2.2).bind fun u_11 =>
        bnd (mrg (fun j => j == 5) s_1.2.2 u_11.2) fun σ_13 =>
        bnd (fun  (σ_15 : HS) => (
          (F_X0_widthOf u_11.1 σ_15).bind fun u_19 =>
          bnd ((s_1.1 + u_19.1)) fun (x_21 : Int32) =>
          bnd (s_1.2.1 + 1) fun (x_23 : Int32) =>
          again_2 (x_21, x_23, σ_15)
        ) : HS → HR) fun j_16 =>
        bnd (fun  (σ_25 : HS) => (
          (F_X0_pairAt (s_1.1 + 1) σ_25).bind fun u_29 =>
          bnd (mrg (fun j => j == 5) σ_25 u_29.2) fun σ_31 =>
          bnd ((g_at 16001 ((σ_31 1).2.1 7) u_29.1)) fun (x_33 : Int32) =>
          (F_X0_linked u_11.1 (x_33 >>> (16 &&& 31)) σ_31).bind fun u_35 =>
          (F_X0_setByte s_1.1 u_35.1 σ_31).bind fun u_37 =>
          bnd (mrg (fun j => j == 5) σ_31 u_37.2) fun σ_39 =>
          (F_X0_setPair (s_1.1 + 1) x_33 σ_39).bind fun u_41 =>
          bnd (mrg (fun j => j == 5) σ_39 u_41.2) fun σ_43 =>
          j_16  σ_43
        ) : HS → HR) fun j_26 =>
        if u_11.1 = 49 then (
          j_26  σ_13
        ) else (
          if u_11.1 = 50 then (
            j_26  σ_13
          ) else (
            if u_11.1 = 36 then (
              j_26  σ_13
            ) else (
              if u_11.1 = 39 then (
                j_26  σ_13
              ) else (
                if u_11.1 = 40 then (
                  j_26  σ_13
                ) else (
                  j_16  σ_13
                )
              )
            )
          )
        )
      )
    )
  )) FU (0, 0, Γ)
set_option maxHeartbeats 4000000 in
set_option maxRecDepth 100000 in
theorem k_X0_link (l : Launch) (dC : Nat → ClassId) (dI : Nat → Nat → Nat) (cB cC cI cJ cZ cP : ClassId) (oA : Nat → Nat) (rA : Nat → Nat → Nat) (sz : Nat)   (Γ : HS) (res : Int32 × HS) (hF : F_X0_link  Γ = some res) : Met l yX0_link (g_ws yX0_link cX0_link 6 none) ({ frames := 3, cells := 0, slots := 0, locals := 82 }) (va_Pc [.ref (oA 5), .ref (oA 1)] (g_B (dC, dI) [(cB, .byte), (cC, .char), (cI, .int), (cJ, .long), (cZ, .boolean), (cP, .object "StoryHouse$Play")] sz (b_w cB cC cI cJ cZ oA rA Γ ++ b_c cB cC cI cJ cZ oA rA Γ) g_0)) (va_Qv (fun (_ : Unit) => True) (g_Bo (dC, dI) (va_A (b_w cB cC cI cJ cZ oA rA Γ ++ b_c cB cC cI cJ cZ oA rA Γ) sz) (fun (_ : Unit) => (b_w cB cC cI cJ cZ oA rA res.2 ++ b_c cB cC cI cJ cZ oA rA res.2))) (va_A (b_w cB cC cI cJ cZ oA rA Γ ++ b_c cB cC cI cJ cZ oA rA Γ) sz)) 0 0 (va_A (b_w cB cC cI cJ cZ oA rA Γ ++ b_c cB cC cI cJ cZ oA rA Γ) sz) := by
  refine Met.ofW (cc := cX0_link) (maxL := 6) (ret := none) (by decide) rfl ?_
  intro p e s m args below meth c s₁ B hml hv
  obtain ⟨rfl, hsz, hP, hK, hD0, hE, hX⟩ := hv
  have hx := B.exec
  have hb := B.bytes
  have hr := B.returns
  have hts0 := atoms_spec (ws := g_ws yX0_link cX0_link 6 none) B.pre
  have hts : ∀ w ∈ lw_good, w.before ([.ref (oA 5), .ref (oA 1)] : List Value).toArray s = true := fun w z => hts0 w (List.mem_cons_of_mem _ z)
  have hown : s.vm.findClass RX0 = some m.cls := findClass_of_methodNamed B.named
  have hlocks := B.notSynchronized
  subst hsz
  have hD1 := hD0.self (sz := s.heap.size)
  generalize hAe : va_A (b_w cB cC cI cJ cZ oA rA Γ ++ b_c cB cC cI cJ cZ oA rA Γ) s.heap.size = A at hD1 hE hX ⊢
  have hA : ∀ q : Nat, s.heap.size ≤ q → A q := fun q z => by rw [← hAe]; exact Or.inr z
  have hDD : ∀ Γ : HS, va_D A (b_w cB cC cI cJ cZ oA rA Γ ++ b_c cB cC cI cJ cZ oA rA Γ) := fun Γ9 => va_D_fst (ws := (b_w cB cC cI cJ cZ oA rA Γ ++ b_c cB cC cI cJ cZ oA rA Γ)) (ws' := (b_w cB cC cI cJ cZ oA rA Γ9 ++ b_c cB cC cI cJ cZ oA rA Γ9)) rfl hD1
  have hN := hE.1
  have hS : va_S A s.heap s.heap [] := va_S.rf
  have hl := lv_entry ([.ref (oA 5), .ref (oA 1)]) (n := 6) (Nat.le_of_ble_eq_true rfl)
  rw [lg_entry_eq]
  generalize (lg_sl ([.ref (oA 5), .ref (oA 1)]) ++ List.replicate (6 - (lg_sl ([.ref (oA 5), .ref (oA 1)])).length) Slot.unset).toArray = ls at hl ⊢
  have hl : lv_has ls 6 [(0, .ref (oA 5)), (1, .ref (oA 1))] := hl
  unfold F_X0_link at hF
  refine lv_iconst (v := 0) hx hb dX0_link_0 (by decide +kernel) ?_
  refine lv_istore_n (lv' := [(2, .int 0), (0, .ref (oA 5)), (1, .ref (oA 1))]) hx hb dX0_link_1 rfl hl (by decide) rfl (fun ls hl => ?_)
  refine lv_iconst (v := 0) hx hb dX0_link_2 (by decide +kernel) ?_
  refine lv_istore_n (lv' := [(3, .int 0), (2, .int 0), (0, .ref (oA 5)), (1, .ref (oA 1))]) hx hb dX0_link_3 rfl hl (by decide) rfl (fun ls hl => ?_)
  refine loopF_ind (P := fun (s_1 : Int32 × Int32 × HS) => ∀ (H : Heap) (locs : List Loc), va_P (dC, dI) vwCl (b_w cB cC cI cJ cZ oA rA s_1.2.2 ++ b_c cB cC cI cJ cZ oA rA s_1.2.2) H → va_S A s.heap H locs → ∀ ls : Array Slot, lv_has ls 6 [(0, .ref (oA 5)), (1, .ref (oA 1)), (2, .int s_1.1), (3, .int s_1.2.1)] → W p l e (headSpec (g_ws yX0_link cX0_link 6 none) { frames := 3, cells := 0, slots := 0, locals := 82 }).room s m ([.ref (oA 5), .ref (oA 1)] : List Value).toArray below meth c H locs 0 0 (MQ below (va_Qv (fun (_ : Unit) => True) (g_Bo (dC, dI) A (fun (_ : Unit) => (b_w cB cC cI cJ cZ oA rA res.2 ++ b_c cB cC cI cJ cZ oA rA res.2))) A) ([.ref (oA 5), .ref (oA 1)] : List Value).toArray s 0 0 A) (F0 m 4 ls [])) ?_ _ _ hF _ _ hP hS ls (lv_sub hl [2, 3, 1, 0] rfl)
  intro again_2 s_1 ih_3 hF_4
  intro H locs hP hS ls hl
  refine lv_iload_n hx hb dX0_link_4 rfl (lv_at hl 3 rfl) ?_
  refine lv_ldc (v := 40000) hx hb hown (hts (.constant RX0 11 (40000)) wq_115) dX0_link_5 ?_
  refine lv_icmp_ge (tgt := 114) hx hb dX0_link_7 (by decide) (fun c_5 => ?_) (fun c_5 => ?_)
  · have hF_6 := ipos c_5 hF_4
    clear hF_4
    have h9 := Option.some.inj hF_6
    subst h9
    exact W.vret hx hb hr (fun t ht hW => ⟨⟨(), rfl, trivial, m_end ht hP, hDD _⟩, hS.F ht⟩) hS.2.2 dX0_link_114
  · have hF_7 := ineg c_5 hF_4
    clear hF_4
    refine lv_iload_n hx hb dX0_link_10 rfl (lv_at hl 2 rfl) ?_
    refine lv_aload_n hx hb dX0_link_11 rfl (lv_at hl 0 rfl) ?_
    refine va_get (D := (dC, dI)) (ci := 0) (v := .int ((s_1.2.2 5).1 1)) (C := RX0) (T := TX0) (N := 9) hx hb hts ii_X0 hown hK hP 9 rfl rfl 1 (by decide) (hts (.fieldLink RX0 26 "StoryHouse$Code" "length" "I") wq_117) (fun _ h9 => h9) rfl dX0_link_12 ?_
    refine lv_icmp_ge (tgt := 114) hx hb dX0_link_15 (by decide) (fun c_8 => ?_) (fun c_8 => ?_)
    · have hF_9 := ipos c_8 hF_7
      clear hF_7
      have h9 := Option.some.inj hF_9
      subst h9
      exact W.vret hx hb hr (fun t ht hW => ⟨⟨(), rfl, trivial, m_end ht hP, hDD _⟩, hS.F ht⟩) hS.2.2 dX0_link_114
    · have hF_10 := ineg c_8 hF_7
      clear hF_7
      refine lv_aload_n hx hb dX0_link_18 rfl (lv_at hl 0 rfl) ?_
      refine lv_iload_n hx hb dX0_link_19 rfl (lv_at hl 2 rfl) ?_
      obtain ⟨u_11, hu_11, hF_12⟩ := Option.bind_eq_some_iff.mp hF_10
      clear hF_10
      have hPc := bx_P (bs := [b_w cB cC cI cJ cZ oA rA s_1.2.2, b_c cB cC cI cJ cZ oA rA s_1.2.2]) (bs' := [b_c cB cC cI cJ cZ oA rA s_1.2.2]) (ws' := (b_c cB cC cI cJ cZ oA rA s_1.2.2)) hP fl_2 fl_1 [1] rfl
      have hDc := bx_D (bs := [b_w cB cC cI cJ cZ oA rA s_1.2.2, b_c cB cC cI cJ cZ oA rA s_1.2.2]) (bs' := [b_c cB cC cI cJ cZ oA rA s_1.2.2]) (ws' := (b_c cB cC cI cJ cZ oA rA s_1.2.2)) (hDD s_1.2.2) fl_2 fl_1 [1] (by decide +kernel) rfl
      have hFc := bx_F (bs := [b_w cB cC cI cJ cZ oA rA s_1.2.2, b_c cB cC cI cJ cZ oA rA s_1.2.2]) (bs' := [b_c cB cC cI cJ cZ oA rA s_1.2.2]) (wc := (b_c cB cC cI cJ cZ oA rA s_1.2.2)) (hDD s_1.2.2) hS hA fl_2 fl_1 [1] rfl
      refine g_ofi (wc := (b_c cB cC cI cJ cZ oA rA s_1.2.2)) (wr := (b_w cB cC cI cJ cZ oA rA s_1.2.2)) hP (hDD s_1.2.2) hS hFc (bx_ix [b_w cB cC cI cJ cZ oA rA s_1.2.2, b_c cB cC cI cJ cZ oA rA s_1.2.2] [1]) (bx_ix [b_w cB cC cI cJ cZ oA rA s_1.2.2, b_c cB cC cI cJ cZ oA rA s_1.2.2] [0]) (bx_C (bs := [b_w cB cC cI cJ cZ oA rA s_1.2.2, b_c cB cC cI cJ cZ oA rA s_1.2.2]) (bs' := [b_c cB cC cI cJ cZ oA rA s_1.2.2]) (is := [1]) fl_2 fl_1 rfl) (bx_C (bs := [b_w cB cC cI cJ cZ oA rA s_1.2.2, b_c cB cC cI cJ cZ oA rA s_1.2.2]) (bs' := [b_w cB cC cI cJ cZ oA rA s_1.2.2]) (is := [0]) fl_2 fl_1 rfl) (bx_n (by decide +kernel)) (bx_d (by decide +kernel)) (va_runV (As := [.int s_1.1]) (rest := []) ⟨hx, hb, hml, hown, hts⟩ (k_X0_byteAt l dC dI cB cC cI cJ cZ cP oA rA H.size  s_1.1 s_1.2.2 _ hu_11) (cwV 1 hts (g_gV wq_827 wq_828 wq_829 wq_6 wq_830) rfl rfl rfl (by decide +kernel) ⟨Nat.le_of_ble_eq_true rfl, Nat.le_of_ble_eq_true rfl⟩) (g_preV g_bl0 hK hPc hDc hS hE hFc g_to0 (q0 := 0) (ci := 0) rfl rfl) rfl rfl hl.1 rfl (lv_room (Nat.le_of_ble_eq_true rfl)) dX0_link_20 ⟨Nat.le_of_ble_eq_true rfl, Nat.le_of_ble_eq_true rfl⟩) (fun r9 u9 H locs hw9 hP' hD' hS => ?_)
      clear hPc hDc hFc
      subst hw9
      obtain ⟨σ_13, eσ_13, hF_14⟩ := bnd_e hF_12
      clear hF_12
      have hP : va_P (dC, dI) vwCl (b_w cB cC cI cJ cZ oA rA σ_13 ++ b_c cB cC cI cJ cZ oA rA σ_13) H := by rw [eσ_13]; exact bx_P (bs := [b_w cB cC cI cJ cZ oA rA s_1.2.2] ++ [b_c cB cC cI cJ cZ oA rA u_11.2]) (bs' := [b_w cB cC cI cJ cZ oA rA (mrg (fun j => j == 5) s_1.2.2 u_11.2), b_c cB cC cI cJ cZ oA rA (mrg (fun j => j == 5) s_1.2.2 u_11.2)]) hP' (fl_a fl_1 fl_1) fl_2 [0, 1] rfl
      clear hP' hD'
      refine lv_istore (lv' := [(4, .int u_11.1), (0, .ref (oA 5)), (1, .ref (oA 1)), (2, .int s_1.1), (3, .int s_1.2.1)]) hx hb dX0_link_23 hl (by decide) rfl (fun ls hl => ?_)
      refine lv_iload hx hb dX0_link_25 (lv_at hl 0 rfl) ?_
      refine lv_bipush (v := 49) hx hb dX0_link_27 (by decide +kernel) ?_
      obtain ⟨j_16, ej_16, hF_17⟩ := bnd_e hF_14
      clear hF_14
      have Jj_16 : ∀  (σ_15 : HS), j_16  σ_15 = some res → ∀ (H : Heap) (locs : List Loc), va_P (dC, dI) vwCl (b_w cB cC cI cJ cZ oA rA σ_15 ++ b_c cB cC cI cJ cZ oA rA σ_15) H → va_S A s.heap H locs → ∀ ls : Array Slot, lv_has ls 6 [(0, .ref (oA 5)), (1, .ref (oA 1)), (2, .int s_1.1), (3, .int s_1.2.1), (4, .int u_11.1)] → W p l e (headSpec (g_ws yX0_link cX0_link 6 none) { frames := 3, cells := 0, slots := 0, locals := 82 }).room s m ([.ref (oA 5), .ref (oA 1)] : List Value).toArray below meth c H locs 0 0 (MQ below (va_Qv (fun (_ : Unit) => True) (g_Bo (dC, dI) A (fun (_ : Unit) => (b_w cB cC cI cJ cZ oA rA res.2 ++ b_c cB cC cI cJ cZ oA rA res.2))) A) ([.ref (oA 5), .ref (oA 1)] : List Value).toArray s 0 0 A) (F0 m 100 ls []) := by
        intro  σ_15 hF0 H locs hP hS ls hl
        subst ej_16
        have hF_18 := hF0
        clear hF0
        refine lv_iload_n hx hb dX0_link_100 rfl (lv_at hl 2 rfl) ?_
        refine lv_iload hx hb dX0_link_101 (lv_at hl 4 rfl) ?_
        obtain ⟨u_19, hu_19, hF_20⟩ := Option.bind_eq_some_iff.mp hF_18
        clear hF_18
        have hPc : va_P (dC, dI) vwCl [] H := fun k q z => by simp at z
        have hDc : va_D A [] := ⟨fun i j p q z => by simp at z, fun k q z => by simp at z⟩
        have hFc := c_nil hA hS
        refine c_cs (v := u_19.1) hA hP hS (va_runS (As := [.int u_11.1]) (rest := [.int s_1.1]) ⟨hx, hb, hml, hown, hts⟩ (k_X0_widthOf l dC dI cB cC cI cJ cZ cP oA rA H.size  u_11.1 σ_15 _ hu_19) (va_cwS 1 hts (g_gS wq_841 wq_842 wq_6 wq_843) rfl rfl rfl (by decide +kernel) ⟨Nat.le_of_ble_eq_true rfl, Nat.le_of_ble_eq_true rfl⟩) (g_preS g_bl0 hK hPc hDc hS hE hFc g_to0) rfl rfl hl.1 rfl (lv_room (Nat.le_of_ble_eq_true rfl)) dX0_link_103 ⟨Nat.le_of_ble_eq_true rfl, Nat.le_of_ble_eq_true rfl⟩) (fun H locs hP hS => ?_)
        clear hPc hDc hFc
        refine lv_iadd hx hb dX0_link_106 ?_
        obtain ⟨x_21, ex_21, hF_22⟩ := bnd_e hF_20
        clear hF_20
        refine m_top ex_21 ?_
        refine lv_istore_n (lv' := [(2, .int x_21), (0, .ref (oA 5)), (1, .ref (oA 1)), (3, .int s_1.2.1), (4, .int u_11.1)]) hx hb dX0_link_107 rfl hl (by decide) rfl (fun ls hl => ?_)
        obtain ⟨x_23, ex_23, hF_24⟩ := bnd_e hF_22
        clear hF_22
        refine lv_iinc (v := x_23) (lv' := [(3, .int x_23), (2, .int x_21), (0, .ref (oA 5)), (1, .ref (oA 1)), (4, .int u_11.1)]) hx hb dX0_link_108 hl (k := 3) rfl (by rw [ex_23]; rfl) (by decide) rfl (fun ls hl => ?_)
        refine lv_goto (tgt := 4) hx hb dX0_link_111 (by decide) ?_
        exact ih_3 (x_21, x_23, σ_15) hF_24 _ _ hP hS ls (lv_sub hl [2, 3, 1, 0] rfl)
      obtain ⟨j_26, ej_26, hF_27⟩ := bnd_e hF_17
      clear hF_17
      have Jj_26 : ∀  (σ_25 : HS), j_26  σ_25 = some res → ∀ (H : Heap) (locs : List Loc), va_P (dC, dI) vwCl (b_w cB cC cI cJ cZ oA rA σ_25 ++ b_c cB cC cI cJ cZ oA rA σ_25) H → va_S A s.heap H locs → ∀ ls : Array Slot, lv_has ls 6 [(0, .ref (oA 5)), (1, .ref (oA 1)), (2, .int s_1.1), (3, .int s_1.2.1), (4, .int u_11.1)] → W p l e (headSpec (g_ws yX0_link cX0_link 6 none) { frames := 3, cells := 0, slots := 0, locals := 82 }).room s m ([.ref (oA 5), .ref (oA 1)] : List Value).toArray below meth c H locs 0 0 (MQ below (va_Qv (fun (_ : Unit) => True) (g_Bo (dC, dI) A (fun (_ : Unit) => (b_w cB cC cI cJ cZ oA rA res.2 ++ b_c cB cC cI cJ cZ oA rA res.2))) A) ([.ref (oA 5), .ref (oA 1)] : List Value).toArray s 0 0 A) (F0 m 60 ls []) := by
        intro  σ_25 hF0 H locs hP hS ls hl
        subst ej_26
        have hF_28 := hF0
        clear hF0
        refine lv_aload_n hx hb dX0_link_60 rfl (lv_at hl 1 rfl) ?_
        refine va_get (D := (dC, dI)) (ci := 10) (v := .ref (rA 1 7)) (C := RX10) (T := TX10) (N := 12) hx hb hts ii_X10 hown hK hP 0 rfl rfl 7 (by decide) (hts (.fieldLink RX0 62 "StoryHouse$Words" "meanings" "[I") wq_56) (fun _ h9 => h9) rfl dX0_link_61 ?_
        refine lv_aload_n hx hb dX0_link_64 rfl (lv_at hl 0 rfl) ?_
        refine lv_iload_n hx hb dX0_link_65 rfl (lv_at hl 2 rfl) ?_
        refine lv_iconst (v := 1) hx hb dX0_link_66 (by decide +kernel) ?_
        refine lv_iadd hx hb dX0_link_67 ?_
        obtain ⟨u_29, hu_29, hF_30⟩ := Option.bind_eq_some_iff.mp hF_28
        clear hF_28
        have hPc := bx_P (bs := [b_w cB cC cI cJ cZ oA rA σ_25, b_c cB cC cI cJ cZ oA rA σ_25]) (bs' := [b_c cB cC cI cJ cZ oA rA σ_25]) (ws' := (b_c cB cC cI cJ cZ oA rA σ_25)) hP fl_2 fl_1 [1] rfl
        have hDc := bx_D (bs := [b_w cB cC cI cJ cZ oA rA σ_25, b_c cB cC cI cJ cZ oA rA σ_25]) (bs' := [b_c cB cC cI cJ cZ oA rA σ_25]) (ws' := (b_c cB cC cI cJ cZ oA rA σ_25)) (hDD σ_25) fl_2 fl_1 [1] (by decide +kernel) rfl
        have hFc := bx_F (bs := [b_w cB cC cI cJ cZ oA rA σ_25, b_c cB cC cI cJ cZ oA rA σ_25]) (bs' := [b_c cB cC cI cJ cZ oA rA σ_25]) (wc := (b_c cB cC cI cJ cZ oA rA σ_25)) (hDD σ_25) hS hA fl_2 fl_1 [1] rfl
        refine g_ofi (wc := (b_c cB cC cI cJ cZ oA rA σ_25)) (wr := (b_w cB cC cI cJ cZ oA rA σ_25)) hP (hDD σ_25) hS hFc (bx_ix [b_w cB cC cI cJ cZ oA rA σ_25, b_c cB cC cI cJ cZ oA rA σ_25] [1]) (bx_ix [b_w cB cC cI cJ cZ oA rA σ_25, b_c cB cC cI cJ cZ oA rA σ_25] [0]) (bx_C (bs := [b_w cB cC cI cJ cZ oA rA σ_25, b_c cB cC cI cJ cZ oA rA σ_25]) (bs' := [b_c cB cC cI cJ cZ oA rA σ_25]) (is := [1]) fl_2 fl_1 rfl) (bx_C (bs := [b_w cB cC cI cJ cZ oA rA σ_25, b_c cB cC cI cJ cZ oA rA σ_25]) (bs' := [b_w cB cC cI cJ cZ oA rA σ_25]) (is := [0]) fl_2 fl_1 rfl) (bx_n (by decide +kernel)) (bx_d (by decide +kernel)) (va_runV (As := [.int (s_1.1 + 1)]) (rest := [.ref (rA 1 7)]) ⟨hx, hb, hml, hown, hts⟩ (k_X0_pairAt l dC dI cB cC cI cJ cZ cP oA rA H.size  (s_1.1 + 1) σ_25 _ hu_29) (cwV 1 hts (g_gV wq_831 wq_832 wq_833 wq_6 wq_834) rfl rfl rfl (by decide +kernel) ⟨Nat.le_of_ble_eq_true rfl, Nat.le_of_ble_eq_true rfl⟩) (g_preV g_bl0 hK hPc hDc hS hE hFc g_to0 (q0 := 0) (ci := 0) rfl rfl) rfl rfl hl.1 rfl (lv_room (Nat.le_of_ble_eq_true rfl)) dX0_link_68 ⟨Nat.le_of_ble_eq_true rfl, Nat.le_of_ble_eq_true rfl⟩) (fun r9 u9 H locs hw9 hP' hD' hS => ?_)
        clear hPc hDc hFc
        subst hw9
        obtain ⟨σ_31, eσ_31, hF_32⟩ := bnd_e hF_30
        clear hF_30
        have hP : va_P (dC, dI) vwCl (b_w cB cC cI cJ cZ oA rA σ_31 ++ b_c cB cC cI cJ cZ oA rA σ_31) H := by rw [eσ_31]; exact bx_P (bs := [b_w cB cC cI cJ cZ oA rA σ_25] ++ [b_c cB cC cI cJ cZ oA rA u_29.2]) (bs' := [b_w cB cC cI cJ cZ oA rA (mrg (fun j => j == 5) σ_25 u_29.2), b_c cB cC cI cJ cZ oA rA (mrg (fun j => j == 5) σ_25 u_29.2)]) hP' (fl_a fl_1 fl_1) fl_2 [0, 1] rfl
        clear hP' hD'
        have hq9 : ((b_w cB cC cI cJ cZ oA rA σ_31 ++ b_c cB cC cI cJ cZ oA rA σ_31))[6]? = some (rA 1 7, .inl (cI, 16001, .inl ((σ_31 1).2.1 7))) := rfl
        have hPc := hP.sub (ws' := [(rA 1 7, .inl (cI, 16001, .inl ((σ_31 1).2.1 7)))]) [6] (pk_fm (er_C hq9))
        have hDc := (hDD σ_31).sub (ws' := [(rA 1 7, .inl (cI, 16001, .inl ((σ_31 1).2.1 7)))]) [6] (by decide +kernel) (er_C hq9)
        have hFc := va_free (wc := [(rA 1 7, .inl (cI, 16001, .inl ((σ_31 1).2.1 7)))]) (hDD σ_31) hS hA [6] (er_C hq9)
        refine g_ofi (wc := [(rA 1 7, .inl (cI, 16001, .inl ((σ_31 1).2.1 7)))]) (wr := (((b_w cB cC cI cJ cZ oA rA σ_31 ++ b_c cB cC cI cJ cZ oA rA σ_31)).eraseIdx 6)) hP (hDD σ_31) hS hFc [6] ((List.range ((b_w cB cC cI cJ cZ oA rA σ_31 ++ b_c cB cC cI cJ cZ oA rA σ_31)).length).eraseIdx 6) (er_C hq9) er_R er_n er_d (va_runSN (As := [.ref (rA 1 7), .int u_29.1]) (rest := []) ⟨hx, hb, hml, hown, hts⟩ (c_X11_at l dC dI cB cC cI cJ cZ cP H.size (rA 1 7) u_29.1 16001 ((σ_31 1).2.1 7) (by decide)) ⟨va_cnB 2 hts (g_gA wq_407) rfl rfl rfl (nw_25 hN) (hts (.initialized RX11) wq_1) (by decide +kernel) ⟨Nat.le_of_ble_eq_true rfl, Nat.le_of_ble_eq_true rfl⟩, (hts (.static yX11_at) wq_406), trivial⟩ (g_preS g_bl0 hK hPc hDc hS hE hFc g_to0) rfl rfl hl.1 rfl (lv_room (Nat.le_of_ble_eq_true rfl)) dX0_link_71 ⟨Nat.le_of_ble_eq_true rfl, Nat.le_of_ble_eq_true rfl⟩) (fun r9 u9 H locs hw9 hP' hD' hS => ?_)
        clear hPc hDc hFc hD'
        have hP : va_P (dC, dI) vwCl (b_w cB cC cI cJ cZ oA rA σ_31 ++ b_c cB cC cI cJ cZ oA rA σ_31) H := er_I hP' hq9
        clear hP' hq9
        subst hw9
        obtain ⟨x_33, ex_33, hF_34⟩ := bnd_e hF_32
        clear hF_32
        refine m_top ex_33 ?_
        refine lv_istore (lv' := [(5, .int x_33), (0, .ref (oA 5)), (1, .ref (oA 1)), (2, .int s_1.1), (3, .int s_1.2.1), (4, .int u_11.1)]) hx hb dX0_link_74 hl (by decide) rfl (fun ls hl => ?_)
        refine lv_aload_n hx hb dX0_link_76 rfl (lv_at hl 1 rfl) ?_
        refine lv_iload_n hx hb dX0_link_77 rfl (lv_at hl 3 rfl) ?_
        refine lv_iload hx hb dX0_link_78 (lv_at hl 5 rfl) ?_
        refine lv_iload hx hb dX0_link_80 (lv_at hl 0 rfl) ?_
        refine lv_bipush (v := 16) hx hb dX0_link_82 (by decide +kernel) ?_
        refine lv_ishr hx hb dX0_link_84 ?_
        obtain ⟨u_35, hu_35, hF_36⟩ := Option.bind_eq_some_iff.mp hF_34
        clear hF_34
        have hPc : va_P (dC, dI) vwCl [] H := fun k q z => by simp at z
        have hDc : va_D A [] := ⟨fun i j p q z => by simp at z, fun k q z => by simp at z⟩
        have hFc := c_nil hA hS
        refine c_cs (v := u_35.1) hA hP hS (va_runS (As := [.int u_11.1, .int (x_33 >>> (16 &&& 31))]) (rest := [.int s_1.1, .ref (oA 5)]) ⟨hx, hb, hml, hown, hts⟩ (k_X0_linked l dC dI cB cC cI cJ cZ cP oA rA H.size  u_11.1 (x_33 >>> (16 &&& 31)) σ_31 _ hu_35) (va_cwS 2 hts (g_gS wq_835 wq_836 wq_6 wq_837) rfl rfl rfl (by decide +kernel) ⟨Nat.le_of_ble_eq_true rfl, Nat.le_of_ble_eq_true rfl⟩) (g_preS g_bl0 hK hPc hDc hS hE hFc g_to0) rfl rfl hl.1 rfl (lv_room (Nat.le_of_ble_eq_true rfl)) dX0_link_85 ⟨Nat.le_of_ble_eq_true rfl, Nat.le_of_ble_eq_true rfl⟩) (fun H locs hP hS => ?_)
        clear hPc hDc hFc
        obtain ⟨u_37, hu_37, hF_38⟩ := Option.bind_eq_some_iff.mp hF_36
        clear hF_36
        have hPc := bx_P (bs := [b_w cB cC cI cJ cZ oA rA σ_31, b_c cB cC cI cJ cZ oA rA σ_31]) (bs' := [b_c cB cC cI cJ cZ oA rA σ_31]) (ws' := (b_c cB cC cI cJ cZ oA rA σ_31)) hP fl_2 fl_1 [1] rfl
        have hDc := bx_D (bs := [b_w cB cC cI cJ cZ oA rA σ_31, b_c cB cC cI cJ cZ oA rA σ_31]) (bs' := [b_c cB cC cI cJ cZ oA rA σ_31]) (ws' := (b_c cB cC cI cJ cZ oA rA σ_31)) (hDD σ_31) fl_2 fl_1 [1] (by decide +kernel) rfl
        have hFc := bx_F (bs := [b_w cB cC cI cJ cZ oA rA σ_31, b_c cB cC cI cJ cZ oA rA σ_31]) (bs' := [b_c cB cC cI cJ cZ oA rA σ_31]) (wc := (b_c cB cC cI cJ cZ oA rA σ_31)) (hDD σ_31) hS hA fl_2 fl_1 [1] rfl
        refine g_ofv (wc := (b_c cB cC cI cJ cZ oA rA σ_31)) (wr := (b_w cB cC cI cJ cZ oA rA σ_31)) hP (hDD σ_31) hS hFc (bx_ix [b_w cB cC cI cJ cZ oA rA σ_31, b_c cB cC cI cJ cZ oA rA σ_31] [1]) (bx_ix [b_w cB cC cI cJ cZ oA rA σ_31, b_c cB cC cI cJ cZ oA rA σ_31] [0]) (bx_C (bs := [b_w cB cC cI cJ cZ oA rA σ_31, b_c cB cC cI cJ cZ oA rA σ_31]) (bs' := [b_c cB cC cI cJ cZ oA rA σ_31]) (is := [1]) fl_2 fl_1 rfl) (bx_C (bs := [b_w cB cC cI cJ cZ oA rA σ_31, b_c cB cC cI cJ cZ oA rA σ_31]) (bs' := [b_w cB cC cI cJ cZ oA rA σ_31]) (is := [0]) fl_2 fl_1 rfl) (bx_n (by decide +kernel)) (bx_d (by decide +kernel)) (va_runV (As := [.int s_1.1, .int u_35.1]) (rest := []) ⟨hx, hb, hml, hown, hts⟩ (k_X0_setByte l dC dI cB cC cI cJ cZ cP oA rA H.size  s_1.1 u_35.1 σ_31 _ hu_37) (cwV 2 hts (g_gV wq_838 wq_839 wq_2060 wq_6 wq_840) rfl rfl rfl (by decide +kernel) ⟨Nat.le_of_ble_eq_true rfl, Nat.le_of_ble_eq_true rfl⟩) (g_preV g_bl0 hK hPc hDc hS hE hFc g_to0 (q0 := 0) (ci := 0) rfl rfl) rfl rfl hl.1 rfl (lv_room (Nat.le_of_ble_eq_true rfl)) dX0_link_88 ⟨Nat.le_of_ble_eq_true rfl, Nat.le_of_ble_eq_true rfl⟩) (fun u9 H locs hw9 hP' hD' hS => ?_)
        clear hPc hDc hFc
        obtain ⟨σ_39, eσ_39, hF_40⟩ := bnd_e hF_38
        clear hF_38
        have hP : va_P (dC, dI) vwCl (b_w cB cC cI cJ cZ oA rA σ_39 ++ b_c cB cC cI cJ cZ oA rA σ_39) H := by rw [eσ_39]; exact bx_P (bs := [b_w cB cC cI cJ cZ oA rA σ_31] ++ [b_c cB cC cI cJ cZ oA rA u_37.2]) (bs' := [b_w cB cC cI cJ cZ oA rA (mrg (fun j => j == 5) σ_31 u_37.2), b_c cB cC cI cJ cZ oA rA (mrg (fun j => j == 5) σ_31 u_37.2)]) hP' (fl_a fl_1 fl_1) fl_2 [0, 1] rfl
        clear hP' hD'
        refine lv_aload_n hx hb dX0_link_91 rfl (lv_at hl 1 rfl) ?_
        refine lv_iload_n hx hb dX0_link_92 rfl (lv_at hl 3 rfl) ?_
        refine lv_iconst (v := 1) hx hb dX0_link_93 (by decide +kernel) ?_
        refine lv_iadd hx hb dX0_link_94 ?_
        refine lv_iload hx hb dX0_link_95 (lv_at hl 0 rfl) ?_
        obtain ⟨u_41, hu_41, hF_42⟩ := Option.bind_eq_some_iff.mp hF_40
        clear hF_40
        have hPc := bx_P (bs := [b_w cB cC cI cJ cZ oA rA σ_39, b_c cB cC cI cJ cZ oA rA σ_39]) (bs' := [b_c cB cC cI cJ cZ oA rA σ_39]) (ws' := (b_c cB cC cI cJ cZ oA rA σ_39)) hP fl_2 fl_1 [1] rfl
        have hDc := bx_D (bs := [b_w cB cC cI cJ cZ oA rA σ_39, b_c cB cC cI cJ cZ oA rA σ_39]) (bs' := [b_c cB cC cI cJ cZ oA rA σ_39]) (ws' := (b_c cB cC cI cJ cZ oA rA σ_39)) (hDD σ_39) fl_2 fl_1 [1] (by decide +kernel) rfl
        have hFc := bx_F (bs := [b_w cB cC cI cJ cZ oA rA σ_39, b_c cB cC cI cJ cZ oA rA σ_39]) (bs' := [b_c cB cC cI cJ cZ oA rA σ_39]) (wc := (b_c cB cC cI cJ cZ oA rA σ_39)) (hDD σ_39) hS hA fl_2 fl_1 [1] rfl
        refine g_ofv (wc := (b_c cB cC cI cJ cZ oA rA σ_39)) (wr := (b_w cB cC cI cJ cZ oA rA σ_39)) hP (hDD σ_39) hS hFc (bx_ix [b_w cB cC cI cJ cZ oA rA σ_39, b_c cB cC cI cJ cZ oA rA σ_39] [1]) (bx_ix [b_w cB cC cI cJ cZ oA rA σ_39, b_c cB cC cI cJ cZ oA rA σ_39] [0]) (bx_C (bs := [b_w cB cC cI cJ cZ oA rA σ_39, b_c cB cC cI cJ cZ oA rA σ_39]) (bs' := [b_c cB cC cI cJ cZ oA rA σ_39]) (is := [1]) fl_2 fl_1 rfl) (bx_C (bs := [b_w cB cC cI cJ cZ oA rA σ_39, b_c cB cC cI cJ cZ oA rA σ_39]) (bs' := [b_w cB cC cI cJ cZ oA rA σ_39]) (is := [0]) fl_2 fl_1 rfl) (bx_n (by decide +kernel)) (bx_d (by decide +kernel)) (va_runV (As := [.int (s_1.1 + 1), .int x_33]) (rest := []) ⟨hx, hb, hml, hown, hts⟩ (k_X0_setPair l dC dI cB cC cI cJ cZ cP oA rA H.size  (s_1.1 + 1) x_33 σ_39 _ hu_41) (cwV 2 hts (g_gV wq_676 wq_677 wq_2026 wq_6 wq_678) rfl rfl rfl (by decide +kernel) ⟨Nat.le_of_ble_eq_true rfl, Nat.le_of_ble_eq_true rfl⟩) (g_preV g_bl0 hK hPc hDc hS hE hFc g_to0 (q0 := 0) (ci := 0) rfl rfl) rfl rfl hl.1 rfl (lv_room (Nat.le_of_ble_eq_true rfl)) dX0_link_97 ⟨Nat.le_of_ble_eq_true rfl, Nat.le_of_ble_eq_true rfl⟩) (fun u9 H locs hw9 hP' hD' hS => ?_)
        clear hPc hDc hFc
        obtain ⟨σ_43, eσ_43, hF_44⟩ := bnd_e hF_42
        clear hF_42
        have hP : va_P (dC, dI) vwCl (b_w cB cC cI cJ cZ oA rA σ_43 ++ b_c cB cC cI cJ cZ oA rA σ_43) H := by rw [eσ_43]; exact bx_P (bs := [b_w cB cC cI cJ cZ oA rA σ_39] ++ [b_c cB cC cI cJ cZ oA rA u_41.2]) (bs' := [b_w cB cC cI cJ cZ oA rA (mrg (fun j => j == 5) σ_39 u_41.2), b_c cB cC cI cJ cZ oA rA (mrg (fun j => j == 5) σ_39 u_41.2)]) hP' (fl_a fl_1 fl_1) fl_2 [0, 1] rfl
        clear hP' hD'
        exact Jj_16  σ_43 hF_44 _ _ hP hS ls (lv_sub hl [1, 2, 3, 4, 5] rfl)
      refine lv_icmp_eq (tgt := 60) hx hb dX0_link_29 (by decide) (fun c_45 => ?_) (fun c_45 => ?_)
      · have hF_46 := ipos c_45 hF_27
        clear hF_27
        exact Jj_26  σ_13 hF_46 _ _ hP hS ls (lv_sub hl [1, 2, 3, 4, 0] rfl)
      · have hF_47 := ineg c_45 hF_27
        clear hF_27
        refine lv_iload hx hb dX0_link_32 (lv_at hl 0 rfl) ?_
        refine lv_bipush (v := 50) hx hb dX0_link_34 (by decide +kernel) ?_
        refine lv_icmp_eq (tgt := 60) hx hb dX0_link_36 (by decide) (fun c_48 => ?_) (fun c_48 => ?_)
        · have hF_49 := ipos c_48 hF_47
          clear hF_47
          exact Jj_26  σ_13 hF_49 _ _ hP hS ls (lv_sub hl [1, 2, 3, 4, 0] rfl)
        · have hF_50 := ineg c_48 hF_47
          clear hF_47
          refine lv_iload hx hb dX0_link_39 (lv_at hl 0 rfl) ?_
          refine lv_bipush (v := 36) hx hb dX0_link_41 (by decide +kernel) ?_
          refine lv_icmp_eq (tgt := 60) hx hb dX0_link_43 (by decide) (fun c_51 => ?_) (fun c_51 => ?_)
          · have hF_52 := ipos c_51 hF_50
            clear hF_50
            exact Jj_26  σ_13 hF_52 _ _ hP hS ls (lv_sub hl [1, 2, 3, 4, 0] rfl)
          · have hF_53 := ineg c_51 hF_50
            clear hF_50
            refine lv_iload hx hb dX0_link_46 (lv_at hl 0 rfl) ?_
            refine lv_bipush (v := 39) hx hb dX0_link_48 (by decide +kernel) ?_
            refine lv_icmp_eq (tgt := 60) hx hb dX0_link_50 (by decide) (fun c_54 => ?_) (fun c_54 => ?_)
            · have hF_55 := ipos c_54 hF_53
              clear hF_53
              exact Jj_26  σ_13 hF_55 _ _ hP hS ls (lv_sub hl [1, 2, 3, 4, 0] rfl)
            · have hF_56 := ineg c_54 hF_53
              clear hF_53
              refine lv_iload hx hb dX0_link_53 (lv_at hl 0 rfl) ?_
              refine lv_bipush (v := 40) hx hb dX0_link_55 (by decide +kernel) ?_
              refine lv_icmp_ne (tgt := 100) hx hb dX0_link_57 (by decide) (fun c_57 => ?_) (fun c_57 => ?_)
              · have hF_59 := ineg c_57 hF_56
                clear hF_56
                exact Jj_16  σ_13 hF_59 _ _ hP hS ls (lv_sub hl [1, 2, 3, 4, 0] rfl)
              · have hF_58 := ipos c_57 hF_56
                clear hF_56
                exact Jj_26  σ_13 hF_58 _ _ hP hS ls (lv_sub hl [1, 2, 3, 4, 0] rfl)
theorem dX0_areRead_0 : decode cX0_areRead 0 = .ok (.iload_n 1, 1) := by decide +kernel
theorem dX0_areRead_1 : decode cX0_areRead 1 = .ok (.istore_n 3, 1) := by decide +kernel
theorem dX0_areRead_2 : decode cX0_areRead 2 = .ok (.iload_n 3, 1) := by decide +kernel
theorem dX0_areRead_3 : decode cX0_areRead 3 = .ok (.iload_n 1, 1) := by decide +kernel
theorem dX0_areRead_4 : decode cX0_areRead 4 = .ok (.iload_n 2, 1) := by decide +kernel
theorem dX0_areRead_5 : decode cX0_areRead 5 = .ok (.iadd, 1) := by decide +kernel
theorem dX0_areRead_6 : decode cX0_areRead 6 = .ok (.if_icmp .ge 153, 3) := by decide +kernel
theorem dX0_areRead_9 : decode cX0_areRead 9 = .ok (.iload_n 3, 1) := by decide +kernel
theorem dX0_areRead_10 : decode cX0_areRead 10 = .ok (.sipush 320, 3) := by decide +kernel
theorem dX0_areRead_13 : decode cX0_areRead 13 = .ok (.if_icmp .ge 146, 3) := by decide +kernel
theorem dX0_areRead_16 : decode cX0_areRead 16 = .ok (.aload_n 0, 1) := by decide +kernel
theorem dX0_areRead_17 : decode cX0_areRead 17 = .ok (.getfield 20, 3) := by decide +kernel
theorem dX0_areRead_20 : decode cX0_areRead 20 = .ok (.iload_n 3, 1) := by decide +kernel
theorem dX0_areRead_21 : decode cX0_areRead 21 = .ok (.invokestatic 50, 3) := by decide +kernel
theorem dX0_areRead_24 : decode cX0_areRead 24 = .ok (.istore 4, 2) := by decide +kernel
theorem dX0_areRead_26 : decode cX0_areRead 26 = .ok (.aload_n 0, 1) := by decide +kernel
theorem dX0_areRead_27 : decode cX0_areRead 27 = .ok (.getfield 16, 3) := by decide +kernel
theorem dX0_areRead_30 : decode cX0_areRead 30 = .ok (.iload_n 3, 1) := by decide +kernel
theorem dX0_areRead_31 : decode cX0_areRead 31 = .ok (.invokestatic 50, 3) := by decide +kernel
theorem dX0_areRead_34 : decode cX0_areRead 34 = .ok (.istore 5, 2) := by decide +kernel
theorem dX0_areRead_36 : decode cX0_areRead 36 = .ok (.iconst 0, 1) := by decide +kernel
theorem dX0_areRead_37 : decode cX0_areRead 37 = .ok (.istore 6, 2) := by decide +kernel
theorem dX0_areRead_39 : decode cX0_areRead 39 = .ok (.iload 6, 2) := by decide +kernel
theorem dX0_areRead_41 : decode cX0_areRead 41 = .ok (.ldc 11, 2) := by decide +kernel
theorem dX0_areRead_43 : decode cX0_areRead 43 = .ok (.if_icmp .ge 101, 3) := by decide +kernel
theorem dX0_areRead_46 : decode cX0_areRead 46 = .ok (.iload 5, 2) := by decide +kernel
theorem dX0_areRead_48 : decode cX0_areRead 48 = .ok (.iload 4, 2) := by decide +kernel
theorem dX0_areRead_50 : decode cX0_areRead 50 = .ok (.if_icmp .ge 94, 3) := by decide +kernel
theorem dX0_areRead_53 : decode cX0_areRead 53 = .ok (.aload_n 0, 1) := by decide +kernel
theorem dX0_areRead_54 : decode cX0_areRead 54 = .ok (.iload 5, 2) := by decide +kernel
theorem dX0_areRead_56 : decode cX0_areRead 56 = .ok (.invokevirtual 58, 3) := by decide +kernel
theorem dX0_areRead_59 : decode cX0_areRead 59 = .ok (.istore 7, 2) := by decide +kernel
theorem dX0_areRead_61 : decode cX0_areRead 61 = .ok (.iload 7, 2) := by decide +kernel
theorem dX0_areRead_63 : decode cX0_areRead 63 = .ok (.bipush 41, 2) := by decide +kernel
theorem dX0_areRead_65 : decode cX0_areRead 65 = .ok (.if_icmp .lt 14, 3) := by decide +kernel
theorem dX0_areRead_68 : decode cX0_areRead 68 = .ok (.iload 7, 2) := by decide +kernel
theorem dX0_areRead_70 : decode cX0_areRead 70 = .ok (.bipush 44, 2) := by decide +kernel
theorem dX0_areRead_72 : decode cX0_areRead 72 = .ok (.if_icmp .gt 7, 3) := by decide +kernel
theorem dX0_areRead_75 : decode cX0_areRead 75 = .ok (.iconst 1, 1) := by decide +kernel
theorem dX0_areRead_76 : decode cX0_areRead 76 = .ok (.goto 4, 3) := by decide +kernel
theorem dX0_areRead_79 : decode cX0_areRead 79 = .ok (.iconst 0, 1) := by decide +kernel
theorem dX0_areRead_80 : decode cX0_areRead 80 = .ok (.istore 8, 2) := by decide +kernel
theorem dX0_areRead_82 : decode cX0_areRead 82 = .ok (.iload 7, 2) := by decide +kernel
theorem dX0_areRead_84 : decode cX0_areRead 84 = .ok (.bipush 48, 2) := by decide +kernel
theorem dX0_areRead_86 : decode cX0_areRead 86 = .ok (.if_icmp .gt 40, 3) := by decide +kernel
theorem dX0_areRead_89 : decode cX0_areRead 89 = .ok (.iload 8, 2) := by decide +kernel
theorem dX0_areRead_91 : decode cX0_areRead 91 = .ok (.ifCond .eq 37, 3) := by decide +kernel
theorem dX0_areRead_94 : decode cX0_areRead 94 = .ok (.aload_n 0, 1) := by decide +kernel
theorem dX0_areRead_95 : decode cX0_areRead 95 = .ok (.iload 5, 2) := by decide +kernel
theorem dX0_areRead_97 : decode cX0_areRead 97 = .ok (.iconst 1, 1) := by decide +kernel
theorem dX0_areRead_98 : decode cX0_areRead 98 = .ok (.iadd, 1) := by decide +kernel
theorem dX0_areRead_99 : decode cX0_areRead 99 = .ok (.invokevirtual 67, 3) := by decide +kernel
theorem dX0_areRead_102 : decode cX0_areRead 102 = .ok (.aload_n 0, 1) := by decide +kernel
theorem dX0_areRead_103 : decode cX0_areRead 103 = .ok (.getfield 16, 3) := by decide +kernel
theorem dX0_areRead_106 : decode cX0_areRead 106 = .ok (.iload_n 3, 1) := by decide +kernel
theorem dX0_areRead_107 : decode cX0_areRead 107 = .ok (.invokestatic 50, 3) := by decide +kernel
theorem dX0_areRead_110 : decode cX0_areRead 110 = .ok (.if_icmp .lt 16, 3) := by decide +kernel
theorem dX0_areRead_113 : decode cX0_areRead 113 = .ok (.aload_n 0, 1) := by decide +kernel
theorem dX0_areRead_114 : decode cX0_areRead 114 = .ok (.iload 5, 2) := by decide +kernel
theorem dX0_areRead_116 : decode cX0_areRead 116 = .ok (.iconst 1, 1) := by decide +kernel
theorem dX0_areRead_117 : decode cX0_areRead 117 = .ok (.iadd, 1) := by decide +kernel
theorem dX0_areRead_118 : decode cX0_areRead 118 = .ok (.invokevirtual 67, 3) := by decide +kernel
theorem dX0_areRead_121 : decode cX0_areRead 121 = .ok (.iload 4, 2) := by decide +kernel
theorem dX0_areRead_123 : decode cX0_areRead 123 = .ok (.if_icmp .lt 5, 3) := by decide +kernel
theorem dX0_areRead_126 : decode cX0_areRead 126 = .ok (.iconst 0, 1) := by decide +kernel
theorem dX0_areRead_127 : decode cX0_areRead 127 = .ok (.ireturn, 1) := by decide +kernel
theorem dX0_areRead_128 : decode cX0_areRead 128 = .ok (.iload 5, 2) := by decide +kernel
theorem dX0_areRead_130 : decode cX0_areRead 130 = .ok (.iload 7, 2) := by decide +kernel
theorem dX0_areRead_132 : decode cX0_areRead 132 = .ok (.invokestatic 77, 3) := by decide +kernel
theorem dX0_areRead_135 : decode cX0_areRead 135 = .ok (.iadd, 1) := by decide +kernel
theorem dX0_areRead_136 : decode cX0_areRead 136 = .ok (.istore 5, 2) := by decide +kernel
theorem dX0_areRead_138 : decode cX0_areRead 138 = .ok (.iinc 6 1, 3) := by decide +kernel
theorem dX0_areRead_141 : decode cX0_areRead 141 = .ok (.goto (-102), 3) := by decide +kernel
theorem dX0_areRead_144 : decode cX0_areRead 144 = .ok (.iload 5, 2) := by decide +kernel
theorem dX0_areRead_146 : decode cX0_areRead 146 = .ok (.iload 4, 2) := by decide +kernel
theorem dX0_areRead_148 : decode cX0_areRead 148 = .ok (.if_icmp .eq 5, 3) := by decide +kernel
theorem dX0_areRead_151 : decode cX0_areRead 151 = .ok (.iconst 0, 1) := by decide +kernel
theorem dX0_areRead_152 : decode cX0_areRead 152 = .ok (.ireturn, 1) := by decide +kernel
theorem dX0_areRead_153 : decode cX0_areRead 153 = .ok (.iinc 3 1, 3) := by decide +kernel
theorem dX0_areRead_156 : decode cX0_areRead 156 = .ok (.goto (-154), 3) := by decide +kernel
theorem dX0_areRead_159 : decode cX0_areRead 159 = .ok (.iconst 1, 1) := by decide +kernel
theorem dX0_areRead_160 : decode cX0_areRead 160 = .ok (.ireturn, 1) := by decide +kernel
def F_X0_areRead (p0 : Int32) (p1 : Int32) (Γ : HS) : HR :=
  loopF (fun (again_2 : (Int32 × HS) → HR) (s_1 : Int32 × HS) => (
    if (p0 + p1) ≤ s_1.1 then (
      some (1, s_1.2)
    ) else (
      if 320 ≤ s_1.1 then (
        some (1, s_1.2)
      ) else (
        bnd ((g_at 320 ((s_1.2 5).2.1 3) s_1.1)) fun (x_11 : Int32) =>
        bnd ((g_at 320 ((s_1.2 5).2.1 2) s_1.1)) fun (x_13 : Int32) =>
        loopF (fun (again_16 : (Int32 × Int32 × HS) → HR) (s_15 : Int32 × Int32 × HS) => (
          bnd (fun  (σ_19 : HS) => (
            if s_15.1 = x_11 then (
              bnd (s_1.1 + 1) fun (x_25 : Int32) =>
              again_2 (x_25, σ_19)
            ) else (
              some (0, σ_19)
            )
          ) : HS → HR) fun j_20 =>
          if 40000 ≤ s_15.2.1 then (
            j_20  s_15.2.2
          ) else (
            if x_11 ≤ s_15.1 then (
              j_20  s_15.2.2
            ) else (
              (F_X0_byteAt s_15.1 s_15.2.2).bind fun u_34 =>
              bnd (fun (t_36 : Int32) (σ_37 : HS) => (
                if 48 < u_34.1 then (
                  some (0, σ_37)
                ) else (
                  bnd (fun  (σ_44 : HS) => (
                    (F_X0_widthOf u_34.1 σ_44).bind fun u_48 =>
                    bnd ((s_15.1 + u_48.1)) fun (x_50 : Int32) =>
                    bnd (s_15.2.1 + 1) fun (x_52 : Int32) =>
                    again_16 (x_50, x_52, σ_44)
                  ) : HS → HR) fun j_45 =>
                  if t_36 = 0 then (
                    j_45  σ_37
                  ) else (
                    (F_X0_pairAt (s_15.1 + 1) σ_37).bind fun u_57 =>
                    bnd ((g_at 320 ((u_57.2 5).2.1 2) s_1.1)) fun (x_59 : Int32) =>
                    if u_57.1 < x_59 then (
                      some (0, u_57.2)
                    ) else (
                      (F_X0_pairAt (s_15.1 + 1) u_57.2).bind fun u_64 =>
                      if u_64.1 < x_11 then (
                        j_45  u_64.2
                      ) else (
                        some (0, u_64.2)
                      )
                    )
                  )
                )
              ) : Int32 → HS → HR) fun j_38 =>
              bnd (fun  (σ_69 : HS) => (
                j_38 0 σ_69
              ) : HS → HR) fun j_70 =>
              if u_34.1 < 41 then (
                j_70  u_34.2
              ) else (
                if 44 < u_34.1 then (
                  j_70  u_34.2
                ) else (
                  j_38 1 u_34.2
                )
              )
            )
          )
        )) FU (x_13, 0, s_1.2)
      )
    )
  )) FU (p0, Γ)
set_option maxHeartbeats 4000000 in
set_option maxRecDepth 100000 in
theorem k_X0_areRead (l : Launch) (dC : Nat → ClassId) (dI : Nat → Nat → Nat) (cB cC cI cJ cZ cP : ClassId) (oA : Nat → Nat) (rA : Nat → Nat → Nat) (sz : Nat)  (p0 : Int32) (p1 : Int32) (Γ : HS) (res : Int32 × HS) (hF : F_X0_areRead p0 p1 Γ = some res) : Met l yX0_areRead (g_ws yX0_areRead cX0_areRead 9 (some .boolean)) ({ frames := 3, cells := 0, slots := 0, locals := 82 }) (va_Pc [.ref (oA 5), .int p0, .int p1] (g_B (dC, dI) [(cB, .byte), (cC, .char), (cI, .int), (cJ, .long), (cZ, .boolean), (cP, .object "StoryHouse$Play")] sz (b_c cB cC cI cJ cZ oA rA Γ) g_0)) (va_Qi (fun r (_ : Unit) => r = res.1) (g_Bo (dC, dI) (va_A (b_c cB cC cI cJ cZ oA rA Γ) sz) (fun (_ : Unit) => (b_c cB cC cI cJ cZ oA rA res.2))) (va_A (b_c cB cC cI cJ cZ oA rA Γ) sz)) 0 0 (va_A (b_c cB cC cI cJ cZ oA rA Γ) sz) := by
  refine Met.ofW (cc := cX0_areRead) (maxL := 9) (ret := (some .boolean)) (by decide) rfl ?_
  intro p e s m args below meth c s₁ B hml hv
  obtain ⟨rfl, hsz, hP, hK, hD0, hE, hX⟩ := hv
  have hx := B.exec
  have hb := B.bytes
  have hr := B.returns
  have hts0 := atoms_spec (ws := g_ws yX0_areRead cX0_areRead 9 (some .boolean)) B.pre
  have hts : ∀ w ∈ lw_good, w.before ([.ref (oA 5), .int p0, .int p1] : List Value).toArray s = true := fun w z => hts0 w (List.mem_cons_of_mem _ z)
  have hown : s.vm.findClass RX0 = some m.cls := findClass_of_methodNamed B.named
  have hlocks := B.notSynchronized
  subst hsz
  have hD1 := hD0.self (sz := s.heap.size)
  generalize hAe : va_A (b_c cB cC cI cJ cZ oA rA Γ) s.heap.size = A at hD1 hE hX ⊢
  have hA : ∀ q : Nat, s.heap.size ≤ q → A q := fun q z => by rw [← hAe]; exact Or.inr z
  have hDD : ∀ Γ : HS, va_D A (b_c cB cC cI cJ cZ oA rA Γ) := fun Γ9 => va_D_fst (ws := (b_c cB cC cI cJ cZ oA rA Γ)) (ws' := (b_c cB cC cI cJ cZ oA rA Γ9)) rfl hD1
  have hN := hE.1
  have hS : va_S A s.heap s.heap [] := va_S.rf
  have hl := lv_entry ([.ref (oA 5), .int p0, .int p1]) (n := 9) (Nat.le_of_ble_eq_true rfl)
  rw [lg_entry_eq]
  generalize (lg_sl ([.ref (oA 5), .int p0, .int p1]) ++ List.replicate (9 - (lg_sl ([.ref (oA 5), .int p0, .int p1])).length) Slot.unset).toArray = ls at hl ⊢
  have hl : lv_has ls 9 [(0, .ref (oA 5)), (1, .int p0), (2, .int p1)] := hl
  unfold F_X0_areRead at hF
  refine lv_iload_n hx hb dX0_areRead_0 rfl (lv_at hl 1 rfl) ?_
  refine lv_istore_n (lv' := [(3, .int p0), (0, .ref (oA 5)), (1, .int p0), (2, .int p1)]) hx hb dX0_areRead_1 rfl hl (by decide) rfl (fun ls hl => ?_)
  refine loopF_ind (P := fun (s_1 : Int32 × HS) => ∀ (H : Heap) (locs : List Loc), va_P (dC, dI) vwCl (b_c cB cC cI cJ cZ oA rA s_1.2) H → va_S A s.heap H locs → ∀ ls : Array Slot, lv_has ls 9 [(0, .ref (oA 5)), (1, .int p0), (2, .int p1), (3, .int s_1.1)] → W p l e (headSpec (g_ws yX0_areRead cX0_areRead 9 (some .boolean)) { frames := 3, cells := 0, slots := 0, locals := 82 }).room s m ([.ref (oA 5), .int p0, .int p1] : List Value).toArray below meth c H locs 0 0 (MQ below (va_Qi (fun r (_ : Unit) => r = res.1) (g_Bo (dC, dI) A (fun (_ : Unit) => (b_c cB cC cI cJ cZ oA rA res.2))) A) ([.ref (oA 5), .int p0, .int p1] : List Value).toArray s 0 0 A) (F0 m 2 ls [])) ?_ _ _ hF _ _ hP hS ls (lv_sub hl [1, 2, 3, 0] rfl)
  intro again_2 s_1 ih_3 hF_4
  intro H locs hP hS ls hl
  refine lv_iload_n hx hb dX0_areRead_2 rfl (lv_at hl 3 rfl) ?_
  refine lv_iload_n hx hb dX0_areRead_3 rfl (lv_at hl 1 rfl) ?_
  refine lv_iload_n hx hb dX0_areRead_4 rfl (lv_at hl 2 rfl) ?_
  refine lv_iadd hx hb dX0_areRead_5 ?_
  refine lv_icmp_ge (tgt := 159) hx hb dX0_areRead_6 (by decide) (fun c_5 => ?_) (fun c_5 => ?_)
  · have hF_6 := ipos c_5 hF_4
    clear hF_4
    refine lv_iconst (v := 1) hx hb dX0_areRead_159 (by decide +kernel) ?_
    have h9 := Option.some.inj hF_6
    subst h9
    exact W.zret (v := 1) hx hb hr (by decide +kernel) (fun t ht hW => ⟨⟨1, (), rfl, rfl, m_end ht hP, hDD _⟩, hS.F ht⟩) hS.2.2 dX0_areRead_160
  · have hF_7 := ineg c_5 hF_4
    clear hF_4
    refine lv_iload_n hx hb dX0_areRead_9 rfl (lv_at hl 3 rfl) ?_
    refine lv_sipush (v := 320) hx hb dX0_areRead_10 (by decide +kernel) ?_
    refine lv_icmp_ge (tgt := 159) hx hb dX0_areRead_13 (by decide) (fun c_8 => ?_) (fun c_8 => ?_)
    · have hF_9 := ipos c_8 hF_7
      clear hF_7
      refine lv_iconst (v := 1) hx hb dX0_areRead_159 (by decide +kernel) ?_
      have h9 := Option.some.inj hF_9
      subst h9
      exact W.zret (v := 1) hx hb hr (by decide +kernel) (fun t ht hW => ⟨⟨1, (), rfl, rfl, m_end ht hP, hDD _⟩, hS.F ht⟩) hS.2.2 dX0_areRead_160
    · have hF_10 := ineg c_8 hF_7
      clear hF_7
      refine lv_aload_n hx hb dX0_areRead_16 rfl (lv_at hl 0 rfl) ?_
      refine va_get (D := (dC, dI)) (ci := 0) (v := .ref (rA 5 3)) (C := RX0) (T := TX0) (N := 9) hx hb hts ii_X0 hown hK hP 0 rfl rfl 3 (by decide) (hts (.fieldLink RX0 20 "StoryHouse$Code" "ends" "[I") wq_120) (fun _ h9 => h9) rfl dX0_areRead_17 ?_
      refine lv_iload_n hx hb dX0_areRead_20 rfl (lv_at hl 3 rfl) ?_
      have hq9 : ((b_c cB cC cI cJ cZ oA rA s_1.2))[3]? = some (rA 5 3, .inl (cI, 320, .inl ((s_1.2 5).2.1 3))) := rfl
      have hPc := hP.sub (ws' := [(rA 5 3, .inl (cI, 320, .inl ((s_1.2 5).2.1 3)))]) [3] (pk_fm (er_C hq9))
      have hDc := (hDD s_1.2).sub (ws' := [(rA 5 3, .inl (cI, 320, .inl ((s_1.2 5).2.1 3)))]) [3] (by decide +kernel) (er_C hq9)
      have hFc := va_free (wc := [(rA 5 3, .inl (cI, 320, .inl ((s_1.2 5).2.1 3)))]) (hDD s_1.2) hS hA [3] (er_C hq9)
      refine g_ofi (wc := [(rA 5 3, .inl (cI, 320, .inl ((s_1.2 5).2.1 3)))]) (wr := (((b_c cB cC cI cJ cZ oA rA s_1.2)).eraseIdx 3)) hP (hDD s_1.2) hS hFc [3] ((List.range ((b_c cB cC cI cJ cZ oA rA s_1.2)).length).eraseIdx 3) (er_C hq9) er_R er_n er_d (va_runSN (As := [.ref (rA 5 3), .int s_1.1]) (rest := []) ⟨hx, hb, hml, hown, hts⟩ (c_X11_at l dC dI cB cC cI cJ cZ cP H.size (rA 5 3) s_1.1 320 ((s_1.2 5).2.1 3) (by decide)) ⟨va_cnB 2 hts (g_gA wq_407) rfl rfl rfl (nw_25 hN) (hts (.initialized RX11) wq_1) (by decide +kernel) ⟨Nat.le_of_ble_eq_true rfl, Nat.le_of_ble_eq_true rfl⟩, (hts (.static yX11_at) wq_406), trivial⟩ (g_preS g_bl0 hK hPc hDc hS hE hFc g_to0) rfl rfl hl.1 rfl (lv_room (Nat.le_of_ble_eq_true rfl)) dX0_areRead_21 ⟨Nat.le_of_ble_eq_true rfl, Nat.le_of_ble_eq_true rfl⟩) (fun r9 u9 H locs hw9 hP' hD' hS => ?_)
      clear hPc hDc hFc hD'
      have hP : va_P (dC, dI) vwCl (b_c cB cC cI cJ cZ oA rA s_1.2) H := er_I hP' hq9
      clear hP' hq9
      subst hw9
      obtain ⟨x_11, ex_11, hF_12⟩ := bnd_e hF_10
      clear hF_10
      refine m_top ex_11 ?_
      refine lv_istore (lv' := [(4, .int x_11), (0, .ref (oA 5)), (1, .int p0), (2, .int p1), (3, .int s_1.1)]) hx hb dX0_areRead_24 hl (by decide) rfl (fun ls hl => ?_)
      refine lv_aload_n hx hb dX0_areRead_26 rfl (lv_at hl 1 rfl) ?_
      refine va_get (D := (dC, dI)) (ci := 0) (v := .ref (rA 5 2)) (C := RX0) (T := TX0) (N := 9) hx hb hts ii_X0 hown hK hP 0 rfl rfl 2 (by decide) (hts (.fieldLink RX0 16 "StoryHouse$Code" "begins" "[I") wq_119) (fun _ h9 => h9) rfl dX0_areRead_27 ?_
      refine lv_iload_n hx hb dX0_areRead_30 rfl (lv_at hl 4 rfl) ?_
      have hq9 : ((b_c cB cC cI cJ cZ oA rA s_1.2))[2]? = some (rA 5 2, .inl (cI, 320, .inl ((s_1.2 5).2.1 2))) := rfl
      have hPc := hP.sub (ws' := [(rA 5 2, .inl (cI, 320, .inl ((s_1.2 5).2.1 2)))]) [2] (pk_fm (er_C hq9))
      have hDc := (hDD s_1.2).sub (ws' := [(rA 5 2, .inl (cI, 320, .inl ((s_1.2 5).2.1 2)))]) [2] (by decide +kernel) (er_C hq9)
      have hFc := va_free (wc := [(rA 5 2, .inl (cI, 320, .inl ((s_1.2 5).2.1 2)))]) (hDD s_1.2) hS hA [2] (er_C hq9)
      refine g_ofi (wc := [(rA 5 2, .inl (cI, 320, .inl ((s_1.2 5).2.1 2)))]) (wr := (((b_c cB cC cI cJ cZ oA rA s_1.2)).eraseIdx 2)) hP (hDD s_1.2) hS hFc [2] ((List.range ((b_c cB cC cI cJ cZ oA rA s_1.2)).length).eraseIdx 2) (er_C hq9) er_R er_n er_d (va_runSN (As := [.ref (rA 5 2), .int s_1.1]) (rest := []) ⟨hx, hb, hml, hown, hts⟩ (c_X11_at l dC dI cB cC cI cJ cZ cP H.size (rA 5 2) s_1.1 320 ((s_1.2 5).2.1 2) (by decide)) ⟨va_cnB 2 hts (g_gA wq_407) rfl rfl rfl (nw_25 hN) (hts (.initialized RX11) wq_1) (by decide +kernel) ⟨Nat.le_of_ble_eq_true rfl, Nat.le_of_ble_eq_true rfl⟩, (hts (.static yX11_at) wq_406), trivial⟩ (g_preS g_bl0 hK hPc hDc hS hE hFc g_to0) rfl rfl hl.1 rfl (lv_room (Nat.le_of_ble_eq_true rfl)) dX0_areRead_31 ⟨Nat.le_of_ble_eq_true rfl, Nat.le_of_ble_eq_true rfl⟩) (fun r9 u9 H locs hw9 hP' hD' hS => ?_)
      clear hPc hDc hFc hD'
      have hP : va_P (dC, dI) vwCl (b_c cB cC cI cJ cZ oA rA s_1.2) H := er_I hP' hq9
      clear hP' hq9
      subst hw9
      obtain ⟨x_13, ex_13, hF_14⟩ := bnd_e hF_12
      clear hF_12
      refine m_top ex_13 ?_
      refine lv_istore (lv' := [(5, .int x_13), (4, .int x_11), (0, .ref (oA 5)), (1, .int p0), (2, .int p1), (3, .int s_1.1)]) hx hb dX0_areRead_34 hl (by decide) rfl (fun ls hl => ?_)
      refine lv_iconst (v := 0) hx hb dX0_areRead_36 (by decide +kernel) ?_
      refine lv_istore (lv' := [(6, .int 0), (5, .int x_13), (4, .int x_11), (0, .ref (oA 5)), (1, .int p0), (2, .int p1), (3, .int s_1.1)]) hx hb dX0_areRead_37 hl (by decide) rfl (fun ls hl => ?_)
      refine loopF_ind (P := fun (s_15 : Int32 × Int32 × HS) => ∀ (H : Heap) (locs : List Loc), va_P (dC, dI) vwCl (b_c cB cC cI cJ cZ oA rA s_15.2.2) H → va_S A s.heap H locs → ∀ ls : Array Slot, lv_has ls 9 [(0, .ref (oA 5)), (1, .int p0), (2, .int p1), (3, .int s_1.1), (4, .int x_11), (5, .int s_15.1), (6, .int s_15.2.1)] → W p l e (headSpec (g_ws yX0_areRead cX0_areRead 9 (some .boolean)) { frames := 3, cells := 0, slots := 0, locals := 82 }).room s m ([.ref (oA 5), .int p0, .int p1] : List Value).toArray below meth c H locs 0 0 (MQ below (va_Qi (fun r (_ : Unit) => r = res.1) (g_Bo (dC, dI) A (fun (_ : Unit) => (b_c cB cC cI cJ cZ oA rA res.2))) A) ([.ref (oA 5), .int p0, .int p1] : List Value).toArray s 0 0 A) (F0 m 39 ls [])) ?_ _ _ hF_14 _ _ hP hS ls (lv_sub hl [3, 4, 5, 6, 2, 1, 0] rfl)
      intro again_16 s_15 ih_17 hF_18
      intro H locs hP hS ls hl
      refine lv_iload hx hb dX0_areRead_39 (lv_at hl 6 rfl) ?_
      refine lv_ldc (v := 40000) hx hb hown (hts (.constant RX0 11 (40000)) wq_115) dX0_areRead_41 ?_
      obtain ⟨j_20, ej_20, hF_21⟩ := bnd_e hF_18
      clear hF_18
      have Jj_20 : ∀  (σ_19 : HS), j_20  σ_19 = some res → ∀ (H : Heap) (locs : List Loc), va_P (dC, dI) vwCl (b_c cB cC cI cJ cZ oA rA σ_19) H → va_S A s.heap H locs → ∀ ls : Array Slot, lv_has ls 9 [(0, .ref (oA 5)), (1, .int p0), (2, .int p1), (3, .int s_1.1), (4, .int x_11), (5, .int s_15.1)] → W p l e (headSpec (g_ws yX0_areRead cX0_areRead 9 (some .boolean)) { frames := 3, cells := 0, slots := 0, locals := 82 }).room s m ([.ref (oA 5), .int p0, .int p1] : List Value).toArray below meth c H locs 0 0 (MQ below (va_Qi (fun r (_ : Unit) => r = res.1) (g_Bo (dC, dI) A (fun (_ : Unit) => (b_c cB cC cI cJ cZ oA rA res.2))) A) ([.ref (oA 5), .int p0, .int p1] : List Value).toArray s 0 0 A) (F0 m 144 ls []) := by
        intro  σ_19 hF0 H locs hP hS ls hl
        subst ej_20
        have hF_22 := hF0
        clear hF0
        refine lv_iload hx hb dX0_areRead_144 (lv_at hl 5 rfl) ?_
        refine lv_iload hx hb dX0_areRead_146 (lv_at hl 4 rfl) ?_
        refine lv_icmp_eq (tgt := 153) hx hb dX0_areRead_148 (by decide) (fun c_23 => ?_) (fun c_23 => ?_)
        · have hF_24 := ipos c_23 hF_22
          clear hF_22
          obtain ⟨x_25, ex_25, hF_26⟩ := bnd_e hF_24
          clear hF_24
          refine lv_iinc (v := x_25) (lv' := [(3, .int x_25), (0, .ref (oA 5)), (1, .int p0), (2, .int p1), (4, .int x_11), (5, .int s_15.1)]) hx hb dX0_areRead_153 hl (k := 3) rfl (by rw [ex_25]; rfl) (by decide) rfl (fun ls hl => ?_)
          refine lv_goto (tgt := 2) hx hb dX0_areRead_156 (by decide) ?_
          exact ih_3 (x_25, σ_19) hF_26 _ _ hP hS ls (lv_sub hl [1, 2, 3, 0] rfl)
        · have hF_27 := ineg c_23 hF_22
          clear hF_22
          refine lv_iconst (v := 0) hx hb dX0_areRead_151 (by decide +kernel) ?_
          have h9 := Option.some.inj hF_27
          subst h9
          exact W.zret (v := 0) hx hb hr (by decide +kernel) (fun t ht hW => ⟨⟨0, (), rfl, rfl, m_end ht hP, hDD _⟩, hS.F ht⟩) hS.2.2 dX0_areRead_152
      refine lv_icmp_ge (tgt := 144) hx hb dX0_areRead_43 (by decide) (fun c_28 => ?_) (fun c_28 => ?_)
      · have hF_29 := ipos c_28 hF_21
        clear hF_21
        exact Jj_20  s_15.2.2 hF_29 _ _ hP hS ls (lv_sub hl [0, 1, 2, 3, 4, 5] rfl)
      · have hF_30 := ineg c_28 hF_21
        clear hF_21
        refine lv_iload hx hb dX0_areRead_46 (lv_at hl 5 rfl) ?_
        refine lv_iload hx hb dX0_areRead_48 (lv_at hl 4 rfl) ?_
        refine lv_icmp_ge (tgt := 144) hx hb dX0_areRead_50 (by decide) (fun c_31 => ?_) (fun c_31 => ?_)
        · have hF_32 := ipos c_31 hF_30
          clear hF_30
          exact Jj_20  s_15.2.2 hF_32 _ _ hP hS ls (lv_sub hl [0, 1, 2, 3, 4, 5] rfl)
        · have hF_33 := ineg c_31 hF_30
          clear hF_30
          refine lv_aload_n hx hb dX0_areRead_53 rfl (lv_at hl 0 rfl) ?_
          refine lv_iload hx hb dX0_areRead_54 (lv_at hl 5 rfl) ?_
          obtain ⟨u_34, hu_34, hF_35⟩ := Option.bind_eq_some_iff.mp hF_33
          clear hF_33
          have hPc := bx_P (bs := [b_c cB cC cI cJ cZ oA rA s_15.2.2]) (bs' := [b_c cB cC cI cJ cZ oA rA s_15.2.2]) (ws' := (b_c cB cC cI cJ cZ oA rA s_15.2.2)) hP fl_1 fl_1 [0] rfl
          have hDc := bx_D (bs := [b_c cB cC cI cJ cZ oA rA s_15.2.2]) (bs' := [b_c cB cC cI cJ cZ oA rA s_15.2.2]) (ws' := (b_c cB cC cI cJ cZ oA rA s_15.2.2)) (hDD s_15.2.2) fl_1 fl_1 [0] (by decide +kernel) rfl
          have hFc := bx_F (bs := [b_c cB cC cI cJ cZ oA rA s_15.2.2]) (bs' := [b_c cB cC cI cJ cZ oA rA s_15.2.2]) (wc := (b_c cB cC cI cJ cZ oA rA s_15.2.2)) (hDD s_15.2.2) hS hA fl_1 fl_1 [0] rfl
          refine g_ofi (wc := (b_c cB cC cI cJ cZ oA rA s_15.2.2)) (wr := ([] : va_W)) hP (hDD s_15.2.2) hS hFc (bx_ix [b_c cB cC cI cJ cZ oA rA s_15.2.2] [0]) (bx_ix [b_c cB cC cI cJ cZ oA rA s_15.2.2] []) (bx_C (bs := [b_c cB cC cI cJ cZ oA rA s_15.2.2]) (bs' := [b_c cB cC cI cJ cZ oA rA s_15.2.2]) (is := [0]) fl_1 fl_1 rfl) (bx_C (bs := [b_c cB cC cI cJ cZ oA rA s_15.2.2]) (bs' := []) (is := []) fl_1 fl_0 rfl) (bx_n (by decide +kernel)) (bx_d (by decide +kernel)) (va_runV (As := [.int s_15.1]) (rest := []) ⟨hx, hb, hml, hown, hts⟩ (k_X0_byteAt l dC dI cB cC cI cJ cZ cP oA rA H.size  s_15.1 s_15.2.2 _ hu_34) (cwV 1 hts (g_gV wq_827 wq_828 wq_829 wq_6 wq_830) rfl rfl rfl (by decide +kernel) ⟨Nat.le_of_ble_eq_true rfl, Nat.le_of_ble_eq_true rfl⟩) (g_preV g_bl0 hK hPc hDc hS hE hFc g_to0 (q0 := 0) (ci := 0) rfl rfl) rfl rfl hl.1 rfl (lv_room (Nat.le_of_ble_eq_true rfl)) dX0_areRead_56 ⟨Nat.le_of_ble_eq_true rfl, Nat.le_of_ble_eq_true rfl⟩) (fun r9 u9 H locs hw9 hP' hD' hS => ?_)
          clear hPc hDc hFc
          subst hw9
          have hP : va_P (dC, dI) vwCl (b_c cB cC cI cJ cZ oA rA u_34.2) H := hP'
          clear hP' hD'
          refine lv_istore (lv' := [(7, .int u_34.1), (0, .ref (oA 5)), (1, .int p0), (2, .int p1), (3, .int s_1.1), (4, .int x_11), (5, .int s_15.1), (6, .int s_15.2.1)]) hx hb dX0_areRead_59 hl (by decide) rfl (fun ls hl => ?_)
          refine lv_iload hx hb dX0_areRead_61 (lv_at hl 0 rfl) ?_
          refine lv_bipush (v := 41) hx hb dX0_areRead_63 (by decide +kernel) ?_
          obtain ⟨j_38, ej_38, hF_39⟩ := bnd_e hF_35
          clear hF_35
          have Jj_38 : ∀ (t_36 : Int32) (σ_37 : HS), j_38 t_36 σ_37 = some res → ∀ (H : Heap) (locs : List Loc), va_P (dC, dI) vwCl (b_c cB cC cI cJ cZ oA rA σ_37) H → va_S A s.heap H locs → ∀ ls : Array Slot, lv_has ls 9 [(0, .ref (oA 5)), (1, .int p0), (2, .int p1), (3, .int s_1.1), (4, .int x_11), (5, .int s_15.1), (6, .int s_15.2.1), (7, .int u_34.1)] → W p l e (headSpec (g_ws yX0_areRead cX0_areRead 9 (some .boolean)) { frames := 3, cells := 0, slots := 0, locals := 82 }).room s m ([.ref (oA 5), .int p0, .int p1] : List Value).toArray below meth c H locs 0 0 (MQ below (va_Qi (fun r (_ : Unit) => r = res.1) (g_Bo (dC, dI) A (fun (_ : Unit) => (b_c cB cC cI cJ cZ oA rA res.2))) A) ([.ref (oA 5), .int p0, .int p1] : List Value).toArray s 0 0 A) (F0 m 80 ls [.int t_36]) := by
            intro t_36 σ_37 hF0 H locs hP hS ls hl
            subst ej_38
            have hF_40 := hF0
            clear hF0
            refine lv_istore (lv' := [(8, .int t_36), (0, .ref (oA 5)), (1, .int p0), (2, .int p1), (3, .int s_1.1), (4, .int x_11), (5, .int s_15.1), (6, .int s_15.2.1), (7, .int u_34.1)]) hx hb dX0_areRead_80 hl (by decide) rfl (fun ls hl => ?_)
            refine lv_iload hx hb dX0_areRead_82 (lv_at hl 8 rfl) ?_
            refine lv_bipush (v := 48) hx hb dX0_areRead_84 (by decide +kernel) ?_
            refine lv_icmp_gt (tgt := 126) hx hb dX0_areRead_86 (by decide) (fun c_41 => ?_) (fun c_41 => ?_)
            · have hF_42 := ipos c_41 hF_40
              clear hF_40
              refine lv_iconst (v := 0) hx hb dX0_areRead_126 (by decide +kernel) ?_
              have h9 := Option.some.inj hF_42
              subst h9
              exact W.zret (v := 0) hx hb hr (by decide +kernel) (fun t ht hW => ⟨⟨0, (), rfl, rfl, m_end ht hP, hDD _⟩, hS.F ht⟩) hS.2.2 dX0_areRead_127
            · have hF_43 := ineg c_41 hF_40
              clear hF_40
              refine lv_iload hx hb dX0_areRead_89 (lv_at hl 0 rfl) ?_
              obtain ⟨j_45, ej_45, hF_46⟩ := bnd_e hF_43
              clear hF_43
              have Jj_45 : ∀  (σ_44 : HS), j_45  σ_44 = some res → ∀ (H : Heap) (locs : List Loc), va_P (dC, dI) vwCl (b_c cB cC cI cJ cZ oA rA σ_44) H → va_S A s.heap H locs → ∀ ls : Array Slot, lv_has ls 9 [(0, .ref (oA 5)), (1, .int p0), (2, .int p1), (3, .int s_1.1), (4, .int x_11), (5, .int s_15.1), (6, .int s_15.2.1), (7, .int u_34.1)] → W p l e (headSpec (g_ws yX0_areRead cX0_areRead 9 (some .boolean)) { frames := 3, cells := 0, slots := 0, locals := 82 }).room s m ([.ref (oA 5), .int p0, .int p1] : List Value).toArray below meth c H locs 0 0 (MQ below (va_Qi (fun r (_ : Unit) => r = res.1) (g_Bo (dC, dI) A (fun (_ : Unit) => (b_c cB cC cI cJ cZ oA rA res.2))) A) ([.ref (oA 5), .int p0, .int p1] : List Value).toArray s 0 0 A) (F0 m 128 ls []) := by
                intro  σ_44 hF0 H locs hP hS ls hl
                subst ej_45
                have hF_47 := hF0
                clear hF0
                refine lv_iload hx hb dX0_areRead_128 (lv_at hl 5 rfl) ?_
                refine lv_iload hx hb dX0_areRead_130 (lv_at hl 7 rfl) ?_
                obtain ⟨u_48, hu_48, hF_49⟩ := Option.bind_eq_some_iff.mp hF_47
                clear hF_47
                have hPc : va_P (dC, dI) vwCl [] H := fun k q z => by simp at z
                have hDc : va_D A [] := ⟨fun i j p q z => by simp at z, fun k q z => by simp at z⟩
                have hFc := c_nil hA hS
                refine c_cs (v := u_48.1) hA hP hS (va_runS (As := [.int u_34.1]) (rest := [.int s_15.1]) ⟨hx, hb, hml, hown, hts⟩ (k_X0_widthOf l dC dI cB cC cI cJ cZ cP oA rA H.size  u_34.1 σ_44 _ hu_48) (va_cwS 1 hts (g_gS wq_841 wq_842 wq_6 wq_843) rfl rfl rfl (by decide +kernel) ⟨Nat.le_of_ble_eq_true rfl, Nat.le_of_ble_eq_true rfl⟩) (g_preS g_bl0 hK hPc hDc hS hE hFc g_to0) rfl rfl hl.1 rfl (lv_room (Nat.le_of_ble_eq_true rfl)) dX0_areRead_132 ⟨Nat.le_of_ble_eq_true rfl, Nat.le_of_ble_eq_true rfl⟩) (fun H locs hP hS => ?_)
                clear hPc hDc hFc
                refine lv_iadd hx hb dX0_areRead_135 ?_
                obtain ⟨x_50, ex_50, hF_51⟩ := bnd_e hF_49
                clear hF_49
                refine m_top ex_50 ?_
                refine lv_istore (lv' := [(5, .int x_50), (0, .ref (oA 5)), (1, .int p0), (2, .int p1), (3, .int s_1.1), (4, .int x_11), (6, .int s_15.2.1), (7, .int u_34.1)]) hx hb dX0_areRead_136 hl (by decide) rfl (fun ls hl => ?_)
                obtain ⟨x_52, ex_52, hF_53⟩ := bnd_e hF_51
                clear hF_51
                refine lv_iinc (v := x_52) (lv' := [(6, .int x_52), (5, .int x_50), (0, .ref (oA 5)), (1, .int p0), (2, .int p1), (3, .int s_1.1), (4, .int x_11), (7, .int u_34.1)]) hx hb dX0_areRead_138 hl (k := 6) rfl (by rw [ex_52]; rfl) (by decide) rfl (fun ls hl => ?_)
                refine lv_goto (tgt := 39) hx hb dX0_areRead_141 (by decide) ?_
                exact ih_17 (x_50, x_52, σ_44) hF_53 _ _ hP hS ls (lv_sub hl [2, 3, 4, 5, 6, 1, 0] rfl)
              refine lv_if_eq (tgt := 128) hx hb dX0_areRead_91 (by decide) (fun c_54 => ?_) (fun c_54 => ?_)
              · have hF_55 := ipos c_54 hF_46
                clear hF_46
                exact Jj_45  σ_37 hF_55 _ _ hP hS ls (lv_sub hl [1, 2, 3, 4, 5, 6, 7, 8] rfl)
              · have hF_56 := ineg c_54 hF_46
                clear hF_46
                refine lv_aload_n hx hb dX0_areRead_94 rfl (lv_at hl 1 rfl) ?_
                refine lv_iload hx hb dX0_areRead_95 (lv_at hl 6 rfl) ?_
                refine lv_iconst (v := 1) hx hb dX0_areRead_97 (by decide +kernel) ?_
                refine lv_iadd hx hb dX0_areRead_98 ?_
                obtain ⟨u_57, hu_57, hF_58⟩ := Option.bind_eq_some_iff.mp hF_56
                clear hF_56
                have hPc := bx_P (bs := [b_c cB cC cI cJ cZ oA rA σ_37]) (bs' := [b_c cB cC cI cJ cZ oA rA σ_37]) (ws' := (b_c cB cC cI cJ cZ oA rA σ_37)) hP fl_1 fl_1 [0] rfl
                have hDc := bx_D (bs := [b_c cB cC cI cJ cZ oA rA σ_37]) (bs' := [b_c cB cC cI cJ cZ oA rA σ_37]) (ws' := (b_c cB cC cI cJ cZ oA rA σ_37)) (hDD σ_37) fl_1 fl_1 [0] (by decide +kernel) rfl
                have hFc := bx_F (bs := [b_c cB cC cI cJ cZ oA rA σ_37]) (bs' := [b_c cB cC cI cJ cZ oA rA σ_37]) (wc := (b_c cB cC cI cJ cZ oA rA σ_37)) (hDD σ_37) hS hA fl_1 fl_1 [0] rfl
                refine g_ofi (wc := (b_c cB cC cI cJ cZ oA rA σ_37)) (wr := ([] : va_W)) hP (hDD σ_37) hS hFc (bx_ix [b_c cB cC cI cJ cZ oA rA σ_37] [0]) (bx_ix [b_c cB cC cI cJ cZ oA rA σ_37] []) (bx_C (bs := [b_c cB cC cI cJ cZ oA rA σ_37]) (bs' := [b_c cB cC cI cJ cZ oA rA σ_37]) (is := [0]) fl_1 fl_1 rfl) (bx_C (bs := [b_c cB cC cI cJ cZ oA rA σ_37]) (bs' := []) (is := []) fl_1 fl_0 rfl) (bx_n (by decide +kernel)) (bx_d (by decide +kernel)) (va_runV (As := [.int (s_15.1 + 1)]) (rest := []) ⟨hx, hb, hml, hown, hts⟩ (k_X0_pairAt l dC dI cB cC cI cJ cZ cP oA rA H.size  (s_15.1 + 1) σ_37 _ hu_57) (cwV 1 hts (g_gV wq_831 wq_832 wq_833 wq_6 wq_834) rfl rfl rfl (by decide +kernel) ⟨Nat.le_of_ble_eq_true rfl, Nat.le_of_ble_eq_true rfl⟩) (g_preV g_bl0 hK hPc hDc hS hE hFc g_to0 (q0 := 0) (ci := 0) rfl rfl) rfl rfl hl.1 rfl (lv_room (Nat.le_of_ble_eq_true rfl)) dX0_areRead_99 ⟨Nat.le_of_ble_eq_true rfl, Nat.le_of_ble_eq_true rfl⟩) (fun r9 u9 H locs hw9 hP' hD' hS => ?_)
                clear hPc hDc hFc
                subst hw9
                have hP : va_P (dC, dI) vwCl (b_c cB cC cI cJ cZ oA rA u_57.2) H := hP'
                clear hP' hD'
                refine lv_aload_n hx hb dX0_areRead_102 rfl (lv_at hl 1 rfl) ?_
                refine va_get (D := (dC, dI)) (ci := 0) (v := .ref (rA 5 2)) (C := RX0) (T := TX0) (N := 9) hx hb hts ii_X0 hown hK hP 0 rfl rfl 2 (by decide) (hts (.fieldLink RX0 16 "StoryHouse$Code" "begins" "[I") wq_119) (fun _ h9 => h9) rfl dX0_areRead_103 ?_
                refine lv_iload_n hx hb dX0_areRead_106 rfl (lv_at hl 4 rfl) ?_
                have hq9 : ((b_c cB cC cI cJ cZ oA rA u_57.2))[2]? = some (rA 5 2, .inl (cI, 320, .inl ((u_57.2 5).2.1 2))) := rfl
                have hPc := hP.sub (ws' := [(rA 5 2, .inl (cI, 320, .inl ((u_57.2 5).2.1 2)))]) [2] (pk_fm (er_C hq9))
                have hDc := (hDD u_57.2).sub (ws' := [(rA 5 2, .inl (cI, 320, .inl ((u_57.2 5).2.1 2)))]) [2] (by decide +kernel) (er_C hq9)
                have hFc := va_free (wc := [(rA 5 2, .inl (cI, 320, .inl ((u_57.2 5).2.1 2)))]) (hDD u_57.2) hS hA [2] (er_C hq9)
                refine g_ofi (wc := [(rA 5 2, .inl (cI, 320, .inl ((u_57.2 5).2.1 2)))]) (wr := (((b_c cB cC cI cJ cZ oA rA u_57.2)).eraseIdx 2)) hP (hDD u_57.2) hS hFc [2] ((List.range ((b_c cB cC cI cJ cZ oA rA u_57.2)).length).eraseIdx 2) (er_C hq9) er_R er_n er_d (va_runSN (As := [.ref (rA 5 2), .int s_1.1]) (rest := [.int u_57.1]) ⟨hx, hb, hml, hown, hts⟩ (c_X11_at l dC dI cB cC cI cJ cZ cP H.size (rA 5 2) s_1.1 320 ((u_57.2 5).2.1 2) (by decide)) ⟨va_cnB 2 hts (g_gA wq_407) rfl rfl rfl (nw_25 hN) (hts (.initialized RX11) wq_1) (by decide +kernel) ⟨Nat.le_of_ble_eq_true rfl, Nat.le_of_ble_eq_true rfl⟩, (hts (.static yX11_at) wq_406), trivial⟩ (g_preS g_bl0 hK hPc hDc hS hE hFc g_to0) rfl rfl hl.1 rfl (lv_room (Nat.le_of_ble_eq_true rfl)) dX0_areRead_107 ⟨Nat.le_of_ble_eq_true rfl, Nat.le_of_ble_eq_true rfl⟩) (fun r9 u9 H locs hw9 hP' hD' hS => ?_)
                clear hPc hDc hFc hD'
                have hP : va_P (dC, dI) vwCl (b_c cB cC cI cJ cZ oA rA u_57.2) H := er_I hP' hq9
                clear hP' hq9
                subst hw9
                obtain ⟨x_59, ex_59, hF_60⟩ := bnd_e hF_58
                clear hF_58
                refine m_top ex_59 ?_
                refine lv_icmp_lt (tgt := 126) hx hb dX0_areRead_110 (by decide) (fun c_61 => ?_) (fun c_61 => ?_)
                · have hF_62 := ipos c_61 hF_60
                  clear hF_60
                  refine lv_iconst (v := 0) hx hb dX0_areRead_126 (by decide +kernel) ?_
                  have h9 := Option.some.inj hF_62
                  subst h9
                  exact W.zret (v := 0) hx hb hr (by decide +kernel) (fun t ht hW => ⟨⟨0, (), rfl, rfl, m_end ht hP, hDD _⟩, hS.F ht⟩) hS.2.2 dX0_areRead_127
                · have hF_63 := ineg c_61 hF_60
                  clear hF_60
                  refine lv_aload_n hx hb dX0_areRead_113 rfl (lv_at hl 1 rfl) ?_
                  refine lv_iload hx hb dX0_areRead_114 (lv_at hl 6 rfl) ?_
                  refine lv_iconst (v := 1) hx hb dX0_areRead_116 (by decide +kernel) ?_
                  refine lv_iadd hx hb dX0_areRead_117 ?_
                  obtain ⟨u_64, hu_64, hF_65⟩ := Option.bind_eq_some_iff.mp hF_63
                  clear hF_63
                  have hPc := bx_P (bs := [b_c cB cC cI cJ cZ oA rA u_57.2]) (bs' := [b_c cB cC cI cJ cZ oA rA u_57.2]) (ws' := (b_c cB cC cI cJ cZ oA rA u_57.2)) hP fl_1 fl_1 [0] rfl
                  have hDc := bx_D (bs := [b_c cB cC cI cJ cZ oA rA u_57.2]) (bs' := [b_c cB cC cI cJ cZ oA rA u_57.2]) (ws' := (b_c cB cC cI cJ cZ oA rA u_57.2)) (hDD u_57.2) fl_1 fl_1 [0] (by decide +kernel) rfl
                  have hFc := bx_F (bs := [b_c cB cC cI cJ cZ oA rA u_57.2]) (bs' := [b_c cB cC cI cJ cZ oA rA u_57.2]) (wc := (b_c cB cC cI cJ cZ oA rA u_57.2)) (hDD u_57.2) hS hA fl_1 fl_1 [0] rfl
                  refine g_ofi (wc := (b_c cB cC cI cJ cZ oA rA u_57.2)) (wr := ([] : va_W)) hP (hDD u_57.2) hS hFc (bx_ix [b_c cB cC cI cJ cZ oA rA u_57.2] [0]) (bx_ix [b_c cB cC cI cJ cZ oA rA u_57.2] []) (bx_C (bs := [b_c cB cC cI cJ cZ oA rA u_57.2]) (bs' := [b_c cB cC cI cJ cZ oA rA u_57.2]) (is := [0]) fl_1 fl_1 rfl) (bx_C (bs := [b_c cB cC cI cJ cZ oA rA u_57.2]) (bs' := []) (is := []) fl_1 fl_0 rfl) (bx_n (by decide +kernel)) (bx_d (by decide +kernel)) (va_runV (As := [.int (s_15.1 + 1)]) (rest := []) ⟨hx, hb, hml, hown, hts⟩ (k_X0_pairAt l dC dI cB cC cI cJ cZ cP oA rA H.size  (s_15.1 + 1) u_57.2 _ hu_64) (cwV 1 hts (g_gV wq_831 wq_832 wq_833 wq_6 wq_834) rfl rfl rfl (by decide +kernel) ⟨Nat.le_of_ble_eq_true rfl, Nat.le_of_ble_eq_true rfl⟩) (g_preV g_bl0 hK hPc hDc hS hE hFc g_to0 (q0 := 0) (ci := 0) rfl rfl) rfl rfl hl.1 rfl (lv_room (Nat.le_of_ble_eq_true rfl)) dX0_areRead_118 ⟨Nat.le_of_ble_eq_true rfl, Nat.le_of_ble_eq_true rfl⟩) (fun r9 u9 H locs hw9 hP' hD' hS => ?_)
                  clear hPc hDc hFc
                  subst hw9
                  have hP : va_P (dC, dI) vwCl (b_c cB cC cI cJ cZ oA rA u_64.2) H := hP'
                  clear hP' hD'
                  refine lv_iload hx hb dX0_areRead_121 (lv_at hl 5 rfl) ?_
                  refine lv_icmp_lt (tgt := 128) hx hb dX0_areRead_123 (by decide) (fun c_66 => ?_) (fun c_66 => ?_)
                  · have hF_67 := ipos c_66 hF_65
                    clear hF_65
                    exact Jj_45  u_64.2 hF_67 _ _ hP hS ls (lv_sub hl [1, 2, 3, 4, 5, 6, 7, 8] rfl)
                  · have hF_68 := ineg c_66 hF_65
                    clear hF_65
                    refine lv_iconst (v := 0) hx hb dX0_areRead_126 (by decide +kernel) ?_
                    have h9 := Option.some.inj hF_68
                    subst h9
                    exact W.zret (v := 0) hx hb hr (by decide +kernel) (fun t ht hW => ⟨⟨0, (), rfl, rfl, m_end ht hP, hDD _⟩, hS.F ht⟩) hS.2.2 dX0_areRead_127
          obtain ⟨j_70, ej_70, hF_71⟩ := bnd_e hF_39
          clear hF_39
          have Jj_70 : ∀  (σ_69 : HS), j_70  σ_69 = some res → ∀ (H : Heap) (locs : List Loc), va_P (dC, dI) vwCl (b_c cB cC cI cJ cZ oA rA σ_69) H → va_S A s.heap H locs → ∀ ls : Array Slot, lv_has ls 9 [(0, .ref (oA 5)), (1, .int p0), (2, .int p1), (3, .int s_1.1), (4, .int x_11), (5, .int s_15.1), (6, .int s_15.2.1), (7, .int u_34.1)] → W p l e (headSpec (g_ws yX0_areRead cX0_areRead 9 (some .boolean)) { frames := 3, cells := 0, slots := 0, locals := 82 }).room s m ([.ref (oA 5), .int p0, .int p1] : List Value).toArray below meth c H locs 0 0 (MQ below (va_Qi (fun r (_ : Unit) => r = res.1) (g_Bo (dC, dI) A (fun (_ : Unit) => (b_c cB cC cI cJ cZ oA rA res.2))) A) ([.ref (oA 5), .int p0, .int p1] : List Value).toArray s 0 0 A) (F0 m 79 ls []) := by
            intro  σ_69 hF0 H locs hP hS ls hl
            subst ej_70
            have hF_72 := hF0
            clear hF0
            refine lv_iconst (v := 0) hx hb dX0_areRead_79 (by decide +kernel) ?_
            exact Jj_38 0 σ_69 hF_72 _ _ hP hS ls (lv_sub hl [0, 1, 2, 3, 4, 5, 6, 7] rfl)
          refine lv_icmp_lt (tgt := 79) hx hb dX0_areRead_65 (by decide) (fun c_73 => ?_) (fun c_73 => ?_)
          · have hF_74 := ipos c_73 hF_71
            clear hF_71
            exact Jj_70  u_34.2 hF_74 _ _ hP hS ls (lv_sub hl [1, 2, 3, 4, 5, 6, 7, 0] rfl)
          · have hF_75 := ineg c_73 hF_71
            clear hF_71
            refine lv_iload hx hb dX0_areRead_68 (lv_at hl 0 rfl) ?_
            refine lv_bipush (v := 44) hx hb dX0_areRead_70 (by decide +kernel) ?_
            refine lv_icmp_gt (tgt := 79) hx hb dX0_areRead_72 (by decide) (fun c_76 => ?_) (fun c_76 => ?_)
            · have hF_77 := ipos c_76 hF_75
              clear hF_75
              exact Jj_70  u_34.2 hF_77 _ _ hP hS ls (lv_sub hl [1, 2, 3, 4, 5, 6, 7, 0] rfl)
            · have hF_78 := ineg c_76 hF_75
              clear hF_75
              refine lv_iconst (v := 1) hx hb dX0_areRead_75 (by decide +kernel) ?_
              refine lv_goto (tgt := 80) hx hb dX0_areRead_76 (by decide) ?_
              exact Jj_38 1 u_34.2 hF_78 _ _ hP hS ls (lv_sub hl [1, 2, 3, 4, 5, 6, 7, 0] rfl)
