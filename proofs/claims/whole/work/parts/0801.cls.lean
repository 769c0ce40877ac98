/-! methods of the class: what each does is its function -/
theorem dX11_isLetter_0 : decode cX11_isLetter 0 = .ok (.iload_n 0, 1) := by decide +kernel
theorem dX11_isLetter_1 : decode cX11_isLetter 1 = .ok (.bipush 97, 2) := by decide +kernel
theorem dX11_isLetter_3 : decode cX11_isLetter 3 = .ok (.if_icmp .lt 13, 3) := by decide +kernel
theorem dX11_isLetter_6 : decode cX11_isLetter 6 = .ok (.iload_n 0, 1) := by decide +kernel
theorem dX11_isLetter_7 : decode cX11_isLetter 7 = .ok (.bipush 122, 2) := by decide +kernel
theorem dX11_isLetter_9 : decode cX11_isLetter 9 = .ok (.if_icmp .gt 7, 3) := by decide +kernel
theorem dX11_isLetter_12 : decode cX11_isLetter 12 = .ok (.iconst 1, 1) := by decide +kernel
theorem dX11_isLetter_13 : decode cX11_isLetter 13 = .ok (.goto 4, 3) := by decide +kernel
theorem dX11_isLetter_16 : decode cX11_isLetter 16 = .ok (.iconst 0, 1) := by decide +kernel
theorem dX11_isLetter_17 : decode cX11_isLetter 17 = .ok (.ireturn, 1) := by decide +kernel
def F_X11_isLetter (p0 : Int32) (Γ : HS) : HR :=
  if p0 < 97 then (
    some (0, Γ)
  ) else (
    if 122 < p0 then (
      some (0, Γ)
    ) else (
      some (1, Γ)
    )
  )
set_option maxHeartbeats 4000000 in
set_option maxRecDepth 100000 in
theorem k_X11_isLetter (l : Launch) (dC : Nat → ClassId) (dI : Nat → Nat → Nat) (cB cC cI cJ cZ cP : ClassId) (oA : Nat → Nat) (rA : Nat → Nat → Nat) (sz : Nat)  (p0 : Int32) (Γ : HS) (res : Int32 × HS) (hF : F_X11_isLetter p0 Γ = some res) : Met l yX11_isLetter (g_ws yX11_isLetter cX11_isLetter 1 (some .boolean)) ({ frames := 1, cells := 0, slots := 0, locals := 40 }) (va_Pc [.int p0] (g_B (dC, dI) [(cB, .byte), (cC, .char), (cI, .int), (cJ, .long), (cZ, .boolean), (cP, .object "StoryHouse$Play")] sz ([] : va_W) g_0)) (va_Qi (fun r (_ : Unit) => r = res.1) (g_Bo (dC, dI) (va_A ([] : va_W) sz) (fun (_ : Unit) => ([] : va_W))) (va_A ([] : va_W) sz)) 0 0 (va_A ([] : va_W) sz) := by
  refine Met.ofW (cc := cX11_isLetter) (maxL := 1) (ret := (some .boolean)) (by decide) rfl ?_
  intro p e s m args below meth c s₁ B hml hv
  obtain ⟨rfl, hsz, hP, hK, hD0, hE, hX⟩ := hv
  have hx := B.exec
  have hb := B.bytes
  have hr := B.returns
  have hts0 := atoms_spec (ws := g_ws yX11_isLetter cX11_isLetter 1 (some .boolean)) B.pre
  have hts : ∀ w ∈ lw_good, w.before ([.int p0] : List Value).toArray s = true := fun w z => hts0 w (List.mem_cons_of_mem _ z)
  have hown : s.vm.findClass RX11 = some m.cls := findClass_of_methodNamed B.named
  have hlocks := B.notSynchronized
  subst hsz
  have hD1 := hD0.self (sz := s.heap.size)
  generalize hAe : va_A ([] : va_W) s.heap.size = A at hD1 hE hX ⊢
  have hA : ∀ q : Nat, s.heap.size ≤ q → A q := fun q z => by rw [← hAe]; exact Or.inr z
  have hDD : ∀ Γ : HS, va_D A ([] : va_W) := fun Γ9 => va_D_fst (ws := ([] : va_W)) (ws' := ([] : va_W)) rfl hD1
  have hN := hE.1
  have hS : va_S A s.heap s.heap [] := va_S.rf
  have hl := lv_entry ([.int p0]) (n := 1) (Nat.le_of_ble_eq_true rfl)
  rw [lg_entry_eq]
  generalize (lg_sl ([.int p0]) ++ List.replicate (1 - (lg_sl ([.int p0])).length) Slot.unset).toArray = ls at hl ⊢
  have hl : lv_has ls 1 [(0, .int p0)] := hl
  unfold F_X11_isLetter at hF
  refine lv_iload_n hx hb dX11_isLetter_0 rfl (lv_at hl 0 rfl) ?_
  refine lv_bipush (v := 97) hx hb dX11_isLetter_1 (by decide +kernel) ?_
  refine lv_icmp_lt (tgt := 16) hx hb dX11_isLetter_3 (by decide) (fun c_1 => ?_) (fun c_1 => ?_)
  · have hF_2 := ipos c_1 hF
    clear hF
    refine lv_iconst (v := 0) hx hb dX11_isLetter_16 (by decide +kernel) ?_
    have h9 := Option.some.inj hF_2
    subst h9
    exact W.zret (v := 0) hx hb hr (by decide +kernel) (fun t ht hW => ⟨⟨0, (), rfl, rfl, m_end ht hP, hDD Γ⟩, hS.F ht⟩) hS.2.2 dX11_isLetter_17
  · have hF_3 := ineg c_1 hF
    clear hF
    refine lv_iload_n hx hb dX11_isLetter_6 rfl (lv_at hl 0 rfl) ?_
    refine lv_bipush (v := 122) hx hb dX11_isLetter_7 (by decide +kernel) ?_
    refine lv_icmp_gt (tgt := 16) hx hb dX11_isLetter_9 (by decide) (fun c_4 => ?_) (fun c_4 => ?_)
    · have hF_5 := ipos c_4 hF_3
      clear hF_3
      refine lv_iconst (v := 0) hx hb dX11_isLetter_16 (by decide +kernel) ?_
      have h9 := Option.some.inj hF_5
      subst h9
      exact W.zret (v := 0) hx hb hr (by decide +kernel) (fun t ht hW => ⟨⟨0, (), rfl, rfl, m_end ht hP, hDD Γ⟩, hS.F ht⟩) hS.2.2 dX11_isLetter_17
    · have hF_6 := ineg c_4 hF_3
      clear hF_3
      refine lv_iconst (v := 1) hx hb dX11_isLetter_12 (by decide +kernel) ?_
      refine lv_goto (tgt := 17) hx hb dX11_isLetter_13 (by decide) ?_
      have h9 := Option.some.inj hF_6
      subst h9
      exact W.zret (v := 1) hx hb hr (by decide +kernel) (fun t ht hW => ⟨⟨1, (), rfl, rfl, m_end ht hP, hDD Γ⟩, hS.F ht⟩) hS.2.2 dX11_isLetter_17
theorem dX11_isFigure_0 : decode cX11_isFigure 0 = .ok (.iload_n 0, 1) := by decide +kernel
theorem dX11_isFigure_1 : decode cX11_isFigure 1 = .ok (.bipush 48, 2) := by decide +kernel
theorem dX11_isFigure_3 : decode cX11_isFigure 3 = .ok (.if_icmp .lt 13, 3) := by decide +kernel
theorem dX11_isFigure_6 : decode cX11_isFigure 6 = .ok (.iload_n 0, 1) := by decide +kernel
theorem dX11_isFigure_7 : decode cX11_isFigure 7 = .ok (.bipush 57, 2) := by decide +kernel
theorem dX11_isFigure_9 : decode cX11_isFigure 9 = .ok (.if_icmp .gt 7, 3) := by decide +kernel
theorem dX11_isFigure_12 : decode cX11_isFigure 12 = .ok (.iconst 1, 1) := by decide +kernel
theorem dX11_isFigure_13 : decode cX11_isFigure 13 = .ok (.goto 4, 3) := by decide +kernel
theorem dX11_isFigure_16 : decode cX11_isFigure 16 = .ok (.iconst 0, 1) := by decide +kernel
theorem dX11_isFigure_17 : decode cX11_isFigure 17 = .ok (.ireturn, 1) := by decide +kernel
def F_X11_isFigure (p0 : Int32) (Γ : HS) : HR :=
  if p0 < 48 then (
    some (0, Γ)
  ) else (
    if 57 < p0 then (
      some (0, Γ)
    ) else (
      some (1, Γ)
    )
  )
set_option maxHeartbeats 4000000 in
set_option maxRecDepth 100000 in
theorem k_X11_isFigure (l : Launch) (dC : Nat → ClassId) (dI : Nat → Nat → Nat) (cB cC cI cJ cZ cP : ClassId) (oA : Nat → Nat) (rA : Nat → Nat → Nat) (sz : Nat)  (p0 : Int32) (Γ : HS) (res : Int32 × HS) (hF : F_X11_isFigure p0 Γ = some res) : Met l yX11_isFigure (g_ws yX11_isFigure cX11_isFigure 1 (some .boolean)) ({ frames := 1, cells := 0, slots := 0, locals := 40 }) (va_Pc [.int p0] (g_B (dC, dI) [(cB, .byte), (cC, .char), (cI, .int), (cJ, .long), (cZ, .boolean), (cP, .object "StoryHouse$Play")] sz ([] : va_W) g_0)) (va_Qi (fun r (_ : Unit) => r = res.1) (g_Bo (dC, dI) (va_A ([] : va_W) sz) (fun (_ : Unit) => ([] : va_W))) (va_A ([] : va_W) sz)) 0 0 (va_A ([] : va_W) sz) := by
  refine Met.ofW (cc := cX11_isFigure) (maxL := 1) (ret := (some .boolean)) (by decide) rfl ?_
  intro p e s m args below meth c s₁ B hml hv
  obtain ⟨rfl, hsz, hP, hK, hD0, hE, hX⟩ := hv
  have hx := B.exec
  have hb := B.bytes
  have hr := B.returns
  have hts0 := atoms_spec (ws := g_ws yX11_isFigure cX11_isFigure 1 (some .boolean)) B.pre
  have hts : ∀ w ∈ lw_good, w.before ([.int p0] : List Value).toArray s = true := fun w z => hts0 w (List.mem_cons_of_mem _ z)
  have hown : s.vm.findClass RX11 = some m.cls := findClass_of_methodNamed B.named
  have hlocks := B.notSynchronized
  subst hsz
  have hD1 := hD0.self (sz := s.heap.size)
  generalize hAe : va_A ([] : va_W) s.heap.size = A at hD1 hE hX ⊢
  have hA : ∀ q : Nat, s.heap.size ≤ q → A q := fun q z => by rw [← hAe]; exact Or.inr z
  have hDD : ∀ Γ : HS, va_D A ([] : va_W) := fun Γ9 => va_D_fst (ws := ([] : va_W)) (ws' := ([] : va_W)) rfl hD1
  have hN := hE.1
  have hS : va_S A s.heap s.heap [] := va_S.rf
  have hl := lv_entry ([.int p0]) (n := 1) (Nat.le_of_ble_eq_true rfl)
  rw [lg_entry_eq]
  generalize (lg_sl ([.int p0]) ++ List.replicate (1 - (lg_sl ([.int p0])).length) Slot.unset).toArray = ls at hl ⊢
  have hl : lv_has ls 1 [(0, .int p0)] := hl
  unfold F_X11_isFigure at hF
  refine lv_iload_n hx hb dX11_isFigure_0 rfl (lv_at hl 0 rfl) ?_
  refine lv_bipush (v := 48) hx hb dX11_isFigure_1 (by decide +kernel) ?_
  refine lv_icmp_lt (tgt := 16) hx hb dX11_isFigure_3 (by decide) (fun c_1 => ?_) (fun c_1 => ?_)
  · have hF_2 := ipos c_1 hF
    clear hF
    refine lv_iconst (v := 0) hx hb dX11_isFigure_16 (by decide +kernel) ?_
    have h9 := Option.some.inj hF_2
    subst h9
    exact W.zret (v := 0) hx hb hr (by decide +kernel) (fun t ht hW => ⟨⟨0, (), rfl, rfl, m_end ht hP, hDD Γ⟩, hS.F ht⟩) hS.2.2 dX11_isFigure_17
  · have hF_3 := ineg c_1 hF
    clear hF
    refine lv_iload_n hx hb dX11_isFigure_6 rfl (lv_at hl 0 rfl) ?_
    refine lv_bipush (v := 57) hx hb dX11_isFigure_7 (by decide +kernel) ?_
    refine lv_icmp_gt (tgt := 16) hx hb dX11_isFigure_9 (by decide) (fun c_4 => ?_) (fun c_4 => ?_)
    · have hF_5 := ipos c_4 hF_3
      clear hF_3
      refine lv_iconst (v := 0) hx hb dX11_isFigure_16 (by decide +kernel) ?_
      have h9 := Option.some.inj hF_5
      subst h9
      exact W.zret (v := 0) hx hb hr (by decide +kernel) (fun t ht hW => ⟨⟨0, (), rfl, rfl, m_end ht hP, hDD Γ⟩, hS.F ht⟩) hS.2.2 dX11_isFigure_17
    · have hF_6 := ineg c_4 hF_3
      clear hF_3
      refine lv_iconst (v := 1) hx hb dX11_isFigure_12 (by decide +kernel) ?_
      refine lv_goto (tgt := 17) hx hb dX11_isFigure_13 (by decide) ?_
      have h9 := Option.some.inj hF_6
      subst h9
      exact W.zret (v := 1) hx hb hr (by decide +kernel) (fun t ht hW => ⟨⟨1, (), rfl, rfl, m_end ht hP, hDD Γ⟩, hS.F ht⟩) hS.2.2 dX11_isFigure_17
theorem dX11_nameSign_0 : decode cX11_nameSign 0 = .ok (.iload_n 0, 1) := by decide +kernel
theorem dX11_nameSign_1 : decode cX11_nameSign 1 = .ok (.invokestatic 311, 3) := by decide +kernel
theorem dX11_nameSign_4 : decode cX11_nameSign 4 = .ok (.ifCond .eq 12, 3) := by decide +kernel
theorem dX11_nameSign_7 : decode cX11_nameSign 7 = .ok (.iload_n 0, 1) := by decide +kernel
theorem dX11_nameSign_8 : decode cX11_nameSign 8 = .ok (.bipush 97, 2) := by decide +kernel
theorem dX11_nameSign_10 : decode cX11_nameSign 10 = .ok (.isub, 1) := by decide +kernel
theorem dX11_nameSign_11 : decode cX11_nameSign 11 = .ok (.iconst 1, 1) := by decide +kernel
theorem dX11_nameSign_12 : decode cX11_nameSign 12 = .ok (.iadd, 1) := by decide +kernel
theorem dX11_nameSign_13 : decode cX11_nameSign 13 = .ok (.goto 10, 3) := by decide +kernel
theorem dX11_nameSign_16 : decode cX11_nameSign 16 = .ok (.iload_n 0, 1) := by decide +kernel
theorem dX11_nameSign_17 : decode cX11_nameSign 17 = .ok (.bipush 48, 2) := by decide +kernel
theorem dX11_nameSign_19 : decode cX11_nameSign 19 = .ok (.isub, 1) := by decide +kernel
theorem dX11_nameSign_20 : decode cX11_nameSign 20 = .ok (.bipush 27, 2) := by decide +kernel
theorem dX11_nameSign_22 : decode cX11_nameSign 22 = .ok (.iadd, 1) := by decide +kernel
theorem dX11_nameSign_23 : decode cX11_nameSign 23 = .ok (.ireturn, 1) := by decide +kernel
def F_X11_nameSign (p0 : Int32) (Γ : HS) : HR :=
  (F_X11_isLetter p0 Γ).bind fun u_1 =>
  if u_1.1 = 0 then (
    some (((p0 - 48) + 27), Γ)
  ) else (
    some (((p0 - 97) + 1), Γ)
  )
set_option maxHeartbeats 4000000 in
set_option maxRecDepth 100000 in
theorem k_X11_nameSign (l : Launch) (dC : Nat → ClassId) (dI : Nat → Nat → Nat) (cB cC cI cJ cZ cP : ClassId) (oA : Nat → Nat) (rA : Nat → Nat → Nat) (sz : Nat)  (p0 : Int32) (Γ : HS) (res : Int32 × HS) (hF : F_X11_nameSign p0 Γ = some res) : Met l yX11_nameSign (g_ws yX11_nameSign cX11_nameSign 1 (some .int)) ({ frames := 2, cells := 0, slots := 0, locals := 60 }) (va_Pc [.int p0] (g_B (dC, dI) [(cB, .byte), (cC, .char), (cI, .int), (cJ, .long), (cZ, .boolean), (cP, .object "StoryHouse$Play")] sz ([] : va_W) g_0)) (va_Qi (fun r (_ : Unit) => r = res.1) (g_Bo (dC, dI) (va_A ([] : va_W) sz) (fun (_ : Unit) => ([] : va_W))) (va_A ([] : va_W) sz)) 0 0 (va_A ([] : va_W) sz) := by
  refine Met.ofW (cc := cX11_nameSign) (maxL := 1) (ret := (some .int)) (by decide) rfl ?_
  intro p e s m args below meth c s₁ B hml hv
  obtain ⟨rfl, hsz, hP, hK, hD0, hE, hX⟩ := hv
  have hx := B.exec
  have hb := B.bytes
  have hr := B.returns
  have hts0 := atoms_spec (ws := g_ws yX11_nameSign cX11_nameSign 1 (some .int)) B.pre
  have hts : ∀ w ∈ lw_good, w.before ([.int p0] : List Value).toArray s = true := fun w z => hts0 w (List.mem_cons_of_mem _ z)
  have hown : s.vm.findClass RX11 = some m.cls := findClass_of_methodNamed B.named
  have hlocks := B.notSynchronized
  subst hsz
  have hD1 := hD0.self (sz := s.heap.size)
  generalize hAe : va_A ([] : va_W) s.heap.size = A at hD1 hE hX ⊢
  have hA : ∀ q : Nat, s.heap.size ≤ q → A q := fun q z => by rw [← hAe]; exact Or.inr z
  have hDD : ∀ Γ : HS, va_D A ([] : va_W) := fun Γ9 => va_D_fst (ws := ([] : va_W)) (ws' := ([] : va_W)) rfl hD1
  have hN := hE.1
  have hS : va_S A s.heap s.heap [] := va_S.rf
  have hl := lv_entry ([.int p0]) (n := 1) (Nat.le_of_ble_eq_true rfl)
  rw [lg_entry_eq]
  generalize (lg_sl ([.int p0]) ++ List.replicate (1 - (lg_sl ([.int p0])).length) Slot.unset).toArray = ls at hl ⊢
  have hl : lv_has ls 1 [(0, .int p0)] := hl
  unfold F_X11_nameSign at hF
  refine lv_iload_n hx hb dX11_nameSign_0 rfl (lv_at hl 0 rfl) ?_
  obtain ⟨u_1, hu_1, hF_2⟩ := Option.bind_eq_some_iff.mp hF
  clear hF
  have hPc : va_P (dC, dI) vwCl [] s.heap := fun k q z => by simp at z
  have hDc : va_D A [] := ⟨fun i j p q z => by simp at z, fun k q z => by simp at z⟩
  have hFc := c_nil hA hS
  refine c_cs (v := u_1.1) hA hP hS (va_runS (As := [.int p0]) (rest := []) ⟨hx, hb, hml, hown, hts⟩ (k_X11_isLetter l dC dI cB cC cI cJ cZ cP oA rA s.heap.size  p0 Γ _ hu_1) (va_cwS 1 hts (g_gS wq_398 wq_399 wq_1 wq_400) rfl rfl rfl (by decide +kernel) ⟨Nat.le_of_ble_eq_true rfl, Nat.le_of_ble_eq_true rfl⟩) (g_preS g_bl0 hK hPc hDc hS hE hFc g_to0) rfl rfl hl.1 rfl (lv_room (Nat.le_of_ble_eq_true rfl)) dX11_nameSign_1 ⟨Nat.le_of_ble_eq_true rfl, Nat.le_of_ble_eq_true rfl⟩) (fun H locs hP hS => ?_)
  clear hPc hDc hFc
  refine lv_if_eq (tgt := 16) hx hb dX11_nameSign_4 (by decide) (fun c_3 => ?_) (fun c_3 => ?_)
  · have hF_4 := ipos c_3 hF_2
    clear hF_2
    refine lv_iload_n hx hb dX11_nameSign_16 rfl (lv_at hl 0 rfl) ?_
    refine lv_bipush (v := 48) hx hb dX11_nameSign_17 (by decide +kernel) ?_
    refine lv_isub hx hb dX11_nameSign_19 ?_
    refine lv_bipush (v := 27) hx hb dX11_nameSign_20 (by decide +kernel) ?_
    refine lv_iadd hx hb dX11_nameSign_22 ?_
    have h9 := Option.some.inj hF_4
    subst h9
    exact W.iret (v := ((p0 - 48) + 27)) hx hb hr (fun t ht hW => ⟨⟨((p0 - 48) + 27), (), rfl, rfl, m_end ht hP, hDD Γ⟩, hS.F ht⟩) hS.2.2 dX11_nameSign_23
  · have hF_5 := ineg c_3 hF_2
    clear hF_2
    refine lv_iload_n hx hb dX11_nameSign_7 rfl (lv_at hl 0 rfl) ?_
    refine lv_bipush (v := 97) hx hb dX11_nameSign_8 (by decide +kernel) ?_
    refine lv_isub hx hb dX11_nameSign_10 ?_
    refine lv_iconst (v := 1) hx hb dX11_nameSign_11 (by decide +kernel) ?_
    refine lv_iadd hx hb dX11_nameSign_12 ?_
    refine lv_goto (tgt := 23) hx hb dX11_nameSign_13 (by decide) ?_
    have h9 := Option.some.inj hF_5
    subst h9
    exact W.iret (v := ((p0 - 97) + 1)) hx hb hr (fun t ht hW => ⟨⟨((p0 - 97) + 1), (), rfl, rfl, m_end ht hP, hDD Γ⟩, hS.F ht⟩) hS.2.2 dX11_nameSign_23
theorem dX11_wordEnd_0 : decode cX11_wordEnd 0 = .ok (.iconst 0, 1) := by decide +kernel
theorem dX11_wordEnd_1 : decode cX11_wordEnd 1 = .ok (.iload_n 1, 1) := by decide +kernel
theorem dX11_wordEnd_2 : decode cX11_wordEnd 2 = .ok (.invokestatic 329, 3) := by decide +kernel
theorem dX11_wordEnd_5 : decode cX11_wordEnd 5 = .ok (.istore_n 2, 1) := by decide +kernel
theorem dX11_wordEnd_6 : decode cX11_wordEnd 6 = .ok (.iload_n 2, 1) := by decide +kernel
theorem dX11_wordEnd_7 : decode cX11_wordEnd 7 = .ok (.aload_n 0, 1) := by decide +kernel
theorem dX11_wordEnd_8 : decode cX11_wordEnd 8 = .ok (.invokevirtual 314, 3) := by decide +kernel
theorem dX11_wordEnd_11 : decode cX11_wordEnd 11 = .ok (.if_icmp .ge 21, 3) := by decide +kernel
theorem dX11_wordEnd_14 : decode cX11_wordEnd 14 = .ok (.aload_n 0, 1) := by decide +kernel
theorem dX11_wordEnd_15 : decode cX11_wordEnd 15 = .ok (.iload_n 2, 1) := by decide +kernel
theorem dX11_wordEnd_16 : decode cX11_wordEnd 16 = .ok (.invokevirtual 321, 3) := by decide +kernel
theorem dX11_wordEnd_19 : decode cX11_wordEnd 19 = .ok (.bipush 32, 2) := by decide +kernel
theorem dX11_wordEnd_21 : decode cX11_wordEnd 21 = .ok (.if_icmp .ne 5, 3) := by decide +kernel
theorem dX11_wordEnd_24 : decode cX11_wordEnd 24 = .ok (.iload_n 2, 1) := by decide +kernel
theorem dX11_wordEnd_25 : decode cX11_wordEnd 25 = .ok (.ireturn, 1) := by decide +kernel
theorem dX11_wordEnd_26 : decode cX11_wordEnd 26 = .ok (.iinc 2 1, 3) := by decide +kernel
theorem dX11_wordEnd_29 : decode cX11_wordEnd 29 = .ok (.goto (-23), 3) := by decide +kernel
theorem dX11_wordEnd_32 : decode cX11_wordEnd 32 = .ok (.aload_n 0, 1) := by decide +kernel
theorem dX11_wordEnd_33 : decode cX11_wordEnd 33 = .ok (.invokevirtual 314, 3) := by decide +kernel
theorem dX11_wordEnd_36 : decode cX11_wordEnd 36 = .ok (.ireturn, 1) := by decide +kernel
def F_X11_wordEnd (b0 : List Int32) (p1 : Int32) (Γ : HS) : HR :=
  bnd ((if 0 < p1 then p1 else 0)) fun (x_1 : Int32) =>
  loopF (fun (again_4 : (Int32 × HS) → HR) (s_3 : Int32 × HS) => (
    bnd ((Int32.ofNat (b0).length)) fun (x_7 : Int32) =>
    if x_7 ≤ s_3.1 then (
      bnd ((Int32.ofNat (b0).length)) fun (x_11 : Int32) =>
      some (x_11, s_3.2)
    ) else (
      if s_3.1 < 0 ∨ Int32.ofNat (b0).length ≤ s_3.1 then none else
      bnd ((g_chr ((b0).getD s_3.1.toNatClampNeg 0))) fun (x_16 : Int32) =>
      if x_16 = 32 then (
        some (s_3.1, s_3.2)
      ) else (
        bnd (s_3.1 + 1) fun (x_21 : Int32) =>
        again_4 (x_21, s_3.2)
      )
    )
  )) FU (x_1, Γ)
set_option maxHeartbeats 4000000 in
set_option maxRecDepth 100000 in
theorem k_X11_wordEnd (l : Launch) (dC : Nat → ClassId) (dI : Nat → Nat → Nat) (cB cC cI cJ cZ cP : ClassId) (oA : Nat → Nat) (rA : Nat → Nat → Nat) (sz : Nat) (q0 vq0 : Nat) (b0 : List Int32) (p1 : Int32) (Γ : HS) (res : Int32 × HS) (hF : F_X11_wordEnd b0 p1 Γ = some res) : Met l yX11_wordEnd (g_ws yX11_wordEnd cX11_wordEnd 3 (some .int)) ({ frames := 5, cells := 0, slots := 0, locals := 125 }) (va_Pc [.ref q0, .int p1] (g_B (dC, dI) [(cB, .byte), (cC, .char), (cI, .int), (cJ, .long), (cZ, .boolean), (cP, .object "StoryHouse$Play")] sz ([] : va_W) (fun U : State => g_S q0 vq0 b0 (va_A ([] : va_W) sz) U U.heap))) (va_Qi (fun r (_ : Unit) => r = res.1) (g_Bo (dC, dI) (va_A ([] : va_W) sz) (fun (_ : Unit) => ([] : va_W))) (va_A ([] : va_W) sz)) 0 0 (va_A ([] : va_W) sz) := by
  refine Met.ofW (cc := cX11_wordEnd) (maxL := 3) (ret := (some .int)) (by decide) rfl ?_
  intro p e s m args below meth c s₁ B hml hv
  obtain ⟨rfl, hsz, hP, hK, hD0, hE, hX⟩ := hv
  have hx := B.exec
  have hb := B.bytes
  have hr := B.returns
  have hts0 := atoms_spec (ws := g_ws yX11_wordEnd cX11_wordEnd 3 (some .int)) B.pre
  have hts : ∀ w ∈ lw_good, w.before ([.ref q0, .int p1] : List Value).toArray s = true := fun w z => hts0 w (List.mem_cons_of_mem _ z)
  have hown : s.vm.findClass RX11 = some m.cls := findClass_of_methodNamed B.named
  have hlocks := B.notSynchronized
  subst hsz
  have hD1 := hD0.self (sz := s.heap.size)
  generalize hAe : va_A ([] : va_W) s.heap.size = A at hD1 hE hX ⊢
  have hA : ∀ q : Nat, s.heap.size ≤ q → A q := fun q z => by rw [← hAe]; exact Or.inr z
  have hDD : ∀ Γ : HS, va_D A ([] : va_W) := fun Γ9 => va_D_fst (ws := ([] : va_W)) (ws' := ([] : va_W)) rfl hD1
  have hN := hE.1
  have hStr_q0 := hX
  have hS : va_S A s.heap s.heap [] := va_S.rf
  have hl := lv_entry ([.ref q0, .int p1]) (n := 3) (Nat.le_of_ble_eq_true rfl)
  rw [lg_entry_eq]
  generalize (lg_sl ([.ref q0, .int p1]) ++ List.replicate (3 - (lg_sl ([.ref q0, .int p1])).length) Slot.unset).toArray = ls at hl ⊢
  have hl : lv_has ls 3 [(0, .ref q0), (1, .int p1)] := hl
  unfold F_X11_wordEnd at hF
  refine lv_iconst (v := 0) hx hb dX11_wordEnd_0 (by decide +kernel) ?_
  refine lv_iload_n hx hb dX11_wordEnd_1 rfl (lv_at hl 1 rfl) ?_
  refine va_mmax hx hb (hml.trans hl.1.symm) hown (hts (.methodLink RX11 329 yJ9_max_7cf53) wq_356) (hts (.static yJ9_max_7cf53) wq_334) (hts (.initialized RJ9) wq_19) (hts (.code yJ9_max_7cf53 cJ9_max_7cf53 2 (some .int)) wq_335) (Nat.le_of_ble_eq_true rfl) (Nat.le_of_ble_eq_true rfl) (Nat.le_of_ble_eq_true rfl) (Nat.le_of_ble_eq_true rfl) dX11_wordEnd_2 ?_
  obtain ⟨x_1, ex_1, hF_2⟩ := bnd_e hF
  clear hF
  refine m_top ex_1 ?_
  refine lv_istore_n (lv' := [(2, .int x_1), (0, .ref q0), (1, .int p1)]) hx hb dX11_wordEnd_5 rfl hl (by decide) rfl (fun ls hl => ?_)
  refine loopF_ind (P := fun (s_3 : Int32 × HS) => ∀ (H : Heap) (locs : List Loc), va_P (dC, dI) vwCl ([] : va_W) H → va_S A s.heap H locs → ∀ ls : Array Slot, lv_has ls 3 [(0, .ref q0), (2, .int s_3.1)] → W p l e (headSpec (g_ws yX11_wordEnd cX11_wordEnd 3 (some .int)) { frames := 5, cells := 0, slots := 0, locals := 125 }).room s m ([.ref q0, .int p1] : List Value).toArray below meth c H locs 0 0 (MQ below (va_Qi (fun r (_ : Unit) => r = res.1) (g_Bo (dC, dI) A (fun (_ : Unit) => ([] : va_W))) A) ([.ref q0, .int p1] : List Value).toArray s 0 0 A) (F0 m 6 ls [])) ?_ _ _ hF_2 _ _ hP hS ls (lv_sub hl [1, 0] rfl)
  intro again_4 s_3 ih_5 hF_6
  intro H locs hP hS ls hl
  refine lv_iload_n hx hb dX11_wordEnd_6 rfl (lv_at hl 1 rfl) ?_
  refine lv_aload_n hx hb dX11_wordEnd_7 rfl (lv_at hl 0 rfl) ?_
  refine c_cs (v := Int32.ofNat (b0).length) hA hP hS (va_runV (As := []) (rest := [.int s_3.1]) ⟨hx, hb, hml, hown, hts⟩ (c_J0_length_8abf5 l dC dI cB cC cI cJ cZ cP H.size q0  _ b0 ) (cwV 0 hts (g_gV wq_357 wq_346 wq_347 wq_22 wq_348) rfl rfl rfl (by decide +kernel) ⟨Nat.le_of_ble_eq_true rfl, Nat.le_of_ble_eq_true rfl⟩) (g_preVs g_blS hK (wc := []) (A := A) (fun k q z => by simp at z) ⟨fun i j p q z => by simp at z, fun k q z => by simp at z⟩ hS hE (c_nil hA hS) (g_toS hStr_q0 hS (c_nil hA hS)) (va_Orecv hStr_q0.1 hS)) rfl rfl hl.1 rfl (lv_room (Nat.le_of_ble_eq_true rfl)) dX11_wordEnd_8 ⟨Nat.le_of_ble_eq_true rfl, Nat.le_of_ble_eq_true rfl⟩) (fun H locs hP hS => ?_)
  obtain ⟨x_7, ex_7, hF_8⟩ := bnd_e hF_6
  clear hF_6
  refine m_top ex_7 ?_
  refine lv_icmp_ge (tgt := 32) hx hb dX11_wordEnd_11 (by decide) (fun c_9 => ?_) (fun c_9 => ?_)
  · have hF_10 := ipos c_9 hF_8
    clear hF_8
    refine lv_aload_n hx hb dX11_wordEnd_32 rfl (lv_at hl 0 rfl) ?_
    refine c_cs (v := Int32.ofNat (b0).length) hA hP hS (va_runV (As := []) (rest := []) ⟨hx, hb, hml, hown, hts⟩ (c_J0_length_8abf5 l dC dI cB cC cI cJ cZ cP H.size q0  _ b0 ) (cwV 0 hts (g_gV wq_357 wq_346 wq_347 wq_22 wq_348) rfl rfl rfl (by decide +kernel) ⟨Nat.le_of_ble_eq_true rfl, Nat.le_of_ble_eq_true rfl⟩) (g_preVs g_blS hK (wc := []) (A := A) (fun k q z => by simp at z) ⟨fun i j p q z => by simp at z, fun k q z => by simp at z⟩ hS hE (c_nil hA hS) (g_toS hStr_q0 hS (c_nil hA hS)) (va_Orecv hStr_q0.1 hS)) rfl rfl hl.1 rfl (lv_room (Nat.le_of_ble_eq_true rfl)) dX11_wordEnd_33 ⟨Nat.le_of_ble_eq_true rfl, Nat.le_of_ble_eq_true rfl⟩) (fun H locs hP hS => ?_)
    obtain ⟨x_11, ex_11, hF_12⟩ := bnd_e hF_10
    clear hF_10
    refine m_top ex_11 ?_
    have h9 := Option.some.inj hF_12
    subst h9
    exact W.iret (v := x_11) hx hb hr (fun t ht hW => ⟨⟨x_11, (), rfl, rfl, m_end ht hP, hDD Γ⟩, hS.F ht⟩) hS.2.2 dX11_wordEnd_36
  · have hF_13 := ineg c_9 hF_8
    clear hF_8
    refine lv_aload_n hx hb dX11_wordEnd_14 rfl (lv_at hl 0 rfl) ?_
    refine lv_iload_n hx hb dX11_wordEnd_15 rfl (lv_at hl 1 rfl) ?_
    obtain ⟨g_14, hF_15⟩ := nif_e hF_13
    clear hF_13
    refine c_cs (v := g_chr ((b0).getD s_3.1.toNatClampNeg 0)) hA hP hS (va_runV (As := [.int s_3.1]) (rest := []) ⟨hx, hb, hml, hown, hts⟩ (c_J0_charAt_5068e l dC dI cB cC cI cJ cZ cP H.size q0 s_3.1 _ b0 (fun z => g_14 (Or.inl z)) (Int32.not_le.mp (fun z => g_14 (Or.inr z)))) (cwV 1 hts (g_gV wq_358 wq_359 wq_360 wq_22 wq_361) rfl rfl rfl (by decide +kernel) ⟨Nat.le_of_ble_eq_true rfl, Nat.le_of_ble_eq_true rfl⟩) (g_preVs g_blS hK (wc := []) (A := A) (fun k q z => by simp at z) ⟨fun i j p q z => by simp at z, fun k q z => by simp at z⟩ hS hE (c_nil hA hS) (g_toS hStr_q0 hS (c_nil hA hS)) (va_Orecv hStr_q0.1 hS)) rfl rfl hl.1 rfl (lv_room (Nat.le_of_ble_eq_true rfl)) dX11_wordEnd_16 ⟨Nat.le_of_ble_eq_true rfl, Nat.le_of_ble_eq_true rfl⟩) (fun H locs hP hS => ?_)
    obtain ⟨x_16, ex_16, hF_17⟩ := bnd_e hF_15
    clear hF_15
    refine m_top ex_16 ?_
    refine lv_bipush (v := 32) hx hb dX11_wordEnd_19 (by decide +kernel) ?_
    refine lv_icmp_ne (tgt := 26) hx hb dX11_wordEnd_21 (by decide) (fun c_18 => ?_) (fun c_18 => ?_)
    · have hF_20 := ineg c_18 hF_17
      clear hF_17
      obtain ⟨x_21, ex_21, hF_22⟩ := bnd_e hF_20
      clear hF_20
      refine lv_iinc (v := x_21) (lv' := [(2, .int x_21), (0, .ref q0)]) hx hb dX11_wordEnd_26 hl (k := 1) rfl (by rw [ex_21]; rfl) (by decide) rfl (fun ls hl => ?_)
      refine lv_goto (tgt := 6) hx hb dX11_wordEnd_29 (by decide) ?_
      exact ih_5 (x_21, s_3.2) hF_22 _ _ hP hS ls (lv_sub hl [1, 0] rfl)
    · have hF_19 := ipos c_18 hF_17
      clear hF_17
      refine lv_iload_n hx hb dX11_wordEnd_24 rfl (lv_at hl 1 rfl) ?_
      have h9 := Option.some.inj hF_19
      subst h9
      exact W.iret (v := s_3.1) hx hb hr (fun t ht hW => ⟨⟨s_3.1, (), rfl, rfl, m_end ht hP, hDD Γ⟩, hS.F ht⟩) hS.2.2 dX11_wordEnd_25
theorem dX11_packed_0 : decode cX11_packed 0 = .ok (.lconst 0, 1) := by decide +kernel
theorem dX11_packed_1 : decode cX11_packed 1 = .ok (.lstore 4, 2) := by decide +kernel
theorem dX11_packed_3 : decode cX11_packed 3 = .ok (.iconst 0, 1) := by decide +kernel
theorem dX11_packed_4 : decode cX11_packed 4 = .ok (.istore 6, 2) := by decide +kernel
theorem dX11_packed_6 : decode cX11_packed 6 = .ok (.iload 6, 2) := by decide +kernel
theorem dX11_packed_8 : decode cX11_packed 8 = .ok (.iload_n 3, 1) := by decide +kernel
theorem dX11_packed_9 : decode cX11_packed 9 = .ok (.if_icmp .ge 70, 3) := by decide +kernel
theorem dX11_packed_12 : decode cX11_packed 12 = .ok (.iload_n 1, 1) := by decide +kernel
theorem dX11_packed_13 : decode cX11_packed 13 = .ok (.iload 6, 2) := by decide +kernel
theorem dX11_packed_15 : decode cX11_packed 15 = .ok (.iadd, 1) := by decide +kernel
theorem dX11_packed_16 : decode cX11_packed 16 = .ok (.istore 7, 2) := by decide +kernel
theorem dX11_packed_18 : decode cX11_packed 18 = .ok (.iload 7, 2) := by decide +kernel
theorem dX11_packed_20 : decode cX11_packed 20 = .ok (.ifCond .lt 22, 3) := by decide +kernel
theorem dX11_packed_23 : decode cX11_packed 23 = .ok (.iload 7, 2) := by decide +kernel
theorem dX11_packed_25 : decode cX11_packed 25 = .ok (.iload_n 2, 1) := by decide +kernel
theorem dX11_packed_26 : decode cX11_packed 26 = .ok (.if_icmp .ge 16, 3) := by decide +kernel
theorem dX11_packed_29 : decode cX11_packed 29 = .ok (.iload 7, 2) := by decide +kernel
theorem dX11_packed_31 : decode cX11_packed 31 = .ok (.aload_n 0, 1) := by decide +kernel
theorem dX11_packed_32 : decode cX11_packed 32 = .ok (.invokevirtual 314, 3) := by decide +kernel
theorem dX11_packed_35 : decode cX11_packed 35 = .ok (.if_icmp .ge 7, 3) := by decide +kernel
theorem dX11_packed_38 : decode cX11_packed 38 = .ok (.iconst 1, 1) := by decide +kernel
theorem dX11_packed_39 : decode cX11_packed 39 = .ok (.goto 4, 3) := by decide +kernel
theorem dX11_packed_42 : decode cX11_packed 42 = .ok (.iconst 0, 1) := by decide +kernel
theorem dX11_packed_43 : decode cX11_packed 43 = .ok (.istore 8, 2) := by decide +kernel
theorem dX11_packed_45 : decode cX11_packed 45 = .ok (.lload 4, 2) := by decide +kernel
theorem dX11_packed_47 : decode cX11_packed 47 = .ok (.ldc2_w 319, 3) := by decide +kernel
theorem dX11_packed_50 : decode cX11_packed 50 = .ok (.lmul, 1) := by decide +kernel
theorem dX11_packed_51 : decode cX11_packed 51 = .ok (.iload 8, 2) := by decide +kernel
theorem dX11_packed_53 : decode cX11_packed 53 = .ok (.ifCond .eq 15, 3) := by decide +kernel
theorem dX11_packed_56 : decode cX11_packed 56 = .ok (.aload_n 0, 1) := by decide +kernel
theorem dX11_packed_57 : decode cX11_packed 57 = .ok (.iload 7, 2) := by decide +kernel
theorem dX11_packed_59 : decode cX11_packed 59 = .ok (.invokevirtual 321, 3) := by decide +kernel
theorem dX11_packed_62 : decode cX11_packed 62 = .ok (.invokestatic 325, 3) := by decide +kernel
theorem dX11_packed_65 : decode cX11_packed 65 = .ok (.goto 4, 3) := by decide +kernel
theorem dX11_packed_68 : decode cX11_packed 68 = .ok (.iconst 0, 1) := by decide +kernel
theorem dX11_packed_69 : decode cX11_packed 69 = .ok (.i2l, 1) := by decide +kernel
theorem dX11_packed_70 : decode cX11_packed 70 = .ok (.ladd, 1) := by decide +kernel
theorem dX11_packed_71 : decode cX11_packed 71 = .ok (.lstore 4, 2) := by decide +kernel
theorem dX11_packed_73 : decode cX11_packed 73 = .ok (.iinc 6 1, 3) := by decide +kernel
theorem dX11_packed_76 : decode cX11_packed 76 = .ok (.goto (-70), 3) := by decide +kernel
theorem dX11_packed_79 : decode cX11_packed 79 = .ok (.lload 4, 2) := by decide +kernel
theorem dX11_packed_81 : decode cX11_packed 81 = .ok (.lreturn, 1) := by decide +kernel
def F_X11_packed (b0 : List Int32) (p1 : Int32) (p2 : Int32) (p3 : Int32) (Γ : HS) : HJ :=
  loopF (fun (again_2 : (Int64 × Int32 × HS) → HJ) (s_1 : Int64 × Int32 × HS) => (
    if p3 ≤ s_1.2.1 then (
      some (s_1.1, s_1.2.2)
    ) else (
      bnd ((p1 + s_1.2.1)) fun (x_8 : Int32) =>
      bnd (fun (t_10 : Int32) (σ_11 : HS) => (
        bnd (fun (t_15 : Int32) (σ_16 : HS) => (
          bnd (((s_1.1 * 37) + t_15.toInt64)) fun (y_20 : Int64) =>
          bnd (s_1.2.1 + 1) fun (x_22 : Int32) =>
          again_2 (y_20, x_22, σ_16)
        ) : Int32 → HS → HJ) fun j_17 =>
        if t_10 = 0 then (
          j_17 0 σ_11
        ) else (
          if x_8 < 0 ∨ Int32.ofNat (b0).length ≤ x_8 then none else
          bnd ((g_chr ((b0).getD x_8.toNatClampNeg 0))) fun (x_29 : Int32) =>
          (F_X11_nameSign x_29 σ_11).bind fun u_31 =>
          j_17 u_31.1 σ_11
        )
      ) : Int32 → HS → HJ) fun j_12 =>
      bnd (fun  (σ_33 : HS) => (
        j_12 0 σ_33
      ) : HS → HJ) fun j_34 =>
      if x_8 < 0 then (
        j_34  s_1.2.2
      ) else (
        if p2 ≤ x_8 then (
          j_34  s_1.2.2
        ) else (
          bnd ((Int32.ofNat (b0).length)) fun (x_43 : Int32) =>
          if x_43 ≤ x_8 then (
            j_34  s_1.2.2
          ) else (
            j_12 1 s_1.2.2
          )
        )
      )
    )
  )) FU (0, 0, Γ)
set_option maxHeartbeats 4000000 in
set_option maxRecDepth 100000 in
theorem k_X11_packed (l : Launch) (dC : Nat → ClassId) (dI : Nat → Nat → Nat) (cB cC cI cJ cZ cP : ClassId) (oA : Nat → Nat) (rA : Nat → Nat → Nat) (sz : Nat) (q0 vq0 : Nat) (b0 : List Int32) (p1 : Int32) (p2 : Int32) (p3 : Int32) (Γ : HS) (res : Int64 × HS) (hF : F_X11_packed b0 p1 p2 p3 Γ = some res) : Met l yX11_packed (g_ws yX11_packed cX11_packed 9 (some .long)) ({ frames := 5, cells := 0, slots := 0, locals := 125 }) (va_Pc [.ref q0, .int p1, .int p2, .int p3] (g_B (dC, dI) [(cB, .byte), (cC, .char), (cI, .int), (cJ, .long), (cZ, .boolean), (cP, .object "StoryHouse$Play")] sz ([] : va_W) (fun U : State => g_S q0 vq0 b0 (va_A ([] : va_W) sz) U U.heap))) (va_Ql (fun r (_ : Unit) => r = res.1) (g_Bo (dC, dI) (va_A ([] : va_W) sz) (fun (_ : Unit) => ([] : va_W))) (va_A ([] : va_W) sz)) 0 0 (va_A ([] : va_W) sz) := by
  refine Met.ofW (cc := cX11_packed) (maxL := 9) (ret := (some .long)) (by decide) rfl ?_
  intro p e s m args below meth c s₁ B hml hv
  obtain ⟨rfl, hsz, hP, hK, hD0, hE, hX⟩ := hv
  have hx := B.exec
  have hb := B.bytes
  have hr := B.returns
  have hts0 := atoms_spec (ws := g_ws yX11_packed cX11_packed 9 (some .long)) B.pre
  have hts : ∀ w ∈ lw_good, w.before ([.ref q0, .int p1, .int p2, .int p3] : List Value).toArray s = true := fun w z => hts0 w (List.mem_cons_of_mem _ z)
  have hown : s.vm.findClass RX11 = some m.cls := findClass_of_methodNamed B.named
  have hlocks := B.notSynchronized
  subst hsz
  have hD1 := hD0.self (sz := s.heap.size)
  generalize hAe : va_A ([] : va_W) s.heap.size = A at hD1 hE hX ⊢
  have hA : ∀ q : Nat, s.heap.size ≤ q → A q := fun q z => by rw [← hAe]; exact Or.inr z
  have hDD : ∀ Γ : HS, va_D A ([] : va_W) := fun Γ9 => va_D_fst (ws := ([] : va_W)) (ws' := ([] : va_W)) rfl hD1
  have hN := hE.1
  have hStr_q0 := hX
  have hS : va_S A s.heap s.heap [] := va_S.rf
  have hl := lv_entry ([.ref q0, .int p1, .int p2, .int p3]) (n := 9) (Nat.le_of_ble_eq_true rfl)
  rw [lg_entry_eq]
  generalize (lg_sl ([.ref q0, .int p1, .int p2, .int p3]) ++ List.replicate (9 - (lg_sl ([.ref q0, .int p1, .int p2, .int p3])).length) Slot.unset).toArray = ls at hl ⊢
  have hl : lv_has ls 9 [(0, .ref q0), (1, .int p1), (2, .int p2), (3, .int p3)] := hl
  unfold F_X11_packed at hF
  refine lv_lconst (v := 0) hx hb dX11_packed_0 (by decide +kernel) ?_
  refine lv_lstore (lv' := [(4, .long 0), (0, .ref q0), (1, .int p1), (2, .int p2), (3, .int p3)]) hx hb dX11_packed_1 hl (by decide) rfl (fun ls hl => ?_)
  refine lv_iconst (v := 0) hx hb dX11_packed_3 (by decide +kernel) ?_
  refine lv_istore (lv' := [(6, .int 0), (4, .long 0), (0, .ref q0), (1, .int p1), (2, .int p2), (3, .int p3)]) hx hb dX11_packed_4 hl (by decide) rfl (fun ls hl => ?_)
  refine loopF_ind (P := fun (s_1 : Int64 × Int32 × HS) => ∀ (H : Heap) (locs : List Loc), va_P (dC, dI) vwCl ([] : va_W) H → va_S A s.heap H locs → ∀ ls : Array Slot, lv_has ls 9 [(0, .ref q0), (1, .int p1), (2, .int p2), (3, .int p3), (4, .long s_1.1), (6, .int s_1.2.1)] → W p l e (headSpec (g_ws yX11_packed cX11_packed 9 (some .long)) { frames := 5, cells := 0, slots := 0, locals := 125 }).room s m ([.ref q0, .int p1, .int p2, .int p3] : List Value).toArray below meth c H locs 0 0 (MQ below (va_Ql (fun r (_ : Unit) => r = res.1) (g_Bo (dC, dI) A (fun (_ : Unit) => ([] : va_W))) A) ([.ref q0, .int p1, .int p2, .int p3] : List Value).toArray s 0 0 A) (F0 m 6 ls [])) ?_ _ _ hF _ _ hP hS ls (lv_sub hl [2, 3, 4, 5, 1, 0] rfl)
  intro again_2 s_1 ih_3 hF_4
  intro H locs hP hS ls hl
  refine lv_iload hx hb dX11_packed_6 (lv_at hl 5 rfl) ?_
  refine lv_iload_n hx hb dX11_packed_8 rfl (lv_at hl 3 rfl) ?_
  refine lv_icmp_ge (tgt := 79) hx hb dX11_packed_9 (by decide) (fun c_5 => ?_) (fun c_5 => ?_)
  · have hF_6 := ipos c_5 hF_4
    clear hF_4
    refine lv_lload hx hb dX11_packed_79 (lv_at hl 4 rfl) ?_
    have h9 := Option.some.inj hF_6
    subst h9
    exact W.lret (v := s_1.1) hx hb hr (fun t ht hW => ⟨⟨s_1.1, (), rfl, rfl, m_end ht hP, hDD Γ⟩, hS.F ht⟩) hS.2.2 dX11_packed_81
  · have hF_7 := ineg c_5 hF_4
    clear hF_4
    refine lv_iload_n hx hb dX11_packed_12 rfl (lv_at hl 1 rfl) ?_
    refine lv_iload hx hb dX11_packed_13 (lv_at hl 5 rfl) ?_
    refine lv_iadd hx hb dX11_packed_15 ?_
    obtain ⟨x_8, ex_8, hF_9⟩ := bnd_e hF_7
    clear hF_7
    refine m_top ex_8 ?_
    refine lv_istore (lv' := [(7, .int x_8), (0, .ref q0), (1, .int p1), (2, .int p2), (3, .int p3), (4, .long s_1.1), (6, .int s_1.2.1)]) hx hb dX11_packed_16 hl (by decide) rfl (fun ls hl => ?_)
    refine lv_iload hx hb dX11_packed_18 (lv_at hl 0 rfl) ?_
    obtain ⟨j_12, ej_12, hF_13⟩ := bnd_e hF_9
    clear hF_9
    have Jj_12 : ∀ (t_10 : Int32) (σ_11 : HS), j_12 t_10 σ_11 = some res → ∀ (H : Heap) (locs : List Loc), va_P (dC, dI) vwCl ([] : va_W) H → va_S A s.heap H locs → ∀ ls : Array Slot, lv_has ls 9 [(0, .ref q0), (1, .int p1), (2, .int p2), (3, .int p3), (4, .long s_1.1), (6, .int s_1.2.1), (7, .int x_8)] → W p l e (headSpec (g_ws yX11_packed cX11_packed 9 (some .long)) { frames := 5, cells := 0, slots := 0, locals := 125 }).room s m ([.ref q0, .int p1, .int p2, .int p3] : List Value).toArray below meth c H locs 0 0 (MQ below (va_Ql (fun r (_ : Unit) => r = res.1) (g_Bo (dC, dI) A (fun (_ : Unit) => ([] : va_W))) A) ([.ref q0, .int p1, .int p2, .int p3] : List Value).toArray s 0 0 A) (F0 m 43 ls [.int t_10]) := by
      intro t_10 σ_11 hF0 H locs hP hS ls hl
      subst ej_12
      have hF_14 := hF0
      clear hF0
      refine lv_istore (lv' := [(8, .int t_10), (0, .ref q0), (1, .int p1), (2, .int p2), (3, .int p3), (4, .long s_1.1), (6, .int s_1.2.1), (7, .int x_8)]) hx hb dX11_packed_43 hl (by decide) rfl (fun ls hl => ?_)
      refine lv_lload hx hb dX11_packed_45 (lv_at hl 5 rfl) ?_
      refine lv_ldc2 (v := 37) hx hb hown (hts (.constantLong RX11 319 (37)) wq_394) dX11_packed_47 ?_
      refine lv_lmul hx hb dX11_packed_50 ?_
      refine lv_iload hx hb dX11_packed_51 (lv_at hl 0 rfl) ?_
      obtain ⟨j_17, ej_17, hF_18⟩ := bnd_e hF_14
      clear hF_14
      have Jj_17 : ∀ (t_15 : Int32) (σ_16 : HS), j_17 t_15 σ_16 = some res → ∀ (H : Heap) (locs : List Loc), va_P (dC, dI) vwCl ([] : va_W) H → va_S A s.heap H locs → ∀ ls : Array Slot, lv_has ls 9 [(0, .ref q0), (1, .int p1), (2, .int p2), (3, .int p3), (6, .int s_1.2.1)] → W p l e (headSpec (g_ws yX11_packed cX11_packed 9 (some .long)) { frames := 5, cells := 0, slots := 0, locals := 125 }).room s m ([.ref q0, .int p1, .int p2, .int p3] : List Value).toArray below meth c H locs 0 0 (MQ below (va_Ql (fun r (_ : Unit) => r = res.1) (g_Bo (dC, dI) A (fun (_ : Unit) => ([] : va_W))) A) ([.ref q0, .int p1, .int p2, .int p3] : List Value).toArray s 0 0 A) (F0 m 69 ls [.int t_15, .long (s_1.1 * 37)]) := by
        intro t_15 σ_16 hF0 H locs hP hS ls hl
        subst ej_17
        have hF_19 := hF0
        clear hF0
        refine lv_i2l hx hb dX11_packed_69 rfl ?_
        refine lv_ladd hx hb dX11_packed_70 ?_
        obtain ⟨y_20, ey_20, hF_21⟩ := bnd_e hF_19
        clear hF_19
        refine c_topl ey_20 ?_
        refine lv_lstore (lv' := [(4, .long y_20), (0, .ref q0), (1, .int p1), (2, .int p2), (3, .int p3), (6, .int s_1.2.1)]) hx hb dX11_packed_71 hl (by decide) rfl (fun ls hl => ?_)
        obtain ⟨x_22, ex_22, hF_23⟩ := bnd_e hF_21
        clear hF_21
        refine lv_iinc (v := x_22) (lv' := [(6, .int x_22), (4, .long y_20), (0, .ref q0), (1, .int p1), (2, .int p2), (3, .int p3)]) hx hb dX11_packed_73 hl (k := 5) rfl (by rw [ex_22]; rfl) (by decide) rfl (fun ls hl => ?_)
        refine lv_goto (tgt := 6) hx hb dX11_packed_76 (by decide) ?_
        exact ih_3 (y_20, x_22, σ_16) hF_23 _ _ hP hS ls (lv_sub hl [2, 3, 4, 5, 1, 0] rfl)
      refine lv_if_eq (tgt := 68) hx hb dX11_packed_53 (by decide) (fun c_24 => ?_) (fun c_24 => ?_)
      · have hF_25 := ipos c_24 hF_18
        clear hF_18
        refine lv_iconst (v := 0) hx hb dX11_packed_68 (by decide +kernel) ?_
        exact Jj_17 0 σ_11 hF_25 _ _ hP hS ls (lv_sub hl [1, 2, 3, 4, 6] rfl)
      · have hF_26 := ineg c_24 hF_18
        clear hF_18
        refine lv_aload_n hx hb dX11_packed_56 rfl (lv_at hl 1 rfl) ?_
        refine lv_iload hx hb dX11_packed_57 (lv_at hl 7 rfl) ?_
        obtain ⟨g_27, hF_28⟩ := nif_e hF_26
        clear hF_26
        refine c_cs (v := g_chr ((b0).getD x_8.toNatClampNeg 0)) hA hP hS (va_runV (As := [.int x_8]) (rest := [.long (s_1.1 * 37)]) ⟨hx, hb, hml, hown, hts⟩ (c_J0_charAt_5068e l dC dI cB cC cI cJ cZ cP H.size q0 x_8 _ b0 (fun z => g_27 (Or.inl z)) (Int32.not_le.mp (fun z => g_27 (Or.inr z)))) (cwV 1 hts (g_gV wq_358 wq_359 wq_360 wq_22 wq_361) rfl rfl rfl (by decide +kernel) ⟨Nat.le_of_ble_eq_true rfl, Nat.le_of_ble_eq_true rfl⟩) (g_preVs g_blS hK (wc := []) (A := A) (fun k q z => by simp at z) ⟨fun i j p q z => by simp at z, fun k q z => by simp at z⟩ hS hE (c_nil hA hS) (g_toS hStr_q0 hS (c_nil hA hS)) (va_Orecv hStr_q0.1 hS)) rfl rfl hl.1 rfl (lv_room (Nat.le_of_ble_eq_true rfl)) dX11_packed_59 ⟨Nat.le_of_ble_eq_true rfl, Nat.le_of_ble_eq_true rfl⟩) (fun H locs hP hS => ?_)
        obtain ⟨x_29, ex_29, hF_30⟩ := bnd_e hF_28
        clear hF_28
        refine m_top ex_29 ?_
        obtain ⟨u_31, hu_31, hF_32⟩ := Option.bind_eq_some_iff.mp hF_30
        clear hF_30
        have hPc : va_P (dC, dI) vwCl [] H := fun k q z => by simp at z
        have hDc : va_D A [] := ⟨fun i j p q z => by simp at z, fun k q z => by simp at z⟩
        have hFc := c_nil hA hS
        refine c_cs (v := u_31.1) hA hP hS (va_runS (As := [.int x_29]) (rest := [.long (s_1.1 * 37)]) ⟨hx, hb, hml, hown, hts⟩ (k_X11_nameSign l dC dI cB cC cI cJ cZ cP oA rA H.size  x_29 σ_11 _ hu_31) (va_cwS 1 hts (g_gS wq_395 wq_396 wq_1 wq_397) rfl rfl rfl (by decide +kernel) ⟨Nat.le_of_ble_eq_true rfl, Nat.le_of_ble_eq_true rfl⟩) (g_preS g_bl0 hK hPc hDc hS hE hFc g_to0) rfl rfl hl.1 rfl (lv_room (Nat.le_of_ble_eq_true rfl)) dX11_packed_62 ⟨Nat.le_of_ble_eq_true rfl, Nat.le_of_ble_eq_true rfl⟩) (fun H locs hP hS => ?_)
        clear hPc hDc hFc
        refine lv_goto (tgt := 69) hx hb dX11_packed_65 (by decide) ?_
        exact Jj_17 u_31.1 σ_11 hF_32 _ _ hP hS ls (lv_sub hl [1, 2, 3, 4, 6] rfl)
    obtain ⟨j_34, ej_34, hF_35⟩ := bnd_e hF_13
    clear hF_13
    have Jj_34 : ∀  (σ_33 : HS), j_34  σ_33 = some res → ∀ (H : Heap) (locs : List Loc), va_P (dC, dI) vwCl ([] : va_W) H → va_S A s.heap H locs → ∀ ls : Array Slot, lv_has ls 9 [(0, .ref q0), (1, .int p1), (2, .int p2), (3, .int p3), (4, .long s_1.1), (6, .int s_1.2.1), (7, .int x_8)] → W p l e (headSpec (g_ws yX11_packed cX11_packed 9 (some .long)) { frames := 5, cells := 0, slots := 0, locals := 125 }).room s m ([.ref q0, .int p1, .int p2, .int p3] : List Value).toArray below meth c H locs 0 0 (MQ below (va_Ql (fun r (_ : Unit) => r = res.1) (g_Bo (dC, dI) A (fun (_ : Unit) => ([] : va_W))) A) ([.ref q0, .int p1, .int p2, .int p3] : List Value).toArray s 0 0 A) (F0 m 42 ls []) := by
      intro  σ_33 hF0 H locs hP hS ls hl
      subst ej_34
      have hF_36 := hF0
      clear hF0
      refine lv_iconst (v := 0) hx hb dX11_packed_42 (by decide +kernel) ?_
      exact Jj_12 0 σ_33 hF_36 _ _ hP hS ls (lv_sub hl [0, 1, 2, 3, 4, 5, 6] rfl)
    refine lv_if_lt (tgt := 42) hx hb dX11_packed_20 (by decide) (fun c_37 => ?_) (fun c_37 => ?_)
    · have hF_38 := ipos c_37 hF_35
      clear hF_35
      exact Jj_34  s_1.2.2 hF_38 _ _ hP hS ls (lv_sub hl [1, 2, 3, 4, 5, 6, 0] rfl)
    · have hF_39 := ineg c_37 hF_35
      clear hF_35
      refine lv_iload hx hb dX11_packed_23 (lv_at hl 0 rfl) ?_
      refine lv_iload_n hx hb dX11_packed_25 rfl (lv_at hl 3 rfl) ?_
      refine lv_icmp_ge (tgt := 42) hx hb dX11_packed_26 (by decide) (fun c_40 => ?_) (fun c_40 => ?_)
      · have hF_41 := ipos c_40 hF_39
        clear hF_39
        exact Jj_34  s_1.2.2 hF_41 _ _ hP hS ls (lv_sub hl [1, 2, 3, 4, 5, 6, 0] rfl)
      · have hF_42 := ineg c_40 hF_39
        clear hF_39
        refine lv_iload hx hb dX11_packed_29 (lv_at hl 0 rfl) ?_
        refine lv_aload_n hx hb dX11_packed_31 rfl (lv_at hl 1 rfl) ?_
        refine c_cs (v := Int32.ofNat (b0).length) hA hP hS (va_runV (As := []) (rest := [.int x_8]) ⟨hx, hb, hml, hown, hts⟩ (c_J0_length_8abf5 l dC dI cB cC cI cJ cZ cP H.size q0  _ b0 ) (cwV 0 hts (g_gV wq_357 wq_346 wq_347 wq_22 wq_348) rfl rfl rfl (by decide +kernel) ⟨Nat.le_of_ble_eq_true rfl, Nat.le_of_ble_eq_true rfl⟩) (g_preVs g_blS hK (wc := []) (A := A) (fun k q z => by simp at z) ⟨fun i j p q z => by simp at z, fun k q z => by simp at z⟩ hS hE (c_nil hA hS) (g_toS hStr_q0 hS (c_nil hA hS)) (va_Orecv hStr_q0.1 hS)) rfl rfl hl.1 rfl (lv_room (Nat.le_of_ble_eq_true rfl)) dX11_packed_32 ⟨Nat.le_of_ble_eq_true rfl, Nat.le_of_ble_eq_true rfl⟩) (fun H locs hP hS => ?_)
        obtain ⟨x_43, ex_43, hF_44⟩ := bnd_e hF_42
        clear hF_42
        refine m_top ex_43 ?_
        refine lv_icmp_ge (tgt := 42) hx hb dX11_packed_35 (by decide) (fun c_45 => ?_) (fun c_45 => ?_)
        · have hF_46 := ipos c_45 hF_44
          clear hF_44
          exact Jj_34  s_1.2.2 hF_46 _ _ hP hS ls (lv_sub hl [1, 2, 3, 4, 5, 6, 0] rfl)
        · have hF_47 := ineg c_45 hF_44
          clear hF_44
          refine lv_iconst (v := 1) hx hb dX11_packed_38 (by decide +kernel) ?_
          refine lv_goto (tgt := 43) hx hb dX11_packed_39 (by decide) ?_
          exact Jj_12 1 s_1.2.2 hF_47 _ _ hP hS ls (lv_sub hl [1, 2, 3, 4, 5, 6, 0] rfl)
theorem dX0_wipe_0 : decode cX0_wipe 0 = .ok (.aload_n 0, 1) := by decide +kernel
theorem dX0_wipe_1 : decode cX0_wipe 1 = .ok (.iconst 0, 1) := by decide +kernel
theorem dX0_wipe_2 : decode cX0_wipe 2 = .ok (.putfield 26, 3) := by decide +kernel
theorem dX0_wipe_5 : decode cX0_wipe 5 = .ok (.aload_n 0, 1) := by decide +kernel
theorem dX0_wipe_6 : decode cX0_wipe 6 = .ok (.iconst 0, 1) := by decide +kernel
theorem dX0_wipe_7 : decode cX0_wipe 7 = .ok (.putfield 30, 3) := by decide +kernel
theorem dX0_wipe_10 : decode cX0_wipe 10 = .ok (.aload_n 0, 1) := by decide +kernel
theorem dX0_wipe_11 : decode cX0_wipe 11 = .ok (.iconst 0, 1) := by decide +kernel
theorem dX0_wipe_12 : decode cX0_wipe 12 = .ok (.putfield 33, 3) := by decide +kernel
theorem dX0_wipe_15 : decode cX0_wipe 15 = .ok (.aload_n 0, 1) := by decide +kernel
theorem dX0_wipe_16 : decode cX0_wipe 16 = .ok (.iconst 0, 1) := by decide +kernel
theorem dX0_wipe_17 : decode cX0_wipe 17 = .ok (.putfield 36, 3) := by decide +kernel
theorem dX0_wipe_20 : decode cX0_wipe 20 = .ok (.aload_n 0, 1) := by decide +kernel
theorem dX0_wipe_21 : decode cX0_wipe 21 = .ok (.iconst (-1), 1) := by decide +kernel
theorem dX0_wipe_22 : decode cX0_wipe 22 = .ok (.putfield 39, 3) := by decide +kernel
theorem dX0_wipe_25 : decode cX0_wipe 25 = .ok (.return_, 1) := by decide +kernel
def F_X0_wipe  (Γ : HS) : HR :=
  bnd (cI' Γ 5 1 0) fun σ_1 =>
  bnd (cI' σ_1 5 5 0) fun σ_3 =>
  bnd (cI' σ_3 5 6 0) fun σ_5 =>
  bnd (cI' σ_5 5 7 0) fun σ_7 =>
  bnd (cI' σ_7 5 8 (-1)) fun σ_9 =>
  some (0, σ_9)
set_option maxHeartbeats 4000000 in
set_option maxRecDepth 100000 in
theorem k_X0_wipe (l : Launch) (dC : Nat → ClassId) (dI : Nat → Nat → Nat) (cB cC cI cJ cZ cP : ClassId) (oA : Nat → Nat) (rA : Nat → Nat → Nat) (sz : Nat)   (Γ : HS) (res : Int32 × HS) (hF : F_X0_wipe  Γ = some res) : Met l yX0_wipe (g_ws yX0_wipe cX0_wipe 1 none) ({ frames := 1, cells := 0, slots := 0, locals := 40 }) (va_Pc [.ref (oA 5)] (g_B (dC, dI) [(cB, .byte), (cC, .char), (cI, .int), (cJ, .long), (cZ, .boolean), (cP, .object "StoryHouse$Play")] sz (b_c cB cC cI cJ cZ oA rA Γ) g_0)) (va_Qv (fun (_ : Unit) => True) (g_Bo (dC, dI) (va_A (b_c cB cC cI cJ cZ oA rA Γ) sz) (fun (_ : Unit) => (b_c cB cC cI cJ cZ oA rA res.2))) (va_A (b_c cB cC cI cJ cZ oA rA Γ) sz)) 0 0 (va_A (b_c cB cC cI cJ cZ oA rA Γ) sz) := by
  refine Met.ofW (cc := cX0_wipe) (maxL := 1) (ret := none) (by decide) rfl ?_
  intro p e s m args below meth c s₁ B hml hv
  obtain ⟨rfl, hsz, hP, hK, hD0, hE, hX⟩ := hv
  have hx := B.exec
  have hb := B.bytes
  have hr := B.returns
  have hts0 := atoms_spec (ws := g_ws yX0_wipe cX0_wipe 1 none) B.pre
  have hts : ∀ w ∈ lw_good, w.before ([.ref (oA 5)] : List Value).toArray s = true := fun w z => hts0 w (List.mem_cons_of_mem _ z)
  have hown : s.vm.findClass RX0 = some m.cls := findClass_of_methodNamed B.named
  have hlocks := B.notSynchronized
  subst hsz
  have hD1 := hD0.self (sz := s.heap.size)
  generalize hAe : va_A (b_c cB cC cI cJ cZ oA rA Γ) s.heap.size = A at hD1 hE hX ⊢
  have hA : ∀ q : Nat, s.heap.size ≤ q → A q := fun q z => by rw [← hAe]; exact Or.inr z
  have hDD : ∀ Γ : HS, va_D A (b_c cB cC cI cJ cZ oA rA Γ) := fun Γ9 => va_D_fst (ws := (b_c cB cC cI cJ cZ oA rA Γ)) (ws' := (b_c cB cC cI cJ cZ oA rA Γ9)) rfl hD1
  have hN := hE.1
  have hS : va_S A s.heap s.heap [] := va_S.rf
  have hl := lv_entry ([.ref (oA 5)]) (n := 1) (Nat.le_of_ble_eq_true rfl)
  rw [lg_entry_eq]
  generalize (lg_sl ([.ref (oA 5)]) ++ List.replicate (1 - (lg_sl ([.ref (oA 5)])).length) Slot.unset).toArray = ls at hl ⊢
  have hl : lv_has ls 1 [(0, .ref (oA 5))] := hl
  unfold F_X0_wipe at hF
  refine lv_aload_n hx hb dX0_wipe_0 rfl (lv_at hl 0 rfl) ?_
  refine lv_iconst (v := 0) hx hb dX0_wipe_1 (by decide +kernel) ?_
  obtain ⟨σ_1, eσ_1, hF_2⟩ := bnd_e hF
  clear hF
  refine va_put (D := (dC, dI)) (ci := 0) (v := .int 0) (ty := .int) (C := RX0) (T := TX0) (N := 9) hx hb hts ii_X0 tyX0 tyX0_ok nmX0 hown hK hP (hDD _) hS 0 rfl rfl 1 (by decide) (hts (.fieldLink RX0 26 "StoryHouse$Code" "length" "I") wq_117) (fun _ h9 => h9) rfl (by decide +kernel) rfl rfl (Nat.le_of_ble_eq_true rfl) dX0_wipe_2 (fun H locs hP' _ hS => ?_)
  have hP : va_P (dC, dI) vwCl (b_c cB cC cI cJ cZ oA rA σ_1) H := by rw [eσ_1]; exact cs_c_c_1 ▸ hP'
  clear hP'
  refine lv_aload_n hx hb dX0_wipe_5 rfl (lv_at hl 0 rfl) ?_
  refine lv_iconst (v := 0) hx hb dX0_wipe_6 (by decide +kernel) ?_
  obtain ⟨σ_3, eσ_3, hF_4⟩ := bnd_e hF_2
  clear hF_2
  refine va_put (D := (dC, dI)) (ci := 0) (v := .int 0) (ty := .int) (C := RX0) (T := TX0) (N := 9) hx hb hts ii_X0 tyX0 tyX0_ok nmX0 hown hK hP (hDD _) hS 0 rfl rfl 5 (by decide) (hts (.fieldLink RX0 30 "StoryHouse$Code" "defs" "I") wq_124) (fun _ h9 => h9) rfl (by decide +kernel) rfl rfl (Nat.le_of_ble_eq_true rfl) dX0_wipe_7 (fun H locs hP' _ hS => ?_)
  have hP : va_P (dC, dI) vwCl (b_c cB cC cI cJ cZ oA rA σ_3) H := by rw [eσ_3]; exact cs_c_c_5 ▸ hP'
  clear hP'
  refine lv_aload_n hx hb dX0_wipe_10 rfl (lv_at hl 0 rfl) ?_
  refine lv_iconst (v := 0) hx hb dX0_wipe_11 (by decide +kernel) ?_
  obtain ⟨σ_5, eσ_5, hF_6⟩ := bnd_e hF_4
  clear hF_4
  refine va_put (D := (dC, dI)) (ci := 0) (v := .int 0) (ty := .int) (C := RX0) (T := TX0) (N := 9) hx hb hts ii_X0 tyX0 tyX0_ok nmX0 hown hK hP (hDD _) hS 0 rfl rfl 6 (by decide) (hts (.fieldLink RX0 33 "StoryHouse$Code" "ons" "I") wq_125) (fun _ h9 => h9) rfl (by decide +kernel) rfl rfl (Nat.le_of_ble_eq_true rfl) dX0_wipe_12 (fun H locs hP' _ hS => ?_)
  have hP : va_P (dC, dI) vwCl (b_c cB cC cI cJ cZ oA rA σ_5) H := by rw [eσ_5]; exact cs_c_c_6 ▸ hP'
  clear hP'
  refine lv_aload_n hx hb dX0_wipe_15 rfl (lv_at hl 0 rfl) ?_
  refine lv_iconst (v := 0) hx hb dX0_wipe_16 (by decide +kernel) ?_
  obtain ⟨σ_7, eσ_7, hF_8⟩ := bnd_e hF_6
  clear hF_6
  refine va_put (D := (dC, dI)) (ci := 0) (v := .int 0) (ty := .int) (C := RX0) (T := TX0) (N := 9) hx hb hts ii_X0 tyX0 tyX0_ok nmX0 hown hK hP (hDD _) hS 0 rfl rfl 7 (by decide) (hts (.fieldLink RX0 36 "StoryHouse$Code" "eachs" "I") wq_126) (fun _ h9 => h9) rfl (by decide +kernel) rfl rfl (Nat.le_of_ble_eq_true rfl) dX0_wipe_17 (fun H locs hP' _ hS => ?_)
  have hP : va_P (dC, dI) vwCl (b_c cB cC cI cJ cZ oA rA σ_7) H := by rw [eσ_7]; exact cs_c_c_7 ▸ hP'
  clear hP'
  refine lv_aload_n hx hb dX0_wipe_20 rfl (lv_at hl 0 rfl) ?_
  refine lv_iconst (v := (-1)) hx hb dX0_wipe_21 (by decide +kernel) ?_
  obtain ⟨σ_9, eσ_9, hF_10⟩ := bnd_e hF_8
  clear hF_8
  refine va_put (D := (dC, dI)) (ci := 0) (v := .int (-1)) (ty := .int) (C := RX0) (T := TX0) (N := 9) hx hb hts ii_X0 tyX0 tyX0_ok nmX0 hown hK hP (hDD _) hS 0 rfl rfl 8 (by decide) (hts (.fieldLink RX0 39 "StoryHouse$Code" "current" "I") wq_127) (fun _ h9 => h9) rfl (by decide +kernel) rfl rfl (Nat.le_of_ble_eq_true rfl) dX0_wipe_22 (fun H locs hP' _ hS => ?_)
  have hP : va_P (dC, dI) vwCl (b_c cB cC cI cJ cZ oA rA σ_9) H := by rw [eσ_9]; exact cs_c_c_8 ▸ hP'
  clear hP'
  have h9 := Option.some.inj hF_10
  subst h9
  exact W.vret hx hb hr (fun t ht hW => ⟨⟨(), rfl, trivial, m_end ht hP, hDD _⟩, hS.F ht⟩) hS.2.2 dX0_wipe_25
theorem dX0_open_0 : decode cX0_open 0 = .ok (.aload_n 0, 1) := by decide +kernel
theorem dX0_open_1 : decode cX0_open 1 = .ok (.iload_n 1, 1) := by decide +kernel
theorem dX0_open_2 : decode cX0_open 2 = .ok (.putfield 39, 3) := by decide +kernel
theorem dX0_open_5 : decode cX0_open 5 = .ok (.aload_n 0, 1) := by decide +kernel
theorem dX0_open_6 : decode cX0_open 6 = .ok (.getfield 16, 3) := by decide +kernel
theorem dX0_open_9 : decode cX0_open 9 = .ok (.aload_n 0, 1) := by decide +kernel
theorem dX0_open_10 : decode cX0_open 10 = .ok (.getfield 39, 3) := by decide +kernel
theorem dX0_open_13 : decode cX0_open 13 = .ok (.aload_n 0, 1) := by decide +kernel
theorem dX0_open_14 : decode cX0_open 14 = .ok (.getfield 26, 3) := by decide +kernel
theorem dX0_open_17 : decode cX0_open 17 = .ok (.invokestatic 42, 3) := by decide +kernel
theorem dX0_open_20 : decode cX0_open 20 = .ok (.return_, 1) := by decide +kernel
def F_X0_open (p0 : Int32) (Γ : HS) : HR :=
  bnd (cI' Γ 5 8 p0) fun σ_1 =>
  bnd (((σ_1 5).1 1)) fun (x_3 : Int32) =>
  bnd (cA' σ_1 5 2 (g_put 320 ((σ_1 5).2.1 2) ((σ_1 5).1 8) x_3)) fun σ_5 =>
  some (0, σ_5)
set_option maxHeartbeats 4000000 in
set_option maxRecDepth 100000 in
theorem k_X0_open (l : Launch) (dC : Nat → ClassId) (dI : Nat → Nat → Nat) (cB cC cI cJ cZ cP : ClassId) (oA : Nat → Nat) (rA : Nat → Nat → Nat) (sz : Nat)  (p0 : Int32) (Γ : HS) (res : Int32 × HS) (hF : F_X0_open p0 Γ = some res) : Met l yX0_open (g_ws yX0_open cX0_open 2 none) ({ frames := 3, cells := 0, slots := 0, locals := 82 }) (va_Pc [.ref (oA 5), .int p0] (g_B (dC, dI) [(cB, .byte), (cC, .char), (cI, .int), (cJ, .long), (cZ, .boolean), (cP, .object "StoryHouse$Play")] sz (b_c cB cC cI cJ cZ oA rA Γ) g_0)) (va_Qv (fun (_ : Unit) => True) (g_Bo (dC, dI) (va_A (b_c cB cC cI cJ cZ oA rA Γ) sz) (fun (_ : Unit) => (b_c cB cC cI cJ cZ oA rA res.2))) (va_A (b_c cB cC cI cJ cZ oA rA Γ) sz)) 0 0 (va_A (b_c cB cC cI cJ cZ oA rA Γ) sz) := by
  refine Met.ofW (cc := cX0_open) (maxL := 2) (ret := none) (by decide) rfl ?_
  intro p e s m args below meth c s₁ B hml hv
  obtain ⟨rfl, hsz, hP, hK, hD0, hE, hX⟩ := hv
  have hx := B.exec
  have hb := B.bytes
  have hr := B.returns
  have hts0 := atoms_spec (ws := g_ws yX0_open cX0_open 2 none) B.pre
  have hts : ∀ w ∈ lw_good, w.before ([.ref (oA 5), .int p0] : List Value).toArray s = true := fun w z => hts0 w (List.mem_cons_of_mem _ z)
  have hown : s.vm.findClass RX0 = some m.cls := findClass_of_methodNamed B.named
  have hlocks := B.notSynchronized
  subst hsz
  have hD1 := hD0.self (sz := s.heap.size)
  generalize hAe : va_A (b_c cB cC cI cJ cZ oA rA Γ) s.heap.size = A at hD1 hE hX ⊢
  have hA : ∀ q : Nat, s.heap.size ≤ q → A q := fun q z => by rw [← hAe]; exact Or.inr z
  have hDD : ∀ Γ : HS, va_D A (b_c cB cC cI cJ cZ oA rA Γ) := fun Γ9 => va_D_fst (ws := (b_c cB cC cI cJ cZ oA rA Γ)) (ws' := (b_c cB cC cI cJ cZ oA rA Γ9)) rfl hD1
  have hN := hE.1
  have hS : va_S A s.heap s.heap [] := va_S.rf
  have hl := lv_entry ([.ref (oA 5), .int p0]) (n := 2) (Nat.le_of_ble_eq_true rfl)
  rw [lg_entry_eq]
  generalize (lg_sl ([.ref (oA 5), .int p0]) ++ List.replicate (2 - (lg_sl ([.ref (oA 5), .int p0])).length) Slot.unset).toArray = ls at hl ⊢
  have hl : lv_has ls 2 [(0, .ref (oA 5)), (1, .int p0)] := hl
  unfold F_X0_open at hF
  refine lv_aload_n hx hb dX0_open_0 rfl (lv_at hl 0 rfl) ?_
  refine lv_iload_n hx hb dX0_open_1 rfl (lv_at hl 1 rfl) ?_
  obtain ⟨σ_1, eσ_1, hF_2⟩ := bnd_e hF
  clear hF
  refine va_put (D := (dC, dI)) (ci := 0) (v := .int p0) (ty := .int) (C := RX0) (T := TX0) (N := 9) hx hb hts ii_X0 tyX0 tyX0_ok nmX0 hown hK hP (hDD _) hS 0 rfl rfl 8 (by decide) (hts (.fieldLink RX0 39 "StoryHouse$Code" "current" "I") wq_127) (fun _ h9 => h9) rfl (by decide +kernel) rfl rfl (Nat.le_of_ble_eq_true rfl) dX0_open_2 (fun H locs hP' _ hS => ?_)
  have hP : va_P (dC, dI) vwCl (b_c cB cC cI cJ cZ oA rA σ_1) H := by rw [eσ_1]; exact cs_c_c_8 ▸ hP'
  clear hP'
  refine lv_aload_n hx hb dX0_open_5 rfl (lv_at hl 0 rfl) ?_
  refine va_get (D := (dC, dI)) (ci := 0) (v := .ref (rA 5 2)) (C := RX0) (T := TX0) (N := 9) hx hb hts ii_X0 hown hK hP 0 rfl rfl 2 (by decide) (hts (.fieldLink RX0 16 "StoryHouse$Code" "begins" "[I") wq_119) (fun _ h9 => h9) rfl dX0_open_6 ?_
  refine lv_aload_n hx hb dX0_open_9 rfl (lv_at hl 0 rfl) ?_
  refine va_get (D := (dC, dI)) (ci := 0) (v := .int ((σ_1 5).1 8)) (C := RX0) (T := TX0) (N := 9) hx hb hts ii_X0 hown hK hP 0 rfl rfl 8 (by decide) (hts (.fieldLink RX0 39 "StoryHouse$Code" "current" "I") wq_127) (fun _ h9 => h9) rfl dX0_open_10 ?_
  refine lv_aload_n hx hb dX0_open_13 rfl (lv_at hl 0 rfl) ?_
  refine va_get (D := (dC, dI)) (ci := 0) (v := .int ((σ_1 5).1 1)) (C := RX0) (T := TX0) (N := 9) hx hb hts ii_X0 hown hK hP 0 rfl rfl 1 (by decide) (hts (.fieldLink RX0 26 "StoryHouse$Code" "length" "I") wq_117) (fun _ h9 => h9) rfl dX0_open_14 ?_
  obtain ⟨x_3, ex_3, hF_4⟩ := bnd_e hF_2
  clear hF_2
  refine m_top ex_3 ?_
  have hq9 : ((b_c cB cC cI cJ cZ oA rA σ_1))[2]? = some (rA 5 2, .inl (cI, 320, .inl ((σ_1 5).2.1 2))) := rfl
  have hPc := hP.sub (ws' := [(rA 5 2, .inl (cI, 320, .inl ((σ_1 5).2.1 2)))]) [2] (pk_fm (er_C hq9))
  have hDc := (hDD σ_1).sub (ws' := [(rA 5 2, .inl (cI, 320, .inl ((σ_1 5).2.1 2)))]) [2] (by decide +kernel) (er_C hq9)
  have hFc := va_free (wc := [(rA 5 2, .inl (cI, 320, .inl ((σ_1 5).2.1 2)))]) (hDD σ_1) hS hA [2] (er_C hq9)
  refine g_ofv (wc := [(rA 5 2, .inl (cI, 320, .inl ((σ_1 5).2.1 2)))]) (wr := (((b_c cB cC cI cJ cZ oA rA σ_1)).eraseIdx 2)) hP (hDD σ_1) hS hFc [2] ((List.range ((b_c cB cC cI cJ cZ oA rA σ_1)).length).eraseIdx 2) (er_C hq9) er_R er_n er_d (va_runSN (As := [.ref (rA 5 2), .int ((σ_1 5).1 8), .int x_3]) (rest := []) ⟨hx, hb, hml, hown, hts⟩ (c_X11_put l dC dI cB cC cI cJ cZ cP H.size (rA 5 2) ((σ_1 5).1 8) x_3 320 ((σ_1 5).2.1 2) (by decide)) ⟨va_cnB 3 hts (g_gA wq_412) rfl rfl rfl (nw_19 hN) (hts (.initialized RX11) wq_1) (by decide +kernel) ⟨Nat.le_of_ble_eq_true rfl, Nat.le_of_ble_eq_true rfl⟩, (hts (.static yX11_put) wq_411), trivial⟩ (g_preS g_bl0 hK hPc hDc hS hE hFc g_to0) rfl rfl hl.1 rfl (lv_room (Nat.le_of_ble_eq_true rfl)) dX0_open_17 ⟨Nat.le_of_ble_eq_true rfl, Nat.le_of_ble_eq_true rfl⟩) (fun g9 H locs hw9 hP' hD' hS => ?_)
  clear hPc hDc hFc hD'
  obtain ⟨σ_5, eσ_5, hF_6⟩ := bnd_e hF_4
  clear hF_4
  subst hw9
  have hP : va_P (dC, dI) vwCl (b_c cB cC cI cJ cZ oA rA σ_5) H := by rw [eσ_5]; exact cs_c_c_2 ▸ er_P hP' (er_lt hq9)
  clear hP' hq9
  have h9 := Option.some.inj hF_6
  subst h9
  exact W.vret hx hb hr (fun t ht hW => ⟨⟨(), rfl, trivial, m_end ht hP, hDD _⟩, hS.F ht⟩) hS.2.2 dX0_open_20
theorem dX0_openDef_0 : decode cX0_openDef 0 = .ok (.aload_n 0, 1) := by decide +kernel
theorem dX0_openDef_1 : decode cX0_openDef 1 = .ok (.getfield 23, 3) := by decide +kernel
theorem dX0_openDef_4 : decode cX0_openDef 4 = .ok (.aload_n 0, 1) := by decide +kernel
theorem dX0_openDef_5 : decode cX0_openDef 5 = .ok (.getfield 30, 3) := by decide +kernel
theorem dX0_openDef_8 : decode cX0_openDef 8 = .ok (.iload_n 1, 1) := by decide +kernel
theorem dX0_openDef_9 : decode cX0_openDef 9 = .ok (.invokestatic 42, 3) := by decide +kernel
theorem dX0_openDef_12 : decode cX0_openDef 12 = .ok (.aload_n 0, 1) := by decide +kernel
theorem dX0_openDef_13 : decode cX0_openDef 13 = .ok (.aload_n 0, 1) := by decide +kernel
theorem dX0_openDef_14 : decode cX0_openDef 14 = .ok (.getfield 30, 3) := by decide +kernel
theorem dX0_openDef_17 : decode cX0_openDef 17 = .ok (.bipush 100, 2) := by decide +kernel
theorem dX0_openDef_19 : decode cX0_openDef 19 = .ok (.if_icmp .ge 10, 3) := by decide +kernel
theorem dX0_openDef_22 : decode cX0_openDef 22 = .ok (.aload_n 0, 1) := by decide +kernel
theorem dX0_openDef_23 : decode cX0_openDef 23 = .ok (.getfield 30, 3) := by decide +kernel
theorem dX0_openDef_26 : decode cX0_openDef 26 = .ok (.goto 4, 3) := by decide +kernel
theorem dX0_openDef_29 : decode cX0_openDef 29 = .ok (.iconst (-1), 1) := by decide +kernel
theorem dX0_openDef_30 : decode cX0_openDef 30 = .ok (.invokevirtual 46, 3) := by decide +kernel
theorem dX0_openDef_33 : decode cX0_openDef 33 = .ok (.aload_n 0, 1) := by decide +kernel
theorem dX0_openDef_34 : decode cX0_openDef 34 = .ok (.dup, 1) := by decide +kernel
theorem dX0_openDef_35 : decode cX0_openDef 35 = .ok (.getfield 30, 3) := by decide +kernel
theorem dX0_openDef_38 : decode cX0_openDef 38 = .ok (.iconst 1, 1) := by decide +kernel
theorem dX0_openDef_39 : decode cX0_openDef 39 = .ok (.iadd, 1) := by decide +kernel
theorem dX0_openDef_40 : decode cX0_openDef 40 = .ok (.putfield 30, 3) := by decide +kernel
theorem dX0_openDef_43 : decode cX0_openDef 43 = .ok (.return_, 1) := by decide +kernel
def F_X0_openDef (p0 : Int32) (Γ : HS) : HR :=
  bnd (cA' Γ 5 4 (g_put 100 ((Γ 5).2.1 4) ((Γ 5).1 5) p0)) fun σ_1 =>
  bnd (fun (t_3 : Int32) (σ_4 : HS) => (
    (F_X0_open t_3 σ_4).bind fun u_8 =>
    bnd (cI' u_8.2 5 5 (((u_8.2 5).1 5) + 1)) fun σ_10 =>
    some (0, σ_10)
  ) : Int32 → HS → HR) fun j_5 =>
  if 100 ≤ ((σ_1 5).1 5) then (
    j_5 (-1) σ_1
  ) else (
    j_5 ((σ_1 5).1 5) σ_1
  )
set_option maxHeartbeats 4000000 in
set_option maxRecDepth 100000 in
theorem k_X0_openDef (l : Launch) (dC : Nat → ClassId) (dI : Nat → Nat → Nat) (cB cC cI cJ cZ cP : ClassId) (oA : Nat → Nat) (rA : Nat → Nat → Nat) (sz : Nat)  (p0 : Int32) (Γ : HS) (res : Int32 × HS) (hF : F_X0_openDef p0 Γ = some res) : Met l yX0_openDef (g_ws yX0_openDef cX0_openDef 2 none) ({ frames := 4, cells := 0, slots := 0, locals := 103 }) (va_Pc [.ref (oA 5), .int p0] (g_B (dC, dI) [(cB, .byte), (cC, .char), (cI, .int), (cJ, .long), (cZ, .boolean), (cP, .object "StoryHouse$Play")] sz (b_c cB cC cI cJ cZ oA rA Γ) g_0)) (va_Qv (fun (_ : Unit) => True) (g_Bo (dC, dI) (va_A (b_c cB cC cI cJ cZ oA rA Γ) sz) (fun (_ : Unit) => (b_c cB cC cI cJ cZ oA rA res.2))) (va_A (b_c cB cC cI cJ cZ oA rA Γ) sz)) 0 0 (va_A (b_c cB cC cI cJ cZ oA rA Γ) sz) := by
  refine Met.ofW (cc := cX0_openDef) (maxL := 2) (ret := none) (by decide) rfl ?_
  intro p e s m args below meth c s₁ B hml hv
  obtain ⟨rfl, hsz, hP, hK, hD0, hE, hX⟩ := hv
  have hx := B.exec
  have hb := B.bytes
  have hr := B.returns
  have hts0 := atoms_spec (ws := g_ws yX0_openDef cX0_openDef 2 none) B.pre
  have hts : ∀ w ∈ lw_good, w.before ([.ref (oA 5), .int p0] : List Value).toArray s = true := fun w z => hts0 w (List.mem_cons_of_mem _ z)
  have hown : s.vm.findClass RX0 = some m.cls := findClass_of_methodNamed B.named
  have hlocks := B.notSynchronized
  subst hsz
  have hD1 := hD0.self (sz := s.heap.size)
  generalize hAe : va_A (b_c cB cC cI cJ cZ oA rA Γ) s.heap.size = A at hD1 hE hX ⊢
  have hA : ∀ q : Nat, s.heap.size ≤ q → A q := fun q z => by rw [← hAe]; exact Or.inr z
  have hDD : ∀ Γ : HS, va_D A (b_c cB cC cI cJ cZ oA rA Γ) := fun Γ9 => va_D_fst (ws := (b_c cB cC cI cJ cZ oA rA Γ)) (ws' := (b_c cB cC cI cJ cZ oA rA Γ9)) rfl hD1
  have hN := hE.1
  have hS : va_S A s.heap s.heap [] := va_S.rf
  have hl := lv_entry ([.ref (oA 5), .int p0]) (n := 2) (Nat.le_of_ble_eq_true rfl)
  rw [lg_entry_eq]
  generalize (lg_sl ([.ref (oA 5), .int p0]) ++ List.replicate (2 - (lg_sl ([.ref (oA 5), .int p0])).length) Slot.unset).toArray = ls at hl ⊢
  have hl : lv_has ls 2 [(0, .ref (oA 5)), (1, .int p0)] := hl
  unfold F_X0_openDef at hF
  refine lv_aload_n hx hb dX0_openDef_0 rfl (lv_at hl 0 rfl) ?_
  refine va_get (D := (dC, dI)) (ci := 0) (v := .ref (rA 5 4)) (C := RX0) (T := TX0) (N := 9) hx hb hts ii_X0 hown hK hP 0 rfl rfl 4 (by decide) (hts (.fieldLink RX0 23 "StoryHouse$Code" "lists" "[I") wq_121) (fun _ h9 => h9) rfl dX0_openDef_1 ?_
  refine lv_aload_n hx hb dX0_openDef_4 rfl (lv_at hl 0 rfl) ?_
  refine va_get (D := (dC, dI)) (ci := 0) (v := .int ((Γ 5).1 5)) (C := RX0) (T := TX0) (N := 9) hx hb hts ii_X0 hown hK hP 0 rfl rfl 5 (by decide) (hts (.fieldLink RX0 30 "StoryHouse$Code" "defs" "I") wq_124) (fun _ h9 => h9) rfl dX0_openDef_5 ?_
  refine lv_iload_n hx hb dX0_openDef_8 rfl (lv_at hl 1 rfl) ?_
  have hq9 : ((b_c cB cC cI cJ cZ oA rA Γ))[4]? = some (rA 5 4, .inl (cI, 100, .inl ((Γ 5).2.1 4))) := rfl
  have hPc := hP.sub (ws' := [(rA 5 4, .inl (cI, 100, .inl ((Γ 5).2.1 4)))]) [4] (pk_fm (er_C hq9))
  have hDc := (hDD Γ).sub (ws' := [(rA 5 4, .inl (cI, 100, .inl ((Γ 5).2.1 4)))]) [4] (by decide +kernel) (er_C hq9)
  have hFc := va_free (wc := [(rA 5 4, .inl (cI, 100, .inl ((Γ 5).2.1 4)))]) (hDD Γ) hS hA [4] (er_C hq9)
  refine g_ofv (wc := [(rA 5 4, .inl (cI, 100, .inl ((Γ 5).2.1 4)))]) (wr := (((b_c cB cC cI cJ cZ oA rA Γ)).eraseIdx 4)) hP (hDD Γ) hS hFc [4] ((List.range ((b_c cB cC cI cJ cZ oA rA Γ)).length).eraseIdx 4) (er_C hq9) er_R er_n er_d (va_runSN (As := [.ref (rA 5 4), .int ((Γ 5).1 5), .int p0]) (rest := []) ⟨hx, hb, hml, hown, hts⟩ (c_X11_put l dC dI cB cC cI cJ cZ cP s.heap.size (rA 5 4) ((Γ 5).1 5) p0 100 ((Γ 5).2.1 4) (by decide)) ⟨va_cnB 3 hts (g_gA wq_412) rfl rfl rfl (nw_19 hN) (hts (.initialized RX11) wq_1) (by decide +kernel) ⟨Nat.le_of_ble_eq_true rfl, Nat.le_of_ble_eq_true rfl⟩, (hts (.static yX11_put) wq_411), trivial⟩ (g_preS g_bl0 hK hPc hDc hS hE hFc g_to0) rfl rfl hl.1 rfl (lv_room (Nat.le_of_ble_eq_true rfl)) dX0_openDef_9 ⟨Nat.le_of_ble_eq_true rfl, Nat.le_of_ble_eq_true rfl⟩) (fun g9 H locs hw9 hP' hD' hS => ?_)
  clear hPc hDc hFc hD'
  obtain ⟨σ_1, eσ_1, hF_2⟩ := bnd_e hF
  clear hF
  subst hw9
  have hP : va_P (dC, dI) vwCl (b_c cB cC cI cJ cZ oA rA σ_1) H := by rw [eσ_1]; exact cs_c_c_4 ▸ er_P hP' (er_lt hq9)
  clear hP' hq9
  refine lv_aload_n hx hb dX0_openDef_12 rfl (lv_at hl 0 rfl) ?_
  refine lv_aload_n hx hb dX0_openDef_13 rfl (lv_at hl 0 rfl) ?_
  refine va_get (D := (dC, dI)) (ci := 0) (v := .int ((σ_1 5).1 5)) (C := RX0) (T := TX0) (N := 9) hx hb hts ii_X0 hown hK hP 0 rfl rfl 5 (by decide) (hts (.fieldLink RX0 30 "StoryHouse$Code" "defs" "I") wq_124) (fun _ h9 => h9) rfl dX0_openDef_14 ?_
  refine lv_bipush (v := 100) hx hb dX0_openDef_17 (by decide +kernel) ?_
  obtain ⟨j_5, ej_5, hF_6⟩ := bnd_e hF_2
  clear hF_2
  have Jj_5 : ∀ (t_3 : Int32) (σ_4 : HS), j_5 t_3 σ_4 = some res → ∀ (H : Heap) (locs : List Loc), va_P (dC, dI) vwCl (b_c cB cC cI cJ cZ oA rA σ_4) H → va_S A s.heap H locs → ∀ ls : Array Slot, lv_has ls 2 [(0, .ref (oA 5))] → W p l e (headSpec (g_ws yX0_openDef cX0_openDef 2 none) { frames := 4, cells := 0, slots := 0, locals := 103 }).room s m ([.ref (oA 5), .int p0] : List Value).toArray below meth c H locs 0 0 (MQ below (va_Qv (fun (_ : Unit) => True) (g_Bo (dC, dI) A (fun (_ : Unit) => (b_c cB cC cI cJ cZ oA rA res.2))) A) ([.ref (oA 5), .int p0] : List Value).toArray s 0 0 A) (F0 m 30 ls [.int t_3, .ref (oA 5)]) := by
    intro t_3 σ_4 hF0 H locs hP hS ls hl
    subst ej_5
    have hF_7 := hF0
    clear hF0
    obtain ⟨u_8, hu_8, hF_9⟩ := Option.bind_eq_some_iff.mp hF_7
    clear hF_7
    have hPc := bx_P (bs := [b_c cB cC cI cJ cZ oA rA σ_4]) (bs' := [b_c cB cC cI cJ cZ oA rA σ_4]) (ws' := (b_c cB cC cI cJ cZ oA rA σ_4)) hP fl_1 fl_1 [0] rfl
    have hDc := bx_D (bs := [b_c cB cC cI cJ cZ oA rA σ_4]) (bs' := [b_c cB cC cI cJ cZ oA rA σ_4]) (ws' := (b_c cB cC cI cJ cZ oA rA σ_4)) (hDD σ_4) fl_1 fl_1 [0] (by decide +kernel) rfl
    have hFc := bx_F (bs := [b_c cB cC cI cJ cZ oA rA σ_4]) (bs' := [b_c cB cC cI cJ cZ oA rA σ_4]) (wc := (b_c cB cC cI cJ cZ oA rA σ_4)) (hDD σ_4) hS hA fl_1 fl_1 [0] rfl
    refine g_ofv (wc := (b_c cB cC cI cJ cZ oA rA σ_4)) (wr := ([] : va_W)) hP (hDD σ_4) hS hFc (bx_ix [b_c cB cC cI cJ cZ oA rA σ_4] [0]) (bx_ix [b_c cB cC cI cJ cZ oA rA σ_4] []) (bx_C (bs := [b_c cB cC cI cJ cZ oA rA σ_4]) (bs' := [b_c cB cC cI cJ cZ oA rA σ_4]) (is := [0]) fl_1 fl_1 rfl) (bx_C (bs := [b_c cB cC cI cJ cZ oA rA σ_4]) (bs' := []) (is := []) fl_1 fl_0 rfl) (bx_n (by decide +kernel)) (bx_d (by decide +kernel)) (va_runV (As := [.int t_3]) (rest := []) ⟨hx, hb, hml, hown, hts⟩ (k_X0_open l dC dI cB cC cI cJ cZ cP oA rA H.size  t_3 σ_4 _ hu_8) (cwV 1 hts (g_gV wq_601 wq_602 wq_2011 wq_6 wq_603) rfl rfl rfl (by decide +kernel) ⟨Nat.le_of_ble_eq_true rfl, Nat.le_of_ble_eq_true rfl⟩) (g_preV g_bl0 hK hPc hDc hS hE hFc g_to0 (q0 := 0) (ci := 0) rfl rfl) rfl rfl hl.1 rfl (lv_room (Nat.le_of_ble_eq_true rfl)) dX0_openDef_30 ⟨Nat.le_of_ble_eq_true rfl, Nat.le_of_ble_eq_true rfl⟩) (fun u9 H locs hw9 hP' hD' hS => ?_)
    clear hPc hDc hFc
    have hP : va_P (dC, dI) vwCl (b_c cB cC cI cJ cZ oA rA u_8.2) H := hP'
    clear hP' hD'
    refine lv_aload_n hx hb dX0_openDef_33 rfl (lv_at hl 0 rfl) ?_
    refine lv_dup hx hb dX0_openDef_34 rfl ?_
    refine va_get (D := (dC, dI)) (ci := 0) (v := .int ((u_8.2 5).1 5)) (C := RX0) (T := TX0) (N := 9) hx hb hts ii_X0 hown hK hP 0 rfl rfl 5 (by decide) (hts (.fieldLink RX0 30 "StoryHouse$Code" "defs" "I") wq_124) (fun _ h9 => h9) rfl dX0_openDef_35 ?_
    refine lv_iconst (v := 1) hx hb dX0_openDef_38 (by decide +kernel) ?_
    refine lv_iadd hx hb dX0_openDef_39 ?_
    obtain ⟨σ_10, eσ_10, hF_11⟩ := bnd_e hF_9
    clear hF_9
    refine va_put (D := (dC, dI)) (ci := 0) (v := .int (((u_8.2 5).1 5) + 1)) (ty := .int) (C := RX0) (T := TX0) (N := 9) hx hb hts ii_X0 tyX0 tyX0_ok nmX0 hown hK hP (hDD _) hS 0 rfl rfl 5 (by decide) (hts (.fieldLink RX0 30 "StoryHouse$Code" "defs" "I") wq_124) (fun _ h9 => h9) rfl (by decide +kernel) rfl rfl (Nat.le_of_ble_eq_true rfl) dX0_openDef_40 (fun H locs hP' _ hS => ?_)
    have hP : va_P (dC, dI) vwCl (b_c cB cC cI cJ cZ oA rA σ_10) H := by rw [eσ_10]; exact cs_c_c_5 ▸ hP'
    clear hP'
    have h9 := Option.some.inj hF_11
    subst h9
    exact W.vret hx hb hr (fun t ht hW => ⟨⟨(), rfl, trivial, m_end ht hP, hDD _⟩, hS.F ht⟩) hS.2.2 dX0_openDef_43
  refine lv_icmp_ge (tgt := 29) hx hb dX0_openDef_19 (by decide) (fun c_12 => ?_) (fun c_12 => ?_)
  · have hF_13 := ipos c_12 hF_6
    clear hF_6
    refine lv_iconst (v := (-1)) hx hb dX0_openDef_29 (by decide +kernel) ?_
    exact Jj_5 (-1) σ_1 hF_13 _ _ hP hS ls (lv_sub hl [0] rfl)
  · have hF_14 := ineg c_12 hF_6
    clear hF_6
    refine lv_aload_n hx hb dX0_openDef_22 rfl (lv_at hl 0 rfl) ?_
    refine va_get (D := (dC, dI)) (ci := 0) (v := .int ((σ_1 5).1 5)) (C := RX0) (T := TX0) (N := 9) hx hb hts ii_X0 hown hK hP 0 rfl rfl 5 (by decide) (hts (.fieldLink RX0 30 "StoryHouse$Code" "defs" "I") wq_124) (fun _ h9 => h9) rfl dX0_openDef_23 ?_
    refine lv_goto (tgt := 30) hx hb dX0_openDef_26 (by decide) ?_
    exact Jj_5 ((σ_1 5).1 5) σ_1 hF_14 _ _ hP hS ls (lv_sub hl [0] rfl)
theorem dX0_openOn_0 : decode cX0_openOn 0 = .ok (.aload_n 0, 1) := by decide +kernel
theorem dX0_openOn_1 : decode cX0_openOn 1 = .ok (.aload_n 0, 1) := by decide +kernel
theorem dX0_openOn_2 : decode cX0_openOn 2 = .ok (.getfield 33, 3) := by decide +kernel
theorem dX0_openOn_5 : decode cX0_openOn 5 = .ok (.sipush 200, 3) := by decide +kernel
theorem dX0_openOn_8 : decode cX0_openOn 8 = .ok (.if_icmp .ge 13, 3) := by decide +kernel
theorem dX0_openOn_11 : decode cX0_openOn 11 = .ok (.bipush 100, 2) := by decide +kernel
theorem dX0_openOn_13 : decode cX0_openOn 13 = .ok (.aload_n 0, 1) := by decide +kernel
theorem dX0_openOn_14 : decode cX0_openOn 14 = .ok (.getfield 33, 3) := by decide +kernel
theorem dX0_openOn_17 : decode cX0_openOn 17 = .ok (.iadd, 1) := by decide +kernel
theorem dX0_openOn_18 : decode cX0_openOn 18 = .ok (.goto 4, 3) := by decide +kernel
theorem dX0_openOn_21 : decode cX0_openOn 21 = .ok (.iconst (-1), 1) := by decide +kernel
theorem dX0_openOn_22 : decode cX0_openOn 22 = .ok (.invokevirtual 46, 3) := by decide +kernel
theorem dX0_openOn_25 : decode cX0_openOn 25 = .ok (.aload_n 0, 1) := by decide +kernel
theorem dX0_openOn_26 : decode cX0_openOn 26 = .ok (.dup, 1) := by decide +kernel
theorem dX0_openOn_27 : decode cX0_openOn 27 = .ok (.getfield 33, 3) := by decide +kernel
theorem dX0_openOn_30 : decode cX0_openOn 30 = .ok (.iconst 1, 1) := by decide +kernel
theorem dX0_openOn_31 : decode cX0_openOn 31 = .ok (.iadd, 1) := by decide +kernel
theorem dX0_openOn_32 : decode cX0_openOn 32 = .ok (.putfield 33, 3) := by decide +kernel
theorem dX0_openOn_35 : decode cX0_openOn 35 = .ok (.return_, 1) := by decide +kernel
def F_X0_openOn  (Γ : HS) : HR :=
  bnd (fun (t_1 : Int32) (σ_2 : HS) => (
    (F_X0_open t_1 σ_2).bind fun u_6 =>
    bnd (cI' u_6.2 5 6 (((u_6.2 5).1 6) + 1)) fun σ_8 =>
    some (0, σ_8)
  ) : Int32 → HS → HR) fun j_3 =>
  if 200 ≤ ((Γ 5).1 6) then (
    j_3 (-1) Γ
  ) else (
    j_3 (100 + ((Γ 5).1 6)) Γ
  )
set_option maxHeartbeats 4000000 in
set_option maxRecDepth 100000 in
theorem k_X0_openOn (l : Launch) (dC : Nat → ClassId) (dI : Nat → Nat → Nat) (cB cC cI cJ cZ cP : ClassId) (oA : Nat → Nat) (rA : Nat → Nat → Nat) (sz : Nat)   (Γ : HS) (res : Int32 × HS) (hF : F_X0_openOn  Γ = some res) : Met l yX0_openOn (g_ws yX0_openOn cX0_openOn 1 none) ({ frames := 4, cells := 0, slots := 0, locals := 103 }) (va_Pc [.ref (oA 5)] (g_B (dC, dI) [(cB, .byte), (cC, .char), (cI, .int), (cJ, .long), (cZ, .boolean), (cP, .object "StoryHouse$Play")] sz (b_c cB cC cI cJ cZ oA rA Γ) g_0)) (va_Qv (fun (_ : Unit) => True) (g_Bo (dC, dI) (va_A (b_c cB cC cI cJ cZ oA rA Γ) sz) (fun (_ : Unit) => (b_c cB cC cI cJ cZ oA rA res.2))) (va_A (b_c cB cC cI cJ cZ oA rA Γ) sz)) 0 0 (va_A (b_c cB cC cI cJ cZ oA rA Γ) sz) := by
  refine Met.ofW (cc := cX0_openOn) (maxL := 1) (ret := none) (by decide) rfl ?_
  intro p e s m args below meth c s₁ B hml hv
  obtain ⟨rfl, hsz, hP, hK, hD0, hE, hX⟩ := hv
  have hx := B.exec
  have hb := B.bytes
  have hr := B.returns
  have hts0 := atoms_spec (ws := g_ws yX0_openOn cX0_openOn 1 none) B.pre
  have hts : ∀ w ∈ lw_good, w.before ([.ref (oA 5)] : List Value).toArray s = true := fun w z => hts0 w (List.mem_cons_of_mem _ z)
  have hown : s.vm.findClass RX0 = some m.cls := findClass_of_methodNamed B.named
  have hlocks := B.notSynchronized
  subst hsz
  have hD1 := hD0.self (sz := s.heap.size)
  generalize hAe : va_A (b_c cB cC cI cJ cZ oA rA Γ) s.heap.size = A at hD1 hE hX ⊢
  have hA : ∀ q : Nat, s.heap.size ≤ q → A q := fun q z => by rw [← hAe]; exact Or.inr z
  have hDD : ∀ Γ : HS, va_D A (b_c cB cC cI cJ cZ oA rA Γ) := fun Γ9 => va_D_fst (ws := (b_c cB cC cI cJ cZ oA rA Γ)) (ws' := (b_c cB cC cI cJ cZ oA rA Γ9)) rfl hD1
  have hN := hE.1
  have hS : va_S A s.heap s.heap [] := va_S.rf
  have hl := lv_entry ([.ref (oA 5)]) (n := 1) (Nat.le_of_ble_eq_true rfl)
  rw [lg_entry_eq]
  generalize (lg_sl ([.ref (oA 5)]) ++ List.replicate (1 - (lg_sl ([.ref (oA 5)])).length) Slot.unset).toArray = ls at hl ⊢
  have hl : lv_has ls 1 [(0, .ref (oA 5))] := hl
  unfold F_X0_openOn at hF
  refine lv_aload_n hx hb dX0_openOn_0 rfl (lv_at hl 0 rfl) ?_
  refine lv_aload_n hx hb dX0_openOn_1 rfl (lv_at hl 0 rfl) ?_
  refine va_get (D := (dC, dI)) (ci := 0) (v := .int ((Γ 5).1 6)) (C := RX0) (T := TX0) (N := 9) hx hb hts ii_X0 hown hK hP 0 rfl rfl 6 (by decide) (hts (.fieldLink RX0 33 "StoryHouse$Code" "ons" "I") wq_125) (fun _ h9 => h9) rfl dX0_openOn_2 ?_
  refine lv_sipush (v := 200) hx hb dX0_openOn_5 (by decide +kernel) ?_
  obtain ⟨j_3, ej_3, hF_4⟩ := bnd_e hF
  clear hF
  have Jj_3 : ∀ (t_1 : Int32) (σ_2 : HS), j_3 t_1 σ_2 = some res → ∀ (H : Heap) (locs : List Loc), va_P (dC, dI) vwCl (b_c cB cC cI cJ cZ oA rA σ_2) H → va_S A s.heap H locs → ∀ ls : Array Slot, lv_has ls 1 [(0, .ref (oA 5))] → W p l e (headSpec (g_ws yX0_openOn cX0_openOn 1 none) { frames := 4, cells := 0, slots := 0, locals := 103 }).room s m ([.ref (oA 5)] : List Value).toArray below meth c H locs 0 0 (MQ below (va_Qv (fun (_ : Unit) => True) (g_Bo (dC, dI) A (fun (_ : Unit) => (b_c cB cC cI cJ cZ oA rA res.2))) A) ([.ref (oA 5)] : List Value).toArray s 0 0 A) (F0 m 22 ls [.int t_1, .ref (oA 5)]) := by
    intro t_1 σ_2 hF0 H locs hP hS ls hl
    subst ej_3
    have hF_5 := hF0
    clear hF0
    obtain ⟨u_6, hu_6, hF_7⟩ := Option.bind_eq_some_iff.mp hF_5
    clear hF_5
    have hPc := bx_P (bs := [b_c cB cC cI cJ cZ oA rA σ_2]) (bs' := [b_c cB cC cI cJ cZ oA rA σ_2]) (ws' := (b_c cB cC cI cJ cZ oA rA σ_2)) hP fl_1 fl_1 [0] rfl
    have hDc := bx_D (bs := [b_c cB cC cI cJ cZ oA rA σ_2]) (bs' := [b_c cB cC cI cJ cZ oA rA σ_2]) (ws' := (b_c cB cC cI cJ cZ oA rA σ_2)) (hDD σ_2) fl_1 fl_1 [0] (by decide +kernel) rfl
    have hFc := bx_F (bs := [b_c cB cC cI cJ cZ oA rA σ_2]) (bs' := [b_c cB cC cI cJ cZ oA rA σ_2]) (wc := (b_c cB cC cI cJ cZ oA rA σ_2)) (hDD σ_2) hS hA fl_1 fl_1 [0] rfl
    refine g_ofv (wc := (b_c cB cC cI cJ cZ oA rA σ_2)) (wr := ([] : va_W)) hP (hDD σ_2) hS hFc (bx_ix [b_c cB cC cI cJ cZ oA rA σ_2] [0]) (bx_ix [b_c cB cC cI cJ cZ oA rA σ_2] []) (bx_C (bs := [b_c cB cC cI cJ cZ oA rA σ_2]) (bs' := [b_c cB cC cI cJ cZ oA rA σ_2]) (is := [0]) fl_1 fl_1 rfl) (bx_C (bs := [b_c cB cC cI cJ cZ oA rA σ_2]) (bs' := []) (is := []) fl_1 fl_0 rfl) (bx_n (by decide +kernel)) (bx_d (by decide +kernel)) (va_runV (As := [.int t_1]) (rest := []) ⟨hx, hb, hml, hown, hts⟩ (k_X0_open l dC dI cB cC cI cJ cZ cP oA rA H.size  t_1 σ_2 _ hu_6) (cwV 1 hts (g_gV wq_601 wq_602 wq_2011 wq_6 wq_603) rfl rfl rfl (by decide +kernel) ⟨Nat.le_of_ble_eq_true rfl, Nat.le_of_ble_eq_true rfl⟩) (g_preV g_bl0 hK hPc hDc hS hE hFc g_to0 (q0 := 0) (ci := 0) rfl rfl) rfl rfl hl.1 rfl (lv_room (Nat.le_of_ble_eq_true rfl)) dX0_openOn_22 ⟨Nat.le_of_ble_eq_true rfl, Nat.le_of_ble_eq_true rfl⟩) (fun u9 H locs hw9 hP' hD' hS => ?_)
    clear hPc hDc hFc
    have hP : va_P (dC, dI) vwCl (b_c cB cC cI cJ cZ oA rA u_6.2) H := hP'
    clear hP' hD'
    refine lv_aload_n hx hb dX0_openOn_25 rfl (lv_at hl 0 rfl) ?_
    refine lv_dup hx hb dX0_openOn_26 rfl ?_
    refine va_get (D := (dC, dI)) (ci := 0) (v := .int ((u_6.2 5).1 6)) (C := RX0) (T := TX0) (N := 9) hx hb hts ii_X0 hown hK hP 0 rfl rfl 6 (by decide) (hts (.fieldLink RX0 33 "StoryHouse$Code" "ons" "I") wq_125) (fun _ h9 => h9) rfl dX0_openOn_27 ?_
    refine lv_iconst (v := 1) hx hb dX0_openOn_30 (by decide +kernel) ?_
    refine lv_iadd hx hb dX0_openOn_31 ?_
    obtain ⟨σ_8, eσ_8, hF_9⟩ := bnd_e hF_7
    clear hF_7
    refine va_put (D := (dC, dI)) (ci := 0) (v := .int (((u_6.2 5).1 6) + 1)) (ty := .int) (C := RX0) (T := TX0) (N := 9) hx hb hts ii_X0 tyX0 tyX0_ok nmX0 hown hK hP (hDD _) hS 0 rfl rfl 6 (by decide) (hts (.fieldLink RX0 33 "StoryHouse$Code" "ons" "I") wq_125) (fun _ h9 => h9) rfl (by decide +kernel) rfl rfl (Nat.le_of_ble_eq_true rfl) dX0_openOn_32 (fun H locs hP' _ hS => ?_)
    have hP : va_P (dC, dI) vwCl (b_c cB cC cI cJ cZ oA rA σ_8) H := by rw [eσ_8]; exact cs_c_c_6 ▸ hP'
    clear hP'
    have h9 := Option.some.inj hF_9
    subst h9
    exact W.vret hx hb hr (fun t ht hW => ⟨⟨(), rfl, trivial, m_end ht hP, hDD _⟩, hS.F ht⟩) hS.2.2 dX0_openOn_35
  refine lv_icmp_ge (tgt := 21) hx hb dX0_openOn_8 (by decide) (fun c_10 => ?_) (fun c_10 => ?_)
  · have hF_11 := ipos c_10 hF_4
    clear hF_4
    refine lv_iconst (v := (-1)) hx hb dX0_openOn_21 (by decide +kernel) ?_
    exact Jj_3 (-1) Γ hF_11 _ _ hP hS ls (lv_sub hl [0] rfl)
  · have hF_12 := ineg c_10 hF_4
    clear hF_4
    refine lv_bipush (v := 100) hx hb dX0_openOn_11 (by decide +kernel) ?_
    refine lv_aload_n hx hb dX0_openOn_13 rfl (lv_at hl 0 rfl) ?_
    refine va_get (D := (dC, dI)) (ci := 0) (v := .int ((Γ 5).1 6)) (C := RX0) (T := TX0) (N := 9) hx hb hts ii_X0 hown hK hP 0 rfl rfl 6 (by decide) (hts (.fieldLink RX0 33 "StoryHouse$Code" "ons" "I") wq_125) (fun _ h9 => h9) rfl dX0_openOn_14 ?_
    refine lv_iadd hx hb dX0_openOn_17 ?_
    refine lv_goto (tgt := 22) hx hb dX0_openOn_18 (by decide) ?_
    exact Jj_3 (100 + ((Γ 5).1 6)) Γ hF_12 _ _ hP hS ls (lv_sub hl [0] rfl)
theorem dX0_openEach_0 : decode cX0_openEach 0 = .ok (.aload_n 0, 1) := by decide +kernel
theorem dX0_openEach_1 : decode cX0_openEach 1 = .ok (.aload_n 0, 1) := by decide +kernel
theorem dX0_openEach_2 : decode cX0_openEach 2 = .ok (.getfield 36, 3) := by decide +kernel
theorem dX0_openEach_5 : decode cX0_openEach 5 = .ok (.bipush 20, 2) := by decide +kernel
theorem dX0_openEach_7 : decode cX0_openEach 7 = .ok (.if_icmp .ge 14, 3) := by decide +kernel
theorem dX0_openEach_10 : decode cX0_openEach 10 = .ok (.sipush 300, 3) := by decide +kernel
theorem dX0_openEach_13 : decode cX0_openEach 13 = .ok (.aload_n 0, 1) := by decide +kernel
theorem dX0_openEach_14 : decode cX0_openEach 14 = .ok (.getfield 36, 3) := by decide +kernel
theorem dX0_openEach_17 : decode cX0_openEach 17 = .ok (.iadd, 1) := by decide +kernel
theorem dX0_openEach_18 : decode cX0_openEach 18 = .ok (.goto 4, 3) := by decide +kernel
theorem dX0_openEach_21 : decode cX0_openEach 21 = .ok (.iconst (-1), 1) := by decide +kernel
theorem dX0_openEach_22 : decode cX0_openEach 22 = .ok (.invokevirtual 46, 3) := by decide +kernel
theorem dX0_openEach_25 : decode cX0_openEach 25 = .ok (.aload_n 0, 1) := by decide +kernel
theorem dX0_openEach_26 : decode cX0_openEach 26 = .ok (.dup, 1) := by decide +kernel
theorem dX0_openEach_27 : decode cX0_openEach 27 = .ok (.getfield 36, 3) := by decide +kernel
theorem dX0_openEach_30 : decode cX0_openEach 30 = .ok (.iconst 1, 1) := by decide +kernel
theorem dX0_openEach_31 : decode cX0_openEach 31 = .ok (.iadd, 1) := by decide +kernel
theorem dX0_openEach_32 : decode cX0_openEach 32 = .ok (.putfield 36, 3) := by decide +kernel
theorem dX0_openEach_35 : decode cX0_openEach 35 = .ok (.return_, 1) := by decide +kernel
def F_X0_openEach  (Γ : HS) : HR :=
  bnd (fun (t_1 : Int32) (σ_2 : HS) => (
    (F_X0_open t_1 σ_2).bind fun u_6 =>
    bnd (cI' u_6.2 5 7 (((u_6.2 5).1 7) + 1)) fun σ_8 =>
    some (0, σ_8)
  ) : Int32 → HS → HR) fun j_3 =>
  if 20 ≤ ((Γ 5).1 7) then (
    j_3 (-1) Γ
  ) else (
    j_3 (300 + ((Γ 5).1 7)) Γ
  )
set_option maxHeartbeats 4000000 in
set_option maxRecDepth 100000 in
theorem k_X0_openEach (l : Launch) (dC : Nat → ClassId) (dI : Nat → Nat → Nat) (cB cC cI cJ cZ cP : ClassId) (oA : Nat → Nat) (rA : Nat → Nat → Nat) (sz : Nat)   (Γ : HS) (res : Int32 × HS) (hF : F_X0_openEach  Γ = some res) : Met l yX0_openEach (g_ws yX0_openEach cX0_openEach 1 none) ({ frames := 4, cells := 0, slots := 0, locals := 103 }) (va_Pc [.ref (oA 5)] (g_B (dC, dI) [(cB, .byte), (cC, .char), (cI, .int), (cJ, .long), (cZ, .boolean), (cP, .object "StoryHouse$Play")] sz (b_c cB cC cI cJ cZ oA rA Γ) g_0)) (va_Qv (fun (_ : Unit) => True) (g_Bo (dC, dI) (va_A (b_c cB cC cI cJ cZ oA rA Γ) sz) (fun (_ : Unit) => (b_c cB cC cI cJ cZ oA rA res.2))) (va_A (b_c cB cC cI cJ cZ oA rA Γ) sz)) 0 0 (va_A (b_c cB cC cI cJ cZ oA rA Γ) sz) := by
  refine Met.ofW (cc := cX0_openEach) (maxL := 1) (ret := none) (by decide) rfl ?_
  intro p e s m args below meth c s₁ B hml hv
  obtain ⟨rfl, hsz, hP, hK, hD0, hE, hX⟩ := hv
  have hx := B.exec
  have hb := B.bytes
  have hr := B.returns
  have hts0 := atoms_spec (ws := g_ws yX0_openEach cX0_openEach 1 none) B.pre
  have hts : ∀ w ∈ lw_good, w.before ([.ref (oA 5)] : List Value).toArray s = true := fun w z => hts0 w (List.mem_cons_of_mem _ z)
  have hown : s.vm.findClass RX0 = some m.cls := findClass_of_methodNamed B.named
  have hlocks := B.notSynchronized
  subst hsz
  have hD1 := hD0.self (sz := s.heap.size)
  generalize hAe : va_A (b_c cB cC cI cJ cZ oA rA Γ) s.heap.size = A at hD1 hE hX ⊢
  have hA : ∀ q : Nat, s.heap.size ≤ q → A q := fun q z => by rw [← hAe]; exact Or.inr z
  have hDD : ∀ Γ : HS, va_D A (b_c cB cC cI cJ cZ oA rA Γ) := fun Γ9 => va_D_fst (ws := (b_c cB cC cI cJ cZ oA rA Γ)) (ws' := (b_c cB cC cI cJ cZ oA rA Γ9)) rfl hD1
  have hN := hE.1
  have hS : va_S A s.heap s.heap [] := va_S.rf
  have hl := lv_entry ([.ref (oA 5)]) (n := 1) (Nat.le_of_ble_eq_true rfl)
  rw [lg_entry_eq]
  generalize (lg_sl ([.ref (oA 5)]) ++ List.replicate (1 - (lg_sl ([.ref (oA 5)])).length) Slot.unset).toArray = ls at hl ⊢
  have hl : lv_has ls 1 [(0, .ref (oA 5))] := hl
  unfold F_X0_openEach at hF
  refine lv_aload_n hx hb dX0_openEach_0 rfl (lv_at hl 0 rfl) ?_
  refine lv_aload_n hx hb dX0_openEach_1 rfl (lv_at hl 0 rfl) ?_
  refine va_get (D := (dC, dI)) (ci := 0) (v := .int ((Γ 5).1 7)) (C := RX0) (T := TX0) (N := 9) hx hb hts ii_X0 hown hK hP 0 rfl rfl 7 (by decide) (hts (.fieldLink RX0 36 "StoryHouse$Code" "eachs" "I") wq_126) (fun _ h9 => h9) rfl dX0_openEach_2 ?_
  refine lv_bipush (v := 20) hx hb dX0_openEach_5 (by decide +kernel) ?_
  obtain ⟨j_3, ej_3, hF_4⟩ := bnd_e hF
  clear hF
  have Jj_3 : ∀ (t_1 : Int32) (σ_2 : HS), j_3 t_1 σ_2 = some res → ∀ (H : Heap) (locs : List Loc), va_P (dC, dI) vwCl (b_c cB cC cI cJ cZ oA rA σ_2) H → va_S A s.heap H locs → ∀ ls : Array Slot, lv_has ls 1 [(0, .ref (oA 5))] → W p l e (headSpec (g_ws yX0_openEach cX0_openEach 1 none) { frames := 4, cells := 0, slots := 0, locals := 103 }).room s m ([.ref (oA 5)] : List Value).toArray below meth c H locs 0 0 (MQ below (va_Qv (fun (_ : Unit) => True) (g_Bo (dC, dI) A (fun (_ : Unit) => (b_c cB cC cI cJ cZ oA rA res.2))) A) ([.ref (oA 5)] : List Value).toArray s 0 0 A) (F0 m 22 ls [.int t_1, .ref (oA 5)]) := by
    intro t_1 σ_2 hF0 H locs hP hS ls hl
    subst ej_3
    have hF_5 := hF0
    clear hF0
    obtain ⟨u_6, hu_6, hF_7⟩ := Option.bind_eq_some_iff.mp hF_5
    clear hF_5
    have hPc := bx_P (bs := [b_c cB cC cI cJ cZ oA rA σ_2]) (bs' := [b_c cB cC cI cJ cZ oA rA σ_2]) (ws' := (b_c cB cC cI cJ cZ oA rA σ_2)) hP fl_1 fl_1 [0] rfl
    have hDc := bx_D (bs := [b_c cB cC cI cJ cZ oA rA σ_2]) (bs' := [b_c cB cC cI cJ cZ oA rA σ_2]) (ws' := (b_c cB cC cI cJ cZ oA rA σ_2)) (hDD σ_2) fl_1 fl_1 [0] (by decide +kernel) rfl
    have hFc := bx_F (bs := [b_c cB cC cI cJ cZ oA rA σ_2]) (bs' := [b_c cB cC cI cJ cZ oA rA σ_2]) (wc := (b_c cB cC cI cJ cZ oA rA σ_2)) (hDD σ_2) hS hA fl_1 fl_1 [0] rfl
    refine g_ofv (wc := (b_c cB cC cI cJ cZ oA rA σ_2)) (wr := ([] : va_W)) hP (hDD σ_2) hS hFc (bx_ix [b_c cB cC cI cJ cZ oA rA σ_2] [0]) (bx_ix [b_c cB cC cI cJ cZ oA rA σ_2] []) (bx_C (bs := [b_c cB cC cI cJ cZ oA rA σ_2]) (bs' := [b_c cB cC cI cJ cZ oA rA σ_2]) (is := [0]) fl_1 fl_1 rfl) (bx_C (bs := [b_c cB cC cI cJ cZ oA rA σ_2]) (bs' := []) (is := []) fl_1 fl_0 rfl) (bx_n (by decide +kernel)) (bx_d (by decide +kernel)) (va_runV (As := [.int t_1]) (rest := []) ⟨hx, hb, hml, hown, hts⟩ (k_X0_open l dC dI cB cC cI cJ cZ cP oA rA H.size  t_1 σ_2 _ hu_6) (cwV 1 hts (g_gV wq_601 wq_602 wq_2011 wq_6 wq_603) rfl rfl rfl (by decide +kernel) ⟨Nat.le_of_ble_eq_true rfl, Nat.le_of_ble_eq_true rfl⟩) (g_preV g_bl0 hK hPc hDc hS hE hFc g_to0 (q0 := 0) (ci := 0) rfl rfl) rfl rfl hl.1 rfl (lv_room (Nat.le_of_ble_eq_true rfl)) dX0_openEach_22 ⟨Nat.le_of_ble_eq_true rfl, Nat.le_of_ble_eq_true rfl⟩) (fun u9 H locs hw9 hP' hD' hS => ?_)
    clear hPc hDc hFc
    have hP : va_P (dC, dI) vwCl (b_c cB cC cI cJ cZ oA rA u_6.2) H := hP'
    clear hP' hD'
    refine lv_aload_n hx hb dX0_openEach_25 rfl (lv_at hl 0 rfl) ?_
    refine lv_dup hx hb dX0_openEach_26 rfl ?_
    refine va_get (D := (dC, dI)) (ci := 0) (v := .int ((u_6.2 5).1 7)) (C := RX0) (T := TX0) (N := 9) hx hb hts ii_X0 hown hK hP 0 rfl rfl 7 (by decide) (hts (.fieldLink RX0 36 "StoryHouse$Code" "eachs" "I") wq_126) (fun _ h9 => h9) rfl dX0_openEach_27 ?_
    refine lv_iconst (v := 1) hx hb dX0_openEach_30 (by decide +kernel) ?_
    refine lv_iadd hx hb dX0_openEach_31 ?_
    obtain ⟨σ_8, eσ_8, hF_9⟩ := bnd_e hF_7
    clear hF_7
    refine va_put (D := (dC, dI)) (ci := 0) (v := .int (((u_6.2 5).1 7) + 1)) (ty := .int) (C := RX0) (T := TX0) (N := 9) hx hb hts ii_X0 tyX0 tyX0_ok nmX0 hown hK hP (hDD _) hS 0 rfl rfl 7 (by decide) (hts (.fieldLink RX0 36 "StoryHouse$Code" "eachs" "I") wq_126) (fun _ h9 => h9) rfl (by decide +kernel) rfl rfl (Nat.le_of_ble_eq_true rfl) dX0_openEach_32 (fun H locs hP' _ hS => ?_)
    have hP : va_P (dC, dI) vwCl (b_c cB cC cI cJ cZ oA rA σ_8) H := by rw [eσ_8]; exact cs_c_c_7 ▸ hP'
    clear hP'
    have h9 := Option.some.inj hF_9
    subst h9
    exact W.vret hx hb hr (fun t ht hW => ⟨⟨(), rfl, trivial, m_end ht hP, hDD _⟩, hS.F ht⟩) hS.2.2 dX0_openEach_35
  refine lv_icmp_ge (tgt := 21) hx hb dX0_openEach_7 (by decide) (fun c_10 => ?_) (fun c_10 => ?_)
  · have hF_11 := ipos c_10 hF_4
    clear hF_4
    refine lv_iconst (v := (-1)) hx hb dX0_openEach_21 (by decide +kernel) ?_
    exact Jj_3 (-1) Γ hF_11 _ _ hP hS ls (lv_sub hl [0] rfl)
  · have hF_12 := ineg c_10 hF_4
    clear hF_4
    refine lv_sipush (v := 300) hx hb dX0_openEach_10 (by decide +kernel) ?_
    refine lv_aload_n hx hb dX0_openEach_13 rfl (lv_at hl 0 rfl) ?_
    refine va_get (D := (dC, dI)) (ci := 0) (v := .int ((Γ 5).1 7)) (C := RX0) (T := TX0) (N := 9) hx hb hts ii_X0 hown hK hP 0 rfl rfl 7 (by decide) (hts (.fieldLink RX0 36 "StoryHouse$Code" "eachs" "I") wq_126) (fun _ h9 => h9) rfl dX0_openEach_14 ?_
    refine lv_iadd hx hb dX0_openEach_17 ?_
    refine lv_goto (tgt := 22) hx hb dX0_openEach_18 (by decide) ?_
    exact Jj_3 (300 + ((Γ 5).1 7)) Γ hF_12 _ _ hP hS ls (lv_sub hl [0] rfl)
theorem dX0_shutRoutine_0 : decode cX0_shutRoutine 0 = .ok (.aload_n 0, 1) := by decide +kernel
theorem dX0_shutRoutine_1 : decode cX0_shutRoutine 1 = .ok (.getfield 20, 3) := by decide +kernel
theorem dX0_shutRoutine_4 : decode cX0_shutRoutine 4 = .ok (.aload_n 0, 1) := by decide +kernel
theorem dX0_shutRoutine_5 : decode cX0_shutRoutine 5 = .ok (.getfield 39, 3) := by decide +kernel
theorem dX0_shutRoutine_8 : decode cX0_shutRoutine 8 = .ok (.aload_n 0, 1) := by decide +kernel
theorem dX0_shutRoutine_9 : decode cX0_shutRoutine 9 = .ok (.getfield 26, 3) := by decide +kernel
theorem dX0_shutRoutine_12 : decode cX0_shutRoutine 12 = .ok (.invokestatic 42, 3) := by decide +kernel
theorem dX0_shutRoutine_15 : decode cX0_shutRoutine 15 = .ok (.return_, 1) := by decide +kernel
def F_X0_shutRoutine  (Γ : HS) : HR :=
  bnd (((Γ 5).1 1)) fun (x_1 : Int32) =>
  bnd (cA' Γ 5 3 (g_put 320 ((Γ 5).2.1 3) ((Γ 5).1 8) x_1)) fun σ_3 =>
  some (0, σ_3)
set_option maxHeartbeats 4000000 in
set_option maxRecDepth 100000 in
theorem k_X0_shutRoutine (l : Launch) (dC : Nat → ClassId) (dI : Nat → Nat → Nat) (cB cC cI cJ cZ cP : ClassId) (oA : Nat → Nat) (rA : Nat → Nat → Nat) (sz : Nat)   (Γ : HS) (res : Int32 × HS) (hF : F_X0_shutRoutine  Γ = some res) : Met l yX0_shutRoutine (g_ws yX0_shutRoutine cX0_shutRoutine 1 none) ({ frames := 3, cells := 0, slots := 0, locals := 82 }) (va_Pc [.ref (oA 5)] (g_B (dC, dI) [(cB, .byte), (cC, .char), (cI, .int), (cJ, .long), (cZ, .boolean), (cP, .object "StoryHouse$Play")] sz (b_c cB cC cI cJ cZ oA rA Γ) g_0)) (va_Qv (fun (_ : Unit) => True) (g_Bo (dC, dI) (va_A (b_c cB cC cI cJ cZ oA rA Γ) sz) (fun (_ : Unit) => (b_c cB cC cI cJ cZ oA rA res.2))) (va_A (b_c cB cC cI cJ cZ oA rA Γ) sz)) 0 0 (va_A (b_c cB cC cI cJ cZ oA rA Γ) sz) := by
  refine Met.ofW (cc := cX0_shutRoutine) (maxL := 1) (ret := none) (by decide) rfl ?_
  intro p e s m args below meth c s₁ B hml hv
  obtain ⟨rfl, hsz, hP, hK, hD0, hE, hX⟩ := hv
  have hx := B.exec
  have hb := B.bytes
  have hr := B.returns
  have hts0 := atoms_spec (ws := g_ws yX0_shutRoutine cX0_shutRoutine 1 none) B.pre
  have hts : ∀ w ∈ lw_good, w.before ([.ref (oA 5)] : List Value).toArray s = true := fun w z => hts0 w (List.mem_cons_of_mem _ z)
  have hown : s.vm.findClass RX0 = some m.cls := findClass_of_methodNamed B.named
  have hlocks := B.notSynchronized
  subst hsz
  have hD1 := hD0.self (sz := s.heap.size)
  generalize hAe : va_A (b_c cB cC cI cJ cZ oA rA Γ) s.heap.size = A at hD1 hE hX ⊢
  have hA : ∀ q : Nat, s.heap.size ≤ q → A q := fun q z => by rw [← hAe]; exact Or.inr z
  have hDD : ∀ Γ : HS, va_D A (b_c cB cC cI cJ cZ oA rA Γ) := fun Γ9 => va_D_fst (ws := (b_c cB cC cI cJ cZ oA rA Γ)) (ws' := (b_c cB cC cI cJ cZ oA rA Γ9)) rfl hD1
  have hN := hE.1
  have hS : va_S A s.heap s.heap [] := va_S.rf
  have hl := lv_entry ([.ref (oA 5)]) (n := 1) (Nat.le_of_ble_eq_true rfl)
  rw [lg_entry_eq]
  generalize (lg_sl ([.ref (oA 5)]) ++ List.replicate (1 - (lg_sl ([.ref (oA 5)])).length) Slot.unset).toArray = ls at hl ⊢
  have hl : lv_has ls 1 [(0, .ref (oA 5))] := hl
  unfold F_X0_shutRoutine at hF
  refine lv_aload_n hx hb dX0_shutRoutine_0 rfl (lv_at hl 0 rfl) ?_
  refine va_get (D := (dC, dI)) (ci := 0) (v := .ref (rA 5 3)) (C := RX0) (T := TX0) (N := 9) hx hb hts ii_X0 hown hK hP 0 rfl rfl 3 (by decide) (hts (.fieldLink RX0 20 "StoryHouse$Code" "ends" "[I") wq_120) (fun _ h9 => h9) rfl dX0_shutRoutine_1 ?_
  refine lv_aload_n hx hb dX0_shutRoutine_4 rfl (lv_at hl 0 rfl) ?_
  refine va_get (D := (dC, dI)) (ci := 0) (v := .int ((Γ 5).1 8)) (C := RX0) (T := TX0) (N := 9) hx hb hts ii_X0 hown hK hP 0 rfl rfl 8 (by decide) (hts (.fieldLink RX0 39 "StoryHouse$Code" "current" "I") wq_127) (fun _ h9 => h9) rfl dX0_shutRoutine_5 ?_
  refine lv_aload_n hx hb dX0_shutRoutine_8 rfl (lv_at hl 0 rfl) ?_
  refine va_get (D := (dC, dI)) (ci := 0) (v := .int ((Γ 5).1 1)) (C := RX0) (T := TX0) (N := 9) hx hb hts ii_X0 hown hK hP 0 rfl rfl 1 (by decide) (hts (.fieldLink RX0 26 "StoryHouse$Code" "length" "I") wq_117) (fun _ h9 => h9) rfl dX0_shutRoutine_9 ?_
  obtain ⟨x_1, ex_1, hF_2⟩ := bnd_e hF
  clear hF
  refine m_top ex_1 ?_
  have hq9 : ((b_c cB cC cI cJ cZ oA rA Γ))[3]? = some (rA 5 3, .inl (cI, 320, .inl ((Γ 5).2.1 3))) := rfl
  have hPc := hP.sub (ws' := [(rA 5 3, .inl (cI, 320, .inl ((Γ 5).2.1 3)))]) [3] (pk_fm (er_C hq9))
  have hDc := (hDD Γ).sub (ws' := [(rA 5 3, .inl (cI, 320, .inl ((Γ 5).2.1 3)))]) [3] (by decide +kernel) (er_C hq9)
  have hFc := va_free (wc := [(rA 5 3, .inl (cI, 320, .inl ((Γ 5).2.1 3)))]) (hDD Γ) hS hA [3] (er_C hq9)
  refine g_ofv (wc := [(rA 5 3, .inl (cI, 320, .inl ((Γ 5).2.1 3)))]) (wr := (((b_c cB cC cI cJ cZ oA rA Γ)).eraseIdx 3)) hP (hDD Γ) hS hFc [3] ((List.range ((b_c cB cC cI cJ cZ oA rA Γ)).length).eraseIdx 3) (er_C hq9) er_R er_n er_d (va_runSN (As := [.ref (rA 5 3), .int ((Γ 5).1 8), .int x_1]) (rest := []) ⟨hx, hb, hml, hown, hts⟩ (c_X11_put l dC dI cB cC cI cJ cZ cP s.heap.size (rA 5 3) ((Γ 5).1 8) x_1 320 ((Γ 5).2.1 3) (by decide)) ⟨va_cnB 3 hts (g_gA wq_412) rfl rfl rfl (nw_19 hN) (hts (.initialized RX11) wq_1) (by decide +kernel) ⟨Nat.le_of_ble_eq_true rfl, Nat.le_of_ble_eq_true rfl⟩, (hts (.static yX11_put) wq_411), trivial⟩ (g_preS g_bl0 hK hPc hDc hS hE hFc g_to0) rfl rfl hl.1 rfl (lv_room (Nat.le_of_ble_eq_true rfl)) dX0_shutRoutine_12 ⟨Nat.le_of_ble_eq_true rfl, Nat.le_of_ble_eq_true rfl⟩) (fun g9 H locs hw9 hP' hD' hS => ?_)
  clear hPc hDc hFc hD'
  obtain ⟨σ_3, eσ_3, hF_4⟩ := bnd_e hF_2
  clear hF_2
  subst hw9
  have hP : va_P (dC, dI) vwCl (b_c cB cC cI cJ cZ oA rA σ_3) H := by rw [eσ_3]; exact cs_c_c_3 ▸ er_P hP' (er_lt hq9)
  clear hP' hq9
  have h9 := Option.some.inj hF_4
  subst h9
  exact W.vret hx hb hr (fun t ht hW => ⟨⟨(), rfl, trivial, m_end ht hP, hDD _⟩, hS.F ht⟩) hS.2.2 dX0_shutRoutine_15
theorem dX0_beginOf_0 : decode cX0_beginOf 0 = .ok (.aload_n 0, 1) := by decide +kernel
theorem dX0_beginOf_1 : decode cX0_beginOf 1 = .ok (.getfield 16, 3) := by decide +kernel
theorem dX0_beginOf_4 : decode cX0_beginOf 4 = .ok (.iload_n 1, 1) := by decide +kernel
theorem dX0_beginOf_5 : decode cX0_beginOf 5 = .ok (.invokestatic 50, 3) := by decide +kernel
theorem dX0_beginOf_8 : decode cX0_beginOf 8 = .ok (.ireturn, 1) := by decide +kernel
def F_X0_beginOf (p0 : Int32) (Γ : HS) : HR :=
  bnd ((g_at 320 ((Γ 5).2.1 2) p0)) fun (x_1 : Int32) =>
  some (x_1, Γ)
set_option maxHeartbeats 4000000 in
set_option maxRecDepth 100000 in
theorem k_X0_beginOf (l : Launch) (dC : Nat → ClassId) (dI : Nat → Nat → Nat) (cB cC cI cJ cZ cP : ClassId) (oA : Nat → Nat) (rA : Nat → Nat → Nat) (sz : Nat)  (p0 : Int32) (Γ : HS) (res : Int32 × HS) (hF : F_X0_beginOf p0 Γ = some res) : Met l yX0_beginOf (g_ws yX0_beginOf cX0_beginOf 2 (some .int)) ({ frames := 3, cells := 0, slots := 0, locals := 81 }) (va_Pc [.ref (oA 5), .int p0] (g_B (dC, dI) [(cB, .byte), (cC, .char), (cI, .int), (cJ, .long), (cZ, .boolean), (cP, .object "StoryHouse$Play")] sz (b_c cB cC cI cJ cZ oA rA Γ) g_0)) (va_Qi (fun r (_ : Unit) => r = res.1) (g_Bo (dC, dI) (va_A (b_c cB cC cI cJ cZ oA rA Γ) sz) (fun (_ : Unit) => (b_c cB cC cI cJ cZ oA rA res.2))) (va_A (b_c cB cC cI cJ cZ oA rA Γ) sz)) 0 0 (va_A (b_c cB cC cI cJ cZ oA rA Γ) sz) := by
  refine Met.ofW (cc := cX0_beginOf) (maxL := 2) (ret := (some .int)) (by decide) rfl ?_
  intro p e s m args below meth c s₁ B hml hv
  obtain ⟨rfl, hsz, hP, hK, hD0, hE, hX⟩ := hv
  have hx := B.exec
  have hb := B.bytes
  have hr := B.returns
  have hts0 := atoms_spec (ws := g_ws yX0_beginOf cX0_beginOf 2 (some .int)) B.pre
  have hts : ∀ w ∈ lw_good, w.before ([.ref (oA 5), .int p0] : List Value).toArray s = true := fun w z => hts0 w (List.mem_cons_of_mem _ z)
  have hown : s.vm.findClass RX0 = some m.cls := findClass_of_methodNamed B.named
  have hlocks := B.notSynchronized
  subst hsz
  have hD1 := hD0.self (sz := s.heap.size)
  generalize hAe : va_A (b_c cB cC cI cJ cZ oA rA Γ) s.heap.size = A at hD1 hE hX ⊢
  have hA : ∀ q : Nat, s.heap.size ≤ q → A q := fun q z => by rw [← hAe]; exact Or.inr z
  have hDD : ∀ Γ : HS, va_D A (b_c cB cC cI cJ cZ oA rA Γ) := fun Γ9 => va_D_fst (ws := (b_c cB cC cI cJ cZ oA rA Γ)) (ws' := (b_c cB cC cI cJ cZ oA rA Γ9)) rfl hD1
  have hN := hE.1
  have hS : va_S A s.heap s.heap [] := va_S.rf
  have hl := lv_entry ([.ref (oA 5), .int p0]) (n := 2) (Nat.le_of_ble_eq_true rfl)
  rw [lg_entry_eq]
  generalize (lg_sl ([.ref (oA 5), .int p0]) ++ List.replicate (2 - (lg_sl ([.ref (oA 5), .int p0])).length) Slot.unset).toArray = ls at hl ⊢
  have hl : lv_has ls 2 [(0, .ref (oA 5)), (1, .int p0)] := hl
  unfold F_X0_beginOf at hF
  refine lv_aload_n hx hb dX0_beginOf_0 rfl (lv_at hl 0 rfl) ?_
  refine va_get (D := (dC, dI)) (ci := 0) (v := .ref (rA 5 2)) (C := RX0) (T := TX0) (N := 9) hx hb hts ii_X0 hown hK hP 0 rfl rfl 2 (by decide) (hts (.fieldLink RX0 16 "StoryHouse$Code" "begins" "[I") wq_119) (fun _ h9 => h9) rfl dX0_beginOf_1 ?_
  refine lv_iload_n hx hb dX0_beginOf_4 rfl (lv_at hl 1 rfl) ?_
  have hq9 : ((b_c cB cC cI cJ cZ oA rA Γ))[2]? = some (rA 5 2, .inl (cI, 320, .inl ((Γ 5).2.1 2))) := rfl
  have hPc := hP.sub (ws' := [(rA 5 2, .inl (cI, 320, .inl ((Γ 5).2.1 2)))]) [2] (pk_fm (er_C hq9))
  have hDc := (hDD Γ).sub (ws' := [(rA 5 2, .inl (cI, 320, .inl ((Γ 5).2.1 2)))]) [2] (by decide +kernel) (er_C hq9)
  have hFc := va_free (wc := [(rA 5 2, .inl (cI, 320, .inl ((Γ 5).2.1 2)))]) (hDD Γ) hS hA [2] (er_C hq9)
  refine g_ofi (wc := [(rA 5 2, .inl (cI, 320, .inl ((Γ 5).2.1 2)))]) (wr := (((b_c cB cC cI cJ cZ oA rA Γ)).eraseIdx 2)) hP (hDD Γ) hS hFc [2] ((List.range ((b_c cB cC cI cJ cZ oA rA Γ)).length).eraseIdx 2) (er_C hq9) er_R er_n er_d (va_runSN (As := [.ref (rA 5 2), .int p0]) (rest := []) ⟨hx, hb, hml, hown, hts⟩ (c_X11_at l dC dI cB cC cI cJ cZ cP s.heap.size (rA 5 2) p0 320 ((Γ 5).2.1 2) (by decide)) ⟨va_cnB 2 hts (g_gA wq_407) rfl rfl rfl (nw_25 hN) (hts (.initialized RX11) wq_1) (by decide +kernel) ⟨Nat.le_of_ble_eq_true rfl, Nat.le_of_ble_eq_true rfl⟩, (hts (.static yX11_at) wq_406), trivial⟩ (g_preS g_bl0 hK hPc hDc hS hE hFc g_to0) rfl rfl hl.1 rfl (lv_room (Nat.le_of_ble_eq_true rfl)) dX0_beginOf_5 ⟨Nat.le_of_ble_eq_true rfl, Nat.le_of_ble_eq_true rfl⟩) (fun r9 u9 H locs hw9 hP' hD' hS => ?_)
  clear hPc hDc hFc hD'
  have hP : va_P (dC, dI) vwCl (b_c cB cC cI cJ cZ oA rA Γ) H := er_I hP' hq9
  clear hP' hq9
  subst hw9
  obtain ⟨x_1, ex_1, hF_2⟩ := bnd_e hF
  clear hF
  refine m_top ex_1 ?_
  have h9 := Option.some.inj hF_2
  subst h9
  exact W.iret (v := x_1) hx hb hr (fun t ht hW => ⟨⟨x_1, (), rfl, rfl, m_end ht hP, hDD _⟩, hS.F ht⟩) hS.2.2 dX0_beginOf_8
theorem dX0_add_0 : decode cX0_add 0 = .ok (.aload_n 0, 1) := by decide +kernel
theorem dX0_add_1 : decode cX0_add 1 = .ok (.getfield 26, 3) := by decide +kernel
theorem dX0_add_4 : decode cX0_add 4 = .ok (.ifCond .lt 36, 3) := by decide +kernel
theorem dX0_add_7 : decode cX0_add 7 = .ok (.aload_n 0, 1) := by decide +kernel
theorem dX0_add_8 : decode cX0_add 8 = .ok (.getfield 26, 3) := by decide +kernel
theorem dX0_add_11 : decode cX0_add 11 = .ok (.aload_n 0, 1) := by decide +kernel
theorem dX0_add_12 : decode cX0_add 12 = .ok (.getfield 12, 3) := by decide +kernel
theorem dX0_add_15 : decode cX0_add 15 = .ok (.arraylength, 1) := by decide +kernel
theorem dX0_add_16 : decode cX0_add 16 = .ok (.if_icmp .ge 24, 3) := by decide +kernel
theorem dX0_add_19 : decode cX0_add 19 = .ok (.aload_n 0, 1) := by decide +kernel
theorem dX0_add_20 : decode cX0_add 20 = .ok (.getfield 12, 3) := by decide +kernel
theorem dX0_add_23 : decode cX0_add 23 = .ok (.aload_n 0, 1) := by decide +kernel
theorem dX0_add_24 : decode cX0_add 24 = .ok (.getfield 26, 3) := by decide +kernel
theorem dX0_add_27 : decode cX0_add 27 = .ok (.iload_n 1, 1) := by decide +kernel
theorem dX0_add_28 : decode cX0_add 28 = .ok (.i2b, 1) := by decide +kernel
theorem dX0_add_29 : decode cX0_add 29 = .ok (.bastore, 1) := by decide +kernel
theorem dX0_add_30 : decode cX0_add 30 = .ok (.aload_n 0, 1) := by decide +kernel
theorem dX0_add_31 : decode cX0_add 31 = .ok (.dup, 1) := by decide +kernel
theorem dX0_add_32 : decode cX0_add 32 = .ok (.getfield 26, 3) := by decide +kernel
theorem dX0_add_35 : decode cX0_add 35 = .ok (.iconst 1, 1) := by decide +kernel
theorem dX0_add_36 : decode cX0_add 36 = .ok (.iadd, 1) := by decide +kernel
theorem dX0_add_37 : decode cX0_add 37 = .ok (.putfield 26, 3) := by decide +kernel
theorem dX0_add_40 : decode cX0_add 40 = .ok (.return_, 1) := by decide +kernel
def F_X0_add (p0 : Int32) (Γ : HS) : HR :=
  if ((Γ 5).1 1) < 0 then (
    some (0, Γ)
  ) else (
    if 40000 ≤ ((Γ 5).1 1) then (
      some (0, Γ)
    ) else (
      bnd (p0.toInt8.toInt32) fun (x_7 : Int32) =>
      if ((Γ 5).1 1) < 0 ∨ 40000 ≤ ((Γ 5).1 1).toNatClampNeg then none else
      bnd (cA' Γ 5 0 (upd ((Γ 5).2.1 0) ((Γ 5).1 1).toNatClampNeg (vp_nar .byte x_7))) fun σ_11 =>
      bnd (cI' σ_11 5 1 (((σ_11 5).1 1) + 1)) fun σ_13 =>
      some (0, σ_13)
    )
  )
set_option maxHeartbeats 4000000 in
set_option maxRecDepth 100000 in
theorem k_X0_add (l : Launch) (dC : Nat → ClassId) (dI : Nat → Nat → Nat) (cB cC cI cJ cZ cP : ClassId) (oA : Nat → Nat) (rA : Nat → Nat → Nat) (sz : Nat)  (p0 : Int32) (Γ : HS) (res : Int32 × HS) (hF : F_X0_add p0 Γ = some res) : Met l yX0_add (g_ws yX0_add cX0_add 2 none) ({ frames := 1, cells := 0, slots := 0, locals := 40 }) (va_Pc [.ref (oA 5), .int p0] (g_B (dC, dI) [(cB, .byte), (cC, .char), (cI, .int), (cJ, .long), (cZ, .boolean), (cP, .object "StoryHouse$Play")] sz (b_c cB cC cI cJ cZ oA rA Γ) g_0)) (va_Qv (fun (_ : Unit) => True) (g_Bo (dC, dI) (va_A (b_c cB cC cI cJ cZ oA rA Γ) sz) (fun (_ : Unit) => (b_c cB cC cI cJ cZ oA rA res.2))) (va_A (b_c cB cC cI cJ cZ oA rA Γ) sz)) 0 0 (va_A (b_c cB cC cI cJ cZ oA rA Γ) sz) := by
  refine Met.ofW (cc := cX0_add) (maxL := 2) (ret := none) (by decide) rfl ?_
  intro p e s m args below meth c s₁ B hml hv
  obtain ⟨rfl, hsz, hP, hK, hD0, hE, hX⟩ := hv
  have hx := B.exec
  have hb := B.bytes
  have hr := B.returns
  have hts0 := atoms_spec (ws := g_ws yX0_add cX0_add 2 none) B.pre
  have hts : ∀ w ∈ lw_good, w.before ([.ref (oA 5), .int p0] : List Value).toArray s = true := fun w z => hts0 w (List.mem_cons_of_mem _ z)
  have hown : s.vm.findClass RX0 = some m.cls := findClass_of_methodNamed B.named
  have hlocks := B.notSynchronized
  subst hsz
  have hD1 := hD0.self (sz := s.heap.size)
  generalize hAe : va_A (b_c cB cC cI cJ cZ oA rA Γ) s.heap.size = A at hD1 hE hX ⊢
  have hA : ∀ q : Nat, s.heap.size ≤ q → A q := fun q z => by rw [← hAe]; exact Or.inr z
  have hDD : ∀ Γ : HS, va_D A (b_c cB cC cI cJ cZ oA rA Γ) := fun Γ9 => va_D_fst (ws := (b_c cB cC cI cJ cZ oA rA Γ)) (ws' := (b_c cB cC cI cJ cZ oA rA Γ9)) rfl hD1
  have hN := hE.1
  have hS : va_S A s.heap s.heap [] := va_S.rf
  have hl := lv_entry ([.ref (oA 5), .int p0]) (n := 2) (Nat.le_of_ble_eq_true rfl)
  rw [lg_entry_eq]
  generalize (lg_sl ([.ref (oA 5), .int p0]) ++ List.replicate (2 - (lg_sl ([.ref (oA 5), .int p0])).length) Slot.unset).toArray = ls at hl ⊢
  have hl : lv_has ls 2 [(0, .ref (oA 5)), (1, .int p0)] := hl
  unfold F_X0_add at hF
  refine lv_aload_n hx hb dX0_add_0 rfl (lv_at hl 0 rfl) ?_
  refine va_get (D := (dC, dI)) (ci := 0) (v := .int ((Γ 5).1 1)) (C := RX0) (T := TX0) (N := 9) hx hb hts ii_X0 hown hK hP 0 rfl rfl 1 (by decide) (hts (.fieldLink RX0 26 "StoryHouse$Code" "length" "I") wq_117) (fun _ h9 => h9) rfl dX0_add_1 ?_
  refine lv_if_lt (tgt := 40) hx hb dX0_add_4 (by decide) (fun c_1 => ?_) (fun c_1 => ?_)
  · have hF_2 := ipos c_1 hF
    clear hF
    have h9 := Option.some.inj hF_2
    subst h9
    exact W.vret hx hb hr (fun t ht hW => ⟨⟨(), rfl, trivial, m_end ht hP, hDD _⟩, hS.F ht⟩) hS.2.2 dX0_add_40
  · have hF_3 := ineg c_1 hF
    clear hF
    refine lv_aload_n hx hb dX0_add_7 rfl (lv_at hl 0 rfl) ?_
    refine va_get (D := (dC, dI)) (ci := 0) (v := .int ((Γ 5).1 1)) (C := RX0) (T := TX0) (N := 9) hx hb hts ii_X0 hown hK hP 0 rfl rfl 1 (by decide) (hts (.fieldLink RX0 26 "StoryHouse$Code" "length" "I") wq_117) (fun _ h9 => h9) rfl dX0_add_8 ?_
    refine lv_aload_n hx hb dX0_add_11 rfl (lv_at hl 0 rfl) ?_
    refine va_get (D := (dC, dI)) (ci := 0) (v := .ref (rA 5 0)) (C := RX0) (T := TX0) (N := 9) hx hb hts ii_X0 hown hK hP 0 rfl rfl 0 (by decide) (hts (.fieldLink RX0 12 "StoryHouse$Code" "bytes" "[B") wq_116) (fun _ h9 => h9) rfl dX0_add_12 ?_
    refine va_alen (v := 40000) hx hb hK hP 1 0 rfl rfl (by first | rfl | decide +kernel) dX0_add_15 ?_
    refine lv_icmp_ge (tgt := 40) hx hb dX0_add_16 (by decide) (fun c_4 => ?_) (fun c_4 => ?_)
    · have hF_5 := ipos c_4 hF_3
      clear hF_3
      have h9 := Option.some.inj hF_5
      subst h9
      exact W.vret hx hb hr (fun t ht hW => ⟨⟨(), rfl, trivial, m_end ht hP, hDD _⟩, hS.F ht⟩) hS.2.2 dX0_add_40
    · have hF_6 := ineg c_4 hF_3
      clear hF_3
      refine lv_aload_n hx hb dX0_add_19 rfl (lv_at hl 0 rfl) ?_
      refine va_get (D := (dC, dI)) (ci := 0) (v := .ref (rA 5 0)) (C := RX0) (T := TX0) (N := 9) hx hb hts ii_X0 hown hK hP 0 rfl rfl 0 (by decide) (hts (.fieldLink RX0 12 "StoryHouse$Code" "bytes" "[B") wq_116) (fun _ h9 => h9) rfl dX0_add_20 ?_
      refine lv_aload_n hx hb dX0_add_23 rfl (lv_at hl 0 rfl) ?_
      refine va_get (D := (dC, dI)) (ci := 0) (v := .int ((Γ 5).1 1)) (C := RX0) (T := TX0) (N := 9) hx hb hts ii_X0 hown hK hP 0 rfl rfl 1 (by decide) (hts (.fieldLink RX0 26 "StoryHouse$Code" "length" "I") wq_117) (fun _ h9 => h9) rfl dX0_add_24 ?_
      refine lv_iload_n hx hb dX0_add_27 rfl (lv_at hl 1 rfl) ?_
      refine lv_i2b hx hb dX0_add_28 rfl ?_
      obtain ⟨x_7, ex_7, hF_8⟩ := bnd_e hF_6
      clear hF_6
      refine m_top ex_7 ?_
      obtain ⟨g_9, hF_10⟩ := nif_e hF_8
      clear hF_8
      obtain ⟨σ_11, eσ_11, hF_12⟩ := bnd_e hF_10
      clear hF_10
      refine va_bast (f := (Γ 5).2.1 0) hx hb hK hP (hDD _) hS 1 0 rfl rfl g_9 dX0_add_29 (fun H locs hP' _ hS => ?_)
      have hP : va_P (dC, dI) vwCl (b_c cB cC cI cJ cZ oA rA σ_11) H := by rw [eσ_11]; exact cs_c_c_0 ▸ hP'
      clear hP'
      refine lv_aload_n hx hb dX0_add_30 rfl (lv_at hl 0 rfl) ?_
      refine lv_dup hx hb dX0_add_31 rfl ?_
      refine va_get (D := (dC, dI)) (ci := 0) (v := .int ((σ_11 5).1 1)) (C := RX0) (T := TX0) (N := 9) hx hb hts ii_X0 hown hK hP 0 rfl rfl 1 (by decide) (hts (.fieldLink RX0 26 "StoryHouse$Code" "length" "I") wq_117) (fun _ h9 => h9) rfl dX0_add_32 ?_
      refine lv_iconst (v := 1) hx hb dX0_add_35 (by decide +kernel) ?_
      refine lv_iadd hx hb dX0_add_36 ?_
      obtain ⟨σ_13, eσ_13, hF_14⟩ := bnd_e hF_12
      clear hF_12
      refine va_put (D := (dC, dI)) (ci := 0) (v := .int (((σ_11 5).1 1) + 1)) (ty := .int) (C := RX0) (T := TX0) (N := 9) hx hb hts ii_X0 tyX0 tyX0_ok nmX0 hown hK hP (hDD _) hS 0 rfl rfl 1 (by decide) (hts (.fieldLink RX0 26 "StoryHouse$Code" "length" "I") wq_117) (fun _ h9 => h9) rfl (by decide +kernel) rfl rfl (Nat.le_of_ble_eq_true rfl) dX0_add_37 (fun H locs hP' _ hS => ?_)
      have hP : va_P (dC, dI) vwCl (b_c cB cC cI cJ cZ oA rA σ_13) H := by rw [eσ_13]; exact cs_c_c_1 ▸ hP'
      clear hP'
      have h9 := Option.some.inj hF_14
      subst h9
      exact W.vret hx hb hr (fun t ht hW => ⟨⟨(), rfl, trivial, m_end ht hP, hDD _⟩, hS.F ht⟩) hS.2.2 dX0_add_40
theorem dX0_add__0 : decode cX0_add_ 0 = .ok (.aload_n 0, 1) := by decide +kernel
theorem dX0_add__1 : decode cX0_add_ 1 = .ok (.getfield 26, 3) := by decide +kernel
theorem dX0_add__4 : decode cX0_add_ 4 = .ok (.ifCond .lt 67, 3) := by decide +kernel
theorem dX0_add__7 : decode cX0_add_ 7 = .ok (.aload_n 0, 1) := by decide +kernel
theorem dX0_add__8 : decode cX0_add_ 8 = .ok (.getfield 26, 3) := by decide +kernel
theorem dX0_add__11 : decode cX0_add_ 11 = .ok (.iconst 2, 1) := by decide +kernel
theorem dX0_add__12 : decode cX0_add_ 12 = .ok (.iadd, 1) := by decide +kernel
theorem dX0_add__13 : decode cX0_add_ 13 = .ok (.aload_n 0, 1) := by decide +kernel
theorem dX0_add__14 : decode cX0_add_ 14 = .ok (.getfield 12, 3) := by decide +kernel
theorem dX0_add__17 : decode cX0_add_ 17 = .ok (.arraylength, 1) := by decide +kernel
theorem dX0_add__18 : decode cX0_add_ 18 = .ok (.if_icmp .ge 53, 3) := by decide +kernel
theorem dX0_add__21 : decode cX0_add_ 21 = .ok (.aload_n 0, 1) := by decide +kernel
theorem dX0_add__22 : decode cX0_add_ 22 = .ok (.getfield 12, 3) := by decide +kernel
theorem dX0_add__25 : decode cX0_add_ 25 = .ok (.aload_n 0, 1) := by decide +kernel
theorem dX0_add__26 : decode cX0_add_ 26 = .ok (.getfield 26, 3) := by decide +kernel
theorem dX0_add__29 : decode cX0_add_ 29 = .ok (.iload_n 1, 1) := by decide +kernel
theorem dX0_add__30 : decode cX0_add_ 30 = .ok (.i2b, 1) := by decide +kernel
theorem dX0_add__31 : decode cX0_add_ 31 = .ok (.bastore, 1) := by decide +kernel
theorem dX0_add__32 : decode cX0_add_ 32 = .ok (.aload_n 0, 1) := by decide +kernel
theorem dX0_add__33 : decode cX0_add_ 33 = .ok (.getfield 12, 3) := by decide +kernel
theorem dX0_add__36 : decode cX0_add_ 36 = .ok (.aload_n 0, 1) := by decide +kernel
theorem dX0_add__37 : decode cX0_add_ 37 = .ok (.getfield 26, 3) := by decide +kernel
theorem dX0_add__40 : decode cX0_add_ 40 = .ok (.iconst 1, 1) := by decide +kernel
theorem dX0_add__41 : decode cX0_add_ 41 = .ok (.iadd, 1) := by decide +kernel
theorem dX0_add__42 : decode cX0_add_ 42 = .ok (.iload_n 2, 1) := by decide +kernel
theorem dX0_add__43 : decode cX0_add_ 43 = .ok (.bipush 8, 2) := by decide +kernel
theorem dX0_add__45 : decode cX0_add_ 45 = .ok (.ishr, 1) := by decide +kernel
theorem dX0_add__46 : decode cX0_add_ 46 = .ok (.i2b, 1) := by decide +kernel
theorem dX0_add__47 : decode cX0_add_ 47 = .ok (.bastore, 1) := by decide +kernel
theorem dX0_add__48 : decode cX0_add_ 48 = .ok (.aload_n 0, 1) := by decide +kernel
theorem dX0_add__49 : decode cX0_add_ 49 = .ok (.getfield 12, 3) := by decide +kernel
theorem dX0_add__52 : decode cX0_add_ 52 = .ok (.aload_n 0, 1) := by decide +kernel
theorem dX0_add__53 : decode cX0_add_ 53 = .ok (.getfield 26, 3) := by decide +kernel
theorem dX0_add__56 : decode cX0_add_ 56 = .ok (.iconst 2, 1) := by decide +kernel
theorem dX0_add__57 : decode cX0_add_ 57 = .ok (.iadd, 1) := by decide +kernel
theorem dX0_add__58 : decode cX0_add_ 58 = .ok (.iload_n 2, 1) := by decide +kernel
theorem dX0_add__59 : decode cX0_add_ 59 = .ok (.i2b, 1) := by decide +kernel
theorem dX0_add__60 : decode cX0_add_ 60 = .ok (.bastore, 1) := by decide +kernel
theorem dX0_add__61 : decode cX0_add_ 61 = .ok (.aload_n 0, 1) := by decide +kernel
theorem dX0_add__62 : decode cX0_add_ 62 = .ok (.dup, 1) := by decide +kernel
theorem dX0_add__63 : decode cX0_add_ 63 = .ok (.getfield 26, 3) := by decide +kernel
theorem dX0_add__66 : decode cX0_add_ 66 = .ok (.iconst 3, 1) := by decide +kernel
theorem dX0_add__67 : decode cX0_add_ 67 = .ok (.iadd, 1) := by decide +kernel
theorem dX0_add__68 : decode cX0_add_ 68 = .ok (.putfield 26, 3) := by decide +kernel
theorem dX0_add__71 : decode cX0_add_ 71 = .ok (.aload_n 0, 1) := by decide +kernel
theorem dX0_add__72 : decode cX0_add_ 72 = .ok (.getfield 26, 3) := by decide +kernel
theorem dX0_add__75 : decode cX0_add_ 75 = .ok (.iconst 2, 1) := by decide +kernel
theorem dX0_add__76 : decode cX0_add_ 76 = .ok (.isub, 1) := by decide +kernel
theorem dX0_add__77 : decode cX0_add_ 77 = .ok (.ireturn, 1) := by decide +kernel
def F_X0_add_ (p0 : Int32) (p1 : Int32) (Γ : HS) : HR :=
  if ((Γ 5).1 1) < 0 then (
    some ((((Γ 5).1 1) - 2), Γ)
  ) else (
    if 40000 ≤ (((Γ 5).1 1) + 2) then (
      some ((((Γ 5).1 1) - 2), Γ)
    ) else (
      bnd (p0.toInt8.toInt32) fun (x_7 : Int32) =>
      if ((Γ 5).1 1) < 0 ∨ 40000 ≤ ((Γ 5).1 1).toNatClampNeg then none else
      bnd (cA' Γ 5 0 (upd ((Γ 5).2.1 0) ((Γ 5).1 1).toNatClampNeg (vp_nar .byte x_7))) fun σ_11 =>
      bnd ((p1 >>> (8 &&& 31)).toInt8.toInt32) fun (x_13 : Int32) =>
      if (((σ_11 5).1 1) + 1) < 0 ∨ 40000 ≤ (((σ_11 5).1 1) + 1).toNatClampNeg then none else
      bnd (cA' σ_11 5 0 (upd ((σ_11 5).2.1 0) (((σ_11 5).1 1) + 1).toNatClampNeg (vp_nar .byte x_13))) fun σ_17 =>
      bnd (p1.toInt8.toInt32) fun (x_19 : Int32) =>
      if (((σ_17 5).1 1) + 2) < 0 ∨ 40000 ≤ (((σ_17 5).1 1) + 2).toNatClampNeg then none else
      bnd (cA' σ_17 5 0 (upd ((σ_17 5).2.1 0) (((σ_17 5).1 1) + 2).toNatClampNeg (vp_nar .byte x_19))) fun σ_23 =>
      bnd (cI' σ_23 5 1 (((σ_23 5).1 1) + 3)) fun σ_25 =>
      some ((((σ_25 5).1 1) - 2), σ_25)
    )
  )
set_option maxHeartbeats 4000000 in
set_option maxRecDepth 100000 in
theorem k_X0_add_ (l : Launch) (dC : Nat → ClassId) (dI : Nat → Nat → Nat) (cB cC cI cJ cZ cP : ClassId) (oA : Nat → Nat) (rA : Nat → Nat → Nat) (sz : Nat)  (p0 : Int32) (p1 : Int32) (Γ : HS) (res : Int32 × HS) (hF : F_X0_add_ p0 p1 Γ = some res) : Met l yX0_add_ (g_ws yX0_add_ cX0_add_ 3 (some .int)) ({ frames := 1, cells := 0, slots := 0, locals := 40 }) (va_Pc [.ref (oA 5), .int p0, .int p1] (g_B (dC, dI) [(cB, .byte), (cC, .char), (cI, .int), (cJ, .long), (cZ, .boolean), (cP, .object "StoryHouse$Play")] sz (b_c cB cC cI cJ cZ oA rA Γ) g_0)) (va_Qi (fun r (_ : Unit) => r = res.1) (g_Bo (dC, dI) (va_A (b_c cB cC cI cJ cZ oA rA Γ) sz) (fun (_ : Unit) => (b_c cB cC cI cJ cZ oA rA res.2))) (va_A (b_c cB cC cI cJ cZ oA rA Γ) sz)) 0 0 (va_A (b_c cB cC cI cJ cZ oA rA Γ) sz) := by
  refine Met.ofW (cc := cX0_add_) (maxL := 3) (ret := (some .int)) (by decide) rfl ?_
  intro p e s m args below meth c s₁ B hml hv
  obtain ⟨rfl, hsz, hP, hK, hD0, hE, hX⟩ := hv
  have hx := B.exec
  have hb := B.bytes
  have hr := B.returns
  have hts0 := atoms_spec (ws := g_ws yX0_add_ cX0_add_ 3 (some .int)) B.pre
  have hts : ∀ w ∈ lw_good, w.before ([.ref (oA 5), .int p0, .int p1] : List Value).toArray s = true := fun w z => hts0 w (List.mem_cons_of_mem _ z)
  have hown : s.vm.findClass RX0 = some m.cls := findClass_of_methodNamed B.named
  have hlocks := B.notSynchronized
  subst hsz
  have hD1 := hD0.self (sz := s.heap.size)
  generalize hAe : va_A (b_c cB cC cI cJ cZ oA rA Γ) s.heap.size = A at hD1 hE hX ⊢
  have hA : ∀ q : Nat, s.heap.size ≤ q → A q := fun q z => by rw [← hAe]; exact Or.inr z
  have hDD : ∀ Γ : HS, va_D A (b_c cB cC cI cJ cZ oA rA Γ) := fun Γ9 => va_D_fst (ws := (b_c cB cC cI cJ cZ oA rA Γ)) (ws' := (b_c cB cC cI cJ cZ oA rA Γ9)) rfl hD1
  have hN := hE.1
  have hS : va_S A s.heap s.heap [] := va_S.rf
  have hl := lv_entry ([.ref (oA 5), .int p0, .int p1]) (n := 3) (Nat.le_of_ble_eq_true rfl)
  rw [lg_entry_eq]
  generalize (lg_sl ([.ref (oA 5), .int p0, .int p1]) ++ List.replicate (3 - (lg_sl ([.ref (oA 5), .int p0, .int p1])).length) Slot.unset).toArray = ls at hl ⊢
  have hl : lv_has ls 3 [(0, .ref (oA 5)), (1, .int p0), (2, .int p1)] := hl
  unfold F_X0_add_ at hF
  refine lv_aload_n hx hb dX0_add__0 rfl (lv_at hl 0 rfl) ?_
  refine va_get (D := (dC, dI)) (ci := 0) (v := .int ((Γ 5).1 1)) (C := RX0) (T := TX0) (N := 9) hx hb hts ii_X0 hown hK hP 0 rfl rfl 1 (by decide) (hts (.fieldLink RX0 26 "StoryHouse$Code" "length" "I") wq_117) (fun _ h9 => h9) rfl dX0_add__1 ?_
  refine lv_if_lt (tgt := 71) hx hb dX0_add__4 (by decide) (fun c_1 => ?_) (fun c_1 => ?_)
  · have hF_2 := ipos c_1 hF
    clear hF
    refine lv_aload_n hx hb dX0_add__71 rfl (lv_at hl 0 rfl) ?_
    refine va_get (D := (dC, dI)) (ci := 0) (v := .int ((Γ 5).1 1)) (C := RX0) (T := TX0) (N := 9) hx hb hts ii_X0 hown hK hP 0 rfl rfl 1 (by decide) (hts (.fieldLink RX0 26 "StoryHouse$Code" "length" "I") wq_117) (fun _ h9 => h9) rfl dX0_add__72 ?_
    refine lv_iconst (v := 2) hx hb dX0_add__75 (by decide +kernel) ?_
    refine lv_isub hx hb dX0_add__76 ?_
    have h9 := Option.some.inj hF_2
    subst h9
    exact W.iret (v := (((Γ 5).1 1) - 2)) hx hb hr (fun t ht hW => ⟨⟨(((Γ 5).1 1) - 2), (), rfl, rfl, m_end ht hP, hDD _⟩, hS.F ht⟩) hS.2.2 dX0_add__77
  · have hF_3 := ineg c_1 hF
    clear hF
    refine lv_aload_n hx hb dX0_add__7 rfl (lv_at hl 0 rfl) ?_
    refine va_get (D := (dC, dI)) (ci := 0) (v := .int ((Γ 5).1 1)) (C := RX0) (T := TX0) (N := 9) hx hb hts ii_X0 hown hK hP 0 rfl rfl 1 (by decide) (hts (.fieldLink RX0 26 "StoryHouse$Code" "length" "I") wq_117) (fun _ h9 => h9) rfl dX0_add__8 ?_
    refine lv_iconst (v := 2) hx hb dX0_add__11 (by decide +kernel) ?_
    refine lv_iadd hx hb dX0_add__12 ?_
    refine lv_aload_n hx hb dX0_add__13 rfl (lv_at hl 0 rfl) ?_
    refine va_get (D := (dC, dI)) (ci := 0) (v := .ref (rA 5 0)) (C := RX0) (T := TX0) (N := 9) hx hb hts ii_X0 hown hK hP 0 rfl rfl 0 (by decide) (hts (.fieldLink RX0 12 "StoryHouse$Code" "bytes" "[B") wq_116) (fun _ h9 => h9) rfl dX0_add__14 ?_
    refine va_alen (v := 40000) hx hb hK hP 1 0 rfl rfl (by first | rfl | decide +kernel) dX0_add__17 ?_
    refine lv_icmp_ge (tgt := 71) hx hb dX0_add__18 (by decide) (fun c_4 => ?_) (fun c_4 => ?_)
    · have hF_5 := ipos c_4 hF_3
      clear hF_3
      refine lv_aload_n hx hb dX0_add__71 rfl (lv_at hl 0 rfl) ?_
      refine va_get (D := (dC, dI)) (ci := 0) (v := .int ((Γ 5).1 1)) (C := RX0) (T := TX0) (N := 9) hx hb hts ii_X0 hown hK hP 0 rfl rfl 1 (by decide) (hts (.fieldLink RX0 26 "StoryHouse$Code" "length" "I") wq_117) (fun _ h9 => h9) rfl dX0_add__72 ?_
      refine lv_iconst (v := 2) hx hb dX0_add__75 (by decide +kernel) ?_
      refine lv_isub hx hb dX0_add__76 ?_
      have h9 := Option.some.inj hF_5
      subst h9
      exact W.iret (v := (((Γ 5).1 1) - 2)) hx hb hr (fun t ht hW => ⟨⟨(((Γ 5).1 1) - 2), (), rfl, rfl, m_end ht hP, hDD _⟩, hS.F ht⟩) hS.2.2 dX0_add__77
    · have hF_6 := ineg c_4 hF_3
      clear hF_3
      refine lv_aload_n hx hb dX0_add__21 rfl (lv_at hl 0 rfl) ?_
      refine va_get (D := (dC, dI)) (ci := 0) (v := .ref (rA 5 0)) (C := RX0) (T := TX0) (N := 9) hx hb hts ii_X0 hown hK hP 0 rfl rfl 0 (by decide) (hts (.fieldLink RX0 12 "StoryHouse$Code" "bytes" "[B") wq_116) (fun _ h9 => h9) rfl dX0_add__22 ?_
      refine lv_aload_n hx hb dX0_add__25 rfl (lv_at hl 0 rfl) ?_
      refine va_get (D := (dC, dI)) (ci := 0) (v := .int ((Γ 5).1 1)) (C := RX0) (T := TX0) (N := 9) hx hb hts ii_X0 hown hK hP 0 rfl rfl 1 (by decide) (hts (.fieldLink RX0 26 "StoryHouse$Code" "length" "I") wq_117) (fun _ h9 => h9) rfl dX0_add__26 ?_
      refine lv_iload_n hx hb dX0_add__29 rfl (lv_at hl 1 rfl) ?_
      refine lv_i2b hx hb dX0_add__30 rfl ?_
      obtain ⟨x_7, ex_7, hF_8⟩ := bnd_e hF_6
      clear hF_6
      refine m_top ex_7 ?_
      obtain ⟨g_9, hF_10⟩ := nif_e hF_8
      clear hF_8
      obtain ⟨σ_11, eσ_11, hF_12⟩ := bnd_e hF_10
      clear hF_10
      refine va_bast (f := (Γ 5).2.1 0) hx hb hK hP (hDD _) hS 1 0 rfl rfl g_9 dX0_add__31 (fun H locs hP' _ hS => ?_)
      have hP : va_P (dC, dI) vwCl (b_c cB cC cI cJ cZ oA rA σ_11) H := by rw [eσ_11]; exact cs_c_c_0 ▸ hP'
      clear hP'
      refine lv_aload_n hx hb dX0_add__32 rfl (lv_at hl 0 rfl) ?_
      refine va_get (D := (dC, dI)) (ci := 0) (v := .ref (rA 5 0)) (C := RX0) (T := TX0) (N := 9) hx hb hts ii_X0 hown hK hP 0 rfl rfl 0 (by decide) (hts (.fieldLink RX0 12 "StoryHouse$Code" "bytes" "[B") wq_116) (fun _ h9 => h9) rfl dX0_add__33 ?_
      refine lv_aload_n hx hb dX0_add__36 rfl (lv_at hl 0 rfl) ?_
      refine va_get (D := (dC, dI)) (ci := 0) (v := .int ((σ_11 5).1 1)) (C := RX0) (T := TX0) (N := 9) hx hb hts ii_X0 hown hK hP 0 rfl rfl 1 (by decide) (hts (.fieldLink RX0 26 "StoryHouse$Code" "length" "I") wq_117) (fun _ h9 => h9) rfl dX0_add__37 ?_
      refine lv_iconst (v := 1) hx hb dX0_add__40 (by decide +kernel) ?_
      refine lv_iadd hx hb dX0_add__41 ?_
      refine lv_iload_n hx hb dX0_add__42 rfl (lv_at hl 2 rfl) ?_
      refine lv_bipush (v := 8) hx hb dX0_add__43 (by decide +kernel) ?_
      refine lv_ishr hx hb dX0_add__45 ?_
      refine lv_i2b hx hb dX0_add__46 rfl ?_
      obtain ⟨x_13, ex_13, hF_14⟩ := bnd_e hF_12
      clear hF_12
      refine m_top ex_13 ?_
      obtain ⟨g_15, hF_16⟩ := nif_e hF_14
      clear hF_14
      obtain ⟨σ_17, eσ_17, hF_18⟩ := bnd_e hF_16
      clear hF_16
      refine va_bast (f := (σ_11 5).2.1 0) hx hb hK hP (hDD _) hS 1 0 rfl rfl g_15 dX0_add__47 (fun H locs hP' _ hS => ?_)
      have hP : va_P (dC, dI) vwCl (b_c cB cC cI cJ cZ oA rA σ_17) H := by rw [eσ_17]; exact cs_c_c_0 ▸ hP'
      clear hP'
      refine lv_aload_n hx hb dX0_add__48 rfl (lv_at hl 0 rfl) ?_
      refine va_get (D := (dC, dI)) (ci := 0) (v := .ref (rA 5 0)) (C := RX0) (T := TX0) (N := 9) hx hb hts ii_X0 hown hK hP 0 rfl rfl 0 (by decide) (hts (.fieldLink RX0 12 "StoryHouse$Code" "bytes" "[B") wq_116) (fun _ h9 => h9) rfl dX0_add__49 ?_
      refine lv_aload_n hx hb dX0_add__52 rfl (lv_at hl 0 rfl) ?_
      refine va_get (D := (dC, dI)) (ci := 0) (v := .int ((σ_17 5).1 1)) (C := RX0) (T := TX0) (N := 9) hx hb hts ii_X0 hown hK hP 0 rfl rfl 1 (by decide) (hts (.fieldLink RX0 26 "StoryHouse$Code" "length" "I") wq_117) (fun _ h9 => h9) rfl dX0_add__53 ?_
      refine lv_iconst (v := 2) hx hb dX0_add__56 (by decide +kernel) ?_
      refine lv_iadd hx hb dX0_add__57 ?_
      refine lv_iload_n hx hb dX0_add__58 rfl (lv_at hl 2 rfl) ?_
      refine lv_i2b hx hb dX0_add__59 rfl ?_
      obtain ⟨x_19, ex_19, hF_20⟩ := bnd_e hF_18
      clear hF_18
      refine m_top ex_19 ?_
      obtain ⟨g_21, hF_22⟩ := nif_e hF_20
      clear hF_20
      obtain ⟨σ_23, eσ_23, hF_24⟩ := bnd_e hF_22
      clear hF_22
      refine va_bast (f := (σ_17 5).2.1 0) hx hb hK hP (hDD _) hS 1 0 rfl rfl g_21 dX0_add__60 (fun H locs hP' _ hS => ?_)
      have hP : va_P (dC, dI) vwCl (b_c cB cC cI cJ cZ oA rA σ_23) H := by rw [eσ_23]; exact cs_c_c_0 ▸ hP'
      clear hP'
      refine lv_aload_n hx hb dX0_add__61 rfl (lv_at hl 0 rfl) ?_
      refine lv_dup hx hb dX0_add__62 rfl ?_
      refine va_get (D := (dC, dI)) (ci := 0) (v := .int ((σ_23 5).1 1)) (C := RX0) (T := TX0) (N := 9) hx hb hts ii_X0 hown hK hP 0 rfl rfl 1 (by decide) (hts (.fieldLink RX0 26 "StoryHouse$Code" "length" "I") wq_117) (fun _ h9 => h9) rfl dX0_add__63 ?_
      refine lv_iconst (v := 3) hx hb dX0_add__66 (by decide +kernel) ?_
      refine lv_iadd hx hb dX0_add__67 ?_
      obtain ⟨σ_25, eσ_25, hF_26⟩ := bnd_e hF_24
      clear hF_24
      refine va_put (D := (dC, dI)) (ci := 0) (v := .int (((σ_23 5).1 1) + 3)) (ty := .int) (C := RX0) (T := TX0) (N := 9) hx hb hts ii_X0 tyX0 tyX0_ok nmX0 hown hK hP (hDD _) hS 0 rfl rfl 1 (by decide) (hts (.fieldLink RX0 26 "StoryHouse$Code" "length" "I") wq_117) (fun _ h9 => h9) rfl (by decide +kernel) rfl rfl (Nat.le_of_ble_eq_true rfl) dX0_add__68 (fun H locs hP' _ hS => ?_)
      have hP : va_P (dC, dI) vwCl (b_c cB cC cI cJ cZ oA rA σ_25) H := by rw [eσ_25]; exact cs_c_c_1 ▸ hP'
      clear hP'
      refine lv_aload_n hx hb dX0_add__71 rfl (lv_at hl 0 rfl) ?_
      refine va_get (D := (dC, dI)) (ci := 0) (v := .int ((σ_25 5).1 1)) (C := RX0) (T := TX0) (N := 9) hx hb hts ii_X0 hown hK hP 0 rfl rfl 1 (by decide) (hts (.fieldLink RX0 26 "StoryHouse$Code" "length" "I") wq_117) (fun _ h9 => h9) rfl dX0_add__72 ?_
      refine lv_iconst (v := 2) hx hb dX0_add__75 (by decide +kernel) ?_
      refine lv_isub hx hb dX0_add__76 ?_
      have h9 := Option.some.inj hF_26
      subst h9
      exact W.iret (v := (((σ_25 5).1 1) - 2)) hx hb hr (fun t ht hW => ⟨⟨(((σ_25 5).1 1) - 2), (), rfl, rfl, m_end ht hP, hDD _⟩, hS.F ht⟩) hS.2.2 dX0_add__77
