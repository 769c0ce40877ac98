/-! methods of the reference: what each does is its function -/
theorem dX12_thrown_0 : decode cX12_thrown 0 = .ok (.aload_n 0, 1) := by decide +kernel
theorem dX12_thrown_1 : decode cX12_thrown 1 = .ok (.getfield 240, 3) := by decide +kernel
theorem dX12_thrown_4 : decode cX12_thrown 4 = .ok (.ireturn, 1) := by decide +kernel
def F_X12_thrown  (σ : MS) : MR :=
  some ((σ.1 0), σ)
set_option maxHeartbeats 4000000 in
set_option maxRecDepth 100000 in
theorem m_X12_thrown (l : Launch) (dC : Nat → ClassId) (dI : Nat → Nat → Nat) (cB cC cI cJ cZ cP : ClassId) (h qK qS : Nat) (ad : Nat → Nat) (hDD : mDis cB cI cZ h qK qS ad) (sz : Nat)   (σ : MS) (res : Int32 × MS) (hF : F_X12_thrown  σ = some res) : Met l yX12_thrown (g_ws yX12_thrown cX12_thrown 1 (some .int)) ({ frames := 1, cells := 0, slots := 0, locals := 40 }) (va_Pc [.ref h] (m_B (dC, dI) [(cB, .byte), (cC, .char), (cI, .int), (cJ, .long), (cZ, .boolean), (cP, .object "StoryHouse$Play")] sz h ad qK qS (mW cB cI cZ h qK qS ad σ) g_0)) (va_Qi (fun r (_ : Unit) => r = res.1) (fun _ t => va_P (dC, dI) vwCl (mW cB cI cZ h qK qS ad res.2) t.heap) (mCells h ad sz)) 0 0 (mCells h ad sz) := by
  refine Met.ofW (cc := cX12_thrown) (maxL := 1) (ret := (some .int)) (by decide) rfl ?_
  intro p e s m args below meth c s₁ B hml hv
  obtain ⟨rfl, hsz, hP, hK, hE, hKS, hX⟩ := hv
  have hx := B.exec
  have hb := B.bytes
  have hr := B.returns
  have hts0 := atoms_spec (ws := g_ws yX12_thrown cX12_thrown 1 (some .int)) B.pre
  have hts : ∀ w ∈ lw_good, w.before ([.ref h] : List Value).toArray s = true := fun w z => hts0 w (List.mem_cons_of_mem _ z)
  have hown : s.vm.findClass RX12 = some m.cls := findClass_of_methodNamed B.named
  have hlocks := B.notSynchronized
  have hS : va_S (mCells h ad sz) s.heap s.heap [] := va_S.rf
  have hl := lv_entry ([.ref h]) (n := 1) (Nat.le_of_ble_eq_true rfl)
  rw [lg_entry_eq]
  generalize (lg_sl ([.ref h]) ++ List.replicate (1 - (lg_sl ([.ref h])).length) Slot.unset).toArray = ls at hl ⊢
  have hl : lv_has ls 1 [(0, .ref h)] := hl
  unfold F_X12_thrown at hF
  refine lv_aload_n hx hb dX12_thrown_0 rfl (lv_at hl 0 rfl) ?_
  refine va_get (D := (dC, dI)) (ci := 12) (v := .int (σ.1 0)) (C := RX12) (T := TX12) (N := 123) hx hb hts ii_X12 hown hK hP 0 rfl rfl 0 (by decide) (hts (.fieldLink RX12 240 "StoryHouseModel" "thrown" "I") wq_1356) (fun _ h9 => h9) rfl dX12_thrown_1 ?_
  have h9 := Option.some.inj hF
  subst h9
  exact W.iret (v := (σ.1 0)) hx hb hr (fun t ht hW => ⟨⟨(σ.1 0), (), rfl, rfl, m_end ht hP⟩, hS.F ht⟩) hS.2.2 dX12_thrown_4
theorem dX12_refuses_0 : decode cX12_refuses 0 = .ok (.aload_n 0, 1) := by decide +kernel
theorem dX12_refuses_1 : decode cX12_refuses 1 = .ok (.iload_n 1, 1) := by decide +kernel
theorem dX12_refuses_2 : decode cX12_refuses 2 = .ok (.putfield 240, 3) := by decide +kernel
theorem dX12_refuses_5 : decode cX12_refuses 5 = .ok (.iload_n 1, 1) := by decide +kernel
theorem dX12_refuses_6 : decode cX12_refuses 6 = .ok (.ifCond .eq 7, 3) := by decide +kernel
theorem dX12_refuses_9 : decode cX12_refuses 9 = .ok (.iconst 1, 1) := by decide +kernel
theorem dX12_refuses_10 : decode cX12_refuses 10 = .ok (.goto 4, 3) := by decide +kernel
theorem dX12_refuses_13 : decode cX12_refuses 13 = .ok (.iconst 0, 1) := by decide +kernel
theorem dX12_refuses_14 : decode cX12_refuses 14 = .ok (.ireturn, 1) := by decide +kernel
def F_X12_refuses (p0 : Int32) (σ : MS) : MR :=
  bnd (mI σ 0 p0) fun σ_1 =>
  if p0 = 0 then (
    some (0, σ_1)
  ) else (
    some (1, σ_1)
  )
set_option maxHeartbeats 4000000 in
set_option maxRecDepth 100000 in
theorem m_X12_refuses (l : Launch) (dC : Nat → ClassId) (dI : Nat → Nat → Nat) (cB cC cI cJ cZ cP : ClassId) (h qK qS : Nat) (ad : Nat → Nat) (hDD : mDis cB cI cZ h qK qS ad) (sz : Nat)  (p0 : Int32) (σ : MS) (res : Int32 × MS) (hF : F_X12_refuses p0 σ = some res) : Met l yX12_refuses (g_ws yX12_refuses cX12_refuses 2 (some .boolean)) ({ frames := 1, cells := 0, slots := 0, locals := 40 }) (va_Pc [.ref h, .int p0] (m_B (dC, dI) [(cB, .byte), (cC, .char), (cI, .int), (cJ, .long), (cZ, .boolean), (cP, .object "StoryHouse$Play")] sz h ad qK qS (mW cB cI cZ h qK qS ad σ) g_0)) (va_Qi (fun r (_ : Unit) => r = res.1) (fun _ t => va_P (dC, dI) vwCl (mW cB cI cZ h qK qS ad res.2) t.heap) (mCells h ad sz)) 0 0 (mCells h ad sz) := by
  refine Met.ofW (cc := cX12_refuses) (maxL := 2) (ret := (some .boolean)) (by decide) rfl ?_
  intro p e s m args below meth c s₁ B hml hv
  obtain ⟨rfl, hsz, hP, hK, hE, hKS, hX⟩ := hv
  have hx := B.exec
  have hb := B.bytes
  have hr := B.returns
  have hts0 := atoms_spec (ws := g_ws yX12_refuses cX12_refuses 2 (some .boolean)) B.pre
  have hts : ∀ w ∈ lw_good, w.before ([.ref h, .int p0] : List Value).toArray s = true := fun w z => hts0 w (List.mem_cons_of_mem _ z)
  have hown : s.vm.findClass RX12 = some m.cls := findClass_of_methodNamed B.named
  have hlocks := B.notSynchronized
  have hS : va_S (mCells h ad sz) s.heap s.heap [] := va_S.rf
  have hl := lv_entry ([.ref h, .int p0]) (n := 2) (Nat.le_of_ble_eq_true rfl)
  rw [lg_entry_eq]
  generalize (lg_sl ([.ref h, .int p0]) ++ List.replicate (2 - (lg_sl ([.ref h, .int p0])).length) Slot.unset).toArray = ls at hl ⊢
  have hl : lv_has ls 2 [(0, .ref h), (1, .int p0)] := hl
  unfold F_X12_refuses at hF
  refine lv_aload_n hx hb dX12_refuses_0 rfl (lv_at hl 0 rfl) ?_
  refine lv_iload_n hx hb dX12_refuses_1 rfl (lv_at hl 1 rfl) ?_
  obtain ⟨σ_1, eσ_1, hF_2⟩ := bnd_e hF
  clear hF
  refine m_put (σ' := σ_1) (v := .int p0) (ty := .int) hx hb hts hown hK hP (hDD _ _) hS (by rw [eσ_1]; exact mwI_0) (k := 0) (by decide) (hts (.fieldLink RX12 240 "StoryHouseModel" "thrown" "I") wq_1356) (fun _ h9 => h9) rfl (by decide +kernel) rfl rfl dX12_refuses_2 (fun H locs hP hS => ?_)
  refine lv_iload_n hx hb dX12_refuses_5 rfl (lv_at hl 1 rfl) ?_
  refine lv_if_eq (tgt := 13) hx hb dX12_refuses_6 (by decide) (fun c_3 => ?_) (fun c_3 => ?_)
  · have hF_4 := ipos c_3 hF_2
    clear hF_2
    refine lv_iconst (v := 0) hx hb dX12_refuses_13 (by decide +kernel) ?_
    have h9 := Option.some.inj hF_4
    subst h9
    exact W.zret (v := 0) hx hb hr (by decide +kernel) (fun t ht hW => ⟨⟨0, (), rfl, rfl, m_end ht hP⟩, hS.F ht⟩) hS.2.2 dX12_refuses_14
  · have hF_5 := ineg c_3 hF_2
    clear hF_2
    refine lv_iconst (v := 1) hx hb dX12_refuses_9 (by decide +kernel) ?_
    refine lv_goto (tgt := 14) hx hb dX12_refuses_10 (by decide) ?_
    have h9 := Option.some.inj hF_5
    subst h9
    exact W.zret (v := 1) hx hb hr (by decide +kernel) (fun t ht hW => ⟨⟨1, (), rfl, rfl, m_end ht hP⟩, hS.F ht⟩) hS.2.2 dX12_refuses_14
theorem dX12_small_0 : decode cX12_small 0 = .ok (.iload_n 0, 1) := by decide +kernel
theorem dX12_small_1 : decode cX12_small 1 = .ok (.bipush 97, 2) := by decide +kernel
theorem dX12_small_3 : decode cX12_small 3 = .ok (.if_icmp .lt 13, 3) := by decide +kernel
theorem dX12_small_6 : decode cX12_small 6 = .ok (.iload_n 0, 1) := by decide +kernel
theorem dX12_small_7 : decode cX12_small 7 = .ok (.bipush 122, 2) := by decide +kernel
theorem dX12_small_9 : decode cX12_small 9 = .ok (.if_icmp .gt 7, 3) := by decide +kernel
theorem dX12_small_12 : decode cX12_small 12 = .ok (.iconst 1, 1) := by decide +kernel
theorem dX12_small_13 : decode cX12_small 13 = .ok (.goto 4, 3) := by decide +kernel
theorem dX12_small_16 : decode cX12_small 16 = .ok (.iconst 0, 1) := by decide +kernel
theorem dX12_small_17 : decode cX12_small 17 = .ok (.ireturn, 1) := by decide +kernel
def F_X12_small (p0 : Int32) (σ : MS) : MR :=
  if p0 < 97 then (
    some (0, σ)
  ) else (
    if 122 < p0 then (
      some (0, σ)
    ) else (
      some (1, σ)
    )
  )
set_option maxHeartbeats 4000000 in
set_option maxRecDepth 100000 in
theorem m_X12_small (l : Launch) (dC : Nat → ClassId) (dI : Nat → Nat → Nat) (cB cC cI cJ cZ cP : ClassId) (h qK qS : Nat) (ad : Nat → Nat) (hDD : mDis cB cI cZ h qK qS ad) (sz : Nat)  (p0 : Int32) (σ : MS) (res : Int32 × MS) (hF : F_X12_small p0 σ = some res) : Met l yX12_small (g_ws yX12_small cX12_small 1 (some .boolean)) ({ frames := 1, cells := 0, slots := 0, locals := 40 }) (va_Pc [.int p0] (m_B (dC, dI) [(cB, .byte), (cC, .char), (cI, .int), (cJ, .long), (cZ, .boolean), (cP, .object "StoryHouse$Play")] sz h ad qK qS (mW cB cI cZ h qK qS ad σ) g_0)) (va_Qi (fun r (_ : Unit) => r = res.1) (fun _ t => va_P (dC, dI) vwCl (mW cB cI cZ h qK qS ad res.2) t.heap) (mCells h ad sz)) 0 0 (mCells h ad sz) := by
  refine Met.ofW (cc := cX12_small) (maxL := 1) (ret := (some .boolean)) (by decide) rfl ?_
  intro p e s m args below meth c s₁ B hml hv
  obtain ⟨rfl, hsz, hP, hK, hE, hKS, hX⟩ := hv
  have hx := B.exec
  have hb := B.bytes
  have hr := B.returns
  have hts0 := atoms_spec (ws := g_ws yX12_small cX12_small 1 (some .boolean)) B.pre
  have hts : ∀ w ∈ lw_good, w.before ([.int p0] : List Value).toArray s = true := fun w z => hts0 w (List.mem_cons_of_mem _ z)
  have hown : s.vm.findClass RX12 = some m.cls := findClass_of_methodNamed B.named
  have hlocks := B.notSynchronized
  have hS : va_S (mCells h ad sz) s.heap s.heap [] := va_S.rf
  have hl := lv_entry ([.int p0]) (n := 1) (Nat.le_of_ble_eq_true rfl)
  rw [lg_entry_eq]
  generalize (lg_sl ([.int p0]) ++ List.replicate (1 - (lg_sl ([.int p0])).length) Slot.unset).toArray = ls at hl ⊢
  have hl : lv_has ls 1 [(0, .int p0)] := hl
  unfold F_X12_small at hF
  refine lv_iload_n hx hb dX12_small_0 rfl (lv_at hl 0 rfl) ?_
  refine lv_bipush (v := 97) hx hb dX12_small_1 (by decide +kernel) ?_
  refine lv_icmp_lt (tgt := 16) hx hb dX12_small_3 (by decide) (fun c_1 => ?_) (fun c_1 => ?_)
  · have hF_2 := ipos c_1 hF
    clear hF
    refine lv_iconst (v := 0) hx hb dX12_small_16 (by decide +kernel) ?_
    have h9 := Option.some.inj hF_2
    subst h9
    exact W.zret (v := 0) hx hb hr (by decide +kernel) (fun t ht hW => ⟨⟨0, (), rfl, rfl, m_end ht hP⟩, hS.F ht⟩) hS.2.2 dX12_small_17
  · have hF_3 := ineg c_1 hF
    clear hF
    refine lv_iload_n hx hb dX12_small_6 rfl (lv_at hl 0 rfl) ?_
    refine lv_bipush (v := 122) hx hb dX12_small_7 (by decide +kernel) ?_
    refine lv_icmp_gt (tgt := 16) hx hb dX12_small_9 (by decide) (fun c_4 => ?_) (fun c_4 => ?_)
    · have hF_5 := ipos c_4 hF_3
      clear hF_3
      refine lv_iconst (v := 0) hx hb dX12_small_16 (by decide +kernel) ?_
      have h9 := Option.some.inj hF_5
      subst h9
      exact W.zret (v := 0) hx hb hr (by decide +kernel) (fun t ht hW => ⟨⟨0, (), rfl, rfl, m_end ht hP⟩, hS.F ht⟩) hS.2.2 dX12_small_17
    · have hF_6 := ineg c_4 hF_3
      clear hF_3
      refine lv_iconst (v := 1) hx hb dX12_small_12 (by decide +kernel) ?_
      refine lv_goto (tgt := 17) hx hb dX12_small_13 (by decide) ?_
      have h9 := Option.some.inj hF_6
      subst h9
      exact W.zret (v := 1) hx hb hr (by decide +kernel) (fun t ht hW => ⟨⟨1, (), rfl, rfl, m_end ht hP⟩, hS.F ht⟩) hS.2.2 dX12_small_17
theorem dX12_figure_0 : decode cX12_figure 0 = .ok (.iload_n 0, 1) := by decide +kernel
theorem dX12_figure_1 : decode cX12_figure 1 = .ok (.bipush 48, 2) := by decide +kernel
theorem dX12_figure_3 : decode cX12_figure 3 = .ok (.if_icmp .lt 13, 3) := by decide +kernel
theorem dX12_figure_6 : decode cX12_figure 6 = .ok (.iload_n 0, 1) := by decide +kernel
theorem dX12_figure_7 : decode cX12_figure 7 = .ok (.bipush 57, 2) := by decide +kernel
theorem dX12_figure_9 : decode cX12_figure 9 = .ok (.if_icmp .gt 7, 3) := by decide +kernel
theorem dX12_figure_12 : decode cX12_figure 12 = .ok (.iconst 1, 1) := by decide +kernel
theorem dX12_figure_13 : decode cX12_figure 13 = .ok (.goto 4, 3) := by decide +kernel
theorem dX12_figure_16 : decode cX12_figure 16 = .ok (.iconst 0, 1) := by decide +kernel
theorem dX12_figure_17 : decode cX12_figure 17 = .ok (.ireturn, 1) := by decide +kernel
def F_X12_figure (p0 : Int32) (σ : MS) : MR :=
  if p0 < 48 then (
    some (0, σ)
  ) else (
    if 57 < p0 then (
      some (0, σ)
    ) else (
      some (1, σ)
    )
  )
set_option maxHeartbeats 4000000 in
set_option maxRecDepth 100000 in
theorem m_X12_figure (l : Launch) (dC : Nat → ClassId) (dI : Nat → Nat → Nat) (cB cC cI cJ cZ cP : ClassId) (h qK qS : Nat) (ad : Nat → Nat) (hDD : mDis cB cI cZ h qK qS ad) (sz : Nat)  (p0 : Int32) (σ : MS) (res : Int32 × MS) (hF : F_X12_figure p0 σ = some res) : Met l yX12_figure (g_ws yX12_figure cX12_figure 1 (some .boolean)) ({ frames := 1, cells := 0, slots := 0, locals := 40 }) (va_Pc [.int p0] (m_B (dC, dI) [(cB, .byte), (cC, .char), (cI, .int), (cJ, .long), (cZ, .boolean), (cP, .object "StoryHouse$Play")] sz h ad qK qS (mW cB cI cZ h qK qS ad σ) g_0)) (va_Qi (fun r (_ : Unit) => r = res.1) (fun _ t => va_P (dC, dI) vwCl (mW cB cI cZ h qK qS ad res.2) t.heap) (mCells h ad sz)) 0 0 (mCells h ad sz) := by
  refine Met.ofW (cc := cX12_figure) (maxL := 1) (ret := (some .boolean)) (by decide) rfl ?_
  intro p e s m args below meth c s₁ B hml hv
  obtain ⟨rfl, hsz, hP, hK, hE, hKS, hX⟩ := hv
  have hx := B.exec
  have hb := B.bytes
  have hr := B.returns
  have hts0 := atoms_spec (ws := g_ws yX12_figure cX12_figure 1 (some .boolean)) B.pre
  have hts : ∀ w ∈ lw_good, w.before ([.int p0] : List Value).toArray s = true := fun w z => hts0 w (List.mem_cons_of_mem _ z)
  have hown : s.vm.findClass RX12 = some m.cls := findClass_of_methodNamed B.named
  have hlocks := B.notSynchronized
  have hS : va_S (mCells h ad sz) s.heap s.heap [] := va_S.rf
  have hl := lv_entry ([.int p0]) (n := 1) (Nat.le_of_ble_eq_true rfl)
  rw [lg_entry_eq]
  generalize (lg_sl ([.int p0]) ++ List.replicate (1 - (lg_sl ([.int p0])).length) Slot.unset).toArray = ls at hl ⊢
  have hl : lv_has ls 1 [(0, .int p0)] := hl
  unfold F_X12_figure at hF
  refine lv_iload_n hx hb dX12_figure_0 rfl (lv_at hl 0 rfl) ?_
  refine lv_bipush (v := 48) hx hb dX12_figure_1 (by decide +kernel) ?_
  refine lv_icmp_lt (tgt := 16) hx hb dX12_figure_3 (by decide) (fun c_1 => ?_) (fun c_1 => ?_)
  · have hF_2 := ipos c_1 hF
    clear hF
    refine lv_iconst (v := 0) hx hb dX12_figure_16 (by decide +kernel) ?_
    have h9 := Option.some.inj hF_2
    subst h9
    exact W.zret (v := 0) hx hb hr (by decide +kernel) (fun t ht hW => ⟨⟨0, (), rfl, rfl, m_end ht hP⟩, hS.F ht⟩) hS.2.2 dX12_figure_17
  · have hF_3 := ineg c_1 hF
    clear hF
    refine lv_iload_n hx hb dX12_figure_6 rfl (lv_at hl 0 rfl) ?_
    refine lv_bipush (v := 57) hx hb dX12_figure_7 (by decide +kernel) ?_
    refine lv_icmp_gt (tgt := 16) hx hb dX12_figure_9 (by decide) (fun c_4 => ?_) (fun c_4 => ?_)
    · have hF_5 := ipos c_4 hF_3
      clear hF_3
      refine lv_iconst (v := 0) hx hb dX12_figure_16 (by decide +kernel) ?_
      have h9 := Option.some.inj hF_5
      subst h9
      exact W.zret (v := 0) hx hb hr (by decide +kernel) (fun t ht hW => ⟨⟨0, (), rfl, rfl, m_end ht hP⟩, hS.F ht⟩) hS.2.2 dX12_figure_17
    · have hF_6 := ineg c_4 hF_3
      clear hF_3
      refine lv_iconst (v := 1) hx hb dX12_figure_12 (by decide +kernel) ?_
      refine lv_goto (tgt := 17) hx hb dX12_figure_13 (by decide) ?_
      have h9 := Option.some.inj hF_6
      subst h9
      exact W.zret (v := 1) hx hb hr (by decide +kernel) (fun t ht hW => ⟨⟨1, (), rfl, rfl, m_end ht hP⟩, hS.F ht⟩) hS.2.2 dX12_figure_17
theorem dX12_token_0 : decode cX12_token 0 = .ok (.aload_n 0, 1) := by decide +kernel
theorem dX12_token_1 : decode cX12_token 1 = .ok (.getfield 27, 3) := by decide +kernel
theorem dX12_token_4 : decode cX12_token 4 = .ok (.aload_n 0, 1) := by decide +kernel
theorem dX12_token_5 : decode cX12_token 5 = .ok (.getfield 243, 3) := by decide +kernel
theorem dX12_token_8 : decode cX12_token 8 = .ok (.iload_n 1, 1) := by decide +kernel
theorem dX12_token_9 : decode cX12_token 9 = .ok (.iastore, 1) := by decide +kernel
theorem dX12_token_10 : decode cX12_token 10 = .ok (.aload_n 0, 1) := by decide +kernel
theorem dX12_token_11 : decode cX12_token 11 = .ok (.getfield 31, 3) := by decide +kernel
theorem dX12_token_14 : decode cX12_token 14 = .ok (.aload_n 0, 1) := by decide +kernel
theorem dX12_token_15 : decode cX12_token 15 = .ok (.getfield 243, 3) := by decide +kernel
theorem dX12_token_18 : decode cX12_token 18 = .ok (.iload_n 2, 1) := by decide +kernel
theorem dX12_token_19 : decode cX12_token 19 = .ok (.iastore, 1) := by decide +kernel
theorem dX12_token_20 : decode cX12_token 20 = .ok (.aload_n 0, 1) := by decide +kernel
theorem dX12_token_21 : decode cX12_token 21 = .ok (.getfield 34, 3) := by decide +kernel
theorem dX12_token_24 : decode cX12_token 24 = .ok (.aload_n 0, 1) := by decide +kernel
theorem dX12_token_25 : decode cX12_token 25 = .ok (.dup, 1) := by decide +kernel
theorem dX12_token_26 : decode cX12_token 26 = .ok (.getfield 243, 3) := by decide +kernel
theorem dX12_token_29 : decode cX12_token 29 = .ok (.dup_x1, 1) := by decide +kernel
theorem dX12_token_30 : decode cX12_token 30 = .ok (.iconst 1, 1) := by decide +kernel
theorem dX12_token_31 : decode cX12_token 31 = .ok (.iadd, 1) := by decide +kernel
theorem dX12_token_32 : decode cX12_token 32 = .ok (.putfield 243, 3) := by decide +kernel
theorem dX12_token_35 : decode cX12_token 35 = .ok (.iload_n 3, 1) := by decide +kernel
theorem dX12_token_36 : decode cX12_token 36 = .ok (.iastore, 1) := by decide +kernel
theorem dX12_token_37 : decode cX12_token 37 = .ok (.return_, 1) := by decide +kernel
def F_X12_token (p0 : Int32) (p1 : Int32) (p2 : Int32) (σ : MS) : MR :=
  if (σ.1 10) < 0 ∨ 16010 ≤ (σ.1 10).toNatClampNeg then none else
  bnd (mA σ 7 (upd (σ.2 7) (σ.1 10).toNatClampNeg p0)) fun σ_3 =>
  if (σ_3.1 10) < 0 ∨ 16010 ≤ (σ_3.1 10).toNatClampNeg then none else
  bnd (mA σ_3 8 (upd (σ_3.2 8) (σ_3.1 10).toNatClampNeg p1)) fun σ_7 =>
  bnd (mI σ_7 10 ((σ_7.1 10) + 1)) fun σ_9 =>
  if (σ_7.1 10) < 0 ∨ 16010 ≤ (σ_7.1 10).toNatClampNeg then none else
  bnd (mA σ_9 9 (upd (σ_9.2 9) (σ_7.1 10).toNatClampNeg p2)) fun σ_13 =>
  some (0, σ_13)
set_option maxHeartbeats 4000000 in
set_option maxRecDepth 100000 in
theorem m_X12_token (l : Launch) (dC : Nat → ClassId) (dI : Nat → Nat → Nat) (cB cC cI cJ cZ cP : ClassId) (h qK qS : Nat) (ad : Nat → Nat) (hDD : mDis cB cI cZ h qK qS ad) (sz : Nat)  (p0 : Int32) (p1 : Int32) (p2 : Int32) (σ : MS) (res : Int32 × MS) (hF : F_X12_token p0 p1 p2 σ = some res) : Met l yX12_token (g_ws yX12_token cX12_token 4 none) ({ frames := 1, cells := 0, slots := 0, locals := 40 }) (va_Pc [.ref h, .int p0, .int p1, .int p2] (m_B (dC, dI) [(cB, .byte), (cC, .char), (cI, .int), (cJ, .long), (cZ, .boolean), (cP, .object "StoryHouse$Play")] sz h ad qK qS (mW cB cI cZ h qK qS ad σ) g_0)) (va_Qv (fun (_ : Unit) => True) (fun _ t => va_P (dC, dI) vwCl (mW cB cI cZ h qK qS ad res.2) t.heap) (mCells h ad sz)) 0 0 (mCells h ad sz) := by
  refine Met.ofW (cc := cX12_token) (maxL := 4) (ret := none) (by decide) rfl ?_
  intro p e s m args below meth c s₁ B hml hv
  obtain ⟨rfl, hsz, hP, hK, hE, hKS, hX⟩ := hv
  have hx := B.exec
  have hb := B.bytes
  have hr := B.returns
  have hts0 := atoms_spec (ws := g_ws yX12_token cX12_token 4 none) B.pre
  have hts : ∀ w ∈ lw_good, w.before ([.ref h, .int p0, .int p1, .int p2] : List Value).toArray s = true := fun w z => hts0 w (List.mem_cons_of_mem _ z)
  have hown : s.vm.findClass RX12 = some m.cls := findClass_of_methodNamed B.named
  have hlocks := B.notSynchronized
  have hS : va_S (mCells h ad sz) s.heap s.heap [] := va_S.rf
  have hl := lv_entry ([.ref h, .int p0, .int p1, .int p2]) (n := 4) (Nat.le_of_ble_eq_true rfl)
  rw [lg_entry_eq]
  generalize (lg_sl ([.ref h, .int p0, .int p1, .int p2]) ++ List.replicate (4 - (lg_sl ([.ref h, .int p0, .int p1, .int p2])).length) Slot.unset).toArray = ls at hl ⊢
  have hl : lv_has ls 4 [(0, .ref h), (1, .int p0), (2, .int p1), (3, .int p2)] := hl
  unfold F_X12_token at hF
  refine lv_aload_n hx hb dX12_token_0 rfl (lv_at hl 0 rfl) ?_
  refine va_get (D := (dC, dI)) (ci := 12) (v := .ref (ad 7)) (C := RX12) (T := TX12) (N := 123) hx hb hts ii_X12 hown hK hP 0 rfl rfl 7 (by decide) (hts (.fieldLink RX12 27 "StoryHouseModel" "tokKind" "[I") wq_1363) (fun _ h9 => h9) rfl dX12_token_1 ?_
  refine lv_aload_n hx hb dX12_token_4 rfl (lv_at hl 0 rfl) ?_
  refine va_get (D := (dC, dI)) (ci := 12) (v := .int (σ.1 10)) (C := RX12) (T := TX12) (N := 123) hx hb hts ii_X12 hown hK hP 0 rfl rfl 10 (by decide) (hts (.fieldLink RX12 243 "StoryHouseModel" "tokens" "I") wq_1366) (fun _ h9 => h9) rfl dX12_token_5 ?_
  refine lv_iload_n hx hb dX12_token_8 rfl (lv_at hl 1 rfl) ?_
  obtain ⟨g_1, hF_2⟩ := nif_e hF
  clear hF
  obtain ⟨σ_3, eσ_3, hF_4⟩ := bnd_e hF_2
  clear hF_2
  refine m_iast (σ' := σ_3) hx hb hK hP (hDD _ _) hS (q0 := 3) (t0 := 2) (f := σ.2 7) rfl rfl (by rw [eσ_3]; exact mwA_7) g_1 dX12_token_9 (fun H locs hP hS => ?_)
  refine lv_aload_n hx hb dX12_token_10 rfl (lv_at hl 0 rfl) ?_
  refine va_get (D := (dC, dI)) (ci := 12) (v := .ref (ad 8)) (C := RX12) (T := TX12) (N := 123) hx hb hts ii_X12 hown hK hP 0 rfl rfl 8 (by decide) (hts (.fieldLink RX12 31 "StoryHouseModel" "tokAt" "[I") wq_1364) (fun _ h9 => h9) rfl dX12_token_11 ?_
  refine lv_aload_n hx hb dX12_token_14 rfl (lv_at hl 0 rfl) ?_
  refine va_get (D := (dC, dI)) (ci := 12) (v := .int (σ_3.1 10)) (C := RX12) (T := TX12) (N := 123) hx hb hts ii_X12 hown hK hP 0 rfl rfl 10 (by decide) (hts (.fieldLink RX12 243 "StoryHouseModel" "tokens" "I") wq_1366) (fun _ h9 => h9) rfl dX12_token_15 ?_
  refine lv_iload_n hx hb dX12_token_18 rfl (lv_at hl 2 rfl) ?_
  obtain ⟨g_5, hF_6⟩ := nif_e hF_4
  clear hF_4
  obtain ⟨σ_7, eσ_7, hF_8⟩ := bnd_e hF_6
  clear hF_6
  refine m_iast (σ' := σ_7) hx hb hK hP (hDD _ _) hS (q0 := 4) (t0 := 2) (f := σ_3.2 8) rfl rfl (by rw [eσ_7]; exact mwA_8) g_5 dX12_token_19 (fun H locs hP hS => ?_)
  refine lv_aload_n hx hb dX12_token_20 rfl (lv_at hl 0 rfl) ?_
  refine va_get (D := (dC, dI)) (ci := 12) (v := .ref (ad 9)) (C := RX12) (T := TX12) (N := 123) hx hb hts ii_X12 hown hK hP 0 rfl rfl 9 (by decide) (hts (.fieldLink RX12 34 "StoryHouseModel" "tokValue" "[I") wq_1365) (fun _ h9 => h9) rfl dX12_token_21 ?_
  refine lv_aload_n hx hb dX12_token_24 rfl (lv_at hl 0 rfl) ?_
  refine lv_dup hx hb dX12_token_25 rfl ?_
  refine va_get (D := (dC, dI)) (ci := 12) (v := .int (σ_7.1 10)) (C := RX12) (T := TX12) (N := 123) hx hb hts ii_X12 hown hK hP 0 rfl rfl 10 (by decide) (hts (.fieldLink RX12 243 "StoryHouseModel" "tokens" "I") wq_1366) (fun _ h9 => h9) rfl dX12_token_26 ?_
  refine lv_dup_x1 hx hb dX12_token_29 rfl rfl ?_
  refine lv_iconst (v := 1) hx hb dX12_token_30 (by decide +kernel) ?_
  refine lv_iadd hx hb dX12_token_31 ?_
  obtain ⟨σ_9, eσ_9, hF_10⟩ := bnd_e hF_8
  clear hF_8
  refine m_put (σ' := σ_9) (v := .int ((σ_7.1 10) + 1)) (ty := .int) hx hb hts hown hK hP (hDD _ _) hS (by rw [eσ_9]; exact mwI_10) (k := 10) (by decide) (hts (.fieldLink RX12 243 "StoryHouseModel" "tokens" "I") wq_1366) (fun _ h9 => h9) rfl (by decide +kernel) rfl rfl dX12_token_32 (fun H locs hP hS => ?_)
  refine lv_iload_n hx hb dX12_token_35 rfl (lv_at hl 3 rfl) ?_
  obtain ⟨g_11, hF_12⟩ := nif_e hF_10
  clear hF_10
  obtain ⟨σ_13, eσ_13, hF_14⟩ := bnd_e hF_12
  clear hF_12
  refine m_iast (σ' := σ_13) hx hb hK hP (hDD _ _) hS (q0 := 5) (t0 := 2) (f := σ_9.2 9) rfl rfl (by rw [eσ_13]; exact mwA_9) g_11 dX12_token_36 (fun H locs hP hS => ?_)
  have h9 := Option.some.inj hF_14
  subst h9
  exact W.vret hx hb hr (fun t ht hW => ⟨⟨(), rfl, trivial, m_end ht hP⟩, hS.F ht⟩) hS.2.2 dX12_token_37
theorem dX12_number_0 : decode cX12_number 0 = .ok (.iconst 0, 1) := by decide +kernel
theorem dX12_number_1 : decode cX12_number 1 = .ok (.istore_n 2, 1) := by decide +kernel
theorem dX12_number_2 : decode cX12_number 2 = .ok (.iload_n 1, 1) := by decide +kernel
theorem dX12_number_3 : decode cX12_number 3 = .ok (.istore_n 3, 1) := by decide +kernel
theorem dX12_number_4 : decode cX12_number 4 = .ok (.iload_n 3, 1) := by decide +kernel
theorem dX12_number_5 : decode cX12_number 5 = .ok (.aload_n 0, 1) := by decide +kernel
theorem dX12_number_6 : decode cX12_number 6 = .ok (.getfield 249, 3) := by decide +kernel
theorem dX12_number_9 : decode cX12_number 9 = .ok (.if_icmp .ge 41, 3) := by decide +kernel
theorem dX12_number_12 : decode cX12_number 12 = .ok (.aload_n 0, 1) := by decide +kernel
theorem dX12_number_13 : decode cX12_number 13 = .ok (.getfield 24, 3) := by decide +kernel
theorem dX12_number_16 : decode cX12_number 16 = .ok (.iload_n 3, 1) := by decide +kernel
theorem dX12_number_17 : decode cX12_number 17 = .ok (.baload, 1) := by decide +kernel
theorem dX12_number_18 : decode cX12_number 18 = .ok (.invokestatic 260, 3) := by decide +kernel
theorem dX12_number_21 : decode cX12_number 21 = .ok (.ifCond .eq 29, 3) := by decide +kernel
theorem dX12_number_24 : decode cX12_number 24 = .ok (.ldc 48, 2) := by decide +kernel
theorem dX12_number_26 : decode cX12_number 26 = .ok (.bipush 10, 2) := by decide +kernel
theorem dX12_number_28 : decode cX12_number 28 = .ok (.iload_n 2, 1) := by decide +kernel
theorem dX12_number_29 : decode cX12_number 29 = .ok (.imul, 1) := by decide +kernel
theorem dX12_number_30 : decode cX12_number 30 = .ok (.aload_n 0, 1) := by decide +kernel
theorem dX12_number_31 : decode cX12_number 31 = .ok (.getfield 24, 3) := by decide +kernel
theorem dX12_number_34 : decode cX12_number 34 = .ok (.iload_n 3, 1) := by decide +kernel
theorem dX12_number_35 : decode cX12_number 35 = .ok (.baload, 1) := by decide +kernel
theorem dX12_number_36 : decode cX12_number 36 = .ok (.iadd, 1) := by decide +kernel
theorem dX12_number_37 : decode cX12_number 37 = .ok (.bipush 48, 2) := by decide +kernel
theorem dX12_number_39 : decode cX12_number 39 = .ok (.isub, 1) := by decide +kernel
theorem dX12_number_40 : decode cX12_number 40 = .ok (.invokestatic 293, 3) := by decide +kernel
theorem dX12_number_43 : decode cX12_number 43 = .ok (.istore_n 2, 1) := by decide +kernel
theorem dX12_number_44 : decode cX12_number 44 = .ok (.iinc 3 1, 3) := by decide +kernel
theorem dX12_number_47 : decode cX12_number 47 = .ok (.goto (-43), 3) := by decide +kernel
theorem dX12_number_50 : decode cX12_number 50 = .ok (.iload_n 2, 1) := by decide +kernel
theorem dX12_number_51 : decode cX12_number 51 = .ok (.sipush 32767, 3) := by decide +kernel
theorem dX12_number_54 : decode cX12_number 54 = .ok (.if_icmp .le 5, 3) := by decide +kernel
theorem dX12_number_57 : decode cX12_number 57 = .ok (.iconst (-1), 1) := by decide +kernel
theorem dX12_number_58 : decode cX12_number 58 = .ok (.ireturn, 1) := by decide +kernel
theorem dX12_number_59 : decode cX12_number 59 = .ok (.aload_n 0, 1) := by decide +kernel
theorem dX12_number_60 : decode cX12_number 60 = .ok (.iconst 3, 1) := by decide +kernel
theorem dX12_number_61 : decode cX12_number 61 = .ok (.iload_n 1, 1) := by decide +kernel
theorem dX12_number_62 : decode cX12_number 62 = .ok (.iload_n 2, 1) := by decide +kernel
theorem dX12_number_63 : decode cX12_number 63 = .ok (.invokevirtual 272, 3) := by decide +kernel
theorem dX12_number_66 : decode cX12_number 66 = .ok (.iload_n 3, 1) := by decide +kernel
theorem dX12_number_67 : decode cX12_number 67 = .ok (.ireturn, 1) := by decide +kernel
def F_X12_number (p0 : Int32) (σ : MS) : MR :=
  loopF (fun (again_2 : (Int32 × Int32 × MS) → MR) (s_1 : Int32 × Int32 × MS) => (
    bnd (fun  (σ_5 : MS) => (
      if s_1.1 ≤ 32767 then (
        (F_X12_token 3 p0 s_1.1 σ_5).bind fun u_11 =>
        some (s_1.2.1, u_11.2)
      ) else (
        some ((-1), σ_5)
      )
    ) : MS → MR) fun j_6 =>
    if (s_1.2.2.1 6) ≤ s_1.2.1 then (
      j_6  s_1.2.2
    ) else (
      if s_1.2.1 < 0 ∨ 16000 ≤ s_1.2.1.toNatClampNeg then none else
      (F_X12_figure (s_1.2.2.2 5 s_1.2.1.toNatClampNeg) s_1.2.2).bind fun u_19 =>
      if u_19.1 = 0 then (
        j_6  u_19.2
      ) else (
        if s_1.2.1 < 0 ∨ 16000 ≤ s_1.2.1.toNatClampNeg then none else
        bnd (((10 * s_1.1) + (u_19.2.2 5 s_1.2.1.toNatClampNeg))) fun (x_26 : Int32) =>
        bnd ((if (x_26 - 48) < 40000 then (x_26 - 48) else 40000)) fun (x_28 : Int32) =>
        bnd (s_1.2.1 + 1) fun (x_30 : Int32) =>
        again_2 (x_28, x_30, u_19.2)
      )
    )
  )) FU (0, p0, σ)
set_option maxHeartbeats 4000000 in
set_option maxRecDepth 100000 in
theorem m_X12_number (l : Launch) (dC : Nat → ClassId) (dI : Nat → Nat → Nat) (cB cC cI cJ cZ cP : ClassId) (h qK qS : Nat) (ad : Nat → Nat) (hDD : mDis cB cI cZ h qK qS ad) (sz : Nat)  (p0 : Int32) (σ : MS) (res : Int32 × MS) (hF : F_X12_number p0 σ = some res) : Met l yX12_number (g_ws yX12_number cX12_number 4 (some .int)) ({ frames := 2, cells := 0, slots := 0, locals := 63 }) (va_Pc [.ref h, .int p0] (m_B (dC, dI) [(cB, .byte), (cC, .char), (cI, .int), (cJ, .long), (cZ, .boolean), (cP, .object "StoryHouse$Play")] sz h ad qK qS (mW cB cI cZ h qK qS ad σ) g_0)) (va_Qi (fun r (_ : Unit) => r = res.1) (fun _ t => va_P (dC, dI) vwCl (mW cB cI cZ h qK qS ad res.2) t.heap) (mCells h ad sz)) 0 0 (mCells h ad sz) := by
  refine Met.ofW (cc := cX12_number) (maxL := 4) (ret := (some .int)) (by decide) rfl ?_
  intro p e s m args below meth c s₁ B hml hv
  obtain ⟨rfl, hsz, hP, hK, hE, hKS, hX⟩ := hv
  have hx := B.exec
  have hb := B.bytes
  have hr := B.returns
  have hts0 := atoms_spec (ws := g_ws yX12_number cX12_number 4 (some .int)) B.pre
  have hts : ∀ w ∈ lw_good, w.before ([.ref h, .int p0] : List Value).toArray s = true := fun w z => hts0 w (List.mem_cons_of_mem _ z)
  have hown : s.vm.findClass RX12 = some m.cls := findClass_of_methodNamed B.named
  have hlocks := B.notSynchronized
  have hS : va_S (mCells h ad sz) s.heap s.heap [] := va_S.rf
  have hl := lv_entry ([.ref h, .int p0]) (n := 4) (Nat.le_of_ble_eq_true rfl)
  rw [lg_entry_eq]
  generalize (lg_sl ([.ref h, .int p0]) ++ List.replicate (4 - (lg_sl ([.ref h, .int p0])).length) Slot.unset).toArray = ls at hl ⊢
  have hl : lv_has ls 4 [(0, .ref h), (1, .int p0)] := hl
  unfold F_X12_number at hF
  refine lv_iconst (v := 0) hx hb dX12_number_0 (by decide +kernel) ?_
  refine lv_istore_n (lv' := [(2, .int 0), (0, .ref h), (1, .int p0)]) hx hb dX12_number_1 rfl hl (by decide) rfl (fun ls hl => ?_)
  refine lv_iload_n hx hb dX12_number_2 rfl (lv_at hl 2 rfl) ?_
  refine lv_istore_n (lv' := [(3, .int p0), (2, .int 0), (0, .ref h), (1, .int p0)]) hx hb dX12_number_3 rfl hl (by decide) rfl (fun ls hl => ?_)
  refine loopF_ind (P := fun (s_1 : Int32 × Int32 × MS) => ∀ (H : Heap) (locs : List Loc), va_P (dC, dI) vwCl (mW cB cI cZ h qK qS ad s_1.2.2) H → va_S (mCells h ad sz) s.heap H locs → ∀ ls : Array Slot, lv_has ls 4 [(0, .ref h), (1, .int p0), (2, .int s_1.1), (3, .int s_1.2.1)] → W p l e (headSpec (g_ws yX12_number cX12_number 4 (some .int)) { frames := 2, cells := 0, slots := 0, locals := 63 }).room s m ([.ref h, .int p0] : List Value).toArray below meth c H locs 0 0 (MQ below (va_Qi (fun r (_ : Unit) => r = res.1) (fun _ t => va_P (dC, dI) vwCl (mW cB cI cZ h qK qS ad res.2) t.heap) (mCells h ad sz)) ([.ref h, .int p0] : List Value).toArray s 0 0 (mCells h ad sz)) (F0 m 4 ls [])) ?_ _ _ hF _ _ hP hS ls (lv_sub hl [2, 3, 1, 0] rfl)
  intro again_2 s_1 ih_3 hF_4
  intro H locs hP hS ls hl
  refine lv_iload_n hx hb dX12_number_4 rfl (lv_at hl 3 rfl) ?_
  refine lv_aload_n hx hb dX12_number_5 rfl (lv_at hl 0 rfl) ?_
  refine va_get (D := (dC, dI)) (ci := 12) (v := .int (s_1.2.2.1 6)) (C := RX12) (T := TX12) (N := 123) hx hb hts ii_X12 hown hK hP 0 rfl rfl 6 (by decide) (hts (.fieldLink RX12 249 "StoryHouseModel" "sourceSize" "I") wq_1362) (fun _ h9 => h9) rfl dX12_number_6 ?_
  obtain ⟨j_6, ej_6, hF_7⟩ := bnd_e hF_4
  clear hF_4
  have Jj_6 : ∀  (σ_5 : MS), j_6  σ_5 = some res → ∀ (H : Heap) (locs : List Loc), va_P (dC, dI) vwCl (mW cB cI cZ h qK qS ad σ_5) H → va_S (mCells h ad sz) s.heap H locs → ∀ ls : Array Slot, lv_has ls 4 [(0, .ref h), (1, .int p0), (2, .int s_1.1), (3, .int s_1.2.1)] → W p l e (headSpec (g_ws yX12_number cX12_number 4 (some .int)) { frames := 2, cells := 0, slots := 0, locals := 63 }).room s m ([.ref h, .int p0] : List Value).toArray below meth c H locs 0 0 (MQ below (va_Qi (fun r (_ : Unit) => r = res.1) (fun _ t => va_P (dC, dI) vwCl (mW cB cI cZ h qK qS ad res.2) t.heap) (mCells h ad sz)) ([.ref h, .int p0] : List Value).toArray s 0 0 (mCells h ad sz)) (F0 m 50 ls []) := by
    intro  σ_5 hF0 H locs hP hS ls hl
    subst ej_6
    have hF_8 := hF0
    clear hF0
    refine lv_iload_n hx hb dX12_number_50 rfl (lv_at hl 2 rfl) ?_
    refine lv_sipush (v := 32767) hx hb dX12_number_51 (by decide +kernel) ?_
    refine lv_icmp_le (tgt := 59) hx hb dX12_number_54 (by decide) (fun c_9 => ?_) (fun c_9 => ?_)
    · have hF_10 := ipos c_9 hF_8
      clear hF_8
      refine lv_aload_n hx hb dX12_number_59 rfl (lv_at hl 0 rfl) ?_
      refine lv_iconst (v := 3) hx hb dX12_number_60 (by decide +kernel) ?_
      refine lv_iload_n hx hb dX12_number_61 rfl (lv_at hl 1 rfl) ?_
      refine lv_iload_n hx hb dX12_number_62 rfl (lv_at hl 2 rfl) ?_
      obtain ⟨u_11, hu_11, hF_12⟩ := Option.bind_eq_some_iff.mp hF_10
      clear hF_10
      refine m_cv hsz hS (va_runV (As := [.int 3, .int p0, .int s_1.1]) (rest := []) ⟨hx, hb, hml, hown, hts⟩ (m_X12_token l dC dI cB cC cI cJ cZ cP h qK qS ad hDD H.size  3 p0 s_1.1 σ_5 _ hu_11) (cwV 3 hts (g_gV wq_1511 wq_1512 wq_2117 wq_13 wq_1513) rfl rfl rfl (by decide +kernel) ⟨Nat.le_of_ble_eq_true rfl, Nat.le_of_ble_eq_true rfl⟩) (m_preV g_bl0 hsz hK hP hS hE hKS g_to0) rfl rfl hl.1 rfl (lv_room (Nat.le_of_ble_eq_true rfl)) dX12_number_63 ⟨Nat.le_of_ble_eq_true rfl, Nat.le_of_ble_eq_true rfl⟩) (fun H locs hP hS => ?_)
      refine lv_iload_n hx hb dX12_number_66 rfl (lv_at hl 3 rfl) ?_
      have h9 := Option.some.inj hF_12
      subst h9
      exact W.iret (v := s_1.2.1) hx hb hr (fun t ht hW => ⟨⟨s_1.2.1, (), rfl, rfl, m_end ht hP⟩, hS.F ht⟩) hS.2.2 dX12_number_67
    · have hF_13 := ineg c_9 hF_8
      clear hF_8
      refine lv_iconst (v := (-1)) hx hb dX12_number_57 (by decide +kernel) ?_
      have h9 := Option.some.inj hF_13
      subst h9
      exact W.iret (v := (-1)) hx hb hr (fun t ht hW => ⟨⟨(-1), (), rfl, rfl, m_end ht hP⟩, hS.F ht⟩) hS.2.2 dX12_number_58
  refine lv_icmp_ge (tgt := 50) hx hb dX12_number_9 (by decide) (fun c_14 => ?_) (fun c_14 => ?_)
  · have hF_15 := ipos c_14 hF_7
    clear hF_7
    exact Jj_6  s_1.2.2 hF_15 _ _ hP hS ls (lv_sub hl [0, 1, 2, 3] rfl)
  · have hF_16 := ineg c_14 hF_7
    clear hF_7
    refine lv_aload_n hx hb dX12_number_12 rfl (lv_at hl 0 rfl) ?_
    refine va_get (D := (dC, dI)) (ci := 12) (v := .ref (ad 5)) (C := RX12) (T := TX12) (N := 123) hx hb hts ii_X12 hown hK hP 0 rfl rfl 5 (by decide) (hts (.fieldLink RX12 24 "StoryHouseModel" "source" "[B") wq_1361) (fun _ h9 => h9) rfl dX12_number_13 ?_
    refine lv_iload_n hx hb dX12_number_16 rfl (lv_at hl 3 rfl) ?_
    obtain ⟨g_17, hF_18⟩ := nif_e hF_16
    clear hF_16
    refine va_bald (f := s_1.2.2.2 5) hx hb hK hP 2 0 rfl rfl g_17 dX12_number_17 ?_
    obtain ⟨u_19, hu_19, hF_20⟩ := Option.bind_eq_some_iff.mp hF_18
    clear hF_18
    refine m_ci hsz hS (va_runS (As := [.int (s_1.2.2.2 5 s_1.2.1.toNatClampNeg)]) (rest := []) ⟨hx, hb, hml, hown, hts⟩ (m_X12_figure l dC dI cB cC cI cJ cZ cP h qK qS ad hDD H.size  (s_1.2.2.2 5 s_1.2.1.toNatClampNeg) s_1.2.2 _ hu_19) (va_cwS 1 hts (g_gS wq_1503 wq_1504 wq_13 wq_1505) rfl rfl rfl (by decide +kernel) ⟨Nat.le_of_ble_eq_true rfl, Nat.le_of_ble_eq_true rfl⟩) (m_preS g_bl0 hsz hK hP hS hE hKS g_to0) rfl rfl hl.1 rfl (lv_room (Nat.le_of_ble_eq_true rfl)) dX12_number_18 ⟨Nat.le_of_ble_eq_true rfl, Nat.le_of_ble_eq_true rfl⟩) (fun H locs hP hS => ?_)
    refine lv_if_eq (tgt := 50) hx hb dX12_number_21 (by decide) (fun c_21 => ?_) (fun c_21 => ?_)
    · have hF_22 := ipos c_21 hF_20
      clear hF_20
      exact Jj_6  u_19.2 hF_22 _ _ hP hS ls (lv_sub hl [0, 1, 2, 3] rfl)
    · have hF_23 := ineg c_21 hF_20
      clear hF_20
      refine lv_ldc (v := 40000) hx hb hown (hts (.constant RX12 48 (40000)) wq_1354) dX12_number_24 ?_
      refine lv_bipush (v := 10) hx hb dX12_number_26 (by decide +kernel) ?_
      refine lv_iload_n hx hb dX12_number_28 rfl (lv_at hl 2 rfl) ?_
      refine lv_imul hx hb dX12_number_29 ?_
      refine lv_aload_n hx hb dX12_number_30 rfl (lv_at hl 0 rfl) ?_
      refine va_get (D := (dC, dI)) (ci := 12) (v := .ref (ad 5)) (C := RX12) (T := TX12) (N := 123) hx hb hts ii_X12 hown hK hP 0 rfl rfl 5 (by decide) (hts (.fieldLink RX12 24 "StoryHouseModel" "source" "[B") wq_1361) (fun _ h9 => h9) rfl dX12_number_31 ?_
      refine lv_iload_n hx hb dX12_number_34 rfl (lv_at hl 3 rfl) ?_
      obtain ⟨g_24, hF_25⟩ := nif_e hF_23
      clear hF_23
      refine va_bald (f := u_19.2.2 5) hx hb hK hP 2 0 rfl rfl g_24 dX12_number_35 ?_
      refine lv_iadd hx hb dX12_number_36 ?_
      obtain ⟨x_26, ex_26, hF_27⟩ := bnd_e hF_25
      clear hF_25
      refine m_top ex_26 ?_
      refine lv_bipush (v := 48) hx hb dX12_number_37 (by decide +kernel) ?_
      refine lv_isub hx hb dX12_number_39 ?_
      refine va_mmin hx hb (hml.trans hl.1.symm) hown (hts (.methodLink RX12 293 yJ9_min_7cf53) wq_1520) (hts (.static yJ9_min_7cf53) wq_331) (hts (.initialized RJ9) wq_19) (hts (.code yJ9_min_7cf53 cJ9_min_7cf53 2 (some .int)) wq_332) (Nat.le_of_ble_eq_true rfl) (Nat.le_of_ble_eq_true rfl) (Nat.le_of_ble_eq_true rfl) (Nat.le_of_ble_eq_true rfl) dX12_number_40 ?_
      obtain ⟨x_28, ex_28, hF_29⟩ := bnd_e hF_27
      clear hF_27
      refine m_top ex_28 ?_
      refine lv_istore_n (lv' := [(2, .int x_28), (0, .ref h), (1, .int p0), (3, .int s_1.2.1)]) hx hb dX12_number_43 rfl hl (by decide) rfl (fun ls hl => ?_)
      obtain ⟨x_30, ex_30, hF_31⟩ := bnd_e hF_29
      clear hF_29
      refine lv_iinc (v := x_30) (lv' := [(3, .int x_30), (2, .int x_28), (0, .ref h), (1, .int p0)]) hx hb dX12_number_44 hl (k := 3) rfl (by rw [ex_30]; rfl) (by decide) rfl (fun ls hl => ?_)
      refine lv_goto (tgt := 4) hx hb dX12_number_47 (by decide) ?_
      exact ih_3 (x_28, x_30, u_19.2) hF_31 _ _ hP hS ls (lv_sub hl [2, 3, 1, 0] rfl)
theorem dX12_sign_0 : decode cX12_sign 0 = .ok (.aload_n 0, 1) := by decide +kernel
theorem dX12_sign_1 : decode cX12_sign 1 = .ok (.getfield 24, 3) := by decide +kernel
theorem dX12_sign_4 : decode cX12_sign 4 = .ok (.iload_n 1, 1) := by decide +kernel
theorem dX12_sign_5 : decode cX12_sign 5 = .ok (.baload, 1) := by decide +kernel
theorem dX12_sign_6 : decode cX12_sign 6 = .ok (.istore_n 2, 1) := by decide +kernel
theorem dX12_sign_7 : decode cX12_sign 7 = .ok (.iload_n 1, 1) := by decide +kernel
theorem dX12_sign_8 : decode cX12_sign 8 = .ok (.iconst 1, 1) := by decide +kernel
theorem dX12_sign_9 : decode cX12_sign 9 = .ok (.iadd, 1) := by decide +kernel
theorem dX12_sign_10 : decode cX12_sign 10 = .ok (.aload_n 0, 1) := by decide +kernel
theorem dX12_sign_11 : decode cX12_sign 11 = .ok (.getfield 249, 3) := by decide +kernel
theorem dX12_sign_14 : decode cX12_sign 14 = .ok (.if_icmp .ge 14, 3) := by decide +kernel
theorem dX12_sign_17 : decode cX12_sign 17 = .ok (.aload_n 0, 1) := by decide +kernel
theorem dX12_sign_18 : decode cX12_sign 18 = .ok (.getfield 24, 3) := by decide +kernel
theorem dX12_sign_21 : decode cX12_sign 21 = .ok (.iload_n 1, 1) := by decide +kernel
theorem dX12_sign_22 : decode cX12_sign 22 = .ok (.iconst 1, 1) := by decide +kernel
theorem dX12_sign_23 : decode cX12_sign 23 = .ok (.iadd, 1) := by decide +kernel
theorem dX12_sign_24 : decode cX12_sign 24 = .ok (.baload, 1) := by decide +kernel
theorem dX12_sign_25 : decode cX12_sign 25 = .ok (.goto 4, 3) := by decide +kernel
theorem dX12_sign_28 : decode cX12_sign 28 = .ok (.iconst 0, 1) := by decide +kernel
theorem dX12_sign_29 : decode cX12_sign 29 = .ok (.istore_n 3, 1) := by decide +kernel
theorem dX12_sign_30 : decode cX12_sign 30 = .ok (.iload_n 2, 1) := by decide +kernel
theorem dX12_sign_31 : decode cX12_sign 31 = .ok (.bipush 61, 2) := by decide +kernel
theorem dX12_sign_33 : decode cX12_sign 33 = .ok (.if_icmp .eq 21, 3) := by decide +kernel
theorem dX12_sign_36 : decode cX12_sign 36 = .ok (.iload_n 2, 1) := by decide +kernel
theorem dX12_sign_37 : decode cX12_sign 37 = .ok (.bipush 33, 2) := by decide +kernel
theorem dX12_sign_39 : decode cX12_sign 39 = .ok (.if_icmp .eq 15, 3) := by decide +kernel
theorem dX12_sign_42 : decode cX12_sign 42 = .ok (.iload_n 2, 1) := by decide +kernel
theorem dX12_sign_43 : decode cX12_sign 43 = .ok (.bipush 60, 2) := by decide +kernel
theorem dX12_sign_45 : decode cX12_sign 45 = .ok (.if_icmp .eq 9, 3) := by decide +kernel
theorem dX12_sign_48 : decode cX12_sign 48 = .ok (.iload_n 2, 1) := by decide +kernel
theorem dX12_sign_49 : decode cX12_sign 49 = .ok (.bipush 62, 2) := by decide +kernel
theorem dX12_sign_51 : decode cX12_sign 51 = .ok (.if_icmp .ne 24, 3) := by decide +kernel
theorem dX12_sign_54 : decode cX12_sign 54 = .ok (.iload_n 3, 1) := by decide +kernel
theorem dX12_sign_55 : decode cX12_sign 55 = .ok (.bipush 61, 2) := by decide +kernel
theorem dX12_sign_57 : decode cX12_sign 57 = .ok (.if_icmp .ne 18, 3) := by decide +kernel
theorem dX12_sign_60 : decode cX12_sign 60 = .ok (.aload_n 0, 1) := by decide +kernel
theorem dX12_sign_61 : decode cX12_sign 61 = .ok (.iconst 5, 1) := by decide +kernel
theorem dX12_sign_62 : decode cX12_sign 62 = .ok (.iload_n 1, 1) := by decide +kernel
theorem dX12_sign_63 : decode cX12_sign 63 = .ok (.sipush 256, 3) := by decide +kernel
theorem dX12_sign_66 : decode cX12_sign 66 = .ok (.iload_n 2, 1) := by decide +kernel
theorem dX12_sign_67 : decode cX12_sign 67 = .ok (.iadd, 1) := by decide +kernel
theorem dX12_sign_68 : decode cX12_sign 68 = .ok (.invokevirtual 272, 3) := by decide +kernel
theorem dX12_sign_71 : decode cX12_sign 71 = .ok (.iload_n 1, 1) := by decide +kernel
theorem dX12_sign_72 : decode cX12_sign 72 = .ok (.iconst 2, 1) := by decide +kernel
theorem dX12_sign_73 : decode cX12_sign 73 = .ok (.iadd, 1) := by decide +kernel
theorem dX12_sign_74 : decode cX12_sign 74 = .ok (.ireturn, 1) := by decide +kernel
theorem dX12_sign_75 : decode cX12_sign 75 = .ok (.ldc 15, 2) := by decide +kernel
theorem dX12_sign_77 : decode cX12_sign 77 = .ok (.iload_n 2, 1) := by decide +kernel
theorem dX12_sign_78 : decode cX12_sign 78 = .ok (.invokevirtual 298, 3) := by decide +kernel
theorem dX12_sign_81 : decode cX12_sign 81 = .ok (.ifCond .ge 5, 3) := by decide +kernel
theorem dX12_sign_84 : decode cX12_sign 84 = .ok (.iconst (-1), 1) := by decide +kernel
theorem dX12_sign_85 : decode cX12_sign 85 = .ok (.ireturn, 1) := by decide +kernel
theorem dX12_sign_86 : decode cX12_sign 86 = .ok (.aload_n 0, 1) := by decide +kernel
theorem dX12_sign_87 : decode cX12_sign 87 = .ok (.iconst 5, 1) := by decide +kernel
theorem dX12_sign_88 : decode cX12_sign 88 = .ok (.iload_n 1, 1) := by decide +kernel
theorem dX12_sign_89 : decode cX12_sign 89 = .ok (.iload_n 2, 1) := by decide +kernel
theorem dX12_sign_90 : decode cX12_sign 90 = .ok (.invokevirtual 272, 3) := by decide +kernel
theorem dX12_sign_93 : decode cX12_sign 93 = .ok (.iload_n 1, 1) := by decide +kernel
theorem dX12_sign_94 : decode cX12_sign 94 = .ok (.iconst 1, 1) := by decide +kernel
theorem dX12_sign_95 : decode cX12_sign 95 = .ok (.iadd, 1) := by decide +kernel
theorem dX12_sign_96 : decode cX12_sign 96 = .ok (.ireturn, 1) := by decide +kernel
def F_X12_sign (p0 : Int32) (σ : MS) : MR :=
  if p0 < 0 ∨ 16000 ≤ p0.toNatClampNeg then none else
  bnd ((σ.2 5 p0.toNatClampNeg)) fun (x_3 : Int32) =>
  bnd (fun (t_5 : Int32) (σ_6 : MS) => (
    bnd (fun  (σ_10 : MS) => (
      bnd ((tx_ixOf ([123, 125, 40, 41, 91, 93, 59, 44, 61, 60, 62, 43, 45, 42, 47, 37] : List Int32) x_3)) fun (x_15 : Int32) =>
      if 0 ≤ x_15 then (
        (F_X12_token 5 p0 x_3 σ_10).bind fun u_19 =>
        some ((p0 + 1), u_19.2)
      ) else (
        some ((-1), σ_10)
      )
    ) : MS → MR) fun j_11 =>
    bnd (fun  (σ_22 : MS) => (
      if t_5 = 61 then (
        (F_X12_token 5 p0 (256 + x_3) σ_22).bind fun u_28 =>
        some ((p0 + 2), u_28.2)
      ) else (
        j_11  σ_22
      )
    ) : MS → MR) fun j_23 =>
    if x_3 = 61 then (
      j_23  σ_6
    ) else (
      if x_3 = 33 then (
        j_23  σ_6
      ) else (
        if x_3 = 60 then (
          j_23  σ_6
        ) else (
          if x_3 = 62 then (
            j_23  σ_6
          ) else (
            j_11  σ_6
          )
        )
      )
    )
  ) : Int32 → MS → MR) fun j_7 =>
  if (σ.1 6) ≤ (p0 + 1) then (
    j_7 0 σ
  ) else (
    bnd ((p0 + 1)) fun (x_46 : Int32) =>
    if x_46 < 0 ∨ 16000 ≤ x_46.toNatClampNeg then none else
    j_7 (σ.2 5 x_46.toNatClampNeg) σ
  )
set_option maxHeartbeats 4000000 in
set_option maxRecDepth 100000 in
theorem m_X12_sign (l : Launch) (dC : Nat → ClassId) (dI : Nat → Nat → Nat) (cB cC cI cJ cZ cP : ClassId) (h qK qS : Nat) (ad : Nat → Nat) (hDD : mDis cB cI cZ h qK qS ad) (sz : Nat)  (p0 : Int32) (σ : MS) (res : Int32 × MS) (hF : F_X12_sign p0 σ = some res) : Met l yX12_sign (g_ws yX12_sign cX12_sign 4 (some .int)) ({ frames := 5, cells := 0, slots := 0, locals := 131 }) (va_Pc [.ref h, .int p0] (m_B (dC, dI) [(cB, .byte), (cC, .char), (cI, .int), (cJ, .long), (cZ, .boolean), (cP, .object "StoryHouse$Play")] sz h ad qK qS (mW cB cI cZ h qK qS ad σ) g_0)) (va_Qi (fun r (_ : Unit) => r = res.1) (fun _ t => va_P (dC, dI) vwCl (mW cB cI cZ h qK qS ad res.2) t.heap) (mCells h ad sz)) 0 0 (mCells h ad sz) := by
  refine Met.ofW (cc := cX12_sign) (maxL := 4) (ret := (some .int)) (by decide) rfl ?_
  intro p e s m args below meth c s₁ B hml hv
  obtain ⟨rfl, hsz, hP, hK, hE, hKS, hX⟩ := hv
  have hx := B.exec
  have hb := B.bytes
  have hr := B.returns
  have hts0 := atoms_spec (ws := g_ws yX12_sign cX12_sign 4 (some .int)) B.pre
  have hts : ∀ w ∈ lw_good, w.before ([.ref h, .int p0] : List Value).toArray s = true := fun w z => hts0 w (List.mem_cons_of_mem _ z)
  have hown : s.vm.findClass RX12 = some m.cls := findClass_of_methodNamed B.named
  have hlocks := B.notSynchronized
  have hS : va_S (mCells h ad sz) s.heap s.heap [] := va_S.rf
  have hl := lv_entry ([.ref h, .int p0]) (n := 4) (Nat.le_of_ble_eq_true rfl)
  rw [lg_entry_eq]
  generalize (lg_sl ([.ref h, .int p0]) ++ List.replicate (4 - (lg_sl ([.ref h, .int p0])).length) Slot.unset).toArray = ls at hl ⊢
  have hl : lv_has ls 4 [(0, .ref h), (1, .int p0)] := hl
  unfold F_X12_sign at hF
  refine lv_aload_n hx hb dX12_sign_0 rfl (lv_at hl 0 rfl) ?_
  refine va_get (D := (dC, dI)) (ci := 12) (v := .ref (ad 5)) (C := RX12) (T := TX12) (N := 123) hx hb hts ii_X12 hown hK hP 0 rfl rfl 5 (by decide) (hts (.fieldLink RX12 24 "StoryHouseModel" "source" "[B") wq_1361) (fun _ h9 => h9) rfl dX12_sign_1 ?_
  refine lv_iload_n hx hb dX12_sign_4 rfl (lv_at hl 1 rfl) ?_
  obtain ⟨g_1, hF_2⟩ := nif_e hF
  clear hF
  refine va_bald (f := σ.2 5) hx hb hK hP 2 0 rfl rfl g_1 dX12_sign_5 ?_
  obtain ⟨x_3, ex_3, hF_4⟩ := bnd_e hF_2
  clear hF_2
  refine m_top ex_3 ?_
  refine lv_istore_n (lv' := [(2, .int x_3), (0, .ref h), (1, .int p0)]) hx hb dX12_sign_6 rfl hl (by decide) rfl (fun ls hl => ?_)
  refine lv_iload_n hx hb dX12_sign_7 rfl (lv_at hl 2 rfl) ?_
  refine lv_iconst (v := 1) hx hb dX12_sign_8 (by decide +kernel) ?_
  refine lv_iadd hx hb dX12_sign_9 ?_
  refine lv_aload_n hx hb dX12_sign_10 rfl (lv_at hl 1 rfl) ?_
  refine va_get (D := (dC, dI)) (ci := 12) (v := .int (σ.1 6)) (C := RX12) (T := TX12) (N := 123) hx hb hts ii_X12 hown hK hP 0 rfl rfl 6 (by decide) (hts (.fieldLink RX12 249 "StoryHouseModel" "sourceSize" "I") wq_1362) (fun _ h9 => h9) rfl dX12_sign_11 ?_
  obtain ⟨j_7, ej_7, hF_8⟩ := bnd_e hF_4
  clear hF_4
  have Jj_7 : ∀ (t_5 : Int32) (σ_6 : MS), j_7 t_5 σ_6 = some res → ∀ (H : Heap) (locs : List Loc), va_P (dC, dI) vwCl (mW cB cI cZ h qK qS ad σ_6) H → va_S (mCells h ad sz) s.heap H locs → ∀ ls : Array Slot, lv_has ls 4 [(0, .ref h), (1, .int p0), (2, .int x_3)] → W p l e (headSpec (g_ws yX12_sign cX12_sign 4 (some .int)) { frames := 5, cells := 0, slots := 0, locals := 131 }).room s m ([.ref h, .int p0] : List Value).toArray below meth c H locs 0 0 (MQ below (va_Qi (fun r (_ : Unit) => r = res.1) (fun _ t => va_P (dC, dI) vwCl (mW cB cI cZ h qK qS ad res.2) t.heap) (mCells h ad sz)) ([.ref h, .int p0] : List Value).toArray s 0 0 (mCells h ad sz)) (F0 m 29 ls [.int t_5]) := by
    intro t_5 σ_6 hF0 H locs hP hS ls hl
    subst ej_7
    have hF_9 := hF0
    clear hF0
    refine lv_istore_n (lv' := [(3, .int t_5), (0, .ref h), (1, .int p0), (2, .int x_3)]) hx hb dX12_sign_29 rfl hl (by decide) rfl (fun ls hl => ?_)
    refine lv_iload_n hx hb dX12_sign_30 rfl (lv_at hl 3 rfl) ?_
    refine lv_bipush (v := 61) hx hb dX12_sign_31 (by decide +kernel) ?_
    obtain ⟨j_11, ej_11, hF_12⟩ := bnd_e hF_9
    clear hF_9
    have Jj_11 : ∀  (σ_10 : MS), j_11  σ_10 = some res → ∀ (H : Heap) (locs : List Loc), va_P (dC, dI) vwCl (mW cB cI cZ h qK qS ad σ_10) H → va_S (mCells h ad sz) s.heap H locs → ∀ ls : Array Slot, lv_has ls 4 [(0, .ref h), (1, .int p0), (2, .int x_3)] → W p l e (headSpec (g_ws yX12_sign cX12_sign 4 (some .int)) { frames := 5, cells := 0, slots := 0, locals := 131 }).room s m ([.ref h, .int p0] : List Value).toArray below meth c H locs 0 0 (MQ below (va_Qi (fun r (_ : Unit) => r = res.1) (fun _ t => va_P (dC, dI) vwCl (mW cB cI cZ h qK qS ad res.2) t.heap) (mCells h ad sz)) ([.ref h, .int p0] : List Value).toArray s 0 0 (mCells h ad sz)) (F0 m 75 ls []) := by
      intro  σ_10 hF0 H locs hP hS ls hl
      subst ej_11
      have hF_13 := hF0
      clear hF0
      obtain ⟨q_14, vq_14, hRq_14, hSq_14⟩ := hE.2.2.2.2 _ (List.mem_of_getElem? (i := 79) rfl)
      refine va_ldcS (own := RX12) (tx := "{}()[];,=<>+-*/%") hx hb hown hRq_14 dX12_sign_75 ?_
      refine lv_iload_n hx hb dX12_sign_77 rfl (lv_at hl 2 rfl) ?_
      refine m_cs (v := tx_ixOf ([123, 125, 40, 41, 91, 93, 59, 44, 61, 60, 62, 43, 45, 42, 47, 37] : List Int32) x_3) hsz hP hS (va_runV (As := [.int x_3]) (rest := []) ⟨hx, hb, hml, hown, hts⟩ (c_J0_indexOf_0f7a4 l dC dI cB cC cI cJ cZ cP H.size q_14 x_3 _ ([123, 125, 40, 41, 91, 93, 59, 44, 61, 60, 62, 43, 45, 42, 47, 37] : List Int32) ) (cwV 1 hts (g_gV wq_1527 wq_445 wq_446 wq_22 wq_447) rfl rfl rfl (by decide +kernel) ⟨Nat.le_of_ble_eq_true rfl, Nat.le_of_ble_eq_true rfl⟩) (g_preVs g_blS hK (wc := []) (A := mCells h ad sz) (fun k q z => by simp at z) ⟨fun i j p q z => by simp at z, fun k q z => by simp at z⟩ hS hE (m_nil hS hsz) (g_toS hSq_14 hS (m_nil hS hsz)) (va_Orecv hSq_14.1 hS)) rfl rfl hl.1 rfl (lv_room (Nat.le_of_ble_eq_true rfl)) dX12_sign_78 ⟨Nat.le_of_ble_eq_true rfl, Nat.le_of_ble_eq_true rfl⟩) (fun H locs hP hS => ?_)
      obtain ⟨x_15, ex_15, hF_16⟩ := bnd_e hF_13
      clear hF_13
      refine m_top ex_15 ?_
      refine lv_if_ge (tgt := 86) hx hb dX12_sign_81 (by decide) (fun c_17 => ?_) (fun c_17 => ?_)
      · have hF_18 := ipos c_17 hF_16
        clear hF_16
        refine lv_aload_n hx hb dX12_sign_86 rfl (lv_at hl 0 rfl) ?_
        refine lv_iconst (v := 5) hx hb dX12_sign_87 (by decide +kernel) ?_
        refine lv_iload_n hx hb dX12_sign_88 rfl (lv_at hl 1 rfl) ?_
        refine lv_iload_n hx hb dX12_sign_89 rfl (lv_at hl 2 rfl) ?_
        obtain ⟨u_19, hu_19, hF_20⟩ := Option.bind_eq_some_iff.mp hF_18
        clear hF_18
        refine m_cv hsz hS (va_runV (As := [.int 5, .int p0, .int x_3]) (rest := []) ⟨hx, hb, hml, hown, hts⟩ (m_X12_token l dC dI cB cC cI cJ cZ cP h qK qS ad hDD H.size  5 p0 x_3 σ_10 _ hu_19) (cwV 3 hts (g_gV wq_1511 wq_1512 wq_2117 wq_13 wq_1513) rfl rfl rfl (by decide +kernel) ⟨Nat.le_of_ble_eq_true rfl, Nat.le_of_ble_eq_true rfl⟩) (m_preV g_bl0 hsz hK hP hS hE hKS g_to0) rfl rfl hl.1 rfl (lv_room (Nat.le_of_ble_eq_true rfl)) dX12_sign_90 ⟨Nat.le_of_ble_eq_true rfl, Nat.le_of_ble_eq_true rfl⟩) (fun H locs hP hS => ?_)
        refine lv_iload_n hx hb dX12_sign_93 rfl (lv_at hl 1 rfl) ?_
        refine lv_iconst (v := 1) hx hb dX12_sign_94 (by decide +kernel) ?_
        refine lv_iadd hx hb dX12_sign_95 ?_
        have h9 := Option.some.inj hF_20
        subst h9
        exact W.iret (v := (p0 + 1)) hx hb hr (fun t ht hW => ⟨⟨(p0 + 1), (), rfl, rfl, m_end ht hP⟩, hS.F ht⟩) hS.2.2 dX12_sign_96
      · have hF_21 := ineg c_17 hF_16
        clear hF_16
        refine lv_iconst (v := (-1)) hx hb dX12_sign_84 (by decide +kernel) ?_
        have h9 := Option.some.inj hF_21
        subst h9
        exact W.iret (v := (-1)) hx hb hr (fun t ht hW => ⟨⟨(-1), (), rfl, rfl, m_end ht hP⟩, hS.F ht⟩) hS.2.2 dX12_sign_85
    obtain ⟨j_23, ej_23, hF_24⟩ := bnd_e hF_12
    clear hF_12
    have Jj_23 : ∀  (σ_22 : MS), j_23  σ_22 = some res → ∀ (H : Heap) (locs : List Loc), va_P (dC, dI) vwCl (mW cB cI cZ h qK qS ad σ_22) H → va_S (mCells h ad sz) s.heap H locs → ∀ ls : Array Slot, lv_has ls 4 [(0, .ref h), (1, .int p0), (2, .int x_3), (3, .int t_5)] → W p l e (headSpec (g_ws yX12_sign cX12_sign 4 (some .int)) { frames := 5, cells := 0, slots := 0, locals := 131 }).room s m ([.ref h, .int p0] : List Value).toArray below meth c H locs 0 0 (MQ below (va_Qi (fun r (_ : Unit) => r = res.1) (fun _ t => va_P (dC, dI) vwCl (mW cB cI cZ h qK qS ad res.2) t.heap) (mCells h ad sz)) ([.ref h, .int p0] : List Value).toArray s 0 0 (mCells h ad sz)) (F0 m 54 ls []) := by
      intro  σ_22 hF0 H locs hP hS ls hl
      subst ej_23
      have hF_25 := hF0
      clear hF0
      refine lv_iload_n hx hb dX12_sign_54 rfl (lv_at hl 3 rfl) ?_
      refine lv_bipush (v := 61) hx hb dX12_sign_55 (by decide +kernel) ?_
      refine lv_icmp_ne (tgt := 75) hx hb dX12_sign_57 (by decide) (fun c_26 => ?_) (fun c_26 => ?_)
      · have hF_30 := ineg c_26 hF_25
        clear hF_25
        exact Jj_11  σ_22 hF_30 _ _ hP hS ls (lv_sub hl [0, 1, 2] rfl)
      · have hF_27 := ipos c_26 hF_25
        clear hF_25
        refine lv_aload_n hx hb dX12_sign_60 rfl (lv_at hl 0 rfl) ?_
        refine lv_iconst (v := 5) hx hb dX12_sign_61 (by decide +kernel) ?_
        refine lv_iload_n hx hb dX12_sign_62 rfl (lv_at hl 1 rfl) ?_
        refine lv_sipush (v := 256) hx hb dX12_sign_63 (by decide +kernel) ?_
        refine lv_iload_n hx hb dX12_sign_66 rfl (lv_at hl 2 rfl) ?_
        refine lv_iadd hx hb dX12_sign_67 ?_
        obtain ⟨u_28, hu_28, hF_29⟩ := Option.bind_eq_some_iff.mp hF_27
        clear hF_27
        refine m_cv hsz hS (va_runV (As := [.int 5, .int p0, .int (256 + x_3)]) (rest := []) ⟨hx, hb, hml, hown, hts⟩ (m_X12_token l dC dI cB cC cI cJ cZ cP h qK qS ad hDD H.size  5 p0 (256 + x_3) σ_22 _ hu_28) (cwV 3 hts (g_gV wq_1511 wq_1512 wq_2117 wq_13 wq_1513) rfl rfl rfl (by decide +kernel) ⟨Nat.le_of_ble_eq_true rfl, Nat.le_of_ble_eq_true rfl⟩) (m_preV g_bl0 hsz hK hP hS hE hKS g_to0) rfl rfl hl.1 rfl (lv_room (Nat.le_of_ble_eq_true rfl)) dX12_sign_68 ⟨Nat.le_of_ble_eq_true rfl, Nat.le_of_ble_eq_true rfl⟩) (fun H locs hP hS => ?_)
        refine lv_iload_n hx hb dX12_sign_71 rfl (lv_at hl 1 rfl) ?_
        refine lv_iconst (v := 2) hx hb dX12_sign_72 (by decide +kernel) ?_
        refine lv_iadd hx hb dX12_sign_73 ?_
        have h9 := Option.some.inj hF_29
        subst h9
        exact W.iret (v := (p0 + 2)) hx hb hr (fun t ht hW => ⟨⟨(p0 + 2), (), rfl, rfl, m_end ht hP⟩, hS.F ht⟩) hS.2.2 dX12_sign_74
    refine lv_icmp_eq (tgt := 54) hx hb dX12_sign_33 (by decide) (fun c_31 => ?_) (fun c_31 => ?_)
    · have hF_32 := ipos c_31 hF_24
      clear hF_24
      exact Jj_23  σ_6 hF_32 _ _ hP hS ls (lv_sub hl [1, 2, 3, 0] rfl)
    · have hF_33 := ineg c_31 hF_24
      clear hF_24
      refine lv_iload_n hx hb dX12_sign_36 rfl (lv_at hl 3 rfl) ?_
      refine lv_bipush (v := 33) hx hb dX12_sign_37 (by decide +kernel) ?_
      refine lv_icmp_eq (tgt := 54) hx hb dX12_sign_39 (by decide) (fun c_34 => ?_) (fun c_34 => ?_)
      · have hF_35 := ipos c_34 hF_33
        clear hF_33
        exact Jj_23  σ_6 hF_35 _ _ hP hS ls (lv_sub hl [1, 2, 3, 0] rfl)
      · have hF_36 := ineg c_34 hF_33
        clear hF_33
        refine lv_iload_n hx hb dX12_sign_42 rfl (lv_at hl 3 rfl) ?_
        refine lv_bipush (v := 60) hx hb dX12_sign_43 (by decide +kernel) ?_
        refine lv_icmp_eq (tgt := 54) hx hb dX12_sign_45 (by decide) (fun c_37 => ?_) (fun c_37 => ?_)
        · have hF_38 := ipos c_37 hF_36
          clear hF_36
          exact Jj_23  σ_6 hF_38 _ _ hP hS ls (lv_sub hl [1, 2, 3, 0] rfl)
        · have hF_39 := ineg c_37 hF_36
          clear hF_36
          refine lv_iload_n hx hb dX12_sign_48 rfl (lv_at hl 3 rfl) ?_
          refine lv_bipush (v := 62) hx hb dX12_sign_49 (by decide +kernel) ?_
          refine lv_icmp_ne (tgt := 75) hx hb dX12_sign_51 (by decide) (fun c_40 => ?_) (fun c_40 => ?_)
          · have hF_42 := ineg c_40 hF_39
            clear hF_39
            exact Jj_11  σ_6 hF_42 _ _ hP hS ls (lv_sub hl [1, 2, 3] rfl)
          · have hF_41 := ipos c_40 hF_39
            clear hF_39
            exact Jj_23  σ_6 hF_41 _ _ hP hS ls (lv_sub hl [1, 2, 3, 0] rfl)
  refine lv_icmp_ge (tgt := 28) hx hb dX12_sign_14 (by decide) (fun c_43 => ?_) (fun c_43 => ?_)
  · have hF_44 := ipos c_43 hF_8
    clear hF_8
    refine lv_iconst (v := 0) hx hb dX12_sign_28 (by decide +kernel) ?_
    exact Jj_7 0 σ hF_44 _ _ hP hS ls (lv_sub hl [1, 2, 0] rfl)
  · have hF_45 := ineg c_43 hF_8
    clear hF_8
    refine lv_aload_n hx hb dX12_sign_17 rfl (lv_at hl 1 rfl) ?_
    refine va_get (D := (dC, dI)) (ci := 12) (v := .ref (ad 5)) (C := RX12) (T := TX12) (N := 123) hx hb hts ii_X12 hown hK hP 0 rfl rfl 5 (by decide) (hts (.fieldLink RX12 24 "StoryHouseModel" "source" "[B") wq_1361) (fun _ h9 => h9) rfl dX12_sign_18 ?_
    refine lv_iload_n hx hb dX12_sign_21 rfl (lv_at hl 2 rfl) ?_
    refine lv_iconst (v := 1) hx hb dX12_sign_22 (by decide +kernel) ?_
    refine lv_iadd hx hb dX12_sign_23 ?_
    obtain ⟨x_46, ex_46, hF_47⟩ := bnd_e hF_45
    clear hF_45
    refine m_top ex_46 ?_
    obtain ⟨g_48, hF_49⟩ := nif_e hF_47
    clear hF_47
    refine va_bald (f := σ.2 5) hx hb hK hP 2 0 rfl rfl g_48 dX12_sign_24 ?_
    refine lv_goto (tgt := 29) hx hb dX12_sign_25 (by decide) ?_
    exact Jj_7 (σ.2 5 x_46.toNatClampNeg) σ hF_49 _ _ hP hS ls (lv_sub hl [1, 2, 0] rfl)
theorem dX12_string_0 : decode cX12_string 0 = .ok (.iload_n 1, 1) := by decide +kernel
theorem dX12_string_1 : decode cX12_string 1 = .ok (.iconst 1, 1) := by decide +kernel
theorem dX12_string_2 : decode cX12_string 2 = .ok (.iadd, 1) := by decide +kernel
theorem dX12_string_3 : decode cX12_string 3 = .ok (.istore_n 2, 1) := by decide +kernel
theorem dX12_string_4 : decode cX12_string 4 = .ok (.iload_n 2, 1) := by decide +kernel
theorem dX12_string_5 : decode cX12_string 5 = .ok (.aload_n 0, 1) := by decide +kernel
theorem dX12_string_6 : decode cX12_string 6 = .ok (.getfield 249, 3) := by decide +kernel
theorem dX12_string_9 : decode cX12_string 9 = .ok (.if_icmp .ge 40, 3) := by decide +kernel
theorem dX12_string_12 : decode cX12_string 12 = .ok (.aload_n 0, 1) := by decide +kernel
theorem dX12_string_13 : decode cX12_string 13 = .ok (.getfield 24, 3) := by decide +kernel
theorem dX12_string_16 : decode cX12_string 16 = .ok (.iload_n 2, 1) := by decide +kernel
theorem dX12_string_17 : decode cX12_string 17 = .ok (.baload, 1) := by decide +kernel
theorem dX12_string_18 : decode cX12_string 18 = .ok (.bipush 34, 2) := by decide +kernel
theorem dX12_string_20 : decode cX12_string 20 = .ok (.if_icmp .eq 29, 3) := by decide +kernel
theorem dX12_string_23 : decode cX12_string 23 = .ok (.aload_n 0, 1) := by decide +kernel
theorem dX12_string_24 : decode cX12_string 24 = .ok (.getfield 24, 3) := by decide +kernel
theorem dX12_string_27 : decode cX12_string 27 = .ok (.iload_n 2, 1) := by decide +kernel
theorem dX12_string_28 : decode cX12_string 28 = .ok (.baload, 1) := by decide +kernel
theorem dX12_string_29 : decode cX12_string 29 = .ok (.bipush 32, 2) := by decide +kernel
theorem dX12_string_31 : decode cX12_string 31 = .ok (.if_icmp .lt 18, 3) := by decide +kernel
theorem dX12_string_34 : decode cX12_string 34 = .ok (.iload_n 2, 1) := by decide +kernel
theorem dX12_string_35 : decode cX12_string 35 = .ok (.iload_n 1, 1) := by decide +kernel
theorem dX12_string_36 : decode cX12_string 36 = .ok (.isub, 1) := by decide +kernel
theorem dX12_string_37 : decode cX12_string 37 = .ok (.sipush 201, 3) := by decide +kernel
theorem dX12_string_40 : decode cX12_string 40 = .ok (.if_icmp .gt 9, 3) := by decide +kernel
theorem dX12_string_43 : decode cX12_string 43 = .ok (.iinc 2 1, 3) := by decide +kernel
theorem dX12_string_46 : decode cX12_string 46 = .ok (.goto (-42), 3) := by decide +kernel
theorem dX12_string_49 : decode cX12_string 49 = .ok (.iload_n 2, 1) := by decide +kernel
theorem dX12_string_50 : decode cX12_string 50 = .ok (.aload_n 0, 1) := by decide +kernel
theorem dX12_string_51 : decode cX12_string 51 = .ok (.getfield 249, 3) := by decide +kernel
theorem dX12_string_54 : decode cX12_string 54 = .ok (.if_icmp .ge 25, 3) := by decide +kernel
theorem dX12_string_57 : decode cX12_string 57 = .ok (.aload_n 0, 1) := by decide +kernel
theorem dX12_string_58 : decode cX12_string 58 = .ok (.getfield 24, 3) := by decide +kernel
theorem dX12_string_61 : decode cX12_string 61 = .ok (.iload_n 2, 1) := by decide +kernel
theorem dX12_string_62 : decode cX12_string 62 = .ok (.baload, 1) := by decide +kernel
theorem dX12_string_63 : decode cX12_string 63 = .ok (.bipush 34, 2) := by decide +kernel
theorem dX12_string_65 : decode cX12_string 65 = .ok (.if_icmp .ne 14, 3) := by decide +kernel
theorem dX12_string_68 : decode cX12_string 68 = .ok (.iload_n 2, 1) := by decide +kernel
theorem dX12_string_69 : decode cX12_string 69 = .ok (.iload_n 1, 1) := by decide +kernel
theorem dX12_string_70 : decode cX12_string 70 = .ok (.isub, 1) := by decide +kernel
theorem dX12_string_71 : decode cX12_string 71 = .ok (.iconst 1, 1) := by decide +kernel
theorem dX12_string_72 : decode cX12_string 72 = .ok (.isub, 1) := by decide +kernel
theorem dX12_string_73 : decode cX12_string 73 = .ok (.sipush 200, 3) := by decide +kernel
theorem dX12_string_76 : decode cX12_string 76 = .ok (.if_icmp .le 5, 3) := by decide +kernel
theorem dX12_string_79 : decode cX12_string 79 = .ok (.iconst (-1), 1) := by decide +kernel
theorem dX12_string_80 : decode cX12_string 80 = .ok (.ireturn, 1) := by decide +kernel
theorem dX12_string_81 : decode cX12_string 81 = .ok (.aload_n 0, 1) := by decide +kernel
theorem dX12_string_82 : decode cX12_string 82 = .ok (.iconst 4, 1) := by decide +kernel
theorem dX12_string_83 : decode cX12_string 83 = .ok (.iload_n 1, 1) := by decide +kernel
theorem dX12_string_84 : decode cX12_string 84 = .ok (.iload_n 2, 1) := by decide +kernel
theorem dX12_string_85 : decode cX12_string 85 = .ok (.iload_n 1, 1) := by decide +kernel
theorem dX12_string_86 : decode cX12_string 86 = .ok (.isub, 1) := by decide +kernel
theorem dX12_string_87 : decode cX12_string 87 = .ok (.iconst 1, 1) := by decide +kernel
theorem dX12_string_88 : decode cX12_string 88 = .ok (.isub, 1) := by decide +kernel
theorem dX12_string_89 : decode cX12_string 89 = .ok (.invokevirtual 272, 3) := by decide +kernel
theorem dX12_string_92 : decode cX12_string 92 = .ok (.iload_n 2, 1) := by decide +kernel
theorem dX12_string_93 : decode cX12_string 93 = .ok (.iconst 1, 1) := by decide +kernel
theorem dX12_string_94 : decode cX12_string 94 = .ok (.iadd, 1) := by decide +kernel
theorem dX12_string_95 : decode cX12_string 95 = .ok (.ireturn, 1) := by decide +kernel
def F_X12_string (p0 : Int32) (σ : MS) : MR :=
  loopF (fun (again_2 : (Int32 × MS) → MR) (s_1 : Int32 × MS) => (
    bnd (fun  (σ_5 : MS) => (
      if (σ_5.1 6) ≤ s_1.1 then (
        some ((-1), σ_5)
      ) else (
        if s_1.1 < 0 ∨ 16000 ≤ s_1.1.toNatClampNeg then none else
        if (σ_5.2 5 s_1.1.toNatClampNeg) = 34 then (
          if ((s_1.1 - p0) - 1) ≤ 200 then (
            (F_X12_token 4 p0 ((s_1.1 - p0) - 1) σ_5).bind fun u_18 =>
            some ((s_1.1 + 1), u_18.2)
          ) else (
            some ((-1), σ_5)
          )
        ) else (
          some ((-1), σ_5)
        )
      )
    ) : MS → MR) fun j_6 =>
    if (s_1.2.1 6) ≤ s_1.1 then (
      j_6  s_1.2
    ) else (
      if s_1.1 < 0 ∨ 16000 ≤ s_1.1.toNatClampNeg then none else
      if (s_1.2.2 5 s_1.1.toNatClampNeg) = 34 then (
        j_6  s_1.2
      ) else (
        if s_1.1 < 0 ∨ 16000 ≤ s_1.1.toNatClampNeg then none else
        if (s_1.2.2 5 s_1.1.toNatClampNeg) < 32 then (
          j_6  s_1.2
        ) else (
          if 201 < (s_1.1 - p0) then (
            j_6  s_1.2
          ) else (
            bnd (s_1.1 + 1) fun (x_38 : Int32) =>
            again_2 (x_38, s_1.2)
          )
        )
      )
    )
  )) FU ((p0 + 1), σ)
set_option maxHeartbeats 4000000 in
set_option maxRecDepth 100000 in
theorem m_X12_string (l : Launch) (dC : Nat → ClassId) (dI : Nat → Nat → Nat) (cB cC cI cJ cZ cP : ClassId) (h qK qS : Nat) (ad : Nat → Nat) (hDD : mDis cB cI cZ h qK qS ad) (sz : Nat)  (p0 : Int32) (σ : MS) (res : Int32 × MS) (hF : F_X12_string p0 σ = some res) : Met l yX12_string (g_ws yX12_string cX12_string 3 (some .int)) ({ frames := 2, cells := 0, slots := 0, locals := 63 }) (va_Pc [.ref h, .int p0] (m_B (dC, dI) [(cB, .byte), (cC, .char), (cI, .int), (cJ, .long), (cZ, .boolean), (cP, .object "StoryHouse$Play")] sz h ad qK qS (mW cB cI cZ h qK qS ad σ) g_0)) (va_Qi (fun r (_ : Unit) => r = res.1) (fun _ t => va_P (dC, dI) vwCl (mW cB cI cZ h qK qS ad res.2) t.heap) (mCells h ad sz)) 0 0 (mCells h ad sz) := by
  refine Met.ofW (cc := cX12_string) (maxL := 3) (ret := (some .int)) (by decide) rfl ?_
  intro p e s m args below meth c s₁ B hml hv
  obtain ⟨rfl, hsz, hP, hK, hE, hKS, hX⟩ := hv
  have hx := B.exec
  have hb := B.bytes
  have hr := B.returns
  have hts0 := atoms_spec (ws := g_ws yX12_string cX12_string 3 (some .int)) B.pre
  have hts : ∀ w ∈ lw_good, w.before ([.ref h, .int p0] : List Value).toArray s = true := fun w z => hts0 w (List.mem_cons_of_mem _ z)
  have hown : s.vm.findClass RX12 = some m.cls := findClass_of_methodNamed B.named
  have hlocks := B.notSynchronized
  have hS : va_S (mCells h ad sz) s.heap s.heap [] := va_S.rf
  have hl := lv_entry ([.ref h, .int p0]) (n := 3) (Nat.le_of_ble_eq_true rfl)
  rw [lg_entry_eq]
  generalize (lg_sl ([.ref h, .int p0]) ++ List.replicate (3 - (lg_sl ([.ref h, .int p0])).length) Slot.unset).toArray = ls at hl ⊢
  have hl : lv_has ls 3 [(0, .ref h), (1, .int p0)] := hl
  unfold F_X12_string at hF
  refine lv_iload_n hx hb dX12_string_0 rfl (lv_at hl 1 rfl) ?_
  refine lv_iconst (v := 1) hx hb dX12_string_1 (by decide +kernel) ?_
  refine lv_iadd hx hb dX12_string_2 ?_
  refine lv_istore_n (lv' := [(2, .int (p0 + 1)), (0, .ref h), (1, .int p0)]) hx hb dX12_string_3 rfl hl (by decide) rfl (fun ls hl => ?_)
  refine loopF_ind (P := fun (s_1 : Int32 × MS) => ∀ (H : Heap) (locs : List Loc), va_P (dC, dI) vwCl (mW cB cI cZ h qK qS ad s_1.2) H → va_S (mCells h ad sz) s.heap H locs → ∀ ls : Array Slot, lv_has ls 3 [(0, .ref h), (1, .int p0), (2, .int s_1.1)] → W p l e (headSpec (g_ws yX12_string cX12_string 3 (some .int)) { frames := 2, cells := 0, slots := 0, locals := 63 }).room s m ([.ref h, .int p0] : List Value).toArray below meth c H locs 0 0 (MQ below (va_Qi (fun r (_ : Unit) => r = res.1) (fun _ t => va_P (dC, dI) vwCl (mW cB cI cZ h qK qS ad res.2) t.heap) (mCells h ad sz)) ([.ref h, .int p0] : List Value).toArray s 0 0 (mCells h ad sz)) (F0 m 4 ls [])) ?_ _ _ hF _ _ hP hS ls (lv_sub hl [1, 2, 0] rfl)
  intro again_2 s_1 ih_3 hF_4
  intro H locs hP hS ls hl
  refine lv_iload_n hx hb dX12_string_4 rfl (lv_at hl 2 rfl) ?_
  refine lv_aload_n hx hb dX12_string_5 rfl (lv_at hl 0 rfl) ?_
  refine va_get (D := (dC, dI)) (ci := 12) (v := .int (s_1.2.1 6)) (C := RX12) (T := TX12) (N := 123) hx hb hts ii_X12 hown hK hP 0 rfl rfl 6 (by decide) (hts (.fieldLink RX12 249 "StoryHouseModel" "sourceSize" "I") wq_1362) (fun _ h9 => h9) rfl dX12_string_6 ?_
  obtain ⟨j_6, ej_6, hF_7⟩ := bnd_e hF_4
  clear hF_4
  have Jj_6 : ∀  (σ_5 : MS), j_6  σ_5 = some res → ∀ (H : Heap) (locs : List Loc), va_P (dC, dI) vwCl (mW cB cI cZ h qK qS ad σ_5) H → va_S (mCells h ad sz) s.heap H locs → ∀ ls : Array Slot, lv_has ls 3 [(0, .ref h), (1, .int p0), (2, .int s_1.1)] → W p l e (headSpec (g_ws yX12_string cX12_string 3 (some .int)) { frames := 2, cells := 0, slots := 0, locals := 63 }).room s m ([.ref h, .int p0] : List Value).toArray below meth c H locs 0 0 (MQ below (va_Qi (fun r (_ : Unit) => r = res.1) (fun _ t => va_P (dC, dI) vwCl (mW cB cI cZ h qK qS ad res.2) t.heap) (mCells h ad sz)) ([.ref h, .int p0] : List Value).toArray s 0 0 (mCells h ad sz)) (F0 m 49 ls []) := by
    intro  σ_5 hF0 H locs hP hS ls hl
    subst ej_6
    have hF_8 := hF0
    clear hF0
    refine lv_iload_n hx hb dX12_string_49 rfl (lv_at hl 2 rfl) ?_
    refine lv_aload_n hx hb dX12_string_50 rfl (lv_at hl 0 rfl) ?_
    refine va_get (D := (dC, dI)) (ci := 12) (v := .int (σ_5.1 6)) (C := RX12) (T := TX12) (N := 123) hx hb hts ii_X12 hown hK hP 0 rfl rfl 6 (by decide) (hts (.fieldLink RX12 249 "StoryHouseModel" "sourceSize" "I") wq_1362) (fun _ h9 => h9) rfl dX12_string_51 ?_
    refine lv_icmp_ge (tgt := 79) hx hb dX12_string_54 (by decide) (fun c_9 => ?_) (fun c_9 => ?_)
    · have hF_10 := ipos c_9 hF_8
      clear hF_8
      refine lv_iconst (v := (-1)) hx hb dX12_string_79 (by decide +kernel) ?_
      have h9 := Option.some.inj hF_10
      subst h9
      exact W.iret (v := (-1)) hx hb hr (fun t ht hW => ⟨⟨(-1), (), rfl, rfl, m_end ht hP⟩, hS.F ht⟩) hS.2.2 dX12_string_80
    · have hF_11 := ineg c_9 hF_8
      clear hF_8
      refine lv_aload_n hx hb dX12_string_57 rfl (lv_at hl 0 rfl) ?_
      refine va_get (D := (dC, dI)) (ci := 12) (v := .ref (ad 5)) (C := RX12) (T := TX12) (N := 123) hx hb hts ii_X12 hown hK hP 0 rfl rfl 5 (by decide) (hts (.fieldLink RX12 24 "StoryHouseModel" "source" "[B") wq_1361) (fun _ h9 => h9) rfl dX12_string_58 ?_
      refine lv_iload_n hx hb dX12_string_61 rfl (lv_at hl 2 rfl) ?_
      obtain ⟨g_12, hF_13⟩ := nif_e hF_11
      clear hF_11
      refine va_bald (f := σ_5.2 5) hx hb hK hP 2 0 rfl rfl g_12 dX12_string_62 ?_
      refine lv_bipush (v := 34) hx hb dX12_string_63 (by decide +kernel) ?_
      refine lv_icmp_ne (tgt := 79) hx hb dX12_string_65 (by decide) (fun c_14 => ?_) (fun c_14 => ?_)
      · have hF_21 := ineg c_14 hF_13
        clear hF_13
        refine lv_iconst (v := (-1)) hx hb dX12_string_79 (by decide +kernel) ?_
        have h9 := Option.some.inj hF_21
        subst h9
        exact W.iret (v := (-1)) hx hb hr (fun t ht hW => ⟨⟨(-1), (), rfl, rfl, m_end ht hP⟩, hS.F ht⟩) hS.2.2 dX12_string_80
      · have hF_15 := ipos c_14 hF_13
        clear hF_13
        refine lv_iload_n hx hb dX12_string_68 rfl (lv_at hl 2 rfl) ?_
        refine lv_iload_n hx hb dX12_string_69 rfl (lv_at hl 1 rfl) ?_
        refine lv_isub hx hb dX12_string_70 ?_
        refine lv_iconst (v := 1) hx hb dX12_string_71 (by decide +kernel) ?_
        refine lv_isub hx hb dX12_string_72 ?_
        refine lv_sipush (v := 200) hx hb dX12_string_73 (by decide +kernel) ?_
        refine lv_icmp_le (tgt := 81) hx hb dX12_string_76 (by decide) (fun c_16 => ?_) (fun c_16 => ?_)
        · have hF_17 := ipos c_16 hF_15
          clear hF_15
          refine lv_aload_n hx hb dX12_string_81 rfl (lv_at hl 0 rfl) ?_
          refine lv_iconst (v := 4) hx hb dX12_string_82 (by decide +kernel) ?_
          refine lv_iload_n hx hb dX12_string_83 rfl (lv_at hl 1 rfl) ?_
          refine lv_iload_n hx hb dX12_string_84 rfl (lv_at hl 2 rfl) ?_
          refine lv_iload_n hx hb dX12_string_85 rfl (lv_at hl 1 rfl) ?_
          refine lv_isub hx hb dX12_string_86 ?_
          refine lv_iconst (v := 1) hx hb dX12_string_87 (by decide +kernel) ?_
          refine lv_isub hx hb dX12_string_88 ?_
          obtain ⟨u_18, hu_18, hF_19⟩ := Option.bind_eq_some_iff.mp hF_17
          clear hF_17
          refine m_cv hsz hS (va_runV (As := [.int 4, .int p0, .int ((s_1.1 - p0) - 1)]) (rest := []) ⟨hx, hb, hml, hown, hts⟩ (m_X12_token l dC dI cB cC cI cJ cZ cP h qK qS ad hDD H.size  4 p0 ((s_1.1 - p0) - 1) σ_5 _ hu_18) (cwV 3 hts (g_gV wq_1511 wq_1512 wq_2117 wq_13 wq_1513) rfl rfl rfl (by decide +kernel) ⟨Nat.le_of_ble_eq_true rfl, Nat.le_of_ble_eq_true rfl⟩) (m_preV g_bl0 hsz hK hP hS hE hKS g_to0) rfl rfl hl.1 rfl (lv_room (Nat.le_of_ble_eq_true rfl)) dX12_string_89 ⟨Nat.le_of_ble_eq_true rfl, Nat.le_of_ble_eq_true rfl⟩) (fun H locs hP hS => ?_)
          refine lv_iload_n hx hb dX12_string_92 rfl (lv_at hl 2 rfl) ?_
          refine lv_iconst (v := 1) hx hb dX12_string_93 (by decide +kernel) ?_
          refine lv_iadd hx hb dX12_string_94 ?_
          have h9 := Option.some.inj hF_19
          subst h9
          exact W.iret (v := (s_1.1 + 1)) hx hb hr (fun t ht hW => ⟨⟨(s_1.1 + 1), (), rfl, rfl, m_end ht hP⟩, hS.F ht⟩) hS.2.2 dX12_string_95
        · have hF_20 := ineg c_16 hF_15
          clear hF_15
          refine lv_iconst (v := (-1)) hx hb dX12_string_79 (by decide +kernel) ?_
          have h9 := Option.some.inj hF_20
          subst h9
          exact W.iret (v := (-1)) hx hb hr (fun t ht hW => ⟨⟨(-1), (), rfl, rfl, m_end ht hP⟩, hS.F ht⟩) hS.2.2 dX12_string_80
  refine lv_icmp_ge (tgt := 49) hx hb dX12_string_9 (by decide) (fun c_22 => ?_) (fun c_22 => ?_)
  · have hF_23 := ipos c_22 hF_7
    clear hF_7
    exact Jj_6  s_1.2 hF_23 _ _ hP hS ls (lv_sub hl [0, 1, 2] rfl)
  · have hF_24 := ineg c_22 hF_7
    clear hF_7
    refine lv_aload_n hx hb dX12_string_12 rfl (lv_at hl 0 rfl) ?_
    refine va_get (D := (dC, dI)) (ci := 12) (v := .ref (ad 5)) (C := RX12) (T := TX12) (N := 123) hx hb hts ii_X12 hown hK hP 0 rfl rfl 5 (by decide) (hts (.fieldLink RX12 24 "StoryHouseModel" "source" "[B") wq_1361) (fun _ h9 => h9) rfl dX12_string_13 ?_
    refine lv_iload_n hx hb dX12_string_16 rfl (lv_at hl 2 rfl) ?_
    obtain ⟨g_25, hF_26⟩ := nif_e hF_24
    clear hF_24
    refine va_bald (f := s_1.2.2 5) hx hb hK hP 2 0 rfl rfl g_25 dX12_string_17 ?_
    refine lv_bipush (v := 34) hx hb dX12_string_18 (by decide +kernel) ?_
    refine lv_icmp_eq (tgt := 49) hx hb dX12_string_20 (by decide) (fun c_27 => ?_) (fun c_27 => ?_)
    · have hF_28 := ipos c_27 hF_26
      clear hF_26
      exact Jj_6  s_1.2 hF_28 _ _ hP hS ls (lv_sub hl [0, 1, 2] rfl)
    · have hF_29 := ineg c_27 hF_26
      clear hF_26
      refine lv_aload_n hx hb dX12_string_23 rfl (lv_at hl 0 rfl) ?_
      refine va_get (D := (dC, dI)) (ci := 12) (v := .ref (ad 5)) (C := RX12) (T := TX12) (N := 123) hx hb hts ii_X12 hown hK hP 0 rfl rfl 5 (by decide) (hts (.fieldLink RX12 24 "StoryHouseModel" "source" "[B") wq_1361) (fun _ h9 => h9) rfl dX12_string_24 ?_
      refine lv_iload_n hx hb dX12_string_27 rfl (lv_at hl 2 rfl) ?_
      obtain ⟨g_30, hF_31⟩ := nif_e hF_29
      clear hF_29
      refine va_bald (f := s_1.2.2 5) hx hb hK hP 2 0 rfl rfl g_30 dX12_string_28 ?_
      refine lv_bipush (v := 32) hx hb dX12_string_29 (by decide +kernel) ?_
      refine lv_icmp_lt (tgt := 49) hx hb dX12_string_31 (by decide) (fun c_32 => ?_) (fun c_32 => ?_)
      · have hF_33 := ipos c_32 hF_31
        clear hF_31
        exact Jj_6  s_1.2 hF_33 _ _ hP hS ls (lv_sub hl [0, 1, 2] rfl)
      · have hF_34 := ineg c_32 hF_31
        clear hF_31
        refine lv_iload_n hx hb dX12_string_34 rfl (lv_at hl 2 rfl) ?_
        refine lv_iload_n hx hb dX12_string_35 rfl (lv_at hl 1 rfl) ?_
        refine lv_isub hx hb dX12_string_36 ?_
        refine lv_sipush (v := 201) hx hb dX12_string_37 (by decide +kernel) ?_
        refine lv_icmp_gt (tgt := 49) hx hb dX12_string_40 (by decide) (fun c_35 => ?_) (fun c_35 => ?_)
        · have hF_36 := ipos c_35 hF_34
          clear hF_34
          exact Jj_6  s_1.2 hF_36 _ _ hP hS ls (lv_sub hl [0, 1, 2] rfl)
        · have hF_37 := ineg c_35 hF_34
          clear hF_34
          obtain ⟨x_38, ex_38, hF_39⟩ := bnd_e hF_37
          clear hF_37
          refine lv_iinc (v := x_38) (lv' := [(2, .int x_38), (0, .ref h), (1, .int p0)]) hx hb dX12_string_43 hl (k := 2) rfl (by rw [ex_38]; rfl) (by decide) rfl (fun ls hl => ?_)
          refine lv_goto (tgt := 4) hx hb dX12_string_46 (by decide) ?_
          exact ih_3 (x_38, s_1.2) hF_39 _ _ hP hS ls (lv_sub hl [1, 2, 0] rfl)
theorem dX12_intern_0 : decode cX12_intern 0 = .ok (.iconst 0, 1) := by decide +kernel
theorem dX12_intern_1 : decode cX12_intern 1 = .ok (.istore_n 3, 1) := by decide +kernel
theorem dX12_intern_2 : decode cX12_intern 2 = .ok (.iload_n 3, 1) := by decide +kernel
theorem dX12_intern_3 : decode cX12_intern 3 = .ok (.aload_n 0, 1) := by decide +kernel
theorem dX12_intern_4 : decode cX12_intern 4 = .ok (.getfield 246, 3) := by decide +kernel
theorem dX12_intern_7 : decode cX12_intern 7 = .ok (.if_icmp .ge 84, 3) := by decide +kernel
theorem dX12_intern_10 : decode cX12_intern 10 = .ok (.aload_n 0, 1) := by decide +kernel
theorem dX12_intern_11 : decode cX12_intern 11 = .ok (.getfield 41, 3) := by decide +kernel
theorem dX12_intern_14 : decode cX12_intern 14 = .ok (.iload_n 3, 1) := by decide +kernel
theorem dX12_intern_15 : decode cX12_intern 15 = .ok (.iaload, 1) := by decide +kernel
theorem dX12_intern_16 : decode cX12_intern 16 = .ok (.iload_n 2, 1) := by decide +kernel
theorem dX12_intern_17 : decode cX12_intern 17 = .ok (.if_icmp .ne 7, 3) := by decide +kernel
theorem dX12_intern_20 : decode cX12_intern 20 = .ok (.iconst 1, 1) := by decide +kernel
theorem dX12_intern_21 : decode cX12_intern 21 = .ok (.goto 4, 3) := by decide +kernel
theorem dX12_intern_24 : decode cX12_intern 24 = .ok (.iconst 0, 1) := by decide +kernel
theorem dX12_intern_25 : decode cX12_intern 25 = .ok (.istore 4, 2) := by decide +kernel
theorem dX12_intern_27 : decode cX12_intern 27 = .ok (.iconst 0, 1) := by decide +kernel
theorem dX12_intern_28 : decode cX12_intern 28 = .ok (.istore 5, 2) := by decide +kernel
theorem dX12_intern_30 : decode cX12_intern 30 = .ok (.iload 5, 2) := by decide +kernel
theorem dX12_intern_32 : decode cX12_intern 32 = .ok (.iload_n 2, 1) := by decide +kernel
theorem dX12_intern_33 : decode cX12_intern 33 = .ok (.if_icmp .ge 45, 3) := by decide +kernel
theorem dX12_intern_36 : decode cX12_intern 36 = .ok (.iload 4, 2) := by decide +kernel
theorem dX12_intern_38 : decode cX12_intern 38 = .ok (.ifCond .eq 40, 3) := by decide +kernel
theorem dX12_intern_41 : decode cX12_intern 41 = .ok (.aload_n 0, 1) := by decide +kernel
theorem dX12_intern_42 : decode cX12_intern 42 = .ok (.getfield 38, 3) := by decide +kernel
theorem dX12_intern_45 : decode cX12_intern 45 = .ok (.bipush 12, 2) := by decide +kernel
theorem dX12_intern_47 : decode cX12_intern 47 = .ok (.iload_n 3, 1) := by decide +kernel
theorem dX12_intern_48 : decode cX12_intern 48 = .ok (.imul, 1) := by decide +kernel
theorem dX12_intern_49 : decode cX12_intern 49 = .ok (.iload 5, 2) := by decide +kernel
theorem dX12_intern_51 : decode cX12_intern 51 = .ok (.iadd, 1) := by decide +kernel
theorem dX12_intern_52 : decode cX12_intern 52 = .ok (.baload, 1) := by decide +kernel
theorem dX12_intern_53 : decode cX12_intern 53 = .ok (.aload_n 0, 1) := by decide +kernel
theorem dX12_intern_54 : decode cX12_intern 54 = .ok (.getfield 24, 3) := by decide +kernel
theorem dX12_intern_57 : decode cX12_intern 57 = .ok (.iload_n 1, 1) := by decide +kernel
theorem dX12_intern_58 : decode cX12_intern 58 = .ok (.iload 5, 2) := by decide +kernel
theorem dX12_intern_60 : decode cX12_intern 60 = .ok (.iadd, 1) := by decide +kernel
theorem dX12_intern_61 : decode cX12_intern 61 = .ok (.baload, 1) := by decide +kernel
theorem dX12_intern_62 : decode cX12_intern 62 = .ok (.if_icmp .ne 7, 3) := by decide +kernel
theorem dX12_intern_65 : decode cX12_intern 65 = .ok (.iconst 1, 1) := by decide +kernel
theorem dX12_intern_66 : decode cX12_intern 66 = .ok (.goto 4, 3) := by decide +kernel
theorem dX12_intern_69 : decode cX12_intern 69 = .ok (.iconst 0, 1) := by decide +kernel
theorem dX12_intern_70 : decode cX12_intern 70 = .ok (.istore 4, 2) := by decide +kernel
theorem dX12_intern_72 : decode cX12_intern 72 = .ok (.iinc 5 1, 3) := by decide +kernel
theorem dX12_intern_75 : decode cX12_intern 75 = .ok (.goto (-45), 3) := by decide +kernel
theorem dX12_intern_78 : decode cX12_intern 78 = .ok (.iload 4, 2) := by decide +kernel
theorem dX12_intern_80 : decode cX12_intern 80 = .ok (.ifCond .eq 5, 3) := by decide +kernel
theorem dX12_intern_83 : decode cX12_intern 83 = .ok (.iload_n 3, 1) := by decide +kernel
theorem dX12_intern_84 : decode cX12_intern 84 = .ok (.ireturn, 1) := by decide +kernel
theorem dX12_intern_85 : decode cX12_intern 85 = .ok (.iinc 3 1, 3) := by decide +kernel
theorem dX12_intern_88 : decode cX12_intern 88 = .ok (.goto (-86), 3) := by decide +kernel
theorem dX12_intern_91 : decode cX12_intern 91 = .ok (.iconst 0, 1) := by decide +kernel
theorem dX12_intern_92 : decode cX12_intern 92 = .ok (.istore_n 3, 1) := by decide +kernel
theorem dX12_intern_93 : decode cX12_intern 93 = .ok (.iload_n 3, 1) := by decide +kernel
theorem dX12_intern_94 : decode cX12_intern 94 = .ok (.iload_n 2, 1) := by decide +kernel
theorem dX12_intern_95 : decode cX12_intern 95 = .ok (.if_icmp .ge 31, 3) := by decide +kernel
theorem dX12_intern_98 : decode cX12_intern 98 = .ok (.aload_n 0, 1) := by decide +kernel
theorem dX12_intern_99 : decode cX12_intern 99 = .ok (.getfield 38, 3) := by decide +kernel
theorem dX12_intern_102 : decode cX12_intern 102 = .ok (.bipush 12, 2) := by decide +kernel
theorem dX12_intern_104 : decode cX12_intern 104 = .ok (.aload_n 0, 1) := by decide +kernel
theorem dX12_intern_105 : decode cX12_intern 105 = .ok (.getfield 246, 3) := by decide +kernel
theorem dX12_intern_108 : decode cX12_intern 108 = .ok (.imul, 1) := by decide +kernel
theorem dX12_intern_109 : decode cX12_intern 109 = .ok (.iload_n 3, 1) := by decide +kernel
theorem dX12_intern_110 : decode cX12_intern 110 = .ok (.iadd, 1) := by decide +kernel
theorem dX12_intern_111 : decode cX12_intern 111 = .ok (.aload_n 0, 1) := by decide +kernel
theorem dX12_intern_112 : decode cX12_intern 112 = .ok (.getfield 24, 3) := by decide +kernel
theorem dX12_intern_115 : decode cX12_intern 115 = .ok (.iload_n 1, 1) := by decide +kernel
theorem dX12_intern_116 : decode cX12_intern 116 = .ok (.iload_n 3, 1) := by decide +kernel
theorem dX12_intern_117 : decode cX12_intern 117 = .ok (.iadd, 1) := by decide +kernel
theorem dX12_intern_118 : decode cX12_intern 118 = .ok (.baload, 1) := by decide +kernel
theorem dX12_intern_119 : decode cX12_intern 119 = .ok (.bastore, 1) := by decide +kernel
theorem dX12_intern_120 : decode cX12_intern 120 = .ok (.iinc 3 1, 3) := by decide +kernel
theorem dX12_intern_123 : decode cX12_intern 123 = .ok (.goto (-30), 3) := by decide +kernel
theorem dX12_intern_126 : decode cX12_intern 126 = .ok (.aload_n 0, 1) := by decide +kernel
theorem dX12_intern_127 : decode cX12_intern 127 = .ok (.getfield 41, 3) := by decide +kernel
theorem dX12_intern_130 : decode cX12_intern 130 = .ok (.aload_n 0, 1) := by decide +kernel
theorem dX12_intern_131 : decode cX12_intern 131 = .ok (.getfield 246, 3) := by decide +kernel
theorem dX12_intern_134 : decode cX12_intern 134 = .ok (.iload_n 2, 1) := by decide +kernel
theorem dX12_intern_135 : decode cX12_intern 135 = .ok (.iastore, 1) := by decide +kernel
theorem dX12_intern_136 : decode cX12_intern 136 = .ok (.aload_n 0, 1) := by decide +kernel
theorem dX12_intern_137 : decode cX12_intern 137 = .ok (.dup, 1) := by decide +kernel
theorem dX12_intern_138 : decode cX12_intern 138 = .ok (.getfield 246, 3) := by decide +kernel
theorem dX12_intern_141 : decode cX12_intern 141 = .ok (.dup_x1, 1) := by decide +kernel
theorem dX12_intern_142 : decode cX12_intern 142 = .ok (.iconst 1, 1) := by decide +kernel
theorem dX12_intern_143 : decode cX12_intern 143 = .ok (.iadd, 1) := by decide +kernel
theorem dX12_intern_144 : decode cX12_intern 144 = .ok (.putfield 246, 3) := by decide +kernel
theorem dX12_intern_147 : decode cX12_intern 147 = .ok (.ireturn, 1) := by decide +kernel
def F_X12_intern (p0 : Int32) (p1 : Int32) (σ : MS) : MR :=
  loopF (fun (again_2 : (Int32 × MS) → MR) (s_1 : Int32 × MS) => (
    if (s_1.2.1 13) ≤ s_1.1 then (
      loopF (fun (again_8 : (Int32 × MS) → MR) (s_7 : Int32 × MS) => (
        if p1 ≤ s_7.1 then (
          if (s_7.2.1 13) < 0 ∨ 8000 ≤ (s_7.2.1 13).toNatClampNeg then none else
          bnd (mA s_7.2 12 (upd (s_7.2.2 12) (s_7.2.1 13).toNatClampNeg p1)) fun σ_15 =>
          bnd (mI σ_15 13 ((σ_15.1 13) + 1)) fun σ_17 =>
          some ((σ_15.1 13), σ_17)
        ) else (
          bnd ((p0 + s_7.1)) fun (x_20 : Int32) =>
          if x_20 < 0 ∨ 16000 ≤ x_20.toNatClampNeg then none else
          if ((12 * (s_7.2.1 13)) + s_7.1) < 0 ∨ 96000 ≤ ((12 * (s_7.2.1 13)) + s_7.1).toNatClampNeg then none else
          bnd (mA s_7.2 11 (upd (s_7.2.2 11) ((12 * (s_7.2.1 13)) + s_7.1).toNatClampNeg (vp_nar .byte (s_7.2.2 5 x_20.toNatClampNeg)))) fun σ_26 =>
          bnd (s_7.1 + 1) fun (x_28 : Int32) =>
          again_8 (x_28, σ_26)
        )
      )) FU (0, s_1.2)
    ) else (
      if s_1.1 < 0 ∨ 8000 ≤ s_1.1.toNatClampNeg then none else
      bnd (fun (t_33 : Int32) (σ_34 : MS) => (
        loopF (fun (again_39 : (Int32 × Int32 × MS) → MR) (s_38 : Int32 × Int32 × MS) => (
          bnd (fun  (σ_42 : MS) => (
            if s_38.1 = 0 then (
              bnd (s_1.1 + 1) fun (x_48 : Int32) =>
              again_2 (x_48, σ_42)
            ) else (
              some (s_1.1, σ_42)
            )
          ) : MS → MR) fun j_43 =>
          if p1 ≤ s_38.2.1 then (
            j_43  s_38.2.2
          ) else (
            if s_38.1 = 0 then (
              j_43  s_38.2.2
            ) else (
              bnd (((12 * s_1.1) + s_38.2.1)) fun (x_57 : Int32) =>
              if x_57 < 0 ∨ 96000 ≤ x_57.toNatClampNeg then none else
              bnd ((p0 + s_38.2.1)) fun (x_61 : Int32) =>
              if x_61 < 0 ∨ 16000 ≤ x_61.toNatClampNeg then none else
              bnd (fun (t_65 : Int32) (σ_66 : MS) => (
                bnd (s_38.2.1 + 1) fun (x_70 : Int32) =>
                again_39 (t_65, x_70, σ_66)
              ) : Int32 → MS → MR) fun j_67 =>
              if (s_38.2.2.2 11 x_57.toNatClampNeg) = (s_38.2.2.2 5 x_61.toNatClampNeg) then (
                j_67 1 s_38.2.2
              ) else (
                j_67 0 s_38.2.2
              )
            )
          )
        )) FU (t_33, 0, σ_34)
      ) : Int32 → MS → MR) fun j_35 =>
      if (s_1.2.2 12 s_1.1.toNatClampNeg) = p1 then (
        j_35 1 s_1.2
      ) else (
        j_35 0 s_1.2
      )
    )
  )) FU (0, σ)
set_option maxHeartbeats 4000000 in
set_option maxRecDepth 100000 in
theorem m_X12_intern (l : Launch) (dC : Nat → ClassId) (dI : Nat → Nat → Nat) (cB cC cI cJ cZ cP : ClassId) (h qK qS : Nat) (ad : Nat → Nat) (hDD : mDis cB cI cZ h qK qS ad) (sz : Nat)  (p0 : Int32) (p1 : Int32) (σ : MS) (res : Int32 × MS) (hF : F_X12_intern p0 p1 σ = some res) : Met l yX12_intern (g_ws yX12_intern cX12_intern 6 (some .int)) ({ frames := 1, cells := 0, slots := 0, locals := 40 }) (va_Pc [.ref h, .int p0, .int p1] (m_B (dC, dI) [(cB, .byte), (cC, .char), (cI, .int), (cJ, .long), (cZ, .boolean), (cP, .object "StoryHouse$Play")] sz h ad qK qS (mW cB cI cZ h qK qS ad σ) g_0)) (va_Qi (fun r (_ : Unit) => r = res.1) (fun _ t => va_P (dC, dI) vwCl (mW cB cI cZ h qK qS ad res.2) t.heap) (mCells h ad sz)) 0 0 (mCells h ad sz) := by
  refine Met.ofW (cc := cX12_intern) (maxL := 6) (ret := (some .int)) (by decide) rfl ?_
  intro p e s m args below meth c s₁ B hml hv
  obtain ⟨rfl, hsz, hP, hK, hE, hKS, hX⟩ := hv
  have hx := B.exec
  have hb := B.bytes
  have hr := B.returns
  have hts0 := atoms_spec (ws := g_ws yX12_intern cX12_intern 6 (some .int)) B.pre
  have hts : ∀ w ∈ lw_good, w.before ([.ref h, .int p0, .int p1] : List Value).toArray s = true := fun w z => hts0 w (List.mem_cons_of_mem _ z)
  have hown : s.vm.findClass RX12 = some m.cls := findClass_of_methodNamed B.named
  have hlocks := B.notSynchronized
  have hS : va_S (mCells h ad sz) s.heap s.heap [] := va_S.rf
  have hl := lv_entry ([.ref h, .int p0, .int p1]) (n := 6) (Nat.le_of_ble_eq_true rfl)
  rw [lg_entry_eq]
  generalize (lg_sl ([.ref h, .int p0, .int p1]) ++ List.replicate (6 - (lg_sl ([.ref h, .int p0, .int p1])).length) Slot.unset).toArray = ls at hl ⊢
  have hl : lv_has ls 6 [(0, .ref h), (1, .int p0), (2, .int p1)] := hl
  unfold F_X12_intern at hF
  refine lv_iconst (v := 0) hx hb dX12_intern_0 (by decide +kernel) ?_
  refine lv_istore_n (lv' := [(3, .int 0), (0, .ref h), (1, .int p0), (2, .int p1)]) hx hb dX12_intern_1 rfl hl (by decide) rfl (fun ls hl => ?_)
  refine loopF_ind (P := fun (s_1 : Int32 × MS) => ∀ (H : Heap) (locs : List Loc), va_P (dC, dI) vwCl (mW cB cI cZ h qK qS ad s_1.2) H → va_S (mCells h ad sz) s.heap H locs → ∀ ls : Array Slot, lv_has ls 6 [(0, .ref h), (1, .int p0), (2, .int p1), (3, .int s_1.1)] → W p l e (headSpec (g_ws yX12_intern cX12_intern 6 (some .int)) { frames := 1, cells := 0, slots := 0, locals := 40 }).room s m ([.ref h, .int p0, .int p1] : List Value).toArray below meth c H locs 0 0 (MQ below (va_Qi (fun r (_ : Unit) => r = res.1) (fun _ t => va_P (dC, dI) vwCl (mW cB cI cZ h qK qS ad res.2) t.heap) (mCells h ad sz)) ([.ref h, .int p0, .int p1] : List Value).toArray s 0 0 (mCells h ad sz)) (F0 m 2 ls [])) ?_ _ _ hF _ _ hP hS ls (lv_sub hl [1, 2, 3, 0] rfl)
  intro again_2 s_1 ih_3 hF_4
  intro H locs hP hS ls hl
  refine lv_iload_n hx hb dX12_intern_2 rfl (lv_at hl 3 rfl) ?_
  refine lv_aload_n hx hb dX12_intern_3 rfl (lv_at hl 0 rfl) ?_
  refine va_get (D := (dC, dI)) (ci := 12) (v := .int (s_1.2.1 13)) (C := RX12) (T := TX12) (N := 123) hx hb hts ii_X12 hown hK hP 0 rfl rfl 13 (by decide) (hts (.fieldLink RX12 246 "StoryHouseModel" "names" "I") wq_1369) (fun _ h9 => h9) rfl dX12_intern_4 ?_
  refine lv_icmp_ge (tgt := 91) hx hb dX12_intern_7 (by decide) (fun c_5 => ?_) (fun c_5 => ?_)
  · have hF_6 := ipos c_5 hF_4
    clear hF_4
    refine lv_iconst (v := 0) hx hb dX12_intern_91 (by decide +kernel) ?_
    refine lv_istore_n (lv' := [(3, .int 0), (0, .ref h), (1, .int p0), (2, .int p1)]) hx hb dX12_intern_92 rfl hl (by decide) rfl (fun ls hl => ?_)
    refine loopF_ind (P := fun (s_7 : Int32 × MS) => ∀ (H : Heap) (locs : List Loc), va_P (dC, dI) vwCl (mW cB cI cZ h qK qS ad s_7.2) H → va_S (mCells h ad sz) s.heap H locs → ∀ ls : Array Slot, lv_has ls 6 [(0, .ref h), (1, .int p0), (2, .int p1), (3, .int s_7.1)] → W p l e (headSpec (g_ws yX12_intern cX12_intern 6 (some .int)) { frames := 1, cells := 0, slots := 0, locals := 40 }).room s m ([.ref h, .int p0, .int p1] : List Value).toArray below meth c H locs 0 0 (MQ below (va_Qi (fun r (_ : Unit) => r = res.1) (fun _ t => va_P (dC, dI) vwCl (mW cB cI cZ h qK qS ad res.2) t.heap) (mCells h ad sz)) ([.ref h, .int p0, .int p1] : List Value).toArray s 0 0 (mCells h ad sz)) (F0 m 93 ls [])) ?_ _ _ hF_6 _ _ hP hS ls (lv_sub hl [1, 2, 3, 0] rfl)
    intro again_8 s_7 ih_9 hF_10
    intro H locs hP hS ls hl
    refine lv_iload_n hx hb dX12_intern_93 rfl (lv_at hl 3 rfl) ?_
    refine lv_iload_n hx hb dX12_intern_94 rfl (lv_at hl 2 rfl) ?_
    refine lv_icmp_ge (tgt := 126) hx hb dX12_intern_95 (by decide) (fun c_11 => ?_) (fun c_11 => ?_)
    · have hF_12 := ipos c_11 hF_10
      clear hF_10
      refine lv_aload_n hx hb dX12_intern_126 rfl (lv_at hl 0 rfl) ?_
      refine va_get (D := (dC, dI)) (ci := 12) (v := .ref (ad 12)) (C := RX12) (T := TX12) (N := 123) hx hb hts ii_X12 hown hK hP 0 rfl rfl 12 (by decide) (hts (.fieldLink RX12 41 "StoryHouseModel" "nameSize" "[I") wq_1368) (fun _ h9 => h9) rfl dX12_intern_127 ?_
      refine lv_aload_n hx hb dX12_intern_130 rfl (lv_at hl 0 rfl) ?_
      refine va_get (D := (dC, dI)) (ci := 12) (v := .int (s_7.2.1 13)) (C := RX12) (T := TX12) (N := 123) hx hb hts ii_X12 hown hK hP 0 rfl rfl 13 (by decide) (hts (.fieldLink RX12 246 "StoryHouseModel" "names" "I") wq_1369) (fun _ h9 => h9) rfl dX12_intern_131 ?_
      refine lv_iload_n hx hb dX12_intern_134 rfl (lv_at hl 2 rfl) ?_
      obtain ⟨g_13, hF_14⟩ := nif_e hF_12
      clear hF_12
      obtain ⟨σ_15, eσ_15, hF_16⟩ := bnd_e hF_14
      clear hF_14
      refine m_iast (σ' := σ_15) hx hb hK hP (hDD _ _) hS (q0 := 7) (t0 := 2) (f := s_7.2.2 12) rfl rfl (by rw [eσ_15]; exact mwA_12) g_13 dX12_intern_135 (fun H locs hP hS => ?_)
      refine lv_aload_n hx hb dX12_intern_136 rfl (lv_at hl 0 rfl) ?_
      refine lv_dup hx hb dX12_intern_137 rfl ?_
      refine va_get (D := (dC, dI)) (ci := 12) (v := .int (σ_15.1 13)) (C := RX12) (T := TX12) (N := 123) hx hb hts ii_X12 hown hK hP 0 rfl rfl 13 (by decide) (hts (.fieldLink RX12 246 "StoryHouseModel" "names" "I") wq_1369) (fun _ h9 => h9) rfl dX12_intern_138 ?_
      refine lv_dup_x1 hx hb dX12_intern_141 rfl rfl ?_
      refine lv_iconst (v := 1) hx hb dX12_intern_142 (by decide +kernel) ?_
      refine lv_iadd hx hb dX12_intern_143 ?_
      obtain ⟨σ_17, eσ_17, hF_18⟩ := bnd_e hF_16
      clear hF_16
      refine m_put (σ' := σ_17) (v := .int ((σ_15.1 13) + 1)) (ty := .int) hx hb hts hown hK hP (hDD _ _) hS (by rw [eσ_17]; exact mwI_13) (k := 13) (by decide) (hts (.fieldLink RX12 246 "StoryHouseModel" "names" "I") wq_1369) (fun _ h9 => h9) rfl (by decide +kernel) rfl rfl dX12_intern_144 (fun H locs hP hS => ?_)
      have h9 := Option.some.inj hF_18
      subst h9
      exact W.iret (v := (σ_15.1 13)) hx hb hr (fun t ht hW => ⟨⟨(σ_15.1 13), (), rfl, rfl, m_end ht hP⟩, hS.F ht⟩) hS.2.2 dX12_intern_147
    · have hF_19 := ineg c_11 hF_10
      clear hF_10
      refine lv_aload_n hx hb dX12_intern_98 rfl (lv_at hl 0 rfl) ?_
      refine va_get (D := (dC, dI)) (ci := 12) (v := .ref (ad 11)) (C := RX12) (T := TX12) (N := 123) hx hb hts ii_X12 hown hK hP 0 rfl rfl 11 (by decide) (hts (.fieldLink RX12 38 "StoryHouseModel" "nameBytes" "[B") wq_1367) (fun _ h9 => h9) rfl dX12_intern_99 ?_
      refine lv_bipush (v := 12) hx hb dX12_intern_102 (by decide +kernel) ?_
      refine lv_aload_n hx hb dX12_intern_104 rfl (lv_at hl 0 rfl) ?_
      refine va_get (D := (dC, dI)) (ci := 12) (v := .int (s_7.2.1 13)) (C := RX12) (T := TX12) (N := 123) hx hb hts ii_X12 hown hK hP 0 rfl rfl 13 (by decide) (hts (.fieldLink RX12 246 "StoryHouseModel" "names" "I") wq_1369) (fun _ h9 => h9) rfl dX12_intern_105 ?_
      refine lv_imul hx hb dX12_intern_108 ?_
      refine lv_iload_n hx hb dX12_intern_109 rfl (lv_at hl 3 rfl) ?_
      refine lv_iadd hx hb dX12_intern_110 ?_
      refine lv_aload_n hx hb dX12_intern_111 rfl (lv_at hl 0 rfl) ?_
      refine va_get (D := (dC, dI)) (ci := 12) (v := .ref (ad 5)) (C := RX12) (T := TX12) (N := 123) hx hb hts ii_X12 hown hK hP 0 rfl rfl 5 (by decide) (hts (.fieldLink RX12 24 "StoryHouseModel" "source" "[B") wq_1361) (fun _ h9 => h9) rfl dX12_intern_112 ?_
      refine lv_iload_n hx hb dX12_intern_115 rfl (lv_at hl 1 rfl) ?_
      refine lv_iload_n hx hb dX12_intern_116 rfl (lv_at hl 3 rfl) ?_
      refine lv_iadd hx hb dX12_intern_117 ?_
      obtain ⟨x_20, ex_20, hF_21⟩ := bnd_e hF_19
      clear hF_19
      refine m_top ex_20 ?_
      obtain ⟨g_22, hF_23⟩ := nif_e hF_21
      clear hF_21
      refine va_bald (f := s_7.2.2 5) hx hb hK hP 2 0 rfl rfl g_22 dX12_intern_118 ?_
      obtain ⟨g_24, hF_25⟩ := nif_e hF_23
      clear hF_23
      obtain ⟨σ_26, eσ_26, hF_27⟩ := bnd_e hF_25
      clear hF_25
      refine m_bast (σ' := σ_26) hx hb hK hP (hDD _ _) hS (q0 := 6) (t0 := 0) (f := s_7.2.2 11) rfl rfl (by rw [eσ_26]; exact mwA_11) g_24 dX12_intern_119 (fun H locs hP hS => ?_)
      obtain ⟨x_28, ex_28, hF_29⟩ := bnd_e hF_27
      clear hF_27
      refine lv_iinc (v := x_28) (lv' := [(3, .int x_28), (0, .ref h), (1, .int p0), (2, .int p1)]) hx hb dX12_intern_120 hl (k := 3) rfl (by rw [ex_28]; rfl) (by decide) rfl (fun ls hl => ?_)
      refine lv_goto (tgt := 93) hx hb dX12_intern_123 (by decide) ?_
      exact ih_9 (x_28, σ_26) hF_29 _ _ hP hS ls (lv_sub hl [1, 2, 3, 0] rfl)
  · have hF_30 := ineg c_5 hF_4
    clear hF_4
    refine lv_aload_n hx hb dX12_intern_10 rfl (lv_at hl 0 rfl) ?_
    refine va_get (D := (dC, dI)) (ci := 12) (v := .ref (ad 12)) (C := RX12) (T := TX12) (N := 123) hx hb hts ii_X12 hown hK hP 0 rfl rfl 12 (by decide) (hts (.fieldLink RX12 41 "StoryHouseModel" "nameSize" "[I") wq_1368) (fun _ h9 => h9) rfl dX12_intern_11 ?_
    refine lv_iload_n hx hb dX12_intern_14 rfl (lv_at hl 3 rfl) ?_
    obtain ⟨g_31, hF_32⟩ := nif_e hF_30
    clear hF_30
    refine va_iald (f := s_1.2.2 12) hx hb hK hP 7 2 rfl rfl g_31 dX12_intern_15 ?_
    refine lv_iload_n hx hb dX12_intern_16 rfl (lv_at hl 2 rfl) ?_
    obtain ⟨j_35, ej_35, hF_36⟩ := bnd_e hF_32
    clear hF_32
    have Jj_35 : ∀ (t_33 : Int32) (σ_34 : MS), j_35 t_33 σ_34 = some res → ∀ (H : Heap) (locs : List Loc), va_P (dC, dI) vwCl (mW cB cI cZ h qK qS ad σ_34) H → va_S (mCells h ad sz) s.heap H locs → ∀ ls : Array Slot, lv_has ls 6 [(0, .ref h), (1, .int p0), (2, .int p1), (3, .int s_1.1)] → W p l e (headSpec (g_ws yX12_intern cX12_intern 6 (some .int)) { frames := 1, cells := 0, slots := 0, locals := 40 }).room s m ([.ref h, .int p0, .int p1] : List Value).toArray below meth c H locs 0 0 (MQ below (va_Qi (fun r (_ : Unit) => r = res.1) (fun _ t => va_P (dC, dI) vwCl (mW cB cI cZ h qK qS ad res.2) t.heap) (mCells h ad sz)) ([.ref h, .int p0, .int p1] : List Value).toArray s 0 0 (mCells h ad sz)) (F0 m 25 ls [.int t_33]) := by
      intro t_33 σ_34 hF0 H locs hP hS ls hl
      subst ej_35
      have hF_37 := hF0
      clear hF0
      refine lv_istore (lv' := [(4, .int t_33), (0, .ref h), (1, .int p0), (2, .int p1), (3, .int s_1.1)]) hx hb dX12_intern_25 hl (by decide) rfl (fun ls hl => ?_)
      refine lv_iconst (v := 0) hx hb dX12_intern_27 (by decide +kernel) ?_
      refine lv_istore (lv' := [(5, .int 0), (4, .int t_33), (0, .ref h), (1, .int p0), (2, .int p1), (3, .int s_1.1)]) hx hb dX12_intern_28 hl (by decide) rfl (fun ls hl => ?_)
      refine loopF_ind (P := fun (s_38 : Int32 × Int32 × MS) => ∀ (H : Heap) (locs : List Loc), va_P (dC, dI) vwCl (mW cB cI cZ h qK qS ad s_38.2.2) H → va_S (mCells h ad sz) s.heap H locs → ∀ ls : Array Slot, lv_has ls 6 [(0, .ref h), (1, .int p0), (2, .int p1), (3, .int s_1.1), (4, .int s_38.1), (5, .int s_38.2.1)] → W p l e (headSpec (g_ws yX12_intern cX12_intern 6 (some .int)) { frames := 1, cells := 0, slots := 0, locals := 40 }).room s m ([.ref h, .int p0, .int p1] : List Value).toArray below meth c H locs 0 0 (MQ below (va_Qi (fun r (_ : Unit) => r = res.1) (fun _ t => va_P (dC, dI) vwCl (mW cB cI cZ h qK qS ad res.2) t.heap) (mCells h ad sz)) ([.ref h, .int p0, .int p1] : List Value).toArray s 0 0 (mCells h ad sz)) (F0 m 30 ls [])) ?_ _ _ hF_37 _ _ hP hS ls (lv_sub hl [2, 3, 4, 5, 1, 0] rfl)
      intro again_39 s_38 ih_40 hF_41
      intro H locs hP hS ls hl
      refine lv_iload hx hb dX12_intern_30 (lv_at hl 5 rfl) ?_
      refine lv_iload_n hx hb dX12_intern_32 rfl (lv_at hl 2 rfl) ?_
      obtain ⟨j_43, ej_43, hF_44⟩ := bnd_e hF_41
      clear hF_41
      have Jj_43 : ∀  (σ_42 : MS), j_43  σ_42 = some res → ∀ (H : Heap) (locs : List Loc), va_P (dC, dI) vwCl (mW cB cI cZ h qK qS ad σ_42) H → va_S (mCells h ad sz) s.heap H locs → ∀ ls : Array Slot, lv_has ls 6 [(0, .ref h), (1, .int p0), (2, .int p1), (3, .int s_1.1), (4, .int s_38.1)] → W p l e (headSpec (g_ws yX12_intern cX12_intern 6 (some .int)) { frames := 1, cells := 0, slots := 0, locals := 40 }).room s m ([.ref h, .int p0, .int p1] : List Value).toArray below meth c H locs 0 0 (MQ below (va_Qi (fun r (_ : Unit) => r = res.1) (fun _ t => va_P (dC, dI) vwCl (mW cB cI cZ h qK qS ad res.2) t.heap) (mCells h ad sz)) ([.ref h, .int p0, .int p1] : List Value).toArray s 0 0 (mCells h ad sz)) (F0 m 78 ls []) := by
        intro  σ_42 hF0 H locs hP hS ls hl
        subst ej_43
        have hF_45 := hF0
        clear hF0
        refine lv_iload hx hb dX12_intern_78 (lv_at hl 4 rfl) ?_
        refine lv_if_eq (tgt := 85) hx hb dX12_intern_80 (by decide) (fun c_46 => ?_) (fun c_46 => ?_)
        · have hF_47 := ipos c_46 hF_45
          clear hF_45
          obtain ⟨x_48, ex_48, hF_49⟩ := bnd_e hF_47
          clear hF_47
          refine lv_iinc (v := x_48) (lv' := [(3, .int x_48), (0, .ref h), (1, .int p0), (2, .int p1), (4, .int s_38.1)]) hx hb dX12_intern_85 hl (k := 3) rfl (by rw [ex_48]; rfl) (by decide) rfl (fun ls hl => ?_)
          refine lv_goto (tgt := 2) hx hb dX12_intern_88 (by decide) ?_
          exact ih_3 (x_48, σ_42) hF_49 _ _ hP hS ls (lv_sub hl [1, 2, 3, 0] rfl)
        · have hF_50 := ineg c_46 hF_45
          clear hF_45
          refine lv_iload_n hx hb dX12_intern_83 rfl (lv_at hl 3 rfl) ?_
          have h9 := Option.some.inj hF_50
          subst h9
          exact W.iret (v := s_1.1) hx hb hr (fun t ht hW => ⟨⟨s_1.1, (), rfl, rfl, m_end ht hP⟩, hS.F ht⟩) hS.2.2 dX12_intern_84
      refine lv_icmp_ge (tgt := 78) hx hb dX12_intern_33 (by decide) (fun c_51 => ?_) (fun c_51 => ?_)
      · have hF_52 := ipos c_51 hF_44
        clear hF_44
        exact Jj_43  s_38.2.2 hF_52 _ _ hP hS ls (lv_sub hl [0, 1, 2, 3, 4] rfl)
      · have hF_53 := ineg c_51 hF_44
        clear hF_44
        refine lv_iload hx hb dX12_intern_36 (lv_at hl 4 rfl) ?_
        refine lv_if_eq (tgt := 78) hx hb dX12_intern_38 (by decide) (fun c_54 => ?_) (fun c_54 => ?_)
        · have hF_55 := ipos c_54 hF_53
          clear hF_53
          exact Jj_43  s_38.2.2 hF_55 _ _ hP hS ls (lv_sub hl [0, 1, 2, 3, 4] rfl)
        · have hF_56 := ineg c_54 hF_53
          clear hF_53
          refine lv_aload_n hx hb dX12_intern_41 rfl (lv_at hl 0 rfl) ?_
          refine va_get (D := (dC, dI)) (ci := 12) (v := .ref (ad 11)) (C := RX12) (T := TX12) (N := 123) hx hb hts ii_X12 hown hK hP 0 rfl rfl 11 (by decide) (hts (.fieldLink RX12 38 "StoryHouseModel" "nameBytes" "[B") wq_1367) (fun _ h9 => h9) rfl dX12_intern_42 ?_
          refine lv_bipush (v := 12) hx hb dX12_intern_45 (by decide +kernel) ?_
          refine lv_iload_n hx hb dX12_intern_47 rfl (lv_at hl 3 rfl) ?_
          refine lv_imul hx hb dX12_intern_48 ?_
          refine lv_iload hx hb dX12_intern_49 (lv_at hl 5 rfl) ?_
          refine lv_iadd hx hb dX12_intern_51 ?_
          obtain ⟨x_57, ex_57, hF_58⟩ := bnd_e hF_56
          clear hF_56
          refine m_top ex_57 ?_
          obtain ⟨g_59, hF_60⟩ := nif_e hF_58
          clear hF_58
          refine va_bald (f := s_38.2.2.2 11) hx hb hK hP 6 0 rfl rfl g_59 dX12_intern_52 ?_
          refine lv_aload_n hx hb dX12_intern_53 rfl (lv_at hl 0 rfl) ?_
          refine va_get (D := (dC, dI)) (ci := 12) (v := .ref (ad 5)) (C := RX12) (T := TX12) (N := 123) hx hb hts ii_X12 hown hK hP 0 rfl rfl 5 (by decide) (hts (.fieldLink RX12 24 "StoryHouseModel" "source" "[B") wq_1361) (fun _ h9 => h9) rfl dX12_intern_54 ?_
          refine lv_iload_n hx hb dX12_intern_57 rfl (lv_at hl 1 rfl) ?_
          refine lv_iload hx hb dX12_intern_58 (lv_at hl 5 rfl) ?_
          refine lv_iadd hx hb dX12_intern_60 ?_
          obtain ⟨x_61, ex_61, hF_62⟩ := bnd_e hF_60
          clear hF_60
          refine m_top ex_61 ?_
          obtain ⟨g_63, hF_64⟩ := nif_e hF_62
          clear hF_62
          refine va_bald (f := s_38.2.2.2 5) hx hb hK hP 2 0 rfl rfl g_63 dX12_intern_61 ?_
          obtain ⟨j_67, ej_67, hF_68⟩ := bnd_e hF_64
          clear hF_64
          have Jj_67 : ∀ (t_65 : Int32) (σ_66 : MS), j_67 t_65 σ_66 = some res → ∀ (H : Heap) (locs : List Loc), va_P (dC, dI) vwCl (mW cB cI cZ h qK qS ad σ_66) H → va_S (mCells h ad sz) s.heap H locs → ∀ ls : Array Slot, lv_has ls 6 [(0, .ref h), (1, .int p0), (2, .int p1), (3, .int s_1.1), (5, .int s_38.2.1)] → W p l e (headSpec (g_ws yX12_intern cX12_intern 6 (some .int)) { frames := 1, cells := 0, slots := 0, locals := 40 }).room s m ([.ref h, .int p0, .int p1] : List Value).toArray below meth c H locs 0 0 (MQ below (va_Qi (fun r (_ : Unit) => r = res.1) (fun _ t => va_P (dC, dI) vwCl (mW cB cI cZ h qK qS ad res.2) t.heap) (mCells h ad sz)) ([.ref h, .int p0, .int p1] : List Value).toArray s 0 0 (mCells h ad sz)) (F0 m 70 ls [.int t_65]) := by
            intro t_65 σ_66 hF0 H locs hP hS ls hl
            subst ej_67
            have hF_69 := hF0
            clear hF0
            refine lv_istore (lv' := [(4, .int t_65), (0, .ref h), (1, .int p0), (2, .int p1), (3, .int s_1.1), (5, .int s_38.2.1)]) hx hb dX12_intern_70 hl (by decide) rfl (fun ls hl => ?_)
            obtain ⟨x_70, ex_70, hF_71⟩ := bnd_e hF_69
            clear hF_69
            refine lv_iinc (v := x_70) (lv' := [(5, .int x_70), (4, .int t_65), (0, .ref h), (1, .int p0), (2, .int p1), (3, .int s_1.1)]) hx hb dX12_intern_72 hl (k := 5) rfl (by rw [ex_70]; rfl) (by decide) rfl (fun ls hl => ?_)
            refine lv_goto (tgt := 30) hx hb dX12_intern_75 (by decide) ?_
            exact ih_40 (t_65, x_70, σ_66) hF_71 _ _ hP hS ls (lv_sub hl [2, 3, 4, 5, 1, 0] rfl)
          refine lv_icmp_ne (tgt := 69) hx hb dX12_intern_62 (by decide) (fun c_72 => ?_) (fun c_72 => ?_)
          · have hF_74 := ineg c_72 hF_68
            clear hF_68
            refine lv_iconst (v := 0) hx hb dX12_intern_69 (by decide +kernel) ?_
            exact Jj_67 0 s_38.2.2 hF_74 _ _ hP hS ls (lv_sub hl [0, 1, 2, 3, 5] rfl)
          · have hF_73 := ipos c_72 hF_68
            clear hF_68
            refine lv_iconst (v := 1) hx hb dX12_intern_65 (by decide +kernel) ?_
            refine lv_goto (tgt := 70) hx hb dX12_intern_66 (by decide) ?_
            exact Jj_67 1 s_38.2.2 hF_73 _ _ hP hS ls (lv_sub hl [0, 1, 2, 3, 5] rfl)
    refine lv_icmp_ne (tgt := 24) hx hb dX12_intern_17 (by decide) (fun c_75 => ?_) (fun c_75 => ?_)
    · have hF_77 := ineg c_75 hF_36
      clear hF_36
      refine lv_iconst (v := 0) hx hb dX12_intern_24 (by decide +kernel) ?_
      exact Jj_35 0 s_1.2 hF_77 _ _ hP hS ls (lv_sub hl [0, 1, 2, 3] rfl)
    · have hF_76 := ipos c_75 hF_36
      clear hF_36
      refine lv_iconst (v := 1) hx hb dX12_intern_20 (by decide +kernel) ?_
      refine lv_goto (tgt := 25) hx hb dX12_intern_21 (by decide) ?_
      exact Jj_35 1 s_1.2 hF_76 _ _ hP hS ls (lv_sub hl [0, 1, 2, 3] rfl)
theorem dX12_keyOf_0 : decode cX12_keyOf 0 = .ok (.iconst 1, 1) := by decide +kernel
theorem dX12_keyOf_1 : decode cX12_keyOf 1 = .ok (.istore_n 3, 1) := by decide +kernel
theorem dX12_keyOf_2 : decode cX12_keyOf 2 = .ok (.iconst 0, 1) := by decide +kernel
theorem dX12_keyOf_3 : decode cX12_keyOf 3 = .ok (.istore 4, 2) := by decide +kernel
theorem dX12_keyOf_5 : decode cX12_keyOf 5 = .ok (.iload_n 3, 1) := by decide +kernel
theorem dX12_keyOf_6 : decode cX12_keyOf 6 = .ok (.ldc 7, 2) := by decide +kernel
theorem dX12_keyOf_8 : decode cX12_keyOf 8 = .ok (.invokevirtual 283, 3) := by decide +kernel
theorem dX12_keyOf_11 : decode cX12_keyOf 11 = .ok (.if_icmp .ge 106, 3) := by decide +kernel
theorem dX12_keyOf_14 : decode cX12_keyOf 14 = .ok (.iload_n 3, 1) := by decide +kernel
theorem dX12_keyOf_15 : decode cX12_keyOf 15 = .ok (.istore 5, 2) := by decide +kernel
theorem dX12_keyOf_17 : decode cX12_keyOf 17 = .ok (.ldc 7, 2) := by decide +kernel
theorem dX12_keyOf_19 : decode cX12_keyOf 19 = .ok (.iload 5, 2) := by decide +kernel
theorem dX12_keyOf_21 : decode cX12_keyOf 21 = .ok (.invokevirtual 289, 3) := by decide +kernel
theorem dX12_keyOf_24 : decode cX12_keyOf 24 = .ok (.bipush 32, 2) := by decide +kernel
theorem dX12_keyOf_26 : decode cX12_keyOf 26 = .ok (.if_icmp .eq 9, 3) := by decide +kernel
theorem dX12_keyOf_29 : decode cX12_keyOf 29 = .ok (.iinc 5 1, 3) := by decide +kernel
theorem dX12_keyOf_32 : decode cX12_keyOf 32 = .ok (.goto (-15), 3) := by decide +kernel
theorem dX12_keyOf_35 : decode cX12_keyOf 35 = .ok (.iload 5, 2) := by decide +kernel
theorem dX12_keyOf_37 : decode cX12_keyOf 37 = .ok (.iload_n 3, 1) := by decide +kernel
theorem dX12_keyOf_38 : decode cX12_keyOf 38 = .ok (.isub, 1) := by decide +kernel
theorem dX12_keyOf_39 : decode cX12_keyOf 39 = .ok (.iload_n 2, 1) := by decide +kernel
theorem dX12_keyOf_40 : decode cX12_keyOf 40 = .ok (.if_icmp .ne 7, 3) := by decide +kernel
theorem dX12_keyOf_43 : decode cX12_keyOf 43 = .ok (.iconst 1, 1) := by decide +kernel
theorem dX12_keyOf_44 : decode cX12_keyOf 44 = .ok (.goto 4, 3) := by decide +kernel
theorem dX12_keyOf_47 : decode cX12_keyOf 47 = .ok (.iconst 0, 1) := by decide +kernel
theorem dX12_keyOf_48 : decode cX12_keyOf 48 = .ok (.istore 6, 2) := by decide +kernel
theorem dX12_keyOf_50 : decode cX12_keyOf 50 = .ok (.iconst 0, 1) := by decide +kernel
theorem dX12_keyOf_51 : decode cX12_keyOf 51 = .ok (.istore 7, 2) := by decide +kernel
theorem dX12_keyOf_53 : decode cX12_keyOf 53 = .ok (.iload 7, 2) := by decide +kernel
theorem dX12_keyOf_55 : decode cX12_keyOf 55 = .ok (.iload_n 2, 1) := by decide +kernel
theorem dX12_keyOf_56 : decode cX12_keyOf 56 = .ok (.if_icmp .ge 42, 3) := by decide +kernel
theorem dX12_keyOf_59 : decode cX12_keyOf 59 = .ok (.iload 6, 2) := by decide +kernel
theorem dX12_keyOf_61 : decode cX12_keyOf 61 = .ok (.ifCond .eq 37, 3) := by decide +kernel
theorem dX12_keyOf_64 : decode cX12_keyOf 64 = .ok (.ldc 7, 2) := by decide +kernel
theorem dX12_keyOf_66 : decode cX12_keyOf 66 = .ok (.iload_n 3, 1) := by decide +kernel
theorem dX12_keyOf_67 : decode cX12_keyOf 67 = .ok (.iload 7, 2) := by decide +kernel
theorem dX12_keyOf_69 : decode cX12_keyOf 69 = .ok (.iadd, 1) := by decide +kernel
theorem dX12_keyOf_70 : decode cX12_keyOf 70 = .ok (.invokevirtual 289, 3) := by decide +kernel
theorem dX12_keyOf_73 : decode cX12_keyOf 73 = .ok (.aload_n 0, 1) := by decide +kernel
theorem dX12_keyOf_74 : decode cX12_keyOf 74 = .ok (.getfield 24, 3) := by decide +kernel
theorem dX12_keyOf_77 : decode cX12_keyOf 77 = .ok (.iload_n 1, 1) := by decide +kernel
theorem dX12_keyOf_78 : decode cX12_keyOf 78 = .ok (.iload 7, 2) := by decide +kernel
theorem dX12_keyOf_80 : decode cX12_keyOf 80 = .ok (.iadd, 1) := by decide +kernel
theorem dX12_keyOf_81 : decode cX12_keyOf 81 = .ok (.baload, 1) := by decide +kernel
theorem dX12_keyOf_82 : decode cX12_keyOf 82 = .ok (.if_icmp .ne 7, 3) := by decide +kernel
theorem dX12_keyOf_85 : decode cX12_keyOf 85 = .ok (.iconst 1, 1) := by decide +kernel
theorem dX12_keyOf_86 : decode cX12_keyOf 86 = .ok (.goto 4, 3) := by decide +kernel
theorem dX12_keyOf_89 : decode cX12_keyOf 89 = .ok (.iconst 0, 1) := by decide +kernel
theorem dX12_keyOf_90 : decode cX12_keyOf 90 = .ok (.istore 6, 2) := by decide +kernel
theorem dX12_keyOf_92 : decode cX12_keyOf 92 = .ok (.iinc 7 1, 3) := by decide +kernel
theorem dX12_keyOf_95 : decode cX12_keyOf 95 = .ok (.goto (-42), 3) := by decide +kernel
theorem dX12_keyOf_98 : decode cX12_keyOf 98 = .ok (.iload 6, 2) := by decide +kernel
theorem dX12_keyOf_100 : decode cX12_keyOf 100 = .ok (.ifCond .eq 6, 3) := by decide +kernel
theorem dX12_keyOf_103 : decode cX12_keyOf 103 = .ok (.iload 4, 2) := by decide +kernel
theorem dX12_keyOf_105 : decode cX12_keyOf 105 = .ok (.ireturn, 1) := by decide +kernel
theorem dX12_keyOf_106 : decode cX12_keyOf 106 = .ok (.iinc 4 1, 3) := by decide +kernel
theorem dX12_keyOf_109 : decode cX12_keyOf 109 = .ok (.iload 5, 2) := by decide +kernel
theorem dX12_keyOf_111 : decode cX12_keyOf 111 = .ok (.iconst 1, 1) := by decide +kernel
theorem dX12_keyOf_112 : decode cX12_keyOf 112 = .ok (.iadd, 1) := by decide +kernel
theorem dX12_keyOf_113 : decode cX12_keyOf 113 = .ok (.istore_n 3, 1) := by decide +kernel
theorem dX12_keyOf_114 : decode cX12_keyOf 114 = .ok (.goto (-109), 3) := by decide +kernel
theorem dX12_keyOf_117 : decode cX12_keyOf 117 = .ok (.iconst (-1), 1) := by decide +kernel
theorem dX12_keyOf_118 : decode cX12_keyOf 118 = .ok (.ireturn, 1) := by decide +kernel
def F_X12_keyOf (p0 : Int32) (p1 : Int32) (σ : MS) : MR :=
  loopF (fun (again_2 : (Int32 × Int32 × MS) → MR) (s_1 : Int32 × Int32 × MS) => (
    bnd ((Int32.ofNat (([32, 97, 108, 111, 110, 101, 32, 97, 108, 108, 32, 97, 110, 100, 32, 97, 110, 121, 32, 97, 114, 114, 97, 121, 32, 100, 97, 114, 107, 32, 100, 101, 102, 32, 100, 111, 110, 101, 32, 100, 111, 119, 110, 32, 101, 97, 99, 104, 32, 101, 97, 115, 116, 32, 101, 108, 115, 101, 32, 101, 120, 105, 116, 32, 102, 105, 114, 115, 116, 32, 104, 97, 115, 32, 104, 101, 114, 101, 32, 104, 111, 108, 100, 101, 114, 32, 105, 102, 32, 105, 110, 32, 108, 101, 116, 32, 108, 111, 115, 101, 32, 109, 111, 118, 101, 32, 110, 97, 109, 101, 32, 110, 101, 120, 116, 32, 110, 111, 117, 110, 32, 110, 111, 114, 116, 104, 32, 110, 111, 116, 32, 111, 110, 32, 111, 110, 101, 32, 111, 114, 32, 112, 108, 97, 121, 101, 114, 32, 114, 97, 110, 100, 111, 109, 32, 114, 101, 109, 111, 118, 101, 32, 114, 101, 116, 117, 114, 110, 32, 114, 111, 111, 109, 32, 115, 97, 121, 32, 115, 101, 99, 111, 110, 100, 32, 115, 101, 116, 32, 99, 108, 101, 97, 114, 32, 115, 111, 117, 116, 104, 32, 116, 101, 120, 116, 32, 116, 104, 105, 110, 103, 32, 116, 111, 32, 116, 119, 111, 32, 117, 112, 32, 118, 97, 114, 32, 118, 101, 114, 98, 32, 119, 101, 115, 116, 32, 119, 104, 105, 108, 101, 32, 119, 105, 110, 32, 119, 111, 114, 100, 32, 99, 111, 110, 116, 97, 105, 110, 101, 114, 32, 102, 105, 120, 101, 100, 32, 104, 105, 100, 100, 101, 110, 32, 108, 105, 103, 104, 116, 32, 111, 112, 101, 110, 32, 115, 117, 112, 112, 111, 114, 116, 101, 114, 32] : List Int32)).length)) fun (x_6 : Int32) =>
    if x_6 ≤ s_1.1 then (
      some ((-1), s_1.2.2)
    ) else (
      loopF (fun (again_12 : (Int32 × MS) → MR) (s_11 : Int32 × MS) => (
        if s_11.1 < 0 ∨ Int32.ofNat (([32, 97, 108, 111, 110, 101, 32, 97, 108, 108, 32, 97, 110, 100, 32, 97, 110, 121, 32, 97, 114, 114, 97, 121, 32, 100, 97, 114, 107, 32, 100, 101, 102, 32, 100, 111, 110, 101, 32, 100, 111, 119, 110, 32, 101, 97, 99, 104, 32, 101, 97, 115, 116, 32, 101, 108, 115, 101, 32, 101, 120, 105, 116, 32, 102, 105, 114, 115, 116, 32, 104, 97, 115, 32, 104, 101, 114, 101, 32, 104, 111, 108, 100, 101, 114, 32, 105, 102, 32, 105, 110, 32, 108, 101, 116, 32, 108, 111, 115, 101, 32, 109, 111, 118, 101, 32, 110, 97, 109, 101, 32, 110, 101, 120, 116, 32, 110, 111, 117, 110, 32, 110, 111, 114, 116, 104, 32, 110, 111, 116, 32, 111, 110, 32, 111, 110, 101, 32, 111, 114, 32, 112, 108, 97, 121, 101, 114, 32, 114, 97, 110, 100, 111, 109, 32, 114, 101, 109, 111, 118, 101, 32, 114, 101, 116, 117, 114, 110, 32, 114, 111, 111, 109, 32, 115, 97, 121, 32, 115, 101, 99, 111, 110, 100, 32, 115, 101, 116, 32, 99, 108, 101, 97, 114, 32, 115, 111, 117, 116, 104, 32, 116, 101, 120, 116, 32, 116, 104, 105, 110, 103, 32, 116, 111, 32, 116, 119, 111, 32, 117, 112, 32, 118, 97, 114, 32, 118, 101, 114, 98, 32, 119, 101, 115, 116, 32, 119, 104, 105, 108, 101, 32, 119, 105, 110, 32, 119, 111, 114, 100, 32, 99, 111, 110, 116, 97, 105, 110, 101, 114, 32, 102, 105, 120, 101, 100, 32, 104, 105, 100, 100, 101, 110, 32, 108, 105, 103, 104, 116, 32, 111, 112, 101, 110, 32, 115, 117, 112, 112, 111, 114, 116, 101, 114, 32] : List Int32)).length ≤ s_11.1 then none else
        bnd ((g_chr ((([32, 97, 108, 111, 110, 101, 32, 97, 108, 108, 32, 97, 110, 100, 32, 97, 110, 121, 32, 97, 114, 114, 97, 121, 32, 100, 97, 114, 107, 32, 100, 101, 102, 32, 100, 111, 110, 101, 32, 100, 111, 119, 110, 32, 101, 97, 99, 104, 32, 101, 97, 115, 116, 32, 101, 108, 115, 101, 32, 101, 120, 105, 116, 32, 102, 105, 114, 115, 116, 32, 104, 97, 115, 32, 104, 101, 114, 101, 32, 104, 111, 108, 100, 101, 114, 32, 105, 102, 32, 105, 110, 32, 108, 101, 116, 32, 108, 111, 115, 101, 32, 109, 111, 118, 101, 32, 110, 97, 109, 101, 32, 110, 101, 120, 116, 32, 110, 111, 117, 110, 32, 110, 111, 114, 116, 104, 32, 110, 111, 116, 32, 111, 110, 32, 111, 110, 101, 32, 111, 114, 32, 112, 108, 97, 121, 101, 114, 32, 114, 97, 110, 100, 111, 109, 32, 114, 101, 109, 111, 118, 101, 32, 114, 101, 116, 117, 114, 110, 32, 114, 111, 111, 109, 32, 115, 97, 121, 32, 115, 101, 99, 111, 110, 100, 32, 115, 101, 116, 32, 99, 108, 101, 97, 114, 32, 115, 111, 117, 116, 104, 32, 116, 101, 120, 116, 32, 116, 104, 105, 110, 103, 32, 116, 111, 32, 116, 119, 111, 32, 117, 112, 32, 118, 97, 114, 32, 118, 101, 114, 98, 32, 119, 101, 115, 116, 32, 119, 104, 105, 108, 101, 32, 119, 105, 110, 32, 119, 111, 114, 100, 32, 99, 111, 110, 116, 97, 105, 110, 101, 114, 32, 102, 105, 120, 101, 100, 32, 104, 105, 100, 100, 101, 110, 32, 108, 105, 103, 104, 116, 32, 111, 112, 101, 110, 32, 115, 117, 112, 112, 111, 114, 116, 101, 114, 32] : List Int32)).getD s_11.1.toNatClampNeg 0))) fun (x_18 : Int32) =>
        if x_18 = 32 then (
          bnd (fun (t_22 : Int32) (σ_23 : MS) => (
            loopF (fun (again_28 : (Int32 × Int32 × MS) → MR) (s_27 : Int32 × Int32 × MS) => (
              bnd (fun  (σ_31 : MS) => (
                if s_27.1 = 0 then (
                  bnd (s_1.2.1 + 1) fun (x_37 : Int32) =>
                  bnd ((s_11.1 + 1)) fun (x_39 : Int32) =>
                  again_2 (x_39, x_37, σ_31)
                ) else (
                  some (s_1.2.1, σ_31)
                )
              ) : MS → MR) fun j_32 =>
              if p1 ≤ s_27.2.1 then (
                j_32  s_27.2.2
              ) else (
                if s_27.1 = 0 then (
                  j_32  s_27.2.2
                ) else (
                  bnd ((s_1.1 + s_27.2.1)) fun (x_49 : Int32) =>
                  if x_49 < 0 ∨ Int32.ofNat (([32, 97, 108, 111, 110, 101, 32, 97, 108, 108, 32, 97, 110, 100, 32, 97, 110, 121, 32, 97, 114, 114, 97, 121, 32, 100, 97, 114, 107, 32, 100, 101, 102, 32, 100, 111, 110, 101, 32, 100, 111, 119, 110, 32, 101, 97, 99, 104, 32, 101, 97, 115, 116, 32, 101, 108, 115, 101, 32, 101, 120, 105, 116, 32, 102, 105, 114, 115, 116, 32, 104, 97, 115, 32, 104, 101, 114, 101, 32, 104, 111, 108, 100, 101, 114, 32, 105, 102, 32, 105, 110, 32, 108, 101, 116, 32, 108, 111, 115, 101, 32, 109, 111, 118, 101, 32, 110, 97, 109, 101, 32, 110, 101, 120, 116, 32, 110, 111, 117, 110, 32, 110, 111, 114, 116, 104, 32, 110, 111, 116, 32, 111, 110, 32, 111, 110, 101, 32, 111, 114, 32, 112, 108, 97, 121, 101, 114, 32, 114, 97, 110, 100, 111, 109, 32, 114, 101, 109, 111, 118, 101, 32, 114, 101, 116, 117, 114, 110, 32, 114, 111, 111, 109, 32, 115, 97, 121, 32, 115, 101, 99, 111, 110, 100, 32, 115, 101, 116, 32, 99, 108, 101, 97, 114, 32, 115, 111, 117, 116, 104, 32, 116, 101, 120, 116, 32, 116, 104, 105, 110, 103, 32, 116, 111, 32, 116, 119, 111, 32, 117, 112, 32, 118, 97, 114, 32, 118, 101, 114, 98, 32, 119, 101, 115, 116, 32, 119, 104, 105, 108, 101, 32, 119, 105, 110, 32, 119, 111, 114, 100, 32, 99, 111, 110, 116, 97, 105, 110, 101, 114, 32, 102, 105, 120, 101, 100, 32, 104, 105, 100, 100, 101, 110, 32, 108, 105, 103, 104, 116, 32, 111, 112, 101, 110, 32, 115, 117, 112, 112, 111, 114, 116, 101, 114, 32] : List Int32)).length ≤ x_49 then none else
                  bnd ((g_chr ((([32, 97, 108, 111, 110, 101, 32, 97, 108, 108, 32, 97, 110, 100, 32, 97, 110, 121, 32, 97, 114, 114, 97, 121, 32, 100, 97, 114, 107, 32, 100, 101, 102, 32, 100, 111, 110, 101, 32, 100, 111, 119, 110, 32, 101, 97, 99, 104, 32, 101, 97, 115, 116, 32, 101, 108, 115, 101, 32, 101, 120, 105, 116, 32, 102, 105, 114, 115, 116, 32, 104, 97, 115, 32, 104, 101, 114, 101, 32, 104, 111, 108, 100, 101, 114, 32, 105, 102, 32, 105, 110, 32, 108, 101, 116, 32, 108, 111, 115, 101, 32, 109, 111, 118, 101, 32, 110, 97, 109, 101, 32, 110, 101, 120, 116, 32, 110, 111, 117, 110, 32, 110, 111, 114, 116, 104, 32, 110, 111, 116, 32, 111, 110, 32, 111, 110, 101, 32, 111, 114, 32, 112, 108, 97, 121, 101, 114, 32, 114, 97, 110, 100, 111, 109, 32, 114, 101, 109, 111, 118, 101, 32, 114, 101, 116, 117, 114, 110, 32, 114, 111, 111, 109, 32, 115, 97, 121, 32, 115, 101, 99, 111, 110, 100, 32, 115, 101, 116, 32, 99, 108, 101, 97, 114, 32, 115, 111, 117, 116, 104, 32, 116, 101, 120, 116, 32, 116, 104, 105, 110, 103, 32, 116, 111, 32, 116, 119, 111, 32, 117, 112, 32, 118, 97, 114, 32, 118, 101, 114, 98, 32, 119, 101, 115, 116, 32, 119, 104, 105, 108, 101, 32, 119, 105, 110, 32, 119, 111, 114, 100, 32, 99, 111, 110, 116, 97, 105, 110, 101, 114, 32, 102, 105, 120, 101, 100, 32, 104, 105, 100, 100, 101, 110, 32, 108, 105, 103, 104, 116, 32, 111, 112, 101, 110, 32, 115, 117, 112, 112, 111, 114, 116, 101, 114, 32] : List Int32)).getD x_49.toNatClampNeg 0))) fun (x_53 : Int32) =>
                  bnd ((p0 + s_27.2.1)) fun (x_55 : Int32) =>
                  if x_55 < 0 ∨ 16000 ≤ x_55.toNatClampNeg then none else
                  bnd (fun (t_59 : Int32) (σ_60 : MS) => (
                    bnd (s_27.2.1 + 1) fun (x_64 : Int32) =>
                    again_28 (t_59, x_64, σ_60)
                  ) : Int32 → MS → MR) fun j_61 =>
                  if x_53 = (s_27.2.2.2 5 x_55.toNatClampNeg) then (
                    j_61 1 s_27.2.2
                  ) else (
                    j_61 0 s_27.2.2
                  )
                )
              )
            )) FU (t_22, 0, σ_23)
          ) : Int32 → MS → MR) fun j_24 =>
          if (s_11.1 - s_1.1) = p1 then (
            j_24 1 s_11.2
          ) else (
            j_24 0 s_11.2
          )
        ) else (
          bnd (s_11.1 + 1) fun (x_73 : Int32) =>
          again_12 (x_73, s_11.2)
        )
      )) FU (s_1.1, s_1.2.2)
    )
  )) FU (1, 0, σ)
set_option maxHeartbeats 4000000 in
set_option maxRecDepth 100000 in
theorem m_X12_keyOf (l : Launch) (dC : Nat → ClassId) (dI : Nat → Nat → Nat) (cB cC cI cJ cZ cP : ClassId) (h qK qS : Nat) (ad : Nat → Nat) (hDD : mDis cB cI cZ h qK qS ad) (sz : Nat)  (p0 : Int32) (p1 : Int32) (σ : MS) (res : Int32 × MS) (hF : F_X12_keyOf p0 p1 σ = some res) : Met l yX12_keyOf (g_ws yX12_keyOf cX12_keyOf 8 (some .int)) ({ frames := 5, cells := 0, slots := 0, locals := 125 }) (va_Pc [.ref h, .int p0, .int p1] (m_B (dC, dI) [(cB, .byte), (cC, .char), (cI, .int), (cJ, .long), (cZ, .boolean), (cP, .object "StoryHouse$Play")] sz h ad qK qS (mW cB cI cZ h qK qS ad σ) g_0)) (va_Qi (fun r (_ : Unit) => r = res.1) (fun _ t => va_P (dC, dI) vwCl (mW cB cI cZ h qK qS ad res.2) t.heap) (mCells h ad sz)) 0 0 (mCells h ad sz) := by
  refine Met.ofW (cc := cX12_keyOf) (maxL := 8) (ret := (some .int)) (by decide) rfl ?_
  intro p e s m args below meth c s₁ B hml hv
  obtain ⟨rfl, hsz, hP, hK, hE, hKS, hX⟩ := hv
  have hx := B.exec
  have hb := B.bytes
  have hr := B.returns
  have hts0 := atoms_spec (ws := g_ws yX12_keyOf cX12_keyOf 8 (some .int)) B.pre
  have hts : ∀ w ∈ lw_good, w.before ([.ref h, .int p0, .int p1] : List Value).toArray s = true := fun w z => hts0 w (List.mem_cons_of_mem _ z)
  have hown : s.vm.findClass RX12 = some m.cls := findClass_of_methodNamed B.named
  have hlocks := B.notSynchronized
  have hS : va_S (mCells h ad sz) s.heap s.heap [] := va_S.rf
  have hl := lv_entry ([.ref h, .int p0, .int p1]) (n := 8) (Nat.le_of_ble_eq_true rfl)
  rw [lg_entry_eq]
  generalize (lg_sl ([.ref h, .int p0, .int p1]) ++ List.replicate (8 - (lg_sl ([.ref h, .int p0, .int p1])).length) Slot.unset).toArray = ls at hl ⊢
  have hl : lv_has ls 8 [(0, .ref h), (1, .int p0), (2, .int p1)] := hl
  unfold F_X12_keyOf at hF
  refine lv_iconst (v := 1) hx hb dX12_keyOf_0 (by decide +kernel) ?_
  refine lv_istore_n (lv' := [(3, .int 1), (0, .ref h), (1, .int p0), (2, .int p1)]) hx hb dX12_keyOf_1 rfl hl (by decide) rfl (fun ls hl => ?_)
  refine lv_iconst (v := 0) hx hb dX12_keyOf_2 (by decide +kernel) ?_
  refine lv_istore (lv' := [(4, .int 0), (3, .int 1), (0, .ref h), (1, .int p0), (2, .int p1)]) hx hb dX12_keyOf_3 hl (by decide) rfl (fun ls hl => ?_)
  refine loopF_ind (P := fun (s_1 : Int32 × Int32 × MS) => ∀ (H : Heap) (locs : List Loc), va_P (dC, dI) vwCl (mW cB cI cZ h qK qS ad s_1.2.2) H → va_S (mCells h ad sz) s.heap H locs → ∀ ls : Array Slot, lv_has ls 8 [(0, .ref h), (1, .int p0), (2, .int p1), (3, .int s_1.1), (4, .int s_1.2.1)] → W p l e (headSpec (g_ws yX12_keyOf cX12_keyOf 8 (some .int)) { frames := 5, cells := 0, slots := 0, locals := 125 }).room s m ([.ref h, .int p0, .int p1] : List Value).toArray below meth c H locs 0 0 (MQ below (va_Qi (fun r (_ : Unit) => r = res.1) (fun _ t => va_P (dC, dI) vwCl (mW cB cI cZ h qK qS ad res.2) t.heap) (mCells h ad sz)) ([.ref h, .int p0, .int p1] : List Value).toArray s 0 0 (mCells h ad sz)) (F0 m 5 ls [])) ?_ _ _ hF _ _ hP hS ls (lv_sub hl [2, 3, 4, 1, 0] rfl)
  intro again_2 s_1 ih_3 hF_4
  intro H locs hP hS ls hl
  refine lv_iload_n hx hb dX12_keyOf_5 rfl (lv_at hl 3 rfl) ?_
  obtain ⟨q_5, vq_5, hRq_5, hSq_5⟩ := hE.2.2.2.2 _ (List.mem_of_getElem? (i := 78) rfl)
  refine va_ldcS (own := RX12) (tx := " alone all and any array dark def done down each east else exit first has here holder if in let lose move name next noun north not on one or player random remove return room say second set clear south text thing to two up var verb west while win word container fixed hidden light open supporter ") hx hb hown hRq_5 dX12_keyOf_6 ?_
  refine m_cs (v := Int32.ofNat (([32, 97, 108, 111, 110, 101, 32, 97, 108, 108, 32, 97, 110, 100, 32, 97, 110, 121, 32, 97, 114, 114, 97, 121, 32, 100, 97, 114, 107, 32, 100, 101, 102, 32, 100, 111, 110, 101, 32, 100, 111, 119, 110, 32, 101, 97, 99, 104, 32, 101, 97, 115, 116, 32, 101, 108, 115, 101, 32, 101, 120, 105, 116, 32, 102, 105, 114, 115, 116, 32, 104, 97, 115, 32, 104, 101, 114, 101, 32, 104, 111, 108, 100, 101, 114, 32, 105, 102, 32, 105, 110, 32, 108, 101, 116, 32, 108, 111, 115, 101, 32, 109, 111, 118, 101, 32, 110, 97, 109, 101, 32, 110, 101, 120, 116, 32, 110, 111, 117, 110, 32, 110, 111, 114, 116, 104, 32, 110, 111, 116, 32, 111, 110, 32, 111, 110, 101, 32, 111, 114, 32, 112, 108, 97, 121, 101, 114, 32, 114, 97, 110, 100, 111, 109, 32, 114, 101, 109, 111, 118, 101, 32, 114, 101, 116, 117, 114, 110, 32, 114, 111, 111, 109, 32, 115, 97, 121, 32, 115, 101, 99, 111, 110, 100, 32, 115, 101, 116, 32, 99, 108, 101, 97, 114, 32, 115, 111, 117, 116, 104, 32, 116, 101, 120, 116, 32, 116, 104, 105, 110, 103, 32, 116, 111, 32, 116, 119, 111, 32, 117, 112, 32, 118, 97, 114, 32, 118, 101, 114, 98, 32, 119, 101, 115, 116, 32, 119, 104, 105, 108, 101, 32, 119, 105, 110, 32, 119, 111, 114, 100, 32, 99, 111, 110, 116, 97, 105, 110, 101, 114, 32, 102, 105, 120, 101, 100, 32, 104, 105, 100, 100, 101, 110, 32, 108, 105, 103, 104, 116, 32, 111, 112, 101, 110, 32, 115, 117, 112, 112, 111, 114, 116, 101, 114, 32] : List Int32)).length) hsz hP hS (va_runV (As := []) (rest := [.int s_1.1]) ⟨hx, hb, hml, hown, hts⟩ (c_J0_length_8abf5 l dC dI cB cC cI cJ cZ cP H.size q_5  _ ([32, 97, 108, 111, 110, 101, 32, 97, 108, 108, 32, 97, 110, 100, 32, 97, 110, 121, 32, 97, 114, 114, 97, 121, 32, 100, 97, 114, 107, 32, 100, 101, 102, 32, 100, 111, 110, 101, 32, 100, 111, 119, 110, 32, 101, 97, 99, 104, 32, 101, 97, 115, 116, 32, 101, 108, 115, 101, 32, 101, 120, 105, 116, 32, 102, 105, 114, 115, 116, 32, 104, 97, 115, 32, 104, 101, 114, 101, 32, 104, 111, 108, 100, 101, 114, 32, 105, 102, 32, 105, 110, 32, 108, 101, 116, 32, 108, 111, 115, 101, 32, 109, 111, 118, 101, 32, 110, 97, 109, 101, 32, 110, 101, 120, 116, 32, 110, 111, 117, 110, 32, 110, 111, 114, 116, 104, 32, 110, 111, 116, 32, 111, 110, 32, 111, 110, 101, 32, 111, 114, 32, 112, 108, 97, 121, 101, 114, 32, 114, 97, 110, 100, 111, 109, 32, 114, 101, 109, 111, 118, 101, 32, 114, 101, 116, 117, 114, 110, 32, 114, 111, 111, 109, 32, 115, 97, 121, 32, 115, 101, 99, 111, 110, 100, 32, 115, 101, 116, 32, 99, 108, 101, 97, 114, 32, 115, 111, 117, 116, 104, 32, 116, 101, 120, 116, 32, 116, 104, 105, 110, 103, 32, 116, 111, 32, 116, 119, 111, 32, 117, 112, 32, 118, 97, 114, 32, 118, 101, 114, 98, 32, 119, 101, 115, 116, 32, 119, 104, 105, 108, 101, 32, 119, 105, 110, 32, 119, 111, 114, 100, 32, 99, 111, 110, 116, 97, 105, 110, 101, 114, 32, 102, 105, 120, 101, 100, 32, 104, 105, 100, 100, 101, 110, 32, 108, 105, 103, 104, 116, 32, 111, 112, 101, 110, 32, 115, 117, 112, 112, 111, 114, 116, 101, 114, 32] : List Int32) ) (cwV 0 hts (g_gV wq_1509 wq_346 wq_347 wq_22 wq_348) rfl rfl rfl (by decide +kernel) ⟨Nat.le_of_ble_eq_true rfl, Nat.le_of_ble_eq_true rfl⟩) (g_preVs g_blS hK (wc := []) (A := mCells h ad sz) (fun k q z => by simp at z) ⟨fun i j p q z => by simp at z, fun k q z => by simp at z⟩ hS hE (m_nil hS hsz) (g_toS hSq_5 hS (m_nil hS hsz)) (va_Orecv hSq_5.1 hS)) rfl rfl hl.1 rfl (lv_room (Nat.le_of_ble_eq_true rfl)) dX12_keyOf_8 ⟨Nat.le_of_ble_eq_true rfl, Nat.le_of_ble_eq_true rfl⟩) (fun H locs hP hS => ?_)
  obtain ⟨x_6, ex_6, hF_7⟩ := bnd_e hF_4
  clear hF_4
  refine m_top ex_6 ?_
  refine lv_icmp_ge (tgt := 117) hx hb dX12_keyOf_11 (by decide) (fun c_8 => ?_) (fun c_8 => ?_)
  · have hF_9 := ipos c_8 hF_7
    clear hF_7
    refine lv_iconst (v := (-1)) hx hb dX12_keyOf_117 (by decide +kernel) ?_
    have h9 := Option.some.inj hF_9
    subst h9
    exact W.iret (v := (-1)) hx hb hr (fun t ht hW => ⟨⟨(-1), (), rfl, rfl, m_end ht hP⟩, hS.F ht⟩) hS.2.2 dX12_keyOf_118
  · have hF_10 := ineg c_8 hF_7
    clear hF_7
    refine lv_iload_n hx hb dX12_keyOf_14 rfl (lv_at hl 3 rfl) ?_
    refine lv_istore (lv' := [(5, .int s_1.1), (0, .ref h), (1, .int p0), (2, .int p1), (3, .int s_1.1), (4, .int s_1.2.1)]) hx hb dX12_keyOf_15 hl (by decide) rfl (fun ls hl => ?_)
    refine loopF_ind (P := fun (s_11 : Int32 × MS) => ∀ (H : Heap) (locs : List Loc), va_P (dC, dI) vwCl (mW cB cI cZ h qK qS ad s_11.2) H → va_S (mCells h ad sz) s.heap H locs → ∀ ls : Array Slot, lv_has ls 8 [(0, .ref h), (1, .int p0), (2, .int p1), (3, .int s_1.1), (4, .int s_1.2.1), (5, .int s_11.1)] → W p l e (headSpec (g_ws yX12_keyOf cX12_keyOf 8 (some .int)) { frames := 5, cells := 0, slots := 0, locals := 125 }).room s m ([.ref h, .int p0, .int p1] : List Value).toArray below meth c H locs 0 0 (MQ below (va_Qi (fun r (_ : Unit) => r = res.1) (fun _ t => va_P (dC, dI) vwCl (mW cB cI cZ h qK qS ad res.2) t.heap) (mCells h ad sz)) ([.ref h, .int p0, .int p1] : List Value).toArray s 0 0 (mCells h ad sz)) (F0 m 17 ls [])) ?_ _ _ hF_10 _ _ hP hS ls (lv_sub hl [1, 2, 3, 4, 5, 0] rfl)
    intro again_12 s_11 ih_13 hF_14
    intro H locs hP hS ls hl
    obtain ⟨q_15, vq_15, hRq_15, hSq_15⟩ := hE.2.2.2.2 _ (List.mem_of_getElem? (i := 78) rfl)
    refine va_ldcS (own := RX12) (tx := " alone all and any array dark def done down each east else exit first has here holder if in let lose move name next noun north not on one or player random remove return room say second set clear south text thing to two up var verb west while win word container fixed hidden light open supporter ") hx hb hown hRq_15 dX12_keyOf_17 ?_
    refine lv_iload hx hb dX12_keyOf_19 (lv_at hl 5 rfl) ?_
    obtain ⟨g_16, hF_17⟩ := nif_e hF_14
    clear hF_14
    refine m_cs (v := g_chr ((([32, 97, 108, 111, 110, 101, 32, 97, 108, 108, 32, 97, 110, 100, 32, 97, 110, 121, 32, 97, 114, 114, 97, 121, 32, 100, 97, 114, 107, 32, 100, 101, 102, 32, 100, 111, 110, 101, 32, 100, 111, 119, 110, 32, 101, 97, 99, 104, 32, 101, 97, 115, 116, 32, 101, 108, 115, 101, 32, 101, 120, 105, 116, 32, 102, 105, 114, 115, 116, 32, 104, 97, 115, 32, 104, 101, 114, 101, 32, 104, 111, 108, 100, 101, 114, 32, 105, 102, 32, 105, 110, 32, 108, 101, 116, 32, 108, 111, 115, 101, 32, 109, 111, 118, 101, 32, 110, 97, 109, 101, 32, 110, 101, 120, 116, 32, 110, 111, 117, 110, 32, 110, 111, 114, 116, 104, 32, 110, 111, 116, 32, 111, 110, 32, 111, 110, 101, 32, 111, 114, 32, 112, 108, 97, 121, 101, 114, 32, 114, 97, 110, 100, 111, 109, 32, 114, 101, 109, 111, 118, 101, 32, 114, 101, 116, 117, 114, 110, 32, 114, 111, 111, 109, 32, 115, 97, 121, 32, 115, 101, 99, 111, 110, 100, 32, 115, 101, 116, 32, 99, 108, 101, 97, 114, 32, 115, 111, 117, 116, 104, 32, 116, 101, 120, 116, 32, 116, 104, 105, 110, 103, 32, 116, 111, 32, 116, 119, 111, 32, 117, 112, 32, 118, 97, 114, 32, 118, 101, 114, 98, 32, 119, 101, 115, 116, 32, 119, 104, 105, 108, 101, 32, 119, 105, 110, 32, 119, 111, 114, 100, 32, 99, 111, 110, 116, 97, 105, 110, 101, 114, 32, 102, 105, 120, 101, 100, 32, 104, 105, 100, 100, 101, 110, 32, 108, 105, 103, 104, 116, 32, 111, 112, 101, 110, 32, 115, 117, 112, 112, 111, 114, 116, 101, 114, 32] : List Int32)).getD s_11.1.toNatClampNeg 0)) hsz hP hS (va_runV (As := [.int s_11.1]) (rest := []) ⟨hx, hb, hml, hown, hts⟩ (c_J0_charAt_5068e l dC dI cB cC cI cJ cZ cP H.size q_15 s_11.1 _ ([32, 97, 108, 111, 110, 101, 32, 97, 108, 108, 32, 97, 110, 100, 32, 97, 110, 121, 32, 97, 114, 114, 97, 121, 32, 100, 97, 114, 107, 32, 100, 101, 102, 32, 100, 111, 110, 101, 32, 100, 111, 119, 110, 32, 101, 97, 99, 104, 32, 101, 97, 115, 116, 32, 101, 108, 115, 101, 32, 101, 120, 105, 116, 32, 102, 105, 114, 115, 116, 32, 104, 97, 115, 32, 104, 101, 114, 101, 32, 104, 111, 108, 100, 101, 114, 32, 105, 102, 32, 105, 110, 32, 108, 101, 116, 32, 108, 111, 115, 101, 32, 109, 111, 118, 101, 32, 110, 97, 109, 101, 32, 110, 101, 120, 116, 32, 110, 111, 117, 110, 32, 110, 111, 114, 116, 104, 32, 110, 111, 116, 32, 111, 110, 32, 111, 110, 101, 32, 111, 114, 32, 112, 108, 97, 121, 101, 114, 32, 114, 97, 110, 100, 111, 109, 32, 114, 101, 109, 111, 118, 101, 32, 114, 101, 116, 117, 114, 110, 32, 114, 111, 111, 109, 32, 115, 97, 121, 32, 115, 101, 99, 111, 110, 100, 32, 115, 101, 116, 32, 99, 108, 101, 97, 114, 32, 115, 111, 117, 116, 104, 32, 116, 101, 120, 116, 32, 116, 104, 105, 110, 103, 32, 116, 111, 32, 116, 119, 111, 32, 117, 112, 32, 118, 97, 114, 32, 118, 101, 114, 98, 32, 119, 101, 115, 116, 32, 119, 104, 105, 108, 101, 32, 119, 105, 110, 32, 119, 111, 114, 100, 32, 99, 111, 110, 116, 97, 105, 110, 101, 114, 32, 102, 105, 120, 101, 100, 32, 104, 105, 100, 100, 101, 110, 32, 108, 105, 103, 104, 116, 32, 111, 112, 101, 110, 32, 115, 117, 112, 112, 111, 114, 116, 101, 114, 32] : List Int32) (fun z => g_16 (Or.inl z)) (Int32.not_le.mp (fun z => g_16 (Or.inr z)))) (cwV 1 hts (g_gV wq_1510 wq_359 wq_360 wq_22 wq_361) rfl rfl rfl (by decide +kernel) ⟨Nat.le_of_ble_eq_true rfl, Nat.le_of_ble_eq_true rfl⟩) (g_preVs g_blS hK (wc := []) (A := mCells h ad sz) (fun k q z => by simp at z) ⟨fun i j p q z => by simp at z, fun k q z => by simp at z⟩ hS hE (m_nil hS hsz) (g_toS hSq_15 hS (m_nil hS hsz)) (va_Orecv hSq_15.1 hS)) rfl rfl hl.1 rfl (lv_room (Nat.le_of_ble_eq_true rfl)) dX12_keyOf_21 ⟨Nat.le_of_ble_eq_true rfl, Nat.le_of_ble_eq_true rfl⟩) (fun H locs hP hS => ?_)
    obtain ⟨x_18, ex_18, hF_19⟩ := bnd_e hF_17
    clear hF_17
    refine m_top ex_18 ?_
    refine lv_bipush (v := 32) hx hb dX12_keyOf_24 (by decide +kernel) ?_
    refine lv_icmp_eq (tgt := 35) hx hb dX12_keyOf_26 (by decide) (fun c_20 => ?_) (fun c_20 => ?_)
    · have hF_21 := ipos c_20 hF_19
      clear hF_19
      refine lv_iload hx hb dX12_keyOf_35 (lv_at hl 5 rfl) ?_
      refine lv_iload_n hx hb dX12_keyOf_37 rfl (lv_at hl 3 rfl) ?_
      refine lv_isub hx hb dX12_keyOf_38 ?_
      refine lv_iload_n hx hb dX12_keyOf_39 rfl (lv_at hl 2 rfl) ?_
      obtain ⟨j_24, ej_24, hF_25⟩ := bnd_e hF_21
      clear hF_21
      have Jj_24 : ∀ (t_22 : Int32) (σ_23 : MS), j_24 t_22 σ_23 = some res → ∀ (H : Heap) (locs : List Loc), va_P (dC, dI) vwCl (mW cB cI cZ h qK qS ad σ_23) H → va_S (mCells h ad sz) s.heap H locs → ∀ ls : Array Slot, lv_has ls 8 [(0, .ref h), (1, .int p0), (2, .int p1), (3, .int s_1.1), (4, .int s_1.2.1), (5, .int s_11.1)] → W p l e (headSpec (g_ws yX12_keyOf cX12_keyOf 8 (some .int)) { frames := 5, cells := 0, slots := 0, locals := 125 }).room s m ([.ref h, .int p0, .int p1] : List Value).toArray below meth c H locs 0 0 (MQ below (va_Qi (fun r (_ : Unit) => r = res.1) (fun _ t => va_P (dC, dI) vwCl (mW cB cI cZ h qK qS ad res.2) t.heap) (mCells h ad sz)) ([.ref h, .int p0, .int p1] : List Value).toArray s 0 0 (mCells h ad sz)) (F0 m 48 ls [.int t_22]) := by
        intro t_22 σ_23 hF0 H locs hP hS ls hl
        subst ej_24
        have hF_26 := hF0
        clear hF0
        refine lv_istore (lv' := [(6, .int t_22), (0, .ref h), (1, .int p0), (2, .int p1), (3, .int s_1.1), (4, .int s_1.2.1), (5, .int s_11.1)]) hx hb dX12_keyOf_48 hl (by decide) rfl (fun ls hl => ?_)
        refine lv_iconst (v := 0) hx hb dX12_keyOf_50 (by decide +kernel) ?_
        refine lv_istore (lv' := [(7, .int 0), (6, .int t_22), (0, .ref h), (1, .int p0), (2, .int p1), (3, .int s_1.1), (4, .int s_1.2.1), (5, .int s_11.1)]) hx hb dX12_keyOf_51 hl (by decide) rfl (fun ls hl => ?_)
        refine loopF_ind (P := fun (s_27 : Int32 × Int32 × MS) => ∀ (H : Heap) (locs : List Loc), va_P (dC, dI) vwCl (mW cB cI cZ h qK qS ad s_27.2.2) H → va_S (mCells h ad sz) s.heap H locs → ∀ ls : Array Slot, lv_has ls 8 [(0, .ref h), (1, .int p0), (2, .int p1), (3, .int s_1.1), (4, .int s_1.2.1), (5, .int s_11.1), (6, .int s_27.1), (7, .int s_27.2.1)] → W p l e (headSpec (g_ws yX12_keyOf cX12_keyOf 8 (some .int)) { frames := 5, cells := 0, slots := 0, locals := 125 }).room s m ([.ref h, .int p0, .int p1] : List Value).toArray below meth c H locs 0 0 (MQ below (va_Qi (fun r (_ : Unit) => r = res.1) (fun _ t => va_P (dC, dI) vwCl (mW cB cI cZ h qK qS ad res.2) t.heap) (mCells h ad sz)) ([.ref h, .int p0, .int p1] : List Value).toArray s 0 0 (mCells h ad sz)) (F0 m 53 ls [])) ?_ _ _ hF_26 _ _ hP hS ls (lv_sub hl [2, 3, 4, 5, 6, 7, 1, 0] rfl)
        intro again_28 s_27 ih_29 hF_30
        intro H locs hP hS ls hl
        refine lv_iload hx hb dX12_keyOf_53 (lv_at hl 7 rfl) ?_
        refine lv_iload_n hx hb dX12_keyOf_55 rfl (lv_at hl 2 rfl) ?_
        obtain ⟨j_32, ej_32, hF_33⟩ := bnd_e hF_30
        clear hF_30
        have Jj_32 : ∀  (σ_31 : MS), j_32  σ_31 = some res → ∀ (H : Heap) (locs : List Loc), va_P (dC, dI) vwCl (mW cB cI cZ h qK qS ad σ_31) H → va_S (mCells h ad sz) s.heap H locs → ∀ ls : Array Slot, lv_has ls 8 [(0, .ref h), (1, .int p0), (2, .int p1), (4, .int s_1.2.1), (5, .int s_11.1), (6, .int s_27.1)] → W p l e (headSpec (g_ws yX12_keyOf cX12_keyOf 8 (some .int)) { frames := 5, cells := 0, slots := 0, locals := 125 }).room s m ([.ref h, .int p0, .int p1] : List Value).toArray below meth c H locs 0 0 (MQ below (va_Qi (fun r (_ : Unit) => r = res.1) (fun _ t => va_P (dC, dI) vwCl (mW cB cI cZ h qK qS ad res.2) t.heap) (mCells h ad sz)) ([.ref h, .int p0, .int p1] : List Value).toArray s 0 0 (mCells h ad sz)) (F0 m 98 ls []) := by
          intro  σ_31 hF0 H locs hP hS ls hl
          subst ej_32
          have hF_34 := hF0
          clear hF0
          refine lv_iload hx hb dX12_keyOf_98 (lv_at hl 5 rfl) ?_
          refine lv_if_eq (tgt := 106) hx hb dX12_keyOf_100 (by decide) (fun c_35 => ?_) (fun c_35 => ?_)
          · have hF_36 := ipos c_35 hF_34
            clear hF_34
            obtain ⟨x_37, ex_37, hF_38⟩ := bnd_e hF_36
            clear hF_36
            refine lv_iinc (v := x_37) (lv' := [(4, .int x_37), (0, .ref h), (1, .int p0), (2, .int p1), (5, .int s_11.1), (6, .int s_27.1)]) hx hb dX12_keyOf_106 hl (k := 3) rfl (by rw [ex_37]; rfl) (by decide) rfl (fun ls hl => ?_)
            refine lv_iload hx hb dX12_keyOf_109 (lv_at hl 4 rfl) ?_
            refine lv_iconst (v := 1) hx hb dX12_keyOf_111 (by decide +kernel) ?_
            refine lv_iadd hx hb dX12_keyOf_112 ?_
            obtain ⟨x_39, ex_39, hF_40⟩ := bnd_e hF_38
            clear hF_38
            refine m_top ex_39 ?_
            refine lv_istore_n (lv' := [(3, .int x_39), (4, .int x_37), (0, .ref h), (1, .int p0), (2, .int p1), (5, .int s_11.1), (6, .int s_27.1)]) hx hb dX12_keyOf_113 rfl hl (by decide) rfl (fun ls hl => ?_)
            refine lv_goto (tgt := 5) hx hb dX12_keyOf_114 (by decide) ?_
            exact ih_3 (x_39, x_37, σ_31) hF_40 _ _ hP hS ls (lv_sub hl [2, 3, 4, 0, 1] rfl)
          · have hF_41 := ineg c_35 hF_34
            clear hF_34
            refine lv_iload hx hb dX12_keyOf_103 (lv_at hl 3 rfl) ?_
            have h9 := Option.some.inj hF_41
            subst h9
            exact W.iret (v := s_1.2.1) hx hb hr (fun t ht hW => ⟨⟨s_1.2.1, (), rfl, rfl, m_end ht hP⟩, hS.F ht⟩) hS.2.2 dX12_keyOf_105
        refine lv_icmp_ge (tgt := 98) hx hb dX12_keyOf_56 (by decide) (fun c_42 => ?_) (fun c_42 => ?_)
        · have hF_43 := ipos c_42 hF_33
          clear hF_33
          exact Jj_32  s_27.2.2 hF_43 _ _ hP hS ls (lv_sub hl [0, 1, 2, 4, 5, 6] rfl)
        · have hF_44 := ineg c_42 hF_33
          clear hF_33
          refine lv_iload hx hb dX12_keyOf_59 (lv_at hl 6 rfl) ?_
          refine lv_if_eq (tgt := 98) hx hb dX12_keyOf_61 (by decide) (fun c_45 => ?_) (fun c_45 => ?_)
          · have hF_46 := ipos c_45 hF_44
            clear hF_44
            exact Jj_32  s_27.2.2 hF_46 _ _ hP hS ls (lv_sub hl [0, 1, 2, 4, 5, 6] rfl)
          · have hF_47 := ineg c_45 hF_44
            clear hF_44
            obtain ⟨q_48, vq_48, hRq_48, hSq_48⟩ := hE.2.2.2.2 _ (List.mem_of_getElem? (i := 78) rfl)
            refine va_ldcS (own := RX12) (tx := " alone all and any array dark def done down each east else exit first has here holder if in let lose move name next noun north not on one or player random remove return room say second set clear south text thing to two up var verb west while win word container fixed hidden light open supporter ") hx hb hown hRq_48 dX12_keyOf_64 ?_
            refine lv_iload_n hx hb dX12_keyOf_66 rfl (lv_at hl 3 rfl) ?_
            refine lv_iload hx hb dX12_keyOf_67 (lv_at hl 7 rfl) ?_
            refine lv_iadd hx hb dX12_keyOf_69 ?_
            obtain ⟨x_49, ex_49, hF_50⟩ := bnd_e hF_47
            clear hF_47
            refine m_top ex_49 ?_
            obtain ⟨g_51, hF_52⟩ := nif_e hF_50
            clear hF_50
            refine m_cs (v := g_chr ((([32, 97, 108, 111, 110, 101, 32, 97, 108, 108, 32, 97, 110, 100, 32, 97, 110, 121, 32, 97, 114, 114, 97, 121, 32, 100, 97, 114, 107, 32, 100, 101, 102, 32, 100, 111, 110, 101, 32, 100, 111, 119, 110, 32, 101, 97, 99, 104, 32, 101, 97, 115, 116, 32, 101, 108, 115, 101, 32, 101, 120, 105, 116, 32, 102, 105, 114, 115, 116, 32, 104, 97, 115, 32, 104, 101, 114, 101, 32, 104, 111, 108, 100, 101, 114, 32, 105, 102, 32, 105, 110, 32, 108, 101, 116, 32, 108, 111, 115, 101, 32, 109, 111, 118, 101, 32, 110, 97, 109, 101, 32, 110, 101, 120, 116, 32, 110, 111, 117, 110, 32, 110, 111, 114, 116, 104, 32, 110, 111, 116, 32, 111, 110, 32, 111, 110, 101, 32, 111, 114, 32, 112, 108, 97, 121, 101, 114, 32, 114, 97, 110, 100, 111, 109, 32, 114, 101, 109, 111, 118, 101, 32, 114, 101, 116, 117, 114, 110, 32, 114, 111, 111, 109, 32, 115, 97, 121, 32, 115, 101, 99, 111, 110, 100, 32, 115, 101, 116, 32, 99, 108, 101, 97, 114, 32, 115, 111, 117, 116, 104, 32, 116, 101, 120, 116, 32, 116, 104, 105, 110, 103, 32, 116, 111, 32, 116, 119, 111, 32, 117, 112, 32, 118, 97, 114, 32, 118, 101, 114, 98, 32, 119, 101, 115, 116, 32, 119, 104, 105, 108, 101, 32, 119, 105, 110, 32, 119, 111, 114, 100, 32, 99, 111, 110, 116, 97, 105, 110, 101, 114, 32, 102, 105, 120, 101, 100, 32, 104, 105, 100, 100, 101, 110, 32, 108, 105, 103, 104, 116, 32, 111, 112, 101, 110, 32, 115, 117, 112, 112, 111, 114, 116, 101, 114, 32] : List Int32)).getD x_49.toNatClampNeg 0)) hsz hP hS (va_runV (As := [.int x_49]) (rest := []) ⟨hx, hb, hml, hown, hts⟩ (c_J0_charAt_5068e l dC dI cB cC cI cJ cZ cP H.size q_48 x_49 _ ([32, 97, 108, 111, 110, 101, 32, 97, 108, 108, 32, 97, 110, 100, 32, 97, 110, 121, 32, 97, 114, 114, 97, 121, 32, 100, 97, 114, 107, 32, 100, 101, 102, 32, 100, 111, 110, 101, 32, 100, 111, 119, 110, 32, 101, 97, 99, 104, 32, 101, 97, 115, 116, 32, 101, 108, 115, 101, 32, 101, 120, 105, 116, 32, 102, 105, 114, 115, 116, 32, 104, 97, 115, 32, 104, 101, 114, 101, 32, 104, 111, 108, 100, 101, 114, 32, 105, 102, 32, 105, 110, 32, 108, 101, 116, 32, 108, 111, 115, 101, 32, 109, 111, 118, 101, 32, 110, 97, 109, 101, 32, 110, 101, 120, 116, 32, 110, 111, 117, 110, 32, 110, 111, 114, 116, 104, 32, 110, 111, 116, 32, 111, 110, 32, 111, 110, 101, 32, 111, 114, 32, 112, 108, 97, 121, 101, 114, 32, 114, 97, 110, 100, 111, 109, 32, 114, 101, 109, 111, 118, 101, 32, 114, 101, 116, 117, 114, 110, 32, 114, 111, 111, 109, 32, 115, 97, 121, 32, 115, 101, 99, 111, 110, 100, 32, 115, 101, 116, 32, 99, 108, 101, 97, 114, 32, 115, 111, 117, 116, 104, 32, 116, 101, 120, 116, 32, 116, 104, 105, 110, 103, 32, 116, 111, 32, 116, 119, 111, 32, 117, 112, 32, 118, 97, 114, 32, 118, 101, 114, 98, 32, 119, 101, 115, 116, 32, 119, 104, 105, 108, 101, 32, 119, 105, 110, 32, 119, 111, 114, 100, 32, 99, 111, 110, 116, 97, 105, 110, 101, 114, 32, 102, 105, 120, 101, 100, 32, 104, 105, 100, 100, 101, 110, 32, 108, 105, 103, 104, 116, 32, 111, 112, 101, 110, 32, 115, 117, 112, 112, 111, 114, 116, 101, 114, 32] : List Int32) (fun z => g_51 (Or.inl z)) (Int32.not_le.mp (fun z => g_51 (Or.inr z)))) (cwV 1 hts (g_gV wq_1510 wq_359 wq_360 wq_22 wq_361) rfl rfl rfl (by decide +kernel) ⟨Nat.le_of_ble_eq_true rfl, Nat.le_of_ble_eq_true rfl⟩) (g_preVs g_blS hK (wc := []) (A := mCells h ad sz) (fun k q z => by simp at z) ⟨fun i j p q z => by simp at z, fun k q z => by simp at z⟩ hS hE (m_nil hS hsz) (g_toS hSq_48 hS (m_nil hS hsz)) (va_Orecv hSq_48.1 hS)) rfl rfl hl.1 rfl (lv_room (Nat.le_of_ble_eq_true rfl)) dX12_keyOf_70 ⟨Nat.le_of_ble_eq_true rfl, Nat.le_of_ble_eq_true rfl⟩) (fun H locs hP hS => ?_)
            obtain ⟨x_53, ex_53, hF_54⟩ := bnd_e hF_52
            clear hF_52
            refine m_top ex_53 ?_
            refine lv_aload_n hx hb dX12_keyOf_73 rfl (lv_at hl 0 rfl) ?_
            refine va_get (D := (dC, dI)) (ci := 12) (v := .ref (ad 5)) (C := RX12) (T := TX12) (N := 123) hx hb hts ii_X12 hown hK hP 0 rfl rfl 5 (by decide) (hts (.fieldLink RX12 24 "StoryHouseModel" "source" "[B") wq_1361) (fun _ h9 => h9) rfl dX12_keyOf_74 ?_
            refine lv_iload_n hx hb dX12_keyOf_77 rfl (lv_at hl 1 rfl) ?_
            refine lv_iload hx hb dX12_keyOf_78 (lv_at hl 7 rfl) ?_
            refine lv_iadd hx hb dX12_keyOf_80 ?_
            obtain ⟨x_55, ex_55, hF_56⟩ := bnd_e hF_54
            clear hF_54
            refine m_top ex_55 ?_
            obtain ⟨g_57, hF_58⟩ := nif_e hF_56
            clear hF_56
            refine va_bald (f := s_27.2.2.2 5) hx hb hK hP 2 0 rfl rfl g_57 dX12_keyOf_81 ?_
            obtain ⟨j_61, ej_61, hF_62⟩ := bnd_e hF_58
            clear hF_58
            have Jj_61 : ∀ (t_59 : Int32) (σ_60 : MS), j_61 t_59 σ_60 = some res → ∀ (H : Heap) (locs : List Loc), va_P (dC, dI) vwCl (mW cB cI cZ h qK qS ad σ_60) H → va_S (mCells h ad sz) s.heap H locs → ∀ ls : Array Slot, lv_has ls 8 [(0, .ref h), (1, .int p0), (2, .int p1), (3, .int s_1.1), (4, .int s_1.2.1), (5, .int s_11.1), (7, .int s_27.2.1)] → W p l e (headSpec (g_ws yX12_keyOf cX12_keyOf 8 (some .int)) { frames := 5, cells := 0, slots := 0, locals := 125 }).room s m ([.ref h, .int p0, .int p1] : List Value).toArray below meth c H locs 0 0 (MQ below (va_Qi (fun r (_ : Unit) => r = res.1) (fun _ t => va_P (dC, dI) vwCl (mW cB cI cZ h qK qS ad res.2) t.heap) (mCells h ad sz)) ([.ref h, .int p0, .int p1] : List Value).toArray s 0 0 (mCells h ad sz)) (F0 m 90 ls [.int t_59]) := by
              intro t_59 σ_60 hF0 H locs hP hS ls hl
              subst ej_61
              have hF_63 := hF0
              clear hF0
              refine lv_istore (lv' := [(6, .int t_59), (0, .ref h), (1, .int p0), (2, .int p1), (3, .int s_1.1), (4, .int s_1.2.1), (5, .int s_11.1), (7, .int s_27.2.1)]) hx hb dX12_keyOf_90 hl (by decide) rfl (fun ls hl => ?_)
              obtain ⟨x_64, ex_64, hF_65⟩ := bnd_e hF_63
              clear hF_63
              refine lv_iinc (v := x_64) (lv' := [(7, .int x_64), (6, .int t_59), (0, .ref h), (1, .int p0), (2, .int p1), (3, .int s_1.1), (4, .int s_1.2.1), (5, .int s_11.1)]) hx hb dX12_keyOf_92 hl (k := 7) rfl (by rw [ex_64]; rfl) (by decide) rfl (fun ls hl => ?_)
              refine lv_goto (tgt := 53) hx hb dX12_keyOf_95 (by decide) ?_
              exact ih_29 (t_59, x_64, σ_60) hF_65 _ _ hP hS ls (lv_sub hl [2, 3, 4, 5, 6, 7, 1, 0] rfl)
            refine lv_icmp_ne (tgt := 89) hx hb dX12_keyOf_82 (by decide) (fun c_66 => ?_) (fun c_66 => ?_)
            · have hF_68 := ineg c_66 hF_62
              clear hF_62
              refine lv_iconst (v := 0) hx hb dX12_keyOf_89 (by decide +kernel) ?_
              exact Jj_61 0 s_27.2.2 hF_68 _ _ hP hS ls (lv_sub hl [0, 1, 2, 3, 4, 5, 7] rfl)
            · have hF_67 := ipos c_66 hF_62
              clear hF_62
              refine lv_iconst (v := 1) hx hb dX12_keyOf_85 (by decide +kernel) ?_
              refine lv_goto (tgt := 90) hx hb dX12_keyOf_86 (by decide) ?_
              exact Jj_61 1 s_27.2.2 hF_67 _ _ hP hS ls (lv_sub hl [0, 1, 2, 3, 4, 5, 7] rfl)
      refine lv_icmp_ne (tgt := 47) hx hb dX12_keyOf_40 (by decide) (fun c_69 => ?_) (fun c_69 => ?_)
      · have hF_71 := ineg c_69 hF_25
        clear hF_25
        refine lv_iconst (v := 0) hx hb dX12_keyOf_47 (by decide +kernel) ?_
        exact Jj_24 0 s_11.2 hF_71 _ _ hP hS ls (lv_sub hl [0, 1, 2, 3, 4, 5] rfl)
      · have hF_70 := ipos c_69 hF_25
        clear hF_25
        refine lv_iconst (v := 1) hx hb dX12_keyOf_43 (by decide +kernel) ?_
        refine lv_goto (tgt := 48) hx hb dX12_keyOf_44 (by decide) ?_
        exact Jj_24 1 s_11.2 hF_70 _ _ hP hS ls (lv_sub hl [0, 1, 2, 3, 4, 5] rfl)
    · have hF_72 := ineg c_20 hF_19
      clear hF_19
      obtain ⟨x_73, ex_73, hF_74⟩ := bnd_e hF_72
      clear hF_72
      refine lv_iinc (v := x_73) (lv' := [(5, .int x_73), (0, .ref h), (1, .int p0), (2, .int p1), (3, .int s_1.1), (4, .int s_1.2.1)]) hx hb dX12_keyOf_29 hl (k := 5) rfl (by rw [ex_73]; rfl) (by decide) rfl (fun ls hl => ?_)
      refine lv_goto (tgt := 17) hx hb dX12_keyOf_32 (by decide) ?_
      exact ih_13 (x_73, s_11.2) hF_74 _ _ hP hS ls (lv_sub hl [1, 2, 3, 4, 5, 0] rfl)
theorem dX12_word_0 : decode cX12_word 0 = .ok (.iload_n 1, 1) := by decide +kernel
theorem dX12_word_1 : decode cX12_word 1 = .ok (.istore_n 2, 1) := by decide +kernel
theorem dX12_word_2 : decode cX12_word 2 = .ok (.iload_n 2, 1) := by decide +kernel
theorem dX12_word_3 : decode cX12_word 3 = .ok (.aload_n 0, 1) := by decide +kernel
theorem dX12_word_4 : decode cX12_word 4 = .ok (.getfield 249, 3) := by decide +kernel
theorem dX12_word_7 : decode cX12_word 7 = .ok (.if_icmp .ge 33, 3) := by decide +kernel
theorem dX12_word_10 : decode cX12_word 10 = .ok (.aload_n 0, 1) := by decide +kernel
theorem dX12_word_11 : decode cX12_word 11 = .ok (.getfield 24, 3) := by decide +kernel
theorem dX12_word_14 : decode cX12_word 14 = .ok (.iload_n 2, 1) := by decide +kernel
theorem dX12_word_15 : decode cX12_word 15 = .ok (.baload, 1) := by decide +kernel
theorem dX12_word_16 : decode cX12_word 16 = .ok (.invokestatic 252, 3) := by decide +kernel
theorem dX12_word_19 : decode cX12_word 19 = .ok (.ifCond .ne 15, 3) := by decide +kernel
theorem dX12_word_22 : decode cX12_word 22 = .ok (.aload_n 0, 1) := by decide +kernel
theorem dX12_word_23 : decode cX12_word 23 = .ok (.getfield 24, 3) := by decide +kernel
theorem dX12_word_26 : decode cX12_word 26 = .ok (.iload_n 2, 1) := by decide +kernel
theorem dX12_word_27 : decode cX12_word 27 = .ok (.baload, 1) := by decide +kernel
theorem dX12_word_28 : decode cX12_word 28 = .ok (.invokestatic 260, 3) := by decide +kernel
theorem dX12_word_31 : decode cX12_word 31 = .ok (.ifCond .eq 9, 3) := by decide +kernel
theorem dX12_word_34 : decode cX12_word 34 = .ok (.iinc 2 1, 3) := by decide +kernel
theorem dX12_word_37 : decode cX12_word 37 = .ok (.goto (-35), 3) := by decide +kernel
theorem dX12_word_40 : decode cX12_word 40 = .ok (.iload_n 2, 1) := by decide +kernel
theorem dX12_word_41 : decode cX12_word 41 = .ok (.iload_n 1, 1) := by decide +kernel
theorem dX12_word_42 : decode cX12_word 42 = .ok (.isub, 1) := by decide +kernel
theorem dX12_word_43 : decode cX12_word 43 = .ok (.bipush 12, 2) := by decide +kernel
theorem dX12_word_45 : decode cX12_word 45 = .ok (.if_icmp .le 5, 3) := by decide +kernel
theorem dX12_word_48 : decode cX12_word 48 = .ok (.iconst (-1), 1) := by decide +kernel
theorem dX12_word_49 : decode cX12_word 49 = .ok (.ireturn, 1) := by decide +kernel
theorem dX12_word_50 : decode cX12_word 50 = .ok (.aload_n 0, 1) := by decide +kernel
theorem dX12_word_51 : decode cX12_word 51 = .ok (.iload_n 1, 1) := by decide +kernel
theorem dX12_word_52 : decode cX12_word 52 = .ok (.iload_n 2, 1) := by decide +kernel
theorem dX12_word_53 : decode cX12_word 53 = .ok (.iload_n 1, 1) := by decide +kernel
theorem dX12_word_54 : decode cX12_word 54 = .ok (.isub, 1) := by decide +kernel
theorem dX12_word_55 : decode cX12_word 55 = .ok (.invokevirtual 276, 3) := by decide +kernel
theorem dX12_word_58 : decode cX12_word 58 = .ok (.istore_n 3, 1) := by decide +kernel
theorem dX12_word_59 : decode cX12_word 59 = .ok (.iload_n 3, 1) := by decide +kernel
theorem dX12_word_60 : decode cX12_word 60 = .ok (.ifCond .lt 13, 3) := by decide +kernel
theorem dX12_word_63 : decode cX12_word 63 = .ok (.aload_n 0, 1) := by decide +kernel
theorem dX12_word_64 : decode cX12_word 64 = .ok (.iconst 1, 1) := by decide +kernel
theorem dX12_word_65 : decode cX12_word 65 = .ok (.iload_n 1, 1) := by decide +kernel
theorem dX12_word_66 : decode cX12_word 66 = .ok (.iload_n 3, 1) := by decide +kernel
theorem dX12_word_67 : decode cX12_word 67 = .ok (.invokevirtual 272, 3) := by decide +kernel
theorem dX12_word_70 : decode cX12_word 70 = .ok (.goto 17, 3) := by decide +kernel
theorem dX12_word_73 : decode cX12_word 73 = .ok (.aload_n 0, 1) := by decide +kernel
theorem dX12_word_74 : decode cX12_word 74 = .ok (.iconst 2, 1) := by decide +kernel
theorem dX12_word_75 : decode cX12_word 75 = .ok (.iload_n 1, 1) := by decide +kernel
theorem dX12_word_76 : decode cX12_word 76 = .ok (.aload_n 0, 1) := by decide +kernel
theorem dX12_word_77 : decode cX12_word 77 = .ok (.iload_n 1, 1) := by decide +kernel
theorem dX12_word_78 : decode cX12_word 78 = .ok (.iload_n 2, 1) := by decide +kernel
theorem dX12_word_79 : decode cX12_word 79 = .ok (.iload_n 1, 1) := by decide +kernel
theorem dX12_word_80 : decode cX12_word 80 = .ok (.isub, 1) := by decide +kernel
theorem dX12_word_81 : decode cX12_word 81 = .ok (.invokevirtual 280, 3) := by decide +kernel
theorem dX12_word_84 : decode cX12_word 84 = .ok (.invokevirtual 272, 3) := by decide +kernel
theorem dX12_word_87 : decode cX12_word 87 = .ok (.iload_n 2, 1) := by decide +kernel
theorem dX12_word_88 : decode cX12_word 88 = .ok (.ireturn, 1) := by decide +kernel
def F_X12_word (p0 : Int32) (σ : MS) : MR :=
  loopF (fun (again_2 : (Int32 × MS) → MR) (s_1 : Int32 × MS) => (
    bnd (fun  (σ_5 : MS) => (
      if (s_1.1 - p0) ≤ 12 then (
        (F_X12_keyOf p0 (s_1.1 - p0) σ_5).bind fun u_11 =>
        if u_11.1 < 0 then (
          (F_X12_intern p0 (s_1.1 - p0) u_11.2).bind fun u_15 =>
          (F_X12_token 2 p0 u_15.1 u_15.2).bind fun u_17 =>
          some (s_1.1, u_17.2)
        ) else (
          (F_X12_token 1 p0 u_11.1 u_11.2).bind fun u_20 =>
          some (s_1.1, u_20.2)
        )
      ) else (
        some ((-1), σ_5)
      )
    ) : MS → MR) fun j_6 =>
    if (s_1.2.1 6) ≤ s_1.1 then (
      j_6  s_1.2
    ) else (
      if s_1.1 < 0 ∨ 16000 ≤ s_1.1.toNatClampNeg then none else
      (F_X12_small (s_1.2.2 5 s_1.1.toNatClampNeg) s_1.2).bind fun u_28 =>
      bnd (fun  (σ_30 : MS) => (
        bnd (s_1.1 + 1) fun (x_34 : Int32) =>
        again_2 (x_34, σ_30)
      ) : MS → MR) fun j_31 =>
      if u_28.1 = 0 then (
        if s_1.1 < 0 ∨ 16000 ≤ s_1.1.toNatClampNeg then none else
        (F_X12_figure (u_28.2.2 5 s_1.1.toNatClampNeg) u_28.2).bind fun u_40 =>
        if u_40.1 = 0 then (
          j_6  u_40.2
        ) else (
          j_31  u_40.2
        )
      ) else (
        j_31  u_28.2
      )
    )
  )) FU (p0, σ)
set_option maxHeartbeats 4000000 in
set_option maxRecDepth 100000 in
theorem m_X12_word (l : Launch) (dC : Nat → ClassId) (dI : Nat → Nat → Nat) (cB cC cI cJ cZ cP : ClassId) (h qK qS : Nat) (ad : Nat → Nat) (hDD : mDis cB cI cZ h qK qS ad) (sz : Nat)  (p0 : Int32) (σ : MS) (res : Int32 × MS) (hF : F_X12_word p0 σ = some res) : Met l yX12_word (g_ws yX12_word cX12_word 4 (some .int)) ({ frames := 6, cells := 0, slots := 0, locals := 152 }) (va_Pc [.ref h, .int p0] (m_B (dC, dI) [(cB, .byte), (cC, .char), (cI, .int), (cJ, .long), (cZ, .boolean), (cP, .object "StoryHouse$Play")] sz h ad qK qS (mW cB cI cZ h qK qS ad σ) g_0)) (va_Qi (fun r (_ : Unit) => r = res.1) (fun _ t => va_P (dC, dI) vwCl (mW cB cI cZ h qK qS ad res.2) t.heap) (mCells h ad sz)) 0 0 (mCells h ad sz) := by
  refine Met.ofW (cc := cX12_word) (maxL := 4) (ret := (some .int)) (by decide) rfl ?_
  intro p e s m args below meth c s₁ B hml hv
  obtain ⟨rfl, hsz, hP, hK, hE, hKS, hX⟩ := hv
  have hx := B.exec
  have hb := B.bytes
  have hr := B.returns
  have hts0 := atoms_spec (ws := g_ws yX12_word cX12_word 4 (some .int)) B.pre
  have hts : ∀ w ∈ lw_good, w.before ([.ref h, .int p0] : List Value).toArray s = true := fun w z => hts0 w (List.mem_cons_of_mem _ z)
  have hown : s.vm.findClass RX12 = some m.cls := findClass_of_methodNamed B.named
  have hlocks := B.notSynchronized
  have hS : va_S (mCells h ad sz) s.heap s.heap [] := va_S.rf
  have hl := lv_entry ([.ref h, .int p0]) (n := 4) (Nat.le_of_ble_eq_true rfl)
  rw [lg_entry_eq]
  generalize (lg_sl ([.ref h, .int p0]) ++ List.replicate (4 - (lg_sl ([.ref h, .int p0])).length) Slot.unset).toArray = ls at hl ⊢
  have hl : lv_has ls 4 [(0, .ref h), (1, .int p0)] := hl
  unfold F_X12_word at hF
  refine lv_iload_n hx hb dX12_word_0 rfl (lv_at hl 1 rfl) ?_
  refine lv_istore_n (lv' := [(2, .int p0), (0, .ref h), (1, .int p0)]) hx hb dX12_word_1 rfl hl (by decide) rfl (fun ls hl => ?_)
  refine loopF_ind (P := fun (s_1 : Int32 × MS) => ∀ (H : Heap) (locs : List Loc), va_P (dC, dI) vwCl (mW cB cI cZ h qK qS ad s_1.2) H → va_S (mCells h ad sz) s.heap H locs → ∀ ls : Array Slot, lv_has ls 4 [(0, .ref h), (1, .int p0), (2, .int s_1.1)] → W p l e (headSpec (g_ws yX12_word cX12_word 4 (some .int)) { frames := 6, cells := 0, slots := 0, locals := 152 }).room s m ([.ref h, .int p0] : List Value).toArray below meth c H locs 0 0 (MQ below (va_Qi (fun r (_ : Unit) => r = res.1) (fun _ t => va_P (dC, dI) vwCl (mW cB cI cZ h qK qS ad res.2) t.heap) (mCells h ad sz)) ([.ref h, .int p0] : List Value).toArray s 0 0 (mCells h ad sz)) (F0 m 2 ls [])) ?_ _ _ hF _ _ hP hS ls (lv_sub hl [1, 2, 0] rfl)
  intro again_2 s_1 ih_3 hF_4
  intro H locs hP hS ls hl
  refine lv_iload_n hx hb dX12_word_2 rfl (lv_at hl 2 rfl) ?_
  refine lv_aload_n hx hb dX12_word_3 rfl (lv_at hl 0 rfl) ?_
  refine va_get (D := (dC, dI)) (ci := 12) (v := .int (s_1.2.1 6)) (C := RX12) (T := TX12) (N := 123) hx hb hts ii_X12 hown hK hP 0 rfl rfl 6 (by decide) (hts (.fieldLink RX12 249 "StoryHouseModel" "sourceSize" "I") wq_1362) (fun _ h9 => h9) rfl dX12_word_4 ?_
  obtain ⟨j_6, ej_6, hF_7⟩ := bnd_e hF_4
  clear hF_4
  have Jj_6 : ∀  (σ_5 : MS), j_6  σ_5 = some res → ∀ (H : Heap) (locs : List Loc), va_P (dC, dI) vwCl (mW cB cI cZ h qK qS ad σ_5) H → va_S (mCells h ad sz) s.heap H locs → ∀ ls : Array Slot, lv_has ls 4 [(0, .ref h), (1, .int p0), (2, .int s_1.1)] → W p l e (headSpec (g_ws yX12_word cX12_word 4 (some .int)) { frames := 6, cells := 0, slots := 0, locals := 152 }).room s m ([.ref h, .int p0] : List Value).toArray below meth c H locs 0 0 (MQ below (va_Qi (fun r (_ : Unit) => r = res.1) (fun _ t => va_P (dC, dI) vwCl (mW cB cI cZ h qK qS ad res.2) t.heap) (mCells h ad sz)) ([.ref h, .int p0] : List Value).toArray s 0 0 (mCells h ad sz)) (F0 m 40 ls []) := by
    intro  σ_5 hF0 H locs hP hS ls hl
    subst ej_6
    have hF_8 := hF0
    clear hF0
    refine lv_iload_n hx hb dX12_word_40 rfl (lv_at hl 2 rfl) ?_
    refine lv_iload_n hx hb dX12_word_41 rfl (lv_at hl 1 rfl) ?_
    refine lv_isub hx hb dX12_word_42 ?_
    refine lv_bipush (v := 12) hx hb dX12_word_43 (by decide +kernel) ?_
    refine lv_icmp_le (tgt := 50) hx hb dX12_word_45 (by decide) (fun c_9 => ?_) (fun c_9 => ?_)
    · have hF_10 := ipos c_9 hF_8
      clear hF_8
      refine lv_aload_n hx hb dX12_word_50 rfl (lv_at hl 0 rfl) ?_
      refine lv_iload_n hx hb dX12_word_51 rfl (lv_at hl 1 rfl) ?_
      refine lv_iload_n hx hb dX12_word_52 rfl (lv_at hl 2 rfl) ?_
      refine lv_iload_n hx hb dX12_word_53 rfl (lv_at hl 1 rfl) ?_
      refine lv_isub hx hb dX12_word_54 ?_
      obtain ⟨u_11, hu_11, hF_12⟩ := Option.bind_eq_some_iff.mp hF_10
      clear hF_10
      refine m_ci hsz hS (va_runV (As := [.int p0, .int (s_1.1 - p0)]) (rest := []) ⟨hx, hb, hml, hown, hts⟩ (m_X12_keyOf l dC dI cB cC cI cJ cZ cP h qK qS ad hDD H.size  p0 (s_1.1 - p0) σ_5 _ hu_11) (cwV 2 hts (g_gV wq_1506 wq_1507 wq_2116 wq_13 wq_1508) rfl rfl rfl (by decide +kernel) ⟨Nat.le_of_ble_eq_true rfl, Nat.le_of_ble_eq_true rfl⟩) (m_preV g_bl0 hsz hK hP hS hE hKS g_to0) rfl rfl hl.1 rfl (lv_room (Nat.le_of_ble_eq_true rfl)) dX12_word_55 ⟨Nat.le_of_ble_eq_true rfl, Nat.le_of_ble_eq_true rfl⟩) (fun H locs hP hS => ?_)
      refine lv_istore_n (lv' := [(3, .int u_11.1), (0, .ref h), (1, .int p0), (2, .int s_1.1)]) hx hb dX12_word_58 rfl hl (by decide) rfl (fun ls hl => ?_)
      refine lv_iload_n hx hb dX12_word_59 rfl (lv_at hl 0 rfl) ?_
      refine lv_if_lt (tgt := 73) hx hb dX12_word_60 (by decide) (fun c_13 => ?_) (fun c_13 => ?_)
      · have hF_14 := ipos c_13 hF_12
        clear hF_12
        refine lv_aload_n hx hb dX12_word_73 rfl (lv_at hl 1 rfl) ?_
        refine lv_iconst (v := 2) hx hb dX12_word_74 (by decide +kernel) ?_
        refine lv_iload_n hx hb dX12_word_75 rfl (lv_at hl 2 rfl) ?_
        refine lv_aload_n hx hb dX12_word_76 rfl (lv_at hl 1 rfl) ?_
        refine lv_iload_n hx hb dX12_word_77 rfl (lv_at hl 2 rfl) ?_
        refine lv_iload_n hx hb dX12_word_78 rfl (lv_at hl 3 rfl) ?_
        refine lv_iload_n hx hb dX12_word_79 rfl (lv_at hl 2 rfl) ?_
        refine lv_isub hx hb dX12_word_80 ?_
        obtain ⟨u_15, hu_15, hF_16⟩ := Option.bind_eq_some_iff.mp hF_14
        clear hF_14
        refine m_ci hsz hS (va_runV (As := [.int p0, .int (s_1.1 - p0)]) (rest := [.int p0, .int 2, .ref h]) ⟨hx, hb, hml, hown, hts⟩ (m_X12_intern l dC dI cB cC cI cJ cZ cP h qK qS ad hDD H.size  p0 (s_1.1 - p0) u_11.2 _ hu_15) (cwV 2 hts (g_gV wq_1514 wq_1515 wq_2118 wq_13 wq_1516) rfl rfl rfl (by decide +kernel) ⟨Nat.le_of_ble_eq_true rfl, Nat.le_of_ble_eq_true rfl⟩) (m_preV g_bl0 hsz hK hP hS hE hKS g_to0) rfl rfl hl.1 rfl (lv_room (Nat.le_of_ble_eq_true rfl)) dX12_word_81 ⟨Nat.le_of_ble_eq_true rfl, Nat.le_of_ble_eq_true rfl⟩) (fun H locs hP hS => ?_)
        obtain ⟨u_17, hu_17, hF_18⟩ := Option.bind_eq_some_iff.mp hF_16
        clear hF_16
        refine m_cv hsz hS (va_runV (As := [.int 2, .int p0, .int u_15.1]) (rest := []) ⟨hx, hb, hml, hown, hts⟩ (m_X12_token l dC dI cB cC cI cJ cZ cP h qK qS ad hDD H.size  2 p0 u_15.1 u_15.2 _ hu_17) (cwV 3 hts (g_gV wq_1511 wq_1512 wq_2117 wq_13 wq_1513) rfl rfl rfl (by decide +kernel) ⟨Nat.le_of_ble_eq_true rfl, Nat.le_of_ble_eq_true rfl⟩) (m_preV g_bl0 hsz hK hP hS hE hKS g_to0) rfl rfl hl.1 rfl (lv_room (Nat.le_of_ble_eq_true rfl)) dX12_word_84 ⟨Nat.le_of_ble_eq_true rfl, Nat.le_of_ble_eq_true rfl⟩) (fun H locs hP hS => ?_)
        refine lv_iload_n hx hb dX12_word_87 rfl (lv_at hl 3 rfl) ?_
        have h9 := Option.some.inj hF_18
        subst h9
        exact W.iret (v := s_1.1) hx hb hr (fun t ht hW => ⟨⟨s_1.1, (), rfl, rfl, m_end ht hP⟩, hS.F ht⟩) hS.2.2 dX12_word_88
      · have hF_19 := ineg c_13 hF_12
        clear hF_12
        refine lv_aload_n hx hb dX12_word_63 rfl (lv_at hl 1 rfl) ?_
        refine lv_iconst (v := 1) hx hb dX12_word_64 (by decide +kernel) ?_
        refine lv_iload_n hx hb dX12_word_65 rfl (lv_at hl 2 rfl) ?_
        refine lv_iload_n hx hb dX12_word_66 rfl (lv_at hl 0 rfl) ?_
        obtain ⟨u_20, hu_20, hF_21⟩ := Option.bind_eq_some_iff.mp hF_19
        clear hF_19
        refine m_cv hsz hS (va_runV (As := [.int 1, .int p0, .int u_11.1]) (rest := []) ⟨hx, hb, hml, hown, hts⟩ (m_X12_token l dC dI cB cC cI cJ cZ cP h qK qS ad hDD H.size  1 p0 u_11.1 u_11.2 _ hu_20) (cwV 3 hts (g_gV wq_1511 wq_1512 wq_2117 wq_13 wq_1513) rfl rfl rfl (by decide +kernel) ⟨Nat.le_of_ble_eq_true rfl, Nat.le_of_ble_eq_true rfl⟩) (m_preV g_bl0 hsz hK hP hS hE hKS g_to0) rfl rfl hl.1 rfl (lv_room (Nat.le_of_ble_eq_true rfl)) dX12_word_67 ⟨Nat.le_of_ble_eq_true rfl, Nat.le_of_ble_eq_true rfl⟩) (fun H locs hP hS => ?_)
        refine lv_goto (tgt := 87) hx hb dX12_word_70 (by decide) ?_
        refine lv_iload_n hx hb dX12_word_87 rfl (lv_at hl 3 rfl) ?_
        have h9 := Option.some.inj hF_21
        subst h9
        exact W.iret (v := s_1.1) hx hb hr (fun t ht hW => ⟨⟨s_1.1, (), rfl, rfl, m_end ht hP⟩, hS.F ht⟩) hS.2.2 dX12_word_88
    · have hF_22 := ineg c_9 hF_8
      clear hF_8
      refine lv_iconst (v := (-1)) hx hb dX12_word_48 (by decide +kernel) ?_
      have h9 := Option.some.inj hF_22
      subst h9
      exact W.iret (v := (-1)) hx hb hr (fun t ht hW => ⟨⟨(-1), (), rfl, rfl, m_end ht hP⟩, hS.F ht⟩) hS.2.2 dX12_word_49
  refine lv_icmp_ge (tgt := 40) hx hb dX12_word_7 (by decide) (fun c_23 => ?_) (fun c_23 => ?_)
  · have hF_24 := ipos c_23 hF_7
    clear hF_7
    exact Jj_6  s_1.2 hF_24 _ _ hP hS ls (lv_sub hl [0, 1, 2] rfl)
  · have hF_25 := ineg c_23 hF_7
    clear hF_7
    refine lv_aload_n hx hb dX12_word_10 rfl (lv_at hl 0 rfl) ?_
    refine va_get (D := (dC, dI)) (ci := 12) (v := .ref (ad 5)) (C := RX12) (T := TX12) (N := 123) hx hb hts ii_X12 hown hK hP 0 rfl rfl 5 (by decide) (hts (.fieldLink RX12 24 "StoryHouseModel" "source" "[B") wq_1361) (fun _ h9 => h9) rfl dX12_word_11 ?_
    refine lv_iload_n hx hb dX12_word_14 rfl (lv_at hl 2 rfl) ?_
    obtain ⟨g_26, hF_27⟩ := nif_e hF_25
    clear hF_25
    refine va_bald (f := s_1.2.2 5) hx hb hK hP 2 0 rfl rfl g_26 dX12_word_15 ?_
    obtain ⟨u_28, hu_28, hF_29⟩ := Option.bind_eq_some_iff.mp hF_27
    clear hF_27
    refine m_ci hsz hS (va_runS (As := [.int (s_1.2.2 5 s_1.1.toNatClampNeg)]) (rest := []) ⟨hx, hb, hml, hown, hts⟩ (m_X12_small l dC dI cB cC cI cJ cZ cP h qK qS ad hDD H.size  (s_1.2.2 5 s_1.1.toNatClampNeg) s_1.2 _ hu_28) (va_cwS 1 hts (g_gS wq_1497 wq_1498 wq_13 wq_1499) rfl rfl rfl (by decide +kernel) ⟨Nat.le_of_ble_eq_true rfl, Nat.le_of_ble_eq_true rfl⟩) (m_preS g_bl0 hsz hK hP hS hE hKS g_to0) rfl rfl hl.1 rfl (lv_room (Nat.le_of_ble_eq_true rfl)) dX12_word_16 ⟨Nat.le_of_ble_eq_true rfl, Nat.le_of_ble_eq_true rfl⟩) (fun H locs hP hS => ?_)
    obtain ⟨j_31, ej_31, hF_32⟩ := bnd_e hF_29
    clear hF_29
    have Jj_31 : ∀  (σ_30 : MS), j_31  σ_30 = some res → ∀ (H : Heap) (locs : List Loc), va_P (dC, dI) vwCl (mW cB cI cZ h qK qS ad σ_30) H → va_S (mCells h ad sz) s.heap H locs → ∀ ls : Array Slot, lv_has ls 4 [(0, .ref h), (1, .int p0), (2, .int s_1.1)] → W p l e (headSpec (g_ws yX12_word cX12_word 4 (some .int)) { frames := 6, cells := 0, slots := 0, locals := 152 }).room s m ([.ref h, .int p0] : List Value).toArray below meth c H locs 0 0 (MQ below (va_Qi (fun r (_ : Unit) => r = res.1) (fun _ t => va_P (dC, dI) vwCl (mW cB cI cZ h qK qS ad res.2) t.heap) (mCells h ad sz)) ([.ref h, .int p0] : List Value).toArray s 0 0 (mCells h ad sz)) (F0 m 34 ls []) := by
      intro  σ_30 hF0 H locs hP hS ls hl
      subst ej_31
      have hF_33 := hF0
      clear hF0
      obtain ⟨x_34, ex_34, hF_35⟩ := bnd_e hF_33
      clear hF_33
      refine lv_iinc (v := x_34) (lv' := [(2, .int x_34), (0, .ref h), (1, .int p0)]) hx hb dX12_word_34 hl (k := 2) rfl (by rw [ex_34]; rfl) (by decide) rfl (fun ls hl => ?_)
      refine lv_goto (tgt := 2) hx hb dX12_word_37 (by decide) ?_
      exact ih_3 (x_34, σ_30) hF_35 _ _ hP hS ls (lv_sub hl [1, 2, 0] rfl)
    refine lv_if_ne (tgt := 34) hx hb dX12_word_19 (by decide) (fun c_36 => ?_) (fun c_36 => ?_)
    · have hF_45 := ineg c_36 hF_32
      clear hF_32
      exact Jj_31  u_28.2 hF_45 _ _ hP hS ls (lv_sub hl [0, 1, 2] rfl)
    · have hF_37 := ipos c_36 hF_32
      clear hF_32
      refine lv_aload_n hx hb dX12_word_22 rfl (lv_at hl 0 rfl) ?_
      refine va_get (D := (dC, dI)) (ci := 12) (v := .ref (ad 5)) (C := RX12) (T := TX12) (N := 123) hx hb hts ii_X12 hown hK hP 0 rfl rfl 5 (by decide) (hts (.fieldLink RX12 24 "StoryHouseModel" "source" "[B") wq_1361) (fun _ h9 => h9) rfl dX12_word_23 ?_
      refine lv_iload_n hx hb dX12_word_26 rfl (lv_at hl 2 rfl) ?_
      obtain ⟨g_38, hF_39⟩ := nif_e hF_37
      clear hF_37
      refine va_bald (f := u_28.2.2 5) hx hb hK hP 2 0 rfl rfl g_38 dX12_word_27 ?_
      obtain ⟨u_40, hu_40, hF_41⟩ := Option.bind_eq_some_iff.mp hF_39
      clear hF_39
      refine m_ci hsz hS (va_runS (As := [.int (u_28.2.2 5 s_1.1.toNatClampNeg)]) (rest := []) ⟨hx, hb, hml, hown, hts⟩ (m_X12_figure l dC dI cB cC cI cJ cZ cP h qK qS ad hDD H.size  (u_28.2.2 5 s_1.1.toNatClampNeg) u_28.2 _ hu_40) (va_cwS 1 hts (g_gS wq_1503 wq_1504 wq_13 wq_1505) rfl rfl rfl (by decide +kernel) ⟨Nat.le_of_ble_eq_true rfl, Nat.le_of_ble_eq_true rfl⟩) (m_preS g_bl0 hsz hK hP hS hE hKS g_to0) rfl rfl hl.1 rfl (lv_room (Nat.le_of_ble_eq_true rfl)) dX12_word_28 ⟨Nat.le_of_ble_eq_true rfl, Nat.le_of_ble_eq_true rfl⟩) (fun H locs hP hS => ?_)
      refine lv_if_eq (tgt := 40) hx hb dX12_word_31 (by decide) (fun c_42 => ?_) (fun c_42 => ?_)
      · have hF_43 := ipos c_42 hF_41
        clear hF_41
        exact Jj_6  u_40.2 hF_43 _ _ hP hS ls (lv_sub hl [0, 1, 2] rfl)
      · have hF_44 := ineg c_42 hF_41
        clear hF_41
        exact Jj_31  u_40.2 hF_44 _ _ hP hS ls (lv_sub hl [0, 1, 2] rfl)
theorem dX12_lex_0 : decode cX12_lex 0 = .ok (.aload_n 0, 1) := by decide +kernel
theorem dX12_lex_1 : decode cX12_lex 1 = .ok (.iconst 0, 1) := by decide +kernel
theorem dX12_lex_2 : decode cX12_lex 2 = .ok (.putfield 243, 3) := by decide +kernel
theorem dX12_lex_5 : decode cX12_lex 5 = .ok (.aload_n 0, 1) := by decide +kernel
theorem dX12_lex_6 : decode cX12_lex 6 = .ok (.iconst 0, 1) := by decide +kernel
theorem dX12_lex_7 : decode cX12_lex 7 = .ok (.putfield 246, 3) := by decide +kernel
theorem dX12_lex_10 : decode cX12_lex 10 = .ok (.iconst 0, 1) := by decide +kernel
theorem dX12_lex_11 : decode cX12_lex 11 = .ok (.istore_n 1, 1) := by decide +kernel
theorem dX12_lex_12 : decode cX12_lex 12 = .ok (.iload_n 1, 1) := by decide +kernel
theorem dX12_lex_13 : decode cX12_lex 13 = .ok (.aload_n 0, 1) := by decide +kernel
theorem dX12_lex_14 : decode cX12_lex 14 = .ok (.getfield 249, 3) := by decide +kernel
theorem dX12_lex_17 : decode cX12_lex 17 = .ok (.if_icmp .ge 127, 3) := by decide +kernel
theorem dX12_lex_20 : decode cX12_lex 20 = .ok (.aload_n 0, 1) := by decide +kernel
theorem dX12_lex_21 : decode cX12_lex 21 = .ok (.getfield 24, 3) := by decide +kernel
theorem dX12_lex_24 : decode cX12_lex 24 = .ok (.iload_n 1, 1) := by decide +kernel
theorem dX12_lex_25 : decode cX12_lex 25 = .ok (.baload, 1) := by decide +kernel
theorem dX12_lex_26 : decode cX12_lex 26 = .ok (.istore_n 2, 1) := by decide +kernel
theorem dX12_lex_27 : decode cX12_lex 27 = .ok (.iload_n 2, 1) := by decide +kernel
theorem dX12_lex_28 : decode cX12_lex 28 = .ok (.bipush 32, 2) := by decide +kernel
theorem dX12_lex_30 : decode cX12_lex 30 = .ok (.if_icmp .eq 9, 3) := by decide +kernel
theorem dX12_lex_33 : decode cX12_lex 33 = .ok (.iload_n 2, 1) := by decide +kernel
theorem dX12_lex_34 : decode cX12_lex 34 = .ok (.bipush 10, 2) := by decide +kernel
theorem dX12_lex_36 : decode cX12_lex 36 = .ok (.if_icmp .ne 9, 3) := by decide +kernel
theorem dX12_lex_39 : decode cX12_lex 39 = .ok (.iinc 1 1, 3) := by decide +kernel
theorem dX12_lex_42 : decode cX12_lex 42 = .ok (.goto 99, 3) := by decide +kernel
theorem dX12_lex_45 : decode cX12_lex 45 = .ok (.iload_n 2, 1) := by decide +kernel
theorem dX12_lex_46 : decode cX12_lex 46 = .ok (.bipush 35, 2) := by decide +kernel
theorem dX12_lex_48 : decode cX12_lex 48 = .ok (.if_icmp .ne 28, 3) := by decide +kernel
theorem dX12_lex_51 : decode cX12_lex 51 = .ok (.iload_n 1, 1) := by decide +kernel
theorem dX12_lex_52 : decode cX12_lex 52 = .ok (.aload_n 0, 1) := by decide +kernel
theorem dX12_lex_53 : decode cX12_lex 53 = .ok (.getfield 249, 3) := by decide +kernel
theorem dX12_lex_56 : decode cX12_lex 56 = .ok (.if_icmp .ge 85, 3) := by decide +kernel
theorem dX12_lex_59 : decode cX12_lex 59 = .ok (.aload_n 0, 1) := by decide +kernel
theorem dX12_lex_60 : decode cX12_lex 60 = .ok (.getfield 24, 3) := by decide +kernel
theorem dX12_lex_63 : decode cX12_lex 63 = .ok (.iload_n 1, 1) := by decide +kernel
theorem dX12_lex_64 : decode cX12_lex 64 = .ok (.baload, 1) := by decide +kernel
theorem dX12_lex_65 : decode cX12_lex 65 = .ok (.bipush 10, 2) := by decide +kernel
theorem dX12_lex_67 : decode cX12_lex 67 = .ok (.if_icmp .eq 74, 3) := by decide +kernel
theorem dX12_lex_70 : decode cX12_lex 70 = .ok (.iinc 1 1, 3) := by decide +kernel
theorem dX12_lex_73 : decode cX12_lex 73 = .ok (.goto (-22), 3) := by decide +kernel
theorem dX12_lex_76 : decode cX12_lex 76 = .ok (.iload_n 2, 1) := by decide +kernel
theorem dX12_lex_77 : decode cX12_lex 77 = .ok (.invokestatic 252, 3) := by decide +kernel
theorem dX12_lex_80 : decode cX12_lex 80 = .ok (.ifCond .eq 11, 3) := by decide +kernel
theorem dX12_lex_83 : decode cX12_lex 83 = .ok (.aload_n 0, 1) := by decide +kernel
theorem dX12_lex_84 : decode cX12_lex 84 = .ok (.iload_n 1, 1) := by decide +kernel
theorem dX12_lex_85 : decode cX12_lex 85 = .ok (.invokevirtual 256, 3) := by decide +kernel
theorem dX12_lex_88 : decode cX12_lex 88 = .ok (.goto 37, 3) := by decide +kernel
theorem dX12_lex_91 : decode cX12_lex 91 = .ok (.iload_n 2, 1) := by decide +kernel
theorem dX12_lex_92 : decode cX12_lex 92 = .ok (.invokestatic 260, 3) := by decide +kernel
theorem dX12_lex_95 : decode cX12_lex 95 = .ok (.ifCond .eq 11, 3) := by decide +kernel
theorem dX12_lex_98 : decode cX12_lex 98 = .ok (.aload_n 0, 1) := by decide +kernel
theorem dX12_lex_99 : decode cX12_lex 99 = .ok (.iload_n 1, 1) := by decide +kernel
theorem dX12_lex_100 : decode cX12_lex 100 = .ok (.invokevirtual 263, 3) := by decide +kernel
theorem dX12_lex_103 : decode cX12_lex 103 = .ok (.goto 22, 3) := by decide +kernel
theorem dX12_lex_106 : decode cX12_lex 106 = .ok (.iload_n 2, 1) := by decide +kernel
theorem dX12_lex_107 : decode cX12_lex 107 = .ok (.bipush 34, 2) := by decide +kernel
theorem dX12_lex_109 : decode cX12_lex 109 = .ok (.if_icmp .ne 11, 3) := by decide +kernel
theorem dX12_lex_112 : decode cX12_lex 112 = .ok (.aload_n 0, 1) := by decide +kernel
theorem dX12_lex_113 : decode cX12_lex 113 = .ok (.iload_n 1, 1) := by decide +kernel
theorem dX12_lex_114 : decode cX12_lex 114 = .ok (.invokevirtual 266, 3) := by decide +kernel
theorem dX12_lex_117 : decode cX12_lex 117 = .ok (.goto 8, 3) := by decide +kernel
theorem dX12_lex_120 : decode cX12_lex 120 = .ok (.aload_n 0, 1) := by decide +kernel
theorem dX12_lex_121 : decode cX12_lex 121 = .ok (.iload_n 1, 1) := by decide +kernel
theorem dX12_lex_122 : decode cX12_lex 122 = .ok (.invokevirtual 269, 3) := by decide +kernel
theorem dX12_lex_125 : decode cX12_lex 125 = .ok (.istore_n 3, 1) := by decide +kernel
theorem dX12_lex_126 : decode cX12_lex 126 = .ok (.iload_n 3, 1) := by decide +kernel
theorem dX12_lex_127 : decode cX12_lex 127 = .ok (.ifCond .ge 12, 3) := by decide +kernel
theorem dX12_lex_130 : decode cX12_lex 130 = .ok (.aload_n 0, 1) := by decide +kernel
theorem dX12_lex_131 : decode cX12_lex 131 = .ok (.bipush 6, 2) := by decide +kernel
theorem dX12_lex_133 : decode cX12_lex 133 = .ok (.iload_n 1, 1) := by decide +kernel
theorem dX12_lex_134 : decode cX12_lex 134 = .ok (.iconst 0, 1) := by decide +kernel
theorem dX12_lex_135 : decode cX12_lex 135 = .ok (.invokevirtual 272, 3) := by decide +kernel
theorem dX12_lex_138 : decode cX12_lex 138 = .ok (.return_, 1) := by decide +kernel
theorem dX12_lex_139 : decode cX12_lex 139 = .ok (.iload_n 3, 1) := by decide +kernel
theorem dX12_lex_140 : decode cX12_lex 140 = .ok (.istore_n 1, 1) := by decide +kernel
theorem dX12_lex_141 : decode cX12_lex 141 = .ok (.goto (-129), 3) := by decide +kernel
theorem dX12_lex_144 : decode cX12_lex 144 = .ok (.aload_n 0, 1) := by decide +kernel
theorem dX12_lex_145 : decode cX12_lex 145 = .ok (.iconst 0, 1) := by decide +kernel
theorem dX12_lex_146 : decode cX12_lex 146 = .ok (.aload_n 0, 1) := by decide +kernel
theorem dX12_lex_147 : decode cX12_lex 147 = .ok (.getfield 249, 3) := by decide +kernel
theorem dX12_lex_150 : decode cX12_lex 150 = .ok (.iconst 0, 1) := by decide +kernel
theorem dX12_lex_151 : decode cX12_lex 151 = .ok (.invokevirtual 272, 3) := by decide +kernel
theorem dX12_lex_154 : decode cX12_lex 154 = .ok (.return_, 1) := by decide +kernel
def F_X12_lex  (σ : MS) : MR :=
  bnd (mI σ 10 0) fun σ_1 =>
  bnd (mI σ_1 13 0) fun σ_3 =>
  loopF (fun (again_6 : (Int32 × MS) → MR) (s_5 : Int32 × MS) => (
    if (s_5.2.1 6) ≤ s_5.1 then (
      (F_X12_token 0 (s_5.2.1 6) 0 s_5.2).bind fun u_11 =>
      some (0, u_11.2)
    ) else (
      if s_5.1 < 0 ∨ 16000 ≤ s_5.1.toNatClampNeg then none else
      bnd ((s_5.2.2 5 s_5.1.toNatClampNeg)) fun (x_16 : Int32) =>
      bnd (fun (v1_18 : Int32) (σ_19 : MS) => (
        again_6 (v1_18, σ_19)
      ) : Int32 → MS → MR) fun j_20 =>
      bnd (fun  (σ_23 : MS) => (
        bnd (s_5.1 + 1) fun (x_27 : Int32) =>
        j_20 x_27 σ_23
      ) : MS → MR) fun j_24 =>
      if x_16 = 32 then (
        j_24  s_5.2
      ) else (
        if x_16 = 10 then (
          j_24  s_5.2
        ) else (
          if x_16 = 35 then (
            loopF (fun (again_38 : (Int32 × MS) → MR) (s_37 : Int32 × MS) => (
              if (s_37.2.1 6) ≤ s_37.1 then (
                j_20 s_37.1 s_37.2
              ) else (
                if s_37.1 < 0 ∨ 16000 ≤ s_37.1.toNatClampNeg then none else
                if (s_37.2.2 5 s_37.1.toNatClampNeg) = 10 then (
                  j_20 s_37.1 s_37.2
                ) else (
                  bnd (s_37.1 + 1) fun (x_49 : Int32) =>
                  again_38 (x_49, s_37.2)
                )
              )
            )) FU (s_5.1, s_5.2)
          ) else (
            (F_X12_small x_16 s_5.2).bind fun u_52 =>
            bnd (fun (t_54 : Int32) (σ_55 : MS) => (
              if 0 ≤ t_54 then (
                j_20 t_54 σ_55
              ) else (
                (F_X12_token 6 s_5.1 0 σ_55).bind fun u_62 =>
                some (0, u_62.2)
              )
            ) : Int32 → MS → MR) fun j_56 =>
            if u_52.1 = 0 then (
              (F_X12_figure x_16 u_52.2).bind fun u_66 =>
              if u_66.1 = 0 then (
                if x_16 = 34 then (
                  (F_X12_string s_5.1 u_66.2).bind fun u_72 =>
                  j_56 u_72.1 u_72.2
                ) else (
                  (F_X12_sign s_5.1 u_66.2).bind fun u_75 =>
                  j_56 u_75.1 u_75.2
                )
              ) else (
                (F_X12_number s_5.1 u_66.2).bind fun u_78 =>
                j_56 u_78.1 u_78.2
              )
            ) else (
              (F_X12_word s_5.1 u_52.2).bind fun u_81 =>
              j_56 u_81.1 u_81.2
            )
          )
        )
      )
    )
  )) FU (0, σ_3)
set_option maxHeartbeats 4000000 in
set_option maxRecDepth 100000 in
theorem m_X12_lex (l : Launch) (dC : Nat → ClassId) (dI : Nat → Nat → Nat) (cB cC cI cJ cZ cP : ClassId) (h qK qS : Nat) (ad : Nat → Nat) (hDD : mDis cB cI cZ h qK qS ad) (sz : Nat)   (σ : MS) (res : Int32 × MS) (hF : F_X12_lex  σ = some res) : Met l yX12_lex (g_ws yX12_lex cX12_lex 4 none) ({ frames := 7, cells := 0, slots := 0, locals := 175 }) (va_Pc [.ref h] (m_B (dC, dI) [(cB, .byte), (cC, .char), (cI, .int), (cJ, .long), (cZ, .boolean), (cP, .object "StoryHouse$Play")] sz h ad qK qS (mW cB cI cZ h qK qS ad σ) g_0)) (va_Qv (fun (_ : Unit) => True) (fun _ t => va_P (dC, dI) vwCl (mW cB cI cZ h qK qS ad res.2) t.heap) (mCells h ad sz)) 0 0 (mCells h ad sz) := by
  refine Met.ofW (cc := cX12_lex) (maxL := 4) (ret := none) (by decide) rfl ?_
  intro p e s m args below meth c s₁ B hml hv
  obtain ⟨rfl, hsz, hP, hK, hE, hKS, hX⟩ := hv
  have hx := B.exec
  have hb := B.bytes
  have hr := B.returns
  have hts0 := atoms_spec (ws := g_ws yX12_lex cX12_lex 4 none) B.pre
  have hts : ∀ w ∈ lw_good, w.before ([.ref h] : List Value).toArray s = true := fun w z => hts0 w (List.mem_cons_of_mem _ z)
  have hown : s.vm.findClass RX12 = some m.cls := findClass_of_methodNamed B.named
  have hlocks := B.notSynchronized
  have hS : va_S (mCells h ad sz) s.heap s.heap [] := va_S.rf
  have hl := lv_entry ([.ref h]) (n := 4) (Nat.le_of_ble_eq_true rfl)
  rw [lg_entry_eq]
  generalize (lg_sl ([.ref h]) ++ List.replicate (4 - (lg_sl ([.ref h])).length) Slot.unset).toArray = ls at hl ⊢
  have hl : lv_has ls 4 [(0, .ref h)] := hl
  unfold F_X12_lex at hF
  refine lv_aload_n hx hb dX12_lex_0 rfl (lv_at hl 0 rfl) ?_
  refine lv_iconst (v := 0) hx hb dX12_lex_1 (by decide +kernel) ?_
  obtain ⟨σ_1, eσ_1, hF_2⟩ := bnd_e hF
  clear hF
  refine m_put (σ' := σ_1) (v := .int 0) (ty := .int) hx hb hts hown hK hP (hDD _ _) hS (by rw [eσ_1]; exact mwI_10) (k := 10) (by decide) (hts (.fieldLink RX12 243 "StoryHouseModel" "tokens" "I") wq_1366) (fun _ h9 => h9) rfl (by decide +kernel) rfl rfl dX12_lex_2 (fun H locs hP hS => ?_)
  refine lv_aload_n hx hb dX12_lex_5 rfl (lv_at hl 0 rfl) ?_
  refine lv_iconst (v := 0) hx hb dX12_lex_6 (by decide +kernel) ?_
  obtain ⟨σ_3, eσ_3, hF_4⟩ := bnd_e hF_2
  clear hF_2
  refine m_put (σ' := σ_3) (v := .int 0) (ty := .int) hx hb hts hown hK hP (hDD _ _) hS (by rw [eσ_3]; exact mwI_13) (k := 13) (by decide) (hts (.fieldLink RX12 246 "StoryHouseModel" "names" "I") wq_1369) (fun _ h9 => h9) rfl (by decide +kernel) rfl rfl dX12_lex_7 (fun H locs hP hS => ?_)
  refine lv_iconst (v := 0) hx hb dX12_lex_10 (by decide +kernel) ?_
  refine lv_istore_n (lv' := [(1, .int 0), (0, .ref h)]) hx hb dX12_lex_11 rfl hl (by decide) rfl (fun ls hl => ?_)
  refine loopF_ind (P := fun (s_5 : Int32 × MS) => ∀ (H : Heap) (locs : List Loc), va_P (dC, dI) vwCl (mW cB cI cZ h qK qS ad s_5.2) H → va_S (mCells h ad sz) s.heap H locs → ∀ ls : Array Slot, lv_has ls 4 [(0, .ref h), (1, .int s_5.1)] → W p l e (headSpec (g_ws yX12_lex cX12_lex 4 none) { frames := 7, cells := 0, slots := 0, locals := 175 }).room s m ([.ref h] : List Value).toArray below meth c H locs 0 0 (MQ below (va_Qv (fun (_ : Unit) => True) (fun _ t => va_P (dC, dI) vwCl (mW cB cI cZ h qK qS ad res.2) t.heap) (mCells h ad sz)) ([.ref h] : List Value).toArray s 0 0 (mCells h ad sz)) (F0 m 12 ls [])) ?_ _ _ hF_4 _ _ hP hS ls (lv_sub hl [1, 0] rfl)
  intro again_6 s_5 ih_7 hF_8
  intro H locs hP hS ls hl
  refine lv_iload_n hx hb dX12_lex_12 rfl (lv_at hl 1 rfl) ?_
  refine lv_aload_n hx hb dX12_lex_13 rfl (lv_at hl 0 rfl) ?_
  refine va_get (D := (dC, dI)) (ci := 12) (v := .int (s_5.2.1 6)) (C := RX12) (T := TX12) (N := 123) hx hb hts ii_X12 hown hK hP 0 rfl rfl 6 (by decide) (hts (.fieldLink RX12 249 "StoryHouseModel" "sourceSize" "I") wq_1362) (fun _ h9 => h9) rfl dX12_lex_14 ?_
  refine lv_icmp_ge (tgt := 144) hx hb dX12_lex_17 (by decide) (fun c_9 => ?_) (fun c_9 => ?_)
  · have hF_10 := ipos c_9 hF_8
    clear hF_8
    refine lv_aload_n hx hb dX12_lex_144 rfl (lv_at hl 0 rfl) ?_
    refine lv_iconst (v := 0) hx hb dX12_lex_145 (by decide +kernel) ?_
    refine lv_aload_n hx hb dX12_lex_146 rfl (lv_at hl 0 rfl) ?_
    refine va_get (D := (dC, dI)) (ci := 12) (v := .int (s_5.2.1 6)) (C := RX12) (T := TX12) (N := 123) hx hb hts ii_X12 hown hK hP 0 rfl rfl 6 (by decide) (hts (.fieldLink RX12 249 "StoryHouseModel" "sourceSize" "I") wq_1362) (fun _ h9 => h9) rfl dX12_lex_147 ?_
    refine lv_iconst (v := 0) hx hb dX12_lex_150 (by decide +kernel) ?_
    obtain ⟨u_11, hu_11, hF_12⟩ := Option.bind_eq_some_iff.mp hF_10
    clear hF_10
    refine m_cv hsz hS (va_runV (As := [.int 0, .int (s_5.2.1 6), .int 0]) (rest := []) ⟨hx, hb, hml, hown, hts⟩ (m_X12_token l dC dI cB cC cI cJ cZ cP h qK qS ad hDD H.size  0 (s_5.2.1 6) 0 s_5.2 _ hu_11) (cwV 3 hts (g_gV wq_1511 wq_1512 wq_2117 wq_13 wq_1513) rfl rfl rfl (by decide +kernel) ⟨Nat.le_of_ble_eq_true rfl, Nat.le_of_ble_eq_true rfl⟩) (m_preV g_bl0 hsz hK hP hS hE hKS g_to0) rfl rfl hl.1 rfl (lv_room (Nat.le_of_ble_eq_true rfl)) dX12_lex_151 ⟨Nat.le_of_ble_eq_true rfl, Nat.le_of_ble_eq_true rfl⟩) (fun H locs hP hS => ?_)
    have h9 := Option.some.inj hF_12
    subst h9
    exact W.vret hx hb hr (fun t ht hW => ⟨⟨(), rfl, trivial, m_end ht hP⟩, hS.F ht⟩) hS.2.2 dX12_lex_154
  · have hF_13 := ineg c_9 hF_8
    clear hF_8
    refine lv_aload_n hx hb dX12_lex_20 rfl (lv_at hl 0 rfl) ?_
    refine va_get (D := (dC, dI)) (ci := 12) (v := .ref (ad 5)) (C := RX12) (T := TX12) (N := 123) hx hb hts ii_X12 hown hK hP 0 rfl rfl 5 (by decide) (hts (.fieldLink RX12 24 "StoryHouseModel" "source" "[B") wq_1361) (fun _ h9 => h9) rfl dX12_lex_21 ?_
    refine lv_iload_n hx hb dX12_lex_24 rfl (lv_at hl 1 rfl) ?_
    obtain ⟨g_14, hF_15⟩ := nif_e hF_13
    clear hF_13
    refine va_bald (f := s_5.2.2 5) hx hb hK hP 2 0 rfl rfl g_14 dX12_lex_25 ?_
    obtain ⟨x_16, ex_16, hF_17⟩ := bnd_e hF_15
    clear hF_15
    refine m_top ex_16 ?_
    refine lv_istore_n (lv' := [(2, .int x_16), (0, .ref h), (1, .int s_5.1)]) hx hb dX12_lex_26 rfl hl (by decide) rfl (fun ls hl => ?_)
    refine lv_iload_n hx hb dX12_lex_27 rfl (lv_at hl 0 rfl) ?_
    refine lv_bipush (v := 32) hx hb dX12_lex_28 (by decide +kernel) ?_
    obtain ⟨j_20, ej_20, hF_21⟩ := bnd_e hF_17
    clear hF_17
    have Jj_20 : ∀ (v1_18 : Int32) (σ_19 : MS), j_20 v1_18 σ_19 = some res → ∀ (H : Heap) (locs : List Loc), va_P (dC, dI) vwCl (mW cB cI cZ h qK qS ad σ_19) H → va_S (mCells h ad sz) s.heap H locs → ∀ ls : Array Slot, lv_has ls 4 [(0, .ref h), (1, .int v1_18)] → W p l e (headSpec (g_ws yX12_lex cX12_lex 4 none) { frames := 7, cells := 0, slots := 0, locals := 175 }).room s m ([.ref h] : List Value).toArray below meth c H locs 0 0 (MQ below (va_Qv (fun (_ : Unit) => True) (fun _ t => va_P (dC, dI) vwCl (mW cB cI cZ h qK qS ad res.2) t.heap) (mCells h ad sz)) ([.ref h] : List Value).toArray s 0 0 (mCells h ad sz)) (F0 m 141 ls []) := by
      intro v1_18 σ_19 hF0 H locs hP hS ls hl
      subst ej_20
      have hF_22 := hF0
      clear hF0
      refine lv_goto (tgt := 12) hx hb dX12_lex_141 (by decide) ?_
      exact ih_7 (v1_18, σ_19) hF_22 _ _ hP hS ls (lv_sub hl [0, 1] rfl)
    obtain ⟨j_24, ej_24, hF_25⟩ := bnd_e hF_21
    clear hF_21
    have Jj_24 : ∀  (σ_23 : MS), j_24  σ_23 = some res → ∀ (H : Heap) (locs : List Loc), va_P (dC, dI) vwCl (mW cB cI cZ h qK qS ad σ_23) H → va_S (mCells h ad sz) s.heap H locs → ∀ ls : Array Slot, lv_has ls 4 [(0, .ref h), (1, .int s_5.1)] → W p l e (headSpec (g_ws yX12_lex cX12_lex 4 none) { frames := 7, cells := 0, slots := 0, locals := 175 }).room s m ([.ref h] : List Value).toArray below meth c H locs 0 0 (MQ below (va_Qv (fun (_ : Unit) => True) (fun _ t => va_P (dC, dI) vwCl (mW cB cI cZ h qK qS ad res.2) t.heap) (mCells h ad sz)) ([.ref h] : List Value).toArray s 0 0 (mCells h ad sz)) (F0 m 39 ls []) := by
      intro  σ_23 hF0 H locs hP hS ls hl
      subst ej_24
      have hF_26 := hF0
      clear hF0
      obtain ⟨x_27, ex_27, hF_28⟩ := bnd_e hF_26
      clear hF_26
      refine lv_iinc (v := x_27) (lv' := [(1, .int x_27), (0, .ref h)]) hx hb dX12_lex_39 hl (k := 1) rfl (by rw [ex_27]; rfl) (by decide) rfl (fun ls hl => ?_)
      refine lv_goto (tgt := 141) hx hb dX12_lex_42 (by decide) ?_
      exact Jj_20 x_27 σ_23 hF_28 _ _ hP hS ls (lv_sub hl [1, 0] rfl)
    refine lv_icmp_eq (tgt := 39) hx hb dX12_lex_30 (by decide) (fun c_29 => ?_) (fun c_29 => ?_)
    · have hF_30 := ipos c_29 hF_25
      clear hF_25
      exact Jj_24  s_5.2 hF_30 _ _ hP hS ls (lv_sub hl [1, 2] rfl)
    · have hF_31 := ineg c_29 hF_25
      clear hF_25
      refine lv_iload_n hx hb dX12_lex_33 rfl (lv_at hl 0 rfl) ?_
      refine lv_bipush (v := 10) hx hb dX12_lex_34 (by decide +kernel) ?_
      refine lv_icmp_ne (tgt := 45) hx hb dX12_lex_36 (by decide) (fun c_32 => ?_) (fun c_32 => ?_)
      · have hF_34 := ineg c_32 hF_31
        clear hF_31
        refine lv_iload_n hx hb dX12_lex_45 rfl (lv_at hl 0 rfl) ?_
        refine lv_bipush (v := 35) hx hb dX12_lex_46 (by decide +kernel) ?_
        refine lv_icmp_ne (tgt := 76) hx hb dX12_lex_48 (by decide) (fun c_35 => ?_) (fun c_35 => ?_)
        · have hF_51 := ineg c_35 hF_34
          clear hF_34
          refine lv_iload_n hx hb dX12_lex_76 rfl (lv_at hl 0 rfl) ?_
          obtain ⟨u_52, hu_52, hF_53⟩ := Option.bind_eq_some_iff.mp hF_51
          clear hF_51
          refine m_ci hsz hS (va_runS (As := [.int x_16]) (rest := []) ⟨hx, hb, hml, hown, hts⟩ (m_X12_small l dC dI cB cC cI cJ cZ cP h qK qS ad hDD H.size  x_16 s_5.2 _ hu_52) (va_cwS 1 hts (g_gS wq_1497 wq_1498 wq_13 wq_1499) rfl rfl rfl (by decide +kernel) ⟨Nat.le_of_ble_eq_true rfl, Nat.le_of_ble_eq_true rfl⟩) (m_preS g_bl0 hsz hK hP hS hE hKS g_to0) rfl rfl hl.1 rfl (lv_room (Nat.le_of_ble_eq_true rfl)) dX12_lex_77 ⟨Nat.le_of_ble_eq_true rfl, Nat.le_of_ble_eq_true rfl⟩) (fun H locs hP hS => ?_)
          obtain ⟨j_56, ej_56, hF_57⟩ := bnd_e hF_53
          clear hF_53
          have Jj_56 : ∀ (t_54 : Int32) (σ_55 : MS), j_56 t_54 σ_55 = some res → ∀ (H : Heap) (locs : List Loc), va_P (dC, dI) vwCl (mW cB cI cZ h qK qS ad σ_55) H → va_S (mCells h ad sz) s.heap H locs → ∀ ls : Array Slot, lv_has ls 4 [(0, .ref h), (1, .int s_5.1)] → W p l e (headSpec (g_ws yX12_lex cX12_lex 4 none) { frames := 7, cells := 0, slots := 0, locals := 175 }).room s m ([.ref h] : List Value).toArray below meth c H locs 0 0 (MQ below (va_Qv (fun (_ : Unit) => True) (fun _ t => va_P (dC, dI) vwCl (mW cB cI cZ h qK qS ad res.2) t.heap) (mCells h ad sz)) ([.ref h] : List Value).toArray s 0 0 (mCells h ad sz)) (F0 m 125 ls [.int t_54]) := by
            intro t_54 σ_55 hF0 H locs hP hS ls hl
            subst ej_56
            have hF_58 := hF0
            clear hF0
            refine lv_istore_n (lv' := [(3, .int t_54), (0, .ref h), (1, .int s_5.1)]) hx hb dX12_lex_125 rfl hl (by decide) rfl (fun ls hl => ?_)
            refine lv_iload_n hx hb dX12_lex_126 rfl (lv_at hl 0 rfl) ?_
            refine lv_if_ge (tgt := 139) hx hb dX12_lex_127 (by decide) (fun c_59 => ?_) (fun c_59 => ?_)
            · have hF_60 := ipos c_59 hF_58
              clear hF_58
              refine lv_iload_n hx hb dX12_lex_139 rfl (lv_at hl 0 rfl) ?_
              refine lv_istore_n (lv' := [(1, .int t_54), (3, .int t_54), (0, .ref h)]) hx hb dX12_lex_140 rfl hl (by decide) rfl (fun ls hl => ?_)
              exact Jj_20 t_54 σ_55 hF_60 _ _ hP hS ls (lv_sub hl [2, 0] rfl)
            · have hF_61 := ineg c_59 hF_58
              clear hF_58
              refine lv_aload_n hx hb dX12_lex_130 rfl (lv_at hl 1 rfl) ?_
              refine lv_bipush (v := 6) hx hb dX12_lex_131 (by decide +kernel) ?_
              refine lv_iload_n hx hb dX12_lex_133 rfl (lv_at hl 2 rfl) ?_
              refine lv_iconst (v := 0) hx hb dX12_lex_134 (by decide +kernel) ?_
              obtain ⟨u_62, hu_62, hF_63⟩ := Option.bind_eq_some_iff.mp hF_61
              clear hF_61
              refine m_cv hsz hS (va_runV (As := [.int 6, .int s_5.1, .int 0]) (rest := []) ⟨hx, hb, hml, hown, hts⟩ (m_X12_token l dC dI cB cC cI cJ cZ cP h qK qS ad hDD H.size  6 s_5.1 0 σ_55 _ hu_62) (cwV 3 hts (g_gV wq_1511 wq_1512 wq_2117 wq_13 wq_1513) rfl rfl rfl (by decide +kernel) ⟨Nat.le_of_ble_eq_true rfl, Nat.le_of_ble_eq_true rfl⟩) (m_preV g_bl0 hsz hK hP hS hE hKS g_to0) rfl rfl hl.1 rfl (lv_room (Nat.le_of_ble_eq_true rfl)) dX12_lex_135 ⟨Nat.le_of_ble_eq_true rfl, Nat.le_of_ble_eq_true rfl⟩) (fun H locs hP hS => ?_)
              have h9 := Option.some.inj hF_63
              subst h9
              exact W.vret hx hb hr (fun t ht hW => ⟨⟨(), rfl, trivial, m_end ht hP⟩, hS.F ht⟩) hS.2.2 dX12_lex_138
          refine lv_if_eq (tgt := 91) hx hb dX12_lex_80 (by decide) (fun c_64 => ?_) (fun c_64 => ?_)
          · have hF_65 := ipos c_64 hF_57
            clear hF_57
            refine lv_iload_n hx hb dX12_lex_91 rfl (lv_at hl 0 rfl) ?_
            obtain ⟨u_66, hu_66, hF_67⟩ := Option.bind_eq_some_iff.mp hF_65
            clear hF_65
            refine m_ci hsz hS (va_runS (As := [.int x_16]) (rest := []) ⟨hx, hb, hml, hown, hts⟩ (m_X12_figure l dC dI cB cC cI cJ cZ cP h qK qS ad hDD H.size  x_16 u_52.2 _ hu_66) (va_cwS 1 hts (g_gS wq_1503 wq_1504 wq_13 wq_1505) rfl rfl rfl (by decide +kernel) ⟨Nat.le_of_ble_eq_true rfl, Nat.le_of_ble_eq_true rfl⟩) (m_preS g_bl0 hsz hK hP hS hE hKS g_to0) rfl rfl hl.1 rfl (lv_room (Nat.le_of_ble_eq_true rfl)) dX12_lex_92 ⟨Nat.le_of_ble_eq_true rfl, Nat.le_of_ble_eq_true rfl⟩) (fun H locs hP hS => ?_)
            refine lv_if_eq (tgt := 106) hx hb dX12_lex_95 (by decide) (fun c_68 => ?_) (fun c_68 => ?_)
            · have hF_69 := ipos c_68 hF_67
              clear hF_67
              refine lv_iload_n hx hb dX12_lex_106 rfl (lv_at hl 0 rfl) ?_
              refine lv_bipush (v := 34) hx hb dX12_lex_107 (by decide +kernel) ?_
              refine lv_icmp_ne (tgt := 120) hx hb dX12_lex_109 (by decide) (fun c_70 => ?_) (fun c_70 => ?_)
              · have hF_74 := ineg c_70 hF_69
                clear hF_69
                refine lv_aload_n hx hb dX12_lex_120 rfl (lv_at hl 1 rfl) ?_
                refine lv_iload_n hx hb dX12_lex_121 rfl (lv_at hl 2 rfl) ?_
                obtain ⟨u_75, hu_75, hF_76⟩ := Option.bind_eq_some_iff.mp hF_74
                clear hF_74
                refine m_ci hsz hS (va_runV (As := [.int s_5.1]) (rest := []) ⟨hx, hb, hml, hown, hts⟩ (m_X12_sign l dC dI cB cC cI cJ cZ cP h qK qS ad hDD H.size  s_5.1 u_66.2 _ hu_75) (cwV 1 hts (g_gV wq_1524 wq_1525 wq_2121 wq_13 wq_1526) rfl rfl rfl (by decide +kernel) ⟨Nat.le_of_ble_eq_true rfl, Nat.le_of_ble_eq_true rfl⟩) (m_preV g_bl0 hsz hK hP hS hE hKS g_to0) rfl rfl hl.1 rfl (lv_room (Nat.le_of_ble_eq_true rfl)) dX12_lex_122 ⟨Nat.le_of_ble_eq_true rfl, Nat.le_of_ble_eq_true rfl⟩) (fun H locs hP hS => ?_)
                exact Jj_56 u_75.1 u_75.2 hF_76 _ _ hP hS ls (lv_sub hl [1, 2] rfl)
              · have hF_71 := ipos c_70 hF_69
                clear hF_69
                refine lv_aload_n hx hb dX12_lex_112 rfl (lv_at hl 1 rfl) ?_
                refine lv_iload_n hx hb dX12_lex_113 rfl (lv_at hl 2 rfl) ?_
                obtain ⟨u_72, hu_72, hF_73⟩ := Option.bind_eq_some_iff.mp hF_71
                clear hF_71
                refine m_ci hsz hS (va_runV (As := [.int s_5.1]) (rest := []) ⟨hx, hb, hml, hown, hts⟩ (m_X12_string l dC dI cB cC cI cJ cZ cP h qK qS ad hDD H.size  s_5.1 u_66.2 _ hu_72) (cwV 1 hts (g_gV wq_1521 wq_1522 wq_2120 wq_13 wq_1523) rfl rfl rfl (by decide +kernel) ⟨Nat.le_of_ble_eq_true rfl, Nat.le_of_ble_eq_true rfl⟩) (m_preV g_bl0 hsz hK hP hS hE hKS g_to0) rfl rfl hl.1 rfl (lv_room (Nat.le_of_ble_eq_true rfl)) dX12_lex_114 ⟨Nat.le_of_ble_eq_true rfl, Nat.le_of_ble_eq_true rfl⟩) (fun H locs hP hS => ?_)
                refine lv_goto (tgt := 125) hx hb dX12_lex_117 (by decide) ?_
                exact Jj_56 u_72.1 u_72.2 hF_73 _ _ hP hS ls (lv_sub hl [1, 2] rfl)
            · have hF_77 := ineg c_68 hF_67
              clear hF_67
              refine lv_aload_n hx hb dX12_lex_98 rfl (lv_at hl 1 rfl) ?_
              refine lv_iload_n hx hb dX12_lex_99 rfl (lv_at hl 2 rfl) ?_
              obtain ⟨u_78, hu_78, hF_79⟩ := Option.bind_eq_some_iff.mp hF_77
              clear hF_77
              refine m_ci hsz hS (va_runV (As := [.int s_5.1]) (rest := []) ⟨hx, hb, hml, hown, hts⟩ (m_X12_number l dC dI cB cC cI cJ cZ cP h qK qS ad hDD H.size  s_5.1 u_66.2 _ hu_78) (cwV 1 hts (g_gV wq_1517 wq_1518 wq_2119 wq_13 wq_1519) rfl rfl rfl (by decide +kernel) ⟨Nat.le_of_ble_eq_true rfl, Nat.le_of_ble_eq_true rfl⟩) (m_preV g_bl0 hsz hK hP hS hE hKS g_to0) rfl rfl hl.1 rfl (lv_room (Nat.le_of_ble_eq_true rfl)) dX12_lex_100 ⟨Nat.le_of_ble_eq_true rfl, Nat.le_of_ble_eq_true rfl⟩) (fun H locs hP hS => ?_)
              refine lv_goto (tgt := 125) hx hb dX12_lex_103 (by decide) ?_
              exact Jj_56 u_78.1 u_78.2 hF_79 _ _ hP hS ls (lv_sub hl [1, 2] rfl)
          · have hF_80 := ineg c_64 hF_57
            clear hF_57
            refine lv_aload_n hx hb dX12_lex_83 rfl (lv_at hl 1 rfl) ?_
            refine lv_iload_n hx hb dX12_lex_84 rfl (lv_at hl 2 rfl) ?_
            obtain ⟨u_81, hu_81, hF_82⟩ := Option.bind_eq_some_iff.mp hF_80
            clear hF_80
            refine m_ci hsz hS (va_runV (As := [.int s_5.1]) (rest := []) ⟨hx, hb, hml, hown, hts⟩ (m_X12_word l dC dI cB cC cI cJ cZ cP h qK qS ad hDD H.size  s_5.1 u_52.2 _ hu_81) (cwV 1 hts (g_gV wq_1500 wq_1501 wq_2115 wq_13 wq_1502) rfl rfl rfl (by decide +kernel) ⟨Nat.le_of_ble_eq_true rfl, Nat.le_of_ble_eq_true rfl⟩) (m_preV g_bl0 hsz hK hP hS hE hKS g_to0) rfl rfl hl.1 rfl (lv_room (Nat.le_of_ble_eq_true rfl)) dX12_lex_85 ⟨Nat.le_of_ble_eq_true rfl, Nat.le_of_ble_eq_true rfl⟩) (fun H locs hP hS => ?_)
            refine lv_goto (tgt := 125) hx hb dX12_lex_88 (by decide) ?_
            exact Jj_56 u_81.1 u_81.2 hF_82 _ _ hP hS ls (lv_sub hl [1, 2] rfl)
        · have hF_36 := ipos c_35 hF_34
          clear hF_34
          refine loopF_ind (P := fun (s_37 : Int32 × MS) => ∀ (H : Heap) (locs : List Loc), va_P (dC, dI) vwCl (mW cB cI cZ h qK qS ad s_37.2) H → va_S (mCells h ad sz) s.heap H locs → ∀ ls : Array Slot, lv_has ls 4 [(0, .ref h), (1, .int s_37.1)] → W p l e (headSpec (g_ws yX12_lex cX12_lex 4 none) { frames := 7, cells := 0, slots := 0, locals := 175 }).room s m ([.ref h] : List Value).toArray below meth c H locs 0 0 (MQ below (va_Qv (fun (_ : Unit) => True) (fun _ t => va_P (dC, dI) vwCl (mW cB cI cZ h qK qS ad res.2) t.heap) (mCells h ad sz)) ([.ref h] : List Value).toArray s 0 0 (mCells h ad sz)) (F0 m 51 ls [])) ?_ _ _ hF_36 _ _ hP hS ls (lv_sub hl [1, 2] rfl)
          intro again_38 s_37 ih_39 hF_40
          intro H locs hP hS ls hl
          refine lv_iload_n hx hb dX12_lex_51 rfl (lv_at hl 1 rfl) ?_
          refine lv_aload_n hx hb dX12_lex_52 rfl (lv_at hl 0 rfl) ?_
          refine va_get (D := (dC, dI)) (ci := 12) (v := .int (s_37.2.1 6)) (C := RX12) (T := TX12) (N := 123) hx hb hts ii_X12 hown hK hP 0 rfl rfl 6 (by decide) (hts (.fieldLink RX12 249 "StoryHouseModel" "sourceSize" "I") wq_1362) (fun _ h9 => h9) rfl dX12_lex_53 ?_
          refine lv_icmp_ge (tgt := 141) hx hb dX12_lex_56 (by decide) (fun c_41 => ?_) (fun c_41 => ?_)
          · have hF_42 := ipos c_41 hF_40
            clear hF_40
            exact Jj_20 s_37.1 s_37.2 hF_42 _ _ hP hS ls (lv_sub hl [0, 1] rfl)
          · have hF_43 := ineg c_41 hF_40
            clear hF_40
            refine lv_aload_n hx hb dX12_lex_59 rfl (lv_at hl 0 rfl) ?_
            refine va_get (D := (dC, dI)) (ci := 12) (v := .ref (ad 5)) (C := RX12) (T := TX12) (N := 123) hx hb hts ii_X12 hown hK hP 0 rfl rfl 5 (by decide) (hts (.fieldLink RX12 24 "StoryHouseModel" "source" "[B") wq_1361) (fun _ h9 => h9) rfl dX12_lex_60 ?_
            refine lv_iload_n hx hb dX12_lex_63 rfl (lv_at hl 1 rfl) ?_
            obtain ⟨g_44, hF_45⟩ := nif_e hF_43
            clear hF_43
            refine va_bald (f := s_37.2.2 5) hx hb hK hP 2 0 rfl rfl g_44 dX12_lex_64 ?_
            refine lv_bipush (v := 10) hx hb dX12_lex_65 (by decide +kernel) ?_
            refine lv_icmp_eq (tgt := 141) hx hb dX12_lex_67 (by decide) (fun c_46 => ?_) (fun c_46 => ?_)
            · have hF_47 := ipos c_46 hF_45
              clear hF_45
              exact Jj_20 s_37.1 s_37.2 hF_47 _ _ hP hS ls (lv_sub hl [0, 1] rfl)
            · have hF_48 := ineg c_46 hF_45
              clear hF_45
              obtain ⟨x_49, ex_49, hF_50⟩ := bnd_e hF_48
              clear hF_48
              refine lv_iinc (v := x_49) (lv' := [(1, .int x_49), (0, .ref h)]) hx hb dX12_lex_70 hl (k := 1) rfl (by rw [ex_49]; rfl) (by decide) rfl (fun ls hl => ?_)
              refine lv_goto (tgt := 51) hx hb dX12_lex_73 (by decide) ?_
              exact ih_39 (x_49, s_37.2) hF_50 _ _ hP hS ls (lv_sub hl [1, 0] rfl)
      · have hF_33 := ipos c_32 hF_31
        clear hF_31
        exact Jj_24  s_5.2 hF_33 _ _ hP hS ls (lv_sub hl [1, 2] rfl)
theorem dX12_node_0 : decode cX12_node 0 = .ok (.aload_n 0, 1) := by decide +kernel
theorem dX12_node_1 : decode cX12_node 1 = .ok (.getfield 49, 3) := by decide +kernel
theorem dX12_node_4 : decode cX12_node 4 = .ok (.aload_n 0, 1) := by decide +kernel
theorem dX12_node_5 : decode cX12_node 5 = .ok (.getfield 301, 3) := by decide +kernel
theorem dX12_node_8 : decode cX12_node 8 = .ok (.iload_n 1, 1) := by decide +kernel
theorem dX12_node_9 : decode cX12_node 9 = .ok (.iastore, 1) := by decide +kernel
theorem dX12_node_10 : decode cX12_node 10 = .ok (.aload_n 0, 1) := by decide +kernel
theorem dX12_node_11 : decode cX12_node 11 = .ok (.getfield 52, 3) := by decide +kernel
theorem dX12_node_14 : decode cX12_node 14 = .ok (.aload_n 0, 1) := by decide +kernel
theorem dX12_node_15 : decode cX12_node 15 = .ok (.getfield 301, 3) := by decide +kernel
theorem dX12_node_18 : decode cX12_node 18 = .ok (.iload_n 2, 1) := by decide +kernel
theorem dX12_node_19 : decode cX12_node 19 = .ok (.iastore, 1) := by decide +kernel
theorem dX12_node_20 : decode cX12_node 20 = .ok (.aload_n 0, 1) := by decide +kernel
theorem dX12_node_21 : decode cX12_node 21 = .ok (.getfield 55, 3) := by decide +kernel
theorem dX12_node_24 : decode cX12_node 24 = .ok (.aload_n 0, 1) := by decide +kernel
theorem dX12_node_25 : decode cX12_node 25 = .ok (.getfield 301, 3) := by decide +kernel
theorem dX12_node_28 : decode cX12_node 28 = .ok (.iconst (-1), 1) := by decide +kernel
theorem dX12_node_29 : decode cX12_node 29 = .ok (.iastore, 1) := by decide +kernel
theorem dX12_node_30 : decode cX12_node 30 = .ok (.aload_n 0, 1) := by decide +kernel
theorem dX12_node_31 : decode cX12_node 31 = .ok (.getfield 58, 3) := by decide +kernel
theorem dX12_node_34 : decode cX12_node 34 = .ok (.aload_n 0, 1) := by decide +kernel
theorem dX12_node_35 : decode cX12_node 35 = .ok (.getfield 301, 3) := by decide +kernel
theorem dX12_node_38 : decode cX12_node 38 = .ok (.iconst (-1), 1) := by decide +kernel
theorem dX12_node_39 : decode cX12_node 39 = .ok (.iastore, 1) := by decide +kernel
theorem dX12_node_40 : decode cX12_node 40 = .ok (.aload_n 0, 1) := by decide +kernel
theorem dX12_node_41 : decode cX12_node 41 = .ok (.getfield 61, 3) := by decide +kernel
theorem dX12_node_44 : decode cX12_node 44 = .ok (.aload_n 0, 1) := by decide +kernel
theorem dX12_node_45 : decode cX12_node 45 = .ok (.getfield 301, 3) := by decide +kernel
theorem dX12_node_48 : decode cX12_node 48 = .ok (.iconst (-1), 1) := by decide +kernel
theorem dX12_node_49 : decode cX12_node 49 = .ok (.iastore, 1) := by decide +kernel
theorem dX12_node_50 : decode cX12_node 50 = .ok (.aload_n 0, 1) := by decide +kernel
theorem dX12_node_51 : decode cX12_node 51 = .ok (.getfield 64, 3) := by decide +kernel
theorem dX12_node_54 : decode cX12_node 54 = .ok (.aload_n 0, 1) := by decide +kernel
theorem dX12_node_55 : decode cX12_node 55 = .ok (.getfield 301, 3) := by decide +kernel
theorem dX12_node_58 : decode cX12_node 58 = .ok (.iconst (-1), 1) := by decide +kernel
theorem dX12_node_59 : decode cX12_node 59 = .ok (.iastore, 1) := by decide +kernel
theorem dX12_node_60 : decode cX12_node 60 = .ok (.aload_n 0, 1) := by decide +kernel
theorem dX12_node_61 : decode cX12_node 61 = .ok (.dup, 1) := by decide +kernel
theorem dX12_node_62 : decode cX12_node 62 = .ok (.getfield 301, 3) := by decide +kernel
theorem dX12_node_65 : decode cX12_node 65 = .ok (.dup_x1, 1) := by decide +kernel
theorem dX12_node_66 : decode cX12_node 66 = .ok (.iconst 1, 1) := by decide +kernel
theorem dX12_node_67 : decode cX12_node 67 = .ok (.iadd, 1) := by decide +kernel
theorem dX12_node_68 : decode cX12_node 68 = .ok (.putfield 301, 3) := by decide +kernel
theorem dX12_node_71 : decode cX12_node 71 = .ok (.ireturn, 1) := by decide +kernel
def F_X12_node (p0 : Int32) (p1 : Int32) (σ : MS) : MR :=
  if (σ.1 23) < 0 ∨ 40000 ≤ (σ.1 23).toNatClampNeg then none else
  bnd (mA σ 17 (upd (σ.2 17) (σ.1 23).toNatClampNeg p0)) fun σ_3 =>
  if (σ_3.1 23) < 0 ∨ 40000 ≤ (σ_3.1 23).toNatClampNeg then none else
  bnd (mA σ_3 18 (upd (σ_3.2 18) (σ_3.1 23).toNatClampNeg p1)) fun σ_7 =>
  if (σ_7.1 23) < 0 ∨ 40000 ≤ (σ_7.1 23).toNatClampNeg then none else
  bnd (mA σ_7 19 (upd (σ_7.2 19) (σ_7.1 23).toNatClampNeg (-1))) fun σ_11 =>
  if (σ_11.1 23) < 0 ∨ 40000 ≤ (σ_11.1 23).toNatClampNeg then none else
  bnd (mA σ_11 20 (upd (σ_11.2 20) (σ_11.1 23).toNatClampNeg (-1))) fun σ_15 =>
  if (σ_15.1 23) < 0 ∨ 40000 ≤ (σ_15.1 23).toNatClampNeg then none else
  bnd (mA σ_15 21 (upd (σ_15.2 21) (σ_15.1 23).toNatClampNeg (-1))) fun σ_19 =>
  if (σ_19.1 23) < 0 ∨ 40000 ≤ (σ_19.1 23).toNatClampNeg then none else
  bnd (mA σ_19 22 (upd (σ_19.2 22) (σ_19.1 23).toNatClampNeg (-1))) fun σ_23 =>
  bnd (mI σ_23 23 ((σ_23.1 23) + 1)) fun σ_25 =>
  some ((σ_23.1 23), σ_25)
set_option maxHeartbeats 4000000 in
set_option maxRecDepth 100000 in
theorem m_X12_node (l : Launch) (dC : Nat → ClassId) (dI : Nat → Nat → Nat) (cB cC cI cJ cZ cP : ClassId) (h qK qS : Nat) (ad : Nat → Nat) (hDD : mDis cB cI cZ h qK qS ad) (sz : Nat)  (p0 : Int32) (p1 : Int32) (σ : MS) (res : Int32 × MS) (hF : F_X12_node p0 p1 σ = some res) : Met l yX12_node (g_ws yX12_node cX12_node 3 (some .int)) ({ frames := 1, cells := 0, slots := 0, locals := 40 }) (va_Pc [.ref h, .int p0, .int p1] (m_B (dC, dI) [(cB, .byte), (cC, .char), (cI, .int), (cJ, .long), (cZ, .boolean), (cP, .object "StoryHouse$Play")] sz h ad qK qS (mW cB cI cZ h qK qS ad σ) g_0)) (va_Qi (fun r (_ : Unit) => r = res.1) (fun _ t => va_P (dC, dI) vwCl (mW cB cI cZ h qK qS ad res.2) t.heap) (mCells h ad sz)) 0 0 (mCells h ad sz) := by
  refine Met.ofW (cc := cX12_node) (maxL := 3) (ret := (some .int)) (by decide) rfl ?_
  intro p e s m args below meth c s₁ B hml hv
  obtain ⟨rfl, hsz, hP, hK, hE, hKS, hX⟩ := hv
  have hx := B.exec
  have hb := B.bytes
  have hr := B.returns
  have hts0 := atoms_spec (ws := g_ws yX12_node cX12_node 3 (some .int)) B.pre
  have hts : ∀ w ∈ lw_good, w.before ([.ref h, .int p0, .int p1] : List Value).toArray s = true := fun w z => hts0 w (List.mem_cons_of_mem _ z)
  have hown : s.vm.findClass RX12 = some m.cls := findClass_of_methodNamed B.named
  have hlocks := B.notSynchronized
  have hS : va_S (mCells h ad sz) s.heap s.heap [] := va_S.rf
  have hl := lv_entry ([.ref h, .int p0, .int p1]) (n := 3) (Nat.le_of_ble_eq_true rfl)
  rw [lg_entry_eq]
  generalize (lg_sl ([.ref h, .int p0, .int p1]) ++ List.replicate (3 - (lg_sl ([.ref h, .int p0, .int p1])).length) Slot.unset).toArray = ls at hl ⊢
  have hl : lv_has ls 3 [(0, .ref h), (1, .int p0), (2, .int p1)] := hl
  unfold F_X12_node at hF
  refine lv_aload_n hx hb dX12_node_0 rfl (lv_at hl 0 rfl) ?_
  refine va_get (D := (dC, dI)) (ci := 12) (v := .ref (ad 17)) (C := RX12) (T := TX12) (N := 123) hx hb hts ii_X12 hown hK hP 0 rfl rfl 17 (by decide) (hts (.fieldLink RX12 49 "StoryHouseModel" "what" "[I") wq_1373) (fun _ h9 => h9) rfl dX12_node_1 ?_
  refine lv_aload_n hx hb dX12_node_4 rfl (lv_at hl 0 rfl) ?_
  refine va_get (D := (dC, dI)) (ci := 12) (v := .int (σ.1 23)) (C := RX12) (T := TX12) (N := 123) hx hb hts ii_X12 hown hK hP 0 rfl rfl 23 (by decide) (hts (.fieldLink RX12 301 "StoryHouseModel" "nodes" "I") wq_1379) (fun _ h9 => h9) rfl dX12_node_5 ?_
  refine lv_iload_n hx hb dX12_node_8 rfl (lv_at hl 1 rfl) ?_
  obtain ⟨g_1, hF_2⟩ := nif_e hF
  clear hF
  obtain ⟨σ_3, eσ_3, hF_4⟩ := bnd_e hF_2
  clear hF_2
  refine m_iast (σ' := σ_3) hx hb hK hP (hDD _ _) hS (q0 := 8) (t0 := 2) (f := σ.2 17) rfl rfl (by rw [eσ_3]; exact mwA_17) g_1 dX12_node_9 (fun H locs hP hS => ?_)
  refine lv_aload_n hx hb dX12_node_10 rfl (lv_at hl 0 rfl) ?_
  refine va_get (D := (dC, dI)) (ci := 12) (v := .ref (ad 18)) (C := RX12) (T := TX12) (N := 123) hx hb hts ii_X12 hown hK hP 0 rfl rfl 18 (by decide) (hts (.fieldLink RX12 52 "StoryHouseModel" "where" "[I") wq_1374) (fun _ h9 => h9) rfl dX12_node_11 ?_
  refine lv_aload_n hx hb dX12_node_14 rfl (lv_at hl 0 rfl) ?_
  refine va_get (D := (dC, dI)) (ci := 12) (v := .int (σ_3.1 23)) (C := RX12) (T := TX12) (N := 123) hx hb hts ii_X12 hown hK hP 0 rfl rfl 23 (by decide) (hts (.fieldLink RX12 301 "StoryHouseModel" "nodes" "I") wq_1379) (fun _ h9 => h9) rfl dX12_node_15 ?_
  refine lv_iload_n hx hb dX12_node_18 rfl (lv_at hl 2 rfl) ?_
  obtain ⟨g_5, hF_6⟩ := nif_e hF_4
  clear hF_4
  obtain ⟨σ_7, eσ_7, hF_8⟩ := bnd_e hF_6
  clear hF_6
  refine m_iast (σ' := σ_7) hx hb hK hP (hDD _ _) hS (q0 := 9) (t0 := 2) (f := σ_3.2 18) rfl rfl (by rw [eσ_7]; exact mwA_18) g_5 dX12_node_19 (fun H locs hP hS => ?_)
  refine lv_aload_n hx hb dX12_node_20 rfl (lv_at hl 0 rfl) ?_
  refine va_get (D := (dC, dI)) (ci := 12) (v := .ref (ad 19)) (C := RX12) (T := TX12) (N := 123) hx hb hts ii_X12 hown hK hP 0 rfl rfl 19 (by decide) (hts (.fieldLink RX12 55 "StoryHouseModel" "a" "[I") wq_1375) (fun _ h9 => h9) rfl dX12_node_21 ?_
  refine lv_aload_n hx hb dX12_node_24 rfl (lv_at hl 0 rfl) ?_
  refine va_get (D := (dC, dI)) (ci := 12) (v := .int (σ_7.1 23)) (C := RX12) (T := TX12) (N := 123) hx hb hts ii_X12 hown hK hP 0 rfl rfl 23 (by decide) (hts (.fieldLink RX12 301 "StoryHouseModel" "nodes" "I") wq_1379) (fun _ h9 => h9) rfl dX12_node_25 ?_
  refine lv_iconst (v := (-1)) hx hb dX12_node_28 (by decide +kernel) ?_
  obtain ⟨g_9, hF_10⟩ := nif_e hF_8
  clear hF_8
  obtain ⟨σ_11, eσ_11, hF_12⟩ := bnd_e hF_10
  clear hF_10
  refine m_iast (σ' := σ_11) hx hb hK hP (hDD _ _) hS (q0 := 10) (t0 := 2) (f := σ_7.2 19) rfl rfl (by rw [eσ_11]; exact mwA_19) g_9 dX12_node_29 (fun H locs hP hS => ?_)
  refine lv_aload_n hx hb dX12_node_30 rfl (lv_at hl 0 rfl) ?_
  refine va_get (D := (dC, dI)) (ci := 12) (v := .ref (ad 20)) (C := RX12) (T := TX12) (N := 123) hx hb hts ii_X12 hown hK hP 0 rfl rfl 20 (by decide) (hts (.fieldLink RX12 58 "StoryHouseModel" "b" "[I") wq_1376) (fun _ h9 => h9) rfl dX12_node_31 ?_
  refine lv_aload_n hx hb dX12_node_34 rfl (lv_at hl 0 rfl) ?_
  refine va_get (D := (dC, dI)) (ci := 12) (v := .int (σ_11.1 23)) (C := RX12) (T := TX12) (N := 123) hx hb hts ii_X12 hown hK hP 0 rfl rfl 23 (by decide) (hts (.fieldLink RX12 301 "StoryHouseModel" "nodes" "I") wq_1379) (fun _ h9 => h9) rfl dX12_node_35 ?_
  refine lv_iconst (v := (-1)) hx hb dX12_node_38 (by decide +kernel) ?_
  obtain ⟨g_13, hF_14⟩ := nif_e hF_12
  clear hF_12
  obtain ⟨σ_15, eσ_15, hF_16⟩ := bnd_e hF_14
  clear hF_14
  refine m_iast (σ' := σ_15) hx hb hK hP (hDD _ _) hS (q0 := 11) (t0 := 2) (f := σ_11.2 20) rfl rfl (by rw [eσ_15]; exact mwA_20) g_13 dX12_node_39 (fun H locs hP hS => ?_)
  refine lv_aload_n hx hb dX12_node_40 rfl (lv_at hl 0 rfl) ?_
  refine va_get (D := (dC, dI)) (ci := 12) (v := .ref (ad 21)) (C := RX12) (T := TX12) (N := 123) hx hb hts ii_X12 hown hK hP 0 rfl rfl 21 (by decide) (hts (.fieldLink RX12 61 "StoryHouseModel" "d" "[I") wq_1377) (fun _ h9 => h9) rfl dX12_node_41 ?_
  refine lv_aload_n hx hb dX12_node_44 rfl (lv_at hl 0 rfl) ?_
  refine va_get (D := (dC, dI)) (ci := 12) (v := .int (σ_15.1 23)) (C := RX12) (T := TX12) (N := 123) hx hb hts ii_X12 hown hK hP 0 rfl rfl 23 (by decide) (hts (.fieldLink RX12 301 "StoryHouseModel" "nodes" "I") wq_1379) (fun _ h9 => h9) rfl dX12_node_45 ?_
  refine lv_iconst (v := (-1)) hx hb dX12_node_48 (by decide +kernel) ?_
  obtain ⟨g_17, hF_18⟩ := nif_e hF_16
  clear hF_16
  obtain ⟨σ_19, eσ_19, hF_20⟩ := bnd_e hF_18
  clear hF_18
  refine m_iast (σ' := σ_19) hx hb hK hP (hDD _ _) hS (q0 := 12) (t0 := 2) (f := σ_15.2 21) rfl rfl (by rw [eσ_19]; exact mwA_21) g_17 dX12_node_49 (fun H locs hP hS => ?_)
  refine lv_aload_n hx hb dX12_node_50 rfl (lv_at hl 0 rfl) ?_
  refine va_get (D := (dC, dI)) (ci := 12) (v := .ref (ad 22)) (C := RX12) (T := TX12) (N := 123) hx hb hts ii_X12 hown hK hP 0 rfl rfl 22 (by decide) (hts (.fieldLink RX12 64 "StoryHouseModel" "then" "[I") wq_1378) (fun _ h9 => h9) rfl dX12_node_51 ?_
  refine lv_aload_n hx hb dX12_node_54 rfl (lv_at hl 0 rfl) ?_
  refine va_get (D := (dC, dI)) (ci := 12) (v := .int (σ_19.1 23)) (C := RX12) (T := TX12) (N := 123) hx hb hts ii_X12 hown hK hP 0 rfl rfl 23 (by decide) (hts (.fieldLink RX12 301 "StoryHouseModel" "nodes" "I") wq_1379) (fun _ h9 => h9) rfl dX12_node_55 ?_
  refine lv_iconst (v := (-1)) hx hb dX12_node_58 (by decide +kernel) ?_
  obtain ⟨g_21, hF_22⟩ := nif_e hF_20
  clear hF_20
  obtain ⟨σ_23, eσ_23, hF_24⟩ := bnd_e hF_22
  clear hF_22
  refine m_iast (σ' := σ_23) hx hb hK hP (hDD _ _) hS (q0 := 13) (t0 := 2) (f := σ_19.2 22) rfl rfl (by rw [eσ_23]; exact mwA_22) g_21 dX12_node_59 (fun H locs hP hS => ?_)
  refine lv_aload_n hx hb dX12_node_60 rfl (lv_at hl 0 rfl) ?_
  refine lv_dup hx hb dX12_node_61 rfl ?_
  refine va_get (D := (dC, dI)) (ci := 12) (v := .int (σ_23.1 23)) (C := RX12) (T := TX12) (N := 123) hx hb hts ii_X12 hown hK hP 0 rfl rfl 23 (by decide) (hts (.fieldLink RX12 301 "StoryHouseModel" "nodes" "I") wq_1379) (fun _ h9 => h9) rfl dX12_node_62 ?_
  refine lv_dup_x1 hx hb dX12_node_65 rfl rfl ?_
  refine lv_iconst (v := 1) hx hb dX12_node_66 (by decide +kernel) ?_
  refine lv_iadd hx hb dX12_node_67 ?_
  obtain ⟨σ_25, eσ_25, hF_26⟩ := bnd_e hF_24
  clear hF_24
  refine m_put (σ' := σ_25) (v := .int ((σ_23.1 23) + 1)) (ty := .int) hx hb hts hown hK hP (hDD _ _) hS (by rw [eσ_25]; exact mwI_23) (k := 23) (by decide) (hts (.fieldLink RX12 301 "StoryHouseModel" "nodes" "I") wq_1379) (fun _ h9 => h9) rfl (by decide +kernel) rfl rfl dX12_node_68 (fun H locs hP hS => ?_)
  have h9 := Option.some.inj hF_26
  subst h9
  exact W.iret (v := (σ_23.1 23)) hx hb hr (fun t ht hW => ⟨⟨(σ_23.1 23), (), rfl, rfl, m_end ht hP⟩, hS.F ht⟩) hS.2.2 dX12_node_71
theorem dX12_fails_0 : decode cX12_fails 0 = .ok (.aload_n 0, 1) := by decide +kernel
theorem dX12_fails_1 : decode cX12_fails 1 = .ok (.getfield 304, 3) := by decide +kernel
theorem dX12_fails_4 : decode cX12_fails 4 = .ok (.ifCond .eq 4, 3) := by decide +kernel
theorem dX12_fails_7 : decode cX12_fails 7 = .ok (.return_, 1) := by decide +kernel
theorem dX12_fails_8 : decode cX12_fails 8 = .ok (.aload_n 0, 1) := by decide +kernel
theorem dX12_fails_9 : decode cX12_fails 9 = .ok (.iconst 1, 1) := by decide +kernel
theorem dX12_fails_10 : decode cX12_fails 10 = .ok (.putfield 304, 3) := by decide +kernel
theorem dX12_fails_13 : decode cX12_fails 13 = .ok (.aload_n 0, 1) := by decide +kernel
theorem dX12_fails_14 : decode cX12_fails 14 = .ok (.iload_n 1, 1) := by decide +kernel
theorem dX12_fails_15 : decode cX12_fails 15 = .ok (.putfield 308, 3) := by decide +kernel
theorem dX12_fails_18 : decode cX12_fails 18 = .ok (.aload_n 0, 1) := by decide +kernel
theorem dX12_fails_19 : decode cX12_fails 19 = .ok (.iload_n 2, 1) := by decide +kernel
theorem dX12_fails_20 : decode cX12_fails 20 = .ok (.putfield 311, 3) := by decide +kernel
theorem dX12_fails_23 : decode cX12_fails 23 = .ok (.return_, 1) := by decide +kernel
def F_X12_fails (p0 : Int32) (p1 : Int32) (σ : MS) : MR :=
  if (σ.1 27) = 0 then (
    bnd (mI σ 27 1) fun σ_3 =>
    bnd (mI σ_3 14 p0) fun σ_5 =>
    bnd (mI σ_5 15 p1) fun σ_7 =>
    some (0, σ_7)
  ) else (
    some (0, σ)
  )
set_option maxHeartbeats 4000000 in
set_option maxRecDepth 100000 in
theorem m_X12_fails (l : Launch) (dC : Nat → ClassId) (dI : Nat → Nat → Nat) (cB cC cI cJ cZ cP : ClassId) (h qK qS : Nat) (ad : Nat → Nat) (hDD : mDis cB cI cZ h qK qS ad) (sz : Nat)  (p0 : Int32) (p1 : Int32) (σ : MS) (res : Int32 × MS) (hF : F_X12_fails p0 p1 σ = some res) : Met l yX12_fails (g_ws yX12_fails cX12_fails 3 none) ({ frames := 1, cells := 0, slots := 0, locals := 40 }) (va_Pc [.ref h, .int p0, .int p1] (m_B (dC, dI) [(cB, .byte), (cC, .char), (cI, .int), (cJ, .long), (cZ, .boolean), (cP, .object "StoryHouse$Play")] sz h ad qK qS (mW cB cI cZ h qK qS ad σ) g_0)) (va_Qv (fun (_ : Unit) => True) (fun _ t => va_P (dC, dI) vwCl (mW cB cI cZ h qK qS ad res.2) t.heap) (mCells h ad sz)) 0 0 (mCells h ad sz) := by
  refine Met.ofW (cc := cX12_fails) (maxL := 3) (ret := none) (by decide) rfl ?_
  intro p e s m args below meth c s₁ B hml hv
  obtain ⟨rfl, hsz, hP, hK, hE, hKS, hX⟩ := hv
  have hx := B.exec
  have hb := B.bytes
  have hr := B.returns
  have hts0 := atoms_spec (ws := g_ws yX12_fails cX12_fails 3 none) B.pre
  have hts : ∀ w ∈ lw_good, w.before ([.ref h, .int p0, .int p1] : List Value).toArray s = true := fun w z => hts0 w (List.mem_cons_of_mem _ z)
  have hown : s.vm.findClass RX12 = some m.cls := findClass_of_methodNamed B.named
  have hlocks := B.notSynchronized
  have hS : va_S (mCells h ad sz) s.heap s.heap [] := va_S.rf
  have hl := lv_entry ([.ref h, .int p0, .int p1]) (n := 3) (Nat.le_of_ble_eq_true rfl)
  rw [lg_entry_eq]
  generalize (lg_sl ([.ref h, .int p0, .int p1]) ++ List.replicate (3 - (lg_sl ([.ref h, .int p0, .int p1])).length) Slot.unset).toArray = ls at hl ⊢
  have hl : lv_has ls 3 [(0, .ref h), (1, .int p0), (2, .int p1)] := hl
  unfold F_X12_fails at hF
  refine lv_aload_n hx hb dX12_fails_0 rfl (lv_at hl 0 rfl) ?_
  refine va_get (D := (dC, dI)) (ci := 12) (v := .int (σ.1 27)) (C := RX12) (T := TX12) (N := 123) hx hb hts ii_X12 hown hK hP 0 rfl rfl 27 (by decide) (hts (.fieldLink RX12 304 "StoryHouseModel" "stopped" "Z") wq_1383) (fun _ h9 => h9) rfl dX12_fails_1 ?_
  refine lv_if_eq (tgt := 8) hx hb dX12_fails_4 (by decide) (fun c_1 => ?_) (fun c_1 => ?_)
  · have hF_2 := ipos c_1 hF
    clear hF
    refine lv_aload_n hx hb dX12_fails_8 rfl (lv_at hl 0 rfl) ?_
    refine lv_iconst (v := 1) hx hb dX12_fails_9 (by decide +kernel) ?_
    obtain ⟨σ_3, eσ_3, hF_4⟩ := bnd_e hF_2
    clear hF_2
    refine m_put (σ' := σ_3) (v := .int 1) (ty := .boolean) hx hb hts hown hK hP (hDD _ _) hS (by rw [eσ_3]; exact mwI_27) (k := 27) (by decide) (hts (.fieldLink RX12 304 "StoryHouseModel" "stopped" "Z") wq_1383) (fun _ h9 => h9) rfl (by decide +kernel) (by decide +kernel) (by decide +kernel) dX12_fails_10 (fun H locs hP hS => ?_)
    refine lv_aload_n hx hb dX12_fails_13 rfl (lv_at hl 0 rfl) ?_
    refine lv_iload_n hx hb dX12_fails_14 rfl (lv_at hl 1 rfl) ?_
    obtain ⟨σ_5, eσ_5, hF_6⟩ := bnd_e hF_4
    clear hF_4
    refine m_put (σ' := σ_5) (v := .int p0) (ty := .int) hx hb hts hown hK hP (hDD _ _) hS (by rw [eσ_5]; exact mwI_14) (k := 14) (by decide) (hts (.fieldLink RX12 308 "StoryHouseModel" "fault" "I") wq_1370) (fun _ h9 => h9) rfl (by decide +kernel) rfl rfl dX12_fails_15 (fun H locs hP hS => ?_)
    refine lv_aload_n hx hb dX12_fails_18 rfl (lv_at hl 0 rfl) ?_
    refine lv_iload_n hx hb dX12_fails_19 rfl (lv_at hl 2 rfl) ?_
    obtain ⟨σ_7, eσ_7, hF_8⟩ := bnd_e hF_6
    clear hF_6
    refine m_put (σ' := σ_7) (v := .int p1) (ty := .int) hx hb hts hown hK hP (hDD _ _) hS (by rw [eσ_7]; exact mwI_15) (k := 15) (by decide) (hts (.fieldLink RX12 311 "StoryHouseModel" "faultAt" "I") wq_1371) (fun _ h9 => h9) rfl (by decide +kernel) rfl rfl dX12_fails_20 (fun H locs hP hS => ?_)
    have h9 := Option.some.inj hF_8
    subst h9
    exact W.vret hx hb hr (fun t ht hW => ⟨⟨(), rfl, trivial, m_end ht hP⟩, hS.F ht⟩) hS.2.2 dX12_fails_23
  · have hF_9 := ineg c_1 hF
    clear hF
    have h9 := Option.some.inj hF_9
    subst h9
    exact W.vret hx hb hr (fun t ht hW => ⟨⟨(), rfl, trivial, m_end ht hP⟩, hS.F ht⟩) hS.2.2 dX12_fails_7
theorem dX12_unfit_0 : decode cX12_unfit 0 = .ok (.aload_n 0, 1) := by decide +kernel
theorem dX12_unfit_1 : decode cX12_unfit 1 = .ok (.aload_n 0, 1) := by decide +kernel
theorem dX12_unfit_2 : decode cX12_unfit 2 = .ok (.getfield 27, 3) := by decide +kernel
theorem dX12_unfit_5 : decode cX12_unfit 5 = .ok (.aload_n 0, 1) := by decide +kernel
theorem dX12_unfit_6 : decode cX12_unfit 6 = .ok (.getfield 314, 3) := by decide +kernel
theorem dX12_unfit_9 : decode cX12_unfit 9 = .ok (.iaload, 1) := by decide +kernel
theorem dX12_unfit_10 : decode cX12_unfit 10 = .ok (.bipush 6, 2) := by decide +kernel
theorem dX12_unfit_12 : decode cX12_unfit 12 = .ok (.if_icmp .ne 7, 3) := by decide +kernel
theorem dX12_unfit_15 : decode cX12_unfit 15 = .ok (.iconst 1, 1) := by decide +kernel
theorem dX12_unfit_16 : decode cX12_unfit 16 = .ok (.goto 4, 3) := by decide +kernel
theorem dX12_unfit_19 : decode cX12_unfit 19 = .ok (.iconst 2, 1) := by decide +kernel
theorem dX12_unfit_20 : decode cX12_unfit 20 = .ok (.aload_n 0, 1) := by decide +kernel
theorem dX12_unfit_21 : decode cX12_unfit 21 = .ok (.getfield 31, 3) := by decide +kernel
theorem dX12_unfit_24 : decode cX12_unfit 24 = .ok (.aload_n 0, 1) := by decide +kernel
theorem dX12_unfit_25 : decode cX12_unfit 25 = .ok (.getfield 314, 3) := by decide +kernel
theorem dX12_unfit_28 : decode cX12_unfit 28 = .ok (.iaload, 1) := by decide +kernel
theorem dX12_unfit_29 : decode cX12_unfit 29 = .ok (.invokevirtual 317, 3) := by decide +kernel
theorem dX12_unfit_32 : decode cX12_unfit 32 = .ok (.return_, 1) := by decide +kernel
def F_X12_unfit  (σ : MS) : MR :=
  bnd ((σ.1 25)) fun (x_1 : Int32) =>
  if x_1 < 0 ∨ 16010 ≤ x_1.toNatClampNeg then none else
  bnd (fun (t_5 : Int32) (σ_6 : MS) => (
    bnd ((σ_6.1 25)) fun (x_10 : Int32) =>
    if x_10 < 0 ∨ 16010 ≤ x_10.toNatClampNeg then none else
    (F_X12_fails t_5 (σ_6.2 8 x_10.toNatClampNeg) σ_6).bind fun u_14 =>
    some (0, u_14.2)
  ) : Int32 → MS → MR) fun j_7 =>
  if (σ.2 7 x_1.toNatClampNeg) = 6 then (
    j_7 1 σ
  ) else (
    j_7 2 σ
  )
set_option maxHeartbeats 4000000 in
set_option maxRecDepth 100000 in
theorem m_X12_unfit (l : Launch) (dC : Nat → ClassId) (dI : Nat → Nat → Nat) (cB cC cI cJ cZ cP : ClassId) (h qK qS : Nat) (ad : Nat → Nat) (hDD : mDis cB cI cZ h qK qS ad) (sz : Nat)   (σ : MS) (res : Int32 × MS) (hF : F_X12_unfit  σ = some res) : Met l yX12_unfit (g_ws yX12_unfit cX12_unfit 1 none) ({ frames := 2, cells := 0, slots := 0, locals := 62 }) (va_Pc [.ref h] (m_B (dC, dI) [(cB, .byte), (cC, .char), (cI, .int), (cJ, .long), (cZ, .boolean), (cP, .object "StoryHouse$Play")] sz h ad qK qS (mW cB cI cZ h qK qS ad σ) g_0)) (va_Qv (fun (_ : Unit) => True) (fun _ t => va_P (dC, dI) vwCl (mW cB cI cZ h qK qS ad res.2) t.heap) (mCells h ad sz)) 0 0 (mCells h ad sz) := by
  refine Met.ofW (cc := cX12_unfit) (maxL := 1) (ret := none) (by decide) rfl ?_
  intro p e s m args below meth c s₁ B hml hv
  obtain ⟨rfl, hsz, hP, hK, hE, hKS, hX⟩ := hv
  have hx := B.exec
  have hb := B.bytes
  have hr := B.returns
  have hts0 := atoms_spec (ws := g_ws yX12_unfit cX12_unfit 1 none) B.pre
  have hts : ∀ w ∈ lw_good, w.before ([.ref h] : List Value).toArray s = true := fun w z => hts0 w (List.mem_cons_of_mem _ z)
  have hown : s.vm.findClass RX12 = some m.cls := findClass_of_methodNamed B.named
  have hlocks := B.notSynchronized
  have hS : va_S (mCells h ad sz) s.heap s.heap [] := va_S.rf
  have hl := lv_entry ([.ref h]) (n := 1) (Nat.le_of_ble_eq_true rfl)
  rw [lg_entry_eq]
  generalize (lg_sl ([.ref h]) ++ List.replicate (1 - (lg_sl ([.ref h])).length) Slot.unset).toArray = ls at hl ⊢
  have hl : lv_has ls 1 [(0, .ref h)] := hl
  unfold F_X12_unfit at hF
  refine lv_aload_n hx hb dX12_unfit_0 rfl (lv_at hl 0 rfl) ?_
  refine lv_aload_n hx hb dX12_unfit_1 rfl (lv_at hl 0 rfl) ?_
  refine va_get (D := (dC, dI)) (ci := 12) (v := .ref (ad 7)) (C := RX12) (T := TX12) (N := 123) hx hb hts ii_X12 hown hK hP 0 rfl rfl 7 (by decide) (hts (.fieldLink RX12 27 "StoryHouseModel" "tokKind" "[I") wq_1363) (fun _ h9 => h9) rfl dX12_unfit_2 ?_
  refine lv_aload_n hx hb dX12_unfit_5 rfl (lv_at hl 0 rfl) ?_
  refine va_get (D := (dC, dI)) (ci := 12) (v := .int (σ.1 25)) (C := RX12) (T := TX12) (N := 123) hx hb hts ii_X12 hown hK hP 0 rfl rfl 25 (by decide) (hts (.fieldLink RX12 314 "StoryHouseModel" "at" "I") wq_1381) (fun _ h9 => h9) rfl dX12_unfit_6 ?_
  obtain ⟨x_1, ex_1, hF_2⟩ := bnd_e hF
  clear hF
  refine m_top ex_1 ?_
  obtain ⟨g_3, hF_4⟩ := nif_e hF_2
  clear hF_2
  refine va_iald (f := σ.2 7) hx hb hK hP 3 2 rfl rfl g_3 dX12_unfit_9 ?_
  refine lv_bipush (v := 6) hx hb dX12_unfit_10 (by decide +kernel) ?_
  obtain ⟨j_7, ej_7, hF_8⟩ := bnd_e hF_4
  clear hF_4
  have Jj_7 : ∀ (t_5 : Int32) (σ_6 : MS), j_7 t_5 σ_6 = some res → ∀ (H : Heap) (locs : List Loc), va_P (dC, dI) vwCl (mW cB cI cZ h qK qS ad σ_6) H → va_S (mCells h ad sz) s.heap H locs → ∀ ls : Array Slot, lv_has ls 1 [(0, .ref h)] → W p l e (headSpec (g_ws yX12_unfit cX12_unfit 1 none) { frames := 2, cells := 0, slots := 0, locals := 62 }).room s m ([.ref h] : List Value).toArray below meth c H locs 0 0 (MQ below (va_Qv (fun (_ : Unit) => True) (fun _ t => va_P (dC, dI) vwCl (mW cB cI cZ h qK qS ad res.2) t.heap) (mCells h ad sz)) ([.ref h] : List Value).toArray s 0 0 (mCells h ad sz)) (F0 m 20 ls [.int t_5, .ref h]) := by
    intro t_5 σ_6 hF0 H locs hP hS ls hl
    subst ej_7
    have hF_9 := hF0
    clear hF0
    refine lv_aload_n hx hb dX12_unfit_20 rfl (lv_at hl 0 rfl) ?_
    refine va_get (D := (dC, dI)) (ci := 12) (v := .ref (ad 8)) (C := RX12) (T := TX12) (N := 123) hx hb hts ii_X12 hown hK hP 0 rfl rfl 8 (by decide) (hts (.fieldLink RX12 31 "StoryHouseModel" "tokAt" "[I") wq_1364) (fun _ h9 => h9) rfl dX12_unfit_21 ?_
    refine lv_aload_n hx hb dX12_unfit_24 rfl (lv_at hl 0 rfl) ?_
    refine va_get (D := (dC, dI)) (ci := 12) (v := .int (σ_6.1 25)) (C := RX12) (T := TX12) (N := 123) hx hb hts ii_X12 hown hK hP 0 rfl rfl 25 (by decide) (hts (.fieldLink RX12 314 "StoryHouseModel" "at" "I") wq_1381) (fun _ h9 => h9) rfl dX12_unfit_25 ?_
    obtain ⟨x_10, ex_10, hF_11⟩ := bnd_e hF_9
    clear hF_9
    refine m_top ex_10 ?_
    obtain ⟨g_12, hF_13⟩ := nif_e hF_11
    clear hF_11
    refine va_iald (f := σ_6.2 8) hx hb hK hP 4 2 rfl rfl g_12 dX12_unfit_28 ?_
    obtain ⟨u_14, hu_14, hF_15⟩ := Option.bind_eq_some_iff.mp hF_13
    clear hF_13
    refine m_cv hsz hS (va_runV (As := [.int t_5, .int (σ_6.2 8 x_10.toNatClampNeg)]) (rest := []) ⟨hx, hb, hml, hown, hts⟩ (m_X12_fails l dC dI cB cC cI cJ cZ cP h qK qS ad hDD H.size  t_5 (σ_6.2 8 x_10.toNatClampNeg) σ_6 _ hu_14) (cwV 2 hts (g_gV wq_1552 wq_1553 wq_2130 wq_13 wq_1554) rfl rfl rfl (by decide +kernel) ⟨Nat.le_of_ble_eq_true rfl, Nat.le_of_ble_eq_true rfl⟩) (m_preV g_bl0 hsz hK hP hS hE hKS g_to0) rfl rfl hl.1 rfl (lv_room (Nat.le_of_ble_eq_true rfl)) dX12_unfit_29 ⟨Nat.le_of_ble_eq_true rfl, Nat.le_of_ble_eq_true rfl⟩) (fun H locs hP hS => ?_)
    have h9 := Option.some.inj hF_15
    subst h9
    exact W.vret hx hb hr (fun t ht hW => ⟨⟨(), rfl, trivial, m_end ht hP⟩, hS.F ht⟩) hS.2.2 dX12_unfit_32
  refine lv_icmp_ne (tgt := 19) hx hb dX12_unfit_12 (by decide) (fun c_16 => ?_) (fun c_16 => ?_)
  · have hF_18 := ineg c_16 hF_8
    clear hF_8
    refine lv_iconst (v := 2) hx hb dX12_unfit_19 (by decide +kernel) ?_
    exact Jj_7 2 σ hF_18 _ _ hP hS ls (lv_sub hl [0] rfl)
  · have hF_17 := ipos c_16 hF_8
    clear hF_8
    refine lv_iconst (v := 1) hx hb dX12_unfit_15 (by decide +kernel) ?_
    refine lv_goto (tgt := 20) hx hb dX12_unfit_16 (by decide) ?_
    exact Jj_7 1 σ hF_17 _ _ hP hS ls (lv_sub hl [0] rfl)
theorem dX12_isSign_0 : decode cX12_isSign 0 = .ok (.aload_n 0, 1) := by decide +kernel
theorem dX12_isSign_1 : decode cX12_isSign 1 = .ok (.getfield 304, 3) := by decide +kernel
theorem dX12_isSign_4 : decode cX12_isSign 4 = .ok (.ifCond .ne 33, 3) := by decide +kernel
theorem dX12_isSign_7 : decode cX12_isSign 7 = .ok (.aload_n 0, 1) := by decide +kernel
theorem dX12_isSign_8 : decode cX12_isSign 8 = .ok (.getfield 27, 3) := by decide +kernel
theorem dX12_isSign_11 : decode cX12_isSign 11 = .ok (.aload_n 0, 1) := by decide +kernel
theorem dX12_isSign_12 : decode cX12_isSign 12 = .ok (.getfield 314, 3) := by decide +kernel
theorem dX12_isSign_15 : decode cX12_isSign 15 = .ok (.iaload, 1) := by decide +kernel
theorem dX12_isSign_16 : decode cX12_isSign 16 = .ok (.iconst 5, 1) := by decide +kernel
theorem dX12_isSign_17 : decode cX12_isSign 17 = .ok (.if_icmp .ne 20, 3) := by decide +kernel
theorem dX12_isSign_20 : decode cX12_isSign 20 = .ok (.aload_n 0, 1) := by decide +kernel
theorem dX12_isSign_21 : decode cX12_isSign 21 = .ok (.getfield 34, 3) := by decide +kernel
theorem dX12_isSign_24 : decode cX12_isSign 24 = .ok (.aload_n 0, 1) := by decide +kernel
theorem dX12_isSign_25 : decode cX12_isSign 25 = .ok (.getfield 314, 3) := by decide +kernel
theorem dX12_isSign_28 : decode cX12_isSign 28 = .ok (.iaload, 1) := by decide +kernel
theorem dX12_isSign_29 : decode cX12_isSign 29 = .ok (.iload_n 1, 1) := by decide +kernel
theorem dX12_isSign_30 : decode cX12_isSign 30 = .ok (.if_icmp .ne 7, 3) := by decide +kernel
theorem dX12_isSign_33 : decode cX12_isSign 33 = .ok (.iconst 1, 1) := by decide +kernel
theorem dX12_isSign_34 : decode cX12_isSign 34 = .ok (.goto 4, 3) := by decide +kernel
theorem dX12_isSign_37 : decode cX12_isSign 37 = .ok (.iconst 0, 1) := by decide +kernel
theorem dX12_isSign_38 : decode cX12_isSign 38 = .ok (.ireturn, 1) := by decide +kernel
def F_X12_isSign (p0 : Int32) (σ : MS) : MR :=
  if (σ.1 27) = 0 then (
    bnd ((σ.1 25)) fun (x_3 : Int32) =>
    if x_3 < 0 ∨ 16010 ≤ x_3.toNatClampNeg then none else
    if (σ.2 7 x_3.toNatClampNeg) = 5 then (
      bnd ((σ.1 25)) fun (x_9 : Int32) =>
      if x_9 < 0 ∨ 16010 ≤ x_9.toNatClampNeg then none else
      if (σ.2 9 x_9.toNatClampNeg) = p0 then (
        some (1, σ)
      ) else (
        some (0, σ)
      )
    ) else (
      some (0, σ)
    )
  ) else (
    some (0, σ)
  )
set_option maxHeartbeats 4000000 in
set_option maxRecDepth 100000 in
theorem m_X12_isSign (l : Launch) (dC : Nat → ClassId) (dI : Nat → Nat → Nat) (cB cC cI cJ cZ cP : ClassId) (h qK qS : Nat) (ad : Nat → Nat) (hDD : mDis cB cI cZ h qK qS ad) (sz : Nat)  (p0 : Int32) (σ : MS) (res : Int32 × MS) (hF : F_X12_isSign p0 σ = some res) : Met l yX12_isSign (g_ws yX12_isSign cX12_isSign 2 (some .boolean)) ({ frames := 1, cells := 0, slots := 0, locals := 40 }) (va_Pc [.ref h, .int p0] (m_B (dC, dI) [(cB, .byte), (cC, .char), (cI, .int), (cJ, .long), (cZ, .boolean), (cP, .object "StoryHouse$Play")] sz h ad qK qS (mW cB cI cZ h qK qS ad σ) g_0)) (va_Qi (fun r (_ : Unit) => r = res.1) (fun _ t => va_P (dC, dI) vwCl (mW cB cI cZ h qK qS ad res.2) t.heap) (mCells h ad sz)) 0 0 (mCells h ad sz) := by
  refine Met.ofW (cc := cX12_isSign) (maxL := 2) (ret := (some .boolean)) (by decide) rfl ?_
  intro p e s m args below meth c s₁ B hml hv
  obtain ⟨rfl, hsz, hP, hK, hE, hKS, hX⟩ := hv
  have hx := B.exec
  have hb := B.bytes
  have hr := B.returns
  have hts0 := atoms_spec (ws := g_ws yX12_isSign cX12_isSign 2 (some .boolean)) B.pre
  have hts : ∀ w ∈ lw_good, w.before ([.ref h, .int p0] : List Value).toArray s = true := fun w z => hts0 w (List.mem_cons_of_mem _ z)
  have hown : s.vm.findClass RX12 = some m.cls := findClass_of_methodNamed B.named
  have hlocks := B.notSynchronized
  have hS : va_S (mCells h ad sz) s.heap s.heap [] := va_S.rf
  have hl := lv_entry ([.ref h, .int p0]) (n := 2) (Nat.le_of_ble_eq_true rfl)
  rw [lg_entry_eq]
  generalize (lg_sl ([.ref h, .int p0]) ++ List.replicate (2 - (lg_sl ([.ref h, .int p0])).length) Slot.unset).toArray = ls at hl ⊢
  have hl : lv_has ls 2 [(0, .ref h), (1, .int p0)] := hl
  unfold F_X12_isSign at hF
  refine lv_aload_n hx hb dX12_isSign_0 rfl (lv_at hl 0 rfl) ?_
  refine va_get (D := (dC, dI)) (ci := 12) (v := .int (σ.1 27)) (C := RX12) (T := TX12) (N := 123) hx hb hts ii_X12 hown hK hP 0 rfl rfl 27 (by decide) (hts (.fieldLink RX12 304 "StoryHouseModel" "stopped" "Z") wq_1383) (fun _ h9 => h9) rfl dX12_isSign_1 ?_
  refine lv_if_ne (tgt := 37) hx hb dX12_isSign_4 (by decide) (fun c_1 => ?_) (fun c_1 => ?_)
  · have hF_17 := ineg c_1 hF
    clear hF
    refine lv_iconst (v := 0) hx hb dX12_isSign_37 (by decide +kernel) ?_
    have h9 := Option.some.inj hF_17
    subst h9
    exact W.zret (v := 0) hx hb hr (by decide +kernel) (fun t ht hW => ⟨⟨0, (), rfl, rfl, m_end ht hP⟩, hS.F ht⟩) hS.2.2 dX12_isSign_38
  · have hF_2 := ipos c_1 hF
    clear hF
    refine lv_aload_n hx hb dX12_isSign_7 rfl (lv_at hl 0 rfl) ?_
    refine va_get (D := (dC, dI)) (ci := 12) (v := .ref (ad 7)) (C := RX12) (T := TX12) (N := 123) hx hb hts ii_X12 hown hK hP 0 rfl rfl 7 (by decide) (hts (.fieldLink RX12 27 "StoryHouseModel" "tokKind" "[I") wq_1363) (fun _ h9 => h9) rfl dX12_isSign_8 ?_
    refine lv_aload_n hx hb dX12_isSign_11 rfl (lv_at hl 0 rfl) ?_
    refine va_get (D := (dC, dI)) (ci := 12) (v := .int (σ.1 25)) (C := RX12) (T := TX12) (N := 123) hx hb hts ii_X12 hown hK hP 0 rfl rfl 25 (by decide) (hts (.fieldLink RX12 314 "StoryHouseModel" "at" "I") wq_1381) (fun _ h9 => h9) rfl dX12_isSign_12 ?_
    obtain ⟨x_3, ex_3, hF_4⟩ := bnd_e hF_2
    clear hF_2
    refine m_top ex_3 ?_
    obtain ⟨g_5, hF_6⟩ := nif_e hF_4
    clear hF_4
    refine va_iald (f := σ.2 7) hx hb hK hP 3 2 rfl rfl g_5 dX12_isSign_15 ?_
    refine lv_iconst (v := 5) hx hb dX12_isSign_16 (by decide +kernel) ?_
    refine lv_icmp_ne (tgt := 37) hx hb dX12_isSign_17 (by decide) (fun c_7 => ?_) (fun c_7 => ?_)
    · have hF_16 := ineg c_7 hF_6
      clear hF_6
      refine lv_iconst (v := 0) hx hb dX12_isSign_37 (by decide +kernel) ?_
      have h9 := Option.some.inj hF_16
      subst h9
      exact W.zret (v := 0) hx hb hr (by decide +kernel) (fun t ht hW => ⟨⟨0, (), rfl, rfl, m_end ht hP⟩, hS.F ht⟩) hS.2.2 dX12_isSign_38
    · have hF_8 := ipos c_7 hF_6
      clear hF_6
      refine lv_aload_n hx hb dX12_isSign_20 rfl (lv_at hl 0 rfl) ?_
      refine va_get (D := (dC, dI)) (ci := 12) (v := .ref (ad 9)) (C := RX12) (T := TX12) (N := 123) hx hb hts ii_X12 hown hK hP 0 rfl rfl 9 (by decide) (hts (.fieldLink RX12 34 "StoryHouseModel" "tokValue" "[I") wq_1365) (fun _ h9 => h9) rfl dX12_isSign_21 ?_
      refine lv_aload_n hx hb dX12_isSign_24 rfl (lv_at hl 0 rfl) ?_
      refine va_get (D := (dC, dI)) (ci := 12) (v := .int (σ.1 25)) (C := RX12) (T := TX12) (N := 123) hx hb hts ii_X12 hown hK hP 0 rfl rfl 25 (by decide) (hts (.fieldLink RX12 314 "StoryHouseModel" "at" "I") wq_1381) (fun _ h9 => h9) rfl dX12_isSign_25 ?_
      obtain ⟨x_9, ex_9, hF_10⟩ := bnd_e hF_8
      clear hF_8
      refine m_top ex_9 ?_
      obtain ⟨g_11, hF_12⟩ := nif_e hF_10
      clear hF_10
      refine va_iald (f := σ.2 9) hx hb hK hP 5 2 rfl rfl g_11 dX12_isSign_28 ?_
      refine lv_iload_n hx hb dX12_isSign_29 rfl (lv_at hl 1 rfl) ?_
      refine lv_icmp_ne (tgt := 37) hx hb dX12_isSign_30 (by decide) (fun c_13 => ?_) (fun c_13 => ?_)
      · have hF_15 := ineg c_13 hF_12
        clear hF_12
        refine lv_iconst (v := 0) hx hb dX12_isSign_37 (by decide +kernel) ?_
        have h9 := Option.some.inj hF_15
        subst h9
        exact W.zret (v := 0) hx hb hr (by decide +kernel) (fun t ht hW => ⟨⟨0, (), rfl, rfl, m_end ht hP⟩, hS.F ht⟩) hS.2.2 dX12_isSign_38
      · have hF_14 := ipos c_13 hF_12
        clear hF_12
        refine lv_iconst (v := 1) hx hb dX12_isSign_33 (by decide +kernel) ?_
        refine lv_goto (tgt := 38) hx hb dX12_isSign_34 (by decide) ?_
        have h9 := Option.some.inj hF_14
        subst h9
        exact W.zret (v := 1) hx hb hr (by decide +kernel) (fun t ht hW => ⟨⟨1, (), rfl, rfl, m_end ht hP⟩, hS.F ht⟩) hS.2.2 dX12_isSign_38
theorem dX12_isKey_0 : decode cX12_isKey 0 = .ok (.aload_n 0, 1) := by decide +kernel
theorem dX12_isKey_1 : decode cX12_isKey 1 = .ok (.getfield 304, 3) := by decide +kernel
theorem dX12_isKey_4 : decode cX12_isKey 4 = .ok (.ifCond .ne 33, 3) := by decide +kernel
theorem dX12_isKey_7 : decode cX12_isKey 7 = .ok (.aload_n 0, 1) := by decide +kernel
theorem dX12_isKey_8 : decode cX12_isKey 8 = .ok (.getfield 27, 3) := by decide +kernel
theorem dX12_isKey_11 : decode cX12_isKey 11 = .ok (.aload_n 0, 1) := by decide +kernel
theorem dX12_isKey_12 : decode cX12_isKey 12 = .ok (.getfield 314, 3) := by decide +kernel
theorem dX12_isKey_15 : decode cX12_isKey 15 = .ok (.iaload, 1) := by decide +kernel
theorem dX12_isKey_16 : decode cX12_isKey 16 = .ok (.iconst 1, 1) := by decide +kernel
theorem dX12_isKey_17 : decode cX12_isKey 17 = .ok (.if_icmp .ne 20, 3) := by decide +kernel
theorem dX12_isKey_20 : decode cX12_isKey 20 = .ok (.aload_n 0, 1) := by decide +kernel
theorem dX12_isKey_21 : decode cX12_isKey 21 = .ok (.getfield 34, 3) := by decide +kernel
theorem dX12_isKey_24 : decode cX12_isKey 24 = .ok (.aload_n 0, 1) := by decide +kernel
theorem dX12_isKey_25 : decode cX12_isKey 25 = .ok (.getfield 314, 3) := by decide +kernel
theorem dX12_isKey_28 : decode cX12_isKey 28 = .ok (.iaload, 1) := by decide +kernel
theorem dX12_isKey_29 : decode cX12_isKey 29 = .ok (.iload_n 1, 1) := by decide +kernel
theorem dX12_isKey_30 : decode cX12_isKey 30 = .ok (.if_icmp .ne 7, 3) := by decide +kernel
theorem dX12_isKey_33 : decode cX12_isKey 33 = .ok (.iconst 1, 1) := by decide +kernel
theorem dX12_isKey_34 : decode cX12_isKey 34 = .ok (.goto 4, 3) := by decide +kernel
theorem dX12_isKey_37 : decode cX12_isKey 37 = .ok (.iconst 0, 1) := by decide +kernel
theorem dX12_isKey_38 : decode cX12_isKey 38 = .ok (.ireturn, 1) := by decide +kernel
def F_X12_isKey (p0 : Int32) (σ : MS) : MR :=
  if (σ.1 27) = 0 then (
    bnd ((σ.1 25)) fun (x_3 : Int32) =>
    if x_3 < 0 ∨ 16010 ≤ x_3.toNatClampNeg then none else
    if (σ.2 7 x_3.toNatClampNeg) = 1 then (
      bnd ((σ.1 25)) fun (x_9 : Int32) =>
      if x_9 < 0 ∨ 16010 ≤ x_9.toNatClampNeg then none else
      if (σ.2 9 x_9.toNatClampNeg) = p0 then (
        some (1, σ)
      ) else (
        some (0, σ)
      )
    ) else (
      some (0, σ)
    )
  ) else (
    some (0, σ)
  )
set_option maxHeartbeats 4000000 in
set_option maxRecDepth 100000 in
theorem m_X12_isKey (l : Launch) (dC : Nat → ClassId) (dI : Nat → Nat → Nat) (cB cC cI cJ cZ cP : ClassId) (h qK qS : Nat) (ad : Nat → Nat) (hDD : mDis cB cI cZ h qK qS ad) (sz : Nat)  (p0 : Int32) (σ : MS) (res : Int32 × MS) (hF : F_X12_isKey p0 σ = some res) : Met l yX12_isKey (g_ws yX12_isKey cX12_isKey 2 (some .boolean)) ({ frames := 1, cells := 0, slots := 0, locals := 40 }) (va_Pc [.ref h, .int p0] (m_B (dC, dI) [(cB, .byte), (cC, .char), (cI, .int), (cJ, .long), (cZ, .boolean), (cP, .object "StoryHouse$Play")] sz h ad qK qS (mW cB cI cZ h qK qS ad σ) g_0)) (va_Qi (fun r (_ : Unit) => r = res.1) (fun _ t => va_P (dC, dI) vwCl (mW cB cI cZ h qK qS ad res.2) t.heap) (mCells h ad sz)) 0 0 (mCells h ad sz) := by
  refine Met.ofW (cc := cX12_isKey) (maxL := 2) (ret := (some .boolean)) (by decide) rfl ?_
  intro p e s m args below meth c s₁ B hml hv
  obtain ⟨rfl, hsz, hP, hK, hE, hKS, hX⟩ := hv
  have hx := B.exec
  have hb := B.bytes
  have hr := B.returns
  have hts0 := atoms_spec (ws := g_ws yX12_isKey cX12_isKey 2 (some .boolean)) B.pre
  have hts : ∀ w ∈ lw_good, w.before ([.ref h, .int p0] : List Value).toArray s = true := fun w z => hts0 w (List.mem_cons_of_mem _ z)
  have hown : s.vm.findClass RX12 = some m.cls := findClass_of_methodNamed B.named
  have hlocks := B.notSynchronized
  have hS : va_S (mCells h ad sz) s.heap s.heap [] := va_S.rf
  have hl := lv_entry ([.ref h, .int p0]) (n := 2) (Nat.le_of_ble_eq_true rfl)
  rw [lg_entry_eq]
  generalize (lg_sl ([.ref h, .int p0]) ++ List.replicate (2 - (lg_sl ([.ref h, .int p0])).length) Slot.unset).toArray = ls at hl ⊢
  have hl : lv_has ls 2 [(0, .ref h), (1, .int p0)] := hl
  unfold F_X12_isKey at hF
  refine lv_aload_n hx hb dX12_isKey_0 rfl (lv_at hl 0 rfl) ?_
  refine va_get (D := (dC, dI)) (ci := 12) (v := .int (σ.1 27)) (C := RX12) (T := TX12) (N := 123) hx hb hts ii_X12 hown hK hP 0 rfl rfl 27 (by decide) (hts (.fieldLink RX12 304 "StoryHouseModel" "stopped" "Z") wq_1383) (fun _ h9 => h9) rfl dX12_isKey_1 ?_
  refine lv_if_ne (tgt := 37) hx hb dX12_isKey_4 (by decide) (fun c_1 => ?_) (fun c_1 => ?_)
  · have hF_17 := ineg c_1 hF
    clear hF
    refine lv_iconst (v := 0) hx hb dX12_isKey_37 (by decide +kernel) ?_
    have h9 := Option.some.inj hF_17
    subst h9
    exact W.zret (v := 0) hx hb hr (by decide +kernel) (fun t ht hW => ⟨⟨0, (), rfl, rfl, m_end ht hP⟩, hS.F ht⟩) hS.2.2 dX12_isKey_38
  · have hF_2 := ipos c_1 hF
    clear hF
    refine lv_aload_n hx hb dX12_isKey_7 rfl (lv_at hl 0 rfl) ?_
    refine va_get (D := (dC, dI)) (ci := 12) (v := .ref (ad 7)) (C := RX12) (T := TX12) (N := 123) hx hb hts ii_X12 hown hK hP 0 rfl rfl 7 (by decide) (hts (.fieldLink RX12 27 "StoryHouseModel" "tokKind" "[I") wq_1363) (fun _ h9 => h9) rfl dX12_isKey_8 ?_
    refine lv_aload_n hx hb dX12_isKey_11 rfl (lv_at hl 0 rfl) ?_
    refine va_get (D := (dC, dI)) (ci := 12) (v := .int (σ.1 25)) (C := RX12) (T := TX12) (N := 123) hx hb hts ii_X12 hown hK hP 0 rfl rfl 25 (by decide) (hts (.fieldLink RX12 314 "StoryHouseModel" "at" "I") wq_1381) (fun _ h9 => h9) rfl dX12_isKey_12 ?_
    obtain ⟨x_3, ex_3, hF_4⟩ := bnd_e hF_2
    clear hF_2
    refine m_top ex_3 ?_
    obtain ⟨g_5, hF_6⟩ := nif_e hF_4
    clear hF_4
    refine va_iald (f := σ.2 7) hx hb hK hP 3 2 rfl rfl g_5 dX12_isKey_15 ?_
    refine lv_iconst (v := 1) hx hb dX12_isKey_16 (by decide +kernel) ?_
    refine lv_icmp_ne (tgt := 37) hx hb dX12_isKey_17 (by decide) (fun c_7 => ?_) (fun c_7 => ?_)
    · have hF_16 := ineg c_7 hF_6
      clear hF_6
      refine lv_iconst (v := 0) hx hb dX12_isKey_37 (by decide +kernel) ?_
      have h9 := Option.some.inj hF_16
      subst h9
      exact W.zret (v := 0) hx hb hr (by decide +kernel) (fun t ht hW => ⟨⟨0, (), rfl, rfl, m_end ht hP⟩, hS.F ht⟩) hS.2.2 dX12_isKey_38
    · have hF_8 := ipos c_7 hF_6
      clear hF_6
      refine lv_aload_n hx hb dX12_isKey_20 rfl (lv_at hl 0 rfl) ?_
      refine va_get (D := (dC, dI)) (ci := 12) (v := .ref (ad 9)) (C := RX12) (T := TX12) (N := 123) hx hb hts ii_X12 hown hK hP 0 rfl rfl 9 (by decide) (hts (.fieldLink RX12 34 "StoryHouseModel" "tokValue" "[I") wq_1365) (fun _ h9 => h9) rfl dX12_isKey_21 ?_
      refine lv_aload_n hx hb dX12_isKey_24 rfl (lv_at hl 0 rfl) ?_
      refine va_get (D := (dC, dI)) (ci := 12) (v := .int (σ.1 25)) (C := RX12) (T := TX12) (N := 123) hx hb hts ii_X12 hown hK hP 0 rfl rfl 25 (by decide) (hts (.fieldLink RX12 314 "StoryHouseModel" "at" "I") wq_1381) (fun _ h9 => h9) rfl dX12_isKey_25 ?_
      obtain ⟨x_9, ex_9, hF_10⟩ := bnd_e hF_8
      clear hF_8
      refine m_top ex_9 ?_
      obtain ⟨g_11, hF_12⟩ := nif_e hF_10
      clear hF_10
      refine va_iald (f := σ.2 9) hx hb hK hP 5 2 rfl rfl g_11 dX12_isKey_28 ?_
      refine lv_iload_n hx hb dX12_isKey_29 rfl (lv_at hl 1 rfl) ?_
      refine lv_icmp_ne (tgt := 37) hx hb dX12_isKey_30 (by decide) (fun c_13 => ?_) (fun c_13 => ?_)
      · have hF_15 := ineg c_13 hF_12
        clear hF_12
        refine lv_iconst (v := 0) hx hb dX12_isKey_37 (by decide +kernel) ?_
        have h9 := Option.some.inj hF_15
        subst h9
        exact W.zret (v := 0) hx hb hr (by decide +kernel) (fun t ht hW => ⟨⟨0, (), rfl, rfl, m_end ht hP⟩, hS.F ht⟩) hS.2.2 dX12_isKey_38
      · have hF_14 := ipos c_13 hF_12
        clear hF_12
        refine lv_iconst (v := 1) hx hb dX12_isKey_33 (by decide +kernel) ?_
        refine lv_goto (tgt := 38) hx hb dX12_isKey_34 (by decide) ?_
        have h9 := Option.some.inj hF_14
        subst h9
        exact W.zret (v := 1) hx hb hr (by decide +kernel) (fun t ht hW => ⟨⟨1, (), rfl, rfl, m_end ht hP⟩, hS.F ht⟩) hS.2.2 dX12_isKey_38
theorem dX12_took_0 : decode cX12_took 0 = .ok (.aload_n 0, 1) := by decide +kernel
theorem dX12_took_1 : decode cX12_took 1 = .ok (.iload_n 1, 1) := by decide +kernel
theorem dX12_took_2 : decode cX12_took 2 = .ok (.invokevirtual 321, 3) := by decide +kernel
theorem dX12_took_5 : decode cX12_took 5 = .ok (.ifCond .ne 5, 3) := by decide +kernel
theorem dX12_took_8 : decode cX12_took 8 = .ok (.iconst 0, 1) := by decide +kernel
theorem dX12_took_9 : decode cX12_took 9 = .ok (.ireturn, 1) := by decide +kernel
theorem dX12_took_10 : decode cX12_took 10 = .ok (.aload_n 0, 1) := by decide +kernel
theorem dX12_took_11 : decode cX12_took 11 = .ok (.dup, 1) := by decide +kernel
theorem dX12_took_12 : decode cX12_took 12 = .ok (.getfield 314, 3) := by decide +kernel
theorem dX12_took_15 : decode cX12_took 15 = .ok (.iconst 1, 1) := by decide +kernel
theorem dX12_took_16 : decode cX12_took 16 = .ok (.iadd, 1) := by decide +kernel
theorem dX12_took_17 : decode cX12_took 17 = .ok (.putfield 314, 3) := by decide +kernel
theorem dX12_took_20 : decode cX12_took 20 = .ok (.iconst 1, 1) := by decide +kernel
theorem dX12_took_21 : decode cX12_took 21 = .ok (.ireturn, 1) := by decide +kernel
def F_X12_took (p0 : Int32) (σ : MS) : MR :=
  (F_X12_isSign p0 σ).bind fun u_1 =>
  if u_1.1 = 0 then (
    some (0, u_1.2)
  ) else (
    bnd (mI u_1.2 25 ((u_1.2.1 25) + 1)) fun σ_6 =>
    some (1, σ_6)
  )
set_option maxHeartbeats 4000000 in
set_option maxRecDepth 100000 in
theorem m_X12_took (l : Launch) (dC : Nat → ClassId) (dI : Nat → Nat → Nat) (cB cC cI cJ cZ cP : ClassId) (h qK qS : Nat) (ad : Nat → Nat) (hDD : mDis cB cI cZ h qK qS ad) (sz : Nat)  (p0 : Int32) (σ : MS) (res : Int32 × MS) (hF : F_X12_took p0 σ = some res) : Met l yX12_took (g_ws yX12_took cX12_took 2 (some .boolean)) ({ frames := 2, cells := 0, slots := 0, locals := 61 }) (va_Pc [.ref h, .int p0] (m_B (dC, dI) [(cB, .byte), (cC, .char), (cI, .int), (cJ, .long), (cZ, .boolean), (cP, .object "StoryHouse$Play")] sz h ad qK qS (mW cB cI cZ h qK qS ad σ) g_0)) (va_Qi (fun r (_ : Unit) => r = res.1) (fun _ t => va_P (dC, dI) vwCl (mW cB cI cZ h qK qS ad res.2) t.heap) (mCells h ad sz)) 0 0 (mCells h ad sz) := by
  refine Met.ofW (cc := cX12_took) (maxL := 2) (ret := (some .boolean)) (by decide) rfl ?_
  intro p e s m args below meth c s₁ B hml hv
  obtain ⟨rfl, hsz, hP, hK, hE, hKS, hX⟩ := hv
  have hx := B.exec
  have hb := B.bytes
  have hr := B.returns
  have hts0 := atoms_spec (ws := g_ws yX12_took cX12_took 2 (some .boolean)) B.pre
  have hts : ∀ w ∈ lw_good, w.before ([.ref h, .int p0] : List Value).toArray s = true := fun w z => hts0 w (List.mem_cons_of_mem _ z)
  have hown : s.vm.findClass RX12 = some m.cls := findClass_of_methodNamed B.named
  have hlocks := B.notSynchronized
  have hS : va_S (mCells h ad sz) s.heap s.heap [] := va_S.rf
  have hl := lv_entry ([.ref h, .int p0]) (n := 2) (Nat.le_of_ble_eq_true rfl)
  rw [lg_entry_eq]
  generalize (lg_sl ([.ref h, .int p0]) ++ List.replicate (2 - (lg_sl ([.ref h, .int p0])).length) Slot.unset).toArray = ls at hl ⊢
  have hl : lv_has ls 2 [(0, .ref h), (1, .int p0)] := hl
  unfold F_X12_took at hF
  refine lv_aload_n hx hb dX12_took_0 rfl (lv_at hl 0 rfl) ?_
  refine lv_iload_n hx hb dX12_took_1 rfl (lv_at hl 1 rfl) ?_
  obtain ⟨u_1, hu_1, hF_2⟩ := Option.bind_eq_some_iff.mp hF
  clear hF
  refine m_ci hsz hS (va_runV (As := [.int p0]) (rest := []) ⟨hx, hb, hml, hown, hts⟩ (m_X12_isSign l dC dI cB cC cI cJ cZ cP h qK qS ad hDD s.heap.size  p0 σ _ hu_1) (cwV 1 hts (g_gV wq_1558 wq_1559 wq_2132 wq_13 wq_1560) rfl rfl rfl (by decide +kernel) ⟨Nat.le_of_ble_eq_true rfl, Nat.le_of_ble_eq_true rfl⟩) (m_preV g_bl0 hsz hK hP hS hE hKS g_to0) rfl rfl hl.1 rfl (lv_room (Nat.le_of_ble_eq_true rfl)) dX12_took_2 ⟨Nat.le_of_ble_eq_true rfl, Nat.le_of_ble_eq_true rfl⟩) (fun H locs hP hS => ?_)
  refine lv_if_ne (tgt := 10) hx hb dX12_took_5 (by decide) (fun c_3 => ?_) (fun c_3 => ?_)
  · have hF_5 := ineg c_3 hF_2
    clear hF_2
    refine lv_aload_n hx hb dX12_took_10 rfl (lv_at hl 0 rfl) ?_
    refine lv_dup hx hb dX12_took_11 rfl ?_
    refine va_get (D := (dC, dI)) (ci := 12) (v := .int (u_1.2.1 25)) (C := RX12) (T := TX12) (N := 123) hx hb hts ii_X12 hown hK hP 0 rfl rfl 25 (by decide) (hts (.fieldLink RX12 314 "StoryHouseModel" "at" "I") wq_1381) (fun _ h9 => h9) rfl dX12_took_12 ?_
    refine lv_iconst (v := 1) hx hb dX12_took_15 (by decide +kernel) ?_
    refine lv_iadd hx hb dX12_took_16 ?_
    obtain ⟨σ_6, eσ_6, hF_7⟩ := bnd_e hF_5
    clear hF_5
    refine m_put (σ' := σ_6) (v := .int ((u_1.2.1 25) + 1)) (ty := .int) hx hb hts hown hK hP (hDD _ _) hS (by rw [eσ_6]; exact mwI_25) (k := 25) (by decide) (hts (.fieldLink RX12 314 "StoryHouseModel" "at" "I") wq_1381) (fun _ h9 => h9) rfl (by decide +kernel) rfl rfl dX12_took_17 (fun H locs hP hS => ?_)
    refine lv_iconst (v := 1) hx hb dX12_took_20 (by decide +kernel) ?_
    have h9 := Option.some.inj hF_7
    subst h9
    exact W.zret (v := 1) hx hb hr (by decide +kernel) (fun t ht hW => ⟨⟨1, (), rfl, rfl, m_end ht hP⟩, hS.F ht⟩) hS.2.2 dX12_took_21
  · have hF_4 := ipos c_3 hF_2
    clear hF_2
    refine lv_iconst (v := 0) hx hb dX12_took_8 (by decide +kernel) ?_
    have h9 := Option.some.inj hF_4
    subst h9
    exact W.zret (v := 0) hx hb hr (by decide +kernel) (fun t ht hW => ⟨⟨0, (), rfl, rfl, m_end ht hP⟩, hS.F ht⟩) hS.2.2 dX12_took_9
theorem dX12_tookKey_0 : decode cX12_tookKey 0 = .ok (.aload_n 0, 1) := by decide +kernel
theorem dX12_tookKey_1 : decode cX12_tookKey 1 = .ok (.iload_n 1, 1) := by decide +kernel
theorem dX12_tookKey_2 : decode cX12_tookKey 2 = .ok (.invokevirtual 324, 3) := by decide +kernel
theorem dX12_tookKey_5 : decode cX12_tookKey 5 = .ok (.ifCond .ne 5, 3) := by decide +kernel
theorem dX12_tookKey_8 : decode cX12_tookKey 8 = .ok (.iconst 0, 1) := by decide +kernel
theorem dX12_tookKey_9 : decode cX12_tookKey 9 = .ok (.ireturn, 1) := by decide +kernel
theorem dX12_tookKey_10 : decode cX12_tookKey 10 = .ok (.aload_n 0, 1) := by decide +kernel
theorem dX12_tookKey_11 : decode cX12_tookKey 11 = .ok (.dup, 1) := by decide +kernel
theorem dX12_tookKey_12 : decode cX12_tookKey 12 = .ok (.getfield 314, 3) := by decide +kernel
theorem dX12_tookKey_15 : decode cX12_tookKey 15 = .ok (.iconst 1, 1) := by decide +kernel
theorem dX12_tookKey_16 : decode cX12_tookKey 16 = .ok (.iadd, 1) := by decide +kernel
theorem dX12_tookKey_17 : decode cX12_tookKey 17 = .ok (.putfield 314, 3) := by decide +kernel
theorem dX12_tookKey_20 : decode cX12_tookKey 20 = .ok (.iconst 1, 1) := by decide +kernel
theorem dX12_tookKey_21 : decode cX12_tookKey 21 = .ok (.ireturn, 1) := by decide +kernel
def F_X12_tookKey (p0 : Int32) (σ : MS) : MR :=
  (F_X12_isKey p0 σ).bind fun u_1 =>
  if u_1.1 = 0 then (
    some (0, u_1.2)
  ) else (
    bnd (mI u_1.2 25 ((u_1.2.1 25) + 1)) fun σ_6 =>
    some (1, σ_6)
  )
set_option maxHeartbeats 4000000 in
set_option maxRecDepth 100000 in
theorem m_X12_tookKey (l : Launch) (dC : Nat → ClassId) (dI : Nat → Nat → Nat) (cB cC cI cJ cZ cP : ClassId) (h qK qS : Nat) (ad : Nat → Nat) (hDD : mDis cB cI cZ h qK qS ad) (sz : Nat)  (p0 : Int32) (σ : MS) (res : Int32 × MS) (hF : F_X12_tookKey p0 σ = some res) : Met l yX12_tookKey (g_ws yX12_tookKey cX12_tookKey 2 (some .boolean)) ({ frames := 2, cells := 0, slots := 0, locals := 61 }) (va_Pc [.ref h, .int p0] (m_B (dC, dI) [(cB, .byte), (cC, .char), (cI, .int), (cJ, .long), (cZ, .boolean), (cP, .object "StoryHouse$Play")] sz h ad qK qS (mW cB cI cZ h qK qS ad σ) g_0)) (va_Qi (fun r (_ : Unit) => r = res.1) (fun _ t => va_P (dC, dI) vwCl (mW cB cI cZ h qK qS ad res.2) t.heap) (mCells h ad sz)) 0 0 (mCells h ad sz) := by
  refine Met.ofW (cc := cX12_tookKey) (maxL := 2) (ret := (some .boolean)) (by decide) rfl ?_
  intro p e s m args below meth c s₁ B hml hv
  obtain ⟨rfl, hsz, hP, hK, hE, hKS, hX⟩ := hv
  have hx := B.exec
  have hb := B.bytes
  have hr := B.returns
  have hts0 := atoms_spec (ws := g_ws yX12_tookKey cX12_tookKey 2 (some .boolean)) B.pre
  have hts : ∀ w ∈ lw_good, w.before ([.ref h, .int p0] : List Value).toArray s = true := fun w z => hts0 w (List.mem_cons_of_mem _ z)
  have hown : s.vm.findClass RX12 = some m.cls := findClass_of_methodNamed B.named
  have hlocks := B.notSynchronized
  have hS : va_S (mCells h ad sz) s.heap s.heap [] := va_S.rf
  have hl := lv_entry ([.ref h, .int p0]) (n := 2) (Nat.le_of_ble_eq_true rfl)
  rw [lg_entry_eq]
  generalize (lg_sl ([.ref h, .int p0]) ++ List.replicate (2 - (lg_sl ([.ref h, .int p0])).length) Slot.unset).toArray = ls at hl ⊢
  have hl : lv_has ls 2 [(0, .ref h), (1, .int p0)] := hl
  unfold F_X12_tookKey at hF
  refine lv_aload_n hx hb dX12_tookKey_0 rfl (lv_at hl 0 rfl) ?_
  refine lv_iload_n hx hb dX12_tookKey_1 rfl (lv_at hl 1 rfl) ?_
  obtain ⟨u_1, hu_1, hF_2⟩ := Option.bind_eq_some_iff.mp hF
  clear hF
  refine m_ci hsz hS (va_runV (As := [.int p0]) (rest := []) ⟨hx, hb, hml, hown, hts⟩ (m_X12_isKey l dC dI cB cC cI cJ cZ cP h qK qS ad hDD s.heap.size  p0 σ _ hu_1) (cwV 1 hts (g_gV wq_1534 wq_1535 wq_2124 wq_13 wq_1536) rfl rfl rfl (by decide +kernel) ⟨Nat.le_of_ble_eq_true rfl, Nat.le_of_ble_eq_true rfl⟩) (m_preV g_bl0 hsz hK hP hS hE hKS g_to0) rfl rfl hl.1 rfl (lv_room (Nat.le_of_ble_eq_true rfl)) dX12_tookKey_2 ⟨Nat.le_of_ble_eq_true rfl, Nat.le_of_ble_eq_true rfl⟩) (fun H locs hP hS => ?_)
  refine lv_if_ne (tgt := 10) hx hb dX12_tookKey_5 (by decide) (fun c_3 => ?_) (fun c_3 => ?_)
  · have hF_5 := ineg c_3 hF_2
    clear hF_2
    refine lv_aload_n hx hb dX12_tookKey_10 rfl (lv_at hl 0 rfl) ?_
    refine lv_dup hx hb dX12_tookKey_11 rfl ?_
    refine va_get (D := (dC, dI)) (ci := 12) (v := .int (u_1.2.1 25)) (C := RX12) (T := TX12) (N := 123) hx hb hts ii_X12 hown hK hP 0 rfl rfl 25 (by decide) (hts (.fieldLink RX12 314 "StoryHouseModel" "at" "I") wq_1381) (fun _ h9 => h9) rfl dX12_tookKey_12 ?_
    refine lv_iconst (v := 1) hx hb dX12_tookKey_15 (by decide +kernel) ?_
    refine lv_iadd hx hb dX12_tookKey_16 ?_
    obtain ⟨σ_6, eσ_6, hF_7⟩ := bnd_e hF_5
    clear hF_5
    refine m_put (σ' := σ_6) (v := .int ((u_1.2.1 25) + 1)) (ty := .int) hx hb hts hown hK hP (hDD _ _) hS (by rw [eσ_6]; exact mwI_25) (k := 25) (by decide) (hts (.fieldLink RX12 314 "StoryHouseModel" "at" "I") wq_1381) (fun _ h9 => h9) rfl (by decide +kernel) rfl rfl dX12_tookKey_17 (fun H locs hP hS => ?_)
    refine lv_iconst (v := 1) hx hb dX12_tookKey_20 (by decide +kernel) ?_
    have h9 := Option.some.inj hF_7
    subst h9
    exact W.zret (v := 1) hx hb hr (by decide +kernel) (fun t ht hW => ⟨⟨1, (), rfl, rfl, m_end ht hP⟩, hS.F ht⟩) hS.2.2 dX12_tookKey_21
  · have hF_4 := ipos c_3 hF_2
    clear hF_2
    refine lv_iconst (v := 0) hx hb dX12_tookKey_8 (by decide +kernel) ?_
    have h9 := Option.some.inj hF_4
    subst h9
    exact W.zret (v := 0) hx hb hr (by decide +kernel) (fun t ht hW => ⟨⟨0, (), rfl, rfl, m_end ht hP⟩, hS.F ht⟩) hS.2.2 dX12_tookKey_9
theorem dX12_need_0 : decode cX12_need 0 = .ok (.aload_n 0, 1) := by decide +kernel
theorem dX12_need_1 : decode cX12_need 1 = .ok (.iload_n 1, 1) := by decide +kernel
theorem dX12_need_2 : decode cX12_need 2 = .ok (.invokevirtual 327, 3) := by decide +kernel
theorem dX12_need_5 : decode cX12_need 5 = .ok (.ifCond .ne 7, 3) := by decide +kernel
theorem dX12_need_8 : decode cX12_need 8 = .ok (.aload_n 0, 1) := by decide +kernel
theorem dX12_need_9 : decode cX12_need 9 = .ok (.invokevirtual 330, 3) := by decide +kernel
theorem dX12_need_12 : decode cX12_need 12 = .ok (.return_, 1) := by decide +kernel
def F_X12_need (p0 : Int32) (σ : MS) : MR :=
  (F_X12_took p0 σ).bind fun u_1 =>
  if u_1.1 = 0 then (
    (F_X12_unfit u_1.2).bind fun u_5 =>
    some (0, u_5.2)
  ) else (
    some (0, u_1.2)
  )
set_option maxHeartbeats 4000000 in
set_option maxRecDepth 100000 in
theorem m_X12_need (l : Launch) (dC : Nat → ClassId) (dI : Nat → Nat → Nat) (cB cC cI cJ cZ cP : ClassId) (h qK qS : Nat) (ad : Nat → Nat) (hDD : mDis cB cI cZ h qK qS ad) (sz : Nat)  (p0 : Int32) (σ : MS) (res : Int32 × MS) (hF : F_X12_need p0 σ = some res) : Met l yX12_need (g_ws yX12_need cX12_need 2 none) ({ frames := 3, cells := 0, slots := 0, locals := 82 }) (va_Pc [.ref h, .int p0] (m_B (dC, dI) [(cB, .byte), (cC, .char), (cI, .int), (cJ, .long), (cZ, .boolean), (cP, .object "StoryHouse$Play")] sz h ad qK qS (mW cB cI cZ h qK qS ad σ) g_0)) (va_Qv (fun (_ : Unit) => True) (fun _ t => va_P (dC, dI) vwCl (mW cB cI cZ h qK qS ad res.2) t.heap) (mCells h ad sz)) 0 0 (mCells h ad sz) := by
  refine Met.ofW (cc := cX12_need) (maxL := 2) (ret := none) (by decide) rfl ?_
  intro p e s m args below meth c s₁ B hml hv
  obtain ⟨rfl, hsz, hP, hK, hE, hKS, hX⟩ := hv
  have hx := B.exec
  have hb := B.bytes
  have hr := B.returns
  have hts0 := atoms_spec (ws := g_ws yX12_need cX12_need 2 none) B.pre
  have hts : ∀ w ∈ lw_good, w.before ([.ref h, .int p0] : List Value).toArray s = true := fun w z => hts0 w (List.mem_cons_of_mem _ z)
  have hown : s.vm.findClass RX12 = some m.cls := findClass_of_methodNamed B.named
  have hlocks := B.notSynchronized
  have hS : va_S (mCells h ad sz) s.heap s.heap [] := va_S.rf
  have hl := lv_entry ([.ref h, .int p0]) (n := 2) (Nat.le_of_ble_eq_true rfl)
  rw [lg_entry_eq]
  generalize (lg_sl ([.ref h, .int p0]) ++ List.replicate (2 - (lg_sl ([.ref h, .int p0])).length) Slot.unset).toArray = ls at hl ⊢
  have hl : lv_has ls 2 [(0, .ref h), (1, .int p0)] := hl
  unfold F_X12_need at hF
  refine lv_aload_n hx hb dX12_need_0 rfl (lv_at hl 0 rfl) ?_
  refine lv_iload_n hx hb dX12_need_1 rfl (lv_at hl 1 rfl) ?_
  obtain ⟨u_1, hu_1, hF_2⟩ := Option.bind_eq_some_iff.mp hF
  clear hF
  refine m_ci hsz hS (va_runV (As := [.int p0]) (rest := []) ⟨hx, hb, hml, hown, hts⟩ (m_X12_took l dC dI cB cC cI cJ cZ cP h qK qS ad hDD s.heap.size  p0 σ _ hu_1) (cwV 1 hts (g_gV wq_1567 wq_1568 wq_2135 wq_13 wq_1569) rfl rfl rfl (by decide +kernel) ⟨Nat.le_of_ble_eq_true rfl, Nat.le_of_ble_eq_true rfl⟩) (m_preV g_bl0 hsz hK hP hS hE hKS g_to0) rfl rfl hl.1 rfl (lv_room (Nat.le_of_ble_eq_true rfl)) dX12_need_2 ⟨Nat.le_of_ble_eq_true rfl, Nat.le_of_ble_eq_true rfl⟩) (fun H locs hP hS => ?_)
  refine lv_if_ne (tgt := 12) hx hb dX12_need_5 (by decide) (fun c_3 => ?_) (fun c_3 => ?_)
  · have hF_7 := ineg c_3 hF_2
    clear hF_2
    have h9 := Option.some.inj hF_7
    subst h9
    exact W.vret hx hb hr (fun t ht hW => ⟨⟨(), rfl, trivial, m_end ht hP⟩, hS.F ht⟩) hS.2.2 dX12_need_12
  · have hF_4 := ipos c_3 hF_2
    clear hF_2
    refine lv_aload_n hx hb dX12_need_8 rfl (lv_at hl 0 rfl) ?_
    obtain ⟨u_5, hu_5, hF_6⟩ := Option.bind_eq_some_iff.mp hF_4
    clear hF_4
    refine m_cv hsz hS (va_runV (As := []) (rest := []) ⟨hx, hb, hml, hown, hts⟩ (m_X12_unfit l dC dI cB cC cI cJ cZ cP h qK qS ad hDD H.size  u_1.2 _ hu_5) (cwV 0 hts (g_gV wq_1549 wq_1550 wq_2129 wq_13 wq_1551) rfl rfl rfl (by decide +kernel) ⟨Nat.le_of_ble_eq_true rfl, Nat.le_of_ble_eq_true rfl⟩) (m_preV g_bl0 hsz hK hP hS hE hKS g_to0) rfl rfl hl.1 rfl (lv_room (Nat.le_of_ble_eq_true rfl)) dX12_need_9 ⟨Nat.le_of_ble_eq_true rfl, Nat.le_of_ble_eq_true rfl⟩) (fun H locs hP hS => ?_)
    have h9 := Option.some.inj hF_6
    subst h9
    exact W.vret hx hb hr (fun t ht hW => ⟨⟨(), rfl, trivial, m_end ht hP⟩, hS.F ht⟩) hS.2.2 dX12_need_12
