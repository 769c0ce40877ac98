/-! methods of the reference: what each does is its function -/
theorem dX12_block__0 : decode cX12_block_ 0 = .ok (.aload_n 0, 1) := by decide +kernel
theorem dX12_block__1 : decode cX12_block_ 1 = .ok (.getfield 143, 3) := by decide +kernel
theorem dX12_block__4 : decode cX12_block_ 4 = .ok (.iload_n 1, 1) := by decide +kernel
theorem dX12_block__5 : decode cX12_block_ 5 = .ok (.iaload, 1) := by decide +kernel
theorem dX12_block__6 : decode cX12_block_ 6 = .ok (.istore_n 3, 1) := by decide +kernel
theorem dX12_block__7 : decode cX12_block_ 7 = .ok (.iload_n 3, 1) := by decide +kernel
theorem dX12_block__8 : decode cX12_block_ 8 = .ok (.ifCond .lt 26, 3) := by decide +kernel
theorem dX12_block__11 : decode cX12_block_ 11 = .ok (.aload_n 0, 1) := by decide +kernel
theorem dX12_block__12 : decode cX12_block_ 12 = .ok (.getfield 685, 3) := by decide +kernel
theorem dX12_block__15 : decode cX12_block_ 15 = .ok (.ifCond .ne 19, 3) := by decide +kernel
theorem dX12_block__18 : decode cX12_block_ 18 = .ok (.aload_n 0, 1) := by decide +kernel
theorem dX12_block__19 : decode cX12_block_ 19 = .ok (.iload_n 3, 1) := by decide +kernel
theorem dX12_block__20 : decode cX12_block_ 20 = .ok (.iload_n 2, 1) := by decide +kernel
theorem dX12_block__21 : decode cX12_block_ 21 = .ok (.invokevirtual 750, 3) := by decide +kernel
theorem dX12_block__24 : decode cX12_block_ 24 = .ok (.aload_n 0, 1) := by decide +kernel
theorem dX12_block__25 : decode cX12_block_ 25 = .ok (.getfield 152, 3) := by decide +kernel
theorem dX12_block__28 : decode cX12_block_ 28 = .ok (.iload_n 3, 1) := by decide +kernel
theorem dX12_block__29 : decode cX12_block_ 29 = .ok (.iaload, 1) := by decide +kernel
theorem dX12_block__30 : decode cX12_block_ 30 = .ok (.istore_n 3, 1) := by decide +kernel
theorem dX12_block__31 : decode cX12_block_ 31 = .ok (.goto (-24), 3) := by decide +kernel
theorem dX12_block__34 : decode cX12_block_ 34 = .ok (.return_, 1) := by decide +kernel
def F_X12_block_ (p0 : Int32) (p1 : Int32) (σ : MS) : MR :=
  if p0 < 0 ∨ 40000 ≤ p0.toNatClampNeg then none else
  bnd ((σ.2 66 p0.toNatClampNeg)) fun (x_3 : Int32) =>
  loopF (fun (again_6 : (Int32 × MS) → MR) (s_5 : Int32 × MS) => (
    if s_5.1 < 0 then (
      some (0, s_5.2)
    ) else (
      if (s_5.2.1 104) = 0 then (
        (G_X12_statement_ s_5.1 p1 s_5.2).bind fun u_14 =>
        if s_5.1 < 0 ∨ 40000 ≤ s_5.1.toNatClampNeg then none else
        bnd ((u_14.2.2 69 s_5.1.toNatClampNeg)) fun (x_18 : Int32) =>
        again_6 (x_18, u_14.2)
      ) else (
        some (0, s_5.2)
      )
    )
  )) FU (x_3, σ)
set_option maxHeartbeats 4000000 in
set_option maxRecDepth 100000 in
theorem m_X12_block_ (l : Launch) (dC : Nat → ClassId) (dI : Nat → Nat → Nat) (cB cC cI cJ cZ cP : ClassId) (h qK qS : Nat) (ad : Nat → Nat) (hDD : mDis cB cI cZ h qK qS ad) (sz : Nat)  (p0 : Int32) (p1 : Int32) (σ : MS) (res : Int32 × MS) (hF : F_X12_block_ p0 p1 σ = some res) : Met l yX12_block_ (g_ws yX12_block_ cX12_block_ 4 none) ({ frames := 1308, cells := 0, slots := 0, locals := 33993 }) (va_Pc [.ref h, .int p0, .int p1] (m_B (dC, dI) [(cB, .byte), (cC, .char), (cI, .int), (cJ, .long), (cZ, .boolean), (cP, .object "StoryHouse$Play")] sz h ad qK qS (mW cB cI cZ h qK qS ad σ) g_0)) (va_Qv (fun (_ : Unit) => True) (fun _ t => va_P (dC, dI) vwCl (mW cB cI cZ h qK qS ad res.2) t.heap) (mCells h ad sz)) 0 0 (mCells h ad sz) := by
  refine Met.ofW (cc := cX12_block_) (maxL := 4) (ret := none) (by decide) rfl ?_
  intro p e s m args below meth c s₁ B hml hv
  obtain ⟨rfl, hsz, hP, hK, hE, hKS, hX⟩ := hv
  have hx := B.exec
  have hb := B.bytes
  have hr := B.returns
  have hts0 := atoms_spec (ws := g_ws yX12_block_ cX12_block_ 4 none) B.pre
  have hts : ∀ w ∈ lw_good, w.before ([.ref h, .int p0, .int p1] : List Value).toArray s = true := fun w z => hts0 w (List.mem_cons_of_mem _ z)
  have hown : s.vm.findClass RX12 = some m.cls := findClass_of_methodNamed B.named
  have hlocks := B.notSynchronized
  have hS : va_S (mCells h ad sz) s.heap s.heap [] := va_S.rf
  have hl := lv_entry ([.ref h, .int p0, .int p1]) (n := 4) (Nat.le_of_ble_eq_true rfl)
  rw [lg_entry_eq]
  generalize (lg_sl ([.ref h, .int p0, .int p1]) ++ List.replicate (4 - (lg_sl ([.ref h, .int p0, .int p1])).length) Slot.unset).toArray = ls at hl ⊢
  have hl : lv_has ls 4 [(0, .ref h), (1, .int p0), (2, .int p1)] := hl
  unfold F_X12_block_ at hF
  refine lv_aload_n hx hb dX12_block__0 rfl (lv_at hl 0 rfl) ?_
  refine va_get (D := (dC, dI)) (ci := 12) (v := .ref (ad 66)) (C := RX12) (T := TX12) (N := 123) hx hb hts ii_X12 hown hK hP 0 rfl rfl 66 (by decide) (hts (.fieldLink RX12 143 "StoryHouseModel" "bA" "[I") wq_1422) (fun _ h9 => h9) rfl dX12_block__1 ?_
  refine lv_iload_n hx hb dX12_block__4 rfl (lv_at hl 1 rfl) ?_
  obtain ⟨g_1, hF_2⟩ := nif_e hF
  clear hF
  refine va_iald (f := σ.2 66) hx hb hK hP 39 2 rfl rfl g_1 dX12_block__5 ?_
  obtain ⟨x_3, ex_3, hF_4⟩ := bnd_e hF_2
  clear hF_2
  refine m_top ex_3 ?_
  refine lv_istore_n (lv' := [(3, .int x_3), (0, .ref h), (1, .int p0), (2, .int p1)]) hx hb dX12_block__6 rfl hl (by decide) rfl (fun ls hl => ?_)
  refine loopF_ind (P := fun (s_5 : Int32 × MS) => ∀ (H : Heap) (locs : List Loc), va_P (dC, dI) vwCl (mW cB cI cZ h qK qS ad s_5.2) H → va_S (mCells h ad sz) s.heap H locs → ∀ ls : Array Slot, lv_has ls 4 [(0, .ref h), (2, .int p1), (3, .int s_5.1)] → W p l e (headSpec (g_ws yX12_block_ cX12_block_ 4 none) { frames := 1308, cells := 0, slots := 0, locals := 33993 }).room s m ([.ref h, .int p0, .int p1] : List Value).toArray below meth c H locs 0 0 (MQ below (va_Qv (fun (_ : Unit) => True) (fun _ t => va_P (dC, dI) vwCl (mW cB cI cZ h qK qS ad res.2) t.heap) (mCells h ad sz)) ([.ref h, .int p0, .int p1] : List Value).toArray s 0 0 (mCells h ad sz)) (F0 m 7 ls [])) ?_ _ _ hF_4 _ _ hP hS ls (lv_sub hl [1, 3, 0] rfl)
  intro again_6 s_5 ih_7 hF_8
  intro H locs hP hS ls hl
  refine lv_iload_n hx hb dX12_block__7 rfl (lv_at hl 2 rfl) ?_
  refine lv_if_lt (tgt := 34) hx hb dX12_block__8 (by decide) (fun c_9 => ?_) (fun c_9 => ?_)
  · have hF_10 := ipos c_9 hF_8
    clear hF_8
    have h9 := Option.some.inj hF_10
    subst h9
    exact W.vret hx hb hr (fun t ht hW => ⟨⟨(), rfl, trivial, m_end ht hP⟩, hS.F ht⟩) hS.2.2 dX12_block__34
  · have hF_11 := ineg c_9 hF_8
    clear hF_8
    refine lv_aload_n hx hb dX12_block__11 rfl (lv_at hl 0 rfl) ?_
    refine va_get (D := (dC, dI)) (ci := 12) (v := .int (s_5.2.1 104)) (C := RX12) (T := TX12) (N := 123) hx hb hts ii_X12 hown hK hP 0 rfl rfl 104 (by decide) (hts (.fieldLink RX12 685 "StoryHouseModel" "stop" "I") wq_1460) (fun _ h9 => h9) rfl dX12_block__12 ?_
    refine lv_if_ne (tgt := 34) hx hb dX12_block__15 (by decide) (fun c_12 => ?_) (fun c_12 => ?_)
    · have hF_20 := ineg c_12 hF_11
      clear hF_11
      have h9 := Option.some.inj hF_20
      subst h9
      exact W.vret hx hb hr (fun t ht hW => ⟨⟨(), rfl, trivial, m_end ht hP⟩, hS.F ht⟩) hS.2.2 dX12_block__34
    · have hF_13 := ipos c_12 hF_11
      clear hF_11
      refine lv_aload_n hx hb dX12_block__18 rfl (lv_at hl 0 rfl) ?_
      refine lv_iload_n hx hb dX12_block__19 rfl (lv_at hl 2 rfl) ?_
      refine lv_iload_n hx hb dX12_block__20 rfl (lv_at hl 1 rfl) ?_
      obtain ⟨u_14, hu_14, hF_15⟩ := Option.bind_eq_some_iff.mp hF_13
      clear hF_13
      refine m_cv hsz hS (va_runV (As := [.int s_5.1, .int p1]) (rest := []) ⟨hx, hb, hml, hown, hts⟩ (m_X12_statement_ l dC dI cB cC cI cJ cZ cP h qK qS ad hDD H.size  s_5.1 p1 s_5.2 _ hu_14) (cwV 2 hts (g_gV wq_1813 wq_1814 wq_2212 wq_13 wq_1815) rfl rfl rfl (by decide +kernel) ⟨Nat.le_of_ble_eq_true rfl, Nat.le_of_ble_eq_true rfl⟩) (m_preV g_bl0 hsz hK hP hS hE hKS g_to0) rfl rfl hl.1 rfl (lv_room (Nat.le_of_ble_eq_true rfl)) dX12_block__21 ⟨Nat.le_of_ble_eq_true rfl, Nat.le_of_ble_eq_true rfl⟩) (fun H locs hP hS => ?_)
      refine lv_aload_n hx hb dX12_block__24 rfl (lv_at hl 0 rfl) ?_
      refine va_get (D := (dC, dI)) (ci := 12) (v := .ref (ad 69)) (C := RX12) (T := TX12) (N := 123) hx hb hts ii_X12 hown hK hP 0 rfl rfl 69 (by decide) (hts (.fieldLink RX12 152 "StoryHouseModel" "bThen" "[I") wq_1425) (fun _ h9 => h9) rfl dX12_block__25 ?_
      refine lv_iload_n hx hb dX12_block__28 rfl (lv_at hl 2 rfl) ?_
      obtain ⟨g_16, hF_17⟩ := nif_e hF_15
      clear hF_15
      refine va_iald (f := u_14.2.2 69) hx hb hK hP 42 2 rfl rfl g_16 dX12_block__29 ?_
      obtain ⟨x_18, ex_18, hF_19⟩ := bnd_e hF_17
      clear hF_17
      refine m_top ex_18 ?_
      refine lv_istore_n (lv' := [(3, .int x_18), (0, .ref h), (2, .int p1)]) hx hb dX12_block__30 rfl hl (by decide) rfl (fun ls hl => ?_)
      refine lv_goto (tgt := 7) hx hb dX12_block__31 (by decide) ?_
      exact ih_7 (x_18, u_14.2) hF_19 _ _ hP hS ls (lv_sub hl [1, 2, 0] rfl)
theorem dX12_has_0 : decode cX12_has 0 = .ok (.aload_n 0, 1) := by decide +kernel
theorem dX12_has_1 : decode cX12_has 1 = .ok (.getfield 191, 3) := by decide +kernel
theorem dX12_has_4 : decode cX12_has 4 = .ok (.bipush 7, 2) := by decide +kernel
theorem dX12_has_6 : decode cX12_has 6 = .ok (.iload_n 1, 1) := by decide +kernel
theorem dX12_has_7 : decode cX12_has 7 = .ok (.imul, 1) := by decide +kernel
theorem dX12_has_8 : decode cX12_has 8 = .ok (.iload_n 2, 1) := by decide +kernel
theorem dX12_has_9 : decode cX12_has 9 = .ok (.iadd, 1) := by decide +kernel
theorem dX12_has_10 : decode cX12_has 10 = .ok (.baload, 1) := by decide +kernel
theorem dX12_has_11 : decode cX12_has 11 = .ok (.ireturn, 1) := by decide +kernel
def F_X12_has (p0 : Int32) (p1 : Int32) (p2 : Int32) (σ : MS) : MR :=
  bnd (((7 * p0) + p1)) fun (x_1 : Int32) =>
  if x_1 < 0 ∨ 847 ≤ x_1.toNatClampNeg then none else
  bnd ((σ.2 90 x_1.toNatClampNeg)) fun (x_5 : Int32) =>
  if ¬ (x_5 = 0 ∨ x_5 = 1) then none else
  some (x_5, σ)
set_option maxHeartbeats 4000000 in
set_option maxRecDepth 100000 in
theorem m_X12_has (l : Launch) (dC : Nat → ClassId) (dI : Nat → Nat → Nat) (cB cC cI cJ cZ cP : ClassId) (h qK qS : Nat) (ad : Nat → Nat) (hDD : mDis cB cI cZ h qK qS ad) (sz : Nat)  (p0 : Int32) (p1 : Int32) (p2 : Int32) (σ : MS) (res : Int32 × MS) (hF : F_X12_has p0 p1 p2 σ = some res) : Met l yX12_has (g_ws yX12_has cX12_has 4 (some .boolean)) ({ frames := 1, cells := 0, slots := 0, locals := 40 }) (va_Pc [.ref h, .int p0, .int p1, .int p2] (m_B (dC, dI) [(cB, .byte), (cC, .char), (cI, .int), (cJ, .long), (cZ, .boolean), (cP, .object "StoryHouse$Play")] sz h ad qK qS (mW cB cI cZ h qK qS ad σ) g_0)) (va_Qi (fun r (_ : Unit) => r = res.1) (fun _ t => va_P (dC, dI) vwCl (mW cB cI cZ h qK qS ad res.2) t.heap) (mCells h ad sz)) 0 0 (mCells h ad sz) := by
  refine Met.ofW (cc := cX12_has) (maxL := 4) (ret := (some .boolean)) (by decide) rfl ?_
  intro p e s m args below meth c s₁ B hml hv
  obtain ⟨rfl, hsz, hP, hK, hE, hKS, hX⟩ := hv
  have hx := B.exec
  have hb := B.bytes
  have hr := B.returns
  have hts0 := atoms_spec (ws := g_ws yX12_has cX12_has 4 (some .boolean)) B.pre
  have hts : ∀ w ∈ lw_good, w.before ([.ref h, .int p0, .int p1, .int p2] : List Value).toArray s = true := fun w z => hts0 w (List.mem_cons_of_mem _ z)
  have hown : s.vm.findClass RX12 = some m.cls := findClass_of_methodNamed B.named
  have hlocks := B.notSynchronized
  have hS : va_S (mCells h ad sz) s.heap s.heap [] := va_S.rf
  have hl := lv_entry ([.ref h, .int p0, .int p1, .int p2]) (n := 4) (Nat.le_of_ble_eq_true rfl)
  rw [lg_entry_eq]
  generalize (lg_sl ([.ref h, .int p0, .int p1, .int p2]) ++ List.replicate (4 - (lg_sl ([.ref h, .int p0, .int p1, .int p2])).length) Slot.unset).toArray = ls at hl ⊢
  have hl : lv_has ls 4 [(0, .ref h), (1, .int p0), (2, .int p1), (3, .int p2)] := hl
  unfold F_X12_has at hF
  refine lv_aload_n hx hb dX12_has_0 rfl (lv_at hl 0 rfl) ?_
  refine va_get (D := (dC, dI)) (ci := 12) (v := .ref (ad 90)) (C := RX12) (T := TX12) (N := 123) hx hb hts ii_X12 hown hK hP 0 rfl rfl 90 (by decide) (hts (.fieldLink RX12 191 "StoryHouseModel" "has" "[Z") wq_1446) (fun _ h9 => h9) rfl dX12_has_1 ?_
  refine lv_bipush (v := 7) hx hb dX12_has_4 (by decide +kernel) ?_
  refine lv_iload_n hx hb dX12_has_6 rfl (lv_at hl 1 rfl) ?_
  refine lv_imul hx hb dX12_has_7 ?_
  refine lv_iload_n hx hb dX12_has_8 rfl (lv_at hl 2 rfl) ?_
  refine lv_iadd hx hb dX12_has_9 ?_
  obtain ⟨x_1, ex_1, hF_2⟩ := bnd_e hF
  clear hF
  refine m_top ex_1 ?_
  obtain ⟨g_3, hF_4⟩ := nif_e hF_2
  clear hF_2
  refine va_zald (f := σ.2 90) hx hb hK hP 55 4 rfl rfl g_3 dX12_has_10 ?_
  obtain ⟨x_5, ex_5, hF_6⟩ := bnd_e hF_4
  clear hF_4
  refine m_top ex_5 ?_
  obtain ⟨g_8, hF_7⟩ := nif_e hF_6
  clear hF_6
  have h9 := Option.some.inj hF_7
  subst h9
  exact W.zret (v := x_5) hx hb hr (m_bool (Classical.not_not.mp g_8)).1 (fun t ht hW => ⟨⟨x_5, (), rfl, rfl, m_end ht hP⟩, hS.F ht⟩) hS.2.2 dX12_has_11
theorem dX12_lets_0 : decode cX12_lets 0 = .ok (.aload_n 0, 1) := by decide +kernel
theorem dX12_lets_1 : decode cX12_lets 1 = .ok (.iload_n 1, 1) := by decide +kernel
theorem dX12_lets_2 : decode cX12_lets 2 = .ok (.iconst 5, 1) := by decide +kernel
theorem dX12_lets_3 : decode cX12_lets 3 = .ok (.iconst 1, 1) := by decide +kernel
theorem dX12_lets_4 : decode cX12_lets 4 = .ok (.invokevirtual 896, 3) := by decide +kernel
theorem dX12_lets_7 : decode cX12_lets 7 = .ok (.ifCond .ne 23, 3) := by decide +kernel
theorem dX12_lets_10 : decode cX12_lets 10 = .ok (.aload_n 0, 1) := by decide +kernel
theorem dX12_lets_11 : decode cX12_lets 11 = .ok (.iload_n 1, 1) := by decide +kernel
theorem dX12_lets_12 : decode cX12_lets 12 = .ok (.iconst 0, 1) := by decide +kernel
theorem dX12_lets_13 : decode cX12_lets 13 = .ok (.iconst 1, 1) := by decide +kernel
theorem dX12_lets_14 : decode cX12_lets 14 = .ok (.invokevirtual 896, 3) := by decide +kernel
theorem dX12_lets_17 : decode cX12_lets 17 = .ok (.ifCond .eq 17, 3) := by decide +kernel
theorem dX12_lets_20 : decode cX12_lets 20 = .ok (.aload_n 0, 1) := by decide +kernel
theorem dX12_lets_21 : decode cX12_lets 21 = .ok (.iload_n 1, 1) := by decide +kernel
theorem dX12_lets_22 : decode cX12_lets 22 = .ok (.iconst 4, 1) := by decide +kernel
theorem dX12_lets_23 : decode cX12_lets 23 = .ok (.iconst 1, 1) := by decide +kernel
theorem dX12_lets_24 : decode cX12_lets 24 = .ok (.invokevirtual 896, 3) := by decide +kernel
theorem dX12_lets_27 : decode cX12_lets 27 = .ok (.ifCond .eq 7, 3) := by decide +kernel
theorem dX12_lets_30 : decode cX12_lets 30 = .ok (.iconst 1, 1) := by decide +kernel
theorem dX12_lets_31 : decode cX12_lets 31 = .ok (.goto 4, 3) := by decide +kernel
theorem dX12_lets_34 : decode cX12_lets 34 = .ok (.iconst 0, 1) := by decide +kernel
theorem dX12_lets_35 : decode cX12_lets 35 = .ok (.ireturn, 1) := by decide +kernel
def F_X12_lets (p0 : Int32) (σ : MS) : MR :=
  (F_X12_has p0 5 1 σ).bind fun u_1 =>
  if u_1.1 = 0 then (
    (F_X12_has p0 0 1 u_1.2).bind fun u_5 =>
    if u_5.1 = 0 then (
      some (0, u_5.2)
    ) else (
      (F_X12_has p0 4 1 u_5.2).bind fun u_10 =>
      if u_10.1 = 0 then (
        some (0, u_10.2)
      ) else (
        some (1, u_10.2)
      )
    )
  ) else (
    some (1, u_1.2)
  )
set_option maxHeartbeats 4000000 in
set_option maxRecDepth 100000 in
theorem m_X12_lets (l : Launch) (dC : Nat → ClassId) (dI : Nat → Nat → Nat) (cB cC cI cJ cZ cP : ClassId) (h qK qS : Nat) (ad : Nat → Nat) (hDD : mDis cB cI cZ h qK qS ad) (sz : Nat)  (p0 : Int32) (σ : MS) (res : Int32 × MS) (hF : F_X12_lets p0 σ = some res) : Met l yX12_lets (g_ws yX12_lets cX12_lets 2 (some .boolean)) ({ frames := 2, cells := 0, slots := 0, locals := 63 }) (va_Pc [.ref h, .int p0] (m_B (dC, dI) [(cB, .byte), (cC, .char), (cI, .int), (cJ, .long), (cZ, .boolean), (cP, .object "StoryHouse$Play")] sz h ad qK qS (mW cB cI cZ h qK qS ad σ) g_0)) (va_Qi (fun r (_ : Unit) => r = res.1) (fun _ t => va_P (dC, dI) vwCl (mW cB cI cZ h qK qS ad res.2) t.heap) (mCells h ad sz)) 0 0 (mCells h ad sz) := by
  refine Met.ofW (cc := cX12_lets) (maxL := 2) (ret := (some .boolean)) (by decide) rfl ?_
  intro p e s m args below meth c s₁ B hml hv
  obtain ⟨rfl, hsz, hP, hK, hE, hKS, hX⟩ := hv
  have hx := B.exec
  have hb := B.bytes
  have hr := B.returns
  have hts0 := atoms_spec (ws := g_ws yX12_lets cX12_lets 2 (some .boolean)) B.pre
  have hts : ∀ w ∈ lw_good, w.before ([.ref h, .int p0] : List Value).toArray s = true := fun w z => hts0 w (List.mem_cons_of_mem _ z)
  have hown : s.vm.findClass RX12 = some m.cls := findClass_of_methodNamed B.named
  have hlocks := B.notSynchronized
  have hS : va_S (mCells h ad sz) s.heap s.heap [] := va_S.rf
  have hl := lv_entry ([.ref h, .int p0]) (n := 2) (Nat.le_of_ble_eq_true rfl)
  rw [lg_entry_eq]
  generalize (lg_sl ([.ref h, .int p0]) ++ List.replicate (2 - (lg_sl ([.ref h, .int p0])).length) Slot.unset).toArray = ls at hl ⊢
  have hl : lv_has ls 2 [(0, .ref h), (1, .int p0)] := hl
  unfold F_X12_lets at hF
  refine lv_aload_n hx hb dX12_lets_0 rfl (lv_at hl 0 rfl) ?_
  refine lv_iload_n hx hb dX12_lets_1 rfl (lv_at hl 1 rfl) ?_
  refine lv_iconst (v := 5) hx hb dX12_lets_2 (by decide +kernel) ?_
  refine lv_iconst (v := 1) hx hb dX12_lets_3 (by decide +kernel) ?_
  obtain ⟨u_1, hu_1, hF_2⟩ := Option.bind_eq_some_iff.mp hF
  clear hF
  refine m_ci hsz hS (va_runV (As := [.int p0, .int 5, .int 1]) (rest := []) ⟨hx, hb, hml, hown, hts⟩ (m_X12_has l dC dI cB cC cI cJ cZ cP h qK qS ad hDD s.heap.size  p0 5 1 σ _ hu_1) (cwV 3 hts (g_gV wq_1758 wq_1759 wq_2195 wq_13 wq_1760) rfl rfl rfl (by decide +kernel) ⟨Nat.le_of_ble_eq_true rfl, Nat.le_of_ble_eq_true rfl⟩) (m_preV g_bl0 hsz hK hP hS hE hKS g_to0) rfl rfl hl.1 rfl (lv_room (Nat.le_of_ble_eq_true rfl)) dX12_lets_4 ⟨Nat.le_of_ble_eq_true rfl, Nat.le_of_ble_eq_true rfl⟩) (fun H locs hP hS => ?_)
  refine lv_if_ne (tgt := 30) hx hb dX12_lets_7 (by decide) (fun c_3 => ?_) (fun c_3 => ?_)
  · have hF_15 := ineg c_3 hF_2
    clear hF_2
    refine lv_iconst (v := 1) hx hb dX12_lets_30 (by decide +kernel) ?_
    refine lv_goto (tgt := 35) hx hb dX12_lets_31 (by decide) ?_
    have h9 := Option.some.inj hF_15
    subst h9
    exact W.zret (v := 1) hx hb hr (by decide +kernel) (fun t ht hW => ⟨⟨1, (), rfl, rfl, m_end ht hP⟩, hS.F ht⟩) hS.2.2 dX12_lets_35
  · have hF_4 := ipos c_3 hF_2
    clear hF_2
    refine lv_aload_n hx hb dX12_lets_10 rfl (lv_at hl 0 rfl) ?_
    refine lv_iload_n hx hb dX12_lets_11 rfl (lv_at hl 1 rfl) ?_
    refine lv_iconst (v := 0) hx hb dX12_lets_12 (by decide +kernel) ?_
    refine lv_iconst (v := 1) hx hb dX12_lets_13 (by decide +kernel) ?_
    obtain ⟨u_5, hu_5, hF_6⟩ := Option.bind_eq_some_iff.mp hF_4
    clear hF_4
    refine m_ci hsz hS (va_runV (As := [.int p0, .int 0, .int 1]) (rest := []) ⟨hx, hb, hml, hown, hts⟩ (m_X12_has l dC dI cB cC cI cJ cZ cP h qK qS ad hDD H.size  p0 0 1 u_1.2 _ hu_5) (cwV 3 hts (g_gV wq_1758 wq_1759 wq_2195 wq_13 wq_1760) rfl rfl rfl (by decide +kernel) ⟨Nat.le_of_ble_eq_true rfl, Nat.le_of_ble_eq_true rfl⟩) (m_preV g_bl0 hsz hK hP hS hE hKS g_to0) rfl rfl hl.1 rfl (lv_room (Nat.le_of_ble_eq_true rfl)) dX12_lets_14 ⟨Nat.le_of_ble_eq_true rfl, Nat.le_of_ble_eq_true rfl⟩) (fun H locs hP hS => ?_)
    refine lv_if_eq (tgt := 34) hx hb dX12_lets_17 (by decide) (fun c_7 => ?_) (fun c_7 => ?_)
    · have hF_8 := ipos c_7 hF_6
      clear hF_6
      refine lv_iconst (v := 0) hx hb dX12_lets_34 (by decide +kernel) ?_
      have h9 := Option.some.inj hF_8
      subst h9
      exact W.zret (v := 0) hx hb hr (by decide +kernel) (fun t ht hW => ⟨⟨0, (), rfl, rfl, m_end ht hP⟩, hS.F ht⟩) hS.2.2 dX12_lets_35
    · have hF_9 := ineg c_7 hF_6
      clear hF_6
      refine lv_aload_n hx hb dX12_lets_20 rfl (lv_at hl 0 rfl) ?_
      refine lv_iload_n hx hb dX12_lets_21 rfl (lv_at hl 1 rfl) ?_
      refine lv_iconst (v := 4) hx hb dX12_lets_22 (by decide +kernel) ?_
      refine lv_iconst (v := 1) hx hb dX12_lets_23 (by decide +kernel) ?_
      obtain ⟨u_10, hu_10, hF_11⟩ := Option.bind_eq_some_iff.mp hF_9
      clear hF_9
      refine m_ci hsz hS (va_runV (As := [.int p0, .int 4, .int 1]) (rest := []) ⟨hx, hb, hml, hown, hts⟩ (m_X12_has l dC dI cB cC cI cJ cZ cP h qK qS ad hDD H.size  p0 4 1 u_5.2 _ hu_10) (cwV 3 hts (g_gV wq_1758 wq_1759 wq_2195 wq_13 wq_1760) rfl rfl rfl (by decide +kernel) ⟨Nat.le_of_ble_eq_true rfl, Nat.le_of_ble_eq_true rfl⟩) (m_preV g_bl0 hsz hK hP hS hE hKS g_to0) rfl rfl hl.1 rfl (lv_room (Nat.le_of_ble_eq_true rfl)) dX12_lets_24 ⟨Nat.le_of_ble_eq_true rfl, Nat.le_of_ble_eq_true rfl⟩) (fun H locs hP hS => ?_)
      refine lv_if_eq (tgt := 34) hx hb dX12_lets_27 (by decide) (fun c_12 => ?_) (fun c_12 => ?_)
      · have hF_13 := ipos c_12 hF_11
        clear hF_11
        refine lv_iconst (v := 0) hx hb dX12_lets_34 (by decide +kernel) ?_
        have h9 := Option.some.inj hF_13
        subst h9
        exact W.zret (v := 0) hx hb hr (by decide +kernel) (fun t ht hW => ⟨⟨0, (), rfl, rfl, m_end ht hP⟩, hS.F ht⟩) hS.2.2 dX12_lets_35
      · have hF_14 := ineg c_12 hF_11
        clear hF_11
        refine lv_iconst (v := 1) hx hb dX12_lets_30 (by decide +kernel) ?_
        refine lv_goto (tgt := 35) hx hb dX12_lets_31 (by decide) ?_
        have h9 := Option.some.inj hF_14
        subst h9
        exact W.zret (v := 1) hx hb hr (by decide +kernel) (fun t ht hW => ⟨⟨1, (), rfl, rfl, m_end ht hP⟩, hS.F ht⟩) hS.2.2 dX12_lets_35
theorem dX12_isSeen_0 : decode cX12_isSeen 0 = .ok (.aload_n 0, 1) := by decide +kernel
theorem dX12_isSeen_1 : decode cX12_isSeen 1 = .ok (.iload_n 1, 1) := by decide +kernel
theorem dX12_isSeen_2 : decode cX12_isSeen 2 = .ok (.iconst 2, 1) := by decide +kernel
theorem dX12_isSeen_3 : decode cX12_isSeen 3 = .ok (.iconst 1, 1) := by decide +kernel
theorem dX12_isSeen_4 : decode cX12_isSeen 4 = .ok (.invokevirtual 896, 3) := by decide +kernel
theorem dX12_isSeen_7 : decode cX12_isSeen 7 = .ok (.ifCond .ne 12, 3) := by decide +kernel
theorem dX12_isSeen_10 : decode cX12_isSeen 10 = .ok (.aload_n 0, 1) := by decide +kernel
theorem dX12_isSeen_11 : decode cX12_isSeen 11 = .ok (.getfield 97, 3) := by decide +kernel
theorem dX12_isSeen_14 : decode cX12_isSeen 14 = .ok (.iload_n 1, 1) := by decide +kernel
theorem dX12_isSeen_15 : decode cX12_isSeen 15 = .ok (.baload, 1) := by decide +kernel
theorem dX12_isSeen_16 : decode cX12_isSeen 16 = .ok (.ifCond .eq 5, 3) := by decide +kernel
theorem dX12_isSeen_19 : decode cX12_isSeen 19 = .ok (.iconst 0, 1) := by decide +kernel
theorem dX12_isSeen_20 : decode cX12_isSeen 20 = .ok (.ireturn, 1) := by decide +kernel
theorem dX12_isSeen_21 : decode cX12_isSeen 21 = .ok (.aload_n 0, 1) := by decide +kernel
theorem dX12_isSeen_22 : decode cX12_isSeen 22 = .ok (.getfield 182, 3) := by decide +kernel
theorem dX12_isSeen_25 : decode cX12_isSeen 25 = .ok (.iload_n 1, 1) := by decide +kernel
theorem dX12_isSeen_26 : decode cX12_isSeen 26 = .ok (.iaload, 1) := by decide +kernel
theorem dX12_isSeen_27 : decode cX12_isSeen 27 = .ok (.istore_n 2, 1) := by decide +kernel
theorem dX12_isSeen_28 : decode cX12_isSeen 28 = .ok (.iload_n 2, 1) := by decide +kernel
theorem dX12_isSeen_29 : decode cX12_isSeen 29 = .ok (.ifCond .ne 5, 3) := by decide +kernel
theorem dX12_isSeen_32 : decode cX12_isSeen 32 = .ok (.iconst 0, 1) := by decide +kernel
theorem dX12_isSeen_33 : decode cX12_isSeen 33 = .ok (.ireturn, 1) := by decide +kernel
theorem dX12_isSeen_34 : decode cX12_isSeen 34 = .ok (.iload_n 2, 1) := by decide +kernel
theorem dX12_isSeen_35 : decode cX12_isSeen 35 = .ok (.iconst 1, 1) := by decide +kernel
theorem dX12_isSeen_36 : decode cX12_isSeen 36 = .ok (.if_icmp .eq 38, 3) := by decide +kernel
theorem dX12_isSeen_39 : decode cX12_isSeen 39 = .ok (.iload_n 2, 1) := by decide +kernel
theorem dX12_isSeen_40 : decode cX12_isSeen 40 = .ok (.aload_n 0, 1) := by decide +kernel
theorem dX12_isSeen_41 : decode cX12_isSeen 41 = .ok (.getfield 182, 3) := by decide +kernel
theorem dX12_isSeen_44 : decode cX12_isSeen 44 = .ok (.iconst 1, 1) := by decide +kernel
theorem dX12_isSeen_45 : decode cX12_isSeen 45 = .ok (.iaload, 1) := by decide +kernel
theorem dX12_isSeen_46 : decode cX12_isSeen 46 = .ok (.if_icmp .eq 28, 3) := by decide +kernel
theorem dX12_isSeen_49 : decode cX12_isSeen 49 = .ok (.aload_n 0, 1) := by decide +kernel
theorem dX12_isSeen_50 : decode cX12_isSeen 50 = .ok (.getfield 97, 3) := by decide +kernel
theorem dX12_isSeen_53 : decode cX12_isSeen 53 = .ok (.iload_n 2, 1) := by decide +kernel
theorem dX12_isSeen_54 : decode cX12_isSeen 54 = .ok (.baload, 1) := by decide +kernel
theorem dX12_isSeen_55 : decode cX12_isSeen 55 = .ok (.ifCond .ne 23, 3) := by decide +kernel
theorem dX12_isSeen_58 : decode cX12_isSeen 58 = .ok (.aload_n 0, 1) := by decide +kernel
theorem dX12_isSeen_59 : decode cX12_isSeen 59 = .ok (.iload_n 2, 1) := by decide +kernel
theorem dX12_isSeen_60 : decode cX12_isSeen 60 = .ok (.invokevirtual 899, 3) := by decide +kernel
theorem dX12_isSeen_63 : decode cX12_isSeen 63 = .ok (.ifCond .eq 15, 3) := by decide +kernel
theorem dX12_isSeen_66 : decode cX12_isSeen 66 = .ok (.aload_n 0, 1) := by decide +kernel
theorem dX12_isSeen_67 : decode cX12_isSeen 67 = .ok (.iload_n 2, 1) := by decide +kernel
theorem dX12_isSeen_68 : decode cX12_isSeen 68 = .ok (.invokevirtual 902, 3) := by decide +kernel
theorem dX12_isSeen_71 : decode cX12_isSeen 71 = .ok (.ifCond .eq 7, 3) := by decide +kernel
theorem dX12_isSeen_74 : decode cX12_isSeen 74 = .ok (.iconst 1, 1) := by decide +kernel
theorem dX12_isSeen_75 : decode cX12_isSeen 75 = .ok (.goto 4, 3) := by decide +kernel
theorem dX12_isSeen_78 : decode cX12_isSeen 78 = .ok (.iconst 0, 1) := by decide +kernel
theorem dX12_isSeen_79 : decode cX12_isSeen 79 = .ok (.ireturn, 1) := by decide +kernel
def F_X12_isSeen (rec : GF) (p0 : Int32) (σ : MS) : MR :=
  (F_X12_has p0 2 1 σ).bind fun u_1 =>
  if u_1.1 = 0 then (
    if p0 < 0 ∨ 121 ≤ p0.toNatClampNeg then none else
    if (u_1.2.2 50 p0.toNatClampNeg) = 0 then (
      if p0 < 0 ∨ 121 ≤ p0.toNatClampNeg then none else
      bnd ((u_1.2.2 87 p0.toNatClampNeg)) fun (x_11 : Int32) =>
      if x_11 = 0 then (
        some (0, u_1.2)
      ) else (
        if x_11 = 1 then (
          some (1, u_1.2)
        ) else (
          if x_11 = (u_1.2.2 87 (1 : Int32).toNatClampNeg) then (
            some (1, u_1.2)
          ) else (
            if x_11 < 0 ∨ 121 ≤ x_11.toNatClampNeg then none else
            if (u_1.2.2 50 x_11.toNatClampNeg) = 0 then (
              (rec 0 x_11 0 0 u_1.2).bind fun u_26 =>
              if u_26.1 = 0 then (
                some (0, u_26.2)
              ) else (
                (F_X12_lets x_11 u_26.2).bind fun u_31 =>
                if u_31.1 = 0 then (
                  some (0, u_31.2)
                ) else (
                  some (1, u_31.2)
                )
              )
            ) else (
              some (0, u_1.2)
            )
          )
        )
      )
    ) else (
      some (0, u_1.2)
    )
  ) else (
    some (0, u_1.2)
  )
set_option maxHeartbeats 4000000 in
set_option maxRecDepth 100000 in
theorem m_X12_isSeen_st (l : Launch) (dC : Nat → ClassId) (dI : Nat → Nat → Nat) (cB cC cI cJ cZ cP : ClassId) (h qK qS : Nat) (ad : Nat → Nat) (hDD : mDis cB cI cZ h qK qS ad) (d : Nat) (rec : GF) (hI0 : ∀ (sz : Nat) (p0 : Int32) (σ : MS) (res : Int32 × MS), rec 0 p0 0 0 σ = some res → Met l yX12_isSeen (g_ws yX12_isSeen cX12_isSeen 3 (some .boolean)) ({ frames := 3 + d, cells := 0, slots := 0, locals := 84 + 22 * d }) (va_Pc [.ref h, .int p0] (m_B (dC, dI) [(cB, .byte), (cC, .char), (cI, .int), (cJ, .long), (cZ, .boolean), (cP, .object "StoryHouse$Play")] sz h ad qK qS (mW cB cI cZ h qK qS ad σ) g_0)) (va_Qi (fun r (_ : Unit) => r = res.1) (fun _ t => va_P (dC, dI) vwCl (mW cB cI cZ h qK qS ad res.2) t.heap) (mCells h ad sz)) 0 0 (mCells h ad sz)) (sz : Nat)  (p0 : Int32) (σ : MS) (res : Int32 × MS) (hF : F_X12_isSeen rec p0 σ = some res) : Met l yX12_isSeen (g_ws yX12_isSeen cX12_isSeen 3 (some .boolean)) ({ frames := 3 + (d + 1), cells := 0, slots := 0, locals := 84 + 22 * (d + 1) }) (va_Pc [.ref h, .int p0] (m_B (dC, dI) [(cB, .byte), (cC, .char), (cI, .int), (cJ, .long), (cZ, .boolean), (cP, .object "StoryHouse$Play")] sz h ad qK qS (mW cB cI cZ h qK qS ad σ) g_0)) (va_Qi (fun r (_ : Unit) => r = res.1) (fun _ t => va_P (dC, dI) vwCl (mW cB cI cZ h qK qS ad res.2) t.heap) (mCells h ad sz)) 0 0 (mCells h ad sz) := by
  refine Met.ofW (cc := cX12_isSeen) (maxL := 3) (ret := (some .boolean)) (by decide) rfl ?_
  intro p e s m args below meth c s₁ B hml hv
  obtain ⟨rfl, hsz, hP, hK, hE, hKS, hX⟩ := hv
  have hx := B.exec
  have hb := B.bytes
  have hr := B.returns
  have hts0 := atoms_spec (ws := g_ws yX12_isSeen cX12_isSeen 3 (some .boolean)) B.pre
  have hts : ∀ w ∈ lw_good, w.before ([.ref h, .int p0] : List Value).toArray s = true := fun w z => hts0 w (List.mem_cons_of_mem _ z)
  have hown : s.vm.findClass RX12 = some m.cls := findClass_of_methodNamed B.named
  have hlocks := B.notSynchronized
  have hS : va_S (mCells h ad sz) s.heap s.heap [] := va_S.rf
  have hl := lv_entry ([.ref h, .int p0]) (n := 3) (Nat.le_of_ble_eq_true rfl)
  rw [lg_entry_eq]
  generalize (lg_sl ([.ref h, .int p0]) ++ List.replicate (3 - (lg_sl ([.ref h, .int p0])).length) Slot.unset).toArray = ls at hl ⊢
  have hl : lv_has ls 3 [(0, .ref h), (1, .int p0)] := hl
  unfold F_X12_isSeen at hF
  refine lv_aload_n hx hb dX12_isSeen_0 rfl (lv_at hl 0 rfl) ?_
  refine lv_iload_n hx hb dX12_isSeen_1 rfl (lv_at hl 1 rfl) ?_
  refine lv_iconst (v := 2) hx hb dX12_isSeen_2 (by decide +kernel) ?_
  refine lv_iconst (v := 1) hx hb dX12_isSeen_3 (by decide +kernel) ?_
  obtain ⟨u_1, hu_1, hF_2⟩ := Option.bind_eq_some_iff.mp hF
  clear hF
  refine m_ci hsz hS (va_runV (As := [.int p0, .int 2, .int 1]) (rest := []) ⟨hx, hb, hml, hown, hts⟩ (m_X12_has l dC dI cB cC cI cJ cZ cP h qK qS ad hDD s.heap.size  p0 2 1 σ _ hu_1) (cwV 3 hts (g_gV wq_1758 wq_1759 wq_2195 wq_13 wq_1760) rfl rfl rfl (by decide +kernel) ⟨by show 1 + 1 ≤ 3 + (d + 1); omega, by show 8 + (4 + 11) + 40 ≤ 84 + 22 * (d + 1); omega⟩) (m_preV g_bl0 hsz hK hP hS hE hKS g_to0) rfl rfl hl.1 rfl (lv_room (Nat.le_of_ble_eq_true rfl)) dX12_isSeen_4 ⟨Nat.le_of_ble_eq_true rfl, Nat.le_of_ble_eq_true rfl⟩) (fun H locs hP hS => ?_)
  refine lv_if_ne (tgt := 19) hx hb dX12_isSeen_7 (by decide) (fun c_3 => ?_) (fun c_3 => ?_)
  · have hF_38 := ineg c_3 hF_2
    clear hF_2
    refine lv_iconst (v := 0) hx hb dX12_isSeen_19 (by decide +kernel) ?_
    have h9 := Option.some.inj hF_38
    subst h9
    exact W.zret (v := 0) hx hb hr (by decide +kernel) (fun t ht hW => ⟨⟨0, (), rfl, rfl, m_end ht hP⟩, hS.F ht⟩) hS.2.2 dX12_isSeen_20
  · have hF_4 := ipos c_3 hF_2
    clear hF_2
    refine lv_aload_n hx hb dX12_isSeen_10 rfl (lv_at hl 0 rfl) ?_
    refine va_get (D := (dC, dI)) (ci := 12) (v := .ref (ad 50)) (C := RX12) (T := TX12) (N := 123) hx hb hts ii_X12 hown hK hP 0 rfl rfl 50 (by decide) (hts (.fieldLink RX12 97 "StoryHouseModel" "isRoom" "[Z") wq_1406) (fun _ h9 => h9) rfl dX12_isSeen_11 ?_
    refine lv_iload_n hx hb dX12_isSeen_14 rfl (lv_at hl 1 rfl) ?_
    obtain ⟨g_5, hF_6⟩ := nif_e hF_4
    clear hF_4
    refine va_zald (f := u_1.2.2 50) hx hb hK hP 24 4 rfl rfl g_5 dX12_isSeen_15 ?_
    refine lv_if_eq (tgt := 21) hx hb dX12_isSeen_16 (by decide) (fun c_7 => ?_) (fun c_7 => ?_)
    · have hF_8 := ipos c_7 hF_6
      clear hF_6
      refine lv_aload_n hx hb dX12_isSeen_21 rfl (lv_at hl 0 rfl) ?_
      refine va_get (D := (dC, dI)) (ci := 12) (v := .ref (ad 87)) (C := RX12) (T := TX12) (N := 123) hx hb hts ii_X12 hown hK hP 0 rfl rfl 87 (by decide) (hts (.fieldLink RX12 182 "StoryHouseModel" "holder" "[I") wq_1443) (fun _ h9 => h9) rfl dX12_isSeen_22 ?_
      refine lv_iload_n hx hb dX12_isSeen_25 rfl (lv_at hl 1 rfl) ?_
      obtain ⟨g_9, hF_10⟩ := nif_e hF_8
      clear hF_8
      refine va_iald (f := u_1.2.2 87) hx hb hK hP 52 2 rfl rfl g_9 dX12_isSeen_26 ?_
      obtain ⟨x_11, ex_11, hF_12⟩ := bnd_e hF_10
      clear hF_10
      refine m_top ex_11 ?_
      refine lv_istore_n (lv' := [(2, .int x_11), (0, .ref h), (1, .int p0)]) hx hb dX12_isSeen_27 rfl hl (by decide) rfl (fun ls hl => ?_)
      refine lv_iload_n hx hb dX12_isSeen_28 rfl (lv_at hl 0 rfl) ?_
      refine lv_if_ne (tgt := 34) hx hb dX12_isSeen_29 (by decide) (fun c_13 => ?_) (fun c_13 => ?_)
      · have hF_15 := ineg c_13 hF_12
        clear hF_12
        refine lv_iload_n hx hb dX12_isSeen_34 rfl (lv_at hl 0 rfl) ?_
        refine lv_iconst (v := 1) hx hb dX12_isSeen_35 (by decide +kernel) ?_
        refine lv_icmp_eq (tgt := 74) hx hb dX12_isSeen_36 (by decide) (fun c_16 => ?_) (fun c_16 => ?_)
        · have hF_17 := ipos c_16 hF_15
          clear hF_15
          refine lv_iconst (v := 1) hx hb dX12_isSeen_74 (by decide +kernel) ?_
          refine lv_goto (tgt := 79) hx hb dX12_isSeen_75 (by decide) ?_
          have h9 := Option.some.inj hF_17
          subst h9
          exact W.zret (v := 1) hx hb hr (by decide +kernel) (fun t ht hW => ⟨⟨1, (), rfl, rfl, m_end ht hP⟩, hS.F ht⟩) hS.2.2 dX12_isSeen_79
        · have hF_18 := ineg c_16 hF_15
          clear hF_15
          refine lv_iload_n hx hb dX12_isSeen_39 rfl (lv_at hl 0 rfl) ?_
          refine lv_aload_n hx hb dX12_isSeen_40 rfl (lv_at hl 1 rfl) ?_
          refine va_get (D := (dC, dI)) (ci := 12) (v := .ref (ad 87)) (C := RX12) (T := TX12) (N := 123) hx hb hts ii_X12 hown hK hP 0 rfl rfl 87 (by decide) (hts (.fieldLink RX12 182 "StoryHouseModel" "holder" "[I") wq_1443) (fun _ h9 => h9) rfl dX12_isSeen_41 ?_
          refine lv_iconst (v := 1) hx hb dX12_isSeen_44 (by decide +kernel) ?_
          refine va_iald (f := u_1.2.2 87) hx hb hK hP 52 2 rfl rfl (vp_in_iff.mpr (by decide +kernel)) dX12_isSeen_45 ?_
          refine lv_icmp_eq (tgt := 74) hx hb dX12_isSeen_46 (by decide) (fun c_19 => ?_) (fun c_19 => ?_)
          · have hF_20 := ipos c_19 hF_18
            clear hF_18
            refine lv_iconst (v := 1) hx hb dX12_isSeen_74 (by decide +kernel) ?_
            refine lv_goto (tgt := 79) hx hb dX12_isSeen_75 (by decide) ?_
            have h9 := Option.some.inj hF_20
            subst h9
            exact W.zret (v := 1) hx hb hr (by decide +kernel) (fun t ht hW => ⟨⟨1, (), rfl, rfl, m_end ht hP⟩, hS.F ht⟩) hS.2.2 dX12_isSeen_79
          · have hF_21 := ineg c_19 hF_18
            clear hF_18
            refine lv_aload_n hx hb dX12_isSeen_49 rfl (lv_at hl 1 rfl) ?_
            refine va_get (D := (dC, dI)) (ci := 12) (v := .ref (ad 50)) (C := RX12) (T := TX12) (N := 123) hx hb hts ii_X12 hown hK hP 0 rfl rfl 50 (by decide) (hts (.fieldLink RX12 97 "StoryHouseModel" "isRoom" "[Z") wq_1406) (fun _ h9 => h9) rfl dX12_isSeen_50 ?_
            refine lv_iload_n hx hb dX12_isSeen_53 rfl (lv_at hl 0 rfl) ?_
            obtain ⟨g_22, hF_23⟩ := nif_e hF_21
            clear hF_21
            refine va_zald (f := u_1.2.2 50) hx hb hK hP 24 4 rfl rfl g_22 dX12_isSeen_54 ?_
            refine lv_if_ne (tgt := 78) hx hb dX12_isSeen_55 (by decide) (fun c_24 => ?_) (fun c_24 => ?_)
            · have hF_36 := ineg c_24 hF_23
              clear hF_23
              refine lv_iconst (v := 0) hx hb dX12_isSeen_78 (by decide +kernel) ?_
              have h9 := Option.some.inj hF_36
              subst h9
              exact W.zret (v := 0) hx hb hr (by decide +kernel) (fun t ht hW => ⟨⟨0, (), rfl, rfl, m_end ht hP⟩, hS.F ht⟩) hS.2.2 dX12_isSeen_79
            · have hF_25 := ipos c_24 hF_23
              clear hF_23
              refine lv_aload_n hx hb dX12_isSeen_58 rfl (lv_at hl 1 rfl) ?_
              refine lv_iload_n hx hb dX12_isSeen_59 rfl (lv_at hl 0 rfl) ?_
              obtain ⟨u_26, hu_26, hF_27⟩ := Option.bind_eq_some_iff.mp hF_25
              clear hF_25
              refine m_ci hsz hS (va_runV (As := [.int x_11]) (rest := []) ⟨hx, hb, hml, hown, hts⟩ (hI0 H.size x_11 u_1.2 _ hu_26) (cwV 1 hts (g_gV wq_1761 wq_1762 wq_2196 wq_13 wq_1763) rfl rfl rfl (by decide +kernel) ⟨by show 3 + d + 1 ≤ 3 + (d + 1); omega, by show 8 + (3 + 11) + (84 + 22 * d) ≤ 84 + 22 * (d + 1); omega⟩) (m_preV g_bl0 hsz hK hP hS hE hKS g_to0) rfl rfl hl.1 rfl (lv_room (Nat.le_of_ble_eq_true rfl)) dX12_isSeen_60 ⟨Nat.le_of_ble_eq_true rfl, Nat.le_of_ble_eq_true rfl⟩) (fun H locs hP hS => ?_)
              refine lv_if_eq (tgt := 78) hx hb dX12_isSeen_63 (by decide) (fun c_28 => ?_) (fun c_28 => ?_)
              · have hF_29 := ipos c_28 hF_27
                clear hF_27
                refine lv_iconst (v := 0) hx hb dX12_isSeen_78 (by decide +kernel) ?_
                have h9 := Option.some.inj hF_29
                subst h9
                exact W.zret (v := 0) hx hb hr (by decide +kernel) (fun t ht hW => ⟨⟨0, (), rfl, rfl, m_end ht hP⟩, hS.F ht⟩) hS.2.2 dX12_isSeen_79
              · have hF_30 := ineg c_28 hF_27
                clear hF_27
                refine lv_aload_n hx hb dX12_isSeen_66 rfl (lv_at hl 1 rfl) ?_
                refine lv_iload_n hx hb dX12_isSeen_67 rfl (lv_at hl 0 rfl) ?_
                obtain ⟨u_31, hu_31, hF_32⟩ := Option.bind_eq_some_iff.mp hF_30
                clear hF_30
                refine m_ci hsz hS (va_runV (As := [.int x_11]) (rest := []) ⟨hx, hb, hml, hown, hts⟩ (m_X12_lets l dC dI cB cC cI cJ cZ cP h qK qS ad hDD H.size  x_11 u_26.2 _ hu_31) (cwV 1 hts (g_gV wq_1764 wq_1765 wq_2197 wq_13 wq_1766) rfl rfl rfl (by decide +kernel) ⟨by show 2 + 1 ≤ 3 + (d + 1); omega, by show 8 + (2 + 11) + 63 ≤ 84 + 22 * (d + 1); omega⟩) (m_preV g_bl0 hsz hK hP hS hE hKS g_to0) rfl rfl hl.1 rfl (lv_room (Nat.le_of_ble_eq_true rfl)) dX12_isSeen_68 ⟨Nat.le_of_ble_eq_true rfl, Nat.le_of_ble_eq_true rfl⟩) (fun H locs hP hS => ?_)
                refine lv_if_eq (tgt := 78) hx hb dX12_isSeen_71 (by decide) (fun c_33 => ?_) (fun c_33 => ?_)
                · have hF_34 := ipos c_33 hF_32
                  clear hF_32
                  refine lv_iconst (v := 0) hx hb dX12_isSeen_78 (by decide +kernel) ?_
                  have h9 := Option.some.inj hF_34
                  subst h9
                  exact W.zret (v := 0) hx hb hr (by decide +kernel) (fun t ht hW => ⟨⟨0, (), rfl, rfl, m_end ht hP⟩, hS.F ht⟩) hS.2.2 dX12_isSeen_79
                · have hF_35 := ineg c_33 hF_32
                  clear hF_32
                  refine lv_iconst (v := 1) hx hb dX12_isSeen_74 (by decide +kernel) ?_
                  refine lv_goto (tgt := 79) hx hb dX12_isSeen_75 (by decide) ?_
                  have h9 := Option.some.inj hF_35
                  subst h9
                  exact W.zret (v := 1) hx hb hr (by decide +kernel) (fun t ht hW => ⟨⟨1, (), rfl, rfl, m_end ht hP⟩, hS.F ht⟩) hS.2.2 dX12_isSeen_79
      · have hF_14 := ipos c_13 hF_12
        clear hF_12
        refine lv_iconst (v := 0) hx hb dX12_isSeen_32 (by decide +kernel) ?_
        have h9 := Option.some.inj hF_14
        subst h9
        exact W.zret (v := 0) hx hb hr (by decide +kernel) (fun t ht hW => ⟨⟨0, (), rfl, rfl, m_end ht hP⟩, hS.F ht⟩) hS.2.2 dX12_isSeen_33
    · have hF_37 := ineg c_7 hF_6
      clear hF_6
      refine lv_iconst (v := 0) hx hb dX12_isSeen_19 (by decide +kernel) ?_
      have h9 := Option.some.inj hF_37
      subst h9
      exact W.zret (v := 0) hx hb hr (by decide +kernel) (fun t ht hW => ⟨⟨0, (), rfl, rfl, m_end ht hP⟩, hS.F ht⟩) hS.2.2 dX12_isSeen_20

/-- the group, by its depth -/
def gN : Nat → GF
  | 0, _, _, _, _, _ => none
  | d + 1, t, a, b, c, σ => if t = 0 then F_X12_isSeen (gN d) a σ else none
theorem gN_0 (d : Nat) (a b c : Int32) (σ : MS) : gN (d + 1) 0 a b c σ = F_X12_isSeen (gN d) a σ := by
  rw [gN]
  exact if_pos rfl
set_option maxHeartbeats 4000000 in
theorem gN_all (l : Launch) (dC : Nat → ClassId) (dI : Nat → Nat → Nat) (cB cC cI cJ cZ cP : ClassId) (h qK qS : Nat) (ad : Nat → Nat) (hDD : mDis cB cI cZ h qK qS ad) : ∀ d : Nat, (∀ (sz : Nat) (p0 : Int32) (σ : MS) (res : Int32 × MS), gN d 0 p0 0 0 σ = some res → Met l yX12_isSeen (g_ws yX12_isSeen cX12_isSeen 3 (some .boolean)) ({ frames := 3 + d, cells := 0, slots := 0, locals := 84 + 22 * d }) (va_Pc [.ref h, .int p0] (m_B (dC, dI) [(cB, .byte), (cC, .char), (cI, .int), (cJ, .long), (cZ, .boolean), (cP, .object "StoryHouse$Play")] sz h ad qK qS (mW cB cI cZ h qK qS ad σ) g_0)) (va_Qi (fun r (_ : Unit) => r = res.1) (fun _ t => va_P (dC, dI) vwCl (mW cB cI cZ h qK qS ad res.2) t.heap) (mCells h ad sz)) 0 0 (mCells h ad sz)) := by
  intro d
  induction d with
  | zero => exact (fun sz p0 σ res hz => by cases hz)
  | succ d ih =>
    have hI0 := ih
    exact (fun sz p0 σ res hF => m_X12_isSeen_st l dC dI cB cC cI cJ cZ cP h qK qS ad hDD d (gN d) hI0 sz p0 σ res ((gN_0 d p0 0 0 σ).symm.trans hF))

def G_X12_isSeen (p0 : Int32) (σ : MS) : MR := gN 123 0 p0 0 0 σ
theorem m_X12_isSeen (l : Launch) (dC : Nat → ClassId) (dI : Nat → Nat → Nat) (cB cC cI cJ cZ cP : ClassId) (h qK qS : Nat) (ad : Nat → Nat) (hDD : mDis cB cI cZ h qK qS ad) : ∀ (sz : Nat) (p0 : Int32) (σ : MS) (res : Int32 × MS), G_X12_isSeen p0 σ = some res → Met l yX12_isSeen (g_ws yX12_isSeen cX12_isSeen 3 (some .boolean)) ({ frames := 126, cells := 0, slots := 0, locals := 2790 }) (va_Pc [.ref h, .int p0] (m_B (dC, dI) [(cB, .byte), (cC, .char), (cI, .int), (cJ, .long), (cZ, .boolean), (cP, .object "StoryHouse$Play")] sz h ad qK qS (mW cB cI cZ h qK qS ad σ) g_0)) (va_Qi (fun r (_ : Unit) => r = res.1) (fun _ t => va_P (dC, dI) vwCl (mW cB cI cZ h qK qS ad res.2) t.heap) (mCells h ad sz)) 0 0 (mCells h ad sz) := (gN_all l dC dI cB cC cI cJ cZ cP h qK qS ad hDD 123)
theorem dX12_isLight_0 : decode cX12_isLight 0 = .ok (.aload_n 0, 1) := by decide +kernel
theorem dX12_isLight_1 : decode cX12_isLight 1 = .ok (.aload_n 0, 1) := by decide +kernel
theorem dX12_isLight_2 : decode cX12_isLight 2 = .ok (.getfield 182, 3) := by decide +kernel
theorem dX12_isLight_5 : decode cX12_isLight 5 = .ok (.iconst 1, 1) := by decide +kernel
theorem dX12_isLight_6 : decode cX12_isLight 6 = .ok (.iaload, 1) := by decide +kernel
theorem dX12_isLight_7 : decode cX12_isLight 7 = .ok (.bipush 6, 2) := by decide +kernel
theorem dX12_isLight_9 : decode cX12_isLight 9 = .ok (.iconst 1, 1) := by decide +kernel
theorem dX12_isLight_10 : decode cX12_isLight 10 = .ok (.invokevirtual 896, 3) := by decide +kernel
theorem dX12_isLight_13 : decode cX12_isLight 13 = .ok (.ifCond .ne 5, 3) := by decide +kernel
theorem dX12_isLight_16 : decode cX12_isLight 16 = .ok (.iconst 1, 1) := by decide +kernel
theorem dX12_isLight_17 : decode cX12_isLight 17 = .ok (.ireturn, 1) := by decide +kernel
theorem dX12_isLight_18 : decode cX12_isLight 18 = .ok (.iconst 1, 1) := by decide +kernel
theorem dX12_isLight_19 : decode cX12_isLight 19 = .ok (.istore_n 1, 1) := by decide +kernel
theorem dX12_isLight_20 : decode cX12_isLight 20 = .ok (.iload_n 1, 1) := by decide +kernel
theorem dX12_isLight_21 : decode cX12_isLight 21 = .ok (.aload_n 0, 1) := by decide +kernel
theorem dX12_isLight_22 : decode cX12_isLight 22 = .ok (.getfield 587, 3) := by decide +kernel
theorem dX12_isLight_25 : decode cX12_isLight 25 = .ok (.if_icmp .gt 29, 3) := by decide +kernel
theorem dX12_isLight_28 : decode cX12_isLight 28 = .ok (.aload_n 0, 1) := by decide +kernel
theorem dX12_isLight_29 : decode cX12_isLight 29 = .ok (.iload_n 1, 1) := by decide +kernel
theorem dX12_isLight_30 : decode cX12_isLight 30 = .ok (.iconst 3, 1) := by decide +kernel
theorem dX12_isLight_31 : decode cX12_isLight 31 = .ok (.iconst 1, 1) := by decide +kernel
theorem dX12_isLight_32 : decode cX12_isLight 32 = .ok (.invokevirtual 896, 3) := by decide +kernel
theorem dX12_isLight_35 : decode cX12_isLight 35 = .ok (.ifCond .eq 13, 3) := by decide +kernel
theorem dX12_isLight_38 : decode cX12_isLight 38 = .ok (.aload_n 0, 1) := by decide +kernel
theorem dX12_isLight_39 : decode cX12_isLight 39 = .ok (.iload_n 1, 1) := by decide +kernel
theorem dX12_isLight_40 : decode cX12_isLight 40 = .ok (.invokevirtual 899, 3) := by decide +kernel
theorem dX12_isLight_43 : decode cX12_isLight 43 = .ok (.ifCond .eq 5, 3) := by decide +kernel
theorem dX12_isLight_46 : decode cX12_isLight 46 = .ok (.iconst 1, 1) := by decide +kernel
theorem dX12_isLight_47 : decode cX12_isLight 47 = .ok (.ireturn, 1) := by decide +kernel
theorem dX12_isLight_48 : decode cX12_isLight 48 = .ok (.iinc 1 1, 3) := by decide +kernel
theorem dX12_isLight_51 : decode cX12_isLight 51 = .ok (.goto (-31), 3) := by decide +kernel
theorem dX12_isLight_54 : decode cX12_isLight 54 = .ok (.iconst 0, 1) := by decide +kernel
theorem dX12_isLight_55 : decode cX12_isLight 55 = .ok (.ireturn, 1) := by decide +kernel
def F_X12_isLight  (σ : MS) : MR :=
  (F_X12_has (σ.2 87 (1 : Int32).toNatClampNeg) 6 1 σ).bind fun u_1 =>
  if u_1.1 = 0 then (
    some (1, u_1.2)
  ) else (
    loopF (fun (again_7 : (Int32 × MS) → MR) (s_6 : Int32 × MS) => (
      if (s_6.2.1 78) < s_6.1 then (
        some (0, s_6.2)
      ) else (
        (F_X12_has s_6.1 3 1 s_6.2).bind fun u_13 =>
        bnd (fun  (σ_15 : MS) => (
          bnd (s_6.1 + 1) fun (x_19 : Int32) =>
          again_7 (x_19, σ_15)
        ) : MS → MR) fun j_16 =>
        if u_13.1 = 0 then (
          j_16  u_13.2
        ) else (
          (G_X12_isSeen s_6.1 u_13.2).bind fun u_24 =>
          if u_24.1 = 0 then (
            j_16  u_24.2
          ) else (
            some (1, u_24.2)
          )
        )
      )
    )) FU (1, u_1.2)
  )
set_option maxHeartbeats 4000000 in
set_option maxRecDepth 100000 in
theorem m_X12_isLight (l : Launch) (dC : Nat → ClassId) (dI : Nat → Nat → Nat) (cB cC cI cJ cZ cP : ClassId) (h qK qS : Nat) (ad : Nat → Nat) (hDD : mDis cB cI cZ h qK qS ad) (sz : Nat)   (σ : MS) (res : Int32 × MS) (hF : F_X12_isLight  σ = some res) : Met l yX12_isLight (g_ws yX12_isLight cX12_isLight 2 (some .boolean)) ({ frames := 127, cells := 0, slots := 0, locals := 2812 }) (va_Pc [.ref h] (m_B (dC, dI) [(cB, .byte), (cC, .char), (cI, .int), (cJ, .long), (cZ, .boolean), (cP, .object "StoryHouse$Play")] sz h ad qK qS (mW cB cI cZ h qK qS ad σ) g_0)) (va_Qi (fun r (_ : Unit) => r = res.1) (fun _ t => va_P (dC, dI) vwCl (mW cB cI cZ h qK qS ad res.2) t.heap) (mCells h ad sz)) 0 0 (mCells h ad sz) := by
  refine Met.ofW (cc := cX12_isLight) (maxL := 2) (ret := (some .boolean)) (by decide) rfl ?_
  intro p e s m args below meth c s₁ B hml hv
  obtain ⟨rfl, hsz, hP, hK, hE, hKS, hX⟩ := hv
  have hx := B.exec
  have hb := B.bytes
  have hr := B.returns
  have hts0 := atoms_spec (ws := g_ws yX12_isLight cX12_isLight 2 (some .boolean)) B.pre
  have hts : ∀ w ∈ lw_good, w.before ([.ref h] : List Value).toArray s = true := fun w z => hts0 w (List.mem_cons_of_mem _ z)
  have hown : s.vm.findClass RX12 = some m.cls := findClass_of_methodNamed B.named
  have hlocks := B.notSynchronized
  have hS : va_S (mCells h ad sz) s.heap s.heap [] := va_S.rf
  have hl := lv_entry ([.ref h]) (n := 2) (Nat.le_of_ble_eq_true rfl)
  rw [lg_entry_eq]
  generalize (lg_sl ([.ref h]) ++ List.replicate (2 - (lg_sl ([.ref h])).length) Slot.unset).toArray = ls at hl ⊢
  have hl : lv_has ls 2 [(0, .ref h)] := hl
  unfold F_X12_isLight at hF
  refine lv_aload_n hx hb dX12_isLight_0 rfl (lv_at hl 0 rfl) ?_
  refine lv_aload_n hx hb dX12_isLight_1 rfl (lv_at hl 0 rfl) ?_
  refine va_get (D := (dC, dI)) (ci := 12) (v := .ref (ad 87)) (C := RX12) (T := TX12) (N := 123) hx hb hts ii_X12 hown hK hP 0 rfl rfl 87 (by decide) (hts (.fieldLink RX12 182 "StoryHouseModel" "holder" "[I") wq_1443) (fun _ h9 => h9) rfl dX12_isLight_2 ?_
  refine lv_iconst (v := 1) hx hb dX12_isLight_5 (by decide +kernel) ?_
  refine va_iald (f := σ.2 87) hx hb hK hP 52 2 rfl rfl (vp_in_iff.mpr (by decide +kernel)) dX12_isLight_6 ?_
  refine lv_bipush (v := 6) hx hb dX12_isLight_7 (by decide +kernel) ?_
  refine lv_iconst (v := 1) hx hb dX12_isLight_9 (by decide +kernel) ?_
  obtain ⟨u_1, hu_1, hF_2⟩ := Option.bind_eq_some_iff.mp hF
  clear hF
  refine m_ci hsz hS (va_runV (As := [.int (σ.2 87 (1 : Int32).toNatClampNeg), .int 6, .int 1]) (rest := []) ⟨hx, hb, hml, hown, hts⟩ (m_X12_has l dC dI cB cC cI cJ cZ cP h qK qS ad hDD s.heap.size  (σ.2 87 (1 : Int32).toNatClampNeg) 6 1 σ _ hu_1) (cwV 3 hts (g_gV wq_1758 wq_1759 wq_2195 wq_13 wq_1760) rfl rfl rfl (by decide +kernel) ⟨Nat.le_of_ble_eq_true rfl, Nat.le_of_ble_eq_true rfl⟩) (m_preV g_bl0 hsz hK hP hS hE hKS g_to0) rfl rfl hl.1 rfl (lv_room (Nat.le_of_ble_eq_true rfl)) dX12_isLight_10 ⟨Nat.le_of_ble_eq_true rfl, Nat.le_of_ble_eq_true rfl⟩) (fun H locs hP hS => ?_)
  refine lv_if_ne (tgt := 18) hx hb dX12_isLight_13 (by decide) (fun c_3 => ?_) (fun c_3 => ?_)
  · have hF_5 := ineg c_3 hF_2
    clear hF_2
    refine lv_iconst (v := 1) hx hb dX12_isLight_18 (by decide +kernel) ?_
    refine lv_istore_n (lv' := [(1, .int 1), (0, .ref h)]) hx hb dX12_isLight_19 rfl hl (by decide) rfl (fun ls hl => ?_)
    refine loopF_ind (P := fun (s_6 : Int32 × MS) => ∀ (H : Heap) (locs : List Loc), va_P (dC, dI) vwCl (mW cB cI cZ h qK qS ad s_6.2) H → va_S (mCells h ad sz) s.heap H locs → ∀ ls : Array Slot, lv_has ls 2 [(0, .ref h), (1, .int s_6.1)] → W p l e (headSpec (g_ws yX12_isLight cX12_isLight 2 (some .boolean)) { frames := 127, cells := 0, slots := 0, locals := 2812 }).room s m ([.ref h] : List Value).toArray below meth c H locs 0 0 (MQ below (va_Qi (fun r (_ : Unit) => r = res.1) (fun _ t => va_P (dC, dI) vwCl (mW cB cI cZ h qK qS ad res.2) t.heap) (mCells h ad sz)) ([.ref h] : List Value).toArray s 0 0 (mCells h ad sz)) (F0 m 20 ls [])) ?_ _ _ hF_5 _ _ hP hS ls (lv_sub hl [1, 0] rfl)
    intro again_7 s_6 ih_8 hF_9
    intro H locs hP hS ls hl
    refine lv_iload_n hx hb dX12_isLight_20 rfl (lv_at hl 1 rfl) ?_
    refine lv_aload_n hx hb dX12_isLight_21 rfl (lv_at hl 0 rfl) ?_
    refine va_get (D := (dC, dI)) (ci := 12) (v := .int (s_6.2.1 78)) (C := RX12) (T := TX12) (N := 123) hx hb hts ii_X12 hown hK hP 0 rfl rfl 78 (by decide) (hts (.fieldLink RX12 587 "StoryHouseModel" "nObjects" "I") wq_1434) (fun _ h9 => h9) rfl dX12_isLight_22 ?_
    refine lv_icmp_gt (tgt := 54) hx hb dX12_isLight_25 (by decide) (fun c_10 => ?_) (fun c_10 => ?_)
    · have hF_11 := ipos c_10 hF_9
      clear hF_9
      refine lv_iconst (v := 0) hx hb dX12_isLight_54 (by decide +kernel) ?_
      have h9 := Option.some.inj hF_11
      subst h9
      exact W.zret (v := 0) hx hb hr (by decide +kernel) (fun t ht hW => ⟨⟨0, (), rfl, rfl, m_end ht hP⟩, hS.F ht⟩) hS.2.2 dX12_isLight_55
    · have hF_12 := ineg c_10 hF_9
      clear hF_9
      refine lv_aload_n hx hb dX12_isLight_28 rfl (lv_at hl 0 rfl) ?_
      refine lv_iload_n hx hb dX12_isLight_29 rfl (lv_at hl 1 rfl) ?_
      refine lv_iconst (v := 3) hx hb dX12_isLight_30 (by decide +kernel) ?_
      refine lv_iconst (v := 1) hx hb dX12_isLight_31 (by decide +kernel) ?_
      obtain ⟨u_13, hu_13, hF_14⟩ := Option.bind_eq_some_iff.mp hF_12
      clear hF_12
      refine m_ci hsz hS (va_runV (As := [.int s_6.1, .int 3, .int 1]) (rest := []) ⟨hx, hb, hml, hown, hts⟩ (m_X12_has l dC dI cB cC cI cJ cZ cP h qK qS ad hDD H.size  s_6.1 3 1 s_6.2 _ hu_13) (cwV 3 hts (g_gV wq_1758 wq_1759 wq_2195 wq_13 wq_1760) rfl rfl rfl (by decide +kernel) ⟨Nat.le_of_ble_eq_true rfl, Nat.le_of_ble_eq_true rfl⟩) (m_preV g_bl0 hsz hK hP hS hE hKS g_to0) rfl rfl hl.1 rfl (lv_room (Nat.le_of_ble_eq_true rfl)) dX12_isLight_32 ⟨Nat.le_of_ble_eq_true rfl, Nat.le_of_ble_eq_true rfl⟩) (fun H locs hP hS => ?_)
      obtain ⟨j_16, ej_16, hF_17⟩ := bnd_e hF_14
      clear hF_14
      have Jj_16 : ∀  (σ_15 : MS), j_16  σ_15 = some res → ∀ (H : Heap) (locs : List Loc), va_P (dC, dI) vwCl (mW cB cI cZ h qK qS ad σ_15) H → va_S (mCells h ad sz) s.heap H locs → ∀ ls : Array Slot, lv_has ls 2 [(0, .ref h), (1, .int s_6.1)] → W p l e (headSpec (g_ws yX12_isLight cX12_isLight 2 (some .boolean)) { frames := 127, cells := 0, slots := 0, locals := 2812 }).room s m ([.ref h] : List Value).toArray below meth c H locs 0 0 (MQ below (va_Qi (fun r (_ : Unit) => r = res.1) (fun _ t => va_P (dC, dI) vwCl (mW cB cI cZ h qK qS ad res.2) t.heap) (mCells h ad sz)) ([.ref h] : List Value).toArray s 0 0 (mCells h ad sz)) (F0 m 48 ls []) := by
        intro  σ_15 hF0 H locs hP hS ls hl
        subst ej_16
        have hF_18 := hF0
        clear hF0
        obtain ⟨x_19, ex_19, hF_20⟩ := bnd_e hF_18
        clear hF_18
        refine lv_iinc (v := x_19) (lv' := [(1, .int x_19), (0, .ref h)]) hx hb dX12_isLight_48 hl (k := 1) rfl (by rw [ex_19]; rfl) (by decide) rfl (fun ls hl => ?_)
        refine lv_goto (tgt := 20) hx hb dX12_isLight_51 (by decide) ?_
        exact ih_8 (x_19, σ_15) hF_20 _ _ hP hS ls (lv_sub hl [1, 0] rfl)
      refine lv_if_eq (tgt := 48) hx hb dX12_isLight_35 (by decide) (fun c_21 => ?_) (fun c_21 => ?_)
      · have hF_22 := ipos c_21 hF_17
        clear hF_17
        exact Jj_16  u_13.2 hF_22 _ _ hP hS ls (lv_sub hl [0, 1] rfl)
      · have hF_23 := ineg c_21 hF_17
        clear hF_17
        refine lv_aload_n hx hb dX12_isLight_38 rfl (lv_at hl 0 rfl) ?_
        refine lv_iload_n hx hb dX12_isLight_39 rfl (lv_at hl 1 rfl) ?_
        obtain ⟨u_24, hu_24, hF_25⟩ := Option.bind_eq_some_iff.mp hF_23
        clear hF_23
        refine m_ci hsz hS (va_runV (As := [.int s_6.1]) (rest := []) ⟨hx, hb, hml, hown, hts⟩ (m_X12_isSeen l dC dI cB cC cI cJ cZ cP h qK qS ad hDD H.size  s_6.1 u_13.2 _ hu_24) (cwV 1 hts (g_gV wq_1761 wq_1762 wq_2196 wq_13 wq_1763) rfl rfl rfl (by decide +kernel) ⟨Nat.le_of_ble_eq_true rfl, Nat.le_of_ble_eq_true rfl⟩) (m_preV g_bl0 hsz hK hP hS hE hKS g_to0) rfl rfl hl.1 rfl (lv_room (Nat.le_of_ble_eq_true rfl)) dX12_isLight_40 ⟨Nat.le_of_ble_eq_true rfl, Nat.le_of_ble_eq_true rfl⟩) (fun H locs hP hS => ?_)
        refine lv_if_eq (tgt := 48) hx hb dX12_isLight_43 (by decide) (fun c_26 => ?_) (fun c_26 => ?_)
        · have hF_27 := ipos c_26 hF_25
          clear hF_25
          exact Jj_16  u_24.2 hF_27 _ _ hP hS ls (lv_sub hl [0, 1] rfl)
        · have hF_28 := ineg c_26 hF_25
          clear hF_25
          refine lv_iconst (v := 1) hx hb dX12_isLight_46 (by decide +kernel) ?_
          have h9 := Option.some.inj hF_28
          subst h9
          exact W.zret (v := 1) hx hb hr (by decide +kernel) (fun t ht hW => ⟨⟨1, (), rfl, rfl, m_end ht hP⟩, hS.F ht⟩) hS.2.2 dX12_isLight_47
  · have hF_4 := ipos c_3 hF_2
    clear hF_2
    refine lv_iconst (v := 1) hx hb dX12_isLight_16 (by decide +kernel) ?_
    have h9 := Option.some.inj hF_4
    subst h9
    exact W.zret (v := 1) hx hb hr (by decide +kernel) (fun t ht hW => ⟨⟨1, (), rfl, rfl, m_end ht hP⟩, hS.F ht⟩) hS.2.2 dX12_isLight_17
theorem dX12_look_0 : decode cX12_look 0 = .ok (.aload_n 0, 1) := by decide +kernel
theorem dX12_look_1 : decode cX12_look 1 = .ok (.invokevirtual 885, 3) := by decide +kernel
theorem dX12_look_4 : decode cX12_look 4 = .ok (.ifCond .ne 11, 3) := by decide +kernel
theorem dX12_look_7 : decode cX12_look 7 = .ok (.aload_n 0, 1) := by decide +kernel
theorem dX12_look_8 : decode cX12_look 8 = .ok (.ldc_w 936, 3) := by decide +kernel
theorem dX12_look_11 : decode cX12_look 11 = .ok (.invokevirtual 768, 3) := by decide +kernel
theorem dX12_look_14 : decode cX12_look 14 = .ok (.return_, 1) := by decide +kernel
theorem dX12_look_15 : decode cX12_look 15 = .ok (.aload_n 0, 1) := by decide +kernel
theorem dX12_look_16 : decode cX12_look 16 = .ok (.getfield 182, 3) := by decide +kernel
theorem dX12_look_19 : decode cX12_look 19 = .ok (.iconst 1, 1) := by decide +kernel
theorem dX12_look_20 : decode cX12_look 20 = .ok (.iaload, 1) := by decide +kernel
theorem dX12_look_21 : decode cX12_look 21 = .ok (.istore_n 1, 1) := by decide +kernel
theorem dX12_look_22 : decode cX12_look 22 = .ok (.aload_n 0, 1) := by decide +kernel
theorem dX12_look_23 : decode cX12_look 23 = .ok (.iload_n 1, 1) := by decide +kernel
theorem dX12_look_24 : decode cX12_look 24 = .ok (.invokevirtual 783, 3) := by decide +kernel
theorem dX12_look_27 : decode cX12_look 27 = .ok (.aload_n 0, 1) := by decide +kernel
theorem dX12_look_28 : decode cX12_look 28 = .ok (.bipush 10, 2) := by decide +kernel
theorem dX12_look_30 : decode cX12_look 30 = .ok (.invokevirtual 671, 3) := by decide +kernel
theorem dX12_look_33 : decode cX12_look 33 = .ok (.aload_n 0, 1) := by decide +kernel
theorem dX12_look_34 : decode cX12_look 34 = .ok (.getfield 237, 3) := by decide +kernel
theorem dX12_look_37 : decode cX12_look 37 = .ok (.iload_n 1, 1) := by decide +kernel
theorem dX12_look_38 : decode cX12_look 38 = .ok (.baload, 1) := by decide +kernel
theorem dX12_look_39 : decode cX12_look 39 = .ok (.ifCond .eq 25, 3) := by decide +kernel
theorem dX12_look_42 : decode cX12_look 42 = .ok (.aload_n 0, 1) := by decide +kernel
theorem dX12_look_43 : decode cX12_look 43 = .ok (.aload_n 0, 1) := by decide +kernel
theorem dX12_look_44 : decode cX12_look 44 = .ok (.getfield 91, 3) := by decide +kernel
theorem dX12_look_47 : decode cX12_look 47 = .ok (.iload_n 1, 1) := by decide +kernel
theorem dX12_look_48 : decode cX12_look 48 = .ok (.iaload, 1) := by decide +kernel
theorem dX12_look_49 : decode cX12_look 49 = .ok (.aload_n 0, 1) := by decide +kernel
theorem dX12_look_50 : decode cX12_look 50 = .ok (.getfield 94, 3) := by decide +kernel
theorem dX12_look_53 : decode cX12_look 53 = .ok (.iload_n 1, 1) := by decide +kernel
theorem dX12_look_54 : decode cX12_look 54 = .ok (.iaload, 1) := by decide +kernel
theorem dX12_look_55 : decode cX12_look 55 = .ok (.invokevirtual 679, 3) := by decide +kernel
theorem dX12_look_58 : decode cX12_look 58 = .ok (.aload_n 0, 1) := by decide +kernel
theorem dX12_look_59 : decode cX12_look 59 = .ok (.bipush 10, 2) := by decide +kernel
theorem dX12_look_61 : decode cX12_look 61 = .ok (.invokevirtual 671, 3) := by decide +kernel
theorem dX12_look_64 : decode cX12_look 64 = .ok (.aload_n 0, 1) := by decide +kernel
theorem dX12_look_65 : decode cX12_look 65 = .ok (.getfield 185, 3) := by decide +kernel
theorem dX12_look_68 : decode cX12_look 68 = .ok (.iload_n 1, 1) := by decide +kernel
theorem dX12_look_69 : decode cX12_look 69 = .ok (.iaload, 1) := by decide +kernel
theorem dX12_look_70 : decode cX12_look 70 = .ok (.istore_n 2, 1) := by decide +kernel
theorem dX12_look_71 : decode cX12_look 71 = .ok (.iload_n 2, 1) := by decide +kernel
theorem dX12_look_72 : decode cX12_look 72 = .ok (.ifCond .eq 142, 3) := by decide +kernel
theorem dX12_look_75 : decode cX12_look 75 = .ok (.iload_n 2, 1) := by decide +kernel
theorem dX12_look_76 : decode cX12_look 76 = .ok (.iconst 1, 1) := by decide +kernel
theorem dX12_look_77 : decode cX12_look 77 = .ok (.if_icmp .eq 127, 3) := by decide +kernel
theorem dX12_look_80 : decode cX12_look 80 = .ok (.aload_n 0, 1) := by decide +kernel
theorem dX12_look_81 : decode cX12_look 81 = .ok (.iload_n 2, 1) := by decide +kernel
theorem dX12_look_82 : decode cX12_look 82 = .ok (.iconst 2, 1) := by decide +kernel
theorem dX12_look_83 : decode cX12_look 83 = .ok (.iconst 1, 1) := by decide +kernel
theorem dX12_look_84 : decode cX12_look 84 = .ok (.invokevirtual 896, 3) := by decide +kernel
theorem dX12_look_87 : decode cX12_look 87 = .ok (.ifCond .eq 6, 3) := by decide +kernel
theorem dX12_look_90 : decode cX12_look 90 = .ok (.goto 114, 3) := by decide +kernel
theorem dX12_look_93 : decode cX12_look 93 = .ok (.aload_n 0, 1) := by decide +kernel
theorem dX12_look_94 : decode cX12_look 94 = .ok (.ldc_w 938, 3) := by decide +kernel
theorem dX12_look_97 : decode cX12_look 97 = .ok (.invokevirtual 673, 3) := by decide +kernel
theorem dX12_look_100 : decode cX12_look 100 = .ok (.aload_n 0, 1) := by decide +kernel
theorem dX12_look_101 : decode cX12_look 101 = .ok (.iload_n 2, 1) := by decide +kernel
theorem dX12_look_102 : decode cX12_look 102 = .ok (.invokevirtual 783, 3) := by decide +kernel
theorem dX12_look_105 : decode cX12_look 105 = .ok (.aload_n 0, 1) := by decide +kernel
theorem dX12_look_106 : decode cX12_look 106 = .ok (.ldc_w 940, 3) := by decide +kernel
theorem dX12_look_109 : decode cX12_look 109 = .ok (.invokevirtual 768, 3) := by decide +kernel
theorem dX12_look_112 : decode cX12_look 112 = .ok (.aload_n 0, 1) := by decide +kernel
theorem dX12_look_113 : decode cX12_look 113 = .ok (.iload_n 2, 1) := by decide +kernel
theorem dX12_look_114 : decode cX12_look 114 = .ok (.invokevirtual 902, 3) := by decide +kernel
theorem dX12_look_117 : decode cX12_look 117 = .ok (.ifCond .ne 6, 3) := by decide +kernel
theorem dX12_look_120 : decode cX12_look 120 = .ok (.goto 84, 3) := by decide +kernel
theorem dX12_look_123 : decode cX12_look 123 = .ok (.aload_n 0, 1) := by decide +kernel
theorem dX12_look_124 : decode cX12_look 124 = .ok (.getfield 185, 3) := by decide +kernel
theorem dX12_look_127 : decode cX12_look 127 = .ok (.iload_n 2, 1) := by decide +kernel
theorem dX12_look_128 : decode cX12_look 128 = .ok (.iaload, 1) := by decide +kernel
theorem dX12_look_129 : decode cX12_look 129 = .ok (.istore_n 3, 1) := by decide +kernel
theorem dX12_look_130 : decode cX12_look 130 = .ok (.iload_n 3, 1) := by decide +kernel
theorem dX12_look_131 : decode cX12_look 131 = .ok (.ifCond .eq 73, 3) := by decide +kernel
theorem dX12_look_134 : decode cX12_look 134 = .ok (.aload_n 0, 1) := by decide +kernel
theorem dX12_look_135 : decode cX12_look 135 = .ok (.iload_n 3, 1) := by decide +kernel
theorem dX12_look_136 : decode cX12_look 136 = .ok (.iconst 2, 1) := by decide +kernel
theorem dX12_look_137 : decode cX12_look 137 = .ok (.iconst 1, 1) := by decide +kernel
theorem dX12_look_138 : decode cX12_look 138 = .ok (.invokevirtual 896, 3) := by decide +kernel
theorem dX12_look_141 : decode cX12_look 141 = .ok (.ifCond .eq 6, 3) := by decide +kernel
theorem dX12_look_144 : decode cX12_look 144 = .ok (.goto 50, 3) := by decide +kernel
theorem dX12_look_147 : decode cX12_look 147 = .ok (.aload_n 0, 1) := by decide +kernel
theorem dX12_look_148 : decode cX12_look 148 = .ok (.aload_n 0, 1) := by decide +kernel
theorem dX12_look_149 : decode cX12_look 149 = .ok (.iload_n 2, 1) := by decide +kernel
theorem dX12_look_150 : decode cX12_look 150 = .ok (.iconst 5, 1) := by decide +kernel
theorem dX12_look_151 : decode cX12_look 151 = .ok (.iconst 1, 1) := by decide +kernel
theorem dX12_look_152 : decode cX12_look 152 = .ok (.invokevirtual 896, 3) := by decide +kernel
theorem dX12_look_155 : decode cX12_look 155 = .ok (.ifCond .eq 9, 3) := by decide +kernel
theorem dX12_look_158 : decode cX12_look 158 = .ok (.ldc_w 942, 3) := by decide +kernel
theorem dX12_look_161 : decode cX12_look 161 = .ok (.goto 6, 3) := by decide +kernel
theorem dX12_look_164 : decode cX12_look 164 = .ok (.ldc_w 944, 3) := by decide +kernel
theorem dX12_look_167 : decode cX12_look 167 = .ok (.invokevirtual 673, 3) := by decide +kernel
theorem dX12_look_170 : decode cX12_look 170 = .ok (.aload_n 0, 1) := by decide +kernel
theorem dX12_look_171 : decode cX12_look 171 = .ok (.iload_n 2, 1) := by decide +kernel
theorem dX12_look_172 : decode cX12_look 172 = .ok (.invokevirtual 783, 3) := by decide +kernel
theorem dX12_look_175 : decode cX12_look 175 = .ok (.aload_n 0, 1) := by decide +kernel
theorem dX12_look_176 : decode cX12_look 176 = .ok (.ldc_w 946, 3) := by decide +kernel
theorem dX12_look_179 : decode cX12_look 179 = .ok (.invokevirtual 673, 3) := by decide +kernel
theorem dX12_look_182 : decode cX12_look 182 = .ok (.aload_n 0, 1) := by decide +kernel
theorem dX12_look_183 : decode cX12_look 183 = .ok (.iload_n 3, 1) := by decide +kernel
theorem dX12_look_184 : decode cX12_look 184 = .ok (.invokevirtual 783, 3) := by decide +kernel
theorem dX12_look_187 : decode cX12_look 187 = .ok (.aload_n 0, 1) := by decide +kernel
theorem dX12_look_188 : decode cX12_look 188 = .ok (.ldc_w 948, 3) := by decide +kernel
theorem dX12_look_191 : decode cX12_look 191 = .ok (.invokevirtual 768, 3) := by decide +kernel
theorem dX12_look_194 : decode cX12_look 194 = .ok (.aload_n 0, 1) := by decide +kernel
theorem dX12_look_195 : decode cX12_look 195 = .ok (.getfield 188, 3) := by decide +kernel
theorem dX12_look_198 : decode cX12_look 198 = .ok (.iload_n 3, 1) := by decide +kernel
theorem dX12_look_199 : decode cX12_look 199 = .ok (.iaload, 1) := by decide +kernel
theorem dX12_look_200 : decode cX12_look 200 = .ok (.istore_n 3, 1) := by decide +kernel
theorem dX12_look_201 : decode cX12_look 201 = .ok (.goto (-71), 3) := by decide +kernel
theorem dX12_look_204 : decode cX12_look 204 = .ok (.aload_n 0, 1) := by decide +kernel
theorem dX12_look_205 : decode cX12_look 205 = .ok (.getfield 188, 3) := by decide +kernel
theorem dX12_look_208 : decode cX12_look 208 = .ok (.iload_n 2, 1) := by decide +kernel
theorem dX12_look_209 : decode cX12_look 209 = .ok (.iaload, 1) := by decide +kernel
theorem dX12_look_210 : decode cX12_look 210 = .ok (.istore_n 2, 1) := by decide +kernel
theorem dX12_look_211 : decode cX12_look 211 = .ok (.goto (-140), 3) := by decide +kernel
theorem dX12_look_214 : decode cX12_look 214 = .ok (.return_, 1) := by decide +kernel
def F_X12_look  (σ : MS) : MR :=
  (F_X12_isLight σ).bind fun u_1 =>
  if u_1.1 = 0 then (
    (F_X12_line ([73, 116, 32, 105, 115, 32, 100, 97, 114, 107, 46] : List Int32) u_1.2).bind fun u_6 =>
    some (0, u_6.2)
  ) else (
    bnd ((u_1.2.2 87 (1 : Int32).toNatClampNeg)) fun (x_9 : Int32) =>
    (F_X12_sayName x_9 u_1.2).bind fun u_11 =>
    (F_X12_put 10 u_11.2).bind fun u_13 =>
    if x_9 < 0 ∨ 121 ≤ x_9.toNatClampNeg then none else
    bnd (fun  (σ_17 : MS) => (
      if x_9 < 0 ∨ 121 ≤ x_9.toNatClampNeg then none else
      bnd ((σ_17.2 88 x_9.toNatClampNeg)) fun (x_23 : Int32) =>
      loopF (fun (again_26 : (Int32 × MS) → MR) (s_25 : Int32 × MS) => (
        if s_25.1 = 0 then (
          some (0, s_25.2)
        ) else (
          bnd (fun  (σ_32 : MS) => (
            if s_25.1 < 0 ∨ 121 ≤ s_25.1.toNatClampNeg then none else
            bnd ((σ_32.2 89 s_25.1.toNatClampNeg)) fun (x_38 : Int32) =>
            again_26 (x_38, σ_32)
          ) : MS → MR) fun j_33 =>
          if s_25.1 = 1 then (
            j_33  s_25.2
          ) else (
            (F_X12_has s_25.1 2 1 s_25.2).bind fun u_43 =>
            if u_43.1 = 0 then (
              (F_X12_say ([84, 104, 101, 114, 101, 32, 105, 115, 32] : List Int32) u_43.2).bind fun u_48 =>
              (F_X12_sayName s_25.1 u_48.2).bind fun u_50 =>
              (F_X12_line ([32, 104, 101, 114, 101, 46] : List Int32) u_50.2).bind fun u_53 =>
              (F_X12_lets s_25.1 u_53.2).bind fun u_55 =>
              if u_55.1 = 0 then (
                j_33  u_55.2
              ) else (
                if s_25.1 < 0 ∨ 121 ≤ s_25.1.toNatClampNeg then none else
                bnd ((u_55.2.2 88 s_25.1.toNatClampNeg)) fun (x_62 : Int32) =>
                loopF (fun (again_65 : (Int32 × MS) → MR) (s_64 : Int32 × MS) => (
                  if s_64.1 = 0 then (
                    j_33  s_64.2
                  ) else (
                    (F_X12_has s_64.1 2 1 s_64.2).bind fun u_71 =>
                    bnd (fun  (σ_73 : MS) => (
                      if s_64.1 < 0 ∨ 121 ≤ s_64.1.toNatClampNeg then none else
                      bnd ((σ_73.2 89 s_64.1.toNatClampNeg)) fun (x_79 : Int32) =>
                      again_65 (x_79, σ_73)
                    ) : MS → MR) fun j_74 =>
                    if u_71.1 = 0 then (
                      (F_X12_has s_25.1 5 1 u_71.2).bind fun u_83 =>
                      if u_83.1 = 0 then (
                        (F_X12_say ([73, 110, 32] : List Int32) u_83.2).bind fun u_88 =>
                        (F_X12_sayName s_25.1 u_88.2).bind fun u_90 =>
                        (F_X12_say ([32, 116, 104, 101, 114, 101, 32, 105, 115, 32] : List Int32) u_90.2).bind fun u_93 =>
                        (F_X12_sayName s_64.1 u_93.2).bind fun u_95 =>
                        (F_X12_line ([46] : List Int32) u_95.2).bind fun u_98 =>
                        j_74  u_98.2
                      ) else (
                        (F_X12_say ([79, 110, 32] : List Int32) u_83.2).bind fun u_102 =>
                        (F_X12_sayName s_25.1 u_102.2).bind fun u_104 =>
                        (F_X12_say ([32, 116, 104, 101, 114, 101, 32, 105, 115, 32] : List Int32) u_104.2).bind fun u_107 =>
                        (F_X12_sayName s_64.1 u_107.2).bind fun u_109 =>
                        (F_X12_line ([46] : List Int32) u_109.2).bind fun u_112 =>
                        j_74  u_112.2
                      )
                    ) else (
                      j_74  u_71.2
                    )
                  )
                )) FU (x_62, u_55.2)
              )
            ) else (
              j_33  u_43.2
            )
          )
        )
      )) FU (x_23, σ_17)
    ) : MS → MR) fun j_18 =>
    if (u_13.2.2 122 x_9.toNatClampNeg) = 0 then (
      j_18  u_13.2
    ) else (
      if x_9 < 0 ∨ 121 ≤ x_9.toNatClampNeg then none else
      if x_9 < 0 ∨ 121 ≤ x_9.toNatClampNeg then none else
      (F_X12_sayText (u_13.2.2 48 x_9.toNatClampNeg) (u_13.2.2 49 x_9.toNatClampNeg) u_13.2).bind fun u_123 =>
      (F_X12_put 10 u_123.2).bind fun u_125 =>
      j_18  u_125.2
    )
  )
set_option maxHeartbeats 4000000 in
set_option maxRecDepth 100000 in
theorem m_X12_look (l : Launch) (dC : Nat → ClassId) (dI : Nat → Nat → Nat) (cB cC cI cJ cZ cP : ClassId) (h qK qS : Nat) (ad : Nat → Nat) (hDD : mDis cB cI cZ h qK qS ad) (sz : Nat)   (σ : MS) (res : Int32 × MS) (hF : F_X12_look  σ = some res) : Met l yX12_look (g_ws yX12_look cX12_look 4 none) ({ frames := 128, cells := 0, slots := 0, locals := 2833 }) (va_Pc [.ref h] (m_B (dC, dI) [(cB, .byte), (cC, .char), (cI, .int), (cJ, .long), (cZ, .boolean), (cP, .object "StoryHouse$Play")] sz h ad qK qS (mW cB cI cZ h qK qS ad σ) g_0)) (va_Qv (fun (_ : Unit) => True) (fun _ t => va_P (dC, dI) vwCl (mW cB cI cZ h qK qS ad res.2) t.heap) (mCells h ad sz)) 0 0 (mCells h ad sz) := by
  refine Met.ofW (cc := cX12_look) (maxL := 4) (ret := none) (by decide) rfl ?_
  intro p e s m args below meth c s₁ B hml hv
  obtain ⟨rfl, hsz, hP, hK, hE, hKS, hX⟩ := hv
  have hx := B.exec
  have hb := B.bytes
  have hr := B.returns
  have hts0 := atoms_spec (ws := g_ws yX12_look cX12_look 4 none) B.pre
  have hts : ∀ w ∈ lw_good, w.before ([.ref h] : List Value).toArray s = true := fun w z => hts0 w (List.mem_cons_of_mem _ z)
  have hown : s.vm.findClass RX12 = some m.cls := findClass_of_methodNamed B.named
  have hlocks := B.notSynchronized
  have hS : va_S (mCells h ad sz) s.heap s.heap [] := va_S.rf
  have hl := lv_entry ([.ref h]) (n := 4) (Nat.le_of_ble_eq_true rfl)
  rw [lg_entry_eq]
  generalize (lg_sl ([.ref h]) ++ List.replicate (4 - (lg_sl ([.ref h])).length) Slot.unset).toArray = ls at hl ⊢
  have hl : lv_has ls 4 [(0, .ref h)] := hl
  unfold F_X12_look at hF
  refine lv_aload_n hx hb dX12_look_0 rfl (lv_at hl 0 rfl) ?_
  obtain ⟨u_1, hu_1, hF_2⟩ := Option.bind_eq_some_iff.mp hF
  clear hF
  refine m_ci hsz hS (va_runV (As := []) (rest := []) ⟨hx, hb, hml, hown, hts⟩ (m_X12_isLight l dC dI cB cC cI cJ cZ cP h qK qS ad hDD s.heap.size  σ _ hu_1) (cwV 0 hts (g_gV wq_1755 wq_1756 wq_2194 wq_13 wq_1757) rfl rfl rfl (by decide +kernel) ⟨Nat.le_of_ble_eq_true rfl, Nat.le_of_ble_eq_true rfl⟩) (m_preV g_bl0 hsz hK hP hS hE hKS g_to0) rfl rfl hl.1 rfl (lv_room (Nat.le_of_ble_eq_true rfl)) dX12_look_1 ⟨Nat.le_of_ble_eq_true rfl, Nat.le_of_ble_eq_true rfl⟩) (fun H locs hP hS => ?_)
  refine lv_if_ne (tgt := 15) hx hb dX12_look_4 (by decide) (fun c_3 => ?_) (fun c_3 => ?_)
  · have hF_8 := ineg c_3 hF_2
    clear hF_2
    refine lv_aload_n hx hb dX12_look_15 rfl (lv_at hl 0 rfl) ?_
    refine va_get (D := (dC, dI)) (ci := 12) (v := .ref (ad 87)) (C := RX12) (T := TX12) (N := 123) hx hb hts ii_X12 hown hK hP 0 rfl rfl 87 (by decide) (hts (.fieldLink RX12 182 "StoryHouseModel" "holder" "[I") wq_1443) (fun _ h9 => h9) rfl dX12_look_16 ?_
    refine lv_iconst (v := 1) hx hb dX12_look_19 (by decide +kernel) ?_
    refine va_iald (f := u_1.2.2 87) hx hb hK hP 52 2 rfl rfl (vp_in_iff.mpr (by decide +kernel)) dX12_look_20 ?_
    obtain ⟨x_9, ex_9, hF_10⟩ := bnd_e hF_8
    clear hF_8
    refine m_top ex_9 ?_
    refine lv_istore_n (lv' := [(1, .int x_9), (0, .ref h)]) hx hb dX12_look_21 rfl hl (by decide) rfl (fun ls hl => ?_)
    refine lv_aload_n hx hb dX12_look_22 rfl (lv_at hl 1 rfl) ?_
    refine lv_iload_n hx hb dX12_look_23 rfl (lv_at hl 0 rfl) ?_
    obtain ⟨u_11, hu_11, hF_12⟩ := Option.bind_eq_some_iff.mp hF_10
    clear hF_10
    refine m_cv hsz hS (va_runV (As := [.int x_9]) (rest := []) ⟨hx, hb, hml, hown, hts⟩ (m_X12_sayName l dC dI cB cC cI cJ cZ cP h qK qS ad hDD H.size  x_9 u_1.2 _ hu_11) (cwV 1 hts (g_gV wq_1776 wq_1777 wq_2201 wq_13 wq_1778) rfl rfl rfl (by decide +kernel) ⟨Nat.le_of_ble_eq_true rfl, Nat.le_of_ble_eq_true rfl⟩) (m_preV g_bl0 hsz hK hP hS hE hKS g_to0) rfl rfl hl.1 rfl (lv_room (Nat.le_of_ble_eq_true rfl)) dX12_look_24 ⟨Nat.le_of_ble_eq_true rfl, Nat.le_of_ble_eq_true rfl⟩) (fun H locs hP hS => ?_)
    refine lv_aload_n hx hb dX12_look_27 rfl (lv_at hl 1 rfl) ?_
    refine lv_bipush (v := 10) hx hb dX12_look_28 (by decide +kernel) ?_
    obtain ⟨u_13, hu_13, hF_14⟩ := Option.bind_eq_some_iff.mp hF_12
    clear hF_12
    refine m_cv hsz hS (va_runV (As := [.int 10]) (rest := []) ⟨hx, hb, hml, hown, hts⟩ (m_X12_put l dC dI cB cC cI cJ cZ cP h qK qS ad hDD H.size  10 u_11.2 _ hu_13) (cwV 1 hts (g_gV wq_1773 wq_1774 wq_2200 wq_13 wq_1775) rfl rfl rfl (by decide +kernel) ⟨Nat.le_of_ble_eq_true rfl, Nat.le_of_ble_eq_true rfl⟩) (m_preV g_bl0 hsz hK hP hS hE hKS g_to0) rfl rfl hl.1 rfl (lv_room (Nat.le_of_ble_eq_true rfl)) dX12_look_30 ⟨Nat.le_of_ble_eq_true rfl, Nat.le_of_ble_eq_true rfl⟩) (fun H locs hP hS => ?_)
    refine lv_aload_n hx hb dX12_look_33 rfl (lv_at hl 1 rfl) ?_
    refine va_get (D := (dC, dI)) (ci := 12) (v := .ref (ad 122)) (C := RX12) (T := TX12) (N := 123) hx hb hts ii_X12 hown hK hP 0 rfl rfl 122 (by decide) (hts (.fieldLink RX12 237 "StoryHouseModel" "told" "[Z") wq_1478) (fun _ h9 => h9) rfl dX12_look_34 ?_
    refine lv_iload_n hx hb dX12_look_37 rfl (lv_at hl 0 rfl) ?_
    obtain ⟨g_15, hF_16⟩ := nif_e hF_14
    clear hF_14
    refine va_zald (f := u_13.2.2 122) hx hb hK hP 69 4 rfl rfl g_15 dX12_look_38 ?_
    obtain ⟨j_18, ej_18, hF_19⟩ := bnd_e hF_16
    clear hF_16
    have Jj_18 : ∀  (σ_17 : MS), j_18  σ_17 = some res → ∀ (H : Heap) (locs : List Loc), va_P (dC, dI) vwCl (mW cB cI cZ h qK qS ad σ_17) H → va_S (mCells h ad sz) s.heap H locs → ∀ ls : Array Slot, lv_has ls 4 [(0, .ref h), (1, .int x_9)] → W p l e (headSpec (g_ws yX12_look cX12_look 4 none) { frames := 128, cells := 0, slots := 0, locals := 2833 }).room s m ([.ref h] : List Value).toArray below meth c H locs 0 0 (MQ below (va_Qv (fun (_ : Unit) => True) (fun _ t => va_P (dC, dI) vwCl (mW cB cI cZ h qK qS ad res.2) t.heap) (mCells h ad sz)) ([.ref h] : List Value).toArray s 0 0 (mCells h ad sz)) (F0 m 64 ls []) := by
      intro  σ_17 hF0 H locs hP hS ls hl
      subst ej_18
      have hF_20 := hF0
      clear hF0
      refine lv_aload_n hx hb dX12_look_64 rfl (lv_at hl 0 rfl) ?_
      refine va_get (D := (dC, dI)) (ci := 12) (v := .ref (ad 88)) (C := RX12) (T := TX12) (N := 123) hx hb hts ii_X12 hown hK hP 0 rfl rfl 88 (by decide) (hts (.fieldLink RX12 185 "StoryHouseModel" "first" "[I") wq_1444) (fun _ h9 => h9) rfl dX12_look_65 ?_
      refine lv_iload_n hx hb dX12_look_68 rfl (lv_at hl 1 rfl) ?_
      obtain ⟨g_21, hF_22⟩ := nif_e hF_20
      clear hF_20
      refine va_iald (f := σ_17.2 88) hx hb hK hP 53 2 rfl rfl g_21 dX12_look_69 ?_
      obtain ⟨x_23, ex_23, hF_24⟩ := bnd_e hF_22
      clear hF_22
      refine m_top ex_23 ?_
      refine lv_istore_n (lv' := [(2, .int x_23), (0, .ref h), (1, .int x_9)]) hx hb dX12_look_70 rfl hl (by decide) rfl (fun ls hl => ?_)
      refine loopF_ind (P := fun (s_25 : Int32 × MS) => ∀ (H : Heap) (locs : List Loc), va_P (dC, dI) vwCl (mW cB cI cZ h qK qS ad s_25.2) H → va_S (mCells h ad sz) s.heap H locs → ∀ ls : Array Slot, lv_has ls 4 [(0, .ref h), (2, .int s_25.1)] → W p l e (headSpec (g_ws yX12_look cX12_look 4 none) { frames := 128, cells := 0, slots := 0, locals := 2833 }).room s m ([.ref h] : List Value).toArray below meth c H locs 0 0 (MQ below (va_Qv (fun (_ : Unit) => True) (fun _ t => va_P (dC, dI) vwCl (mW cB cI cZ h qK qS ad res.2) t.heap) (mCells h ad sz)) ([.ref h] : List Value).toArray s 0 0 (mCells h ad sz)) (F0 m 71 ls [])) ?_ _ _ hF_24 _ _ hP hS ls (lv_sub hl [1, 0] rfl)
      intro again_26 s_25 ih_27 hF_28
      intro H locs hP hS ls hl
      refine lv_iload_n hx hb dX12_look_71 rfl (lv_at hl 1 rfl) ?_
      refine lv_if_eq (tgt := 214) hx hb dX12_look_72 (by decide) (fun c_29 => ?_) (fun c_29 => ?_)
      · have hF_30 := ipos c_29 hF_28
        clear hF_28
        have h9 := Option.some.inj hF_30
        subst h9
        exact W.vret hx hb hr (fun t ht hW => ⟨⟨(), rfl, trivial, m_end ht hP⟩, hS.F ht⟩) hS.2.2 dX12_look_214
      · have hF_31 := ineg c_29 hF_28
        clear hF_28
        refine lv_iload_n hx hb dX12_look_75 rfl (lv_at hl 1 rfl) ?_
        refine lv_iconst (v := 1) hx hb dX12_look_76 (by decide +kernel) ?_
        obtain ⟨j_33, ej_33, hF_34⟩ := bnd_e hF_31
        clear hF_31
        have Jj_33 : ∀  (σ_32 : MS), j_33  σ_32 = some res → ∀ (H : Heap) (locs : List Loc), va_P (dC, dI) vwCl (mW cB cI cZ h qK qS ad σ_32) H → va_S (mCells h ad sz) s.heap H locs → ∀ ls : Array Slot, lv_has ls 4 [(0, .ref h), (2, .int s_25.1)] → W p l e (headSpec (g_ws yX12_look cX12_look 4 none) { frames := 128, cells := 0, slots := 0, locals := 2833 }).room s m ([.ref h] : List Value).toArray below meth c H locs 0 0 (MQ below (va_Qv (fun (_ : Unit) => True) (fun _ t => va_P (dC, dI) vwCl (mW cB cI cZ h qK qS ad res.2) t.heap) (mCells h ad sz)) ([.ref h] : List Value).toArray s 0 0 (mCells h ad sz)) (F0 m 204 ls []) := by
          intro  σ_32 hF0 H locs hP hS ls hl
          subst ej_33
          have hF_35 := hF0
          clear hF0
          refine lv_aload_n hx hb dX12_look_204 rfl (lv_at hl 0 rfl) ?_
          refine va_get (D := (dC, dI)) (ci := 12) (v := .ref (ad 89)) (C := RX12) (T := TX12) (N := 123) hx hb hts ii_X12 hown hK hP 0 rfl rfl 89 (by decide) (hts (.fieldLink RX12 188 "StoryHouseModel" "next" "[I") wq_1445) (fun _ h9 => h9) rfl dX12_look_205 ?_
          refine lv_iload_n hx hb dX12_look_208 rfl (lv_at hl 1 rfl) ?_
          obtain ⟨g_36, hF_37⟩ := nif_e hF_35
          clear hF_35
          refine va_iald (f := σ_32.2 89) hx hb hK hP 54 2 rfl rfl g_36 dX12_look_209 ?_
          obtain ⟨x_38, ex_38, hF_39⟩ := bnd_e hF_37
          clear hF_37
          refine m_top ex_38 ?_
          refine lv_istore_n (lv' := [(2, .int x_38), (0, .ref h)]) hx hb dX12_look_210 rfl hl (by decide) rfl (fun ls hl => ?_)
          refine lv_goto (tgt := 71) hx hb dX12_look_211 (by decide) ?_
          exact ih_27 (x_38, σ_32) hF_39 _ _ hP hS ls (lv_sub hl [1, 0] rfl)
        refine lv_icmp_eq (tgt := 204) hx hb dX12_look_77 (by decide) (fun c_40 => ?_) (fun c_40 => ?_)
        · have hF_41 := ipos c_40 hF_34
          clear hF_34
          exact Jj_33  s_25.2 hF_41 _ _ hP hS ls (lv_sub hl [0, 1] rfl)
        · have hF_42 := ineg c_40 hF_34
          clear hF_34
          refine lv_aload_n hx hb dX12_look_80 rfl (lv_at hl 0 rfl) ?_
          refine lv_iload_n hx hb dX12_look_81 rfl (lv_at hl 1 rfl) ?_
          refine lv_iconst (v := 2) hx hb dX12_look_82 (by decide +kernel) ?_
          refine lv_iconst (v := 1) hx hb dX12_look_83 (by decide +kernel) ?_
          obtain ⟨u_43, hu_43, hF_44⟩ := Option.bind_eq_some_iff.mp hF_42
          clear hF_42
          refine m_ci hsz hS (va_runV (As := [.int s_25.1, .int 2, .int 1]) (rest := []) ⟨hx, hb, hml, hown, hts⟩ (m_X12_has l dC dI cB cC cI cJ cZ cP h qK qS ad hDD H.size  s_25.1 2 1 s_25.2 _ hu_43) (cwV 3 hts (g_gV wq_1758 wq_1759 wq_2195 wq_13 wq_1760) rfl rfl rfl (by decide +kernel) ⟨Nat.le_of_ble_eq_true rfl, Nat.le_of_ble_eq_true rfl⟩) (m_preV g_bl0 hsz hK hP hS hE hKS g_to0) rfl rfl hl.1 rfl (lv_room (Nat.le_of_ble_eq_true rfl)) dX12_look_84 ⟨Nat.le_of_ble_eq_true rfl, Nat.le_of_ble_eq_true rfl⟩) (fun H locs hP hS => ?_)
          refine lv_if_eq (tgt := 93) hx hb dX12_look_87 (by decide) (fun c_45 => ?_) (fun c_45 => ?_)
          · have hF_46 := ipos c_45 hF_44
            clear hF_44
            refine lv_aload_n hx hb dX12_look_93 rfl (lv_at hl 0 rfl) ?_
            obtain ⟨q_47, vq_47, hRq_47, hSq_47⟩ := hE.2.2.2.2 _ (List.mem_of_getElem? (i := 102) rfl)
            refine g_ldcwS (own := RX12) (tx := "There is ") hx hb hown hRq_47 dX12_look_94 ?_
            obtain ⟨u_48, hu_48, hF_49⟩ := Option.bind_eq_some_iff.mp hF_46
            clear hF_46
            refine m_cv hsz hS (va_runV (As := [.ref q_47]) (rest := []) ⟨hx, hb, hml, hown, hts⟩ (m_X12_say l dC dI cB cC cI cJ cZ cP h qK qS ad hDD H.size q_47 _ ([84, 104, 101, 114, 101, 32, 105, 115, 32] : List Int32) u_43.2 _ hu_48) (cwV 1 hts (g_gV wq_1770 wq_1771 wq_2199 wq_13 wq_1772) rfl rfl rfl (by decide +kernel) ⟨Nat.le_of_ble_eq_true rfl, Nat.le_of_ble_eq_true rfl⟩) (m_preV g_blS hsz hK hP hS hE hKS (g_toS hSq_47 hS (m_narrow hS hsz))) rfl rfl hl.1 rfl (lv_room (Nat.le_of_ble_eq_true rfl)) dX12_look_97 ⟨Nat.le_of_ble_eq_true rfl, Nat.le_of_ble_eq_true rfl⟩) (fun H locs hP hS => ?_)
            refine lv_aload_n hx hb dX12_look_100 rfl (lv_at hl 0 rfl) ?_
            refine lv_iload_n hx hb dX12_look_101 rfl (lv_at hl 1 rfl) ?_
            obtain ⟨u_50, hu_50, hF_51⟩ := Option.bind_eq_some_iff.mp hF_49
            clear hF_49
            refine m_cv hsz hS (va_runV (As := [.int s_25.1]) (rest := []) ⟨hx, hb, hml, hown, hts⟩ (m_X12_sayName l dC dI cB cC cI cJ cZ cP h qK qS ad hDD H.size  s_25.1 u_48.2 _ hu_50) (cwV 1 hts (g_gV wq_1776 wq_1777 wq_2201 wq_13 wq_1778) rfl rfl rfl (by decide +kernel) ⟨Nat.le_of_ble_eq_true rfl, Nat.le_of_ble_eq_true rfl⟩) (m_preV g_bl0 hsz hK hP hS hE hKS g_to0) rfl rfl hl.1 rfl (lv_room (Nat.le_of_ble_eq_true rfl)) dX12_look_102 ⟨Nat.le_of_ble_eq_true rfl, Nat.le_of_ble_eq_true rfl⟩) (fun H locs hP hS => ?_)
            refine lv_aload_n hx hb dX12_look_105 rfl (lv_at hl 0 rfl) ?_
            obtain ⟨q_52, vq_52, hRq_52, hSq_52⟩ := hE.2.2.2.2 _ (List.mem_of_getElem? (i := 103) rfl)
            refine g_ldcwS (own := RX12) (tx := " here.") hx hb hown hRq_52 dX12_look_106 ?_
            obtain ⟨u_53, hu_53, hF_54⟩ := Option.bind_eq_some_iff.mp hF_51
            clear hF_51
            refine m_cv hsz hS (va_runV (As := [.ref q_52]) (rest := []) ⟨hx, hb, hml, hown, hts⟩ (m_X12_line l dC dI cB cC cI cJ cZ cP h qK qS ad hDD H.size q_52 _ ([32, 104, 101, 114, 101, 46] : List Int32) u_50.2 _ hu_53) (cwV 1 hts (g_gV wq_1767 wq_1768 wq_2198 wq_13 wq_1769) rfl rfl rfl (by decide +kernel) ⟨Nat.le_of_ble_eq_true rfl, Nat.le_of_ble_eq_true rfl⟩) (m_preV g_blS hsz hK hP hS hE hKS (g_toS hSq_52 hS (m_narrow hS hsz))) rfl rfl hl.1 rfl (lv_room (Nat.le_of_ble_eq_true rfl)) dX12_look_109 ⟨Nat.le_of_ble_eq_true rfl, Nat.le_of_ble_eq_true rfl⟩) (fun H locs hP hS => ?_)
            refine lv_aload_n hx hb dX12_look_112 rfl (lv_at hl 0 rfl) ?_
            refine lv_iload_n hx hb dX12_look_113 rfl (lv_at hl 1 rfl) ?_
            obtain ⟨u_55, hu_55, hF_56⟩ := Option.bind_eq_some_iff.mp hF_54
            clear hF_54
            refine m_ci hsz hS (va_runV (As := [.int s_25.1]) (rest := []) ⟨hx, hb, hml, hown, hts⟩ (m_X12_lets l dC dI cB cC cI cJ cZ cP h qK qS ad hDD H.size  s_25.1 u_53.2 _ hu_55) (cwV 1 hts (g_gV wq_1764 wq_1765 wq_2197 wq_13 wq_1766) rfl rfl rfl (by decide +kernel) ⟨Nat.le_of_ble_eq_true rfl, Nat.le_of_ble_eq_true rfl⟩) (m_preV g_bl0 hsz hK hP hS hE hKS g_to0) rfl rfl hl.1 rfl (lv_room (Nat.le_of_ble_eq_true rfl)) dX12_look_114 ⟨Nat.le_of_ble_eq_true rfl, Nat.le_of_ble_eq_true rfl⟩) (fun H locs hP hS => ?_)
            refine lv_if_ne (tgt := 123) hx hb dX12_look_117 (by decide) (fun c_57 => ?_) (fun c_57 => ?_)
            · have hF_59 := ineg c_57 hF_56
              clear hF_56
              refine lv_aload_n hx hb dX12_look_123 rfl (lv_at hl 0 rfl) ?_
              refine va_get (D := (dC, dI)) (ci := 12) (v := .ref (ad 88)) (C := RX12) (T := TX12) (N := 123) hx hb hts ii_X12 hown hK hP 0 rfl rfl 88 (by decide) (hts (.fieldLink RX12 185 "StoryHouseModel" "first" "[I") wq_1444) (fun _ h9 => h9) rfl dX12_look_124 ?_
              refine lv_iload_n hx hb dX12_look_127 rfl (lv_at hl 1 rfl) ?_
              obtain ⟨g_60, hF_61⟩ := nif_e hF_59
              clear hF_59
              refine va_iald (f := u_55.2.2 88) hx hb hK hP 53 2 rfl rfl g_60 dX12_look_128 ?_
              obtain ⟨x_62, ex_62, hF_63⟩ := bnd_e hF_61
              clear hF_61
              refine m_top ex_62 ?_
              refine lv_istore_n (lv' := [(3, .int x_62), (0, .ref h), (2, .int s_25.1)]) hx hb dX12_look_129 rfl hl (by decide) rfl (fun ls hl => ?_)
              refine loopF_ind (P := fun (s_64 : Int32 × MS) => ∀ (H : Heap) (locs : List Loc), va_P (dC, dI) vwCl (mW cB cI cZ h qK qS ad s_64.2) H → va_S (mCells h ad sz) s.heap H locs → ∀ ls : Array Slot, lv_has ls 4 [(0, .ref h), (2, .int s_25.1), (3, .int s_64.1)] → W p l e (headSpec (g_ws yX12_look cX12_look 4 none) { frames := 128, cells := 0, slots := 0, locals := 2833 }).room s m ([.ref h] : List Value).toArray below meth c H locs 0 0 (MQ below (va_Qv (fun (_ : Unit) => True) (fun _ t => va_P (dC, dI) vwCl (mW cB cI cZ h qK qS ad res.2) t.heap) (mCells h ad sz)) ([.ref h] : List Value).toArray s 0 0 (mCells h ad sz)) (F0 m 130 ls [])) ?_ _ _ hF_63 _ _ hP hS ls (lv_sub hl [1, 2, 0] rfl)
              intro again_65 s_64 ih_66 hF_67
              intro H locs hP hS ls hl
              refine lv_iload_n hx hb dX12_look_130 rfl (lv_at hl 2 rfl) ?_
              refine lv_if_eq (tgt := 204) hx hb dX12_look_131 (by decide) (fun c_68 => ?_) (fun c_68 => ?_)
              · have hF_69 := ipos c_68 hF_67
                clear hF_67
                exact Jj_33  s_64.2 hF_69 _ _ hP hS ls (lv_sub hl [0, 1] rfl)
              · have hF_70 := ineg c_68 hF_67
                clear hF_67
                refine lv_aload_n hx hb dX12_look_134 rfl (lv_at hl 0 rfl) ?_
                refine lv_iload_n hx hb dX12_look_135 rfl (lv_at hl 2 rfl) ?_
                refine lv_iconst (v := 2) hx hb dX12_look_136 (by decide +kernel) ?_
                refine lv_iconst (v := 1) hx hb dX12_look_137 (by decide +kernel) ?_
                obtain ⟨u_71, hu_71, hF_72⟩ := Option.bind_eq_some_iff.mp hF_70
                clear hF_70
                refine m_ci hsz hS (va_runV (As := [.int s_64.1, .int 2, .int 1]) (rest := []) ⟨hx, hb, hml, hown, hts⟩ (m_X12_has l dC dI cB cC cI cJ cZ cP h qK qS ad hDD H.size  s_64.1 2 1 s_64.2 _ hu_71) (cwV 3 hts (g_gV wq_1758 wq_1759 wq_2195 wq_13 wq_1760) rfl rfl rfl (by decide +kernel) ⟨Nat.le_of_ble_eq_true rfl, Nat.le_of_ble_eq_true rfl⟩) (m_preV g_bl0 hsz hK hP hS hE hKS g_to0) rfl rfl hl.1 rfl (lv_room (Nat.le_of_ble_eq_true rfl)) dX12_look_138 ⟨Nat.le_of_ble_eq_true rfl, Nat.le_of_ble_eq_true rfl⟩) (fun H locs hP hS => ?_)
                obtain ⟨j_74, ej_74, hF_75⟩ := bnd_e hF_72
                clear hF_72
                have Jj_74 : ∀  (σ_73 : MS), j_74  σ_73 = some res → ∀ (H : Heap) (locs : List Loc), va_P (dC, dI) vwCl (mW cB cI cZ h qK qS ad σ_73) H → va_S (mCells h ad sz) s.heap H locs → ∀ ls : Array Slot, lv_has ls 4 [(0, .ref h), (2, .int s_25.1), (3, .int s_64.1)] → W p l e (headSpec (g_ws yX12_look cX12_look 4 none) { frames := 128, cells := 0, slots := 0, locals := 2833 }).room s m ([.ref h] : List Value).toArray below meth c H locs 0 0 (MQ below (va_Qv (fun (_ : Unit) => True) (fun _ t => va_P (dC, dI) vwCl (mW cB cI cZ h qK qS ad res.2) t.heap) (mCells h ad sz)) ([.ref h] : List Value).toArray s 0 0 (mCells h ad sz)) (F0 m 194 ls []) := by
                  intro  σ_73 hF0 H locs hP hS ls hl
                  subst ej_74
                  have hF_76 := hF0
                  clear hF0
                  refine lv_aload_n hx hb dX12_look_194 rfl (lv_at hl 0 rfl) ?_
                  refine va_get (D := (dC, dI)) (ci := 12) (v := .ref (ad 89)) (C := RX12) (T := TX12) (N := 123) hx hb hts ii_X12 hown hK hP 0 rfl rfl 89 (by decide) (hts (.fieldLink RX12 188 "StoryHouseModel" "next" "[I") wq_1445) (fun _ h9 => h9) rfl dX12_look_195 ?_
                  refine lv_iload_n hx hb dX12_look_198 rfl (lv_at hl 2 rfl) ?_
                  obtain ⟨g_77, hF_78⟩ := nif_e hF_76
                  clear hF_76
                  refine va_iald (f := σ_73.2 89) hx hb hK hP 54 2 rfl rfl g_77 dX12_look_199 ?_
                  obtain ⟨x_79, ex_79, hF_80⟩ := bnd_e hF_78
                  clear hF_78
                  refine m_top ex_79 ?_
                  refine lv_istore_n (lv' := [(3, .int x_79), (0, .ref h), (2, .int s_25.1)]) hx hb dX12_look_200 rfl hl (by decide) rfl (fun ls hl => ?_)
                  refine lv_goto (tgt := 130) hx hb dX12_look_201 (by decide) ?_
                  exact ih_66 (x_79, σ_73) hF_80 _ _ hP hS ls (lv_sub hl [1, 2, 0] rfl)
                refine lv_if_eq (tgt := 147) hx hb dX12_look_141 (by decide) (fun c_81 => ?_) (fun c_81 => ?_)
                · have hF_82 := ipos c_81 hF_75
                  clear hF_75
                  refine lv_aload_n hx hb dX12_look_147 rfl (lv_at hl 0 rfl) ?_
                  refine lv_aload_n hx hb dX12_look_148 rfl (lv_at hl 0 rfl) ?_
                  refine lv_iload_n hx hb dX12_look_149 rfl (lv_at hl 1 rfl) ?_
                  refine lv_iconst (v := 5) hx hb dX12_look_150 (by decide +kernel) ?_
                  refine lv_iconst (v := 1) hx hb dX12_look_151 (by decide +kernel) ?_
                  obtain ⟨u_83, hu_83, hF_84⟩ := Option.bind_eq_some_iff.mp hF_82
                  clear hF_82
                  refine m_ci hsz hS (va_runV (As := [.int s_25.1, .int 5, .int 1]) (rest := [.ref h]) ⟨hx, hb, hml, hown, hts⟩ (m_X12_has l dC dI cB cC cI cJ cZ cP h qK qS ad hDD H.size  s_25.1 5 1 u_71.2 _ hu_83) (cwV 3 hts (g_gV wq_1758 wq_1759 wq_2195 wq_13 wq_1760) rfl rfl rfl (by decide +kernel) ⟨Nat.le_of_ble_eq_true rfl, Nat.le_of_ble_eq_true rfl⟩) (m_preV g_bl0 hsz hK hP hS hE hKS g_to0) rfl rfl hl.1 rfl (lv_room (Nat.le_of_ble_eq_true rfl)) dX12_look_152 ⟨Nat.le_of_ble_eq_true rfl, Nat.le_of_ble_eq_true rfl⟩) (fun H locs hP hS => ?_)
                  refine lv_if_eq (tgt := 164) hx hb dX12_look_155 (by decide) (fun c_85 => ?_) (fun c_85 => ?_)
                  · have hF_86 := ipos c_85 hF_84
                    clear hF_84
                    obtain ⟨q_87, vq_87, hRq_87, hSq_87⟩ := hE.2.2.2.2 _ (List.mem_of_getElem? (i := 105) rfl)
                    refine g_ldcwS (own := RX12) (tx := "In ") hx hb hown hRq_87 dX12_look_164 ?_
                    obtain ⟨u_88, hu_88, hF_89⟩ := Option.bind_eq_some_iff.mp hF_86
                    clear hF_86
                    refine m_cv hsz hS (va_runV (As := [.ref q_87]) (rest := []) ⟨hx, hb, hml, hown, hts⟩ (m_X12_say l dC dI cB cC cI cJ cZ cP h qK qS ad hDD H.size q_87 _ ([73, 110, 32] : List Int32) u_83.2 _ hu_88) (cwV 1 hts (g_gV wq_1770 wq_1771 wq_2199 wq_13 wq_1772) rfl rfl rfl (by decide +kernel) ⟨Nat.le_of_ble_eq_true rfl, Nat.le_of_ble_eq_true rfl⟩) (m_preV g_blS hsz hK hP hS hE hKS (g_toS hSq_87 hS (m_narrow hS hsz))) rfl rfl hl.1 rfl (lv_room (Nat.le_of_ble_eq_true rfl)) dX12_look_167 ⟨Nat.le_of_ble_eq_true rfl, Nat.le_of_ble_eq_true rfl⟩) (fun H locs hP hS => ?_)
                    refine lv_aload_n hx hb dX12_look_170 rfl (lv_at hl 0 rfl) ?_
                    refine lv_iload_n hx hb dX12_look_171 rfl (lv_at hl 1 rfl) ?_
                    obtain ⟨u_90, hu_90, hF_91⟩ := Option.bind_eq_some_iff.mp hF_89
                    clear hF_89
                    refine m_cv hsz hS (va_runV (As := [.int s_25.1]) (rest := []) ⟨hx, hb, hml, hown, hts⟩ (m_X12_sayName l dC dI cB cC cI cJ cZ cP h qK qS ad hDD H.size  s_25.1 u_88.2 _ hu_90) (cwV 1 hts (g_gV wq_1776 wq_1777 wq_2201 wq_13 wq_1778) rfl rfl rfl (by decide +kernel) ⟨Nat.le_of_ble_eq_true rfl, Nat.le_of_ble_eq_true rfl⟩) (m_preV g_bl0 hsz hK hP hS hE hKS g_to0) rfl rfl hl.1 rfl (lv_room (Nat.le_of_ble_eq_true rfl)) dX12_look_172 ⟨Nat.le_of_ble_eq_true rfl, Nat.le_of_ble_eq_true rfl⟩) (fun H locs hP hS => ?_)
                    refine lv_aload_n hx hb dX12_look_175 rfl (lv_at hl 0 rfl) ?_
                    obtain ⟨q_92, vq_92, hRq_92, hSq_92⟩ := hE.2.2.2.2 _ (List.mem_of_getElem? (i := 106) rfl)
                    refine g_ldcwS (own := RX12) (tx := " there is ") hx hb hown hRq_92 dX12_look_176 ?_
                    obtain ⟨u_93, hu_93, hF_94⟩ := Option.bind_eq_some_iff.mp hF_91
                    clear hF_91
                    refine m_cv hsz hS (va_runV (As := [.ref q_92]) (rest := []) ⟨hx, hb, hml, hown, hts⟩ (m_X12_say l dC dI cB cC cI cJ cZ cP h qK qS ad hDD H.size q_92 _ ([32, 116, 104, 101, 114, 101, 32, 105, 115, 32] : List Int32) u_90.2 _ hu_93) (cwV 1 hts (g_gV wq_1770 wq_1771 wq_2199 wq_13 wq_1772) rfl rfl rfl (by decide +kernel) ⟨Nat.le_of_ble_eq_true rfl, Nat.le_of_ble_eq_true rfl⟩) (m_preV g_blS hsz hK hP hS hE hKS (g_toS hSq_92 hS (m_narrow hS hsz))) rfl rfl hl.1 rfl (lv_room (Nat.le_of_ble_eq_true rfl)) dX12_look_179 ⟨Nat.le_of_ble_eq_true rfl, Nat.le_of_ble_eq_true rfl⟩) (fun H locs hP hS => ?_)
                    refine lv_aload_n hx hb dX12_look_182 rfl (lv_at hl 0 rfl) ?_
                    refine lv_iload_n hx hb dX12_look_183 rfl (lv_at hl 2 rfl) ?_
                    obtain ⟨u_95, hu_95, hF_96⟩ := Option.bind_eq_some_iff.mp hF_94
                    clear hF_94
                    refine m_cv hsz hS (va_runV (As := [.int s_64.1]) (rest := []) ⟨hx, hb, hml, hown, hts⟩ (m_X12_sayName l dC dI cB cC cI cJ cZ cP h qK qS ad hDD H.size  s_64.1 u_93.2 _ hu_95) (cwV 1 hts (g_gV wq_1776 wq_1777 wq_2201 wq_13 wq_1778) rfl rfl rfl (by decide +kernel) ⟨Nat.le_of_ble_eq_true rfl, Nat.le_of_ble_eq_true rfl⟩) (m_preV g_bl0 hsz hK hP hS hE hKS g_to0) rfl rfl hl.1 rfl (lv_room (Nat.le_of_ble_eq_true rfl)) dX12_look_184 ⟨Nat.le_of_ble_eq_true rfl, Nat.le_of_ble_eq_true rfl⟩) (fun H locs hP hS => ?_)
                    refine lv_aload_n hx hb dX12_look_187 rfl (lv_at hl 0 rfl) ?_
                    obtain ⟨q_97, vq_97, hRq_97, hSq_97⟩ := hE.2.2.2.2 _ (List.mem_of_getElem? (i := 107) rfl)
                    refine g_ldcwS (own := RX12) (tx := ".") hx hb hown hRq_97 dX12_look_188 ?_
                    obtain ⟨u_98, hu_98, hF_99⟩ := Option.bind_eq_some_iff.mp hF_96
                    clear hF_96
                    refine m_cv hsz hS (va_runV (As := [.ref q_97]) (rest := []) ⟨hx, hb, hml, hown, hts⟩ (m_X12_line l dC dI cB cC cI cJ cZ cP h qK qS ad hDD H.size q_97 _ ([46] : List Int32) u_95.2 _ hu_98) (cwV 1 hts (g_gV wq_1767 wq_1768 wq_2198 wq_13 wq_1769) rfl rfl rfl (by decide +kernel) ⟨Nat.le_of_ble_eq_true rfl, Nat.le_of_ble_eq_true rfl⟩) (m_preV g_blS hsz hK hP hS hE hKS (g_toS hSq_97 hS (m_narrow hS hsz))) rfl rfl hl.1 rfl (lv_room (Nat.le_of_ble_eq_true rfl)) dX12_look_191 ⟨Nat.le_of_ble_eq_true rfl, Nat.le_of_ble_eq_true rfl⟩) (fun H locs hP hS => ?_)
                    exact Jj_74  u_98.2 hF_99 _ _ hP hS ls (lv_sub hl [0, 1, 2] rfl)
                  · have hF_100 := ineg c_85 hF_84
                    clear hF_84
                    obtain ⟨q_101, vq_101, hRq_101, hSq_101⟩ := hE.2.2.2.2 _ (List.mem_of_getElem? (i := 104) rfl)
                    refine g_ldcwS (own := RX12) (tx := "On ") hx hb hown hRq_101 dX12_look_158 ?_
                    refine lv_goto (tgt := 167) hx hb dX12_look_161 (by decide) ?_
                    obtain ⟨u_102, hu_102, hF_103⟩ := Option.bind_eq_some_iff.mp hF_100
                    clear hF_100
                    refine m_cv hsz hS (va_runV (As := [.ref q_101]) (rest := []) ⟨hx, hb, hml, hown, hts⟩ (m_X12_say l dC dI cB cC cI cJ cZ cP h qK qS ad hDD H.size q_101 _ ([79, 110, 32] : List Int32) u_83.2 _ hu_102) (cwV 1 hts (g_gV wq_1770 wq_1771 wq_2199 wq_13 wq_1772) rfl rfl rfl (by decide +kernel) ⟨Nat.le_of_ble_eq_true rfl, Nat.le_of_ble_eq_true rfl⟩) (m_preV g_blS hsz hK hP hS hE hKS (g_toS hSq_101 hS (m_narrow hS hsz))) rfl rfl hl.1 rfl (lv_room (Nat.le_of_ble_eq_true rfl)) dX12_look_167 ⟨Nat.le_of_ble_eq_true rfl, Nat.le_of_ble_eq_true rfl⟩) (fun H locs hP hS => ?_)
                    refine lv_aload_n hx hb dX12_look_170 rfl (lv_at hl 0 rfl) ?_
                    refine lv_iload_n hx hb dX12_look_171 rfl (lv_at hl 1 rfl) ?_
                    obtain ⟨u_104, hu_104, hF_105⟩ := Option.bind_eq_some_iff.mp hF_103
                    clear hF_103
                    refine m_cv hsz hS (va_runV (As := [.int s_25.1]) (rest := []) ⟨hx, hb, hml, hown, hts⟩ (m_X12_sayName l dC dI cB cC cI cJ cZ cP h qK qS ad hDD H.size  s_25.1 u_102.2 _ hu_104) (cwV 1 hts (g_gV wq_1776 wq_1777 wq_2201 wq_13 wq_1778) rfl rfl rfl (by decide +kernel) ⟨Nat.le_of_ble_eq_true rfl, Nat.le_of_ble_eq_true rfl⟩) (m_preV g_bl0 hsz hK hP hS hE hKS g_to0) rfl rfl hl.1 rfl (lv_room (Nat.le_of_ble_eq_true rfl)) dX12_look_172 ⟨Nat.le_of_ble_eq_true rfl, Nat.le_of_ble_eq_true rfl⟩) (fun H locs hP hS => ?_)
                    refine lv_aload_n hx hb dX12_look_175 rfl (lv_at hl 0 rfl) ?_
                    obtain ⟨q_106, vq_106, hRq_106, hSq_106⟩ := hE.2.2.2.2 _ (List.mem_of_getElem? (i := 106) rfl)
                    refine g_ldcwS (own := RX12) (tx := " there is ") hx hb hown hRq_106 dX12_look_176 ?_
                    obtain ⟨u_107, hu_107, hF_108⟩ := Option.bind_eq_some_iff.mp hF_105
                    clear hF_105
                    refine m_cv hsz hS (va_runV (As := [.ref q_106]) (rest := []) ⟨hx, hb, hml, hown, hts⟩ (m_X12_say l dC dI cB cC cI cJ cZ cP h qK qS ad hDD H.size q_106 _ ([32, 116, 104, 101, 114, 101, 32, 105, 115, 32] : List Int32) u_104.2 _ hu_107) (cwV 1 hts (g_gV wq_1770 wq_1771 wq_2199 wq_13 wq_1772) rfl rfl rfl (by decide +kernel) ⟨Nat.le_of_ble_eq_true rfl, Nat.le_of_ble_eq_true rfl⟩) (m_preV g_blS hsz hK hP hS hE hKS (g_toS hSq_106 hS (m_narrow hS hsz))) rfl rfl hl.1 rfl (lv_room (Nat.le_of_ble_eq_true rfl)) dX12_look_179 ⟨Nat.le_of_ble_eq_true rfl, Nat.le_of_ble_eq_true rfl⟩) (fun H locs hP hS => ?_)
                    refine lv_aload_n hx hb dX12_look_182 rfl (lv_at hl 0 rfl) ?_
                    refine lv_iload_n hx hb dX12_look_183 rfl (lv_at hl 2 rfl) ?_
                    obtain ⟨u_109, hu_109, hF_110⟩ := Option.bind_eq_some_iff.mp hF_108
                    clear hF_108
                    refine m_cv hsz hS (va_runV (As := [.int s_64.1]) (rest := []) ⟨hx, hb, hml, hown, hts⟩ (m_X12_sayName l dC dI cB cC cI cJ cZ cP h qK qS ad hDD H.size  s_64.1 u_107.2 _ hu_109) (cwV 1 hts (g_gV wq_1776 wq_1777 wq_2201 wq_13 wq_1778) rfl rfl rfl (by decide +kernel) ⟨Nat.le_of_ble_eq_true rfl, Nat.le_of_ble_eq_true rfl⟩) (m_preV g_bl0 hsz hK hP hS hE hKS g_to0) rfl rfl hl.1 rfl (lv_room (Nat.le_of_ble_eq_true rfl)) dX12_look_184 ⟨Nat.le_of_ble_eq_true rfl, Nat.le_of_ble_eq_true rfl⟩) (fun H locs hP hS => ?_)
                    refine lv_aload_n hx hb dX12_look_187 rfl (lv_at hl 0 rfl) ?_
                    obtain ⟨q_111, vq_111, hRq_111, hSq_111⟩ := hE.2.2.2.2 _ (List.mem_of_getElem? (i := 107) rfl)
                    refine g_ldcwS (own := RX12) (tx := ".") hx hb hown hRq_111 dX12_look_188 ?_
                    obtain ⟨u_112, hu_112, hF_113⟩ := Option.bind_eq_some_iff.mp hF_110
                    clear hF_110
                    refine m_cv hsz hS (va_runV (As := [.ref q_111]) (rest := []) ⟨hx, hb, hml, hown, hts⟩ (m_X12_line l dC dI cB cC cI cJ cZ cP h qK qS ad hDD H.size q_111 _ ([46] : List Int32) u_109.2 _ hu_112) (cwV 1 hts (g_gV wq_1767 wq_1768 wq_2198 wq_13 wq_1769) rfl rfl rfl (by decide +kernel) ⟨Nat.le_of_ble_eq_true rfl, Nat.le_of_ble_eq_true rfl⟩) (m_preV g_blS hsz hK hP hS hE hKS (g_toS hSq_111 hS (m_narrow hS hsz))) rfl rfl hl.1 rfl (lv_room (Nat.le_of_ble_eq_true rfl)) dX12_look_191 ⟨Nat.le_of_ble_eq_true rfl, Nat.le_of_ble_eq_true rfl⟩) (fun H locs hP hS => ?_)
                    exact Jj_74  u_112.2 hF_113 _ _ hP hS ls (lv_sub hl [0, 1, 2] rfl)
                · have hF_114 := ineg c_81 hF_75
                  clear hF_75
                  refine lv_goto (tgt := 194) hx hb dX12_look_144 (by decide) ?_
                  exact Jj_74  u_71.2 hF_114 _ _ hP hS ls (lv_sub hl [0, 1, 2] rfl)
            · have hF_58 := ipos c_57 hF_56
              clear hF_56
              refine lv_goto (tgt := 204) hx hb dX12_look_120 (by decide) ?_
              exact Jj_33  u_55.2 hF_58 _ _ hP hS ls (lv_sub hl [0, 1] rfl)
          · have hF_115 := ineg c_45 hF_44
            clear hF_44
            refine lv_goto (tgt := 204) hx hb dX12_look_90 (by decide) ?_
            exact Jj_33  u_43.2 hF_115 _ _ hP hS ls (lv_sub hl [0, 1] rfl)
    refine lv_if_eq (tgt := 64) hx hb dX12_look_39 (by decide) (fun c_116 => ?_) (fun c_116 => ?_)
    · have hF_117 := ipos c_116 hF_19
      clear hF_19
      exact Jj_18  u_13.2 hF_117 _ _ hP hS ls (lv_sub hl [1, 0] rfl)
    · have hF_118 := ineg c_116 hF_19
      clear hF_19
      refine lv_aload_n hx hb dX12_look_42 rfl (lv_at hl 1 rfl) ?_
      refine lv_aload_n hx hb dX12_look_43 rfl (lv_at hl 1 rfl) ?_
      refine va_get (D := (dC, dI)) (ci := 12) (v := .ref (ad 48)) (C := RX12) (T := TX12) (N := 123) hx hb hts ii_X12 hown hK hP 0 rfl rfl 48 (by decide) (hts (.fieldLink RX12 91 "StoryHouseModel" "textAt" "[I") wq_1404) (fun _ h9 => h9) rfl dX12_look_44 ?_
      refine lv_iload_n hx hb dX12_look_47 rfl (lv_at hl 0 rfl) ?_
      obtain ⟨g_119, hF_120⟩ := nif_e hF_118
      clear hF_118
      refine va_iald (f := u_13.2.2 48) hx hb hK hP 22 2 rfl rfl g_119 dX12_look_48 ?_
      refine lv_aload_n hx hb dX12_look_49 rfl (lv_at hl 1 rfl) ?_
      refine va_get (D := (dC, dI)) (ci := 12) (v := .ref (ad 49)) (C := RX12) (T := TX12) (N := 123) hx hb hts ii_X12 hown hK hP 0 rfl rfl 49 (by decide) (hts (.fieldLink RX12 94 "StoryHouseModel" "textSize" "[I") wq_1405) (fun _ h9 => h9) rfl dX12_look_50 ?_
      refine lv_iload_n hx hb dX12_look_53 rfl (lv_at hl 0 rfl) ?_
      obtain ⟨g_121, hF_122⟩ := nif_e hF_120
      clear hF_120
      refine va_iald (f := u_13.2.2 49) hx hb hK hP 23 2 rfl rfl g_121 dX12_look_54 ?_
      obtain ⟨u_123, hu_123, hF_124⟩ := Option.bind_eq_some_iff.mp hF_122
      clear hF_122
      refine m_cv hsz hS (va_runV (As := [.int (u_13.2.2 48 x_9.toNatClampNeg), .int (u_13.2.2 49 x_9.toNatClampNeg)]) (rest := []) ⟨hx, hb, hml, hown, hts⟩ (m_X12_sayText l dC dI cB cC cI cJ cZ cP h qK qS ad hDD H.size  (u_13.2.2 48 x_9.toNatClampNeg) (u_13.2.2 49 x_9.toNatClampNeg) u_13.2 _ hu_123) (cwV 2 hts (g_gV wq_1779 wq_1780 wq_2202 wq_13 wq_1781) rfl rfl rfl (by decide +kernel) ⟨Nat.le_of_ble_eq_true rfl, Nat.le_of_ble_eq_true rfl⟩) (m_preV g_bl0 hsz hK hP hS hE hKS g_to0) rfl rfl hl.1 rfl (lv_room (Nat.le_of_ble_eq_true rfl)) dX12_look_55 ⟨Nat.le_of_ble_eq_true rfl, Nat.le_of_ble_eq_true rfl⟩) (fun H locs hP hS => ?_)
      refine lv_aload_n hx hb dX12_look_58 rfl (lv_at hl 1 rfl) ?_
      refine lv_bipush (v := 10) hx hb dX12_look_59 (by decide +kernel) ?_
      obtain ⟨u_125, hu_125, hF_126⟩ := Option.bind_eq_some_iff.mp hF_124
      clear hF_124
      refine m_cv hsz hS (va_runV (As := [.int 10]) (rest := []) ⟨hx, hb, hml, hown, hts⟩ (m_X12_put l dC dI cB cC cI cJ cZ cP h qK qS ad hDD H.size  10 u_123.2 _ hu_125) (cwV 1 hts (g_gV wq_1773 wq_1774 wq_2200 wq_13 wq_1775) rfl rfl rfl (by decide +kernel) ⟨Nat.le_of_ble_eq_true rfl, Nat.le_of_ble_eq_true rfl⟩) (m_preV g_bl0 hsz hK hP hS hE hKS g_to0) rfl rfl hl.1 rfl (lv_room (Nat.le_of_ble_eq_true rfl)) dX12_look_61 ⟨Nat.le_of_ble_eq_true rfl, Nat.le_of_ble_eq_true rfl⟩) (fun H locs hP hS => ?_)
      exact Jj_18  u_125.2 hF_126 _ _ hP hS ls (lv_sub hl [1, 0] rfl)
  · have hF_4 := ipos c_3 hF_2
    clear hF_2
    refine lv_aload_n hx hb dX12_look_7 rfl (lv_at hl 0 rfl) ?_
    obtain ⟨q_5, vq_5, hRq_5, hSq_5⟩ := hE.2.2.2.2 _ (List.mem_of_getElem? (i := 100) rfl)
    refine g_ldcwS (own := RX12) (tx := "It is dark.") hx hb hown hRq_5 dX12_look_8 ?_
    obtain ⟨u_6, hu_6, hF_7⟩ := Option.bind_eq_some_iff.mp hF_4
    clear hF_4
    refine m_cv hsz hS (va_runV (As := [.ref q_5]) (rest := []) ⟨hx, hb, hml, hown, hts⟩ (m_X12_line l dC dI cB cC cI cJ cZ cP h qK qS ad hDD H.size q_5 _ ([73, 116, 32, 105, 115, 32, 100, 97, 114, 107, 46] : List Int32) u_1.2 _ hu_6) (cwV 1 hts (g_gV wq_1767 wq_1768 wq_2198 wq_13 wq_1769) rfl rfl rfl (by decide +kernel) ⟨Nat.le_of_ble_eq_true rfl, Nat.le_of_ble_eq_true rfl⟩) (m_preV g_blS hsz hK hP hS hE hKS (g_toS hSq_5 hS (m_narrow hS hsz))) rfl rfl hl.1 rfl (lv_room (Nat.le_of_ble_eq_true rfl)) dX12_look_11 ⟨Nat.le_of_ble_eq_true rfl, Nat.le_of_ble_eq_true rfl⟩) (fun H locs hP hS => ?_)
    have h9 := Option.some.inj hF_7
    subst h9
    exact W.vret hx hb hr (fun t ht hW => ⟨⟨(), rfl, trivial, m_end ht hP⟩, hS.F ht⟩) hS.2.2 dX12_look_14
theorem dX12_begin_0 : decode cX12_begin 0 = .ok (.aload_n 0, 1) := by decide +kernel
theorem dX12_begin_1 : decode cX12_begin 1 = .ok (.aload_n 0, 1) := by decide +kernel
theorem dX12_begin_2 : decode cX12_begin 2 = .ok (.getfield 597, 3) := by decide +kernel
theorem dX12_begin_5 : decode cX12_begin 5 = .ok (.ifCond .eq 7, 3) := by decide +kernel
theorem dX12_begin_8 : decode cX12_begin 8 = .ok (.iconst 0, 1) := by decide +kernel
theorem dX12_begin_9 : decode cX12_begin 9 = .ok (.goto 4, 3) := by decide +kernel
theorem dX12_begin_12 : decode cX12_begin 12 = .ok (.iconst 1, 1) := by decide +kernel
theorem dX12_begin_13 : decode cX12_begin 13 = .ok (.invokevirtual 562, 3) := by decide +kernel
theorem dX12_begin_16 : decode cX12_begin 16 = .ok (.ifCond .eq 4, 3) := by decide +kernel
theorem dX12_begin_19 : decode cX12_begin 19 = .ok (.return_, 1) := by decide +kernel
theorem dX12_begin_20 : decode cX12_begin 20 = .ok (.aload_n 0, 1) := by decide +kernel
theorem dX12_begin_21 : decode cX12_begin 21 = .ok (.iconst 1, 1) := by decide +kernel
theorem dX12_begin_22 : decode cX12_begin 22 = .ok (.putfield 600, 3) := by decide +kernel
theorem dX12_begin_25 : decode cX12_begin 25 = .ok (.aload_n 0, 1) := by decide +kernel
theorem dX12_begin_26 : decode cX12_begin 26 = .ok (.iconst 0, 1) := by decide +kernel
theorem dX12_begin_27 : decode cX12_begin 27 = .ok (.putfield 668, 3) := by decide +kernel
theorem dX12_begin_30 : decode cX12_begin 30 = .ok (.aload_n 0, 1) := by decide +kernel
theorem dX12_begin_31 : decode cX12_begin 31 = .ok (.iconst 0, 1) := by decide +kernel
theorem dX12_begin_32 : decode cX12_begin 32 = .ok (.putfield 786, 3) := by decide +kernel
theorem dX12_begin_35 : decode cX12_begin 35 = .ok (.iconst 0, 1) := by decide +kernel
theorem dX12_begin_36 : decode cX12_begin 36 = .ok (.istore_n 2, 1) := by decide +kernel
theorem dX12_begin_37 : decode cX12_begin 37 = .ok (.iload_n 2, 1) := by decide +kernel
theorem dX12_begin_38 : decode cX12_begin 38 = .ok (.bipush 121, 2) := by decide +kernel
theorem dX12_begin_40 : decode cX12_begin 40 = .ok (.if_icmp .ge 30, 3) := by decide +kernel
theorem dX12_begin_43 : decode cX12_begin 43 = .ok (.aload_n 0, 1) := by decide +kernel
theorem dX12_begin_44 : decode cX12_begin 44 = .ok (.getfield 182, 3) := by decide +kernel
theorem dX12_begin_47 : decode cX12_begin 47 = .ok (.iload_n 2, 1) := by decide +kernel
theorem dX12_begin_48 : decode cX12_begin 48 = .ok (.iconst 0, 1) := by decide +kernel
theorem dX12_begin_49 : decode cX12_begin 49 = .ok (.iastore, 1) := by decide +kernel
theorem dX12_begin_50 : decode cX12_begin 50 = .ok (.aload_n 0, 1) := by decide +kernel
theorem dX12_begin_51 : decode cX12_begin 51 = .ok (.getfield 185, 3) := by decide +kernel
theorem dX12_begin_54 : decode cX12_begin 54 = .ok (.iload_n 2, 1) := by decide +kernel
theorem dX12_begin_55 : decode cX12_begin 55 = .ok (.iconst 0, 1) := by decide +kernel
theorem dX12_begin_56 : decode cX12_begin 56 = .ok (.iastore, 1) := by decide +kernel
theorem dX12_begin_57 : decode cX12_begin 57 = .ok (.aload_n 0, 1) := by decide +kernel
theorem dX12_begin_58 : decode cX12_begin 58 = .ok (.getfield 188, 3) := by decide +kernel
theorem dX12_begin_61 : decode cX12_begin 61 = .ok (.iload_n 2, 1) := by decide +kernel
theorem dX12_begin_62 : decode cX12_begin 62 = .ok (.iconst 0, 1) := by decide +kernel
theorem dX12_begin_63 : decode cX12_begin 63 = .ok (.iastore, 1) := by decide +kernel
theorem dX12_begin_64 : decode cX12_begin 64 = .ok (.iinc 2 1, 3) := by decide +kernel
theorem dX12_begin_67 : decode cX12_begin 67 = .ok (.goto (-30), 3) := by decide +kernel
theorem dX12_begin_70 : decode cX12_begin 70 = .ok (.iconst 0, 1) := by decide +kernel
theorem dX12_begin_71 : decode cX12_begin 71 = .ok (.istore_n 2, 1) := by decide +kernel
theorem dX12_begin_72 : decode cX12_begin 72 = .ok (.iload_n 2, 1) := by decide +kernel
theorem dX12_begin_73 : decode cX12_begin 73 = .ok (.sipush 847, 3) := by decide +kernel
theorem dX12_begin_76 : decode cX12_begin 76 = .ok (.if_icmp .ge 21, 3) := by decide +kernel
theorem dX12_begin_79 : decode cX12_begin 79 = .ok (.aload_n 0, 1) := by decide +kernel
theorem dX12_begin_80 : decode cX12_begin 80 = .ok (.getfield 191, 3) := by decide +kernel
theorem dX12_begin_83 : decode cX12_begin 83 = .ok (.iload_n 2, 1) := by decide +kernel
theorem dX12_begin_84 : decode cX12_begin 84 = .ok (.aload_n 0, 1) := by decide +kernel
theorem dX12_begin_85 : decode cX12_begin 85 = .ok (.getfield 107, 3) := by decide +kernel
theorem dX12_begin_88 : decode cX12_begin 88 = .ok (.iload_n 2, 1) := by decide +kernel
theorem dX12_begin_89 : decode cX12_begin 89 = .ok (.baload, 1) := by decide +kernel
theorem dX12_begin_90 : decode cX12_begin 90 = .ok (.bastore, 1) := by decide +kernel
theorem dX12_begin_91 : decode cX12_begin 91 = .ok (.iinc 2 1, 3) := by decide +kernel
theorem dX12_begin_94 : decode cX12_begin 94 = .ok (.goto (-22), 3) := by decide +kernel
theorem dX12_begin_97 : decode cX12_begin 97 = .ok (.aload_n 0, 1) := by decide +kernel
theorem dX12_begin_98 : decode cX12_begin 98 = .ok (.iconst 1, 1) := by decide +kernel
theorem dX12_begin_99 : decode cX12_begin 99 = .ok (.aload_n 0, 1) := by decide +kernel
theorem dX12_begin_100 : decode cX12_begin 100 = .ok (.getfield 621, 3) := by decide +kernel
theorem dX12_begin_103 : decode cX12_begin 103 = .ok (.invokevirtual 777, 3) := by decide +kernel
theorem dX12_begin_106 : decode cX12_begin 106 = .ok (.iconst 2, 1) := by decide +kernel
theorem dX12_begin_107 : decode cX12_begin 107 = .ok (.istore_n 2, 1) := by decide +kernel
theorem dX12_begin_108 : decode cX12_begin 108 = .ok (.iload_n 2, 1) := by decide +kernel
theorem dX12_begin_109 : decode cX12_begin 109 = .ok (.aload_n 0, 1) := by decide +kernel
theorem dX12_begin_110 : decode cX12_begin 110 = .ok (.getfield 587, 3) := by decide +kernel
theorem dX12_begin_113 : decode cX12_begin 113 = .ok (.if_icmp .gt 29, 3) := by decide +kernel
theorem dX12_begin_116 : decode cX12_begin 116 = .ok (.aload_n 0, 1) := by decide +kernel
theorem dX12_begin_117 : decode cX12_begin 117 = .ok (.getfield 104, 3) := by decide +kernel
theorem dX12_begin_120 : decode cX12_begin 120 = .ok (.iload_n 2, 1) := by decide +kernel
theorem dX12_begin_121 : decode cX12_begin 121 = .ok (.iaload, 1) := by decide +kernel
theorem dX12_begin_122 : decode cX12_begin 122 = .ok (.ifCond .le 14, 3) := by decide +kernel
theorem dX12_begin_125 : decode cX12_begin 125 = .ok (.aload_n 0, 1) := by decide +kernel
theorem dX12_begin_126 : decode cX12_begin 126 = .ok (.iload_n 2, 1) := by decide +kernel
theorem dX12_begin_127 : decode cX12_begin 127 = .ok (.aload_n 0, 1) := by decide +kernel
theorem dX12_begin_128 : decode cX12_begin 128 = .ok (.getfield 104, 3) := by decide +kernel
theorem dX12_begin_131 : decode cX12_begin 131 = .ok (.iload_n 2, 1) := by decide +kernel
theorem dX12_begin_132 : decode cX12_begin 132 = .ok (.iaload, 1) := by decide +kernel
theorem dX12_begin_133 : decode cX12_begin 133 = .ok (.invokevirtual 777, 3) := by decide +kernel
theorem dX12_begin_136 : decode cX12_begin 136 = .ok (.iinc 2 1, 3) := by decide +kernel
theorem dX12_begin_139 : decode cX12_begin 139 = .ok (.goto (-31), 3) := by decide +kernel
theorem dX12_begin_142 : decode cX12_begin 142 = .ok (.iconst 0, 1) := by decide +kernel
theorem dX12_begin_143 : decode cX12_begin 143 = .ok (.istore_n 2, 1) := by decide +kernel
theorem dX12_begin_144 : decode cX12_begin 144 = .ok (.iload_n 2, 1) := by decide +kernel
theorem dX12_begin_145 : decode cX12_begin 145 = .ok (.aload_n 0, 1) := by decide +kernel
theorem dX12_begin_146 : decode cX12_begin 146 = .ok (.getfield 606, 3) := by decide +kernel
theorem dX12_begin_149 : decode cX12_begin 149 = .ok (.if_icmp .ge 21, 3) := by decide +kernel
theorem dX12_begin_152 : decode cX12_begin 152 = .ok (.aload_n 0, 1) := by decide +kernel
theorem dX12_begin_153 : decode cX12_begin 153 = .ok (.getfield 194, 3) := by decide +kernel
theorem dX12_begin_156 : decode cX12_begin 156 = .ok (.iload_n 2, 1) := by decide +kernel
theorem dX12_begin_157 : decode cX12_begin 157 = .ok (.aload_n 0, 1) := by decide +kernel
theorem dX12_begin_158 : decode cX12_begin 158 = .ok (.getfield 173, 3) := by decide +kernel
theorem dX12_begin_161 : decode cX12_begin 161 = .ok (.iload_n 2, 1) := by decide +kernel
theorem dX12_begin_162 : decode cX12_begin 162 = .ok (.iaload, 1) := by decide +kernel
theorem dX12_begin_163 : decode cX12_begin 163 = .ok (.iastore, 1) := by decide +kernel
theorem dX12_begin_164 : decode cX12_begin 164 = .ok (.iinc 2 1, 3) := by decide +kernel
theorem dX12_begin_167 : decode cX12_begin 167 = .ok (.goto (-23), 3) := by decide +kernel
theorem dX12_begin_170 : decode cX12_begin 170 = .ok (.iconst 0, 1) := by decide +kernel
theorem dX12_begin_171 : decode cX12_begin 171 = .ok (.istore_n 2, 1) := by decide +kernel
theorem dX12_begin_172 : decode cX12_begin 172 = .ok (.iload_n 2, 1) := by decide +kernel
theorem dX12_begin_173 : decode cX12_begin 173 = .ok (.aload_n 0, 1) := by decide +kernel
theorem dX12_begin_174 : decode cX12_begin 174 = .ok (.getfield 197, 3) := by decide +kernel
theorem dX12_begin_177 : decode cX12_begin 177 = .ok (.arraylength, 1) := by decide +kernel
theorem dX12_begin_178 : decode cX12_begin 178 = .ok (.if_icmp .ge 16, 3) := by decide +kernel
theorem dX12_begin_181 : decode cX12_begin 181 = .ok (.aload_n 0, 1) := by decide +kernel
theorem dX12_begin_182 : decode cX12_begin 182 = .ok (.getfield 197, 3) := by decide +kernel
theorem dX12_begin_185 : decode cX12_begin 185 = .ok (.iload_n 2, 1) := by decide +kernel
theorem dX12_begin_186 : decode cX12_begin 186 = .ok (.iconst 0, 1) := by decide +kernel
theorem dX12_begin_187 : decode cX12_begin 187 = .ok (.iastore, 1) := by decide +kernel
theorem dX12_begin_188 : decode cX12_begin 188 = .ok (.iinc 2 1, 3) := by decide +kernel
theorem dX12_begin_191 : decode cX12_begin 191 = .ok (.goto (-19), 3) := by decide +kernel
theorem dX12_begin_194 : decode cX12_begin 194 = .ok (.aload_n 0, 1) := by decide +kernel
theorem dX12_begin_195 : decode cX12_begin 195 = .ok (.iload_n 1, 1) := by decide +kernel
theorem dX12_begin_196 : decode cX12_begin 196 = .ok (.putfield 657, 3) := by decide +kernel
theorem dX12_begin_199 : decode cX12_begin 199 = .ok (.aload_n 0, 1) := by decide +kernel
theorem dX12_begin_200 : decode cX12_begin 200 = .ok (.iconst 0, 1) := by decide +kernel
theorem dX12_begin_201 : decode cX12_begin 201 = .ok (.putfield 660, 3) := by decide +kernel
theorem dX12_begin_204 : decode cX12_begin 204 = .ok (.aload_n 0, 1) := by decide +kernel
theorem dX12_begin_205 : decode cX12_begin 205 = .ok (.iconst 0, 1) := by decide +kernel
theorem dX12_begin_206 : decode cX12_begin 206 = .ok (.putfield 663, 3) := by decide +kernel
theorem dX12_begin_209 : decode cX12_begin 209 = .ok (.aload_n 0, 1) := by decide +kernel
theorem dX12_begin_210 : decode cX12_begin 210 = .ok (.iconst 0, 1) := by decide +kernel
theorem dX12_begin_211 : decode cX12_begin 211 = .ok (.putfield 665, 3) := by decide +kernel
theorem dX12_begin_214 : decode cX12_begin 214 = .ok (.aload_n 0, 1) := by decide +kernel
theorem dX12_begin_215 : decode cX12_begin 215 = .ok (.iconst (-1), 1) := by decide +kernel
theorem dX12_begin_216 : decode cX12_begin 216 = .ok (.putfield 203, 3) := by decide +kernel
theorem dX12_begin_219 : decode cX12_begin 219 = .ok (.aload_n 0, 1) := by decide +kernel
theorem dX12_begin_220 : decode cX12_begin 220 = .ok (.invokevirtual 789, 3) := by decide +kernel
theorem dX12_begin_223 : decode cX12_begin 223 = .ok (.return_, 1) := by decide +kernel
def F_X12_begin (p0 : Int32) (σ : MS) : MR :=
  bnd (fun (t_1 : Int32) (σ_2 : MS) => (
    (F_X12_refuses t_1 σ_2).bind fun u_6 =>
    if u_6.1 = 0 then (
      bnd (mI u_6.2 86 1) fun σ_10 =>
      bnd (mI σ_10 103 0) fun σ_12 =>
      bnd (mI σ_12 101 0) fun σ_14 =>
      loopF (fun (again_17 : (Int32 × MS) → MR) (s_16 : Int32 × MS) => (
        if 121 ≤ s_16.1 then (
          loopF (fun (again_23 : (Int32 × MS) → MR) (s_22 : Int32 × MS) => (
            if 847 ≤ s_22.1 then (
              (F_X12_putIn 1 (s_22.2.1 63) s_22.2).bind fun u_28 =>
              loopF (fun (again_31 : (Int32 × MS) → MR) (s_30 : Int32 × MS) => (
                if (s_30.2.1 78) < s_30.1 then (
                  loopF (fun (again_37 : (Int32 × MS) → MR) (s_36 : Int32 × MS) => (
                    if (s_36.2.1 80) ≤ s_36.1 then (
                      loopF (fun (again_43 : (Int32 × MS) → MR) (s_42 : Int32 × MS) => (
                        if 1000 ≤ s_42.1 then (
                          bnd (mI s_42.2 93 p0) fun σ_48 =>
                          bnd (mI σ_48 94 0) fun σ_50 =>
                          bnd (mI σ_50 95 0) fun σ_52 =>
                          bnd (mI σ_52 96 0) fun σ_54 =>
                          bnd (mI σ_54 98 (-1)) fun σ_56 =>
                          (F_X12_look σ_56).bind fun u_58 =>
                          some (0, u_58.2)
                        ) else (
                          if s_42.1 < 0 ∨ 1000 ≤ s_42.1.toNatClampNeg then none else
                          bnd (mA s_42.2 92 (upd (s_42.2.2 92) s_42.1.toNatClampNeg 0)) fun σ_63 =>
                          bnd (s_42.1 + 1) fun (x_65 : Int32) =>
                          again_43 (x_65, σ_63)
                        )
                      )) FU (0, s_36.2)
                    ) else (
                      if s_36.1 < 0 ∨ 100 ≤ s_36.1.toNatClampNeg then none else
                      bnd ((s_36.2.2 76 s_36.1.toNatClampNeg)) fun (x_70 : Int32) =>
                      if s_36.1 < 0 ∨ 100 ≤ s_36.1.toNatClampNeg then none else
                      bnd (mA s_36.2 91 (upd (s_36.2.2 91) s_36.1.toNatClampNeg x_70)) fun σ_74 =>
                      bnd (s_36.1 + 1) fun (x_76 : Int32) =>
                      again_37 (x_76, σ_74)
                    )
                  )) FU (0, s_30.2)
                ) else (
                  if s_30.1 < 0 ∨ 121 ≤ s_30.1.toNatClampNeg then none else
                  bnd (fun  (σ_81 : MS) => (
                    bnd (s_30.1 + 1) fun (x_85 : Int32) =>
                    again_31 (x_85, σ_81)
                  ) : MS → MR) fun j_82 =>
                  if (s_30.2.2 52 s_30.1.toNatClampNeg) ≤ 0 then (
                    j_82  s_30.2
                  ) else (
                    if s_30.1 < 0 ∨ 121 ≤ s_30.1.toNatClampNeg then none else
                    (F_X12_putIn s_30.1 (s_30.2.2 52 s_30.1.toNatClampNeg) s_30.2).bind fun u_92 =>
                    j_82  u_92.2
                  )
                )
              )) FU (2, u_28.2)
            ) else (
              if s_22.1 < 0 ∨ 847 ≤ s_22.1.toNatClampNeg then none else
              bnd ((s_22.2.2 53 s_22.1.toNatClampNeg)) fun (x_97 : Int32) =>
              if s_22.1 < 0 ∨ 847 ≤ s_22.1.toNatClampNeg then none else
              bnd (mA s_22.2 90 (upd (s_22.2.2 90) s_22.1.toNatClampNeg (vp_nar .boolean x_97))) fun σ_101 =>
              bnd (s_22.1 + 1) fun (x_103 : Int32) =>
              again_23 (x_103, σ_101)
            )
          )) FU (0, s_16.2)
        ) else (
          if s_16.1 < 0 ∨ 121 ≤ s_16.1.toNatClampNeg then none else
          bnd (mA s_16.2 87 (upd (s_16.2.2 87) s_16.1.toNatClampNeg 0)) fun σ_108 =>
          if s_16.1 < 0 ∨ 121 ≤ s_16.1.toNatClampNeg then none else
          bnd (mA σ_108 88 (upd (σ_108.2 88) s_16.1.toNatClampNeg 0)) fun σ_112 =>
          if s_16.1 < 0 ∨ 121 ≤ s_16.1.toNatClampNeg then none else
          bnd (mA σ_112 89 (upd (σ_112.2 89) s_16.1.toNatClampNeg 0)) fun σ_116 =>
          bnd (s_16.1 + 1) fun (x_118 : Int32) =>
          again_17 (x_118, σ_116)
        )
      )) FU (0, σ_14)
    ) else (
      some (0, u_6.2)
    )
  ) : Int32 → MS → MR) fun j_3 =>
  if (σ.1 44) = 0 then (
    j_3 1 σ
  ) else (
    j_3 0 σ
  )
set_option maxHeartbeats 4000000 in
set_option maxRecDepth 100000 in
theorem m_X12_begin (l : Launch) (dC : Nat → ClassId) (dI : Nat → Nat → Nat) (cB cC cI cJ cZ cP : ClassId) (h qK qS : Nat) (ad : Nat → Nat) (hDD : mDis cB cI cZ h qK qS ad) (sz : Nat)  (p0 : Int32) (σ : MS) (res : Int32 × MS) (hF : F_X12_begin p0 σ = some res) : Met l yX12_begin (g_ws yX12_begin cX12_begin 3 none) ({ frames := 129, cells := 0, slots := 0, locals := 2856 }) (va_Pc [.ref h, .int p0] (m_B (dC, dI) [(cB, .byte), (cC, .char), (cI, .int), (cJ, .long), (cZ, .boolean), (cP, .object "StoryHouse$Play")] sz h ad qK qS (mW cB cI cZ h qK qS ad σ) g_0)) (va_Qv (fun (_ : Unit) => True) (fun _ t => va_P (dC, dI) vwCl (mW cB cI cZ h qK qS ad res.2) t.heap) (mCells h ad sz)) 0 0 (mCells h ad sz) := by
  refine Met.ofW (cc := cX12_begin) (maxL := 3) (ret := none) (by decide) rfl ?_
  intro p e s m args below meth c s₁ B hml hv
  obtain ⟨rfl, hsz, hP, hK, hE, hKS, hX⟩ := hv
  have hx := B.exec
  have hb := B.bytes
  have hr := B.returns
  have hts0 := atoms_spec (ws := g_ws yX12_begin cX12_begin 3 none) B.pre
  have hts : ∀ w ∈ lw_good, w.before ([.ref h, .int p0] : List Value).toArray s = true := fun w z => hts0 w (List.mem_cons_of_mem _ z)
  have hown : s.vm.findClass RX12 = some m.cls := findClass_of_methodNamed B.named
  have hlocks := B.notSynchronized
  have hS : va_S (mCells h ad sz) s.heap s.heap [] := va_S.rf
  have hl := lv_entry ([.ref h, .int p0]) (n := 3) (Nat.le_of_ble_eq_true rfl)
  rw [lg_entry_eq]
  generalize (lg_sl ([.ref h, .int p0]) ++ List.replicate (3 - (lg_sl ([.ref h, .int p0])).length) Slot.unset).toArray = ls at hl ⊢
  have hl : lv_has ls 3 [(0, .ref h), (1, .int p0)] := hl
  unfold F_X12_begin at hF
  refine lv_aload_n hx hb dX12_begin_0 rfl (lv_at hl 0 rfl) ?_
  refine lv_aload_n hx hb dX12_begin_1 rfl (lv_at hl 0 rfl) ?_
  refine va_get (D := (dC, dI)) (ci := 12) (v := .int (σ.1 44)) (C := RX12) (T := TX12) (N := 123) hx hb hts ii_X12 hown hK hP 0 rfl rfl 44 (by decide) (hts (.fieldLink RX12 597 "StoryHouseModel" "built" "Z") wq_1400) (fun _ h9 => h9) rfl dX12_begin_2 ?_
  obtain ⟨j_3, ej_3, hF_4⟩ := bnd_e hF
  clear hF
  have Jj_3 : ∀ (t_1 : Int32) (σ_2 : MS), j_3 t_1 σ_2 = some res → ∀ (H : Heap) (locs : List Loc), va_P (dC, dI) vwCl (mW cB cI cZ h qK qS ad σ_2) H → va_S (mCells h ad sz) s.heap H locs → ∀ ls : Array Slot, lv_has ls 3 [(0, .ref h), (1, .int p0)] → W p l e (headSpec (g_ws yX12_begin cX12_begin 3 none) { frames := 129, cells := 0, slots := 0, locals := 2856 }).room s m ([.ref h, .int p0] : List Value).toArray below meth c H locs 0 0 (MQ below (va_Qv (fun (_ : Unit) => True) (fun _ t => va_P (dC, dI) vwCl (mW cB cI cZ h qK qS ad res.2) t.heap) (mCells h ad sz)) ([.ref h, .int p0] : List Value).toArray s 0 0 (mCells h ad sz)) (F0 m 13 ls [.int t_1, .ref h]) := by
    intro t_1 σ_2 hF0 H locs hP hS ls hl
    subst ej_3
    have hF_5 := hF0
    clear hF0
    obtain ⟨u_6, hu_6, hF_7⟩ := Option.bind_eq_some_iff.mp hF_5
    clear hF_5
    refine m_ci hsz hS (va_runV (As := [.int t_1]) (rest := []) ⟨hx, hb, hml, hown, hts⟩ (m_X12_refuses l dC dI cB cC cI cJ cZ cP h qK qS ad hDD H.size  t_1 σ_2 _ hu_6) (cwV 1 hts (g_gV wq_1487 wq_1488 wq_2113 wq_13 wq_1489) rfl rfl rfl (by decide +kernel) ⟨Nat.le_of_ble_eq_true rfl, Nat.le_of_ble_eq_true rfl⟩) (m_preV g_bl0 hsz hK hP hS hE hKS g_to0) rfl rfl hl.1 rfl (lv_room (Nat.le_of_ble_eq_true rfl)) dX12_begin_13 ⟨Nat.le_of_ble_eq_true rfl, Nat.le_of_ble_eq_true rfl⟩) (fun H locs hP hS => ?_)
    refine lv_if_eq (tgt := 20) hx hb dX12_begin_16 (by decide) (fun c_8 => ?_) (fun c_8 => ?_)
    · have hF_9 := ipos c_8 hF_7
      clear hF_7
      refine lv_aload_n hx hb dX12_begin_20 rfl (lv_at hl 0 rfl) ?_
      refine lv_iconst (v := 1) hx hb dX12_begin_21 (by decide +kernel) ?_
      obtain ⟨σ_10, eσ_10, hF_11⟩ := bnd_e hF_9
      clear hF_9
      refine m_put (σ' := σ_10) (v := .int 1) (ty := .boolean) hx hb hts hown hK hP (hDD _ _) hS (by rw [eσ_10]; exact mwI_86) (k := 86) (by decide) (hts (.fieldLink RX12 600 "StoryHouseModel" "playing" "Z") wq_1442) (fun _ h9 => h9) rfl (by decide +kernel) (by decide +kernel) (by decide +kernel) dX12_begin_22 (fun H locs hP hS => ?_)
      refine lv_aload_n hx hb dX12_begin_25 rfl (lv_at hl 0 rfl) ?_
      refine lv_iconst (v := 0) hx hb dX12_begin_26 (by decide +kernel) ?_
      obtain ⟨σ_12, eσ_12, hF_13⟩ := bnd_e hF_11
      clear hF_11
      refine m_put (σ' := σ_12) (v := .int 0) (ty := .int) hx hb hts hown hK hP (hDD _ _) hS (by rw [eσ_12]; exact mwI_103) (k := 103) (by decide) (hts (.fieldLink RX12 668 "StoryHouseModel" "said" "I") wq_1459) (fun _ h9 => h9) rfl (by decide +kernel) rfl rfl dX12_begin_27 (fun H locs hP hS => ?_)
      refine lv_aload_n hx hb dX12_begin_30 rfl (lv_at hl 0 rfl) ?_
      refine lv_iconst (v := 0) hx hb dX12_begin_31 (by decide +kernel) ?_
      obtain ⟨σ_14, eσ_14, hF_15⟩ := bnd_e hF_13
      clear hF_13
      refine m_put (σ' := σ_14) (v := .int 0) (ty := .int) hx hb hts hown hK hP (hDD _ _) hS (by rw [eσ_14]; exact mwI_101) (k := 101) (by decide) (hts (.fieldLink RX12 786 "StoryHouseModel" "undos" "I") wq_1457) (fun _ h9 => h9) rfl (by decide +kernel) rfl rfl dX12_begin_32 (fun H locs hP hS => ?_)
      refine lv_iconst (v := 0) hx hb dX12_begin_35 (by decide +kernel) ?_
      refine lv_istore_n (lv' := [(2, .int 0), (0, .ref h), (1, .int p0)]) hx hb dX12_begin_36 rfl hl (by decide) rfl (fun ls hl => ?_)
      refine loopF_ind (P := fun (s_16 : Int32 × MS) => ∀ (H : Heap) (locs : List Loc), va_P (dC, dI) vwCl (mW cB cI cZ h qK qS ad s_16.2) H → va_S (mCells h ad sz) s.heap H locs → ∀ ls : Array Slot, lv_has ls 3 [(0, .ref h), (1, .int p0), (2, .int s_16.1)] → W p l e (headSpec (g_ws yX12_begin cX12_begin 3 none) { frames := 129, cells := 0, slots := 0, locals := 2856 }).room s m ([.ref h, .int p0] : List Value).toArray below meth c H locs 0 0 (MQ below (va_Qv (fun (_ : Unit) => True) (fun _ t => va_P (dC, dI) vwCl (mW cB cI cZ h qK qS ad res.2) t.heap) (mCells h ad sz)) ([.ref h, .int p0] : List Value).toArray s 0 0 (mCells h ad sz)) (F0 m 37 ls [])) ?_ _ _ hF_15 _ _ hP hS ls (lv_sub hl [1, 2, 0] rfl)
      intro again_17 s_16 ih_18 hF_19
      intro H locs hP hS ls hl
      refine lv_iload_n hx hb dX12_begin_37 rfl (lv_at hl 2 rfl) ?_
      refine lv_bipush (v := 121) hx hb dX12_begin_38 (by decide +kernel) ?_
      refine lv_icmp_ge (tgt := 70) hx hb dX12_begin_40 (by decide) (fun c_20 => ?_) (fun c_20 => ?_)
      · have hF_21 := ipos c_20 hF_19
        clear hF_19
        refine lv_iconst (v := 0) hx hb dX12_begin_70 (by decide +kernel) ?_
        refine lv_istore_n (lv' := [(2, .int 0), (0, .ref h), (1, .int p0)]) hx hb dX12_begin_71 rfl hl (by decide) rfl (fun ls hl => ?_)
        refine loopF_ind (P := fun (s_22 : Int32 × MS) => ∀ (H : Heap) (locs : List Loc), va_P (dC, dI) vwCl (mW cB cI cZ h qK qS ad s_22.2) H → va_S (mCells h ad sz) s.heap H locs → ∀ ls : Array Slot, lv_has ls 3 [(0, .ref h), (1, .int p0), (2, .int s_22.1)] → W p l e (headSpec (g_ws yX12_begin cX12_begin 3 none) { frames := 129, cells := 0, slots := 0, locals := 2856 }).room s m ([.ref h, .int p0] : List Value).toArray below meth c H locs 0 0 (MQ below (va_Qv (fun (_ : Unit) => True) (fun _ t => va_P (dC, dI) vwCl (mW cB cI cZ h qK qS ad res.2) t.heap) (mCells h ad sz)) ([.ref h, .int p0] : List Value).toArray s 0 0 (mCells h ad sz)) (F0 m 72 ls [])) ?_ _ _ hF_21 _ _ hP hS ls (lv_sub hl [1, 2, 0] rfl)
        intro again_23 s_22 ih_24 hF_25
        intro H locs hP hS ls hl
        refine lv_iload_n hx hb dX12_begin_72 rfl (lv_at hl 2 rfl) ?_
        refine lv_sipush (v := 847) hx hb dX12_begin_73 (by decide +kernel) ?_
        refine lv_icmp_ge (tgt := 97) hx hb dX12_begin_76 (by decide) (fun c_26 => ?_) (fun c_26 => ?_)
        · have hF_27 := ipos c_26 hF_25
          clear hF_25
          refine lv_aload_n hx hb dX12_begin_97 rfl (lv_at hl 0 rfl) ?_
          refine lv_iconst (v := 1) hx hb dX12_begin_98 (by decide +kernel) ?_
          refine lv_aload_n hx hb dX12_begin_99 rfl (lv_at hl 0 rfl) ?_
          refine va_get (D := (dC, dI)) (ci := 12) (v := .int (s_22.2.1 63)) (C := RX12) (T := TX12) (N := 123) hx hb hts ii_X12 hown hK hP 0 rfl rfl 63 (by decide) (hts (.fieldLink RX12 621 "StoryHouseModel" "firstRoom" "I") wq_1419) (fun _ h9 => h9) rfl dX12_begin_100 ?_
          obtain ⟨u_28, hu_28, hF_29⟩ := Option.bind_eq_some_iff.mp hF_27
          clear hF_27
          refine m_cv hsz hS (va_runV (As := [.int 1, .int (s_22.2.1 63)]) (rest := []) ⟨hx, hb, hml, hown, hts⟩ (m_X12_putIn l dC dI cB cC cI cJ cZ cP h qK qS ad hDD H.size  1 (s_22.2.1 63) s_22.2 _ hu_28) (cwV 2 hts (g_gV wq_1746 wq_1747 wq_2191 wq_13 wq_1748) rfl rfl rfl (by decide +kernel) ⟨Nat.le_of_ble_eq_true rfl, Nat.le_of_ble_eq_true rfl⟩) (m_preV g_bl0 hsz hK hP hS hE hKS g_to0) rfl rfl hl.1 rfl (lv_room (Nat.le_of_ble_eq_true rfl)) dX12_begin_103 ⟨Nat.le_of_ble_eq_true rfl, Nat.le_of_ble_eq_true rfl⟩) (fun H locs hP hS => ?_)
          refine lv_iconst (v := 2) hx hb dX12_begin_106 (by decide +kernel) ?_
          refine lv_istore_n (lv' := [(2, .int 2), (0, .ref h), (1, .int p0)]) hx hb dX12_begin_107 rfl hl (by decide) rfl (fun ls hl => ?_)
          refine loopF_ind (P := fun (s_30 : Int32 × MS) => ∀ (H : Heap) (locs : List Loc), va_P (dC, dI) vwCl (mW cB cI cZ h qK qS ad s_30.2) H → va_S (mCells h ad sz) s.heap H locs → ∀ ls : Array Slot, lv_has ls 3 [(0, .ref h), (1, .int p0), (2, .int s_30.1)] → W p l e (headSpec (g_ws yX12_begin cX12_begin 3 none) { frames := 129, cells := 0, slots := 0, locals := 2856 }).room s m ([.ref h, .int p0] : List Value).toArray below meth c H locs 0 0 (MQ below (va_Qv (fun (_ : Unit) => True) (fun _ t => va_P (dC, dI) vwCl (mW cB cI cZ h qK qS ad res.2) t.heap) (mCells h ad sz)) ([.ref h, .int p0] : List Value).toArray s 0 0 (mCells h ad sz)) (F0 m 108 ls [])) ?_ _ _ hF_29 _ _ hP hS ls (lv_sub hl [1, 2, 0] rfl)
          intro again_31 s_30 ih_32 hF_33
          intro H locs hP hS ls hl
          refine lv_iload_n hx hb dX12_begin_108 rfl (lv_at hl 2 rfl) ?_
          refine lv_aload_n hx hb dX12_begin_109 rfl (lv_at hl 0 rfl) ?_
          refine va_get (D := (dC, dI)) (ci := 12) (v := .int (s_30.2.1 78)) (C := RX12) (T := TX12) (N := 123) hx hb hts ii_X12 hown hK hP 0 rfl rfl 78 (by decide) (hts (.fieldLink RX12 587 "StoryHouseModel" "nObjects" "I") wq_1434) (fun _ h9 => h9) rfl dX12_begin_110 ?_
          refine lv_icmp_gt (tgt := 142) hx hb dX12_begin_113 (by decide) (fun c_34 => ?_) (fun c_34 => ?_)
          · have hF_35 := ipos c_34 hF_33
            clear hF_33
            refine lv_iconst (v := 0) hx hb dX12_begin_142 (by decide +kernel) ?_
            refine lv_istore_n (lv' := [(2, .int 0), (0, .ref h), (1, .int p0)]) hx hb dX12_begin_143 rfl hl (by decide) rfl (fun ls hl => ?_)
            refine loopF_ind (P := fun (s_36 : Int32 × MS) => ∀ (H : Heap) (locs : List Loc), va_P (dC, dI) vwCl (mW cB cI cZ h qK qS ad s_36.2) H → va_S (mCells h ad sz) s.heap H locs → ∀ ls : Array Slot, lv_has ls 3 [(0, .ref h), (1, .int p0), (2, .int s_36.1)] → W p l e (headSpec (g_ws yX12_begin cX12_begin 3 none) { frames := 129, cells := 0, slots := 0, locals := 2856 }).room s m ([.ref h, .int p0] : List Value).toArray below meth c H locs 0 0 (MQ below (va_Qv (fun (_ : Unit) => True) (fun _ t => va_P (dC, dI) vwCl (mW cB cI cZ h qK qS ad res.2) t.heap) (mCells h ad sz)) ([.ref h, .int p0] : List Value).toArray s 0 0 (mCells h ad sz)) (F0 m 144 ls [])) ?_ _ _ hF_35 _ _ hP hS ls (lv_sub hl [1, 2, 0] rfl)
            intro again_37 s_36 ih_38 hF_39
            intro H locs hP hS ls hl
            refine lv_iload_n hx hb dX12_begin_144 rfl (lv_at hl 2 rfl) ?_
            refine lv_aload_n hx hb dX12_begin_145 rfl (lv_at hl 0 rfl) ?_
            refine va_get (D := (dC, dI)) (ci := 12) (v := .int (s_36.2.1 80)) (C := RX12) (T := TX12) (N := 123) hx hb hts ii_X12 hown hK hP 0 rfl rfl 80 (by decide) (hts (.fieldLink RX12 606 "StoryHouseModel" "nVars" "I") wq_1436) (fun _ h9 => h9) rfl dX12_begin_146 ?_
            refine lv_icmp_ge (tgt := 170) hx hb dX12_begin_149 (by decide) (fun c_40 => ?_) (fun c_40 => ?_)
            · have hF_41 := ipos c_40 hF_39
              clear hF_39
              refine lv_iconst (v := 0) hx hb dX12_begin_170 (by decide +kernel) ?_
              refine lv_istore_n (lv' := [(2, .int 0), (0, .ref h), (1, .int p0)]) hx hb dX12_begin_171 rfl hl (by decide) rfl (fun ls hl => ?_)
              refine loopF_ind (P := fun (s_42 : Int32 × MS) => ∀ (H : Heap) (locs : List Loc), va_P (dC, dI) vwCl (mW cB cI cZ h qK qS ad s_42.2) H → va_S (mCells h ad sz) s.heap H locs → ∀ ls : Array Slot, lv_has ls 3 [(0, .ref h), (1, .int p0), (2, .int s_42.1)] → W p l e (headSpec (g_ws yX12_begin cX12_begin 3 none) { frames := 129, cells := 0, slots := 0, locals := 2856 }).room s m ([.ref h, .int p0] : List Value).toArray below meth c H locs 0 0 (MQ below (va_Qv (fun (_ : Unit) => True) (fun _ t => va_P (dC, dI) vwCl (mW cB cI cZ h qK qS ad res.2) t.heap) (mCells h ad sz)) ([.ref h, .int p0] : List Value).toArray s 0 0 (mCells h ad sz)) (F0 m 172 ls [])) ?_ _ _ hF_41 _ _ hP hS ls (lv_sub hl [1, 2, 0] rfl)
              intro again_43 s_42 ih_44 hF_45
              intro H locs hP hS ls hl
              refine lv_iload_n hx hb dX12_begin_172 rfl (lv_at hl 2 rfl) ?_
              refine lv_aload_n hx hb dX12_begin_173 rfl (lv_at hl 0 rfl) ?_
              refine va_get (D := (dC, dI)) (ci := 12) (v := .ref (ad 92)) (C := RX12) (T := TX12) (N := 123) hx hb hts ii_X12 hown hK hP 0 rfl rfl 92 (by decide) (hts (.fieldLink RX12 197 "StoryHouseModel" "room" "[I") wq_1448) (fun _ h9 => h9) rfl dX12_begin_174 ?_
              refine va_alen (v := 1000) hx hb hK hP 57 2 rfl rfl (by first | rfl | decide +kernel) dX12_begin_177 ?_
              refine lv_icmp_ge (tgt := 194) hx hb dX12_begin_178 (by decide) (fun c_46 => ?_) (fun c_46 => ?_)
              · have hF_47 := ipos c_46 hF_45
                clear hF_45
                refine lv_aload_n hx hb dX12_begin_194 rfl (lv_at hl 0 rfl) ?_
                refine lv_iload_n hx hb dX12_begin_195 rfl (lv_at hl 1 rfl) ?_
                obtain ⟨σ_48, eσ_48, hF_49⟩ := bnd_e hF_47
                clear hF_47
                refine m_put (σ' := σ_48) (v := .int p0) (ty := .int) hx hb hts hown hK hP (hDD _ _) hS (by rw [eσ_48]; exact mwI_93) (k := 93) (by decide) (hts (.fieldLink RX12 657 "StoryHouseModel" "seed" "I") wq_1449) (fun _ h9 => h9) rfl (by decide +kernel) rfl rfl dX12_begin_196 (fun H locs hP hS => ?_)
                refine lv_aload_n hx hb dX12_begin_199 rfl (lv_at hl 0 rfl) ?_
                refine lv_iconst (v := 0) hx hb dX12_begin_200 (by decide +kernel) ?_
                obtain ⟨σ_50, eσ_50, hF_51⟩ := bnd_e hF_49
                clear hF_49
                refine m_put (σ' := σ_50) (v := .int 0) (ty := .int) hx hb hts hown hK hP (hDD _ _) hS (by rw [eσ_50]; exact mwI_94) (k := 94) (by decide) (hts (.fieldLink RX12 660 "StoryHouseModel" "turns" "I") wq_1450) (fun _ h9 => h9) rfl (by decide +kernel) rfl rfl dX12_begin_201 (fun H locs hP hS => ?_)
                refine lv_aload_n hx hb dX12_begin_204 rfl (lv_at hl 0 rfl) ?_
                refine lv_iconst (v := 0) hx hb dX12_begin_205 (by decide +kernel) ?_
                obtain ⟨σ_52, eσ_52, hF_53⟩ := bnd_e hF_51
                clear hF_51
                refine m_put (σ' := σ_52) (v := .int 0) (ty := .int) hx hb hts hown hK hP (hDD _ _) hS (by rw [eσ_52]; exact mwI_95) (k := 95) (by decide) (hts (.fieldLink RX12 663 "StoryHouseModel" "ended" "I") wq_1451) (fun _ h9 => h9) rfl (by decide +kernel) rfl rfl dX12_begin_206 (fun H locs hP hS => ?_)
                refine lv_aload_n hx hb dX12_begin_209 rfl (lv_at hl 0 rfl) ?_
                refine lv_iconst (v := 0) hx hb dX12_begin_210 (by decide +kernel) ?_
                obtain ⟨σ_54, eσ_54, hF_55⟩ := bnd_e hF_53
                clear hF_53
                refine m_put (σ' := σ_54) (v := .int 0) (ty := .int) hx hb hts hown hK hP (hDD _ _) hS (by rw [eσ_54]; exact mwI_96) (k := 96) (by decide) (hts (.fieldLink RX12 665 "StoryHouseModel" "it" "I") wq_1452) (fun _ h9 => h9) rfl (by decide +kernel) rfl rfl dX12_begin_211 (fun H locs hP hS => ?_)
                refine lv_aload_n hx hb dX12_begin_214 rfl (lv_at hl 0 rfl) ?_
                refine lv_iconst (v := (-1)) hx hb dX12_begin_215 (by decide +kernel) ?_
                obtain ⟨σ_56, eσ_56, hF_57⟩ := bnd_e hF_55
                clear hF_55
                refine m_put (σ' := σ_56) (v := .int (-1)) (ty := .int) hx hb hts hown hK hP (hDD _ _) hS (by rw [eσ_56]; exact mwI_98) (k := 98) (by decide) (hts (.fieldLink RX12 203 "StoryHouseModel" "latestSize" "I") wq_1454) (fun _ h9 => h9) rfl (by decide +kernel) rfl rfl dX12_begin_216 (fun H locs hP hS => ?_)
                refine lv_aload_n hx hb dX12_begin_219 rfl (lv_at hl 0 rfl) ?_
                obtain ⟨u_58, hu_58, hF_59⟩ := Option.bind_eq_some_iff.mp hF_57
                clear hF_57
                refine m_cv hsz hS (va_runV (As := []) (rest := []) ⟨hx, hb, hml, hown, hts⟩ (m_X12_look l dC dI cB cC cI cJ cZ cP h qK qS ad hDD H.size  σ_56 _ hu_58) (cwV 0 hts (g_gV wq_1752 wq_1753 wq_2193 wq_13 wq_1754) rfl rfl rfl (by decide +kernel) ⟨Nat.le_of_ble_eq_true rfl, Nat.le_of_ble_eq_true rfl⟩) (m_preV g_bl0 hsz hK hP hS hE hKS g_to0) rfl rfl hl.1 rfl (lv_room (Nat.le_of_ble_eq_true rfl)) dX12_begin_220 ⟨Nat.le_of_ble_eq_true rfl, Nat.le_of_ble_eq_true rfl⟩) (fun H locs hP hS => ?_)
                have h9 := Option.some.inj hF_59
                subst h9
                exact W.vret hx hb hr (fun t ht hW => ⟨⟨(), rfl, trivial, m_end ht hP⟩, hS.F ht⟩) hS.2.2 dX12_begin_223
              · have hF_60 := ineg c_46 hF_45
                clear hF_45
                refine lv_aload_n hx hb dX12_begin_181 rfl (lv_at hl 0 rfl) ?_
                refine va_get (D := (dC, dI)) (ci := 12) (v := .ref (ad 92)) (C := RX12) (T := TX12) (N := 123) hx hb hts ii_X12 hown hK hP 0 rfl rfl 92 (by decide) (hts (.fieldLink RX12 197 "StoryHouseModel" "room" "[I") wq_1448) (fun _ h9 => h9) rfl dX12_begin_182 ?_
                refine lv_iload_n hx hb dX12_begin_185 rfl (lv_at hl 2 rfl) ?_
                refine lv_iconst (v := 0) hx hb dX12_begin_186 (by decide +kernel) ?_
                obtain ⟨g_61, hF_62⟩ := nif_e hF_60
                clear hF_60
                obtain ⟨σ_63, eσ_63, hF_64⟩ := bnd_e hF_62
                clear hF_62
                refine m_iast (σ' := σ_63) hx hb hK hP (hDD _ _) hS (q0 := 57) (t0 := 2) (f := s_42.2.2 92) rfl rfl (by rw [eσ_63]; exact mwA_92) g_61 dX12_begin_187 (fun H locs hP hS => ?_)
                obtain ⟨x_65, ex_65, hF_66⟩ := bnd_e hF_64
                clear hF_64
                refine lv_iinc (v := x_65) (lv' := [(2, .int x_65), (0, .ref h), (1, .int p0)]) hx hb dX12_begin_188 hl (k := 2) rfl (by rw [ex_65]; rfl) (by decide) rfl (fun ls hl => ?_)
                refine lv_goto (tgt := 172) hx hb dX12_begin_191 (by decide) ?_
                exact ih_44 (x_65, σ_63) hF_66 _ _ hP hS ls (lv_sub hl [1, 2, 0] rfl)
            · have hF_67 := ineg c_40 hF_39
              clear hF_39
              refine lv_aload_n hx hb dX12_begin_152 rfl (lv_at hl 0 rfl) ?_
              refine va_get (D := (dC, dI)) (ci := 12) (v := .ref (ad 91)) (C := RX12) (T := TX12) (N := 123) hx hb hts ii_X12 hown hK hP 0 rfl rfl 91 (by decide) (hts (.fieldLink RX12 194 "StoryHouseModel" "values" "[I") wq_1447) (fun _ h9 => h9) rfl dX12_begin_153 ?_
              refine lv_iload_n hx hb dX12_begin_156 rfl (lv_at hl 2 rfl) ?_
              refine lv_aload_n hx hb dX12_begin_157 rfl (lv_at hl 0 rfl) ?_
              refine va_get (D := (dC, dI)) (ci := 12) (v := .ref (ad 76)) (C := RX12) (T := TX12) (N := 123) hx hb hts ii_X12 hown hK hP 0 rfl rfl 76 (by decide) (hts (.fieldLink RX12 173 "StoryHouseModel" "varFirst" "[I") wq_1432) (fun _ h9 => h9) rfl dX12_begin_158 ?_
              refine lv_iload_n hx hb dX12_begin_161 rfl (lv_at hl 2 rfl) ?_
              obtain ⟨g_68, hF_69⟩ := nif_e hF_67
              clear hF_67
              refine va_iald (f := s_36.2.2 76) hx hb hK hP 49 2 rfl rfl g_68 dX12_begin_162 ?_
              obtain ⟨x_70, ex_70, hF_71⟩ := bnd_e hF_69
              clear hF_69
              refine m_top ex_70 ?_
              obtain ⟨g_72, hF_73⟩ := nif_e hF_71
              clear hF_71
              obtain ⟨σ_74, eσ_74, hF_75⟩ := bnd_e hF_73
              clear hF_73
              refine m_iast (σ' := σ_74) hx hb hK hP (hDD _ _) hS (q0 := 56) (t0 := 2) (f := s_36.2.2 91) rfl rfl (by rw [eσ_74]; exact mwA_91) g_72 dX12_begin_163 (fun H locs hP hS => ?_)
              obtain ⟨x_76, ex_76, hF_77⟩ := bnd_e hF_75
              clear hF_75
              refine lv_iinc (v := x_76) (lv' := [(2, .int x_76), (0, .ref h), (1, .int p0)]) hx hb dX12_begin_164 hl (k := 2) rfl (by rw [ex_76]; rfl) (by decide) rfl (fun ls hl => ?_)
              refine lv_goto (tgt := 144) hx hb dX12_begin_167 (by decide) ?_
              exact ih_38 (x_76, σ_74) hF_77 _ _ hP hS ls (lv_sub hl [1, 2, 0] rfl)
          · have hF_78 := ineg c_34 hF_33
            clear hF_33
            refine lv_aload_n hx hb dX12_begin_116 rfl (lv_at hl 0 rfl) ?_
            refine va_get (D := (dC, dI)) (ci := 12) (v := .ref (ad 52)) (C := RX12) (T := TX12) (N := 123) hx hb hts ii_X12 hown hK hP 0 rfl rfl 52 (by decide) (hts (.fieldLink RX12 104 "StoryHouseModel" "toldIn" "[I") wq_1408) (fun _ h9 => h9) rfl dX12_begin_117 ?_
            refine lv_iload_n hx hb dX12_begin_120 rfl (lv_at hl 2 rfl) ?_
            obtain ⟨g_79, hF_80⟩ := nif_e hF_78
            clear hF_78
            refine va_iald (f := s_30.2.2 52) hx hb hK hP 26 2 rfl rfl g_79 dX12_begin_121 ?_
            obtain ⟨j_82, ej_82, hF_83⟩ := bnd_e hF_80
            clear hF_80
            have Jj_82 : ∀  (σ_81 : MS), j_82  σ_81 = some res → ∀ (H : Heap) (locs : List Loc), va_P (dC, dI) vwCl (mW cB cI cZ h qK qS ad σ_81) H → va_S (mCells h ad sz) s.heap H locs → ∀ ls : Array Slot, lv_has ls 3 [(0, .ref h), (1, .int p0), (2, .int s_30.1)] → W p l e (headSpec (g_ws yX12_begin cX12_begin 3 none) { frames := 129, cells := 0, slots := 0, locals := 2856 }).room s m ([.ref h, .int p0] : List Value).toArray below meth c H locs 0 0 (MQ below (va_Qv (fun (_ : Unit) => True) (fun _ t => va_P (dC, dI) vwCl (mW cB cI cZ h qK qS ad res.2) t.heap) (mCells h ad sz)) ([.ref h, .int p0] : List Value).toArray s 0 0 (mCells h ad sz)) (F0 m 136 ls []) := by
              intro  σ_81 hF0 H locs hP hS ls hl
              subst ej_82
              have hF_84 := hF0
              clear hF0
              obtain ⟨x_85, ex_85, hF_86⟩ := bnd_e hF_84
              clear hF_84
              refine lv_iinc (v := x_85) (lv' := [(2, .int x_85), (0, .ref h), (1, .int p0)]) hx hb dX12_begin_136 hl (k := 2) rfl (by rw [ex_85]; rfl) (by decide) rfl (fun ls hl => ?_)
              refine lv_goto (tgt := 108) hx hb dX12_begin_139 (by decide) ?_
              exact ih_32 (x_85, σ_81) hF_86 _ _ hP hS ls (lv_sub hl [1, 2, 0] rfl)
            refine lv_if_le (tgt := 136) hx hb dX12_begin_122 (by decide) (fun c_87 => ?_) (fun c_87 => ?_)
            · have hF_88 := ipos c_87 hF_83
              clear hF_83
              exact Jj_82  s_30.2 hF_88 _ _ hP hS ls (lv_sub hl [0, 1, 2] rfl)
            · have hF_89 := ineg c_87 hF_83
              clear hF_83
              refine lv_aload_n hx hb dX12_begin_125 rfl (lv_at hl 0 rfl) ?_
              refine lv_iload_n hx hb dX12_begin_126 rfl (lv_at hl 2 rfl) ?_
              refine lv_aload_n hx hb dX12_begin_127 rfl (lv_at hl 0 rfl) ?_
              refine va_get (D := (dC, dI)) (ci := 12) (v := .ref (ad 52)) (C := RX12) (T := TX12) (N := 123) hx hb hts ii_X12 hown hK hP 0 rfl rfl 52 (by decide) (hts (.fieldLink RX12 104 "StoryHouseModel" "toldIn" "[I") wq_1408) (fun _ h9 => h9) rfl dX12_begin_128 ?_
              refine lv_iload_n hx hb dX12_begin_131 rfl (lv_at hl 2 rfl) ?_
              obtain ⟨g_90, hF_91⟩ := nif_e hF_89
              clear hF_89
              refine va_iald (f := s_30.2.2 52) hx hb hK hP 26 2 rfl rfl g_90 dX12_begin_132 ?_
              obtain ⟨u_92, hu_92, hF_93⟩ := Option.bind_eq_some_iff.mp hF_91
              clear hF_91
              refine m_cv hsz hS (va_runV (As := [.int s_30.1, .int (s_30.2.2 52 s_30.1.toNatClampNeg)]) (rest := []) ⟨hx, hb, hml, hown, hts⟩ (m_X12_putIn l dC dI cB cC cI cJ cZ cP h qK qS ad hDD H.size  s_30.1 (s_30.2.2 52 s_30.1.toNatClampNeg) s_30.2 _ hu_92) (cwV 2 hts (g_gV wq_1746 wq_1747 wq_2191 wq_13 wq_1748) rfl rfl rfl (by decide +kernel) ⟨Nat.le_of_ble_eq_true rfl, Nat.le_of_ble_eq_true rfl⟩) (m_preV g_bl0 hsz hK hP hS hE hKS g_to0) rfl rfl hl.1 rfl (lv_room (Nat.le_of_ble_eq_true rfl)) dX12_begin_133 ⟨Nat.le_of_ble_eq_true rfl, Nat.le_of_ble_eq_true rfl⟩) (fun H locs hP hS => ?_)
              exact Jj_82  u_92.2 hF_93 _ _ hP hS ls (lv_sub hl [0, 1, 2] rfl)
        · have hF_94 := ineg c_26 hF_25
          clear hF_25
          refine lv_aload_n hx hb dX12_begin_79 rfl (lv_at hl 0 rfl) ?_
          refine va_get (D := (dC, dI)) (ci := 12) (v := .ref (ad 90)) (C := RX12) (T := TX12) (N := 123) hx hb hts ii_X12 hown hK hP 0 rfl rfl 90 (by decide) (hts (.fieldLink RX12 191 "StoryHouseModel" "has" "[Z") wq_1446) (fun _ h9 => h9) rfl dX12_begin_80 ?_
          refine lv_iload_n hx hb dX12_begin_83 rfl (lv_at hl 2 rfl) ?_
          refine lv_aload_n hx hb dX12_begin_84 rfl (lv_at hl 0 rfl) ?_
          refine va_get (D := (dC, dI)) (ci := 12) (v := .ref (ad 53)) (C := RX12) (T := TX12) (N := 123) hx hb hts ii_X12 hown hK hP 0 rfl rfl 53 (by decide) (hts (.fieldLink RX12 107 "StoryHouseModel" "toldHas" "[Z") wq_1409) (fun _ h9 => h9) rfl dX12_begin_85 ?_
          refine lv_iload_n hx hb dX12_begin_88 rfl (lv_at hl 2 rfl) ?_
          obtain ⟨g_95, hF_96⟩ := nif_e hF_94
          clear hF_94
          refine va_zald (f := s_22.2.2 53) hx hb hK hP 27 4 rfl rfl g_95 dX12_begin_89 ?_
          obtain ⟨x_97, ex_97, hF_98⟩ := bnd_e hF_96
          clear hF_96
          refine m_top ex_97 ?_
          obtain ⟨g_99, hF_100⟩ := nif_e hF_98
          clear hF_98
          obtain ⟨σ_101, eσ_101, hF_102⟩ := bnd_e hF_100
          clear hF_100
          refine m_zast (σ' := σ_101) hx hb hK hP (hDD _ _) hS (q0 := 55) (t0 := 4) (f := s_22.2.2 90) rfl rfl (by rw [eσ_101]; exact mwA_90) g_99 dX12_begin_90 (fun H locs hP hS => ?_)
          obtain ⟨x_103, ex_103, hF_104⟩ := bnd_e hF_102
          clear hF_102
          refine lv_iinc (v := x_103) (lv' := [(2, .int x_103), (0, .ref h), (1, .int p0)]) hx hb dX12_begin_91 hl (k := 2) rfl (by rw [ex_103]; rfl) (by decide) rfl (fun ls hl => ?_)
          refine lv_goto (tgt := 72) hx hb dX12_begin_94 (by decide) ?_
          exact ih_24 (x_103, σ_101) hF_104 _ _ hP hS ls (lv_sub hl [1, 2, 0] rfl)
      · have hF_105 := ineg c_20 hF_19
        clear hF_19
        refine lv_aload_n hx hb dX12_begin_43 rfl (lv_at hl 0 rfl) ?_
        refine va_get (D := (dC, dI)) (ci := 12) (v := .ref (ad 87)) (C := RX12) (T := TX12) (N := 123) hx hb hts ii_X12 hown hK hP 0 rfl rfl 87 (by decide) (hts (.fieldLink RX12 182 "StoryHouseModel" "holder" "[I") wq_1443) (fun _ h9 => h9) rfl dX12_begin_44 ?_
        refine lv_iload_n hx hb dX12_begin_47 rfl (lv_at hl 2 rfl) ?_
        refine lv_iconst (v := 0) hx hb dX12_begin_48 (by decide +kernel) ?_
        obtain ⟨g_106, hF_107⟩ := nif_e hF_105
        clear hF_105
        obtain ⟨σ_108, eσ_108, hF_109⟩ := bnd_e hF_107
        clear hF_107
        refine m_iast (σ' := σ_108) hx hb hK hP (hDD _ _) hS (q0 := 52) (t0 := 2) (f := s_16.2.2 87) rfl rfl (by rw [eσ_108]; exact mwA_87) g_106 dX12_begin_49 (fun H locs hP hS => ?_)
        refine lv_aload_n hx hb dX12_begin_50 rfl (lv_at hl 0 rfl) ?_
        refine va_get (D := (dC, dI)) (ci := 12) (v := .ref (ad 88)) (C := RX12) (T := TX12) (N := 123) hx hb hts ii_X12 hown hK hP 0 rfl rfl 88 (by decide) (hts (.fieldLink RX12 185 "StoryHouseModel" "first" "[I") wq_1444) (fun _ h9 => h9) rfl dX12_begin_51 ?_
        refine lv_iload_n hx hb dX12_begin_54 rfl (lv_at hl 2 rfl) ?_
        refine lv_iconst (v := 0) hx hb dX12_begin_55 (by decide +kernel) ?_
        obtain ⟨g_110, hF_111⟩ := nif_e hF_109
        clear hF_109
        obtain ⟨σ_112, eσ_112, hF_113⟩ := bnd_e hF_111
        clear hF_111
        refine m_iast (σ' := σ_112) hx hb hK hP (hDD _ _) hS (q0 := 53) (t0 := 2) (f := σ_108.2 88) rfl rfl (by rw [eσ_112]; exact mwA_88) g_110 dX12_begin_56 (fun H locs hP hS => ?_)
        refine lv_aload_n hx hb dX12_begin_57 rfl (lv_at hl 0 rfl) ?_
        refine va_get (D := (dC, dI)) (ci := 12) (v := .ref (ad 89)) (C := RX12) (T := TX12) (N := 123) hx hb hts ii_X12 hown hK hP 0 rfl rfl 89 (by decide) (hts (.fieldLink RX12 188 "StoryHouseModel" "next" "[I") wq_1445) (fun _ h9 => h9) rfl dX12_begin_58 ?_
        refine lv_iload_n hx hb dX12_begin_61 rfl (lv_at hl 2 rfl) ?_
        refine lv_iconst (v := 0) hx hb dX12_begin_62 (by decide +kernel) ?_
        obtain ⟨g_114, hF_115⟩ := nif_e hF_113
        clear hF_113
        obtain ⟨σ_116, eσ_116, hF_117⟩ := bnd_e hF_115
        clear hF_115
        refine m_iast (σ' := σ_116) hx hb hK hP (hDD _ _) hS (q0 := 54) (t0 := 2) (f := σ_112.2 89) rfl rfl (by rw [eσ_116]; exact mwA_89) g_114 dX12_begin_63 (fun H locs hP hS => ?_)
        obtain ⟨x_118, ex_118, hF_119⟩ := bnd_e hF_117
        clear hF_117
        refine lv_iinc (v := x_118) (lv' := [(2, .int x_118), (0, .ref h), (1, .int p0)]) hx hb dX12_begin_64 hl (k := 2) rfl (by rw [ex_118]; rfl) (by decide) rfl (fun ls hl => ?_)
        refine lv_goto (tgt := 37) hx hb dX12_begin_67 (by decide) ?_
        exact ih_18 (x_118, σ_116) hF_119 _ _ hP hS ls (lv_sub hl [1, 2, 0] rfl)
    · have hF_120 := ineg c_8 hF_7
      clear hF_7
      have h9 := Option.some.inj hF_120
      subst h9
      exact W.vret hx hb hr (fun t ht hW => ⟨⟨(), rfl, trivial, m_end ht hP⟩, hS.F ht⟩) hS.2.2 dX12_begin_19
  refine lv_if_eq (tgt := 12) hx hb dX12_begin_5 (by decide) (fun c_121 => ?_) (fun c_121 => ?_)
  · have hF_122 := ipos c_121 hF_4
    clear hF_4
    refine lv_iconst (v := 1) hx hb dX12_begin_12 (by decide +kernel) ?_
    exact Jj_3 1 σ hF_122 _ _ hP hS ls (lv_sub hl [0, 1] rfl)
  · have hF_123 := ineg c_121 hF_4
    clear hF_4
    refine lv_iconst (v := 0) hx hb dX12_begin_8 (by decide +kernel) ?_
    refine lv_goto (tgt := 13) hx hb dX12_begin_9 (by decide) ?_
    exact Jj_3 0 σ hF_123 _ _ hP hS ls (lv_sub hl [0, 1] rfl)
theorem dX12_readTerms_0 : decode cX12_readTerms 0 = .ok (.aload_n 0, 1) := by decide +kernel
theorem dX12_readTerms_1 : decode cX12_readTerms 1 = .ok (.iconst 0, 1) := by decide +kernel
theorem dX12_readTerms_2 : decode cX12_readTerms 2 = .ok (.putfield 791, 3) := by decide +kernel
theorem dX12_readTerms_5 : decode cX12_readTerms 5 = .ok (.iconst 0, 1) := by decide +kernel
theorem dX12_readTerms_6 : decode cX12_readTerms 6 = .ok (.istore_n 1, 1) := by decide +kernel
theorem dX12_readTerms_7 : decode cX12_readTerms 7 = .ok (.iload_n 1, 1) := by decide +kernel
theorem dX12_readTerms_8 : decode cX12_readTerms 8 = .ok (.aload_n 0, 1) := by decide +kernel
theorem dX12_readTerms_9 : decode cX12_readTerms 9 = .ok (.getfield 794, 3) := by decide +kernel
theorem dX12_readTerms_12 : decode cX12_readTerms 12 = .ok (.if_icmp .ge 95, 3) := by decide +kernel
theorem dX12_readTerms_15 : decode cX12_readTerms 15 = .ok (.aload_n 0, 1) := by decide +kernel
theorem dX12_readTerms_16 : decode cX12_readTerms 16 = .ok (.getfield 791, 3) := by decide +kernel
theorem dX12_readTerms_19 : decode cX12_readTerms 19 = .ok (.bipush 12, 2) := by decide +kernel
theorem dX12_readTerms_21 : decode cX12_readTerms 21 = .ok (.if_icmp .ge 86, 3) := by decide +kernel
theorem dX12_readTerms_24 : decode cX12_readTerms 24 = .ok (.aload_n 0, 1) := by decide +kernel
theorem dX12_readTerms_25 : decode cX12_readTerms 25 = .ok (.getfield 225, 3) := by decide +kernel
theorem dX12_readTerms_28 : decode cX12_readTerms 28 = .ok (.iload_n 1, 1) := by decide +kernel
theorem dX12_readTerms_29 : decode cX12_readTerms 29 = .ok (.baload, 1) := by decide +kernel
theorem dX12_readTerms_30 : decode cX12_readTerms 30 = .ok (.invokestatic 252, 3) := by decide +kernel
theorem dX12_readTerms_33 : decode cX12_readTerms 33 = .ok (.ifCond .ne 9, 3) := by decide +kernel
theorem dX12_readTerms_36 : decode cX12_readTerms 36 = .ok (.iinc 1 1, 3) := by decide +kernel
theorem dX12_readTerms_39 : decode cX12_readTerms 39 = .ok (.goto (-32), 3) := by decide +kernel
theorem dX12_readTerms_42 : decode cX12_readTerms 42 = .ok (.iload_n 1, 1) := by decide +kernel
theorem dX12_readTerms_43 : decode cX12_readTerms 43 = .ok (.istore_n 2, 1) := by decide +kernel
theorem dX12_readTerms_44 : decode cX12_readTerms 44 = .ok (.iload_n 1, 1) := by decide +kernel
theorem dX12_readTerms_45 : decode cX12_readTerms 45 = .ok (.aload_n 0, 1) := by decide +kernel
theorem dX12_readTerms_46 : decode cX12_readTerms 46 = .ok (.getfield 794, 3) := by decide +kernel
theorem dX12_readTerms_49 : decode cX12_readTerms 49 = .ok (.if_icmp .ge 21, 3) := by decide +kernel
theorem dX12_readTerms_52 : decode cX12_readTerms 52 = .ok (.aload_n 0, 1) := by decide +kernel
theorem dX12_readTerms_53 : decode cX12_readTerms 53 = .ok (.getfield 225, 3) := by decide +kernel
theorem dX12_readTerms_56 : decode cX12_readTerms 56 = .ok (.iload_n 1, 1) := by decide +kernel
theorem dX12_readTerms_57 : decode cX12_readTerms 57 = .ok (.baload, 1) := by decide +kernel
theorem dX12_readTerms_58 : decode cX12_readTerms 58 = .ok (.invokestatic 252, 3) := by decide +kernel
theorem dX12_readTerms_61 : decode cX12_readTerms 61 = .ok (.ifCond .eq 9, 3) := by decide +kernel
theorem dX12_readTerms_64 : decode cX12_readTerms 64 = .ok (.iinc 1 1, 3) := by decide +kernel
theorem dX12_readTerms_67 : decode cX12_readTerms 67 = .ok (.goto (-23), 3) := by decide +kernel
theorem dX12_readTerms_70 : decode cX12_readTerms 70 = .ok (.aload_n 0, 1) := by decide +kernel
theorem dX12_readTerms_71 : decode cX12_readTerms 71 = .ok (.getfield 228, 3) := by decide +kernel
theorem dX12_readTerms_74 : decode cX12_readTerms 74 = .ok (.aload_n 0, 1) := by decide +kernel
theorem dX12_readTerms_75 : decode cX12_readTerms 75 = .ok (.getfield 791, 3) := by decide +kernel
theorem dX12_readTerms_78 : decode cX12_readTerms 78 = .ok (.iload_n 2, 1) := by decide +kernel
theorem dX12_readTerms_79 : decode cX12_readTerms 79 = .ok (.iastore, 1) := by decide +kernel
theorem dX12_readTerms_80 : decode cX12_readTerms 80 = .ok (.aload_n 0, 1) := by decide +kernel
theorem dX12_readTerms_81 : decode cX12_readTerms 81 = .ok (.getfield 231, 3) := by decide +kernel
theorem dX12_readTerms_84 : decode cX12_readTerms 84 = .ok (.aload_n 0, 1) := by decide +kernel
theorem dX12_readTerms_85 : decode cX12_readTerms 85 = .ok (.dup, 1) := by decide +kernel
theorem dX12_readTerms_86 : decode cX12_readTerms 86 = .ok (.getfield 791, 3) := by decide +kernel
theorem dX12_readTerms_89 : decode cX12_readTerms 89 = .ok (.dup_x1, 1) := by decide +kernel
theorem dX12_readTerms_90 : decode cX12_readTerms 90 = .ok (.iconst 1, 1) := by decide +kernel
theorem dX12_readTerms_91 : decode cX12_readTerms 91 = .ok (.iadd, 1) := by decide +kernel
theorem dX12_readTerms_92 : decode cX12_readTerms 92 = .ok (.putfield 791, 3) := by decide +kernel
theorem dX12_readTerms_95 : decode cX12_readTerms 95 = .ok (.bipush 9, 2) := by decide +kernel
theorem dX12_readTerms_97 : decode cX12_readTerms 97 = .ok (.iload_n 1, 1) := by decide +kernel
theorem dX12_readTerms_98 : decode cX12_readTerms 98 = .ok (.iload_n 2, 1) := by decide +kernel
theorem dX12_readTerms_99 : decode cX12_readTerms 99 = .ok (.isub, 1) := by decide +kernel
theorem dX12_readTerms_100 : decode cX12_readTerms 100 = .ok (.invokestatic 293, 3) := by decide +kernel
theorem dX12_readTerms_103 : decode cX12_readTerms 103 = .ok (.iastore, 1) := by decide +kernel
theorem dX12_readTerms_104 : decode cX12_readTerms 104 = .ok (.goto (-97), 3) := by decide +kernel
theorem dX12_readTerms_107 : decode cX12_readTerms 107 = .ok (.return_, 1) := by decide +kernel
def F_X12_readTerms  (σ : MS) : MR :=
  bnd (mI σ 120 0) fun σ_1 =>
  loopF (fun (again_4 : (Int32 × MS) → MR) (s_3 : Int32 × MS) => (
    if (s_3.2.1 117) ≤ s_3.1 then (
      some (0, s_3.2)
    ) else (
      if 12 ≤ (s_3.2.1 120) then (
        some (0, s_3.2)
      ) else (
        if s_3.1 < 0 ∨ 120 ≤ s_3.1.toNatClampNeg then none else
        (F_X12_small (s_3.2.2 116 s_3.1.toNatClampNeg) s_3.2).bind fun u_15 =>
        if u_15.1 = 0 then (
          bnd (s_3.1 + 1) fun (x_19 : Int32) =>
          again_4 (x_19, u_15.2)
        ) else (
          loopF (fun (again_23 : (Int32 × MS) → MR) (s_22 : Int32 × MS) => (
            bnd (fun  (σ_26 : MS) => (
              if (σ_26.1 120) < 0 ∨ 12 ≤ (σ_26.1 120).toNatClampNeg then none else
              bnd (mA σ_26 118 (upd (σ_26.2 118) (σ_26.1 120).toNatClampNeg s_3.1)) fun σ_32 =>
              bnd (mI σ_32 120 ((σ_32.1 120) + 1)) fun σ_34 =>
              bnd ((if (s_22.1 - s_3.1) < 9 then (s_22.1 - s_3.1) else 9)) fun (x_36 : Int32) =>
              if (σ_32.1 120) < 0 ∨ 12 ≤ (σ_32.1 120).toNatClampNeg then none else
              bnd (mA σ_34 119 (upd (σ_34.2 119) (σ_32.1 120).toNatClampNeg x_36)) fun σ_40 =>
              again_4 (s_22.1, σ_40)
            ) : MS → MR) fun j_27 =>
            if (s_22.2.1 117) ≤ s_22.1 then (
              j_27  s_22.2
            ) else (
              if s_22.1 < 0 ∨ 120 ≤ s_22.1.toNatClampNeg then none else
              (F_X12_small (s_22.2.2 116 s_22.1.toNatClampNeg) s_22.2).bind fun u_47 =>
              if u_47.1 = 0 then (
                j_27  u_47.2
              ) else (
                bnd (s_22.1 + 1) fun (x_52 : Int32) =>
                again_23 (x_52, u_47.2)
              )
            )
          )) FU (s_3.1, u_15.2)
        )
      )
    )
  )) FU (0, σ_1)
set_option maxHeartbeats 4000000 in
set_option maxRecDepth 100000 in
theorem m_X12_readTerms (l : Launch) (dC : Nat → ClassId) (dI : Nat → Nat → Nat) (cB cC cI cJ cZ cP : ClassId) (h qK qS : Nat) (ad : Nat → Nat) (hDD : mDis cB cI cZ h qK qS ad) (sz : Nat)   (σ : MS) (res : Int32 × MS) (hF : F_X12_readTerms  σ = some res) : Met l yX12_readTerms (g_ws yX12_readTerms cX12_readTerms 3 none) ({ frames := 2, cells := 0, slots := 0, locals := 60 }) (va_Pc [.ref h] (m_B (dC, dI) [(cB, .byte), (cC, .char), (cI, .int), (cJ, .long), (cZ, .boolean), (cP, .object "StoryHouse$Play")] sz h ad qK qS (mW cB cI cZ h qK qS ad σ) g_0)) (va_Qv (fun (_ : Unit) => True) (fun _ t => va_P (dC, dI) vwCl (mW cB cI cZ h qK qS ad res.2) t.heap) (mCells h ad sz)) 0 0 (mCells h ad sz) := by
  refine Met.ofW (cc := cX12_readTerms) (maxL := 3) (ret := none) (by decide) rfl ?_
  intro p e s m args below meth c s₁ B hml hv
  obtain ⟨rfl, hsz, hP, hK, hE, hKS, hX⟩ := hv
  have hx := B.exec
  have hb := B.bytes
  have hr := B.returns
  have hts0 := atoms_spec (ws := g_ws yX12_readTerms cX12_readTerms 3 none) B.pre
  have hts : ∀ w ∈ lw_good, w.before ([.ref h] : List Value).toArray s = true := fun w z => hts0 w (List.mem_cons_of_mem _ z)
  have hown : s.vm.findClass RX12 = some m.cls := findClass_of_methodNamed B.named
  have hlocks := B.notSynchronized
  have hS : va_S (mCells h ad sz) s.heap s.heap [] := va_S.rf
  have hl := lv_entry ([.ref h]) (n := 3) (Nat.le_of_ble_eq_true rfl)
  rw [lg_entry_eq]
  generalize (lg_sl ([.ref h]) ++ List.replicate (3 - (lg_sl ([.ref h])).length) Slot.unset).toArray = ls at hl ⊢
  have hl : lv_has ls 3 [(0, .ref h)] := hl
  unfold F_X12_readTerms at hF
  refine lv_aload_n hx hb dX12_readTerms_0 rfl (lv_at hl 0 rfl) ?_
  refine lv_iconst (v := 0) hx hb dX12_readTerms_1 (by decide +kernel) ?_
  obtain ⟨σ_1, eσ_1, hF_2⟩ := bnd_e hF
  clear hF
  refine m_put (σ' := σ_1) (v := .int 0) (ty := .int) hx hb hts hown hK hP (hDD _ _) hS (by rw [eσ_1]; exact mwI_120) (k := 120) (by decide) (hts (.fieldLink RX12 791 "StoryHouseModel" "terms" "I") wq_1476) (fun _ h9 => h9) rfl (by decide +kernel) rfl rfl dX12_readTerms_2 (fun H locs hP hS => ?_)
  refine lv_iconst (v := 0) hx hb dX12_readTerms_5 (by decide +kernel) ?_
  refine lv_istore_n (lv' := [(1, .int 0), (0, .ref h)]) hx hb dX12_readTerms_6 rfl hl (by decide) rfl (fun ls hl => ?_)
  refine loopF_ind (P := fun (s_3 : Int32 × MS) => ∀ (H : Heap) (locs : List Loc), va_P (dC, dI) vwCl (mW cB cI cZ h qK qS ad s_3.2) H → va_S (mCells h ad sz) s.heap H locs → ∀ ls : Array Slot, lv_has ls 3 [(0, .ref h), (1, .int s_3.1)] → W p l e (headSpec (g_ws yX12_readTerms cX12_readTerms 3 none) { frames := 2, cells := 0, slots := 0, locals := 60 }).room s m ([.ref h] : List Value).toArray below meth c H locs 0 0 (MQ below (va_Qv (fun (_ : Unit) => True) (fun _ t => va_P (dC, dI) vwCl (mW cB cI cZ h qK qS ad res.2) t.heap) (mCells h ad sz)) ([.ref h] : List Value).toArray s 0 0 (mCells h ad sz)) (F0 m 7 ls [])) ?_ _ _ hF_2 _ _ hP hS ls (lv_sub hl [1, 0] rfl)
  intro again_4 s_3 ih_5 hF_6
  intro H locs hP hS ls hl
  refine lv_iload_n hx hb dX12_readTerms_7 rfl (lv_at hl 1 rfl) ?_
  refine lv_aload_n hx hb dX12_readTerms_8 rfl (lv_at hl 0 rfl) ?_
  refine va_get (D := (dC, dI)) (ci := 12) (v := .int (s_3.2.1 117)) (C := RX12) (T := TX12) (N := 123) hx hb hts ii_X12 hown hK hP 0 rfl rfl 117 (by decide) (hts (.fieldLink RX12 794 "StoryHouseModel" "typedSize" "I") wq_1473) (fun _ h9 => h9) rfl dX12_readTerms_9 ?_
  refine lv_icmp_ge (tgt := 107) hx hb dX12_readTerms_12 (by decide) (fun c_7 => ?_) (fun c_7 => ?_)
  · have hF_8 := ipos c_7 hF_6
    clear hF_6
    have h9 := Option.some.inj hF_8
    subst h9
    exact W.vret hx hb hr (fun t ht hW => ⟨⟨(), rfl, trivial, m_end ht hP⟩, hS.F ht⟩) hS.2.2 dX12_readTerms_107
  · have hF_9 := ineg c_7 hF_6
    clear hF_6
    refine lv_aload_n hx hb dX12_readTerms_15 rfl (lv_at hl 0 rfl) ?_
    refine va_get (D := (dC, dI)) (ci := 12) (v := .int (s_3.2.1 120)) (C := RX12) (T := TX12) (N := 123) hx hb hts ii_X12 hown hK hP 0 rfl rfl 120 (by decide) (hts (.fieldLink RX12 791 "StoryHouseModel" "terms" "I") wq_1476) (fun _ h9 => h9) rfl dX12_readTerms_16 ?_
    refine lv_bipush (v := 12) hx hb dX12_readTerms_19 (by decide +kernel) ?_
    refine lv_icmp_ge (tgt := 107) hx hb dX12_readTerms_21 (by decide) (fun c_10 => ?_) (fun c_10 => ?_)
    · have hF_11 := ipos c_10 hF_9
      clear hF_9
      have h9 := Option.some.inj hF_11
      subst h9
      exact W.vret hx hb hr (fun t ht hW => ⟨⟨(), rfl, trivial, m_end ht hP⟩, hS.F ht⟩) hS.2.2 dX12_readTerms_107
    · have hF_12 := ineg c_10 hF_9
      clear hF_9
      refine lv_aload_n hx hb dX12_readTerms_24 rfl (lv_at hl 0 rfl) ?_
      refine va_get (D := (dC, dI)) (ci := 12) (v := .ref (ad 116)) (C := RX12) (T := TX12) (N := 123) hx hb hts ii_X12 hown hK hP 0 rfl rfl 116 (by decide) (hts (.fieldLink RX12 225 "StoryHouseModel" "typed" "[B") wq_1472) (fun _ h9 => h9) rfl dX12_readTerms_25 ?_
      refine lv_iload_n hx hb dX12_readTerms_28 rfl (lv_at hl 1 rfl) ?_
      obtain ⟨g_13, hF_14⟩ := nif_e hF_12
      clear hF_12
      refine va_bald (f := s_3.2.2 116) hx hb hK hP 65 0 rfl rfl g_13 dX12_readTerms_29 ?_
      obtain ⟨u_15, hu_15, hF_16⟩ := Option.bind_eq_some_iff.mp hF_14
      clear hF_14
      refine m_ci hsz hS (va_runS (As := [.int (s_3.2.2 116 s_3.1.toNatClampNeg)]) (rest := []) ⟨hx, hb, hml, hown, hts⟩ (m_X12_small l dC dI cB cC cI cJ cZ cP h qK qS ad hDD H.size  (s_3.2.2 116 s_3.1.toNatClampNeg) s_3.2 _ hu_15) (va_cwS 1 hts (g_gS wq_1497 wq_1498 wq_13 wq_1499) rfl rfl rfl (by decide +kernel) ⟨Nat.le_of_ble_eq_true rfl, Nat.le_of_ble_eq_true rfl⟩) (m_preS g_bl0 hsz hK hP hS hE hKS g_to0) rfl rfl hl.1 rfl (lv_room (Nat.le_of_ble_eq_true rfl)) dX12_readTerms_30 ⟨Nat.le_of_ble_eq_true rfl, Nat.le_of_ble_eq_true rfl⟩) (fun H locs hP hS => ?_)
      refine lv_if_ne (tgt := 42) hx hb dX12_readTerms_33 (by decide) (fun c_17 => ?_) (fun c_17 => ?_)
      · have hF_21 := ineg c_17 hF_16
        clear hF_16
        refine lv_iload_n hx hb dX12_readTerms_42 rfl (lv_at hl 1 rfl) ?_
        refine lv_istore_n (lv' := [(2, .int s_3.1), (0, .ref h), (1, .int s_3.1)]) hx hb dX12_readTerms_43 rfl hl (by decide) rfl (fun ls hl => ?_)
        refine loopF_ind (P := fun (s_22 : Int32 × MS) => ∀ (H : Heap) (locs : List Loc), va_P (dC, dI) vwCl (mW cB cI cZ h qK qS ad s_22.2) H → va_S (mCells h ad sz) s.heap H locs → ∀ ls : Array Slot, lv_has ls 3 [(0, .ref h), (1, .int s_22.1), (2, .int s_3.1)] → W p l e (headSpec (g_ws yX12_readTerms cX12_readTerms 3 none) { frames := 2, cells := 0, slots := 0, locals := 60 }).room s m ([.ref h] : List Value).toArray below meth c H locs 0 0 (MQ below (va_Qv (fun (_ : Unit) => True) (fun _ t => va_P (dC, dI) vwCl (mW cB cI cZ h qK qS ad res.2) t.heap) (mCells h ad sz)) ([.ref h] : List Value).toArray s 0 0 (mCells h ad sz)) (F0 m 44 ls [])) ?_ _ _ hF_21 _ _ hP hS ls (lv_sub hl [1, 2, 0] rfl)
        intro again_23 s_22 ih_24 hF_25
        intro H locs hP hS ls hl
        refine lv_iload_n hx hb dX12_readTerms_44 rfl (lv_at hl 1 rfl) ?_
        refine lv_aload_n hx hb dX12_readTerms_45 rfl (lv_at hl 0 rfl) ?_
        refine va_get (D := (dC, dI)) (ci := 12) (v := .int (s_22.2.1 117)) (C := RX12) (T := TX12) (N := 123) hx hb hts ii_X12 hown hK hP 0 rfl rfl 117 (by decide) (hts (.fieldLink RX12 794 "StoryHouseModel" "typedSize" "I") wq_1473) (fun _ h9 => h9) rfl dX12_readTerms_46 ?_
        obtain ⟨j_27, ej_27, hF_28⟩ := bnd_e hF_25
        clear hF_25
        have Jj_27 : ∀  (σ_26 : MS), j_27  σ_26 = some res → ∀ (H : Heap) (locs : List Loc), va_P (dC, dI) vwCl (mW cB cI cZ h qK qS ad σ_26) H → va_S (mCells h ad sz) s.heap H locs → ∀ ls : Array Slot, lv_has ls 3 [(0, .ref h), (1, .int s_22.1), (2, .int s_3.1)] → W p l e (headSpec (g_ws yX12_readTerms cX12_readTerms 3 none) { frames := 2, cells := 0, slots := 0, locals := 60 }).room s m ([.ref h] : List Value).toArray below meth c H locs 0 0 (MQ below (va_Qv (fun (_ : Unit) => True) (fun _ t => va_P (dC, dI) vwCl (mW cB cI cZ h qK qS ad res.2) t.heap) (mCells h ad sz)) ([.ref h] : List Value).toArray s 0 0 (mCells h ad sz)) (F0 m 70 ls []) := by
          intro  σ_26 hF0 H locs hP hS ls hl
          subst ej_27
          have hF_29 := hF0
          clear hF0
          refine lv_aload_n hx hb dX12_readTerms_70 rfl (lv_at hl 0 rfl) ?_
          refine va_get (D := (dC, dI)) (ci := 12) (v := .ref (ad 118)) (C := RX12) (T := TX12) (N := 123) hx hb hts ii_X12 hown hK hP 0 rfl rfl 118 (by decide) (hts (.fieldLink RX12 228 "StoryHouseModel" "termAt" "[I") wq_1474) (fun _ h9 => h9) rfl dX12_readTerms_71 ?_
          refine lv_aload_n hx hb dX12_readTerms_74 rfl (lv_at hl 0 rfl) ?_
          refine va_get (D := (dC, dI)) (ci := 12) (v := .int (σ_26.1 120)) (C := RX12) (T := TX12) (N := 123) hx hb hts ii_X12 hown hK hP 0 rfl rfl 120 (by decide) (hts (.fieldLink RX12 791 "StoryHouseModel" "terms" "I") wq_1476) (fun _ h9 => h9) rfl dX12_readTerms_75 ?_
          refine lv_iload_n hx hb dX12_readTerms_78 rfl (lv_at hl 2 rfl) ?_
          obtain ⟨g_30, hF_31⟩ := nif_e hF_29
          clear hF_29
          obtain ⟨σ_32, eσ_32, hF_33⟩ := bnd_e hF_31
          clear hF_31
          refine m_iast (σ' := σ_32) hx hb hK hP (hDD _ _) hS (q0 := 66) (t0 := 2) (f := σ_26.2 118) rfl rfl (by rw [eσ_32]; exact mwA_118) g_30 dX12_readTerms_79 (fun H locs hP hS => ?_)
          refine lv_aload_n hx hb dX12_readTerms_80 rfl (lv_at hl 0 rfl) ?_
          refine va_get (D := (dC, dI)) (ci := 12) (v := .ref (ad 119)) (C := RX12) (T := TX12) (N := 123) hx hb hts ii_X12 hown hK hP 0 rfl rfl 119 (by decide) (hts (.fieldLink RX12 231 "StoryHouseModel" "termSize" "[I") wq_1475) (fun _ h9 => h9) rfl dX12_readTerms_81 ?_
          refine lv_aload_n hx hb dX12_readTerms_84 rfl (lv_at hl 0 rfl) ?_
          refine lv_dup hx hb dX12_readTerms_85 rfl ?_
          refine va_get (D := (dC, dI)) (ci := 12) (v := .int (σ_32.1 120)) (C := RX12) (T := TX12) (N := 123) hx hb hts ii_X12 hown hK hP 0 rfl rfl 120 (by decide) (hts (.fieldLink RX12 791 "StoryHouseModel" "terms" "I") wq_1476) (fun _ h9 => h9) rfl dX12_readTerms_86 ?_
          refine lv_dup_x1 hx hb dX12_readTerms_89 rfl rfl ?_
          refine lv_iconst (v := 1) hx hb dX12_readTerms_90 (by decide +kernel) ?_
          refine lv_iadd hx hb dX12_readTerms_91 ?_
          obtain ⟨σ_34, eσ_34, hF_35⟩ := bnd_e hF_33
          clear hF_33
          refine m_put (σ' := σ_34) (v := .int ((σ_32.1 120) + 1)) (ty := .int) hx hb hts hown hK hP (hDD _ _) hS (by rw [eσ_34]; exact mwI_120) (k := 120) (by decide) (hts (.fieldLink RX12 791 "StoryHouseModel" "terms" "I") wq_1476) (fun _ h9 => h9) rfl (by decide +kernel) rfl rfl dX12_readTerms_92 (fun H locs hP hS => ?_)
          refine lv_bipush (v := 9) hx hb dX12_readTerms_95 (by decide +kernel) ?_
          refine lv_iload_n hx hb dX12_readTerms_97 rfl (lv_at hl 1 rfl) ?_
          refine lv_iload_n hx hb dX12_readTerms_98 rfl (lv_at hl 2 rfl) ?_
          refine lv_isub hx hb dX12_readTerms_99 ?_
          refine va_mmin hx hb (hml.trans hl.1.symm) hown (hts (.methodLink RX12 293 yJ9_min_7cf53) wq_1520) (hts (.static yJ9_min_7cf53) wq_331) (hts (.initialized RJ9) wq_19) (hts (.code yJ9_min_7cf53 cJ9_min_7cf53 2 (some .int)) wq_332) (Nat.le_of_ble_eq_true rfl) (Nat.le_of_ble_eq_true rfl) (Nat.le_of_ble_eq_true rfl) (Nat.le_of_ble_eq_true rfl) dX12_readTerms_100 ?_
          obtain ⟨x_36, ex_36, hF_37⟩ := bnd_e hF_35
          clear hF_35
          refine m_top ex_36 ?_
          obtain ⟨g_38, hF_39⟩ := nif_e hF_37
          clear hF_37
          obtain ⟨σ_40, eσ_40, hF_41⟩ := bnd_e hF_39
          clear hF_39
          refine m_iast (σ' := σ_40) hx hb hK hP (hDD _ _) hS (q0 := 67) (t0 := 2) (f := σ_34.2 119) rfl rfl (by rw [eσ_40]; exact mwA_119) g_38 dX12_readTerms_103 (fun H locs hP hS => ?_)
          refine lv_goto (tgt := 7) hx hb dX12_readTerms_104 (by decide) ?_
          exact ih_5 (s_22.1, σ_40) hF_41 _ _ hP hS ls (lv_sub hl [0, 1] rfl)
        refine lv_icmp_ge (tgt := 70) hx hb dX12_readTerms_49 (by decide) (fun c_42 => ?_) (fun c_42 => ?_)
        · have hF_43 := ipos c_42 hF_28
          clear hF_28
          exact Jj_27  s_22.2 hF_43 _ _ hP hS ls (lv_sub hl [0, 1, 2] rfl)
        · have hF_44 := ineg c_42 hF_28
          clear hF_28
          refine lv_aload_n hx hb dX12_readTerms_52 rfl (lv_at hl 0 rfl) ?_
          refine va_get (D := (dC, dI)) (ci := 12) (v := .ref (ad 116)) (C := RX12) (T := TX12) (N := 123) hx hb hts ii_X12 hown hK hP 0 rfl rfl 116 (by decide) (hts (.fieldLink RX12 225 "StoryHouseModel" "typed" "[B") wq_1472) (fun _ h9 => h9) rfl dX12_readTerms_53 ?_
          refine lv_iload_n hx hb dX12_readTerms_56 rfl (lv_at hl 1 rfl) ?_
          obtain ⟨g_45, hF_46⟩ := nif_e hF_44
          clear hF_44
          refine va_bald (f := s_22.2.2 116) hx hb hK hP 65 0 rfl rfl g_45 dX12_readTerms_57 ?_
          obtain ⟨u_47, hu_47, hF_48⟩ := Option.bind_eq_some_iff.mp hF_46
          clear hF_46
          refine m_ci hsz hS (va_runS (As := [.int (s_22.2.2 116 s_22.1.toNatClampNeg)]) (rest := []) ⟨hx, hb, hml, hown, hts⟩ (m_X12_small l dC dI cB cC cI cJ cZ cP h qK qS ad hDD H.size  (s_22.2.2 116 s_22.1.toNatClampNeg) s_22.2 _ hu_47) (va_cwS 1 hts (g_gS wq_1497 wq_1498 wq_13 wq_1499) rfl rfl rfl (by decide +kernel) ⟨Nat.le_of_ble_eq_true rfl, Nat.le_of_ble_eq_true rfl⟩) (m_preS g_bl0 hsz hK hP hS hE hKS g_to0) rfl rfl hl.1 rfl (lv_room (Nat.le_of_ble_eq_true rfl)) dX12_readTerms_58 ⟨Nat.le_of_ble_eq_true rfl, Nat.le_of_ble_eq_true rfl⟩) (fun H locs hP hS => ?_)
          refine lv_if_eq (tgt := 70) hx hb dX12_readTerms_61 (by decide) (fun c_49 => ?_) (fun c_49 => ?_)
          · have hF_50 := ipos c_49 hF_48
            clear hF_48
            exact Jj_27  u_47.2 hF_50 _ _ hP hS ls (lv_sub hl [0, 1, 2] rfl)
          · have hF_51 := ineg c_49 hF_48
            clear hF_48
            obtain ⟨x_52, ex_52, hF_53⟩ := bnd_e hF_51
            clear hF_51
            refine lv_iinc (v := x_52) (lv' := [(1, .int x_52), (0, .ref h), (2, .int s_3.1)]) hx hb dX12_readTerms_64 hl (k := 1) rfl (by rw [ex_52]; rfl) (by decide) rfl (fun ls hl => ?_)
            refine lv_goto (tgt := 44) hx hb dX12_readTerms_67 (by decide) ?_
            exact ih_24 (x_52, u_47.2) hF_53 _ _ hP hS ls (lv_sub hl [1, 0, 2] rfl)
      · have hF_18 := ipos c_17 hF_16
        clear hF_16
        obtain ⟨x_19, ex_19, hF_20⟩ := bnd_e hF_18
        clear hF_18
        refine lv_iinc (v := x_19) (lv' := [(1, .int x_19), (0, .ref h)]) hx hb dX12_readTerms_36 hl (k := 1) rfl (by rw [ex_19]; rfl) (by decide) rfl (fun ls hl => ?_)
        refine lv_goto (tgt := 7) hx hb dX12_readTerms_39 (by decide) ?_
        exact ih_5 (x_19, u_15.2) hF_20 _ _ hP hS ls (lv_sub hl [1, 0] rfl)
theorem dX12_isTerm_0 : decode cX12_isTerm 0 = .ok (.aload_n 0, 1) := by decide +kernel
theorem dX12_isTerm_1 : decode cX12_isTerm 1 = .ok (.getfield 231, 3) := by decide +kernel
theorem dX12_isTerm_4 : decode cX12_isTerm 4 = .ok (.iload_n 1, 1) := by decide +kernel
theorem dX12_isTerm_5 : decode cX12_isTerm 5 = .ok (.iaload, 1) := by decide +kernel
theorem dX12_isTerm_6 : decode cX12_isTerm 6 = .ok (.bipush 9, 2) := by decide +kernel
theorem dX12_isTerm_8 : decode cX12_isTerm 8 = .ok (.aload_n 2, 1) := by decide +kernel
theorem dX12_isTerm_9 : decode cX12_isTerm 9 = .ok (.invokevirtual 283, 3) := by decide +kernel
theorem dX12_isTerm_12 : decode cX12_isTerm 12 = .ok (.invokestatic 293, 3) := by decide +kernel
theorem dX12_isTerm_15 : decode cX12_isTerm 15 = .ok (.if_icmp .ne 7, 3) := by decide +kernel
theorem dX12_isTerm_18 : decode cX12_isTerm 18 = .ok (.iconst 1, 1) := by decide +kernel
theorem dX12_isTerm_19 : decode cX12_isTerm 19 = .ok (.goto 4, 3) := by decide +kernel
theorem dX12_isTerm_22 : decode cX12_isTerm 22 = .ok (.iconst 0, 1) := by decide +kernel
theorem dX12_isTerm_23 : decode cX12_isTerm 23 = .ok (.istore_n 3, 1) := by decide +kernel
theorem dX12_isTerm_24 : decode cX12_isTerm 24 = .ok (.iconst 0, 1) := by decide +kernel
theorem dX12_isTerm_25 : decode cX12_isTerm 25 = .ok (.istore 4, 2) := by decide +kernel
theorem dX12_isTerm_27 : decode cX12_isTerm 27 = .ok (.iload 4, 2) := by decide +kernel
theorem dX12_isTerm_29 : decode cX12_isTerm 29 = .ok (.aload_n 0, 1) := by decide +kernel
theorem dX12_isTerm_30 : decode cX12_isTerm 30 = .ok (.getfield 231, 3) := by decide +kernel
theorem dX12_isTerm_33 : decode cX12_isTerm 33 = .ok (.iload_n 1, 1) := by decide +kernel
theorem dX12_isTerm_34 : decode cX12_isTerm 34 = .ok (.iaload, 1) := by decide +kernel
theorem dX12_isTerm_35 : decode cX12_isTerm 35 = .ok (.if_icmp .ge 42, 3) := by decide +kernel
theorem dX12_isTerm_38 : decode cX12_isTerm 38 = .ok (.iload_n 3, 1) := by decide +kernel
theorem dX12_isTerm_39 : decode cX12_isTerm 39 = .ok (.ifCond .eq 38, 3) := by decide +kernel
theorem dX12_isTerm_42 : decode cX12_isTerm 42 = .ok (.aload_n 0, 1) := by decide +kernel
theorem dX12_isTerm_43 : decode cX12_isTerm 43 = .ok (.getfield 225, 3) := by decide +kernel
theorem dX12_isTerm_46 : decode cX12_isTerm 46 = .ok (.aload_n 0, 1) := by decide +kernel
theorem dX12_isTerm_47 : decode cX12_isTerm 47 = .ok (.getfield 228, 3) := by decide +kernel
theorem dX12_isTerm_50 : decode cX12_isTerm 50 = .ok (.iload_n 1, 1) := by decide +kernel
theorem dX12_isTerm_51 : decode cX12_isTerm 51 = .ok (.iaload, 1) := by decide +kernel
theorem dX12_isTerm_52 : decode cX12_isTerm 52 = .ok (.iload 4, 2) := by decide +kernel
theorem dX12_isTerm_54 : decode cX12_isTerm 54 = .ok (.iadd, 1) := by decide +kernel
theorem dX12_isTerm_55 : decode cX12_isTerm 55 = .ok (.baload, 1) := by decide +kernel
theorem dX12_isTerm_56 : decode cX12_isTerm 56 = .ok (.aload_n 2, 1) := by decide +kernel
theorem dX12_isTerm_57 : decode cX12_isTerm 57 = .ok (.iload 4, 2) := by decide +kernel
theorem dX12_isTerm_59 : decode cX12_isTerm 59 = .ok (.invokevirtual 289, 3) := by decide +kernel
theorem dX12_isTerm_62 : decode cX12_isTerm 62 = .ok (.if_icmp .ne 7, 3) := by decide +kernel
theorem dX12_isTerm_65 : decode cX12_isTerm 65 = .ok (.iconst 1, 1) := by decide +kernel
theorem dX12_isTerm_66 : decode cX12_isTerm 66 = .ok (.goto 4, 3) := by decide +kernel
theorem dX12_isTerm_69 : decode cX12_isTerm 69 = .ok (.iconst 0, 1) := by decide +kernel
theorem dX12_isTerm_70 : decode cX12_isTerm 70 = .ok (.istore_n 3, 1) := by decide +kernel
theorem dX12_isTerm_71 : decode cX12_isTerm 71 = .ok (.iinc 4 1, 3) := by decide +kernel
theorem dX12_isTerm_74 : decode cX12_isTerm 74 = .ok (.goto (-47), 3) := by decide +kernel
theorem dX12_isTerm_77 : decode cX12_isTerm 77 = .ok (.iload_n 3, 1) := by decide +kernel
theorem dX12_isTerm_78 : decode cX12_isTerm 78 = .ok (.ireturn, 1) := by decide +kernel
def F_X12_isTerm (p0 : Int32) (b1 : List Int32) (σ : MS) : MR :=
  if p0 < 0 ∨ 12 ≤ p0.toNatClampNeg then none else
  bnd ((Int32.ofNat (b1).length)) fun (x_3 : Int32) =>
  bnd ((if x_3 < 9 then x_3 else 9)) fun (x_5 : Int32) =>
  bnd (fun (t_7 : Int32) (σ_8 : MS) => (
    loopF (fun (again_13 : (Int32 × Int32 × MS) → MR) (s_12 : Int32 × Int32 × MS) => (
      if p0 < 0 ∨ 12 ≤ p0.toNatClampNeg then none else
      if (s_12.2.2.2 119 p0.toNatClampNeg) ≤ s_12.2.1 then (
        if ¬ (s_12.1 = 0 ∨ s_12.1 = 1) then none else
        some (s_12.1, s_12.2.2)
      ) else (
        if s_12.1 = 0 then (
          if ¬ (s_12.1 = 0 ∨ s_12.1 = 1) then none else
          some (s_12.1, s_12.2.2)
        ) else (
          if p0 < 0 ∨ 12 ≤ p0.toNatClampNeg then none else
          bnd (((s_12.2.2.2 118 p0.toNatClampNeg) + s_12.2.1)) fun (x_30 : Int32) =>
          if x_30 < 0 ∨ 120 ≤ x_30.toNatClampNeg then none else
          if s_12.2.1 < 0 ∨ Int32.ofNat (b1).length ≤ s_12.2.1 then none else
          bnd ((g_chr ((b1).getD s_12.2.1.toNatClampNeg 0))) fun (x_36 : Int32) =>
          bnd (fun (t_38 : Int32) (σ_39 : MS) => (
            bnd (s_12.2.1 + 1) fun (x_43 : Int32) =>
            again_13 (t_38, x_43, σ_39)
          ) : Int32 → MS → MR) fun j_40 =>
          if (s_12.2.2.2 116 x_30.toNatClampNeg) = x_36 then (
            j_40 1 s_12.2.2
          ) else (
            j_40 0 s_12.2.2
          )
        )
      )
    )) FU (t_7, 0, σ_8)
  ) : Int32 → MS → MR) fun j_9 =>
  if (σ.2 119 p0.toNatClampNeg) = x_5 then (
    j_9 1 σ
  ) else (
    j_9 0 σ
  )
set_option maxHeartbeats 4000000 in
set_option maxRecDepth 100000 in
theorem m_X12_isTerm (l : Launch) (dC : Nat → ClassId) (dI : Nat → Nat → Nat) (cB cC cI cJ cZ cP : ClassId) (h qK qS : Nat) (ad : Nat → Nat) (hDD : mDis cB cI cZ h qK qS ad) (sz : Nat) (q1 vq1 : Nat) (p0 : Int32) (b1 : List Int32) (σ : MS) (res : Int32 × MS) (hF : F_X12_isTerm p0 b1 σ = some res) : Met l yX12_isTerm (g_ws yX12_isTerm cX12_isTerm 5 (some .boolean)) ({ frames := 5, cells := 0, slots := 0, locals := 125 }) (va_Pc [.ref h, .int p0, .ref q1] (m_B (dC, dI) [(cB, .byte), (cC, .char), (cI, .int), (cJ, .long), (cZ, .boolean), (cP, .object "StoryHouse$Play")] sz h ad qK qS (mW cB cI cZ h qK qS ad σ) (fun U : State => g_S q1 vq1 b1 (mCells h ad sz) U U.heap))) (va_Qi (fun r (_ : Unit) => r = res.1) (fun _ t => va_P (dC, dI) vwCl (mW cB cI cZ h qK qS ad res.2) t.heap) (mCells h ad sz)) 0 0 (mCells h ad sz) := by
  refine Met.ofW (cc := cX12_isTerm) (maxL := 5) (ret := (some .boolean)) (by decide) rfl ?_
  intro p e s m args below meth c s₁ B hml hv
  obtain ⟨rfl, hsz, hP, hK, hE, hKS, hX⟩ := hv
  have hStr_q1 := hX
  have hx := B.exec
  have hb := B.bytes
  have hr := B.returns
  have hts0 := atoms_spec (ws := g_ws yX12_isTerm cX12_isTerm 5 (some .boolean)) B.pre
  have hts : ∀ w ∈ lw_good, w.before ([.ref h, .int p0, .ref q1] : List Value).toArray s = true := fun w z => hts0 w (List.mem_cons_of_mem _ z)
  have hown : s.vm.findClass RX12 = some m.cls := findClass_of_methodNamed B.named
  have hlocks := B.notSynchronized
  have hS : va_S (mCells h ad sz) s.heap s.heap [] := va_S.rf
  have hl := lv_entry ([.ref h, .int p0, .ref q1]) (n := 5) (Nat.le_of_ble_eq_true rfl)
  rw [lg_entry_eq]
  generalize (lg_sl ([.ref h, .int p0, .ref q1]) ++ List.replicate (5 - (lg_sl ([.ref h, .int p0, .ref q1])).length) Slot.unset).toArray = ls at hl ⊢
  have hl : lv_has ls 5 [(0, .ref h), (1, .int p0), (2, .ref q1)] := hl
  unfold F_X12_isTerm at hF
  refine lv_aload_n hx hb dX12_isTerm_0 rfl (lv_at hl 0 rfl) ?_
  refine va_get (D := (dC, dI)) (ci := 12) (v := .ref (ad 119)) (C := RX12) (T := TX12) (N := 123) hx hb hts ii_X12 hown hK hP 0 rfl rfl 119 (by decide) (hts (.fieldLink RX12 231 "StoryHouseModel" "termSize" "[I") wq_1475) (fun _ h9 => h9) rfl dX12_isTerm_1 ?_
  refine lv_iload_n hx hb dX12_isTerm_4 rfl (lv_at hl 1 rfl) ?_
  obtain ⟨g_1, hF_2⟩ := nif_e hF
  clear hF
  refine va_iald (f := σ.2 119) hx hb hK hP 67 2 rfl rfl g_1 dX12_isTerm_5 ?_
  refine lv_bipush (v := 9) hx hb dX12_isTerm_6 (by decide +kernel) ?_
  refine lv_aload_n hx hb dX12_isTerm_8 rfl (lv_at hl 2 rfl) ?_
  refine m_cs (v := Int32.ofNat (b1).length) hsz hP hS (va_runV (As := []) (rest := [.int 9, .int (σ.2 119 p0.toNatClampNeg)]) ⟨hx, hb, hml, hown, hts⟩ (c_J0_length_8abf5 l dC dI cB cC cI cJ cZ cP s.heap.size q1  _ b1 ) (cwV 0 hts (g_gV wq_1509 wq_346 wq_347 wq_22 wq_348) rfl rfl rfl (by decide +kernel) ⟨Nat.le_of_ble_eq_true rfl, Nat.le_of_ble_eq_true rfl⟩) (g_preVs g_blS hK (wc := []) (A := mCells h ad sz) (fun k q z => by simp at z) ⟨fun i j p q z => by simp at z, fun k q z => by simp at z⟩ hS hE (m_nil hS hsz) (g_toS hStr_q1 hS (m_nil hS hsz)) (va_Orecv hStr_q1.1 hS)) rfl rfl hl.1 rfl (lv_room (Nat.le_of_ble_eq_true rfl)) dX12_isTerm_9 ⟨Nat.le_of_ble_eq_true rfl, Nat.le_of_ble_eq_true rfl⟩) (fun H locs hP hS => ?_)
  obtain ⟨x_3, ex_3, hF_4⟩ := bnd_e hF_2
  clear hF_2
  refine m_top ex_3 ?_
  refine va_mmin hx hb (hml.trans hl.1.symm) hown (hts (.methodLink RX12 293 yJ9_min_7cf53) wq_1520) (hts (.static yJ9_min_7cf53) wq_331) (hts (.initialized RJ9) wq_19) (hts (.code yJ9_min_7cf53 cJ9_min_7cf53 2 (some .int)) wq_332) (Nat.le_of_ble_eq_true rfl) (Nat.le_of_ble_eq_true rfl) (Nat.le_of_ble_eq_true rfl) (Nat.le_of_ble_eq_true rfl) dX12_isTerm_12 ?_
  obtain ⟨x_5, ex_5, hF_6⟩ := bnd_e hF_4
  clear hF_4
  refine m_top ex_5 ?_
  obtain ⟨j_9, ej_9, hF_10⟩ := bnd_e hF_6
  clear hF_6
  have Jj_9 : ∀ (t_7 : Int32) (σ_8 : MS), j_9 t_7 σ_8 = some res → ∀ (H : Heap) (locs : List Loc), va_P (dC, dI) vwCl (mW cB cI cZ h qK qS ad σ_8) H → va_S (mCells h ad sz) s.heap H locs → ∀ ls : Array Slot, lv_has ls 5 [(0, .ref h), (1, .int p0), (2, .ref q1)] → W p l e (headSpec (g_ws yX12_isTerm cX12_isTerm 5 (some .boolean)) { frames := 5, cells := 0, slots := 0, locals := 125 }).room s m ([.ref h, .int p0, .ref q1] : List Value).toArray below meth c H locs 0 0 (MQ below (va_Qi (fun r (_ : Unit) => r = res.1) (fun _ t => va_P (dC, dI) vwCl (mW cB cI cZ h qK qS ad res.2) t.heap) (mCells h ad sz)) ([.ref h, .int p0, .ref q1] : List Value).toArray s 0 0 (mCells h ad sz)) (F0 m 23 ls [.int t_7]) := by
    intro t_7 σ_8 hF0 H locs hP hS ls hl
    subst ej_9
    have hF_11 := hF0
    clear hF0
    refine lv_istore_n (lv' := [(3, .int t_7), (0, .ref h), (1, .int p0), (2, .ref q1)]) hx hb dX12_isTerm_23 rfl hl (by decide) rfl (fun ls hl => ?_)
    refine lv_iconst (v := 0) hx hb dX12_isTerm_24 (by decide +kernel) ?_
    refine lv_istore (lv' := [(4, .int 0), (3, .int t_7), (0, .ref h), (1, .int p0), (2, .ref q1)]) hx hb dX12_isTerm_25 hl (by decide) rfl (fun ls hl => ?_)
    refine loopF_ind (P := fun (s_12 : Int32 × Int32 × MS) => ∀ (H : Heap) (locs : List Loc), va_P (dC, dI) vwCl (mW cB cI cZ h qK qS ad s_12.2.2) H → va_S (mCells h ad sz) s.heap H locs → ∀ ls : Array Slot, lv_has ls 5 [(0, .ref h), (1, .int p0), (2, .ref q1), (3, .int s_12.1), (4, .int s_12.2.1)] → W p l e (headSpec (g_ws yX12_isTerm cX12_isTerm 5 (some .boolean)) { frames := 5, cells := 0, slots := 0, locals := 125 }).room s m ([.ref h, .int p0, .ref q1] : List Value).toArray below meth c H locs 0 0 (MQ below (va_Qi (fun r (_ : Unit) => r = res.1) (fun _ t => va_P (dC, dI) vwCl (mW cB cI cZ h qK qS ad res.2) t.heap) (mCells h ad sz)) ([.ref h, .int p0, .ref q1] : List Value).toArray s 0 0 (mCells h ad sz)) (F0 m 27 ls [])) ?_ _ _ hF_11 _ _ hP hS ls (lv_sub hl [2, 3, 4, 1, 0] rfl)
    intro again_13 s_12 ih_14 hF_15
    intro H locs hP hS ls hl
    refine lv_iload hx hb dX12_isTerm_27 (lv_at hl 4 rfl) ?_
    refine lv_aload_n hx hb dX12_isTerm_29 rfl (lv_at hl 0 rfl) ?_
    refine va_get (D := (dC, dI)) (ci := 12) (v := .ref (ad 119)) (C := RX12) (T := TX12) (N := 123) hx hb hts ii_X12 hown hK hP 0 rfl rfl 119 (by decide) (hts (.fieldLink RX12 231 "StoryHouseModel" "termSize" "[I") wq_1475) (fun _ h9 => h9) rfl dX12_isTerm_30 ?_
    refine lv_iload_n hx hb dX12_isTerm_33 rfl (lv_at hl 1 rfl) ?_
    obtain ⟨g_16, hF_17⟩ := nif_e hF_15
    clear hF_15
    refine va_iald (f := s_12.2.2.2 119) hx hb hK hP 67 2 rfl rfl g_16 dX12_isTerm_34 ?_
    refine lv_icmp_ge (tgt := 77) hx hb dX12_isTerm_35 (by decide) (fun c_18 => ?_) (fun c_18 => ?_)
    · have hF_19 := ipos c_18 hF_17
      clear hF_17
      refine lv_iload_n hx hb dX12_isTerm_77 rfl (lv_at hl 3 rfl) ?_
      obtain ⟨g_21, hF_20⟩ := nif_e hF_19
      clear hF_19
      have h9 := Option.some.inj hF_20
      subst h9
      exact W.zret (v := s_12.1) hx hb hr (m_bool (Classical.not_not.mp g_21)).1 (fun t ht hW => ⟨⟨s_12.1, (), rfl, rfl, m_end ht hP⟩, hS.F ht⟩) hS.2.2 dX12_isTerm_78
    · have hF_22 := ineg c_18 hF_17
      clear hF_17
      refine lv_iload_n hx hb dX12_isTerm_38 rfl (lv_at hl 3 rfl) ?_
      refine lv_if_eq (tgt := 77) hx hb dX12_isTerm_39 (by decide) (fun c_23 => ?_) (fun c_23 => ?_)
      · have hF_24 := ipos c_23 hF_22
        clear hF_22
        refine lv_iload_n hx hb dX12_isTerm_77 rfl (lv_at hl 3 rfl) ?_
        obtain ⟨g_26, hF_25⟩ := nif_e hF_24
        clear hF_24
        have h9 := Option.some.inj hF_25
        subst h9
        exact W.zret (v := s_12.1) hx hb hr (m_bool (Classical.not_not.mp g_26)).1 (fun t ht hW => ⟨⟨s_12.1, (), rfl, rfl, m_end ht hP⟩, hS.F ht⟩) hS.2.2 dX12_isTerm_78
      · have hF_27 := ineg c_23 hF_22
        clear hF_22
        refine lv_aload_n hx hb dX12_isTerm_42 rfl (lv_at hl 0 rfl) ?_
        refine va_get (D := (dC, dI)) (ci := 12) (v := .ref (ad 116)) (C := RX12) (T := TX12) (N := 123) hx hb hts ii_X12 hown hK hP 0 rfl rfl 116 (by decide) (hts (.fieldLink RX12 225 "StoryHouseModel" "typed" "[B") wq_1472) (fun _ h9 => h9) rfl dX12_isTerm_43 ?_
        refine lv_aload_n hx hb dX12_isTerm_46 rfl (lv_at hl 0 rfl) ?_
        refine va_get (D := (dC, dI)) (ci := 12) (v := .ref (ad 118)) (C := RX12) (T := TX12) (N := 123) hx hb hts ii_X12 hown hK hP 0 rfl rfl 118 (by decide) (hts (.fieldLink RX12 228 "StoryHouseModel" "termAt" "[I") wq_1474) (fun _ h9 => h9) rfl dX12_isTerm_47 ?_
        refine lv_iload_n hx hb dX12_isTerm_50 rfl (lv_at hl 1 rfl) ?_
        obtain ⟨g_28, hF_29⟩ := nif_e hF_27
        clear hF_27
        refine va_iald (f := s_12.2.2.2 118) hx hb hK hP 66 2 rfl rfl g_28 dX12_isTerm_51 ?_
        refine lv_iload hx hb dX12_isTerm_52 (lv_at hl 4 rfl) ?_
        refine lv_iadd hx hb dX12_isTerm_54 ?_
        obtain ⟨x_30, ex_30, hF_31⟩ := bnd_e hF_29
        clear hF_29
        refine m_top ex_30 ?_
        obtain ⟨g_32, hF_33⟩ := nif_e hF_31
        clear hF_31
        refine va_bald (f := s_12.2.2.2 116) hx hb hK hP 65 0 rfl rfl g_32 dX12_isTerm_55 ?_
        refine lv_aload_n hx hb dX12_isTerm_56 rfl (lv_at hl 2 rfl) ?_
        refine lv_iload hx hb dX12_isTerm_57 (lv_at hl 4 rfl) ?_
        obtain ⟨g_34, hF_35⟩ := nif_e hF_33
        clear hF_33
        refine m_cs (v := g_chr ((b1).getD s_12.2.1.toNatClampNeg 0)) hsz hP hS (va_runV (As := [.int s_12.2.1]) (rest := [.int (s_12.2.2.2 116 x_30.toNatClampNeg)]) ⟨hx, hb, hml, hown, hts⟩ (c_J0_charAt_5068e l dC dI cB cC cI cJ cZ cP H.size q1 s_12.2.1 _ b1 (fun z => g_34 (Or.inl z)) (Int32.not_le.mp (fun z => g_34 (Or.inr z)))) (cwV 1 hts (g_gV wq_1510 wq_359 wq_360 wq_22 wq_361) rfl rfl rfl (by decide +kernel) ⟨Nat.le_of_ble_eq_true rfl, Nat.le_of_ble_eq_true rfl⟩) (g_preVs g_blS hK (wc := []) (A := mCells h ad sz) (fun k q z => by simp at z) ⟨fun i j p q z => by simp at z, fun k q z => by simp at z⟩ hS hE (m_nil hS hsz) (g_toS hStr_q1 hS (m_nil hS hsz)) (va_Orecv hStr_q1.1 hS)) rfl rfl hl.1 rfl (lv_room (Nat.le_of_ble_eq_true rfl)) dX12_isTerm_59 ⟨Nat.le_of_ble_eq_true rfl, Nat.le_of_ble_eq_true rfl⟩) (fun H locs hP hS => ?_)
        obtain ⟨x_36, ex_36, hF_37⟩ := bnd_e hF_35
        clear hF_35
        refine m_top ex_36 ?_
        obtain ⟨j_40, ej_40, hF_41⟩ := bnd_e hF_37
        clear hF_37
        have Jj_40 : ∀ (t_38 : Int32) (σ_39 : MS), j_40 t_38 σ_39 = some res → ∀ (H : Heap) (locs : List Loc), va_P (dC, dI) vwCl (mW cB cI cZ h qK qS ad σ_39) H → va_S (mCells h ad sz) s.heap H locs → ∀ ls : Array Slot, lv_has ls 5 [(0, .ref h), (1, .int p0), (2, .ref q1), (4, .int s_12.2.1)] → W p l e (headSpec (g_ws yX12_isTerm cX12_isTerm 5 (some .boolean)) { frames := 5, cells := 0, slots := 0, locals := 125 }).room s m ([.ref h, .int p0, .ref q1] : List Value).toArray below meth c H locs 0 0 (MQ below (va_Qi (fun r (_ : Unit) => r = res.1) (fun _ t => va_P (dC, dI) vwCl (mW cB cI cZ h qK qS ad res.2) t.heap) (mCells h ad sz)) ([.ref h, .int p0, .ref q1] : List Value).toArray s 0 0 (mCells h ad sz)) (F0 m 70 ls [.int t_38]) := by
          intro t_38 σ_39 hF0 H locs hP hS ls hl
          subst ej_40
          have hF_42 := hF0
          clear hF0
          refine lv_istore_n (lv' := [(3, .int t_38), (0, .ref h), (1, .int p0), (2, .ref q1), (4, .int s_12.2.1)]) hx hb dX12_isTerm_70 rfl hl (by decide) rfl (fun ls hl => ?_)
          obtain ⟨x_43, ex_43, hF_44⟩ := bnd_e hF_42
          clear hF_42
          refine lv_iinc (v := x_43) (lv' := [(4, .int x_43), (3, .int t_38), (0, .ref h), (1, .int p0), (2, .ref q1)]) hx hb dX12_isTerm_71 hl (k := 4) rfl (by rw [ex_43]; rfl) (by decide) rfl (fun ls hl => ?_)
          refine lv_goto (tgt := 27) hx hb dX12_isTerm_74 (by decide) ?_
          exact ih_14 (t_38, x_43, σ_39) hF_44 _ _ hP hS ls (lv_sub hl [2, 3, 4, 1, 0] rfl)
        refine lv_icmp_ne (tgt := 69) hx hb dX12_isTerm_62 (by decide) (fun c_45 => ?_) (fun c_45 => ?_)
        · have hF_47 := ineg c_45 hF_41
          clear hF_41
          refine lv_iconst (v := 0) hx hb dX12_isTerm_69 (by decide +kernel) ?_
          exact Jj_40 0 s_12.2.2 hF_47 _ _ hP hS ls (lv_sub hl [0, 1, 2, 4] rfl)
        · have hF_46 := ipos c_45 hF_41
          clear hF_41
          refine lv_iconst (v := 1) hx hb dX12_isTerm_65 (by decide +kernel) ?_
          refine lv_goto (tgt := 70) hx hb dX12_isTerm_66 (by decide) ?_
          exact Jj_40 1 s_12.2.2 hF_46 _ _ hP hS ls (lv_sub hl [0, 1, 2, 4] rfl)
  refine lv_icmp_ne (tgt := 22) hx hb dX12_isTerm_15 (by decide) (fun c_48 => ?_) (fun c_48 => ?_)
  · have hF_50 := ineg c_48 hF_10
    clear hF_10
    refine lv_iconst (v := 0) hx hb dX12_isTerm_22 (by decide +kernel) ?_
    exact Jj_9 0 σ hF_50 _ _ hP hS ls (lv_sub hl [0, 1, 2] rfl)
  · have hF_49 := ipos c_48 hF_10
    clear hF_10
    refine lv_iconst (v := 1) hx hb dX12_isTerm_18 (by decide +kernel) ?_
    refine lv_goto (tgt := 23) hx hb dX12_isTerm_19 (by decide) ?_
    exact Jj_9 1 σ hF_49 _ _ hP hS ls (lv_sub hl [0, 1, 2] rfl)
theorem dX12_isTerm__0 : decode cX12_isTerm_ 0 = .ok (.aload_n 0, 1) := by decide +kernel
theorem dX12_isTerm__1 : decode cX12_isTerm_ 1 = .ok (.getfield 231, 3) := by decide +kernel
theorem dX12_isTerm__4 : decode cX12_isTerm_ 4 = .ok (.iload_n 1, 1) := by decide +kernel
theorem dX12_isTerm__5 : decode cX12_isTerm_ 5 = .ok (.iaload, 1) := by decide +kernel
theorem dX12_isTerm__6 : decode cX12_isTerm_ 6 = .ok (.iload 4, 2) := by decide +kernel
theorem dX12_isTerm__8 : decode cX12_isTerm_ 8 = .ok (.if_icmp .ne 7, 3) := by decide +kernel
theorem dX12_isTerm__11 : decode cX12_isTerm_ 11 = .ok (.iconst 1, 1) := by decide +kernel
theorem dX12_isTerm__12 : decode cX12_isTerm_ 12 = .ok (.goto 4, 3) := by decide +kernel
theorem dX12_isTerm__15 : decode cX12_isTerm_ 15 = .ok (.iconst 0, 1) := by decide +kernel
theorem dX12_isTerm__16 : decode cX12_isTerm_ 16 = .ok (.istore 5, 2) := by decide +kernel
theorem dX12_isTerm__18 : decode cX12_isTerm_ 18 = .ok (.iconst 0, 1) := by decide +kernel
theorem dX12_isTerm__19 : decode cX12_isTerm_ 19 = .ok (.istore 6, 2) := by decide +kernel
theorem dX12_isTerm__21 : decode cX12_isTerm_ 21 = .ok (.iload 6, 2) := by decide +kernel
theorem dX12_isTerm__23 : decode cX12_isTerm_ 23 = .ok (.iload 4, 2) := by decide +kernel
theorem dX12_isTerm__25 : decode cX12_isTerm_ 25 = .ok (.if_icmp .ge 44, 3) := by decide +kernel
theorem dX12_isTerm__28 : decode cX12_isTerm_ 28 = .ok (.iload 5, 2) := by decide +kernel
theorem dX12_isTerm__30 : decode cX12_isTerm_ 30 = .ok (.ifCond .eq 39, 3) := by decide +kernel
theorem dX12_isTerm__33 : decode cX12_isTerm_ 33 = .ok (.aload_n 0, 1) := by decide +kernel
theorem dX12_isTerm__34 : decode cX12_isTerm_ 34 = .ok (.getfield 225, 3) := by decide +kernel
theorem dX12_isTerm__37 : decode cX12_isTerm_ 37 = .ok (.aload_n 0, 1) := by decide +kernel
theorem dX12_isTerm__38 : decode cX12_isTerm_ 38 = .ok (.getfield 228, 3) := by decide +kernel
theorem dX12_isTerm__41 : decode cX12_isTerm_ 41 = .ok (.iload_n 1, 1) := by decide +kernel
theorem dX12_isTerm__42 : decode cX12_isTerm_ 42 = .ok (.iaload, 1) := by decide +kernel
theorem dX12_isTerm__43 : decode cX12_isTerm_ 43 = .ok (.iload 6, 2) := by decide +kernel
theorem dX12_isTerm__45 : decode cX12_isTerm_ 45 = .ok (.iadd, 1) := by decide +kernel
theorem dX12_isTerm__46 : decode cX12_isTerm_ 46 = .ok (.baload, 1) := by decide +kernel
theorem dX12_isTerm__47 : decode cX12_isTerm_ 47 = .ok (.aload_n 2, 1) := by decide +kernel
theorem dX12_isTerm__48 : decode cX12_isTerm_ 48 = .ok (.iload_n 3, 1) := by decide +kernel
theorem dX12_isTerm__49 : decode cX12_isTerm_ 49 = .ok (.iload 6, 2) := by decide +kernel
theorem dX12_isTerm__51 : decode cX12_isTerm_ 51 = .ok (.iadd, 1) := by decide +kernel
theorem dX12_isTerm__52 : decode cX12_isTerm_ 52 = .ok (.baload, 1) := by decide +kernel
theorem dX12_isTerm__53 : decode cX12_isTerm_ 53 = .ok (.if_icmp .ne 7, 3) := by decide +kernel
theorem dX12_isTerm__56 : decode cX12_isTerm_ 56 = .ok (.iconst 1, 1) := by decide +kernel
theorem dX12_isTerm__57 : decode cX12_isTerm_ 57 = .ok (.goto 4, 3) := by decide +kernel
theorem dX12_isTerm__60 : decode cX12_isTerm_ 60 = .ok (.iconst 0, 1) := by decide +kernel
theorem dX12_isTerm__61 : decode cX12_isTerm_ 61 = .ok (.istore 5, 2) := by decide +kernel
theorem dX12_isTerm__63 : decode cX12_isTerm_ 63 = .ok (.iinc 6 1, 3) := by decide +kernel
theorem dX12_isTerm__66 : decode cX12_isTerm_ 66 = .ok (.goto (-45), 3) := by decide +kernel
theorem dX12_isTerm__69 : decode cX12_isTerm_ 69 = .ok (.iload 5, 2) := by decide +kernel
theorem dX12_isTerm__71 : decode cX12_isTerm_ 71 = .ok (.ireturn, 1) := by decide +kernel
def F_X12_isTerm__verbBytes (p0 : Int32) (p2 : Int32) (p3 : Int32) (σ : MS) : MR :=
  if p0 < 0 ∨ 12 ≤ p0.toNatClampNeg then none else
  bnd (fun (t_3 : Int32) (σ_4 : MS) => (
    loopF (fun (again_9 : (Int32 × Int32 × MS) → MR) (s_8 : Int32 × Int32 × MS) => (
      if p3 ≤ s_8.2.1 then (
        if ¬ (s_8.1 = 0 ∨ s_8.1 = 1) then none else
        some (s_8.1, s_8.2.2)
      ) else (
        if s_8.1 = 0 then (
          if ¬ (s_8.1 = 0 ∨ s_8.1 = 1) then none else
          some (s_8.1, s_8.2.2)
        ) else (
          if p0 < 0 ∨ 12 ≤ p0.toNatClampNeg then none else
          bnd (((s_8.2.2.2 118 p0.toNatClampNeg) + s_8.2.1)) fun (x_24 : Int32) =>
          if x_24 < 0 ∨ 120 ≤ x_24.toNatClampNeg then none else
          bnd ((p2 + s_8.2.1)) fun (x_28 : Int32) =>
          if x_28 < 0 ∨ 5490 ≤ x_28.toNatClampNeg then none else
          bnd (fun (t_32 : Int32) (σ_33 : MS) => (
            bnd (s_8.2.1 + 1) fun (x_37 : Int32) =>
            again_9 (t_32, x_37, σ_33)
          ) : Int32 → MS → MR) fun j_34 =>
          if (s_8.2.2.2 116 x_24.toNatClampNeg) = (s_8.2.2.2 57 x_28.toNatClampNeg) then (
            j_34 1 s_8.2.2
          ) else (
            j_34 0 s_8.2.2
          )
        )
      )
    )) FU (t_3, 0, σ_4)
  ) : Int32 → MS → MR) fun j_5 =>
  if (σ.2 119 p0.toNatClampNeg) = p3 then (
    j_5 1 σ
  ) else (
    j_5 0 σ
  )
set_option maxHeartbeats 4000000 in
set_option maxRecDepth 100000 in
theorem m_X12_isTerm__verbBytes (l : Launch) (dC : Nat → ClassId) (dI : Nat → Nat → Nat) (cB cC cI cJ cZ cP : ClassId) (h qK qS : Nat) (ad : Nat → Nat) (hDD : mDis cB cI cZ h qK qS ad) (sz : Nat)  (p0 : Int32) (p2 : Int32) (p3 : Int32) (σ : MS) (res : Int32 × MS) (hF : F_X12_isTerm__verbBytes p0 p2 p3 σ = some res) : Met l yX12_isTerm_ (g_ws yX12_isTerm_ cX12_isTerm_ 7 (some .boolean)) ({ frames := 1, cells := 0, slots := 0, locals := 40 }) (va_Pc [.ref h, .int p0, .ref (ad 57), .int p2, .int p3] (m_B (dC, dI) [(cB, .byte), (cC, .char), (cI, .int), (cJ, .long), (cZ, .boolean), (cP, .object "StoryHouse$Play")] sz h ad qK qS (mW cB cI cZ h qK qS ad σ) g_0)) (va_Qi (fun r (_ : Unit) => r = res.1) (fun _ t => va_P (dC, dI) vwCl (mW cB cI cZ h qK qS ad res.2) t.heap) (mCells h ad sz)) 0 0 (mCells h ad sz) := by
  refine Met.ofW (cc := cX12_isTerm_) (maxL := 7) (ret := (some .boolean)) (by decide) rfl ?_
  intro p e s m args below meth c s₁ B hml hv
  obtain ⟨rfl, hsz, hP, hK, hE, hKS, hX⟩ := hv
  have hx := B.exec
  have hb := B.bytes
  have hr := B.returns
  have hts0 := atoms_spec (ws := g_ws yX12_isTerm_ cX12_isTerm_ 7 (some .boolean)) B.pre
  have hts : ∀ w ∈ lw_good, w.before ([.ref h, .int p0, .ref (ad 57), .int p2, .int p3] : List Value).toArray s = true := fun w z => hts0 w (List.mem_cons_of_mem _ z)
  have hown : s.vm.findClass RX12 = some m.cls := findClass_of_methodNamed B.named
  have hlocks := B.notSynchronized
  have hS : va_S (mCells h ad sz) s.heap s.heap [] := va_S.rf
  have hl := lv_entry ([.ref h, .int p0, .ref (ad 57), .int p2, .int p3]) (n := 7) (Nat.le_of_ble_eq_true rfl)
  rw [lg_entry_eq]
  generalize (lg_sl ([.ref h, .int p0, .ref (ad 57), .int p2, .int p3]) ++ List.replicate (7 - (lg_sl ([.ref h, .int p0, .ref (ad 57), .int p2, .int p3])).length) Slot.unset).toArray = ls at hl ⊢
  have hl : lv_has ls 7 [(0, .ref h), (1, .int p0), (2, .ref (ad 57)), (3, .int p2), (4, .int p3)] := hl
  unfold F_X12_isTerm__verbBytes at hF
  refine lv_aload_n hx hb dX12_isTerm__0 rfl (lv_at hl 0 rfl) ?_
  refine va_get (D := (dC, dI)) (ci := 12) (v := .ref (ad 119)) (C := RX12) (T := TX12) (N := 123) hx hb hts ii_X12 hown hK hP 0 rfl rfl 119 (by decide) (hts (.fieldLink RX12 231 "StoryHouseModel" "termSize" "[I") wq_1475) (fun _ h9 => h9) rfl dX12_isTerm__1 ?_
  refine lv_iload_n hx hb dX12_isTerm__4 rfl (lv_at hl 1 rfl) ?_
  obtain ⟨g_1, hF_2⟩ := nif_e hF
  clear hF
  refine va_iald (f := σ.2 119) hx hb hK hP 67 2 rfl rfl g_1 dX12_isTerm__5 ?_
  refine lv_iload hx hb dX12_isTerm__6 (lv_at hl 4 rfl) ?_
  obtain ⟨j_5, ej_5, hF_6⟩ := bnd_e hF_2
  clear hF_2
  have Jj_5 : ∀ (t_3 : Int32) (σ_4 : MS), j_5 t_3 σ_4 = some res → ∀ (H : Heap) (locs : List Loc), va_P (dC, dI) vwCl (mW cB cI cZ h qK qS ad σ_4) H → va_S (mCells h ad sz) s.heap H locs → ∀ ls : Array Slot, lv_has ls 7 [(0, .ref h), (1, .int p0), (2, .ref (ad 57)), (3, .int p2), (4, .int p3)] → W p l e (headSpec (g_ws yX12_isTerm_ cX12_isTerm_ 7 (some .boolean)) { frames := 1, cells := 0, slots := 0, locals := 40 }).room s m ([.ref h, .int p0, .ref (ad 57), .int p2, .int p3] : List Value).toArray below meth c H locs 0 0 (MQ below (va_Qi (fun r (_ : Unit) => r = res.1) (fun _ t => va_P (dC, dI) vwCl (mW cB cI cZ h qK qS ad res.2) t.heap) (mCells h ad sz)) ([.ref h, .int p0, .ref (ad 57), .int p2, .int p3] : List Value).toArray s 0 0 (mCells h ad sz)) (F0 m 16 ls [.int t_3]) := by
    intro t_3 σ_4 hF0 H locs hP hS ls hl
    subst ej_5
    have hF_7 := hF0
    clear hF0
    refine lv_istore (lv' := [(5, .int t_3), (0, .ref h), (1, .int p0), (2, .ref (ad 57)), (3, .int p2), (4, .int p3)]) hx hb dX12_isTerm__16 hl (by decide) rfl (fun ls hl => ?_)
    refine lv_iconst (v := 0) hx hb dX12_isTerm__18 (by decide +kernel) ?_
    refine lv_istore (lv' := [(6, .int 0), (5, .int t_3), (0, .ref h), (1, .int p0), (2, .ref (ad 57)), (3, .int p2), (4, .int p3)]) hx hb dX12_isTerm__19 hl (by decide) rfl (fun ls hl => ?_)
    refine loopF_ind (P := fun (s_8 : Int32 × Int32 × MS) => ∀ (H : Heap) (locs : List Loc), va_P (dC, dI) vwCl (mW cB cI cZ h qK qS ad s_8.2.2) H → va_S (mCells h ad sz) s.heap H locs → ∀ ls : Array Slot, lv_has ls 7 [(0, .ref h), (1, .int p0), (2, .ref (ad 57)), (3, .int p2), (4, .int p3), (5, .int s_8.1), (6, .int s_8.2.1)] → W p l e (headSpec (g_ws yX12_isTerm_ cX12_isTerm_ 7 (some .boolean)) { frames := 1, cells := 0, slots := 0, locals := 40 }).room s m ([.ref h, .int p0, .ref (ad 57), .int p2, .int p3] : List Value).toArray below meth c H locs 0 0 (MQ below (va_Qi (fun r (_ : Unit) => r = res.1) (fun _ t => va_P (dC, dI) vwCl (mW cB cI cZ h qK qS ad res.2) t.heap) (mCells h ad sz)) ([.ref h, .int p0, .ref (ad 57), .int p2, .int p3] : List Value).toArray s 0 0 (mCells h ad sz)) (F0 m 21 ls [])) ?_ _ _ hF_7 _ _ hP hS ls (lv_sub hl [2, 3, 4, 5, 6, 1, 0] rfl)
    intro again_9 s_8 ih_10 hF_11
    intro H locs hP hS ls hl
    refine lv_iload hx hb dX12_isTerm__21 (lv_at hl 6 rfl) ?_
    refine lv_iload hx hb dX12_isTerm__23 (lv_at hl 4 rfl) ?_
    refine lv_icmp_ge (tgt := 69) hx hb dX12_isTerm__25 (by decide) (fun c_12 => ?_) (fun c_12 => ?_)
    · have hF_13 := ipos c_12 hF_11
      clear hF_11
      refine lv_iload hx hb dX12_isTerm__69 (lv_at hl 5 rfl) ?_
      obtain ⟨g_15, hF_14⟩ := nif_e hF_13
      clear hF_13
      have h9 := Option.some.inj hF_14
      subst h9
      exact W.zret (v := s_8.1) hx hb hr (m_bool (Classical.not_not.mp g_15)).1 (fun t ht hW => ⟨⟨s_8.1, (), rfl, rfl, m_end ht hP⟩, hS.F ht⟩) hS.2.2 dX12_isTerm__71
    · have hF_16 := ineg c_12 hF_11
      clear hF_11
      refine lv_iload hx hb dX12_isTerm__28 (lv_at hl 5 rfl) ?_
      refine lv_if_eq (tgt := 69) hx hb dX12_isTerm__30 (by decide) (fun c_17 => ?_) (fun c_17 => ?_)
      · have hF_18 := ipos c_17 hF_16
        clear hF_16
        refine lv_iload hx hb dX12_isTerm__69 (lv_at hl 5 rfl) ?_
        obtain ⟨g_20, hF_19⟩ := nif_e hF_18
        clear hF_18
        have h9 := Option.some.inj hF_19
        subst h9
        exact W.zret (v := s_8.1) hx hb hr (m_bool (Classical.not_not.mp g_20)).1 (fun t ht hW => ⟨⟨s_8.1, (), rfl, rfl, m_end ht hP⟩, hS.F ht⟩) hS.2.2 dX12_isTerm__71
      · have hF_21 := ineg c_17 hF_16
        clear hF_16
        refine lv_aload_n hx hb dX12_isTerm__33 rfl (lv_at hl 0 rfl) ?_
        refine va_get (D := (dC, dI)) (ci := 12) (v := .ref (ad 116)) (C := RX12) (T := TX12) (N := 123) hx hb hts ii_X12 hown hK hP 0 rfl rfl 116 (by decide) (hts (.fieldLink RX12 225 "StoryHouseModel" "typed" "[B") wq_1472) (fun _ h9 => h9) rfl dX12_isTerm__34 ?_
        refine lv_aload_n hx hb dX12_isTerm__37 rfl (lv_at hl 0 rfl) ?_
        refine va_get (D := (dC, dI)) (ci := 12) (v := .ref (ad 118)) (C := RX12) (T := TX12) (N := 123) hx hb hts ii_X12 hown hK hP 0 rfl rfl 118 (by decide) (hts (.fieldLink RX12 228 "StoryHouseModel" "termAt" "[I") wq_1474) (fun _ h9 => h9) rfl dX12_isTerm__38 ?_
        refine lv_iload_n hx hb dX12_isTerm__41 rfl (lv_at hl 1 rfl) ?_
        obtain ⟨g_22, hF_23⟩ := nif_e hF_21
        clear hF_21
        refine va_iald (f := s_8.2.2.2 118) hx hb hK hP 66 2 rfl rfl g_22 dX12_isTerm__42 ?_
        refine lv_iload hx hb dX12_isTerm__43 (lv_at hl 6 rfl) ?_
        refine lv_iadd hx hb dX12_isTerm__45 ?_
        obtain ⟨x_24, ex_24, hF_25⟩ := bnd_e hF_23
        clear hF_23
        refine m_top ex_24 ?_
        obtain ⟨g_26, hF_27⟩ := nif_e hF_25
        clear hF_25
        refine va_bald (f := s_8.2.2.2 116) hx hb hK hP 65 0 rfl rfl g_26 dX12_isTerm__46 ?_
        refine lv_aload_n hx hb dX12_isTerm__47 rfl (lv_at hl 2 rfl) ?_
        refine lv_iload_n hx hb dX12_isTerm__48 rfl (lv_at hl 3 rfl) ?_
        refine lv_iload hx hb dX12_isTerm__49 (lv_at hl 6 rfl) ?_
        refine lv_iadd hx hb dX12_isTerm__51 ?_
        obtain ⟨x_28, ex_28, hF_29⟩ := bnd_e hF_27
        clear hF_27
        refine m_top ex_28 ?_
        obtain ⟨g_30, hF_31⟩ := nif_e hF_29
        clear hF_29
        refine va_bald (f := s_8.2.2.2 57) hx hb hK hP 31 0 rfl rfl g_30 dX12_isTerm__52 ?_
        obtain ⟨j_34, ej_34, hF_35⟩ := bnd_e hF_31
        clear hF_31
        have Jj_34 : ∀ (t_32 : Int32) (σ_33 : MS), j_34 t_32 σ_33 = some res → ∀ (H : Heap) (locs : List Loc), va_P (dC, dI) vwCl (mW cB cI cZ h qK qS ad σ_33) H → va_S (mCells h ad sz) s.heap H locs → ∀ ls : Array Slot, lv_has ls 7 [(0, .ref h), (1, .int p0), (2, .ref (ad 57)), (3, .int p2), (4, .int p3), (6, .int s_8.2.1)] → W p l e (headSpec (g_ws yX12_isTerm_ cX12_isTerm_ 7 (some .boolean)) { frames := 1, cells := 0, slots := 0, locals := 40 }).room s m ([.ref h, .int p0, .ref (ad 57), .int p2, .int p3] : List Value).toArray below meth c H locs 0 0 (MQ below (va_Qi (fun r (_ : Unit) => r = res.1) (fun _ t => va_P (dC, dI) vwCl (mW cB cI cZ h qK qS ad res.2) t.heap) (mCells h ad sz)) ([.ref h, .int p0, .ref (ad 57), .int p2, .int p3] : List Value).toArray s 0 0 (mCells h ad sz)) (F0 m 61 ls [.int t_32]) := by
          intro t_32 σ_33 hF0 H locs hP hS ls hl
          subst ej_34
          have hF_36 := hF0
          clear hF0
          refine lv_istore (lv' := [(5, .int t_32), (0, .ref h), (1, .int p0), (2, .ref (ad 57)), (3, .int p2), (4, .int p3), (6, .int s_8.2.1)]) hx hb dX12_isTerm__61 hl (by decide) rfl (fun ls hl => ?_)
          obtain ⟨x_37, ex_37, hF_38⟩ := bnd_e hF_36
          clear hF_36
          refine lv_iinc (v := x_37) (lv' := [(6, .int x_37), (5, .int t_32), (0, .ref h), (1, .int p0), (2, .ref (ad 57)), (3, .int p2), (4, .int p3)]) hx hb dX12_isTerm__63 hl (k := 6) rfl (by rw [ex_37]; rfl) (by decide) rfl (fun ls hl => ?_)
          refine lv_goto (tgt := 21) hx hb dX12_isTerm__66 (by decide) ?_
          exact ih_10 (t_32, x_37, σ_33) hF_38 _ _ hP hS ls (lv_sub hl [2, 3, 4, 5, 6, 1, 0] rfl)
        refine lv_icmp_ne (tgt := 60) hx hb dX12_isTerm__53 (by decide) (fun c_39 => ?_) (fun c_39 => ?_)
        · have hF_41 := ineg c_39 hF_35
          clear hF_35
          refine lv_iconst (v := 0) hx hb dX12_isTerm__60 (by decide +kernel) ?_
          exact Jj_34 0 s_8.2.2 hF_41 _ _ hP hS ls (lv_sub hl [0, 1, 2, 3, 4, 6] rfl)
        · have hF_40 := ipos c_39 hF_35
          clear hF_35
          refine lv_iconst (v := 1) hx hb dX12_isTerm__56 (by decide +kernel) ?_
          refine lv_goto (tgt := 61) hx hb dX12_isTerm__57 (by decide) ?_
          exact Jj_34 1 s_8.2.2 hF_40 _ _ hP hS ls (lv_sub hl [0, 1, 2, 3, 4, 6] rfl)
  refine lv_icmp_ne (tgt := 15) hx hb dX12_isTerm__8 (by decide) (fun c_42 => ?_) (fun c_42 => ?_)
  · have hF_44 := ineg c_42 hF_6
    clear hF_6
    refine lv_iconst (v := 0) hx hb dX12_isTerm__15 (by decide +kernel) ?_
    exact Jj_5 0 σ hF_44 _ _ hP hS ls (lv_sub hl [0, 1, 2, 3, 4] rfl)
  · have hF_43 := ipos c_42 hF_6
    clear hF_6
    refine lv_iconst (v := 1) hx hb dX12_isTerm__11 (by decide +kernel) ?_
    refine lv_goto (tgt := 16) hx hb dX12_isTerm__12 (by decide) ?_
    exact Jj_5 1 σ hF_43 _ _ hP hS ls (lv_sub hl [0, 1, 2, 3, 4] rfl)
def F_X12_isTerm__between (p0 : Int32) (p2 : Int32) (p3 : Int32) (σ : MS) : MR :=
  if p0 < 0 ∨ 12 ≤ p0.toNatClampNeg then none else
  bnd (fun (t_3 : Int32) (σ_4 : MS) => (
    loopF (fun (again_9 : (Int32 × Int32 × MS) → MR) (s_8 : Int32 × Int32 × MS) => (
      if p3 ≤ s_8.2.1 then (
        if ¬ (s_8.1 = 0 ∨ s_8.1 = 1) then none else
        some (s_8.1, s_8.2.2)
      ) else (
        if s_8.1 = 0 then (
          if ¬ (s_8.1 = 0 ∨ s_8.1 = 1) then none else
          some (s_8.1, s_8.2.2)
        ) else (
          if p0 < 0 ∨ 12 ≤ p0.toNatClampNeg then none else
          bnd (((s_8.2.2.2 118 p0.toNatClampNeg) + s_8.2.1)) fun (x_24 : Int32) =>
          if x_24 < 0 ∨ 120 ≤ x_24.toNatClampNeg then none else
          bnd ((p2 + s_8.2.1)) fun (x_28 : Int32) =>
          if x_28 < 0 ∨ 549 ≤ x_28.toNatClampNeg then none else
          bnd (fun (t_32 : Int32) (σ_33 : MS) => (
            bnd (s_8.2.1 + 1) fun (x_37 : Int32) =>
            again_9 (t_32, x_37, σ_33)
          ) : Int32 → MS → MR) fun j_34 =>
          if (s_8.2.2.2 116 x_24.toNatClampNeg) = (s_8.2.2.2 61 x_28.toNatClampNeg) then (
            j_34 1 s_8.2.2
          ) else (
            j_34 0 s_8.2.2
          )
        )
      )
    )) FU (t_3, 0, σ_4)
  ) : Int32 → MS → MR) fun j_5 =>
  if (σ.2 119 p0.toNatClampNeg) = p3 then (
    j_5 1 σ
  ) else (
    j_5 0 σ
  )
set_option maxHeartbeats 4000000 in
set_option maxRecDepth 100000 in
theorem m_X12_isTerm__between (l : Launch) (dC : Nat → ClassId) (dI : Nat → Nat → Nat) (cB cC cI cJ cZ cP : ClassId) (h qK qS : Nat) (ad : Nat → Nat) (hDD : mDis cB cI cZ h qK qS ad) (sz : Nat)  (p0 : Int32) (p2 : Int32) (p3 : Int32) (σ : MS) (res : Int32 × MS) (hF : F_X12_isTerm__between p0 p2 p3 σ = some res) : Met l yX12_isTerm_ (g_ws yX12_isTerm_ cX12_isTerm_ 7 (some .boolean)) ({ frames := 1, cells := 0, slots := 0, locals := 40 }) (va_Pc [.ref h, .int p0, .ref (ad 61), .int p2, .int p3] (m_B (dC, dI) [(cB, .byte), (cC, .char), (cI, .int), (cJ, .long), (cZ, .boolean), (cP, .object "StoryHouse$Play")] sz h ad qK qS (mW cB cI cZ h qK qS ad σ) g_0)) (va_Qi (fun r (_ : Unit) => r = res.1) (fun _ t => va_P (dC, dI) vwCl (mW cB cI cZ h qK qS ad res.2) t.heap) (mCells h ad sz)) 0 0 (mCells h ad sz) := by
  refine Met.ofW (cc := cX12_isTerm_) (maxL := 7) (ret := (some .boolean)) (by decide) rfl ?_
  intro p e s m args below meth c s₁ B hml hv
  obtain ⟨rfl, hsz, hP, hK, hE, hKS, hX⟩ := hv
  have hx := B.exec
  have hb := B.bytes
  have hr := B.returns
  have hts0 := atoms_spec (ws := g_ws yX12_isTerm_ cX12_isTerm_ 7 (some .boolean)) B.pre
  have hts : ∀ w ∈ lw_good, w.before ([.ref h, .int p0, .ref (ad 61), .int p2, .int p3] : List Value).toArray s = true := fun w z => hts0 w (List.mem_cons_of_mem _ z)
  have hown : s.vm.findClass RX12 = some m.cls := findClass_of_methodNamed B.named
  have hlocks := B.notSynchronized
  have hS : va_S (mCells h ad sz) s.heap s.heap [] := va_S.rf
  have hl := lv_entry ([.ref h, .int p0, .ref (ad 61), .int p2, .int p3]) (n := 7) (Nat.le_of_ble_eq_true rfl)
  rw [lg_entry_eq]
  generalize (lg_sl ([.ref h, .int p0, .ref (ad 61), .int p2, .int p3]) ++ List.replicate (7 - (lg_sl ([.ref h, .int p0, .ref (ad 61), .int p2, .int p3])).length) Slot.unset).toArray = ls at hl ⊢
  have hl : lv_has ls 7 [(0, .ref h), (1, .int p0), (2, .ref (ad 61)), (3, .int p2), (4, .int p3)] := hl
  unfold F_X12_isTerm__between at hF
  refine lv_aload_n hx hb dX12_isTerm__0 rfl (lv_at hl 0 rfl) ?_
  refine va_get (D := (dC, dI)) (ci := 12) (v := .ref (ad 119)) (C := RX12) (T := TX12) (N := 123) hx hb hts ii_X12 hown hK hP 0 rfl rfl 119 (by decide) (hts (.fieldLink RX12 231 "StoryHouseModel" "termSize" "[I") wq_1475) (fun _ h9 => h9) rfl dX12_isTerm__1 ?_
  refine lv_iload_n hx hb dX12_isTerm__4 rfl (lv_at hl 1 rfl) ?_
  obtain ⟨g_1, hF_2⟩ := nif_e hF
  clear hF
  refine va_iald (f := σ.2 119) hx hb hK hP 67 2 rfl rfl g_1 dX12_isTerm__5 ?_
  refine lv_iload hx hb dX12_isTerm__6 (lv_at hl 4 rfl) ?_
  obtain ⟨j_5, ej_5, hF_6⟩ := bnd_e hF_2
  clear hF_2
  have Jj_5 : ∀ (t_3 : Int32) (σ_4 : MS), j_5 t_3 σ_4 = some res → ∀ (H : Heap) (locs : List Loc), va_P (dC, dI) vwCl (mW cB cI cZ h qK qS ad σ_4) H → va_S (mCells h ad sz) s.heap H locs → ∀ ls : Array Slot, lv_has ls 7 [(0, .ref h), (1, .int p0), (2, .ref (ad 61)), (3, .int p2), (4, .int p3)] → W p l e (headSpec (g_ws yX12_isTerm_ cX12_isTerm_ 7 (some .boolean)) { frames := 1, cells := 0, slots := 0, locals := 40 }).room s m ([.ref h, .int p0, .ref (ad 61), .int p2, .int p3] : List Value).toArray below meth c H locs 0 0 (MQ below (va_Qi (fun r (_ : Unit) => r = res.1) (fun _ t => va_P (dC, dI) vwCl (mW cB cI cZ h qK qS ad res.2) t.heap) (mCells h ad sz)) ([.ref h, .int p0, .ref (ad 61), .int p2, .int p3] : List Value).toArray s 0 0 (mCells h ad sz)) (F0 m 16 ls [.int t_3]) := by
    intro t_3 σ_4 hF0 H locs hP hS ls hl
    subst ej_5
    have hF_7 := hF0
    clear hF0
    refine lv_istore (lv' := [(5, .int t_3), (0, .ref h), (1, .int p0), (2, .ref (ad 61)), (3, .int p2), (4, .int p3)]) hx hb dX12_isTerm__16 hl (by decide) rfl (fun ls hl => ?_)
    refine lv_iconst (v := 0) hx hb dX12_isTerm__18 (by decide +kernel) ?_
    refine lv_istore (lv' := [(6, .int 0), (5, .int t_3), (0, .ref h), (1, .int p0), (2, .ref (ad 61)), (3, .int p2), (4, .int p3)]) hx hb dX12_isTerm__19 hl (by decide) rfl (fun ls hl => ?_)
    refine loopF_ind (P := fun (s_8 : Int32 × Int32 × MS) => ∀ (H : Heap) (locs : List Loc), va_P (dC, dI) vwCl (mW cB cI cZ h qK qS ad s_8.2.2) H → va_S (mCells h ad sz) s.heap H locs → ∀ ls : Array Slot, lv_has ls 7 [(0, .ref h), (1, .int p0), (2, .ref (ad 61)), (3, .int p2), (4, .int p3), (5, .int s_8.1), (6, .int s_8.2.1)] → W p l e (headSpec (g_ws yX12_isTerm_ cX12_isTerm_ 7 (some .boolean)) { frames := 1, cells := 0, slots := 0, locals := 40 }).room s m ([.ref h, .int p0, .ref (ad 61), .int p2, .int p3] : List Value).toArray below meth c H locs 0 0 (MQ below (va_Qi (fun r (_ : Unit) => r = res.1) (fun _ t => va_P (dC, dI) vwCl (mW cB cI cZ h qK qS ad res.2) t.heap) (mCells h ad sz)) ([.ref h, .int p0, .ref (ad 61), .int p2, .int p3] : List Value).toArray s 0 0 (mCells h ad sz)) (F0 m 21 ls [])) ?_ _ _ hF_7 _ _ hP hS ls (lv_sub hl [2, 3, 4, 5, 6, 1, 0] rfl)
    intro again_9 s_8 ih_10 hF_11
    intro H locs hP hS ls hl
    refine lv_iload hx hb dX12_isTerm__21 (lv_at hl 6 rfl) ?_
    refine lv_iload hx hb dX12_isTerm__23 (lv_at hl 4 rfl) ?_
    refine lv_icmp_ge (tgt := 69) hx hb dX12_isTerm__25 (by decide) (fun c_12 => ?_) (fun c_12 => ?_)
    · have hF_13 := ipos c_12 hF_11
      clear hF_11
      refine lv_iload hx hb dX12_isTerm__69 (lv_at hl 5 rfl) ?_
      obtain ⟨g_15, hF_14⟩ := nif_e hF_13
      clear hF_13
      have h9 := Option.some.inj hF_14
      subst h9
      exact W.zret (v := s_8.1) hx hb hr (m_bool (Classical.not_not.mp g_15)).1 (fun t ht hW => ⟨⟨s_8.1, (), rfl, rfl, m_end ht hP⟩, hS.F ht⟩) hS.2.2 dX12_isTerm__71
    · have hF_16 := ineg c_12 hF_11
      clear hF_11
      refine lv_iload hx hb dX12_isTerm__28 (lv_at hl 5 rfl) ?_
      refine lv_if_eq (tgt := 69) hx hb dX12_isTerm__30 (by decide) (fun c_17 => ?_) (fun c_17 => ?_)
      · have hF_18 := ipos c_17 hF_16
        clear hF_16
        refine lv_iload hx hb dX12_isTerm__69 (lv_at hl 5 rfl) ?_
        obtain ⟨g_20, hF_19⟩ := nif_e hF_18
        clear hF_18
        have h9 := Option.some.inj hF_19
        subst h9
        exact W.zret (v := s_8.1) hx hb hr (m_bool (Classical.not_not.mp g_20)).1 (fun t ht hW => ⟨⟨s_8.1, (), rfl, rfl, m_end ht hP⟩, hS.F ht⟩) hS.2.2 dX12_isTerm__71
      · have hF_21 := ineg c_17 hF_16
        clear hF_16
        refine lv_aload_n hx hb dX12_isTerm__33 rfl (lv_at hl 0 rfl) ?_
        refine va_get (D := (dC, dI)) (ci := 12) (v := .ref (ad 116)) (C := RX12) (T := TX12) (N := 123) hx hb hts ii_X12 hown hK hP 0 rfl rfl 116 (by decide) (hts (.fieldLink RX12 225 "StoryHouseModel" "typed" "[B") wq_1472) (fun _ h9 => h9) rfl dX12_isTerm__34 ?_
        refine lv_aload_n hx hb dX12_isTerm__37 rfl (lv_at hl 0 rfl) ?_
        refine va_get (D := (dC, dI)) (ci := 12) (v := .ref (ad 118)) (C := RX12) (T := TX12) (N := 123) hx hb hts ii_X12 hown hK hP 0 rfl rfl 118 (by decide) (hts (.fieldLink RX12 228 "StoryHouseModel" "termAt" "[I") wq_1474) (fun _ h9 => h9) rfl dX12_isTerm__38 ?_
        refine lv_iload_n hx hb dX12_isTerm__41 rfl (lv_at hl 1 rfl) ?_
        obtain ⟨g_22, hF_23⟩ := nif_e hF_21
        clear hF_21
        refine va_iald (f := s_8.2.2.2 118) hx hb hK hP 66 2 rfl rfl g_22 dX12_isTerm__42 ?_
        refine lv_iload hx hb dX12_isTerm__43 (lv_at hl 6 rfl) ?_
        refine lv_iadd hx hb dX12_isTerm__45 ?_
        obtain ⟨x_24, ex_24, hF_25⟩ := bnd_e hF_23
        clear hF_23
        refine m_top ex_24 ?_
        obtain ⟨g_26, hF_27⟩ := nif_e hF_25
        clear hF_25
        refine va_bald (f := s_8.2.2.2 116) hx hb hK hP 65 0 rfl rfl g_26 dX12_isTerm__46 ?_
        refine lv_aload_n hx hb dX12_isTerm__47 rfl (lv_at hl 2 rfl) ?_
        refine lv_iload_n hx hb dX12_isTerm__48 rfl (lv_at hl 3 rfl) ?_
        refine lv_iload hx hb dX12_isTerm__49 (lv_at hl 6 rfl) ?_
        refine lv_iadd hx hb dX12_isTerm__51 ?_
        obtain ⟨x_28, ex_28, hF_29⟩ := bnd_e hF_27
        clear hF_27
        refine m_top ex_28 ?_
        obtain ⟨g_30, hF_31⟩ := nif_e hF_29
        clear hF_29
        refine va_bald (f := s_8.2.2.2 61) hx hb hK hP 35 0 rfl rfl g_30 dX12_isTerm__52 ?_
        obtain ⟨j_34, ej_34, hF_35⟩ := bnd_e hF_31
        clear hF_31
        have Jj_34 : ∀ (t_32 : Int32) (σ_33 : MS), j_34 t_32 σ_33 = some res → ∀ (H : Heap) (locs : List Loc), va_P (dC, dI) vwCl (mW cB cI cZ h qK qS ad σ_33) H → va_S (mCells h ad sz) s.heap H locs → ∀ ls : Array Slot, lv_has ls 7 [(0, .ref h), (1, .int p0), (2, .ref (ad 61)), (3, .int p2), (4, .int p3), (6, .int s_8.2.1)] → W p l e (headSpec (g_ws yX12_isTerm_ cX12_isTerm_ 7 (some .boolean)) { frames := 1, cells := 0, slots := 0, locals := 40 }).room s m ([.ref h, .int p0, .ref (ad 61), .int p2, .int p3] : List Value).toArray below meth c H locs 0 0 (MQ below (va_Qi (fun r (_ : Unit) => r = res.1) (fun _ t => va_P (dC, dI) vwCl (mW cB cI cZ h qK qS ad res.2) t.heap) (mCells h ad sz)) ([.ref h, .int p0, .ref (ad 61), .int p2, .int p3] : List Value).toArray s 0 0 (mCells h ad sz)) (F0 m 61 ls [.int t_32]) := by
          intro t_32 σ_33 hF0 H locs hP hS ls hl
          subst ej_34
          have hF_36 := hF0
          clear hF0
          refine lv_istore (lv' := [(5, .int t_32), (0, .ref h), (1, .int p0), (2, .ref (ad 61)), (3, .int p2), (4, .int p3), (6, .int s_8.2.1)]) hx hb dX12_isTerm__61 hl (by decide) rfl (fun ls hl => ?_)
          obtain ⟨x_37, ex_37, hF_38⟩ := bnd_e hF_36
          clear hF_36
          refine lv_iinc (v := x_37) (lv' := [(6, .int x_37), (5, .int t_32), (0, .ref h), (1, .int p0), (2, .ref (ad 61)), (3, .int p2), (4, .int p3)]) hx hb dX12_isTerm__63 hl (k := 6) rfl (by rw [ex_37]; rfl) (by decide) rfl (fun ls hl => ?_)
          refine lv_goto (tgt := 21) hx hb dX12_isTerm__66 (by decide) ?_
          exact ih_10 (t_32, x_37, σ_33) hF_38 _ _ hP hS ls (lv_sub hl [2, 3, 4, 5, 6, 1, 0] rfl)
        refine lv_icmp_ne (tgt := 60) hx hb dX12_isTerm__53 (by decide) (fun c_39 => ?_) (fun c_39 => ?_)
        · have hF_41 := ineg c_39 hF_35
          clear hF_35
          refine lv_iconst (v := 0) hx hb dX12_isTerm__60 (by decide +kernel) ?_
          exact Jj_34 0 s_8.2.2 hF_41 _ _ hP hS ls (lv_sub hl [0, 1, 2, 3, 4, 6] rfl)
        · have hF_40 := ipos c_39 hF_35
          clear hF_35
          refine lv_iconst (v := 1) hx hb dX12_isTerm__56 (by decide +kernel) ?_
          refine lv_goto (tgt := 61) hx hb dX12_isTerm__57 (by decide) ?_
          exact Jj_34 1 s_8.2.2 hF_40 _ _ hP hS ls (lv_sub hl [0, 1, 2, 3, 4, 6] rfl)
  refine lv_icmp_ne (tgt := 15) hx hb dX12_isTerm__8 (by decide) (fun c_42 => ?_) (fun c_42 => ?_)
  · have hF_44 := ineg c_42 hF_6
    clear hF_6
    refine lv_iconst (v := 0) hx hb dX12_isTerm__15 (by decide +kernel) ?_
    exact Jj_5 0 σ hF_44 _ _ hP hS ls (lv_sub hl [0, 1, 2, 3, 4] rfl)
  · have hF_43 := ipos c_42 hF_6
    clear hF_6
    refine lv_iconst (v := 1) hx hb dX12_isTerm__11 (by decide +kernel) ?_
    refine lv_goto (tgt := 16) hx hb dX12_isTerm__12 (by decide) ?_
    exact Jj_5 1 σ hF_43 _ _ hP hS ls (lv_sub hl [0, 1, 2, 3, 4] rfl)
def F_X12_isTerm__wordBytes (p0 : Int32) (p2 : Int32) (p3 : Int32) (σ : MS) : MR :=
  if p0 < 0 ∨ 12 ≤ p0.toNatClampNeg then none else
  bnd (fun (t_3 : Int32) (σ_4 : MS) => (
    loopF (fun (again_9 : (Int32 × Int32 × MS) → MR) (s_8 : Int32 × Int32 × MS) => (
      if p3 ≤ s_8.2.1 then (
        if ¬ (s_8.1 = 0 ∨ s_8.1 = 1) then none else
        some (s_8.1, s_8.2.2)
      ) else (
        if s_8.1 = 0 then (
          if ¬ (s_8.1 = 0 ∨ s_8.1 = 1) then none else
          some (s_8.1, s_8.2.2)
        ) else (
          if p0 < 0 ∨ 12 ≤ p0.toNatClampNeg then none else
          bnd (((s_8.2.2.2 118 p0.toNatClampNeg) + s_8.2.1)) fun (x_24 : Int32) =>
          if x_24 < 0 ∨ 120 ≤ x_24.toNatClampNeg then none else
          bnd ((p2 + s_8.2.1)) fun (x_28 : Int32) =>
          if x_28 < 0 ∨ 10890 ≤ x_28.toNatClampNeg then none else
          bnd (fun (t_32 : Int32) (σ_33 : MS) => (
            bnd (s_8.2.1 + 1) fun (x_37 : Int32) =>
            again_9 (t_32, x_37, σ_33)
          ) : Int32 → MS → MR) fun j_34 =>
          if (s_8.2.2.2 116 x_24.toNatClampNeg) = (s_8.2.2.2 54 x_28.toNatClampNeg) then (
            j_34 1 s_8.2.2
          ) else (
            j_34 0 s_8.2.2
          )
        )
      )
    )) FU (t_3, 0, σ_4)
  ) : Int32 → MS → MR) fun j_5 =>
  if (σ.2 119 p0.toNatClampNeg) = p3 then (
    j_5 1 σ
  ) else (
    j_5 0 σ
  )
set_option maxHeartbeats 4000000 in
set_option maxRecDepth 100000 in
theorem m_X12_isTerm__wordBytes (l : Launch) (dC : Nat → ClassId) (dI : Nat → Nat → Nat) (cB cC cI cJ cZ cP : ClassId) (h qK qS : Nat) (ad : Nat → Nat) (hDD : mDis cB cI cZ h qK qS ad) (sz : Nat)  (p0 : Int32) (p2 : Int32) (p3 : Int32) (σ : MS) (res : Int32 × MS) (hF : F_X12_isTerm__wordBytes p0 p2 p3 σ = some res) : Met l yX12_isTerm_ (g_ws yX12_isTerm_ cX12_isTerm_ 7 (some .boolean)) ({ frames := 1, cells := 0, slots := 0, locals := 40 }) (va_Pc [.ref h, .int p0, .ref (ad 54), .int p2, .int p3] (m_B (dC, dI) [(cB, .byte), (cC, .char), (cI, .int), (cJ, .long), (cZ, .boolean), (cP, .object "StoryHouse$Play")] sz h ad qK qS (mW cB cI cZ h qK qS ad σ) g_0)) (va_Qi (fun r (_ : Unit) => r = res.1) (fun _ t => va_P (dC, dI) vwCl (mW cB cI cZ h qK qS ad res.2) t.heap) (mCells h ad sz)) 0 0 (mCells h ad sz) := by
  refine Met.ofW (cc := cX12_isTerm_) (maxL := 7) (ret := (some .boolean)) (by decide) rfl ?_
  intro p e s m args below meth c s₁ B hml hv
  obtain ⟨rfl, hsz, hP, hK, hE, hKS, hX⟩ := hv
  have hx := B.exec
  have hb := B.bytes
  have hr := B.returns
  have hts0 := atoms_spec (ws := g_ws yX12_isTerm_ cX12_isTerm_ 7 (some .boolean)) B.pre
  have hts : ∀ w ∈ lw_good, w.before ([.ref h, .int p0, .ref (ad 54), .int p2, .int p3] : List Value).toArray s = true := fun w z => hts0 w (List.mem_cons_of_mem _ z)
  have hown : s.vm.findClass RX12 = some m.cls := findClass_of_methodNamed B.named
  have hlocks := B.notSynchronized
  have hS : va_S (mCells h ad sz) s.heap s.heap [] := va_S.rf
  have hl := lv_entry ([.ref h, .int p0, .ref (ad 54), .int p2, .int p3]) (n := 7) (Nat.le_of_ble_eq_true rfl)
  rw [lg_entry_eq]
  generalize (lg_sl ([.ref h, .int p0, .ref (ad 54), .int p2, .int p3]) ++ List.replicate (7 - (lg_sl ([.ref h, .int p0, .ref (ad 54), .int p2, .int p3])).length) Slot.unset).toArray = ls at hl ⊢
  have hl : lv_has ls 7 [(0, .ref h), (1, .int p0), (2, .ref (ad 54)), (3, .int p2), (4, .int p3)] := hl
  unfold F_X12_isTerm__wordBytes at hF
  refine lv_aload_n hx hb dX12_isTerm__0 rfl (lv_at hl 0 rfl) ?_
  refine va_get (D := (dC, dI)) (ci := 12) (v := .ref (ad 119)) (C := RX12) (T := TX12) (N := 123) hx hb hts ii_X12 hown hK hP 0 rfl rfl 119 (by decide) (hts (.fieldLink RX12 231 "StoryHouseModel" "termSize" "[I") wq_1475) (fun _ h9 => h9) rfl dX12_isTerm__1 ?_
  refine lv_iload_n hx hb dX12_isTerm__4 rfl (lv_at hl 1 rfl) ?_
  obtain ⟨g_1, hF_2⟩ := nif_e hF
  clear hF
  refine va_iald (f := σ.2 119) hx hb hK hP 67 2 rfl rfl g_1 dX12_isTerm__5 ?_
  refine lv_iload hx hb dX12_isTerm__6 (lv_at hl 4 rfl) ?_
  obtain ⟨j_5, ej_5, hF_6⟩ := bnd_e hF_2
  clear hF_2
  have Jj_5 : ∀ (t_3 : Int32) (σ_4 : MS), j_5 t_3 σ_4 = some res → ∀ (H : Heap) (locs : List Loc), va_P (dC, dI) vwCl (mW cB cI cZ h qK qS ad σ_4) H → va_S (mCells h ad sz) s.heap H locs → ∀ ls : Array Slot, lv_has ls 7 [(0, .ref h), (1, .int p0), (2, .ref (ad 54)), (3, .int p2), (4, .int p3)] → W p l e (headSpec (g_ws yX12_isTerm_ cX12_isTerm_ 7 (some .boolean)) { frames := 1, cells := 0, slots := 0, locals := 40 }).room s m ([.ref h, .int p0, .ref (ad 54), .int p2, .int p3] : List Value).toArray below meth c H locs 0 0 (MQ below (va_Qi (fun r (_ : Unit) => r = res.1) (fun _ t => va_P (dC, dI) vwCl (mW cB cI cZ h qK qS ad res.2) t.heap) (mCells h ad sz)) ([.ref h, .int p0, .ref (ad 54), .int p2, .int p3] : List Value).toArray s 0 0 (mCells h ad sz)) (F0 m 16 ls [.int t_3]) := by
    intro t_3 σ_4 hF0 H locs hP hS ls hl
    subst ej_5
    have hF_7 := hF0
    clear hF0
    refine lv_istore (lv' := [(5, .int t_3), (0, .ref h), (1, .int p0), (2, .ref (ad 54)), (3, .int p2), (4, .int p3)]) hx hb dX12_isTerm__16 hl (by decide) rfl (fun ls hl => ?_)
    refine lv_iconst (v := 0) hx hb dX12_isTerm__18 (by decide +kernel) ?_
    refine lv_istore (lv' := [(6, .int 0), (5, .int t_3), (0, .ref h), (1, .int p0), (2, .ref (ad 54)), (3, .int p2), (4, .int p3)]) hx hb dX12_isTerm__19 hl (by decide) rfl (fun ls hl => ?_)
    refine loopF_ind (P := fun (s_8 : Int32 × Int32 × MS) => ∀ (H : Heap) (locs : List Loc), va_P (dC, dI) vwCl (mW cB cI cZ h qK qS ad s_8.2.2) H → va_S (mCells h ad sz) s.heap H locs → ∀ ls : Array Slot, lv_has ls 7 [(0, .ref h), (1, .int p0), (2, .ref (ad 54)), (3, .int p2), (4, .int p3), (5, .int s_8.1), (6, .int s_8.2.1)] → W p l e (headSpec (g_ws yX12_isTerm_ cX12_isTerm_ 7 (some .boolean)) { frames := 1, cells := 0, slots := 0, locals := 40 }).room s m ([.ref h, .int p0, .ref (ad 54), .int p2, .int p3] : List Value).toArray below meth c H locs 0 0 (MQ below (va_Qi (fun r (_ : Unit) => r = res.1) (fun _ t => va_P (dC, dI) vwCl (mW cB cI cZ h qK qS ad res.2) t.heap) (mCells h ad sz)) ([.ref h, .int p0, .ref (ad 54), .int p2, .int p3] : List Value).toArray s 0 0 (mCells h ad sz)) (F0 m 21 ls [])) ?_ _ _ hF_7 _ _ hP hS ls (lv_sub hl [2, 3, 4, 5, 6, 1, 0] rfl)
    intro again_9 s_8 ih_10 hF_11
    intro H locs hP hS ls hl
    refine lv_iload hx hb dX12_isTerm__21 (lv_at hl 6 rfl) ?_
    refine lv_iload hx hb dX12_isTerm__23 (lv_at hl 4 rfl) ?_
    refine lv_icmp_ge (tgt := 69) hx hb dX12_isTerm__25 (by decide) (fun c_12 => ?_) (fun c_12 => ?_)
    · have hF_13 := ipos c_12 hF_11
      clear hF_11
      refine lv_iload hx hb dX12_isTerm__69 (lv_at hl 5 rfl) ?_
      obtain ⟨g_15, hF_14⟩ := nif_e hF_13
      clear hF_13
      have h9 := Option.some.inj hF_14
      subst h9
      exact W.zret (v := s_8.1) hx hb hr (m_bool (Classical.not_not.mp g_15)).1 (fun t ht hW => ⟨⟨s_8.1, (), rfl, rfl, m_end ht hP⟩, hS.F ht⟩) hS.2.2 dX12_isTerm__71
    · have hF_16 := ineg c_12 hF_11
      clear hF_11
      refine lv_iload hx hb dX12_isTerm__28 (lv_at hl 5 rfl) ?_
      refine lv_if_eq (tgt := 69) hx hb dX12_isTerm__30 (by decide) (fun c_17 => ?_) (fun c_17 => ?_)
      · have hF_18 := ipos c_17 hF_16
        clear hF_16
        refine lv_iload hx hb dX12_isTerm__69 (lv_at hl 5 rfl) ?_
        obtain ⟨g_20, hF_19⟩ := nif_e hF_18
        clear hF_18
        have h9 := Option.some.inj hF_19
        subst h9
        exact W.zret (v := s_8.1) hx hb hr (m_bool (Classical.not_not.mp g_20)).1 (fun t ht hW => ⟨⟨s_8.1, (), rfl, rfl, m_end ht hP⟩, hS.F ht⟩) hS.2.2 dX12_isTerm__71
      · have hF_21 := ineg c_17 hF_16
        clear hF_16
        refine lv_aload_n hx hb dX12_isTerm__33 rfl (lv_at hl 0 rfl) ?_
        refine va_get (D := (dC, dI)) (ci := 12) (v := .ref (ad 116)) (C := RX12) (T := TX12) (N := 123) hx hb hts ii_X12 hown hK hP 0 rfl rfl 116 (by decide) (hts (.fieldLink RX12 225 "StoryHouseModel" "typed" "[B") wq_1472) (fun _ h9 => h9) rfl dX12_isTerm__34 ?_
        refine lv_aload_n hx hb dX12_isTerm__37 rfl (lv_at hl 0 rfl) ?_
        refine va_get (D := (dC, dI)) (ci := 12) (v := .ref (ad 118)) (C := RX12) (T := TX12) (N := 123) hx hb hts ii_X12 hown hK hP 0 rfl rfl 118 (by decide) (hts (.fieldLink RX12 228 "StoryHouseModel" "termAt" "[I") wq_1474) (fun _ h9 => h9) rfl dX12_isTerm__38 ?_
        refine lv_iload_n hx hb dX12_isTerm__41 rfl (lv_at hl 1 rfl) ?_
        obtain ⟨g_22, hF_23⟩ := nif_e hF_21
        clear hF_21
        refine va_iald (f := s_8.2.2.2 118) hx hb hK hP 66 2 rfl rfl g_22 dX12_isTerm__42 ?_
        refine lv_iload hx hb dX12_isTerm__43 (lv_at hl 6 rfl) ?_
        refine lv_iadd hx hb dX12_isTerm__45 ?_
        obtain ⟨x_24, ex_24, hF_25⟩ := bnd_e hF_23
        clear hF_23
        refine m_top ex_24 ?_
        obtain ⟨g_26, hF_27⟩ := nif_e hF_25
        clear hF_25
        refine va_bald (f := s_8.2.2.2 116) hx hb hK hP 65 0 rfl rfl g_26 dX12_isTerm__46 ?_
        refine lv_aload_n hx hb dX12_isTerm__47 rfl (lv_at hl 2 rfl) ?_
        refine lv_iload_n hx hb dX12_isTerm__48 rfl (lv_at hl 3 rfl) ?_
        refine lv_iload hx hb dX12_isTerm__49 (lv_at hl 6 rfl) ?_
        refine lv_iadd hx hb dX12_isTerm__51 ?_
        obtain ⟨x_28, ex_28, hF_29⟩ := bnd_e hF_27
        clear hF_27
        refine m_top ex_28 ?_
        obtain ⟨g_30, hF_31⟩ := nif_e hF_29
        clear hF_29
        refine va_bald (f := s_8.2.2.2 54) hx hb hK hP 28 0 rfl rfl g_30 dX12_isTerm__52 ?_
        obtain ⟨j_34, ej_34, hF_35⟩ := bnd_e hF_31
        clear hF_31
        have Jj_34 : ∀ (t_32 : Int32) (σ_33 : MS), j_34 t_32 σ_33 = some res → ∀ (H : Heap) (locs : List Loc), va_P (dC, dI) vwCl (mW cB cI cZ h qK qS ad σ_33) H → va_S (mCells h ad sz) s.heap H locs → ∀ ls : Array Slot, lv_has ls 7 [(0, .ref h), (1, .int p0), (2, .ref (ad 54)), (3, .int p2), (4, .int p3), (6, .int s_8.2.1)] → W p l e (headSpec (g_ws yX12_isTerm_ cX12_isTerm_ 7 (some .boolean)) { frames := 1, cells := 0, slots := 0, locals := 40 }).room s m ([.ref h, .int p0, .ref (ad 54), .int p2, .int p3] : List Value).toArray below meth c H locs 0 0 (MQ below (va_Qi (fun r (_ : Unit) => r = res.1) (fun _ t => va_P (dC, dI) vwCl (mW cB cI cZ h qK qS ad res.2) t.heap) (mCells h ad sz)) ([.ref h, .int p0, .ref (ad 54), .int p2, .int p3] : List Value).toArray s 0 0 (mCells h ad sz)) (F0 m 61 ls [.int t_32]) := by
          intro t_32 σ_33 hF0 H locs hP hS ls hl
          subst ej_34
          have hF_36 := hF0
          clear hF0
          refine lv_istore (lv' := [(5, .int t_32), (0, .ref h), (1, .int p0), (2, .ref (ad 54)), (3, .int p2), (4, .int p3), (6, .int s_8.2.1)]) hx hb dX12_isTerm__61 hl (by decide) rfl (fun ls hl => ?_)
          obtain ⟨x_37, ex_37, hF_38⟩ := bnd_e hF_36
          clear hF_36
          refine lv_iinc (v := x_37) (lv' := [(6, .int x_37), (5, .int t_32), (0, .ref h), (1, .int p0), (2, .ref (ad 54)), (3, .int p2), (4, .int p3)]) hx hb dX12_isTerm__63 hl (k := 6) rfl (by rw [ex_37]; rfl) (by decide) rfl (fun ls hl => ?_)
          refine lv_goto (tgt := 21) hx hb dX12_isTerm__66 (by decide) ?_
          exact ih_10 (t_32, x_37, σ_33) hF_38 _ _ hP hS ls (lv_sub hl [2, 3, 4, 5, 6, 1, 0] rfl)
        refine lv_icmp_ne (tgt := 60) hx hb dX12_isTerm__53 (by decide) (fun c_39 => ?_) (fun c_39 => ?_)
        · have hF_41 := ineg c_39 hF_35
          clear hF_35
          refine lv_iconst (v := 0) hx hb dX12_isTerm__60 (by decide +kernel) ?_
          exact Jj_34 0 s_8.2.2 hF_41 _ _ hP hS ls (lv_sub hl [0, 1, 2, 3, 4, 6] rfl)
        · have hF_40 := ipos c_39 hF_35
          clear hF_35
          refine lv_iconst (v := 1) hx hb dX12_isTerm__56 (by decide +kernel) ?_
          refine lv_goto (tgt := 61) hx hb dX12_isTerm__57 (by decide) ?_
          exact Jj_34 1 s_8.2.2 hF_40 _ _ hP hS ls (lv_sub hl [0, 1, 2, 3, 4, 6] rfl)
  refine lv_icmp_ne (tgt := 15) hx hb dX12_isTerm__8 (by decide) (fun c_42 => ?_) (fun c_42 => ?_)
  · have hF_44 := ineg c_42 hF_6
    clear hF_6
    refine lv_iconst (v := 0) hx hb dX12_isTerm__15 (by decide +kernel) ?_
    exact Jj_5 0 σ hF_44 _ _ hP hS ls (lv_sub hl [0, 1, 2, 3, 4] rfl)
  · have hF_43 := ipos c_42 hF_6
    clear hF_6
    refine lv_iconst (v := 1) hx hb dX12_isTerm__11 (by decide +kernel) ?_
    refine lv_goto (tgt := 16) hx hb dX12_isTerm__12 (by decide) ?_
    exact Jj_5 1 σ hF_43 _ _ hP hS ls (lv_sub hl [0, 1, 2, 3, 4] rfl)
