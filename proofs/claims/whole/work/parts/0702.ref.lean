/-! methods of the reference: what each does is its function -/
theorem dX12_needKey_0 : decode cX12_needKey 0 = .ok (.aload_n 0, 1) := by decide +kernel
theorem dX12_needKey_1 : decode cX12_needKey 1 = .ok (.iload_n 1, 1) := by decide +kernel
theorem dX12_needKey_2 : decode cX12_needKey 2 = .ok (.invokevirtual 333, 3) := by decide +kernel
theorem dX12_needKey_5 : decode cX12_needKey 5 = .ok (.ifCond .ne 7, 3) := by decide +kernel
theorem dX12_needKey_8 : decode cX12_needKey 8 = .ok (.aload_n 0, 1) := by decide +kernel
theorem dX12_needKey_9 : decode cX12_needKey 9 = .ok (.invokevirtual 330, 3) := by decide +kernel
theorem dX12_needKey_12 : decode cX12_needKey 12 = .ok (.return_, 1) := by decide +kernel
def F_X12_needKey (p0 : Int32) (σ : MS) : MR :=
  (F_X12_tookKey p0 σ).bind fun u_1 =>
  if u_1.1 = 0 then (
    (F_X12_unfit u_1.2).bind fun u_5 =>
    some (0, u_5.2)
  ) else (
    some (0, u_1.2)
  )
set_option maxHeartbeats 4000000 in
set_option maxRecDepth 100000 in
theorem m_X12_needKey (l : Launch) (dC : Nat → ClassId) (dI : Nat → Nat → Nat) (cB cC cI cJ cZ cP : ClassId) (h qK qS : Nat) (ad : Nat → Nat) (hDD : mDis cB cI cZ h qK qS ad) (sz : Nat)  (p0 : Int32) (σ : MS) (res : Int32 × MS) (hF : F_X12_needKey p0 σ = some res) : Met l yX12_needKey (g_ws yX12_needKey cX12_needKey 2 none) ({ frames := 3, cells := 0, slots := 0, locals := 82 }) (va_Pc [.ref h, .int p0] (m_B (dC, dI) [(cB, .byte), (cC, .char), (cI, .int), (cJ, .long), (cZ, .boolean), (cP, .object "StoryHouse$Play")] sz h ad qK qS (mW cB cI cZ h qK qS ad σ) g_0)) (va_Qv (fun (_ : Unit) => True) (fun _ t => va_P (dC, dI) vwCl (mW cB cI cZ h qK qS ad res.2) t.heap) (mCells h ad sz)) 0 0 (mCells h ad sz) := by
  refine Met.ofW (cc := cX12_needKey) (maxL := 2) (ret := none) (by decide) rfl ?_
  intro p e s m args below meth c s₁ B hml hv
  obtain ⟨rfl, hsz, hP, hK, hE, hKS, hX⟩ := hv
  have hx := B.exec
  have hb := B.bytes
  have hr := B.returns
  have hts0 := atoms_spec (ws := g_ws yX12_needKey cX12_needKey 2 none) B.pre
  have hts : ∀ w ∈ lw_good, w.before ([.ref h, .int p0] : List Value).toArray s = true := fun w z => hts0 w (List.mem_cons_of_mem _ z)
  have hown : s.vm.findClass RX12 = some m.cls := findClass_of_methodNamed B.named
  have hlocks := B.notSynchronized
  have hS : va_S (mCells h ad sz) s.heap s.heap [] := va_S.rf
  have hl := lv_entry ([.ref h, .int p0]) (n := 2) (Nat.le_of_ble_eq_true rfl)
  rw [lg_entry_eq]
  generalize (lg_sl ([.ref h, .int p0]) ++ List.replicate (2 - (lg_sl ([.ref h, .int p0])).length) Slot.unset).toArray = ls at hl ⊢
  have hl : lv_has ls 2 [(0, .ref h), (1, .int p0)] := hl
  unfold F_X12_needKey at hF
  refine lv_aload_n hx hb dX12_needKey_0 rfl (lv_at hl 0 rfl) ?_
  refine lv_iload_n hx hb dX12_needKey_1 rfl (lv_at hl 1 rfl) ?_
  obtain ⟨u_1, hu_1, hF_2⟩ := Option.bind_eq_some_iff.mp hF
  clear hF
  refine m_ci hsz hS (va_runV (As := [.int p0]) (rest := []) ⟨hx, hb, hml, hown, hts⟩ (m_X12_tookKey l dC dI cB cC cI cJ cZ cP h qK qS ad hDD s.heap.size  p0 σ _ hu_1) (cwV 1 hts (g_gV wq_1573 wq_1574 wq_2137 wq_13 wq_1575) rfl rfl rfl (by decide +kernel) ⟨Nat.le_of_ble_eq_true rfl, Nat.le_of_ble_eq_true rfl⟩) (m_preV g_bl0 hsz hK hP hS hE hKS g_to0) rfl rfl hl.1 rfl (lv_room (Nat.le_of_ble_eq_true rfl)) dX12_needKey_2 ⟨Nat.le_of_ble_eq_true rfl, Nat.le_of_ble_eq_true rfl⟩) (fun H locs hP hS => ?_)
  refine lv_if_ne (tgt := 12) hx hb dX12_needKey_5 (by decide) (fun c_3 => ?_) (fun c_3 => ?_)
  · have hF_7 := ineg c_3 hF_2
    clear hF_2
    have h9 := Option.some.inj hF_7
    subst h9
    exact W.vret hx hb hr (fun t ht hW => ⟨⟨(), rfl, trivial, m_end ht hP⟩, hS.F ht⟩) hS.2.2 dX12_needKey_12
  · have hF_4 := ipos c_3 hF_2
    clear hF_2
    refine lv_aload_n hx hb dX12_needKey_8 rfl (lv_at hl 0 rfl) ?_
    obtain ⟨u_5, hu_5, hF_6⟩ := Option.bind_eq_some_iff.mp hF_4
    clear hF_4
    refine m_cv hsz hS (va_runV (As := []) (rest := []) ⟨hx, hb, hml, hown, hts⟩ (m_X12_unfit l dC dI cB cC cI cJ cZ cP h qK qS ad hDD H.size  u_1.2 _ hu_5) (cwV 0 hts (g_gV wq_1549 wq_1550 wq_2129 wq_13 wq_1551) rfl rfl rfl (by decide +kernel) ⟨Nat.le_of_ble_eq_true rfl, Nat.le_of_ble_eq_true rfl⟩) (m_preV g_bl0 hsz hK hP hS hE hKS g_to0) rfl rfl hl.1 rfl (lv_room (Nat.le_of_ble_eq_true rfl)) dX12_needKey_9 ⟨Nat.le_of_ble_eq_true rfl, Nat.le_of_ble_eq_true rfl⟩) (fun H locs hP hS => ?_)
    have h9 := Option.some.inj hF_6
    subst h9
    exact W.vret hx hb hr (fun t ht hW => ⟨⟨(), rfl, trivial, m_end ht hP⟩, hS.F ht⟩) hS.2.2 dX12_needKey_12
theorem dX12_needKind_0 : decode cX12_needKind 0 = .ok (.aload_n 0, 1) := by decide +kernel
theorem dX12_needKind_1 : decode cX12_needKind 1 = .ok (.getfield 304, 3) := by decide +kernel
theorem dX12_needKind_4 : decode cX12_needKind 4 = .ok (.ifCond .ne 16, 3) := by decide +kernel
theorem dX12_needKind_7 : decode cX12_needKind 7 = .ok (.aload_n 0, 1) := by decide +kernel
theorem dX12_needKind_8 : decode cX12_needKind 8 = .ok (.getfield 27, 3) := by decide +kernel
theorem dX12_needKind_11 : decode cX12_needKind 11 = .ok (.aload_n 0, 1) := by decide +kernel
theorem dX12_needKind_12 : decode cX12_needKind 12 = .ok (.getfield 314, 3) := by decide +kernel
theorem dX12_needKind_15 : decode cX12_needKind 15 = .ok (.iaload, 1) := by decide +kernel
theorem dX12_needKind_16 : decode cX12_needKind 16 = .ok (.iload_n 1, 1) := by decide +kernel
theorem dX12_needKind_17 : decode cX12_needKind 17 = .ok (.if_icmp .eq 9, 3) := by decide +kernel
theorem dX12_needKind_20 : decode cX12_needKind 20 = .ok (.aload_n 0, 1) := by decide +kernel
theorem dX12_needKind_21 : decode cX12_needKind 21 = .ok (.invokevirtual 330, 3) := by decide +kernel
theorem dX12_needKind_24 : decode cX12_needKind 24 = .ok (.iconst 0, 1) := by decide +kernel
theorem dX12_needKind_25 : decode cX12_needKind 25 = .ok (.ireturn, 1) := by decide +kernel
theorem dX12_needKind_26 : decode cX12_needKind 26 = .ok (.aload_n 0, 1) := by decide +kernel
theorem dX12_needKind_27 : decode cX12_needKind 27 = .ok (.getfield 34, 3) := by decide +kernel
theorem dX12_needKind_30 : decode cX12_needKind 30 = .ok (.aload_n 0, 1) := by decide +kernel
theorem dX12_needKind_31 : decode cX12_needKind 31 = .ok (.dup, 1) := by decide +kernel
theorem dX12_needKind_32 : decode cX12_needKind 32 = .ok (.getfield 314, 3) := by decide +kernel
theorem dX12_needKind_35 : decode cX12_needKind 35 = .ok (.dup_x1, 1) := by decide +kernel
theorem dX12_needKind_36 : decode cX12_needKind 36 = .ok (.iconst 1, 1) := by decide +kernel
theorem dX12_needKind_37 : decode cX12_needKind 37 = .ok (.iadd, 1) := by decide +kernel
theorem dX12_needKind_38 : decode cX12_needKind 38 = .ok (.putfield 314, 3) := by decide +kernel
theorem dX12_needKind_41 : decode cX12_needKind 41 = .ok (.iaload, 1) := by decide +kernel
theorem dX12_needKind_42 : decode cX12_needKind 42 = .ok (.ireturn, 1) := by decide +kernel
def F_X12_needKind (p0 : Int32) (σ : MS) : MR :=
  bnd (fun  (σ_1 : MS) => (
    (F_X12_unfit σ_1).bind fun u_5 =>
    some (0, u_5.2)
  ) : MS → MR) fun j_2 =>
  if (σ.1 27) = 0 then (
    bnd ((σ.1 25)) fun (x_9 : Int32) =>
    if x_9 < 0 ∨ 16010 ≤ x_9.toNatClampNeg then none else
    if (σ.2 7 x_9.toNatClampNeg) = p0 then (
      bnd (mI σ 25 ((σ.1 25) + 1)) fun σ_15 =>
      bnd ((σ.1 25)) fun (x_17 : Int32) =>
      if x_17 < 0 ∨ 16010 ≤ x_17.toNatClampNeg then none else
      some ((σ_15.2 9 x_17.toNatClampNeg), σ_15)
    ) else (
      j_2  σ
    )
  ) else (
    j_2  σ
  )
set_option maxHeartbeats 4000000 in
set_option maxRecDepth 100000 in
theorem m_X12_needKind (l : Launch) (dC : Nat → ClassId) (dI : Nat → Nat → Nat) (cB cC cI cJ cZ cP : ClassId) (h qK qS : Nat) (ad : Nat → Nat) (hDD : mDis cB cI cZ h qK qS ad) (sz : Nat)  (p0 : Int32) (σ : MS) (res : Int32 × MS) (hF : F_X12_needKind p0 σ = some res) : Met l yX12_needKind (g_ws yX12_needKind cX12_needKind 2 (some .int)) ({ frames := 3, cells := 0, slots := 0, locals := 82 }) (va_Pc [.ref h, .int p0] (m_B (dC, dI) [(cB, .byte), (cC, .char), (cI, .int), (cJ, .long), (cZ, .boolean), (cP, .object "StoryHouse$Play")] sz h ad qK qS (mW cB cI cZ h qK qS ad σ) g_0)) (va_Qi (fun r (_ : Unit) => r = res.1) (fun _ t => va_P (dC, dI) vwCl (mW cB cI cZ h qK qS ad res.2) t.heap) (mCells h ad sz)) 0 0 (mCells h ad sz) := by
  refine Met.ofW (cc := cX12_needKind) (maxL := 2) (ret := (some .int)) (by decide) rfl ?_
  intro p e s m args below meth c s₁ B hml hv
  obtain ⟨rfl, hsz, hP, hK, hE, hKS, hX⟩ := hv
  have hx := B.exec
  have hb := B.bytes
  have hr := B.returns
  have hts0 := atoms_spec (ws := g_ws yX12_needKind cX12_needKind 2 (some .int)) B.pre
  have hts : ∀ w ∈ lw_good, w.before ([.ref h, .int p0] : List Value).toArray s = true := fun w z => hts0 w (List.mem_cons_of_mem _ z)
  have hown : s.vm.findClass RX12 = some m.cls := findClass_of_methodNamed B.named
  have hlocks := B.notSynchronized
  have hS : va_S (mCells h ad sz) s.heap s.heap [] := va_S.rf
  have hl := lv_entry ([.ref h, .int p0]) (n := 2) (Nat.le_of_ble_eq_true rfl)
  rw [lg_entry_eq]
  generalize (lg_sl ([.ref h, .int p0]) ++ List.replicate (2 - (lg_sl ([.ref h, .int p0])).length) Slot.unset).toArray = ls at hl ⊢
  have hl : lv_has ls 2 [(0, .ref h), (1, .int p0)] := hl
  unfold F_X12_needKind at hF
  refine lv_aload_n hx hb dX12_needKind_0 rfl (lv_at hl 0 rfl) ?_
  refine va_get (D := (dC, dI)) (ci := 12) (v := .int (σ.1 27)) (C := RX12) (T := TX12) (N := 123) hx hb hts ii_X12 hown hK hP 0 rfl rfl 27 (by decide) (hts (.fieldLink RX12 304 "StoryHouseModel" "stopped" "Z") wq_1383) (fun _ h9 => h9) rfl dX12_needKind_1 ?_
  obtain ⟨j_2, ej_2, hF_3⟩ := bnd_e hF
  clear hF
  have Jj_2 : ∀  (σ_1 : MS), j_2  σ_1 = some res → ∀ (H : Heap) (locs : List Loc), va_P (dC, dI) vwCl (mW cB cI cZ h qK qS ad σ_1) H → va_S (mCells h ad sz) s.heap H locs → ∀ ls : Array Slot, lv_has ls 2 [(0, .ref h)] → W p l e (headSpec (g_ws yX12_needKind cX12_needKind 2 (some .int)) { frames := 3, cells := 0, slots := 0, locals := 82 }).room s m ([.ref h, .int p0] : List Value).toArray below meth c H locs 0 0 (MQ below (va_Qi (fun r (_ : Unit) => r = res.1) (fun _ t => va_P (dC, dI) vwCl (mW cB cI cZ h qK qS ad res.2) t.heap) (mCells h ad sz)) ([.ref h, .int p0] : List Value).toArray s 0 0 (mCells h ad sz)) (F0 m 20 ls []) := by
    intro  σ_1 hF0 H locs hP hS ls hl
    subst ej_2
    have hF_4 := hF0
    clear hF0
    refine lv_aload_n hx hb dX12_needKind_20 rfl (lv_at hl 0 rfl) ?_
    obtain ⟨u_5, hu_5, hF_6⟩ := Option.bind_eq_some_iff.mp hF_4
    clear hF_4
    refine m_cv hsz hS (va_runV (As := []) (rest := []) ⟨hx, hb, hml, hown, hts⟩ (m_X12_unfit l dC dI cB cC cI cJ cZ cP h qK qS ad hDD H.size  σ_1 _ hu_5) (cwV 0 hts (g_gV wq_1549 wq_1550 wq_2129 wq_13 wq_1551) rfl rfl rfl (by decide +kernel) ⟨Nat.le_of_ble_eq_true rfl, Nat.le_of_ble_eq_true rfl⟩) (m_preV g_bl0 hsz hK hP hS hE hKS g_to0) rfl rfl hl.1 rfl (lv_room (Nat.le_of_ble_eq_true rfl)) dX12_needKind_21 ⟨Nat.le_of_ble_eq_true rfl, Nat.le_of_ble_eq_true rfl⟩) (fun H locs hP hS => ?_)
    refine lv_iconst (v := 0) hx hb dX12_needKind_24 (by decide +kernel) ?_
    have h9 := Option.some.inj hF_6
    subst h9
    exact W.iret (v := 0) hx hb hr (fun t ht hW => ⟨⟨0, (), rfl, rfl, m_end ht hP⟩, hS.F ht⟩) hS.2.2 dX12_needKind_25
  refine lv_if_ne (tgt := 20) hx hb dX12_needKind_4 (by decide) (fun c_7 => ?_) (fun c_7 => ?_)
  · have hF_22 := ineg c_7 hF_3
    clear hF_3
    exact Jj_2  σ hF_22 _ _ hP hS ls (lv_sub hl [0] rfl)
  · have hF_8 := ipos c_7 hF_3
    clear hF_3
    refine lv_aload_n hx hb dX12_needKind_7 rfl (lv_at hl 0 rfl) ?_
    refine va_get (D := (dC, dI)) (ci := 12) (v := .ref (ad 7)) (C := RX12) (T := TX12) (N := 123) hx hb hts ii_X12 hown hK hP 0 rfl rfl 7 (by decide) (hts (.fieldLink RX12 27 "StoryHouseModel" "tokKind" "[I") wq_1363) (fun _ h9 => h9) rfl dX12_needKind_8 ?_
    refine lv_aload_n hx hb dX12_needKind_11 rfl (lv_at hl 0 rfl) ?_
    refine va_get (D := (dC, dI)) (ci := 12) (v := .int (σ.1 25)) (C := RX12) (T := TX12) (N := 123) hx hb hts ii_X12 hown hK hP 0 rfl rfl 25 (by decide) (hts (.fieldLink RX12 314 "StoryHouseModel" "at" "I") wq_1381) (fun _ h9 => h9) rfl dX12_needKind_12 ?_
    obtain ⟨x_9, ex_9, hF_10⟩ := bnd_e hF_8
    clear hF_8
    refine m_top ex_9 ?_
    obtain ⟨g_11, hF_12⟩ := nif_e hF_10
    clear hF_10
    refine va_iald (f := σ.2 7) hx hb hK hP 3 2 rfl rfl g_11 dX12_needKind_15 ?_
    refine lv_iload_n hx hb dX12_needKind_16 rfl (lv_at hl 1 rfl) ?_
    refine lv_icmp_eq (tgt := 26) hx hb dX12_needKind_17 (by decide) (fun c_13 => ?_) (fun c_13 => ?_)
    · have hF_14 := ipos c_13 hF_12
      clear hF_12
      refine lv_aload_n hx hb dX12_needKind_26 rfl (lv_at hl 0 rfl) ?_
      refine va_get (D := (dC, dI)) (ci := 12) (v := .ref (ad 9)) (C := RX12) (T := TX12) (N := 123) hx hb hts ii_X12 hown hK hP 0 rfl rfl 9 (by decide) (hts (.fieldLink RX12 34 "StoryHouseModel" "tokValue" "[I") wq_1365) (fun _ h9 => h9) rfl dX12_needKind_27 ?_
      refine lv_aload_n hx hb dX12_needKind_30 rfl (lv_at hl 0 rfl) ?_
      refine lv_dup hx hb dX12_needKind_31 rfl ?_
      refine va_get (D := (dC, dI)) (ci := 12) (v := .int (σ.1 25)) (C := RX12) (T := TX12) (N := 123) hx hb hts ii_X12 hown hK hP 0 rfl rfl 25 (by decide) (hts (.fieldLink RX12 314 "StoryHouseModel" "at" "I") wq_1381) (fun _ h9 => h9) rfl dX12_needKind_32 ?_
      refine lv_dup_x1 hx hb dX12_needKind_35 rfl rfl ?_
      refine lv_iconst (v := 1) hx hb dX12_needKind_36 (by decide +kernel) ?_
      refine lv_iadd hx hb dX12_needKind_37 ?_
      obtain ⟨σ_15, eσ_15, hF_16⟩ := bnd_e hF_14
      clear hF_14
      refine m_put (σ' := σ_15) (v := .int ((σ.1 25) + 1)) (ty := .int) hx hb hts hown hK hP (hDD _ _) hS (by rw [eσ_15]; exact mwI_25) (k := 25) (by decide) (hts (.fieldLink RX12 314 "StoryHouseModel" "at" "I") wq_1381) (fun _ h9 => h9) rfl (by decide +kernel) rfl rfl dX12_needKind_38 (fun H locs hP hS => ?_)
      obtain ⟨x_17, ex_17, hF_18⟩ := bnd_e hF_16
      clear hF_16
      refine m_top ex_17 ?_
      obtain ⟨g_19, hF_20⟩ := nif_e hF_18
      clear hF_18
      refine va_iald (f := σ_15.2 9) hx hb hK hP 5 2 rfl rfl g_19 dX12_needKind_41 ?_
      have h9 := Option.some.inj hF_20
      subst h9
      exact W.iret (v := (σ_15.2 9 x_17.toNatClampNeg)) hx hb hr (fun t ht hW => ⟨⟨(σ_15.2 9 x_17.toNatClampNeg), (), rfl, rfl, m_end ht hP⟩, hS.F ht⟩) hS.2.2 dX12_needKind_42
    · have hF_21 := ineg c_13 hF_12
      clear hF_12
      exact Jj_2  σ hF_21 _ _ hP hS ls (lv_sub hl [0] rfl)
theorem dX12_opens_0 : decode cX12_opens 0 = .ok (.aload_n 0, 1) := by decide +kernel
theorem dX12_opens_1 : decode cX12_opens 1 = .ok (.getfield 304, 3) := by decide +kernel
theorem dX12_opens_4 : decode cX12_opens 4 = .ok (.ifCond .ne 26, 3) := by decide +kernel
theorem dX12_opens_7 : decode cX12_opens 7 = .ok (.aload_n 0, 1) := by decide +kernel
theorem dX12_opens_8 : decode cX12_opens 8 = .ok (.getfield 336, 3) := by decide +kernel
theorem dX12_opens_11 : decode cX12_opens 11 = .ok (.bipush 30, 2) := by decide +kernel
theorem dX12_opens_13 : decode cX12_opens 13 = .ok (.if_icmp .ne 17, 3) := by decide +kernel
theorem dX12_opens_16 : decode cX12_opens 16 = .ok (.aload_n 0, 1) := by decide +kernel
theorem dX12_opens_17 : decode cX12_opens 17 = .ok (.iconst 5, 1) := by decide +kernel
theorem dX12_opens_18 : decode cX12_opens 18 = .ok (.aload_n 0, 1) := by decide +kernel
theorem dX12_opens_19 : decode cX12_opens 19 = .ok (.getfield 31, 3) := by decide +kernel
theorem dX12_opens_22 : decode cX12_opens 22 = .ok (.aload_n 0, 1) := by decide +kernel
theorem dX12_opens_23 : decode cX12_opens 23 = .ok (.getfield 314, 3) := by decide +kernel
theorem dX12_opens_26 : decode cX12_opens 26 = .ok (.iaload, 1) := by decide +kernel
theorem dX12_opens_27 : decode cX12_opens 27 = .ok (.invokevirtual 317, 3) := by decide +kernel
theorem dX12_opens_30 : decode cX12_opens 30 = .ok (.aload_n 0, 1) := by decide +kernel
theorem dX12_opens_31 : decode cX12_opens 31 = .ok (.dup, 1) := by decide +kernel
theorem dX12_opens_32 : decode cX12_opens 32 = .ok (.getfield 336, 3) := by decide +kernel
theorem dX12_opens_35 : decode cX12_opens 35 = .ok (.iconst 1, 1) := by decide +kernel
theorem dX12_opens_36 : decode cX12_opens 36 = .ok (.iadd, 1) := by decide +kernel
theorem dX12_opens_37 : decode cX12_opens 37 = .ok (.putfield 336, 3) := by decide +kernel
theorem dX12_opens_40 : decode cX12_opens 40 = .ok (.return_, 1) := by decide +kernel
def F_X12_opens  (σ : MS) : MR :=
  bnd (fun  (σ_1 : MS) => (
    bnd (mI σ_1 26 ((σ_1.1 26) + 1)) fun σ_5 =>
    some (0, σ_5)
  ) : MS → MR) fun j_2 =>
  if (σ.1 27) = 0 then (
    if (σ.1 26) = 30 then (
      bnd ((σ.1 25)) fun (x_11 : Int32) =>
      if x_11 < 0 ∨ 16010 ≤ x_11.toNatClampNeg then none else
      (F_X12_fails 5 (σ.2 8 x_11.toNatClampNeg) σ).bind fun u_15 =>
      j_2  u_15.2
    ) else (
      j_2  σ
    )
  ) else (
    j_2  σ
  )
set_option maxHeartbeats 4000000 in
set_option maxRecDepth 100000 in
theorem m_X12_opens (l : Launch) (dC : Nat → ClassId) (dI : Nat → Nat → Nat) (cB cC cI cJ cZ cP : ClassId) (h qK qS : Nat) (ad : Nat → Nat) (hDD : mDis cB cI cZ h qK qS ad) (sz : Nat)   (σ : MS) (res : Int32 × MS) (hF : F_X12_opens  σ = some res) : Met l yX12_opens (g_ws yX12_opens cX12_opens 1 none) ({ frames := 2, cells := 0, slots := 0, locals := 62 }) (va_Pc [.ref h] (m_B (dC, dI) [(cB, .byte), (cC, .char), (cI, .int), (cJ, .long), (cZ, .boolean), (cP, .object "StoryHouse$Play")] sz h ad qK qS (mW cB cI cZ h qK qS ad σ) g_0)) (va_Qv (fun (_ : Unit) => True) (fun _ t => va_P (dC, dI) vwCl (mW cB cI cZ h qK qS ad res.2) t.heap) (mCells h ad sz)) 0 0 (mCells h ad sz) := by
  refine Met.ofW (cc := cX12_opens) (maxL := 1) (ret := none) (by decide) rfl ?_
  intro p e s m args below meth c s₁ B hml hv
  obtain ⟨rfl, hsz, hP, hK, hE, hKS, hX⟩ := hv
  have hx := B.exec
  have hb := B.bytes
  have hr := B.returns
  have hts0 := atoms_spec (ws := g_ws yX12_opens cX12_opens 1 none) B.pre
  have hts : ∀ w ∈ lw_good, w.before ([.ref h] : List Value).toArray s = true := fun w z => hts0 w (List.mem_cons_of_mem _ z)
  have hown : s.vm.findClass RX12 = some m.cls := findClass_of_methodNamed B.named
  have hlocks := B.notSynchronized
  have hS : va_S (mCells h ad sz) s.heap s.heap [] := va_S.rf
  have hl := lv_entry ([.ref h]) (n := 1) (Nat.le_of_ble_eq_true rfl)
  rw [lg_entry_eq]
  generalize (lg_sl ([.ref h]) ++ List.replicate (1 - (lg_sl ([.ref h])).length) Slot.unset).toArray = ls at hl ⊢
  have hl : lv_has ls 1 [(0, .ref h)] := hl
  unfold F_X12_opens at hF
  refine lv_aload_n hx hb dX12_opens_0 rfl (lv_at hl 0 rfl) ?_
  refine va_get (D := (dC, dI)) (ci := 12) (v := .int (σ.1 27)) (C := RX12) (T := TX12) (N := 123) hx hb hts ii_X12 hown hK hP 0 rfl rfl 27 (by decide) (hts (.fieldLink RX12 304 "StoryHouseModel" "stopped" "Z") wq_1383) (fun _ h9 => h9) rfl dX12_opens_1 ?_
  obtain ⟨j_2, ej_2, hF_3⟩ := bnd_e hF
  clear hF
  have Jj_2 : ∀  (σ_1 : MS), j_2  σ_1 = some res → ∀ (H : Heap) (locs : List Loc), va_P (dC, dI) vwCl (mW cB cI cZ h qK qS ad σ_1) H → va_S (mCells h ad sz) s.heap H locs → ∀ ls : Array Slot, lv_has ls 1 [(0, .ref h)] → W p l e (headSpec (g_ws yX12_opens cX12_opens 1 none) { frames := 2, cells := 0, slots := 0, locals := 62 }).room s m ([.ref h] : List Value).toArray below meth c H locs 0 0 (MQ below (va_Qv (fun (_ : Unit) => True) (fun _ t => va_P (dC, dI) vwCl (mW cB cI cZ h qK qS ad res.2) t.heap) (mCells h ad sz)) ([.ref h] : List Value).toArray s 0 0 (mCells h ad sz)) (F0 m 30 ls []) := by
    intro  σ_1 hF0 H locs hP hS ls hl
    subst ej_2
    have hF_4 := hF0
    clear hF0
    refine lv_aload_n hx hb dX12_opens_30 rfl (lv_at hl 0 rfl) ?_
    refine lv_dup hx hb dX12_opens_31 rfl ?_
    refine va_get (D := (dC, dI)) (ci := 12) (v := .int (σ_1.1 26)) (C := RX12) (T := TX12) (N := 123) hx hb hts ii_X12 hown hK hP 0 rfl rfl 26 (by decide) (hts (.fieldLink RX12 336 "StoryHouseModel" "depth" "I") wq_1382) (fun _ h9 => h9) rfl dX12_opens_32 ?_
    refine lv_iconst (v := 1) hx hb dX12_opens_35 (by decide +kernel) ?_
    refine lv_iadd hx hb dX12_opens_36 ?_
    obtain ⟨σ_5, eσ_5, hF_6⟩ := bnd_e hF_4
    clear hF_4
    refine m_put (σ' := σ_5) (v := .int ((σ_1.1 26) + 1)) (ty := .int) hx hb hts hown hK hP (hDD _ _) hS (by rw [eσ_5]; exact mwI_26) (k := 26) (by decide) (hts (.fieldLink RX12 336 "StoryHouseModel" "depth" "I") wq_1382) (fun _ h9 => h9) rfl (by decide +kernel) rfl rfl dX12_opens_37 (fun H locs hP hS => ?_)
    have h9 := Option.some.inj hF_6
    subst h9
    exact W.vret hx hb hr (fun t ht hW => ⟨⟨(), rfl, trivial, m_end ht hP⟩, hS.F ht⟩) hS.2.2 dX12_opens_40
  refine lv_if_ne (tgt := 30) hx hb dX12_opens_4 (by decide) (fun c_7 => ?_) (fun c_7 => ?_)
  · have hF_18 := ineg c_7 hF_3
    clear hF_3
    exact Jj_2  σ hF_18 _ _ hP hS ls (lv_sub hl [0] rfl)
  · have hF_8 := ipos c_7 hF_3
    clear hF_3
    refine lv_aload_n hx hb dX12_opens_7 rfl (lv_at hl 0 rfl) ?_
    refine va_get (D := (dC, dI)) (ci := 12) (v := .int (σ.1 26)) (C := RX12) (T := TX12) (N := 123) hx hb hts ii_X12 hown hK hP 0 rfl rfl 26 (by decide) (hts (.fieldLink RX12 336 "StoryHouseModel" "depth" "I") wq_1382) (fun _ h9 => h9) rfl dX12_opens_8 ?_
    refine lv_bipush (v := 30) hx hb dX12_opens_11 (by decide +kernel) ?_
    refine lv_icmp_ne (tgt := 30) hx hb dX12_opens_13 (by decide) (fun c_9 => ?_) (fun c_9 => ?_)
    · have hF_17 := ineg c_9 hF_8
      clear hF_8
      exact Jj_2  σ hF_17 _ _ hP hS ls (lv_sub hl [0] rfl)
    · have hF_10 := ipos c_9 hF_8
      clear hF_8
      refine lv_aload_n hx hb dX12_opens_16 rfl (lv_at hl 0 rfl) ?_
      refine lv_iconst (v := 5) hx hb dX12_opens_17 (by decide +kernel) ?_
      refine lv_aload_n hx hb dX12_opens_18 rfl (lv_at hl 0 rfl) ?_
      refine va_get (D := (dC, dI)) (ci := 12) (v := .ref (ad 8)) (C := RX12) (T := TX12) (N := 123) hx hb hts ii_X12 hown hK hP 0 rfl rfl 8 (by decide) (hts (.fieldLink RX12 31 "StoryHouseModel" "tokAt" "[I") wq_1364) (fun _ h9 => h9) rfl dX12_opens_19 ?_
      refine lv_aload_n hx hb dX12_opens_22 rfl (lv_at hl 0 rfl) ?_
      refine va_get (D := (dC, dI)) (ci := 12) (v := .int (σ.1 25)) (C := RX12) (T := TX12) (N := 123) hx hb hts ii_X12 hown hK hP 0 rfl rfl 25 (by decide) (hts (.fieldLink RX12 314 "StoryHouseModel" "at" "I") wq_1381) (fun _ h9 => h9) rfl dX12_opens_23 ?_
      obtain ⟨x_11, ex_11, hF_12⟩ := bnd_e hF_10
      clear hF_10
      refine m_top ex_11 ?_
      obtain ⟨g_13, hF_14⟩ := nif_e hF_12
      clear hF_12
      refine va_iald (f := σ.2 8) hx hb hK hP 4 2 rfl rfl g_13 dX12_opens_26 ?_
      obtain ⟨u_15, hu_15, hF_16⟩ := Option.bind_eq_some_iff.mp hF_14
      clear hF_14
      refine m_cv hsz hS (va_runV (As := [.int 5, .int (σ.2 8 x_11.toNatClampNeg)]) (rest := []) ⟨hx, hb, hml, hown, hts⟩ (m_X12_fails l dC dI cB cC cI cJ cZ cP h qK qS ad hDD s.heap.size  5 (σ.2 8 x_11.toNatClampNeg) σ _ hu_15) (cwV 2 hts (g_gV wq_1552 wq_1553 wq_2130 wq_13 wq_1554) rfl rfl rfl (by decide +kernel) ⟨Nat.le_of_ble_eq_true rfl, Nat.le_of_ble_eq_true rfl⟩) (m_preV g_bl0 hsz hK hP hS hE hKS g_to0) rfl rfl hl.1 rfl (lv_room (Nat.le_of_ble_eq_true rfl)) dX12_opens_27 ⟨Nat.le_of_ble_eq_true rfl, Nat.le_of_ble_eq_true rfl⟩) (fun H locs hP hS => ?_)
      exact Jj_2  u_15.2 hF_16 _ _ hP hS ls (lv_sub hl [0] rfl)
theorem dX12_open_0 : decode cX12_open 0 = .ok (.aload_n 0, 1) := by decide +kernel
theorem dX12_open_1 : decode cX12_open 1 = .ok (.iload_n 1, 1) := by decide +kernel
theorem dX12_open_2 : decode cX12_open 2 = .ok (.invokevirtual 321, 3) := by decide +kernel
theorem dX12_open_5 : decode cX12_open 5 = .ok (.ifCond .eq 7, 3) := by decide +kernel
theorem dX12_open_8 : decode cX12_open 8 = .ok (.aload_n 0, 1) := by decide +kernel
theorem dX12_open_9 : decode cX12_open 9 = .ok (.invokevirtual 339, 3) := by decide +kernel
theorem dX12_open_12 : decode cX12_open 12 = .ok (.aload_n 0, 1) := by decide +kernel
theorem dX12_open_13 : decode cX12_open 13 = .ok (.iload_n 1, 1) := by decide +kernel
theorem dX12_open_14 : decode cX12_open 14 = .ok (.invokevirtual 342, 3) := by decide +kernel
theorem dX12_open_17 : decode cX12_open 17 = .ok (.return_, 1) := by decide +kernel
def F_X12_open (p0 : Int32) (σ : MS) : MR :=
  (F_X12_isSign p0 σ).bind fun u_1 =>
  bnd (fun  (σ_3 : MS) => (
    (F_X12_need p0 σ_3).bind fun u_7 =>
    some (0, u_7.2)
  ) : MS → MR) fun j_4 =>
  if u_1.1 = 0 then (
    j_4  u_1.2
  ) else (
    (F_X12_opens u_1.2).bind fun u_12 =>
    j_4  u_12.2
  )
set_option maxHeartbeats 4000000 in
set_option maxRecDepth 100000 in
theorem m_X12_open (l : Launch) (dC : Nat → ClassId) (dI : Nat → Nat → Nat) (cB cC cI cJ cZ cP : ClassId) (h qK qS : Nat) (ad : Nat → Nat) (hDD : mDis cB cI cZ h qK qS ad) (sz : Nat)  (p0 : Int32) (σ : MS) (res : Int32 × MS) (hF : F_X12_open p0 σ = some res) : Met l yX12_open (g_ws yX12_open cX12_open 2 none) ({ frames := 4, cells := 0, slots := 0, locals := 103 }) (va_Pc [.ref h, .int p0] (m_B (dC, dI) [(cB, .byte), (cC, .char), (cI, .int), (cJ, .long), (cZ, .boolean), (cP, .object "StoryHouse$Play")] sz h ad qK qS (mW cB cI cZ h qK qS ad σ) g_0)) (va_Qv (fun (_ : Unit) => True) (fun _ t => va_P (dC, dI) vwCl (mW cB cI cZ h qK qS ad res.2) t.heap) (mCells h ad sz)) 0 0 (mCells h ad sz) := by
  refine Met.ofW (cc := cX12_open) (maxL := 2) (ret := none) (by decide) rfl ?_
  intro p e s m args below meth c s₁ B hml hv
  obtain ⟨rfl, hsz, hP, hK, hE, hKS, hX⟩ := hv
  have hx := B.exec
  have hb := B.bytes
  have hr := B.returns
  have hts0 := atoms_spec (ws := g_ws yX12_open cX12_open 2 none) B.pre
  have hts : ∀ w ∈ lw_good, w.before ([.ref h, .int p0] : List Value).toArray s = true := fun w z => hts0 w (List.mem_cons_of_mem _ z)
  have hown : s.vm.findClass RX12 = some m.cls := findClass_of_methodNamed B.named
  have hlocks := B.notSynchronized
  have hS : va_S (mCells h ad sz) s.heap s.heap [] := va_S.rf
  have hl := lv_entry ([.ref h, .int p0]) (n := 2) (Nat.le_of_ble_eq_true rfl)
  rw [lg_entry_eq]
  generalize (lg_sl ([.ref h, .int p0]) ++ List.replicate (2 - (lg_sl ([.ref h, .int p0])).length) Slot.unset).toArray = ls at hl ⊢
  have hl : lv_has ls 2 [(0, .ref h), (1, .int p0)] := hl
  unfold F_X12_open at hF
  refine lv_aload_n hx hb dX12_open_0 rfl (lv_at hl 0 rfl) ?_
  refine lv_iload_n hx hb dX12_open_1 rfl (lv_at hl 1 rfl) ?_
  obtain ⟨u_1, hu_1, hF_2⟩ := Option.bind_eq_some_iff.mp hF
  clear hF
  refine m_ci hsz hS (va_runV (As := [.int p0]) (rest := []) ⟨hx, hb, hml, hown, hts⟩ (m_X12_isSign l dC dI cB cC cI cJ cZ cP h qK qS ad hDD s.heap.size  p0 σ _ hu_1) (cwV 1 hts (g_gV wq_1558 wq_1559 wq_2132 wq_13 wq_1560) rfl rfl rfl (by decide +kernel) ⟨Nat.le_of_ble_eq_true rfl, Nat.le_of_ble_eq_true rfl⟩) (m_preV g_bl0 hsz hK hP hS hE hKS g_to0) rfl rfl hl.1 rfl (lv_room (Nat.le_of_ble_eq_true rfl)) dX12_open_2 ⟨Nat.le_of_ble_eq_true rfl, Nat.le_of_ble_eq_true rfl⟩) (fun H locs hP hS => ?_)
  obtain ⟨j_4, ej_4, hF_5⟩ := bnd_e hF_2
  clear hF_2
  have Jj_4 : ∀  (σ_3 : MS), j_4  σ_3 = some res → ∀ (H : Heap) (locs : List Loc), va_P (dC, dI) vwCl (mW cB cI cZ h qK qS ad σ_3) H → va_S (mCells h ad sz) s.heap H locs → ∀ ls : Array Slot, lv_has ls 2 [(0, .ref h), (1, .int p0)] → W p l e (headSpec (g_ws yX12_open cX12_open 2 none) { frames := 4, cells := 0, slots := 0, locals := 103 }).room s m ([.ref h, .int p0] : List Value).toArray below meth c H locs 0 0 (MQ below (va_Qv (fun (_ : Unit) => True) (fun _ t => va_P (dC, dI) vwCl (mW cB cI cZ h qK qS ad res.2) t.heap) (mCells h ad sz)) ([.ref h, .int p0] : List Value).toArray s 0 0 (mCells h ad sz)) (F0 m 12 ls []) := by
    intro  σ_3 hF0 H locs hP hS ls hl
    subst ej_4
    have hF_6 := hF0
    clear hF0
    refine lv_aload_n hx hb dX12_open_12 rfl (lv_at hl 0 rfl) ?_
    refine lv_iload_n hx hb dX12_open_13 rfl (lv_at hl 1 rfl) ?_
    obtain ⟨u_7, hu_7, hF_8⟩ := Option.bind_eq_some_iff.mp hF_6
    clear hF_6
    refine m_cv hsz hS (va_runV (As := [.int p0]) (rest := []) ⟨hx, hb, hml, hown, hts⟩ (m_X12_need l dC dI cB cC cI cJ cZ cP h qK qS ad hDD H.size  p0 σ_3 _ hu_7) (cwV 1 hts (g_gV wq_1564 wq_1565 wq_2134 wq_13 wq_1566) rfl rfl rfl (by decide +kernel) ⟨Nat.le_of_ble_eq_true rfl, Nat.le_of_ble_eq_true rfl⟩) (m_preV g_bl0 hsz hK hP hS hE hKS g_to0) rfl rfl hl.1 rfl (lv_room (Nat.le_of_ble_eq_true rfl)) dX12_open_14 ⟨Nat.le_of_ble_eq_true rfl, Nat.le_of_ble_eq_true rfl⟩) (fun H locs hP hS => ?_)
    have h9 := Option.some.inj hF_8
    subst h9
    exact W.vret hx hb hr (fun t ht hW => ⟨⟨(), rfl, trivial, m_end ht hP⟩, hS.F ht⟩) hS.2.2 dX12_open_17
  refine lv_if_eq (tgt := 12) hx hb dX12_open_5 (by decide) (fun c_9 => ?_) (fun c_9 => ?_)
  · have hF_10 := ipos c_9 hF_5
    clear hF_5
    exact Jj_4  u_1.2 hF_10 _ _ hP hS ls (lv_sub hl [0, 1] rfl)
  · have hF_11 := ineg c_9 hF_5
    clear hF_5
    refine lv_aload_n hx hb dX12_open_8 rfl (lv_at hl 0 rfl) ?_
    obtain ⟨u_12, hu_12, hF_13⟩ := Option.bind_eq_some_iff.mp hF_11
    clear hF_11
    refine m_cv hsz hS (va_runV (As := []) (rest := []) ⟨hx, hb, hml, hown, hts⟩ (m_X12_opens l dC dI cB cC cI cJ cZ cP h qK qS ad hDD H.size  u_1.2 _ hu_12) (cwV 0 hts (g_gV wq_1561 wq_1562 wq_2133 wq_13 wq_1563) rfl rfl rfl (by decide +kernel) ⟨Nat.le_of_ble_eq_true rfl, Nat.le_of_ble_eq_true rfl⟩) (m_preV g_bl0 hsz hK hP hS hE hKS g_to0) rfl rfl hl.1 rfl (lv_room (Nat.le_of_ble_eq_true rfl)) dX12_open_9 ⟨Nat.le_of_ble_eq_true rfl, Nat.le_of_ble_eq_true rfl⟩) (fun H locs hP hS => ?_)
    exact Jj_4  u_12.2 hF_13 _ _ hP hS ls (lv_sub hl [0, 1] rfl)
theorem dX12_shut_0 : decode cX12_shut 0 = .ok (.aload_n 0, 1) := by decide +kernel
theorem dX12_shut_1 : decode cX12_shut 1 = .ok (.iload_n 1, 1) := by decide +kernel
theorem dX12_shut_2 : decode cX12_shut 2 = .ok (.invokevirtual 342, 3) := by decide +kernel
theorem dX12_shut_5 : decode cX12_shut 5 = .ok (.aload_n 0, 1) := by decide +kernel
theorem dX12_shut_6 : decode cX12_shut 6 = .ok (.dup, 1) := by decide +kernel
theorem dX12_shut_7 : decode cX12_shut 7 = .ok (.getfield 336, 3) := by decide +kernel
theorem dX12_shut_10 : decode cX12_shut 10 = .ok (.iconst 1, 1) := by decide +kernel
theorem dX12_shut_11 : decode cX12_shut 11 = .ok (.isub, 1) := by decide +kernel
theorem dX12_shut_12 : decode cX12_shut 12 = .ok (.putfield 336, 3) := by decide +kernel
theorem dX12_shut_15 : decode cX12_shut 15 = .ok (.return_, 1) := by decide +kernel
def F_X12_shut (p0 : Int32) (σ : MS) : MR :=
  (F_X12_need p0 σ).bind fun u_1 =>
  bnd (mI u_1.2 26 ((u_1.2.1 26) - 1)) fun σ_3 =>
  some (0, σ_3)
set_option maxHeartbeats 4000000 in
set_option maxRecDepth 100000 in
theorem m_X12_shut (l : Launch) (dC : Nat → ClassId) (dI : Nat → Nat → Nat) (cB cC cI cJ cZ cP : ClassId) (h qK qS : Nat) (ad : Nat → Nat) (hDD : mDis cB cI cZ h qK qS ad) (sz : Nat)  (p0 : Int32) (σ : MS) (res : Int32 × MS) (hF : F_X12_shut p0 σ = some res) : Met l yX12_shut (g_ws yX12_shut cX12_shut 2 none) ({ frames := 4, cells := 0, slots := 0, locals := 103 }) (va_Pc [.ref h, .int p0] (m_B (dC, dI) [(cB, .byte), (cC, .char), (cI, .int), (cJ, .long), (cZ, .boolean), (cP, .object "StoryHouse$Play")] sz h ad qK qS (mW cB cI cZ h qK qS ad σ) g_0)) (va_Qv (fun (_ : Unit) => True) (fun _ t => va_P (dC, dI) vwCl (mW cB cI cZ h qK qS ad res.2) t.heap) (mCells h ad sz)) 0 0 (mCells h ad sz) := by
  refine Met.ofW (cc := cX12_shut) (maxL := 2) (ret := none) (by decide) rfl ?_
  intro p e s m args below meth c s₁ B hml hv
  obtain ⟨rfl, hsz, hP, hK, hE, hKS, hX⟩ := hv
  have hx := B.exec
  have hb := B.bytes
  have hr := B.returns
  have hts0 := atoms_spec (ws := g_ws yX12_shut cX12_shut 2 none) B.pre
  have hts : ∀ w ∈ lw_good, w.before ([.ref h, .int p0] : List Value).toArray s = true := fun w z => hts0 w (List.mem_cons_of_mem _ z)
  have hown : s.vm.findClass RX12 = some m.cls := findClass_of_methodNamed B.named
  have hlocks := B.notSynchronized
  have hS : va_S (mCells h ad sz) s.heap s.heap [] := va_S.rf
  have hl := lv_entry ([.ref h, .int p0]) (n := 2) (Nat.le_of_ble_eq_true rfl)
  rw [lg_entry_eq]
  generalize (lg_sl ([.ref h, .int p0]) ++ List.replicate (2 - (lg_sl ([.ref h, .int p0])).length) Slot.unset).toArray = ls at hl ⊢
  have hl : lv_has ls 2 [(0, .ref h), (1, .int p0)] := hl
  unfold F_X12_shut at hF
  refine lv_aload_n hx hb dX12_shut_0 rfl (lv_at hl 0 rfl) ?_
  refine lv_iload_n hx hb dX12_shut_1 rfl (lv_at hl 1 rfl) ?_
  obtain ⟨u_1, hu_1, hF_2⟩ := Option.bind_eq_some_iff.mp hF
  clear hF
  refine m_cv hsz hS (va_runV (As := [.int p0]) (rest := []) ⟨hx, hb, hml, hown, hts⟩ (m_X12_need l dC dI cB cC cI cJ cZ cP h qK qS ad hDD s.heap.size  p0 σ _ hu_1) (cwV 1 hts (g_gV wq_1564 wq_1565 wq_2134 wq_13 wq_1566) rfl rfl rfl (by decide +kernel) ⟨Nat.le_of_ble_eq_true rfl, Nat.le_of_ble_eq_true rfl⟩) (m_preV g_bl0 hsz hK hP hS hE hKS g_to0) rfl rfl hl.1 rfl (lv_room (Nat.le_of_ble_eq_true rfl)) dX12_shut_2 ⟨Nat.le_of_ble_eq_true rfl, Nat.le_of_ble_eq_true rfl⟩) (fun H locs hP hS => ?_)
  refine lv_aload_n hx hb dX12_shut_5 rfl (lv_at hl 0 rfl) ?_
  refine lv_dup hx hb dX12_shut_6 rfl ?_
  refine va_get (D := (dC, dI)) (ci := 12) (v := .int (u_1.2.1 26)) (C := RX12) (T := TX12) (N := 123) hx hb hts ii_X12 hown hK hP 0 rfl rfl 26 (by decide) (hts (.fieldLink RX12 336 "StoryHouseModel" "depth" "I") wq_1382) (fun _ h9 => h9) rfl dX12_shut_7 ?_
  refine lv_iconst (v := 1) hx hb dX12_shut_10 (by decide +kernel) ?_
  refine lv_isub hx hb dX12_shut_11 ?_
  obtain ⟨σ_3, eσ_3, hF_4⟩ := bnd_e hF_2
  clear hF_2
  refine m_put (σ' := σ_3) (v := .int ((u_1.2.1 26) - 1)) (ty := .int) hx hb hts hown hK hP (hDD _ _) hS (by rw [eσ_3]; exact mwI_26) (k := 26) (by decide) (hts (.fieldLink RX12 336 "StoryHouseModel" "depth" "I") wq_1382) (fun _ h9 => h9) rfl (by decide +kernel) rfl rfl dX12_shut_12 (fun H locs hP hS => ?_)
  have h9 := Option.some.inj hF_4
  subst h9
  exact W.vret hx hb hr (fun t ht hW => ⟨⟨(), rfl, trivial, m_end ht hP⟩, hS.F ht⟩) hS.2.2 dX12_shut_15
theorem dX12_name_0 : decode cX12_name 0 = .ok (.aload_n 0, 1) := by decide +kernel
theorem dX12_name_1 : decode cX12_name 1 = .ok (.bipush 41, 2) := by decide +kernel
theorem dX12_name_3 : decode cX12_name 3 = .ok (.aload_n 0, 1) := by decide +kernel
theorem dX12_name_4 : decode cX12_name 4 = .ok (.getfield 304, 3) := by decide +kernel
theorem dX12_name_7 : decode cX12_name 7 = .ok (.ifCond .eq 7, 3) := by decide +kernel
theorem dX12_name_10 : decode cX12_name 10 = .ok (.iconst 0, 1) := by decide +kernel
theorem dX12_name_11 : decode cX12_name 11 = .ok (.goto 12, 3) := by decide +kernel
theorem dX12_name_14 : decode cX12_name 14 = .ok (.aload_n 0, 1) := by decide +kernel
theorem dX12_name_15 : decode cX12_name 15 = .ok (.getfield 31, 3) := by decide +kernel
theorem dX12_name_18 : decode cX12_name 18 = .ok (.aload_n 0, 1) := by decide +kernel
theorem dX12_name_19 : decode cX12_name 19 = .ok (.getfield 314, 3) := by decide +kernel
theorem dX12_name_22 : decode cX12_name 22 = .ok (.iaload, 1) := by decide +kernel
theorem dX12_name_23 : decode cX12_name 23 = .ok (.invokevirtual 346, 3) := by decide +kernel
theorem dX12_name_26 : decode cX12_name 26 = .ok (.istore_n 1, 1) := by decide +kernel
theorem dX12_name_27 : decode cX12_name 27 = .ok (.aload_n 0, 1) := by decide +kernel
theorem dX12_name_28 : decode cX12_name 28 = .ok (.getfield 55, 3) := by decide +kernel
theorem dX12_name_31 : decode cX12_name 31 = .ok (.iload_n 1, 1) := by decide +kernel
theorem dX12_name_32 : decode cX12_name 32 = .ok (.aload_n 0, 1) := by decide +kernel
theorem dX12_name_33 : decode cX12_name 33 = .ok (.iconst 2, 1) := by decide +kernel
theorem dX12_name_34 : decode cX12_name 34 = .ok (.invokevirtual 349, 3) := by decide +kernel
theorem dX12_name_37 : decode cX12_name 37 = .ok (.iastore, 1) := by decide +kernel
theorem dX12_name_38 : decode cX12_name 38 = .ok (.iload_n 1, 1) := by decide +kernel
theorem dX12_name_39 : decode cX12_name 39 = .ok (.ireturn, 1) := by decide +kernel
def F_X12_name  (σ : MS) : MR :=
  bnd (fun (t_1 : Int32) (σ_2 : MS) => (
    (F_X12_node 41 t_1 σ_2).bind fun u_6 =>
    (F_X12_needKind 2 u_6.2).bind fun u_8 =>
    if u_6.1 < 0 ∨ 40000 ≤ u_6.1.toNatClampNeg then none else
    bnd (mA u_8.2 19 (upd (u_8.2.2 19) u_6.1.toNatClampNeg u_8.1)) fun σ_12 =>
    some (u_6.1, σ_12)
  ) : Int32 → MS → MR) fun j_3 =>
  if (σ.1 27) = 0 then (
    bnd ((σ.1 25)) fun (x_16 : Int32) =>
    if x_16 < 0 ∨ 16010 ≤ x_16.toNatClampNeg then none else
    j_3 (σ.2 8 x_16.toNatClampNeg) σ
  ) else (
    j_3 0 σ
  )
set_option maxHeartbeats 4000000 in
set_option maxRecDepth 100000 in
theorem m_X12_name (l : Launch) (dC : Nat → ClassId) (dI : Nat → Nat → Nat) (cB cC cI cJ cZ cP : ClassId) (h qK qS : Nat) (ad : Nat → Nat) (hDD : mDis cB cI cZ h qK qS ad) (sz : Nat)   (σ : MS) (res : Int32 × MS) (hF : F_X12_name  σ = some res) : Met l yX12_name (g_ws yX12_name cX12_name 2 (some .int)) ({ frames := 4, cells := 0, slots := 0, locals := 103 }) (va_Pc [.ref h] (m_B (dC, dI) [(cB, .byte), (cC, .char), (cI, .int), (cJ, .long), (cZ, .boolean), (cP, .object "StoryHouse$Play")] sz h ad qK qS (mW cB cI cZ h qK qS ad σ) g_0)) (va_Qi (fun r (_ : Unit) => r = res.1) (fun _ t => va_P (dC, dI) vwCl (mW cB cI cZ h qK qS ad res.2) t.heap) (mCells h ad sz)) 0 0 (mCells h ad sz) := by
  refine Met.ofW (cc := cX12_name) (maxL := 2) (ret := (some .int)) (by decide) rfl ?_
  intro p e s m args below meth c s₁ B hml hv
  obtain ⟨rfl, hsz, hP, hK, hE, hKS, hX⟩ := hv
  have hx := B.exec
  have hb := B.bytes
  have hr := B.returns
  have hts0 := atoms_spec (ws := g_ws yX12_name cX12_name 2 (some .int)) B.pre
  have hts : ∀ w ∈ lw_good, w.before ([.ref h] : List Value).toArray s = true := fun w z => hts0 w (List.mem_cons_of_mem _ z)
  have hown : s.vm.findClass RX12 = some m.cls := findClass_of_methodNamed B.named
  have hlocks := B.notSynchronized
  have hS : va_S (mCells h ad sz) s.heap s.heap [] := va_S.rf
  have hl := lv_entry ([.ref h]) (n := 2) (Nat.le_of_ble_eq_true rfl)
  rw [lg_entry_eq]
  generalize (lg_sl ([.ref h]) ++ List.replicate (2 - (lg_sl ([.ref h])).length) Slot.unset).toArray = ls at hl ⊢
  have hl : lv_has ls 2 [(0, .ref h)] := hl
  unfold F_X12_name at hF
  refine lv_aload_n hx hb dX12_name_0 rfl (lv_at hl 0 rfl) ?_
  refine lv_bipush (v := 41) hx hb dX12_name_1 (by decide +kernel) ?_
  refine lv_aload_n hx hb dX12_name_3 rfl (lv_at hl 0 rfl) ?_
  refine va_get (D := (dC, dI)) (ci := 12) (v := .int (σ.1 27)) (C := RX12) (T := TX12) (N := 123) hx hb hts ii_X12 hown hK hP 0 rfl rfl 27 (by decide) (hts (.fieldLink RX12 304 "StoryHouseModel" "stopped" "Z") wq_1383) (fun _ h9 => h9) rfl dX12_name_4 ?_
  obtain ⟨j_3, ej_3, hF_4⟩ := bnd_e hF
  clear hF
  have Jj_3 : ∀ (t_1 : Int32) (σ_2 : MS), j_3 t_1 σ_2 = some res → ∀ (H : Heap) (locs : List Loc), va_P (dC, dI) vwCl (mW cB cI cZ h qK qS ad σ_2) H → va_S (mCells h ad sz) s.heap H locs → ∀ ls : Array Slot, lv_has ls 2 [(0, .ref h)] → W p l e (headSpec (g_ws yX12_name cX12_name 2 (some .int)) { frames := 4, cells := 0, slots := 0, locals := 103 }).room s m ([.ref h] : List Value).toArray below meth c H locs 0 0 (MQ below (va_Qi (fun r (_ : Unit) => r = res.1) (fun _ t => va_P (dC, dI) vwCl (mW cB cI cZ h qK qS ad res.2) t.heap) (mCells h ad sz)) ([.ref h] : List Value).toArray s 0 0 (mCells h ad sz)) (F0 m 23 ls [.int t_1, .int 41, .ref h]) := by
    intro t_1 σ_2 hF0 H locs hP hS ls hl
    subst ej_3
    have hF_5 := hF0
    clear hF0
    obtain ⟨u_6, hu_6, hF_7⟩ := Option.bind_eq_some_iff.mp hF_5
    clear hF_5
    refine m_ci hsz hS (va_runV (As := [.int 41, .int t_1]) (rest := []) ⟨hx, hb, hml, hown, hts⟩ (m_X12_node l dC dI cB cC cI cJ cZ cP h qK qS ad hDD H.size  41 t_1 σ_2 _ hu_6) (cwV 2 hts (g_gV wq_1540 wq_1541 wq_2126 wq_13 wq_1542) rfl rfl rfl (by decide +kernel) ⟨Nat.le_of_ble_eq_true rfl, Nat.le_of_ble_eq_true rfl⟩) (m_preV g_bl0 hsz hK hP hS hE hKS g_to0) rfl rfl hl.1 rfl (lv_room (Nat.le_of_ble_eq_true rfl)) dX12_name_23 ⟨Nat.le_of_ble_eq_true rfl, Nat.le_of_ble_eq_true rfl⟩) (fun H locs hP hS => ?_)
    refine lv_istore_n (lv' := [(1, .int u_6.1), (0, .ref h)]) hx hb dX12_name_26 rfl hl (by decide) rfl (fun ls hl => ?_)
    refine lv_aload_n hx hb dX12_name_27 rfl (lv_at hl 1 rfl) ?_
    refine va_get (D := (dC, dI)) (ci := 12) (v := .ref (ad 19)) (C := RX12) (T := TX12) (N := 123) hx hb hts ii_X12 hown hK hP 0 rfl rfl 19 (by decide) (hts (.fieldLink RX12 55 "StoryHouseModel" "a" "[I") wq_1375) (fun _ h9 => h9) rfl dX12_name_28 ?_
    refine lv_iload_n hx hb dX12_name_31 rfl (lv_at hl 0 rfl) ?_
    refine lv_aload_n hx hb dX12_name_32 rfl (lv_at hl 1 rfl) ?_
    refine lv_iconst (v := 2) hx hb dX12_name_33 (by decide +kernel) ?_
    obtain ⟨u_8, hu_8, hF_9⟩ := Option.bind_eq_some_iff.mp hF_7
    clear hF_7
    refine m_ci hsz hS (va_runV (As := [.int 2]) (rest := [.int u_6.1, .ref (ad 19)]) ⟨hx, hb, hml, hown, hts⟩ (m_X12_needKind l dC dI cB cC cI cJ cZ cP h qK qS ad hDD H.size  2 u_6.2 _ hu_8) (cwV 1 hts (g_gV wq_1546 wq_1547 wq_2128 wq_13 wq_1548) rfl rfl rfl (by decide +kernel) ⟨Nat.le_of_ble_eq_true rfl, Nat.le_of_ble_eq_true rfl⟩) (m_preV g_bl0 hsz hK hP hS hE hKS g_to0) rfl rfl hl.1 rfl (lv_room (Nat.le_of_ble_eq_true rfl)) dX12_name_34 ⟨Nat.le_of_ble_eq_true rfl, Nat.le_of_ble_eq_true rfl⟩) (fun H locs hP hS => ?_)
    obtain ⟨g_10, hF_11⟩ := nif_e hF_9
    clear hF_9
    obtain ⟨σ_12, eσ_12, hF_13⟩ := bnd_e hF_11
    clear hF_11
    refine m_iast (σ' := σ_12) hx hb hK hP (hDD _ _) hS (q0 := 10) (t0 := 2) (f := u_8.2.2 19) rfl rfl (by rw [eσ_12]; exact mwA_19) g_10 dX12_name_37 (fun H locs hP hS => ?_)
    refine lv_iload_n hx hb dX12_name_38 rfl (lv_at hl 0 rfl) ?_
    have h9 := Option.some.inj hF_13
    subst h9
    exact W.iret (v := u_6.1) hx hb hr (fun t ht hW => ⟨⟨u_6.1, (), rfl, rfl, m_end ht hP⟩, hS.F ht⟩) hS.2.2 dX12_name_39
  refine lv_if_eq (tgt := 14) hx hb dX12_name_7 (by decide) (fun c_14 => ?_) (fun c_14 => ?_)
  · have hF_15 := ipos c_14 hF_4
    clear hF_4
    refine lv_aload_n hx hb dX12_name_14 rfl (lv_at hl 0 rfl) ?_
    refine va_get (D := (dC, dI)) (ci := 12) (v := .ref (ad 8)) (C := RX12) (T := TX12) (N := 123) hx hb hts ii_X12 hown hK hP 0 rfl rfl 8 (by decide) (hts (.fieldLink RX12 31 "StoryHouseModel" "tokAt" "[I") wq_1364) (fun _ h9 => h9) rfl dX12_name_15 ?_
    refine lv_aload_n hx hb dX12_name_18 rfl (lv_at hl 0 rfl) ?_
    refine va_get (D := (dC, dI)) (ci := 12) (v := .int (σ.1 25)) (C := RX12) (T := TX12) (N := 123) hx hb hts ii_X12 hown hK hP 0 rfl rfl 25 (by decide) (hts (.fieldLink RX12 314 "StoryHouseModel" "at" "I") wq_1381) (fun _ h9 => h9) rfl dX12_name_19 ?_
    obtain ⟨x_16, ex_16, hF_17⟩ := bnd_e hF_15
    clear hF_15
    refine m_top ex_16 ?_
    obtain ⟨g_18, hF_19⟩ := nif_e hF_17
    clear hF_17
    refine va_iald (f := σ.2 8) hx hb hK hP 4 2 rfl rfl g_18 dX12_name_22 ?_
    exact Jj_3 (σ.2 8 x_16.toNatClampNeg) σ hF_19 _ _ hP hS ls (lv_sub hl [0] rfl)
  · have hF_20 := ineg c_14 hF_4
    clear hF_4
    refine lv_iconst (v := 0) hx hb dX12_name_10 (by decide +kernel) ?_
    refine lv_goto (tgt := 23) hx hb dX12_name_11 (by decide) ?_
    exact Jj_3 0 σ hF_20 _ _ hP hS ls (lv_sub hl [0] rfl)
theorem dX12_direction_0 : decode cX12_direction 0 = .ok (.aload_n 0, 1) := by decide +kernel
theorem dX12_direction_1 : decode cX12_direction 1 = .ok (.getfield 304, 3) := by decide +kernel
theorem dX12_direction_4 : decode cX12_direction 4 = .ok (.ifCond .ne 16, 3) := by decide +kernel
theorem dX12_direction_7 : decode cX12_direction 7 = .ok (.aload_n 0, 1) := by decide +kernel
theorem dX12_direction_8 : decode cX12_direction 8 = .ok (.getfield 27, 3) := by decide +kernel
theorem dX12_direction_11 : decode cX12_direction 11 = .ok (.aload_n 0, 1) := by decide +kernel
theorem dX12_direction_12 : decode cX12_direction 12 = .ok (.getfield 314, 3) := by decide +kernel
theorem dX12_direction_15 : decode cX12_direction 15 = .ok (.iaload, 1) := by decide +kernel
theorem dX12_direction_16 : decode cX12_direction 16 = .ok (.iconst 1, 1) := by decide +kernel
theorem dX12_direction_17 : decode cX12_direction 17 = .ok (.if_icmp .eq 7, 3) := by decide +kernel
theorem dX12_direction_20 : decode cX12_direction 20 = .ok (.iconst (-1), 1) := by decide +kernel
theorem dX12_direction_21 : decode cX12_direction 21 = .ok (.goto 12, 3) := by decide +kernel
theorem dX12_direction_24 : decode cX12_direction 24 = .ok (.aload_n 0, 1) := by decide +kernel
theorem dX12_direction_25 : decode cX12_direction 25 = .ok (.getfield 34, 3) := by decide +kernel
theorem dX12_direction_28 : decode cX12_direction 28 = .ok (.aload_n 0, 1) := by decide +kernel
theorem dX12_direction_29 : decode cX12_direction 29 = .ok (.getfield 314, 3) := by decide +kernel
theorem dX12_direction_32 : decode cX12_direction 32 = .ok (.iaload, 1) := by decide +kernel
theorem dX12_direction_33 : decode cX12_direction 33 = .ok (.istore_n 1, 1) := by decide +kernel
theorem dX12_direction_34 : decode cX12_direction 34 = .ok (.iload_n 1, 1) := by decide +kernel
theorem dX12_direction_35 : decode cX12_direction 35 = .ok (.bipush 25, 2) := by decide +kernel
theorem dX12_direction_37 : decode cX12_direction 37 = .ok (.if_icmp .ne 7, 3) := by decide +kernel
theorem dX12_direction_40 : decode cX12_direction 40 = .ok (.iconst 1, 1) := by decide +kernel
theorem dX12_direction_41 : decode cX12_direction 41 = .ok (.goto 55, 3) := by decide +kernel
theorem dX12_direction_44 : decode cX12_direction 44 = .ok (.iload_n 1, 1) := by decide +kernel
theorem dX12_direction_45 : decode cX12_direction 45 = .ok (.bipush 39, 2) := by decide +kernel
theorem dX12_direction_47 : decode cX12_direction 47 = .ok (.if_icmp .ne 7, 3) := by decide +kernel
theorem dX12_direction_50 : decode cX12_direction 50 = .ok (.iconst 2, 1) := by decide +kernel
theorem dX12_direction_51 : decode cX12_direction 51 = .ok (.goto 45, 3) := by decide +kernel
theorem dX12_direction_54 : decode cX12_direction 54 = .ok (.iload_n 1, 1) := by decide +kernel
theorem dX12_direction_55 : decode cX12_direction 55 = .ok (.bipush 10, 2) := by decide +kernel
theorem dX12_direction_57 : decode cX12_direction 57 = .ok (.if_icmp .ne 7, 3) := by decide +kernel
theorem dX12_direction_60 : decode cX12_direction 60 = .ok (.iconst 3, 1) := by decide +kernel
theorem dX12_direction_61 : decode cX12_direction 61 = .ok (.goto 35, 3) := by decide +kernel
theorem dX12_direction_64 : decode cX12_direction 64 = .ok (.iload_n 1, 1) := by decide +kernel
theorem dX12_direction_65 : decode cX12_direction 65 = .ok (.bipush 47, 2) := by decide +kernel
theorem dX12_direction_67 : decode cX12_direction 67 = .ok (.if_icmp .ne 7, 3) := by decide +kernel
theorem dX12_direction_70 : decode cX12_direction 70 = .ok (.iconst 4, 1) := by decide +kernel
theorem dX12_direction_71 : decode cX12_direction 71 = .ok (.goto 25, 3) := by decide +kernel
theorem dX12_direction_74 : decode cX12_direction 74 = .ok (.iload_n 1, 1) := by decide +kernel
theorem dX12_direction_75 : decode cX12_direction 75 = .ok (.bipush 44, 2) := by decide +kernel
theorem dX12_direction_77 : decode cX12_direction 77 = .ok (.if_icmp .ne 7, 3) := by decide +kernel
theorem dX12_direction_80 : decode cX12_direction 80 = .ok (.iconst 5, 1) := by decide +kernel
theorem dX12_direction_81 : decode cX12_direction 81 = .ok (.goto 15, 3) := by decide +kernel
theorem dX12_direction_84 : decode cX12_direction 84 = .ok (.iload_n 1, 1) := by decide +kernel
theorem dX12_direction_85 : decode cX12_direction 85 = .ok (.bipush 8, 2) := by decide +kernel
theorem dX12_direction_87 : decode cX12_direction 87 = .ok (.if_icmp .ne 8, 3) := by decide +kernel
theorem dX12_direction_90 : decode cX12_direction 90 = .ok (.bipush 6, 2) := by decide +kernel
theorem dX12_direction_92 : decode cX12_direction 92 = .ok (.goto 4, 3) := by decide +kernel
theorem dX12_direction_95 : decode cX12_direction 95 = .ok (.iconst 0, 1) := by decide +kernel
theorem dX12_direction_96 : decode cX12_direction 96 = .ok (.istore_n 2, 1) := by decide +kernel
theorem dX12_direction_97 : decode cX12_direction 97 = .ok (.iload_n 2, 1) := by decide +kernel
theorem dX12_direction_98 : decode cX12_direction 98 = .ok (.ifCond .le 13, 3) := by decide +kernel
theorem dX12_direction_101 : decode cX12_direction 101 = .ok (.aload_n 0, 1) := by decide +kernel
theorem dX12_direction_102 : decode cX12_direction 102 = .ok (.dup, 1) := by decide +kernel
theorem dX12_direction_103 : decode cX12_direction 103 = .ok (.getfield 314, 3) := by decide +kernel
theorem dX12_direction_106 : decode cX12_direction 106 = .ok (.iconst 1, 1) := by decide +kernel
theorem dX12_direction_107 : decode cX12_direction 107 = .ok (.iadd, 1) := by decide +kernel
theorem dX12_direction_108 : decode cX12_direction 108 = .ok (.putfield 314, 3) := by decide +kernel
theorem dX12_direction_111 : decode cX12_direction 111 = .ok (.iload_n 2, 1) := by decide +kernel
theorem dX12_direction_112 : decode cX12_direction 112 = .ok (.ireturn, 1) := by decide +kernel
def F_X12_direction  (σ : MS) : MR :=
  bnd (fun (t_1 : Int32) (σ_2 : MS) => (
    bnd (fun (t_6 : Int32) (σ_7 : MS) => (
      if t_6 ≤ 0 then (
        some (t_6, σ_7)
      ) else (
        bnd (mI σ_7 25 ((σ_7.1 25) + 1)) fun σ_14 =>
        some (t_6, σ_14)
      )
    ) : Int32 → MS → MR) fun j_8 =>
    if t_1 = 25 then (
      j_8 1 σ_2
    ) else (
      if t_1 = 39 then (
        j_8 2 σ_2
      ) else (
        if t_1 = 10 then (
          j_8 3 σ_2
        ) else (
          if t_1 = 47 then (
            j_8 4 σ_2
          ) else (
            if t_1 = 44 then (
              j_8 5 σ_2
            ) else (
              if t_1 = 8 then (
                j_8 6 σ_2
              ) else (
                j_8 0 σ_2
              )
            )
          )
        )
      )
    )
  ) : Int32 → MS → MR) fun j_3 =>
  bnd (fun  (σ_34 : MS) => (
    j_3 (-1) σ_34
  ) : MS → MR) fun j_35 =>
  if (σ.1 27) = 0 then (
    bnd ((σ.1 25)) fun (x_40 : Int32) =>
    if x_40 < 0 ∨ 16010 ≤ x_40.toNatClampNeg then none else
    if (σ.2 7 x_40.toNatClampNeg) = 1 then (
      bnd ((σ.1 25)) fun (x_46 : Int32) =>
      if x_46 < 0 ∨ 16010 ≤ x_46.toNatClampNeg then none else
      j_3 (σ.2 9 x_46.toNatClampNeg) σ
    ) else (
      j_35  σ
    )
  ) else (
    j_35  σ
  )
set_option maxHeartbeats 4000000 in
set_option maxRecDepth 100000 in
theorem m_X12_direction (l : Launch) (dC : Nat → ClassId) (dI : Nat → Nat → Nat) (cB cC cI cJ cZ cP : ClassId) (h qK qS : Nat) (ad : Nat → Nat) (hDD : mDis cB cI cZ h qK qS ad) (sz : Nat)   (σ : MS) (res : Int32 × MS) (hF : F_X12_direction  σ = some res) : Met l yX12_direction (g_ws yX12_direction cX12_direction 3 (some .int)) ({ frames := 1, cells := 0, slots := 0, locals := 40 }) (va_Pc [.ref h] (m_B (dC, dI) [(cB, .byte), (cC, .char), (cI, .int), (cJ, .long), (cZ, .boolean), (cP, .object "StoryHouse$Play")] sz h ad qK qS (mW cB cI cZ h qK qS ad σ) g_0)) (va_Qi (fun r (_ : Unit) => r = res.1) (fun _ t => va_P (dC, dI) vwCl (mW cB cI cZ h qK qS ad res.2) t.heap) (mCells h ad sz)) 0 0 (mCells h ad sz) := by
  refine Met.ofW (cc := cX12_direction) (maxL := 3) (ret := (some .int)) (by decide) rfl ?_
  intro p e s m args below meth c s₁ B hml hv
  obtain ⟨rfl, hsz, hP, hK, hE, hKS, hX⟩ := hv
  have hx := B.exec
  have hb := B.bytes
  have hr := B.returns
  have hts0 := atoms_spec (ws := g_ws yX12_direction cX12_direction 3 (some .int)) B.pre
  have hts : ∀ w ∈ lw_good, w.before ([.ref h] : List Value).toArray s = true := fun w z => hts0 w (List.mem_cons_of_mem _ z)
  have hown : s.vm.findClass RX12 = some m.cls := findClass_of_methodNamed B.named
  have hlocks := B.notSynchronized
  have hS : va_S (mCells h ad sz) s.heap s.heap [] := va_S.rf
  have hl := lv_entry ([.ref h]) (n := 3) (Nat.le_of_ble_eq_true rfl)
  rw [lg_entry_eq]
  generalize (lg_sl ([.ref h]) ++ List.replicate (3 - (lg_sl ([.ref h])).length) Slot.unset).toArray = ls at hl ⊢
  have hl : lv_has ls 3 [(0, .ref h)] := hl
  unfold F_X12_direction at hF
  refine lv_aload_n hx hb dX12_direction_0 rfl (lv_at hl 0 rfl) ?_
  refine va_get (D := (dC, dI)) (ci := 12) (v := .int (σ.1 27)) (C := RX12) (T := TX12) (N := 123) hx hb hts ii_X12 hown hK hP 0 rfl rfl 27 (by decide) (hts (.fieldLink RX12 304 "StoryHouseModel" "stopped" "Z") wq_1383) (fun _ h9 => h9) rfl dX12_direction_1 ?_
  obtain ⟨j_3, ej_3, hF_4⟩ := bnd_e hF
  clear hF
  have Jj_3 : ∀ (t_1 : Int32) (σ_2 : MS), j_3 t_1 σ_2 = some res → ∀ (H : Heap) (locs : List Loc), va_P (dC, dI) vwCl (mW cB cI cZ h qK qS ad σ_2) H → va_S (mCells h ad sz) s.heap H locs → ∀ ls : Array Slot, lv_has ls 3 [(0, .ref h)] → W p l e (headSpec (g_ws yX12_direction cX12_direction 3 (some .int)) { frames := 1, cells := 0, slots := 0, locals := 40 }).room s m ([.ref h] : List Value).toArray below meth c H locs 0 0 (MQ below (va_Qi (fun r (_ : Unit) => r = res.1) (fun _ t => va_P (dC, dI) vwCl (mW cB cI cZ h qK qS ad res.2) t.heap) (mCells h ad sz)) ([.ref h] : List Value).toArray s 0 0 (mCells h ad sz)) (F0 m 33 ls [.int t_1]) := by
    intro t_1 σ_2 hF0 H locs hP hS ls hl
    subst ej_3
    have hF_5 := hF0
    clear hF0
    refine lv_istore_n (lv' := [(1, .int t_1), (0, .ref h)]) hx hb dX12_direction_33 rfl hl (by decide) rfl (fun ls hl => ?_)
    refine lv_iload_n hx hb dX12_direction_34 rfl (lv_at hl 0 rfl) ?_
    refine lv_bipush (v := 25) hx hb dX12_direction_35 (by decide +kernel) ?_
    obtain ⟨j_8, ej_8, hF_9⟩ := bnd_e hF_5
    clear hF_5
    have Jj_8 : ∀ (t_6 : Int32) (σ_7 : MS), j_8 t_6 σ_7 = some res → ∀ (H : Heap) (locs : List Loc), va_P (dC, dI) vwCl (mW cB cI cZ h qK qS ad σ_7) H → va_S (mCells h ad sz) s.heap H locs → ∀ ls : Array Slot, lv_has ls 3 [(0, .ref h)] → W p l e (headSpec (g_ws yX12_direction cX12_direction 3 (some .int)) { frames := 1, cells := 0, slots := 0, locals := 40 }).room s m ([.ref h] : List Value).toArray below meth c H locs 0 0 (MQ below (va_Qi (fun r (_ : Unit) => r = res.1) (fun _ t => va_P (dC, dI) vwCl (mW cB cI cZ h qK qS ad res.2) t.heap) (mCells h ad sz)) ([.ref h] : List Value).toArray s 0 0 (mCells h ad sz)) (F0 m 96 ls [.int t_6]) := by
      intro t_6 σ_7 hF0 H locs hP hS ls hl
      subst ej_8
      have hF_10 := hF0
      clear hF0
      refine lv_istore_n (lv' := [(2, .int t_6), (0, .ref h)]) hx hb dX12_direction_96 rfl hl (by decide) rfl (fun ls hl => ?_)
      refine lv_iload_n hx hb dX12_direction_97 rfl (lv_at hl 0 rfl) ?_
      refine lv_if_le (tgt := 111) hx hb dX12_direction_98 (by decide) (fun c_11 => ?_) (fun c_11 => ?_)
      · have hF_12 := ipos c_11 hF_10
        clear hF_10
        refine lv_iload_n hx hb dX12_direction_111 rfl (lv_at hl 0 rfl) ?_
        have h9 := Option.some.inj hF_12
        subst h9
        exact W.iret (v := t_6) hx hb hr (fun t ht hW => ⟨⟨t_6, (), rfl, rfl, m_end ht hP⟩, hS.F ht⟩) hS.2.2 dX12_direction_112
      · have hF_13 := ineg c_11 hF_10
        clear hF_10
        refine lv_aload_n hx hb dX12_direction_101 rfl (lv_at hl 1 rfl) ?_
        refine lv_dup hx hb dX12_direction_102 rfl ?_
        refine va_get (D := (dC, dI)) (ci := 12) (v := .int (σ_7.1 25)) (C := RX12) (T := TX12) (N := 123) hx hb hts ii_X12 hown hK hP 0 rfl rfl 25 (by decide) (hts (.fieldLink RX12 314 "StoryHouseModel" "at" "I") wq_1381) (fun _ h9 => h9) rfl dX12_direction_103 ?_
        refine lv_iconst (v := 1) hx hb dX12_direction_106 (by decide +kernel) ?_
        refine lv_iadd hx hb dX12_direction_107 ?_
        obtain ⟨σ_14, eσ_14, hF_15⟩ := bnd_e hF_13
        clear hF_13
        refine m_put (σ' := σ_14) (v := .int ((σ_7.1 25) + 1)) (ty := .int) hx hb hts hown hK hP (hDD _ _) hS (by rw [eσ_14]; exact mwI_25) (k := 25) (by decide) (hts (.fieldLink RX12 314 "StoryHouseModel" "at" "I") wq_1381) (fun _ h9 => h9) rfl (by decide +kernel) rfl rfl dX12_direction_108 (fun H locs hP hS => ?_)
        refine lv_iload_n hx hb dX12_direction_111 rfl (lv_at hl 0 rfl) ?_
        have h9 := Option.some.inj hF_15
        subst h9
        exact W.iret (v := t_6) hx hb hr (fun t ht hW => ⟨⟨t_6, (), rfl, rfl, m_end ht hP⟩, hS.F ht⟩) hS.2.2 dX12_direction_112
    refine lv_icmp_ne (tgt := 44) hx hb dX12_direction_37 (by decide) (fun c_16 => ?_) (fun c_16 => ?_)
    · have hF_18 := ineg c_16 hF_9
      clear hF_9
      refine lv_iload_n hx hb dX12_direction_44 rfl (lv_at hl 0 rfl) ?_
      refine lv_bipush (v := 39) hx hb dX12_direction_45 (by decide +kernel) ?_
      refine lv_icmp_ne (tgt := 54) hx hb dX12_direction_47 (by decide) (fun c_19 => ?_) (fun c_19 => ?_)
      · have hF_21 := ineg c_19 hF_18
        clear hF_18
        refine lv_iload_n hx hb dX12_direction_54 rfl (lv_at hl 0 rfl) ?_
        refine lv_bipush (v := 10) hx hb dX12_direction_55 (by decide +kernel) ?_
        refine lv_icmp_ne (tgt := 64) hx hb dX12_direction_57 (by decide) (fun c_22 => ?_) (fun c_22 => ?_)
        · have hF_24 := ineg c_22 hF_21
          clear hF_21
          refine lv_iload_n hx hb dX12_direction_64 rfl (lv_at hl 0 rfl) ?_
          refine lv_bipush (v := 47) hx hb dX12_direction_65 (by decide +kernel) ?_
          refine lv_icmp_ne (tgt := 74) hx hb dX12_direction_67 (by decide) (fun c_25 => ?_) (fun c_25 => ?_)
          · have hF_27 := ineg c_25 hF_24
            clear hF_24
            refine lv_iload_n hx hb dX12_direction_74 rfl (lv_at hl 0 rfl) ?_
            refine lv_bipush (v := 44) hx hb dX12_direction_75 (by decide +kernel) ?_
            refine lv_icmp_ne (tgt := 84) hx hb dX12_direction_77 (by decide) (fun c_28 => ?_) (fun c_28 => ?_)
            · have hF_30 := ineg c_28 hF_27
              clear hF_27
              refine lv_iload_n hx hb dX12_direction_84 rfl (lv_at hl 0 rfl) ?_
              refine lv_bipush (v := 8) hx hb dX12_direction_85 (by decide +kernel) ?_
              refine lv_icmp_ne (tgt := 95) hx hb dX12_direction_87 (by decide) (fun c_31 => ?_) (fun c_31 => ?_)
              · have hF_33 := ineg c_31 hF_30
                clear hF_30
                refine lv_iconst (v := 0) hx hb dX12_direction_95 (by decide +kernel) ?_
                exact Jj_8 0 σ_2 hF_33 _ _ hP hS ls (lv_sub hl [1] rfl)
              · have hF_32 := ipos c_31 hF_30
                clear hF_30
                refine lv_bipush (v := 6) hx hb dX12_direction_90 (by decide +kernel) ?_
                refine lv_goto (tgt := 96) hx hb dX12_direction_92 (by decide) ?_
                exact Jj_8 6 σ_2 hF_32 _ _ hP hS ls (lv_sub hl [1] rfl)
            · have hF_29 := ipos c_28 hF_27
              clear hF_27
              refine lv_iconst (v := 5) hx hb dX12_direction_80 (by decide +kernel) ?_
              refine lv_goto (tgt := 96) hx hb dX12_direction_81 (by decide) ?_
              exact Jj_8 5 σ_2 hF_29 _ _ hP hS ls (lv_sub hl [1] rfl)
          · have hF_26 := ipos c_25 hF_24
            clear hF_24
            refine lv_iconst (v := 4) hx hb dX12_direction_70 (by decide +kernel) ?_
            refine lv_goto (tgt := 96) hx hb dX12_direction_71 (by decide) ?_
            exact Jj_8 4 σ_2 hF_26 _ _ hP hS ls (lv_sub hl [1] rfl)
        · have hF_23 := ipos c_22 hF_21
          clear hF_21
          refine lv_iconst (v := 3) hx hb dX12_direction_60 (by decide +kernel) ?_
          refine lv_goto (tgt := 96) hx hb dX12_direction_61 (by decide) ?_
          exact Jj_8 3 σ_2 hF_23 _ _ hP hS ls (lv_sub hl [1] rfl)
      · have hF_20 := ipos c_19 hF_18
        clear hF_18
        refine lv_iconst (v := 2) hx hb dX12_direction_50 (by decide +kernel) ?_
        refine lv_goto (tgt := 96) hx hb dX12_direction_51 (by decide) ?_
        exact Jj_8 2 σ_2 hF_20 _ _ hP hS ls (lv_sub hl [1] rfl)
    · have hF_17 := ipos c_16 hF_9
      clear hF_9
      refine lv_iconst (v := 1) hx hb dX12_direction_40 (by decide +kernel) ?_
      refine lv_goto (tgt := 96) hx hb dX12_direction_41 (by decide) ?_
      exact Jj_8 1 σ_2 hF_17 _ _ hP hS ls (lv_sub hl [1] rfl)
  obtain ⟨j_35, ej_35, hF_36⟩ := bnd_e hF_4
  clear hF_4
  have Jj_35 : ∀  (σ_34 : MS), j_35  σ_34 = some res → ∀ (H : Heap) (locs : List Loc), va_P (dC, dI) vwCl (mW cB cI cZ h qK qS ad σ_34) H → va_S (mCells h ad sz) s.heap H locs → ∀ ls : Array Slot, lv_has ls 3 [(0, .ref h)] → W p l e (headSpec (g_ws yX12_direction cX12_direction 3 (some .int)) { frames := 1, cells := 0, slots := 0, locals := 40 }).room s m ([.ref h] : List Value).toArray below meth c H locs 0 0 (MQ below (va_Qi (fun r (_ : Unit) => r = res.1) (fun _ t => va_P (dC, dI) vwCl (mW cB cI cZ h qK qS ad res.2) t.heap) (mCells h ad sz)) ([.ref h] : List Value).toArray s 0 0 (mCells h ad sz)) (F0 m 20 ls []) := by
    intro  σ_34 hF0 H locs hP hS ls hl
    subst ej_35
    have hF_37 := hF0
    clear hF0
    refine lv_iconst (v := (-1)) hx hb dX12_direction_20 (by decide +kernel) ?_
    refine lv_goto (tgt := 33) hx hb dX12_direction_21 (by decide) ?_
    exact Jj_3 (-1) σ_34 hF_37 _ _ hP hS ls (lv_sub hl [0] rfl)
  refine lv_if_ne (tgt := 20) hx hb dX12_direction_4 (by decide) (fun c_38 => ?_) (fun c_38 => ?_)
  · have hF_51 := ineg c_38 hF_36
    clear hF_36
    exact Jj_35  σ hF_51 _ _ hP hS ls (lv_sub hl [0] rfl)
  · have hF_39 := ipos c_38 hF_36
    clear hF_36
    refine lv_aload_n hx hb dX12_direction_7 rfl (lv_at hl 0 rfl) ?_
    refine va_get (D := (dC, dI)) (ci := 12) (v := .ref (ad 7)) (C := RX12) (T := TX12) (N := 123) hx hb hts ii_X12 hown hK hP 0 rfl rfl 7 (by decide) (hts (.fieldLink RX12 27 "StoryHouseModel" "tokKind" "[I") wq_1363) (fun _ h9 => h9) rfl dX12_direction_8 ?_
    refine lv_aload_n hx hb dX12_direction_11 rfl (lv_at hl 0 rfl) ?_
    refine va_get (D := (dC, dI)) (ci := 12) (v := .int (σ.1 25)) (C := RX12) (T := TX12) (N := 123) hx hb hts ii_X12 hown hK hP 0 rfl rfl 25 (by decide) (hts (.fieldLink RX12 314 "StoryHouseModel" "at" "I") wq_1381) (fun _ h9 => h9) rfl dX12_direction_12 ?_
    obtain ⟨x_40, ex_40, hF_41⟩ := bnd_e hF_39
    clear hF_39
    refine m_top ex_40 ?_
    obtain ⟨g_42, hF_43⟩ := nif_e hF_41
    clear hF_41
    refine va_iald (f := σ.2 7) hx hb hK hP 3 2 rfl rfl g_42 dX12_direction_15 ?_
    refine lv_iconst (v := 1) hx hb dX12_direction_16 (by decide +kernel) ?_
    refine lv_icmp_eq (tgt := 24) hx hb dX12_direction_17 (by decide) (fun c_44 => ?_) (fun c_44 => ?_)
    · have hF_45 := ipos c_44 hF_43
      clear hF_43
      refine lv_aload_n hx hb dX12_direction_24 rfl (lv_at hl 0 rfl) ?_
      refine va_get (D := (dC, dI)) (ci := 12) (v := .ref (ad 9)) (C := RX12) (T := TX12) (N := 123) hx hb hts ii_X12 hown hK hP 0 rfl rfl 9 (by decide) (hts (.fieldLink RX12 34 "StoryHouseModel" "tokValue" "[I") wq_1365) (fun _ h9 => h9) rfl dX12_direction_25 ?_
      refine lv_aload_n hx hb dX12_direction_28 rfl (lv_at hl 0 rfl) ?_
      refine va_get (D := (dC, dI)) (ci := 12) (v := .int (σ.1 25)) (C := RX12) (T := TX12) (N := 123) hx hb hts ii_X12 hown hK hP 0 rfl rfl 25 (by decide) (hts (.fieldLink RX12 314 "StoryHouseModel" "at" "I") wq_1381) (fun _ h9 => h9) rfl dX12_direction_29 ?_
      obtain ⟨x_46, ex_46, hF_47⟩ := bnd_e hF_45
      clear hF_45
      refine m_top ex_46 ?_
      obtain ⟨g_48, hF_49⟩ := nif_e hF_47
      clear hF_47
      refine va_iald (f := σ.2 9) hx hb hK hP 5 2 rfl rfl g_48 dX12_direction_32 ?_
      exact Jj_3 (σ.2 9 x_46.toNatClampNeg) σ hF_49 _ _ hP hS ls (lv_sub hl [0] rfl)
    · have hF_50 := ineg c_44 hF_43
      clear hF_43
      exact Jj_35  σ hF_50 _ _ hP hS ls (lv_sub hl [0] rfl)
theorem dX12_attribute_0 : decode cX12_attribute 0 = .ok (.aload_n 0, 1) := by decide +kernel
theorem dX12_attribute_1 : decode cX12_attribute 1 = .ok (.getfield 304, 3) := by decide +kernel
theorem dX12_attribute_4 : decode cX12_attribute 4 = .ok (.ifCond .ne 50, 3) := by decide +kernel
theorem dX12_attribute_7 : decode cX12_attribute 7 = .ok (.aload_n 0, 1) := by decide +kernel
theorem dX12_attribute_8 : decode cX12_attribute 8 = .ok (.getfield 27, 3) := by decide +kernel
theorem dX12_attribute_11 : decode cX12_attribute 11 = .ok (.aload_n 0, 1) := by decide +kernel
theorem dX12_attribute_12 : decode cX12_attribute 12 = .ok (.getfield 314, 3) := by decide +kernel
theorem dX12_attribute_15 : decode cX12_attribute 15 = .ok (.iaload, 1) := by decide +kernel
theorem dX12_attribute_16 : decode cX12_attribute 16 = .ok (.iconst 1, 1) := by decide +kernel
theorem dX12_attribute_17 : decode cX12_attribute 17 = .ok (.if_icmp .ne 37, 3) := by decide +kernel
theorem dX12_attribute_20 : decode cX12_attribute 20 = .ok (.aload_n 0, 1) := by decide +kernel
theorem dX12_attribute_21 : decode cX12_attribute 21 = .ok (.getfield 34, 3) := by decide +kernel
theorem dX12_attribute_24 : decode cX12_attribute 24 = .ok (.aload_n 0, 1) := by decide +kernel
theorem dX12_attribute_25 : decode cX12_attribute 25 = .ok (.getfield 314, 3) := by decide +kernel
theorem dX12_attribute_28 : decode cX12_attribute 28 = .ok (.iaload, 1) := by decide +kernel
theorem dX12_attribute_29 : decode cX12_attribute 29 = .ok (.bipush 51, 2) := by decide +kernel
theorem dX12_attribute_31 : decode cX12_attribute 31 = .ok (.if_icmp .lt 23, 3) := by decide +kernel
theorem dX12_attribute_34 : decode cX12_attribute 34 = .ok (.aload_n 0, 1) := by decide +kernel
theorem dX12_attribute_35 : decode cX12_attribute 35 = .ok (.getfield 34, 3) := by decide +kernel
theorem dX12_attribute_38 : decode cX12_attribute 38 = .ok (.aload_n 0, 1) := by decide +kernel
theorem dX12_attribute_39 : decode cX12_attribute 39 = .ok (.dup, 1) := by decide +kernel
theorem dX12_attribute_40 : decode cX12_attribute 40 = .ok (.getfield 314, 3) := by decide +kernel
theorem dX12_attribute_43 : decode cX12_attribute 43 = .ok (.dup_x1, 1) := by decide +kernel
theorem dX12_attribute_44 : decode cX12_attribute 44 = .ok (.iconst 1, 1) := by decide +kernel
theorem dX12_attribute_45 : decode cX12_attribute 45 = .ok (.iadd, 1) := by decide +kernel
theorem dX12_attribute_46 : decode cX12_attribute 46 = .ok (.putfield 314, 3) := by decide +kernel
theorem dX12_attribute_49 : decode cX12_attribute 49 = .ok (.iaload, 1) := by decide +kernel
theorem dX12_attribute_50 : decode cX12_attribute 50 = .ok (.bipush 51, 2) := by decide +kernel
theorem dX12_attribute_52 : decode cX12_attribute 52 = .ok (.isub, 1) := by decide +kernel
theorem dX12_attribute_53 : decode cX12_attribute 53 = .ok (.ireturn, 1) := by decide +kernel
theorem dX12_attribute_54 : decode cX12_attribute 54 = .ok (.aload_n 0, 1) := by decide +kernel
theorem dX12_attribute_55 : decode cX12_attribute 55 = .ok (.invokevirtual 330, 3) := by decide +kernel
theorem dX12_attribute_58 : decode cX12_attribute 58 = .ok (.iconst 0, 1) := by decide +kernel
theorem dX12_attribute_59 : decode cX12_attribute 59 = .ok (.ireturn, 1) := by decide +kernel
def F_X12_attribute  (σ : MS) : MR :=
  bnd (fun  (σ_1 : MS) => (
    (F_X12_unfit σ_1).bind fun u_5 =>
    some (0, u_5.2)
  ) : MS → MR) fun j_2 =>
  if (σ.1 27) = 0 then (
    bnd ((σ.1 25)) fun (x_9 : Int32) =>
    if x_9 < 0 ∨ 16010 ≤ x_9.toNatClampNeg then none else
    if (σ.2 7 x_9.toNatClampNeg) = 1 then (
      bnd ((σ.1 25)) fun (x_15 : Int32) =>
      if x_15 < 0 ∨ 16010 ≤ x_15.toNatClampNeg then none else
      if (σ.2 9 x_15.toNatClampNeg) < 51 then (
        j_2  σ
      ) else (
        bnd (mI σ 25 ((σ.1 25) + 1)) fun σ_22 =>
        bnd ((σ.1 25)) fun (x_24 : Int32) =>
        if x_24 < 0 ∨ 16010 ≤ x_24.toNatClampNeg then none else
        some (((σ_22.2 9 x_24.toNatClampNeg) - 51), σ_22)
      )
    ) else (
      j_2  σ
    )
  ) else (
    j_2  σ
  )
set_option maxHeartbeats 4000000 in
set_option maxRecDepth 100000 in
theorem m_X12_attribute (l : Launch) (dC : Nat → ClassId) (dI : Nat → Nat → Nat) (cB cC cI cJ cZ cP : ClassId) (h qK qS : Nat) (ad : Nat → Nat) (hDD : mDis cB cI cZ h qK qS ad) (sz : Nat)   (σ : MS) (res : Int32 × MS) (hF : F_X12_attribute  σ = some res) : Met l yX12_attribute (g_ws yX12_attribute cX12_attribute 1 (some .int)) ({ frames := 3, cells := 0, slots := 0, locals := 82 }) (va_Pc [.ref h] (m_B (dC, dI) [(cB, .byte), (cC, .char), (cI, .int), (cJ, .long), (cZ, .boolean), (cP, .object "StoryHouse$Play")] sz h ad qK qS (mW cB cI cZ h qK qS ad σ) g_0)) (va_Qi (fun r (_ : Unit) => r = res.1) (fun _ t => va_P (dC, dI) vwCl (mW cB cI cZ h qK qS ad res.2) t.heap) (mCells h ad sz)) 0 0 (mCells h ad sz) := by
  refine Met.ofW (cc := cX12_attribute) (maxL := 1) (ret := (some .int)) (by decide) rfl ?_
  intro p e s m args below meth c s₁ B hml hv
  obtain ⟨rfl, hsz, hP, hK, hE, hKS, hX⟩ := hv
  have hx := B.exec
  have hb := B.bytes
  have hr := B.returns
  have hts0 := atoms_spec (ws := g_ws yX12_attribute cX12_attribute 1 (some .int)) B.pre
  have hts : ∀ w ∈ lw_good, w.before ([.ref h] : List Value).toArray s = true := fun w z => hts0 w (List.mem_cons_of_mem _ z)
  have hown : s.vm.findClass RX12 = some m.cls := findClass_of_methodNamed B.named
  have hlocks := B.notSynchronized
  have hS : va_S (mCells h ad sz) s.heap s.heap [] := va_S.rf
  have hl := lv_entry ([.ref h]) (n := 1) (Nat.le_of_ble_eq_true rfl)
  rw [lg_entry_eq]
  generalize (lg_sl ([.ref h]) ++ List.replicate (1 - (lg_sl ([.ref h])).length) Slot.unset).toArray = ls at hl ⊢
  have hl : lv_has ls 1 [(0, .ref h)] := hl
  unfold F_X12_attribute at hF
  refine lv_aload_n hx hb dX12_attribute_0 rfl (lv_at hl 0 rfl) ?_
  refine va_get (D := (dC, dI)) (ci := 12) (v := .int (σ.1 27)) (C := RX12) (T := TX12) (N := 123) hx hb hts ii_X12 hown hK hP 0 rfl rfl 27 (by decide) (hts (.fieldLink RX12 304 "StoryHouseModel" "stopped" "Z") wq_1383) (fun _ h9 => h9) rfl dX12_attribute_1 ?_
  obtain ⟨j_2, ej_2, hF_3⟩ := bnd_e hF
  clear hF
  have Jj_2 : ∀  (σ_1 : MS), j_2  σ_1 = some res → ∀ (H : Heap) (locs : List Loc), va_P (dC, dI) vwCl (mW cB cI cZ h qK qS ad σ_1) H → va_S (mCells h ad sz) s.heap H locs → ∀ ls : Array Slot, lv_has ls 1 [(0, .ref h)] → W p l e (headSpec (g_ws yX12_attribute cX12_attribute 1 (some .int)) { frames := 3, cells := 0, slots := 0, locals := 82 }).room s m ([.ref h] : List Value).toArray below meth c H locs 0 0 (MQ below (va_Qi (fun r (_ : Unit) => r = res.1) (fun _ t => va_P (dC, dI) vwCl (mW cB cI cZ h qK qS ad res.2) t.heap) (mCells h ad sz)) ([.ref h] : List Value).toArray s 0 0 (mCells h ad sz)) (F0 m 54 ls []) := by
    intro  σ_1 hF0 H locs hP hS ls hl
    subst ej_2
    have hF_4 := hF0
    clear hF0
    refine lv_aload_n hx hb dX12_attribute_54 rfl (lv_at hl 0 rfl) ?_
    obtain ⟨u_5, hu_5, hF_6⟩ := Option.bind_eq_some_iff.mp hF_4
    clear hF_4
    refine m_cv hsz hS (va_runV (As := []) (rest := []) ⟨hx, hb, hml, hown, hts⟩ (m_X12_unfit l dC dI cB cC cI cJ cZ cP h qK qS ad hDD H.size  σ_1 _ hu_5) (cwV 0 hts (g_gV wq_1549 wq_1550 wq_2129 wq_13 wq_1551) rfl rfl rfl (by decide +kernel) ⟨Nat.le_of_ble_eq_true rfl, Nat.le_of_ble_eq_true rfl⟩) (m_preV g_bl0 hsz hK hP hS hE hKS g_to0) rfl rfl hl.1 rfl (lv_room (Nat.le_of_ble_eq_true rfl)) dX12_attribute_55 ⟨Nat.le_of_ble_eq_true rfl, Nat.le_of_ble_eq_true rfl⟩) (fun H locs hP hS => ?_)
    refine lv_iconst (v := 0) hx hb dX12_attribute_58 (by decide +kernel) ?_
    have h9 := Option.some.inj hF_6
    subst h9
    exact W.iret (v := 0) hx hb hr (fun t ht hW => ⟨⟨0, (), rfl, rfl, m_end ht hP⟩, hS.F ht⟩) hS.2.2 dX12_attribute_59
  refine lv_if_ne (tgt := 54) hx hb dX12_attribute_4 (by decide) (fun c_7 => ?_) (fun c_7 => ?_)
  · have hF_29 := ineg c_7 hF_3
    clear hF_3
    exact Jj_2  σ hF_29 _ _ hP hS ls (lv_sub hl [0] rfl)
  · have hF_8 := ipos c_7 hF_3
    clear hF_3
    refine lv_aload_n hx hb dX12_attribute_7 rfl (lv_at hl 0 rfl) ?_
    refine va_get (D := (dC, dI)) (ci := 12) (v := .ref (ad 7)) (C := RX12) (T := TX12) (N := 123) hx hb hts ii_X12 hown hK hP 0 rfl rfl 7 (by decide) (hts (.fieldLink RX12 27 "StoryHouseModel" "tokKind" "[I") wq_1363) (fun _ h9 => h9) rfl dX12_attribute_8 ?_
    refine lv_aload_n hx hb dX12_attribute_11 rfl (lv_at hl 0 rfl) ?_
    refine va_get (D := (dC, dI)) (ci := 12) (v := .int (σ.1 25)) (C := RX12) (T := TX12) (N := 123) hx hb hts ii_X12 hown hK hP 0 rfl rfl 25 (by decide) (hts (.fieldLink RX12 314 "StoryHouseModel" "at" "I") wq_1381) (fun _ h9 => h9) rfl dX12_attribute_12 ?_
    obtain ⟨x_9, ex_9, hF_10⟩ := bnd_e hF_8
    clear hF_8
    refine m_top ex_9 ?_
    obtain ⟨g_11, hF_12⟩ := nif_e hF_10
    clear hF_10
    refine va_iald (f := σ.2 7) hx hb hK hP 3 2 rfl rfl g_11 dX12_attribute_15 ?_
    refine lv_iconst (v := 1) hx hb dX12_attribute_16 (by decide +kernel) ?_
    refine lv_icmp_ne (tgt := 54) hx hb dX12_attribute_17 (by decide) (fun c_13 => ?_) (fun c_13 => ?_)
    · have hF_28 := ineg c_13 hF_12
      clear hF_12
      exact Jj_2  σ hF_28 _ _ hP hS ls (lv_sub hl [0] rfl)
    · have hF_14 := ipos c_13 hF_12
      clear hF_12
      refine lv_aload_n hx hb dX12_attribute_20 rfl (lv_at hl 0 rfl) ?_
      refine va_get (D := (dC, dI)) (ci := 12) (v := .ref (ad 9)) (C := RX12) (T := TX12) (N := 123) hx hb hts ii_X12 hown hK hP 0 rfl rfl 9 (by decide) (hts (.fieldLink RX12 34 "StoryHouseModel" "tokValue" "[I") wq_1365) (fun _ h9 => h9) rfl dX12_attribute_21 ?_
      refine lv_aload_n hx hb dX12_attribute_24 rfl (lv_at hl 0 rfl) ?_
      refine va_get (D := (dC, dI)) (ci := 12) (v := .int (σ.1 25)) (C := RX12) (T := TX12) (N := 123) hx hb hts ii_X12 hown hK hP 0 rfl rfl 25 (by decide) (hts (.fieldLink RX12 314 "StoryHouseModel" "at" "I") wq_1381) (fun _ h9 => h9) rfl dX12_attribute_25 ?_
      obtain ⟨x_15, ex_15, hF_16⟩ := bnd_e hF_14
      clear hF_14
      refine m_top ex_15 ?_
      obtain ⟨g_17, hF_18⟩ := nif_e hF_16
      clear hF_16
      refine va_iald (f := σ.2 9) hx hb hK hP 5 2 rfl rfl g_17 dX12_attribute_28 ?_
      refine lv_bipush (v := 51) hx hb dX12_attribute_29 (by decide +kernel) ?_
      refine lv_icmp_lt (tgt := 54) hx hb dX12_attribute_31 (by decide) (fun c_19 => ?_) (fun c_19 => ?_)
      · have hF_20 := ipos c_19 hF_18
        clear hF_18
        exact Jj_2  σ hF_20 _ _ hP hS ls (lv_sub hl [0] rfl)
      · have hF_21 := ineg c_19 hF_18
        clear hF_18
        refine lv_aload_n hx hb dX12_attribute_34 rfl (lv_at hl 0 rfl) ?_
        refine va_get (D := (dC, dI)) (ci := 12) (v := .ref (ad 9)) (C := RX12) (T := TX12) (N := 123) hx hb hts ii_X12 hown hK hP 0 rfl rfl 9 (by decide) (hts (.fieldLink RX12 34 "StoryHouseModel" "tokValue" "[I") wq_1365) (fun _ h9 => h9) rfl dX12_attribute_35 ?_
        refine lv_aload_n hx hb dX12_attribute_38 rfl (lv_at hl 0 rfl) ?_
        refine lv_dup hx hb dX12_attribute_39 rfl ?_
        refine va_get (D := (dC, dI)) (ci := 12) (v := .int (σ.1 25)) (C := RX12) (T := TX12) (N := 123) hx hb hts ii_X12 hown hK hP 0 rfl rfl 25 (by decide) (hts (.fieldLink RX12 314 "StoryHouseModel" "at" "I") wq_1381) (fun _ h9 => h9) rfl dX12_attribute_40 ?_
        refine lv_dup_x1 hx hb dX12_attribute_43 rfl rfl ?_
        refine lv_iconst (v := 1) hx hb dX12_attribute_44 (by decide +kernel) ?_
        refine lv_iadd hx hb dX12_attribute_45 ?_
        obtain ⟨σ_22, eσ_22, hF_23⟩ := bnd_e hF_21
        clear hF_21
        refine m_put (σ' := σ_22) (v := .int ((σ.1 25) + 1)) (ty := .int) hx hb hts hown hK hP (hDD _ _) hS (by rw [eσ_22]; exact mwI_25) (k := 25) (by decide) (hts (.fieldLink RX12 314 "StoryHouseModel" "at" "I") wq_1381) (fun _ h9 => h9) rfl (by decide +kernel) rfl rfl dX12_attribute_46 (fun H locs hP hS => ?_)
        obtain ⟨x_24, ex_24, hF_25⟩ := bnd_e hF_23
        clear hF_23
        refine m_top ex_24 ?_
        obtain ⟨g_26, hF_27⟩ := nif_e hF_25
        clear hF_25
        refine va_iald (f := σ_22.2 9) hx hb hK hP 5 2 rfl rfl g_26 dX12_attribute_49 ?_
        refine lv_bipush (v := 51) hx hb dX12_attribute_50 (by decide +kernel) ?_
        refine lv_isub hx hb dX12_attribute_52 ?_
        have h9 := Option.some.inj hF_27
        subst h9
        exact W.iret (v := ((σ_22.2 9 x_24.toNatClampNeg) - 51)) hx hb hr (fun t ht hW => ⟨⟨((σ_22.2 9 x_24.toNatClampNeg) - 51), (), rfl, rfl, m_end ht hP⟩, hS.F ht⟩) hS.2.2 dX12_attribute_53
theorem dX12_two_0 : decode cX12_two 0 = .ok (.aload_n 0, 1) := by decide +kernel
theorem dX12_two_1 : decode cX12_two 1 = .ok (.iload_n 1, 1) := by decide +kernel
theorem dX12_two_2 : decode cX12_two 2 = .ok (.iload_n 2, 1) := by decide +kernel
theorem dX12_two_3 : decode cX12_two 3 = .ok (.invokevirtual 346, 3) := by decide +kernel
theorem dX12_two_6 : decode cX12_two 6 = .ok (.istore 6, 2) := by decide +kernel
theorem dX12_two_8 : decode cX12_two 8 = .ok (.aload_n 0, 1) := by decide +kernel
theorem dX12_two_9 : decode cX12_two 9 = .ok (.getfield 55, 3) := by decide +kernel
theorem dX12_two_12 : decode cX12_two 12 = .ok (.iload 6, 2) := by decide +kernel
theorem dX12_two_14 : decode cX12_two 14 = .ok (.iload_n 3, 1) := by decide +kernel
theorem dX12_two_15 : decode cX12_two 15 = .ok (.iastore, 1) := by decide +kernel
theorem dX12_two_16 : decode cX12_two 16 = .ok (.aload_n 0, 1) := by decide +kernel
theorem dX12_two_17 : decode cX12_two 17 = .ok (.getfield 58, 3) := by decide +kernel
theorem dX12_two_20 : decode cX12_two 20 = .ok (.iload 6, 2) := by decide +kernel
theorem dX12_two_22 : decode cX12_two 22 = .ok (.iload 4, 2) := by decide +kernel
theorem dX12_two_24 : decode cX12_two 24 = .ok (.iastore, 1) := by decide +kernel
theorem dX12_two_25 : decode cX12_two 25 = .ok (.aload_n 0, 1) := by decide +kernel
theorem dX12_two_26 : decode cX12_two 26 = .ok (.getfield 61, 3) := by decide +kernel
theorem dX12_two_29 : decode cX12_two 29 = .ok (.iload 6, 2) := by decide +kernel
theorem dX12_two_31 : decode cX12_two 31 = .ok (.iload 5, 2) := by decide +kernel
theorem dX12_two_33 : decode cX12_two 33 = .ok (.iastore, 1) := by decide +kernel
theorem dX12_two_34 : decode cX12_two 34 = .ok (.iload 6, 2) := by decide +kernel
theorem dX12_two_36 : decode cX12_two 36 = .ok (.ireturn, 1) := by decide +kernel
def F_X12_two (p0 : Int32) (p1 : Int32) (p2 : Int32) (p3 : Int32) (p4 : Int32) (σ : MS) : MR :=
  (F_X12_node p0 p1 σ).bind fun u_1 =>
  if u_1.1 < 0 ∨ 40000 ≤ u_1.1.toNatClampNeg then none else
  bnd (mA u_1.2 19 (upd (u_1.2.2 19) u_1.1.toNatClampNeg p2)) fun σ_5 =>
  if u_1.1 < 0 ∨ 40000 ≤ u_1.1.toNatClampNeg then none else
  bnd (mA σ_5 20 (upd (σ_5.2 20) u_1.1.toNatClampNeg p3)) fun σ_9 =>
  if u_1.1 < 0 ∨ 40000 ≤ u_1.1.toNatClampNeg then none else
  bnd (mA σ_9 21 (upd (σ_9.2 21) u_1.1.toNatClampNeg p4)) fun σ_13 =>
  some (u_1.1, σ_13)
set_option maxHeartbeats 4000000 in
set_option maxRecDepth 100000 in
theorem m_X12_two (l : Launch) (dC : Nat → ClassId) (dI : Nat → Nat → Nat) (cB cC cI cJ cZ cP : ClassId) (h qK qS : Nat) (ad : Nat → Nat) (hDD : mDis cB cI cZ h qK qS ad) (sz : Nat)  (p0 : Int32) (p1 : Int32) (p2 : Int32) (p3 : Int32) (p4 : Int32) (σ : MS) (res : Int32 × MS) (hF : F_X12_two p0 p1 p2 p3 p4 σ = some res) : Met l yX12_two (g_ws yX12_two cX12_two 7 (some .int)) ({ frames := 2, cells := 0, slots := 0, locals := 62 }) (va_Pc [.ref h, .int p0, .int p1, .int p2, .int p3, .int p4] (m_B (dC, dI) [(cB, .byte), (cC, .char), (cI, .int), (cJ, .long), (cZ, .boolean), (cP, .object "StoryHouse$Play")] sz h ad qK qS (mW cB cI cZ h qK qS ad σ) g_0)) (va_Qi (fun r (_ : Unit) => r = res.1) (fun _ t => va_P (dC, dI) vwCl (mW cB cI cZ h qK qS ad res.2) t.heap) (mCells h ad sz)) 0 0 (mCells h ad sz) := by
  refine Met.ofW (cc := cX12_two) (maxL := 7) (ret := (some .int)) (by decide) rfl ?_
  intro p e s m args below meth c s₁ B hml hv
  obtain ⟨rfl, hsz, hP, hK, hE, hKS, hX⟩ := hv
  have hx := B.exec
  have hb := B.bytes
  have hr := B.returns
  have hts0 := atoms_spec (ws := g_ws yX12_two cX12_two 7 (some .int)) B.pre
  have hts : ∀ w ∈ lw_good, w.before ([.ref h, .int p0, .int p1, .int p2, .int p3, .int p4] : List Value).toArray s = true := fun w z => hts0 w (List.mem_cons_of_mem _ z)
  have hown : s.vm.findClass RX12 = some m.cls := findClass_of_methodNamed B.named
  have hlocks := B.notSynchronized
  have hS : va_S (mCells h ad sz) s.heap s.heap [] := va_S.rf
  have hl := lv_entry ([.ref h, .int p0, .int p1, .int p2, .int p3, .int p4]) (n := 7) (Nat.le_of_ble_eq_true rfl)
  rw [lg_entry_eq]
  generalize (lg_sl ([.ref h, .int p0, .int p1, .int p2, .int p3, .int p4]) ++ List.replicate (7 - (lg_sl ([.ref h, .int p0, .int p1, .int p2, .int p3, .int p4])).length) Slot.unset).toArray = ls at hl ⊢
  have hl : lv_has ls 7 [(0, .ref h), (1, .int p0), (2, .int p1), (3, .int p2), (4, .int p3), (5, .int p4)] := hl
  unfold F_X12_two at hF
  refine lv_aload_n hx hb dX12_two_0 rfl (lv_at hl 0 rfl) ?_
  refine lv_iload_n hx hb dX12_two_1 rfl (lv_at hl 1 rfl) ?_
  refine lv_iload_n hx hb dX12_two_2 rfl (lv_at hl 2 rfl) ?_
  obtain ⟨u_1, hu_1, hF_2⟩ := Option.bind_eq_some_iff.mp hF
  clear hF
  refine m_ci hsz hS (va_runV (As := [.int p0, .int p1]) (rest := []) ⟨hx, hb, hml, hown, hts⟩ (m_X12_node l dC dI cB cC cI cJ cZ cP h qK qS ad hDD s.heap.size  p0 p1 σ _ hu_1) (cwV 2 hts (g_gV wq_1540 wq_1541 wq_2126 wq_13 wq_1542) rfl rfl rfl (by decide +kernel) ⟨Nat.le_of_ble_eq_true rfl, Nat.le_of_ble_eq_true rfl⟩) (m_preV g_bl0 hsz hK hP hS hE hKS g_to0) rfl rfl hl.1 rfl (lv_room (Nat.le_of_ble_eq_true rfl)) dX12_two_3 ⟨Nat.le_of_ble_eq_true rfl, Nat.le_of_ble_eq_true rfl⟩) (fun H locs hP hS => ?_)
  refine lv_istore (lv' := [(6, .int u_1.1), (0, .ref h), (1, .int p0), (2, .int p1), (3, .int p2), (4, .int p3), (5, .int p4)]) hx hb dX12_two_6 hl (by decide) rfl (fun ls hl => ?_)
  refine lv_aload_n hx hb dX12_two_8 rfl (lv_at hl 1 rfl) ?_
  refine va_get (D := (dC, dI)) (ci := 12) (v := .ref (ad 19)) (C := RX12) (T := TX12) (N := 123) hx hb hts ii_X12 hown hK hP 0 rfl rfl 19 (by decide) (hts (.fieldLink RX12 55 "StoryHouseModel" "a" "[I") wq_1375) (fun _ h9 => h9) rfl dX12_two_9 ?_
  refine lv_iload hx hb dX12_two_12 (lv_at hl 0 rfl) ?_
  refine lv_iload_n hx hb dX12_two_14 rfl (lv_at hl 4 rfl) ?_
  obtain ⟨g_3, hF_4⟩ := nif_e hF_2
  clear hF_2
  obtain ⟨σ_5, eσ_5, hF_6⟩ := bnd_e hF_4
  clear hF_4
  refine m_iast (σ' := σ_5) hx hb hK hP (hDD _ _) hS (q0 := 10) (t0 := 2) (f := u_1.2.2 19) rfl rfl (by rw [eσ_5]; exact mwA_19) g_3 dX12_two_15 (fun H locs hP hS => ?_)
  refine lv_aload_n hx hb dX12_two_16 rfl (lv_at hl 1 rfl) ?_
  refine va_get (D := (dC, dI)) (ci := 12) (v := .ref (ad 20)) (C := RX12) (T := TX12) (N := 123) hx hb hts ii_X12 hown hK hP 0 rfl rfl 20 (by decide) (hts (.fieldLink RX12 58 "StoryHouseModel" "b" "[I") wq_1376) (fun _ h9 => h9) rfl dX12_two_17 ?_
  refine lv_iload hx hb dX12_two_20 (lv_at hl 0 rfl) ?_
  refine lv_iload hx hb dX12_two_22 (lv_at hl 5 rfl) ?_
  obtain ⟨g_7, hF_8⟩ := nif_e hF_6
  clear hF_6
  obtain ⟨σ_9, eσ_9, hF_10⟩ := bnd_e hF_8
  clear hF_8
  refine m_iast (σ' := σ_9) hx hb hK hP (hDD _ _) hS (q0 := 11) (t0 := 2) (f := σ_5.2 20) rfl rfl (by rw [eσ_9]; exact mwA_20) g_7 dX12_two_24 (fun H locs hP hS => ?_)
  refine lv_aload_n hx hb dX12_two_25 rfl (lv_at hl 1 rfl) ?_
  refine va_get (D := (dC, dI)) (ci := 12) (v := .ref (ad 21)) (C := RX12) (T := TX12) (N := 123) hx hb hts ii_X12 hown hK hP 0 rfl rfl 21 (by decide) (hts (.fieldLink RX12 61 "StoryHouseModel" "d" "[I") wq_1377) (fun _ h9 => h9) rfl dX12_two_26 ?_
  refine lv_iload hx hb dX12_two_29 (lv_at hl 0 rfl) ?_
  refine lv_iload hx hb dX12_two_31 (lv_at hl 6 rfl) ?_
  obtain ⟨g_11, hF_12⟩ := nif_e hF_10
  clear hF_10
  obtain ⟨σ_13, eσ_13, hF_14⟩ := bnd_e hF_12
  clear hF_12
  refine m_iast (σ' := σ_13) hx hb hK hP (hDD _ _) hS (q0 := 12) (t0 := 2) (f := σ_9.2 21) rfl rfl (by rw [eσ_13]; exact mwA_21) g_11 dX12_two_33 (fun H locs hP hS => ?_)
  refine lv_iload hx hb dX12_two_34 (lv_at hl 0 rfl) ?_
  have h9 := Option.some.inj hF_14
  subst h9
  exact W.iret (v := u_1.1) hx hb hr (fun t ht hW => ⟨⟨u_1.1, (), rfl, rfl, m_end ht hP⟩, hS.F ht⟩) hS.2.2 dX12_two_36
