/-! methods of the reference: what each does is its function -/
theorem dX12_named_0 : decode cX12_named 0 = .ok (.aload_n 0, 1) := by decide +kernel
theorem dX12_named_1 : decode cX12_named 1 = .ok (.getfield 55, 3) := by decide +kernel
theorem dX12_named_4 : decode cX12_named 4 = .ok (.iload_n 1, 1) := by decide +kernel
theorem dX12_named_5 : decode cX12_named 5 = .ok (.aload_n 0, 1) := by decide +kernel
theorem dX12_named_6 : decode cX12_named 6 = .ok (.invokevirtual 365, 3) := by decide +kernel
theorem dX12_named_9 : decode cX12_named 9 = .ok (.iastore, 1) := by decide +kernel
theorem dX12_named_10 : decode cX12_named 10 = .ok (.aload_n 0, 1) := by decide +kernel
theorem dX12_named_11 : decode cX12_named 11 = .ok (.bipush 61, 2) := by decide +kernel
theorem dX12_named_13 : decode cX12_named 13 = .ok (.invokevirtual 327, 3) := by decide +kernel
theorem dX12_named_16 : decode cX12_named 16 = .ok (.ifCond .eq 24, 3) := by decide +kernel
theorem dX12_named_19 : decode cX12_named 19 = .ok (.aload_n 0, 1) := by decide +kernel
theorem dX12_named_20 : decode cX12_named 20 = .ok (.getfield 49, 3) := by decide +kernel
theorem dX12_named_23 : decode cX12_named 23 = .ok (.iload_n 1, 1) := by decide +kernel
theorem dX12_named_24 : decode cX12_named 24 = .ok (.bipush 22, 2) := by decide +kernel
theorem dX12_named_26 : decode cX12_named 26 = .ok (.iastore, 1) := by decide +kernel
theorem dX12_named_27 : decode cX12_named 27 = .ok (.aload_n 0, 1) := by decide +kernel
theorem dX12_named_28 : decode cX12_named 28 = .ok (.getfield 58, 3) := by decide +kernel
theorem dX12_named_31 : decode cX12_named 31 = .ok (.iload_n 1, 1) := by decide +kernel
theorem dX12_named_32 : decode cX12_named 32 = .ok (.aload_n 0, 1) := by decide +kernel
theorem dX12_named_33 : decode cX12_named 33 = .ok (.invokevirtual 402, 3) := by decide +kernel
theorem dX12_named_36 : decode cX12_named 36 = .ok (.iastore, 1) := by decide +kernel
theorem dX12_named_37 : decode cX12_named 37 = .ok (.goto 79, 3) := by decide +kernel
theorem dX12_named_40 : decode cX12_named 40 = .ok (.aload_n 0, 1) := by decide +kernel
theorem dX12_named_41 : decode cX12_named 41 = .ok (.bipush 91, 2) := by decide +kernel
theorem dX12_named_43 : decode cX12_named 43 = .ok (.invokevirtual 321, 3) := by decide +kernel
theorem dX12_named_46 : decode cX12_named 46 = .ok (.ifCond .eq 52, 3) := by decide +kernel
theorem dX12_named_49 : decode cX12_named 49 = .ok (.aload_n 0, 1) := by decide +kernel
theorem dX12_named_50 : decode cX12_named 50 = .ok (.getfield 49, 3) := by decide +kernel
theorem dX12_named_53 : decode cX12_named 53 = .ok (.iload_n 1, 1) := by decide +kernel
theorem dX12_named_54 : decode cX12_named 54 = .ok (.bipush 23, 2) := by decide +kernel
theorem dX12_named_56 : decode cX12_named 56 = .ok (.iastore, 1) := by decide +kernel
theorem dX12_named_57 : decode cX12_named 57 = .ok (.aload_n 0, 1) := by decide +kernel
theorem dX12_named_58 : decode cX12_named 58 = .ok (.bipush 91, 2) := by decide +kernel
theorem dX12_named_60 : decode cX12_named 60 = .ok (.invokevirtual 368, 3) := by decide +kernel
theorem dX12_named_63 : decode cX12_named 63 = .ok (.aload_n 0, 1) := by decide +kernel
theorem dX12_named_64 : decode cX12_named 64 = .ok (.getfield 58, 3) := by decide +kernel
theorem dX12_named_67 : decode cX12_named 67 = .ok (.iload_n 1, 1) := by decide +kernel
theorem dX12_named_68 : decode cX12_named 68 = .ok (.aload_n 0, 1) := by decide +kernel
theorem dX12_named_69 : decode cX12_named 69 = .ok (.invokevirtual 402, 3) := by decide +kernel
theorem dX12_named_72 : decode cX12_named 72 = .ok (.iastore, 1) := by decide +kernel
theorem dX12_named_73 : decode cX12_named 73 = .ok (.aload_n 0, 1) := by decide +kernel
theorem dX12_named_74 : decode cX12_named 74 = .ok (.bipush 93, 2) := by decide +kernel
theorem dX12_named_76 : decode cX12_named 76 = .ok (.invokevirtual 371, 3) := by decide +kernel
theorem dX12_named_79 : decode cX12_named 79 = .ok (.aload_n 0, 1) := by decide +kernel
theorem dX12_named_80 : decode cX12_named 80 = .ok (.bipush 61, 2) := by decide +kernel
theorem dX12_named_82 : decode cX12_named 82 = .ok (.invokevirtual 342, 3) := by decide +kernel
theorem dX12_named_85 : decode cX12_named 85 = .ok (.aload_n 0, 1) := by decide +kernel
theorem dX12_named_86 : decode cX12_named 86 = .ok (.getfield 61, 3) := by decide +kernel
theorem dX12_named_89 : decode cX12_named 89 = .ok (.iload_n 1, 1) := by decide +kernel
theorem dX12_named_90 : decode cX12_named 90 = .ok (.aload_n 0, 1) := by decide +kernel
theorem dX12_named_91 : decode cX12_named 91 = .ok (.invokevirtual 402, 3) := by decide +kernel
theorem dX12_named_94 : decode cX12_named 94 = .ok (.iastore, 1) := by decide +kernel
theorem dX12_named_95 : decode cX12_named 95 = .ok (.goto 21, 3) := by decide +kernel
theorem dX12_named_98 : decode cX12_named 98 = .ok (.aload_n 0, 1) := by decide +kernel
theorem dX12_named_99 : decode cX12_named 99 = .ok (.getfield 49, 3) := by decide +kernel
theorem dX12_named_102 : decode cX12_named 102 = .ok (.iload_n 1, 1) := by decide +kernel
theorem dX12_named_103 : decode cX12_named 103 = .ok (.bipush 33, 2) := by decide +kernel
theorem dX12_named_105 : decode cX12_named 105 = .ok (.iastore, 1) := by decide +kernel
theorem dX12_named_106 : decode cX12_named 106 = .ok (.aload_n 0, 1) := by decide +kernel
theorem dX12_named_107 : decode cX12_named 107 = .ok (.getfield 58, 3) := by decide +kernel
theorem dX12_named_110 : decode cX12_named 110 = .ok (.iload_n 1, 1) := by decide +kernel
theorem dX12_named_111 : decode cX12_named 111 = .ok (.aload_n 0, 1) := by decide +kernel
theorem dX12_named_112 : decode cX12_named 112 = .ok (.invokevirtual 414, 3) := by decide +kernel
theorem dX12_named_115 : decode cX12_named 115 = .ok (.iastore, 1) := by decide +kernel
theorem dX12_named_116 : decode cX12_named 116 = .ok (.return_, 1) := by decide +kernel
def F_X12_named (p0 : Int32) (σ : MS) : MR :=
  (F_X12_name σ).bind fun u_1 =>
  if p0 < 0 ∨ 40000 ≤ p0.toNatClampNeg then none else
  bnd (mA u_1.2 19 (upd (u_1.2.2 19) p0.toNatClampNeg u_1.1)) fun σ_5 =>
  (F_X12_took 61 σ_5).bind fun u_7 =>
  if u_7.1 = 0 then (
    (F_X12_isSign 91 u_7.2).bind fun u_11 =>
    if u_11.1 = 0 then (
      if p0 < 0 ∨ 40000 ≤ p0.toNatClampNeg then none else
      bnd (mA u_11.2 17 (upd (u_11.2.2 17) p0.toNatClampNeg 33)) fun σ_17 =>
      (G_X12_arguments σ_17).bind fun u_19 =>
      if p0 < 0 ∨ 40000 ≤ p0.toNatClampNeg then none else
      bnd (mA u_19.2 20 (upd (u_19.2.2 20) p0.toNatClampNeg u_19.1)) fun σ_23 =>
      some (0, σ_23)
    ) else (
      if p0 < 0 ∨ 40000 ≤ p0.toNatClampNeg then none else
      bnd (mA u_11.2 17 (upd (u_11.2.2 17) p0.toNatClampNeg 23)) fun σ_28 =>
      (F_X12_open 91 σ_28).bind fun u_30 =>
      (G_X12_expression u_30.2).bind fun u_32 =>
      if p0 < 0 ∨ 40000 ≤ p0.toNatClampNeg then none else
      bnd (mA u_32.2 20 (upd (u_32.2.2 20) p0.toNatClampNeg u_32.1)) fun σ_36 =>
      (F_X12_shut 93 σ_36).bind fun u_38 =>
      (F_X12_need 61 u_38.2).bind fun u_40 =>
      (G_X12_expression u_40.2).bind fun u_42 =>
      if p0 < 0 ∨ 40000 ≤ p0.toNatClampNeg then none else
      bnd (mA u_42.2 21 (upd (u_42.2.2 21) p0.toNatClampNeg u_42.1)) fun σ_46 =>
      some (0, σ_46)
    )
  ) else (
    if p0 < 0 ∨ 40000 ≤ p0.toNatClampNeg then none else
    bnd (mA u_7.2 17 (upd (u_7.2.2 17) p0.toNatClampNeg 22)) fun σ_51 =>
    (G_X12_expression σ_51).bind fun u_53 =>
    if p0 < 0 ∨ 40000 ≤ p0.toNatClampNeg then none else
    bnd (mA u_53.2 20 (upd (u_53.2.2 20) p0.toNatClampNeg u_53.1)) fun σ_57 =>
    some (0, σ_57)
  )
set_option maxHeartbeats 4000000 in
set_option maxRecDepth 100000 in
theorem m_X12_named (l : Launch) (dC : Nat → ClassId) (dI : Nat → Nat → Nat) (cB cC cI cJ cZ cP : ClassId) (h qK qS : Nat) (ad : Nat → Nat) (hDD : mDis cB cI cZ h qK qS ad) (sz : Nat)  (p0 : Int32) (σ : MS) (res : Int32 × MS) (hF : F_X12_named p0 σ = some res) : Met l yX12_named (g_ws yX12_named cX12_named 2 none) ({ frames := 306, cells := 0, slots := 0, locals := 7047 }) (va_Pc [.ref h, .int p0] (m_B (dC, dI) [(cB, .byte), (cC, .char), (cI, .int), (cJ, .long), (cZ, .boolean), (cP, .object "StoryHouse$Play")] sz h ad qK qS (mW cB cI cZ h qK qS ad σ) g_0)) (va_Qv (fun (_ : Unit) => True) (fun _ t => va_P (dC, dI) vwCl (mW cB cI cZ h qK qS ad res.2) t.heap) (mCells h ad sz)) 0 0 (mCells h ad sz) := by
  refine Met.ofW (cc := cX12_named) (maxL := 2) (ret := none) (by decide) rfl ?_
  intro p e s m args below meth c s₁ B hml hv
  obtain ⟨rfl, hsz, hP, hK, hE, hKS, hX⟩ := hv
  have hx := B.exec
  have hb := B.bytes
  have hr := B.returns
  have hts0 := atoms_spec (ws := g_ws yX12_named cX12_named 2 none) B.pre
  have hts : ∀ w ∈ lw_good, w.before ([.ref h, .int p0] : List Value).toArray s = true := fun w z => hts0 w (List.mem_cons_of_mem _ z)
  have hown : s.vm.findClass RX12 = some m.cls := findClass_of_methodNamed B.named
  have hlocks := B.notSynchronized
  have hS : va_S (mCells h ad sz) s.heap s.heap [] := va_S.rf
  have hl := lv_entry ([.ref h, .int p0]) (n := 2) (Nat.le_of_ble_eq_true rfl)
  rw [lg_entry_eq]
  generalize (lg_sl ([.ref h, .int p0]) ++ List.replicate (2 - (lg_sl ([.ref h, .int p0])).length) Slot.unset).toArray = ls at hl ⊢
  have hl : lv_has ls 2 [(0, .ref h), (1, .int p0)] := hl
  unfold F_X12_named at hF
  refine lv_aload_n hx hb dX12_named_0 rfl (lv_at hl 0 rfl) ?_
  refine va_get (D := (dC, dI)) (ci := 12) (v := .ref (ad 19)) (C := RX12) (T := TX12) (N := 123) hx hb hts ii_X12 hown hK hP 0 rfl rfl 19 (by decide) (hts (.fieldLink RX12 55 "StoryHouseModel" "a" "[I") wq_1375) (fun _ h9 => h9) rfl dX12_named_1 ?_
  refine lv_iload_n hx hb dX12_named_4 rfl (lv_at hl 1 rfl) ?_
  refine lv_aload_n hx hb dX12_named_5 rfl (lv_at hl 0 rfl) ?_
  obtain ⟨u_1, hu_1, hF_2⟩ := Option.bind_eq_some_iff.mp hF
  clear hF
  refine m_ci hsz hS (va_runV (As := []) (rest := [.int p0, .ref (ad 19)]) ⟨hx, hb, hml, hown, hts⟩ (m_X12_name l dC dI cB cC cI cJ cZ cP h qK qS ad hDD s.heap.size  σ _ hu_1) (cwV 0 hts (g_gV wq_1543 wq_1544 wq_2127 wq_13 wq_1545) rfl rfl rfl (by decide +kernel) ⟨Nat.le_of_ble_eq_true rfl, Nat.le_of_ble_eq_true rfl⟩) (m_preV g_bl0 hsz hK hP hS hE hKS g_to0) rfl rfl hl.1 rfl (lv_room (Nat.le_of_ble_eq_true rfl)) dX12_named_6 ⟨Nat.le_of_ble_eq_true rfl, Nat.le_of_ble_eq_true rfl⟩) (fun H locs hP hS => ?_)
  obtain ⟨g_3, hF_4⟩ := nif_e hF_2
  clear hF_2
  obtain ⟨σ_5, eσ_5, hF_6⟩ := bnd_e hF_4
  clear hF_4
  refine m_iast (σ' := σ_5) hx hb hK hP (hDD _ _) hS (q0 := 10) (t0 := 2) (f := u_1.2.2 19) rfl rfl (by rw [eσ_5]; exact mwA_19) g_3 dX12_named_9 (fun H locs hP hS => ?_)
  refine lv_aload_n hx hb dX12_named_10 rfl (lv_at hl 0 rfl) ?_
  refine lv_bipush (v := 61) hx hb dX12_named_11 (by decide +kernel) ?_
  obtain ⟨u_7, hu_7, hF_8⟩ := Option.bind_eq_some_iff.mp hF_6
  clear hF_6
  refine m_ci hsz hS (va_runV (As := [.int 61]) (rest := []) ⟨hx, hb, hml, hown, hts⟩ (m_X12_took l dC dI cB cC cI cJ cZ cP h qK qS ad hDD H.size  61 σ_5 _ hu_7) (cwV 1 hts (g_gV wq_1567 wq_1568 wq_2135 wq_13 wq_1569) rfl rfl rfl (by decide +kernel) ⟨Nat.le_of_ble_eq_true rfl, Nat.le_of_ble_eq_true rfl⟩) (m_preV g_bl0 hsz hK hP hS hE hKS g_to0) rfl rfl hl.1 rfl (lv_room (Nat.le_of_ble_eq_true rfl)) dX12_named_13 ⟨Nat.le_of_ble_eq_true rfl, Nat.le_of_ble_eq_true rfl⟩) (fun H locs hP hS => ?_)
  refine lv_if_eq (tgt := 40) hx hb dX12_named_16 (by decide) (fun c_9 => ?_) (fun c_9 => ?_)
  · have hF_10 := ipos c_9 hF_8
    clear hF_8
    refine lv_aload_n hx hb dX12_named_40 rfl (lv_at hl 0 rfl) ?_
    refine lv_bipush (v := 91) hx hb dX12_named_41 (by decide +kernel) ?_
    obtain ⟨u_11, hu_11, hF_12⟩ := Option.bind_eq_some_iff.mp hF_10
    clear hF_10
    refine m_ci hsz hS (va_runV (As := [.int 91]) (rest := []) ⟨hx, hb, hml, hown, hts⟩ (m_X12_isSign l dC dI cB cC cI cJ cZ cP h qK qS ad hDD H.size  91 u_7.2 _ hu_11) (cwV 1 hts (g_gV wq_1558 wq_1559 wq_2132 wq_13 wq_1560) rfl rfl rfl (by decide +kernel) ⟨Nat.le_of_ble_eq_true rfl, Nat.le_of_ble_eq_true rfl⟩) (m_preV g_bl0 hsz hK hP hS hE hKS g_to0) rfl rfl hl.1 rfl (lv_room (Nat.le_of_ble_eq_true rfl)) dX12_named_43 ⟨Nat.le_of_ble_eq_true rfl, Nat.le_of_ble_eq_true rfl⟩) (fun H locs hP hS => ?_)
    refine lv_if_eq (tgt := 98) hx hb dX12_named_46 (by decide) (fun c_13 => ?_) (fun c_13 => ?_)
    · have hF_14 := ipos c_13 hF_12
      clear hF_12
      refine lv_aload_n hx hb dX12_named_98 rfl (lv_at hl 0 rfl) ?_
      refine va_get (D := (dC, dI)) (ci := 12) (v := .ref (ad 17)) (C := RX12) (T := TX12) (N := 123) hx hb hts ii_X12 hown hK hP 0 rfl rfl 17 (by decide) (hts (.fieldLink RX12 49 "StoryHouseModel" "what" "[I") wq_1373) (fun _ h9 => h9) rfl dX12_named_99 ?_
      refine lv_iload_n hx hb dX12_named_102 rfl (lv_at hl 1 rfl) ?_
      refine lv_bipush (v := 33) hx hb dX12_named_103 (by decide +kernel) ?_
      obtain ⟨g_15, hF_16⟩ := nif_e hF_14
      clear hF_14
      obtain ⟨σ_17, eσ_17, hF_18⟩ := bnd_e hF_16
      clear hF_16
      refine m_iast (σ' := σ_17) hx hb hK hP (hDD _ _) hS (q0 := 8) (t0 := 2) (f := u_11.2.2 17) rfl rfl (by rw [eσ_17]; exact mwA_17) g_15 dX12_named_105 (fun H locs hP hS => ?_)
      refine lv_aload_n hx hb dX12_named_106 rfl (lv_at hl 0 rfl) ?_
      refine va_get (D := (dC, dI)) (ci := 12) (v := .ref (ad 20)) (C := RX12) (T := TX12) (N := 123) hx hb hts ii_X12 hown hK hP 0 rfl rfl 20 (by decide) (hts (.fieldLink RX12 58 "StoryHouseModel" "b" "[I") wq_1376) (fun _ h9 => h9) rfl dX12_named_107 ?_
      refine lv_iload_n hx hb dX12_named_110 rfl (lv_at hl 1 rfl) ?_
      refine lv_aload_n hx hb dX12_named_111 rfl (lv_at hl 0 rfl) ?_
      obtain ⟨u_19, hu_19, hF_20⟩ := Option.bind_eq_some_iff.mp hF_18
      clear hF_18
      refine m_ci hsz hS (va_runV (As := []) (rest := [.int p0, .ref (ad 20)]) ⟨hx, hb, hml, hown, hts⟩ (m_X12_arguments l dC dI cB cC cI cJ cZ cP h qK qS ad hDD H.size  σ_17 _ hu_19) (cwV 0 hts (g_gV wq_1603 wq_1604 wq_2147 wq_13 wq_1605) rfl rfl rfl (by decide +kernel) ⟨Nat.le_of_ble_eq_true rfl, Nat.le_of_ble_eq_true rfl⟩) (m_preV g_bl0 hsz hK hP hS hE hKS g_to0) rfl rfl hl.1 rfl (lv_room (Nat.le_of_ble_eq_true rfl)) dX12_named_112 ⟨Nat.le_of_ble_eq_true rfl, Nat.le_of_ble_eq_true rfl⟩) (fun H locs hP hS => ?_)
      obtain ⟨g_21, hF_22⟩ := nif_e hF_20
      clear hF_20
      obtain ⟨σ_23, eσ_23, hF_24⟩ := bnd_e hF_22
      clear hF_22
      refine m_iast (σ' := σ_23) hx hb hK hP (hDD _ _) hS (q0 := 11) (t0 := 2) (f := u_19.2.2 20) rfl rfl (by rw [eσ_23]; exact mwA_20) g_21 dX12_named_115 (fun H locs hP hS => ?_)
      have h9 := Option.some.inj hF_24
      subst h9
      exact W.vret hx hb hr (fun t ht hW => ⟨⟨(), rfl, trivial, m_end ht hP⟩, hS.F ht⟩) hS.2.2 dX12_named_116
    · have hF_25 := ineg c_13 hF_12
      clear hF_12
      refine lv_aload_n hx hb dX12_named_49 rfl (lv_at hl 0 rfl) ?_
      refine va_get (D := (dC, dI)) (ci := 12) (v := .ref (ad 17)) (C := RX12) (T := TX12) (N := 123) hx hb hts ii_X12 hown hK hP 0 rfl rfl 17 (by decide) (hts (.fieldLink RX12 49 "StoryHouseModel" "what" "[I") wq_1373) (fun _ h9 => h9) rfl dX12_named_50 ?_
      refine lv_iload_n hx hb dX12_named_53 rfl (lv_at hl 1 rfl) ?_
      refine lv_bipush (v := 23) hx hb dX12_named_54 (by decide +kernel) ?_
      obtain ⟨g_26, hF_27⟩ := nif_e hF_25
      clear hF_25
      obtain ⟨σ_28, eσ_28, hF_29⟩ := bnd_e hF_27
      clear hF_27
      refine m_iast (σ' := σ_28) hx hb hK hP (hDD _ _) hS (q0 := 8) (t0 := 2) (f := u_11.2.2 17) rfl rfl (by rw [eσ_28]; exact mwA_17) g_26 dX12_named_56 (fun H locs hP hS => ?_)
      refine lv_aload_n hx hb dX12_named_57 rfl (lv_at hl 0 rfl) ?_
      refine lv_bipush (v := 91) hx hb dX12_named_58 (by decide +kernel) ?_
      obtain ⟨u_30, hu_30, hF_31⟩ := Option.bind_eq_some_iff.mp hF_29
      clear hF_29
      refine m_cv hsz hS (va_runV (As := [.int 91]) (rest := []) ⟨hx, hb, hml, hown, hts⟩ (m_X12_open l dC dI cB cC cI cJ cZ cP h qK qS ad hDD H.size  91 σ_28 _ hu_30) (cwV 1 hts (g_gV wq_1555 wq_1556 wq_2131 wq_13 wq_1557) rfl rfl rfl (by decide +kernel) ⟨Nat.le_of_ble_eq_true rfl, Nat.le_of_ble_eq_true rfl⟩) (m_preV g_bl0 hsz hK hP hS hE hKS g_to0) rfl rfl hl.1 rfl (lv_room (Nat.le_of_ble_eq_true rfl)) dX12_named_60 ⟨Nat.le_of_ble_eq_true rfl, Nat.le_of_ble_eq_true rfl⟩) (fun H locs hP hS => ?_)
      refine lv_aload_n hx hb dX12_named_63 rfl (lv_at hl 0 rfl) ?_
      refine va_get (D := (dC, dI)) (ci := 12) (v := .ref (ad 20)) (C := RX12) (T := TX12) (N := 123) hx hb hts ii_X12 hown hK hP 0 rfl rfl 20 (by decide) (hts (.fieldLink RX12 58 "StoryHouseModel" "b" "[I") wq_1376) (fun _ h9 => h9) rfl dX12_named_64 ?_
      refine lv_iload_n hx hb dX12_named_67 rfl (lv_at hl 1 rfl) ?_
      refine lv_aload_n hx hb dX12_named_68 rfl (lv_at hl 0 rfl) ?_
      obtain ⟨u_32, hu_32, hF_33⟩ := Option.bind_eq_some_iff.mp hF_31
      clear hF_31
      refine m_ci hsz hS (va_runV (As := []) (rest := [.int p0, .ref (ad 20)]) ⟨hx, hb, hml, hown, hts⟩ (m_X12_expression l dC dI cB cC cI cJ cZ cP h qK qS ad hDD H.size  u_30.2 _ hu_32) (cwV 0 hts (g_gV wq_1606 wq_1607 wq_2148 wq_13 wq_1608) rfl rfl rfl (by decide +kernel) ⟨Nat.le_of_ble_eq_true rfl, Nat.le_of_ble_eq_true rfl⟩) (m_preV g_bl0 hsz hK hP hS hE hKS g_to0) rfl rfl hl.1 rfl (lv_room (Nat.le_of_ble_eq_true rfl)) dX12_named_69 ⟨Nat.le_of_ble_eq_true rfl, Nat.le_of_ble_eq_true rfl⟩) (fun H locs hP hS => ?_)
      obtain ⟨g_34, hF_35⟩ := nif_e hF_33
      clear hF_33
      obtain ⟨σ_36, eσ_36, hF_37⟩ := bnd_e hF_35
      clear hF_35
      refine m_iast (σ' := σ_36) hx hb hK hP (hDD _ _) hS (q0 := 11) (t0 := 2) (f := u_32.2.2 20) rfl rfl (by rw [eσ_36]; exact mwA_20) g_34 dX12_named_72 (fun H locs hP hS => ?_)
      refine lv_aload_n hx hb dX12_named_73 rfl (lv_at hl 0 rfl) ?_
      refine lv_bipush (v := 93) hx hb dX12_named_74 (by decide +kernel) ?_
      obtain ⟨u_38, hu_38, hF_39⟩ := Option.bind_eq_some_iff.mp hF_37
      clear hF_37
      refine m_cv hsz hS (va_runV (As := [.int 93]) (rest := []) ⟨hx, hb, hml, hown, hts⟩ (m_X12_shut l dC dI cB cC cI cJ cZ cP h qK qS ad hDD H.size  93 σ_36 _ hu_38) (cwV 1 hts (g_gV wq_1582 wq_1583 wq_2140 wq_13 wq_1584) rfl rfl rfl (by decide +kernel) ⟨Nat.le_of_ble_eq_true rfl, Nat.le_of_ble_eq_true rfl⟩) (m_preV g_bl0 hsz hK hP hS hE hKS g_to0) rfl rfl hl.1 rfl (lv_room (Nat.le_of_ble_eq_true rfl)) dX12_named_76 ⟨Nat.le_of_ble_eq_true rfl, Nat.le_of_ble_eq_true rfl⟩) (fun H locs hP hS => ?_)
      refine lv_aload_n hx hb dX12_named_79 rfl (lv_at hl 0 rfl) ?_
      refine lv_bipush (v := 61) hx hb dX12_named_80 (by decide +kernel) ?_
      obtain ⟨u_40, hu_40, hF_41⟩ := Option.bind_eq_some_iff.mp hF_39
      clear hF_39
      refine m_cv hsz hS (va_runV (As := [.int 61]) (rest := []) ⟨hx, hb, hml, hown, hts⟩ (m_X12_need l dC dI cB cC cI cJ cZ cP h qK qS ad hDD H.size  61 u_38.2 _ hu_40) (cwV 1 hts (g_gV wq_1564 wq_1565 wq_2134 wq_13 wq_1566) rfl rfl rfl (by decide +kernel) ⟨Nat.le_of_ble_eq_true rfl, Nat.le_of_ble_eq_true rfl⟩) (m_preV g_bl0 hsz hK hP hS hE hKS g_to0) rfl rfl hl.1 rfl (lv_room (Nat.le_of_ble_eq_true rfl)) dX12_named_82 ⟨Nat.le_of_ble_eq_true rfl, Nat.le_of_ble_eq_true rfl⟩) (fun H locs hP hS => ?_)
      refine lv_aload_n hx hb dX12_named_85 rfl (lv_at hl 0 rfl) ?_
      refine va_get (D := (dC, dI)) (ci := 12) (v := .ref (ad 21)) (C := RX12) (T := TX12) (N := 123) hx hb hts ii_X12 hown hK hP 0 rfl rfl 21 (by decide) (hts (.fieldLink RX12 61 "StoryHouseModel" "d" "[I") wq_1377) (fun _ h9 => h9) rfl dX12_named_86 ?_
      refine lv_iload_n hx hb dX12_named_89 rfl (lv_at hl 1 rfl) ?_
      refine lv_aload_n hx hb dX12_named_90 rfl (lv_at hl 0 rfl) ?_
      obtain ⟨u_42, hu_42, hF_43⟩ := Option.bind_eq_some_iff.mp hF_41
      clear hF_41
      refine m_ci hsz hS (va_runV (As := []) (rest := [.int p0, .ref (ad 21)]) ⟨hx, hb, hml, hown, hts⟩ (m_X12_expression l dC dI cB cC cI cJ cZ cP h qK qS ad hDD H.size  u_40.2 _ hu_42) (cwV 0 hts (g_gV wq_1606 wq_1607 wq_2148 wq_13 wq_1608) rfl rfl rfl (by decide +kernel) ⟨Nat.le_of_ble_eq_true rfl, Nat.le_of_ble_eq_true rfl⟩) (m_preV g_bl0 hsz hK hP hS hE hKS g_to0) rfl rfl hl.1 rfl (lv_room (Nat.le_of_ble_eq_true rfl)) dX12_named_91 ⟨Nat.le_of_ble_eq_true rfl, Nat.le_of_ble_eq_true rfl⟩) (fun H locs hP hS => ?_)
      obtain ⟨g_44, hF_45⟩ := nif_e hF_43
      clear hF_43
      obtain ⟨σ_46, eσ_46, hF_47⟩ := bnd_e hF_45
      clear hF_45
      refine m_iast (σ' := σ_46) hx hb hK hP (hDD _ _) hS (q0 := 12) (t0 := 2) (f := u_42.2.2 21) rfl rfl (by rw [eσ_46]; exact mwA_21) g_44 dX12_named_94 (fun H locs hP hS => ?_)
      refine lv_goto (tgt := 116) hx hb dX12_named_95 (by decide) ?_
      have h9 := Option.some.inj hF_47
      subst h9
      exact W.vret hx hb hr (fun t ht hW => ⟨⟨(), rfl, trivial, m_end ht hP⟩, hS.F ht⟩) hS.2.2 dX12_named_116
  · have hF_48 := ineg c_9 hF_8
    clear hF_8
    refine lv_aload_n hx hb dX12_named_19 rfl (lv_at hl 0 rfl) ?_
    refine va_get (D := (dC, dI)) (ci := 12) (v := .ref (ad 17)) (C := RX12) (T := TX12) (N := 123) hx hb hts ii_X12 hown hK hP 0 rfl rfl 17 (by decide) (hts (.fieldLink RX12 49 "StoryHouseModel" "what" "[I") wq_1373) (fun _ h9 => h9) rfl dX12_named_20 ?_
    refine lv_iload_n hx hb dX12_named_23 rfl (lv_at hl 1 rfl) ?_
    refine lv_bipush (v := 22) hx hb dX12_named_24 (by decide +kernel) ?_
    obtain ⟨g_49, hF_50⟩ := nif_e hF_48
    clear hF_48
    obtain ⟨σ_51, eσ_51, hF_52⟩ := bnd_e hF_50
    clear hF_50
    refine m_iast (σ' := σ_51) hx hb hK hP (hDD _ _) hS (q0 := 8) (t0 := 2) (f := u_7.2.2 17) rfl rfl (by rw [eσ_51]; exact mwA_17) g_49 dX12_named_26 (fun H locs hP hS => ?_)
    refine lv_aload_n hx hb dX12_named_27 rfl (lv_at hl 0 rfl) ?_
    refine va_get (D := (dC, dI)) (ci := 12) (v := .ref (ad 20)) (C := RX12) (T := TX12) (N := 123) hx hb hts ii_X12 hown hK hP 0 rfl rfl 20 (by decide) (hts (.fieldLink RX12 58 "StoryHouseModel" "b" "[I") wq_1376) (fun _ h9 => h9) rfl dX12_named_28 ?_
    refine lv_iload_n hx hb dX12_named_31 rfl (lv_at hl 1 rfl) ?_
    refine lv_aload_n hx hb dX12_named_32 rfl (lv_at hl 0 rfl) ?_
    obtain ⟨u_53, hu_53, hF_54⟩ := Option.bind_eq_some_iff.mp hF_52
    clear hF_52
    refine m_ci hsz hS (va_runV (As := []) (rest := [.int p0, .ref (ad 20)]) ⟨hx, hb, hml, hown, hts⟩ (m_X12_expression l dC dI cB cC cI cJ cZ cP h qK qS ad hDD H.size  σ_51 _ hu_53) (cwV 0 hts (g_gV wq_1606 wq_1607 wq_2148 wq_13 wq_1608) rfl rfl rfl (by decide +kernel) ⟨Nat.le_of_ble_eq_true rfl, Nat.le_of_ble_eq_true rfl⟩) (m_preV g_bl0 hsz hK hP hS hE hKS g_to0) rfl rfl hl.1 rfl (lv_room (Nat.le_of_ble_eq_true rfl)) dX12_named_33 ⟨Nat.le_of_ble_eq_true rfl, Nat.le_of_ble_eq_true rfl⟩) (fun H locs hP hS => ?_)
    obtain ⟨g_55, hF_56⟩ := nif_e hF_54
    clear hF_54
    obtain ⟨σ_57, eσ_57, hF_58⟩ := bnd_e hF_56
    clear hF_56
    refine m_iast (σ' := σ_57) hx hb hK hP (hDD _ _) hS (q0 := 11) (t0 := 2) (f := u_53.2.2 20) rfl rfl (by rw [eσ_57]; exact mwA_20) g_55 dX12_named_36 (fun H locs hP hS => ?_)
    refine lv_goto (tgt := 116) hx hb dX12_named_37 (by decide) ?_
    have h9 := Option.some.inj hF_58
    subst h9
    exact W.vret hx hb hr (fun t ht hW => ⟨⟨(), rfl, trivial, m_end ht hP⟩, hS.F ht⟩) hS.2.2 dX12_named_116
theorem dX12_telling_0 : decode cX12_telling 0 = .ok (.aload_n 0, 1) := by decide +kernel
theorem dX12_telling_1 : decode cX12_telling 1 = .ok (.getfield 31, 3) := by decide +kernel
theorem dX12_telling_4 : decode cX12_telling 4 = .ok (.aload_n 0, 1) := by decide +kernel
theorem dX12_telling_5 : decode cX12_telling 5 = .ok (.getfield 314, 3) := by decide +kernel
theorem dX12_telling_8 : decode cX12_telling 8 = .ok (.iaload, 1) := by decide +kernel
theorem dX12_telling_9 : decode cX12_telling 9 = .ok (.istore_n 1, 1) := by decide +kernel
theorem dX12_telling_10 : decode cX12_telling 10 = .ok (.aload_n 0, 1) := by decide +kernel
theorem dX12_telling_11 : decode cX12_telling 11 = .ok (.getfield 304, 3) := by decide +kernel
theorem dX12_telling_14 : decode cX12_telling 14 = .ok (.ifCond .ne 48, 3) := by decide +kernel
theorem dX12_telling_17 : decode cX12_telling 17 = .ok (.aload_n 0, 1) := by decide +kernel
theorem dX12_telling_18 : decode cX12_telling 18 = .ok (.getfield 27, 3) := by decide +kernel
theorem dX12_telling_21 : decode cX12_telling 21 = .ok (.aload_n 0, 1) := by decide +kernel
theorem dX12_telling_22 : decode cX12_telling 22 = .ok (.getfield 314, 3) := by decide +kernel
theorem dX12_telling_25 : decode cX12_telling 25 = .ok (.iaload, 1) := by decide +kernel
theorem dX12_telling_26 : decode cX12_telling 26 = .ok (.iconst 4, 1) := by decide +kernel
theorem dX12_telling_27 : decode cX12_telling 27 = .ok (.if_icmp .ne 35, 3) := by decide +kernel
theorem dX12_telling_30 : decode cX12_telling 30 = .ok (.aload_n 0, 1) := by decide +kernel
theorem dX12_telling_31 : decode cX12_telling 31 = .ok (.bipush 35, 2) := by decide +kernel
theorem dX12_telling_33 : decode cX12_telling 33 = .ok (.iload_n 1, 1) := by decide +kernel
theorem dX12_telling_34 : decode cX12_telling 34 = .ok (.invokevirtual 346, 3) := by decide +kernel
theorem dX12_telling_37 : decode cX12_telling 37 = .ok (.istore_n 2, 1) := by decide +kernel
theorem dX12_telling_38 : decode cX12_telling 38 = .ok (.aload_n 0, 1) := by decide +kernel
theorem dX12_telling_39 : decode cX12_telling 39 = .ok (.getfield 58, 3) := by decide +kernel
theorem dX12_telling_42 : decode cX12_telling 42 = .ok (.iload_n 2, 1) := by decide +kernel
theorem dX12_telling_43 : decode cX12_telling 43 = .ok (.aload_n 0, 1) := by decide +kernel
theorem dX12_telling_44 : decode cX12_telling 44 = .ok (.getfield 34, 3) := by decide +kernel
theorem dX12_telling_47 : decode cX12_telling 47 = .ok (.aload_n 0, 1) := by decide +kernel
theorem dX12_telling_48 : decode cX12_telling 48 = .ok (.dup, 1) := by decide +kernel
theorem dX12_telling_49 : decode cX12_telling 49 = .ok (.getfield 314, 3) := by decide +kernel
theorem dX12_telling_52 : decode cX12_telling 52 = .ok (.dup_x1, 1) := by decide +kernel
theorem dX12_telling_53 : decode cX12_telling 53 = .ok (.iconst 1, 1) := by decide +kernel
theorem dX12_telling_54 : decode cX12_telling 54 = .ok (.iadd, 1) := by decide +kernel
theorem dX12_telling_55 : decode cX12_telling 55 = .ok (.putfield 314, 3) := by decide +kernel
theorem dX12_telling_58 : decode cX12_telling 58 = .ok (.iaload, 1) := by decide +kernel
theorem dX12_telling_59 : decode cX12_telling 59 = .ok (.iastore, 1) := by decide +kernel
theorem dX12_telling_60 : decode cX12_telling 60 = .ok (.iload_n 2, 1) := by decide +kernel
theorem dX12_telling_61 : decode cX12_telling 61 = .ok (.ireturn, 1) := by decide +kernel
theorem dX12_telling_62 : decode cX12_telling 62 = .ok (.aload_n 0, 1) := by decide +kernel
theorem dX12_telling_63 : decode cX12_telling 63 = .ok (.bipush 22, 2) := by decide +kernel
theorem dX12_telling_65 : decode cX12_telling 65 = .ok (.invokevirtual 333, 3) := by decide +kernel
theorem dX12_telling_68 : decode cX12_telling 68 = .ok (.istore_n 2, 1) := by decide +kernel
theorem dX12_telling_69 : decode cX12_telling 69 = .ok (.aload_n 0, 1) := by decide +kernel
theorem dX12_telling_70 : decode cX12_telling 70 = .ok (.iload_n 2, 1) := by decide +kernel
theorem dX12_telling_71 : decode cX12_telling 71 = .ok (.ifCond .eq 8, 3) := by decide +kernel
theorem dX12_telling_74 : decode cX12_telling 74 = .ok (.bipush 37, 2) := by decide +kernel
theorem dX12_telling_76 : decode cX12_telling 76 = .ok (.goto 5, 3) := by decide +kernel
theorem dX12_telling_79 : decode cX12_telling 79 = .ok (.bipush 36, 2) := by decide +kernel
theorem dX12_telling_81 : decode cX12_telling 81 = .ok (.iload_n 1, 1) := by decide +kernel
theorem dX12_telling_82 : decode cX12_telling 82 = .ok (.invokevirtual 346, 3) := by decide +kernel
theorem dX12_telling_85 : decode cX12_telling 85 = .ok (.istore_n 3, 1) := by decide +kernel
theorem dX12_telling_86 : decode cX12_telling 86 = .ok (.aload_n 0, 1) := by decide +kernel
theorem dX12_telling_87 : decode cX12_telling 87 = .ok (.getfield 55, 3) := by decide +kernel
theorem dX12_telling_90 : decode cX12_telling 90 = .ok (.iload_n 3, 1) := by decide +kernel
theorem dX12_telling_91 : decode cX12_telling 91 = .ok (.iload_n 2, 1) := by decide +kernel
theorem dX12_telling_92 : decode cX12_telling 92 = .ok (.ifCond .eq 10, 3) := by decide +kernel
theorem dX12_telling_95 : decode cX12_telling 95 = .ok (.aload_n 0, 1) := by decide +kernel
theorem dX12_telling_96 : decode cX12_telling 96 = .ok (.invokevirtual 417, 3) := by decide +kernel
theorem dX12_telling_99 : decode cX12_telling 99 = .ok (.goto 7, 3) := by decide +kernel
theorem dX12_telling_102 : decode cX12_telling 102 = .ok (.aload_n 0, 1) := by decide +kernel
theorem dX12_telling_103 : decode cX12_telling 103 = .ok (.invokevirtual 402, 3) := by decide +kernel
theorem dX12_telling_106 : decode cX12_telling 106 = .ok (.iastore, 1) := by decide +kernel
theorem dX12_telling_107 : decode cX12_telling 107 = .ok (.iload_n 3, 1) := by decide +kernel
theorem dX12_telling_108 : decode cX12_telling 108 = .ok (.ireturn, 1) := by decide +kernel
def F_X12_telling  (σ : MS) : MR :=
  bnd ((σ.1 25)) fun (x_1 : Int32) =>
  if x_1 < 0 ∨ 16010 ≤ x_1.toNatClampNeg then none else
  bnd ((σ.2 8 x_1.toNatClampNeg)) fun (x_5 : Int32) =>
  bnd (fun  (σ_7 : MS) => (
    (F_X12_tookKey 22 σ_7).bind fun u_11 =>
    bnd (fun (t_13 : Int32) (σ_14 : MS) => (
      (F_X12_node t_13 x_5 σ_14).bind fun u_18 =>
      bnd (fun (t_20 : Int32) (σ_21 : MS) => (
        if u_18.1 < 0 ∨ 40000 ≤ u_18.1.toNatClampNeg then none else
        bnd (mA σ_21 19 (upd (σ_21.2 19) u_18.1.toNatClampNeg t_20)) fun σ_27 =>
        some (u_18.1, σ_27)
      ) : Int32 → MS → MR) fun j_22 =>
      if u_11.1 = 0 then (
        (G_X12_expression u_18.2).bind fun u_31 =>
        j_22 u_31.1 u_31.2
      ) else (
        (G_X12_primary u_18.2).bind fun u_34 =>
        j_22 u_34.1 u_34.2
      )
    ) : Int32 → MS → MR) fun j_15 =>
    if u_11.1 = 0 then (
      j_15 36 u_11.2
    ) else (
      j_15 37 u_11.2
    )
  ) : MS → MR) fun j_8 =>
  if (σ.1 27) = 0 then (
    bnd ((σ.1 25)) fun (x_41 : Int32) =>
    if x_41 < 0 ∨ 16010 ≤ x_41.toNatClampNeg then none else
    if (σ.2 7 x_41.toNatClampNeg) = 4 then (
      (F_X12_node 35 x_5 σ).bind fun u_47 =>
      bnd (mI u_47.2 25 ((u_47.2.1 25) + 1)) fun σ_49 =>
      bnd ((u_47.2.1 25)) fun (x_51 : Int32) =>
      if x_51 < 0 ∨ 16010 ≤ x_51.toNatClampNeg then none else
      if u_47.1 < 0 ∨ 40000 ≤ u_47.1.toNatClampNeg then none else
      bnd (mA σ_49 20 (upd (σ_49.2 20) u_47.1.toNatClampNeg (σ_49.2 9 x_51.toNatClampNeg))) fun σ_57 =>
      some (u_47.1, σ_57)
    ) else (
      j_8  σ
    )
  ) else (
    j_8  σ
  )
set_option maxHeartbeats 4000000 in
set_option maxRecDepth 100000 in
theorem m_X12_telling (l : Launch) (dC : Nat → ClassId) (dI : Nat → Nat → Nat) (cB cC cI cJ cZ cP : ClassId) (h qK qS : Nat) (ad : Nat → Nat) (hDD : mDis cB cI cZ h qK qS ad) (sz : Nat)   (σ : MS) (res : Int32 × MS) (hF : F_X12_telling  σ = some res) : Met l yX12_telling (g_ws yX12_telling cX12_telling 4 (some .int)) ({ frames := 306, cells := 0, slots := 0, locals := 7047 }) (va_Pc [.ref h] (m_B (dC, dI) [(cB, .byte), (cC, .char), (cI, .int), (cJ, .long), (cZ, .boolean), (cP, .object "StoryHouse$Play")] sz h ad qK qS (mW cB cI cZ h qK qS ad σ) g_0)) (va_Qi (fun r (_ : Unit) => r = res.1) (fun _ t => va_P (dC, dI) vwCl (mW cB cI cZ h qK qS ad res.2) t.heap) (mCells h ad sz)) 0 0 (mCells h ad sz) := by
  refine Met.ofW (cc := cX12_telling) (maxL := 4) (ret := (some .int)) (by decide) rfl ?_
  intro p e s m args below meth c s₁ B hml hv
  obtain ⟨rfl, hsz, hP, hK, hE, hKS, hX⟩ := hv
  have hx := B.exec
  have hb := B.bytes
  have hr := B.returns
  have hts0 := atoms_spec (ws := g_ws yX12_telling cX12_telling 4 (some .int)) B.pre
  have hts : ∀ w ∈ lw_good, w.before ([.ref h] : List Value).toArray s = true := fun w z => hts0 w (List.mem_cons_of_mem _ z)
  have hown : s.vm.findClass RX12 = some m.cls := findClass_of_methodNamed B.named
  have hlocks := B.notSynchronized
  have hS : va_S (mCells h ad sz) s.heap s.heap [] := va_S.rf
  have hl := lv_entry ([.ref h]) (n := 4) (Nat.le_of_ble_eq_true rfl)
  rw [lg_entry_eq]
  generalize (lg_sl ([.ref h]) ++ List.replicate (4 - (lg_sl ([.ref h])).length) Slot.unset).toArray = ls at hl ⊢
  have hl : lv_has ls 4 [(0, .ref h)] := hl
  unfold F_X12_telling at hF
  refine lv_aload_n hx hb dX12_telling_0 rfl (lv_at hl 0 rfl) ?_
  refine va_get (D := (dC, dI)) (ci := 12) (v := .ref (ad 8)) (C := RX12) (T := TX12) (N := 123) hx hb hts ii_X12 hown hK hP 0 rfl rfl 8 (by decide) (hts (.fieldLink RX12 31 "StoryHouseModel" "tokAt" "[I") wq_1364) (fun _ h9 => h9) rfl dX12_telling_1 ?_
  refine lv_aload_n hx hb dX12_telling_4 rfl (lv_at hl 0 rfl) ?_
  refine va_get (D := (dC, dI)) (ci := 12) (v := .int (σ.1 25)) (C := RX12) (T := TX12) (N := 123) hx hb hts ii_X12 hown hK hP 0 rfl rfl 25 (by decide) (hts (.fieldLink RX12 314 "StoryHouseModel" "at" "I") wq_1381) (fun _ h9 => h9) rfl dX12_telling_5 ?_
  obtain ⟨x_1, ex_1, hF_2⟩ := bnd_e hF
  clear hF
  refine m_top ex_1 ?_
  obtain ⟨g_3, hF_4⟩ := nif_e hF_2
  clear hF_2
  refine va_iald (f := σ.2 8) hx hb hK hP 4 2 rfl rfl g_3 dX12_telling_8 ?_
  obtain ⟨x_5, ex_5, hF_6⟩ := bnd_e hF_4
  clear hF_4
  refine m_top ex_5 ?_
  refine lv_istore_n (lv' := [(1, .int x_5), (0, .ref h)]) hx hb dX12_telling_9 rfl hl (by decide) rfl (fun ls hl => ?_)
  refine lv_aload_n hx hb dX12_telling_10 rfl (lv_at hl 1 rfl) ?_
  refine va_get (D := (dC, dI)) (ci := 12) (v := .int (σ.1 27)) (C := RX12) (T := TX12) (N := 123) hx hb hts ii_X12 hown hK hP 0 rfl rfl 27 (by decide) (hts (.fieldLink RX12 304 "StoryHouseModel" "stopped" "Z") wq_1383) (fun _ h9 => h9) rfl dX12_telling_11 ?_
  obtain ⟨j_8, ej_8, hF_9⟩ := bnd_e hF_6
  clear hF_6
  have Jj_8 : ∀  (σ_7 : MS), j_8  σ_7 = some res → ∀ (H : Heap) (locs : List Loc), va_P (dC, dI) vwCl (mW cB cI cZ h qK qS ad σ_7) H → va_S (mCells h ad sz) s.heap H locs → ∀ ls : Array Slot, lv_has ls 4 [(0, .ref h), (1, .int x_5)] → W p l e (headSpec (g_ws yX12_telling cX12_telling 4 (some .int)) { frames := 306, cells := 0, slots := 0, locals := 7047 }).room s m ([.ref h] : List Value).toArray below meth c H locs 0 0 (MQ below (va_Qi (fun r (_ : Unit) => r = res.1) (fun _ t => va_P (dC, dI) vwCl (mW cB cI cZ h qK qS ad res.2) t.heap) (mCells h ad sz)) ([.ref h] : List Value).toArray s 0 0 (mCells h ad sz)) (F0 m 62 ls []) := by
    intro  σ_7 hF0 H locs hP hS ls hl
    subst ej_8
    have hF_10 := hF0
    clear hF0
    refine lv_aload_n hx hb dX12_telling_62 rfl (lv_at hl 0 rfl) ?_
    refine lv_bipush (v := 22) hx hb dX12_telling_63 (by decide +kernel) ?_
    obtain ⟨u_11, hu_11, hF_12⟩ := Option.bind_eq_some_iff.mp hF_10
    clear hF_10
    refine m_ci hsz hS (va_runV (As := [.int 22]) (rest := []) ⟨hx, hb, hml, hown, hts⟩ (m_X12_tookKey l dC dI cB cC cI cJ cZ cP h qK qS ad hDD H.size  22 σ_7 _ hu_11) (cwV 1 hts (g_gV wq_1573 wq_1574 wq_2137 wq_13 wq_1575) rfl rfl rfl (by decide +kernel) ⟨Nat.le_of_ble_eq_true rfl, Nat.le_of_ble_eq_true rfl⟩) (m_preV g_bl0 hsz hK hP hS hE hKS g_to0) rfl rfl hl.1 rfl (lv_room (Nat.le_of_ble_eq_true rfl)) dX12_telling_65 ⟨Nat.le_of_ble_eq_true rfl, Nat.le_of_ble_eq_true rfl⟩) (fun H locs hP hS => ?_)
    refine lv_istore_n (lv' := [(2, .int u_11.1), (0, .ref h), (1, .int x_5)]) hx hb dX12_telling_68 rfl hl (by decide) rfl (fun ls hl => ?_)
    refine lv_aload_n hx hb dX12_telling_69 rfl (lv_at hl 1 rfl) ?_
    refine lv_iload_n hx hb dX12_telling_70 rfl (lv_at hl 0 rfl) ?_
    obtain ⟨j_15, ej_15, hF_16⟩ := bnd_e hF_12
    clear hF_12
    have Jj_15 : ∀ (t_13 : Int32) (σ_14 : MS), j_15 t_13 σ_14 = some res → ∀ (H : Heap) (locs : List Loc), va_P (dC, dI) vwCl (mW cB cI cZ h qK qS ad σ_14) H → va_S (mCells h ad sz) s.heap H locs → ∀ ls : Array Slot, lv_has ls 4 [(0, .ref h), (1, .int x_5), (2, .int u_11.1)] → W p l e (headSpec (g_ws yX12_telling cX12_telling 4 (some .int)) { frames := 306, cells := 0, slots := 0, locals := 7047 }).room s m ([.ref h] : List Value).toArray below meth c H locs 0 0 (MQ below (va_Qi (fun r (_ : Unit) => r = res.1) (fun _ t => va_P (dC, dI) vwCl (mW cB cI cZ h qK qS ad res.2) t.heap) (mCells h ad sz)) ([.ref h] : List Value).toArray s 0 0 (mCells h ad sz)) (F0 m 81 ls [.int t_13, .ref h]) := by
      intro t_13 σ_14 hF0 H locs hP hS ls hl
      subst ej_15
      have hF_17 := hF0
      clear hF0
      refine lv_iload_n hx hb dX12_telling_81 rfl (lv_at hl 1 rfl) ?_
      obtain ⟨u_18, hu_18, hF_19⟩ := Option.bind_eq_some_iff.mp hF_17
      clear hF_17
      refine m_ci hsz hS (va_runV (As := [.int t_13, .int x_5]) (rest := []) ⟨hx, hb, hml, hown, hts⟩ (m_X12_node l dC dI cB cC cI cJ cZ cP h qK qS ad hDD H.size  t_13 x_5 σ_14 _ hu_18) (cwV 2 hts (g_gV wq_1540 wq_1541 wq_2126 wq_13 wq_1542) rfl rfl rfl (by decide +kernel) ⟨Nat.le_of_ble_eq_true rfl, Nat.le_of_ble_eq_true rfl⟩) (m_preV g_bl0 hsz hK hP hS hE hKS g_to0) rfl rfl hl.1 rfl (lv_room (Nat.le_of_ble_eq_true rfl)) dX12_telling_82 ⟨Nat.le_of_ble_eq_true rfl, Nat.le_of_ble_eq_true rfl⟩) (fun H locs hP hS => ?_)
      refine lv_istore_n (lv' := [(3, .int u_18.1), (0, .ref h), (1, .int x_5), (2, .int u_11.1)]) hx hb dX12_telling_85 rfl hl (by decide) rfl (fun ls hl => ?_)
      refine lv_aload_n hx hb dX12_telling_86 rfl (lv_at hl 1 rfl) ?_
      refine va_get (D := (dC, dI)) (ci := 12) (v := .ref (ad 19)) (C := RX12) (T := TX12) (N := 123) hx hb hts ii_X12 hown hK hP 0 rfl rfl 19 (by decide) (hts (.fieldLink RX12 55 "StoryHouseModel" "a" "[I") wq_1375) (fun _ h9 => h9) rfl dX12_telling_87 ?_
      refine lv_iload_n hx hb dX12_telling_90 rfl (lv_at hl 0 rfl) ?_
      refine lv_iload_n hx hb dX12_telling_91 rfl (lv_at hl 3 rfl) ?_
      obtain ⟨j_22, ej_22, hF_23⟩ := bnd_e hF_19
      clear hF_19
      have Jj_22 : ∀ (t_20 : Int32) (σ_21 : MS), j_22 t_20 σ_21 = some res → ∀ (H : Heap) (locs : List Loc), va_P (dC, dI) vwCl (mW cB cI cZ h qK qS ad σ_21) H → va_S (mCells h ad sz) s.heap H locs → ∀ ls : Array Slot, lv_has ls 4 [(3, .int u_18.1)] → W p l e (headSpec (g_ws yX12_telling cX12_telling 4 (some .int)) { frames := 306, cells := 0, slots := 0, locals := 7047 }).room s m ([.ref h] : List Value).toArray below meth c H locs 0 0 (MQ below (va_Qi (fun r (_ : Unit) => r = res.1) (fun _ t => va_P (dC, dI) vwCl (mW cB cI cZ h qK qS ad res.2) t.heap) (mCells h ad sz)) ([.ref h] : List Value).toArray s 0 0 (mCells h ad sz)) (F0 m 106 ls [.int t_20, .int u_18.1, .ref (ad 19)]) := by
        intro t_20 σ_21 hF0 H locs hP hS ls hl
        subst ej_22
        have hF_24 := hF0
        clear hF0
        obtain ⟨g_25, hF_26⟩ := nif_e hF_24
        clear hF_24
        obtain ⟨σ_27, eσ_27, hF_28⟩ := bnd_e hF_26
        clear hF_26
        refine m_iast (σ' := σ_27) hx hb hK hP (hDD _ _) hS (q0 := 10) (t0 := 2) (f := σ_21.2 19) rfl rfl (by rw [eσ_27]; exact mwA_19) g_25 dX12_telling_106 (fun H locs hP hS => ?_)
        refine lv_iload_n hx hb dX12_telling_107 rfl (lv_at hl 0 rfl) ?_
        have h9 := Option.some.inj hF_28
        subst h9
        exact W.iret (v := u_18.1) hx hb hr (fun t ht hW => ⟨⟨u_18.1, (), rfl, rfl, m_end ht hP⟩, hS.F ht⟩) hS.2.2 dX12_telling_108
      refine lv_if_eq (tgt := 102) hx hb dX12_telling_92 (by decide) (fun c_29 => ?_) (fun c_29 => ?_)
      · have hF_30 := ipos c_29 hF_23
        clear hF_23
        refine lv_aload_n hx hb dX12_telling_102 rfl (lv_at hl 1 rfl) ?_
        obtain ⟨u_31, hu_31, hF_32⟩ := Option.bind_eq_some_iff.mp hF_30
        clear hF_30
        refine m_ci hsz hS (va_runV (As := []) (rest := [.int u_18.1, .ref (ad 19)]) ⟨hx, hb, hml, hown, hts⟩ (m_X12_expression l dC dI cB cC cI cJ cZ cP h qK qS ad hDD H.size  u_18.2 _ hu_31) (cwV 0 hts (g_gV wq_1606 wq_1607 wq_2148 wq_13 wq_1608) rfl rfl rfl (by decide +kernel) ⟨Nat.le_of_ble_eq_true rfl, Nat.le_of_ble_eq_true rfl⟩) (m_preV g_bl0 hsz hK hP hS hE hKS g_to0) rfl rfl hl.1 rfl (lv_room (Nat.le_of_ble_eq_true rfl)) dX12_telling_103 ⟨Nat.le_of_ble_eq_true rfl, Nat.le_of_ble_eq_true rfl⟩) (fun H locs hP hS => ?_)
        exact Jj_22 u_31.1 u_31.2 hF_32 _ _ hP hS ls (lv_sub hl [0] rfl)
      · have hF_33 := ineg c_29 hF_23
        clear hF_23
        refine lv_aload_n hx hb dX12_telling_95 rfl (lv_at hl 1 rfl) ?_
        obtain ⟨u_34, hu_34, hF_35⟩ := Option.bind_eq_some_iff.mp hF_33
        clear hF_33
        refine m_ci hsz hS (va_runV (As := []) (rest := [.int u_18.1, .ref (ad 19)]) ⟨hx, hb, hml, hown, hts⟩ (m_X12_primary l dC dI cB cC cI cJ cZ cP h qK qS ad hDD H.size  u_18.2 _ hu_34) (cwV 0 hts (g_gV wq_1600 wq_1601 wq_2146 wq_13 wq_1602) rfl rfl rfl (by decide +kernel) ⟨Nat.le_of_ble_eq_true rfl, Nat.le_of_ble_eq_true rfl⟩) (m_preV g_bl0 hsz hK hP hS hE hKS g_to0) rfl rfl hl.1 rfl (lv_room (Nat.le_of_ble_eq_true rfl)) dX12_telling_96 ⟨Nat.le_of_ble_eq_true rfl, Nat.le_of_ble_eq_true rfl⟩) (fun H locs hP hS => ?_)
        refine lv_goto (tgt := 106) hx hb dX12_telling_99 (by decide) ?_
        exact Jj_22 u_34.1 u_34.2 hF_35 _ _ hP hS ls (lv_sub hl [0] rfl)
    refine lv_if_eq (tgt := 79) hx hb dX12_telling_71 (by decide) (fun c_36 => ?_) (fun c_36 => ?_)
    · have hF_37 := ipos c_36 hF_16
      clear hF_16
      refine lv_bipush (v := 36) hx hb dX12_telling_79 (by decide +kernel) ?_
      exact Jj_15 36 u_11.2 hF_37 _ _ hP hS ls (lv_sub hl [1, 2, 0] rfl)
    · have hF_38 := ineg c_36 hF_16
      clear hF_16
      refine lv_bipush (v := 37) hx hb dX12_telling_74 (by decide +kernel) ?_
      refine lv_goto (tgt := 81) hx hb dX12_telling_76 (by decide) ?_
      exact Jj_15 37 u_11.2 hF_38 _ _ hP hS ls (lv_sub hl [1, 2, 0] rfl)
  refine lv_if_ne (tgt := 62) hx hb dX12_telling_14 (by decide) (fun c_39 => ?_) (fun c_39 => ?_)
  · have hF_60 := ineg c_39 hF_9
    clear hF_9
    exact Jj_8  σ hF_60 _ _ hP hS ls (lv_sub hl [1, 0] rfl)
  · have hF_40 := ipos c_39 hF_9
    clear hF_9
    refine lv_aload_n hx hb dX12_telling_17 rfl (lv_at hl 1 rfl) ?_
    refine va_get (D := (dC, dI)) (ci := 12) (v := .ref (ad 7)) (C := RX12) (T := TX12) (N := 123) hx hb hts ii_X12 hown hK hP 0 rfl rfl 7 (by decide) (hts (.fieldLink RX12 27 "StoryHouseModel" "tokKind" "[I") wq_1363) (fun _ h9 => h9) rfl dX12_telling_18 ?_
    refine lv_aload_n hx hb dX12_telling_21 rfl (lv_at hl 1 rfl) ?_
    refine va_get (D := (dC, dI)) (ci := 12) (v := .int (σ.1 25)) (C := RX12) (T := TX12) (N := 123) hx hb hts ii_X12 hown hK hP 0 rfl rfl 25 (by decide) (hts (.fieldLink RX12 314 "StoryHouseModel" "at" "I") wq_1381) (fun _ h9 => h9) rfl dX12_telling_22 ?_
    obtain ⟨x_41, ex_41, hF_42⟩ := bnd_e hF_40
    clear hF_40
    refine m_top ex_41 ?_
    obtain ⟨g_43, hF_44⟩ := nif_e hF_42
    clear hF_42
    refine va_iald (f := σ.2 7) hx hb hK hP 3 2 rfl rfl g_43 dX12_telling_25 ?_
    refine lv_iconst (v := 4) hx hb dX12_telling_26 (by decide +kernel) ?_
    refine lv_icmp_ne (tgt := 62) hx hb dX12_telling_27 (by decide) (fun c_45 => ?_) (fun c_45 => ?_)
    · have hF_59 := ineg c_45 hF_44
      clear hF_44
      exact Jj_8  σ hF_59 _ _ hP hS ls (lv_sub hl [1, 0] rfl)
    · have hF_46 := ipos c_45 hF_44
      clear hF_44
      refine lv_aload_n hx hb dX12_telling_30 rfl (lv_at hl 1 rfl) ?_
      refine lv_bipush (v := 35) hx hb dX12_telling_31 (by decide +kernel) ?_
      refine lv_iload_n hx hb dX12_telling_33 rfl (lv_at hl 0 rfl) ?_
      obtain ⟨u_47, hu_47, hF_48⟩ := Option.bind_eq_some_iff.mp hF_46
      clear hF_46
      refine m_ci hsz hS (va_runV (As := [.int 35, .int x_5]) (rest := []) ⟨hx, hb, hml, hown, hts⟩ (m_X12_node l dC dI cB cC cI cJ cZ cP h qK qS ad hDD s.heap.size  35 x_5 σ _ hu_47) (cwV 2 hts (g_gV wq_1540 wq_1541 wq_2126 wq_13 wq_1542) rfl rfl rfl (by decide +kernel) ⟨Nat.le_of_ble_eq_true rfl, Nat.le_of_ble_eq_true rfl⟩) (m_preV g_bl0 hsz hK hP hS hE hKS g_to0) rfl rfl hl.1 rfl (lv_room (Nat.le_of_ble_eq_true rfl)) dX12_telling_34 ⟨Nat.le_of_ble_eq_true rfl, Nat.le_of_ble_eq_true rfl⟩) (fun H locs hP hS => ?_)
      refine lv_istore_n (lv' := [(2, .int u_47.1), (1, .int x_5), (0, .ref h)]) hx hb dX12_telling_37 rfl hl (by decide) rfl (fun ls hl => ?_)
      refine lv_aload_n hx hb dX12_telling_38 rfl (lv_at hl 2 rfl) ?_
      refine va_get (D := (dC, dI)) (ci := 12) (v := .ref (ad 20)) (C := RX12) (T := TX12) (N := 123) hx hb hts ii_X12 hown hK hP 0 rfl rfl 20 (by decide) (hts (.fieldLink RX12 58 "StoryHouseModel" "b" "[I") wq_1376) (fun _ h9 => h9) rfl dX12_telling_39 ?_
      refine lv_iload_n hx hb dX12_telling_42 rfl (lv_at hl 0 rfl) ?_
      refine lv_aload_n hx hb dX12_telling_43 rfl (lv_at hl 2 rfl) ?_
      refine va_get (D := (dC, dI)) (ci := 12) (v := .ref (ad 9)) (C := RX12) (T := TX12) (N := 123) hx hb hts ii_X12 hown hK hP 0 rfl rfl 9 (by decide) (hts (.fieldLink RX12 34 "StoryHouseModel" "tokValue" "[I") wq_1365) (fun _ h9 => h9) rfl dX12_telling_44 ?_
      refine lv_aload_n hx hb dX12_telling_47 rfl (lv_at hl 2 rfl) ?_
      refine lv_dup hx hb dX12_telling_48 rfl ?_
      refine va_get (D := (dC, dI)) (ci := 12) (v := .int (u_47.2.1 25)) (C := RX12) (T := TX12) (N := 123) hx hb hts ii_X12 hown hK hP 0 rfl rfl 25 (by decide) (hts (.fieldLink RX12 314 "StoryHouseModel" "at" "I") wq_1381) (fun _ h9 => h9) rfl dX12_telling_49 ?_
      refine lv_dup_x1 hx hb dX12_telling_52 rfl rfl ?_
      refine lv_iconst (v := 1) hx hb dX12_telling_53 (by decide +kernel) ?_
      refine lv_iadd hx hb dX12_telling_54 ?_
      obtain ⟨σ_49, eσ_49, hF_50⟩ := bnd_e hF_48
      clear hF_48
      refine m_put (σ' := σ_49) (v := .int ((u_47.2.1 25) + 1)) (ty := .int) hx hb hts hown hK hP (hDD _ _) hS (by rw [eσ_49]; exact mwI_25) (k := 25) (by decide) (hts (.fieldLink RX12 314 "StoryHouseModel" "at" "I") wq_1381) (fun _ h9 => h9) rfl (by decide +kernel) rfl rfl dX12_telling_55 (fun H locs hP hS => ?_)
      obtain ⟨x_51, ex_51, hF_52⟩ := bnd_e hF_50
      clear hF_50
      refine m_top ex_51 ?_
      obtain ⟨g_53, hF_54⟩ := nif_e hF_52
      clear hF_52
      refine va_iald (f := σ_49.2 9) hx hb hK hP 5 2 rfl rfl g_53 dX12_telling_58 ?_
      obtain ⟨g_55, hF_56⟩ := nif_e hF_54
      clear hF_54
      obtain ⟨σ_57, eσ_57, hF_58⟩ := bnd_e hF_56
      clear hF_56
      refine m_iast (σ' := σ_57) hx hb hK hP (hDD _ _) hS (q0 := 11) (t0 := 2) (f := σ_49.2 20) rfl rfl (by rw [eσ_57]; exact mwA_20) g_55 dX12_telling_59 (fun H locs hP hS => ?_)
      refine lv_iload_n hx hb dX12_telling_60 rfl (lv_at hl 0 rfl) ?_
      have h9 := Option.some.inj hF_58
      subst h9
      exact W.iret (v := u_47.1) hx hb hr (fun t ht hW => ⟨⟨u_47.1, (), rfl, rfl, m_end ht hP⟩, hS.F ht⟩) hS.2.2 dX12_telling_61
theorem dX12_block_0 : decode cX12_block 0 = .ok (.aload_n 0, 1) := by decide +kernel
theorem dX12_block_1 : decode cX12_block 1 = .ok (.bipush 123, 2) := by decide +kernel
theorem dX12_block_3 : decode cX12_block 3 = .ok (.invokevirtual 368, 3) := by decide +kernel
theorem dX12_block_6 : decode cX12_block 6 = .ok (.iconst (-1), 1) := by decide +kernel
theorem dX12_block_7 : decode cX12_block 7 = .ok (.istore_n 1, 1) := by decide +kernel
theorem dX12_block_8 : decode cX12_block 8 = .ok (.iconst (-1), 1) := by decide +kernel
theorem dX12_block_9 : decode cX12_block 9 = .ok (.istore_n 2, 1) := by decide +kernel
theorem dX12_block_10 : decode cX12_block 10 = .ok (.aload_n 0, 1) := by decide +kernel
theorem dX12_block_11 : decode cX12_block 11 = .ok (.getfield 304, 3) := by decide +kernel
theorem dX12_block_14 : decode cX12_block 14 = .ok (.ifCond .ne 38, 3) := by decide +kernel
theorem dX12_block_17 : decode cX12_block 17 = .ok (.aload_n 0, 1) := by decide +kernel
theorem dX12_block_18 : decode cX12_block 18 = .ok (.bipush 125, 2) := by decide +kernel
theorem dX12_block_20 : decode cX12_block 20 = .ok (.invokevirtual 321, 3) := by decide +kernel
theorem dX12_block_23 : decode cX12_block 23 = .ok (.ifCond .ne 29, 3) := by decide +kernel
theorem dX12_block_26 : decode cX12_block 26 = .ok (.aload_n 0, 1) := by decide +kernel
theorem dX12_block_27 : decode cX12_block 27 = .ok (.invokevirtual 396, 3) := by decide +kernel
theorem dX12_block_30 : decode cX12_block 30 = .ok (.istore_n 3, 1) := by decide +kernel
theorem dX12_block_31 : decode cX12_block 31 = .ok (.iload_n 2, 1) := by decide +kernel
theorem dX12_block_32 : decode cX12_block 32 = .ok (.ifCond .ge 8, 3) := by decide +kernel
theorem dX12_block_35 : decode cX12_block 35 = .ok (.iload_n 3, 1) := by decide +kernel
theorem dX12_block_36 : decode cX12_block 36 = .ok (.istore_n 1, 1) := by decide +kernel
theorem dX12_block_37 : decode cX12_block 37 = .ok (.goto 10, 3) := by decide +kernel
theorem dX12_block_40 : decode cX12_block 40 = .ok (.aload_n 0, 1) := by decide +kernel
theorem dX12_block_41 : decode cX12_block 41 = .ok (.getfield 64, 3) := by decide +kernel
theorem dX12_block_44 : decode cX12_block 44 = .ok (.iload_n 2, 1) := by decide +kernel
theorem dX12_block_45 : decode cX12_block 45 = .ok (.iload_n 3, 1) := by decide +kernel
theorem dX12_block_46 : decode cX12_block 46 = .ok (.iastore, 1) := by decide +kernel
theorem dX12_block_47 : decode cX12_block 47 = .ok (.iload_n 3, 1) := by decide +kernel
theorem dX12_block_48 : decode cX12_block 48 = .ok (.istore_n 2, 1) := by decide +kernel
theorem dX12_block_49 : decode cX12_block 49 = .ok (.goto (-39), 3) := by decide +kernel
theorem dX12_block_52 : decode cX12_block 52 = .ok (.aload_n 0, 1) := by decide +kernel
theorem dX12_block_53 : decode cX12_block 53 = .ok (.bipush 125, 2) := by decide +kernel
theorem dX12_block_55 : decode cX12_block 55 = .ok (.invokevirtual 371, 3) := by decide +kernel
theorem dX12_block_58 : decode cX12_block 58 = .ok (.aload_n 0, 1) := by decide +kernel
theorem dX12_block_59 : decode cX12_block 59 = .ok (.bipush 34, 2) := by decide +kernel
theorem dX12_block_61 : decode cX12_block 61 = .ok (.iconst 0, 1) := by decide +kernel
theorem dX12_block_62 : decode cX12_block 62 = .ok (.invokevirtual 346, 3) := by decide +kernel
theorem dX12_block_65 : decode cX12_block 65 = .ok (.istore_n 3, 1) := by decide +kernel
theorem dX12_block_66 : decode cX12_block 66 = .ok (.aload_n 0, 1) := by decide +kernel
theorem dX12_block_67 : decode cX12_block 67 = .ok (.getfield 55, 3) := by decide +kernel
theorem dX12_block_70 : decode cX12_block 70 = .ok (.iload_n 3, 1) := by decide +kernel
theorem dX12_block_71 : decode cX12_block 71 = .ok (.iload_n 1, 1) := by decide +kernel
theorem dX12_block_72 : decode cX12_block 72 = .ok (.iastore, 1) := by decide +kernel
theorem dX12_block_73 : decode cX12_block 73 = .ok (.iload_n 3, 1) := by decide +kernel
theorem dX12_block_74 : decode cX12_block 74 = .ok (.ireturn, 1) := by decide +kernel
theorem dX12_statement_0 : decode cX12_statement 0 = .ok (.aload_n 0, 1) := by decide +kernel
theorem dX12_statement_1 : decode cX12_statement 1 = .ok (.getfield 31, 3) := by decide +kernel
theorem dX12_statement_4 : decode cX12_statement 4 = .ok (.aload_n 0, 1) := by decide +kernel
theorem dX12_statement_5 : decode cX12_statement 5 = .ok (.getfield 314, 3) := by decide +kernel
theorem dX12_statement_8 : decode cX12_statement 8 = .ok (.iaload, 1) := by decide +kernel
theorem dX12_statement_9 : decode cX12_statement 9 = .ok (.istore_n 1, 1) := by decide +kernel
theorem dX12_statement_10 : decode cX12_statement 10 = .ok (.aload_n 0, 1) := by decide +kernel
theorem dX12_statement_11 : decode cX12_statement 11 = .ok (.bipush 30, 2) := by decide +kernel
theorem dX12_statement_13 : decode cX12_statement 13 = .ok (.iload_n 1, 1) := by decide +kernel
theorem dX12_statement_14 : decode cX12_statement 14 = .ok (.invokevirtual 346, 3) := by decide +kernel
theorem dX12_statement_17 : decode cX12_statement 17 = .ok (.istore_n 2, 1) := by decide +kernel
theorem dX12_statement_18 : decode cX12_statement 18 = .ok (.aload_n 0, 1) := by decide +kernel
theorem dX12_statement_19 : decode cX12_statement 19 = .ok (.bipush 35, 2) := by decide +kernel
theorem dX12_statement_21 : decode cX12_statement 21 = .ok (.invokevirtual 333, 3) := by decide +kernel
theorem dX12_statement_24 : decode cX12_statement 24 = .ok (.ifCond .eq 60, 3) := by decide +kernel
theorem dX12_statement_27 : decode cX12_statement 27 = .ok (.aload_n 0, 1) := by decide +kernel
theorem dX12_statement_28 : decode cX12_statement 28 = .ok (.getfield 49, 3) := by decide +kernel
theorem dX12_statement_31 : decode cX12_statement 31 = .ok (.iload_n 2, 1) := by decide +kernel
theorem dX12_statement_32 : decode cX12_statement 32 = .ok (.bipush 20, 2) := by decide +kernel
theorem dX12_statement_34 : decode cX12_statement 34 = .ok (.iastore, 1) := by decide +kernel
theorem dX12_statement_35 : decode cX12_statement 35 = .ok (.aload_n 0, 1) := by decide +kernel
theorem dX12_statement_36 : decode cX12_statement 36 = .ok (.getfield 55, 3) := by decide +kernel
theorem dX12_statement_39 : decode cX12_statement 39 = .ok (.iload_n 2, 1) := by decide +kernel
theorem dX12_statement_40 : decode cX12_statement 40 = .ok (.aload_n 0, 1) := by decide +kernel
theorem dX12_statement_41 : decode cX12_statement 41 = .ok (.invokevirtual 399, 3) := by decide +kernel
theorem dX12_statement_44 : decode cX12_statement 44 = .ok (.iastore, 1) := by decide +kernel
theorem dX12_statement_45 : decode cX12_statement 45 = .ok (.aload_n 0, 1) := by decide +kernel
theorem dX12_statement_46 : decode cX12_statement 46 = .ok (.getfield 55, 3) := by decide +kernel
theorem dX12_statement_49 : decode cX12_statement 49 = .ok (.iload_n 2, 1) := by decide +kernel
theorem dX12_statement_50 : decode cX12_statement 50 = .ok (.iaload, 1) := by decide +kernel
theorem dX12_statement_51 : decode cX12_statement 51 = .ok (.istore_n 3, 1) := by decide +kernel
theorem dX12_statement_52 : decode cX12_statement 52 = .ok (.aload_n 0, 1) := by decide +kernel
theorem dX12_statement_53 : decode cX12_statement 53 = .ok (.bipush 44, 2) := by decide +kernel
theorem dX12_statement_55 : decode cX12_statement 55 = .ok (.invokevirtual 327, 3) := by decide +kernel
theorem dX12_statement_58 : decode cX12_statement 58 = .ok (.ifCond .eq 23, 3) := by decide +kernel
theorem dX12_statement_61 : decode cX12_statement 61 = .ok (.aload_n 0, 1) := by decide +kernel
theorem dX12_statement_62 : decode cX12_statement 62 = .ok (.invokevirtual 399, 3) := by decide +kernel
theorem dX12_statement_65 : decode cX12_statement 65 = .ok (.istore 4, 2) := by decide +kernel
theorem dX12_statement_67 : decode cX12_statement 67 = .ok (.aload_n 0, 1) := by decide +kernel
theorem dX12_statement_68 : decode cX12_statement 68 = .ok (.getfield 64, 3) := by decide +kernel
theorem dX12_statement_71 : decode cX12_statement 71 = .ok (.iload_n 3, 1) := by decide +kernel
theorem dX12_statement_72 : decode cX12_statement 72 = .ok (.iload 4, 2) := by decide +kernel
theorem dX12_statement_74 : decode cX12_statement 74 = .ok (.iastore, 1) := by decide +kernel
theorem dX12_statement_75 : decode cX12_statement 75 = .ok (.iload 4, 2) := by decide +kernel
theorem dX12_statement_77 : decode cX12_statement 77 = .ok (.istore_n 3, 1) := by decide +kernel
theorem dX12_statement_78 : decode cX12_statement 78 = .ok (.goto (-26), 3) := by decide +kernel
theorem dX12_statement_81 : decode cX12_statement 81 = .ok (.goto 362, 3) := by decide +kernel
theorem dX12_statement_84 : decode cX12_statement 84 = .ok (.aload_n 0, 1) := by decide +kernel
theorem dX12_statement_85 : decode cX12_statement 85 = .ok (.bipush 19, 2) := by decide +kernel
theorem dX12_statement_87 : decode cX12_statement 87 = .ok (.invokevirtual 333, 3) := by decide +kernel
theorem dX12_statement_90 : decode cX12_statement 90 = .ok (.ifCond .eq 40, 3) := by decide +kernel
theorem dX12_statement_93 : decode cX12_statement 93 = .ok (.aload_n 0, 1) := by decide +kernel
theorem dX12_statement_94 : decode cX12_statement 94 = .ok (.getfield 49, 3) := by decide +kernel
theorem dX12_statement_97 : decode cX12_statement 97 = .ok (.iload_n 2, 1) := by decide +kernel
theorem dX12_statement_98 : decode cX12_statement 98 = .ok (.bipush 21, 2) := by decide +kernel
theorem dX12_statement_100 : decode cX12_statement 100 = .ok (.iastore, 1) := by decide +kernel
theorem dX12_statement_101 : decode cX12_statement 101 = .ok (.aload_n 0, 1) := by decide +kernel
theorem dX12_statement_102 : decode cX12_statement 102 = .ok (.getfield 55, 3) := by decide +kernel
theorem dX12_statement_105 : decode cX12_statement 105 = .ok (.iload_n 2, 1) := by decide +kernel
theorem dX12_statement_106 : decode cX12_statement 106 = .ok (.aload_n 0, 1) := by decide +kernel
theorem dX12_statement_107 : decode cX12_statement 107 = .ok (.invokevirtual 365, 3) := by decide +kernel
theorem dX12_statement_110 : decode cX12_statement 110 = .ok (.iastore, 1) := by decide +kernel
theorem dX12_statement_111 : decode cX12_statement 111 = .ok (.aload_n 0, 1) := by decide +kernel
theorem dX12_statement_112 : decode cX12_statement 112 = .ok (.bipush 61, 2) := by decide +kernel
theorem dX12_statement_114 : decode cX12_statement 114 = .ok (.invokevirtual 342, 3) := by decide +kernel
theorem dX12_statement_117 : decode cX12_statement 117 = .ok (.aload_n 0, 1) := by decide +kernel
theorem dX12_statement_118 : decode cX12_statement 118 = .ok (.getfield 58, 3) := by decide +kernel
theorem dX12_statement_121 : decode cX12_statement 121 = .ok (.iload_n 2, 1) := by decide +kernel
theorem dX12_statement_122 : decode cX12_statement 122 = .ok (.aload_n 0, 1) := by decide +kernel
theorem dX12_statement_123 : decode cX12_statement 123 = .ok (.invokevirtual 402, 3) := by decide +kernel
theorem dX12_statement_126 : decode cX12_statement 126 = .ok (.iastore, 1) := by decide +kernel
theorem dX12_statement_127 : decode cX12_statement 127 = .ok (.goto 316, 3) := by decide +kernel
theorem dX12_statement_130 : decode cX12_statement 130 = .ok (.aload_n 0, 1) := by decide +kernel
theorem dX12_statement_131 : decode cX12_statement 131 = .ok (.bipush 21, 2) := by decide +kernel
theorem dX12_statement_133 : decode cX12_statement 133 = .ok (.invokevirtual 333, 3) := by decide +kernel
theorem dX12_statement_136 : decode cX12_statement 136 = .ok (.ifCond .eq 40, 3) := by decide +kernel
theorem dX12_statement_139 : decode cX12_statement 139 = .ok (.aload_n 0, 1) := by decide +kernel
theorem dX12_statement_140 : decode cX12_statement 140 = .ok (.getfield 49, 3) := by decide +kernel
theorem dX12_statement_143 : decode cX12_statement 143 = .ok (.iload_n 2, 1) := by decide +kernel
theorem dX12_statement_144 : decode cX12_statement 144 = .ok (.bipush 24, 2) := by decide +kernel
theorem dX12_statement_146 : decode cX12_statement 146 = .ok (.iastore, 1) := by decide +kernel
theorem dX12_statement_147 : decode cX12_statement 147 = .ok (.aload_n 0, 1) := by decide +kernel
theorem dX12_statement_148 : decode cX12_statement 148 = .ok (.getfield 55, 3) := by decide +kernel
theorem dX12_statement_151 : decode cX12_statement 151 = .ok (.iload_n 2, 1) := by decide +kernel
theorem dX12_statement_152 : decode cX12_statement 152 = .ok (.aload_n 0, 1) := by decide +kernel
theorem dX12_statement_153 : decode cX12_statement 153 = .ok (.invokevirtual 402, 3) := by decide +kernel
theorem dX12_statement_156 : decode cX12_statement 156 = .ok (.iastore, 1) := by decide +kernel
theorem dX12_statement_157 : decode cX12_statement 157 = .ok (.aload_n 0, 1) := by decide +kernel
theorem dX12_statement_158 : decode cX12_statement 158 = .ok (.bipush 42, 2) := by decide +kernel
theorem dX12_statement_160 : decode cX12_statement 160 = .ok (.invokevirtual 393, 3) := by decide +kernel
theorem dX12_statement_163 : decode cX12_statement 163 = .ok (.aload_n 0, 1) := by decide +kernel
theorem dX12_statement_164 : decode cX12_statement 164 = .ok (.getfield 58, 3) := by decide +kernel
theorem dX12_statement_167 : decode cX12_statement 167 = .ok (.iload_n 2, 1) := by decide +kernel
theorem dX12_statement_168 : decode cX12_statement 168 = .ok (.aload_n 0, 1) := by decide +kernel
theorem dX12_statement_169 : decode cX12_statement 169 = .ok (.invokevirtual 402, 3) := by decide +kernel
theorem dX12_statement_172 : decode cX12_statement 172 = .ok (.iastore, 1) := by decide +kernel
theorem dX12_statement_173 : decode cX12_statement 173 = .ok (.goto 270, 3) := by decide +kernel
theorem dX12_statement_176 : decode cX12_statement 176 = .ok (.aload_n 0, 1) := by decide +kernel
theorem dX12_statement_177 : decode cX12_statement 177 = .ok (.bipush 32, 2) := by decide +kernel
theorem dX12_statement_179 : decode cX12_statement 179 = .ok (.invokevirtual 333, 3) := by decide +kernel
theorem dX12_statement_182 : decode cX12_statement 182 = .ok (.ifCond .eq 24, 3) := by decide +kernel
theorem dX12_statement_185 : decode cX12_statement 185 = .ok (.aload_n 0, 1) := by decide +kernel
theorem dX12_statement_186 : decode cX12_statement 186 = .ok (.getfield 49, 3) := by decide +kernel
theorem dX12_statement_189 : decode cX12_statement 189 = .ok (.iload_n 2, 1) := by decide +kernel
theorem dX12_statement_190 : decode cX12_statement 190 = .ok (.bipush 25, 2) := by decide +kernel
theorem dX12_statement_192 : decode cX12_statement 192 = .ok (.iastore, 1) := by decide +kernel
theorem dX12_statement_193 : decode cX12_statement 193 = .ok (.aload_n 0, 1) := by decide +kernel
theorem dX12_statement_194 : decode cX12_statement 194 = .ok (.getfield 55, 3) := by decide +kernel
theorem dX12_statement_197 : decode cX12_statement 197 = .ok (.iload_n 2, 1) := by decide +kernel
theorem dX12_statement_198 : decode cX12_statement 198 = .ok (.aload_n 0, 1) := by decide +kernel
theorem dX12_statement_199 : decode cX12_statement 199 = .ok (.invokevirtual 402, 3) := by decide +kernel
theorem dX12_statement_202 : decode cX12_statement 202 = .ok (.iastore, 1) := by decide +kernel
theorem dX12_statement_203 : decode cX12_statement 203 = .ok (.goto 240, 3) := by decide +kernel
theorem dX12_statement_206 : decode cX12_statement 206 = .ok (.aload_n 0, 1) := by decide +kernel
theorem dX12_statement_207 : decode cX12_statement 207 = .ok (.bipush 37, 2) := by decide +kernel
theorem dX12_statement_209 : decode cX12_statement 209 = .ok (.invokevirtual 324, 3) := by decide +kernel
theorem dX12_statement_212 : decode cX12_statement 212 = .ok (.ifCond .ne 12, 3) := by decide +kernel
theorem dX12_statement_215 : decode cX12_statement 215 = .ok (.aload_n 0, 1) := by decide +kernel
theorem dX12_statement_216 : decode cX12_statement 216 = .ok (.bipush 38, 2) := by decide +kernel
theorem dX12_statement_218 : decode cX12_statement 218 = .ok (.invokevirtual 324, 3) := by decide +kernel
theorem dX12_statement_221 : decode cX12_statement 221 = .ok (.ifCond .eq 64, 3) := by decide +kernel
theorem dX12_statement_224 : decode cX12_statement 224 = .ok (.aload_n 0, 1) := by decide +kernel
theorem dX12_statement_225 : decode cX12_statement 225 = .ok (.getfield 49, 3) := by decide +kernel
theorem dX12_statement_228 : decode cX12_statement 228 = .ok (.iload_n 2, 1) := by decide +kernel
theorem dX12_statement_229 : decode cX12_statement 229 = .ok (.bipush 26, 2) := by decide +kernel
theorem dX12_statement_231 : decode cX12_statement 231 = .ok (.iastore, 1) := by decide +kernel
theorem dX12_statement_232 : decode cX12_statement 232 = .ok (.aload_n 0, 1) := by decide +kernel
theorem dX12_statement_233 : decode cX12_statement 233 = .ok (.getfield 61, 3) := by decide +kernel
theorem dX12_statement_236 : decode cX12_statement 236 = .ok (.iload_n 2, 1) := by decide +kernel
theorem dX12_statement_237 : decode cX12_statement 237 = .ok (.aload_n 0, 1) := by decide +kernel
theorem dX12_statement_238 : decode cX12_statement 238 = .ok (.bipush 37, 2) := by decide +kernel
theorem dX12_statement_240 : decode cX12_statement 240 = .ok (.invokevirtual 324, 3) := by decide +kernel
theorem dX12_statement_243 : decode cX12_statement 243 = .ok (.ifCond .eq 7, 3) := by decide +kernel
theorem dX12_statement_246 : decode cX12_statement 246 = .ok (.iconst 1, 1) := by decide +kernel
theorem dX12_statement_247 : decode cX12_statement 247 = .ok (.goto 4, 3) := by decide +kernel
theorem dX12_statement_250 : decode cX12_statement 250 = .ok (.iconst 0, 1) := by decide +kernel
theorem dX12_statement_251 : decode cX12_statement 251 = .ok (.iastore, 1) := by decide +kernel
theorem dX12_statement_252 : decode cX12_statement 252 = .ok (.aload_n 0, 1) := by decide +kernel
theorem dX12_statement_253 : decode cX12_statement 253 = .ok (.dup, 1) := by decide +kernel
theorem dX12_statement_254 : decode cX12_statement 254 = .ok (.getfield 314, 3) := by decide +kernel
theorem dX12_statement_257 : decode cX12_statement 257 = .ok (.iconst 1, 1) := by decide +kernel
theorem dX12_statement_258 : decode cX12_statement 258 = .ok (.iadd, 1) := by decide +kernel
theorem dX12_statement_259 : decode cX12_statement 259 = .ok (.putfield 314, 3) := by decide +kernel
theorem dX12_statement_262 : decode cX12_statement 262 = .ok (.aload_n 0, 1) := by decide +kernel
theorem dX12_statement_263 : decode cX12_statement 263 = .ok (.getfield 55, 3) := by decide +kernel
theorem dX12_statement_266 : decode cX12_statement 266 = .ok (.iload_n 2, 1) := by decide +kernel
theorem dX12_statement_267 : decode cX12_statement 267 = .ok (.aload_n 0, 1) := by decide +kernel
theorem dX12_statement_268 : decode cX12_statement 268 = .ok (.invokevirtual 402, 3) := by decide +kernel
theorem dX12_statement_271 : decode cX12_statement 271 = .ok (.iastore, 1) := by decide +kernel
theorem dX12_statement_272 : decode cX12_statement 272 = .ok (.aload_n 0, 1) := by decide +kernel
theorem dX12_statement_273 : decode cX12_statement 273 = .ok (.getfield 58, 3) := by decide +kernel
theorem dX12_statement_276 : decode cX12_statement 276 = .ok (.iload_n 2, 1) := by decide +kernel
theorem dX12_statement_277 : decode cX12_statement 277 = .ok (.aload_n 0, 1) := by decide +kernel
theorem dX12_statement_278 : decode cX12_statement 278 = .ok (.invokevirtual 405, 3) := by decide +kernel
theorem dX12_statement_281 : decode cX12_statement 281 = .ok (.iastore, 1) := by decide +kernel
theorem dX12_statement_282 : decode cX12_statement 282 = .ok (.goto 161, 3) := by decide +kernel
theorem dX12_statement_285 : decode cX12_statement 285 = .ok (.aload_n 0, 1) := by decide +kernel
theorem dX12_statement_286 : decode cX12_statement 286 = .ok (.bipush 17, 2) := by decide +kernel
theorem dX12_statement_288 : decode cX12_statement 288 = .ok (.invokevirtual 333, 3) := by decide +kernel
theorem dX12_statement_291 : decode cX12_statement 291 = .ok (.ifCond .eq 18, 3) := by decide +kernel
theorem dX12_statement_294 : decode cX12_statement 294 = .ok (.aload_n 0, 1) := by decide +kernel
theorem dX12_statement_295 : decode cX12_statement 295 = .ok (.getfield 49, 3) := by decide +kernel
theorem dX12_statement_298 : decode cX12_statement 298 = .ok (.iload_n 2, 1) := by decide +kernel
theorem dX12_statement_299 : decode cX12_statement 299 = .ok (.bipush 27, 2) := by decide +kernel
theorem dX12_statement_301 : decode cX12_statement 301 = .ok (.iastore, 1) := by decide +kernel
theorem dX12_statement_302 : decode cX12_statement 302 = .ok (.aload_n 0, 1) := by decide +kernel
theorem dX12_statement_303 : decode cX12_statement 303 = .ok (.iload_n 2, 1) := by decide +kernel
theorem dX12_statement_304 : decode cX12_statement 304 = .ok (.invokevirtual 408, 3) := by decide +kernel
theorem dX12_statement_307 : decode cX12_statement 307 = .ok (.iload_n 2, 1) := by decide +kernel
theorem dX12_statement_308 : decode cX12_statement 308 = .ok (.ireturn, 1) := by decide +kernel
theorem dX12_statement_309 : decode cX12_statement 309 = .ok (.aload_n 0, 1) := by decide +kernel
theorem dX12_statement_310 : decode cX12_statement 310 = .ok (.bipush 48, 2) := by decide +kernel
theorem dX12_statement_312 : decode cX12_statement 312 = .ok (.invokevirtual 333, 3) := by decide +kernel
theorem dX12_statement_315 : decode cX12_statement 315 = .ok (.ifCond .eq 33, 3) := by decide +kernel
theorem dX12_statement_318 : decode cX12_statement 318 = .ok (.aload_n 0, 1) := by decide +kernel
theorem dX12_statement_319 : decode cX12_statement 319 = .ok (.getfield 49, 3) := by decide +kernel
theorem dX12_statement_322 : decode cX12_statement 322 = .ok (.iload_n 2, 1) := by decide +kernel
theorem dX12_statement_323 : decode cX12_statement 323 = .ok (.bipush 28, 2) := by decide +kernel
theorem dX12_statement_325 : decode cX12_statement 325 = .ok (.iastore, 1) := by decide +kernel
theorem dX12_statement_326 : decode cX12_statement 326 = .ok (.aload_n 0, 1) := by decide +kernel
theorem dX12_statement_327 : decode cX12_statement 327 = .ok (.getfield 55, 3) := by decide +kernel
theorem dX12_statement_330 : decode cX12_statement 330 = .ok (.iload_n 2, 1) := by decide +kernel
theorem dX12_statement_331 : decode cX12_statement 331 = .ok (.aload_n 0, 1) := by decide +kernel
theorem dX12_statement_332 : decode cX12_statement 332 = .ok (.invokevirtual 402, 3) := by decide +kernel
theorem dX12_statement_335 : decode cX12_statement 335 = .ok (.iastore, 1) := by decide +kernel
theorem dX12_statement_336 : decode cX12_statement 336 = .ok (.aload_n 0, 1) := by decide +kernel
theorem dX12_statement_337 : decode cX12_statement 337 = .ok (.getfield 58, 3) := by decide +kernel
theorem dX12_statement_340 : decode cX12_statement 340 = .ok (.iload_n 2, 1) := by decide +kernel
theorem dX12_statement_341 : decode cX12_statement 341 = .ok (.aload_n 0, 1) := by decide +kernel
theorem dX12_statement_342 : decode cX12_statement 342 = .ok (.invokevirtual 377, 3) := by decide +kernel
theorem dX12_statement_345 : decode cX12_statement 345 = .ok (.iastore, 1) := by decide +kernel
theorem dX12_statement_346 : decode cX12_statement 346 = .ok (.iload_n 2, 1) := by decide +kernel
theorem dX12_statement_347 : decode cX12_statement 347 = .ok (.ireturn, 1) := by decide +kernel
theorem dX12_statement_348 : decode cX12_statement 348 = .ok (.aload_n 0, 1) := by decide +kernel
theorem dX12_statement_349 : decode cX12_statement 349 = .ok (.bipush 33, 2) := by decide +kernel
theorem dX12_statement_351 : decode cX12_statement 351 = .ok (.invokevirtual 333, 3) := by decide +kernel
theorem dX12_statement_354 : decode cX12_statement 354 = .ok (.ifCond .eq 24, 3) := by decide +kernel
theorem dX12_statement_357 : decode cX12_statement 357 = .ok (.aload_n 0, 1) := by decide +kernel
theorem dX12_statement_358 : decode cX12_statement 358 = .ok (.getfield 49, 3) := by decide +kernel
theorem dX12_statement_361 : decode cX12_statement 361 = .ok (.iload_n 2, 1) := by decide +kernel
theorem dX12_statement_362 : decode cX12_statement 362 = .ok (.bipush 29, 2) := by decide +kernel
theorem dX12_statement_364 : decode cX12_statement 364 = .ok (.iastore, 1) := by decide +kernel
theorem dX12_statement_365 : decode cX12_statement 365 = .ok (.aload_n 0, 1) := by decide +kernel
theorem dX12_statement_366 : decode cX12_statement 366 = .ok (.getfield 55, 3) := by decide +kernel
theorem dX12_statement_369 : decode cX12_statement 369 = .ok (.iload_n 2, 1) := by decide +kernel
theorem dX12_statement_370 : decode cX12_statement 370 = .ok (.aload_n 0, 1) := by decide +kernel
theorem dX12_statement_371 : decode cX12_statement 371 = .ok (.invokevirtual 402, 3) := by decide +kernel
theorem dX12_statement_374 : decode cX12_statement 374 = .ok (.iastore, 1) := by decide +kernel
theorem dX12_statement_375 : decode cX12_statement 375 = .ok (.goto 68, 3) := by decide +kernel
theorem dX12_statement_378 : decode cX12_statement 378 = .ok (.aload_n 0, 1) := by decide +kernel
theorem dX12_statement_379 : decode cX12_statement 379 = .ok (.bipush 7, 2) := by decide +kernel
theorem dX12_statement_381 : decode cX12_statement 381 = .ok (.invokevirtual 333, 3) := by decide +kernel
theorem dX12_statement_384 : decode cX12_statement 384 = .ok (.ifCond .eq 14, 3) := by decide +kernel
theorem dX12_statement_387 : decode cX12_statement 387 = .ok (.aload_n 0, 1) := by decide +kernel
theorem dX12_statement_388 : decode cX12_statement 388 = .ok (.getfield 49, 3) := by decide +kernel
theorem dX12_statement_391 : decode cX12_statement 391 = .ok (.iload_n 2, 1) := by decide +kernel
theorem dX12_statement_392 : decode cX12_statement 392 = .ok (.bipush 30, 2) := by decide +kernel
theorem dX12_statement_394 : decode cX12_statement 394 = .ok (.iastore, 1) := by decide +kernel
theorem dX12_statement_395 : decode cX12_statement 395 = .ok (.goto 48, 3) := by decide +kernel
theorem dX12_statement_398 : decode cX12_statement 398 = .ok (.aload_n 0, 1) := by decide +kernel
theorem dX12_statement_399 : decode cX12_statement 399 = .ok (.bipush 49, 2) := by decide +kernel
theorem dX12_statement_401 : decode cX12_statement 401 = .ok (.invokevirtual 333, 3) := by decide +kernel
theorem dX12_statement_404 : decode cX12_statement 404 = .ok (.ifCond .eq 14, 3) := by decide +kernel
theorem dX12_statement_407 : decode cX12_statement 407 = .ok (.aload_n 0, 1) := by decide +kernel
theorem dX12_statement_408 : decode cX12_statement 408 = .ok (.getfield 49, 3) := by decide +kernel
theorem dX12_statement_411 : decode cX12_statement 411 = .ok (.iload_n 2, 1) := by decide +kernel
theorem dX12_statement_412 : decode cX12_statement 412 = .ok (.bipush 31, 2) := by decide +kernel
theorem dX12_statement_414 : decode cX12_statement 414 = .ok (.iastore, 1) := by decide +kernel
theorem dX12_statement_415 : decode cX12_statement 415 = .ok (.goto 28, 3) := by decide +kernel
theorem dX12_statement_418 : decode cX12_statement 418 = .ok (.aload_n 0, 1) := by decide +kernel
theorem dX12_statement_419 : decode cX12_statement 419 = .ok (.bipush 20, 2) := by decide +kernel
theorem dX12_statement_421 : decode cX12_statement 421 = .ok (.invokevirtual 333, 3) := by decide +kernel
theorem dX12_statement_424 : decode cX12_statement 424 = .ok (.ifCond .eq 14, 3) := by decide +kernel
theorem dX12_statement_427 : decode cX12_statement 427 = .ok (.aload_n 0, 1) := by decide +kernel
theorem dX12_statement_428 : decode cX12_statement 428 = .ok (.getfield 49, 3) := by decide +kernel
theorem dX12_statement_431 : decode cX12_statement 431 = .ok (.iload_n 2, 1) := by decide +kernel
theorem dX12_statement_432 : decode cX12_statement 432 = .ok (.bipush 32, 2) := by decide +kernel
theorem dX12_statement_434 : decode cX12_statement 434 = .ok (.iastore, 1) := by decide +kernel
theorem dX12_statement_435 : decode cX12_statement 435 = .ok (.goto 8, 3) := by decide +kernel
theorem dX12_statement_438 : decode cX12_statement 438 = .ok (.aload_n 0, 1) := by decide +kernel
theorem dX12_statement_439 : decode cX12_statement 439 = .ok (.iload_n 2, 1) := by decide +kernel
theorem dX12_statement_440 : decode cX12_statement 440 = .ok (.invokevirtual 411, 3) := by decide +kernel
theorem dX12_statement_443 : decode cX12_statement 443 = .ok (.aload_n 0, 1) := by decide +kernel
theorem dX12_statement_444 : decode cX12_statement 444 = .ok (.bipush 59, 2) := by decide +kernel
theorem dX12_statement_446 : decode cX12_statement 446 = .ok (.invokevirtual 342, 3) := by decide +kernel
theorem dX12_statement_449 : decode cX12_statement 449 = .ok (.iload_n 2, 1) := by decide +kernel
theorem dX12_statement_450 : decode cX12_statement 450 = .ok (.ireturn, 1) := by decide +kernel
theorem dX12_iff_0 : decode cX12_iff 0 = .ok (.aload_n 0, 1) := by decide +kernel
theorem dX12_iff_1 : decode cX12_iff 1 = .ok (.getfield 55, 3) := by decide +kernel
theorem dX12_iff_4 : decode cX12_iff 4 = .ok (.iload_n 1, 1) := by decide +kernel
theorem dX12_iff_5 : decode cX12_iff 5 = .ok (.aload_n 0, 1) := by decide +kernel
theorem dX12_iff_6 : decode cX12_iff 6 = .ok (.invokevirtual 402, 3) := by decide +kernel
theorem dX12_iff_9 : decode cX12_iff 9 = .ok (.iastore, 1) := by decide +kernel
theorem dX12_iff_10 : decode cX12_iff 10 = .ok (.aload_n 0, 1) := by decide +kernel
theorem dX12_iff_11 : decode cX12_iff 11 = .ok (.getfield 58, 3) := by decide +kernel
theorem dX12_iff_14 : decode cX12_iff 14 = .ok (.iload_n 1, 1) := by decide +kernel
theorem dX12_iff_15 : decode cX12_iff 15 = .ok (.aload_n 0, 1) := by decide +kernel
theorem dX12_iff_16 : decode cX12_iff 16 = .ok (.invokevirtual 377, 3) := by decide +kernel
theorem dX12_iff_19 : decode cX12_iff 19 = .ok (.iastore, 1) := by decide +kernel
theorem dX12_iff_20 : decode cX12_iff 20 = .ok (.aload_n 0, 1) := by decide +kernel
theorem dX12_iff_21 : decode cX12_iff 21 = .ok (.bipush 11, 2) := by decide +kernel
theorem dX12_iff_23 : decode cX12_iff 23 = .ok (.invokevirtual 333, 3) := by decide +kernel
theorem dX12_iff_26 : decode cX12_iff 26 = .ok (.ifCond .ne 4, 3) := by decide +kernel
theorem dX12_iff_29 : decode cX12_iff 29 = .ok (.return_, 1) := by decide +kernel
theorem dX12_iff_30 : decode cX12_iff 30 = .ok (.aload_n 0, 1) := by decide +kernel
theorem dX12_iff_31 : decode cX12_iff 31 = .ok (.bipush 17, 2) := by decide +kernel
theorem dX12_iff_33 : decode cX12_iff 33 = .ok (.invokevirtual 324, 3) := by decide +kernel
theorem dX12_iff_36 : decode cX12_iff 36 = .ok (.ifCond .eq 58, 3) := by decide +kernel
theorem dX12_iff_39 : decode cX12_iff 39 = .ok (.aload_n 0, 1) := by decide +kernel
theorem dX12_iff_40 : decode cX12_iff 40 = .ok (.bipush 27, 2) := by decide +kernel
theorem dX12_iff_42 : decode cX12_iff 42 = .ok (.aload_n 0, 1) := by decide +kernel
theorem dX12_iff_43 : decode cX12_iff 43 = .ok (.getfield 31, 3) := by decide +kernel
theorem dX12_iff_46 : decode cX12_iff 46 = .ok (.aload_n 0, 1) := by decide +kernel
theorem dX12_iff_47 : decode cX12_iff 47 = .ok (.getfield 314, 3) := by decide +kernel
theorem dX12_iff_50 : decode cX12_iff 50 = .ok (.iaload, 1) := by decide +kernel
theorem dX12_iff_51 : decode cX12_iff 51 = .ok (.invokevirtual 346, 3) := by decide +kernel
theorem dX12_iff_54 : decode cX12_iff 54 = .ok (.istore_n 2, 1) := by decide +kernel
theorem dX12_iff_55 : decode cX12_iff 55 = .ok (.aload_n 0, 1) := by decide +kernel
theorem dX12_iff_56 : decode cX12_iff 56 = .ok (.invokevirtual 339, 3) := by decide +kernel
theorem dX12_iff_59 : decode cX12_iff 59 = .ok (.aload_n 0, 1) := by decide +kernel
theorem dX12_iff_60 : decode cX12_iff 60 = .ok (.dup, 1) := by decide +kernel
theorem dX12_iff_61 : decode cX12_iff 61 = .ok (.getfield 314, 3) := by decide +kernel
theorem dX12_iff_64 : decode cX12_iff 64 = .ok (.iconst 1, 1) := by decide +kernel
theorem dX12_iff_65 : decode cX12_iff 65 = .ok (.iadd, 1) := by decide +kernel
theorem dX12_iff_66 : decode cX12_iff 66 = .ok (.putfield 314, 3) := by decide +kernel
theorem dX12_iff_69 : decode cX12_iff 69 = .ok (.aload_n 0, 1) := by decide +kernel
theorem dX12_iff_70 : decode cX12_iff 70 = .ok (.iload_n 2, 1) := by decide +kernel
theorem dX12_iff_71 : decode cX12_iff 71 = .ok (.invokevirtual 408, 3) := by decide +kernel
theorem dX12_iff_74 : decode cX12_iff 74 = .ok (.aload_n 0, 1) := by decide +kernel
theorem dX12_iff_75 : decode cX12_iff 75 = .ok (.dup, 1) := by decide +kernel
theorem dX12_iff_76 : decode cX12_iff 76 = .ok (.getfield 336, 3) := by decide +kernel
theorem dX12_iff_79 : decode cX12_iff 79 = .ok (.iconst 1, 1) := by decide +kernel
theorem dX12_iff_80 : decode cX12_iff 80 = .ok (.isub, 1) := by decide +kernel
theorem dX12_iff_81 : decode cX12_iff 81 = .ok (.putfield 336, 3) := by decide +kernel
theorem dX12_iff_84 : decode cX12_iff 84 = .ok (.aload_n 0, 1) := by decide +kernel
theorem dX12_iff_85 : decode cX12_iff 85 = .ok (.getfield 61, 3) := by decide +kernel
theorem dX12_iff_88 : decode cX12_iff 88 = .ok (.iload_n 1, 1) := by decide +kernel
theorem dX12_iff_89 : decode cX12_iff 89 = .ok (.iload_n 2, 1) := by decide +kernel
theorem dX12_iff_90 : decode cX12_iff 90 = .ok (.iastore, 1) := by decide +kernel
theorem dX12_iff_91 : decode cX12_iff 91 = .ok (.goto 13, 3) := by decide +kernel
theorem dX12_iff_94 : decode cX12_iff 94 = .ok (.aload_n 0, 1) := by decide +kernel
theorem dX12_iff_95 : decode cX12_iff 95 = .ok (.getfield 61, 3) := by decide +kernel
theorem dX12_iff_98 : decode cX12_iff 98 = .ok (.iload_n 1, 1) := by decide +kernel
theorem dX12_iff_99 : decode cX12_iff 99 = .ok (.aload_n 0, 1) := by decide +kernel
theorem dX12_iff_100 : decode cX12_iff 100 = .ok (.invokevirtual 377, 3) := by decide +kernel
theorem dX12_iff_103 : decode cX12_iff 103 = .ok (.iastore, 1) := by decide +kernel
theorem dX12_iff_104 : decode cX12_iff 104 = .ok (.return_, 1) := by decide +kernel
def F_X12_block (rec : GF)  (σ : MS) : MR :=
  (F_X12_open 123 σ).bind fun u_1 =>
  loopF (fun (again_4 : (Int32 × Int32 × MS) → MR) (s_3 : Int32 × Int32 × MS) => (
    bnd (fun  (σ_7 : MS) => (
      (F_X12_shut 125 σ_7).bind fun u_11 =>
      (F_X12_node 34 0 u_11.2).bind fun u_13 =>
      if u_13.1 < 0 ∨ 40000 ≤ u_13.1.toNatClampNeg then none else
      bnd (mA u_13.2 19 (upd (u_13.2.2 19) u_13.1.toNatClampNeg s_3.1)) fun σ_17 =>
      some (u_13.1, σ_17)
    ) : MS → MR) fun j_8 =>
    if (s_3.2.2.1 27) = 0 then (
      (F_X12_isSign 125 s_3.2.2).bind fun u_21 =>
      if u_21.1 = 0 then (
        (rec 1 0 0 0 u_21.2).bind fun u_25 =>
        bnd (fun (v1_27 : Int32) (σ_28 : MS) => (
          again_4 (v1_27, u_25.1, σ_28)
        ) : Int32 → MS → MR) fun j_29 =>
        if 0 ≤ s_3.2.1 then (
          if s_3.2.1 < 0 ∨ 40000 ≤ s_3.2.1.toNatClampNeg then none else
          bnd (mA u_25.2 22 (upd (u_25.2.2 22) s_3.2.1.toNatClampNeg u_25.1)) fun σ_36 =>
          j_29 s_3.1 σ_36
        ) else (
          j_29 u_25.1 u_25.2
        )
      ) else (
        j_8  u_21.2
      )
    ) else (
      j_8  s_3.2.2
    )
  )) FU ((-1), (-1), u_1.2)
set_option maxHeartbeats 4000000 in
set_option maxRecDepth 100000 in
theorem m_X12_block_st (l : Launch) (dC : Nat → ClassId) (dI : Nat → Nat → Nat) (cB cC cI cJ cZ cP : ClassId) (h qK qS : Nat) (ad : Nat → Nat) (hDD : mDis cB cI cZ h qK qS ad) (d : Nat) (rec : GF) (hI0 : ∀ (sz : Nat)  (σ : MS) (res : Int32 × MS), rec 0 0 0 0 σ = some res → Met l yX12_block (g_ws yX12_block cX12_block 4 (some .int)) ({ frames := 307 + d, cells := 0, slots := 0, locals := 7070 + 24 * d }) (va_Pc [.ref h] (m_B (dC, dI) [(cB, .byte), (cC, .char), (cI, .int), (cJ, .long), (cZ, .boolean), (cP, .object "StoryHouse$Play")] sz h ad qK qS (mW cB cI cZ h qK qS ad σ) g_0)) (va_Qi (fun r (_ : Unit) => r = res.1) (fun _ t => va_P (dC, dI) vwCl (mW cB cI cZ h qK qS ad res.2) t.heap) (mCells h ad sz)) 0 0 (mCells h ad sz)) (hI1 : ∀ (sz : Nat)  (σ : MS) (res : Int32 × MS), rec 1 0 0 0 σ = some res → Met l yX12_statement (g_ws yX12_statement cX12_statement 5 (some .int)) ({ frames := 307 + d, cells := 0, slots := 0, locals := 7070 + 24 * d }) (va_Pc [.ref h] (m_B (dC, dI) [(cB, .byte), (cC, .char), (cI, .int), (cJ, .long), (cZ, .boolean), (cP, .object "StoryHouse$Play")] sz h ad qK qS (mW cB cI cZ h qK qS ad σ) g_0)) (va_Qi (fun r (_ : Unit) => r = res.1) (fun _ t => va_P (dC, dI) vwCl (mW cB cI cZ h qK qS ad res.2) t.heap) (mCells h ad sz)) 0 0 (mCells h ad sz)) (hI2 : ∀ (sz : Nat) (p0 : Int32) (σ : MS) (res : Int32 × MS), rec 2 p0 0 0 σ = some res → Met l yX12_iff (g_ws yX12_iff cX12_iff 3 none) ({ frames := 307 + d, cells := 0, slots := 0, locals := 7070 + 24 * d }) (va_Pc [.ref h, .int p0] (m_B (dC, dI) [(cB, .byte), (cC, .char), (cI, .int), (cJ, .long), (cZ, .boolean), (cP, .object "StoryHouse$Play")] sz h ad qK qS (mW cB cI cZ h qK qS ad σ) g_0)) (va_Qv (fun (_ : Unit) => True) (fun _ t => va_P (dC, dI) vwCl (mW cB cI cZ h qK qS ad res.2) t.heap) (mCells h ad sz)) 0 0 (mCells h ad sz)) (sz : Nat)   (σ : MS) (res : Int32 × MS) (hF : F_X12_block rec  σ = some res) : Met l yX12_block (g_ws yX12_block cX12_block 4 (some .int)) ({ frames := 307 + (d + 1), cells := 0, slots := 0, locals := 7070 + 24 * (d + 1) }) (va_Pc [.ref h] (m_B (dC, dI) [(cB, .byte), (cC, .char), (cI, .int), (cJ, .long), (cZ, .boolean), (cP, .object "StoryHouse$Play")] sz h ad qK qS (mW cB cI cZ h qK qS ad σ) g_0)) (va_Qi (fun r (_ : Unit) => r = res.1) (fun _ t => va_P (dC, dI) vwCl (mW cB cI cZ h qK qS ad res.2) t.heap) (mCells h ad sz)) 0 0 (mCells h ad sz) := by
  refine Met.ofW (cc := cX12_block) (maxL := 4) (ret := (some .int)) (by decide) rfl ?_
  intro p e s m args below meth c s₁ B hml hv
  obtain ⟨rfl, hsz, hP, hK, hE, hKS, hX⟩ := hv
  have hx := B.exec
  have hb := B.bytes
  have hr := B.returns
  have hts0 := atoms_spec (ws := g_ws yX12_block cX12_block 4 (some .int)) B.pre
  have hts : ∀ w ∈ lw_good, w.before ([.ref h] : List Value).toArray s = true := fun w z => hts0 w (List.mem_cons_of_mem _ z)
  have hown : s.vm.findClass RX12 = some m.cls := findClass_of_methodNamed B.named
  have hlocks := B.notSynchronized
  have hS : va_S (mCells h ad sz) s.heap s.heap [] := va_S.rf
  have hl := lv_entry ([.ref h]) (n := 4) (Nat.le_of_ble_eq_true rfl)
  rw [lg_entry_eq]
  generalize (lg_sl ([.ref h]) ++ List.replicate (4 - (lg_sl ([.ref h])).length) Slot.unset).toArray = ls at hl ⊢
  have hl : lv_has ls 4 [(0, .ref h)] := hl
  unfold F_X12_block at hF
  refine lv_aload_n hx hb dX12_block_0 rfl (lv_at hl 0 rfl) ?_
  refine lv_bipush (v := 123) hx hb dX12_block_1 (by decide +kernel) ?_
  obtain ⟨u_1, hu_1, hF_2⟩ := Option.bind_eq_some_iff.mp hF
  clear hF
  refine m_cv hsz hS (va_runV (As := [.int 123]) (rest := []) ⟨hx, hb, hml, hown, hts⟩ (m_X12_open l dC dI cB cC cI cJ cZ cP h qK qS ad hDD s.heap.size  123 σ _ hu_1) (cwV 1 hts (g_gV wq_1555 wq_1556 wq_2131 wq_13 wq_1557) rfl rfl rfl (by decide +kernel) ⟨by show 4 + 1 ≤ 307 + (d + 1); omega, by show 8 + (2 + 11) + 103 ≤ 7070 + 24 * (d + 1); omega⟩) (m_preV g_bl0 hsz hK hP hS hE hKS g_to0) rfl rfl hl.1 rfl (lv_room (Nat.le_of_ble_eq_true rfl)) dX12_block_3 ⟨Nat.le_of_ble_eq_true rfl, Nat.le_of_ble_eq_true rfl⟩) (fun H locs hP hS => ?_)
  refine lv_iconst (v := (-1)) hx hb dX12_block_6 (by decide +kernel) ?_
  refine lv_istore_n (lv' := [(1, .int (-1)), (0, .ref h)]) hx hb dX12_block_7 rfl hl (by decide) rfl (fun ls hl => ?_)
  refine lv_iconst (v := (-1)) hx hb dX12_block_8 (by decide +kernel) ?_
  refine lv_istore_n (lv' := [(2, .int (-1)), (1, .int (-1)), (0, .ref h)]) hx hb dX12_block_9 rfl hl (by decide) rfl (fun ls hl => ?_)
  refine loopF_ind (P := fun (s_3 : Int32 × Int32 × MS) => ∀ (H : Heap) (locs : List Loc), va_P (dC, dI) vwCl (mW cB cI cZ h qK qS ad s_3.2.2) H → va_S (mCells h ad sz) s.heap H locs → ∀ ls : Array Slot, lv_has ls 4 [(0, .ref h), (1, .int s_3.1), (2, .int s_3.2.1)] → W p l e (headSpec (g_ws yX12_block cX12_block 4 (some .int)) { frames := 307 + (d + 1), cells := 0, slots := 0, locals := 7070 + 24 * (d + 1) }).room s m ([.ref h] : List Value).toArray below meth c H locs 0 0 (MQ below (va_Qi (fun r (_ : Unit) => r = res.1) (fun _ t => va_P (dC, dI) vwCl (mW cB cI cZ h qK qS ad res.2) t.heap) (mCells h ad sz)) ([.ref h] : List Value).toArray s 0 0 (mCells h ad sz)) (F0 m 10 ls [])) ?_ _ _ hF_2 _ _ hP hS ls (lv_sub hl [2, 1, 0] rfl)
  intro again_4 s_3 ih_5 hF_6
  intro H locs hP hS ls hl
  refine lv_aload_n hx hb dX12_block_10 rfl (lv_at hl 0 rfl) ?_
  refine va_get (D := (dC, dI)) (ci := 12) (v := .int (s_3.2.2.1 27)) (C := RX12) (T := TX12) (N := 123) hx hb hts ii_X12 hown hK hP 0 rfl rfl 27 (by decide) (hts (.fieldLink RX12 304 "StoryHouseModel" "stopped" "Z") wq_1383) (fun _ h9 => h9) rfl dX12_block_11 ?_
  obtain ⟨j_8, ej_8, hF_9⟩ := bnd_e hF_6
  clear hF_6
  have Jj_8 : ∀  (σ_7 : MS), j_8  σ_7 = some res → ∀ (H : Heap) (locs : List Loc), va_P (dC, dI) vwCl (mW cB cI cZ h qK qS ad σ_7) H → va_S (mCells h ad sz) s.heap H locs → ∀ ls : Array Slot, lv_has ls 4 [(0, .ref h), (1, .int s_3.1)] → W p l e (headSpec (g_ws yX12_block cX12_block 4 (some .int)) { frames := 307 + (d + 1), cells := 0, slots := 0, locals := 7070 + 24 * (d + 1) }).room s m ([.ref h] : List Value).toArray below meth c H locs 0 0 (MQ below (va_Qi (fun r (_ : Unit) => r = res.1) (fun _ t => va_P (dC, dI) vwCl (mW cB cI cZ h qK qS ad res.2) t.heap) (mCells h ad sz)) ([.ref h] : List Value).toArray s 0 0 (mCells h ad sz)) (F0 m 52 ls []) := by
    intro  σ_7 hF0 H locs hP hS ls hl
    subst ej_8
    have hF_10 := hF0
    clear hF0
    refine lv_aload_n hx hb dX12_block_52 rfl (lv_at hl 0 rfl) ?_
    refine lv_bipush (v := 125) hx hb dX12_block_53 (by decide +kernel) ?_
    obtain ⟨u_11, hu_11, hF_12⟩ := Option.bind_eq_some_iff.mp hF_10
    clear hF_10
    refine m_cv hsz hS (va_runV (As := [.int 125]) (rest := []) ⟨hx, hb, hml, hown, hts⟩ (m_X12_shut l dC dI cB cC cI cJ cZ cP h qK qS ad hDD H.size  125 σ_7 _ hu_11) (cwV 1 hts (g_gV wq_1582 wq_1583 wq_2140 wq_13 wq_1584) rfl rfl rfl (by decide +kernel) ⟨by show 4 + 1 ≤ 307 + (d + 1); omega, by show 8 + (2 + 11) + 103 ≤ 7070 + 24 * (d + 1); omega⟩) (m_preV g_bl0 hsz hK hP hS hE hKS g_to0) rfl rfl hl.1 rfl (lv_room (Nat.le_of_ble_eq_true rfl)) dX12_block_55 ⟨Nat.le_of_ble_eq_true rfl, Nat.le_of_ble_eq_true rfl⟩) (fun H locs hP hS => ?_)
    refine lv_aload_n hx hb dX12_block_58 rfl (lv_at hl 0 rfl) ?_
    refine lv_bipush (v := 34) hx hb dX12_block_59 (by decide +kernel) ?_
    refine lv_iconst (v := 0) hx hb dX12_block_61 (by decide +kernel) ?_
    obtain ⟨u_13, hu_13, hF_14⟩ := Option.bind_eq_some_iff.mp hF_12
    clear hF_12
    refine m_ci hsz hS (va_runV (As := [.int 34, .int 0]) (rest := []) ⟨hx, hb, hml, hown, hts⟩ (m_X12_node l dC dI cB cC cI cJ cZ cP h qK qS ad hDD H.size  34 0 u_11.2 _ hu_13) (cwV 2 hts (g_gV wq_1540 wq_1541 wq_2126 wq_13 wq_1542) rfl rfl rfl (by decide +kernel) ⟨by show 1 + 1 ≤ 307 + (d + 1); omega, by show 8 + (3 + 11) + 40 ≤ 7070 + 24 * (d + 1); omega⟩) (m_preV g_bl0 hsz hK hP hS hE hKS g_to0) rfl rfl hl.1 rfl (lv_room (Nat.le_of_ble_eq_true rfl)) dX12_block_62 ⟨Nat.le_of_ble_eq_true rfl, Nat.le_of_ble_eq_true rfl⟩) (fun H locs hP hS => ?_)
    refine lv_istore_n (lv' := [(3, .int u_13.1), (0, .ref h), (1, .int s_3.1)]) hx hb dX12_block_65 rfl hl (by decide) rfl (fun ls hl => ?_)
    refine lv_aload_n hx hb dX12_block_66 rfl (lv_at hl 1 rfl) ?_
    refine va_get (D := (dC, dI)) (ci := 12) (v := .ref (ad 19)) (C := RX12) (T := TX12) (N := 123) hx hb hts ii_X12 hown hK hP 0 rfl rfl 19 (by decide) (hts (.fieldLink RX12 55 "StoryHouseModel" "a" "[I") wq_1375) (fun _ h9 => h9) rfl dX12_block_67 ?_
    refine lv_iload_n hx hb dX12_block_70 rfl (lv_at hl 0 rfl) ?_
    refine lv_iload_n hx hb dX12_block_71 rfl (lv_at hl 2 rfl) ?_
    obtain ⟨g_15, hF_16⟩ := nif_e hF_14
    clear hF_14
    obtain ⟨σ_17, eσ_17, hF_18⟩ := bnd_e hF_16
    clear hF_16
    refine m_iast (σ' := σ_17) hx hb hK hP (hDD _ _) hS (q0 := 10) (t0 := 2) (f := u_13.2.2 19) rfl rfl (by rw [eσ_17]; exact mwA_19) g_15 dX12_block_72 (fun H locs hP hS => ?_)
    refine lv_iload_n hx hb dX12_block_73 rfl (lv_at hl 0 rfl) ?_
    have h9 := Option.some.inj hF_18
    subst h9
    exact W.iret (v := u_13.1) hx hb hr (fun t ht hW => ⟨⟨u_13.1, (), rfl, rfl, m_end ht hP⟩, hS.F ht⟩) hS.2.2 dX12_block_74
  refine lv_if_ne (tgt := 52) hx hb dX12_block_14 (by decide) (fun c_19 => ?_) (fun c_19 => ?_)
  · have hF_40 := ineg c_19 hF_9
    clear hF_9
    exact Jj_8  s_3.2.2 hF_40 _ _ hP hS ls (lv_sub hl [0, 1] rfl)
  · have hF_20 := ipos c_19 hF_9
    clear hF_9
    refine lv_aload_n hx hb dX12_block_17 rfl (lv_at hl 0 rfl) ?_
    refine lv_bipush (v := 125) hx hb dX12_block_18 (by decide +kernel) ?_
    obtain ⟨u_21, hu_21, hF_22⟩ := Option.bind_eq_some_iff.mp hF_20
    clear hF_20
    refine m_ci hsz hS (va_runV (As := [.int 125]) (rest := []) ⟨hx, hb, hml, hown, hts⟩ (m_X12_isSign l dC dI cB cC cI cJ cZ cP h qK qS ad hDD H.size  125 s_3.2.2 _ hu_21) (cwV 1 hts (g_gV wq_1558 wq_1559 wq_2132 wq_13 wq_1560) rfl rfl rfl (by decide +kernel) ⟨by show 1 + 1 ≤ 307 + (d + 1); omega, by show 8 + (2 + 11) + 40 ≤ 7070 + 24 * (d + 1); omega⟩) (m_preV g_bl0 hsz hK hP hS hE hKS g_to0) rfl rfl hl.1 rfl (lv_room (Nat.le_of_ble_eq_true rfl)) dX12_block_20 ⟨Nat.le_of_ble_eq_true rfl, Nat.le_of_ble_eq_true rfl⟩) (fun H locs hP hS => ?_)
    refine lv_if_ne (tgt := 52) hx hb dX12_block_23 (by decide) (fun c_23 => ?_) (fun c_23 => ?_)
    · have hF_39 := ineg c_23 hF_22
      clear hF_22
      exact Jj_8  u_21.2 hF_39 _ _ hP hS ls (lv_sub hl [0, 1] rfl)
    · have hF_24 := ipos c_23 hF_22
      clear hF_22
      refine lv_aload_n hx hb dX12_block_26 rfl (lv_at hl 0 rfl) ?_
      obtain ⟨u_25, hu_25, hF_26⟩ := Option.bind_eq_some_iff.mp hF_24
      clear hF_24
      refine m_ci hsz hS (va_runV (As := []) (rest := []) ⟨hx, hb, hml, hown, hts⟩ (hI1 H.size u_21.2 _ hu_25) (cwV 0 hts (g_gV wq_1594 wq_1595 wq_2144 wq_13 wq_1596) rfl rfl rfl (by decide +kernel) ⟨by show 307 + d + 1 ≤ 307 + (d + 1); omega, by show 8 + (5 + 11) + (7070 + 24 * d) ≤ 7070 + 24 * (d + 1); omega⟩) (m_preV g_bl0 hsz hK hP hS hE hKS g_to0) rfl rfl hl.1 rfl (lv_room (Nat.le_of_ble_eq_true rfl)) dX12_block_27 ⟨Nat.le_of_ble_eq_true rfl, Nat.le_of_ble_eq_true rfl⟩) (fun H locs hP hS => ?_)
      refine lv_istore_n (lv' := [(3, .int u_25.1), (0, .ref h), (1, .int s_3.1), (2, .int s_3.2.1)]) hx hb dX12_block_30 rfl hl (by decide) rfl (fun ls hl => ?_)
      refine lv_iload_n hx hb dX12_block_31 rfl (lv_at hl 3 rfl) ?_
      obtain ⟨j_29, ej_29, hF_30⟩ := bnd_e hF_26
      clear hF_26
      have Jj_29 : ∀ (v1_27 : Int32) (σ_28 : MS), j_29 v1_27 σ_28 = some res → ∀ (H : Heap) (locs : List Loc), va_P (dC, dI) vwCl (mW cB cI cZ h qK qS ad σ_28) H → va_S (mCells h ad sz) s.heap H locs → ∀ ls : Array Slot, lv_has ls 4 [(0, .ref h), (1, .int v1_27), (3, .int u_25.1)] → W p l e (headSpec (g_ws yX12_block cX12_block 4 (some .int)) { frames := 307 + (d + 1), cells := 0, slots := 0, locals := 7070 + 24 * (d + 1) }).room s m ([.ref h] : List Value).toArray below meth c H locs 0 0 (MQ below (va_Qi (fun r (_ : Unit) => r = res.1) (fun _ t => va_P (dC, dI) vwCl (mW cB cI cZ h qK qS ad res.2) t.heap) (mCells h ad sz)) ([.ref h] : List Value).toArray s 0 0 (mCells h ad sz)) (F0 m 47 ls []) := by
        intro v1_27 σ_28 hF0 H locs hP hS ls hl
        subst ej_29
        have hF_31 := hF0
        clear hF0
        refine lv_iload_n hx hb dX12_block_47 rfl (lv_at hl 2 rfl) ?_
        refine lv_istore_n (lv' := [(2, .int u_25.1), (0, .ref h), (1, .int v1_27), (3, .int u_25.1)]) hx hb dX12_block_48 rfl hl (by decide) rfl (fun ls hl => ?_)
        refine lv_goto (tgt := 10) hx hb dX12_block_49 (by decide) ?_
        exact ih_5 (v1_27, u_25.1, σ_28) hF_31 _ _ hP hS ls (lv_sub hl [1, 2, 0] rfl)
      refine lv_if_ge (tgt := 40) hx hb dX12_block_32 (by decide) (fun c_32 => ?_) (fun c_32 => ?_)
      · have hF_33 := ipos c_32 hF_30
        clear hF_30
        refine lv_aload_n hx hb dX12_block_40 rfl (lv_at hl 1 rfl) ?_
        refine va_get (D := (dC, dI)) (ci := 12) (v := .ref (ad 22)) (C := RX12) (T := TX12) (N := 123) hx hb hts ii_X12 hown hK hP 0 rfl rfl 22 (by decide) (hts (.fieldLink RX12 64 "StoryHouseModel" "then" "[I") wq_1378) (fun _ h9 => h9) rfl dX12_block_41 ?_
        refine lv_iload_n hx hb dX12_block_44 rfl (lv_at hl 3 rfl) ?_
        refine lv_iload_n hx hb dX12_block_45 rfl (lv_at hl 0 rfl) ?_
        obtain ⟨g_34, hF_35⟩ := nif_e hF_33
        clear hF_33
        obtain ⟨σ_36, eσ_36, hF_37⟩ := bnd_e hF_35
        clear hF_35
        refine m_iast (σ' := σ_36) hx hb hK hP (hDD _ _) hS (q0 := 13) (t0 := 2) (f := u_25.2.2 22) rfl rfl (by rw [eσ_36]; exact mwA_22) g_34 dX12_block_46 (fun H locs hP hS => ?_)
        exact Jj_29 s_3.1 σ_36 hF_37 _ _ hP hS ls (lv_sub hl [1, 2, 0] rfl)
      · have hF_38 := ineg c_32 hF_30
        clear hF_30
        refine lv_iload_n hx hb dX12_block_35 rfl (lv_at hl 0 rfl) ?_
        refine lv_istore_n (lv' := [(1, .int u_25.1), (3, .int u_25.1), (0, .ref h), (2, .int s_3.2.1)]) hx hb dX12_block_36 rfl hl (by decide) rfl (fun ls hl => ?_)
        refine lv_goto (tgt := 47) hx hb dX12_block_37 (by decide) ?_
        exact Jj_29 u_25.1 u_25.2 hF_38 _ _ hP hS ls (lv_sub hl [2, 0, 1] rfl)

def F_X12_statement (rec : GF)  (σ : MS) : MR :=
  bnd ((σ.1 25)) fun (x_1 : Int32) =>
  if x_1 < 0 ∨ 16010 ≤ x_1.toNatClampNeg then none else
  bnd ((σ.2 8 x_1.toNatClampNeg)) fun (x_5 : Int32) =>
  (F_X12_node 30 x_5 σ).bind fun u_7 =>
  (F_X12_tookKey 35 u_7.2).bind fun u_9 =>
  bnd (fun  (σ_11 : MS) => (
    (F_X12_need 59 σ_11).bind fun u_15 =>
    some (u_7.1, u_15.2)
  ) : MS → MR) fun j_12 =>
  if u_9.1 = 0 then (
    (F_X12_tookKey 19 u_9.2).bind fun u_19 =>
    if u_19.1 = 0 then (
      (F_X12_tookKey 21 u_19.2).bind fun u_23 =>
      if u_23.1 = 0 then (
        (F_X12_tookKey 32 u_23.2).bind fun u_27 =>
        if u_27.1 = 0 then (
          (F_X12_isKey 37 u_27.2).bind fun u_31 =>
          bnd (fun  (σ_33 : MS) => (
            if u_7.1 < 0 ∨ 40000 ≤ u_7.1.toNatClampNeg then none else
            bnd (mA σ_33 17 (upd (σ_33.2 17) u_7.1.toNatClampNeg 26)) fun σ_39 =>
            (F_X12_isKey 37 σ_39).bind fun u_41 =>
            bnd (fun (t_43 : Int32) (σ_44 : MS) => (
              if u_7.1 < 0 ∨ 40000 ≤ u_7.1.toNatClampNeg then none else
              bnd (mA σ_44 21 (upd (σ_44.2 21) u_7.1.toNatClampNeg t_43)) fun σ_50 =>
              bnd (mI σ_50 25 ((σ_50.1 25) + 1)) fun σ_52 =>
              (G_X12_expression σ_52).bind fun u_54 =>
              if u_7.1 < 0 ∨ 40000 ≤ u_7.1.toNatClampNeg then none else
              bnd (mA u_54.2 19 (upd (u_54.2.2 19) u_7.1.toNatClampNeg u_54.1)) fun σ_58 =>
              (F_X12_attribute σ_58).bind fun u_60 =>
              if u_7.1 < 0 ∨ 40000 ≤ u_7.1.toNatClampNeg then none else
              bnd (mA u_60.2 20 (upd (u_60.2.2 20) u_7.1.toNatClampNeg u_60.1)) fun σ_64 =>
              j_12  σ_64
            ) : Int32 → MS → MR) fun j_45 =>
            if u_41.1 = 0 then (
              j_45 0 u_41.2
            ) else (
              j_45 1 u_41.2
            )
          ) : MS → MR) fun j_34 =>
          if u_31.1 = 0 then (
            (F_X12_isKey 38 u_31.2).bind fun u_71 =>
            if u_71.1 = 0 then (
              (F_X12_tookKey 17 u_71.2).bind fun u_75 =>
              if u_75.1 = 0 then (
                (F_X12_tookKey 48 u_75.2).bind fun u_79 =>
                if u_79.1 = 0 then (
                  (F_X12_tookKey 33 u_79.2).bind fun u_83 =>
                  if u_83.1 = 0 then (
                    (F_X12_tookKey 7 u_83.2).bind fun u_87 =>
                    if u_87.1 = 0 then (
                      (F_X12_tookKey 49 u_87.2).bind fun u_91 =>
                      if u_91.1 = 0 then (
                        (F_X12_tookKey 20 u_91.2).bind fun u_95 =>
                        if u_95.1 = 0 then (
                          (F_X12_named u_7.1 u_95.2).bind fun u_99 =>
                          j_12  u_99.2
                        ) else (
                          if u_7.1 < 0 ∨ 40000 ≤ u_7.1.toNatClampNeg then none else
                          bnd (mA u_95.2 17 (upd (u_95.2.2 17) u_7.1.toNatClampNeg 32)) fun σ_104 =>
                          j_12  σ_104
                        )
                      ) else (
                        if u_7.1 < 0 ∨ 40000 ≤ u_7.1.toNatClampNeg then none else
                        bnd (mA u_91.2 17 (upd (u_91.2.2 17) u_7.1.toNatClampNeg 31)) fun σ_109 =>
                        j_12  σ_109
                      )
                    ) else (
                      if u_7.1 < 0 ∨ 40000 ≤ u_7.1.toNatClampNeg then none else
                      bnd (mA u_87.2 17 (upd (u_87.2.2 17) u_7.1.toNatClampNeg 30)) fun σ_114 =>
                      j_12  σ_114
                    )
                  ) else (
                    if u_7.1 < 0 ∨ 40000 ≤ u_7.1.toNatClampNeg then none else
                    bnd (mA u_83.2 17 (upd (u_83.2.2 17) u_7.1.toNatClampNeg 29)) fun σ_119 =>
                    (G_X12_expression σ_119).bind fun u_121 =>
                    if u_7.1 < 0 ∨ 40000 ≤ u_7.1.toNatClampNeg then none else
                    bnd (mA u_121.2 19 (upd (u_121.2.2 19) u_7.1.toNatClampNeg u_121.1)) fun σ_125 =>
                    j_12  σ_125
                  )
                ) else (
                  if u_7.1 < 0 ∨ 40000 ≤ u_7.1.toNatClampNeg then none else
                  bnd (mA u_79.2 17 (upd (u_79.2.2 17) u_7.1.toNatClampNeg 28)) fun σ_130 =>
                  (G_X12_expression σ_130).bind fun u_132 =>
                  if u_7.1 < 0 ∨ 40000 ≤ u_7.1.toNatClampNeg then none else
                  bnd (mA u_132.2 19 (upd (u_132.2.2 19) u_7.1.toNatClampNeg u_132.1)) fun σ_136 =>
                  (rec 0 0 0 0 σ_136).bind fun u_138 =>
                  if u_7.1 < 0 ∨ 40000 ≤ u_7.1.toNatClampNeg then none else
                  bnd (mA u_138.2 20 (upd (u_138.2.2 20) u_7.1.toNatClampNeg u_138.1)) fun σ_142 =>
                  some (u_7.1, σ_142)
                )
              ) else (
                if u_7.1 < 0 ∨ 40000 ≤ u_7.1.toNatClampNeg then none else
                bnd (mA u_75.2 17 (upd (u_75.2.2 17) u_7.1.toNatClampNeg 27)) fun σ_147 =>
                (rec 2 u_7.1 0 0 σ_147).bind fun u_149 =>
                some (u_7.1, u_149.2)
              )
            ) else (
              j_34  u_71.2
            )
          ) else (
            j_34  u_31.2
          )
        ) else (
          if u_7.1 < 0 ∨ 40000 ≤ u_7.1.toNatClampNeg then none else
          bnd (mA u_27.2 17 (upd (u_27.2.2 17) u_7.1.toNatClampNeg 25)) fun σ_156 =>
          (G_X12_expression σ_156).bind fun u_158 =>
          if u_7.1 < 0 ∨ 40000 ≤ u_7.1.toNatClampNeg then none else
          bnd (mA u_158.2 19 (upd (u_158.2.2 19) u_7.1.toNatClampNeg u_158.1)) fun σ_162 =>
          j_12  σ_162
        )
      ) else (
        if u_7.1 < 0 ∨ 40000 ≤ u_7.1.toNatClampNeg then none else
        bnd (mA u_23.2 17 (upd (u_23.2.2 17) u_7.1.toNatClampNeg 24)) fun σ_167 =>
        (G_X12_expression σ_167).bind fun u_169 =>
        if u_7.1 < 0 ∨ 40000 ≤ u_7.1.toNatClampNeg then none else
        bnd (mA u_169.2 19 (upd (u_169.2.2 19) u_7.1.toNatClampNeg u_169.1)) fun σ_173 =>
        (F_X12_needKey 42 σ_173).bind fun u_175 =>
        (G_X12_expression u_175.2).bind fun u_177 =>
        if u_7.1 < 0 ∨ 40000 ≤ u_7.1.toNatClampNeg then none else
        bnd (mA u_177.2 20 (upd (u_177.2.2 20) u_7.1.toNatClampNeg u_177.1)) fun σ_181 =>
        j_12  σ_181
      )
    ) else (
      if u_7.1 < 0 ∨ 40000 ≤ u_7.1.toNatClampNeg then none else
      bnd (mA u_19.2 17 (upd (u_19.2.2 17) u_7.1.toNatClampNeg 21)) fun σ_186 =>
      (F_X12_name σ_186).bind fun u_188 =>
      if u_7.1 < 0 ∨ 40000 ≤ u_7.1.toNatClampNeg then none else
      bnd (mA u_188.2 19 (upd (u_188.2.2 19) u_7.1.toNatClampNeg u_188.1)) fun σ_192 =>
      (F_X12_need 61 σ_192).bind fun u_194 =>
      (G_X12_expression u_194.2).bind fun u_196 =>
      if u_7.1 < 0 ∨ 40000 ≤ u_7.1.toNatClampNeg then none else
      bnd (mA u_196.2 20 (upd (u_196.2.2 20) u_7.1.toNatClampNeg u_196.1)) fun σ_200 =>
      j_12  σ_200
    )
  ) else (
    if u_7.1 < 0 ∨ 40000 ≤ u_7.1.toNatClampNeg then none else
    bnd (mA u_9.2 17 (upd (u_9.2.2 17) u_7.1.toNatClampNeg 20)) fun σ_205 =>
    (F_X12_telling σ_205).bind fun u_207 =>
    if u_7.1 < 0 ∨ 40000 ≤ u_7.1.toNatClampNeg then none else
    bnd (mA u_207.2 19 (upd (u_207.2.2 19) u_7.1.toNatClampNeg u_207.1)) fun σ_211 =>
    if u_7.1 < 0 ∨ 40000 ≤ u_7.1.toNatClampNeg then none else
    bnd ((σ_211.2 19 u_7.1.toNatClampNeg)) fun (x_215 : Int32) =>
    loopF (fun (again_218 : (Int32 × MS) → MR) (s_217 : Int32 × MS) => (
      (F_X12_took 44 s_217.2).bind fun u_221 =>
      if u_221.1 = 0 then (
        j_12  u_221.2
      ) else (
        (F_X12_telling u_221.2).bind fun u_226 =>
        if s_217.1 < 0 ∨ 40000 ≤ s_217.1.toNatClampNeg then none else
        bnd (mA u_226.2 22 (upd (u_226.2.2 22) s_217.1.toNatClampNeg u_226.1)) fun σ_230 =>
        again_218 (u_226.1, σ_230)
      )
    )) FU (x_215, σ_211)
  )
set_option maxHeartbeats 4000000 in
set_option maxRecDepth 100000 in
theorem m_X12_statement_st (l : Launch) (dC : Nat → ClassId) (dI : Nat → Nat → Nat) (cB cC cI cJ cZ cP : ClassId) (h qK qS : Nat) (ad : Nat → Nat) (hDD : mDis cB cI cZ h qK qS ad) (d : Nat) (rec : GF) (hI0 : ∀ (sz : Nat)  (σ : MS) (res : Int32 × MS), rec 0 0 0 0 σ = some res → Met l yX12_block (g_ws yX12_block cX12_block 4 (some .int)) ({ frames := 307 + d, cells := 0, slots := 0, locals := 7070 + 24 * d }) (va_Pc [.ref h] (m_B (dC, dI) [(cB, .byte), (cC, .char), (cI, .int), (cJ, .long), (cZ, .boolean), (cP, .object "StoryHouse$Play")] sz h ad qK qS (mW cB cI cZ h qK qS ad σ) g_0)) (va_Qi (fun r (_ : Unit) => r = res.1) (fun _ t => va_P (dC, dI) vwCl (mW cB cI cZ h qK qS ad res.2) t.heap) (mCells h ad sz)) 0 0 (mCells h ad sz)) (hI1 : ∀ (sz : Nat)  (σ : MS) (res : Int32 × MS), rec 1 0 0 0 σ = some res → Met l yX12_statement (g_ws yX12_statement cX12_statement 5 (some .int)) ({ frames := 307 + d, cells := 0, slots := 0, locals := 7070 + 24 * d }) (va_Pc [.ref h] (m_B (dC, dI) [(cB, .byte), (cC, .char), (cI, .int), (cJ, .long), (cZ, .boolean), (cP, .object "StoryHouse$Play")] sz h ad qK qS (mW cB cI cZ h qK qS ad σ) g_0)) (va_Qi (fun r (_ : Unit) => r = res.1) (fun _ t => va_P (dC, dI) vwCl (mW cB cI cZ h qK qS ad res.2) t.heap) (mCells h ad sz)) 0 0 (mCells h ad sz)) (hI2 : ∀ (sz : Nat) (p0 : Int32) (σ : MS) (res : Int32 × MS), rec 2 p0 0 0 σ = some res → Met l yX12_iff (g_ws yX12_iff cX12_iff 3 none) ({ frames := 307 + d, cells := 0, slots := 0, locals := 7070 + 24 * d }) (va_Pc [.ref h, .int p0] (m_B (dC, dI) [(cB, .byte), (cC, .char), (cI, .int), (cJ, .long), (cZ, .boolean), (cP, .object "StoryHouse$Play")] sz h ad qK qS (mW cB cI cZ h qK qS ad σ) g_0)) (va_Qv (fun (_ : Unit) => True) (fun _ t => va_P (dC, dI) vwCl (mW cB cI cZ h qK qS ad res.2) t.heap) (mCells h ad sz)) 0 0 (mCells h ad sz)) (sz : Nat)   (σ : MS) (res : Int32 × MS) (hF : F_X12_statement rec  σ = some res) : Met l yX12_statement (g_ws yX12_statement cX12_statement 5 (some .int)) ({ frames := 307 + (d + 1), cells := 0, slots := 0, locals := 7070 + 24 * (d + 1) }) (va_Pc [.ref h] (m_B (dC, dI) [(cB, .byte), (cC, .char), (cI, .int), (cJ, .long), (cZ, .boolean), (cP, .object "StoryHouse$Play")] sz h ad qK qS (mW cB cI cZ h qK qS ad σ) g_0)) (va_Qi (fun r (_ : Unit) => r = res.1) (fun _ t => va_P (dC, dI) vwCl (mW cB cI cZ h qK qS ad res.2) t.heap) (mCells h ad sz)) 0 0 (mCells h ad sz) := by
  refine Met.ofW (cc := cX12_statement) (maxL := 5) (ret := (some .int)) (by decide) rfl ?_
  intro p e s m args below meth c s₁ B hml hv
  obtain ⟨rfl, hsz, hP, hK, hE, hKS, hX⟩ := hv
  have hx := B.exec
  have hb := B.bytes
  have hr := B.returns
  have hts0 := atoms_spec (ws := g_ws yX12_statement cX12_statement 5 (some .int)) B.pre
  have hts : ∀ w ∈ lw_good, w.before ([.ref h] : List Value).toArray s = true := fun w z => hts0 w (List.mem_cons_of_mem _ z)
  have hown : s.vm.findClass RX12 = some m.cls := findClass_of_methodNamed B.named
  have hlocks := B.notSynchronized
  have hS : va_S (mCells h ad sz) s.heap s.heap [] := va_S.rf
  have hl := lv_entry ([.ref h]) (n := 5) (Nat.le_of_ble_eq_true rfl)
  rw [lg_entry_eq]
  generalize (lg_sl ([.ref h]) ++ List.replicate (5 - (lg_sl ([.ref h])).length) Slot.unset).toArray = ls at hl ⊢
  have hl : lv_has ls 5 [(0, .ref h)] := hl
  unfold F_X12_statement at hF
  refine lv_aload_n hx hb dX12_statement_0 rfl (lv_at hl 0 rfl) ?_
  refine va_get (D := (dC, dI)) (ci := 12) (v := .ref (ad 8)) (C := RX12) (T := TX12) (N := 123) hx hb hts ii_X12 hown hK hP 0 rfl rfl 8 (by decide) (hts (.fieldLink RX12 31 "StoryHouseModel" "tokAt" "[I") wq_1364) (fun _ h9 => h9) rfl dX12_statement_1 ?_
  refine lv_aload_n hx hb dX12_statement_4 rfl (lv_at hl 0 rfl) ?_
  refine va_get (D := (dC, dI)) (ci := 12) (v := .int (σ.1 25)) (C := RX12) (T := TX12) (N := 123) hx hb hts ii_X12 hown hK hP 0 rfl rfl 25 (by decide) (hts (.fieldLink RX12 314 "StoryHouseModel" "at" "I") wq_1381) (fun _ h9 => h9) rfl dX12_statement_5 ?_
  obtain ⟨x_1, ex_1, hF_2⟩ := bnd_e hF
  clear hF
  refine m_top ex_1 ?_
  obtain ⟨g_3, hF_4⟩ := nif_e hF_2
  clear hF_2
  refine va_iald (f := σ.2 8) hx hb hK hP 4 2 rfl rfl g_3 dX12_statement_8 ?_
  obtain ⟨x_5, ex_5, hF_6⟩ := bnd_e hF_4
  clear hF_4
  refine m_top ex_5 ?_
  refine lv_istore_n (lv' := [(1, .int x_5), (0, .ref h)]) hx hb dX12_statement_9 rfl hl (by decide) rfl (fun ls hl => ?_)
  refine lv_aload_n hx hb dX12_statement_10 rfl (lv_at hl 1 rfl) ?_
  refine lv_bipush (v := 30) hx hb dX12_statement_11 (by decide +kernel) ?_
  refine lv_iload_n hx hb dX12_statement_13 rfl (lv_at hl 0 rfl) ?_
  obtain ⟨u_7, hu_7, hF_8⟩ := Option.bind_eq_some_iff.mp hF_6
  clear hF_6
  refine m_ci hsz hS (va_runV (As := [.int 30, .int x_5]) (rest := []) ⟨hx, hb, hml, hown, hts⟩ (m_X12_node l dC dI cB cC cI cJ cZ cP h qK qS ad hDD s.heap.size  30 x_5 σ _ hu_7) (cwV 2 hts (g_gV wq_1540 wq_1541 wq_2126 wq_13 wq_1542) rfl rfl rfl (by decide +kernel) ⟨by show 1 + 1 ≤ 307 + (d + 1); omega, by show 8 + (3 + 11) + 40 ≤ 7070 + 24 * (d + 1); omega⟩) (m_preV g_bl0 hsz hK hP hS hE hKS g_to0) rfl rfl hl.1 rfl (lv_room (Nat.le_of_ble_eq_true rfl)) dX12_statement_14 ⟨Nat.le_of_ble_eq_true rfl, Nat.le_of_ble_eq_true rfl⟩) (fun H locs hP hS => ?_)
  refine lv_istore_n (lv' := [(2, .int u_7.1), (1, .int x_5), (0, .ref h)]) hx hb dX12_statement_17 rfl hl (by decide) rfl (fun ls hl => ?_)
  refine lv_aload_n hx hb dX12_statement_18 rfl (lv_at hl 2 rfl) ?_
  refine lv_bipush (v := 35) hx hb dX12_statement_19 (by decide +kernel) ?_
  obtain ⟨u_9, hu_9, hF_10⟩ := Option.bind_eq_some_iff.mp hF_8
  clear hF_8
  refine m_ci hsz hS (va_runV (As := [.int 35]) (rest := []) ⟨hx, hb, hml, hown, hts⟩ (m_X12_tookKey l dC dI cB cC cI cJ cZ cP h qK qS ad hDD H.size  35 u_7.2 _ hu_9) (cwV 1 hts (g_gV wq_1573 wq_1574 wq_2137 wq_13 wq_1575) rfl rfl rfl (by decide +kernel) ⟨by show 2 + 1 ≤ 307 + (d + 1); omega, by show 8 + (2 + 11) + 61 ≤ 7070 + 24 * (d + 1); omega⟩) (m_preV g_bl0 hsz hK hP hS hE hKS g_to0) rfl rfl hl.1 rfl (lv_room (Nat.le_of_ble_eq_true rfl)) dX12_statement_21 ⟨Nat.le_of_ble_eq_true rfl, Nat.le_of_ble_eq_true rfl⟩) (fun H locs hP hS => ?_)
  obtain ⟨j_12, ej_12, hF_13⟩ := bnd_e hF_10
  clear hF_10
  have Jj_12 : ∀  (σ_11 : MS), j_12  σ_11 = some res → ∀ (H : Heap) (locs : List Loc), va_P (dC, dI) vwCl (mW cB cI cZ h qK qS ad σ_11) H → va_S (mCells h ad sz) s.heap H locs → ∀ ls : Array Slot, lv_has ls 5 [(0, .ref h), (2, .int u_7.1)] → W p l e (headSpec (g_ws yX12_statement cX12_statement 5 (some .int)) { frames := 307 + (d + 1), cells := 0, slots := 0, locals := 7070 + 24 * (d + 1) }).room s m ([.ref h] : List Value).toArray below meth c H locs 0 0 (MQ below (va_Qi (fun r (_ : Unit) => r = res.1) (fun _ t => va_P (dC, dI) vwCl (mW cB cI cZ h qK qS ad res.2) t.heap) (mCells h ad sz)) ([.ref h] : List Value).toArray s 0 0 (mCells h ad sz)) (F0 m 443 ls []) := by
    intro  σ_11 hF0 H locs hP hS ls hl
    subst ej_12
    have hF_14 := hF0
    clear hF0
    refine lv_aload_n hx hb dX12_statement_443 rfl (lv_at hl 0 rfl) ?_
    refine lv_bipush (v := 59) hx hb dX12_statement_444 (by decide +kernel) ?_
    obtain ⟨u_15, hu_15, hF_16⟩ := Option.bind_eq_some_iff.mp hF_14
    clear hF_14
    refine m_cv hsz hS (va_runV (As := [.int 59]) (rest := []) ⟨hx, hb, hml, hown, hts⟩ (m_X12_need l dC dI cB cC cI cJ cZ cP h qK qS ad hDD H.size  59 σ_11 _ hu_15) (cwV 1 hts (g_gV wq_1564 wq_1565 wq_2134 wq_13 wq_1566) rfl rfl rfl (by decide +kernel) ⟨by show 3 + 1 ≤ 307 + (d + 1); omega, by show 8 + (2 + 11) + 82 ≤ 7070 + 24 * (d + 1); omega⟩) (m_preV g_bl0 hsz hK hP hS hE hKS g_to0) rfl rfl hl.1 rfl (lv_room (Nat.le_of_ble_eq_true rfl)) dX12_statement_446 ⟨Nat.le_of_ble_eq_true rfl, Nat.le_of_ble_eq_true rfl⟩) (fun H locs hP hS => ?_)
    refine lv_iload_n hx hb dX12_statement_449 rfl (lv_at hl 1 rfl) ?_
    have h9 := Option.some.inj hF_16
    subst h9
    exact W.iret (v := u_7.1) hx hb hr (fun t ht hW => ⟨⟨u_7.1, (), rfl, rfl, m_end ht hP⟩, hS.F ht⟩) hS.2.2 dX12_statement_450
  refine lv_if_eq (tgt := 84) hx hb dX12_statement_24 (by decide) (fun c_17 => ?_) (fun c_17 => ?_)
  · have hF_18 := ipos c_17 hF_13
    clear hF_13
    refine lv_aload_n hx hb dX12_statement_84 rfl (lv_at hl 2 rfl) ?_
    refine lv_bipush (v := 19) hx hb dX12_statement_85 (by decide +kernel) ?_
    obtain ⟨u_19, hu_19, hF_20⟩ := Option.bind_eq_some_iff.mp hF_18
    clear hF_18
    refine m_ci hsz hS (va_runV (As := [.int 19]) (rest := []) ⟨hx, hb, hml, hown, hts⟩ (m_X12_tookKey l dC dI cB cC cI cJ cZ cP h qK qS ad hDD H.size  19 u_9.2 _ hu_19) (cwV 1 hts (g_gV wq_1573 wq_1574 wq_2137 wq_13 wq_1575) rfl rfl rfl (by decide +kernel) ⟨by show 2 + 1 ≤ 307 + (d + 1); omega, by show 8 + (2 + 11) + 61 ≤ 7070 + 24 * (d + 1); omega⟩) (m_preV g_bl0 hsz hK hP hS hE hKS g_to0) rfl rfl hl.1 rfl (lv_room (Nat.le_of_ble_eq_true rfl)) dX12_statement_87 ⟨Nat.le_of_ble_eq_true rfl, Nat.le_of_ble_eq_true rfl⟩) (fun H locs hP hS => ?_)
    refine lv_if_eq (tgt := 130) hx hb dX12_statement_90 (by decide) (fun c_21 => ?_) (fun c_21 => ?_)
    · have hF_22 := ipos c_21 hF_20
      clear hF_20
      refine lv_aload_n hx hb dX12_statement_130 rfl (lv_at hl 2 rfl) ?_
      refine lv_bipush (v := 21) hx hb dX12_statement_131 (by decide +kernel) ?_
      obtain ⟨u_23, hu_23, hF_24⟩ := Option.bind_eq_some_iff.mp hF_22
      clear hF_22
      refine m_ci hsz hS (va_runV (As := [.int 21]) (rest := []) ⟨hx, hb, hml, hown, hts⟩ (m_X12_tookKey l dC dI cB cC cI cJ cZ cP h qK qS ad hDD H.size  21 u_19.2 _ hu_23) (cwV 1 hts (g_gV wq_1573 wq_1574 wq_2137 wq_13 wq_1575) rfl rfl rfl (by decide +kernel) ⟨by show 2 + 1 ≤ 307 + (d + 1); omega, by show 8 + (2 + 11) + 61 ≤ 7070 + 24 * (d + 1); omega⟩) (m_preV g_bl0 hsz hK hP hS hE hKS g_to0) rfl rfl hl.1 rfl (lv_room (Nat.le_of_ble_eq_true rfl)) dX12_statement_133 ⟨Nat.le_of_ble_eq_true rfl, Nat.le_of_ble_eq_true rfl⟩) (fun H locs hP hS => ?_)
      refine lv_if_eq (tgt := 176) hx hb dX12_statement_136 (by decide) (fun c_25 => ?_) (fun c_25 => ?_)
      · have hF_26 := ipos c_25 hF_24
        clear hF_24
        refine lv_aload_n hx hb dX12_statement_176 rfl (lv_at hl 2 rfl) ?_
        refine lv_bipush (v := 32) hx hb dX12_statement_177 (by decide +kernel) ?_
        obtain ⟨u_27, hu_27, hF_28⟩ := Option.bind_eq_some_iff.mp hF_26
        clear hF_26
        refine m_ci hsz hS (va_runV (As := [.int 32]) (rest := []) ⟨hx, hb, hml, hown, hts⟩ (m_X12_tookKey l dC dI cB cC cI cJ cZ cP h qK qS ad hDD H.size  32 u_23.2 _ hu_27) (cwV 1 hts (g_gV wq_1573 wq_1574 wq_2137 wq_13 wq_1575) rfl rfl rfl (by decide +kernel) ⟨by show 2 + 1 ≤ 307 + (d + 1); omega, by show 8 + (2 + 11) + 61 ≤ 7070 + 24 * (d + 1); omega⟩) (m_preV g_bl0 hsz hK hP hS hE hKS g_to0) rfl rfl hl.1 rfl (lv_room (Nat.le_of_ble_eq_true rfl)) dX12_statement_179 ⟨Nat.le_of_ble_eq_true rfl, Nat.le_of_ble_eq_true rfl⟩) (fun H locs hP hS => ?_)
        refine lv_if_eq (tgt := 206) hx hb dX12_statement_182 (by decide) (fun c_29 => ?_) (fun c_29 => ?_)
        · have hF_30 := ipos c_29 hF_28
          clear hF_28
          refine lv_aload_n hx hb dX12_statement_206 rfl (lv_at hl 2 rfl) ?_
          refine lv_bipush (v := 37) hx hb dX12_statement_207 (by decide +kernel) ?_
          obtain ⟨u_31, hu_31, hF_32⟩ := Option.bind_eq_some_iff.mp hF_30
          clear hF_30
          refine m_ci hsz hS (va_runV (As := [.int 37]) (rest := []) ⟨hx, hb, hml, hown, hts⟩ (m_X12_isKey l dC dI cB cC cI cJ cZ cP h qK qS ad hDD H.size  37 u_27.2 _ hu_31) (cwV 1 hts (g_gV wq_1534 wq_1535 wq_2124 wq_13 wq_1536) rfl rfl rfl (by decide +kernel) ⟨by show 1 + 1 ≤ 307 + (d + 1); omega, by show 8 + (2 + 11) + 40 ≤ 7070 + 24 * (d + 1); omega⟩) (m_preV g_bl0 hsz hK hP hS hE hKS g_to0) rfl rfl hl.1 rfl (lv_room (Nat.le_of_ble_eq_true rfl)) dX12_statement_209 ⟨Nat.le_of_ble_eq_true rfl, Nat.le_of_ble_eq_true rfl⟩) (fun H locs hP hS => ?_)
          obtain ⟨j_34, ej_34, hF_35⟩ := bnd_e hF_32
          clear hF_32
          have Jj_34 : ∀  (σ_33 : MS), j_34  σ_33 = some res → ∀ (H : Heap) (locs : List Loc), va_P (dC, dI) vwCl (mW cB cI cZ h qK qS ad σ_33) H → va_S (mCells h ad sz) s.heap H locs → ∀ ls : Array Slot, lv_has ls 5 [(0, .ref h), (2, .int u_7.1)] → W p l e (headSpec (g_ws yX12_statement cX12_statement 5 (some .int)) { frames := 307 + (d + 1), cells := 0, slots := 0, locals := 7070 + 24 * (d + 1) }).room s m ([.ref h] : List Value).toArray below meth c H locs 0 0 (MQ below (va_Qi (fun r (_ : Unit) => r = res.1) (fun _ t => va_P (dC, dI) vwCl (mW cB cI cZ h qK qS ad res.2) t.heap) (mCells h ad sz)) ([.ref h] : List Value).toArray s 0 0 (mCells h ad sz)) (F0 m 224 ls []) := by
            intro  σ_33 hF0 H locs hP hS ls hl
            subst ej_34
            have hF_36 := hF0
            clear hF0
            refine lv_aload_n hx hb dX12_statement_224 rfl (lv_at hl 0 rfl) ?_
            refine va_get (D := (dC, dI)) (ci := 12) (v := .ref (ad 17)) (C := RX12) (T := TX12) (N := 123) hx hb hts ii_X12 hown hK hP 0 rfl rfl 17 (by decide) (hts (.fieldLink RX12 49 "StoryHouseModel" "what" "[I") wq_1373) (fun _ h9 => h9) rfl dX12_statement_225 ?_
            refine lv_iload_n hx hb dX12_statement_228 rfl (lv_at hl 1 rfl) ?_
            refine lv_bipush (v := 26) hx hb dX12_statement_229 (by decide +kernel) ?_
            obtain ⟨g_37, hF_38⟩ := nif_e hF_36
            clear hF_36
            obtain ⟨σ_39, eσ_39, hF_40⟩ := bnd_e hF_38
            clear hF_38
            refine m_iast (σ' := σ_39) hx hb hK hP (hDD _ _) hS (q0 := 8) (t0 := 2) (f := σ_33.2 17) rfl rfl (by rw [eσ_39]; exact mwA_17) g_37 dX12_statement_231 (fun H locs hP hS => ?_)
            refine lv_aload_n hx hb dX12_statement_232 rfl (lv_at hl 0 rfl) ?_
            refine va_get (D := (dC, dI)) (ci := 12) (v := .ref (ad 21)) (C := RX12) (T := TX12) (N := 123) hx hb hts ii_X12 hown hK hP 0 rfl rfl 21 (by decide) (hts (.fieldLink RX12 61 "StoryHouseModel" "d" "[I") wq_1377) (fun _ h9 => h9) rfl dX12_statement_233 ?_
            refine lv_iload_n hx hb dX12_statement_236 rfl (lv_at hl 1 rfl) ?_
            refine lv_aload_n hx hb dX12_statement_237 rfl (lv_at hl 0 rfl) ?_
            refine lv_bipush (v := 37) hx hb dX12_statement_238 (by decide +kernel) ?_
            obtain ⟨u_41, hu_41, hF_42⟩ := Option.bind_eq_some_iff.mp hF_40
            clear hF_40
            refine m_ci hsz hS (va_runV (As := [.int 37]) (rest := [.int u_7.1, .ref (ad 21)]) ⟨hx, hb, hml, hown, hts⟩ (m_X12_isKey l dC dI cB cC cI cJ cZ cP h qK qS ad hDD H.size  37 σ_39 _ hu_41) (cwV 1 hts (g_gV wq_1534 wq_1535 wq_2124 wq_13 wq_1536) rfl rfl rfl (by decide +kernel) ⟨by show 1 + 1 ≤ 307 + (d + 1); omega, by show 8 + (2 + 11) + 40 ≤ 7070 + 24 * (d + 1); omega⟩) (m_preV g_bl0 hsz hK hP hS hE hKS g_to0) rfl rfl hl.1 rfl (lv_room (Nat.le_of_ble_eq_true rfl)) dX12_statement_240 ⟨Nat.le_of_ble_eq_true rfl, Nat.le_of_ble_eq_true rfl⟩) (fun H locs hP hS => ?_)
            obtain ⟨j_45, ej_45, hF_46⟩ := bnd_e hF_42
            clear hF_42
            have Jj_45 : ∀ (t_43 : Int32) (σ_44 : MS), j_45 t_43 σ_44 = some res → ∀ (H : Heap) (locs : List Loc), va_P (dC, dI) vwCl (mW cB cI cZ h qK qS ad σ_44) H → va_S (mCells h ad sz) s.heap H locs → ∀ ls : Array Slot, lv_has ls 5 [(0, .ref h), (2, .int u_7.1)] → W p l e (headSpec (g_ws yX12_statement cX12_statement 5 (some .int)) { frames := 307 + (d + 1), cells := 0, slots := 0, locals := 7070 + 24 * (d + 1) }).room s m ([.ref h] : List Value).toArray below meth c H locs 0 0 (MQ below (va_Qi (fun r (_ : Unit) => r = res.1) (fun _ t => va_P (dC, dI) vwCl (mW cB cI cZ h qK qS ad res.2) t.heap) (mCells h ad sz)) ([.ref h] : List Value).toArray s 0 0 (mCells h ad sz)) (F0 m 251 ls [.int t_43, .int u_7.1, .ref (ad 21)]) := by
              intro t_43 σ_44 hF0 H locs hP hS ls hl
              subst ej_45
              have hF_47 := hF0
              clear hF0
              obtain ⟨g_48, hF_49⟩ := nif_e hF_47
              clear hF_47
              obtain ⟨σ_50, eσ_50, hF_51⟩ := bnd_e hF_49
              clear hF_49
              refine m_iast (σ' := σ_50) hx hb hK hP (hDD _ _) hS (q0 := 12) (t0 := 2) (f := σ_44.2 21) rfl rfl (by rw [eσ_50]; exact mwA_21) g_48 dX12_statement_251 (fun H locs hP hS => ?_)
              refine lv_aload_n hx hb dX12_statement_252 rfl (lv_at hl 0 rfl) ?_
              refine lv_dup hx hb dX12_statement_253 rfl ?_
              refine va_get (D := (dC, dI)) (ci := 12) (v := .int (σ_50.1 25)) (C := RX12) (T := TX12) (N := 123) hx hb hts ii_X12 hown hK hP 0 rfl rfl 25 (by decide) (hts (.fieldLink RX12 314 "StoryHouseModel" "at" "I") wq_1381) (fun _ h9 => h9) rfl dX12_statement_254 ?_
              refine lv_iconst (v := 1) hx hb dX12_statement_257 (by decide +kernel) ?_
              refine lv_iadd hx hb dX12_statement_258 ?_
              obtain ⟨σ_52, eσ_52, hF_53⟩ := bnd_e hF_51
              clear hF_51
              refine m_put (σ' := σ_52) (v := .int ((σ_50.1 25) + 1)) (ty := .int) hx hb hts hown hK hP (hDD _ _) hS (by rw [eσ_52]; exact mwI_25) (k := 25) (by decide) (hts (.fieldLink RX12 314 "StoryHouseModel" "at" "I") wq_1381) (fun _ h9 => h9) rfl (by decide +kernel) rfl rfl dX12_statement_259 (fun H locs hP hS => ?_)
              refine lv_aload_n hx hb dX12_statement_262 rfl (lv_at hl 0 rfl) ?_
              refine va_get (D := (dC, dI)) (ci := 12) (v := .ref (ad 19)) (C := RX12) (T := TX12) (N := 123) hx hb hts ii_X12 hown hK hP 0 rfl rfl 19 (by decide) (hts (.fieldLink RX12 55 "StoryHouseModel" "a" "[I") wq_1375) (fun _ h9 => h9) rfl dX12_statement_263 ?_
              refine lv_iload_n hx hb dX12_statement_266 rfl (lv_at hl 1 rfl) ?_
              refine lv_aload_n hx hb dX12_statement_267 rfl (lv_at hl 0 rfl) ?_
              obtain ⟨u_54, hu_54, hF_55⟩ := Option.bind_eq_some_iff.mp hF_53
              clear hF_53
              refine m_ci hsz hS (va_runV (As := []) (rest := [.int u_7.1, .ref (ad 19)]) ⟨hx, hb, hml, hown, hts⟩ (m_X12_expression l dC dI cB cC cI cJ cZ cP h qK qS ad hDD H.size  σ_52 _ hu_54) (cwV 0 hts (g_gV wq_1606 wq_1607 wq_2148 wq_13 wq_1608) rfl rfl rfl (by decide +kernel) ⟨by show 305 + 1 ≤ 307 + (d + 1); omega, by show 8 + (3 + 11) + 7024 ≤ 7070 + 24 * (d + 1); omega⟩) (m_preV g_bl0 hsz hK hP hS hE hKS g_to0) rfl rfl hl.1 rfl (lv_room (Nat.le_of_ble_eq_true rfl)) dX12_statement_268 ⟨Nat.le_of_ble_eq_true rfl, Nat.le_of_ble_eq_true rfl⟩) (fun H locs hP hS => ?_)
              obtain ⟨g_56, hF_57⟩ := nif_e hF_55
              clear hF_55
              obtain ⟨σ_58, eσ_58, hF_59⟩ := bnd_e hF_57
              clear hF_57
              refine m_iast (σ' := σ_58) hx hb hK hP (hDD _ _) hS (q0 := 10) (t0 := 2) (f := u_54.2.2 19) rfl rfl (by rw [eσ_58]; exact mwA_19) g_56 dX12_statement_271 (fun H locs hP hS => ?_)
              refine lv_aload_n hx hb dX12_statement_272 rfl (lv_at hl 0 rfl) ?_
              refine va_get (D := (dC, dI)) (ci := 12) (v := .ref (ad 20)) (C := RX12) (T := TX12) (N := 123) hx hb hts ii_X12 hown hK hP 0 rfl rfl 20 (by decide) (hts (.fieldLink RX12 58 "StoryHouseModel" "b" "[I") wq_1376) (fun _ h9 => h9) rfl dX12_statement_273 ?_
              refine lv_iload_n hx hb dX12_statement_276 rfl (lv_at hl 1 rfl) ?_
              refine lv_aload_n hx hb dX12_statement_277 rfl (lv_at hl 0 rfl) ?_
              obtain ⟨u_60, hu_60, hF_61⟩ := Option.bind_eq_some_iff.mp hF_59
              clear hF_59
              refine m_ci hsz hS (va_runV (As := []) (rest := [.int u_7.1, .ref (ad 20)]) ⟨hx, hb, hml, hown, hts⟩ (m_X12_attribute l dC dI cB cC cI cJ cZ cP h qK qS ad hDD H.size  σ_58 _ hu_60) (cwV 0 hts (g_gV wq_1630 wq_1631 wq_2156 wq_13 wq_1632) rfl rfl rfl (by decide +kernel) ⟨by show 3 + 1 ≤ 307 + (d + 1); omega, by show 8 + (1 + 11) + 82 ≤ 7070 + 24 * (d + 1); omega⟩) (m_preV g_bl0 hsz hK hP hS hE hKS g_to0) rfl rfl hl.1 rfl (lv_room (Nat.le_of_ble_eq_true rfl)) dX12_statement_278 ⟨Nat.le_of_ble_eq_true rfl, Nat.le_of_ble_eq_true rfl⟩) (fun H locs hP hS => ?_)
              obtain ⟨g_62, hF_63⟩ := nif_e hF_61
              clear hF_61
              obtain ⟨σ_64, eσ_64, hF_65⟩ := bnd_e hF_63
              clear hF_63
              refine m_iast (σ' := σ_64) hx hb hK hP (hDD _ _) hS (q0 := 11) (t0 := 2) (f := u_60.2.2 20) rfl rfl (by rw [eσ_64]; exact mwA_20) g_62 dX12_statement_281 (fun H locs hP hS => ?_)
              refine lv_goto (tgt := 443) hx hb dX12_statement_282 (by decide) ?_
              exact Jj_12  σ_64 hF_65 _ _ hP hS ls (lv_sub hl [0, 1] rfl)
            refine lv_if_eq (tgt := 250) hx hb dX12_statement_243 (by decide) (fun c_66 => ?_) (fun c_66 => ?_)
            · have hF_67 := ipos c_66 hF_46
              clear hF_46
              refine lv_iconst (v := 0) hx hb dX12_statement_250 (by decide +kernel) ?_
              exact Jj_45 0 u_41.2 hF_67 _ _ hP hS ls (lv_sub hl [0, 1] rfl)
            · have hF_68 := ineg c_66 hF_46
              clear hF_46
              refine lv_iconst (v := 1) hx hb dX12_statement_246 (by decide +kernel) ?_
              refine lv_goto (tgt := 251) hx hb dX12_statement_247 (by decide) ?_
              exact Jj_45 1 u_41.2 hF_68 _ _ hP hS ls (lv_sub hl [0, 1] rfl)
          refine lv_if_ne (tgt := 224) hx hb dX12_statement_212 (by decide) (fun c_69 => ?_) (fun c_69 => ?_)
          · have hF_152 := ineg c_69 hF_35
            clear hF_35
            exact Jj_34  u_31.2 hF_152 _ _ hP hS ls (lv_sub hl [2, 0] rfl)
          · have hF_70 := ipos c_69 hF_35
            clear hF_35
            refine lv_aload_n hx hb dX12_statement_215 rfl (lv_at hl 2 rfl) ?_
            refine lv_bipush (v := 38) hx hb dX12_statement_216 (by decide +kernel) ?_
            obtain ⟨u_71, hu_71, hF_72⟩ := Option.bind_eq_some_iff.mp hF_70
            clear hF_70
            refine m_ci hsz hS (va_runV (As := [.int 38]) (rest := []) ⟨hx, hb, hml, hown, hts⟩ (m_X12_isKey l dC dI cB cC cI cJ cZ cP h qK qS ad hDD H.size  38 u_31.2 _ hu_71) (cwV 1 hts (g_gV wq_1534 wq_1535 wq_2124 wq_13 wq_1536) rfl rfl rfl (by decide +kernel) ⟨by show 1 + 1 ≤ 307 + (d + 1); omega, by show 8 + (2 + 11) + 40 ≤ 7070 + 24 * (d + 1); omega⟩) (m_preV g_bl0 hsz hK hP hS hE hKS g_to0) rfl rfl hl.1 rfl (lv_room (Nat.le_of_ble_eq_true rfl)) dX12_statement_218 ⟨Nat.le_of_ble_eq_true rfl, Nat.le_of_ble_eq_true rfl⟩) (fun H locs hP hS => ?_)
            refine lv_if_eq (tgt := 285) hx hb dX12_statement_221 (by decide) (fun c_73 => ?_) (fun c_73 => ?_)
            · have hF_74 := ipos c_73 hF_72
              clear hF_72
              refine lv_aload_n hx hb dX12_statement_285 rfl (lv_at hl 2 rfl) ?_
              refine lv_bipush (v := 17) hx hb dX12_statement_286 (by decide +kernel) ?_
              obtain ⟨u_75, hu_75, hF_76⟩ := Option.bind_eq_some_iff.mp hF_74
              clear hF_74
              refine m_ci hsz hS (va_runV (As := [.int 17]) (rest := []) ⟨hx, hb, hml, hown, hts⟩ (m_X12_tookKey l dC dI cB cC cI cJ cZ cP h qK qS ad hDD H.size  17 u_71.2 _ hu_75) (cwV 1 hts (g_gV wq_1573 wq_1574 wq_2137 wq_13 wq_1575) rfl rfl rfl (by decide +kernel) ⟨by show 2 + 1 ≤ 307 + (d + 1); omega, by show 8 + (2 + 11) + 61 ≤ 7070 + 24 * (d + 1); omega⟩) (m_preV g_bl0 hsz hK hP hS hE hKS g_to0) rfl rfl hl.1 rfl (lv_room (Nat.le_of_ble_eq_true rfl)) dX12_statement_288 ⟨Nat.le_of_ble_eq_true rfl, Nat.le_of_ble_eq_true rfl⟩) (fun H locs hP hS => ?_)
              refine lv_if_eq (tgt := 309) hx hb dX12_statement_291 (by decide) (fun c_77 => ?_) (fun c_77 => ?_)
              · have hF_78 := ipos c_77 hF_76
                clear hF_76
                refine lv_aload_n hx hb dX12_statement_309 rfl (lv_at hl 2 rfl) ?_
                refine lv_bipush (v := 48) hx hb dX12_statement_310 (by decide +kernel) ?_
                obtain ⟨u_79, hu_79, hF_80⟩ := Option.bind_eq_some_iff.mp hF_78
                clear hF_78
                refine m_ci hsz hS (va_runV (As := [.int 48]) (rest := []) ⟨hx, hb, hml, hown, hts⟩ (m_X12_tookKey l dC dI cB cC cI cJ cZ cP h qK qS ad hDD H.size  48 u_75.2 _ hu_79) (cwV 1 hts (g_gV wq_1573 wq_1574 wq_2137 wq_13 wq_1575) rfl rfl rfl (by decide +kernel) ⟨by show 2 + 1 ≤ 307 + (d + 1); omega, by show 8 + (2 + 11) + 61 ≤ 7070 + 24 * (d + 1); omega⟩) (m_preV g_bl0 hsz hK hP hS hE hKS g_to0) rfl rfl hl.1 rfl (lv_room (Nat.le_of_ble_eq_true rfl)) dX12_statement_312 ⟨Nat.le_of_ble_eq_true rfl, Nat.le_of_ble_eq_true rfl⟩) (fun H locs hP hS => ?_)
                refine lv_if_eq (tgt := 348) hx hb dX12_statement_315 (by decide) (fun c_81 => ?_) (fun c_81 => ?_)
                · have hF_82 := ipos c_81 hF_80
                  clear hF_80
                  refine lv_aload_n hx hb dX12_statement_348 rfl (lv_at hl 2 rfl) ?_
                  refine lv_bipush (v := 33) hx hb dX12_statement_349 (by decide +kernel) ?_
                  obtain ⟨u_83, hu_83, hF_84⟩ := Option.bind_eq_some_iff.mp hF_82
                  clear hF_82
                  refine m_ci hsz hS (va_runV (As := [.int 33]) (rest := []) ⟨hx, hb, hml, hown, hts⟩ (m_X12_tookKey l dC dI cB cC cI cJ cZ cP h qK qS ad hDD H.size  33 u_79.2 _ hu_83) (cwV 1 hts (g_gV wq_1573 wq_1574 wq_2137 wq_13 wq_1575) rfl rfl rfl (by decide +kernel) ⟨by show 2 + 1 ≤ 307 + (d + 1); omega, by show 8 + (2 + 11) + 61 ≤ 7070 + 24 * (d + 1); omega⟩) (m_preV g_bl0 hsz hK hP hS hE hKS g_to0) rfl rfl hl.1 rfl (lv_room (Nat.le_of_ble_eq_true rfl)) dX12_statement_351 ⟨Nat.le_of_ble_eq_true rfl, Nat.le_of_ble_eq_true rfl⟩) (fun H locs hP hS => ?_)
                  refine lv_if_eq (tgt := 378) hx hb dX12_statement_354 (by decide) (fun c_85 => ?_) (fun c_85 => ?_)
                  · have hF_86 := ipos c_85 hF_84
                    clear hF_84
                    refine lv_aload_n hx hb dX12_statement_378 rfl (lv_at hl 2 rfl) ?_
                    refine lv_bipush (v := 7) hx hb dX12_statement_379 (by decide +kernel) ?_
                    obtain ⟨u_87, hu_87, hF_88⟩ := Option.bind_eq_some_iff.mp hF_86
                    clear hF_86
                    refine m_ci hsz hS (va_runV (As := [.int 7]) (rest := []) ⟨hx, hb, hml, hown, hts⟩ (m_X12_tookKey l dC dI cB cC cI cJ cZ cP h qK qS ad hDD H.size  7 u_83.2 _ hu_87) (cwV 1 hts (g_gV wq_1573 wq_1574 wq_2137 wq_13 wq_1575) rfl rfl rfl (by decide +kernel) ⟨by show 2 + 1 ≤ 307 + (d + 1); omega, by show 8 + (2 + 11) + 61 ≤ 7070 + 24 * (d + 1); omega⟩) (m_preV g_bl0 hsz hK hP hS hE hKS g_to0) rfl rfl hl.1 rfl (lv_room (Nat.le_of_ble_eq_true rfl)) dX12_statement_381 ⟨Nat.le_of_ble_eq_true rfl, Nat.le_of_ble_eq_true rfl⟩) (fun H locs hP hS => ?_)
                    refine lv_if_eq (tgt := 398) hx hb dX12_statement_384 (by decide) (fun c_89 => ?_) (fun c_89 => ?_)
                    · have hF_90 := ipos c_89 hF_88
                      clear hF_88
                      refine lv_aload_n hx hb dX12_statement_398 rfl (lv_at hl 2 rfl) ?_
                      refine lv_bipush (v := 49) hx hb dX12_statement_399 (by decide +kernel) ?_
                      obtain ⟨u_91, hu_91, hF_92⟩ := Option.bind_eq_some_iff.mp hF_90
                      clear hF_90
                      refine m_ci hsz hS (va_runV (As := [.int 49]) (rest := []) ⟨hx, hb, hml, hown, hts⟩ (m_X12_tookKey l dC dI cB cC cI cJ cZ cP h qK qS ad hDD H.size  49 u_87.2 _ hu_91) (cwV 1 hts (g_gV wq_1573 wq_1574 wq_2137 wq_13 wq_1575) rfl rfl rfl (by decide +kernel) ⟨by show 2 + 1 ≤ 307 + (d + 1); omega, by show 8 + (2 + 11) + 61 ≤ 7070 + 24 * (d + 1); omega⟩) (m_preV g_bl0 hsz hK hP hS hE hKS g_to0) rfl rfl hl.1 rfl (lv_room (Nat.le_of_ble_eq_true rfl)) dX12_statement_401 ⟨Nat.le_of_ble_eq_true rfl, Nat.le_of_ble_eq_true rfl⟩) (fun H locs hP hS => ?_)
                      refine lv_if_eq (tgt := 418) hx hb dX12_statement_404 (by decide) (fun c_93 => ?_) (fun c_93 => ?_)
                      · have hF_94 := ipos c_93 hF_92
                        clear hF_92
                        refine lv_aload_n hx hb dX12_statement_418 rfl (lv_at hl 2 rfl) ?_
                        refine lv_bipush (v := 20) hx hb dX12_statement_419 (by decide +kernel) ?_
                        obtain ⟨u_95, hu_95, hF_96⟩ := Option.bind_eq_some_iff.mp hF_94
                        clear hF_94
                        refine m_ci hsz hS (va_runV (As := [.int 20]) (rest := []) ⟨hx, hb, hml, hown, hts⟩ (m_X12_tookKey l dC dI cB cC cI cJ cZ cP h qK qS ad hDD H.size  20 u_91.2 _ hu_95) (cwV 1 hts (g_gV wq_1573 wq_1574 wq_2137 wq_13 wq_1575) rfl rfl rfl (by decide +kernel) ⟨by show 2 + 1 ≤ 307 + (d + 1); omega, by show 8 + (2 + 11) + 61 ≤ 7070 + 24 * (d + 1); omega⟩) (m_preV g_bl0 hsz hK hP hS hE hKS g_to0) rfl rfl hl.1 rfl (lv_room (Nat.le_of_ble_eq_true rfl)) dX12_statement_421 ⟨Nat.le_of_ble_eq_true rfl, Nat.le_of_ble_eq_true rfl⟩) (fun H locs hP hS => ?_)
                        refine lv_if_eq (tgt := 438) hx hb dX12_statement_424 (by decide) (fun c_97 => ?_) (fun c_97 => ?_)
                        · have hF_98 := ipos c_97 hF_96
                          clear hF_96
                          refine lv_aload_n hx hb dX12_statement_438 rfl (lv_at hl 2 rfl) ?_
                          refine lv_iload_n hx hb dX12_statement_439 rfl (lv_at hl 0 rfl) ?_
                          obtain ⟨u_99, hu_99, hF_100⟩ := Option.bind_eq_some_iff.mp hF_98
                          clear hF_98
                          refine m_cv hsz hS (va_runV (As := [.int u_7.1]) (rest := []) ⟨hx, hb, hml, hown, hts⟩ (m_X12_named l dC dI cB cC cI cJ cZ cP h qK qS ad hDD H.size  u_7.1 u_95.2 _ hu_99) (cwV 1 hts (g_gV wq_1636 wq_1637 wq_2158 wq_13 wq_1638) rfl rfl rfl (by decide +kernel) ⟨by show 306 + 1 ≤ 307 + (d + 1); omega, by show 8 + (2 + 11) + 7047 ≤ 7070 + 24 * (d + 1); omega⟩) (m_preV g_bl0 hsz hK hP hS hE hKS g_to0) rfl rfl hl.1 rfl (lv_room (Nat.le_of_ble_eq_true rfl)) dX12_statement_440 ⟨Nat.le_of_ble_eq_true rfl, Nat.le_of_ble_eq_true rfl⟩) (fun H locs hP hS => ?_)
                          exact Jj_12  u_99.2 hF_100 _ _ hP hS ls (lv_sub hl [2, 0] rfl)
                        · have hF_101 := ineg c_97 hF_96
                          clear hF_96
                          refine lv_aload_n hx hb dX12_statement_427 rfl (lv_at hl 2 rfl) ?_
                          refine va_get (D := (dC, dI)) (ci := 12) (v := .ref (ad 17)) (C := RX12) (T := TX12) (N := 123) hx hb hts ii_X12 hown hK hP 0 rfl rfl 17 (by decide) (hts (.fieldLink RX12 49 "StoryHouseModel" "what" "[I") wq_1373) (fun _ h9 => h9) rfl dX12_statement_428 ?_
                          refine lv_iload_n hx hb dX12_statement_431 rfl (lv_at hl 0 rfl) ?_
                          refine lv_bipush (v := 32) hx hb dX12_statement_432 (by decide +kernel) ?_
                          obtain ⟨g_102, hF_103⟩ := nif_e hF_101
                          clear hF_101
                          obtain ⟨σ_104, eσ_104, hF_105⟩ := bnd_e hF_103
                          clear hF_103
                          refine m_iast (σ' := σ_104) hx hb hK hP (hDD _ _) hS (q0 := 8) (t0 := 2) (f := u_95.2.2 17) rfl rfl (by rw [eσ_104]; exact mwA_17) g_102 dX12_statement_434 (fun H locs hP hS => ?_)
                          refine lv_goto (tgt := 443) hx hb dX12_statement_435 (by decide) ?_
                          exact Jj_12  σ_104 hF_105 _ _ hP hS ls (lv_sub hl [2, 0] rfl)
                      · have hF_106 := ineg c_93 hF_92
                        clear hF_92
                        refine lv_aload_n hx hb dX12_statement_407 rfl (lv_at hl 2 rfl) ?_
                        refine va_get (D := (dC, dI)) (ci := 12) (v := .ref (ad 17)) (C := RX12) (T := TX12) (N := 123) hx hb hts ii_X12 hown hK hP 0 rfl rfl 17 (by decide) (hts (.fieldLink RX12 49 "StoryHouseModel" "what" "[I") wq_1373) (fun _ h9 => h9) rfl dX12_statement_408 ?_
                        refine lv_iload_n hx hb dX12_statement_411 rfl (lv_at hl 0 rfl) ?_
                        refine lv_bipush (v := 31) hx hb dX12_statement_412 (by decide +kernel) ?_
                        obtain ⟨g_107, hF_108⟩ := nif_e hF_106
                        clear hF_106
                        obtain ⟨σ_109, eσ_109, hF_110⟩ := bnd_e hF_108
                        clear hF_108
                        refine m_iast (σ' := σ_109) hx hb hK hP (hDD _ _) hS (q0 := 8) (t0 := 2) (f := u_91.2.2 17) rfl rfl (by rw [eσ_109]; exact mwA_17) g_107 dX12_statement_414 (fun H locs hP hS => ?_)
                        refine lv_goto (tgt := 443) hx hb dX12_statement_415 (by decide) ?_
                        exact Jj_12  σ_109 hF_110 _ _ hP hS ls (lv_sub hl [2, 0] rfl)
                    · have hF_111 := ineg c_89 hF_88
                      clear hF_88
                      refine lv_aload_n hx hb dX12_statement_387 rfl (lv_at hl 2 rfl) ?_
                      refine va_get (D := (dC, dI)) (ci := 12) (v := .ref (ad 17)) (C := RX12) (T := TX12) (N := 123) hx hb hts ii_X12 hown hK hP 0 rfl rfl 17 (by decide) (hts (.fieldLink RX12 49 "StoryHouseModel" "what" "[I") wq_1373) (fun _ h9 => h9) rfl dX12_statement_388 ?_
                      refine lv_iload_n hx hb dX12_statement_391 rfl (lv_at hl 0 rfl) ?_
                      refine lv_bipush (v := 30) hx hb dX12_statement_392 (by decide +kernel) ?_
                      obtain ⟨g_112, hF_113⟩ := nif_e hF_111
                      clear hF_111
                      obtain ⟨σ_114, eσ_114, hF_115⟩ := bnd_e hF_113
                      clear hF_113
                      refine m_iast (σ' := σ_114) hx hb hK hP (hDD _ _) hS (q0 := 8) (t0 := 2) (f := u_87.2.2 17) rfl rfl (by rw [eσ_114]; exact mwA_17) g_112 dX12_statement_394 (fun H locs hP hS => ?_)
                      refine lv_goto (tgt := 443) hx hb dX12_statement_395 (by decide) ?_
                      exact Jj_12  σ_114 hF_115 _ _ hP hS ls (lv_sub hl [2, 0] rfl)
                  · have hF_116 := ineg c_85 hF_84
                    clear hF_84
                    refine lv_aload_n hx hb dX12_statement_357 rfl (lv_at hl 2 rfl) ?_
                    refine va_get (D := (dC, dI)) (ci := 12) (v := .ref (ad 17)) (C := RX12) (T := TX12) (N := 123) hx hb hts ii_X12 hown hK hP 0 rfl rfl 17 (by decide) (hts (.fieldLink RX12 49 "StoryHouseModel" "what" "[I") wq_1373) (fun _ h9 => h9) rfl dX12_statement_358 ?_
                    refine lv_iload_n hx hb dX12_statement_361 rfl (lv_at hl 0 rfl) ?_
                    refine lv_bipush (v := 29) hx hb dX12_statement_362 (by decide +kernel) ?_
                    obtain ⟨g_117, hF_118⟩ := nif_e hF_116
                    clear hF_116
                    obtain ⟨σ_119, eσ_119, hF_120⟩ := bnd_e hF_118
                    clear hF_118
                    refine m_iast (σ' := σ_119) hx hb hK hP (hDD _ _) hS (q0 := 8) (t0 := 2) (f := u_83.2.2 17) rfl rfl (by rw [eσ_119]; exact mwA_17) g_117 dX12_statement_364 (fun H locs hP hS => ?_)
                    refine lv_aload_n hx hb dX12_statement_365 rfl (lv_at hl 2 rfl) ?_
                    refine va_get (D := (dC, dI)) (ci := 12) (v := .ref (ad 19)) (C := RX12) (T := TX12) (N := 123) hx hb hts ii_X12 hown hK hP 0 rfl rfl 19 (by decide) (hts (.fieldLink RX12 55 "StoryHouseModel" "a" "[I") wq_1375) (fun _ h9 => h9) rfl dX12_statement_366 ?_
                    refine lv_iload_n hx hb dX12_statement_369 rfl (lv_at hl 0 rfl) ?_
                    refine lv_aload_n hx hb dX12_statement_370 rfl (lv_at hl 2 rfl) ?_
                    obtain ⟨u_121, hu_121, hF_122⟩ := Option.bind_eq_some_iff.mp hF_120
                    clear hF_120
                    refine m_ci hsz hS (va_runV (As := []) (rest := [.int u_7.1, .ref (ad 19)]) ⟨hx, hb, hml, hown, hts⟩ (m_X12_expression l dC dI cB cC cI cJ cZ cP h qK qS ad hDD H.size  σ_119 _ hu_121) (cwV 0 hts (g_gV wq_1606 wq_1607 wq_2148 wq_13 wq_1608) rfl rfl rfl (by decide +kernel) ⟨by show 305 + 1 ≤ 307 + (d + 1); omega, by show 8 + (3 + 11) + 7024 ≤ 7070 + 24 * (d + 1); omega⟩) (m_preV g_bl0 hsz hK hP hS hE hKS g_to0) rfl rfl hl.1 rfl (lv_room (Nat.le_of_ble_eq_true rfl)) dX12_statement_371 ⟨Nat.le_of_ble_eq_true rfl, Nat.le_of_ble_eq_true rfl⟩) (fun H locs hP hS => ?_)
                    obtain ⟨g_123, hF_124⟩ := nif_e hF_122
                    clear hF_122
                    obtain ⟨σ_125, eσ_125, hF_126⟩ := bnd_e hF_124
                    clear hF_124
                    refine m_iast (σ' := σ_125) hx hb hK hP (hDD _ _) hS (q0 := 10) (t0 := 2) (f := u_121.2.2 19) rfl rfl (by rw [eσ_125]; exact mwA_19) g_123 dX12_statement_374 (fun H locs hP hS => ?_)
                    refine lv_goto (tgt := 443) hx hb dX12_statement_375 (by decide) ?_
                    exact Jj_12  σ_125 hF_126 _ _ hP hS ls (lv_sub hl [2, 0] rfl)
                · have hF_127 := ineg c_81 hF_80
                  clear hF_80
                  refine lv_aload_n hx hb dX12_statement_318 rfl (lv_at hl 2 rfl) ?_
                  refine va_get (D := (dC, dI)) (ci := 12) (v := .ref (ad 17)) (C := RX12) (T := TX12) (N := 123) hx hb hts ii_X12 hown hK hP 0 rfl rfl 17 (by decide) (hts (.fieldLink RX12 49 "StoryHouseModel" "what" "[I") wq_1373) (fun _ h9 => h9) rfl dX12_statement_319 ?_
                  refine lv_iload_n hx hb dX12_statement_322 rfl (lv_at hl 0 rfl) ?_
                  refine lv_bipush (v := 28) hx hb dX12_statement_323 (by decide +kernel) ?_
                  obtain ⟨g_128, hF_129⟩ := nif_e hF_127
                  clear hF_127
                  obtain ⟨σ_130, eσ_130, hF_131⟩ := bnd_e hF_129
                  clear hF_129
                  refine m_iast (σ' := σ_130) hx hb hK hP (hDD _ _) hS (q0 := 8) (t0 := 2) (f := u_79.2.2 17) rfl rfl (by rw [eσ_130]; exact mwA_17) g_128 dX12_statement_325 (fun H locs hP hS => ?_)
                  refine lv_aload_n hx hb dX12_statement_326 rfl (lv_at hl 2 rfl) ?_
                  refine va_get (D := (dC, dI)) (ci := 12) (v := .ref (ad 19)) (C := RX12) (T := TX12) (N := 123) hx hb hts ii_X12 hown hK hP 0 rfl rfl 19 (by decide) (hts (.fieldLink RX12 55 "StoryHouseModel" "a" "[I") wq_1375) (fun _ h9 => h9) rfl dX12_statement_327 ?_
                  refine lv_iload_n hx hb dX12_statement_330 rfl (lv_at hl 0 rfl) ?_
                  refine lv_aload_n hx hb dX12_statement_331 rfl (lv_at hl 2 rfl) ?_
                  obtain ⟨u_132, hu_132, hF_133⟩ := Option.bind_eq_some_iff.mp hF_131
                  clear hF_131
                  refine m_ci hsz hS (va_runV (As := []) (rest := [.int u_7.1, .ref (ad 19)]) ⟨hx, hb, hml, hown, hts⟩ (m_X12_expression l dC dI cB cC cI cJ cZ cP h qK qS ad hDD H.size  σ_130 _ hu_132) (cwV 0 hts (g_gV wq_1606 wq_1607 wq_2148 wq_13 wq_1608) rfl rfl rfl (by decide +kernel) ⟨by show 305 + 1 ≤ 307 + (d + 1); omega, by show 8 + (3 + 11) + 7024 ≤ 7070 + 24 * (d + 1); omega⟩) (m_preV g_bl0 hsz hK hP hS hE hKS g_to0) rfl rfl hl.1 rfl (lv_room (Nat.le_of_ble_eq_true rfl)) dX12_statement_332 ⟨Nat.le_of_ble_eq_true rfl, Nat.le_of_ble_eq_true rfl⟩) (fun H locs hP hS => ?_)
                  obtain ⟨g_134, hF_135⟩ := nif_e hF_133
                  clear hF_133
                  obtain ⟨σ_136, eσ_136, hF_137⟩ := bnd_e hF_135
                  clear hF_135
                  refine m_iast (σ' := σ_136) hx hb hK hP (hDD _ _) hS (q0 := 10) (t0 := 2) (f := u_132.2.2 19) rfl rfl (by rw [eσ_136]; exact mwA_19) g_134 dX12_statement_335 (fun H locs hP hS => ?_)
                  refine lv_aload_n hx hb dX12_statement_336 rfl (lv_at hl 2 rfl) ?_
                  refine va_get (D := (dC, dI)) (ci := 12) (v := .ref (ad 20)) (C := RX12) (T := TX12) (N := 123) hx hb hts ii_X12 hown hK hP 0 rfl rfl 20 (by decide) (hts (.fieldLink RX12 58 "StoryHouseModel" "b" "[I") wq_1376) (fun _ h9 => h9) rfl dX12_statement_337 ?_
                  refine lv_iload_n hx hb dX12_statement_340 rfl (lv_at hl 0 rfl) ?_
                  refine lv_aload_n hx hb dX12_statement_341 rfl (lv_at hl 2 rfl) ?_
                  obtain ⟨u_138, hu_138, hF_139⟩ := Option.bind_eq_some_iff.mp hF_137
                  clear hF_137
                  refine m_ci hsz hS (va_runV (As := []) (rest := [.int u_7.1, .ref (ad 20)]) ⟨hx, hb, hml, hown, hts⟩ (hI0 H.size σ_136 _ hu_138) (cwV 0 hts (g_gV wq_1591 wq_1592 wq_2143 wq_13 wq_1593) rfl rfl rfl (by decide +kernel) ⟨by show 307 + d + 1 ≤ 307 + (d + 1); omega, by show 8 + (4 + 11) + (7070 + 24 * d) ≤ 7070 + 24 * (d + 1); omega⟩) (m_preV g_bl0 hsz hK hP hS hE hKS g_to0) rfl rfl hl.1 rfl (lv_room (Nat.le_of_ble_eq_true rfl)) dX12_statement_342 ⟨Nat.le_of_ble_eq_true rfl, Nat.le_of_ble_eq_true rfl⟩) (fun H locs hP hS => ?_)
                  obtain ⟨g_140, hF_141⟩ := nif_e hF_139
                  clear hF_139
                  obtain ⟨σ_142, eσ_142, hF_143⟩ := bnd_e hF_141
                  clear hF_141
                  refine m_iast (σ' := σ_142) hx hb hK hP (hDD _ _) hS (q0 := 11) (t0 := 2) (f := u_138.2.2 20) rfl rfl (by rw [eσ_142]; exact mwA_20) g_140 dX12_statement_345 (fun H locs hP hS => ?_)
                  refine lv_iload_n hx hb dX12_statement_346 rfl (lv_at hl 0 rfl) ?_
                  have h9 := Option.some.inj hF_143
                  subst h9
                  exact W.iret (v := u_7.1) hx hb hr (fun t ht hW => ⟨⟨u_7.1, (), rfl, rfl, m_end ht hP⟩, hS.F ht⟩) hS.2.2 dX12_statement_347
              · have hF_144 := ineg c_77 hF_76
                clear hF_76
                refine lv_aload_n hx hb dX12_statement_294 rfl (lv_at hl 2 rfl) ?_
                refine va_get (D := (dC, dI)) (ci := 12) (v := .ref (ad 17)) (C := RX12) (T := TX12) (N := 123) hx hb hts ii_X12 hown hK hP 0 rfl rfl 17 (by decide) (hts (.fieldLink RX12 49 "StoryHouseModel" "what" "[I") wq_1373) (fun _ h9 => h9) rfl dX12_statement_295 ?_
                refine lv_iload_n hx hb dX12_statement_298 rfl (lv_at hl 0 rfl) ?_
                refine lv_bipush (v := 27) hx hb dX12_statement_299 (by decide +kernel) ?_
                obtain ⟨g_145, hF_146⟩ := nif_e hF_144
                clear hF_144
                obtain ⟨σ_147, eσ_147, hF_148⟩ := bnd_e hF_146
                clear hF_146
                refine m_iast (σ' := σ_147) hx hb hK hP (hDD _ _) hS (q0 := 8) (t0 := 2) (f := u_75.2.2 17) rfl rfl (by rw [eσ_147]; exact mwA_17) g_145 dX12_statement_301 (fun H locs hP hS => ?_)
                refine lv_aload_n hx hb dX12_statement_302 rfl (lv_at hl 2 rfl) ?_
                refine lv_iload_n hx hb dX12_statement_303 rfl (lv_at hl 0 rfl) ?_
                obtain ⟨u_149, hu_149, hF_150⟩ := Option.bind_eq_some_iff.mp hF_148
                clear hF_148
                refine m_cv hsz hS (va_runV (As := [.int u_7.1]) (rest := []) ⟨hx, hb, hml, hown, hts⟩ (hI2 H.size u_7.1 σ_147 _ hu_149) (cwV 1 hts (g_gV wq_1633 wq_1634 wq_2157 wq_13 wq_1635) rfl rfl rfl (by decide +kernel) ⟨by show 307 + d + 1 ≤ 307 + (d + 1); omega, by show 8 + (3 + 11) + (7070 + 24 * d) ≤ 7070 + 24 * (d + 1); omega⟩) (m_preV g_bl0 hsz hK hP hS hE hKS g_to0) rfl rfl hl.1 rfl (lv_room (Nat.le_of_ble_eq_true rfl)) dX12_statement_304 ⟨Nat.le_of_ble_eq_true rfl, Nat.le_of_ble_eq_true rfl⟩) (fun H locs hP hS => ?_)
                refine lv_iload_n hx hb dX12_statement_307 rfl (lv_at hl 0 rfl) ?_
                have h9 := Option.some.inj hF_150
                subst h9
                exact W.iret (v := u_7.1) hx hb hr (fun t ht hW => ⟨⟨u_7.1, (), rfl, rfl, m_end ht hP⟩, hS.F ht⟩) hS.2.2 dX12_statement_308
            · have hF_151 := ineg c_73 hF_72
              clear hF_72
              exact Jj_34  u_71.2 hF_151 _ _ hP hS ls (lv_sub hl [2, 0] rfl)
        · have hF_153 := ineg c_29 hF_28
          clear hF_28
          refine lv_aload_n hx hb dX12_statement_185 rfl (lv_at hl 2 rfl) ?_
          refine va_get (D := (dC, dI)) (ci := 12) (v := .ref (ad 17)) (C := RX12) (T := TX12) (N := 123) hx hb hts ii_X12 hown hK hP 0 rfl rfl 17 (by decide) (hts (.fieldLink RX12 49 "StoryHouseModel" "what" "[I") wq_1373) (fun _ h9 => h9) rfl dX12_statement_186 ?_
          refine lv_iload_n hx hb dX12_statement_189 rfl (lv_at hl 0 rfl) ?_
          refine lv_bipush (v := 25) hx hb dX12_statement_190 (by decide +kernel) ?_
          obtain ⟨g_154, hF_155⟩ := nif_e hF_153
          clear hF_153
          obtain ⟨σ_156, eσ_156, hF_157⟩ := bnd_e hF_155
          clear hF_155
          refine m_iast (σ' := σ_156) hx hb hK hP (hDD _ _) hS (q0 := 8) (t0 := 2) (f := u_27.2.2 17) rfl rfl (by rw [eσ_156]; exact mwA_17) g_154 dX12_statement_192 (fun H locs hP hS => ?_)
          refine lv_aload_n hx hb dX12_statement_193 rfl (lv_at hl 2 rfl) ?_
          refine va_get (D := (dC, dI)) (ci := 12) (v := .ref (ad 19)) (C := RX12) (T := TX12) (N := 123) hx hb hts ii_X12 hown hK hP 0 rfl rfl 19 (by decide) (hts (.fieldLink RX12 55 "StoryHouseModel" "a" "[I") wq_1375) (fun _ h9 => h9) rfl dX12_statement_194 ?_
          refine lv_iload_n hx hb dX12_statement_197 rfl (lv_at hl 0 rfl) ?_
          refine lv_aload_n hx hb dX12_statement_198 rfl (lv_at hl 2 rfl) ?_
          obtain ⟨u_158, hu_158, hF_159⟩ := Option.bind_eq_some_iff.mp hF_157
          clear hF_157
          refine m_ci hsz hS (va_runV (As := []) (rest := [.int u_7.1, .ref (ad 19)]) ⟨hx, hb, hml, hown, hts⟩ (m_X12_expression l dC dI cB cC cI cJ cZ cP h qK qS ad hDD H.size  σ_156 _ hu_158) (cwV 0 hts (g_gV wq_1606 wq_1607 wq_2148 wq_13 wq_1608) rfl rfl rfl (by decide +kernel) ⟨by show 305 + 1 ≤ 307 + (d + 1); omega, by show 8 + (3 + 11) + 7024 ≤ 7070 + 24 * (d + 1); omega⟩) (m_preV g_bl0 hsz hK hP hS hE hKS g_to0) rfl rfl hl.1 rfl (lv_room (Nat.le_of_ble_eq_true rfl)) dX12_statement_199 ⟨Nat.le_of_ble_eq_true rfl, Nat.le_of_ble_eq_true rfl⟩) (fun H locs hP hS => ?_)
          obtain ⟨g_160, hF_161⟩ := nif_e hF_159
          clear hF_159
          obtain ⟨σ_162, eσ_162, hF_163⟩ := bnd_e hF_161
          clear hF_161
          refine m_iast (σ' := σ_162) hx hb hK hP (hDD _ _) hS (q0 := 10) (t0 := 2) (f := u_158.2.2 19) rfl rfl (by rw [eσ_162]; exact mwA_19) g_160 dX12_statement_202 (fun H locs hP hS => ?_)
          refine lv_goto (tgt := 443) hx hb dX12_statement_203 (by decide) ?_
          exact Jj_12  σ_162 hF_163 _ _ hP hS ls (lv_sub hl [2, 0] rfl)
      · have hF_164 := ineg c_25 hF_24
        clear hF_24
        refine lv_aload_n hx hb dX12_statement_139 rfl (lv_at hl 2 rfl) ?_
        refine va_get (D := (dC, dI)) (ci := 12) (v := .ref (ad 17)) (C := RX12) (T := TX12) (N := 123) hx hb hts ii_X12 hown hK hP 0 rfl rfl 17 (by decide) (hts (.fieldLink RX12 49 "StoryHouseModel" "what" "[I") wq_1373) (fun _ h9 => h9) rfl dX12_statement_140 ?_
        refine lv_iload_n hx hb dX12_statement_143 rfl (lv_at hl 0 rfl) ?_
        refine lv_bipush (v := 24) hx hb dX12_statement_144 (by decide +kernel) ?_
        obtain ⟨g_165, hF_166⟩ := nif_e hF_164
        clear hF_164
        obtain ⟨σ_167, eσ_167, hF_168⟩ := bnd_e hF_166
        clear hF_166
        refine m_iast (σ' := σ_167) hx hb hK hP (hDD _ _) hS (q0 := 8) (t0 := 2) (f := u_23.2.2 17) rfl rfl (by rw [eσ_167]; exact mwA_17) g_165 dX12_statement_146 (fun H locs hP hS => ?_)
        refine lv_aload_n hx hb dX12_statement_147 rfl (lv_at hl 2 rfl) ?_
        refine va_get (D := (dC, dI)) (ci := 12) (v := .ref (ad 19)) (C := RX12) (T := TX12) (N := 123) hx hb hts ii_X12 hown hK hP 0 rfl rfl 19 (by decide) (hts (.fieldLink RX12 55 "StoryHouseModel" "a" "[I") wq_1375) (fun _ h9 => h9) rfl dX12_statement_148 ?_
        refine lv_iload_n hx hb dX12_statement_151 rfl (lv_at hl 0 rfl) ?_
        refine lv_aload_n hx hb dX12_statement_152 rfl (lv_at hl 2 rfl) ?_
        obtain ⟨u_169, hu_169, hF_170⟩ := Option.bind_eq_some_iff.mp hF_168
        clear hF_168
        refine m_ci hsz hS (va_runV (As := []) (rest := [.int u_7.1, .ref (ad 19)]) ⟨hx, hb, hml, hown, hts⟩ (m_X12_expression l dC dI cB cC cI cJ cZ cP h qK qS ad hDD H.size  σ_167 _ hu_169) (cwV 0 hts (g_gV wq_1606 wq_1607 wq_2148 wq_13 wq_1608) rfl rfl rfl (by decide +kernel) ⟨by show 305 + 1 ≤ 307 + (d + 1); omega, by show 8 + (3 + 11) + 7024 ≤ 7070 + 24 * (d + 1); omega⟩) (m_preV g_bl0 hsz hK hP hS hE hKS g_to0) rfl rfl hl.1 rfl (lv_room (Nat.le_of_ble_eq_true rfl)) dX12_statement_153 ⟨Nat.le_of_ble_eq_true rfl, Nat.le_of_ble_eq_true rfl⟩) (fun H locs hP hS => ?_)
        obtain ⟨g_171, hF_172⟩ := nif_e hF_170
        clear hF_170
        obtain ⟨σ_173, eσ_173, hF_174⟩ := bnd_e hF_172
        clear hF_172
        refine m_iast (σ' := σ_173) hx hb hK hP (hDD _ _) hS (q0 := 10) (t0 := 2) (f := u_169.2.2 19) rfl rfl (by rw [eσ_173]; exact mwA_19) g_171 dX12_statement_156 (fun H locs hP hS => ?_)
        refine lv_aload_n hx hb dX12_statement_157 rfl (lv_at hl 2 rfl) ?_
        refine lv_bipush (v := 42) hx hb dX12_statement_158 (by decide +kernel) ?_
        obtain ⟨u_175, hu_175, hF_176⟩ := Option.bind_eq_some_iff.mp hF_174
        clear hF_174
        refine m_cv hsz hS (va_runV (As := [.int 42]) (rest := []) ⟨hx, hb, hml, hown, hts⟩ (m_X12_needKey l dC dI cB cC cI cJ cZ cP h qK qS ad hDD H.size  42 σ_173 _ hu_175) (cwV 1 hts (g_gV wq_1588 wq_1589 wq_2142 wq_13 wq_1590) rfl rfl rfl (by decide +kernel) ⟨by show 3 + 1 ≤ 307 + (d + 1); omega, by show 8 + (2 + 11) + 82 ≤ 7070 + 24 * (d + 1); omega⟩) (m_preV g_bl0 hsz hK hP hS hE hKS g_to0) rfl rfl hl.1 rfl (lv_room (Nat.le_of_ble_eq_true rfl)) dX12_statement_160 ⟨Nat.le_of_ble_eq_true rfl, Nat.le_of_ble_eq_true rfl⟩) (fun H locs hP hS => ?_)
        refine lv_aload_n hx hb dX12_statement_163 rfl (lv_at hl 2 rfl) ?_
        refine va_get (D := (dC, dI)) (ci := 12) (v := .ref (ad 20)) (C := RX12) (T := TX12) (N := 123) hx hb hts ii_X12 hown hK hP 0 rfl rfl 20 (by decide) (hts (.fieldLink RX12 58 "StoryHouseModel" "b" "[I") wq_1376) (fun _ h9 => h9) rfl dX12_statement_164 ?_
        refine lv_iload_n hx hb dX12_statement_167 rfl (lv_at hl 0 rfl) ?_
        refine lv_aload_n hx hb dX12_statement_168 rfl (lv_at hl 2 rfl) ?_
        obtain ⟨u_177, hu_177, hF_178⟩ := Option.bind_eq_some_iff.mp hF_176
        clear hF_176
        refine m_ci hsz hS (va_runV (As := []) (rest := [.int u_7.1, .ref (ad 20)]) ⟨hx, hb, hml, hown, hts⟩ (m_X12_expression l dC dI cB cC cI cJ cZ cP h qK qS ad hDD H.size  u_175.2 _ hu_177) (cwV 0 hts (g_gV wq_1606 wq_1607 wq_2148 wq_13 wq_1608) rfl rfl rfl (by decide +kernel) ⟨by show 305 + 1 ≤ 307 + (d + 1); omega, by show 8 + (3 + 11) + 7024 ≤ 7070 + 24 * (d + 1); omega⟩) (m_preV g_bl0 hsz hK hP hS hE hKS g_to0) rfl rfl hl.1 rfl (lv_room (Nat.le_of_ble_eq_true rfl)) dX12_statement_169 ⟨Nat.le_of_ble_eq_true rfl, Nat.le_of_ble_eq_true rfl⟩) (fun H locs hP hS => ?_)
        obtain ⟨g_179, hF_180⟩ := nif_e hF_178
        clear hF_178
        obtain ⟨σ_181, eσ_181, hF_182⟩ := bnd_e hF_180
        clear hF_180
        refine m_iast (σ' := σ_181) hx hb hK hP (hDD _ _) hS (q0 := 11) (t0 := 2) (f := u_177.2.2 20) rfl rfl (by rw [eσ_181]; exact mwA_20) g_179 dX12_statement_172 (fun H locs hP hS => ?_)
        refine lv_goto (tgt := 443) hx hb dX12_statement_173 (by decide) ?_
        exact Jj_12  σ_181 hF_182 _ _ hP hS ls (lv_sub hl [2, 0] rfl)
    · have hF_183 := ineg c_21 hF_20
      clear hF_20
      refine lv_aload_n hx hb dX12_statement_93 rfl (lv_at hl 2 rfl) ?_
      refine va_get (D := (dC, dI)) (ci := 12) (v := .ref (ad 17)) (C := RX12) (T := TX12) (N := 123) hx hb hts ii_X12 hown hK hP 0 rfl rfl 17 (by decide) (hts (.fieldLink RX12 49 "StoryHouseModel" "what" "[I") wq_1373) (fun _ h9 => h9) rfl dX12_statement_94 ?_
      refine lv_iload_n hx hb dX12_statement_97 rfl (lv_at hl 0 rfl) ?_
      refine lv_bipush (v := 21) hx hb dX12_statement_98 (by decide +kernel) ?_
      obtain ⟨g_184, hF_185⟩ := nif_e hF_183
      clear hF_183
      obtain ⟨σ_186, eσ_186, hF_187⟩ := bnd_e hF_185
      clear hF_185
      refine m_iast (σ' := σ_186) hx hb hK hP (hDD _ _) hS (q0 := 8) (t0 := 2) (f := u_19.2.2 17) rfl rfl (by rw [eσ_186]; exact mwA_17) g_184 dX12_statement_100 (fun H locs hP hS => ?_)
      refine lv_aload_n hx hb dX12_statement_101 rfl (lv_at hl 2 rfl) ?_
      refine va_get (D := (dC, dI)) (ci := 12) (v := .ref (ad 19)) (C := RX12) (T := TX12) (N := 123) hx hb hts ii_X12 hown hK hP 0 rfl rfl 19 (by decide) (hts (.fieldLink RX12 55 "StoryHouseModel" "a" "[I") wq_1375) (fun _ h9 => h9) rfl dX12_statement_102 ?_
      refine lv_iload_n hx hb dX12_statement_105 rfl (lv_at hl 0 rfl) ?_
      refine lv_aload_n hx hb dX12_statement_106 rfl (lv_at hl 2 rfl) ?_
      obtain ⟨u_188, hu_188, hF_189⟩ := Option.bind_eq_some_iff.mp hF_187
      clear hF_187
      refine m_ci hsz hS (va_runV (As := []) (rest := [.int u_7.1, .ref (ad 19)]) ⟨hx, hb, hml, hown, hts⟩ (m_X12_name l dC dI cB cC cI cJ cZ cP h qK qS ad hDD H.size  σ_186 _ hu_188) (cwV 0 hts (g_gV wq_1543 wq_1544 wq_2127 wq_13 wq_1545) rfl rfl rfl (by decide +kernel) ⟨by show 4 + 1 ≤ 307 + (d + 1); omega, by show 8 + (2 + 11) + 103 ≤ 7070 + 24 * (d + 1); omega⟩) (m_preV g_bl0 hsz hK hP hS hE hKS g_to0) rfl rfl hl.1 rfl (lv_room (Nat.le_of_ble_eq_true rfl)) dX12_statement_107 ⟨Nat.le_of_ble_eq_true rfl, Nat.le_of_ble_eq_true rfl⟩) (fun H locs hP hS => ?_)
      obtain ⟨g_190, hF_191⟩ := nif_e hF_189
      clear hF_189
      obtain ⟨σ_192, eσ_192, hF_193⟩ := bnd_e hF_191
      clear hF_191
      refine m_iast (σ' := σ_192) hx hb hK hP (hDD _ _) hS (q0 := 10) (t0 := 2) (f := u_188.2.2 19) rfl rfl (by rw [eσ_192]; exact mwA_19) g_190 dX12_statement_110 (fun H locs hP hS => ?_)
      refine lv_aload_n hx hb dX12_statement_111 rfl (lv_at hl 2 rfl) ?_
      refine lv_bipush (v := 61) hx hb dX12_statement_112 (by decide +kernel) ?_
      obtain ⟨u_194, hu_194, hF_195⟩ := Option.bind_eq_some_iff.mp hF_193
      clear hF_193
      refine m_cv hsz hS (va_runV (As := [.int 61]) (rest := []) ⟨hx, hb, hml, hown, hts⟩ (m_X12_need l dC dI cB cC cI cJ cZ cP h qK qS ad hDD H.size  61 σ_192 _ hu_194) (cwV 1 hts (g_gV wq_1564 wq_1565 wq_2134 wq_13 wq_1566) rfl rfl rfl (by decide +kernel) ⟨by show 3 + 1 ≤ 307 + (d + 1); omega, by show 8 + (2 + 11) + 82 ≤ 7070 + 24 * (d + 1); omega⟩) (m_preV g_bl0 hsz hK hP hS hE hKS g_to0) rfl rfl hl.1 rfl (lv_room (Nat.le_of_ble_eq_true rfl)) dX12_statement_114 ⟨Nat.le_of_ble_eq_true rfl, Nat.le_of_ble_eq_true rfl⟩) (fun H locs hP hS => ?_)
      refine lv_aload_n hx hb dX12_statement_117 rfl (lv_at hl 2 rfl) ?_
      refine va_get (D := (dC, dI)) (ci := 12) (v := .ref (ad 20)) (C := RX12) (T := TX12) (N := 123) hx hb hts ii_X12 hown hK hP 0 rfl rfl 20 (by decide) (hts (.fieldLink RX12 58 "StoryHouseModel" "b" "[I") wq_1376) (fun _ h9 => h9) rfl dX12_statement_118 ?_
      refine lv_iload_n hx hb dX12_statement_121 rfl (lv_at hl 0 rfl) ?_
      refine lv_aload_n hx hb dX12_statement_122 rfl (lv_at hl 2 rfl) ?_
      obtain ⟨u_196, hu_196, hF_197⟩ := Option.bind_eq_some_iff.mp hF_195
      clear hF_195
      refine m_ci hsz hS (va_runV (As := []) (rest := [.int u_7.1, .ref (ad 20)]) ⟨hx, hb, hml, hown, hts⟩ (m_X12_expression l dC dI cB cC cI cJ cZ cP h qK qS ad hDD H.size  u_194.2 _ hu_196) (cwV 0 hts (g_gV wq_1606 wq_1607 wq_2148 wq_13 wq_1608) rfl rfl rfl (by decide +kernel) ⟨by show 305 + 1 ≤ 307 + (d + 1); omega, by show 8 + (3 + 11) + 7024 ≤ 7070 + 24 * (d + 1); omega⟩) (m_preV g_bl0 hsz hK hP hS hE hKS g_to0) rfl rfl hl.1 rfl (lv_room (Nat.le_of_ble_eq_true rfl)) dX12_statement_123 ⟨Nat.le_of_ble_eq_true rfl, Nat.le_of_ble_eq_true rfl⟩) (fun H locs hP hS => ?_)
      obtain ⟨g_198, hF_199⟩ := nif_e hF_197
      clear hF_197
      obtain ⟨σ_200, eσ_200, hF_201⟩ := bnd_e hF_199
      clear hF_199
      refine m_iast (σ' := σ_200) hx hb hK hP (hDD _ _) hS (q0 := 11) (t0 := 2) (f := u_196.2.2 20) rfl rfl (by rw [eσ_200]; exact mwA_20) g_198 dX12_statement_126 (fun H locs hP hS => ?_)
      refine lv_goto (tgt := 443) hx hb dX12_statement_127 (by decide) ?_
      exact Jj_12  σ_200 hF_201 _ _ hP hS ls (lv_sub hl [2, 0] rfl)
  · have hF_202 := ineg c_17 hF_13
    clear hF_13
    refine lv_aload_n hx hb dX12_statement_27 rfl (lv_at hl 2 rfl) ?_
    refine va_get (D := (dC, dI)) (ci := 12) (v := .ref (ad 17)) (C := RX12) (T := TX12) (N := 123) hx hb hts ii_X12 hown hK hP 0 rfl rfl 17 (by decide) (hts (.fieldLink RX12 49 "StoryHouseModel" "what" "[I") wq_1373) (fun _ h9 => h9) rfl dX12_statement_28 ?_
    refine lv_iload_n hx hb dX12_statement_31 rfl (lv_at hl 0 rfl) ?_
    refine lv_bipush (v := 20) hx hb dX12_statement_32 (by decide +kernel) ?_
    obtain ⟨g_203, hF_204⟩ := nif_e hF_202
    clear hF_202
    obtain ⟨σ_205, eσ_205, hF_206⟩ := bnd_e hF_204
    clear hF_204
    refine m_iast (σ' := σ_205) hx hb hK hP (hDD _ _) hS (q0 := 8) (t0 := 2) (f := u_9.2.2 17) rfl rfl (by rw [eσ_205]; exact mwA_17) g_203 dX12_statement_34 (fun H locs hP hS => ?_)
    refine lv_aload_n hx hb dX12_statement_35 rfl (lv_at hl 2 rfl) ?_
    refine va_get (D := (dC, dI)) (ci := 12) (v := .ref (ad 19)) (C := RX12) (T := TX12) (N := 123) hx hb hts ii_X12 hown hK hP 0 rfl rfl 19 (by decide) (hts (.fieldLink RX12 55 "StoryHouseModel" "a" "[I") wq_1375) (fun _ h9 => h9) rfl dX12_statement_36 ?_
    refine lv_iload_n hx hb dX12_statement_39 rfl (lv_at hl 0 rfl) ?_
    refine lv_aload_n hx hb dX12_statement_40 rfl (lv_at hl 2 rfl) ?_
    obtain ⟨u_207, hu_207, hF_208⟩ := Option.bind_eq_some_iff.mp hF_206
    clear hF_206
    refine m_ci hsz hS (va_runV (As := []) (rest := [.int u_7.1, .ref (ad 19)]) ⟨hx, hb, hml, hown, hts⟩ (m_X12_telling l dC dI cB cC cI cJ cZ cP h qK qS ad hDD H.size  σ_205 _ hu_207) (cwV 0 hts (g_gV wq_1597 wq_1598 wq_2145 wq_13 wq_1599) rfl rfl rfl (by decide +kernel) ⟨by show 306 + 1 ≤ 307 + (d + 1); omega, by show 8 + (4 + 11) + 7047 ≤ 7070 + 24 * (d + 1); omega⟩) (m_preV g_bl0 hsz hK hP hS hE hKS g_to0) rfl rfl hl.1 rfl (lv_room (Nat.le_of_ble_eq_true rfl)) dX12_statement_41 ⟨Nat.le_of_ble_eq_true rfl, Nat.le_of_ble_eq_true rfl⟩) (fun H locs hP hS => ?_)
    obtain ⟨g_209, hF_210⟩ := nif_e hF_208
    clear hF_208
    obtain ⟨σ_211, eσ_211, hF_212⟩ := bnd_e hF_210
    clear hF_210
    refine m_iast (σ' := σ_211) hx hb hK hP (hDD _ _) hS (q0 := 10) (t0 := 2) (f := u_207.2.2 19) rfl rfl (by rw [eσ_211]; exact mwA_19) g_209 dX12_statement_44 (fun H locs hP hS => ?_)
    refine lv_aload_n hx hb dX12_statement_45 rfl (lv_at hl 2 rfl) ?_
    refine va_get (D := (dC, dI)) (ci := 12) (v := .ref (ad 19)) (C := RX12) (T := TX12) (N := 123) hx hb hts ii_X12 hown hK hP 0 rfl rfl 19 (by decide) (hts (.fieldLink RX12 55 "StoryHouseModel" "a" "[I") wq_1375) (fun _ h9 => h9) rfl dX12_statement_46 ?_
    refine lv_iload_n hx hb dX12_statement_49 rfl (lv_at hl 0 rfl) ?_
    obtain ⟨g_213, hF_214⟩ := nif_e hF_212
    clear hF_212
    refine va_iald (f := σ_211.2 19) hx hb hK hP 10 2 rfl rfl g_213 dX12_statement_50 ?_
    obtain ⟨x_215, ex_215, hF_216⟩ := bnd_e hF_214
    clear hF_214
    refine m_top ex_215 ?_
    refine lv_istore_n (lv' := [(3, .int x_215), (2, .int u_7.1), (1, .int x_5), (0, .ref h)]) hx hb dX12_statement_51 rfl hl (by decide) rfl (fun ls hl => ?_)
    refine loopF_ind (P := fun (s_217 : Int32 × MS) => ∀ (H : Heap) (locs : List Loc), va_P (dC, dI) vwCl (mW cB cI cZ h qK qS ad s_217.2) H → va_S (mCells h ad sz) s.heap H locs → ∀ ls : Array Slot, lv_has ls 5 [(0, .ref h), (2, .int u_7.1), (3, .int s_217.1)] → W p l e (headSpec (g_ws yX12_statement cX12_statement 5 (some .int)) { frames := 307 + (d + 1), cells := 0, slots := 0, locals := 7070 + 24 * (d + 1) }).room s m ([.ref h] : List Value).toArray below meth c H locs 0 0 (MQ below (va_Qi (fun r (_ : Unit) => r = res.1) (fun _ t => va_P (dC, dI) vwCl (mW cB cI cZ h qK qS ad res.2) t.heap) (mCells h ad sz)) ([.ref h] : List Value).toArray s 0 0 (mCells h ad sz)) (F0 m 52 ls [])) ?_ _ _ hF_216 _ _ hP hS ls (lv_sub hl [3, 1, 0] rfl)
    intro again_218 s_217 ih_219 hF_220
    intro H locs hP hS ls hl
    refine lv_aload_n hx hb dX12_statement_52 rfl (lv_at hl 0 rfl) ?_
    refine lv_bipush (v := 44) hx hb dX12_statement_53 (by decide +kernel) ?_
    obtain ⟨u_221, hu_221, hF_222⟩ := Option.bind_eq_some_iff.mp hF_220
    clear hF_220
    refine m_ci hsz hS (va_runV (As := [.int 44]) (rest := []) ⟨hx, hb, hml, hown, hts⟩ (m_X12_took l dC dI cB cC cI cJ cZ cP h qK qS ad hDD H.size  44 s_217.2 _ hu_221) (cwV 1 hts (g_gV wq_1567 wq_1568 wq_2135 wq_13 wq_1569) rfl rfl rfl (by decide +kernel) ⟨by show 2 + 1 ≤ 307 + (d + 1); omega, by show 8 + (2 + 11) + 61 ≤ 7070 + 24 * (d + 1); omega⟩) (m_preV g_bl0 hsz hK hP hS hE hKS g_to0) rfl rfl hl.1 rfl (lv_room (Nat.le_of_ble_eq_true rfl)) dX12_statement_55 ⟨Nat.le_of_ble_eq_true rfl, Nat.le_of_ble_eq_true rfl⟩) (fun H locs hP hS => ?_)
    refine lv_if_eq (tgt := 81) hx hb dX12_statement_58 (by decide) (fun c_223 => ?_) (fun c_223 => ?_)
    · have hF_224 := ipos c_223 hF_222
      clear hF_222
      refine lv_goto (tgt := 443) hx hb dX12_statement_81 (by decide) ?_
      exact Jj_12  u_221.2 hF_224 _ _ hP hS ls (lv_sub hl [0, 1] rfl)
    · have hF_225 := ineg c_223 hF_222
      clear hF_222
      refine lv_aload_n hx hb dX12_statement_61 rfl (lv_at hl 0 rfl) ?_
      obtain ⟨u_226, hu_226, hF_227⟩ := Option.bind_eq_some_iff.mp hF_225
      clear hF_225
      refine m_ci hsz hS (va_runV (As := []) (rest := []) ⟨hx, hb, hml, hown, hts⟩ (m_X12_telling l dC dI cB cC cI cJ cZ cP h qK qS ad hDD H.size  u_221.2 _ hu_226) (cwV 0 hts (g_gV wq_1597 wq_1598 wq_2145 wq_13 wq_1599) rfl rfl rfl (by decide +kernel) ⟨by show 306 + 1 ≤ 307 + (d + 1); omega, by show 8 + (4 + 11) + 7047 ≤ 7070 + 24 * (d + 1); omega⟩) (m_preV g_bl0 hsz hK hP hS hE hKS g_to0) rfl rfl hl.1 rfl (lv_room (Nat.le_of_ble_eq_true rfl)) dX12_statement_62 ⟨Nat.le_of_ble_eq_true rfl, Nat.le_of_ble_eq_true rfl⟩) (fun H locs hP hS => ?_)
      refine lv_istore (lv' := [(4, .int u_226.1), (0, .ref h), (2, .int u_7.1), (3, .int s_217.1)]) hx hb dX12_statement_65 hl (by decide) rfl (fun ls hl => ?_)
      refine lv_aload_n hx hb dX12_statement_67 rfl (lv_at hl 1 rfl) ?_
      refine va_get (D := (dC, dI)) (ci := 12) (v := .ref (ad 22)) (C := RX12) (T := TX12) (N := 123) hx hb hts ii_X12 hown hK hP 0 rfl rfl 22 (by decide) (hts (.fieldLink RX12 64 "StoryHouseModel" "then" "[I") wq_1378) (fun _ h9 => h9) rfl dX12_statement_68 ?_
      refine lv_iload_n hx hb dX12_statement_71 rfl (lv_at hl 3 rfl) ?_
      refine lv_iload hx hb dX12_statement_72 (lv_at hl 0 rfl) ?_
      obtain ⟨g_228, hF_229⟩ := nif_e hF_227
      clear hF_227
      obtain ⟨σ_230, eσ_230, hF_231⟩ := bnd_e hF_229
      clear hF_229
      refine m_iast (σ' := σ_230) hx hb hK hP (hDD _ _) hS (q0 := 13) (t0 := 2) (f := u_226.2.2 22) rfl rfl (by rw [eσ_230]; exact mwA_22) g_228 dX12_statement_74 (fun H locs hP hS => ?_)
      refine lv_iload hx hb dX12_statement_75 (lv_at hl 0 rfl) ?_
      refine lv_istore_n (lv' := [(3, .int u_226.1), (4, .int u_226.1), (0, .ref h), (2, .int u_7.1)]) hx hb dX12_statement_77 rfl hl (by decide) rfl (fun ls hl => ?_)
      refine lv_goto (tgt := 52) hx hb dX12_statement_78 (by decide) ?_
      exact ih_219 (u_226.1, σ_230) hF_231 _ _ hP hS ls (lv_sub hl [2, 3, 0] rfl)

def F_X12_iff (rec : GF) (p0 : Int32) (σ : MS) : MR :=
  (G_X12_expression σ).bind fun u_1 =>
  if p0 < 0 ∨ 40000 ≤ p0.toNatClampNeg then none else
  bnd (mA u_1.2 19 (upd (u_1.2.2 19) p0.toNatClampNeg u_1.1)) fun σ_5 =>
  (rec 0 0 0 0 σ_5).bind fun u_7 =>
  if p0 < 0 ∨ 40000 ≤ p0.toNatClampNeg then none else
  bnd (mA u_7.2 20 (upd (u_7.2.2 20) p0.toNatClampNeg u_7.1)) fun σ_11 =>
  (F_X12_tookKey 11 σ_11).bind fun u_13 =>
  if u_13.1 = 0 then (
    some (0, u_13.2)
  ) else (
    (F_X12_isKey 17 u_13.2).bind fun u_18 =>
    if u_18.1 = 0 then (
      (rec 0 0 0 0 u_18.2).bind fun u_22 =>
      if p0 < 0 ∨ 40000 ≤ p0.toNatClampNeg then none else
      bnd (mA u_22.2 21 (upd (u_22.2.2 21) p0.toNatClampNeg u_22.1)) fun σ_26 =>
      some (0, σ_26)
    ) else (
      bnd ((u_18.2.1 25)) fun (x_29 : Int32) =>
      if x_29 < 0 ∨ 16010 ≤ x_29.toNatClampNeg then none else
      (F_X12_node 27 (u_18.2.2 8 x_29.toNatClampNeg) u_18.2).bind fun u_33 =>
      (F_X12_opens u_33.2).bind fun u_35 =>
      bnd (mI u_35.2 25 ((u_35.2.1 25) + 1)) fun σ_37 =>
      (rec 2 u_33.1 0 0 σ_37).bind fun u_39 =>
      bnd (mI u_39.2 26 ((u_39.2.1 26) - 1)) fun σ_41 =>
      if p0 < 0 ∨ 40000 ≤ p0.toNatClampNeg then none else
      bnd (mA σ_41 21 (upd (σ_41.2 21) p0.toNatClampNeg u_33.1)) fun σ_45 =>
      some (0, σ_45)
    )
  )
set_option maxHeartbeats 4000000 in
set_option maxRecDepth 100000 in
theorem m_X12_iff_st (l : Launch) (dC : Nat → ClassId) (dI : Nat → Nat → Nat) (cB cC cI cJ cZ cP : ClassId) (h qK qS : Nat) (ad : Nat → Nat) (hDD : mDis cB cI cZ h qK qS ad) (d : Nat) (rec : GF) (hI0 : ∀ (sz : Nat)  (σ : MS) (res : Int32 × MS), rec 0 0 0 0 σ = some res → Met l yX12_block (g_ws yX12_block cX12_block 4 (some .int)) ({ frames := 307 + d, cells := 0, slots := 0, locals := 7070 + 24 * d }) (va_Pc [.ref h] (m_B (dC, dI) [(cB, .byte), (cC, .char), (cI, .int), (cJ, .long), (cZ, .boolean), (cP, .object "StoryHouse$Play")] sz h ad qK qS (mW cB cI cZ h qK qS ad σ) g_0)) (va_Qi (fun r (_ : Unit) => r = res.1) (fun _ t => va_P (dC, dI) vwCl (mW cB cI cZ h qK qS ad res.2) t.heap) (mCells h ad sz)) 0 0 (mCells h ad sz)) (hI1 : ∀ (sz : Nat)  (σ : MS) (res : Int32 × MS), rec 1 0 0 0 σ = some res → Met l yX12_statement (g_ws yX12_statement cX12_statement 5 (some .int)) ({ frames := 307 + d, cells := 0, slots := 0, locals := 7070 + 24 * d }) (va_Pc [.ref h] (m_B (dC, dI) [(cB, .byte), (cC, .char), (cI, .int), (cJ, .long), (cZ, .boolean), (cP, .object "StoryHouse$Play")] sz h ad qK qS (mW cB cI cZ h qK qS ad σ) g_0)) (va_Qi (fun r (_ : Unit) => r = res.1) (fun _ t => va_P (dC, dI) vwCl (mW cB cI cZ h qK qS ad res.2) t.heap) (mCells h ad sz)) 0 0 (mCells h ad sz)) (hI2 : ∀ (sz : Nat) (p0 : Int32) (σ : MS) (res : Int32 × MS), rec 2 p0 0 0 σ = some res → Met l yX12_iff (g_ws yX12_iff cX12_iff 3 none) ({ frames := 307 + d, cells := 0, slots := 0, locals := 7070 + 24 * d }) (va_Pc [.ref h, .int p0] (m_B (dC, dI) [(cB, .byte), (cC, .char), (cI, .int), (cJ, .long), (cZ, .boolean), (cP, .object "StoryHouse$Play")] sz h ad qK qS (mW cB cI cZ h qK qS ad σ) g_0)) (va_Qv (fun (_ : Unit) => True) (fun _ t => va_P (dC, dI) vwCl (mW cB cI cZ h qK qS ad res.2) t.heap) (mCells h ad sz)) 0 0 (mCells h ad sz)) (sz : Nat)  (p0 : Int32) (σ : MS) (res : Int32 × MS) (hF : F_X12_iff rec p0 σ = some res) : Met l yX12_iff (g_ws yX12_iff cX12_iff 3 none) ({ frames := 307 + (d + 1), cells := 0, slots := 0, locals := 7070 + 24 * (d + 1) }) (va_Pc [.ref h, .int p0] (m_B (dC, dI) [(cB, .byte), (cC, .char), (cI, .int), (cJ, .long), (cZ, .boolean), (cP, .object "StoryHouse$Play")] sz h ad qK qS (mW cB cI cZ h qK qS ad σ) g_0)) (va_Qv (fun (_ : Unit) => True) (fun _ t => va_P (dC, dI) vwCl (mW cB cI cZ h qK qS ad res.2) t.heap) (mCells h ad sz)) 0 0 (mCells h ad sz) := by
  refine Met.ofW (cc := cX12_iff) (maxL := 3) (ret := none) (by decide) rfl ?_
  intro p e s m args below meth c s₁ B hml hv
  obtain ⟨rfl, hsz, hP, hK, hE, hKS, hX⟩ := hv
  have hx := B.exec
  have hb := B.bytes
  have hr := B.returns
  have hts0 := atoms_spec (ws := g_ws yX12_iff cX12_iff 3 none) B.pre
  have hts : ∀ w ∈ lw_good, w.before ([.ref h, .int p0] : List Value).toArray s = true := fun w z => hts0 w (List.mem_cons_of_mem _ z)
  have hown : s.vm.findClass RX12 = some m.cls := findClass_of_methodNamed B.named
  have hlocks := B.notSynchronized
  have hS : va_S (mCells h ad sz) s.heap s.heap [] := va_S.rf
  have hl := lv_entry ([.ref h, .int p0]) (n := 3) (Nat.le_of_ble_eq_true rfl)
  rw [lg_entry_eq]
  generalize (lg_sl ([.ref h, .int p0]) ++ List.replicate (3 - (lg_sl ([.ref h, .int p0])).length) Slot.unset).toArray = ls at hl ⊢
  have hl : lv_has ls 3 [(0, .ref h), (1, .int p0)] := hl
  unfold F_X12_iff at hF
  refine lv_aload_n hx hb dX12_iff_0 rfl (lv_at hl 0 rfl) ?_
  refine va_get (D := (dC, dI)) (ci := 12) (v := .ref (ad 19)) (C := RX12) (T := TX12) (N := 123) hx hb hts ii_X12 hown hK hP 0 rfl rfl 19 (by decide) (hts (.fieldLink RX12 55 "StoryHouseModel" "a" "[I") wq_1375) (fun _ h9 => h9) rfl dX12_iff_1 ?_
  refine lv_iload_n hx hb dX12_iff_4 rfl (lv_at hl 1 rfl) ?_
  refine lv_aload_n hx hb dX12_iff_5 rfl (lv_at hl 0 rfl) ?_
  obtain ⟨u_1, hu_1, hF_2⟩ := Option.bind_eq_some_iff.mp hF
  clear hF
  refine m_ci hsz hS (va_runV (As := []) (rest := [.int p0, .ref (ad 19)]) ⟨hx, hb, hml, hown, hts⟩ (m_X12_expression l dC dI cB cC cI cJ cZ cP h qK qS ad hDD s.heap.size  σ _ hu_1) (cwV 0 hts (g_gV wq_1606 wq_1607 wq_2148 wq_13 wq_1608) rfl rfl rfl (by decide +kernel) ⟨by show 305 + 1 ≤ 307 + (d + 1); omega, by show 8 + (3 + 11) + 7024 ≤ 7070 + 24 * (d + 1); omega⟩) (m_preV g_bl0 hsz hK hP hS hE hKS g_to0) rfl rfl hl.1 rfl (lv_room (Nat.le_of_ble_eq_true rfl)) dX12_iff_6 ⟨Nat.le_of_ble_eq_true rfl, Nat.le_of_ble_eq_true rfl⟩) (fun H locs hP hS => ?_)
  obtain ⟨g_3, hF_4⟩ := nif_e hF_2
  clear hF_2
  obtain ⟨σ_5, eσ_5, hF_6⟩ := bnd_e hF_4
  clear hF_4
  refine m_iast (σ' := σ_5) hx hb hK hP (hDD _ _) hS (q0 := 10) (t0 := 2) (f := u_1.2.2 19) rfl rfl (by rw [eσ_5]; exact mwA_19) g_3 dX12_iff_9 (fun H locs hP hS => ?_)
  refine lv_aload_n hx hb dX12_iff_10 rfl (lv_at hl 0 rfl) ?_
  refine va_get (D := (dC, dI)) (ci := 12) (v := .ref (ad 20)) (C := RX12) (T := TX12) (N := 123) hx hb hts ii_X12 hown hK hP 0 rfl rfl 20 (by decide) (hts (.fieldLink RX12 58 "StoryHouseModel" "b" "[I") wq_1376) (fun _ h9 => h9) rfl dX12_iff_11 ?_
  refine lv_iload_n hx hb dX12_iff_14 rfl (lv_at hl 1 rfl) ?_
  refine lv_aload_n hx hb dX12_iff_15 rfl (lv_at hl 0 rfl) ?_
  obtain ⟨u_7, hu_7, hF_8⟩ := Option.bind_eq_some_iff.mp hF_6
  clear hF_6
  refine m_ci hsz hS (va_runV (As := []) (rest := [.int p0, .ref (ad 20)]) ⟨hx, hb, hml, hown, hts⟩ (hI0 H.size σ_5 _ hu_7) (cwV 0 hts (g_gV wq_1591 wq_1592 wq_2143 wq_13 wq_1593) rfl rfl rfl (by decide +kernel) ⟨by show 307 + d + 1 ≤ 307 + (d + 1); omega, by show 8 + (4 + 11) + (7070 + 24 * d) ≤ 7070 + 24 * (d + 1); omega⟩) (m_preV g_bl0 hsz hK hP hS hE hKS g_to0) rfl rfl hl.1 rfl (lv_room (Nat.le_of_ble_eq_true rfl)) dX12_iff_16 ⟨Nat.le_of_ble_eq_true rfl, Nat.le_of_ble_eq_true rfl⟩) (fun H locs hP hS => ?_)
  obtain ⟨g_9, hF_10⟩ := nif_e hF_8
  clear hF_8
  obtain ⟨σ_11, eσ_11, hF_12⟩ := bnd_e hF_10
  clear hF_10
  refine m_iast (σ' := σ_11) hx hb hK hP (hDD _ _) hS (q0 := 11) (t0 := 2) (f := u_7.2.2 20) rfl rfl (by rw [eσ_11]; exact mwA_20) g_9 dX12_iff_19 (fun H locs hP hS => ?_)
  refine lv_aload_n hx hb dX12_iff_20 rfl (lv_at hl 0 rfl) ?_
  refine lv_bipush (v := 11) hx hb dX12_iff_21 (by decide +kernel) ?_
  obtain ⟨u_13, hu_13, hF_14⟩ := Option.bind_eq_some_iff.mp hF_12
  clear hF_12
  refine m_ci hsz hS (va_runV (As := [.int 11]) (rest := []) ⟨hx, hb, hml, hown, hts⟩ (m_X12_tookKey l dC dI cB cC cI cJ cZ cP h qK qS ad hDD H.size  11 σ_11 _ hu_13) (cwV 1 hts (g_gV wq_1573 wq_1574 wq_2137 wq_13 wq_1575) rfl rfl rfl (by decide +kernel) ⟨by show 2 + 1 ≤ 307 + (d + 1); omega, by show 8 + (2 + 11) + 61 ≤ 7070 + 24 * (d + 1); omega⟩) (m_preV g_bl0 hsz hK hP hS hE hKS g_to0) rfl rfl hl.1 rfl (lv_room (Nat.le_of_ble_eq_true rfl)) dX12_iff_23 ⟨Nat.le_of_ble_eq_true rfl, Nat.le_of_ble_eq_true rfl⟩) (fun H locs hP hS => ?_)
  refine lv_if_ne (tgt := 30) hx hb dX12_iff_26 (by decide) (fun c_15 => ?_) (fun c_15 => ?_)
  · have hF_17 := ineg c_15 hF_14
    clear hF_14
    refine lv_aload_n hx hb dX12_iff_30 rfl (lv_at hl 0 rfl) ?_
    refine lv_bipush (v := 17) hx hb dX12_iff_31 (by decide +kernel) ?_
    obtain ⟨u_18, hu_18, hF_19⟩ := Option.bind_eq_some_iff.mp hF_17
    clear hF_17
    refine m_ci hsz hS (va_runV (As := [.int 17]) (rest := []) ⟨hx, hb, hml, hown, hts⟩ (m_X12_isKey l dC dI cB cC cI cJ cZ cP h qK qS ad hDD H.size  17 u_13.2 _ hu_18) (cwV 1 hts (g_gV wq_1534 wq_1535 wq_2124 wq_13 wq_1536) rfl rfl rfl (by decide +kernel) ⟨by show 1 + 1 ≤ 307 + (d + 1); omega, by show 8 + (2 + 11) + 40 ≤ 7070 + 24 * (d + 1); omega⟩) (m_preV g_bl0 hsz hK hP hS hE hKS g_to0) rfl rfl hl.1 rfl (lv_room (Nat.le_of_ble_eq_true rfl)) dX12_iff_33 ⟨Nat.le_of_ble_eq_true rfl, Nat.le_of_ble_eq_true rfl⟩) (fun H locs hP hS => ?_)
    refine lv_if_eq (tgt := 94) hx hb dX12_iff_36 (by decide) (fun c_20 => ?_) (fun c_20 => ?_)
    · have hF_21 := ipos c_20 hF_19
      clear hF_19
      refine lv_aload_n hx hb dX12_iff_94 rfl (lv_at hl 0 rfl) ?_
      refine va_get (D := (dC, dI)) (ci := 12) (v := .ref (ad 21)) (C := RX12) (T := TX12) (N := 123) hx hb hts ii_X12 hown hK hP 0 rfl rfl 21 (by decide) (hts (.fieldLink RX12 61 "StoryHouseModel" "d" "[I") wq_1377) (fun _ h9 => h9) rfl dX12_iff_95 ?_
      refine lv_iload_n hx hb dX12_iff_98 rfl (lv_at hl 1 rfl) ?_
      refine lv_aload_n hx hb dX12_iff_99 rfl (lv_at hl 0 rfl) ?_
      obtain ⟨u_22, hu_22, hF_23⟩ := Option.bind_eq_some_iff.mp hF_21
      clear hF_21
      refine m_ci hsz hS (va_runV (As := []) (rest := [.int p0, .ref (ad 21)]) ⟨hx, hb, hml, hown, hts⟩ (hI0 H.size u_18.2 _ hu_22) (cwV 0 hts (g_gV wq_1591 wq_1592 wq_2143 wq_13 wq_1593) rfl rfl rfl (by decide +kernel) ⟨by show 307 + d + 1 ≤ 307 + (d + 1); omega, by show 8 + (4 + 11) + (7070 + 24 * d) ≤ 7070 + 24 * (d + 1); omega⟩) (m_preV g_bl0 hsz hK hP hS hE hKS g_to0) rfl rfl hl.1 rfl (lv_room (Nat.le_of_ble_eq_true rfl)) dX12_iff_100 ⟨Nat.le_of_ble_eq_true rfl, Nat.le_of_ble_eq_true rfl⟩) (fun H locs hP hS => ?_)
      obtain ⟨g_24, hF_25⟩ := nif_e hF_23
      clear hF_23
      obtain ⟨σ_26, eσ_26, hF_27⟩ := bnd_e hF_25
      clear hF_25
      refine m_iast (σ' := σ_26) hx hb hK hP (hDD _ _) hS (q0 := 12) (t0 := 2) (f := u_22.2.2 21) rfl rfl (by rw [eσ_26]; exact mwA_21) g_24 dX12_iff_103 (fun H locs hP hS => ?_)
      have h9 := Option.some.inj hF_27
      subst h9
      exact W.vret hx hb hr (fun t ht hW => ⟨⟨(), rfl, trivial, m_end ht hP⟩, hS.F ht⟩) hS.2.2 dX12_iff_104
    · have hF_28 := ineg c_20 hF_19
      clear hF_19
      refine lv_aload_n hx hb dX12_iff_39 rfl (lv_at hl 0 rfl) ?_
      refine lv_bipush (v := 27) hx hb dX12_iff_40 (by decide +kernel) ?_
      refine lv_aload_n hx hb dX12_iff_42 rfl (lv_at hl 0 rfl) ?_
      refine va_get (D := (dC, dI)) (ci := 12) (v := .ref (ad 8)) (C := RX12) (T := TX12) (N := 123) hx hb hts ii_X12 hown hK hP 0 rfl rfl 8 (by decide) (hts (.fieldLink RX12 31 "StoryHouseModel" "tokAt" "[I") wq_1364) (fun _ h9 => h9) rfl dX12_iff_43 ?_
      refine lv_aload_n hx hb dX12_iff_46 rfl (lv_at hl 0 rfl) ?_
      refine va_get (D := (dC, dI)) (ci := 12) (v := .int (u_18.2.1 25)) (C := RX12) (T := TX12) (N := 123) hx hb hts ii_X12 hown hK hP 0 rfl rfl 25 (by decide) (hts (.fieldLink RX12 314 "StoryHouseModel" "at" "I") wq_1381) (fun _ h9 => h9) rfl dX12_iff_47 ?_
      obtain ⟨x_29, ex_29, hF_30⟩ := bnd_e hF_28
      clear hF_28
      refine m_top ex_29 ?_
      obtain ⟨g_31, hF_32⟩ := nif_e hF_30
      clear hF_30
      refine va_iald (f := u_18.2.2 8) hx hb hK hP 4 2 rfl rfl g_31 dX12_iff_50 ?_
      obtain ⟨u_33, hu_33, hF_34⟩ := Option.bind_eq_some_iff.mp hF_32
      clear hF_32
      refine m_ci hsz hS (va_runV (As := [.int 27, .int (u_18.2.2 8 x_29.toNatClampNeg)]) (rest := []) ⟨hx, hb, hml, hown, hts⟩ (m_X12_node l dC dI cB cC cI cJ cZ cP h qK qS ad hDD H.size  27 (u_18.2.2 8 x_29.toNatClampNeg) u_18.2 _ hu_33) (cwV 2 hts (g_gV wq_1540 wq_1541 wq_2126 wq_13 wq_1542) rfl rfl rfl (by decide +kernel) ⟨by show 1 + 1 ≤ 307 + (d + 1); omega, by show 8 + (3 + 11) + 40 ≤ 7070 + 24 * (d + 1); omega⟩) (m_preV g_bl0 hsz hK hP hS hE hKS g_to0) rfl rfl hl.1 rfl (lv_room (Nat.le_of_ble_eq_true rfl)) dX12_iff_51 ⟨Nat.le_of_ble_eq_true rfl, Nat.le_of_ble_eq_true rfl⟩) (fun H locs hP hS => ?_)
      refine lv_istore_n (lv' := [(2, .int u_33.1), (0, .ref h), (1, .int p0)]) hx hb dX12_iff_54 rfl hl (by decide) rfl (fun ls hl => ?_)
      refine lv_aload_n hx hb dX12_iff_55 rfl (lv_at hl 1 rfl) ?_
      obtain ⟨u_35, hu_35, hF_36⟩ := Option.bind_eq_some_iff.mp hF_34
      clear hF_34
      refine m_cv hsz hS (va_runV (As := []) (rest := []) ⟨hx, hb, hml, hown, hts⟩ (m_X12_opens l dC dI cB cC cI cJ cZ cP h qK qS ad hDD H.size  u_33.2 _ hu_35) (cwV 0 hts (g_gV wq_1561 wq_1562 wq_2133 wq_13 wq_1563) rfl rfl rfl (by decide +kernel) ⟨by show 2 + 1 ≤ 307 + (d + 1); omega, by show 8 + (1 + 11) + 62 ≤ 7070 + 24 * (d + 1); omega⟩) (m_preV g_bl0 hsz hK hP hS hE hKS g_to0) rfl rfl hl.1 rfl (lv_room (Nat.le_of_ble_eq_true rfl)) dX12_iff_56 ⟨Nat.le_of_ble_eq_true rfl, Nat.le_of_ble_eq_true rfl⟩) (fun H locs hP hS => ?_)
      refine lv_aload_n hx hb dX12_iff_59 rfl (lv_at hl 1 rfl) ?_
      refine lv_dup hx hb dX12_iff_60 rfl ?_
      refine va_get (D := (dC, dI)) (ci := 12) (v := .int (u_35.2.1 25)) (C := RX12) (T := TX12) (N := 123) hx hb hts ii_X12 hown hK hP 0 rfl rfl 25 (by decide) (hts (.fieldLink RX12 314 "StoryHouseModel" "at" "I") wq_1381) (fun _ h9 => h9) rfl dX12_iff_61 ?_
      refine lv_iconst (v := 1) hx hb dX12_iff_64 (by decide +kernel) ?_
      refine lv_iadd hx hb dX12_iff_65 ?_
      obtain ⟨σ_37, eσ_37, hF_38⟩ := bnd_e hF_36
      clear hF_36
      refine m_put (σ' := σ_37) (v := .int ((u_35.2.1 25) + 1)) (ty := .int) hx hb hts hown hK hP (hDD _ _) hS (by rw [eσ_37]; exact mwI_25) (k := 25) (by decide) (hts (.fieldLink RX12 314 "StoryHouseModel" "at" "I") wq_1381) (fun _ h9 => h9) rfl (by decide +kernel) rfl rfl dX12_iff_66 (fun H locs hP hS => ?_)
      refine lv_aload_n hx hb dX12_iff_69 rfl (lv_at hl 1 rfl) ?_
      refine lv_iload_n hx hb dX12_iff_70 rfl (lv_at hl 0 rfl) ?_
      obtain ⟨u_39, hu_39, hF_40⟩ := Option.bind_eq_some_iff.mp hF_38
      clear hF_38
      refine m_cv hsz hS (va_runV (As := [.int u_33.1]) (rest := []) ⟨hx, hb, hml, hown, hts⟩ (hI2 H.size u_33.1 σ_37 _ hu_39) (cwV 1 hts (g_gV wq_1633 wq_1634 wq_2157 wq_13 wq_1635) rfl rfl rfl (by decide +kernel) ⟨by show 307 + d + 1 ≤ 307 + (d + 1); omega, by show 8 + (3 + 11) + (7070 + 24 * d) ≤ 7070 + 24 * (d + 1); omega⟩) (m_preV g_bl0 hsz hK hP hS hE hKS g_to0) rfl rfl hl.1 rfl (lv_room (Nat.le_of_ble_eq_true rfl)) dX12_iff_71 ⟨Nat.le_of_ble_eq_true rfl, Nat.le_of_ble_eq_true rfl⟩) (fun H locs hP hS => ?_)
      refine lv_aload_n hx hb dX12_iff_74 rfl (lv_at hl 1 rfl) ?_
      refine lv_dup hx hb dX12_iff_75 rfl ?_
      refine va_get (D := (dC, dI)) (ci := 12) (v := .int (u_39.2.1 26)) (C := RX12) (T := TX12) (N := 123) hx hb hts ii_X12 hown hK hP 0 rfl rfl 26 (by decide) (hts (.fieldLink RX12 336 "StoryHouseModel" "depth" "I") wq_1382) (fun _ h9 => h9) rfl dX12_iff_76 ?_
      refine lv_iconst (v := 1) hx hb dX12_iff_79 (by decide +kernel) ?_
      refine lv_isub hx hb dX12_iff_80 ?_
      obtain ⟨σ_41, eσ_41, hF_42⟩ := bnd_e hF_40
      clear hF_40
      refine m_put (σ' := σ_41) (v := .int ((u_39.2.1 26) - 1)) (ty := .int) hx hb hts hown hK hP (hDD _ _) hS (by rw [eσ_41]; exact mwI_26) (k := 26) (by decide) (hts (.fieldLink RX12 336 "StoryHouseModel" "depth" "I") wq_1382) (fun _ h9 => h9) rfl (by decide +kernel) rfl rfl dX12_iff_81 (fun H locs hP hS => ?_)
      refine lv_aload_n hx hb dX12_iff_84 rfl (lv_at hl 1 rfl) ?_
      refine va_get (D := (dC, dI)) (ci := 12) (v := .ref (ad 21)) (C := RX12) (T := TX12) (N := 123) hx hb hts ii_X12 hown hK hP 0 rfl rfl 21 (by decide) (hts (.fieldLink RX12 61 "StoryHouseModel" "d" "[I") wq_1377) (fun _ h9 => h9) rfl dX12_iff_85 ?_
      refine lv_iload_n hx hb dX12_iff_88 rfl (lv_at hl 2 rfl) ?_
      refine lv_iload_n hx hb dX12_iff_89 rfl (lv_at hl 0 rfl) ?_
      obtain ⟨g_43, hF_44⟩ := nif_e hF_42
      clear hF_42
      obtain ⟨σ_45, eσ_45, hF_46⟩ := bnd_e hF_44
      clear hF_44
      refine m_iast (σ' := σ_45) hx hb hK hP (hDD _ _) hS (q0 := 12) (t0 := 2) (f := σ_41.2 21) rfl rfl (by rw [eσ_45]; exact mwA_21) g_43 dX12_iff_90 (fun H locs hP hS => ?_)
      refine lv_goto (tgt := 104) hx hb dX12_iff_91 (by decide) ?_
      have h9 := Option.some.inj hF_46
      subst h9
      exact W.vret hx hb hr (fun t ht hW => ⟨⟨(), rfl, trivial, m_end ht hP⟩, hS.F ht⟩) hS.2.2 dX12_iff_104
  · have hF_16 := ipos c_15 hF_14
    clear hF_14
    have h9 := Option.some.inj hF_16
    subst h9
    exact W.vret hx hb hr (fun t ht hW => ⟨⟨(), rfl, trivial, m_end ht hP⟩, hS.F ht⟩) hS.2.2 dX12_iff_29

/-- the group, by its depth -/
def gS : Nat → GF
  | 0, _, _, _, _, _ => none
  | d + 1, t, a, b, c, σ => if t = 0 then F_X12_block (gS d)  σ else if t = 1 then F_X12_statement (gS d)  σ else if t = 2 then F_X12_iff (gS d) a σ else none
theorem gS_0 (d : Nat) (a b c : Int32) (σ : MS) : gS (d + 1) 0 a b c σ = F_X12_block (gS d)  σ := rfl
theorem gS_1 (d : Nat) (a b c : Int32) (σ : MS) : gS (d + 1) 1 a b c σ = F_X12_statement (gS d)  σ := rfl
theorem gS_2 (d : Nat) (a b c : Int32) (σ : MS) : gS (d + 1) 2 a b c σ = F_X12_iff (gS d) a σ := rfl
set_option maxHeartbeats 4000000 in
theorem gS_all (l : Launch) (dC : Nat → ClassId) (dI : Nat → Nat → Nat) (cB cC cI cJ cZ cP : ClassId) (h qK qS : Nat) (ad : Nat → Nat) (hDD : mDis cB cI cZ h qK qS ad) : ∀ d : Nat, (∀ (sz : Nat)  (σ : MS) (res : Int32 × MS), gS d 0 0 0 0 σ = some res → Met l yX12_block (g_ws yX12_block cX12_block 4 (some .int)) ({ frames := 307 + d, cells := 0, slots := 0, locals := 7070 + 24 * d }) (va_Pc [.ref h] (m_B (dC, dI) [(cB, .byte), (cC, .char), (cI, .int), (cJ, .long), (cZ, .boolean), (cP, .object "StoryHouse$Play")] sz h ad qK qS (mW cB cI cZ h qK qS ad σ) g_0)) (va_Qi (fun r (_ : Unit) => r = res.1) (fun _ t => va_P (dC, dI) vwCl (mW cB cI cZ h qK qS ad res.2) t.heap) (mCells h ad sz)) 0 0 (mCells h ad sz)) ∧ (∀ (sz : Nat)  (σ : MS) (res : Int32 × MS), gS d 1 0 0 0 σ = some res → Met l yX12_statement (g_ws yX12_statement cX12_statement 5 (some .int)) ({ frames := 307 + d, cells := 0, slots := 0, locals := 7070 + 24 * d }) (va_Pc [.ref h] (m_B (dC, dI) [(cB, .byte), (cC, .char), (cI, .int), (cJ, .long), (cZ, .boolean), (cP, .object "StoryHouse$Play")] sz h ad qK qS (mW cB cI cZ h qK qS ad σ) g_0)) (va_Qi (fun r (_ : Unit) => r = res.1) (fun _ t => va_P (dC, dI) vwCl (mW cB cI cZ h qK qS ad res.2) t.heap) (mCells h ad sz)) 0 0 (mCells h ad sz)) ∧ (∀ (sz : Nat) (p0 : Int32) (σ : MS) (res : Int32 × MS), gS d 2 p0 0 0 σ = some res → Met l yX12_iff (g_ws yX12_iff cX12_iff 3 none) ({ frames := 307 + d, cells := 0, slots := 0, locals := 7070 + 24 * d }) (va_Pc [.ref h, .int p0] (m_B (dC, dI) [(cB, .byte), (cC, .char), (cI, .int), (cJ, .long), (cZ, .boolean), (cP, .object "StoryHouse$Play")] sz h ad qK qS (mW cB cI cZ h qK qS ad σ) g_0)) (va_Qv (fun (_ : Unit) => True) (fun _ t => va_P (dC, dI) vwCl (mW cB cI cZ h qK qS ad res.2) t.heap) (mCells h ad sz)) 0 0 (mCells h ad sz)) := by
  intro d
  induction d with
  | zero => exact ⟨(fun sz  σ res hz => by cases hz), (fun sz  σ res hz => by cases hz), (fun sz p0 σ res hz => by cases hz)⟩
  | succ d ih =>
    obtain ⟨hI0, hI1, hI2⟩ := ih
    exact ⟨(fun sz  σ res hF => m_X12_block_st l dC dI cB cC cI cJ cZ cP h qK qS ad hDD d (gS d) hI0 hI1 hI2 sz  σ res ((gS_0 d 0 0 0 σ).symm.trans hF)), (fun sz  σ res hF => m_X12_statement_st l dC dI cB cC cI cJ cZ cP h qK qS ad hDD d (gS d) hI0 hI1 hI2 sz  σ res ((gS_1 d 0 0 0 σ).symm.trans hF)), (fun sz p0 σ res hF => m_X12_iff_st l dC dI cB cC cI cJ cZ cP h qK qS ad hDD d (gS d) hI0 hI1 hI2 sz p0 σ res ((gS_2 d p0 0 0 σ).symm.trans hF))⟩

def G_X12_block  (σ : MS) : MR := gS 100 0 0 0 0 σ
theorem m_X12_block (l : Launch) (dC : Nat → ClassId) (dI : Nat → Nat → Nat) (cB cC cI cJ cZ cP : ClassId) (h qK qS : Nat) (ad : Nat → Nat) (hDD : mDis cB cI cZ h qK qS ad) : ∀ (sz : Nat)  (σ : MS) (res : Int32 × MS), G_X12_block  σ = some res → Met l yX12_block (g_ws yX12_block cX12_block 4 (some .int)) ({ frames := 407, cells := 0, slots := 0, locals := 9470 }) (va_Pc [.ref h] (m_B (dC, dI) [(cB, .byte), (cC, .char), (cI, .int), (cJ, .long), (cZ, .boolean), (cP, .object "StoryHouse$Play")] sz h ad qK qS (mW cB cI cZ h qK qS ad σ) g_0)) (va_Qi (fun r (_ : Unit) => r = res.1) (fun _ t => va_P (dC, dI) vwCl (mW cB cI cZ h qK qS ad res.2) t.heap) (mCells h ad sz)) 0 0 (mCells h ad sz) := (gS_all l dC dI cB cC cI cJ cZ cP h qK qS ad hDD 100).1

def G_X12_statement  (σ : MS) : MR := gS 100 1 0 0 0 σ
theorem m_X12_statement (l : Launch) (dC : Nat → ClassId) (dI : Nat → Nat → Nat) (cB cC cI cJ cZ cP : ClassId) (h qK qS : Nat) (ad : Nat → Nat) (hDD : mDis cB cI cZ h qK qS ad) : ∀ (sz : Nat)  (σ : MS) (res : Int32 × MS), G_X12_statement  σ = some res → Met l yX12_statement (g_ws yX12_statement cX12_statement 5 (some .int)) ({ frames := 407, cells := 0, slots := 0, locals := 9470 }) (va_Pc [.ref h] (m_B (dC, dI) [(cB, .byte), (cC, .char), (cI, .int), (cJ, .long), (cZ, .boolean), (cP, .object "StoryHouse$Play")] sz h ad qK qS (mW cB cI cZ h qK qS ad σ) g_0)) (va_Qi (fun r (_ : Unit) => r = res.1) (fun _ t => va_P (dC, dI) vwCl (mW cB cI cZ h qK qS ad res.2) t.heap) (mCells h ad sz)) 0 0 (mCells h ad sz) := (gS_all l dC dI cB cC cI cJ cZ cP h qK qS ad hDD 100).2.1

def G_X12_iff (p0 : Int32) (σ : MS) : MR := gS 100 2 p0 0 0 σ
theorem m_X12_iff (l : Launch) (dC : Nat → ClassId) (dI : Nat → Nat → Nat) (cB cC cI cJ cZ cP : ClassId) (h qK qS : Nat) (ad : Nat → Nat) (hDD : mDis cB cI cZ h qK qS ad) : ∀ (sz : Nat) (p0 : Int32) (σ : MS) (res : Int32 × MS), G_X12_iff p0 σ = some res → Met l yX12_iff (g_ws yX12_iff cX12_iff 3 none) ({ frames := 407, cells := 0, slots := 0, locals := 9470 }) (va_Pc [.ref h, .int p0] (m_B (dC, dI) [(cB, .byte), (cC, .char), (cI, .int), (cJ, .long), (cZ, .boolean), (cP, .object "StoryHouse$Play")] sz h ad qK qS (mW cB cI cZ h qK qS ad σ) g_0)) (va_Qv (fun (_ : Unit) => True) (fun _ t => va_P (dC, dI) vwCl (mW cB cI cZ h qK qS ad res.2) t.heap) (mCells h ad sz)) 0 0 (mCells h ad sz) := (gS_all l dC dI cB cC cI cJ cZ cP h qK qS ad hDD 100).2.2
theorem dX12_ended_0 : decode cX12_ended 0 = .ok (.aload_n 0, 1) := by decide +kernel
theorem dX12_ended_1 : decode cX12_ended 1 = .ok (.bipush 34, 2) := by decide +kernel
theorem dX12_ended_3 : decode cX12_ended 3 = .ok (.aload_n 0, 1) := by decide +kernel
theorem dX12_ended_4 : decode cX12_ended 4 = .ok (.getfield 314, 3) := by decide +kernel
theorem dX12_ended_7 : decode cX12_ended 7 = .ok (.ifCond .le 19, 3) := by decide +kernel
theorem dX12_ended_10 : decode cX12_ended 10 = .ok (.aload_n 0, 1) := by decide +kernel
theorem dX12_ended_11 : decode cX12_ended 11 = .ok (.getfield 31, 3) := by decide +kernel
theorem dX12_ended_14 : decode cX12_ended 14 = .ok (.aload_n 0, 1) := by decide +kernel
theorem dX12_ended_15 : decode cX12_ended 15 = .ok (.getfield 314, 3) := by decide +kernel
theorem dX12_ended_18 : decode cX12_ended 18 = .ok (.iconst 1, 1) := by decide +kernel
theorem dX12_ended_19 : decode cX12_ended 19 = .ok (.isub, 1) := by decide +kernel
theorem dX12_ended_20 : decode cX12_ended 20 = .ok (.iaload, 1) := by decide +kernel
theorem dX12_ended_21 : decode cX12_ended 21 = .ok (.iconst 1, 1) := by decide +kernel
theorem dX12_ended_22 : decode cX12_ended 22 = .ok (.iadd, 1) := by decide +kernel
theorem dX12_ended_23 : decode cX12_ended 23 = .ok (.goto 4, 3) := by decide +kernel
theorem dX12_ended_26 : decode cX12_ended 26 = .ok (.iconst 0, 1) := by decide +kernel
theorem dX12_ended_27 : decode cX12_ended 27 = .ok (.invokevirtual 346, 3) := by decide +kernel
theorem dX12_ended_30 : decode cX12_ended 30 = .ok (.istore_n 2, 1) := by decide +kernel
theorem dX12_ended_31 : decode cX12_ended 31 = .ok (.aload_n 0, 1) := by decide +kernel
theorem dX12_ended_32 : decode cX12_ended 32 = .ok (.getfield 55, 3) := by decide +kernel
theorem dX12_ended_35 : decode cX12_ended 35 = .ok (.iload_n 2, 1) := by decide +kernel
theorem dX12_ended_36 : decode cX12_ended 36 = .ok (.aload_n 0, 1) := by decide +kernel
theorem dX12_ended_37 : decode cX12_ended 37 = .ok (.getfield 61, 3) := by decide +kernel
theorem dX12_ended_40 : decode cX12_ended 40 = .ok (.iload_n 1, 1) := by decide +kernel
theorem dX12_ended_41 : decode cX12_ended 41 = .ok (.iaload, 1) := by decide +kernel
theorem dX12_ended_42 : decode cX12_ended 42 = .ok (.iastore, 1) := by decide +kernel
theorem dX12_ended_43 : decode cX12_ended 43 = .ok (.aload_n 0, 1) := by decide +kernel
theorem dX12_ended_44 : decode cX12_ended 44 = .ok (.getfield 61, 3) := by decide +kernel
theorem dX12_ended_47 : decode cX12_ended 47 = .ok (.iload_n 1, 1) := by decide +kernel
theorem dX12_ended_48 : decode cX12_ended 48 = .ok (.iload_n 2, 1) := by decide +kernel
theorem dX12_ended_49 : decode cX12_ended 49 = .ok (.iastore, 1) := by decide +kernel
theorem dX12_ended_50 : decode cX12_ended 50 = .ok (.iload_n 1, 1) := by decide +kernel
theorem dX12_ended_51 : decode cX12_ended 51 = .ok (.ireturn, 1) := by decide +kernel
def F_X12_ended (p0 : Int32) (σ : MS) : MR :=
  bnd (fun (t_1 : Int32) (σ_2 : MS) => (
    (F_X12_node 34 t_1 σ_2).bind fun u_6 =>
    if p0 < 0 ∨ 40000 ≤ p0.toNatClampNeg then none else
    if u_6.1 < 0 ∨ 40000 ≤ u_6.1.toNatClampNeg then none else
    bnd (mA u_6.2 19 (upd (u_6.2.2 19) u_6.1.toNatClampNeg (u_6.2.2 21 p0.toNatClampNeg))) fun σ_12 =>
    if p0 < 0 ∨ 40000 ≤ p0.toNatClampNeg then none else
    bnd (mA σ_12 21 (upd (σ_12.2 21) p0.toNatClampNeg u_6.1)) fun σ_16 =>
    some (p0, σ_16)
  ) : Int32 → MS → MR) fun j_3 =>
  if (σ.1 25) ≤ 0 then (
    j_3 0 σ
  ) else (
    bnd (((σ.1 25) - 1)) fun (x_21 : Int32) =>
    if x_21 < 0 ∨ 16010 ≤ x_21.toNatClampNeg then none else
    j_3 ((σ.2 8 x_21.toNatClampNeg) + 1) σ
  )
set_option maxHeartbeats 4000000 in
set_option maxRecDepth 100000 in
theorem m_X12_ended (l : Launch) (dC : Nat → ClassId) (dI : Nat → Nat → Nat) (cB cC cI cJ cZ cP : ClassId) (h qK qS : Nat) (ad : Nat → Nat) (hDD : mDis cB cI cZ h qK qS ad) (sz : Nat)  (p0 : Int32) (σ : MS) (res : Int32 × MS) (hF : F_X12_ended p0 σ = some res) : Met l yX12_ended (g_ws yX12_ended cX12_ended 3 (some .int)) ({ frames := 2, cells := 0, slots := 0, locals := 62 }) (va_Pc [.ref h, .int p0] (m_B (dC, dI) [(cB, .byte), (cC, .char), (cI, .int), (cJ, .long), (cZ, .boolean), (cP, .object "StoryHouse$Play")] sz h ad qK qS (mW cB cI cZ h qK qS ad σ) g_0)) (va_Qi (fun r (_ : Unit) => r = res.1) (fun _ t => va_P (dC, dI) vwCl (mW cB cI cZ h qK qS ad res.2) t.heap) (mCells h ad sz)) 0 0 (mCells h ad sz) := by
  refine Met.ofW (cc := cX12_ended) (maxL := 3) (ret := (some .int)) (by decide) rfl ?_
  intro p e s m args below meth c s₁ B hml hv
  obtain ⟨rfl, hsz, hP, hK, hE, hKS, hX⟩ := hv
  have hx := B.exec
  have hb := B.bytes
  have hr := B.returns
  have hts0 := atoms_spec (ws := g_ws yX12_ended cX12_ended 3 (some .int)) B.pre
  have hts : ∀ w ∈ lw_good, w.before ([.ref h, .int p0] : List Value).toArray s = true := fun w z => hts0 w (List.mem_cons_of_mem _ z)
  have hown : s.vm.findClass RX12 = some m.cls := findClass_of_methodNamed B.named
  have hlocks := B.notSynchronized
  have hS : va_S (mCells h ad sz) s.heap s.heap [] := va_S.rf
  have hl := lv_entry ([.ref h, .int p0]) (n := 3) (Nat.le_of_ble_eq_true rfl)
  rw [lg_entry_eq]
  generalize (lg_sl ([.ref h, .int p0]) ++ List.replicate (3 - (lg_sl ([.ref h, .int p0])).length) Slot.unset).toArray = ls at hl ⊢
  have hl : lv_has ls 3 [(0, .ref h), (1, .int p0)] := hl
  unfold F_X12_ended at hF
  refine lv_aload_n hx hb dX12_ended_0 rfl (lv_at hl 0 rfl) ?_
  refine lv_bipush (v := 34) hx hb dX12_ended_1 (by decide +kernel) ?_
  refine lv_aload_n hx hb dX12_ended_3 rfl (lv_at hl 0 rfl) ?_
  refine va_get (D := (dC, dI)) (ci := 12) (v := .int (σ.1 25)) (C := RX12) (T := TX12) (N := 123) hx hb hts ii_X12 hown hK hP 0 rfl rfl 25 (by decide) (hts (.fieldLink RX12 314 "StoryHouseModel" "at" "I") wq_1381) (fun _ h9 => h9) rfl dX12_ended_4 ?_
  obtain ⟨j_3, ej_3, hF_4⟩ := bnd_e hF
  clear hF
  have Jj_3 : ∀ (t_1 : Int32) (σ_2 : MS), j_3 t_1 σ_2 = some res → ∀ (H : Heap) (locs : List Loc), va_P (dC, dI) vwCl (mW cB cI cZ h qK qS ad σ_2) H → va_S (mCells h ad sz) s.heap H locs → ∀ ls : Array Slot, lv_has ls 3 [(0, .ref h), (1, .int p0)] → W p l e (headSpec (g_ws yX12_ended cX12_ended 3 (some .int)) { frames := 2, cells := 0, slots := 0, locals := 62 }).room s m ([.ref h, .int p0] : List Value).toArray below meth c H locs 0 0 (MQ below (va_Qi (fun r (_ : Unit) => r = res.1) (fun _ t => va_P (dC, dI) vwCl (mW cB cI cZ h qK qS ad res.2) t.heap) (mCells h ad sz)) ([.ref h, .int p0] : List Value).toArray s 0 0 (mCells h ad sz)) (F0 m 27 ls [.int t_1, .int 34, .ref h]) := by
    intro t_1 σ_2 hF0 H locs hP hS ls hl
    subst ej_3
    have hF_5 := hF0
    clear hF0
    obtain ⟨u_6, hu_6, hF_7⟩ := Option.bind_eq_some_iff.mp hF_5
    clear hF_5
    refine m_ci hsz hS (va_runV (As := [.int 34, .int t_1]) (rest := []) ⟨hx, hb, hml, hown, hts⟩ (m_X12_node l dC dI cB cC cI cJ cZ cP h qK qS ad hDD H.size  34 t_1 σ_2 _ hu_6) (cwV 2 hts (g_gV wq_1540 wq_1541 wq_2126 wq_13 wq_1542) rfl rfl rfl (by decide +kernel) ⟨Nat.le_of_ble_eq_true rfl, Nat.le_of_ble_eq_true rfl⟩) (m_preV g_bl0 hsz hK hP hS hE hKS g_to0) rfl rfl hl.1 rfl (lv_room (Nat.le_of_ble_eq_true rfl)) dX12_ended_27 ⟨Nat.le_of_ble_eq_true rfl, Nat.le_of_ble_eq_true rfl⟩) (fun H locs hP hS => ?_)
    refine lv_istore_n (lv' := [(2, .int u_6.1), (0, .ref h), (1, .int p0)]) hx hb dX12_ended_30 rfl hl (by decide) rfl (fun ls hl => ?_)
    refine lv_aload_n hx hb dX12_ended_31 rfl (lv_at hl 1 rfl) ?_
    refine va_get (D := (dC, dI)) (ci := 12) (v := .ref (ad 19)) (C := RX12) (T := TX12) (N := 123) hx hb hts ii_X12 hown hK hP 0 rfl rfl 19 (by decide) (hts (.fieldLink RX12 55 "StoryHouseModel" "a" "[I") wq_1375) (fun _ h9 => h9) rfl dX12_ended_32 ?_
    refine lv_iload_n hx hb dX12_ended_35 rfl (lv_at hl 0 rfl) ?_
    refine lv_aload_n hx hb dX12_ended_36 rfl (lv_at hl 1 rfl) ?_
    refine va_get (D := (dC, dI)) (ci := 12) (v := .ref (ad 21)) (C := RX12) (T := TX12) (N := 123) hx hb hts ii_X12 hown hK hP 0 rfl rfl 21 (by decide) (hts (.fieldLink RX12 61 "StoryHouseModel" "d" "[I") wq_1377) (fun _ h9 => h9) rfl dX12_ended_37 ?_
    refine lv_iload_n hx hb dX12_ended_40 rfl (lv_at hl 2 rfl) ?_
    obtain ⟨g_8, hF_9⟩ := nif_e hF_7
    clear hF_7
    refine va_iald (f := u_6.2.2 21) hx hb hK hP 12 2 rfl rfl g_8 dX12_ended_41 ?_
    obtain ⟨g_10, hF_11⟩ := nif_e hF_9
    clear hF_9
    obtain ⟨σ_12, eσ_12, hF_13⟩ := bnd_e hF_11
    clear hF_11
    refine m_iast (σ' := σ_12) hx hb hK hP (hDD _ _) hS (q0 := 10) (t0 := 2) (f := u_6.2.2 19) rfl rfl (by rw [eσ_12]; exact mwA_19) g_10 dX12_ended_42 (fun H locs hP hS => ?_)
    refine lv_aload_n hx hb dX12_ended_43 rfl (lv_at hl 1 rfl) ?_
    refine va_get (D := (dC, dI)) (ci := 12) (v := .ref (ad 21)) (C := RX12) (T := TX12) (N := 123) hx hb hts ii_X12 hown hK hP 0 rfl rfl 21 (by decide) (hts (.fieldLink RX12 61 "StoryHouseModel" "d" "[I") wq_1377) (fun _ h9 => h9) rfl dX12_ended_44 ?_
    refine lv_iload_n hx hb dX12_ended_47 rfl (lv_at hl 2 rfl) ?_
    refine lv_iload_n hx hb dX12_ended_48 rfl (lv_at hl 0 rfl) ?_
    obtain ⟨g_14, hF_15⟩ := nif_e hF_13
    clear hF_13
    obtain ⟨σ_16, eσ_16, hF_17⟩ := bnd_e hF_15
    clear hF_15
    refine m_iast (σ' := σ_16) hx hb hK hP (hDD _ _) hS (q0 := 12) (t0 := 2) (f := σ_12.2 21) rfl rfl (by rw [eσ_16]; exact mwA_21) g_14 dX12_ended_49 (fun H locs hP hS => ?_)
    refine lv_iload_n hx hb dX12_ended_50 rfl (lv_at hl 2 rfl) ?_
    have h9 := Option.some.inj hF_17
    subst h9
    exact W.iret (v := p0) hx hb hr (fun t ht hW => ⟨⟨p0, (), rfl, rfl, m_end ht hP⟩, hS.F ht⟩) hS.2.2 dX12_ended_51
  refine lv_if_le (tgt := 26) hx hb dX12_ended_7 (by decide) (fun c_18 => ?_) (fun c_18 => ?_)
  · have hF_19 := ipos c_18 hF_4
    clear hF_4
    refine lv_iconst (v := 0) hx hb dX12_ended_26 (by decide +kernel) ?_
    exact Jj_3 0 σ hF_19 _ _ hP hS ls (lv_sub hl [0, 1] rfl)
  · have hF_20 := ineg c_18 hF_4
    clear hF_4
    refine lv_aload_n hx hb dX12_ended_10 rfl (lv_at hl 0 rfl) ?_
    refine va_get (D := (dC, dI)) (ci := 12) (v := .ref (ad 8)) (C := RX12) (T := TX12) (N := 123) hx hb hts ii_X12 hown hK hP 0 rfl rfl 8 (by decide) (hts (.fieldLink RX12 31 "StoryHouseModel" "tokAt" "[I") wq_1364) (fun _ h9 => h9) rfl dX12_ended_11 ?_
    refine lv_aload_n hx hb dX12_ended_14 rfl (lv_at hl 0 rfl) ?_
    refine va_get (D := (dC, dI)) (ci := 12) (v := .int (σ.1 25)) (C := RX12) (T := TX12) (N := 123) hx hb hts ii_X12 hown hK hP 0 rfl rfl 25 (by decide) (hts (.fieldLink RX12 314 "StoryHouseModel" "at" "I") wq_1381) (fun _ h9 => h9) rfl dX12_ended_15 ?_
    refine lv_iconst (v := 1) hx hb dX12_ended_18 (by decide +kernel) ?_
    refine lv_isub hx hb dX12_ended_19 ?_
    obtain ⟨x_21, ex_21, hF_22⟩ := bnd_e hF_20
    clear hF_20
    refine m_top ex_21 ?_
    obtain ⟨g_23, hF_24⟩ := nif_e hF_22
    clear hF_22
    refine va_iald (f := σ.2 8) hx hb hK hP 4 2 rfl rfl g_23 dX12_ended_20 ?_
    refine lv_iconst (v := 1) hx hb dX12_ended_21 (by decide +kernel) ?_
    refine lv_iadd hx hb dX12_ended_22 ?_
    refine lv_goto (tgt := 27) hx hb dX12_ended_23 (by decide) ?_
    exact Jj_3 ((σ.2 8 x_21.toNatClampNeg) + 1) σ hF_24 _ _ hP hS ls (lv_sub hl [0, 1] rfl)
theorem dX12_row_0 : decode cX12_row 0 = .ok (.aload_n 0, 1) := by decide +kernel
theorem dX12_row_1 : decode cX12_row 1 = .ok (.invokevirtual 365, 3) := by decide +kernel
theorem dX12_row_4 : decode cX12_row 4 = .ok (.istore_n 1, 1) := by decide +kernel
theorem dX12_row_5 : decode cX12_row 5 = .ok (.iload_n 1, 1) := by decide +kernel
theorem dX12_row_6 : decode cX12_row 6 = .ok (.istore_n 2, 1) := by decide +kernel
theorem dX12_row_7 : decode cX12_row 7 = .ok (.aload_n 0, 1) := by decide +kernel
theorem dX12_row_8 : decode cX12_row 8 = .ok (.bipush 44, 2) := by decide +kernel
theorem dX12_row_10 : decode cX12_row 10 = .ok (.invokevirtual 327, 3) := by decide +kernel
theorem dX12_row_13 : decode cX12_row 13 = .ok (.ifCond .eq 20, 3) := by decide +kernel
theorem dX12_row_16 : decode cX12_row 16 = .ok (.aload_n 0, 1) := by decide +kernel
theorem dX12_row_17 : decode cX12_row 17 = .ok (.invokevirtual 365, 3) := by decide +kernel
theorem dX12_row_20 : decode cX12_row 20 = .ok (.istore_n 3, 1) := by decide +kernel
theorem dX12_row_21 : decode cX12_row 21 = .ok (.aload_n 0, 1) := by decide +kernel
theorem dX12_row_22 : decode cX12_row 22 = .ok (.getfield 64, 3) := by decide +kernel
theorem dX12_row_25 : decode cX12_row 25 = .ok (.iload_n 2, 1) := by decide +kernel
theorem dX12_row_26 : decode cX12_row 26 = .ok (.iload_n 3, 1) := by decide +kernel
theorem dX12_row_27 : decode cX12_row 27 = .ok (.iastore, 1) := by decide +kernel
theorem dX12_row_28 : decode cX12_row 28 = .ok (.iload_n 3, 1) := by decide +kernel
theorem dX12_row_29 : decode cX12_row 29 = .ok (.istore_n 2, 1) := by decide +kernel
theorem dX12_row_30 : decode cX12_row 30 = .ok (.goto (-23), 3) := by decide +kernel
theorem dX12_row_33 : decode cX12_row 33 = .ok (.iload_n 1, 1) := by decide +kernel
theorem dX12_row_34 : decode cX12_row 34 = .ok (.ireturn, 1) := by decide +kernel
def F_X12_row  (σ : MS) : MR :=
  (F_X12_name σ).bind fun u_1 =>
  loopF (fun (again_4 : (Int32 × MS) → MR) (s_3 : Int32 × MS) => (
    (F_X12_took 44 s_3.2).bind fun u_7 =>
    if u_7.1 = 0 then (
      some (u_1.1, u_7.2)
    ) else (
      (F_X12_name u_7.2).bind fun u_12 =>
      if s_3.1 < 0 ∨ 40000 ≤ s_3.1.toNatClampNeg then none else
      bnd (mA u_12.2 22 (upd (u_12.2.2 22) s_3.1.toNatClampNeg u_12.1)) fun σ_16 =>
      again_4 (u_12.1, σ_16)
    )
  )) FU (u_1.1, u_1.2)
set_option maxHeartbeats 4000000 in
set_option maxRecDepth 100000 in
theorem m_X12_row (l : Launch) (dC : Nat → ClassId) (dI : Nat → Nat → Nat) (cB cC cI cJ cZ cP : ClassId) (h qK qS : Nat) (ad : Nat → Nat) (hDD : mDis cB cI cZ h qK qS ad) (sz : Nat)   (σ : MS) (res : Int32 × MS) (hF : F_X12_row  σ = some res) : Met l yX12_row (g_ws yX12_row cX12_row 4 (some .int)) ({ frames := 5, cells := 0, slots := 0, locals := 124 }) (va_Pc [.ref h] (m_B (dC, dI) [(cB, .byte), (cC, .char), (cI, .int), (cJ, .long), (cZ, .boolean), (cP, .object "StoryHouse$Play")] sz h ad qK qS (mW cB cI cZ h qK qS ad σ) g_0)) (va_Qi (fun r (_ : Unit) => r = res.1) (fun _ t => va_P (dC, dI) vwCl (mW cB cI cZ h qK qS ad res.2) t.heap) (mCells h ad sz)) 0 0 (mCells h ad sz) := by
  refine Met.ofW (cc := cX12_row) (maxL := 4) (ret := (some .int)) (by decide) rfl ?_
  intro p e s m args below meth c s₁ B hml hv
  obtain ⟨rfl, hsz, hP, hK, hE, hKS, hX⟩ := hv
  have hx := B.exec
  have hb := B.bytes
  have hr := B.returns
  have hts0 := atoms_spec (ws := g_ws yX12_row cX12_row 4 (some .int)) B.pre
  have hts : ∀ w ∈ lw_good, w.before ([.ref h] : List Value).toArray s = true := fun w z => hts0 w (List.mem_cons_of_mem _ z)
  have hown : s.vm.findClass RX12 = some m.cls := findClass_of_methodNamed B.named
  have hlocks := B.notSynchronized
  have hS : va_S (mCells h ad sz) s.heap s.heap [] := va_S.rf
  have hl := lv_entry ([.ref h]) (n := 4) (Nat.le_of_ble_eq_true rfl)
  rw [lg_entry_eq]
  generalize (lg_sl ([.ref h]) ++ List.replicate (4 - (lg_sl ([.ref h])).length) Slot.unset).toArray = ls at hl ⊢
  have hl : lv_has ls 4 [(0, .ref h)] := hl
  unfold F_X12_row at hF
  refine lv_aload_n hx hb dX12_row_0 rfl (lv_at hl 0 rfl) ?_
  obtain ⟨u_1, hu_1, hF_2⟩ := Option.bind_eq_some_iff.mp hF
  clear hF
  refine m_ci hsz hS (va_runV (As := []) (rest := []) ⟨hx, hb, hml, hown, hts⟩ (m_X12_name l dC dI cB cC cI cJ cZ cP h qK qS ad hDD s.heap.size  σ _ hu_1) (cwV 0 hts (g_gV wq_1543 wq_1544 wq_2127 wq_13 wq_1545) rfl rfl rfl (by decide +kernel) ⟨Nat.le_of_ble_eq_true rfl, Nat.le_of_ble_eq_true rfl⟩) (m_preV g_bl0 hsz hK hP hS hE hKS g_to0) rfl rfl hl.1 rfl (lv_room (Nat.le_of_ble_eq_true rfl)) dX12_row_1 ⟨Nat.le_of_ble_eq_true rfl, Nat.le_of_ble_eq_true rfl⟩) (fun H locs hP hS => ?_)
  refine lv_istore_n (lv' := [(1, .int u_1.1), (0, .ref h)]) hx hb dX12_row_4 rfl hl (by decide) rfl (fun ls hl => ?_)
  refine lv_iload_n hx hb dX12_row_5 rfl (lv_at hl 0 rfl) ?_
  refine lv_istore_n (lv' := [(2, .int u_1.1), (1, .int u_1.1), (0, .ref h)]) hx hb dX12_row_6 rfl hl (by decide) rfl (fun ls hl => ?_)
  refine loopF_ind (P := fun (s_3 : Int32 × MS) => ∀ (H : Heap) (locs : List Loc), va_P (dC, dI) vwCl (mW cB cI cZ h qK qS ad s_3.2) H → va_S (mCells h ad sz) s.heap H locs → ∀ ls : Array Slot, lv_has ls 4 [(0, .ref h), (1, .int u_1.1), (2, .int s_3.1)] → W p l e (headSpec (g_ws yX12_row cX12_row 4 (some .int)) { frames := 5, cells := 0, slots := 0, locals := 124 }).room s m ([.ref h] : List Value).toArray below meth c H locs 0 0 (MQ below (va_Qi (fun r (_ : Unit) => r = res.1) (fun _ t => va_P (dC, dI) vwCl (mW cB cI cZ h qK qS ad res.2) t.heap) (mCells h ad sz)) ([.ref h] : List Value).toArray s 0 0 (mCells h ad sz)) (F0 m 7 ls [])) ?_ _ _ hF_2 _ _ hP hS ls (lv_sub hl [2, 1, 0] rfl)
  intro again_4 s_3 ih_5 hF_6
  intro H locs hP hS ls hl
  refine lv_aload_n hx hb dX12_row_7 rfl (lv_at hl 0 rfl) ?_
  refine lv_bipush (v := 44) hx hb dX12_row_8 (by decide +kernel) ?_
  obtain ⟨u_7, hu_7, hF_8⟩ := Option.bind_eq_some_iff.mp hF_6
  clear hF_6
  refine m_ci hsz hS (va_runV (As := [.int 44]) (rest := []) ⟨hx, hb, hml, hown, hts⟩ (m_X12_took l dC dI cB cC cI cJ cZ cP h qK qS ad hDD H.size  44 s_3.2 _ hu_7) (cwV 1 hts (g_gV wq_1567 wq_1568 wq_2135 wq_13 wq_1569) rfl rfl rfl (by decide +kernel) ⟨Nat.le_of_ble_eq_true rfl, Nat.le_of_ble_eq_true rfl⟩) (m_preV g_bl0 hsz hK hP hS hE hKS g_to0) rfl rfl hl.1 rfl (lv_room (Nat.le_of_ble_eq_true rfl)) dX12_row_10 ⟨Nat.le_of_ble_eq_true rfl, Nat.le_of_ble_eq_true rfl⟩) (fun H locs hP hS => ?_)
  refine lv_if_eq (tgt := 33) hx hb dX12_row_13 (by decide) (fun c_9 => ?_) (fun c_9 => ?_)
  · have hF_10 := ipos c_9 hF_8
    clear hF_8
    refine lv_iload_n hx hb dX12_row_33 rfl (lv_at hl 1 rfl) ?_
    have h9 := Option.some.inj hF_10
    subst h9
    exact W.iret (v := u_1.1) hx hb hr (fun t ht hW => ⟨⟨u_1.1, (), rfl, rfl, m_end ht hP⟩, hS.F ht⟩) hS.2.2 dX12_row_34
  · have hF_11 := ineg c_9 hF_8
    clear hF_8
    refine lv_aload_n hx hb dX12_row_16 rfl (lv_at hl 0 rfl) ?_
    obtain ⟨u_12, hu_12, hF_13⟩ := Option.bind_eq_some_iff.mp hF_11
    clear hF_11
    refine m_ci hsz hS (va_runV (As := []) (rest := []) ⟨hx, hb, hml, hown, hts⟩ (m_X12_name l dC dI cB cC cI cJ cZ cP h qK qS ad hDD H.size  u_7.2 _ hu_12) (cwV 0 hts (g_gV wq_1543 wq_1544 wq_2127 wq_13 wq_1545) rfl rfl rfl (by decide +kernel) ⟨Nat.le_of_ble_eq_true rfl, Nat.le_of_ble_eq_true rfl⟩) (m_preV g_bl0 hsz hK hP hS hE hKS g_to0) rfl rfl hl.1 rfl (lv_room (Nat.le_of_ble_eq_true rfl)) dX12_row_17 ⟨Nat.le_of_ble_eq_true rfl, Nat.le_of_ble_eq_true rfl⟩) (fun H locs hP hS => ?_)
    refine lv_istore_n (lv' := [(3, .int u_12.1), (0, .ref h), (1, .int u_1.1), (2, .int s_3.1)]) hx hb dX12_row_20 rfl hl (by decide) rfl (fun ls hl => ?_)
    refine lv_aload_n hx hb dX12_row_21 rfl (lv_at hl 1 rfl) ?_
    refine va_get (D := (dC, dI)) (ci := 12) (v := .ref (ad 22)) (C := RX12) (T := TX12) (N := 123) hx hb hts ii_X12 hown hK hP 0 rfl rfl 22 (by decide) (hts (.fieldLink RX12 64 "StoryHouseModel" "then" "[I") wq_1378) (fun _ h9 => h9) rfl dX12_row_22 ?_
    refine lv_iload_n hx hb dX12_row_25 rfl (lv_at hl 3 rfl) ?_
    refine lv_iload_n hx hb dX12_row_26 rfl (lv_at hl 0 rfl) ?_
    obtain ⟨g_14, hF_15⟩ := nif_e hF_13
    clear hF_13
    obtain ⟨σ_16, eσ_16, hF_17⟩ := bnd_e hF_15
    clear hF_15
    refine m_iast (σ' := σ_16) hx hb hK hP (hDD _ _) hS (q0 := 13) (t0 := 2) (f := u_12.2.2 22) rfl rfl (by rw [eσ_16]; exact mwA_22) g_14 dX12_row_27 (fun H locs hP hS => ?_)
    refine lv_iload_n hx hb dX12_row_28 rfl (lv_at hl 0 rfl) ?_
    refine lv_istore_n (lv' := [(2, .int u_12.1), (3, .int u_12.1), (0, .ref h), (1, .int u_1.1)]) hx hb dX12_row_29 rfl hl (by decide) rfl (fun ls hl => ?_)
    refine lv_goto (tgt := 7) hx hb dX12_row_30 (by decide) ?_
    exact ih_5 (u_12.1, σ_16) hF_17 _ _ hP hS ls (lv_sub hl [2, 3, 0] rfl)
