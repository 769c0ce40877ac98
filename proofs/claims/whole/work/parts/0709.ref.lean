/-! methods of the reference: what each does is its function -/
theorem dX12_toldPlace_0 : decode cX12_toldPlace 0 = .ok (.iconst 0, 1) := by decide +kernel
theorem dX12_toldPlace_1 : decode cX12_toldPlace 1 = .ok (.istore_n 2, 1) := by decide +kernel
theorem dX12_toldPlace_2 : decode cX12_toldPlace 2 = .ok (.aload_n 0, 1) := by decide +kernel
theorem dX12_toldPlace_3 : decode cX12_toldPlace 3 = .ok (.getfield 58, 3) := by decide +kernel
theorem dX12_toldPlace_6 : decode cX12_toldPlace 6 = .ok (.iload_n 1, 1) := by decide +kernel
theorem dX12_toldPlace_7 : decode cX12_toldPlace 7 = .ok (.iaload, 1) := by decide +kernel
theorem dX12_toldPlace_8 : decode cX12_toldPlace 8 = .ok (.istore_n 3, 1) := by decide +kernel
theorem dX12_toldPlace_9 : decode cX12_toldPlace 9 = .ok (.iload_n 3, 1) := by decide +kernel
theorem dX12_toldPlace_10 : decode cX12_toldPlace 10 = .ok (.ifCond .lt 54, 3) := by decide +kernel
theorem dX12_toldPlace_13 : decode cX12_toldPlace 13 = .ok (.aload_n 0, 1) := by decide +kernel
theorem dX12_toldPlace_14 : decode cX12_toldPlace 14 = .ok (.getfield 49, 3) := by decide +kernel
theorem dX12_toldPlace_17 : decode cX12_toldPlace 17 = .ok (.iload_n 3, 1) := by decide +kernel
theorem dX12_toldPlace_18 : decode cX12_toldPlace 18 = .ok (.iaload, 1) := by decide +kernel
theorem dX12_toldPlace_19 : decode cX12_toldPlace 19 = .ok (.bipush 13, 2) := by decide +kernel
theorem dX12_toldPlace_21 : decode cX12_toldPlace 21 = .ok (.if_icmp .ne 33, 3) := by decide +kernel
theorem dX12_toldPlace_24 : decode cX12_toldPlace 24 = .ok (.aload_n 0, 1) := by decide +kernel
theorem dX12_toldPlace_25 : decode cX12_toldPlace 25 = .ok (.getfield 55, 3) := by decide +kernel
theorem dX12_toldPlace_28 : decode cX12_toldPlace 28 = .ok (.iload_n 3, 1) := by decide +kernel
theorem dX12_toldPlace_29 : decode cX12_toldPlace 29 = .ok (.iaload, 1) := by decide +kernel
theorem dX12_toldPlace_30 : decode cX12_toldPlace 30 = .ok (.ifCond .ge 7, 3) := by decide +kernel
theorem dX12_toldPlace_33 : decode cX12_toldPlace 33 = .ok (.iconst 1, 1) := by decide +kernel
theorem dX12_toldPlace_34 : decode cX12_toldPlace 34 = .ok (.goto 19, 3) := by decide +kernel
theorem dX12_toldPlace_37 : decode cX12_toldPlace 37 = .ok (.aload_n 0, 1) := by decide +kernel
theorem dX12_toldPlace_38 : decode cX12_toldPlace 38 = .ok (.getfield 70, 3) := by decide +kernel
theorem dX12_toldPlace_41 : decode cX12_toldPlace 41 = .ok (.aload_n 0, 1) := by decide +kernel
theorem dX12_toldPlace_42 : decode cX12_toldPlace 42 = .ok (.getfield 55, 3) := by decide +kernel
theorem dX12_toldPlace_45 : decode cX12_toldPlace 45 = .ok (.aload_n 0, 1) := by decide +kernel
theorem dX12_toldPlace_46 : decode cX12_toldPlace 46 = .ok (.getfield 55, 3) := by decide +kernel
theorem dX12_toldPlace_49 : decode cX12_toldPlace 49 = .ok (.iload_n 3, 1) := by decide +kernel
theorem dX12_toldPlace_50 : decode cX12_toldPlace 50 = .ok (.iaload, 1) := by decide +kernel
theorem dX12_toldPlace_51 : decode cX12_toldPlace 51 = .ok (.iaload, 1) := by decide +kernel
theorem dX12_toldPlace_52 : decode cX12_toldPlace 52 = .ok (.iaload, 1) := by decide +kernel
theorem dX12_toldPlace_53 : decode cX12_toldPlace 53 = .ok (.istore_n 2, 1) := by decide +kernel
theorem dX12_toldPlace_54 : decode cX12_toldPlace 54 = .ok (.aload_n 0, 1) := by decide +kernel
theorem dX12_toldPlace_55 : decode cX12_toldPlace 55 = .ok (.getfield 64, 3) := by decide +kernel
theorem dX12_toldPlace_58 : decode cX12_toldPlace 58 = .ok (.iload_n 3, 1) := by decide +kernel
theorem dX12_toldPlace_59 : decode cX12_toldPlace 59 = .ok (.iaload, 1) := by decide +kernel
theorem dX12_toldPlace_60 : decode cX12_toldPlace 60 = .ok (.istore_n 3, 1) := by decide +kernel
theorem dX12_toldPlace_61 : decode cX12_toldPlace 61 = .ok (.goto (-52), 3) := by decide +kernel
theorem dX12_toldPlace_64 : decode cX12_toldPlace 64 = .ok (.iload_n 2, 1) := by decide +kernel
theorem dX12_toldPlace_65 : decode cX12_toldPlace 65 = .ok (.ireturn, 1) := by decide +kernel
def F_X12_toldPlace (p0 : Int32) (σ : MS) : MR :=
  if p0 < 0 ∨ 40000 ≤ p0.toNatClampNeg then none else
  bnd ((σ.2 20 p0.toNatClampNeg)) fun (x_3 : Int32) =>
  loopF (fun (again_6 : (Int32 × Int32 × MS) → MR) (s_5 : Int32 × Int32 × MS) => (
    if s_5.2.1 < 0 then (
      some (s_5.1, s_5.2.2)
    ) else (
      if s_5.2.1 < 0 ∨ 40000 ≤ s_5.2.1.toNatClampNeg then none else
      bnd (fun (v2_14 : Int32) (σ_15 : MS) => (
        if s_5.2.1 < 0 ∨ 40000 ≤ s_5.2.1.toNatClampNeg then none else
        bnd ((σ_15.2 22 s_5.2.1.toNatClampNeg)) fun (x_21 : Int32) =>
        again_6 (v2_14, x_21, σ_15)
      ) : Int32 → MS → MR) fun j_16 =>
      if (s_5.2.2.2 17 s_5.2.1.toNatClampNeg) = 13 then (
        if s_5.2.1 < 0 ∨ 40000 ≤ s_5.2.1.toNatClampNeg then none else
        bnd (fun (t_27 : Int32) (σ_28 : MS) => (
          j_16 t_27 σ_28
        ) : Int32 → MS → MR) fun j_29 =>
        if 0 ≤ (s_5.2.2.2 19 s_5.2.1.toNatClampNeg) then (
          if s_5.2.1 < 0 ∨ 40000 ≤ s_5.2.1.toNatClampNeg then none else
          bnd ((s_5.2.2.2 19 s_5.2.1.toNatClampNeg)) fun (x_36 : Int32) =>
          if x_36 < 0 ∨ 40000 ≤ x_36.toNatClampNeg then none else
          bnd ((s_5.2.2.2 19 x_36.toNatClampNeg)) fun (x_40 : Int32) =>
          if x_40 < 0 ∨ 8000 ≤ x_40.toNatClampNeg then none else
          j_29 (s_5.2.2.2 29 x_40.toNatClampNeg) s_5.2.2
        ) else (
          j_29 1 s_5.2.2
        )
      ) else (
        j_16 s_5.1 s_5.2.2
      )
    )
  )) FU (0, x_3, σ)
set_option maxHeartbeats 4000000 in
set_option maxRecDepth 100000 in
theorem m_X12_toldPlace (l : Launch) (dC : Nat → ClassId) (dI : Nat → Nat → Nat) (cB cC cI cJ cZ cP : ClassId) (h qK qS : Nat) (ad : Nat → Nat) (hDD : mDis cB cI cZ h qK qS ad) (sz : Nat)  (p0 : Int32) (σ : MS) (res : Int32 × MS) (hF : F_X12_toldPlace p0 σ = some res) : Met l yX12_toldPlace (g_ws yX12_toldPlace cX12_toldPlace 4 (some .int)) ({ frames := 1, cells := 0, slots := 0, locals := 40 }) (va_Pc [.ref h, .int p0] (m_B (dC, dI) [(cB, .byte), (cC, .char), (cI, .int), (cJ, .long), (cZ, .boolean), (cP, .object "StoryHouse$Play")] sz h ad qK qS (mW cB cI cZ h qK qS ad σ) g_0)) (va_Qi (fun r (_ : Unit) => r = res.1) (fun _ t => va_P (dC, dI) vwCl (mW cB cI cZ h qK qS ad res.2) t.heap) (mCells h ad sz)) 0 0 (mCells h ad sz) := by
  refine Met.ofW (cc := cX12_toldPlace) (maxL := 4) (ret := (some .int)) (by decide) rfl ?_
  intro p e s m args below meth c s₁ B hml hv
  obtain ⟨rfl, hsz, hP, hK, hE, hKS, hX⟩ := hv
  have hx := B.exec
  have hb := B.bytes
  have hr := B.returns
  have hts0 := atoms_spec (ws := g_ws yX12_toldPlace cX12_toldPlace 4 (some .int)) B.pre
  have hts : ∀ w ∈ lw_good, w.before ([.ref h, .int p0] : List Value).toArray s = true := fun w z => hts0 w (List.mem_cons_of_mem _ z)
  have hown : s.vm.findClass RX12 = some m.cls := findClass_of_methodNamed B.named
  have hlocks := B.notSynchronized
  have hS : va_S (mCells h ad sz) s.heap s.heap [] := va_S.rf
  have hl := lv_entry ([.ref h, .int p0]) (n := 4) (Nat.le_of_ble_eq_true rfl)
  rw [lg_entry_eq]
  generalize (lg_sl ([.ref h, .int p0]) ++ List.replicate (4 - (lg_sl ([.ref h, .int p0])).length) Slot.unset).toArray = ls at hl ⊢
  have hl : lv_has ls 4 [(0, .ref h), (1, .int p0)] := hl
  unfold F_X12_toldPlace at hF
  refine lv_iconst (v := 0) hx hb dX12_toldPlace_0 (by decide +kernel) ?_
  refine lv_istore_n (lv' := [(2, .int 0), (0, .ref h), (1, .int p0)]) hx hb dX12_toldPlace_1 rfl hl (by decide) rfl (fun ls hl => ?_)
  refine lv_aload_n hx hb dX12_toldPlace_2 rfl (lv_at hl 1 rfl) ?_
  refine va_get (D := (dC, dI)) (ci := 12) (v := .ref (ad 20)) (C := RX12) (T := TX12) (N := 123) hx hb hts ii_X12 hown hK hP 0 rfl rfl 20 (by decide) (hts (.fieldLink RX12 58 "StoryHouseModel" "b" "[I") wq_1376) (fun _ h9 => h9) rfl dX12_toldPlace_3 ?_
  refine lv_iload_n hx hb dX12_toldPlace_6 rfl (lv_at hl 2 rfl) ?_
  obtain ⟨g_1, hF_2⟩ := nif_e hF
  clear hF
  refine va_iald (f := σ.2 20) hx hb hK hP 11 2 rfl rfl g_1 dX12_toldPlace_7 ?_
  obtain ⟨x_3, ex_3, hF_4⟩ := bnd_e hF_2
  clear hF_2
  refine m_top ex_3 ?_
  refine lv_istore_n (lv' := [(3, .int x_3), (2, .int 0), (0, .ref h), (1, .int p0)]) hx hb dX12_toldPlace_8 rfl hl (by decide) rfl (fun ls hl => ?_)
  refine loopF_ind (P := fun (s_5 : Int32 × Int32 × MS) => ∀ (H : Heap) (locs : List Loc), va_P (dC, dI) vwCl (mW cB cI cZ h qK qS ad s_5.2.2) H → va_S (mCells h ad sz) s.heap H locs → ∀ ls : Array Slot, lv_has ls 4 [(0, .ref h), (2, .int s_5.1), (3, .int s_5.2.1)] → W p l e (headSpec (g_ws yX12_toldPlace cX12_toldPlace 4 (some .int)) { frames := 1, cells := 0, slots := 0, locals := 40 }).room s m ([.ref h, .int p0] : List Value).toArray below meth c H locs 0 0 (MQ below (va_Qi (fun r (_ : Unit) => r = res.1) (fun _ t => va_P (dC, dI) vwCl (mW cB cI cZ h qK qS ad res.2) t.heap) (mCells h ad sz)) ([.ref h, .int p0] : List Value).toArray s 0 0 (mCells h ad sz)) (F0 m 9 ls [])) ?_ _ _ hF_4 _ _ hP hS ls (lv_sub hl [2, 1, 0] rfl)
  intro again_6 s_5 ih_7 hF_8
  intro H locs hP hS ls hl
  refine lv_iload_n hx hb dX12_toldPlace_9 rfl (lv_at hl 2 rfl) ?_
  refine lv_if_lt (tgt := 64) hx hb dX12_toldPlace_10 (by decide) (fun c_9 => ?_) (fun c_9 => ?_)
  · have hF_10 := ipos c_9 hF_8
    clear hF_8
    refine lv_iload_n hx hb dX12_toldPlace_64 rfl (lv_at hl 1 rfl) ?_
    have h9 := Option.some.inj hF_10
    subst h9
    exact W.iret (v := s_5.1) hx hb hr (fun t ht hW => ⟨⟨s_5.1, (), rfl, rfl, m_end ht hP⟩, hS.F ht⟩) hS.2.2 dX12_toldPlace_65
  · have hF_11 := ineg c_9 hF_8
    clear hF_8
    refine lv_aload_n hx hb dX12_toldPlace_13 rfl (lv_at hl 0 rfl) ?_
    refine va_get (D := (dC, dI)) (ci := 12) (v := .ref (ad 17)) (C := RX12) (T := TX12) (N := 123) hx hb hts ii_X12 hown hK hP 0 rfl rfl 17 (by decide) (hts (.fieldLink RX12 49 "StoryHouseModel" "what" "[I") wq_1373) (fun _ h9 => h9) rfl dX12_toldPlace_14 ?_
    refine lv_iload_n hx hb dX12_toldPlace_17 rfl (lv_at hl 2 rfl) ?_
    obtain ⟨g_12, hF_13⟩ := nif_e hF_11
    clear hF_11
    refine va_iald (f := s_5.2.2.2 17) hx hb hK hP 8 2 rfl rfl g_12 dX12_toldPlace_18 ?_
    refine lv_bipush (v := 13) hx hb dX12_toldPlace_19 (by decide +kernel) ?_
    obtain ⟨j_16, ej_16, hF_17⟩ := bnd_e hF_13
    clear hF_13
    have Jj_16 : ∀ (v2_14 : Int32) (σ_15 : MS), j_16 v2_14 σ_15 = some res → ∀ (H : Heap) (locs : List Loc), va_P (dC, dI) vwCl (mW cB cI cZ h qK qS ad σ_15) H → va_S (mCells h ad sz) s.heap H locs → ∀ ls : Array Slot, lv_has ls 4 [(0, .ref h), (2, .int v2_14), (3, .int s_5.2.1)] → W p l e (headSpec (g_ws yX12_toldPlace cX12_toldPlace 4 (some .int)) { frames := 1, cells := 0, slots := 0, locals := 40 }).room s m ([.ref h, .int p0] : List Value).toArray below meth c H locs 0 0 (MQ below (va_Qi (fun r (_ : Unit) => r = res.1) (fun _ t => va_P (dC, dI) vwCl (mW cB cI cZ h qK qS ad res.2) t.heap) (mCells h ad sz)) ([.ref h, .int p0] : List Value).toArray s 0 0 (mCells h ad sz)) (F0 m 54 ls []) := by
      intro v2_14 σ_15 hF0 H locs hP hS ls hl
      subst ej_16
      have hF_18 := hF0
      clear hF0
      refine lv_aload_n hx hb dX12_toldPlace_54 rfl (lv_at hl 0 rfl) ?_
      refine va_get (D := (dC, dI)) (ci := 12) (v := .ref (ad 22)) (C := RX12) (T := TX12) (N := 123) hx hb hts ii_X12 hown hK hP 0 rfl rfl 22 (by decide) (hts (.fieldLink RX12 64 "StoryHouseModel" "then" "[I") wq_1378) (fun _ h9 => h9) rfl dX12_toldPlace_55 ?_
      refine lv_iload_n hx hb dX12_toldPlace_58 rfl (lv_at hl 2 rfl) ?_
      obtain ⟨g_19, hF_20⟩ := nif_e hF_18
      clear hF_18
      refine va_iald (f := σ_15.2 22) hx hb hK hP 13 2 rfl rfl g_19 dX12_toldPlace_59 ?_
      obtain ⟨x_21, ex_21, hF_22⟩ := bnd_e hF_20
      clear hF_20
      refine m_top ex_21 ?_
      refine lv_istore_n (lv' := [(3, .int x_21), (0, .ref h), (2, .int v2_14)]) hx hb dX12_toldPlace_60 rfl hl (by decide) rfl (fun ls hl => ?_)
      refine lv_goto (tgt := 9) hx hb dX12_toldPlace_61 (by decide) ?_
      exact ih_7 (v2_14, x_21, σ_15) hF_22 _ _ hP hS ls (lv_sub hl [1, 2, 0] rfl)
    refine lv_icmp_ne (tgt := 54) hx hb dX12_toldPlace_21 (by decide) (fun c_23 => ?_) (fun c_23 => ?_)
    · have hF_45 := ineg c_23 hF_17
      clear hF_17
      exact Jj_16 s_5.1 s_5.2.2 hF_45 _ _ hP hS ls (lv_sub hl [0, 1, 2] rfl)
    · have hF_24 := ipos c_23 hF_17
      clear hF_17
      refine lv_aload_n hx hb dX12_toldPlace_24 rfl (lv_at hl 0 rfl) ?_
      refine va_get (D := (dC, dI)) (ci := 12) (v := .ref (ad 19)) (C := RX12) (T := TX12) (N := 123) hx hb hts ii_X12 hown hK hP 0 rfl rfl 19 (by decide) (hts (.fieldLink RX12 55 "StoryHouseModel" "a" "[I") wq_1375) (fun _ h9 => h9) rfl dX12_toldPlace_25 ?_
      refine lv_iload_n hx hb dX12_toldPlace_28 rfl (lv_at hl 2 rfl) ?_
      obtain ⟨g_25, hF_26⟩ := nif_e hF_24
      clear hF_24
      refine va_iald (f := s_5.2.2.2 19) hx hb hK hP 10 2 rfl rfl g_25 dX12_toldPlace_29 ?_
      obtain ⟨j_29, ej_29, hF_30⟩ := bnd_e hF_26
      clear hF_26
      have Jj_29 : ∀ (t_27 : Int32) (σ_28 : MS), j_29 t_27 σ_28 = some res → ∀ (H : Heap) (locs : List Loc), va_P (dC, dI) vwCl (mW cB cI cZ h qK qS ad σ_28) H → va_S (mCells h ad sz) s.heap H locs → ∀ ls : Array Slot, lv_has ls 4 [(0, .ref h), (3, .int s_5.2.1)] → W p l e (headSpec (g_ws yX12_toldPlace cX12_toldPlace 4 (some .int)) { frames := 1, cells := 0, slots := 0, locals := 40 }).room s m ([.ref h, .int p0] : List Value).toArray below meth c H locs 0 0 (MQ below (va_Qi (fun r (_ : Unit) => r = res.1) (fun _ t => va_P (dC, dI) vwCl (mW cB cI cZ h qK qS ad res.2) t.heap) (mCells h ad sz)) ([.ref h, .int p0] : List Value).toArray s 0 0 (mCells h ad sz)) (F0 m 53 ls [.int t_27]) := by
        intro t_27 σ_28 hF0 H locs hP hS ls hl
        subst ej_29
        have hF_31 := hF0
        clear hF0
        refine lv_istore_n (lv' := [(2, .int t_27), (0, .ref h), (3, .int s_5.2.1)]) hx hb dX12_toldPlace_53 rfl hl (by decide) rfl (fun ls hl => ?_)
        exact Jj_16 t_27 σ_28 hF_31 _ _ hP hS ls (lv_sub hl [1, 0, 2] rfl)
      refine lv_if_ge (tgt := 37) hx hb dX12_toldPlace_30 (by decide) (fun c_32 => ?_) (fun c_32 => ?_)
      · have hF_33 := ipos c_32 hF_30
        clear hF_30
        refine lv_aload_n hx hb dX12_toldPlace_37 rfl (lv_at hl 0 rfl) ?_
        refine va_get (D := (dC, dI)) (ci := 12) (v := .ref (ad 29)) (C := RX12) (T := TX12) (N := 123) hx hb hts ii_X12 hown hK hP 0 rfl rfl 29 (by decide) (hts (.fieldLink RX12 70 "StoryHouseModel" "nameNumber" "[I") wq_1385) (fun _ h9 => h9) rfl dX12_toldPlace_38 ?_
        refine lv_aload_n hx hb dX12_toldPlace_41 rfl (lv_at hl 0 rfl) ?_
        refine va_get (D := (dC, dI)) (ci := 12) (v := .ref (ad 19)) (C := RX12) (T := TX12) (N := 123) hx hb hts ii_X12 hown hK hP 0 rfl rfl 19 (by decide) (hts (.fieldLink RX12 55 "StoryHouseModel" "a" "[I") wq_1375) (fun _ h9 => h9) rfl dX12_toldPlace_42 ?_
        refine lv_aload_n hx hb dX12_toldPlace_45 rfl (lv_at hl 0 rfl) ?_
        refine va_get (D := (dC, dI)) (ci := 12) (v := .ref (ad 19)) (C := RX12) (T := TX12) (N := 123) hx hb hts ii_X12 hown hK hP 0 rfl rfl 19 (by decide) (hts (.fieldLink RX12 55 "StoryHouseModel" "a" "[I") wq_1375) (fun _ h9 => h9) rfl dX12_toldPlace_46 ?_
        refine lv_iload_n hx hb dX12_toldPlace_49 rfl (lv_at hl 2 rfl) ?_
        obtain ⟨g_34, hF_35⟩ := nif_e hF_33
        clear hF_33
        refine va_iald (f := s_5.2.2.2 19) hx hb hK hP 10 2 rfl rfl g_34 dX12_toldPlace_50 ?_
        obtain ⟨x_36, ex_36, hF_37⟩ := bnd_e hF_35
        clear hF_35
        refine m_top ex_36 ?_
        obtain ⟨g_38, hF_39⟩ := nif_e hF_37
        clear hF_37
        refine va_iald (f := s_5.2.2.2 19) hx hb hK hP 10 2 rfl rfl g_38 dX12_toldPlace_51 ?_
        obtain ⟨x_40, ex_40, hF_41⟩ := bnd_e hF_39
        clear hF_39
        refine m_top ex_40 ?_
        obtain ⟨g_42, hF_43⟩ := nif_e hF_41
        clear hF_41
        refine va_iald (f := s_5.2.2.2 29) hx hb hK hP 15 2 rfl rfl g_42 dX12_toldPlace_52 ?_
        exact Jj_29 (s_5.2.2.2 29 x_40.toNatClampNeg) s_5.2.2 hF_43 _ _ hP hS ls (lv_sub hl [0, 2] rfl)
      · have hF_44 := ineg c_32 hF_30
        clear hF_30
        refine lv_iconst (v := 1) hx hb dX12_toldPlace_33 (by decide +kernel) ?_
        refine lv_goto (tgt := 53) hx hb dX12_toldPlace_34 (by decide) ?_
        exact Jj_29 1 s_5.2.2 hF_44 _ _ hP hS ls (lv_sub hl [0, 2] rfl)
theorem dX12_holds_0 : decode cX12_holds 0 = .ok (.iconst 0, 1) := by decide +kernel
theorem dX12_holds_1 : decode cX12_holds 1 = .ok (.istore_n 1, 1) := by decide +kernel
theorem dX12_holds_2 : decode cX12_holds 2 = .ok (.iconst 0, 1) := by decide +kernel
theorem dX12_holds_3 : decode cX12_holds 3 = .ok (.istore_n 2, 1) := by decide +kernel
theorem dX12_holds_4 : decode cX12_holds 4 = .ok (.iload_n 2, 1) := by decide +kernel
theorem dX12_holds_5 : decode cX12_holds 5 = .ok (.aload_n 0, 1) := by decide +kernel
theorem dX12_holds_6 : decode cX12_holds 6 = .ok (.getfield 470, 3) := by decide +kernel
theorem dX12_holds_9 : decode cX12_holds 9 = .ok (.if_icmp .gt 16, 3) := by decide +kernel
theorem dX12_holds_12 : decode cX12_holds 12 = .ok (.aload_n 0, 1) := by decide +kernel
theorem dX12_holds_13 : decode cX12_holds 13 = .ok (.getfield 179, 3) := by decide +kernel
theorem dX12_holds_16 : decode cX12_holds 16 = .ok (.iload_n 2, 1) := by decide +kernel
theorem dX12_holds_17 : decode cX12_holds 17 = .ok (.iconst 0, 1) := by decide +kernel
theorem dX12_holds_18 : decode cX12_holds 18 = .ok (.iastore, 1) := by decide +kernel
theorem dX12_holds_19 : decode cX12_holds 19 = .ok (.iinc 2 1, 3) := by decide +kernel
theorem dX12_holds_22 : decode cX12_holds 22 = .ok (.goto (-18), 3) := by decide +kernel
theorem dX12_holds_25 : decode cX12_holds 25 = .ok (.aload_n 0, 1) := by decide +kernel
theorem dX12_holds_26 : decode cX12_holds 26 = .ok (.getfield 352, 3) := by decide +kernel
theorem dX12_holds_29 : decode cX12_holds 29 = .ok (.istore_n 2, 1) := by decide +kernel
theorem dX12_holds_30 : decode cX12_holds 30 = .ok (.iload_n 2, 1) := by decide +kernel
theorem dX12_holds_31 : decode cX12_holds 31 = .ok (.ifCond .lt 67, 3) := by decide +kernel
theorem dX12_holds_34 : decode cX12_holds 34 = .ok (.iload_n 1, 1) := by decide +kernel
theorem dX12_holds_35 : decode cX12_holds 35 = .ok (.aload_n 0, 1) := by decide +kernel
theorem dX12_holds_36 : decode cX12_holds 36 = .ok (.getfield 49, 3) := by decide +kernel
theorem dX12_holds_39 : decode cX12_holds 39 = .ok (.iload_n 2, 1) := by decide +kernel
theorem dX12_holds_40 : decode cX12_holds 40 = .ok (.iaload, 1) := by decide +kernel
theorem dX12_holds_41 : decode cX12_holds 41 = .ok (.iconst 1, 1) := by decide +kernel
theorem dX12_holds_42 : decode cX12_holds 42 = .ok (.if_icmp .ne 7, 3) := by decide +kernel
theorem dX12_holds_45 : decode cX12_holds 45 = .ok (.iconst 1, 1) := by decide +kernel
theorem dX12_holds_46 : decode cX12_holds 46 = .ok (.goto 4, 3) := by decide +kernel
theorem dX12_holds_49 : decode cX12_holds 49 = .ok (.iconst 0, 1) := by decide +kernel
theorem dX12_holds_50 : decode cX12_holds 50 = .ok (.ior, 1) := by decide +kernel
theorem dX12_holds_51 : decode cX12_holds 51 = .ok (.istore_n 1, 1) := by decide +kernel
theorem dX12_holds_52 : decode cX12_holds 52 = .ok (.aload_n 0, 1) := by decide +kernel
theorem dX12_holds_53 : decode cX12_holds 53 = .ok (.getfield 49, 3) := by decide +kernel
theorem dX12_holds_56 : decode cX12_holds 56 = .ok (.iload_n 2, 1) := by decide +kernel
theorem dX12_holds_57 : decode cX12_holds 57 = .ok (.iaload, 1) := by decide +kernel
theorem dX12_holds_58 : decode cX12_holds 58 = .ok (.iconst 2, 1) := by decide +kernel
theorem dX12_holds_59 : decode cX12_holds 59 = .ok (.if_icmp .ne 29, 3) := by decide +kernel
theorem dX12_holds_62 : decode cX12_holds 62 = .ok (.aload_n 0, 1) := by decide +kernel
theorem dX12_holds_63 : decode cX12_holds 63 = .ok (.getfield 179, 3) := by decide +kernel
theorem dX12_holds_66 : decode cX12_holds 66 = .ok (.aload_n 0, 1) := by decide +kernel
theorem dX12_holds_67 : decode cX12_holds 67 = .ok (.getfield 70, 3) := by decide +kernel
theorem dX12_holds_70 : decode cX12_holds 70 = .ok (.aload_n 0, 1) := by decide +kernel
theorem dX12_holds_71 : decode cX12_holds 71 = .ok (.getfield 55, 3) := by decide +kernel
theorem dX12_holds_74 : decode cX12_holds 74 = .ok (.aload_n 0, 1) := by decide +kernel
theorem dX12_holds_75 : decode cX12_holds 75 = .ok (.getfield 55, 3) := by decide +kernel
theorem dX12_holds_78 : decode cX12_holds 78 = .ok (.iload_n 2, 1) := by decide +kernel
theorem dX12_holds_79 : decode cX12_holds 79 = .ok (.iaload, 1) := by decide +kernel
theorem dX12_holds_80 : decode cX12_holds 80 = .ok (.iaload, 1) := by decide +kernel
theorem dX12_holds_81 : decode cX12_holds 81 = .ok (.iaload, 1) := by decide +kernel
theorem dX12_holds_82 : decode cX12_holds 82 = .ok (.aload_n 0, 1) := by decide +kernel
theorem dX12_holds_83 : decode cX12_holds 83 = .ok (.iload_n 2, 1) := by decide +kernel
theorem dX12_holds_84 : decode cX12_holds 84 = .ok (.invokevirtual 590, 3) := by decide +kernel
theorem dX12_holds_87 : decode cX12_holds 87 = .ok (.iastore, 1) := by decide +kernel
theorem dX12_holds_88 : decode cX12_holds 88 = .ok (.aload_n 0, 1) := by decide +kernel
theorem dX12_holds_89 : decode cX12_holds 89 = .ok (.getfield 64, 3) := by decide +kernel
theorem dX12_holds_92 : decode cX12_holds 92 = .ok (.iload_n 2, 1) := by decide +kernel
theorem dX12_holds_93 : decode cX12_holds 93 = .ok (.iaload, 1) := by decide +kernel
theorem dX12_holds_94 : decode cX12_holds 94 = .ok (.istore_n 2, 1) := by decide +kernel
theorem dX12_holds_95 : decode cX12_holds 95 = .ok (.goto (-65), 3) := by decide +kernel
theorem dX12_holds_98 : decode cX12_holds 98 = .ok (.iconst 1, 1) := by decide +kernel
theorem dX12_holds_99 : decode cX12_holds 99 = .ok (.istore_n 2, 1) := by decide +kernel
theorem dX12_holds_100 : decode cX12_holds 100 = .ok (.iload_n 2, 1) := by decide +kernel
theorem dX12_holds_101 : decode cX12_holds 101 = .ok (.aload_n 0, 1) := by decide +kernel
theorem dX12_holds_102 : decode cX12_holds 102 = .ok (.getfield 470, 3) := by decide +kernel
theorem dX12_holds_105 : decode cX12_holds 105 = .ok (.if_icmp .gt 51, 3) := by decide +kernel
theorem dX12_holds_108 : decode cX12_holds 108 = .ok (.aload_n 0, 1) := by decide +kernel
theorem dX12_holds_109 : decode cX12_holds 109 = .ok (.getfield 179, 3) := by decide +kernel
theorem dX12_holds_112 : decode cX12_holds 112 = .ok (.iload_n 2, 1) := by decide +kernel
theorem dX12_holds_113 : decode cX12_holds 113 = .ok (.iaload, 1) := by decide +kernel
theorem dX12_holds_114 : decode cX12_holds 114 = .ok (.istore_n 3, 1) := by decide +kernel
theorem dX12_holds_115 : decode cX12_holds 115 = .ok (.iconst 0, 1) := by decide +kernel
theorem dX12_holds_116 : decode cX12_holds 116 = .ok (.istore 4, 2) := by decide +kernel
theorem dX12_holds_118 : decode cX12_holds 118 = .ok (.iload 4, 2) := by decide +kernel
theorem dX12_holds_120 : decode cX12_holds 120 = .ok (.aload_n 0, 1) := by decide +kernel
theorem dX12_holds_121 : decode cX12_holds 121 = .ok (.getfield 470, 3) := by decide +kernel
theorem dX12_holds_124 : decode cX12_holds 124 = .ok (.if_icmp .gt 20, 3) := by decide +kernel
theorem dX12_holds_127 : decode cX12_holds 127 = .ok (.iload_n 3, 1) := by decide +kernel
theorem dX12_holds_128 : decode cX12_holds 128 = .ok (.ifCond .le 16, 3) := by decide +kernel
theorem dX12_holds_131 : decode cX12_holds 131 = .ok (.aload_n 0, 1) := by decide +kernel
theorem dX12_holds_132 : decode cX12_holds 132 = .ok (.getfield 179, 3) := by decide +kernel
theorem dX12_holds_135 : decode cX12_holds 135 = .ok (.iload_n 3, 1) := by decide +kernel
theorem dX12_holds_136 : decode cX12_holds 136 = .ok (.iaload, 1) := by decide +kernel
theorem dX12_holds_137 : decode cX12_holds 137 = .ok (.istore_n 3, 1) := by decide +kernel
theorem dX12_holds_138 : decode cX12_holds 138 = .ok (.iinc 4 1, 3) := by decide +kernel
theorem dX12_holds_141 : decode cX12_holds 141 = .ok (.goto (-23), 3) := by decide +kernel
theorem dX12_holds_144 : decode cX12_holds 144 = .ok (.iload_n 3, 1) := by decide +kernel
theorem dX12_holds_145 : decode cX12_holds 145 = .ok (.ifCond .le 5, 3) := by decide +kernel
theorem dX12_holds_148 : decode cX12_holds 148 = .ok (.iconst 0, 1) := by decide +kernel
theorem dX12_holds_149 : decode cX12_holds 149 = .ok (.ireturn, 1) := by decide +kernel
theorem dX12_holds_150 : decode cX12_holds 150 = .ok (.iinc 2 1, 3) := by decide +kernel
theorem dX12_holds_153 : decode cX12_holds 153 = .ok (.goto (-53), 3) := by decide +kernel
theorem dX12_holds_156 : decode cX12_holds 156 = .ok (.iload_n 1, 1) := by decide +kernel
theorem dX12_holds_157 : decode cX12_holds 157 = .ok (.ireturn, 1) := by decide +kernel
def F_X12_holds  (σ : MS) : MR :=
  loopF (fun (again_2 : (Int32 × MS) → MR) (s_1 : Int32 × MS) => (
    if (s_1.2.1 35) < s_1.1 then (
      bnd ((s_1.2.1 24)) fun (x_7 : Int32) =>
      loopF (fun (again_10 : (Int32 × Int32 × MS) → MR) (s_9 : Int32 × Int32 × MS) => (
        if s_9.2.1 < 0 then (
          loopF (fun (again_16 : (Int32 × MS) → MR) (s_15 : Int32 × MS) => (
            if (s_15.2.1 35) < s_15.1 then (
              if ¬ (s_9.1 = 0 ∨ s_9.1 = 1) then none else
              some (s_9.1, s_15.2)
            ) else (
              if s_15.1 < 0 ∨ 130 ≤ s_15.1.toNatClampNeg then none else
              bnd ((s_15.2.2 85 s_15.1.toNatClampNeg)) fun (x_26 : Int32) =>
              loopF (fun (again_29 : (Int32 × Int32 × MS) → MR) (s_28 : Int32 × Int32 × MS) => (
                bnd (fun  (σ_32 : MS) => (
                  if s_28.1 ≤ 0 then (
                    bnd (s_15.1 + 1) fun (x_38 : Int32) =>
                    again_16 (x_38, σ_32)
                  ) else (
                    some (0, σ_32)
                  )
                ) : MS → MR) fun j_33 =>
                if (s_28.2.2.1 35) < s_28.2.1 then (
                  j_33  s_28.2.2
                ) else (
                  if s_28.1 ≤ 0 then (
                    j_33  s_28.2.2
                  ) else (
                    if s_28.1 < 0 ∨ 130 ≤ s_28.1.toNatClampNeg then none else
                    bnd ((s_28.2.2.2 85 s_28.1.toNatClampNeg)) fun (x_49 : Int32) =>
                    bnd (s_28.2.1 + 1) fun (x_51 : Int32) =>
                    again_29 (x_49, x_51, s_28.2.2)
                  )
                )
              )) FU (x_26, 0, s_15.2)
            )
          )) FU (1, s_9.2.2)
        ) else (
          if s_9.2.1 < 0 ∨ 40000 ≤ s_9.2.1.toNatClampNeg then none else
          bnd (fun (t_56 : Int32) (σ_57 : MS) => (
            bnd ((s_9.1 ||| t_56)) fun (x_61 : Int32) =>
            if s_9.2.1 < 0 ∨ 40000 ≤ s_9.2.1.toNatClampNeg then none else
            bnd (fun  (σ_65 : MS) => (
              if s_9.2.1 < 0 ∨ 40000 ≤ s_9.2.1.toNatClampNeg then none else
              bnd ((σ_65.2 22 s_9.2.1.toNatClampNeg)) fun (x_71 : Int32) =>
              again_10 (x_61, x_71, σ_65)
            ) : MS → MR) fun j_66 =>
            if (σ_57.2 17 s_9.2.1.toNatClampNeg) = 2 then (
              if s_9.2.1 < 0 ∨ 40000 ≤ s_9.2.1.toNatClampNeg then none else
              bnd ((σ_57.2 19 s_9.2.1.toNatClampNeg)) fun (x_77 : Int32) =>
              if x_77 < 0 ∨ 40000 ≤ x_77.toNatClampNeg then none else
              bnd ((σ_57.2 19 x_77.toNatClampNeg)) fun (x_81 : Int32) =>
              if x_81 < 0 ∨ 8000 ≤ x_81.toNatClampNeg then none else
              (F_X12_toldPlace s_9.2.1 σ_57).bind fun u_85 =>
              if (σ_57.2 29 x_81.toNatClampNeg) < 0 ∨ 130 ≤ (σ_57.2 29 x_81.toNatClampNeg).toNatClampNeg then none else
              bnd (mA u_85.2 85 (upd (u_85.2.2 85) (σ_57.2 29 x_81.toNatClampNeg).toNatClampNeg u_85.1)) fun σ_89 =>
              j_66  σ_89
            ) else (
              j_66  σ_57
            )
          ) : Int32 → MS → MR) fun j_58 =>
          if (s_9.2.2.2 17 s_9.2.1.toNatClampNeg) = 1 then (
            j_58 1 s_9.2.2
          ) else (
            j_58 0 s_9.2.2
          )
        )
      )) FU (0, x_7, s_1.2)
    ) else (
      if s_1.1 < 0 ∨ 130 ≤ s_1.1.toNatClampNeg then none else
      bnd (mA s_1.2 85 (upd (s_1.2.2 85) s_1.1.toNatClampNeg 0)) fun σ_98 =>
      bnd (s_1.1 + 1) fun (x_100 : Int32) =>
      again_2 (x_100, σ_98)
    )
  )) FU (0, σ)
set_option maxHeartbeats 4000000 in
set_option maxRecDepth 100000 in
theorem m_X12_holds (l : Launch) (dC : Nat → ClassId) (dI : Nat → Nat → Nat) (cB cC cI cJ cZ cP : ClassId) (h qK qS : Nat) (ad : Nat → Nat) (hDD : mDis cB cI cZ h qK qS ad) (sz : Nat)   (σ : MS) (res : Int32 × MS) (hF : F_X12_holds  σ = some res) : Met l yX12_holds (g_ws yX12_holds cX12_holds 5 (some .boolean)) ({ frames := 2, cells := 0, slots := 0, locals := 63 }) (va_Pc [.ref h] (m_B (dC, dI) [(cB, .byte), (cC, .char), (cI, .int), (cJ, .long), (cZ, .boolean), (cP, .object "StoryHouse$Play")] sz h ad qK qS (mW cB cI cZ h qK qS ad σ) g_0)) (va_Qi (fun r (_ : Unit) => r = res.1) (fun _ t => va_P (dC, dI) vwCl (mW cB cI cZ h qK qS ad res.2) t.heap) (mCells h ad sz)) 0 0 (mCells h ad sz) := by
  refine Met.ofW (cc := cX12_holds) (maxL := 5) (ret := (some .boolean)) (by decide) rfl ?_
  intro p e s m args below meth c s₁ B hml hv
  obtain ⟨rfl, hsz, hP, hK, hE, hKS, hX⟩ := hv
  have hx := B.exec
  have hb := B.bytes
  have hr := B.returns
  have hts0 := atoms_spec (ws := g_ws yX12_holds cX12_holds 5 (some .boolean)) B.pre
  have hts : ∀ w ∈ lw_good, w.before ([.ref h] : List Value).toArray s = true := fun w z => hts0 w (List.mem_cons_of_mem _ z)
  have hown : s.vm.findClass RX12 = some m.cls := findClass_of_methodNamed B.named
  have hlocks := B.notSynchronized
  have hS : va_S (mCells h ad sz) s.heap s.heap [] := va_S.rf
  have hl := lv_entry ([.ref h]) (n := 5) (Nat.le_of_ble_eq_true rfl)
  rw [lg_entry_eq]
  generalize (lg_sl ([.ref h]) ++ List.replicate (5 - (lg_sl ([.ref h])).length) Slot.unset).toArray = ls at hl ⊢
  have hl : lv_has ls 5 [(0, .ref h)] := hl
  unfold F_X12_holds at hF
  refine lv_iconst (v := 0) hx hb dX12_holds_0 (by decide +kernel) ?_
  refine lv_istore_n (lv' := [(1, .int 0), (0, .ref h)]) hx hb dX12_holds_1 rfl hl (by decide) rfl (fun ls hl => ?_)
  refine lv_iconst (v := 0) hx hb dX12_holds_2 (by decide +kernel) ?_
  refine lv_istore_n (lv' := [(2, .int 0), (1, .int 0), (0, .ref h)]) hx hb dX12_holds_3 rfl hl (by decide) rfl (fun ls hl => ?_)
  refine loopF_ind (P := fun (s_1 : Int32 × MS) => ∀ (H : Heap) (locs : List Loc), va_P (dC, dI) vwCl (mW cB cI cZ h qK qS ad s_1.2) H → va_S (mCells h ad sz) s.heap H locs → ∀ ls : Array Slot, lv_has ls 5 [(0, .ref h), (1, .int 0), (2, .int s_1.1)] → W p l e (headSpec (g_ws yX12_holds cX12_holds 5 (some .boolean)) { frames := 2, cells := 0, slots := 0, locals := 63 }).room s m ([.ref h] : List Value).toArray below meth c H locs 0 0 (MQ below (va_Qi (fun r (_ : Unit) => r = res.1) (fun _ t => va_P (dC, dI) vwCl (mW cB cI cZ h qK qS ad res.2) t.heap) (mCells h ad sz)) ([.ref h] : List Value).toArray s 0 0 (mCells h ad sz)) (F0 m 4 ls [])) ?_ _ _ hF _ _ hP hS ls (lv_sub hl [2, 1, 0] rfl)
  intro again_2 s_1 ih_3 hF_4
  intro H locs hP hS ls hl
  refine lv_iload_n hx hb dX12_holds_4 rfl (lv_at hl 2 rfl) ?_
  refine lv_aload_n hx hb dX12_holds_5 rfl (lv_at hl 0 rfl) ?_
  refine va_get (D := (dC, dI)) (ci := 12) (v := .int (s_1.2.1 35)) (C := RX12) (T := TX12) (N := 123) hx hb hts ii_X12 hown hK hP 0 rfl rfl 35 (by decide) (hts (.fieldLink RX12 470 "StoryHouseModel" "objects" "I") wq_1391) (fun _ h9 => h9) rfl dX12_holds_6 ?_
  refine lv_icmp_gt (tgt := 25) hx hb dX12_holds_9 (by decide) (fun c_5 => ?_) (fun c_5 => ?_)
  · have hF_6 := ipos c_5 hF_4
    clear hF_4
    refine lv_aload_n hx hb dX12_holds_25 rfl (lv_at hl 0 rfl) ?_
    refine va_get (D := (dC, dI)) (ci := 12) (v := .int (s_1.2.1 24)) (C := RX12) (T := TX12) (N := 123) hx hb hts ii_X12 hown hK hP 0 rfl rfl 24 (by decide) (hts (.fieldLink RX12 352 "StoryHouseModel" "items" "I") wq_1380) (fun _ h9 => h9) rfl dX12_holds_26 ?_
    obtain ⟨x_7, ex_7, hF_8⟩ := bnd_e hF_6
    clear hF_6
    refine m_top ex_7 ?_
    refine lv_istore_n (lv' := [(2, .int x_7), (0, .ref h), (1, .int 0)]) hx hb dX12_holds_29 rfl hl (by decide) rfl (fun ls hl => ?_)
    refine loopF_ind (P := fun (s_9 : Int32 × Int32 × MS) => ∀ (H : Heap) (locs : List Loc), va_P (dC, dI) vwCl (mW cB cI cZ h qK qS ad s_9.2.2) H → va_S (mCells h ad sz) s.heap H locs → ∀ ls : Array Slot, lv_has ls 5 [(0, .ref h), (1, .int s_9.1), (2, .int s_9.2.1)] → W p l e (headSpec (g_ws yX12_holds cX12_holds 5 (some .boolean)) { frames := 2, cells := 0, slots := 0, locals := 63 }).room s m ([.ref h] : List Value).toArray below meth c H locs 0 0 (MQ below (va_Qi (fun r (_ : Unit) => r = res.1) (fun _ t => va_P (dC, dI) vwCl (mW cB cI cZ h qK qS ad res.2) t.heap) (mCells h ad sz)) ([.ref h] : List Value).toArray s 0 0 (mCells h ad sz)) (F0 m 30 ls [])) ?_ _ _ hF_8 _ _ hP hS ls (lv_sub hl [1, 2, 0] rfl)
    intro again_10 s_9 ih_11 hF_12
    intro H locs hP hS ls hl
    refine lv_iload_n hx hb dX12_holds_30 rfl (lv_at hl 2 rfl) ?_
    refine lv_if_lt (tgt := 98) hx hb dX12_holds_31 (by decide) (fun c_13 => ?_) (fun c_13 => ?_)
    · have hF_14 := ipos c_13 hF_12
      clear hF_12
      refine lv_iconst (v := 1) hx hb dX12_holds_98 (by decide +kernel) ?_
      refine lv_istore_n (lv' := [(2, .int 1), (0, .ref h), (1, .int s_9.1)]) hx hb dX12_holds_99 rfl hl (by decide) rfl (fun ls hl => ?_)
      refine loopF_ind (P := fun (s_15 : Int32 × MS) => ∀ (H : Heap) (locs : List Loc), va_P (dC, dI) vwCl (mW cB cI cZ h qK qS ad s_15.2) H → va_S (mCells h ad sz) s.heap H locs → ∀ ls : Array Slot, lv_has ls 5 [(0, .ref h), (1, .int s_9.1), (2, .int s_15.1)] → W p l e (headSpec (g_ws yX12_holds cX12_holds 5 (some .boolean)) { frames := 2, cells := 0, slots := 0, locals := 63 }).room s m ([.ref h] : List Value).toArray below meth c H locs 0 0 (MQ below (va_Qi (fun r (_ : Unit) => r = res.1) (fun _ t => va_P (dC, dI) vwCl (mW cB cI cZ h qK qS ad res.2) t.heap) (mCells h ad sz)) ([.ref h] : List Value).toArray s 0 0 (mCells h ad sz)) (F0 m 100 ls [])) ?_ _ _ hF_14 _ _ hP hS ls (lv_sub hl [1, 2, 0] rfl)
      intro again_16 s_15 ih_17 hF_18
      intro H locs hP hS ls hl
      refine lv_iload_n hx hb dX12_holds_100 rfl (lv_at hl 2 rfl) ?_
      refine lv_aload_n hx hb dX12_holds_101 rfl (lv_at hl 0 rfl) ?_
      refine va_get (D := (dC, dI)) (ci := 12) (v := .int (s_15.2.1 35)) (C := RX12) (T := TX12) (N := 123) hx hb hts ii_X12 hown hK hP 0 rfl rfl 35 (by decide) (hts (.fieldLink RX12 470 "StoryHouseModel" "objects" "I") wq_1391) (fun _ h9 => h9) rfl dX12_holds_102 ?_
      refine lv_icmp_gt (tgt := 156) hx hb dX12_holds_105 (by decide) (fun c_19 => ?_) (fun c_19 => ?_)
      · have hF_20 := ipos c_19 hF_18
        clear hF_18
        refine lv_iload_n hx hb dX12_holds_156 rfl (lv_at hl 1 rfl) ?_
        obtain ⟨g_22, hF_21⟩ := nif_e hF_20
        clear hF_20
        have h9 := Option.some.inj hF_21
        subst h9
        exact W.zret (v := s_9.1) hx hb hr (m_bool (Classical.not_not.mp g_22)).1 (fun t ht hW => ⟨⟨s_9.1, (), rfl, rfl, m_end ht hP⟩, hS.F ht⟩) hS.2.2 dX12_holds_157
      · have hF_23 := ineg c_19 hF_18
        clear hF_18
        refine lv_aload_n hx hb dX12_holds_108 rfl (lv_at hl 0 rfl) ?_
        refine va_get (D := (dC, dI)) (ci := 12) (v := .ref (ad 85)) (C := RX12) (T := TX12) (N := 123) hx hb hts ii_X12 hown hK hP 0 rfl rfl 85 (by decide) (hts (.fieldLink RX12 179 "StoryHouseModel" "inOf" "[I") wq_1441) (fun _ h9 => h9) rfl dX12_holds_109 ?_
        refine lv_iload_n hx hb dX12_holds_112 rfl (lv_at hl 2 rfl) ?_
        obtain ⟨g_24, hF_25⟩ := nif_e hF_23
        clear hF_23
        refine va_iald (f := s_15.2.2 85) hx hb hK hP 51 2 rfl rfl g_24 dX12_holds_113 ?_
        obtain ⟨x_26, ex_26, hF_27⟩ := bnd_e hF_25
        clear hF_25
        refine m_top ex_26 ?_
        refine lv_istore_n (lv' := [(3, .int x_26), (0, .ref h), (1, .int s_9.1), (2, .int s_15.1)]) hx hb dX12_holds_114 rfl hl (by decide) rfl (fun ls hl => ?_)
        refine lv_iconst (v := 0) hx hb dX12_holds_115 (by decide +kernel) ?_
        refine lv_istore (lv' := [(4, .int 0), (3, .int x_26), (0, .ref h), (1, .int s_9.1), (2, .int s_15.1)]) hx hb dX12_holds_116 hl (by decide) rfl (fun ls hl => ?_)
        refine loopF_ind (P := fun (s_28 : Int32 × Int32 × MS) => ∀ (H : Heap) (locs : List Loc), va_P (dC, dI) vwCl (mW cB cI cZ h qK qS ad s_28.2.2) H → va_S (mCells h ad sz) s.heap H locs → ∀ ls : Array Slot, lv_has ls 5 [(0, .ref h), (1, .int s_9.1), (2, .int s_15.1), (3, .int s_28.1), (4, .int s_28.2.1)] → W p l e (headSpec (g_ws yX12_holds cX12_holds 5 (some .boolean)) { frames := 2, cells := 0, slots := 0, locals := 63 }).room s m ([.ref h] : List Value).toArray below meth c H locs 0 0 (MQ below (va_Qi (fun r (_ : Unit) => r = res.1) (fun _ t => va_P (dC, dI) vwCl (mW cB cI cZ h qK qS ad res.2) t.heap) (mCells h ad sz)) ([.ref h] : List Value).toArray s 0 0 (mCells h ad sz)) (F0 m 118 ls [])) ?_ _ _ hF_27 _ _ hP hS ls (lv_sub hl [2, 3, 4, 1, 0] rfl)
        intro again_29 s_28 ih_30 hF_31
        intro H locs hP hS ls hl
        refine lv_iload hx hb dX12_holds_118 (lv_at hl 4 rfl) ?_
        refine lv_aload_n hx hb dX12_holds_120 rfl (lv_at hl 0 rfl) ?_
        refine va_get (D := (dC, dI)) (ci := 12) (v := .int (s_28.2.2.1 35)) (C := RX12) (T := TX12) (N := 123) hx hb hts ii_X12 hown hK hP 0 rfl rfl 35 (by decide) (hts (.fieldLink RX12 470 "StoryHouseModel" "objects" "I") wq_1391) (fun _ h9 => h9) rfl dX12_holds_121 ?_
        obtain ⟨j_33, ej_33, hF_34⟩ := bnd_e hF_31
        clear hF_31
        have Jj_33 : ∀  (σ_32 : MS), j_33  σ_32 = some res → ∀ (H : Heap) (locs : List Loc), va_P (dC, dI) vwCl (mW cB cI cZ h qK qS ad σ_32) H → va_S (mCells h ad sz) s.heap H locs → ∀ ls : Array Slot, lv_has ls 5 [(0, .ref h), (1, .int s_9.1), (2, .int s_15.1), (3, .int s_28.1)] → W p l e (headSpec (g_ws yX12_holds cX12_holds 5 (some .boolean)) { frames := 2, cells := 0, slots := 0, locals := 63 }).room s m ([.ref h] : List Value).toArray below meth c H locs 0 0 (MQ below (va_Qi (fun r (_ : Unit) => r = res.1) (fun _ t => va_P (dC, dI) vwCl (mW cB cI cZ h qK qS ad res.2) t.heap) (mCells h ad sz)) ([.ref h] : List Value).toArray s 0 0 (mCells h ad sz)) (F0 m 144 ls []) := by
          intro  σ_32 hF0 H locs hP hS ls hl
          subst ej_33
          have hF_35 := hF0
          clear hF0
          refine lv_iload_n hx hb dX12_holds_144 rfl (lv_at hl 3 rfl) ?_
          refine lv_if_le (tgt := 150) hx hb dX12_holds_145 (by decide) (fun c_36 => ?_) (fun c_36 => ?_)
          · have hF_37 := ipos c_36 hF_35
            clear hF_35
            obtain ⟨x_38, ex_38, hF_39⟩ := bnd_e hF_37
            clear hF_37
            refine lv_iinc (v := x_38) (lv' := [(2, .int x_38), (0, .ref h), (1, .int s_9.1), (3, .int s_28.1)]) hx hb dX12_holds_150 hl (k := 2) rfl (by rw [ex_38]; rfl) (by decide) rfl (fun ls hl => ?_)
            refine lv_goto (tgt := 100) hx hb dX12_holds_153 (by decide) ?_
            exact ih_17 (x_38, σ_32) hF_39 _ _ hP hS ls (lv_sub hl [1, 2, 0] rfl)
          · have hF_40 := ineg c_36 hF_35
            clear hF_35
            refine lv_iconst (v := 0) hx hb dX12_holds_148 (by decide +kernel) ?_
            have h9 := Option.some.inj hF_40
            subst h9
            exact W.zret (v := 0) hx hb hr (by decide +kernel) (fun t ht hW => ⟨⟨0, (), rfl, rfl, m_end ht hP⟩, hS.F ht⟩) hS.2.2 dX12_holds_149
        refine lv_icmp_gt (tgt := 144) hx hb dX12_holds_124 (by decide) (fun c_41 => ?_) (fun c_41 => ?_)
        · have hF_42 := ipos c_41 hF_34
          clear hF_34
          exact Jj_33  s_28.2.2 hF_42 _ _ hP hS ls (lv_sub hl [0, 1, 2, 3] rfl)
        · have hF_43 := ineg c_41 hF_34
          clear hF_34
          refine lv_iload_n hx hb dX12_holds_127 rfl (lv_at hl 3 rfl) ?_
          refine lv_if_le (tgt := 144) hx hb dX12_holds_128 (by decide) (fun c_44 => ?_) (fun c_44 => ?_)
          · have hF_45 := ipos c_44 hF_43
            clear hF_43
            exact Jj_33  s_28.2.2 hF_45 _ _ hP hS ls (lv_sub hl [0, 1, 2, 3] rfl)
          · have hF_46 := ineg c_44 hF_43
            clear hF_43
            refine lv_aload_n hx hb dX12_holds_131 rfl (lv_at hl 0 rfl) ?_
            refine va_get (D := (dC, dI)) (ci := 12) (v := .ref (ad 85)) (C := RX12) (T := TX12) (N := 123) hx hb hts ii_X12 hown hK hP 0 rfl rfl 85 (by decide) (hts (.fieldLink RX12 179 "StoryHouseModel" "inOf" "[I") wq_1441) (fun _ h9 => h9) rfl dX12_holds_132 ?_
            refine lv_iload_n hx hb dX12_holds_135 rfl (lv_at hl 3 rfl) ?_
            obtain ⟨g_47, hF_48⟩ := nif_e hF_46
            clear hF_46
            refine va_iald (f := s_28.2.2.2 85) hx hb hK hP 51 2 rfl rfl g_47 dX12_holds_136 ?_
            obtain ⟨x_49, ex_49, hF_50⟩ := bnd_e hF_48
            clear hF_48
            refine m_top ex_49 ?_
            refine lv_istore_n (lv' := [(3, .int x_49), (0, .ref h), (1, .int s_9.1), (2, .int s_15.1), (4, .int s_28.2.1)]) hx hb dX12_holds_137 rfl hl (by decide) rfl (fun ls hl => ?_)
            obtain ⟨x_51, ex_51, hF_52⟩ := bnd_e hF_50
            clear hF_50
            refine lv_iinc (v := x_51) (lv' := [(4, .int x_51), (3, .int x_49), (0, .ref h), (1, .int s_9.1), (2, .int s_15.1)]) hx hb dX12_holds_138 hl (k := 4) rfl (by rw [ex_51]; rfl) (by decide) rfl (fun ls hl => ?_)
            refine lv_goto (tgt := 118) hx hb dX12_holds_141 (by decide) ?_
            exact ih_30 (x_49, x_51, s_28.2.2) hF_52 _ _ hP hS ls (lv_sub hl [2, 3, 4, 1, 0] rfl)
    · have hF_53 := ineg c_13 hF_12
      clear hF_12
      refine lv_iload_n hx hb dX12_holds_34 rfl (lv_at hl 1 rfl) ?_
      refine lv_aload_n hx hb dX12_holds_35 rfl (lv_at hl 0 rfl) ?_
      refine va_get (D := (dC, dI)) (ci := 12) (v := .ref (ad 17)) (C := RX12) (T := TX12) (N := 123) hx hb hts ii_X12 hown hK hP 0 rfl rfl 17 (by decide) (hts (.fieldLink RX12 49 "StoryHouseModel" "what" "[I") wq_1373) (fun _ h9 => h9) rfl dX12_holds_36 ?_
      refine lv_iload_n hx hb dX12_holds_39 rfl (lv_at hl 2 rfl) ?_
      obtain ⟨g_54, hF_55⟩ := nif_e hF_53
      clear hF_53
      refine va_iald (f := s_9.2.2.2 17) hx hb hK hP 8 2 rfl rfl g_54 dX12_holds_40 ?_
      refine lv_iconst (v := 1) hx hb dX12_holds_41 (by decide +kernel) ?_
      obtain ⟨j_58, ej_58, hF_59⟩ := bnd_e hF_55
      clear hF_55
      have Jj_58 : ∀ (t_56 : Int32) (σ_57 : MS), j_58 t_56 σ_57 = some res → ∀ (H : Heap) (locs : List Loc), va_P (dC, dI) vwCl (mW cB cI cZ h qK qS ad σ_57) H → va_S (mCells h ad sz) s.heap H locs → ∀ ls : Array Slot, lv_has ls 5 [(0, .ref h), (2, .int s_9.2.1)] → W p l e (headSpec (g_ws yX12_holds cX12_holds 5 (some .boolean)) { frames := 2, cells := 0, slots := 0, locals := 63 }).room s m ([.ref h] : List Value).toArray below meth c H locs 0 0 (MQ below (va_Qi (fun r (_ : Unit) => r = res.1) (fun _ t => va_P (dC, dI) vwCl (mW cB cI cZ h qK qS ad res.2) t.heap) (mCells h ad sz)) ([.ref h] : List Value).toArray s 0 0 (mCells h ad sz)) (F0 m 50 ls [.int t_56, .int s_9.1]) := by
        intro t_56 σ_57 hF0 H locs hP hS ls hl
        subst ej_58
        have hF_60 := hF0
        clear hF0
        refine lv_ior hx hb dX12_holds_50 ?_
        obtain ⟨x_61, ex_61, hF_62⟩ := bnd_e hF_60
        clear hF_60
        refine m_top ex_61 ?_
        refine lv_istore_n (lv' := [(1, .int x_61), (0, .ref h), (2, .int s_9.2.1)]) hx hb dX12_holds_51 rfl hl (by decide) rfl (fun ls hl => ?_)
        refine lv_aload_n hx hb dX12_holds_52 rfl (lv_at hl 1 rfl) ?_
        refine va_get (D := (dC, dI)) (ci := 12) (v := .ref (ad 17)) (C := RX12) (T := TX12) (N := 123) hx hb hts ii_X12 hown hK hP 0 rfl rfl 17 (by decide) (hts (.fieldLink RX12 49 "StoryHouseModel" "what" "[I") wq_1373) (fun _ h9 => h9) rfl dX12_holds_53 ?_
        refine lv_iload_n hx hb dX12_holds_56 rfl (lv_at hl 2 rfl) ?_
        obtain ⟨g_63, hF_64⟩ := nif_e hF_62
        clear hF_62
        refine va_iald (f := σ_57.2 17) hx hb hK hP 8 2 rfl rfl g_63 dX12_holds_57 ?_
        refine lv_iconst (v := 2) hx hb dX12_holds_58 (by decide +kernel) ?_
        obtain ⟨j_66, ej_66, hF_67⟩ := bnd_e hF_64
        clear hF_64
        have Jj_66 : ∀  (σ_65 : MS), j_66  σ_65 = some res → ∀ (H : Heap) (locs : List Loc), va_P (dC, dI) vwCl (mW cB cI cZ h qK qS ad σ_65) H → va_S (mCells h ad sz) s.heap H locs → ∀ ls : Array Slot, lv_has ls 5 [(0, .ref h), (1, .int x_61), (2, .int s_9.2.1)] → W p l e (headSpec (g_ws yX12_holds cX12_holds 5 (some .boolean)) { frames := 2, cells := 0, slots := 0, locals := 63 }).room s m ([.ref h] : List Value).toArray below meth c H locs 0 0 (MQ below (va_Qi (fun r (_ : Unit) => r = res.1) (fun _ t => va_P (dC, dI) vwCl (mW cB cI cZ h qK qS ad res.2) t.heap) (mCells h ad sz)) ([.ref h] : List Value).toArray s 0 0 (mCells h ad sz)) (F0 m 88 ls []) := by
          intro  σ_65 hF0 H locs hP hS ls hl
          subst ej_66
          have hF_68 := hF0
          clear hF0
          refine lv_aload_n hx hb dX12_holds_88 rfl (lv_at hl 0 rfl) ?_
          refine va_get (D := (dC, dI)) (ci := 12) (v := .ref (ad 22)) (C := RX12) (T := TX12) (N := 123) hx hb hts ii_X12 hown hK hP 0 rfl rfl 22 (by decide) (hts (.fieldLink RX12 64 "StoryHouseModel" "then" "[I") wq_1378) (fun _ h9 => h9) rfl dX12_holds_89 ?_
          refine lv_iload_n hx hb dX12_holds_92 rfl (lv_at hl 2 rfl) ?_
          obtain ⟨g_69, hF_70⟩ := nif_e hF_68
          clear hF_68
          refine va_iald (f := σ_65.2 22) hx hb hK hP 13 2 rfl rfl g_69 dX12_holds_93 ?_
          obtain ⟨x_71, ex_71, hF_72⟩ := bnd_e hF_70
          clear hF_70
          refine m_top ex_71 ?_
          refine lv_istore_n (lv' := [(2, .int x_71), (0, .ref h), (1, .int x_61)]) hx hb dX12_holds_94 rfl hl (by decide) rfl (fun ls hl => ?_)
          refine lv_goto (tgt := 30) hx hb dX12_holds_95 (by decide) ?_
          exact ih_11 (x_61, x_71, σ_65) hF_72 _ _ hP hS ls (lv_sub hl [1, 2, 0] rfl)
        refine lv_icmp_ne (tgt := 88) hx hb dX12_holds_59 (by decide) (fun c_73 => ?_) (fun c_73 => ?_)
        · have hF_91 := ineg c_73 hF_67
          clear hF_67
          exact Jj_66  σ_57 hF_91 _ _ hP hS ls (lv_sub hl [1, 0, 2] rfl)
        · have hF_74 := ipos c_73 hF_67
          clear hF_67
          refine lv_aload_n hx hb dX12_holds_62 rfl (lv_at hl 1 rfl) ?_
          refine va_get (D := (dC, dI)) (ci := 12) (v := .ref (ad 85)) (C := RX12) (T := TX12) (N := 123) hx hb hts ii_X12 hown hK hP 0 rfl rfl 85 (by decide) (hts (.fieldLink RX12 179 "StoryHouseModel" "inOf" "[I") wq_1441) (fun _ h9 => h9) rfl dX12_holds_63 ?_
          refine lv_aload_n hx hb dX12_holds_66 rfl (lv_at hl 1 rfl) ?_
          refine va_get (D := (dC, dI)) (ci := 12) (v := .ref (ad 29)) (C := RX12) (T := TX12) (N := 123) hx hb hts ii_X12 hown hK hP 0 rfl rfl 29 (by decide) (hts (.fieldLink RX12 70 "StoryHouseModel" "nameNumber" "[I") wq_1385) (fun _ h9 => h9) rfl dX12_holds_67 ?_
          refine lv_aload_n hx hb dX12_holds_70 rfl (lv_at hl 1 rfl) ?_
          refine va_get (D := (dC, dI)) (ci := 12) (v := .ref (ad 19)) (C := RX12) (T := TX12) (N := 123) hx hb hts ii_X12 hown hK hP 0 rfl rfl 19 (by decide) (hts (.fieldLink RX12 55 "StoryHouseModel" "a" "[I") wq_1375) (fun _ h9 => h9) rfl dX12_holds_71 ?_
          refine lv_aload_n hx hb dX12_holds_74 rfl (lv_at hl 1 rfl) ?_
          refine va_get (D := (dC, dI)) (ci := 12) (v := .ref (ad 19)) (C := RX12) (T := TX12) (N := 123) hx hb hts ii_X12 hown hK hP 0 rfl rfl 19 (by decide) (hts (.fieldLink RX12 55 "StoryHouseModel" "a" "[I") wq_1375) (fun _ h9 => h9) rfl dX12_holds_75 ?_
          refine lv_iload_n hx hb dX12_holds_78 rfl (lv_at hl 2 rfl) ?_
          obtain ⟨g_75, hF_76⟩ := nif_e hF_74
          clear hF_74
          refine va_iald (f := σ_57.2 19) hx hb hK hP 10 2 rfl rfl g_75 dX12_holds_79 ?_
          obtain ⟨x_77, ex_77, hF_78⟩ := bnd_e hF_76
          clear hF_76
          refine m_top ex_77 ?_
          obtain ⟨g_79, hF_80⟩ := nif_e hF_78
          clear hF_78
          refine va_iald (f := σ_57.2 19) hx hb hK hP 10 2 rfl rfl g_79 dX12_holds_80 ?_
          obtain ⟨x_81, ex_81, hF_82⟩ := bnd_e hF_80
          clear hF_80
          refine m_top ex_81 ?_
          obtain ⟨g_83, hF_84⟩ := nif_e hF_82
          clear hF_82
          refine va_iald (f := σ_57.2 29) hx hb hK hP 15 2 rfl rfl g_83 dX12_holds_81 ?_
          refine lv_aload_n hx hb dX12_holds_82 rfl (lv_at hl 1 rfl) ?_
          refine lv_iload_n hx hb dX12_holds_83 rfl (lv_at hl 2 rfl) ?_
          obtain ⟨u_85, hu_85, hF_86⟩ := Option.bind_eq_some_iff.mp hF_84
          clear hF_84
          refine m_ci hsz hS (va_runV (As := [.int s_9.2.1]) (rest := [.int (σ_57.2 29 x_81.toNatClampNeg), .ref (ad 85)]) ⟨hx, hb, hml, hown, hts⟩ (m_X12_toldPlace l dC dI cB cC cI cJ cZ cP h qK qS ad hDD H.size  s_9.2.1 σ_57 _ hu_85) (cwV 1 hts (g_gV wq_1717 wq_1718 wq_2184 wq_13 wq_1719) rfl rfl rfl (by decide +kernel) ⟨Nat.le_of_ble_eq_true rfl, Nat.le_of_ble_eq_true rfl⟩) (m_preV g_bl0 hsz hK hP hS hE hKS g_to0) rfl rfl hl.1 rfl (lv_room (Nat.le_of_ble_eq_true rfl)) dX12_holds_84 ⟨Nat.le_of_ble_eq_true rfl, Nat.le_of_ble_eq_true rfl⟩) (fun H locs hP hS => ?_)
          obtain ⟨g_87, hF_88⟩ := nif_e hF_86
          clear hF_86
          obtain ⟨σ_89, eσ_89, hF_90⟩ := bnd_e hF_88
          clear hF_88
          refine m_iast (σ' := σ_89) hx hb hK hP (hDD _ _) hS (q0 := 51) (t0 := 2) (f := u_85.2.2 85) rfl rfl (by rw [eσ_89]; exact mwA_85) g_87 dX12_holds_87 (fun H locs hP hS => ?_)
          exact Jj_66  σ_89 hF_90 _ _ hP hS ls (lv_sub hl [1, 0, 2] rfl)
      refine lv_icmp_ne (tgt := 49) hx hb dX12_holds_42 (by decide) (fun c_92 => ?_) (fun c_92 => ?_)
      · have hF_94 := ineg c_92 hF_59
        clear hF_59
        refine lv_iconst (v := 0) hx hb dX12_holds_49 (by decide +kernel) ?_
        exact Jj_58 0 s_9.2.2 hF_94 _ _ hP hS ls (lv_sub hl [0, 2] rfl)
      · have hF_93 := ipos c_92 hF_59
        clear hF_59
        refine lv_iconst (v := 1) hx hb dX12_holds_45 (by decide +kernel) ?_
        refine lv_goto (tgt := 50) hx hb dX12_holds_46 (by decide) ?_
        exact Jj_58 1 s_9.2.2 hF_93 _ _ hP hS ls (lv_sub hl [0, 2] rfl)
  · have hF_95 := ineg c_5 hF_4
    clear hF_4
    refine lv_aload_n hx hb dX12_holds_12 rfl (lv_at hl 0 rfl) ?_
    refine va_get (D := (dC, dI)) (ci := 12) (v := .ref (ad 85)) (C := RX12) (T := TX12) (N := 123) hx hb hts ii_X12 hown hK hP 0 rfl rfl 85 (by decide) (hts (.fieldLink RX12 179 "StoryHouseModel" "inOf" "[I") wq_1441) (fun _ h9 => h9) rfl dX12_holds_13 ?_
    refine lv_iload_n hx hb dX12_holds_16 rfl (lv_at hl 2 rfl) ?_
    refine lv_iconst (v := 0) hx hb dX12_holds_17 (by decide +kernel) ?_
    obtain ⟨g_96, hF_97⟩ := nif_e hF_95
    clear hF_95
    obtain ⟨σ_98, eσ_98, hF_99⟩ := bnd_e hF_97
    clear hF_97
    refine m_iast (σ' := σ_98) hx hb hK hP (hDD _ _) hS (q0 := 51) (t0 := 2) (f := s_1.2.2 85) rfl rfl (by rw [eσ_98]; exact mwA_85) g_96 dX12_holds_18 (fun H locs hP hS => ?_)
    obtain ⟨x_100, ex_100, hF_101⟩ := bnd_e hF_99
    clear hF_99
    refine lv_iinc (v := x_100) (lv' := [(2, .int x_100), (0, .ref h), (1, .int 0)]) hx hb dX12_holds_19 hl (k := 2) rfl (by rw [ex_100]; rfl) (by decide) rfl (fun ls hl => ?_)
    refine lv_goto (tgt := 4) hx hb dX12_holds_22 (by decide) ?_
    exact ih_3 (x_100, σ_98) hF_101 _ _ hP hS ls (lv_sub hl [1, 2, 0] rfl)
theorem dX12_wordTo_0 : decode cX12_wordTo 0 = .ok (.bipush 9, 2) := by decide +kernel
theorem dX12_wordTo_2 : decode cX12_wordTo 2 = .ok (.aload_n 0, 1) := by decide +kernel
theorem dX12_wordTo_3 : decode cX12_wordTo 3 = .ok (.getfield 41, 3) := by decide +kernel
theorem dX12_wordTo_6 : decode cX12_wordTo 6 = .ok (.iload_n 3, 1) := by decide +kernel
theorem dX12_wordTo_7 : decode cX12_wordTo 7 = .ok (.iaload, 1) := by decide +kernel
theorem dX12_wordTo_8 : decode cX12_wordTo 8 = .ok (.invokestatic 293, 3) := by decide +kernel
theorem dX12_wordTo_11 : decode cX12_wordTo 11 = .ok (.istore 4, 2) := by decide +kernel
theorem dX12_wordTo_13 : decode cX12_wordTo 13 = .ok (.iconst 1, 1) := by decide +kernel
theorem dX12_wordTo_14 : decode cX12_wordTo 14 = .ok (.istore 5, 2) := by decide +kernel
theorem dX12_wordTo_16 : decode cX12_wordTo 16 = .ok (.iconst 0, 1) := by decide +kernel
theorem dX12_wordTo_17 : decode cX12_wordTo 17 = .ok (.istore 6, 2) := by decide +kernel
theorem dX12_wordTo_19 : decode cX12_wordTo 19 = .ok (.iload 6, 2) := by decide +kernel
theorem dX12_wordTo_21 : decode cX12_wordTo 21 = .ok (.iload 4, 2) := by decide +kernel
theorem dX12_wordTo_23 : decode cX12_wordTo 23 = .ok (.if_icmp .ge 41, 3) := by decide +kernel
theorem dX12_wordTo_26 : decode cX12_wordTo 26 = .ok (.aload_n 1, 1) := by decide +kernel
theorem dX12_wordTo_27 : decode cX12_wordTo 27 = .ok (.iload_n 2, 1) := by decide +kernel
theorem dX12_wordTo_28 : decode cX12_wordTo 28 = .ok (.iload 6, 2) := by decide +kernel
theorem dX12_wordTo_30 : decode cX12_wordTo 30 = .ok (.iadd, 1) := by decide +kernel
theorem dX12_wordTo_31 : decode cX12_wordTo 31 = .ok (.aload_n 0, 1) := by decide +kernel
theorem dX12_wordTo_32 : decode cX12_wordTo 32 = .ok (.getfield 38, 3) := by decide +kernel
theorem dX12_wordTo_35 : decode cX12_wordTo 35 = .ok (.bipush 12, 2) := by decide +kernel
theorem dX12_wordTo_37 : decode cX12_wordTo 37 = .ok (.iload_n 3, 1) := by decide +kernel
theorem dX12_wordTo_38 : decode cX12_wordTo 38 = .ok (.imul, 1) := by decide +kernel
theorem dX12_wordTo_39 : decode cX12_wordTo 39 = .ok (.iload 6, 2) := by decide +kernel
theorem dX12_wordTo_41 : decode cX12_wordTo 41 = .ok (.iadd, 1) := by decide +kernel
theorem dX12_wordTo_42 : decode cX12_wordTo 42 = .ok (.baload, 1) := by decide +kernel
theorem dX12_wordTo_43 : decode cX12_wordTo 43 = .ok (.bastore, 1) := by decide +kernel
theorem dX12_wordTo_44 : decode cX12_wordTo 44 = .ok (.iload 5, 2) := by decide +kernel
theorem dX12_wordTo_46 : decode cX12_wordTo 46 = .ok (.aload_n 1, 1) := by decide +kernel
theorem dX12_wordTo_47 : decode cX12_wordTo 47 = .ok (.iload_n 2, 1) := by decide +kernel
theorem dX12_wordTo_48 : decode cX12_wordTo 48 = .ok (.iload 6, 2) := by decide +kernel
theorem dX12_wordTo_50 : decode cX12_wordTo 50 = .ok (.iadd, 1) := by decide +kernel
theorem dX12_wordTo_51 : decode cX12_wordTo 51 = .ok (.baload, 1) := by decide +kernel
theorem dX12_wordTo_52 : decode cX12_wordTo 52 = .ok (.invokestatic 252, 3) := by decide +kernel
theorem dX12_wordTo_55 : decode cX12_wordTo 55 = .ok (.iand, 1) := by decide +kernel
theorem dX12_wordTo_56 : decode cX12_wordTo 56 = .ok (.istore 5, 2) := by decide +kernel
theorem dX12_wordTo_58 : decode cX12_wordTo 58 = .ok (.iinc 6 1, 3) := by decide +kernel
theorem dX12_wordTo_61 : decode cX12_wordTo 61 = .ok (.goto (-42), 3) := by decide +kernel
theorem dX12_wordTo_64 : decode cX12_wordTo 64 = .ok (.iload 5, 2) := by decide +kernel
theorem dX12_wordTo_66 : decode cX12_wordTo 66 = .ok (.ifCond .eq 8, 3) := by decide +kernel
theorem dX12_wordTo_69 : decode cX12_wordTo 69 = .ok (.iload 4, 2) := by decide +kernel
theorem dX12_wordTo_71 : decode cX12_wordTo 71 = .ok (.goto 4, 3) := by decide +kernel
theorem dX12_wordTo_74 : decode cX12_wordTo 74 = .ok (.iconst (-1), 1) := by decide +kernel
theorem dX12_wordTo_75 : decode cX12_wordTo 75 = .ok (.ireturn, 1) := by decide +kernel
def F_X12_wordTo_verbBytes (p1 : Int32) (p2 : Int32) (σ : MS) : MR :=
  if p2 < 0 ∨ 8000 ≤ p2.toNatClampNeg then none else
  bnd ((if (σ.2 12 p2.toNatClampNeg) < 9 then (σ.2 12 p2.toNatClampNeg) else 9)) fun (x_3 : Int32) =>
  loopF (fun (again_6 : (Int32 × Int32 × MS) → MR) (s_5 : Int32 × Int32 × MS) => (
    if x_3 ≤ s_5.2.1 then (
      if s_5.1 = 0 then (
        some ((-1), s_5.2.2)
      ) else (
        some (x_3, s_5.2.2)
      )
    ) else (
      bnd (((12 * p2) + s_5.2.1)) fun (x_15 : Int32) =>
      if x_15 < 0 ∨ 96000 ≤ x_15.toNatClampNeg then none else
      bnd ((s_5.2.2.2 11 x_15.toNatClampNeg)) fun (x_19 : Int32) =>
      if (p1 + s_5.2.1) < 0 ∨ 5490 ≤ (p1 + s_5.2.1).toNatClampNeg then none else
      bnd (mA s_5.2.2 57 (upd (s_5.2.2.2 57) (p1 + s_5.2.1).toNatClampNeg (vp_nar .byte x_19))) fun σ_23 =>
      bnd ((p1 + s_5.2.1)) fun (x_25 : Int32) =>
      if x_25 < 0 ∨ 5490 ≤ x_25.toNatClampNeg then none else
      (F_X12_small (σ_23.2 57 x_25.toNatClampNeg) σ_23).bind fun u_29 =>
      bnd ((s_5.1 &&& u_29.1)) fun (x_31 : Int32) =>
      bnd (s_5.2.1 + 1) fun (x_33 : Int32) =>
      again_6 (x_31, x_33, u_29.2)
    )
  )) FU (1, 0, σ)
set_option maxHeartbeats 4000000 in
set_option maxRecDepth 100000 in
theorem m_X12_wordTo_verbBytes (l : Launch) (dC : Nat → ClassId) (dI : Nat → Nat → Nat) (cB cC cI cJ cZ cP : ClassId) (h qK qS : Nat) (ad : Nat → Nat) (hDD : mDis cB cI cZ h qK qS ad) (sz : Nat)  (p1 : Int32) (p2 : Int32) (σ : MS) (res : Int32 × MS) (hF : F_X12_wordTo_verbBytes p1 p2 σ = some res) : Met l yX12_wordTo (g_ws yX12_wordTo cX12_wordTo 7 (some .int)) ({ frames := 2, cells := 0, slots := 0, locals := 60 }) (va_Pc [.ref h, .ref (ad 57), .int p1, .int p2] (m_B (dC, dI) [(cB, .byte), (cC, .char), (cI, .int), (cJ, .long), (cZ, .boolean), (cP, .object "StoryHouse$Play")] sz h ad qK qS (mW cB cI cZ h qK qS ad σ) g_0)) (va_Qi (fun r (_ : Unit) => r = res.1) (fun _ t => va_P (dC, dI) vwCl (mW cB cI cZ h qK qS ad res.2) t.heap) (mCells h ad sz)) 0 0 (mCells h ad sz) := by
  refine Met.ofW (cc := cX12_wordTo) (maxL := 7) (ret := (some .int)) (by decide) rfl ?_
  intro p e s m args below meth c s₁ B hml hv
  obtain ⟨rfl, hsz, hP, hK, hE, hKS, hX⟩ := hv
  have hx := B.exec
  have hb := B.bytes
  have hr := B.returns
  have hts0 := atoms_spec (ws := g_ws yX12_wordTo cX12_wordTo 7 (some .int)) B.pre
  have hts : ∀ w ∈ lw_good, w.before ([.ref h, .ref (ad 57), .int p1, .int p2] : List Value).toArray s = true := fun w z => hts0 w (List.mem_cons_of_mem _ z)
  have hown : s.vm.findClass RX12 = some m.cls := findClass_of_methodNamed B.named
  have hlocks := B.notSynchronized
  have hS : va_S (mCells h ad sz) s.heap s.heap [] := va_S.rf
  have hl := lv_entry ([.ref h, .ref (ad 57), .int p1, .int p2]) (n := 7) (Nat.le_of_ble_eq_true rfl)
  rw [lg_entry_eq]
  generalize (lg_sl ([.ref h, .ref (ad 57), .int p1, .int p2]) ++ List.replicate (7 - (lg_sl ([.ref h, .ref (ad 57), .int p1, .int p2])).length) Slot.unset).toArray = ls at hl ⊢
  have hl : lv_has ls 7 [(0, .ref h), (1, .ref (ad 57)), (2, .int p1), (3, .int p2)] := hl
  unfold F_X12_wordTo_verbBytes at hF
  refine lv_bipush (v := 9) hx hb dX12_wordTo_0 (by decide +kernel) ?_
  refine lv_aload_n hx hb dX12_wordTo_2 rfl (lv_at hl 0 rfl) ?_
  refine va_get (D := (dC, dI)) (ci := 12) (v := .ref (ad 12)) (C := RX12) (T := TX12) (N := 123) hx hb hts ii_X12 hown hK hP 0 rfl rfl 12 (by decide) (hts (.fieldLink RX12 41 "StoryHouseModel" "nameSize" "[I") wq_1368) (fun _ h9 => h9) rfl dX12_wordTo_3 ?_
  refine lv_iload_n hx hb dX12_wordTo_6 rfl (lv_at hl 3 rfl) ?_
  obtain ⟨g_1, hF_2⟩ := nif_e hF
  clear hF
  refine va_iald (f := σ.2 12) hx hb hK hP 7 2 rfl rfl g_1 dX12_wordTo_7 ?_
  refine va_mmin hx hb (hml.trans hl.1.symm) hown (hts (.methodLink RX12 293 yJ9_min_7cf53) wq_1520) (hts (.static yJ9_min_7cf53) wq_331) (hts (.initialized RJ9) wq_19) (hts (.code yJ9_min_7cf53 cJ9_min_7cf53 2 (some .int)) wq_332) (Nat.le_of_ble_eq_true rfl) (Nat.le_of_ble_eq_true rfl) (Nat.le_of_ble_eq_true rfl) (Nat.le_of_ble_eq_true rfl) dX12_wordTo_8 ?_
  obtain ⟨x_3, ex_3, hF_4⟩ := bnd_e hF_2
  clear hF_2
  refine m_top ex_3 ?_
  refine lv_istore (lv' := [(4, .int x_3), (0, .ref h), (1, .ref (ad 57)), (2, .int p1), (3, .int p2)]) hx hb dX12_wordTo_11 hl (by decide) rfl (fun ls hl => ?_)
  refine lv_iconst (v := 1) hx hb dX12_wordTo_13 (by decide +kernel) ?_
  refine lv_istore (lv' := [(5, .int 1), (4, .int x_3), (0, .ref h), (1, .ref (ad 57)), (2, .int p1), (3, .int p2)]) hx hb dX12_wordTo_14 hl (by decide) rfl (fun ls hl => ?_)
  refine lv_iconst (v := 0) hx hb dX12_wordTo_16 (by decide +kernel) ?_
  refine lv_istore (lv' := [(6, .int 0), (5, .int 1), (4, .int x_3), (0, .ref h), (1, .ref (ad 57)), (2, .int p1), (3, .int p2)]) hx hb dX12_wordTo_17 hl (by decide) rfl (fun ls hl => ?_)
  refine loopF_ind (P := fun (s_5 : Int32 × Int32 × MS) => ∀ (H : Heap) (locs : List Loc), va_P (dC, dI) vwCl (mW cB cI cZ h qK qS ad s_5.2.2) H → va_S (mCells h ad sz) s.heap H locs → ∀ ls : Array Slot, lv_has ls 7 [(0, .ref h), (1, .ref (ad 57)), (2, .int p1), (3, .int p2), (4, .int x_3), (5, .int s_5.1), (6, .int s_5.2.1)] → W p l e (headSpec (g_ws yX12_wordTo cX12_wordTo 7 (some .int)) { frames := 2, cells := 0, slots := 0, locals := 60 }).room s m ([.ref h, .ref (ad 57), .int p1, .int p2] : List Value).toArray below meth c H locs 0 0 (MQ below (va_Qi (fun r (_ : Unit) => r = res.1) (fun _ t => va_P (dC, dI) vwCl (mW cB cI cZ h qK qS ad res.2) t.heap) (mCells h ad sz)) ([.ref h, .ref (ad 57), .int p1, .int p2] : List Value).toArray s 0 0 (mCells h ad sz)) (F0 m 19 ls [])) ?_ _ _ hF_4 _ _ hP hS ls (lv_sub hl [3, 4, 5, 6, 2, 1, 0] rfl)
  intro again_6 s_5 ih_7 hF_8
  intro H locs hP hS ls hl
  refine lv_iload hx hb dX12_wordTo_19 (lv_at hl 6 rfl) ?_
  refine lv_iload hx hb dX12_wordTo_21 (lv_at hl 4 rfl) ?_
  refine lv_icmp_ge (tgt := 64) hx hb dX12_wordTo_23 (by decide) (fun c_9 => ?_) (fun c_9 => ?_)
  · have hF_10 := ipos c_9 hF_8
    clear hF_8
    refine lv_iload hx hb dX12_wordTo_64 (lv_at hl 5 rfl) ?_
    refine lv_if_eq (tgt := 74) hx hb dX12_wordTo_66 (by decide) (fun c_11 => ?_) (fun c_11 => ?_)
    · have hF_12 := ipos c_11 hF_10
      clear hF_10
      refine lv_iconst (v := (-1)) hx hb dX12_wordTo_74 (by decide +kernel) ?_
      have h9 := Option.some.inj hF_12
      subst h9
      exact W.iret (v := (-1)) hx hb hr (fun t ht hW => ⟨⟨(-1), (), rfl, rfl, m_end ht hP⟩, hS.F ht⟩) hS.2.2 dX12_wordTo_75
    · have hF_13 := ineg c_11 hF_10
      clear hF_10
      refine lv_iload hx hb dX12_wordTo_69 (lv_at hl 4 rfl) ?_
      refine lv_goto (tgt := 75) hx hb dX12_wordTo_71 (by decide) ?_
      have h9 := Option.some.inj hF_13
      subst h9
      exact W.iret (v := x_3) hx hb hr (fun t ht hW => ⟨⟨x_3, (), rfl, rfl, m_end ht hP⟩, hS.F ht⟩) hS.2.2 dX12_wordTo_75
  · have hF_14 := ineg c_9 hF_8
    clear hF_8
    refine lv_aload_n hx hb dX12_wordTo_26 rfl (lv_at hl 1 rfl) ?_
    refine lv_iload_n hx hb dX12_wordTo_27 rfl (lv_at hl 2 rfl) ?_
    refine lv_iload hx hb dX12_wordTo_28 (lv_at hl 6 rfl) ?_
    refine lv_iadd hx hb dX12_wordTo_30 ?_
    refine lv_aload_n hx hb dX12_wordTo_31 rfl (lv_at hl 0 rfl) ?_
    refine va_get (D := (dC, dI)) (ci := 12) (v := .ref (ad 11)) (C := RX12) (T := TX12) (N := 123) hx hb hts ii_X12 hown hK hP 0 rfl rfl 11 (by decide) (hts (.fieldLink RX12 38 "StoryHouseModel" "nameBytes" "[B") wq_1367) (fun _ h9 => h9) rfl dX12_wordTo_32 ?_
    refine lv_bipush (v := 12) hx hb dX12_wordTo_35 (by decide +kernel) ?_
    refine lv_iload_n hx hb dX12_wordTo_37 rfl (lv_at hl 3 rfl) ?_
    refine lv_imul hx hb dX12_wordTo_38 ?_
    refine lv_iload hx hb dX12_wordTo_39 (lv_at hl 6 rfl) ?_
    refine lv_iadd hx hb dX12_wordTo_41 ?_
    obtain ⟨x_15, ex_15, hF_16⟩ := bnd_e hF_14
    clear hF_14
    refine m_top ex_15 ?_
    obtain ⟨g_17, hF_18⟩ := nif_e hF_16
    clear hF_16
    refine va_bald (f := s_5.2.2.2 11) hx hb hK hP 6 0 rfl rfl g_17 dX12_wordTo_42 ?_
    obtain ⟨x_19, ex_19, hF_20⟩ := bnd_e hF_18
    clear hF_18
    refine m_top ex_19 ?_
    obtain ⟨g_21, hF_22⟩ := nif_e hF_20
    clear hF_20
    obtain ⟨σ_23, eσ_23, hF_24⟩ := bnd_e hF_22
    clear hF_22
    refine m_bast (σ' := σ_23) hx hb hK hP (hDD _ _) hS (q0 := 31) (t0 := 0) (f := s_5.2.2.2 57) rfl rfl (by rw [eσ_23]; exact mwA_57) g_21 dX12_wordTo_43 (fun H locs hP hS => ?_)
    refine lv_iload hx hb dX12_wordTo_44 (lv_at hl 5 rfl) ?_
    refine lv_aload_n hx hb dX12_wordTo_46 rfl (lv_at hl 1 rfl) ?_
    refine lv_iload_n hx hb dX12_wordTo_47 rfl (lv_at hl 2 rfl) ?_
    refine lv_iload hx hb dX12_wordTo_48 (lv_at hl 6 rfl) ?_
    refine lv_iadd hx hb dX12_wordTo_50 ?_
    obtain ⟨x_25, ex_25, hF_26⟩ := bnd_e hF_24
    clear hF_24
    refine m_top ex_25 ?_
    obtain ⟨g_27, hF_28⟩ := nif_e hF_26
    clear hF_26
    refine va_bald (f := σ_23.2 57) hx hb hK hP 31 0 rfl rfl g_27 dX12_wordTo_51 ?_
    obtain ⟨u_29, hu_29, hF_30⟩ := Option.bind_eq_some_iff.mp hF_28
    clear hF_28
    refine m_ci hsz hS (va_runS (As := [.int (σ_23.2 57 x_25.toNatClampNeg)]) (rest := [.int s_5.1]) ⟨hx, hb, hml, hown, hts⟩ (m_X12_small l dC dI cB cC cI cJ cZ cP h qK qS ad hDD H.size  (σ_23.2 57 x_25.toNatClampNeg) σ_23 _ hu_29) (va_cwS 1 hts (g_gS wq_1497 wq_1498 wq_13 wq_1499) rfl rfl rfl (by decide +kernel) ⟨Nat.le_of_ble_eq_true rfl, Nat.le_of_ble_eq_true rfl⟩) (m_preS g_bl0 hsz hK hP hS hE hKS g_to0) rfl rfl hl.1 rfl (lv_room (Nat.le_of_ble_eq_true rfl)) dX12_wordTo_52 ⟨Nat.le_of_ble_eq_true rfl, Nat.le_of_ble_eq_true rfl⟩) (fun H locs hP hS => ?_)
    refine lv_iand hx hb dX12_wordTo_55 ?_
    obtain ⟨x_31, ex_31, hF_32⟩ := bnd_e hF_30
    clear hF_30
    refine m_top ex_31 ?_
    refine lv_istore (lv' := [(5, .int x_31), (0, .ref h), (1, .ref (ad 57)), (2, .int p1), (3, .int p2), (4, .int x_3), (6, .int s_5.2.1)]) hx hb dX12_wordTo_56 hl (by decide) rfl (fun ls hl => ?_)
    obtain ⟨x_33, ex_33, hF_34⟩ := bnd_e hF_32
    clear hF_32
    refine lv_iinc (v := x_33) (lv' := [(6, .int x_33), (5, .int x_31), (0, .ref h), (1, .ref (ad 57)), (2, .int p1), (3, .int p2), (4, .int x_3)]) hx hb dX12_wordTo_58 hl (k := 6) rfl (by rw [ex_33]; rfl) (by decide) rfl (fun ls hl => ?_)
    refine lv_goto (tgt := 19) hx hb dX12_wordTo_61 (by decide) ?_
    exact ih_7 (x_31, x_33, u_29.2) hF_34 _ _ hP hS ls (lv_sub hl [2, 3, 4, 5, 6, 1, 0] rfl)
def F_X12_wordTo_between (p1 : Int32) (p2 : Int32) (σ : MS) : MR :=
  if p2 < 0 ∨ 8000 ≤ p2.toNatClampNeg then none else
  bnd ((if (σ.2 12 p2.toNatClampNeg) < 9 then (σ.2 12 p2.toNatClampNeg) else 9)) fun (x_3 : Int32) =>
  loopF (fun (again_6 : (Int32 × Int32 × MS) → MR) (s_5 : Int32 × Int32 × MS) => (
    if x_3 ≤ s_5.2.1 then (
      if s_5.1 = 0 then (
        some ((-1), s_5.2.2)
      ) else (
        some (x_3, s_5.2.2)
      )
    ) else (
      bnd (((12 * p2) + s_5.2.1)) fun (x_15 : Int32) =>
      if x_15 < 0 ∨ 96000 ≤ x_15.toNatClampNeg then none else
      bnd ((s_5.2.2.2 11 x_15.toNatClampNeg)) fun (x_19 : Int32) =>
      if (p1 + s_5.2.1) < 0 ∨ 549 ≤ (p1 + s_5.2.1).toNatClampNeg then none else
      bnd (mA s_5.2.2 61 (upd (s_5.2.2.2 61) (p1 + s_5.2.1).toNatClampNeg (vp_nar .byte x_19))) fun σ_23 =>
      bnd ((p1 + s_5.2.1)) fun (x_25 : Int32) =>
      if x_25 < 0 ∨ 549 ≤ x_25.toNatClampNeg then none else
      (F_X12_small (σ_23.2 61 x_25.toNatClampNeg) σ_23).bind fun u_29 =>
      bnd ((s_5.1 &&& u_29.1)) fun (x_31 : Int32) =>
      bnd (s_5.2.1 + 1) fun (x_33 : Int32) =>
      again_6 (x_31, x_33, u_29.2)
    )
  )) FU (1, 0, σ)
set_option maxHeartbeats 4000000 in
set_option maxRecDepth 100000 in
theorem m_X12_wordTo_between (l : Launch) (dC : Nat → ClassId) (dI : Nat → Nat → Nat) (cB cC cI cJ cZ cP : ClassId) (h qK qS : Nat) (ad : Nat → Nat) (hDD : mDis cB cI cZ h qK qS ad) (sz : Nat)  (p1 : Int32) (p2 : Int32) (σ : MS) (res : Int32 × MS) (hF : F_X12_wordTo_between p1 p2 σ = some res) : Met l yX12_wordTo (g_ws yX12_wordTo cX12_wordTo 7 (some .int)) ({ frames := 2, cells := 0, slots := 0, locals := 60 }) (va_Pc [.ref h, .ref (ad 61), .int p1, .int p2] (m_B (dC, dI) [(cB, .byte), (cC, .char), (cI, .int), (cJ, .long), (cZ, .boolean), (cP, .object "StoryHouse$Play")] sz h ad qK qS (mW cB cI cZ h qK qS ad σ) g_0)) (va_Qi (fun r (_ : Unit) => r = res.1) (fun _ t => va_P (dC, dI) vwCl (mW cB cI cZ h qK qS ad res.2) t.heap) (mCells h ad sz)) 0 0 (mCells h ad sz) := by
  refine Met.ofW (cc := cX12_wordTo) (maxL := 7) (ret := (some .int)) (by decide) rfl ?_
  intro p e s m args below meth c s₁ B hml hv
  obtain ⟨rfl, hsz, hP, hK, hE, hKS, hX⟩ := hv
  have hx := B.exec
  have hb := B.bytes
  have hr := B.returns
  have hts0 := atoms_spec (ws := g_ws yX12_wordTo cX12_wordTo 7 (some .int)) B.pre
  have hts : ∀ w ∈ lw_good, w.before ([.ref h, .ref (ad 61), .int p1, .int p2] : List Value).toArray s = true := fun w z => hts0 w (List.mem_cons_of_mem _ z)
  have hown : s.vm.findClass RX12 = some m.cls := findClass_of_methodNamed B.named
  have hlocks := B.notSynchronized
  have hS : va_S (mCells h ad sz) s.heap s.heap [] := va_S.rf
  have hl := lv_entry ([.ref h, .ref (ad 61), .int p1, .int p2]) (n := 7) (Nat.le_of_ble_eq_true rfl)
  rw [lg_entry_eq]
  generalize (lg_sl ([.ref h, .ref (ad 61), .int p1, .int p2]) ++ List.replicate (7 - (lg_sl ([.ref h, .ref (ad 61), .int p1, .int p2])).length) Slot.unset).toArray = ls at hl ⊢
  have hl : lv_has ls 7 [(0, .ref h), (1, .ref (ad 61)), (2, .int p1), (3, .int p2)] := hl
  unfold F_X12_wordTo_between at hF
  refine lv_bipush (v := 9) hx hb dX12_wordTo_0 (by decide +kernel) ?_
  refine lv_aload_n hx hb dX12_wordTo_2 rfl (lv_at hl 0 rfl) ?_
  refine va_get (D := (dC, dI)) (ci := 12) (v := .ref (ad 12)) (C := RX12) (T := TX12) (N := 123) hx hb hts ii_X12 hown hK hP 0 rfl rfl 12 (by decide) (hts (.fieldLink RX12 41 "StoryHouseModel" "nameSize" "[I") wq_1368) (fun _ h9 => h9) rfl dX12_wordTo_3 ?_
  refine lv_iload_n hx hb dX12_wordTo_6 rfl (lv_at hl 3 rfl) ?_
  obtain ⟨g_1, hF_2⟩ := nif_e hF
  clear hF
  refine va_iald (f := σ.2 12) hx hb hK hP 7 2 rfl rfl g_1 dX12_wordTo_7 ?_
  refine va_mmin hx hb (hml.trans hl.1.symm) hown (hts (.methodLink RX12 293 yJ9_min_7cf53) wq_1520) (hts (.static yJ9_min_7cf53) wq_331) (hts (.initialized RJ9) wq_19) (hts (.code yJ9_min_7cf53 cJ9_min_7cf53 2 (some .int)) wq_332) (Nat.le_of_ble_eq_true rfl) (Nat.le_of_ble_eq_true rfl) (Nat.le_of_ble_eq_true rfl) (Nat.le_of_ble_eq_true rfl) dX12_wordTo_8 ?_
  obtain ⟨x_3, ex_3, hF_4⟩ := bnd_e hF_2
  clear hF_2
  refine m_top ex_3 ?_
  refine lv_istore (lv' := [(4, .int x_3), (0, .ref h), (1, .ref (ad 61)), (2, .int p1), (3, .int p2)]) hx hb dX12_wordTo_11 hl (by decide) rfl (fun ls hl => ?_)
  refine lv_iconst (v := 1) hx hb dX12_wordTo_13 (by decide +kernel) ?_
  refine lv_istore (lv' := [(5, .int 1), (4, .int x_3), (0, .ref h), (1, .ref (ad 61)), (2, .int p1), (3, .int p2)]) hx hb dX12_wordTo_14 hl (by decide) rfl (fun ls hl => ?_)
  refine lv_iconst (v := 0) hx hb dX12_wordTo_16 (by decide +kernel) ?_
  refine lv_istore (lv' := [(6, .int 0), (5, .int 1), (4, .int x_3), (0, .ref h), (1, .ref (ad 61)), (2, .int p1), (3, .int p2)]) hx hb dX12_wordTo_17 hl (by decide) rfl (fun ls hl => ?_)
  refine loopF_ind (P := fun (s_5 : Int32 × Int32 × MS) => ∀ (H : Heap) (locs : List Loc), va_P (dC, dI) vwCl (mW cB cI cZ h qK qS ad s_5.2.2) H → va_S (mCells h ad sz) s.heap H locs → ∀ ls : Array Slot, lv_has ls 7 [(0, .ref h), (1, .ref (ad 61)), (2, .int p1), (3, .int p2), (4, .int x_3), (5, .int s_5.1), (6, .int s_5.2.1)] → W p l e (headSpec (g_ws yX12_wordTo cX12_wordTo 7 (some .int)) { frames := 2, cells := 0, slots := 0, locals := 60 }).room s m ([.ref h, .ref (ad 61), .int p1, .int p2] : List Value).toArray below meth c H locs 0 0 (MQ below (va_Qi (fun r (_ : Unit) => r = res.1) (fun _ t => va_P (dC, dI) vwCl (mW cB cI cZ h qK qS ad res.2) t.heap) (mCells h ad sz)) ([.ref h, .ref (ad 61), .int p1, .int p2] : List Value).toArray s 0 0 (mCells h ad sz)) (F0 m 19 ls [])) ?_ _ _ hF_4 _ _ hP hS ls (lv_sub hl [3, 4, 5, 6, 2, 1, 0] rfl)
  intro again_6 s_5 ih_7 hF_8
  intro H locs hP hS ls hl
  refine lv_iload hx hb dX12_wordTo_19 (lv_at hl 6 rfl) ?_
  refine lv_iload hx hb dX12_wordTo_21 (lv_at hl 4 rfl) ?_
  refine lv_icmp_ge (tgt := 64) hx hb dX12_wordTo_23 (by decide) (fun c_9 => ?_) (fun c_9 => ?_)
  · have hF_10 := ipos c_9 hF_8
    clear hF_8
    refine lv_iload hx hb dX12_wordTo_64 (lv_at hl 5 rfl) ?_
    refine lv_if_eq (tgt := 74) hx hb dX12_wordTo_66 (by decide) (fun c_11 => ?_) (fun c_11 => ?_)
    · have hF_12 := ipos c_11 hF_10
      clear hF_10
      refine lv_iconst (v := (-1)) hx hb dX12_wordTo_74 (by decide +kernel) ?_
      have h9 := Option.some.inj hF_12
      subst h9
      exact W.iret (v := (-1)) hx hb hr (fun t ht hW => ⟨⟨(-1), (), rfl, rfl, m_end ht hP⟩, hS.F ht⟩) hS.2.2 dX12_wordTo_75
    · have hF_13 := ineg c_11 hF_10
      clear hF_10
      refine lv_iload hx hb dX12_wordTo_69 (lv_at hl 4 rfl) ?_
      refine lv_goto (tgt := 75) hx hb dX12_wordTo_71 (by decide) ?_
      have h9 := Option.some.inj hF_13
      subst h9
      exact W.iret (v := x_3) hx hb hr (fun t ht hW => ⟨⟨x_3, (), rfl, rfl, m_end ht hP⟩, hS.F ht⟩) hS.2.2 dX12_wordTo_75
  · have hF_14 := ineg c_9 hF_8
    clear hF_8
    refine lv_aload_n hx hb dX12_wordTo_26 rfl (lv_at hl 1 rfl) ?_
    refine lv_iload_n hx hb dX12_wordTo_27 rfl (lv_at hl 2 rfl) ?_
    refine lv_iload hx hb dX12_wordTo_28 (lv_at hl 6 rfl) ?_
    refine lv_iadd hx hb dX12_wordTo_30 ?_
    refine lv_aload_n hx hb dX12_wordTo_31 rfl (lv_at hl 0 rfl) ?_
    refine va_get (D := (dC, dI)) (ci := 12) (v := .ref (ad 11)) (C := RX12) (T := TX12) (N := 123) hx hb hts ii_X12 hown hK hP 0 rfl rfl 11 (by decide) (hts (.fieldLink RX12 38 "StoryHouseModel" "nameBytes" "[B") wq_1367) (fun _ h9 => h9) rfl dX12_wordTo_32 ?_
    refine lv_bipush (v := 12) hx hb dX12_wordTo_35 (by decide +kernel) ?_
    refine lv_iload_n hx hb dX12_wordTo_37 rfl (lv_at hl 3 rfl) ?_
    refine lv_imul hx hb dX12_wordTo_38 ?_
    refine lv_iload hx hb dX12_wordTo_39 (lv_at hl 6 rfl) ?_
    refine lv_iadd hx hb dX12_wordTo_41 ?_
    obtain ⟨x_15, ex_15, hF_16⟩ := bnd_e hF_14
    clear hF_14
    refine m_top ex_15 ?_
    obtain ⟨g_17, hF_18⟩ := nif_e hF_16
    clear hF_16
    refine va_bald (f := s_5.2.2.2 11) hx hb hK hP 6 0 rfl rfl g_17 dX12_wordTo_42 ?_
    obtain ⟨x_19, ex_19, hF_20⟩ := bnd_e hF_18
    clear hF_18
    refine m_top ex_19 ?_
    obtain ⟨g_21, hF_22⟩ := nif_e hF_20
    clear hF_20
    obtain ⟨σ_23, eσ_23, hF_24⟩ := bnd_e hF_22
    clear hF_22
    refine m_bast (σ' := σ_23) hx hb hK hP (hDD _ _) hS (q0 := 35) (t0 := 0) (f := s_5.2.2.2 61) rfl rfl (by rw [eσ_23]; exact mwA_61) g_21 dX12_wordTo_43 (fun H locs hP hS => ?_)
    refine lv_iload hx hb dX12_wordTo_44 (lv_at hl 5 rfl) ?_
    refine lv_aload_n hx hb dX12_wordTo_46 rfl (lv_at hl 1 rfl) ?_
    refine lv_iload_n hx hb dX12_wordTo_47 rfl (lv_at hl 2 rfl) ?_
    refine lv_iload hx hb dX12_wordTo_48 (lv_at hl 6 rfl) ?_
    refine lv_iadd hx hb dX12_wordTo_50 ?_
    obtain ⟨x_25, ex_25, hF_26⟩ := bnd_e hF_24
    clear hF_24
    refine m_top ex_25 ?_
    obtain ⟨g_27, hF_28⟩ := nif_e hF_26
    clear hF_26
    refine va_bald (f := σ_23.2 61) hx hb hK hP 35 0 rfl rfl g_27 dX12_wordTo_51 ?_
    obtain ⟨u_29, hu_29, hF_30⟩ := Option.bind_eq_some_iff.mp hF_28
    clear hF_28
    refine m_ci hsz hS (va_runS (As := [.int (σ_23.2 61 x_25.toNatClampNeg)]) (rest := [.int s_5.1]) ⟨hx, hb, hml, hown, hts⟩ (m_X12_small l dC dI cB cC cI cJ cZ cP h qK qS ad hDD H.size  (σ_23.2 61 x_25.toNatClampNeg) σ_23 _ hu_29) (va_cwS 1 hts (g_gS wq_1497 wq_1498 wq_13 wq_1499) rfl rfl rfl (by decide +kernel) ⟨Nat.le_of_ble_eq_true rfl, Nat.le_of_ble_eq_true rfl⟩) (m_preS g_bl0 hsz hK hP hS hE hKS g_to0) rfl rfl hl.1 rfl (lv_room (Nat.le_of_ble_eq_true rfl)) dX12_wordTo_52 ⟨Nat.le_of_ble_eq_true rfl, Nat.le_of_ble_eq_true rfl⟩) (fun H locs hP hS => ?_)
    refine lv_iand hx hb dX12_wordTo_55 ?_
    obtain ⟨x_31, ex_31, hF_32⟩ := bnd_e hF_30
    clear hF_30
    refine m_top ex_31 ?_
    refine lv_istore (lv' := [(5, .int x_31), (0, .ref h), (1, .ref (ad 61)), (2, .int p1), (3, .int p2), (4, .int x_3), (6, .int s_5.2.1)]) hx hb dX12_wordTo_56 hl (by decide) rfl (fun ls hl => ?_)
    obtain ⟨x_33, ex_33, hF_34⟩ := bnd_e hF_32
    clear hF_32
    refine lv_iinc (v := x_33) (lv' := [(6, .int x_33), (5, .int x_31), (0, .ref h), (1, .ref (ad 61)), (2, .int p1), (3, .int p2), (4, .int x_3)]) hx hb dX12_wordTo_58 hl (k := 6) rfl (by rw [ex_33]; rfl) (by decide) rfl (fun ls hl => ?_)
    refine lv_goto (tgt := 19) hx hb dX12_wordTo_61 (by decide) ?_
    exact ih_7 (x_31, x_33, u_29.2) hF_34 _ _ hP hS ls (lv_sub hl [2, 3, 4, 5, 6, 1, 0] rfl)
def F_X12_wordTo_wordBytes (p1 : Int32) (p2 : Int32) (σ : MS) : MR :=
  if p2 < 0 ∨ 8000 ≤ p2.toNatClampNeg then none else
  bnd ((if (σ.2 12 p2.toNatClampNeg) < 9 then (σ.2 12 p2.toNatClampNeg) else 9)) fun (x_3 : Int32) =>
  loopF (fun (again_6 : (Int32 × Int32 × MS) → MR) (s_5 : Int32 × Int32 × MS) => (
    if x_3 ≤ s_5.2.1 then (
      if s_5.1 = 0 then (
        some ((-1), s_5.2.2)
      ) else (
        some (x_3, s_5.2.2)
      )
    ) else (
      bnd (((12 * p2) + s_5.2.1)) fun (x_15 : Int32) =>
      if x_15 < 0 ∨ 96000 ≤ x_15.toNatClampNeg then none else
      bnd ((s_5.2.2.2 11 x_15.toNatClampNeg)) fun (x_19 : Int32) =>
      if (p1 + s_5.2.1) < 0 ∨ 10890 ≤ (p1 + s_5.2.1).toNatClampNeg then none else
      bnd (mA s_5.2.2 54 (upd (s_5.2.2.2 54) (p1 + s_5.2.1).toNatClampNeg (vp_nar .byte x_19))) fun σ_23 =>
      bnd ((p1 + s_5.2.1)) fun (x_25 : Int32) =>
      if x_25 < 0 ∨ 10890 ≤ x_25.toNatClampNeg then none else
      (F_X12_small (σ_23.2 54 x_25.toNatClampNeg) σ_23).bind fun u_29 =>
      bnd ((s_5.1 &&& u_29.1)) fun (x_31 : Int32) =>
      bnd (s_5.2.1 + 1) fun (x_33 : Int32) =>
      again_6 (x_31, x_33, u_29.2)
    )
  )) FU (1, 0, σ)
set_option maxHeartbeats 4000000 in
set_option maxRecDepth 100000 in
theorem m_X12_wordTo_wordBytes (l : Launch) (dC : Nat → ClassId) (dI : Nat → Nat → Nat) (cB cC cI cJ cZ cP : ClassId) (h qK qS : Nat) (ad : Nat → Nat) (hDD : mDis cB cI cZ h qK qS ad) (sz : Nat)  (p1 : Int32) (p2 : Int32) (σ : MS) (res : Int32 × MS) (hF : F_X12_wordTo_wordBytes p1 p2 σ = some res) : Met l yX12_wordTo (g_ws yX12_wordTo cX12_wordTo 7 (some .int)) ({ frames := 2, cells := 0, slots := 0, locals := 60 }) (va_Pc [.ref h, .ref (ad 54), .int p1, .int p2] (m_B (dC, dI) [(cB, .byte), (cC, .char), (cI, .int), (cJ, .long), (cZ, .boolean), (cP, .object "StoryHouse$Play")] sz h ad qK qS (mW cB cI cZ h qK qS ad σ) g_0)) (va_Qi (fun r (_ : Unit) => r = res.1) (fun _ t => va_P (dC, dI) vwCl (mW cB cI cZ h qK qS ad res.2) t.heap) (mCells h ad sz)) 0 0 (mCells h ad sz) := by
  refine Met.ofW (cc := cX12_wordTo) (maxL := 7) (ret := (some .int)) (by decide) rfl ?_
  intro p e s m args below meth c s₁ B hml hv
  obtain ⟨rfl, hsz, hP, hK, hE, hKS, hX⟩ := hv
  have hx := B.exec
  have hb := B.bytes
  have hr := B.returns
  have hts0 := atoms_spec (ws := g_ws yX12_wordTo cX12_wordTo 7 (some .int)) B.pre
  have hts : ∀ w ∈ lw_good, w.before ([.ref h, .ref (ad 54), .int p1, .int p2] : List Value).toArray s = true := fun w z => hts0 w (List.mem_cons_of_mem _ z)
  have hown : s.vm.findClass RX12 = some m.cls := findClass_of_methodNamed B.named
  have hlocks := B.notSynchronized
  have hS : va_S (mCells h ad sz) s.heap s.heap [] := va_S.rf
  have hl := lv_entry ([.ref h, .ref (ad 54), .int p1, .int p2]) (n := 7) (Nat.le_of_ble_eq_true rfl)
  rw [lg_entry_eq]
  generalize (lg_sl ([.ref h, .ref (ad 54), .int p1, .int p2]) ++ List.replicate (7 - (lg_sl ([.ref h, .ref (ad 54), .int p1, .int p2])).length) Slot.unset).toArray = ls at hl ⊢
  have hl : lv_has ls 7 [(0, .ref h), (1, .ref (ad 54)), (2, .int p1), (3, .int p2)] := hl
  unfold F_X12_wordTo_wordBytes at hF
  refine lv_bipush (v := 9) hx hb dX12_wordTo_0 (by decide +kernel) ?_
  refine lv_aload_n hx hb dX12_wordTo_2 rfl (lv_at hl 0 rfl) ?_
  refine va_get (D := (dC, dI)) (ci := 12) (v := .ref (ad 12)) (C := RX12) (T := TX12) (N := 123) hx hb hts ii_X12 hown hK hP 0 rfl rfl 12 (by decide) (hts (.fieldLink RX12 41 "StoryHouseModel" "nameSize" "[I") wq_1368) (fun _ h9 => h9) rfl dX12_wordTo_3 ?_
  refine lv_iload_n hx hb dX12_wordTo_6 rfl (lv_at hl 3 rfl) ?_
  obtain ⟨g_1, hF_2⟩ := nif_e hF
  clear hF
  refine va_iald (f := σ.2 12) hx hb hK hP 7 2 rfl rfl g_1 dX12_wordTo_7 ?_
  refine va_mmin hx hb (hml.trans hl.1.symm) hown (hts (.methodLink RX12 293 yJ9_min_7cf53) wq_1520) (hts (.static yJ9_min_7cf53) wq_331) (hts (.initialized RJ9) wq_19) (hts (.code yJ9_min_7cf53 cJ9_min_7cf53 2 (some .int)) wq_332) (Nat.le_of_ble_eq_true rfl) (Nat.le_of_ble_eq_true rfl) (Nat.le_of_ble_eq_true rfl) (Nat.le_of_ble_eq_true rfl) dX12_wordTo_8 ?_
  obtain ⟨x_3, ex_3, hF_4⟩ := bnd_e hF_2
  clear hF_2
  refine m_top ex_3 ?_
  refine lv_istore (lv' := [(4, .int x_3), (0, .ref h), (1, .ref (ad 54)), (2, .int p1), (3, .int p2)]) hx hb dX12_wordTo_11 hl (by decide) rfl (fun ls hl => ?_)
  refine lv_iconst (v := 1) hx hb dX12_wordTo_13 (by decide +kernel) ?_
  refine lv_istore (lv' := [(5, .int 1), (4, .int x_3), (0, .ref h), (1, .ref (ad 54)), (2, .int p1), (3, .int p2)]) hx hb dX12_wordTo_14 hl (by decide) rfl (fun ls hl => ?_)
  refine lv_iconst (v := 0) hx hb dX12_wordTo_16 (by decide +kernel) ?_
  refine lv_istore (lv' := [(6, .int 0), (5, .int 1), (4, .int x_3), (0, .ref h), (1, .ref (ad 54)), (2, .int p1), (3, .int p2)]) hx hb dX12_wordTo_17 hl (by decide) rfl (fun ls hl => ?_)
  refine loopF_ind (P := fun (s_5 : Int32 × Int32 × MS) => ∀ (H : Heap) (locs : List Loc), va_P (dC, dI) vwCl (mW cB cI cZ h qK qS ad s_5.2.2) H → va_S (mCells h ad sz) s.heap H locs → ∀ ls : Array Slot, lv_has ls 7 [(0, .ref h), (1, .ref (ad 54)), (2, .int p1), (3, .int p2), (4, .int x_3), (5, .int s_5.1), (6, .int s_5.2.1)] → W p l e (headSpec (g_ws yX12_wordTo cX12_wordTo 7 (some .int)) { frames := 2, cells := 0, slots := 0, locals := 60 }).room s m ([.ref h, .ref (ad 54), .int p1, .int p2] : List Value).toArray below meth c H locs 0 0 (MQ below (va_Qi (fun r (_ : Unit) => r = res.1) (fun _ t => va_P (dC, dI) vwCl (mW cB cI cZ h qK qS ad res.2) t.heap) (mCells h ad sz)) ([.ref h, .ref (ad 54), .int p1, .int p2] : List Value).toArray s 0 0 (mCells h ad sz)) (F0 m 19 ls [])) ?_ _ _ hF_4 _ _ hP hS ls (lv_sub hl [3, 4, 5, 6, 2, 1, 0] rfl)
  intro again_6 s_5 ih_7 hF_8
  intro H locs hP hS ls hl
  refine lv_iload hx hb dX12_wordTo_19 (lv_at hl 6 rfl) ?_
  refine lv_iload hx hb dX12_wordTo_21 (lv_at hl 4 rfl) ?_
  refine lv_icmp_ge (tgt := 64) hx hb dX12_wordTo_23 (by decide) (fun c_9 => ?_) (fun c_9 => ?_)
  · have hF_10 := ipos c_9 hF_8
    clear hF_8
    refine lv_iload hx hb dX12_wordTo_64 (lv_at hl 5 rfl) ?_
    refine lv_if_eq (tgt := 74) hx hb dX12_wordTo_66 (by decide) (fun c_11 => ?_) (fun c_11 => ?_)
    · have hF_12 := ipos c_11 hF_10
      clear hF_10
      refine lv_iconst (v := (-1)) hx hb dX12_wordTo_74 (by decide +kernel) ?_
      have h9 := Option.some.inj hF_12
      subst h9
      exact W.iret (v := (-1)) hx hb hr (fun t ht hW => ⟨⟨(-1), (), rfl, rfl, m_end ht hP⟩, hS.F ht⟩) hS.2.2 dX12_wordTo_75
    · have hF_13 := ineg c_11 hF_10
      clear hF_10
      refine lv_iload hx hb dX12_wordTo_69 (lv_at hl 4 rfl) ?_
      refine lv_goto (tgt := 75) hx hb dX12_wordTo_71 (by decide) ?_
      have h9 := Option.some.inj hF_13
      subst h9
      exact W.iret (v := x_3) hx hb hr (fun t ht hW => ⟨⟨x_3, (), rfl, rfl, m_end ht hP⟩, hS.F ht⟩) hS.2.2 dX12_wordTo_75
  · have hF_14 := ineg c_9 hF_8
    clear hF_8
    refine lv_aload_n hx hb dX12_wordTo_26 rfl (lv_at hl 1 rfl) ?_
    refine lv_iload_n hx hb dX12_wordTo_27 rfl (lv_at hl 2 rfl) ?_
    refine lv_iload hx hb dX12_wordTo_28 (lv_at hl 6 rfl) ?_
    refine lv_iadd hx hb dX12_wordTo_30 ?_
    refine lv_aload_n hx hb dX12_wordTo_31 rfl (lv_at hl 0 rfl) ?_
    refine va_get (D := (dC, dI)) (ci := 12) (v := .ref (ad 11)) (C := RX12) (T := TX12) (N := 123) hx hb hts ii_X12 hown hK hP 0 rfl rfl 11 (by decide) (hts (.fieldLink RX12 38 "StoryHouseModel" "nameBytes" "[B") wq_1367) (fun _ h9 => h9) rfl dX12_wordTo_32 ?_
    refine lv_bipush (v := 12) hx hb dX12_wordTo_35 (by decide +kernel) ?_
    refine lv_iload_n hx hb dX12_wordTo_37 rfl (lv_at hl 3 rfl) ?_
    refine lv_imul hx hb dX12_wordTo_38 ?_
    refine lv_iload hx hb dX12_wordTo_39 (lv_at hl 6 rfl) ?_
    refine lv_iadd hx hb dX12_wordTo_41 ?_
    obtain ⟨x_15, ex_15, hF_16⟩ := bnd_e hF_14
    clear hF_14
    refine m_top ex_15 ?_
    obtain ⟨g_17, hF_18⟩ := nif_e hF_16
    clear hF_16
    refine va_bald (f := s_5.2.2.2 11) hx hb hK hP 6 0 rfl rfl g_17 dX12_wordTo_42 ?_
    obtain ⟨x_19, ex_19, hF_20⟩ := bnd_e hF_18
    clear hF_18
    refine m_top ex_19 ?_
    obtain ⟨g_21, hF_22⟩ := nif_e hF_20
    clear hF_20
    obtain ⟨σ_23, eσ_23, hF_24⟩ := bnd_e hF_22
    clear hF_22
    refine m_bast (σ' := σ_23) hx hb hK hP (hDD _ _) hS (q0 := 28) (t0 := 0) (f := s_5.2.2.2 54) rfl rfl (by rw [eσ_23]; exact mwA_54) g_21 dX12_wordTo_43 (fun H locs hP hS => ?_)
    refine lv_iload hx hb dX12_wordTo_44 (lv_at hl 5 rfl) ?_
    refine lv_aload_n hx hb dX12_wordTo_46 rfl (lv_at hl 1 rfl) ?_
    refine lv_iload_n hx hb dX12_wordTo_47 rfl (lv_at hl 2 rfl) ?_
    refine lv_iload hx hb dX12_wordTo_48 (lv_at hl 6 rfl) ?_
    refine lv_iadd hx hb dX12_wordTo_50 ?_
    obtain ⟨x_25, ex_25, hF_26⟩ := bnd_e hF_24
    clear hF_24
    refine m_top ex_25 ?_
    obtain ⟨g_27, hF_28⟩ := nif_e hF_26
    clear hF_26
    refine va_bald (f := σ_23.2 54) hx hb hK hP 28 0 rfl rfl g_27 dX12_wordTo_51 ?_
    obtain ⟨u_29, hu_29, hF_30⟩ := Option.bind_eq_some_iff.mp hF_28
    clear hF_28
    refine m_ci hsz hS (va_runS (As := [.int (σ_23.2 54 x_25.toNatClampNeg)]) (rest := [.int s_5.1]) ⟨hx, hb, hml, hown, hts⟩ (m_X12_small l dC dI cB cC cI cJ cZ cP h qK qS ad hDD H.size  (σ_23.2 54 x_25.toNatClampNeg) σ_23 _ hu_29) (va_cwS 1 hts (g_gS wq_1497 wq_1498 wq_13 wq_1499) rfl rfl rfl (by decide +kernel) ⟨Nat.le_of_ble_eq_true rfl, Nat.le_of_ble_eq_true rfl⟩) (m_preS g_bl0 hsz hK hP hS hE hKS g_to0) rfl rfl hl.1 rfl (lv_room (Nat.le_of_ble_eq_true rfl)) dX12_wordTo_52 ⟨Nat.le_of_ble_eq_true rfl, Nat.le_of_ble_eq_true rfl⟩) (fun H locs hP hS => ?_)
    refine lv_iand hx hb dX12_wordTo_55 ?_
    obtain ⟨x_31, ex_31, hF_32⟩ := bnd_e hF_30
    clear hF_30
    refine m_top ex_31 ?_
    refine lv_istore (lv' := [(5, .int x_31), (0, .ref h), (1, .ref (ad 54)), (2, .int p1), (3, .int p2), (4, .int x_3), (6, .int s_5.2.1)]) hx hb dX12_wordTo_56 hl (by decide) rfl (fun ls hl => ?_)
    obtain ⟨x_33, ex_33, hF_34⟩ := bnd_e hF_32
    clear hF_32
    refine lv_iinc (v := x_33) (lv' := [(6, .int x_33), (5, .int x_31), (0, .ref h), (1, .ref (ad 54)), (2, .int p1), (3, .int p2), (4, .int x_3)]) hx hb dX12_wordTo_58 hl (k := 6) rfl (by rw [ex_33]; rfl) (by decide) rfl (fun ls hl => ?_)
    refine lv_goto (tgt := 19) hx hb dX12_wordTo_61 (by decide) ?_
    exact ih_7 (x_31, x_33, u_29.2) hF_34 _ _ hP hS ls (lv_sub hl [2, 3, 4, 5, 6, 1, 0] rfl)
theorem dX12_layPlace_0 : decode cX12_layPlace 0 = .ok (.aload_n 0, 1) := by decide +kernel
theorem dX12_layPlace_1 : decode cX12_layPlace 1 = .ok (.getfield 85, 3) := by decide +kernel
theorem dX12_layPlace_4 : decode cX12_layPlace 4 = .ok (.iload_n 2, 1) := by decide +kernel
theorem dX12_layPlace_5 : decode cX12_layPlace 5 = .ok (.aload_n 0, 1) := by decide +kernel
theorem dX12_layPlace_6 : decode cX12_layPlace 6 = .ok (.getfield 52, 3) := by decide +kernel
theorem dX12_layPlace_9 : decode cX12_layPlace 9 = .ok (.aload_n 0, 1) := by decide +kernel
theorem dX12_layPlace_10 : decode cX12_layPlace 10 = .ok (.getfield 61, 3) := by decide +kernel
theorem dX12_layPlace_13 : decode cX12_layPlace 13 = .ok (.iload_n 1, 1) := by decide +kernel
theorem dX12_layPlace_14 : decode cX12_layPlace 14 = .ok (.iaload, 1) := by decide +kernel
theorem dX12_layPlace_15 : decode cX12_layPlace 15 = .ok (.iaload, 1) := by decide +kernel
theorem dX12_layPlace_16 : decode cX12_layPlace 16 = .ok (.iconst 1, 1) := by decide +kernel
theorem dX12_layPlace_17 : decode cX12_layPlace 17 = .ok (.iadd, 1) := by decide +kernel
theorem dX12_layPlace_18 : decode cX12_layPlace 18 = .ok (.iastore, 1) := by decide +kernel
theorem dX12_layPlace_19 : decode cX12_layPlace 19 = .ok (.aload_n 0, 1) := by decide +kernel
theorem dX12_layPlace_20 : decode cX12_layPlace 20 = .ok (.getfield 88, 3) := by decide +kernel
theorem dX12_layPlace_23 : decode cX12_layPlace 23 = .ok (.iload_n 2, 1) := by decide +kernel
theorem dX12_layPlace_24 : decode cX12_layPlace 24 = .ok (.aload_n 0, 1) := by decide +kernel
theorem dX12_layPlace_25 : decode cX12_layPlace 25 = .ok (.getfield 58, 3) := by decide +kernel
theorem dX12_layPlace_28 : decode cX12_layPlace 28 = .ok (.aload_n 0, 1) := by decide +kernel
theorem dX12_layPlace_29 : decode cX12_layPlace 29 = .ok (.getfield 61, 3) := by decide +kernel
theorem dX12_layPlace_32 : decode cX12_layPlace 32 = .ok (.iload_n 1, 1) := by decide +kernel
theorem dX12_layPlace_33 : decode cX12_layPlace 33 = .ok (.iaload, 1) := by decide +kernel
theorem dX12_layPlace_34 : decode cX12_layPlace 34 = .ok (.iaload, 1) := by decide +kernel
theorem dX12_layPlace_35 : decode cX12_layPlace 35 = .ok (.iastore, 1) := by decide +kernel
theorem dX12_layPlace_36 : decode cX12_layPlace 36 = .ok (.aload_n 0, 1) := by decide +kernel
theorem dX12_layPlace_37 : decode cX12_layPlace 37 = .ok (.getfield 97, 3) := by decide +kernel
theorem dX12_layPlace_40 : decode cX12_layPlace 40 = .ok (.iload_n 2, 1) := by decide +kernel
theorem dX12_layPlace_41 : decode cX12_layPlace 41 = .ok (.aload_n 0, 1) := by decide +kernel
theorem dX12_layPlace_42 : decode cX12_layPlace 42 = .ok (.getfield 49, 3) := by decide +kernel
theorem dX12_layPlace_45 : decode cX12_layPlace 45 = .ok (.iload_n 1, 1) := by decide +kernel
theorem dX12_layPlace_46 : decode cX12_layPlace 46 = .ok (.iaload, 1) := by decide +kernel
theorem dX12_layPlace_47 : decode cX12_layPlace 47 = .ok (.iconst 1, 1) := by decide +kernel
theorem dX12_layPlace_48 : decode cX12_layPlace 48 = .ok (.if_icmp .ne 7, 3) := by decide +kernel
theorem dX12_layPlace_51 : decode cX12_layPlace 51 = .ok (.iconst 1, 1) := by decide +kernel
theorem dX12_layPlace_52 : decode cX12_layPlace 52 = .ok (.goto 4, 3) := by decide +kernel
theorem dX12_layPlace_55 : decode cX12_layPlace 55 = .ok (.iconst 0, 1) := by decide +kernel
theorem dX12_layPlace_56 : decode cX12_layPlace 56 = .ok (.bastore, 1) := by decide +kernel
theorem dX12_layPlace_57 : decode cX12_layPlace 57 = .ok (.aload_n 0, 1) := by decide +kernel
theorem dX12_layPlace_58 : decode cX12_layPlace 58 = .ok (.getfield 97, 3) := by decide +kernel
theorem dX12_layPlace_61 : decode cX12_layPlace 61 = .ok (.iload_n 2, 1) := by decide +kernel
theorem dX12_layPlace_62 : decode cX12_layPlace 62 = .ok (.baload, 1) := by decide +kernel
theorem dX12_layPlace_63 : decode cX12_layPlace 63 = .ok (.ifCond .eq 15, 3) := by decide +kernel
theorem dX12_layPlace_66 : decode cX12_layPlace 66 = .ok (.aload_n 0, 1) := by decide +kernel
theorem dX12_layPlace_67 : decode cX12_layPlace 67 = .ok (.getfield 621, 3) := by decide +kernel
theorem dX12_layPlace_70 : decode cX12_layPlace 70 = .ok (.ifCond .ne 8, 3) := by decide +kernel
theorem dX12_layPlace_73 : decode cX12_layPlace 73 = .ok (.aload_n 0, 1) := by decide +kernel
theorem dX12_layPlace_74 : decode cX12_layPlace 74 = .ok (.iload_n 2, 1) := by decide +kernel
theorem dX12_layPlace_75 : decode cX12_layPlace 75 = .ok (.putfield 621, 3) := by decide +kernel
theorem dX12_layPlace_78 : decode cX12_layPlace 78 = .ok (.aload_n 0, 1) := by decide +kernel
theorem dX12_layPlace_79 : decode cX12_layPlace 79 = .ok (.getfield 97, 3) := by decide +kernel
theorem dX12_layPlace_82 : decode cX12_layPlace 82 = .ok (.iload_n 2, 1) := by decide +kernel
theorem dX12_layPlace_83 : decode cX12_layPlace 83 = .ok (.baload, 1) := by decide +kernel
theorem dX12_layPlace_84 : decode cX12_layPlace 84 = .ok (.ifCond .ne 14, 3) := by decide +kernel
theorem dX12_layPlace_87 : decode cX12_layPlace 87 = .ok (.aload_n 0, 1) := by decide +kernel
theorem dX12_layPlace_88 : decode cX12_layPlace 88 = .ok (.getfield 104, 3) := by decide +kernel
theorem dX12_layPlace_91 : decode cX12_layPlace 91 = .ok (.iload_n 2, 1) := by decide +kernel
theorem dX12_layPlace_92 : decode cX12_layPlace 92 = .ok (.aload_n 0, 1) := by decide +kernel
theorem dX12_layPlace_93 : decode cX12_layPlace 93 = .ok (.iload_n 1, 1) := by decide +kernel
theorem dX12_layPlace_94 : decode cX12_layPlace 94 = .ok (.invokevirtual 590, 3) := by decide +kernel
theorem dX12_layPlace_97 : decode cX12_layPlace 97 = .ok (.iastore, 1) := by decide +kernel
theorem dX12_layPlace_98 : decode cX12_layPlace 98 = .ok (.aload_n 0, 1) := by decide +kernel
theorem dX12_layPlace_99 : decode cX12_layPlace 99 = .ok (.getfield 58, 3) := by decide +kernel
theorem dX12_layPlace_102 : decode cX12_layPlace 102 = .ok (.iload_n 1, 1) := by decide +kernel
theorem dX12_layPlace_103 : decode cX12_layPlace 103 = .ok (.iaload, 1) := by decide +kernel
theorem dX12_layPlace_104 : decode cX12_layPlace 104 = .ok (.istore_n 3, 1) := by decide +kernel
theorem dX12_layPlace_105 : decode cX12_layPlace 105 = .ok (.iload_n 3, 1) := by decide +kernel
theorem dX12_layPlace_106 : decode cX12_layPlace 106 = .ok (.ifCond .lt 237, 3) := by decide +kernel
theorem dX12_layPlace_109 : decode cX12_layPlace 109 = .ok (.aload_n 0, 1) := by decide +kernel
theorem dX12_layPlace_110 : decode cX12_layPlace 110 = .ok (.getfield 49, 3) := by decide +kernel
theorem dX12_layPlace_113 : decode cX12_layPlace 113 = .ok (.iload_n 3, 1) := by decide +kernel
theorem dX12_layPlace_114 : decode cX12_layPlace 114 = .ok (.iaload, 1) := by decide +kernel
theorem dX12_layPlace_115 : decode cX12_layPlace 115 = .ok (.bipush 10, 2) := by decide +kernel
theorem dX12_layPlace_117 : decode cX12_layPlace 117 = .ok (.if_icmp .ne 36, 3) := by decide +kernel
theorem dX12_layPlace_120 : decode cX12_layPlace 120 = .ok (.aload_n 0, 1) := by decide +kernel
theorem dX12_layPlace_121 : decode cX12_layPlace 121 = .ok (.getfield 91, 3) := by decide +kernel
theorem dX12_layPlace_124 : decode cX12_layPlace 124 = .ok (.iload_n 2, 1) := by decide +kernel
theorem dX12_layPlace_125 : decode cX12_layPlace 125 = .ok (.aload_n 0, 1) := by decide +kernel
theorem dX12_layPlace_126 : decode cX12_layPlace 126 = .ok (.getfield 52, 3) := by decide +kernel
theorem dX12_layPlace_129 : decode cX12_layPlace 129 = .ok (.iload_n 3, 1) := by decide +kernel
theorem dX12_layPlace_130 : decode cX12_layPlace 130 = .ok (.iaload, 1) := by decide +kernel
theorem dX12_layPlace_131 : decode cX12_layPlace 131 = .ok (.iconst 1, 1) := by decide +kernel
theorem dX12_layPlace_132 : decode cX12_layPlace 132 = .ok (.iadd, 1) := by decide +kernel
theorem dX12_layPlace_133 : decode cX12_layPlace 133 = .ok (.iastore, 1) := by decide +kernel
theorem dX12_layPlace_134 : decode cX12_layPlace 134 = .ok (.aload_n 0, 1) := by decide +kernel
theorem dX12_layPlace_135 : decode cX12_layPlace 135 = .ok (.getfield 94, 3) := by decide +kernel
theorem dX12_layPlace_138 : decode cX12_layPlace 138 = .ok (.iload_n 2, 1) := by decide +kernel
theorem dX12_layPlace_139 : decode cX12_layPlace 139 = .ok (.aload_n 0, 1) := by decide +kernel
theorem dX12_layPlace_140 : decode cX12_layPlace 140 = .ok (.getfield 58, 3) := by decide +kernel
theorem dX12_layPlace_143 : decode cX12_layPlace 143 = .ok (.iload_n 3, 1) := by decide +kernel
theorem dX12_layPlace_144 : decode cX12_layPlace 144 = .ok (.iaload, 1) := by decide +kernel
theorem dX12_layPlace_145 : decode cX12_layPlace 145 = .ok (.iastore, 1) := by decide +kernel
theorem dX12_layPlace_146 : decode cX12_layPlace 146 = .ok (.aload_n 0, 1) := by decide +kernel
theorem dX12_layPlace_147 : decode cX12_layPlace 147 = .ok (.getfield 237, 3) := by decide +kernel
theorem dX12_layPlace_150 : decode cX12_layPlace 150 = .ok (.iload_n 2, 1) := by decide +kernel
theorem dX12_layPlace_151 : decode cX12_layPlace 151 = .ok (.iconst 1, 1) := by decide +kernel
theorem dX12_layPlace_152 : decode cX12_layPlace 152 = .ok (.bastore, 1) := by decide +kernel
theorem dX12_layPlace_153 : decode cX12_layPlace 153 = .ok (.aload_n 0, 1) := by decide +kernel
theorem dX12_layPlace_154 : decode cX12_layPlace 154 = .ok (.getfield 49, 3) := by decide +kernel
theorem dX12_layPlace_157 : decode cX12_layPlace 157 = .ok (.iload_n 3, 1) := by decide +kernel
theorem dX12_layPlace_158 : decode cX12_layPlace 158 = .ok (.iaload, 1) := by decide +kernel
theorem dX12_layPlace_159 : decode cX12_layPlace 159 = .ok (.bipush 11, 2) := by decide +kernel
theorem dX12_layPlace_161 : decode cX12_layPlace 161 = .ok (.if_icmp .ne 16, 3) := by decide +kernel
theorem dX12_layPlace_164 : decode cX12_layPlace 164 = .ok (.aload_n 0, 1) := by decide +kernel
theorem dX12_layPlace_165 : decode cX12_layPlace 165 = .ok (.getfield 107, 3) := by decide +kernel
theorem dX12_layPlace_168 : decode cX12_layPlace 168 = .ok (.bipush 7, 2) := by decide +kernel
theorem dX12_layPlace_170 : decode cX12_layPlace 170 = .ok (.iload_n 2, 1) := by decide +kernel
theorem dX12_layPlace_171 : decode cX12_layPlace 171 = .ok (.imul, 1) := by decide +kernel
theorem dX12_layPlace_172 : decode cX12_layPlace 172 = .ok (.bipush 6, 2) := by decide +kernel
theorem dX12_layPlace_174 : decode cX12_layPlace 174 = .ok (.iadd, 1) := by decide +kernel
theorem dX12_layPlace_175 : decode cX12_layPlace 175 = .ok (.iconst 1, 1) := by decide +kernel
theorem dX12_layPlace_176 : decode cX12_layPlace 176 = .ok (.bastore, 1) := by decide +kernel
theorem dX12_layPlace_177 : decode cX12_layPlace 177 = .ok (.aload_n 0, 1) := by decide +kernel
theorem dX12_layPlace_178 : decode cX12_layPlace 178 = .ok (.getfield 49, 3) := by decide +kernel
theorem dX12_layPlace_181 : decode cX12_layPlace 181 = .ok (.iload_n 3, 1) := by decide +kernel
theorem dX12_layPlace_182 : decode cX12_layPlace 182 = .ok (.iaload, 1) := by decide +kernel
theorem dX12_layPlace_183 : decode cX12_layPlace 183 = .ok (.bipush 12, 2) := by decide +kernel
theorem dX12_layPlace_185 : decode cX12_layPlace 185 = .ok (.if_icmp .ne 35, 3) := by decide +kernel
theorem dX12_layPlace_188 : decode cX12_layPlace 188 = .ok (.aload_n 0, 1) := by decide +kernel
theorem dX12_layPlace_189 : decode cX12_layPlace 189 = .ok (.getfield 101, 3) := by decide +kernel
theorem dX12_layPlace_192 : decode cX12_layPlace 192 = .ok (.bipush 7, 2) := by decide +kernel
theorem dX12_layPlace_194 : decode cX12_layPlace 194 = .ok (.iload_n 2, 1) := by decide +kernel
theorem dX12_layPlace_195 : decode cX12_layPlace 195 = .ok (.imul, 1) := by decide +kernel
theorem dX12_layPlace_196 : decode cX12_layPlace 196 = .ok (.aload_n 0, 1) := by decide +kernel
theorem dX12_layPlace_197 : decode cX12_layPlace 197 = .ok (.getfield 58, 3) := by decide +kernel
theorem dX12_layPlace_200 : decode cX12_layPlace 200 = .ok (.iload_n 3, 1) := by decide +kernel
theorem dX12_layPlace_201 : decode cX12_layPlace 201 = .ok (.iaload, 1) := by decide +kernel
theorem dX12_layPlace_202 : decode cX12_layPlace 202 = .ok (.iadd, 1) := by decide +kernel
theorem dX12_layPlace_203 : decode cX12_layPlace 203 = .ok (.aload_n 0, 1) := by decide +kernel
theorem dX12_layPlace_204 : decode cX12_layPlace 204 = .ok (.getfield 70, 3) := by decide +kernel
theorem dX12_layPlace_207 : decode cX12_layPlace 207 = .ok (.aload_n 0, 1) := by decide +kernel
theorem dX12_layPlace_208 : decode cX12_layPlace 208 = .ok (.getfield 55, 3) := by decide +kernel
theorem dX12_layPlace_211 : decode cX12_layPlace 211 = .ok (.aload_n 0, 1) := by decide +kernel
theorem dX12_layPlace_212 : decode cX12_layPlace 212 = .ok (.getfield 55, 3) := by decide +kernel
theorem dX12_layPlace_215 : decode cX12_layPlace 215 = .ok (.iload_n 3, 1) := by decide +kernel
theorem dX12_layPlace_216 : decode cX12_layPlace 216 = .ok (.iaload, 1) := by decide +kernel
theorem dX12_layPlace_217 : decode cX12_layPlace 217 = .ok (.iaload, 1) := by decide +kernel
theorem dX12_layPlace_218 : decode cX12_layPlace 218 = .ok (.iaload, 1) := by decide +kernel
theorem dX12_layPlace_219 : decode cX12_layPlace 219 = .ok (.iastore, 1) := by decide +kernel
theorem dX12_layPlace_220 : decode cX12_layPlace 220 = .ok (.aload_n 0, 1) := by decide +kernel
theorem dX12_layPlace_221 : decode cX12_layPlace 221 = .ok (.getfield 49, 3) := by decide +kernel
theorem dX12_layPlace_224 : decode cX12_layPlace 224 = .ok (.iload_n 3, 1) := by decide +kernel
theorem dX12_layPlace_225 : decode cX12_layPlace 225 = .ok (.iaload, 1) := by decide +kernel
theorem dX12_layPlace_226 : decode cX12_layPlace 226 = .ok (.bipush 15, 2) := by decide +kernel
theorem dX12_layPlace_228 : decode cX12_layPlace 228 = .ok (.if_icmp .ne 20, 3) := by decide +kernel
theorem dX12_layPlace_231 : decode cX12_layPlace 231 = .ok (.aload_n 0, 1) := by decide +kernel
theorem dX12_layPlace_232 : decode cX12_layPlace 232 = .ok (.getfield 107, 3) := by decide +kernel
theorem dX12_layPlace_235 : decode cX12_layPlace 235 = .ok (.bipush 7, 2) := by decide +kernel
theorem dX12_layPlace_237 : decode cX12_layPlace 237 = .ok (.iload_n 2, 1) := by decide +kernel
theorem dX12_layPlace_238 : decode cX12_layPlace 238 = .ok (.imul, 1) := by decide +kernel
theorem dX12_layPlace_239 : decode cX12_layPlace 239 = .ok (.aload_n 0, 1) := by decide +kernel
theorem dX12_layPlace_240 : decode cX12_layPlace 240 = .ok (.getfield 58, 3) := by decide +kernel
theorem dX12_layPlace_243 : decode cX12_layPlace 243 = .ok (.iload_n 3, 1) := by decide +kernel
theorem dX12_layPlace_244 : decode cX12_layPlace 244 = .ok (.iaload, 1) := by decide +kernel
theorem dX12_layPlace_245 : decode cX12_layPlace 245 = .ok (.iadd, 1) := by decide +kernel
theorem dX12_layPlace_246 : decode cX12_layPlace 246 = .ok (.iconst 1, 1) := by decide +kernel
theorem dX12_layPlace_247 : decode cX12_layPlace 247 = .ok (.bastore, 1) := by decide +kernel
theorem dX12_layPlace_248 : decode cX12_layPlace 248 = .ok (.aload_n 0, 1) := by decide +kernel
theorem dX12_layPlace_249 : decode cX12_layPlace 249 = .ok (.getfield 49, 3) := by decide +kernel
theorem dX12_layPlace_252 : decode cX12_layPlace 252 = .ok (.iload_n 3, 1) := by decide +kernel
theorem dX12_layPlace_253 : decode cX12_layPlace 253 = .ok (.iaload, 1) := by decide +kernel
theorem dX12_layPlace_254 : decode cX12_layPlace 254 = .ok (.bipush 14, 2) := by decide +kernel
theorem dX12_layPlace_256 : decode cX12_layPlace 256 = .ok (.if_icmp .ne 12, 3) := by decide +kernel
theorem dX12_layPlace_259 : decode cX12_layPlace 259 = .ok (.aload_n 0, 1) := by decide +kernel
theorem dX12_layPlace_260 : decode cX12_layPlace 260 = .ok (.getfield 55, 3) := by decide +kernel
theorem dX12_layPlace_263 : decode cX12_layPlace 263 = .ok (.iload_n 3, 1) := by decide +kernel
theorem dX12_layPlace_264 : decode cX12_layPlace 264 = .ok (.iaload, 1) := by decide +kernel
theorem dX12_layPlace_265 : decode cX12_layPlace 265 = .ok (.goto 4, 3) := by decide +kernel
theorem dX12_layPlace_268 : decode cX12_layPlace 268 = .ok (.iconst (-1), 1) := by decide +kernel
theorem dX12_layPlace_269 : decode cX12_layPlace 269 = .ok (.istore 4, 2) := by decide +kernel
theorem dX12_layPlace_271 : decode cX12_layPlace 271 = .ok (.iload 4, 2) := by decide +kernel
theorem dX12_layPlace_273 : decode cX12_layPlace 273 = .ok (.ifCond .lt 60, 3) := by decide +kernel
theorem dX12_layPlace_276 : decode cX12_layPlace 276 = .ok (.bipush 10, 2) := by decide +kernel
theorem dX12_layPlace_278 : decode cX12_layPlace 278 = .ok (.iload_n 2, 1) := by decide +kernel
theorem dX12_layPlace_279 : decode cX12_layPlace 279 = .ok (.imul, 1) := by decide +kernel
theorem dX12_layPlace_280 : decode cX12_layPlace 280 = .ok (.aload_n 0, 1) := by decide +kernel
theorem dX12_layPlace_281 : decode cX12_layPlace 281 = .ok (.getfield 116, 3) := by decide +kernel
theorem dX12_layPlace_284 : decode cX12_layPlace 284 = .ok (.iload_n 2, 1) := by decide +kernel
theorem dX12_layPlace_285 : decode cX12_layPlace 285 = .ok (.dup2, 1) := by decide +kernel
theorem dX12_layPlace_286 : decode cX12_layPlace 286 = .ok (.iaload, 1) := by decide +kernel
theorem dX12_layPlace_287 : decode cX12_layPlace 287 = .ok (.dup_x2, 1) := by decide +kernel
theorem dX12_layPlace_288 : decode cX12_layPlace 288 = .ok (.iconst 1, 1) := by decide +kernel
theorem dX12_layPlace_289 : decode cX12_layPlace 289 = .ok (.iadd, 1) := by decide +kernel
theorem dX12_layPlace_290 : decode cX12_layPlace 290 = .ok (.iastore, 1) := by decide +kernel
theorem dX12_layPlace_291 : decode cX12_layPlace 291 = .ok (.iadd, 1) := by decide +kernel
theorem dX12_layPlace_292 : decode cX12_layPlace 292 = .ok (.istore 5, 2) := by decide +kernel
theorem dX12_layPlace_294 : decode cX12_layPlace 294 = .ok (.aload_n 0, 1) := by decide +kernel
theorem dX12_layPlace_295 : decode cX12_layPlace 295 = .ok (.getfield 113, 3) := by decide +kernel
theorem dX12_layPlace_298 : decode cX12_layPlace 298 = .ok (.iload 5, 2) := by decide +kernel
theorem dX12_layPlace_300 : decode cX12_layPlace 300 = .ok (.aload_n 0, 1) := by decide +kernel
theorem dX12_layPlace_301 : decode cX12_layPlace 301 = .ok (.aload_n 0, 1) := by decide +kernel
theorem dX12_layPlace_302 : decode cX12_layPlace 302 = .ok (.getfield 110, 3) := by decide +kernel
theorem dX12_layPlace_305 : decode cX12_layPlace 305 = .ok (.bipush 9, 2) := by decide +kernel
theorem dX12_layPlace_307 : decode cX12_layPlace 307 = .ok (.iload 5, 2) := by decide +kernel
theorem dX12_layPlace_309 : decode cX12_layPlace 309 = .ok (.imul, 1) := by decide +kernel
theorem dX12_layPlace_310 : decode cX12_layPlace 310 = .ok (.aload_n 0, 1) := by decide +kernel
theorem dX12_layPlace_311 : decode cX12_layPlace 311 = .ok (.getfield 55, 3) := by decide +kernel
theorem dX12_layPlace_314 : decode cX12_layPlace 314 = .ok (.iload 4, 2) := by decide +kernel
theorem dX12_layPlace_316 : decode cX12_layPlace 316 = .ok (.iaload, 1) := by decide +kernel
theorem dX12_layPlace_317 : decode cX12_layPlace 317 = .ok (.invokevirtual 653, 3) := by decide +kernel
theorem dX12_layPlace_320 : decode cX12_layPlace 320 = .ok (.iastore, 1) := by decide +kernel
theorem dX12_layPlace_321 : decode cX12_layPlace 321 = .ok (.aload_n 0, 1) := by decide +kernel
theorem dX12_layPlace_322 : decode cX12_layPlace 322 = .ok (.getfield 64, 3) := by decide +kernel
theorem dX12_layPlace_325 : decode cX12_layPlace 325 = .ok (.iload 4, 2) := by decide +kernel
theorem dX12_layPlace_327 : decode cX12_layPlace 327 = .ok (.iaload, 1) := by decide +kernel
theorem dX12_layPlace_328 : decode cX12_layPlace 328 = .ok (.istore 4, 2) := by decide +kernel
theorem dX12_layPlace_330 : decode cX12_layPlace 330 = .ok (.goto (-59), 3) := by decide +kernel
theorem dX12_layPlace_333 : decode cX12_layPlace 333 = .ok (.aload_n 0, 1) := by decide +kernel
theorem dX12_layPlace_334 : decode cX12_layPlace 334 = .ok (.getfield 64, 3) := by decide +kernel
theorem dX12_layPlace_337 : decode cX12_layPlace 337 = .ok (.iload_n 3, 1) := by decide +kernel
theorem dX12_layPlace_338 : decode cX12_layPlace 338 = .ok (.iaload, 1) := by decide +kernel
theorem dX12_layPlace_339 : decode cX12_layPlace 339 = .ok (.istore_n 3, 1) := by decide +kernel
theorem dX12_layPlace_340 : decode cX12_layPlace 340 = .ok (.goto (-235), 3) := by decide +kernel
theorem dX12_layPlace_343 : decode cX12_layPlace 343 = .ok (.return_, 1) := by decide +kernel
def F_X12_layPlace (p0 : Int32) (p1 : Int32) (σ : MS) : MR :=
  if p0 < 0 ∨ 40000 ≤ p0.toNatClampNeg then none else
  bnd ((σ.2 21 p0.toNatClampNeg)) fun (x_3 : Int32) =>
  if x_3 < 0 ∨ 40000 ≤ x_3.toNatClampNeg then none else
  bnd (((σ.2 18 x_3.toNatClampNeg) + 1)) fun (x_7 : Int32) =>
  if p1 < 0 ∨ 121 ≤ p1.toNatClampNeg then none else
  bnd (mA σ 46 (upd (σ.2 46) p1.toNatClampNeg x_7)) fun σ_11 =>
  if p0 < 0 ∨ 40000 ≤ p0.toNatClampNeg then none else
  bnd ((σ_11.2 21 p0.toNatClampNeg)) fun (x_15 : Int32) =>
  if x_15 < 0 ∨ 40000 ≤ x_15.toNatClampNeg then none else
  if p1 < 0 ∨ 121 ≤ p1.toNatClampNeg then none else
  bnd (mA σ_11 47 (upd (σ_11.2 47) p1.toNatClampNeg (σ_11.2 20 x_15.toNatClampNeg))) fun σ_21 =>
  if p0 < 0 ∨ 40000 ≤ p0.toNatClampNeg then none else
  bnd (fun (t_25 : Int32) (σ_26 : MS) => (
    if p1 < 0 ∨ 121 ≤ p1.toNatClampNeg then none else
    bnd (mA σ_26 50 (upd (σ_26.2 50) p1.toNatClampNeg (vp_nar .boolean t_25))) fun σ_32 =>
    if p1 < 0 ∨ 121 ≤ p1.toNatClampNeg then none else
    bnd (fun  (σ_36 : MS) => (
      if p1 < 0 ∨ 121 ≤ p1.toNatClampNeg then none else
      bnd (fun  (σ_42 : MS) => (
        if p0 < 0 ∨ 40000 ≤ p0.toNatClampNeg then none else
        bnd ((σ_42.2 20 p0.toNatClampNeg)) fun (x_48 : Int32) =>
        loopF (fun (again_51 : (Int32 × MS) → MR) (s_50 : Int32 × MS) => (
          if s_50.1 < 0 then (
            some (0, s_50.2)
          ) else (
            if s_50.1 < 0 ∨ 40000 ≤ s_50.1.toNatClampNeg then none else
            bnd (fun  (σ_59 : MS) => (
              if s_50.1 < 0 ∨ 40000 ≤ s_50.1.toNatClampNeg then none else
              bnd (fun  (σ_65 : MS) => (
                if s_50.1 < 0 ∨ 40000 ≤ s_50.1.toNatClampNeg then none else
                bnd (fun  (σ_71 : MS) => (
                  if s_50.1 < 0 ∨ 40000 ≤ s_50.1.toNatClampNeg then none else
                  bnd (fun  (σ_77 : MS) => (
                    if s_50.1 < 0 ∨ 40000 ≤ s_50.1.toNatClampNeg then none else
                    bnd (fun (t_83 : Int32) (σ_84 : MS) => (
                      loopF (fun (again_89 : (Int32 × MS) → MR) (s_88 : Int32 × MS) => (
                        if s_88.1 < 0 then (
                          if s_50.1 < 0 ∨ 40000 ≤ s_50.1.toNatClampNeg then none else
                          bnd ((s_88.2.2 22 s_50.1.toNatClampNeg)) fun (x_96 : Int32) =>
                          again_51 (x_96, s_88.2)
                        ) else (
                          if p1 < 0 ∨ 121 ≤ p1.toNatClampNeg then none else
                          bnd (((s_88.2.2 56 p1.toNatClampNeg) + 1)) fun (x_101 : Int32) =>
                          if p1 < 0 ∨ 121 ≤ p1.toNatClampNeg then none else
                          bnd (mA s_88.2 56 (upd (s_88.2.2 56) p1.toNatClampNeg x_101)) fun σ_105 =>
                          bnd (((10 * p1) + (s_88.2.2 56 p1.toNatClampNeg))) fun (x_107 : Int32) =>
                          if s_88.1 < 0 ∨ 40000 ≤ s_88.1.toNatClampNeg then none else
                          (F_X12_wordTo_wordBytes (9 * x_107) (σ_105.2 19 s_88.1.toNatClampNeg) σ_105).bind fun u_111 =>
                          if x_107 < 0 ∨ 1210 ≤ x_107.toNatClampNeg then none else
                          bnd (mA u_111.2 55 (upd (u_111.2.2 55) x_107.toNatClampNeg u_111.1)) fun σ_115 =>
                          if s_88.1 < 0 ∨ 40000 ≤ s_88.1.toNatClampNeg then none else
                          bnd ((σ_115.2 22 s_88.1.toNatClampNeg)) fun (x_119 : Int32) =>
                          again_89 (x_119, σ_115)
                        )
                      )) FU (t_83, σ_84)
                    ) : Int32 → MS → MR) fun j_85 =>
                    if (σ_77.2 17 s_50.1.toNatClampNeg) = 14 then (
                      if s_50.1 < 0 ∨ 40000 ≤ s_50.1.toNatClampNeg then none else
                      j_85 (σ_77.2 19 s_50.1.toNatClampNeg) σ_77
                    ) else (
                      j_85 (-1) σ_77
                    )
                  ) : MS → MR) fun j_78 =>
                  if (σ_71.2 17 s_50.1.toNatClampNeg) = 15 then (
                    if s_50.1 < 0 ∨ 40000 ≤ s_50.1.toNatClampNeg then none else
                    bnd (((7 * p1) + (σ_71.2 20 s_50.1.toNatClampNeg))) fun (x_130 : Int32) =>
                    if x_130 < 0 ∨ 847 ≤ x_130.toNatClampNeg then none else
                    bnd (mA σ_71 53 (upd (σ_71.2 53) x_130.toNatClampNeg (vp_nar .boolean 1))) fun σ_134 =>
                    j_78  σ_134
                  ) else (
                    j_78  σ_71
                  )
                ) : MS → MR) fun j_72 =>
                if (σ_65.2 17 s_50.1.toNatClampNeg) = 12 then (
                  if s_50.1 < 0 ∨ 40000 ≤ s_50.1.toNatClampNeg then none else
                  bnd (((7 * p1) + (σ_65.2 20 s_50.1.toNatClampNeg))) fun (x_141 : Int32) =>
                  if s_50.1 < 0 ∨ 40000 ≤ s_50.1.toNatClampNeg then none else
                  bnd ((σ_65.2 19 s_50.1.toNatClampNeg)) fun (x_145 : Int32) =>
                  if x_145 < 0 ∨ 40000 ≤ x_145.toNatClampNeg then none else
                  bnd ((σ_65.2 19 x_145.toNatClampNeg)) fun (x_149 : Int32) =>
                  if x_149 < 0 ∨ 8000 ≤ x_149.toNatClampNeg then none else
                  bnd ((σ_65.2 29 x_149.toNatClampNeg)) fun (x_153 : Int32) =>
                  if x_141 < 0 ∨ 847 ≤ x_141.toNatClampNeg then none else
                  bnd (mA σ_65 51 (upd (σ_65.2 51) x_141.toNatClampNeg x_153)) fun σ_157 =>
                  j_72  σ_157
                ) else (
                  j_72  σ_65
                )
              ) : MS → MR) fun j_66 =>
              if (σ_59.2 17 s_50.1.toNatClampNeg) = 11 then (
                if ((7 * p1) + 6) < 0 ∨ 847 ≤ ((7 * p1) + 6).toNatClampNeg then none else
                bnd (mA σ_59 53 (upd (σ_59.2 53) ((7 * p1) + 6).toNatClampNeg (vp_nar .boolean 1))) fun σ_164 =>
                j_66  σ_164
              ) else (
                j_66  σ_59
              )
            ) : MS → MR) fun j_60 =>
            if (s_50.2.2 17 s_50.1.toNatClampNeg) = 10 then (
              if s_50.1 < 0 ∨ 40000 ≤ s_50.1.toNatClampNeg then none else
              bnd (((s_50.2.2 18 s_50.1.toNatClampNeg) + 1)) fun (x_171 : Int32) =>
              if p1 < 0 ∨ 121 ≤ p1.toNatClampNeg then none else
              bnd (mA s_50.2 48 (upd (s_50.2.2 48) p1.toNatClampNeg x_171)) fun σ_175 =>
              if s_50.1 < 0 ∨ 40000 ≤ s_50.1.toNatClampNeg then none else
              bnd ((σ_175.2 20 s_50.1.toNatClampNeg)) fun (x_179 : Int32) =>
              if p1 < 0 ∨ 121 ≤ p1.toNatClampNeg then none else
              bnd (mA σ_175 49 (upd (σ_175.2 49) p1.toNatClampNeg x_179)) fun σ_183 =>
              if p1 < 0 ∨ 121 ≤ p1.toNatClampNeg then none else
              bnd (mA σ_183 122 (upd (σ_183.2 122) p1.toNatClampNeg (vp_nar .boolean 1))) fun σ_187 =>
              j_60  σ_187
            ) else (
              j_60  s_50.2
            )
          )
        )) FU (x_48, σ_42)
      ) : MS → MR) fun j_43 =>
      if (σ_36.2 50 p1.toNatClampNeg) = 0 then (
        (F_X12_toldPlace p0 σ_36).bind fun u_192 =>
        if p1 < 0 ∨ 121 ≤ p1.toNatClampNeg then none else
        bnd (mA u_192.2 52 (upd (u_192.2.2 52) p1.toNatClampNeg u_192.1)) fun σ_196 =>
        j_43  σ_196
      ) else (
        j_43  σ_36
      )
    ) : MS → MR) fun j_37 =>
    if (σ_32.2 50 p1.toNatClampNeg) = 0 then (
      j_37  σ_32
    ) else (
      if (σ_32.1 63) = 0 then (
        bnd (mI σ_32 63 p1) fun σ_204 =>
        j_37  σ_204
      ) else (
        j_37  σ_32
      )
    )
  ) : Int32 → MS → MR) fun j_27 =>
  if (σ_21.2 17 p0.toNatClampNeg) = 1 then (
    j_27 1 σ_21
  ) else (
    j_27 0 σ_21
  )
set_option maxHeartbeats 4000000 in
set_option maxRecDepth 100000 in
theorem m_X12_layPlace (l : Launch) (dC : Nat → ClassId) (dI : Nat → Nat → Nat) (cB cC cI cJ cZ cP : ClassId) (h qK qS : Nat) (ad : Nat → Nat) (hDD : mDis cB cI cZ h qK qS ad) (sz : Nat)  (p0 : Int32) (p1 : Int32) (σ : MS) (res : Int32 × MS) (hF : F_X12_layPlace p0 p1 σ = some res) : Met l yX12_layPlace (g_ws yX12_layPlace cX12_layPlace 6 none) ({ frames := 3, cells := 0, slots := 0, locals := 86 }) (va_Pc [.ref h, .int p0, .int p1] (m_B (dC, dI) [(cB, .byte), (cC, .char), (cI, .int), (cJ, .long), (cZ, .boolean), (cP, .object "StoryHouse$Play")] sz h ad qK qS (mW cB cI cZ h qK qS ad σ) g_0)) (va_Qv (fun (_ : Unit) => True) (fun _ t => va_P (dC, dI) vwCl (mW cB cI cZ h qK qS ad res.2) t.heap) (mCells h ad sz)) 0 0 (mCells h ad sz) := by
  refine Met.ofW (cc := cX12_layPlace) (maxL := 6) (ret := none) (by decide) rfl ?_
  intro p e s m args below meth c s₁ B hml hv
  obtain ⟨rfl, hsz, hP, hK, hE, hKS, hX⟩ := hv
  have hx := B.exec
  have hb := B.bytes
  have hr := B.returns
  have hts0 := atoms_spec (ws := g_ws yX12_layPlace cX12_layPlace 6 none) B.pre
  have hts : ∀ w ∈ lw_good, w.before ([.ref h, .int p0, .int p1] : List Value).toArray s = true := fun w z => hts0 w (List.mem_cons_of_mem _ z)
  have hown : s.vm.findClass RX12 = some m.cls := findClass_of_methodNamed B.named
  have hlocks := B.notSynchronized
  have hS : va_S (mCells h ad sz) s.heap s.heap [] := va_S.rf
  have hl := lv_entry ([.ref h, .int p0, .int p1]) (n := 6) (Nat.le_of_ble_eq_true rfl)
  rw [lg_entry_eq]
  generalize (lg_sl ([.ref h, .int p0, .int p1]) ++ List.replicate (6 - (lg_sl ([.ref h, .int p0, .int p1])).length) Slot.unset).toArray = ls at hl ⊢
  have hl : lv_has ls 6 [(0, .ref h), (1, .int p0), (2, .int p1)] := hl
  unfold F_X12_layPlace at hF
  refine lv_aload_n hx hb dX12_layPlace_0 rfl (lv_at hl 0 rfl) ?_
  refine va_get (D := (dC, dI)) (ci := 12) (v := .ref (ad 46)) (C := RX12) (T := TX12) (N := 123) hx hb hts ii_X12 hown hK hP 0 rfl rfl 46 (by decide) (hts (.fieldLink RX12 85 "StoryHouseModel" "calledAt" "[I") wq_1402) (fun _ h9 => h9) rfl dX12_layPlace_1 ?_
  refine lv_iload_n hx hb dX12_layPlace_4 rfl (lv_at hl 2 rfl) ?_
  refine lv_aload_n hx hb dX12_layPlace_5 rfl (lv_at hl 0 rfl) ?_
  refine va_get (D := (dC, dI)) (ci := 12) (v := .ref (ad 18)) (C := RX12) (T := TX12) (N := 123) hx hb hts ii_X12 hown hK hP 0 rfl rfl 18 (by decide) (hts (.fieldLink RX12 52 "StoryHouseModel" "where" "[I") wq_1374) (fun _ h9 => h9) rfl dX12_layPlace_6 ?_
  refine lv_aload_n hx hb dX12_layPlace_9 rfl (lv_at hl 0 rfl) ?_
  refine va_get (D := (dC, dI)) (ci := 12) (v := .ref (ad 21)) (C := RX12) (T := TX12) (N := 123) hx hb hts ii_X12 hown hK hP 0 rfl rfl 21 (by decide) (hts (.fieldLink RX12 61 "StoryHouseModel" "d" "[I") wq_1377) (fun _ h9 => h9) rfl dX12_layPlace_10 ?_
  refine lv_iload_n hx hb dX12_layPlace_13 rfl (lv_at hl 1 rfl) ?_
  obtain ⟨g_1, hF_2⟩ := nif_e hF
  clear hF
  refine va_iald (f := σ.2 21) hx hb hK hP 12 2 rfl rfl g_1 dX12_layPlace_14 ?_
  obtain ⟨x_3, ex_3, hF_4⟩ := bnd_e hF_2
  clear hF_2
  refine m_top ex_3 ?_
  obtain ⟨g_5, hF_6⟩ := nif_e hF_4
  clear hF_4
  refine va_iald (f := σ.2 18) hx hb hK hP 9 2 rfl rfl g_5 dX12_layPlace_15 ?_
  refine lv_iconst (v := 1) hx hb dX12_layPlace_16 (by decide +kernel) ?_
  refine lv_iadd hx hb dX12_layPlace_17 ?_
  obtain ⟨x_7, ex_7, hF_8⟩ := bnd_e hF_6
  clear hF_6
  refine m_top ex_7 ?_
  obtain ⟨g_9, hF_10⟩ := nif_e hF_8
  clear hF_8
  obtain ⟨σ_11, eσ_11, hF_12⟩ := bnd_e hF_10
  clear hF_10
  refine m_iast (σ' := σ_11) hx hb hK hP (hDD _ _) hS (q0 := 20) (t0 := 2) (f := σ.2 46) rfl rfl (by rw [eσ_11]; exact mwA_46) g_9 dX12_layPlace_18 (fun H locs hP hS => ?_)
  refine lv_aload_n hx hb dX12_layPlace_19 rfl (lv_at hl 0 rfl) ?_
  refine va_get (D := (dC, dI)) (ci := 12) (v := .ref (ad 47)) (C := RX12) (T := TX12) (N := 123) hx hb hts ii_X12 hown hK hP 0 rfl rfl 47 (by decide) (hts (.fieldLink RX12 88 "StoryHouseModel" "calledSize" "[I") wq_1403) (fun _ h9 => h9) rfl dX12_layPlace_20 ?_
  refine lv_iload_n hx hb dX12_layPlace_23 rfl (lv_at hl 2 rfl) ?_
  refine lv_aload_n hx hb dX12_layPlace_24 rfl (lv_at hl 0 rfl) ?_
  refine va_get (D := (dC, dI)) (ci := 12) (v := .ref (ad 20)) (C := RX12) (T := TX12) (N := 123) hx hb hts ii_X12 hown hK hP 0 rfl rfl 20 (by decide) (hts (.fieldLink RX12 58 "StoryHouseModel" "b" "[I") wq_1376) (fun _ h9 => h9) rfl dX12_layPlace_25 ?_
  refine lv_aload_n hx hb dX12_layPlace_28 rfl (lv_at hl 0 rfl) ?_
  refine va_get (D := (dC, dI)) (ci := 12) (v := .ref (ad 21)) (C := RX12) (T := TX12) (N := 123) hx hb hts ii_X12 hown hK hP 0 rfl rfl 21 (by decide) (hts (.fieldLink RX12 61 "StoryHouseModel" "d" "[I") wq_1377) (fun _ h9 => h9) rfl dX12_layPlace_29 ?_
  refine lv_iload_n hx hb dX12_layPlace_32 rfl (lv_at hl 1 rfl) ?_
  obtain ⟨g_13, hF_14⟩ := nif_e hF_12
  clear hF_12
  refine va_iald (f := σ_11.2 21) hx hb hK hP 12 2 rfl rfl g_13 dX12_layPlace_33 ?_
  obtain ⟨x_15, ex_15, hF_16⟩ := bnd_e hF_14
  clear hF_14
  refine m_top ex_15 ?_
  obtain ⟨g_17, hF_18⟩ := nif_e hF_16
  clear hF_16
  refine va_iald (f := σ_11.2 20) hx hb hK hP 11 2 rfl rfl g_17 dX12_layPlace_34 ?_
  obtain ⟨g_19, hF_20⟩ := nif_e hF_18
  clear hF_18
  obtain ⟨σ_21, eσ_21, hF_22⟩ := bnd_e hF_20
  clear hF_20
  refine m_iast (σ' := σ_21) hx hb hK hP (hDD _ _) hS (q0 := 21) (t0 := 2) (f := σ_11.2 47) rfl rfl (by rw [eσ_21]; exact mwA_47) g_19 dX12_layPlace_35 (fun H locs hP hS => ?_)
  refine lv_aload_n hx hb dX12_layPlace_36 rfl (lv_at hl 0 rfl) ?_
  refine va_get (D := (dC, dI)) (ci := 12) (v := .ref (ad 50)) (C := RX12) (T := TX12) (N := 123) hx hb hts ii_X12 hown hK hP 0 rfl rfl 50 (by decide) (hts (.fieldLink RX12 97 "StoryHouseModel" "isRoom" "[Z") wq_1406) (fun _ h9 => h9) rfl dX12_layPlace_37 ?_
  refine lv_iload_n hx hb dX12_layPlace_40 rfl (lv_at hl 2 rfl) ?_
  refine lv_aload_n hx hb dX12_layPlace_41 rfl (lv_at hl 0 rfl) ?_
  refine va_get (D := (dC, dI)) (ci := 12) (v := .ref (ad 17)) (C := RX12) (T := TX12) (N := 123) hx hb hts ii_X12 hown hK hP 0 rfl rfl 17 (by decide) (hts (.fieldLink RX12 49 "StoryHouseModel" "what" "[I") wq_1373) (fun _ h9 => h9) rfl dX12_layPlace_42 ?_
  refine lv_iload_n hx hb dX12_layPlace_45 rfl (lv_at hl 1 rfl) ?_
  obtain ⟨g_23, hF_24⟩ := nif_e hF_22
  clear hF_22
  refine va_iald (f := σ_21.2 17) hx hb hK hP 8 2 rfl rfl g_23 dX12_layPlace_46 ?_
  refine lv_iconst (v := 1) hx hb dX12_layPlace_47 (by decide +kernel) ?_
  obtain ⟨j_27, ej_27, hF_28⟩ := bnd_e hF_24
  clear hF_24
  have Jj_27 : ∀ (t_25 : Int32) (σ_26 : MS), j_27 t_25 σ_26 = some res → ∀ (H : Heap) (locs : List Loc), va_P (dC, dI) vwCl (mW cB cI cZ h qK qS ad σ_26) H → va_S (mCells h ad sz) s.heap H locs → ∀ ls : Array Slot, lv_has ls 6 [(0, .ref h), (1, .int p0), (2, .int p1)] → W p l e (headSpec (g_ws yX12_layPlace cX12_layPlace 6 none) { frames := 3, cells := 0, slots := 0, locals := 86 }).room s m ([.ref h, .int p0, .int p1] : List Value).toArray below meth c H locs 0 0 (MQ below (va_Qv (fun (_ : Unit) => True) (fun _ t => va_P (dC, dI) vwCl (mW cB cI cZ h qK qS ad res.2) t.heap) (mCells h ad sz)) ([.ref h, .int p0, .int p1] : List Value).toArray s 0 0 (mCells h ad sz)) (F0 m 56 ls [.int t_25, .int p1, .ref (ad 50)]) := by
    intro t_25 σ_26 hF0 H locs hP hS ls hl
    subst ej_27
    have hF_29 := hF0
    clear hF0
    obtain ⟨g_30, hF_31⟩ := nif_e hF_29
    clear hF_29
    obtain ⟨σ_32, eσ_32, hF_33⟩ := bnd_e hF_31
    clear hF_31
    refine m_zast (σ' := σ_32) hx hb hK hP (hDD _ _) hS (q0 := 24) (t0 := 4) (f := σ_26.2 50) rfl rfl (by rw [eσ_32]; exact mwA_50) g_30 dX12_layPlace_56 (fun H locs hP hS => ?_)
    refine lv_aload_n hx hb dX12_layPlace_57 rfl (lv_at hl 0 rfl) ?_
    refine va_get (D := (dC, dI)) (ci := 12) (v := .ref (ad 50)) (C := RX12) (T := TX12) (N := 123) hx hb hts ii_X12 hown hK hP 0 rfl rfl 50 (by decide) (hts (.fieldLink RX12 97 "StoryHouseModel" "isRoom" "[Z") wq_1406) (fun _ h9 => h9) rfl dX12_layPlace_58 ?_
    refine lv_iload_n hx hb dX12_layPlace_61 rfl (lv_at hl 2 rfl) ?_
    obtain ⟨g_34, hF_35⟩ := nif_e hF_33
    clear hF_33
    refine va_zald (f := σ_32.2 50) hx hb hK hP 24 4 rfl rfl g_34 dX12_layPlace_62 ?_
    obtain ⟨j_37, ej_37, hF_38⟩ := bnd_e hF_35
    clear hF_35
    have Jj_37 : ∀  (σ_36 : MS), j_37  σ_36 = some res → ∀ (H : Heap) (locs : List Loc), va_P (dC, dI) vwCl (mW cB cI cZ h qK qS ad σ_36) H → va_S (mCells h ad sz) s.heap H locs → ∀ ls : Array Slot, lv_has ls 6 [(0, .ref h), (1, .int p0), (2, .int p1)] → W p l e (headSpec (g_ws yX12_layPlace cX12_layPlace 6 none) { frames := 3, cells := 0, slots := 0, locals := 86 }).room s m ([.ref h, .int p0, .int p1] : List Value).toArray below meth c H locs 0 0 (MQ below (va_Qv (fun (_ : Unit) => True) (fun _ t => va_P (dC, dI) vwCl (mW cB cI cZ h qK qS ad res.2) t.heap) (mCells h ad sz)) ([.ref h, .int p0, .int p1] : List Value).toArray s 0 0 (mCells h ad sz)) (F0 m 78 ls []) := by
      intro  σ_36 hF0 H locs hP hS ls hl
      subst ej_37
      have hF_39 := hF0
      clear hF0
      refine lv_aload_n hx hb dX12_layPlace_78 rfl (lv_at hl 0 rfl) ?_
      refine va_get (D := (dC, dI)) (ci := 12) (v := .ref (ad 50)) (C := RX12) (T := TX12) (N := 123) hx hb hts ii_X12 hown hK hP 0 rfl rfl 50 (by decide) (hts (.fieldLink RX12 97 "StoryHouseModel" "isRoom" "[Z") wq_1406) (fun _ h9 => h9) rfl dX12_layPlace_79 ?_
      refine lv_iload_n hx hb dX12_layPlace_82 rfl (lv_at hl 2 rfl) ?_
      obtain ⟨g_40, hF_41⟩ := nif_e hF_39
      clear hF_39
      refine va_zald (f := σ_36.2 50) hx hb hK hP 24 4 rfl rfl g_40 dX12_layPlace_83 ?_
      obtain ⟨j_43, ej_43, hF_44⟩ := bnd_e hF_41
      clear hF_41
      have Jj_43 : ∀  (σ_42 : MS), j_43  σ_42 = some res → ∀ (H : Heap) (locs : List Loc), va_P (dC, dI) vwCl (mW cB cI cZ h qK qS ad σ_42) H → va_S (mCells h ad sz) s.heap H locs → ∀ ls : Array Slot, lv_has ls 6 [(0, .ref h), (1, .int p0), (2, .int p1)] → W p l e (headSpec (g_ws yX12_layPlace cX12_layPlace 6 none) { frames := 3, cells := 0, slots := 0, locals := 86 }).room s m ([.ref h, .int p0, .int p1] : List Value).toArray below meth c H locs 0 0 (MQ below (va_Qv (fun (_ : Unit) => True) (fun _ t => va_P (dC, dI) vwCl (mW cB cI cZ h qK qS ad res.2) t.heap) (mCells h ad sz)) ([.ref h, .int p0, .int p1] : List Value).toArray s 0 0 (mCells h ad sz)) (F0 m 98 ls []) := by
        intro  σ_42 hF0 H locs hP hS ls hl
        subst ej_43
        have hF_45 := hF0
        clear hF0
        refine lv_aload_n hx hb dX12_layPlace_98 rfl (lv_at hl 0 rfl) ?_
        refine va_get (D := (dC, dI)) (ci := 12) (v := .ref (ad 20)) (C := RX12) (T := TX12) (N := 123) hx hb hts ii_X12 hown hK hP 0 rfl rfl 20 (by decide) (hts (.fieldLink RX12 58 "StoryHouseModel" "b" "[I") wq_1376) (fun _ h9 => h9) rfl dX12_layPlace_99 ?_
        refine lv_iload_n hx hb dX12_layPlace_102 rfl (lv_at hl 1 rfl) ?_
        obtain ⟨g_46, hF_47⟩ := nif_e hF_45
        clear hF_45
        refine va_iald (f := σ_42.2 20) hx hb hK hP 11 2 rfl rfl g_46 dX12_layPlace_103 ?_
        obtain ⟨x_48, ex_48, hF_49⟩ := bnd_e hF_47
        clear hF_47
        refine m_top ex_48 ?_
        refine lv_istore_n (lv' := [(3, .int x_48), (0, .ref h), (1, .int p0), (2, .int p1)]) hx hb dX12_layPlace_104 rfl hl (by decide) rfl (fun ls hl => ?_)
        refine loopF_ind (P := fun (s_50 : Int32 × MS) => ∀ (H : Heap) (locs : List Loc), va_P (dC, dI) vwCl (mW cB cI cZ h qK qS ad s_50.2) H → va_S (mCells h ad sz) s.heap H locs → ∀ ls : Array Slot, lv_has ls 6 [(0, .ref h), (2, .int p1), (3, .int s_50.1)] → W p l e (headSpec (g_ws yX12_layPlace cX12_layPlace 6 none) { frames := 3, cells := 0, slots := 0, locals := 86 }).room s m ([.ref h, .int p0, .int p1] : List Value).toArray below meth c H locs 0 0 (MQ below (va_Qv (fun (_ : Unit) => True) (fun _ t => va_P (dC, dI) vwCl (mW cB cI cZ h qK qS ad res.2) t.heap) (mCells h ad sz)) ([.ref h, .int p0, .int p1] : List Value).toArray s 0 0 (mCells h ad sz)) (F0 m 105 ls [])) ?_ _ _ hF_49 _ _ hP hS ls (lv_sub hl [1, 3, 0] rfl)
        intro again_51 s_50 ih_52 hF_53
        intro H locs hP hS ls hl
        refine lv_iload_n hx hb dX12_layPlace_105 rfl (lv_at hl 2 rfl) ?_
        refine lv_if_lt (tgt := 343) hx hb dX12_layPlace_106 (by decide) (fun c_54 => ?_) (fun c_54 => ?_)
        · have hF_55 := ipos c_54 hF_53
          clear hF_53
          have h9 := Option.some.inj hF_55
          subst h9
          exact W.vret hx hb hr (fun t ht hW => ⟨⟨(), rfl, trivial, m_end ht hP⟩, hS.F ht⟩) hS.2.2 dX12_layPlace_343
        · have hF_56 := ineg c_54 hF_53
          clear hF_53
          refine lv_aload_n hx hb dX12_layPlace_109 rfl (lv_at hl 0 rfl) ?_
          refine va_get (D := (dC, dI)) (ci := 12) (v := .ref (ad 17)) (C := RX12) (T := TX12) (N := 123) hx hb hts ii_X12 hown hK hP 0 rfl rfl 17 (by decide) (hts (.fieldLink RX12 49 "StoryHouseModel" "what" "[I") wq_1373) (fun _ h9 => h9) rfl dX12_layPlace_110 ?_
          refine lv_iload_n hx hb dX12_layPlace_113 rfl (lv_at hl 2 rfl) ?_
          obtain ⟨g_57, hF_58⟩ := nif_e hF_56
          clear hF_56
          refine va_iald (f := s_50.2.2 17) hx hb hK hP 8 2 rfl rfl g_57 dX12_layPlace_114 ?_
          refine lv_bipush (v := 10) hx hb dX12_layPlace_115 (by decide +kernel) ?_
          obtain ⟨j_60, ej_60, hF_61⟩ := bnd_e hF_58
          clear hF_58
          have Jj_60 : ∀  (σ_59 : MS), j_60  σ_59 = some res → ∀ (H : Heap) (locs : List Loc), va_P (dC, dI) vwCl (mW cB cI cZ h qK qS ad σ_59) H → va_S (mCells h ad sz) s.heap H locs → ∀ ls : Array Slot, lv_has ls 6 [(0, .ref h), (2, .int p1), (3, .int s_50.1)] → W p l e (headSpec (g_ws yX12_layPlace cX12_layPlace 6 none) { frames := 3, cells := 0, slots := 0, locals := 86 }).room s m ([.ref h, .int p0, .int p1] : List Value).toArray below meth c H locs 0 0 (MQ below (va_Qv (fun (_ : Unit) => True) (fun _ t => va_P (dC, dI) vwCl (mW cB cI cZ h qK qS ad res.2) t.heap) (mCells h ad sz)) ([.ref h, .int p0, .int p1] : List Value).toArray s 0 0 (mCells h ad sz)) (F0 m 153 ls []) := by
            intro  σ_59 hF0 H locs hP hS ls hl
            subst ej_60
            have hF_62 := hF0
            clear hF0
            refine lv_aload_n hx hb dX12_layPlace_153 rfl (lv_at hl 0 rfl) ?_
            refine va_get (D := (dC, dI)) (ci := 12) (v := .ref (ad 17)) (C := RX12) (T := TX12) (N := 123) hx hb hts ii_X12 hown hK hP 0 rfl rfl 17 (by decide) (hts (.fieldLink RX12 49 "StoryHouseModel" "what" "[I") wq_1373) (fun _ h9 => h9) rfl dX12_layPlace_154 ?_
            refine lv_iload_n hx hb dX12_layPlace_157 rfl (lv_at hl 2 rfl) ?_
            obtain ⟨g_63, hF_64⟩ := nif_e hF_62
            clear hF_62
            refine va_iald (f := σ_59.2 17) hx hb hK hP 8 2 rfl rfl g_63 dX12_layPlace_158 ?_
            refine lv_bipush (v := 11) hx hb dX12_layPlace_159 (by decide +kernel) ?_
            obtain ⟨j_66, ej_66, hF_67⟩ := bnd_e hF_64
            clear hF_64
            have Jj_66 : ∀  (σ_65 : MS), j_66  σ_65 = some res → ∀ (H : Heap) (locs : List Loc), va_P (dC, dI) vwCl (mW cB cI cZ h qK qS ad σ_65) H → va_S (mCells h ad sz) s.heap H locs → ∀ ls : Array Slot, lv_has ls 6 [(0, .ref h), (2, .int p1), (3, .int s_50.1)] → W p l e (headSpec (g_ws yX12_layPlace cX12_layPlace 6 none) { frames := 3, cells := 0, slots := 0, locals := 86 }).room s m ([.ref h, .int p0, .int p1] : List Value).toArray below meth c H locs 0 0 (MQ below (va_Qv (fun (_ : Unit) => True) (fun _ t => va_P (dC, dI) vwCl (mW cB cI cZ h qK qS ad res.2) t.heap) (mCells h ad sz)) ([.ref h, .int p0, .int p1] : List Value).toArray s 0 0 (mCells h ad sz)) (F0 m 177 ls []) := by
              intro  σ_65 hF0 H locs hP hS ls hl
              subst ej_66
              have hF_68 := hF0
              clear hF0
              refine lv_aload_n hx hb dX12_layPlace_177 rfl (lv_at hl 0 rfl) ?_
              refine va_get (D := (dC, dI)) (ci := 12) (v := .ref (ad 17)) (C := RX12) (T := TX12) (N := 123) hx hb hts ii_X12 hown hK hP 0 rfl rfl 17 (by decide) (hts (.fieldLink RX12 49 "StoryHouseModel" "what" "[I") wq_1373) (fun _ h9 => h9) rfl dX12_layPlace_178 ?_
              refine lv_iload_n hx hb dX12_layPlace_181 rfl (lv_at hl 2 rfl) ?_
              obtain ⟨g_69, hF_70⟩ := nif_e hF_68
              clear hF_68
              refine va_iald (f := σ_65.2 17) hx hb hK hP 8 2 rfl rfl g_69 dX12_layPlace_182 ?_
              refine lv_bipush (v := 12) hx hb dX12_layPlace_183 (by decide +kernel) ?_
              obtain ⟨j_72, ej_72, hF_73⟩ := bnd_e hF_70
              clear hF_70
              have Jj_72 : ∀  (σ_71 : MS), j_72  σ_71 = some res → ∀ (H : Heap) (locs : List Loc), va_P (dC, dI) vwCl (mW cB cI cZ h qK qS ad σ_71) H → va_S (mCells h ad sz) s.heap H locs → ∀ ls : Array Slot, lv_has ls 6 [(0, .ref h), (2, .int p1), (3, .int s_50.1)] → W p l e (headSpec (g_ws yX12_layPlace cX12_layPlace 6 none) { frames := 3, cells := 0, slots := 0, locals := 86 }).room s m ([.ref h, .int p0, .int p1] : List Value).toArray below meth c H locs 0 0 (MQ below (va_Qv (fun (_ : Unit) => True) (fun _ t => va_P (dC, dI) vwCl (mW cB cI cZ h qK qS ad res.2) t.heap) (mCells h ad sz)) ([.ref h, .int p0, .int p1] : List Value).toArray s 0 0 (mCells h ad sz)) (F0 m 220 ls []) := by
                intro  σ_71 hF0 H locs hP hS ls hl
                subst ej_72
                have hF_74 := hF0
                clear hF0
                refine lv_aload_n hx hb dX12_layPlace_220 rfl (lv_at hl 0 rfl) ?_
                refine va_get (D := (dC, dI)) (ci := 12) (v := .ref (ad 17)) (C := RX12) (T := TX12) (N := 123) hx hb hts ii_X12 hown hK hP 0 rfl rfl 17 (by decide) (hts (.fieldLink RX12 49 "StoryHouseModel" "what" "[I") wq_1373) (fun _ h9 => h9) rfl dX12_layPlace_221 ?_
                refine lv_iload_n hx hb dX12_layPlace_224 rfl (lv_at hl 2 rfl) ?_
                obtain ⟨g_75, hF_76⟩ := nif_e hF_74
                clear hF_74
                refine va_iald (f := σ_71.2 17) hx hb hK hP 8 2 rfl rfl g_75 dX12_layPlace_225 ?_
                refine lv_bipush (v := 15) hx hb dX12_layPlace_226 (by decide +kernel) ?_
                obtain ⟨j_78, ej_78, hF_79⟩ := bnd_e hF_76
                clear hF_76
                have Jj_78 : ∀  (σ_77 : MS), j_78  σ_77 = some res → ∀ (H : Heap) (locs : List Loc), va_P (dC, dI) vwCl (mW cB cI cZ h qK qS ad σ_77) H → va_S (mCells h ad sz) s.heap H locs → ∀ ls : Array Slot, lv_has ls 6 [(0, .ref h), (2, .int p1), (3, .int s_50.1)] → W p l e (headSpec (g_ws yX12_layPlace cX12_layPlace 6 none) { frames := 3, cells := 0, slots := 0, locals := 86 }).room s m ([.ref h, .int p0, .int p1] : List Value).toArray below meth c H locs 0 0 (MQ below (va_Qv (fun (_ : Unit) => True) (fun _ t => va_P (dC, dI) vwCl (mW cB cI cZ h qK qS ad res.2) t.heap) (mCells h ad sz)) ([.ref h, .int p0, .int p1] : List Value).toArray s 0 0 (mCells h ad sz)) (F0 m 248 ls []) := by
                  intro  σ_77 hF0 H locs hP hS ls hl
                  subst ej_78
                  have hF_80 := hF0
                  clear hF0
                  refine lv_aload_n hx hb dX12_layPlace_248 rfl (lv_at hl 0 rfl) ?_
                  refine va_get (D := (dC, dI)) (ci := 12) (v := .ref (ad 17)) (C := RX12) (T := TX12) (N := 123) hx hb hts ii_X12 hown hK hP 0 rfl rfl 17 (by decide) (hts (.fieldLink RX12 49 "StoryHouseModel" "what" "[I") wq_1373) (fun _ h9 => h9) rfl dX12_layPlace_249 ?_
                  refine lv_iload_n hx hb dX12_layPlace_252 rfl (lv_at hl 2 rfl) ?_
                  obtain ⟨g_81, hF_82⟩ := nif_e hF_80
                  clear hF_80
                  refine va_iald (f := σ_77.2 17) hx hb hK hP 8 2 rfl rfl g_81 dX12_layPlace_253 ?_
                  refine lv_bipush (v := 14) hx hb dX12_layPlace_254 (by decide +kernel) ?_
                  obtain ⟨j_85, ej_85, hF_86⟩ := bnd_e hF_82
                  clear hF_82
                  have Jj_85 : ∀ (t_83 : Int32) (σ_84 : MS), j_85 t_83 σ_84 = some res → ∀ (H : Heap) (locs : List Loc), va_P (dC, dI) vwCl (mW cB cI cZ h qK qS ad σ_84) H → va_S (mCells h ad sz) s.heap H locs → ∀ ls : Array Slot, lv_has ls 6 [(0, .ref h), (2, .int p1), (3, .int s_50.1)] → W p l e (headSpec (g_ws yX12_layPlace cX12_layPlace 6 none) { frames := 3, cells := 0, slots := 0, locals := 86 }).room s m ([.ref h, .int p0, .int p1] : List Value).toArray below meth c H locs 0 0 (MQ below (va_Qv (fun (_ : Unit) => True) (fun _ t => va_P (dC, dI) vwCl (mW cB cI cZ h qK qS ad res.2) t.heap) (mCells h ad sz)) ([.ref h, .int p0, .int p1] : List Value).toArray s 0 0 (mCells h ad sz)) (F0 m 269 ls [.int t_83]) := by
                    intro t_83 σ_84 hF0 H locs hP hS ls hl
                    subst ej_85
                    have hF_87 := hF0
                    clear hF0
                    refine lv_istore (lv' := [(4, .int t_83), (0, .ref h), (2, .int p1), (3, .int s_50.1)]) hx hb dX12_layPlace_269 hl (by decide) rfl (fun ls hl => ?_)
                    refine loopF_ind (P := fun (s_88 : Int32 × MS) => ∀ (H : Heap) (locs : List Loc), va_P (dC, dI) vwCl (mW cB cI cZ h qK qS ad s_88.2) H → va_S (mCells h ad sz) s.heap H locs → ∀ ls : Array Slot, lv_has ls 6 [(0, .ref h), (2, .int p1), (3, .int s_50.1), (4, .int s_88.1)] → W p l e (headSpec (g_ws yX12_layPlace cX12_layPlace 6 none) { frames := 3, cells := 0, slots := 0, locals := 86 }).room s m ([.ref h, .int p0, .int p1] : List Value).toArray below meth c H locs 0 0 (MQ below (va_Qv (fun (_ : Unit) => True) (fun _ t => va_P (dC, dI) vwCl (mW cB cI cZ h qK qS ad res.2) t.heap) (mCells h ad sz)) ([.ref h, .int p0, .int p1] : List Value).toArray s 0 0 (mCells h ad sz)) (F0 m 271 ls [])) ?_ _ _ hF_87 _ _ hP hS ls (lv_sub hl [1, 2, 3, 0] rfl)
                    intro again_89 s_88 ih_90 hF_91
                    intro H locs hP hS ls hl
                    refine lv_iload hx hb dX12_layPlace_271 (lv_at hl 3 rfl) ?_
                    refine lv_if_lt (tgt := 333) hx hb dX12_layPlace_273 (by decide) (fun c_92 => ?_) (fun c_92 => ?_)
                    · have hF_93 := ipos c_92 hF_91
                      clear hF_91
                      refine lv_aload_n hx hb dX12_layPlace_333 rfl (lv_at hl 0 rfl) ?_
                      refine va_get (D := (dC, dI)) (ci := 12) (v := .ref (ad 22)) (C := RX12) (T := TX12) (N := 123) hx hb hts ii_X12 hown hK hP 0 rfl rfl 22 (by decide) (hts (.fieldLink RX12 64 "StoryHouseModel" "then" "[I") wq_1378) (fun _ h9 => h9) rfl dX12_layPlace_334 ?_
                      refine lv_iload_n hx hb dX12_layPlace_337 rfl (lv_at hl 2 rfl) ?_
                      obtain ⟨g_94, hF_95⟩ := nif_e hF_93
                      clear hF_93
                      refine va_iald (f := s_88.2.2 22) hx hb hK hP 13 2 rfl rfl g_94 dX12_layPlace_338 ?_
                      obtain ⟨x_96, ex_96, hF_97⟩ := bnd_e hF_95
                      clear hF_95
                      refine m_top ex_96 ?_
                      refine lv_istore_n (lv' := [(3, .int x_96), (0, .ref h), (2, .int p1), (4, .int s_88.1)]) hx hb dX12_layPlace_339 rfl hl (by decide) rfl (fun ls hl => ?_)
                      refine lv_goto (tgt := 105) hx hb dX12_layPlace_340 (by decide) ?_
                      exact ih_52 (x_96, s_88.2) hF_97 _ _ hP hS ls (lv_sub hl [1, 2, 0] rfl)
                    · have hF_98 := ineg c_92 hF_91
                      clear hF_91
                      refine lv_bipush (v := 10) hx hb dX12_layPlace_276 (by decide +kernel) ?_
                      refine lv_iload_n hx hb dX12_layPlace_278 rfl (lv_at hl 1 rfl) ?_
                      refine lv_imul hx hb dX12_layPlace_279 ?_
                      refine lv_aload_n hx hb dX12_layPlace_280 rfl (lv_at hl 0 rfl) ?_
                      refine va_get (D := (dC, dI)) (ci := 12) (v := .ref (ad 56)) (C := RX12) (T := TX12) (N := 123) hx hb hts ii_X12 hown hK hP 0 rfl rfl 56 (by decide) (hts (.fieldLink RX12 116 "StoryHouseModel" "wordCount" "[I") wq_1412) (fun _ h9 => h9) rfl dX12_layPlace_281 ?_
                      refine lv_iload_n hx hb dX12_layPlace_284 rfl (lv_at hl 1 rfl) ?_
                      refine lv_dup2_11 hx hb dX12_layPlace_285 rfl rfl ?_
                      obtain ⟨g_99, hF_100⟩ := nif_e hF_98
                      clear hF_98
                      refine va_iald (f := s_88.2.2 56) hx hb hK hP 30 2 rfl rfl g_99 dX12_layPlace_286 ?_
                      refine lv_dup_x2 hx hb dX12_layPlace_287 rfl rfl rfl ?_
                      refine lv_iconst (v := 1) hx hb dX12_layPlace_288 (by decide +kernel) ?_
                      refine lv_iadd hx hb dX12_layPlace_289 ?_
                      obtain ⟨x_101, ex_101, hF_102⟩ := bnd_e hF_100
                      clear hF_100
                      refine m_top ex_101 ?_
                      obtain ⟨g_103, hF_104⟩ := nif_e hF_102
                      clear hF_102
                      obtain ⟨σ_105, eσ_105, hF_106⟩ := bnd_e hF_104
                      clear hF_104
                      refine m_iast (σ' := σ_105) hx hb hK hP (hDD _ _) hS (q0 := 30) (t0 := 2) (f := s_88.2.2 56) rfl rfl (by rw [eσ_105]; exact mwA_56) g_103 dX12_layPlace_290 (fun H locs hP hS => ?_)
                      refine lv_iadd hx hb dX12_layPlace_291 ?_
                      obtain ⟨x_107, ex_107, hF_108⟩ := bnd_e hF_106
                      clear hF_106
                      refine m_top ex_107 ?_
                      refine lv_istore (lv' := [(5, .int x_107), (0, .ref h), (2, .int p1), (3, .int s_50.1), (4, .int s_88.1)]) hx hb dX12_layPlace_292 hl (by decide) rfl (fun ls hl => ?_)
                      refine lv_aload_n hx hb dX12_layPlace_294 rfl (lv_at hl 1 rfl) ?_
                      refine va_get (D := (dC, dI)) (ci := 12) (v := .ref (ad 55)) (C := RX12) (T := TX12) (N := 123) hx hb hts ii_X12 hown hK hP 0 rfl rfl 55 (by decide) (hts (.fieldLink RX12 113 "StoryHouseModel" "wordSize" "[I") wq_1411) (fun _ h9 => h9) rfl dX12_layPlace_295 ?_
                      refine lv_iload hx hb dX12_layPlace_298 (lv_at hl 0 rfl) ?_
                      refine lv_aload_n hx hb dX12_layPlace_300 rfl (lv_at hl 1 rfl) ?_
                      refine lv_aload_n hx hb dX12_layPlace_301 rfl (lv_at hl 1 rfl) ?_
                      refine va_get (D := (dC, dI)) (ci := 12) (v := .ref (ad 54)) (C := RX12) (T := TX12) (N := 123) hx hb hts ii_X12 hown hK hP 0 rfl rfl 54 (by decide) (hts (.fieldLink RX12 110 "StoryHouseModel" "wordBytes" "[B") wq_1410) (fun _ h9 => h9) rfl dX12_layPlace_302 ?_
                      refine lv_bipush (v := 9) hx hb dX12_layPlace_305 (by decide +kernel) ?_
                      refine lv_iload hx hb dX12_layPlace_307 (lv_at hl 0 rfl) ?_
                      refine lv_imul hx hb dX12_layPlace_309 ?_
                      refine lv_aload_n hx hb dX12_layPlace_310 rfl (lv_at hl 1 rfl) ?_
                      refine va_get (D := (dC, dI)) (ci := 12) (v := .ref (ad 19)) (C := RX12) (T := TX12) (N := 123) hx hb hts ii_X12 hown hK hP 0 rfl rfl 19 (by decide) (hts (.fieldLink RX12 55 "StoryHouseModel" "a" "[I") wq_1375) (fun _ h9 => h9) rfl dX12_layPlace_311 ?_
                      refine lv_iload hx hb dX12_layPlace_314 (lv_at hl 4 rfl) ?_
                      obtain ⟨g_109, hF_110⟩ := nif_e hF_108
                      clear hF_108
                      refine va_iald (f := σ_105.2 19) hx hb hK hP 10 2 rfl rfl g_109 dX12_layPlace_316 ?_
                      obtain ⟨u_111, hu_111, hF_112⟩ := Option.bind_eq_some_iff.mp hF_110
                      clear hF_110
                      refine m_ci hsz hS (va_runV (As := [.ref (ad 54), .int (9 * x_107), .int (σ_105.2 19 s_88.1.toNatClampNeg)]) (rest := [.int x_107, .ref (ad 55)]) ⟨hx, hb, hml, hown, hts⟩ (m_X12_wordTo_wordBytes l dC dI cB cC cI cJ cZ cP h qK qS ad hDD H.size  (9 * x_107) (σ_105.2 19 s_88.1.toNatClampNeg) σ_105 _ hu_111) (cwV 3 hts (g_gV wq_1735 wq_1736 wq_2190 wq_13 wq_1737) rfl rfl rfl (by decide +kernel) ⟨Nat.le_of_ble_eq_true rfl, Nat.le_of_ble_eq_true rfl⟩) (m_preV g_bl0 hsz hK hP hS hE hKS g_to0) rfl rfl hl.1 rfl (lv_room (Nat.le_of_ble_eq_true rfl)) dX12_layPlace_317 ⟨Nat.le_of_ble_eq_true rfl, Nat.le_of_ble_eq_true rfl⟩) (fun H locs hP hS => ?_)
                      obtain ⟨g_113, hF_114⟩ := nif_e hF_112
                      clear hF_112
                      obtain ⟨σ_115, eσ_115, hF_116⟩ := bnd_e hF_114
                      clear hF_114
                      refine m_iast (σ' := σ_115) hx hb hK hP (hDD _ _) hS (q0 := 29) (t0 := 2) (f := u_111.2.2 55) rfl rfl (by rw [eσ_115]; exact mwA_55) g_113 dX12_layPlace_320 (fun H locs hP hS => ?_)
                      refine lv_aload_n hx hb dX12_layPlace_321 rfl (lv_at hl 1 rfl) ?_
                      refine va_get (D := (dC, dI)) (ci := 12) (v := .ref (ad 22)) (C := RX12) (T := TX12) (N := 123) hx hb hts ii_X12 hown hK hP 0 rfl rfl 22 (by decide) (hts (.fieldLink RX12 64 "StoryHouseModel" "then" "[I") wq_1378) (fun _ h9 => h9) rfl dX12_layPlace_322 ?_
                      refine lv_iload hx hb dX12_layPlace_325 (lv_at hl 4 rfl) ?_
                      obtain ⟨g_117, hF_118⟩ := nif_e hF_116
                      clear hF_116
                      refine va_iald (f := σ_115.2 22) hx hb hK hP 13 2 rfl rfl g_117 dX12_layPlace_327 ?_
                      obtain ⟨x_119, ex_119, hF_120⟩ := bnd_e hF_118
                      clear hF_118
                      refine m_top ex_119 ?_
                      refine lv_istore (lv' := [(4, .int x_119), (5, .int x_107), (0, .ref h), (2, .int p1), (3, .int s_50.1)]) hx hb dX12_layPlace_328 hl (by decide) rfl (fun ls hl => ?_)
                      refine lv_goto (tgt := 271) hx hb dX12_layPlace_330 (by decide) ?_
                      exact ih_90 (x_119, σ_115) hF_120 _ _ hP hS ls (lv_sub hl [2, 3, 4, 0] rfl)
                  refine lv_icmp_ne (tgt := 268) hx hb dX12_layPlace_256 (by decide) (fun c_121 => ?_) (fun c_121 => ?_)
                  · have hF_125 := ineg c_121 hF_86
                    clear hF_86
                    refine lv_iconst (v := (-1)) hx hb dX12_layPlace_268 (by decide +kernel) ?_
                    exact Jj_85 (-1) σ_77 hF_125 _ _ hP hS ls (lv_sub hl [0, 1, 2] rfl)
                  · have hF_122 := ipos c_121 hF_86
                    clear hF_86
                    refine lv_aload_n hx hb dX12_layPlace_259 rfl (lv_at hl 0 rfl) ?_
                    refine va_get (D := (dC, dI)) (ci := 12) (v := .ref (ad 19)) (C := RX12) (T := TX12) (N := 123) hx hb hts ii_X12 hown hK hP 0 rfl rfl 19 (by decide) (hts (.fieldLink RX12 55 "StoryHouseModel" "a" "[I") wq_1375) (fun _ h9 => h9) rfl dX12_layPlace_260 ?_
                    refine lv_iload_n hx hb dX12_layPlace_263 rfl (lv_at hl 2 rfl) ?_
                    obtain ⟨g_123, hF_124⟩ := nif_e hF_122
                    clear hF_122
                    refine va_iald (f := σ_77.2 19) hx hb hK hP 10 2 rfl rfl g_123 dX12_layPlace_264 ?_
                    refine lv_goto (tgt := 269) hx hb dX12_layPlace_265 (by decide) ?_
                    exact Jj_85 (σ_77.2 19 s_50.1.toNatClampNeg) σ_77 hF_124 _ _ hP hS ls (lv_sub hl [0, 1, 2] rfl)
                refine lv_icmp_ne (tgt := 248) hx hb dX12_layPlace_228 (by decide) (fun c_126 => ?_) (fun c_126 => ?_)
                · have hF_136 := ineg c_126 hF_79
                  clear hF_79
                  exact Jj_78  σ_71 hF_136 _ _ hP hS ls (lv_sub hl [0, 1, 2] rfl)
                · have hF_127 := ipos c_126 hF_79
                  clear hF_79
                  refine lv_aload_n hx hb dX12_layPlace_231 rfl (lv_at hl 0 rfl) ?_
                  refine va_get (D := (dC, dI)) (ci := 12) (v := .ref (ad 53)) (C := RX12) (T := TX12) (N := 123) hx hb hts ii_X12 hown hK hP 0 rfl rfl 53 (by decide) (hts (.fieldLink RX12 107 "StoryHouseModel" "toldHas" "[Z") wq_1409) (fun _ h9 => h9) rfl dX12_layPlace_232 ?_
                  refine lv_bipush (v := 7) hx hb dX12_layPlace_235 (by decide +kernel) ?_
                  refine lv_iload_n hx hb dX12_layPlace_237 rfl (lv_at hl 1 rfl) ?_
                  refine lv_imul hx hb dX12_layPlace_238 ?_
                  refine lv_aload_n hx hb dX12_layPlace_239 rfl (lv_at hl 0 rfl) ?_
                  refine va_get (D := (dC, dI)) (ci := 12) (v := .ref (ad 20)) (C := RX12) (T := TX12) (N := 123) hx hb hts ii_X12 hown hK hP 0 rfl rfl 20 (by decide) (hts (.fieldLink RX12 58 "StoryHouseModel" "b" "[I") wq_1376) (fun _ h9 => h9) rfl dX12_layPlace_240 ?_
                  refine lv_iload_n hx hb dX12_layPlace_243 rfl (lv_at hl 2 rfl) ?_
                  obtain ⟨g_128, hF_129⟩ := nif_e hF_127
                  clear hF_127
                  refine va_iald (f := σ_71.2 20) hx hb hK hP 11 2 rfl rfl g_128 dX12_layPlace_244 ?_
                  refine lv_iadd hx hb dX12_layPlace_245 ?_
                  obtain ⟨x_130, ex_130, hF_131⟩ := bnd_e hF_129
                  clear hF_129
                  refine m_top ex_130 ?_
                  refine lv_iconst (v := 1) hx hb dX12_layPlace_246 (by decide +kernel) ?_
                  obtain ⟨g_132, hF_133⟩ := nif_e hF_131
                  clear hF_131
                  obtain ⟨σ_134, eσ_134, hF_135⟩ := bnd_e hF_133
                  clear hF_133
                  refine m_zast (σ' := σ_134) hx hb hK hP (hDD _ _) hS (q0 := 27) (t0 := 4) (f := σ_71.2 53) rfl rfl (by rw [eσ_134]; exact mwA_53) g_132 dX12_layPlace_247 (fun H locs hP hS => ?_)
                  exact Jj_78  σ_134 hF_135 _ _ hP hS ls (lv_sub hl [0, 1, 2] rfl)
              refine lv_icmp_ne (tgt := 220) hx hb dX12_layPlace_185 (by decide) (fun c_137 => ?_) (fun c_137 => ?_)
              · have hF_159 := ineg c_137 hF_73
                clear hF_73
                exact Jj_72  σ_65 hF_159 _ _ hP hS ls (lv_sub hl [0, 1, 2] rfl)
              · have hF_138 := ipos c_137 hF_73
                clear hF_73
                refine lv_aload_n hx hb dX12_layPlace_188 rfl (lv_at hl 0 rfl) ?_
                refine va_get (D := (dC, dI)) (ci := 12) (v := .ref (ad 51)) (C := RX12) (T := TX12) (N := 123) hx hb hts ii_X12 hown hK hP 0 rfl rfl 51 (by decide) (hts (.fieldLink RX12 101 "StoryHouseModel" "exits" "[I") wq_1407) (fun _ h9 => h9) rfl dX12_layPlace_189 ?_
                refine lv_bipush (v := 7) hx hb dX12_layPlace_192 (by decide +kernel) ?_
                refine lv_iload_n hx hb dX12_layPlace_194 rfl (lv_at hl 1 rfl) ?_
                refine lv_imul hx hb dX12_layPlace_195 ?_
                refine lv_aload_n hx hb dX12_layPlace_196 rfl (lv_at hl 0 rfl) ?_
                refine va_get (D := (dC, dI)) (ci := 12) (v := .ref (ad 20)) (C := RX12) (T := TX12) (N := 123) hx hb hts ii_X12 hown hK hP 0 rfl rfl 20 (by decide) (hts (.fieldLink RX12 58 "StoryHouseModel" "b" "[I") wq_1376) (fun _ h9 => h9) rfl dX12_layPlace_197 ?_
                refine lv_iload_n hx hb dX12_layPlace_200 rfl (lv_at hl 2 rfl) ?_
                obtain ⟨g_139, hF_140⟩ := nif_e hF_138
                clear hF_138
                refine va_iald (f := σ_65.2 20) hx hb hK hP 11 2 rfl rfl g_139 dX12_layPlace_201 ?_
                refine lv_iadd hx hb dX12_layPlace_202 ?_
                obtain ⟨x_141, ex_141, hF_142⟩ := bnd_e hF_140
                clear hF_140
                refine m_top ex_141 ?_
                refine lv_aload_n hx hb dX12_layPlace_203 rfl (lv_at hl 0 rfl) ?_
                refine va_get (D := (dC, dI)) (ci := 12) (v := .ref (ad 29)) (C := RX12) (T := TX12) (N := 123) hx hb hts ii_X12 hown hK hP 0 rfl rfl 29 (by decide) (hts (.fieldLink RX12 70 "StoryHouseModel" "nameNumber" "[I") wq_1385) (fun _ h9 => h9) rfl dX12_layPlace_204 ?_
                refine lv_aload_n hx hb dX12_layPlace_207 rfl (lv_at hl 0 rfl) ?_
                refine va_get (D := (dC, dI)) (ci := 12) (v := .ref (ad 19)) (C := RX12) (T := TX12) (N := 123) hx hb hts ii_X12 hown hK hP 0 rfl rfl 19 (by decide) (hts (.fieldLink RX12 55 "StoryHouseModel" "a" "[I") wq_1375) (fun _ h9 => h9) rfl dX12_layPlace_208 ?_
                refine lv_aload_n hx hb dX12_layPlace_211 rfl (lv_at hl 0 rfl) ?_
                refine va_get (D := (dC, dI)) (ci := 12) (v := .ref (ad 19)) (C := RX12) (T := TX12) (N := 123) hx hb hts ii_X12 hown hK hP 0 rfl rfl 19 (by decide) (hts (.fieldLink RX12 55 "StoryHouseModel" "a" "[I") wq_1375) (fun _ h9 => h9) rfl dX12_layPlace_212 ?_
                refine lv_iload_n hx hb dX12_layPlace_215 rfl (lv_at hl 2 rfl) ?_
                obtain ⟨g_143, hF_144⟩ := nif_e hF_142
                clear hF_142
                refine va_iald (f := σ_65.2 19) hx hb hK hP 10 2 rfl rfl g_143 dX12_layPlace_216 ?_
                obtain ⟨x_145, ex_145, hF_146⟩ := bnd_e hF_144
                clear hF_144
                refine m_top ex_145 ?_
                obtain ⟨g_147, hF_148⟩ := nif_e hF_146
                clear hF_146
                refine va_iald (f := σ_65.2 19) hx hb hK hP 10 2 rfl rfl g_147 dX12_layPlace_217 ?_
                obtain ⟨x_149, ex_149, hF_150⟩ := bnd_e hF_148
                clear hF_148
                refine m_top ex_149 ?_
                obtain ⟨g_151, hF_152⟩ := nif_e hF_150
                clear hF_150
                refine va_iald (f := σ_65.2 29) hx hb hK hP 15 2 rfl rfl g_151 dX12_layPlace_218 ?_
                obtain ⟨x_153, ex_153, hF_154⟩ := bnd_e hF_152
                clear hF_152
                refine m_top ex_153 ?_
                obtain ⟨g_155, hF_156⟩ := nif_e hF_154
                clear hF_154
                obtain ⟨σ_157, eσ_157, hF_158⟩ := bnd_e hF_156
                clear hF_156
                refine m_iast (σ' := σ_157) hx hb hK hP (hDD _ _) hS (q0 := 25) (t0 := 2) (f := σ_65.2 51) rfl rfl (by rw [eσ_157]; exact mwA_51) g_155 dX12_layPlace_219 (fun H locs hP hS => ?_)
                exact Jj_72  σ_157 hF_158 _ _ hP hS ls (lv_sub hl [0, 1, 2] rfl)
            refine lv_icmp_ne (tgt := 177) hx hb dX12_layPlace_161 (by decide) (fun c_160 => ?_) (fun c_160 => ?_)
            · have hF_166 := ineg c_160 hF_67
              clear hF_67
              exact Jj_66  σ_59 hF_166 _ _ hP hS ls (lv_sub hl [0, 1, 2] rfl)
            · have hF_161 := ipos c_160 hF_67
              clear hF_67
              refine lv_aload_n hx hb dX12_layPlace_164 rfl (lv_at hl 0 rfl) ?_
              refine va_get (D := (dC, dI)) (ci := 12) (v := .ref (ad 53)) (C := RX12) (T := TX12) (N := 123) hx hb hts ii_X12 hown hK hP 0 rfl rfl 53 (by decide) (hts (.fieldLink RX12 107 "StoryHouseModel" "toldHas" "[Z") wq_1409) (fun _ h9 => h9) rfl dX12_layPlace_165 ?_
              refine lv_bipush (v := 7) hx hb dX12_layPlace_168 (by decide +kernel) ?_
              refine lv_iload_n hx hb dX12_layPlace_170 rfl (lv_at hl 1 rfl) ?_
              refine lv_imul hx hb dX12_layPlace_171 ?_
              refine lv_bipush (v := 6) hx hb dX12_layPlace_172 (by decide +kernel) ?_
              refine lv_iadd hx hb dX12_layPlace_174 ?_
              refine lv_iconst (v := 1) hx hb dX12_layPlace_175 (by decide +kernel) ?_
              obtain ⟨g_162, hF_163⟩ := nif_e hF_161
              clear hF_161
              obtain ⟨σ_164, eσ_164, hF_165⟩ := bnd_e hF_163
              clear hF_163
              refine m_zast (σ' := σ_164) hx hb hK hP (hDD _ _) hS (q0 := 27) (t0 := 4) (f := σ_59.2 53) rfl rfl (by rw [eσ_164]; exact mwA_53) g_162 dX12_layPlace_176 (fun H locs hP hS => ?_)
              exact Jj_66  σ_164 hF_165 _ _ hP hS ls (lv_sub hl [0, 1, 2] rfl)
          refine lv_icmp_ne (tgt := 153) hx hb dX12_layPlace_117 (by decide) (fun c_167 => ?_) (fun c_167 => ?_)
          · have hF_189 := ineg c_167 hF_61
            clear hF_61
            exact Jj_60  s_50.2 hF_189 _ _ hP hS ls (lv_sub hl [0, 1, 2] rfl)
          · have hF_168 := ipos c_167 hF_61
            clear hF_61
            refine lv_aload_n hx hb dX12_layPlace_120 rfl (lv_at hl 0 rfl) ?_
            refine va_get (D := (dC, dI)) (ci := 12) (v := .ref (ad 48)) (C := RX12) (T := TX12) (N := 123) hx hb hts ii_X12 hown hK hP 0 rfl rfl 48 (by decide) (hts (.fieldLink RX12 91 "StoryHouseModel" "textAt" "[I") wq_1404) (fun _ h9 => h9) rfl dX12_layPlace_121 ?_
            refine lv_iload_n hx hb dX12_layPlace_124 rfl (lv_at hl 1 rfl) ?_
            refine lv_aload_n hx hb dX12_layPlace_125 rfl (lv_at hl 0 rfl) ?_
            refine va_get (D := (dC, dI)) (ci := 12) (v := .ref (ad 18)) (C := RX12) (T := TX12) (N := 123) hx hb hts ii_X12 hown hK hP 0 rfl rfl 18 (by decide) (hts (.fieldLink RX12 52 "StoryHouseModel" "where" "[I") wq_1374) (fun _ h9 => h9) rfl dX12_layPlace_126 ?_
            refine lv_iload_n hx hb dX12_layPlace_129 rfl (lv_at hl 2 rfl) ?_
            obtain ⟨g_169, hF_170⟩ := nif_e hF_168
            clear hF_168
            refine va_iald (f := s_50.2.2 18) hx hb hK hP 9 2 rfl rfl g_169 dX12_layPlace_130 ?_
            refine lv_iconst (v := 1) hx hb dX12_layPlace_131 (by decide +kernel) ?_
            refine lv_iadd hx hb dX12_layPlace_132 ?_
            obtain ⟨x_171, ex_171, hF_172⟩ := bnd_e hF_170
            clear hF_170
            refine m_top ex_171 ?_
            obtain ⟨g_173, hF_174⟩ := nif_e hF_172
            clear hF_172
            obtain ⟨σ_175, eσ_175, hF_176⟩ := bnd_e hF_174
            clear hF_174
            refine m_iast (σ' := σ_175) hx hb hK hP (hDD _ _) hS (q0 := 22) (t0 := 2) (f := s_50.2.2 48) rfl rfl (by rw [eσ_175]; exact mwA_48) g_173 dX12_layPlace_133 (fun H locs hP hS => ?_)
            refine lv_aload_n hx hb dX12_layPlace_134 rfl (lv_at hl 0 rfl) ?_
            refine va_get (D := (dC, dI)) (ci := 12) (v := .ref (ad 49)) (C := RX12) (T := TX12) (N := 123) hx hb hts ii_X12 hown hK hP 0 rfl rfl 49 (by decide) (hts (.fieldLink RX12 94 "StoryHouseModel" "textSize" "[I") wq_1405) (fun _ h9 => h9) rfl dX12_layPlace_135 ?_
            refine lv_iload_n hx hb dX12_layPlace_138 rfl (lv_at hl 1 rfl) ?_
            refine lv_aload_n hx hb dX12_layPlace_139 rfl (lv_at hl 0 rfl) ?_
            refine va_get (D := (dC, dI)) (ci := 12) (v := .ref (ad 20)) (C := RX12) (T := TX12) (N := 123) hx hb hts ii_X12 hown hK hP 0 rfl rfl 20 (by decide) (hts (.fieldLink RX12 58 "StoryHouseModel" "b" "[I") wq_1376) (fun _ h9 => h9) rfl dX12_layPlace_140 ?_
            refine lv_iload_n hx hb dX12_layPlace_143 rfl (lv_at hl 2 rfl) ?_
            obtain ⟨g_177, hF_178⟩ := nif_e hF_176
            clear hF_176
            refine va_iald (f := σ_175.2 20) hx hb hK hP 11 2 rfl rfl g_177 dX12_layPlace_144 ?_
            obtain ⟨x_179, ex_179, hF_180⟩ := bnd_e hF_178
            clear hF_178
            refine m_top ex_179 ?_
            obtain ⟨g_181, hF_182⟩ := nif_e hF_180
            clear hF_180
            obtain ⟨σ_183, eσ_183, hF_184⟩ := bnd_e hF_182
            clear hF_182
            refine m_iast (σ' := σ_183) hx hb hK hP (hDD _ _) hS (q0 := 23) (t0 := 2) (f := σ_175.2 49) rfl rfl (by rw [eσ_183]; exact mwA_49) g_181 dX12_layPlace_145 (fun H locs hP hS => ?_)
            refine lv_aload_n hx hb dX12_layPlace_146 rfl (lv_at hl 0 rfl) ?_
            refine va_get (D := (dC, dI)) (ci := 12) (v := .ref (ad 122)) (C := RX12) (T := TX12) (N := 123) hx hb hts ii_X12 hown hK hP 0 rfl rfl 122 (by decide) (hts (.fieldLink RX12 237 "StoryHouseModel" "told" "[Z") wq_1478) (fun _ h9 => h9) rfl dX12_layPlace_147 ?_
            refine lv_iload_n hx hb dX12_layPlace_150 rfl (lv_at hl 1 rfl) ?_
            refine lv_iconst (v := 1) hx hb dX12_layPlace_151 (by decide +kernel) ?_
            obtain ⟨g_185, hF_186⟩ := nif_e hF_184
            clear hF_184
            obtain ⟨σ_187, eσ_187, hF_188⟩ := bnd_e hF_186
            clear hF_186
            refine m_zast (σ' := σ_187) hx hb hK hP (hDD _ _) hS (q0 := 69) (t0 := 4) (f := σ_183.2 122) rfl rfl (by rw [eσ_187]; exact mwA_122) g_185 dX12_layPlace_152 (fun H locs hP hS => ?_)
            exact Jj_60  σ_187 hF_188 _ _ hP hS ls (lv_sub hl [0, 1, 2] rfl)
      refine lv_if_ne (tgt := 98) hx hb dX12_layPlace_84 (by decide) (fun c_190 => ?_) (fun c_190 => ?_)
      · have hF_198 := ineg c_190 hF_44
        clear hF_44
        exact Jj_43  σ_36 hF_198 _ _ hP hS ls (lv_sub hl [0, 1, 2] rfl)
      · have hF_191 := ipos c_190 hF_44
        clear hF_44
        refine lv_aload_n hx hb dX12_layPlace_87 rfl (lv_at hl 0 rfl) ?_
        refine va_get (D := (dC, dI)) (ci := 12) (v := .ref (ad 52)) (C := RX12) (T := TX12) (N := 123) hx hb hts ii_X12 hown hK hP 0 rfl rfl 52 (by decide) (hts (.fieldLink RX12 104 "StoryHouseModel" "toldIn" "[I") wq_1408) (fun _ h9 => h9) rfl dX12_layPlace_88 ?_
        refine lv_iload_n hx hb dX12_layPlace_91 rfl (lv_at hl 2 rfl) ?_
        refine lv_aload_n hx hb dX12_layPlace_92 rfl (lv_at hl 0 rfl) ?_
        refine lv_iload_n hx hb dX12_layPlace_93 rfl (lv_at hl 1 rfl) ?_
        obtain ⟨u_192, hu_192, hF_193⟩ := Option.bind_eq_some_iff.mp hF_191
        clear hF_191
        refine m_ci hsz hS (va_runV (As := [.int p0]) (rest := [.int p1, .ref (ad 52)]) ⟨hx, hb, hml, hown, hts⟩ (m_X12_toldPlace l dC dI cB cC cI cJ cZ cP h qK qS ad hDD H.size  p0 σ_36 _ hu_192) (cwV 1 hts (g_gV wq_1717 wq_1718 wq_2184 wq_13 wq_1719) rfl rfl rfl (by decide +kernel) ⟨Nat.le_of_ble_eq_true rfl, Nat.le_of_ble_eq_true rfl⟩) (m_preV g_bl0 hsz hK hP hS hE hKS g_to0) rfl rfl hl.1 rfl (lv_room (Nat.le_of_ble_eq_true rfl)) dX12_layPlace_94 ⟨Nat.le_of_ble_eq_true rfl, Nat.le_of_ble_eq_true rfl⟩) (fun H locs hP hS => ?_)
        obtain ⟨g_194, hF_195⟩ := nif_e hF_193
        clear hF_193
        obtain ⟨σ_196, eσ_196, hF_197⟩ := bnd_e hF_195
        clear hF_195
        refine m_iast (σ' := σ_196) hx hb hK hP (hDD _ _) hS (q0 := 26) (t0 := 2) (f := u_192.2.2 52) rfl rfl (by rw [eσ_196]; exact mwA_52) g_194 dX12_layPlace_97 (fun H locs hP hS => ?_)
        exact Jj_43  σ_196 hF_197 _ _ hP hS ls (lv_sub hl [0, 1, 2] rfl)
    refine lv_if_eq (tgt := 78) hx hb dX12_layPlace_63 (by decide) (fun c_199 => ?_) (fun c_199 => ?_)
    · have hF_200 := ipos c_199 hF_38
      clear hF_38
      exact Jj_37  σ_32 hF_200 _ _ hP hS ls (lv_sub hl [0, 1, 2] rfl)
    · have hF_201 := ineg c_199 hF_38
      clear hF_38
      refine lv_aload_n hx hb dX12_layPlace_66 rfl (lv_at hl 0 rfl) ?_
      refine va_get (D := (dC, dI)) (ci := 12) (v := .int (σ_32.1 63)) (C := RX12) (T := TX12) (N := 123) hx hb hts ii_X12 hown hK hP 0 rfl rfl 63 (by decide) (hts (.fieldLink RX12 621 "StoryHouseModel" "firstRoom" "I") wq_1419) (fun _ h9 => h9) rfl dX12_layPlace_67 ?_
      refine lv_if_ne (tgt := 78) hx hb dX12_layPlace_70 (by decide) (fun c_202 => ?_) (fun c_202 => ?_)
      · have hF_206 := ineg c_202 hF_201
        clear hF_201
        exact Jj_37  σ_32 hF_206 _ _ hP hS ls (lv_sub hl [0, 1, 2] rfl)
      · have hF_203 := ipos c_202 hF_201
        clear hF_201
        refine lv_aload_n hx hb dX12_layPlace_73 rfl (lv_at hl 0 rfl) ?_
        refine lv_iload_n hx hb dX12_layPlace_74 rfl (lv_at hl 2 rfl) ?_
        obtain ⟨σ_204, eσ_204, hF_205⟩ := bnd_e hF_203
        clear hF_203
        refine m_put (σ' := σ_204) (v := .int p1) (ty := .int) hx hb hts hown hK hP (hDD _ _) hS (by rw [eσ_204]; exact mwI_63) (k := 63) (by decide) (hts (.fieldLink RX12 621 "StoryHouseModel" "firstRoom" "I") wq_1419) (fun _ h9 => h9) rfl (by decide +kernel) rfl rfl dX12_layPlace_75 (fun H locs hP hS => ?_)
        exact Jj_37  σ_204 hF_205 _ _ hP hS ls (lv_sub hl [0, 1, 2] rfl)
  refine lv_icmp_ne (tgt := 55) hx hb dX12_layPlace_48 (by decide) (fun c_207 => ?_) (fun c_207 => ?_)
  · have hF_209 := ineg c_207 hF_28
    clear hF_28
    refine lv_iconst (v := 0) hx hb dX12_layPlace_55 (by decide +kernel) ?_
    exact Jj_27 0 σ_21 hF_209 _ _ hP hS ls (lv_sub hl [0, 1, 2] rfl)
  · have hF_208 := ipos c_207 hF_28
    clear hF_28
    refine lv_iconst (v := 1) hx hb dX12_layPlace_51 (by decide +kernel) ?_
    refine lv_goto (tgt := 56) hx hb dX12_layPlace_52 (by decide) ?_
    exact Jj_27 1 σ_21 hF_208 _ _ hP hS ls (lv_sub hl [0, 1, 2] rfl)
theorem dX12_layOne_0 : decode cX12_layOne 0 = .ok (.aload_n 0, 1) := by decide +kernel
theorem dX12_layOne_1 : decode cX12_layOne 1 = .ok (.getfield 55, 3) := by decide +kernel
theorem dX12_layOne_4 : decode cX12_layOne 4 = .ok (.iload_n 1, 1) := by decide +kernel
theorem dX12_layOne_5 : decode cX12_layOne 5 = .ok (.iaload, 1) := by decide +kernel
theorem dX12_layOne_6 : decode cX12_layOne 6 = .ok (.ifCond .lt 17, 3) := by decide +kernel
theorem dX12_layOne_9 : decode cX12_layOne 9 = .ok (.aload_n 0, 1) := by decide +kernel
theorem dX12_layOne_10 : decode cX12_layOne 10 = .ok (.getfield 55, 3) := by decide +kernel
theorem dX12_layOne_13 : decode cX12_layOne 13 = .ok (.aload_n 0, 1) := by decide +kernel
theorem dX12_layOne_14 : decode cX12_layOne 14 = .ok (.getfield 55, 3) := by decide +kernel
theorem dX12_layOne_17 : decode cX12_layOne 17 = .ok (.iload_n 1, 1) := by decide +kernel
theorem dX12_layOne_18 : decode cX12_layOne 18 = .ok (.iaload, 1) := by decide +kernel
theorem dX12_layOne_19 : decode cX12_layOne 19 = .ok (.iaload, 1) := by decide +kernel
theorem dX12_layOne_20 : decode cX12_layOne 20 = .ok (.goto 4, 3) := by decide +kernel
theorem dX12_layOne_23 : decode cX12_layOne 23 = .ok (.iconst (-1), 1) := by decide +kernel
theorem dX12_layOne_24 : decode cX12_layOne 24 = .ok (.istore_n 2, 1) := by decide +kernel
theorem dX12_layOne_25 : decode cX12_layOne 25 = .ok (.iload_n 2, 1) := by decide +kernel
theorem dX12_layOne_26 : decode cX12_layOne 26 = .ok (.ifCond .lt 12, 3) := by decide +kernel
theorem dX12_layOne_29 : decode cX12_layOne 29 = .ok (.aload_n 0, 1) := by decide +kernel
theorem dX12_layOne_30 : decode cX12_layOne 30 = .ok (.getfield 70, 3) := by decide +kernel
theorem dX12_layOne_33 : decode cX12_layOne 33 = .ok (.iload_n 2, 1) := by decide +kernel
theorem dX12_layOne_34 : decode cX12_layOne 34 = .ok (.iaload, 1) := by decide +kernel
theorem dX12_layOne_35 : decode cX12_layOne 35 = .ok (.goto 4, 3) := by decide +kernel
theorem dX12_layOne_38 : decode cX12_layOne 38 = .ok (.iconst 0, 1) := by decide +kernel
theorem dX12_layOne_39 : decode cX12_layOne 39 = .ok (.istore_n 3, 1) := by decide +kernel
theorem dX12_layOne_40 : decode cX12_layOne 40 = .ok (.aload_n 0, 1) := by decide +kernel
theorem dX12_layOne_41 : decode cX12_layOne 41 = .ok (.getfield 49, 3) := by decide +kernel
theorem dX12_layOne_44 : decode cX12_layOne 44 = .ok (.iload_n 1, 1) := by decide +kernel
theorem dX12_layOne_45 : decode cX12_layOne 45 = .ok (.iaload, 1) := by decide +kernel
theorem dX12_layOne_46 : decode cX12_layOne 46 = .ok (.tableswitch 462 1 8 #[46, 46, 55, 204, 219, 462, 251, 432], 46) := by decide +kernel
theorem dX12_layOne_92 : decode cX12_layOne 92 = .ok (.aload_n 0, 1) := by decide +kernel
theorem dX12_layOne_93 : decode cX12_layOne 93 = .ok (.iload_n 1, 1) := by decide +kernel
theorem dX12_layOne_94 : decode cX12_layOne 94 = .ok (.iload_n 3, 1) := by decide +kernel
theorem dX12_layOne_95 : decode cX12_layOne 95 = .ok (.invokevirtual 650, 3) := by decide +kernel
theorem dX12_layOne_98 : decode cX12_layOne 98 = .ok (.goto 410, 3) := by decide +kernel
theorem dX12_layOne_101 : decode cX12_layOne 101 = .ok (.aload_n 0, 1) := by decide +kernel
theorem dX12_layOne_102 : decode cX12_layOne 102 = .ok (.getfield 125, 3) := by decide +kernel
theorem dX12_layOne_105 : decode cX12_layOne 105 = .ok (.iload_n 3, 1) := by decide +kernel
theorem dX12_layOne_106 : decode cX12_layOne 106 = .ok (.iconst 0, 1) := by decide +kernel
theorem dX12_layOne_107 : decode cX12_layOne 107 = .ok (.iastore, 1) := by decide +kernel
theorem dX12_layOne_108 : decode cX12_layOne 108 = .ok (.aload_n 0, 1) := by decide +kernel
theorem dX12_layOne_109 : decode cX12_layOne 109 = .ok (.getfield 58, 3) := by decide +kernel
theorem dX12_layOne_112 : decode cX12_layOne 112 = .ok (.iload_n 1, 1) := by decide +kernel
theorem dX12_layOne_113 : decode cX12_layOne 113 = .ok (.iaload, 1) := by decide +kernel
theorem dX12_layOne_114 : decode cX12_layOne 114 = .ok (.istore 4, 2) := by decide +kernel
theorem dX12_layOne_116 : decode cX12_layOne 116 = .ok (.iload 4, 2) := by decide +kernel
theorem dX12_layOne_118 : decode cX12_layOne 118 = .ok (.ifCond .lt 60, 3) := by decide +kernel
theorem dX12_layOne_121 : decode cX12_layOne 121 = .ok (.bipush 10, 2) := by decide +kernel
theorem dX12_layOne_123 : decode cX12_layOne 123 = .ok (.iload_n 3, 1) := by decide +kernel
theorem dX12_layOne_124 : decode cX12_layOne 124 = .ok (.imul, 1) := by decide +kernel
theorem dX12_layOne_125 : decode cX12_layOne 125 = .ok (.aload_n 0, 1) := by decide +kernel
theorem dX12_layOne_126 : decode cX12_layOne 126 = .ok (.getfield 125, 3) := by decide +kernel
theorem dX12_layOne_129 : decode cX12_layOne 129 = .ok (.iload_n 3, 1) := by decide +kernel
theorem dX12_layOne_130 : decode cX12_layOne 130 = .ok (.dup2, 1) := by decide +kernel
theorem dX12_layOne_131 : decode cX12_layOne 131 = .ok (.iaload, 1) := by decide +kernel
theorem dX12_layOne_132 : decode cX12_layOne 132 = .ok (.dup_x2, 1) := by decide +kernel
theorem dX12_layOne_133 : decode cX12_layOne 133 = .ok (.iconst 1, 1) := by decide +kernel
theorem dX12_layOne_134 : decode cX12_layOne 134 = .ok (.iadd, 1) := by decide +kernel
theorem dX12_layOne_135 : decode cX12_layOne 135 = .ok (.iastore, 1) := by decide +kernel
theorem dX12_layOne_136 : decode cX12_layOne 136 = .ok (.iadd, 1) := by decide +kernel
theorem dX12_layOne_137 : decode cX12_layOne 137 = .ok (.istore 5, 2) := by decide +kernel
theorem dX12_layOne_139 : decode cX12_layOne 139 = .ok (.aload_n 0, 1) := by decide +kernel
theorem dX12_layOne_140 : decode cX12_layOne 140 = .ok (.getfield 122, 3) := by decide +kernel
theorem dX12_layOne_143 : decode cX12_layOne 143 = .ok (.iload 5, 2) := by decide +kernel
theorem dX12_layOne_145 : decode cX12_layOne 145 = .ok (.aload_n 0, 1) := by decide +kernel
theorem dX12_layOne_146 : decode cX12_layOne 146 = .ok (.aload_n 0, 1) := by decide +kernel
theorem dX12_layOne_147 : decode cX12_layOne 147 = .ok (.getfield 119, 3) := by decide +kernel
theorem dX12_layOne_150 : decode cX12_layOne 150 = .ok (.bipush 9, 2) := by decide +kernel
theorem dX12_layOne_152 : decode cX12_layOne 152 = .ok (.iload 5, 2) := by decide +kernel
theorem dX12_layOne_154 : decode cX12_layOne 154 = .ok (.imul, 1) := by decide +kernel
theorem dX12_layOne_155 : decode cX12_layOne 155 = .ok (.aload_n 0, 1) := by decide +kernel
theorem dX12_layOne_156 : decode cX12_layOne 156 = .ok (.getfield 55, 3) := by decide +kernel
theorem dX12_layOne_159 : decode cX12_layOne 159 = .ok (.iload 4, 2) := by decide +kernel
theorem dX12_layOne_161 : decode cX12_layOne 161 = .ok (.iaload, 1) := by decide +kernel
theorem dX12_layOne_162 : decode cX12_layOne 162 = .ok (.invokevirtual 653, 3) := by decide +kernel
theorem dX12_layOne_165 : decode cX12_layOne 165 = .ok (.iastore, 1) := by decide +kernel
theorem dX12_layOne_166 : decode cX12_layOne 166 = .ok (.aload_n 0, 1) := by decide +kernel
theorem dX12_layOne_167 : decode cX12_layOne 167 = .ok (.getfield 64, 3) := by decide +kernel
theorem dX12_layOne_170 : decode cX12_layOne 170 = .ok (.iload 4, 2) := by decide +kernel
theorem dX12_layOne_172 : decode cX12_layOne 172 = .ok (.iaload, 1) := by decide +kernel
theorem dX12_layOne_173 : decode cX12_layOne 173 = .ok (.istore 4, 2) := by decide +kernel
theorem dX12_layOne_175 : decode cX12_layOne 175 = .ok (.goto (-59), 3) := by decide +kernel
theorem dX12_layOne_178 : decode cX12_layOne 178 = .ok (.aload_n 0, 1) := by decide +kernel
theorem dX12_layOne_179 : decode cX12_layOne 179 = .ok (.getfield 128, 3) := by decide +kernel
theorem dX12_layOne_182 : decode cX12_layOne 182 = .ok (.iload_n 3, 1) := by decide +kernel
theorem dX12_layOne_183 : decode cX12_layOne 183 = .ok (.aload_n 0, 1) := by decide +kernel
theorem dX12_layOne_184 : decode cX12_layOne 184 = .ok (.getfield 55, 3) := by decide +kernel
theorem dX12_layOne_187 : decode cX12_layOne 187 = .ok (.aload_n 0, 1) := by decide +kernel
theorem dX12_layOne_188 : decode cX12_layOne 188 = .ok (.getfield 61, 3) := by decide +kernel
theorem dX12_layOne_191 : decode cX12_layOne 191 = .ok (.iload_n 1, 1) := by decide +kernel
theorem dX12_layOne_192 : decode cX12_layOne 192 = .ok (.iaload, 1) := by decide +kernel
theorem dX12_layOne_193 : decode cX12_layOne 193 = .ok (.iaload, 1) := by decide +kernel
theorem dX12_layOne_194 : decode cX12_layOne 194 = .ok (.iastore, 1) := by decide +kernel
theorem dX12_layOne_195 : decode cX12_layOne 195 = .ok (.aload_n 0, 1) := by decide +kernel
theorem dX12_layOne_196 : decode cX12_layOne 196 = .ok (.getfield 134, 3) := by decide +kernel
theorem dX12_layOne_199 : decode cX12_layOne 199 = .ok (.iload_n 3, 1) := by decide +kernel
theorem dX12_layOne_200 : decode cX12_layOne 200 = .ok (.aload_n 0, 1) := by decide +kernel
theorem dX12_layOne_201 : decode cX12_layOne 201 = .ok (.getfield 58, 3) := by decide +kernel
theorem dX12_layOne_204 : decode cX12_layOne 204 = .ok (.aload_n 0, 1) := by decide +kernel
theorem dX12_layOne_205 : decode cX12_layOne 205 = .ok (.getfield 61, 3) := by decide +kernel
theorem dX12_layOne_208 : decode cX12_layOne 208 = .ok (.iload_n 1, 1) := by decide +kernel
theorem dX12_layOne_209 : decode cX12_layOne 209 = .ok (.iaload, 1) := by decide +kernel
theorem dX12_layOne_210 : decode cX12_layOne 210 = .ok (.iaload, 1) := by decide +kernel
theorem dX12_layOne_211 : decode cX12_layOne 211 = .ok (.ifCond .ge 7, 3) := by decide +kernel
theorem dX12_layOne_214 : decode cX12_layOne 214 = .ok (.iconst 0, 1) := by decide +kernel
theorem dX12_layOne_215 : decode cX12_layOne 215 = .ok (.goto 31, 3) := by decide +kernel
theorem dX12_layOne_218 : decode cX12_layOne 218 = .ok (.aload_n 0, 1) := by decide +kernel
theorem dX12_layOne_219 : decode cX12_layOne 219 = .ok (.aload_n 0, 1) := by decide +kernel
theorem dX12_layOne_220 : decode cX12_layOne 220 = .ok (.getfield 131, 3) := by decide +kernel
theorem dX12_layOne_223 : decode cX12_layOne 223 = .ok (.bipush 9, 2) := by decide +kernel
theorem dX12_layOne_225 : decode cX12_layOne 225 = .ok (.iload_n 3, 1) := by decide +kernel
theorem dX12_layOne_226 : decode cX12_layOne 226 = .ok (.imul, 1) := by decide +kernel
theorem dX12_layOne_227 : decode cX12_layOne 227 = .ok (.aload_n 0, 1) := by decide +kernel
theorem dX12_layOne_228 : decode cX12_layOne 228 = .ok (.getfield 55, 3) := by decide +kernel
theorem dX12_layOne_231 : decode cX12_layOne 231 = .ok (.aload_n 0, 1) := by decide +kernel
theorem dX12_layOne_232 : decode cX12_layOne 232 = .ok (.getfield 58, 3) := by decide +kernel
theorem dX12_layOne_235 : decode cX12_layOne 235 = .ok (.aload_n 0, 1) := by decide +kernel
theorem dX12_layOne_236 : decode cX12_layOne 236 = .ok (.getfield 61, 3) := by decide +kernel
theorem dX12_layOne_239 : decode cX12_layOne 239 = .ok (.iload_n 1, 1) := by decide +kernel
theorem dX12_layOne_240 : decode cX12_layOne 240 = .ok (.iaload, 1) := by decide +kernel
theorem dX12_layOne_241 : decode cX12_layOne 241 = .ok (.iaload, 1) := by decide +kernel
theorem dX12_layOne_242 : decode cX12_layOne 242 = .ok (.iaload, 1) := by decide +kernel
theorem dX12_layOne_243 : decode cX12_layOne 243 = .ok (.invokevirtual 653, 3) := by decide +kernel
theorem dX12_layOne_246 : decode cX12_layOne 246 = .ok (.iastore, 1) := by decide +kernel
theorem dX12_layOne_247 : decode cX12_layOne 247 = .ok (.goto 261, 3) := by decide +kernel
theorem dX12_layOne_250 : decode cX12_layOne 250 = .ok (.aload_n 0, 1) := by decide +kernel
theorem dX12_layOne_251 : decode cX12_layOne 251 = .ok (.getfield 173, 3) := by decide +kernel
theorem dX12_layOne_254 : decode cX12_layOne 254 = .ok (.iload_n 3, 1) := by decide +kernel
theorem dX12_layOne_255 : decode cX12_layOne 255 = .ok (.aload_n 0, 1) := by decide +kernel
theorem dX12_layOne_256 : decode cX12_layOne 256 = .ok (.getfield 58, 3) := by decide +kernel
theorem dX12_layOne_259 : decode cX12_layOne 259 = .ok (.iload_n 1, 1) := by decide +kernel
theorem dX12_layOne_260 : decode cX12_layOne 260 = .ok (.iaload, 1) := by decide +kernel
theorem dX12_layOne_261 : decode cX12_layOne 261 = .ok (.iastore, 1) := by decide +kernel
theorem dX12_layOne_262 : decode cX12_layOne 262 = .ok (.goto 246, 3) := by decide +kernel
theorem dX12_layOne_265 : decode cX12_layOne 265 = .ok (.aload_n 0, 1) := by decide +kernel
theorem dX12_layOne_266 : decode cX12_layOne 266 = .ok (.getfield 176, 3) := by decide +kernel
theorem dX12_layOne_269 : decode cX12_layOne 269 = .ok (.iload_n 3, 1) := by decide +kernel
theorem dX12_layOne_270 : decode cX12_layOne 270 = .ok (.iconst 1, 1) := by decide +kernel
theorem dX12_layOne_271 : decode cX12_layOne 271 = .ok (.iadd, 1) := by decide +kernel
theorem dX12_layOne_272 : decode cX12_layOne 272 = .ok (.iload_n 3, 1) := by decide +kernel
theorem dX12_layOne_273 : decode cX12_layOne 273 = .ok (.ifCond .ne 7, 3) := by decide +kernel
theorem dX12_layOne_276 : decode cX12_layOne 276 = .ok (.iconst 0, 1) := by decide +kernel
theorem dX12_layOne_277 : decode cX12_layOne 277 = .ok (.goto 9, 3) := by decide +kernel
theorem dX12_layOne_280 : decode cX12_layOne 280 = .ok (.aload_n 0, 1) := by decide +kernel
theorem dX12_layOne_281 : decode cX12_layOne 281 = .ok (.getfield 176, 3) := by decide +kernel
theorem dX12_layOne_284 : decode cX12_layOne 284 = .ok (.iload_n 3, 1) := by decide +kernel
theorem dX12_layOne_285 : decode cX12_layOne 285 = .ok (.iaload, 1) := by decide +kernel
theorem dX12_layOne_286 : decode cX12_layOne 286 = .ok (.aload_n 0, 1) := by decide +kernel
theorem dX12_layOne_287 : decode cX12_layOne 287 = .ok (.getfield 58, 3) := by decide +kernel
theorem dX12_layOne_290 : decode cX12_layOne 290 = .ok (.iload_n 1, 1) := by decide +kernel
theorem dX12_layOne_291 : decode cX12_layOne 291 = .ok (.iaload, 1) := by decide +kernel
theorem dX12_layOne_292 : decode cX12_layOne 292 = .ok (.iadd, 1) := by decide +kernel
theorem dX12_layOne_293 : decode cX12_layOne 293 = .ok (.iastore, 1) := by decide +kernel
theorem dX12_layOne_294 : decode cX12_layOne 294 = .ok (.goto 214, 3) := by decide +kernel
theorem dX12_layOne_297 : decode cX12_layOne 297 = .ok (.aload_n 0, 1) := by decide +kernel
theorem dX12_layOne_298 : decode cX12_layOne 298 = .ok (.getfield 155, 3) := by decide +kernel
theorem dX12_layOne_301 : decode cX12_layOne 301 = .ok (.aload_n 0, 1) := by decide +kernel
theorem dX12_layOne_302 : decode cX12_layOne 302 = .ok (.getfield 615, 3) := by decide +kernel
theorem dX12_layOne_305 : decode cX12_layOne 305 = .ok (.iload_n 3, 1) := by decide +kernel
theorem dX12_layOne_306 : decode cX12_layOne 306 = .ok (.iastore, 1) := by decide +kernel
theorem dX12_layOne_307 : decode cX12_layOne 307 = .ok (.aload_n 0, 1) := by decide +kernel
theorem dX12_layOne_308 : decode cX12_layOne 308 = .ok (.getfield 158, 3) := by decide +kernel
theorem dX12_layOne_311 : decode cX12_layOne 311 = .ok (.aload_n 0, 1) := by decide +kernel
theorem dX12_layOne_312 : decode cX12_layOne 312 = .ok (.getfield 615, 3) := by decide +kernel
theorem dX12_layOne_315 : decode cX12_layOne 315 = .ok (.iconst 0, 1) := by decide +kernel
theorem dX12_layOne_316 : decode cX12_layOne 316 = .ok (.iastore, 1) := by decide +kernel
theorem dX12_layOne_317 : decode cX12_layOne 317 = .ok (.aload_n 0, 1) := by decide +kernel
theorem dX12_layOne_318 : decode cX12_layOne 318 = .ok (.getfield 58, 3) := by decide +kernel
theorem dX12_layOne_321 : decode cX12_layOne 321 = .ok (.iload_n 1, 1) := by decide +kernel
theorem dX12_layOne_322 : decode cX12_layOne 322 = .ok (.iaload, 1) := by decide +kernel
theorem dX12_layOne_323 : decode cX12_layOne 323 = .ok (.istore 4, 2) := by decide +kernel
theorem dX12_layOne_325 : decode cX12_layOne 325 = .ok (.iload 4, 2) := by decide +kernel
theorem dX12_layOne_327 : decode cX12_layOne 327 = .ok (.ifCond .lt 121, 3) := by decide +kernel
theorem dX12_layOne_330 : decode cX12_layOne 330 = .ok (.aload_n 0, 1) := by decide +kernel
theorem dX12_layOne_331 : decode cX12_layOne 331 = .ok (.getfield 55, 3) := by decide +kernel
theorem dX12_layOne_334 : decode cX12_layOne 334 = .ok (.iload 4, 2) := by decide +kernel
theorem dX12_layOne_336 : decode cX12_layOne 336 = .ok (.iaload, 1) := by decide +kernel
theorem dX12_layOne_337 : decode cX12_layOne 337 = .ok (.ifCond .ne 7, 3) := by decide +kernel
theorem dX12_layOne_340 : decode cX12_layOne 340 = .ok (.iconst (-1), 1) := by decide +kernel
theorem dX12_layOne_341 : decode cX12_layOne 341 = .ok (.goto 51, 3) := by decide +kernel
theorem dX12_layOne_344 : decode cX12_layOne 344 = .ok (.aload_n 0, 1) := by decide +kernel
theorem dX12_layOne_345 : decode cX12_layOne 345 = .ok (.getfield 55, 3) := by decide +kernel
theorem dX12_layOne_348 : decode cX12_layOne 348 = .ok (.iload 4, 2) := by decide +kernel
theorem dX12_layOne_350 : decode cX12_layOne 350 = .ok (.iaload, 1) := by decide +kernel
theorem dX12_layOne_351 : decode cX12_layOne 351 = .ok (.iconst 3, 1) := by decide +kernel
theorem dX12_layOne_352 : decode cX12_layOne 352 = .ok (.if_icmp .ne 13, 3) := by decide +kernel
theorem dX12_layOne_355 : decode cX12_layOne 355 = .ok (.aload_n 0, 1) := by decide +kernel
theorem dX12_layOne_356 : decode cX12_layOne 356 = .ok (.getfield 58, 3) := by decide +kernel
theorem dX12_layOne_359 : decode cX12_layOne 359 = .ok (.iload 4, 2) := by decide +kernel
theorem dX12_layOne_361 : decode cX12_layOne 361 = .ok (.iaload, 1) := by decide +kernel
theorem dX12_layOne_362 : decode cX12_layOne 362 = .ok (.goto 30, 3) := by decide +kernel
theorem dX12_layOne_365 : decode cX12_layOne 365 = .ok (.aload_n 0, 1) := by decide +kernel
theorem dX12_layOne_366 : decode cX12_layOne 366 = .ok (.getfield 55, 3) := by decide +kernel
theorem dX12_layOne_369 : decode cX12_layOne 369 = .ok (.iload 4, 2) := by decide +kernel
theorem dX12_layOne_371 : decode cX12_layOne 371 = .ok (.iaload, 1) := by decide +kernel
theorem dX12_layOne_372 : decode cX12_layOne 372 = .ok (.iconst 2, 1) := by decide +kernel
theorem dX12_layOne_373 : decode cX12_layOne 373 = .ok (.if_icmp .ne 7, 3) := by decide +kernel
theorem dX12_layOne_376 : decode cX12_layOne 376 = .ok (.iconst 1, 1) := by decide +kernel
theorem dX12_layOne_377 : decode cX12_layOne 377 = .ok (.goto 15, 3) := by decide +kernel
theorem dX12_layOne_380 : decode cX12_layOne 380 = .ok (.aload_n 0, 1) := by decide +kernel
theorem dX12_layOne_381 : decode cX12_layOne 381 = .ok (.getfield 70, 3) := by decide +kernel
theorem dX12_layOne_384 : decode cX12_layOne 384 = .ok (.aload_n 0, 1) := by decide +kernel
theorem dX12_layOne_385 : decode cX12_layOne 385 = .ok (.getfield 58, 3) := by decide +kernel
theorem dX12_layOne_388 : decode cX12_layOne 388 = .ok (.iload 4, 2) := by decide +kernel
theorem dX12_layOne_390 : decode cX12_layOne 390 = .ok (.iaload, 1) := by decide +kernel
theorem dX12_layOne_391 : decode cX12_layOne 391 = .ok (.iaload, 1) := by decide +kernel
theorem dX12_layOne_392 : decode cX12_layOne 392 = .ok (.istore 5, 2) := by decide +kernel
theorem dX12_layOne_394 : decode cX12_layOne 394 = .ok (.aload_n 0, 1) := by decide +kernel
theorem dX12_layOne_395 : decode cX12_layOne 395 = .ok (.getfield 158, 3) := by decide +kernel
theorem dX12_layOne_398 : decode cX12_layOne 398 = .ok (.aload_n 0, 1) := by decide +kernel
theorem dX12_layOne_399 : decode cX12_layOne 399 = .ok (.getfield 615, 3) := by decide +kernel
theorem dX12_layOne_402 : decode cX12_layOne 402 = .ok (.dup2, 1) := by decide +kernel
theorem dX12_layOne_403 : decode cX12_layOne 403 = .ok (.iaload, 1) := by decide +kernel
theorem dX12_layOne_404 : decode cX12_layOne 404 = .ok (.dup_x2, 1) := by decide +kernel
theorem dX12_layOne_405 : decode cX12_layOne 405 = .ok (.iconst 1, 1) := by decide +kernel
theorem dX12_layOne_406 : decode cX12_layOne 406 = .ok (.iadd, 1) := by decide +kernel
theorem dX12_layOne_407 : decode cX12_layOne 407 = .ok (.iastore, 1) := by decide +kernel
theorem dX12_layOne_408 : decode cX12_layOne 408 = .ok (.ifCond .ne 17, 3) := by decide +kernel
theorem dX12_layOne_411 : decode cX12_layOne 411 = .ok (.aload_n 0, 1) := by decide +kernel
theorem dX12_layOne_412 : decode cX12_layOne 412 = .ok (.getfield 161, 3) := by decide +kernel
theorem dX12_layOne_415 : decode cX12_layOne 415 = .ok (.aload_n 0, 1) := by decide +kernel
theorem dX12_layOne_416 : decode cX12_layOne 416 = .ok (.getfield 615, 3) := by decide +kernel
theorem dX12_layOne_419 : decode cX12_layOne 419 = .ok (.iload 5, 2) := by decide +kernel
theorem dX12_layOne_421 : decode cX12_layOne 421 = .ok (.iastore, 1) := by decide +kernel
theorem dX12_layOne_422 : decode cX12_layOne 422 = .ok (.goto 14, 3) := by decide +kernel
theorem dX12_layOne_425 : decode cX12_layOne 425 = .ok (.aload_n 0, 1) := by decide +kernel
theorem dX12_layOne_426 : decode cX12_layOne 426 = .ok (.getfield 164, 3) := by decide +kernel
theorem dX12_layOne_429 : decode cX12_layOne 429 = .ok (.aload_n 0, 1) := by decide +kernel
theorem dX12_layOne_430 : decode cX12_layOne 430 = .ok (.getfield 615, 3) := by decide +kernel
theorem dX12_layOne_433 : decode cX12_layOne 433 = .ok (.iload 5, 2) := by decide +kernel
theorem dX12_layOne_435 : decode cX12_layOne 435 = .ok (.iastore, 1) := by decide +kernel
theorem dX12_layOne_436 : decode cX12_layOne 436 = .ok (.aload_n 0, 1) := by decide +kernel
theorem dX12_layOne_437 : decode cX12_layOne 437 = .ok (.getfield 64, 3) := by decide +kernel
theorem dX12_layOne_440 : decode cX12_layOne 440 = .ok (.iload 4, 2) := by decide +kernel
theorem dX12_layOne_442 : decode cX12_layOne 442 = .ok (.iaload, 1) := by decide +kernel
theorem dX12_layOne_443 : decode cX12_layOne 443 = .ok (.istore 4, 2) := by decide +kernel
theorem dX12_layOne_445 : decode cX12_layOne 445 = .ok (.goto (-120), 3) := by decide +kernel
theorem dX12_layOne_448 : decode cX12_layOne 448 = .ok (.aload_n 0, 1) := by decide +kernel
theorem dX12_layOne_449 : decode cX12_layOne 449 = .ok (.getfield 167, 3) := by decide +kernel
theorem dX12_layOne_452 : decode cX12_layOne 452 = .ok (.aload_n 0, 1) := by decide +kernel
theorem dX12_layOne_453 : decode cX12_layOne 453 = .ok (.dup, 1) := by decide +kernel
theorem dX12_layOne_454 : decode cX12_layOne 454 = .ok (.getfield 615, 3) := by decide +kernel
theorem dX12_layOne_457 : decode cX12_layOne 457 = .ok (.dup_x1, 1) := by decide +kernel
theorem dX12_layOne_458 : decode cX12_layOne 458 = .ok (.iconst 1, 1) := by decide +kernel
theorem dX12_layOne_459 : decode cX12_layOne 459 = .ok (.iadd, 1) := by decide +kernel
theorem dX12_layOne_460 : decode cX12_layOne 460 = .ok (.putfield 615, 3) := by decide +kernel
theorem dX12_layOne_463 : decode cX12_layOne 463 = .ok (.aload_n 0, 1) := by decide +kernel
theorem dX12_layOne_464 : decode cX12_layOne 464 = .ok (.getfield 55, 3) := by decide +kernel
theorem dX12_layOne_467 : decode cX12_layOne 467 = .ok (.aload_n 0, 1) := by decide +kernel
theorem dX12_layOne_468 : decode cX12_layOne 468 = .ok (.getfield 61, 3) := by decide +kernel
theorem dX12_layOne_471 : decode cX12_layOne 471 = .ok (.iload_n 1, 1) := by decide +kernel
theorem dX12_layOne_472 : decode cX12_layOne 472 = .ok (.iaload, 1) := by decide +kernel
theorem dX12_layOne_473 : decode cX12_layOne 473 = .ok (.iaload, 1) := by decide +kernel
theorem dX12_layOne_474 : decode cX12_layOne 474 = .ok (.iastore, 1) := by decide +kernel
theorem dX12_layOne_475 : decode cX12_layOne 475 = .ok (.goto 33, 3) := by decide +kernel
theorem dX12_layOne_478 : decode cX12_layOne 478 = .ok (.aload_n 0, 1) := by decide +kernel
theorem dX12_layOne_479 : decode cX12_layOne 479 = .ok (.getfield 170, 3) := by decide +kernel
theorem dX12_layOne_482 : decode cX12_layOne 482 = .ok (.aload_n 0, 1) := by decide +kernel
theorem dX12_layOne_483 : decode cX12_layOne 483 = .ok (.dup, 1) := by decide +kernel
theorem dX12_layOne_484 : decode cX12_layOne 484 = .ok (.getfield 618, 3) := by decide +kernel
theorem dX12_layOne_487 : decode cX12_layOne 487 = .ok (.dup_x1, 1) := by decide +kernel
theorem dX12_layOne_488 : decode cX12_layOne 488 = .ok (.iconst 1, 1) := by decide +kernel
theorem dX12_layOne_489 : decode cX12_layOne 489 = .ok (.iadd, 1) := by decide +kernel
theorem dX12_layOne_490 : decode cX12_layOne 490 = .ok (.putfield 618, 3) := by decide +kernel
theorem dX12_layOne_493 : decode cX12_layOne 493 = .ok (.aload_n 0, 1) := by decide +kernel
theorem dX12_layOne_494 : decode cX12_layOne 494 = .ok (.getfield 55, 3) := by decide +kernel
theorem dX12_layOne_497 : decode cX12_layOne 497 = .ok (.aload_n 0, 1) := by decide +kernel
theorem dX12_layOne_498 : decode cX12_layOne 498 = .ok (.getfield 61, 3) := by decide +kernel
theorem dX12_layOne_501 : decode cX12_layOne 501 = .ok (.iload_n 1, 1) := by decide +kernel
theorem dX12_layOne_502 : decode cX12_layOne 502 = .ok (.iaload, 1) := by decide +kernel
theorem dX12_layOne_503 : decode cX12_layOne 503 = .ok (.iaload, 1) := by decide +kernel
theorem dX12_layOne_504 : decode cX12_layOne 504 = .ok (.iastore, 1) := by decide +kernel
theorem dX12_layOne_505 : decode cX12_layOne 505 = .ok (.goto 3, 3) := by decide +kernel
theorem dX12_layOne_508 : decode cX12_layOne 508 = .ok (.return_, 1) := by decide +kernel
def F_X12_layOne (p0 : Int32) (σ : MS) : MR :=
  if p0 < 0 ∨ 40000 ≤ p0.toNatClampNeg then none else
  bnd (fun (t_3 : Int32) (σ_4 : MS) => (
    bnd (fun (t_8 : Int32) (σ_9 : MS) => (
      if p0 < 0 ∨ 40000 ≤ p0.toNatClampNeg then none else
      bnd ((σ_9.2 17 p0.toNatClampNeg)) fun (x_15 : Int32) =>
      if x_15 = 1 ∨ x_15 = 2 then (
        (F_X12_layPlace p0 t_8 σ_9).bind fun u_19 =>
        some (0, u_19.2)
      ) else
      if x_15 = 3 then (
        if t_8 < 0 ∨ 61 ≤ t_8.toNatClampNeg then none else
        bnd (mA σ_9 59 (upd (σ_9.2 59) t_8.toNatClampNeg 0)) fun σ_26 =>
        if p0 < 0 ∨ 40000 ≤ p0.toNatClampNeg then none else
        bnd ((σ_26.2 20 p0.toNatClampNeg)) fun (x_30 : Int32) =>
        loopF (fun (again_33 : (Int32 × MS) → MR) (s_32 : Int32 × MS) => (
          if s_32.1 < 0 then (
            if p0 < 0 ∨ 40000 ≤ p0.toNatClampNeg then none else
            bnd ((s_32.2.2 21 p0.toNatClampNeg)) fun (x_40 : Int32) =>
            if x_40 < 0 ∨ 40000 ≤ x_40.toNatClampNeg then none else
            bnd ((s_32.2.2 19 x_40.toNatClampNeg)) fun (x_44 : Int32) =>
            if t_8 < 0 ∨ 61 ≤ t_8.toNatClampNeg then none else
            bnd (mA s_32.2 60 (upd (s_32.2.2 60) t_8.toNatClampNeg x_44)) fun σ_48 =>
            if p0 < 0 ∨ 40000 ≤ p0.toNatClampNeg then none else
            bnd ((σ_48.2 21 p0.toNatClampNeg)) fun (x_52 : Int32) =>
            if x_52 < 0 ∨ 40000 ≤ x_52.toNatClampNeg then none else
            bnd (fun (t_56 : Int32) (σ_57 : MS) => (
              if t_8 < 0 ∨ 61 ≤ t_8.toNatClampNeg then none else
              bnd (mA σ_57 62 (upd (σ_57.2 62) t_8.toNatClampNeg t_56)) fun σ_63 =>
              some (0, σ_63)
            ) : Int32 → MS → MR) fun j_58 =>
            if 0 ≤ (σ_48.2 20 x_52.toNatClampNeg) then (
              if p0 < 0 ∨ 40000 ≤ p0.toNatClampNeg then none else
              bnd ((σ_48.2 21 p0.toNatClampNeg)) fun (x_69 : Int32) =>
              if x_69 < 0 ∨ 40000 ≤ x_69.toNatClampNeg then none else
              bnd ((σ_48.2 20 x_69.toNatClampNeg)) fun (x_73 : Int32) =>
              if x_73 < 0 ∨ 40000 ≤ x_73.toNatClampNeg then none else
              (F_X12_wordTo_between (9 * t_8) (σ_48.2 19 x_73.toNatClampNeg) σ_48).bind fun u_77 =>
              j_58 u_77.1 u_77.2
            ) else (
              j_58 0 σ_48
            )
          ) else (
            if t_8 < 0 ∨ 61 ≤ t_8.toNatClampNeg then none else
            bnd (((s_32.2.2 59 t_8.toNatClampNeg) + 1)) fun (x_83 : Int32) =>
            if t_8 < 0 ∨ 61 ≤ t_8.toNatClampNeg then none else
            bnd (mA s_32.2 59 (upd (s_32.2.2 59) t_8.toNatClampNeg x_83)) fun σ_87 =>
            bnd (((10 * t_8) + (s_32.2.2 59 t_8.toNatClampNeg))) fun (x_89 : Int32) =>
            if s_32.1 < 0 ∨ 40000 ≤ s_32.1.toNatClampNeg then none else
            (F_X12_wordTo_verbBytes (9 * x_89) (σ_87.2 19 s_32.1.toNatClampNeg) σ_87).bind fun u_93 =>
            if x_89 < 0 ∨ 610 ≤ x_89.toNatClampNeg then none else
            bnd (mA u_93.2 58 (upd (u_93.2.2 58) x_89.toNatClampNeg u_93.1)) fun σ_97 =>
            if s_32.1 < 0 ∨ 40000 ≤ s_32.1.toNatClampNeg then none else
            bnd ((σ_97.2 22 s_32.1.toNatClampNeg)) fun (x_101 : Int32) =>
            again_33 (x_101, σ_97)
          )
        )) FU (x_30, σ_26)
      ) else
      if x_15 = 4 then (
        if p0 < 0 ∨ 40000 ≤ p0.toNatClampNeg then none else
        if t_8 < 0 ∨ 100 ≤ t_8.toNatClampNeg then none else
        bnd (mA σ_9 76 (upd (σ_9.2 76) t_8.toNatClampNeg (σ_9.2 20 p0.toNatClampNeg))) fun σ_110 =>
        some (0, σ_110)
      ) else
      if x_15 = 5 then (
        bnd (fun (t_115 : Int32) (σ_116 : MS) => (
          if p0 < 0 ∨ 40000 ≤ p0.toNatClampNeg then none else
          bnd ((t_115 + (σ_116.2 20 p0.toNatClampNeg))) fun (x_122 : Int32) =>
          if (t_8 + 1) < 0 ∨ 21 ≤ (t_8 + 1).toNatClampNeg then none else
          bnd (mA σ_116 77 (upd (σ_116.2 77) (t_8 + 1).toNatClampNeg x_122)) fun σ_126 =>
          some (0, σ_126)
        ) : Int32 → MS → MR) fun j_117 =>
        if t_8 = 0 then (
          j_117 0 σ_9
        ) else (
          if t_8 < 0 ∨ 21 ≤ t_8.toNatClampNeg then none else
          j_117 (σ_9.2 77 t_8.toNatClampNeg) σ_9
        )
      ) else
      if x_15 = 7 then (
        if (σ_9.1 83) < 0 ∨ 200 ≤ (σ_9.1 83).toNatClampNeg then none else
        bnd (mA σ_9 70 (upd (σ_9.2 70) (σ_9.1 83).toNatClampNeg t_8)) fun σ_138 =>
        if (σ_138.1 83) < 0 ∨ 200 ≤ (σ_138.1 83).toNatClampNeg then none else
        bnd (mA σ_138 71 (upd (σ_138.2 71) (σ_138.1 83).toNatClampNeg 0)) fun σ_142 =>
        if p0 < 0 ∨ 40000 ≤ p0.toNatClampNeg then none else
        bnd ((σ_142.2 20 p0.toNatClampNeg)) fun (x_146 : Int32) =>
        loopF (fun (again_149 : (Int32 × MS) → MR) (s_148 : Int32 × MS) => (
          if s_148.1 < 0 then (
            bnd (mI s_148.2 83 ((s_148.2.1 83) + 1)) fun σ_154 =>
            if p0 < 0 ∨ 40000 ≤ p0.toNatClampNeg then none else
            bnd ((σ_154.2 21 p0.toNatClampNeg)) fun (x_158 : Int32) =>
            if x_158 < 0 ∨ 40000 ≤ x_158.toNatClampNeg then none else
            bnd ((σ_154.2 19 x_158.toNatClampNeg)) fun (x_162 : Int32) =>
            if (s_148.2.1 83) < 0 ∨ 200 ≤ (s_148.2.1 83).toNatClampNeg then none else
            bnd (mA σ_154 74 (upd (σ_154.2 74) (s_148.2.1 83).toNatClampNeg x_162)) fun σ_166 =>
            some (0, σ_166)
          ) else (
            if s_148.1 < 0 ∨ 40000 ≤ s_148.1.toNatClampNeg then none else
            bnd (fun (t_171 : Int32) (σ_172 : MS) => (
              bnd ((σ_172.1 83)) fun (x_176 : Int32) =>
              if x_176 < 0 ∨ 200 ≤ x_176.toNatClampNeg then none else
              bnd (((σ_172.2 71 x_176.toNatClampNeg) + 1)) fun (x_180 : Int32) =>
              if (σ_172.1 83) < 0 ∨ 200 ≤ (σ_172.1 83).toNatClampNeg then none else
              bnd (mA σ_172 71 (upd (σ_172.2 71) (σ_172.1 83).toNatClampNeg x_180)) fun σ_184 =>
              bnd (fun  (σ_186 : MS) => (
                if s_148.1 < 0 ∨ 40000 ≤ s_148.1.toNatClampNeg then none else
                bnd ((σ_186.2 22 s_148.1.toNatClampNeg)) fun (x_192 : Int32) =>
                again_149 (x_192, σ_186)
              ) : MS → MR) fun j_187 =>
              if (σ_172.2 71 x_176.toNatClampNeg) = 0 then (
                if (σ_184.1 83) < 0 ∨ 200 ≤ (σ_184.1 83).toNatClampNeg then none else
                bnd (mA σ_184 72 (upd (σ_184.2 72) (σ_184.1 83).toNatClampNeg t_171)) fun σ_198 =>
                j_187  σ_198
              ) else (
                if (σ_184.1 83) < 0 ∨ 200 ≤ (σ_184.1 83).toNatClampNeg then none else
                bnd (mA σ_184 73 (upd (σ_184.2 73) (σ_184.1 83).toNatClampNeg t_171)) fun σ_203 =>
                j_187  σ_203
              )
            ) : Int32 → MS → MR) fun j_173 =>
            if (s_148.2.2 19 s_148.1.toNatClampNeg) = 0 then (
              j_173 (-1) s_148.2
            ) else (
              if s_148.1 < 0 ∨ 40000 ≤ s_148.1.toNatClampNeg then none else
              if (s_148.2.2 19 s_148.1.toNatClampNeg) = 3 then (
                if s_148.1 < 0 ∨ 40000 ≤ s_148.1.toNatClampNeg then none else
                j_173 (s_148.2.2 20 s_148.1.toNatClampNeg) s_148.2
              ) else (
                if s_148.1 < 0 ∨ 40000 ≤ s_148.1.toNatClampNeg then none else
                if (s_148.2.2 19 s_148.1.toNatClampNeg) = 2 then (
                  j_173 1 s_148.2
                ) else (
                  if s_148.1 < 0 ∨ 40000 ≤ s_148.1.toNatClampNeg then none else
                  bnd ((s_148.2.2 20 s_148.1.toNatClampNeg)) fun (x_222 : Int32) =>
                  if x_222 < 0 ∨ 8000 ≤ x_222.toNatClampNeg then none else
                  j_173 (s_148.2.2 29 x_222.toNatClampNeg) s_148.2
                )
              )
            )
          )
        )) FU (x_146, σ_142)
      ) else
      if x_15 = 8 then (
        bnd (mI σ_9 84 ((σ_9.1 84) + 1)) fun σ_229 =>
        if p0 < 0 ∨ 40000 ≤ p0.toNatClampNeg then none else
        bnd ((σ_229.2 21 p0.toNatClampNeg)) fun (x_233 : Int32) =>
        if x_233 < 0 ∨ 40000 ≤ x_233.toNatClampNeg then none else
        bnd ((σ_229.2 19 x_233.toNatClampNeg)) fun (x_237 : Int32) =>
        if (σ_9.1 84) < 0 ∨ 20 ≤ (σ_9.1 84).toNatClampNeg then none else
        bnd (mA σ_229 75 (upd (σ_229.2 75) (σ_9.1 84).toNatClampNeg x_237)) fun σ_241 =>
        some (0, σ_241)
      ) else
      (
        some (0, σ_9)
      )
    ) : Int32 → MS → MR) fun j_10 =>
    if t_3 < 0 then (
      j_10 0 σ_4
    ) else (
      if t_3 < 0 ∨ 8000 ≤ t_3.toNatClampNeg then none else
      j_10 (σ_4.2 29 t_3.toNatClampNeg) σ_4
    )
  ) : Int32 → MS → MR) fun j_5 =>
  if (σ.2 19 p0.toNatClampNeg) < 0 then (
    j_5 (-1) σ
  ) else (
    if p0 < 0 ∨ 40000 ≤ p0.toNatClampNeg then none else
    bnd ((σ.2 19 p0.toNatClampNeg)) fun (x_254 : Int32) =>
    if x_254 < 0 ∨ 40000 ≤ x_254.toNatClampNeg then none else
    j_5 (σ.2 19 x_254.toNatClampNeg) σ
  )
set_option maxHeartbeats 4000000 in
set_option maxRecDepth 100000 in
theorem m_X12_layOne (l : Launch) (dC : Nat → ClassId) (dI : Nat → Nat → Nat) (cB cC cI cJ cZ cP : ClassId) (h qK qS : Nat) (ad : Nat → Nat) (hDD : mDis cB cI cZ h qK qS ad) (sz : Nat)  (p0 : Int32) (σ : MS) (res : Int32 × MS) (hF : F_X12_layOne p0 σ = some res) : Met l yX12_layOne (g_ws yX12_layOne cX12_layOne 6 none) ({ frames := 4, cells := 0, slots := 0, locals := 111 }) (va_Pc [.ref h, .int p0] (m_B (dC, dI) [(cB, .byte), (cC, .char), (cI, .int), (cJ, .long), (cZ, .boolean), (cP, .object "StoryHouse$Play")] sz h ad qK qS (mW cB cI cZ h qK qS ad σ) g_0)) (va_Qv (fun (_ : Unit) => True) (fun _ t => va_P (dC, dI) vwCl (mW cB cI cZ h qK qS ad res.2) t.heap) (mCells h ad sz)) 0 0 (mCells h ad sz) := by
  refine Met.ofW (cc := cX12_layOne) (maxL := 6) (ret := none) (by decide) rfl ?_
  intro p e s m args below meth c s₁ B hml hv
  obtain ⟨rfl, hsz, hP, hK, hE, hKS, hX⟩ := hv
  have hx := B.exec
  have hb := B.bytes
  have hr := B.returns
  have hts0 := atoms_spec (ws := g_ws yX12_layOne cX12_layOne 6 none) B.pre
  have hts : ∀ w ∈ lw_good, w.before ([.ref h, .int p0] : List Value).toArray s = true := fun w z => hts0 w (List.mem_cons_of_mem _ z)
  have hown : s.vm.findClass RX12 = some m.cls := findClass_of_methodNamed B.named
  have hlocks := B.notSynchronized
  have hS : va_S (mCells h ad sz) s.heap s.heap [] := va_S.rf
  have hl := lv_entry ([.ref h, .int p0]) (n := 6) (Nat.le_of_ble_eq_true rfl)
  rw [lg_entry_eq]
  generalize (lg_sl ([.ref h, .int p0]) ++ List.replicate (6 - (lg_sl ([.ref h, .int p0])).length) Slot.unset).toArray = ls at hl ⊢
  have hl : lv_has ls 6 [(0, .ref h), (1, .int p0)] := hl
  unfold F_X12_layOne at hF
  refine lv_aload_n hx hb dX12_layOne_0 rfl (lv_at hl 0 rfl) ?_
  refine va_get (D := (dC, dI)) (ci := 12) (v := .ref (ad 19)) (C := RX12) (T := TX12) (N := 123) hx hb hts ii_X12 hown hK hP 0 rfl rfl 19 (by decide) (hts (.fieldLink RX12 55 "StoryHouseModel" "a" "[I") wq_1375) (fun _ h9 => h9) rfl dX12_layOne_1 ?_
  refine lv_iload_n hx hb dX12_layOne_4 rfl (lv_at hl 1 rfl) ?_
  obtain ⟨g_1, hF_2⟩ := nif_e hF
  clear hF
  refine va_iald (f := σ.2 19) hx hb hK hP 10 2 rfl rfl g_1 dX12_layOne_5 ?_
  obtain ⟨j_5, ej_5, hF_6⟩ := bnd_e hF_2
  clear hF_2
  have Jj_5 : ∀ (t_3 : Int32) (σ_4 : MS), j_5 t_3 σ_4 = some res → ∀ (H : Heap) (locs : List Loc), va_P (dC, dI) vwCl (mW cB cI cZ h qK qS ad σ_4) H → va_S (mCells h ad sz) s.heap H locs → ∀ ls : Array Slot, lv_has ls 6 [(0, .ref h), (1, .int p0)] → W p l e (headSpec (g_ws yX12_layOne cX12_layOne 6 none) { frames := 4, cells := 0, slots := 0, locals := 111 }).room s m ([.ref h, .int p0] : List Value).toArray below meth c H locs 0 0 (MQ below (va_Qv (fun (_ : Unit) => True) (fun _ t => va_P (dC, dI) vwCl (mW cB cI cZ h qK qS ad res.2) t.heap) (mCells h ad sz)) ([.ref h, .int p0] : List Value).toArray s 0 0 (mCells h ad sz)) (F0 m 24 ls [.int t_3]) := by
    intro t_3 σ_4 hF0 H locs hP hS ls hl
    subst ej_5
    have hF_7 := hF0
    clear hF0
    refine lv_istore_n (lv' := [(2, .int t_3), (0, .ref h), (1, .int p0)]) hx hb dX12_layOne_24 rfl hl (by decide) rfl (fun ls hl => ?_)
    refine lv_iload_n hx hb dX12_layOne_25 rfl (lv_at hl 0 rfl) ?_
    obtain ⟨j_10, ej_10, hF_11⟩ := bnd_e hF_7
    clear hF_7
    have Jj_10 : ∀ (t_8 : Int32) (σ_9 : MS), j_10 t_8 σ_9 = some res → ∀ (H : Heap) (locs : List Loc), va_P (dC, dI) vwCl (mW cB cI cZ h qK qS ad σ_9) H → va_S (mCells h ad sz) s.heap H locs → ∀ ls : Array Slot, lv_has ls 6 [(0, .ref h), (1, .int p0)] → W p l e (headSpec (g_ws yX12_layOne cX12_layOne 6 none) { frames := 4, cells := 0, slots := 0, locals := 111 }).room s m ([.ref h, .int p0] : List Value).toArray below meth c H locs 0 0 (MQ below (va_Qv (fun (_ : Unit) => True) (fun _ t => va_P (dC, dI) vwCl (mW cB cI cZ h qK qS ad res.2) t.heap) (mCells h ad sz)) ([.ref h, .int p0] : List Value).toArray s 0 0 (mCells h ad sz)) (F0 m 39 ls [.int t_8]) := by
      intro t_8 σ_9 hF0 H locs hP hS ls hl
      subst ej_10
      have hF_12 := hF0
      clear hF0
      refine lv_istore_n (lv' := [(3, .int t_8), (0, .ref h), (1, .int p0)]) hx hb dX12_layOne_39 rfl hl (by decide) rfl (fun ls hl => ?_)
      refine lv_aload_n hx hb dX12_layOne_40 rfl (lv_at hl 1 rfl) ?_
      refine va_get (D := (dC, dI)) (ci := 12) (v := .ref (ad 17)) (C := RX12) (T := TX12) (N := 123) hx hb hts ii_X12 hown hK hP 0 rfl rfl 17 (by decide) (hts (.fieldLink RX12 49 "StoryHouseModel" "what" "[I") wq_1373) (fun _ h9 => h9) rfl dX12_layOne_41 ?_
      refine lv_iload_n hx hb dX12_layOne_44 rfl (lv_at hl 2 rfl) ?_
      obtain ⟨g_13, hF_14⟩ := nif_e hF_12
      clear hF_12
      refine va_iald (f := σ_9.2 17) hx hb hK hP 8 2 rfl rfl g_13 dX12_layOne_45 ?_
      obtain ⟨x_15, ex_15, hF_16⟩ := bnd_e hF_14
      clear hF_14
      refine m_top ex_15 ?_
      by_cases c_17 : x_15 = 1 ∨ x_15 = 2
      · have hF_18 := ipos c_17 hF_16
        clear hF_16
        refine lv_tableIn (off := 46) (tgt := 92) hx hb dX12_layOne_46 (by rcases c_17 with q9 | q9 <;> (rw [q9]; decide +kernel)) (by rcases c_17 with q9 | q9 <;> (rw [q9]; decide +kernel)) (by rcases c_17 with q9 | q9 <;> (rw [q9]; decide +kernel)) (by decide) ?_
        refine lv_aload_n hx hb dX12_layOne_92 rfl (lv_at hl 1 rfl) ?_
        refine lv_iload_n hx hb dX12_layOne_93 rfl (lv_at hl 2 rfl) ?_
        refine lv_iload_n hx hb dX12_layOne_94 rfl (lv_at hl 0 rfl) ?_
        obtain ⟨u_19, hu_19, hF_20⟩ := Option.bind_eq_some_iff.mp hF_18
        clear hF_18
        refine m_cv hsz hS (va_runV (As := [.int p0, .int t_8]) (rest := []) ⟨hx, hb, hml, hown, hts⟩ (m_X12_layPlace l dC dI cB cC cI cJ cZ cP h qK qS ad hDD H.size  p0 t_8 σ_9 _ hu_19) (cwV 2 hts (g_gV wq_1732 wq_1733 wq_2189 wq_13 wq_1734) rfl rfl rfl (by decide +kernel) ⟨Nat.le_of_ble_eq_true rfl, Nat.le_of_ble_eq_true rfl⟩) (m_preV g_bl0 hsz hK hP hS hE hKS g_to0) rfl rfl hl.1 rfl (lv_room (Nat.le_of_ble_eq_true rfl)) dX12_layOne_95 ⟨Nat.le_of_ble_eq_true rfl, Nat.le_of_ble_eq_true rfl⟩) (fun H locs hP hS => ?_)
        refine lv_goto (tgt := 508) hx hb dX12_layOne_98 (by decide) ?_
        have h9 := Option.some.inj hF_20
        subst h9
        exact W.vret hx hb hr (fun t ht hW => ⟨⟨(), rfl, trivial, m_end ht hP⟩, hS.F ht⟩) hS.2.2 dX12_layOne_508
      have hF_21 := ineg c_17 hF_16
      clear hF_16
      by_cases c_22 : x_15 = 3
      · have hF_23 := ipos c_22 hF_21
        clear hF_21
        refine lv_tableIn (off := 55) (tgt := 101) hx hb dX12_layOne_46 (by rw [c_22]; decide +kernel) (by rw [c_22]; decide +kernel) (by rw [c_22]; decide +kernel) (by decide) ?_
        refine lv_aload_n hx hb dX12_layOne_101 rfl (lv_at hl 1 rfl) ?_
        refine va_get (D := (dC, dI)) (ci := 12) (v := .ref (ad 59)) (C := RX12) (T := TX12) (N := 123) hx hb hts ii_X12 hown hK hP 0 rfl rfl 59 (by decide) (hts (.fieldLink RX12 125 "StoryHouseModel" "verbWords" "[I") wq_1415) (fun _ h9 => h9) rfl dX12_layOne_102 ?_
        refine lv_iload_n hx hb dX12_layOne_105 rfl (lv_at hl 0 rfl) ?_
        refine lv_iconst (v := 0) hx hb dX12_layOne_106 (by decide +kernel) ?_
        obtain ⟨g_24, hF_25⟩ := nif_e hF_23
        clear hF_23
        obtain ⟨σ_26, eσ_26, hF_27⟩ := bnd_e hF_25
        clear hF_25
        refine m_iast (σ' := σ_26) hx hb hK hP (hDD _ _) hS (q0 := 33) (t0 := 2) (f := σ_9.2 59) rfl rfl (by rw [eσ_26]; exact mwA_59) g_24 dX12_layOne_107 (fun H locs hP hS => ?_)
        refine lv_aload_n hx hb dX12_layOne_108 rfl (lv_at hl 1 rfl) ?_
        refine va_get (D := (dC, dI)) (ci := 12) (v := .ref (ad 20)) (C := RX12) (T := TX12) (N := 123) hx hb hts ii_X12 hown hK hP 0 rfl rfl 20 (by decide) (hts (.fieldLink RX12 58 "StoryHouseModel" "b" "[I") wq_1376) (fun _ h9 => h9) rfl dX12_layOne_109 ?_
        refine lv_iload_n hx hb dX12_layOne_112 rfl (lv_at hl 2 rfl) ?_
        obtain ⟨g_28, hF_29⟩ := nif_e hF_27
        clear hF_27
        refine va_iald (f := σ_26.2 20) hx hb hK hP 11 2 rfl rfl g_28 dX12_layOne_113 ?_
        obtain ⟨x_30, ex_30, hF_31⟩ := bnd_e hF_29
        clear hF_29
        refine m_top ex_30 ?_
        refine lv_istore (lv' := [(4, .int x_30), (3, .int t_8), (0, .ref h), (1, .int p0)]) hx hb dX12_layOne_114 hl (by decide) rfl (fun ls hl => ?_)
        refine loopF_ind (P := fun (s_32 : Int32 × MS) => ∀ (H : Heap) (locs : List Loc), va_P (dC, dI) vwCl (mW cB cI cZ h qK qS ad s_32.2) H → va_S (mCells h ad sz) s.heap H locs → ∀ ls : Array Slot, lv_has ls 6 [(0, .ref h), (1, .int p0), (3, .int t_8), (4, .int s_32.1)] → W p l e (headSpec (g_ws yX12_layOne cX12_layOne 6 none) { frames := 4, cells := 0, slots := 0, locals := 111 }).room s m ([.ref h, .int p0] : List Value).toArray below meth c H locs 0 0 (MQ below (va_Qv (fun (_ : Unit) => True) (fun _ t => va_P (dC, dI) vwCl (mW cB cI cZ h qK qS ad res.2) t.heap) (mCells h ad sz)) ([.ref h, .int p0] : List Value).toArray s 0 0 (mCells h ad sz)) (F0 m 116 ls [])) ?_ _ _ hF_31 _ _ hP hS ls (lv_sub hl [2, 3, 1, 0] rfl)
        intro again_33 s_32 ih_34 hF_35
        intro H locs hP hS ls hl
        refine lv_iload hx hb dX12_layOne_116 (lv_at hl 3 rfl) ?_
        refine lv_if_lt (tgt := 178) hx hb dX12_layOne_118 (by decide) (fun c_36 => ?_) (fun c_36 => ?_)
        · have hF_37 := ipos c_36 hF_35
          clear hF_35
          refine lv_aload_n hx hb dX12_layOne_178 rfl (lv_at hl 0 rfl) ?_
          refine va_get (D := (dC, dI)) (ci := 12) (v := .ref (ad 60)) (C := RX12) (T := TX12) (N := 123) hx hb hts ii_X12 hown hK hP 0 rfl rfl 60 (by decide) (hts (.fieldLink RX12 128 "StoryHouseModel" "forms" "[I") wq_1416) (fun _ h9 => h9) rfl dX12_layOne_179 ?_
          refine lv_iload_n hx hb dX12_layOne_182 rfl (lv_at hl 2 rfl) ?_
          refine lv_aload_n hx hb dX12_layOne_183 rfl (lv_at hl 0 rfl) ?_
          refine va_get (D := (dC, dI)) (ci := 12) (v := .ref (ad 19)) (C := RX12) (T := TX12) (N := 123) hx hb hts ii_X12 hown hK hP 0 rfl rfl 19 (by decide) (hts (.fieldLink RX12 55 "StoryHouseModel" "a" "[I") wq_1375) (fun _ h9 => h9) rfl dX12_layOne_184 ?_
          refine lv_aload_n hx hb dX12_layOne_187 rfl (lv_at hl 0 rfl) ?_
          refine va_get (D := (dC, dI)) (ci := 12) (v := .ref (ad 21)) (C := RX12) (T := TX12) (N := 123) hx hb hts ii_X12 hown hK hP 0 rfl rfl 21 (by decide) (hts (.fieldLink RX12 61 "StoryHouseModel" "d" "[I") wq_1377) (fun _ h9 => h9) rfl dX12_layOne_188 ?_
          refine lv_iload_n hx hb dX12_layOne_191 rfl (lv_at hl 1 rfl) ?_
          obtain ⟨g_38, hF_39⟩ := nif_e hF_37
          clear hF_37
          refine va_iald (f := s_32.2.2 21) hx hb hK hP 12 2 rfl rfl g_38 dX12_layOne_192 ?_
          obtain ⟨x_40, ex_40, hF_41⟩ := bnd_e hF_39
          clear hF_39
          refine m_top ex_40 ?_
          obtain ⟨g_42, hF_43⟩ := nif_e hF_41
          clear hF_41
          refine va_iald (f := s_32.2.2 19) hx hb hK hP 10 2 rfl rfl g_42 dX12_layOne_193 ?_
          obtain ⟨x_44, ex_44, hF_45⟩ := bnd_e hF_43
          clear hF_43
          refine m_top ex_44 ?_
          obtain ⟨g_46, hF_47⟩ := nif_e hF_45
          clear hF_45
          obtain ⟨σ_48, eσ_48, hF_49⟩ := bnd_e hF_47
          clear hF_47
          refine m_iast (σ' := σ_48) hx hb hK hP (hDD _ _) hS (q0 := 34) (t0 := 2) (f := s_32.2.2 60) rfl rfl (by rw [eσ_48]; exact mwA_60) g_46 dX12_layOne_194 (fun H locs hP hS => ?_)
          refine lv_aload_n hx hb dX12_layOne_195 rfl (lv_at hl 0 rfl) ?_
          refine va_get (D := (dC, dI)) (ci := 12) (v := .ref (ad 62)) (C := RX12) (T := TX12) (N := 123) hx hb hts ii_X12 hown hK hP 0 rfl rfl 62 (by decide) (hts (.fieldLink RX12 134 "StoryHouseModel" "betweenSize" "[I") wq_1418) (fun _ h9 => h9) rfl dX12_layOne_196 ?_
          refine lv_iload_n hx hb dX12_layOne_199 rfl (lv_at hl 2 rfl) ?_
          refine lv_aload_n hx hb dX12_layOne_200 rfl (lv_at hl 0 rfl) ?_
          refine va_get (D := (dC, dI)) (ci := 12) (v := .ref (ad 20)) (C := RX12) (T := TX12) (N := 123) hx hb hts ii_X12 hown hK hP 0 rfl rfl 20 (by decide) (hts (.fieldLink RX12 58 "StoryHouseModel" "b" "[I") wq_1376) (fun _ h9 => h9) rfl dX12_layOne_201 ?_
          refine lv_aload_n hx hb dX12_layOne_204 rfl (lv_at hl 0 rfl) ?_
          refine va_get (D := (dC, dI)) (ci := 12) (v := .ref (ad 21)) (C := RX12) (T := TX12) (N := 123) hx hb hts ii_X12 hown hK hP 0 rfl rfl 21 (by decide) (hts (.fieldLink RX12 61 "StoryHouseModel" "d" "[I") wq_1377) (fun _ h9 => h9) rfl dX12_layOne_205 ?_
          refine lv_iload_n hx hb dX12_layOne_208 rfl (lv_at hl 1 rfl) ?_
          obtain ⟨g_50, hF_51⟩ := nif_e hF_49
          clear hF_49
          refine va_iald (f := σ_48.2 21) hx hb hK hP 12 2 rfl rfl g_50 dX12_layOne_209 ?_
          obtain ⟨x_52, ex_52, hF_53⟩ := bnd_e hF_51
          clear hF_51
          refine m_top ex_52 ?_
          obtain ⟨g_54, hF_55⟩ := nif_e hF_53
          clear hF_53
          refine va_iald (f := σ_48.2 20) hx hb hK hP 11 2 rfl rfl g_54 dX12_layOne_210 ?_
          obtain ⟨j_58, ej_58, hF_59⟩ := bnd_e hF_55
          clear hF_55
          have Jj_58 : ∀ (t_56 : Int32) (σ_57 : MS), j_58 t_56 σ_57 = some res → ∀ (H : Heap) (locs : List Loc), va_P (dC, dI) vwCl (mW cB cI cZ h qK qS ad σ_57) H → va_S (mCells h ad sz) s.heap H locs → ∀ ls : Array Slot, lv_has ls 6 [] → W p l e (headSpec (g_ws yX12_layOne cX12_layOne 6 none) { frames := 4, cells := 0, slots := 0, locals := 111 }).room s m ([.ref h, .int p0] : List Value).toArray below meth c H locs 0 0 (MQ below (va_Qv (fun (_ : Unit) => True) (fun _ t => va_P (dC, dI) vwCl (mW cB cI cZ h qK qS ad res.2) t.heap) (mCells h ad sz)) ([.ref h, .int p0] : List Value).toArray s 0 0 (mCells h ad sz)) (F0 m 246 ls [.int t_56, .int t_8, .ref (ad 62)]) := by
            intro t_56 σ_57 hF0 H locs hP hS ls hl
            subst ej_58
            have hF_60 := hF0
            clear hF0
            obtain ⟨g_61, hF_62⟩ := nif_e hF_60
            clear hF_60
            obtain ⟨σ_63, eσ_63, hF_64⟩ := bnd_e hF_62
            clear hF_62
            refine m_iast (σ' := σ_63) hx hb hK hP (hDD _ _) hS (q0 := 36) (t0 := 2) (f := σ_57.2 62) rfl rfl (by rw [eσ_63]; exact mwA_62) g_61 dX12_layOne_246 (fun H locs hP hS => ?_)
            refine lv_goto (tgt := 508) hx hb dX12_layOne_247 (by decide) ?_
            have h9 := Option.some.inj hF_64
            subst h9
            exact W.vret hx hb hr (fun t ht hW => ⟨⟨(), rfl, trivial, m_end ht hP⟩, hS.F ht⟩) hS.2.2 dX12_layOne_508
          refine lv_if_ge (tgt := 218) hx hb dX12_layOne_211 (by decide) (fun c_65 => ?_) (fun c_65 => ?_)
          · have hF_66 := ipos c_65 hF_59
            clear hF_59
            refine lv_aload_n hx hb dX12_layOne_218 rfl (lv_at hl 0 rfl) ?_
            refine lv_aload_n hx hb dX12_layOne_219 rfl (lv_at hl 0 rfl) ?_
            refine va_get (D := (dC, dI)) (ci := 12) (v := .ref (ad 61)) (C := RX12) (T := TX12) (N := 123) hx hb hts ii_X12 hown hK hP 0 rfl rfl 61 (by decide) (hts (.fieldLink RX12 131 "StoryHouseModel" "between" "[B") wq_1417) (fun _ h9 => h9) rfl dX12_layOne_220 ?_
            refine lv_bipush (v := 9) hx hb dX12_layOne_223 (by decide +kernel) ?_
            refine lv_iload_n hx hb dX12_layOne_225 rfl (lv_at hl 2 rfl) ?_
            refine lv_imul hx hb dX12_layOne_226 ?_
            refine lv_aload_n hx hb dX12_layOne_227 rfl (lv_at hl 0 rfl) ?_
            refine va_get (D := (dC, dI)) (ci := 12) (v := .ref (ad 19)) (C := RX12) (T := TX12) (N := 123) hx hb hts ii_X12 hown hK hP 0 rfl rfl 19 (by decide) (hts (.fieldLink RX12 55 "StoryHouseModel" "a" "[I") wq_1375) (fun _ h9 => h9) rfl dX12_layOne_228 ?_
            refine lv_aload_n hx hb dX12_layOne_231 rfl (lv_at hl 0 rfl) ?_
            refine va_get (D := (dC, dI)) (ci := 12) (v := .ref (ad 20)) (C := RX12) (T := TX12) (N := 123) hx hb hts ii_X12 hown hK hP 0 rfl rfl 20 (by decide) (hts (.fieldLink RX12 58 "StoryHouseModel" "b" "[I") wq_1376) (fun _ h9 => h9) rfl dX12_layOne_232 ?_
            refine lv_aload_n hx hb dX12_layOne_235 rfl (lv_at hl 0 rfl) ?_
            refine va_get (D := (dC, dI)) (ci := 12) (v := .ref (ad 21)) (C := RX12) (T := TX12) (N := 123) hx hb hts ii_X12 hown hK hP 0 rfl rfl 21 (by decide) (hts (.fieldLink RX12 61 "StoryHouseModel" "d" "[I") wq_1377) (fun _ h9 => h9) rfl dX12_layOne_236 ?_
            refine lv_iload_n hx hb dX12_layOne_239 rfl (lv_at hl 1 rfl) ?_
            obtain ⟨g_67, hF_68⟩ := nif_e hF_66
            clear hF_66
            refine va_iald (f := σ_48.2 21) hx hb hK hP 12 2 rfl rfl g_67 dX12_layOne_240 ?_
            obtain ⟨x_69, ex_69, hF_70⟩ := bnd_e hF_68
            clear hF_68
            refine m_top ex_69 ?_
            obtain ⟨g_71, hF_72⟩ := nif_e hF_70
            clear hF_70
            refine va_iald (f := σ_48.2 20) hx hb hK hP 11 2 rfl rfl g_71 dX12_layOne_241 ?_
            obtain ⟨x_73, ex_73, hF_74⟩ := bnd_e hF_72
            clear hF_72
            refine m_top ex_73 ?_
            obtain ⟨g_75, hF_76⟩ := nif_e hF_74
            clear hF_74
            refine va_iald (f := σ_48.2 19) hx hb hK hP 10 2 rfl rfl g_75 dX12_layOne_242 ?_
            obtain ⟨u_77, hu_77, hF_78⟩ := Option.bind_eq_some_iff.mp hF_76
            clear hF_76
            refine m_ci hsz hS (va_runV (As := [.ref (ad 61), .int (9 * t_8), .int (σ_48.2 19 x_73.toNatClampNeg)]) (rest := [.int t_8, .ref (ad 62)]) ⟨hx, hb, hml, hown, hts⟩ (m_X12_wordTo_between l dC dI cB cC cI cJ cZ cP h qK qS ad hDD H.size  (9 * t_8) (σ_48.2 19 x_73.toNatClampNeg) σ_48 _ hu_77) (cwV 3 hts (g_gV wq_1735 wq_1736 wq_2190 wq_13 wq_1737) rfl rfl rfl (by decide +kernel) ⟨Nat.le_of_ble_eq_true rfl, Nat.le_of_ble_eq_true rfl⟩) (m_preV g_bl0 hsz hK hP hS hE hKS g_to0) rfl rfl hl.1 rfl (lv_room (Nat.le_of_ble_eq_true rfl)) dX12_layOne_243 ⟨Nat.le_of_ble_eq_true rfl, Nat.le_of_ble_eq_true rfl⟩) (fun H locs hP hS => ?_)
            exact Jj_58 u_77.1 u_77.2 hF_78 _ _ hP hS ls (lv_sub hl [] rfl)
          · have hF_79 := ineg c_65 hF_59
            clear hF_59
            refine lv_iconst (v := 0) hx hb dX12_layOne_214 (by decide +kernel) ?_
            refine lv_goto (tgt := 246) hx hb dX12_layOne_215 (by decide) ?_
            exact Jj_58 0 σ_48 hF_79 _ _ hP hS ls (lv_sub hl [] rfl)
        · have hF_80 := ineg c_36 hF_35
          clear hF_35
          refine lv_bipush (v := 10) hx hb dX12_layOne_121 (by decide +kernel) ?_
          refine lv_iload_n hx hb dX12_layOne_123 rfl (lv_at hl 2 rfl) ?_
          refine lv_imul hx hb dX12_layOne_124 ?_
          refine lv_aload_n hx hb dX12_layOne_125 rfl (lv_at hl 0 rfl) ?_
          refine va_get (D := (dC, dI)) (ci := 12) (v := .ref (ad 59)) (C := RX12) (T := TX12) (N := 123) hx hb hts ii_X12 hown hK hP 0 rfl rfl 59 (by decide) (hts (.fieldLink RX12 125 "StoryHouseModel" "verbWords" "[I") wq_1415) (fun _ h9 => h9) rfl dX12_layOne_126 ?_
          refine lv_iload_n hx hb dX12_layOne_129 rfl (lv_at hl 2 rfl) ?_
          refine lv_dup2_11 hx hb dX12_layOne_130 rfl rfl ?_
          obtain ⟨g_81, hF_82⟩ := nif_e hF_80
          clear hF_80
          refine va_iald (f := s_32.2.2 59) hx hb hK hP 33 2 rfl rfl g_81 dX12_layOne_131 ?_
          refine lv_dup_x2 hx hb dX12_layOne_132 rfl rfl rfl ?_
          refine lv_iconst (v := 1) hx hb dX12_layOne_133 (by decide +kernel) ?_
          refine lv_iadd hx hb dX12_layOne_134 ?_
          obtain ⟨x_83, ex_83, hF_84⟩ := bnd_e hF_82
          clear hF_82
          refine m_top ex_83 ?_
          obtain ⟨g_85, hF_86⟩ := nif_e hF_84
          clear hF_84
          obtain ⟨σ_87, eσ_87, hF_88⟩ := bnd_e hF_86
          clear hF_86
          refine m_iast (σ' := σ_87) hx hb hK hP (hDD _ _) hS (q0 := 33) (t0 := 2) (f := s_32.2.2 59) rfl rfl (by rw [eσ_87]; exact mwA_59) g_85 dX12_layOne_135 (fun H locs hP hS => ?_)
          refine lv_iadd hx hb dX12_layOne_136 ?_
          obtain ⟨x_89, ex_89, hF_90⟩ := bnd_e hF_88
          clear hF_88
          refine m_top ex_89 ?_
          refine lv_istore (lv' := [(5, .int x_89), (0, .ref h), (1, .int p0), (3, .int t_8), (4, .int s_32.1)]) hx hb dX12_layOne_137 hl (by decide) rfl (fun ls hl => ?_)
          refine lv_aload_n hx hb dX12_layOne_139 rfl (lv_at hl 1 rfl) ?_
          refine va_get (D := (dC, dI)) (ci := 12) (v := .ref (ad 58)) (C := RX12) (T := TX12) (N := 123) hx hb hts ii_X12 hown hK hP 0 rfl rfl 58 (by decide) (hts (.fieldLink RX12 122 "StoryHouseModel" "verbWordSize" "[I") wq_1414) (fun _ h9 => h9) rfl dX12_layOne_140 ?_
          refine lv_iload hx hb dX12_layOne_143 (lv_at hl 0 rfl) ?_
          refine lv_aload_n hx hb dX12_layOne_145 rfl (lv_at hl 1 rfl) ?_
          refine lv_aload_n hx hb dX12_layOne_146 rfl (lv_at hl 1 rfl) ?_
          refine va_get (D := (dC, dI)) (ci := 12) (v := .ref (ad 57)) (C := RX12) (T := TX12) (N := 123) hx hb hts ii_X12 hown hK hP 0 rfl rfl 57 (by decide) (hts (.fieldLink RX12 119 "StoryHouseModel" "verbBytes" "[B") wq_1413) (fun _ h9 => h9) rfl dX12_layOne_147 ?_
          refine lv_bipush (v := 9) hx hb dX12_layOne_150 (by decide +kernel) ?_
          refine lv_iload hx hb dX12_layOne_152 (lv_at hl 0 rfl) ?_
          refine lv_imul hx hb dX12_layOne_154 ?_
          refine lv_aload_n hx hb dX12_layOne_155 rfl (lv_at hl 1 rfl) ?_
          refine va_get (D := (dC, dI)) (ci := 12) (v := .ref (ad 19)) (C := RX12) (T := TX12) (N := 123) hx hb hts ii_X12 hown hK hP 0 rfl rfl 19 (by decide) (hts (.fieldLink RX12 55 "StoryHouseModel" "a" "[I") wq_1375) (fun _ h9 => h9) rfl dX12_layOne_156 ?_
          refine lv_iload hx hb dX12_layOne_159 (lv_at hl 4 rfl) ?_
          obtain ⟨g_91, hF_92⟩ := nif_e hF_90
          clear hF_90
          refine va_iald (f := σ_87.2 19) hx hb hK hP 10 2 rfl rfl g_91 dX12_layOne_161 ?_
          obtain ⟨u_93, hu_93, hF_94⟩ := Option.bind_eq_some_iff.mp hF_92
          clear hF_92
          refine m_ci hsz hS (va_runV (As := [.ref (ad 57), .int (9 * x_89), .int (σ_87.2 19 s_32.1.toNatClampNeg)]) (rest := [.int x_89, .ref (ad 58)]) ⟨hx, hb, hml, hown, hts⟩ (m_X12_wordTo_verbBytes l dC dI cB cC cI cJ cZ cP h qK qS ad hDD H.size  (9 * x_89) (σ_87.2 19 s_32.1.toNatClampNeg) σ_87 _ hu_93) (cwV 3 hts (g_gV wq_1735 wq_1736 wq_2190 wq_13 wq_1737) rfl rfl rfl (by decide +kernel) ⟨Nat.le_of_ble_eq_true rfl, Nat.le_of_ble_eq_true rfl⟩) (m_preV g_bl0 hsz hK hP hS hE hKS g_to0) rfl rfl hl.1 rfl (lv_room (Nat.le_of_ble_eq_true rfl)) dX12_layOne_162 ⟨Nat.le_of_ble_eq_true rfl, Nat.le_of_ble_eq_true rfl⟩) (fun H locs hP hS => ?_)
          obtain ⟨g_95, hF_96⟩ := nif_e hF_94
          clear hF_94
          obtain ⟨σ_97, eσ_97, hF_98⟩ := bnd_e hF_96
          clear hF_96
          refine m_iast (σ' := σ_97) hx hb hK hP (hDD _ _) hS (q0 := 32) (t0 := 2) (f := u_93.2.2 58) rfl rfl (by rw [eσ_97]; exact mwA_58) g_95 dX12_layOne_165 (fun H locs hP hS => ?_)
          refine lv_aload_n hx hb dX12_layOne_166 rfl (lv_at hl 1 rfl) ?_
          refine va_get (D := (dC, dI)) (ci := 12) (v := .ref (ad 22)) (C := RX12) (T := TX12) (N := 123) hx hb hts ii_X12 hown hK hP 0 rfl rfl 22 (by decide) (hts (.fieldLink RX12 64 "StoryHouseModel" "then" "[I") wq_1378) (fun _ h9 => h9) rfl dX12_layOne_167 ?_
          refine lv_iload hx hb dX12_layOne_170 (lv_at hl 4 rfl) ?_
          obtain ⟨g_99, hF_100⟩ := nif_e hF_98
          clear hF_98
          refine va_iald (f := σ_97.2 22) hx hb hK hP 13 2 rfl rfl g_99 dX12_layOne_172 ?_
          obtain ⟨x_101, ex_101, hF_102⟩ := bnd_e hF_100
          clear hF_100
          refine m_top ex_101 ?_
          refine lv_istore (lv' := [(4, .int x_101), (5, .int x_89), (0, .ref h), (1, .int p0), (3, .int t_8)]) hx hb dX12_layOne_173 hl (by decide) rfl (fun ls hl => ?_)
          refine lv_goto (tgt := 116) hx hb dX12_layOne_175 (by decide) ?_
          exact ih_34 (x_101, σ_97) hF_102 _ _ hP hS ls (lv_sub hl [2, 3, 4, 0] rfl)
      have hF_103 := ineg c_22 hF_21
      clear hF_21
      by_cases c_104 : x_15 = 4
      · have hF_105 := ipos c_104 hF_103
        clear hF_103
        refine lv_tableIn (off := 204) (tgt := 250) hx hb dX12_layOne_46 (by rw [c_104]; decide +kernel) (by rw [c_104]; decide +kernel) (by rw [c_104]; decide +kernel) (by decide) ?_
        refine lv_aload_n hx hb dX12_layOne_250 rfl (lv_at hl 1 rfl) ?_
        refine va_get (D := (dC, dI)) (ci := 12) (v := .ref (ad 76)) (C := RX12) (T := TX12) (N := 123) hx hb hts ii_X12 hown hK hP 0 rfl rfl 76 (by decide) (hts (.fieldLink RX12 173 "StoryHouseModel" "varFirst" "[I") wq_1432) (fun _ h9 => h9) rfl dX12_layOne_251 ?_
        refine lv_iload_n hx hb dX12_layOne_254 rfl (lv_at hl 0 rfl) ?_
        refine lv_aload_n hx hb dX12_layOne_255 rfl (lv_at hl 1 rfl) ?_
        refine va_get (D := (dC, dI)) (ci := 12) (v := .ref (ad 20)) (C := RX12) (T := TX12) (N := 123) hx hb hts ii_X12 hown hK hP 0 rfl rfl 20 (by decide) (hts (.fieldLink RX12 58 "StoryHouseModel" "b" "[I") wq_1376) (fun _ h9 => h9) rfl dX12_layOne_256 ?_
        refine lv_iload_n hx hb dX12_layOne_259 rfl (lv_at hl 2 rfl) ?_
        obtain ⟨g_106, hF_107⟩ := nif_e hF_105
        clear hF_105
        refine va_iald (f := σ_9.2 20) hx hb hK hP 11 2 rfl rfl g_106 dX12_layOne_260 ?_
        obtain ⟨g_108, hF_109⟩ := nif_e hF_107
        clear hF_107
        obtain ⟨σ_110, eσ_110, hF_111⟩ := bnd_e hF_109
        clear hF_109
        refine m_iast (σ' := σ_110) hx hb hK hP (hDD _ _) hS (q0 := 49) (t0 := 2) (f := σ_9.2 76) rfl rfl (by rw [eσ_110]; exact mwA_76) g_108 dX12_layOne_261 (fun H locs hP hS => ?_)
        refine lv_goto (tgt := 508) hx hb dX12_layOne_262 (by decide) ?_
        have h9 := Option.some.inj hF_111
        subst h9
        exact W.vret hx hb hr (fun t ht hW => ⟨⟨(), rfl, trivial, m_end ht hP⟩, hS.F ht⟩) hS.2.2 dX12_layOne_508
      have hF_112 := ineg c_104 hF_103
      clear hF_103
      by_cases c_113 : x_15 = 5
      · have hF_114 := ipos c_113 hF_112
        clear hF_112
        refine lv_tableIn (off := 219) (tgt := 265) hx hb dX12_layOne_46 (by rw [c_113]; decide +kernel) (by rw [c_113]; decide +kernel) (by rw [c_113]; decide +kernel) (by decide) ?_
        refine lv_aload_n hx hb dX12_layOne_265 rfl (lv_at hl 1 rfl) ?_
        refine va_get (D := (dC, dI)) (ci := 12) (v := .ref (ad 77)) (C := RX12) (T := TX12) (N := 123) hx hb hts ii_X12 hown hK hP 0 rfl rfl 77 (by decide) (hts (.fieldLink RX12 176 "StoryHouseModel" "arrayAt" "[I") wq_1433) (fun _ h9 => h9) rfl dX12_layOne_266 ?_
        refine lv_iload_n hx hb dX12_layOne_269 rfl (lv_at hl 0 rfl) ?_
        refine lv_iconst (v := 1) hx hb dX12_layOne_270 (by decide +kernel) ?_
        refine lv_iadd hx hb dX12_layOne_271 ?_
        refine lv_iload_n hx hb dX12_layOne_272 rfl (lv_at hl 0 rfl) ?_
        obtain ⟨j_117, ej_117, hF_118⟩ := bnd_e hF_114
        clear hF_114
        have Jj_117 : ∀ (t_115 : Int32) (σ_116 : MS), j_117 t_115 σ_116 = some res → ∀ (H : Heap) (locs : List Loc), va_P (dC, dI) vwCl (mW cB cI cZ h qK qS ad σ_116) H → va_S (mCells h ad sz) s.heap H locs → ∀ ls : Array Slot, lv_has ls 6 [(0, .ref h), (1, .int p0)] → W p l e (headSpec (g_ws yX12_layOne cX12_layOne 6 none) { frames := 4, cells := 0, slots := 0, locals := 111 }).room s m ([.ref h, .int p0] : List Value).toArray below meth c H locs 0 0 (MQ below (va_Qv (fun (_ : Unit) => True) (fun _ t => va_P (dC, dI) vwCl (mW cB cI cZ h qK qS ad res.2) t.heap) (mCells h ad sz)) ([.ref h, .int p0] : List Value).toArray s 0 0 (mCells h ad sz)) (F0 m 286 ls [.int t_115, .int (t_8 + 1), .ref (ad 77)]) := by
          intro t_115 σ_116 hF0 H locs hP hS ls hl
          subst ej_117
          have hF_119 := hF0
          clear hF0
          refine lv_aload_n hx hb dX12_layOne_286 rfl (lv_at hl 0 rfl) ?_
          refine va_get (D := (dC, dI)) (ci := 12) (v := .ref (ad 20)) (C := RX12) (T := TX12) (N := 123) hx hb hts ii_X12 hown hK hP 0 rfl rfl 20 (by decide) (hts (.fieldLink RX12 58 "StoryHouseModel" "b" "[I") wq_1376) (fun _ h9 => h9) rfl dX12_layOne_287 ?_
          refine lv_iload_n hx hb dX12_layOne_290 rfl (lv_at hl 1 rfl) ?_
          obtain ⟨g_120, hF_121⟩ := nif_e hF_119
          clear hF_119
          refine va_iald (f := σ_116.2 20) hx hb hK hP 11 2 rfl rfl g_120 dX12_layOne_291 ?_
          refine lv_iadd hx hb dX12_layOne_292 ?_
          obtain ⟨x_122, ex_122, hF_123⟩ := bnd_e hF_121
          clear hF_121
          refine m_top ex_122 ?_
          obtain ⟨g_124, hF_125⟩ := nif_e hF_123
          clear hF_123
          obtain ⟨σ_126, eσ_126, hF_127⟩ := bnd_e hF_125
          clear hF_125
          refine m_iast (σ' := σ_126) hx hb hK hP (hDD _ _) hS (q0 := 50) (t0 := 2) (f := σ_116.2 77) rfl rfl (by rw [eσ_126]; exact mwA_77) g_124 dX12_layOne_293 (fun H locs hP hS => ?_)
          refine lv_goto (tgt := 508) hx hb dX12_layOne_294 (by decide) ?_
          have h9 := Option.some.inj hF_127
          subst h9
          exact W.vret hx hb hr (fun t ht hW => ⟨⟨(), rfl, trivial, m_end ht hP⟩, hS.F ht⟩) hS.2.2 dX12_layOne_508
        refine lv_if_ne (tgt := 280) hx hb dX12_layOne_273 (by decide) (fun c_128 => ?_) (fun c_128 => ?_)
        · have hF_130 := ineg c_128 hF_118
          clear hF_118
          refine lv_aload_n hx hb dX12_layOne_280 rfl (lv_at hl 1 rfl) ?_
          refine va_get (D := (dC, dI)) (ci := 12) (v := .ref (ad 77)) (C := RX12) (T := TX12) (N := 123) hx hb hts ii_X12 hown hK hP 0 rfl rfl 77 (by decide) (hts (.fieldLink RX12 176 "StoryHouseModel" "arrayAt" "[I") wq_1433) (fun _ h9 => h9) rfl dX12_layOne_281 ?_
          refine lv_iload_n hx hb dX12_layOne_284 rfl (lv_at hl 0 rfl) ?_
          obtain ⟨g_131, hF_132⟩ := nif_e hF_130
          clear hF_130
          refine va_iald (f := σ_9.2 77) hx hb hK hP 50 2 rfl rfl g_131 dX12_layOne_285 ?_
          exact Jj_117 (σ_9.2 77 t_8.toNatClampNeg) σ_9 hF_132 _ _ hP hS ls (lv_sub hl [1, 2] rfl)
        · have hF_129 := ipos c_128 hF_118
          clear hF_118
          refine lv_iconst (v := 0) hx hb dX12_layOne_276 (by decide +kernel) ?_
          refine lv_goto (tgt := 286) hx hb dX12_layOne_277 (by decide) ?_
          exact Jj_117 0 σ_9 hF_129 _ _ hP hS ls (lv_sub hl [1, 2] rfl)
      have hF_133 := ineg c_113 hF_112
      clear hF_112
      by_cases c_134 : x_15 = 7
      · have hF_135 := ipos c_134 hF_133
        clear hF_133
        refine lv_tableIn (off := 251) (tgt := 297) hx hb dX12_layOne_46 (by rw [c_134]; decide +kernel) (by rw [c_134]; decide +kernel) (by rw [c_134]; decide +kernel) (by decide) ?_
        refine lv_aload_n hx hb dX12_layOne_297 rfl (lv_at hl 1 rfl) ?_
        refine va_get (D := (dC, dI)) (ci := 12) (v := .ref (ad 70)) (C := RX12) (T := TX12) (N := 123) hx hb hts ii_X12 hown hK hP 0 rfl rfl 70 (by decide) (hts (.fieldLink RX12 155 "StoryHouseModel" "onVerb" "[I") wq_1426) (fun _ h9 => h9) rfl dX12_layOne_298 ?_
        refine lv_aload_n hx hb dX12_layOne_301 rfl (lv_at hl 1 rfl) ?_
        refine va_get (D := (dC, dI)) (ci := 12) (v := .int (σ_9.1 83)) (C := RX12) (T := TX12) (N := 123) hx hb hts ii_X12 hown hK hP 0 rfl rfl 83 (by decide) (hts (.fieldLink RX12 615 "StoryHouseModel" "nOns" "I") wq_1439) (fun _ h9 => h9) rfl dX12_layOne_302 ?_
        refine lv_iload_n hx hb dX12_layOne_305 rfl (lv_at hl 0 rfl) ?_
        obtain ⟨g_136, hF_137⟩ := nif_e hF_135
        clear hF_135
        obtain ⟨σ_138, eσ_138, hF_139⟩ := bnd_e hF_137
        clear hF_137
        refine m_iast (σ' := σ_138) hx hb hK hP (hDD _ _) hS (q0 := 43) (t0 := 2) (f := σ_9.2 70) rfl rfl (by rw [eσ_138]; exact mwA_70) g_136 dX12_layOne_306 (fun H locs hP hS => ?_)
        refine lv_aload_n hx hb dX12_layOne_307 rfl (lv_at hl 1 rfl) ?_
        refine va_get (D := (dC, dI)) (ci := 12) (v := .ref (ad 71)) (C := RX12) (T := TX12) (N := 123) hx hb hts ii_X12 hown hK hP 0 rfl rfl 71 (by decide) (hts (.fieldLink RX12 158 "StoryHouseModel" "onMany" "[I") wq_1427) (fun _ h9 => h9) rfl dX12_layOne_308 ?_
        refine lv_aload_n hx hb dX12_layOne_311 rfl (lv_at hl 1 rfl) ?_
        refine va_get (D := (dC, dI)) (ci := 12) (v := .int (σ_138.1 83)) (C := RX12) (T := TX12) (N := 123) hx hb hts ii_X12 hown hK hP 0 rfl rfl 83 (by decide) (hts (.fieldLink RX12 615 "StoryHouseModel" "nOns" "I") wq_1439) (fun _ h9 => h9) rfl dX12_layOne_312 ?_
        refine lv_iconst (v := 0) hx hb dX12_layOne_315 (by decide +kernel) ?_
        obtain ⟨g_140, hF_141⟩ := nif_e hF_139
        clear hF_139
        obtain ⟨σ_142, eσ_142, hF_143⟩ := bnd_e hF_141
        clear hF_141
        refine m_iast (σ' := σ_142) hx hb hK hP (hDD _ _) hS (q0 := 44) (t0 := 2) (f := σ_138.2 71) rfl rfl (by rw [eσ_142]; exact mwA_71) g_140 dX12_layOne_316 (fun H locs hP hS => ?_)
        refine lv_aload_n hx hb dX12_layOne_317 rfl (lv_at hl 1 rfl) ?_
        refine va_get (D := (dC, dI)) (ci := 12) (v := .ref (ad 20)) (C := RX12) (T := TX12) (N := 123) hx hb hts ii_X12 hown hK hP 0 rfl rfl 20 (by decide) (hts (.fieldLink RX12 58 "StoryHouseModel" "b" "[I") wq_1376) (fun _ h9 => h9) rfl dX12_layOne_318 ?_
        refine lv_iload_n hx hb dX12_layOne_321 rfl (lv_at hl 2 rfl) ?_
        obtain ⟨g_144, hF_145⟩ := nif_e hF_143
        clear hF_143
        refine va_iald (f := σ_142.2 20) hx hb hK hP 11 2 rfl rfl g_144 dX12_layOne_322 ?_
        obtain ⟨x_146, ex_146, hF_147⟩ := bnd_e hF_145
        clear hF_145
        refine m_top ex_146 ?_
        refine lv_istore (lv' := [(4, .int x_146), (3, .int t_8), (0, .ref h), (1, .int p0)]) hx hb dX12_layOne_323 hl (by decide) rfl (fun ls hl => ?_)
        refine loopF_ind (P := fun (s_148 : Int32 × MS) => ∀ (H : Heap) (locs : List Loc), va_P (dC, dI) vwCl (mW cB cI cZ h qK qS ad s_148.2) H → va_S (mCells h ad sz) s.heap H locs → ∀ ls : Array Slot, lv_has ls 6 [(0, .ref h), (1, .int p0), (4, .int s_148.1)] → W p l e (headSpec (g_ws yX12_layOne cX12_layOne 6 none) { frames := 4, cells := 0, slots := 0, locals := 111 }).room s m ([.ref h, .int p0] : List Value).toArray below meth c H locs 0 0 (MQ below (va_Qv (fun (_ : Unit) => True) (fun _ t => va_P (dC, dI) vwCl (mW cB cI cZ h qK qS ad res.2) t.heap) (mCells h ad sz)) ([.ref h, .int p0] : List Value).toArray s 0 0 (mCells h ad sz)) (F0 m 325 ls [])) ?_ _ _ hF_147 _ _ hP hS ls (lv_sub hl [2, 3, 0] rfl)
        intro again_149 s_148 ih_150 hF_151
        intro H locs hP hS ls hl
        refine lv_iload hx hb dX12_layOne_325 (lv_at hl 2 rfl) ?_
        refine lv_if_lt (tgt := 448) hx hb dX12_layOne_327 (by decide) (fun c_152 => ?_) (fun c_152 => ?_)
        · have hF_153 := ipos c_152 hF_151
          clear hF_151
          refine lv_aload_n hx hb dX12_layOne_448 rfl (lv_at hl 0 rfl) ?_
          refine va_get (D := (dC, dI)) (ci := 12) (v := .ref (ad 74)) (C := RX12) (T := TX12) (N := 123) hx hb hts ii_X12 hown hK hP 0 rfl rfl 74 (by decide) (hts (.fieldLink RX12 167 "StoryHouseModel" "onBody" "[I") wq_1430) (fun _ h9 => h9) rfl dX12_layOne_449 ?_
          refine lv_aload_n hx hb dX12_layOne_452 rfl (lv_at hl 0 rfl) ?_
          refine lv_dup hx hb dX12_layOne_453 rfl ?_
          refine va_get (D := (dC, dI)) (ci := 12) (v := .int (s_148.2.1 83)) (C := RX12) (T := TX12) (N := 123) hx hb hts ii_X12 hown hK hP 0 rfl rfl 83 (by decide) (hts (.fieldLink RX12 615 "StoryHouseModel" "nOns" "I") wq_1439) (fun _ h9 => h9) rfl dX12_layOne_454 ?_
          refine lv_dup_x1 hx hb dX12_layOne_457 rfl rfl ?_
          refine lv_iconst (v := 1) hx hb dX12_layOne_458 (by decide +kernel) ?_
          refine lv_iadd hx hb dX12_layOne_459 ?_
          obtain ⟨σ_154, eσ_154, hF_155⟩ := bnd_e hF_153
          clear hF_153
          refine m_put (σ' := σ_154) (v := .int ((s_148.2.1 83) + 1)) (ty := .int) hx hb hts hown hK hP (hDD _ _) hS (by rw [eσ_154]; exact mwI_83) (k := 83) (by decide) (hts (.fieldLink RX12 615 "StoryHouseModel" "nOns" "I") wq_1439) (fun _ h9 => h9) rfl (by decide +kernel) rfl rfl dX12_layOne_460 (fun H locs hP hS => ?_)
          refine lv_aload_n hx hb dX12_layOne_463 rfl (lv_at hl 0 rfl) ?_
          refine va_get (D := (dC, dI)) (ci := 12) (v := .ref (ad 19)) (C := RX12) (T := TX12) (N := 123) hx hb hts ii_X12 hown hK hP 0 rfl rfl 19 (by decide) (hts (.fieldLink RX12 55 "StoryHouseModel" "a" "[I") wq_1375) (fun _ h9 => h9) rfl dX12_layOne_464 ?_
          refine lv_aload_n hx hb dX12_layOne_467 rfl (lv_at hl 0 rfl) ?_
          refine va_get (D := (dC, dI)) (ci := 12) (v := .ref (ad 21)) (C := RX12) (T := TX12) (N := 123) hx hb hts ii_X12 hown hK hP 0 rfl rfl 21 (by decide) (hts (.fieldLink RX12 61 "StoryHouseModel" "d" "[I") wq_1377) (fun _ h9 => h9) rfl dX12_layOne_468 ?_
          refine lv_iload_n hx hb dX12_layOne_471 rfl (lv_at hl 1 rfl) ?_
          obtain ⟨g_156, hF_157⟩ := nif_e hF_155
          clear hF_155
          refine va_iald (f := σ_154.2 21) hx hb hK hP 12 2 rfl rfl g_156 dX12_layOne_472 ?_
          obtain ⟨x_158, ex_158, hF_159⟩ := bnd_e hF_157
          clear hF_157
          refine m_top ex_158 ?_
          obtain ⟨g_160, hF_161⟩ := nif_e hF_159
          clear hF_159
          refine va_iald (f := σ_154.2 19) hx hb hK hP 10 2 rfl rfl g_160 dX12_layOne_473 ?_
          obtain ⟨x_162, ex_162, hF_163⟩ := bnd_e hF_161
          clear hF_161
          refine m_top ex_162 ?_
          obtain ⟨g_164, hF_165⟩ := nif_e hF_163
          clear hF_163
          obtain ⟨σ_166, eσ_166, hF_167⟩ := bnd_e hF_165
          clear hF_165
          refine m_iast (σ' := σ_166) hx hb hK hP (hDD _ _) hS (q0 := 47) (t0 := 2) (f := σ_154.2 74) rfl rfl (by rw [eσ_166]; exact mwA_74) g_164 dX12_layOne_474 (fun H locs hP hS => ?_)
          refine lv_goto (tgt := 508) hx hb dX12_layOne_475 (by decide) ?_
          have h9 := Option.some.inj hF_167
          subst h9
          exact W.vret hx hb hr (fun t ht hW => ⟨⟨(), rfl, trivial, m_end ht hP⟩, hS.F ht⟩) hS.2.2 dX12_layOne_508
        · have hF_168 := ineg c_152 hF_151
          clear hF_151
          refine lv_aload_n hx hb dX12_layOne_330 rfl (lv_at hl 0 rfl) ?_
          refine va_get (D := (dC, dI)) (ci := 12) (v := .ref (ad 19)) (C := RX12) (T := TX12) (N := 123) hx hb hts ii_X12 hown hK hP 0 rfl rfl 19 (by decide) (hts (.fieldLink RX12 55 "StoryHouseModel" "a" "[I") wq_1375) (fun _ h9 => h9) rfl dX12_layOne_331 ?_
          refine lv_iload hx hb dX12_layOne_334 (lv_at hl 2 rfl) ?_
          obtain ⟨g_169, hF_170⟩ := nif_e hF_168
          clear hF_168
          refine va_iald (f := s_148.2.2 19) hx hb hK hP 10 2 rfl rfl g_169 dX12_layOne_336 ?_
          obtain ⟨j_173, ej_173, hF_174⟩ := bnd_e hF_170
          clear hF_170
          have Jj_173 : ∀ (t_171 : Int32) (σ_172 : MS), j_173 t_171 σ_172 = some res → ∀ (H : Heap) (locs : List Loc), va_P (dC, dI) vwCl (mW cB cI cZ h qK qS ad σ_172) H → va_S (mCells h ad sz) s.heap H locs → ∀ ls : Array Slot, lv_has ls 6 [(0, .ref h), (1, .int p0), (4, .int s_148.1)] → W p l e (headSpec (g_ws yX12_layOne cX12_layOne 6 none) { frames := 4, cells := 0, slots := 0, locals := 111 }).room s m ([.ref h, .int p0] : List Value).toArray below meth c H locs 0 0 (MQ below (va_Qv (fun (_ : Unit) => True) (fun _ t => va_P (dC, dI) vwCl (mW cB cI cZ h qK qS ad res.2) t.heap) (mCells h ad sz)) ([.ref h, .int p0] : List Value).toArray s 0 0 (mCells h ad sz)) (F0 m 392 ls [.int t_171]) := by
            intro t_171 σ_172 hF0 H locs hP hS ls hl
            subst ej_173
            have hF_175 := hF0
            clear hF0
            refine lv_istore (lv' := [(5, .int t_171), (0, .ref h), (1, .int p0), (4, .int s_148.1)]) hx hb dX12_layOne_392 hl (by decide) rfl (fun ls hl => ?_)
            refine lv_aload_n hx hb dX12_layOne_394 rfl (lv_at hl 1 rfl) ?_
            refine va_get (D := (dC, dI)) (ci := 12) (v := .ref (ad 71)) (C := RX12) (T := TX12) (N := 123) hx hb hts ii_X12 hown hK hP 0 rfl rfl 71 (by decide) (hts (.fieldLink RX12 158 "StoryHouseModel" "onMany" "[I") wq_1427) (fun _ h9 => h9) rfl dX12_layOne_395 ?_
            refine lv_aload_n hx hb dX12_layOne_398 rfl (lv_at hl 1 rfl) ?_
            refine va_get (D := (dC, dI)) (ci := 12) (v := .int (σ_172.1 83)) (C := RX12) (T := TX12) (N := 123) hx hb hts ii_X12 hown hK hP 0 rfl rfl 83 (by decide) (hts (.fieldLink RX12 615 "StoryHouseModel" "nOns" "I") wq_1439) (fun _ h9 => h9) rfl dX12_layOne_399 ?_
            refine lv_dup2_11 hx hb dX12_layOne_402 rfl rfl ?_
            obtain ⟨x_176, ex_176, hF_177⟩ := bnd_e hF_175
            clear hF_175
            refine m_top ex_176 ?_
            obtain ⟨g_178, hF_179⟩ := nif_e hF_177
            clear hF_177
            refine va_iald (f := σ_172.2 71) hx hb hK hP 44 2 rfl rfl g_178 dX12_layOne_403 ?_
            refine lv_dup_x2 hx hb dX12_layOne_404 rfl rfl rfl ?_
            refine lv_iconst (v := 1) hx hb dX12_layOne_405 (by decide +kernel) ?_
            refine lv_iadd hx hb dX12_layOne_406 ?_
            obtain ⟨x_180, ex_180, hF_181⟩ := bnd_e hF_179
            clear hF_179
            refine m_top ex_180 ?_
            obtain ⟨g_182, hF_183⟩ := nif_e hF_181
            clear hF_181
            obtain ⟨σ_184, eσ_184, hF_185⟩ := bnd_e hF_183
            clear hF_183
            refine m_iast (σ' := σ_184) hx hb hK hP (hDD _ _) hS (q0 := 44) (t0 := 2) (f := σ_172.2 71) rfl rfl (by rw [eσ_184]; exact mwA_71) g_182 dX12_layOne_407 (fun H locs hP hS => ?_)
            obtain ⟨j_187, ej_187, hF_188⟩ := bnd_e hF_185
            clear hF_185
            have Jj_187 : ∀  (σ_186 : MS), j_187  σ_186 = some res → ∀ (H : Heap) (locs : List Loc), va_P (dC, dI) vwCl (mW cB cI cZ h qK qS ad σ_186) H → va_S (mCells h ad sz) s.heap H locs → ∀ ls : Array Slot, lv_has ls 6 [(0, .ref h), (1, .int p0), (4, .int s_148.1)] → W p l e (headSpec (g_ws yX12_layOne cX12_layOne 6 none) { frames := 4, cells := 0, slots := 0, locals := 111 }).room s m ([.ref h, .int p0] : List Value).toArray below meth c H locs 0 0 (MQ below (va_Qv (fun (_ : Unit) => True) (fun _ t => va_P (dC, dI) vwCl (mW cB cI cZ h qK qS ad res.2) t.heap) (mCells h ad sz)) ([.ref h, .int p0] : List Value).toArray s 0 0 (mCells h ad sz)) (F0 m 436 ls []) := by
              intro  σ_186 hF0 H locs hP hS ls hl
              subst ej_187
              have hF_189 := hF0
              clear hF0
              refine lv_aload_n hx hb dX12_layOne_436 rfl (lv_at hl 0 rfl) ?_
              refine va_get (D := (dC, dI)) (ci := 12) (v := .ref (ad 22)) (C := RX12) (T := TX12) (N := 123) hx hb hts ii_X12 hown hK hP 0 rfl rfl 22 (by decide) (hts (.fieldLink RX12 64 "StoryHouseModel" "then" "[I") wq_1378) (fun _ h9 => h9) rfl dX12_layOne_437 ?_
              refine lv_iload hx hb dX12_layOne_440 (lv_at hl 2 rfl) ?_
              obtain ⟨g_190, hF_191⟩ := nif_e hF_189
              clear hF_189
              refine va_iald (f := σ_186.2 22) hx hb hK hP 13 2 rfl rfl g_190 dX12_layOne_442 ?_
              obtain ⟨x_192, ex_192, hF_193⟩ := bnd_e hF_191
              clear hF_191
              refine m_top ex_192 ?_
              refine lv_istore (lv' := [(4, .int x_192), (0, .ref h), (1, .int p0)]) hx hb dX12_layOne_443 hl (by decide) rfl (fun ls hl => ?_)
              refine lv_goto (tgt := 325) hx hb dX12_layOne_445 (by decide) ?_
              exact ih_150 (x_192, σ_186) hF_193 _ _ hP hS ls (lv_sub hl [1, 2, 0] rfl)
            refine lv_if_ne (tgt := 425) hx hb dX12_layOne_408 (by decide) (fun c_194 => ?_) (fun c_194 => ?_)
            · have hF_200 := ineg c_194 hF_188
              clear hF_188
              refine lv_aload_n hx hb dX12_layOne_425 rfl (lv_at hl 1 rfl) ?_
              refine va_get (D := (dC, dI)) (ci := 12) (v := .ref (ad 73)) (C := RX12) (T := TX12) (N := 123) hx hb hts ii_X12 hown hK hP 0 rfl rfl 73 (by decide) (hts (.fieldLink RX12 164 "StoryHouseModel" "onTwo" "[I") wq_1429) (fun _ h9 => h9) rfl dX12_layOne_426 ?_
              refine lv_aload_n hx hb dX12_layOne_429 rfl (lv_at hl 1 rfl) ?_
              refine va_get (D := (dC, dI)) (ci := 12) (v := .int (σ_184.1 83)) (C := RX12) (T := TX12) (N := 123) hx hb hts ii_X12 hown hK hP 0 rfl rfl 83 (by decide) (hts (.fieldLink RX12 615 "StoryHouseModel" "nOns" "I") wq_1439) (fun _ h9 => h9) rfl dX12_layOne_430 ?_
              refine lv_iload hx hb dX12_layOne_433 (lv_at hl 0 rfl) ?_
              obtain ⟨g_201, hF_202⟩ := nif_e hF_200
              clear hF_200
              obtain ⟨σ_203, eσ_203, hF_204⟩ := bnd_e hF_202
              clear hF_202
              refine m_iast (σ' := σ_203) hx hb hK hP (hDD _ _) hS (q0 := 46) (t0 := 2) (f := σ_184.2 73) rfl rfl (by rw [eσ_203]; exact mwA_73) g_201 dX12_layOne_435 (fun H locs hP hS => ?_)
              exact Jj_187  σ_203 hF_204 _ _ hP hS ls (lv_sub hl [1, 2, 3] rfl)
            · have hF_195 := ipos c_194 hF_188
              clear hF_188
              refine lv_aload_n hx hb dX12_layOne_411 rfl (lv_at hl 1 rfl) ?_
              refine va_get (D := (dC, dI)) (ci := 12) (v := .ref (ad 72)) (C := RX12) (T := TX12) (N := 123) hx hb hts ii_X12 hown hK hP 0 rfl rfl 72 (by decide) (hts (.fieldLink RX12 161 "StoryHouseModel" "onOne" "[I") wq_1428) (fun _ h9 => h9) rfl dX12_layOne_412 ?_
              refine lv_aload_n hx hb dX12_layOne_415 rfl (lv_at hl 1 rfl) ?_
              refine va_get (D := (dC, dI)) (ci := 12) (v := .int (σ_184.1 83)) (C := RX12) (T := TX12) (N := 123) hx hb hts ii_X12 hown hK hP 0 rfl rfl 83 (by decide) (hts (.fieldLink RX12 615 "StoryHouseModel" "nOns" "I") wq_1439) (fun _ h9 => h9) rfl dX12_layOne_416 ?_
              refine lv_iload hx hb dX12_layOne_419 (lv_at hl 0 rfl) ?_
              obtain ⟨g_196, hF_197⟩ := nif_e hF_195
              clear hF_195
              obtain ⟨σ_198, eσ_198, hF_199⟩ := bnd_e hF_197
              clear hF_197
              refine m_iast (σ' := σ_198) hx hb hK hP (hDD _ _) hS (q0 := 45) (t0 := 2) (f := σ_184.2 72) rfl rfl (by rw [eσ_198]; exact mwA_72) g_196 dX12_layOne_421 (fun H locs hP hS => ?_)
              refine lv_goto (tgt := 436) hx hb dX12_layOne_422 (by decide) ?_
              exact Jj_187  σ_198 hF_199 _ _ hP hS ls (lv_sub hl [1, 2, 3] rfl)
          refine lv_if_ne (tgt := 344) hx hb dX12_layOne_337 (by decide) (fun c_205 => ?_) (fun c_205 => ?_)
          · have hF_207 := ineg c_205 hF_174
            clear hF_174
            refine lv_aload_n hx hb dX12_layOne_344 rfl (lv_at hl 0 rfl) ?_
            refine va_get (D := (dC, dI)) (ci := 12) (v := .ref (ad 19)) (C := RX12) (T := TX12) (N := 123) hx hb hts ii_X12 hown hK hP 0 rfl rfl 19 (by decide) (hts (.fieldLink RX12 55 "StoryHouseModel" "a" "[I") wq_1375) (fun _ h9 => h9) rfl dX12_layOne_345 ?_
            refine lv_iload hx hb dX12_layOne_348 (lv_at hl 2 rfl) ?_
            obtain ⟨g_208, hF_209⟩ := nif_e hF_207
            clear hF_207
            refine va_iald (f := s_148.2.2 19) hx hb hK hP 10 2 rfl rfl g_208 dX12_layOne_350 ?_
            refine lv_iconst (v := 3) hx hb dX12_layOne_351 (by decide +kernel) ?_
            refine lv_icmp_ne (tgt := 365) hx hb dX12_layOne_352 (by decide) (fun c_210 => ?_) (fun c_210 => ?_)
            · have hF_214 := ineg c_210 hF_209
              clear hF_209
              refine lv_aload_n hx hb dX12_layOne_365 rfl (lv_at hl 0 rfl) ?_
              refine va_get (D := (dC, dI)) (ci := 12) (v := .ref (ad 19)) (C := RX12) (T := TX12) (N := 123) hx hb hts ii_X12 hown hK hP 0 rfl rfl 19 (by decide) (hts (.fieldLink RX12 55 "StoryHouseModel" "a" "[I") wq_1375) (fun _ h9 => h9) rfl dX12_layOne_366 ?_
              refine lv_iload hx hb dX12_layOne_369 (lv_at hl 2 rfl) ?_
              obtain ⟨g_215, hF_216⟩ := nif_e hF_214
              clear hF_214
              refine va_iald (f := s_148.2.2 19) hx hb hK hP 10 2 rfl rfl g_215 dX12_layOne_371 ?_
              refine lv_iconst (v := 2) hx hb dX12_layOne_372 (by decide +kernel) ?_
              refine lv_icmp_ne (tgt := 380) hx hb dX12_layOne_373 (by decide) (fun c_217 => ?_) (fun c_217 => ?_)
              · have hF_219 := ineg c_217 hF_216
                clear hF_216
                refine lv_aload_n hx hb dX12_layOne_380 rfl (lv_at hl 0 rfl) ?_
                refine va_get (D := (dC, dI)) (ci := 12) (v := .ref (ad 29)) (C := RX12) (T := TX12) (N := 123) hx hb hts ii_X12 hown hK hP 0 rfl rfl 29 (by decide) (hts (.fieldLink RX12 70 "StoryHouseModel" "nameNumber" "[I") wq_1385) (fun _ h9 => h9) rfl dX12_layOne_381 ?_
                refine lv_aload_n hx hb dX12_layOne_384 rfl (lv_at hl 0 rfl) ?_
                refine va_get (D := (dC, dI)) (ci := 12) (v := .ref (ad 20)) (C := RX12) (T := TX12) (N := 123) hx hb hts ii_X12 hown hK hP 0 rfl rfl 20 (by decide) (hts (.fieldLink RX12 58 "StoryHouseModel" "b" "[I") wq_1376) (fun _ h9 => h9) rfl dX12_layOne_385 ?_
                refine lv_iload hx hb dX12_layOne_388 (lv_at hl 2 rfl) ?_
                obtain ⟨g_220, hF_221⟩ := nif_e hF_219
                clear hF_219
                refine va_iald (f := s_148.2.2 20) hx hb hK hP 11 2 rfl rfl g_220 dX12_layOne_390 ?_
                obtain ⟨x_222, ex_222, hF_223⟩ := bnd_e hF_221
                clear hF_221
                refine m_top ex_222 ?_
                obtain ⟨g_224, hF_225⟩ := nif_e hF_223
                clear hF_223
                refine va_iald (f := s_148.2.2 29) hx hb hK hP 15 2 rfl rfl g_224 dX12_layOne_391 ?_
                exact Jj_173 (s_148.2.2 29 x_222.toNatClampNeg) s_148.2 hF_225 _ _ hP hS ls (lv_sub hl [0, 1, 2] rfl)
              · have hF_218 := ipos c_217 hF_216
                clear hF_216
                refine lv_iconst (v := 1) hx hb dX12_layOne_376 (by decide +kernel) ?_
                refine lv_goto (tgt := 392) hx hb dX12_layOne_377 (by decide) ?_
                exact Jj_173 1 s_148.2 hF_218 _ _ hP hS ls (lv_sub hl [0, 1, 2] rfl)
            · have hF_211 := ipos c_210 hF_209
              clear hF_209
              refine lv_aload_n hx hb dX12_layOne_355 rfl (lv_at hl 0 rfl) ?_
              refine va_get (D := (dC, dI)) (ci := 12) (v := .ref (ad 20)) (C := RX12) (T := TX12) (N := 123) hx hb hts ii_X12 hown hK hP 0 rfl rfl 20 (by decide) (hts (.fieldLink RX12 58 "StoryHouseModel" "b" "[I") wq_1376) (fun _ h9 => h9) rfl dX12_layOne_356 ?_
              refine lv_iload hx hb dX12_layOne_359 (lv_at hl 2 rfl) ?_
              obtain ⟨g_212, hF_213⟩ := nif_e hF_211
              clear hF_211
              refine va_iald (f := s_148.2.2 20) hx hb hK hP 11 2 rfl rfl g_212 dX12_layOne_361 ?_
              refine lv_goto (tgt := 392) hx hb dX12_layOne_362 (by decide) ?_
              exact Jj_173 (s_148.2.2 20 s_148.1.toNatClampNeg) s_148.2 hF_213 _ _ hP hS ls (lv_sub hl [0, 1, 2] rfl)
          · have hF_206 := ipos c_205 hF_174
            clear hF_174
            refine lv_iconst (v := (-1)) hx hb dX12_layOne_340 (by decide +kernel) ?_
            refine lv_goto (tgt := 392) hx hb dX12_layOne_341 (by decide) ?_
            exact Jj_173 (-1) s_148.2 hF_206 _ _ hP hS ls (lv_sub hl [0, 1, 2] rfl)
      have hF_226 := ineg c_134 hF_133
      clear hF_133
      by_cases c_227 : x_15 = 8
      · have hF_228 := ipos c_227 hF_226
        clear hF_226
        refine lv_tableIn (off := 432) (tgt := 478) hx hb dX12_layOne_46 (by rw [c_227]; decide +kernel) (by rw [c_227]; decide +kernel) (by rw [c_227]; decide +kernel) (by decide) ?_
        refine lv_aload_n hx hb dX12_layOne_478 rfl (lv_at hl 1 rfl) ?_
        refine va_get (D := (dC, dI)) (ci := 12) (v := .ref (ad 75)) (C := RX12) (T := TX12) (N := 123) hx hb hts ii_X12 hown hK hP 0 rfl rfl 75 (by decide) (hts (.fieldLink RX12 170 "StoryHouseModel" "eachBody" "[I") wq_1431) (fun _ h9 => h9) rfl dX12_layOne_479 ?_
        refine lv_aload_n hx hb dX12_layOne_482 rfl (lv_at hl 1 rfl) ?_
        refine lv_dup hx hb dX12_layOne_483 rfl ?_
        refine va_get (D := (dC, dI)) (ci := 12) (v := .int (σ_9.1 84)) (C := RX12) (T := TX12) (N := 123) hx hb hts ii_X12 hown hK hP 0 rfl rfl 84 (by decide) (hts (.fieldLink RX12 618 "StoryHouseModel" "nEachs" "I") wq_1440) (fun _ h9 => h9) rfl dX12_layOne_484 ?_
        refine lv_dup_x1 hx hb dX12_layOne_487 rfl rfl ?_
        refine lv_iconst (v := 1) hx hb dX12_layOne_488 (by decide +kernel) ?_
        refine lv_iadd hx hb dX12_layOne_489 ?_
        obtain ⟨σ_229, eσ_229, hF_230⟩ := bnd_e hF_228
        clear hF_228
        refine m_put (σ' := σ_229) (v := .int ((σ_9.1 84) + 1)) (ty := .int) hx hb hts hown hK hP (hDD _ _) hS (by rw [eσ_229]; exact mwI_84) (k := 84) (by decide) (hts (.fieldLink RX12 618 "StoryHouseModel" "nEachs" "I") wq_1440) (fun _ h9 => h9) rfl (by decide +kernel) rfl rfl dX12_layOne_490 (fun H locs hP hS => ?_)
        refine lv_aload_n hx hb dX12_layOne_493 rfl (lv_at hl 1 rfl) ?_
        refine va_get (D := (dC, dI)) (ci := 12) (v := .ref (ad 19)) (C := RX12) (T := TX12) (N := 123) hx hb hts ii_X12 hown hK hP 0 rfl rfl 19 (by decide) (hts (.fieldLink RX12 55 "StoryHouseModel" "a" "[I") wq_1375) (fun _ h9 => h9) rfl dX12_layOne_494 ?_
        refine lv_aload_n hx hb dX12_layOne_497 rfl (lv_at hl 1 rfl) ?_
        refine va_get (D := (dC, dI)) (ci := 12) (v := .ref (ad 21)) (C := RX12) (T := TX12) (N := 123) hx hb hts ii_X12 hown hK hP 0 rfl rfl 21 (by decide) (hts (.fieldLink RX12 61 "StoryHouseModel" "d" "[I") wq_1377) (fun _ h9 => h9) rfl dX12_layOne_498 ?_
        refine lv_iload_n hx hb dX12_layOne_501 rfl (lv_at hl 2 rfl) ?_
        obtain ⟨g_231, hF_232⟩ := nif_e hF_230
        clear hF_230
        refine va_iald (f := σ_229.2 21) hx hb hK hP 12 2 rfl rfl g_231 dX12_layOne_502 ?_
        obtain ⟨x_233, ex_233, hF_234⟩ := bnd_e hF_232
        clear hF_232
        refine m_top ex_233 ?_
        obtain ⟨g_235, hF_236⟩ := nif_e hF_234
        clear hF_234
        refine va_iald (f := σ_229.2 19) hx hb hK hP 10 2 rfl rfl g_235 dX12_layOne_503 ?_
        obtain ⟨x_237, ex_237, hF_238⟩ := bnd_e hF_236
        clear hF_236
        refine m_top ex_237 ?_
        obtain ⟨g_239, hF_240⟩ := nif_e hF_238
        clear hF_238
        obtain ⟨σ_241, eσ_241, hF_242⟩ := bnd_e hF_240
        clear hF_240
        refine m_iast (σ' := σ_241) hx hb hK hP (hDD _ _) hS (q0 := 48) (t0 := 2) (f := σ_229.2 75) rfl rfl (by rw [eσ_241]; exact mwA_75) g_239 dX12_layOne_504 (fun H locs hP hS => ?_)
        refine lv_goto (tgt := 508) hx hb dX12_layOne_505 (by decide) ?_
        have h9 := Option.some.inj hF_242
        subst h9
        exact W.vret hx hb hr (fun t ht hW => ⟨⟨(), rfl, trivial, m_end ht hP⟩, hS.F ht⟩) hS.2.2 dX12_layOne_508
      have hF_243 := ineg c_227 hF_226
      clear hF_226
      refine m_tabD (lo := 1) (n := 8) (tgt := 508) hx hb dX12_layOne_46 (by decide +kernel) (by decide) (fun j9 h9 e9 => by
          match j9, h9 with
          | 0, _ => exact absurd (Or.inl (by rw [e9]; decide +kernel)) c_17
          | 1, _ => exact absurd (Or.inr ((by rw [e9]; decide +kernel))) c_17
          | 2, _ => exact absurd ((by rw [e9]; decide +kernel)) c_22
          | 3, _ => exact absurd ((by rw [e9]; decide +kernel)) c_104
          | 4, _ => exact absurd ((by rw [e9]; decide +kernel)) c_113
          | 5, _ => rfl
          | 6, _ => exact absurd ((by rw [e9]; decide +kernel)) c_134
          | 7, _ => exact absurd ((by rw [e9]; decide +kernel)) c_227
          | n9 + 8, h9 => exact absurd h9 (by omega)) ?_
      have h9 := Option.some.inj hF_243
      subst h9
      exact W.vret hx hb hr (fun t ht hW => ⟨⟨(), rfl, trivial, m_end ht hP⟩, hS.F ht⟩) hS.2.2 dX12_layOne_508
    refine lv_if_lt (tgt := 38) hx hb dX12_layOne_26 (by decide) (fun c_244 => ?_) (fun c_244 => ?_)
    · have hF_245 := ipos c_244 hF_11
      clear hF_11
      refine lv_iconst (v := 0) hx hb dX12_layOne_38 (by decide +kernel) ?_
      exact Jj_10 0 σ_4 hF_245 _ _ hP hS ls (lv_sub hl [1, 2] rfl)
    · have hF_246 := ineg c_244 hF_11
      clear hF_11
      refine lv_aload_n hx hb dX12_layOne_29 rfl (lv_at hl 1 rfl) ?_
      refine va_get (D := (dC, dI)) (ci := 12) (v := .ref (ad 29)) (C := RX12) (T := TX12) (N := 123) hx hb hts ii_X12 hown hK hP 0 rfl rfl 29 (by decide) (hts (.fieldLink RX12 70 "StoryHouseModel" "nameNumber" "[I") wq_1385) (fun _ h9 => h9) rfl dX12_layOne_30 ?_
      refine lv_iload_n hx hb dX12_layOne_33 rfl (lv_at hl 0 rfl) ?_
      obtain ⟨g_247, hF_248⟩ := nif_e hF_246
      clear hF_246
      refine va_iald (f := σ_4.2 29) hx hb hK hP 15 2 rfl rfl g_247 dX12_layOne_34 ?_
      refine lv_goto (tgt := 39) hx hb dX12_layOne_35 (by decide) ?_
      exact Jj_10 (σ_4.2 29 t_3.toNatClampNeg) σ_4 hF_248 _ _ hP hS ls (lv_sub hl [1, 2] rfl)
  refine lv_if_lt (tgt := 23) hx hb dX12_layOne_6 (by decide) (fun c_249 => ?_) (fun c_249 => ?_)
  · have hF_250 := ipos c_249 hF_6
    clear hF_6
    refine lv_iconst (v := (-1)) hx hb dX12_layOne_23 (by decide +kernel) ?_
    exact Jj_5 (-1) σ hF_250 _ _ hP hS ls (lv_sub hl [0, 1] rfl)
  · have hF_251 := ineg c_249 hF_6
    clear hF_6
    refine lv_aload_n hx hb dX12_layOne_9 rfl (lv_at hl 0 rfl) ?_
    refine va_get (D := (dC, dI)) (ci := 12) (v := .ref (ad 19)) (C := RX12) (T := TX12) (N := 123) hx hb hts ii_X12 hown hK hP 0 rfl rfl 19 (by decide) (hts (.fieldLink RX12 55 "StoryHouseModel" "a" "[I") wq_1375) (fun _ h9 => h9) rfl dX12_layOne_10 ?_
    refine lv_aload_n hx hb dX12_layOne_13 rfl (lv_at hl 0 rfl) ?_
    refine va_get (D := (dC, dI)) (ci := 12) (v := .ref (ad 19)) (C := RX12) (T := TX12) (N := 123) hx hb hts ii_X12 hown hK hP 0 rfl rfl 19 (by decide) (hts (.fieldLink RX12 55 "StoryHouseModel" "a" "[I") wq_1375) (fun _ h9 => h9) rfl dX12_layOne_14 ?_
    refine lv_iload_n hx hb dX12_layOne_17 rfl (lv_at hl 1 rfl) ?_
    obtain ⟨g_252, hF_253⟩ := nif_e hF_251
    clear hF_251
    refine va_iald (f := σ.2 19) hx hb hK hP 10 2 rfl rfl g_252 dX12_layOne_18 ?_
    obtain ⟨x_254, ex_254, hF_255⟩ := bnd_e hF_253
    clear hF_253
    refine m_top ex_254 ?_
    obtain ⟨g_256, hF_257⟩ := nif_e hF_255
    clear hF_255
    refine va_iald (f := σ.2 19) hx hb hK hP 10 2 rfl rfl g_256 dX12_layOne_19 ?_
    refine lv_goto (tgt := 24) hx hb dX12_layOne_20 (by decide) ?_
    exact Jj_5 (σ.2 19 x_254.toNatClampNeg) σ hF_257 _ _ hP hS ls (lv_sub hl [0, 1] rfl)
