/-! methods of the reference: what each does is its function -/
theorem dX12_isItem_0 : decode cX12_isItem 0 = .ok (.iload_n 0, 1) := by decide +kernel
theorem dX12_isItem_1 : decode cX12_isItem 1 = .ok (.iconst 1, 1) := by decide +kernel
theorem dX12_isItem_2 : decode cX12_isItem 2 = .ok (.if_icmp .lt 13, 3) := by decide +kernel
theorem dX12_isItem_5 : decode cX12_isItem 5 = .ok (.iload_n 0, 1) := by decide +kernel
theorem dX12_isItem_6 : decode cX12_isItem 6 = .ok (.bipush 6, 2) := by decide +kernel
theorem dX12_isItem_8 : decode cX12_isItem 8 = .ok (.if_icmp .gt 7, 3) := by decide +kernel
theorem dX12_isItem_11 : decode cX12_isItem 11 = .ok (.iconst 1, 1) := by decide +kernel
theorem dX12_isItem_12 : decode cX12_isItem 12 = .ok (.goto 4, 3) := by decide +kernel
theorem dX12_isItem_15 : decode cX12_isItem 15 = .ok (.iconst 0, 1) := by decide +kernel
theorem dX12_isItem_16 : decode cX12_isItem 16 = .ok (.ireturn, 1) := by decide +kernel
def F_X12_isItem (p0 : Int32) (σ : MS) : MR :=
  if p0 < 1 then (
    some (0, σ)
  ) else (
    if 6 < p0 then (
      some (0, σ)
    ) else (
      some (1, σ)
    )
  )
set_option maxHeartbeats 4000000 in
set_option maxRecDepth 100000 in
theorem m_X12_isItem (l : Launch) (dC : Nat → ClassId) (dI : Nat → Nat → Nat) (cB cC cI cJ cZ cP : ClassId) (h qK qS : Nat) (ad : Nat → Nat) (hDD : mDis cB cI cZ h qK qS ad) (sz : Nat)  (p0 : Int32) (σ : MS) (res : Int32 × MS) (hF : F_X12_isItem p0 σ = some res) : Met l yX12_isItem (g_ws yX12_isItem cX12_isItem 1 (some .boolean)) ({ frames := 1, cells := 0, slots := 0, locals := 40 }) (va_Pc [.int p0] (m_B (dC, dI) [(cB, .byte), (cC, .char), (cI, .int), (cJ, .long), (cZ, .boolean), (cP, .object "StoryHouse$Play")] sz h ad qK qS (mW cB cI cZ h qK qS ad σ) g_0)) (va_Qi (fun r (_ : Unit) => r = res.1) (fun _ t => va_P (dC, dI) vwCl (mW cB cI cZ h qK qS ad res.2) t.heap) (mCells h ad sz)) 0 0 (mCells h ad sz) := by
  refine Met.ofW (cc := cX12_isItem) (maxL := 1) (ret := (some .boolean)) (by decide) rfl ?_
  intro p e s m args below meth c s₁ B hml hv
  obtain ⟨rfl, hsz, hP, hK, hE, hKS, hX⟩ := hv
  have hx := B.exec
  have hb := B.bytes
  have hr := B.returns
  have hts0 := atoms_spec (ws := g_ws yX12_isItem cX12_isItem 1 (some .boolean)) B.pre
  have hts : ∀ w ∈ lw_good, w.before ([.int p0] : List Value).toArray s = true := fun w z => hts0 w (List.mem_cons_of_mem _ z)
  have hown : s.vm.findClass RX12 = some m.cls := findClass_of_methodNamed B.named
  have hlocks := B.notSynchronized
  have hS : va_S (mCells h ad sz) s.heap s.heap [] := va_S.rf
  have hl := lv_entry ([.int p0]) (n := 1) (Nat.le_of_ble_eq_true rfl)
  rw [lg_entry_eq]
  generalize (lg_sl ([.int p0]) ++ List.replicate (1 - (lg_sl ([.int p0])).length) Slot.unset).toArray = ls at hl ⊢
  have hl : lv_has ls 1 [(0, .int p0)] := hl
  unfold F_X12_isItem at hF
  refine lv_iload_n hx hb dX12_isItem_0 rfl (lv_at hl 0 rfl) ?_
  refine lv_iconst (v := 1) hx hb dX12_isItem_1 (by decide +kernel) ?_
  refine lv_icmp_lt (tgt := 15) hx hb dX12_isItem_2 (by decide) (fun c_1 => ?_) (fun c_1 => ?_)
  · have hF_2 := ipos c_1 hF
    clear hF
    refine lv_iconst (v := 0) hx hb dX12_isItem_15 (by decide +kernel) ?_
    have h9 := Option.some.inj hF_2
    subst h9
    exact W.zret (v := 0) hx hb hr (by decide +kernel) (fun t ht hW => ⟨⟨0, (), rfl, rfl, m_end ht hP⟩, hS.F ht⟩) hS.2.2 dX12_isItem_16
  · have hF_3 := ineg c_1 hF
    clear hF
    refine lv_iload_n hx hb dX12_isItem_5 rfl (lv_at hl 0 rfl) ?_
    refine lv_bipush (v := 6) hx hb dX12_isItem_6 (by decide +kernel) ?_
    refine lv_icmp_gt (tgt := 15) hx hb dX12_isItem_8 (by decide) (fun c_4 => ?_) (fun c_4 => ?_)
    · have hF_5 := ipos c_4 hF_3
      clear hF_3
      refine lv_iconst (v := 0) hx hb dX12_isItem_15 (by decide +kernel) ?_
      have h9 := Option.some.inj hF_5
      subst h9
      exact W.zret (v := 0) hx hb hr (by decide +kernel) (fun t ht hW => ⟨⟨0, (), rfl, rfl, m_end ht hP⟩, hS.F ht⟩) hS.2.2 dX12_isItem_16
    · have hF_6 := ineg c_4 hF_3
      clear hF_3
      refine lv_iconst (v := 1) hx hb dX12_isItem_11 (by decide +kernel) ?_
      refine lv_goto (tgt := 16) hx hb dX12_isItem_12 (by decide) ?_
      have h9 := Option.some.inj hF_6
      subst h9
      exact W.zret (v := 1) hx hb hr (by decide +kernel) (fun t ht hW => ⟨⟨1, (), rfl, rfl, m_end ht hP⟩, hS.F ht⟩) hS.2.2 dX12_isItem_16
theorem dX12_findName_0 : decode cX12_findName 0 = .ok (.iconst 0, 1) := by decide +kernel
theorem dX12_findName_1 : decode cX12_findName 1 = .ok (.istore_n 2, 1) := by decide +kernel
theorem dX12_findName_2 : decode cX12_findName 2 = .ok (.iload_n 2, 1) := by decide +kernel
theorem dX12_findName_3 : decode cX12_findName 3 = .ok (.aload_n 0, 1) := by decide +kernel
theorem dX12_findName_4 : decode cX12_findName 4 = .ok (.getfield 246, 3) := by decide +kernel
theorem dX12_findName_7 : decode cX12_findName 7 = .ok (.if_icmp .ge 83, 3) := by decide +kernel
theorem dX12_findName_10 : decode cX12_findName 10 = .ok (.aload_n 0, 1) := by decide +kernel
theorem dX12_findName_11 : decode cX12_findName 11 = .ok (.getfield 41, 3) := by decide +kernel
theorem dX12_findName_14 : decode cX12_findName 14 = .ok (.iload_n 2, 1) := by decide +kernel
theorem dX12_findName_15 : decode cX12_findName 15 = .ok (.iaload, 1) := by decide +kernel
theorem dX12_findName_16 : decode cX12_findName 16 = .ok (.aload_n 1, 1) := by decide +kernel
theorem dX12_findName_17 : decode cX12_findName 17 = .ok (.invokevirtual 283, 3) := by decide +kernel
theorem dX12_findName_20 : decode cX12_findName 20 = .ok (.if_icmp .ne 7, 3) := by decide +kernel
theorem dX12_findName_23 : decode cX12_findName 23 = .ok (.iconst 1, 1) := by decide +kernel
theorem dX12_findName_24 : decode cX12_findName 24 = .ok (.goto 4, 3) := by decide +kernel
theorem dX12_findName_27 : decode cX12_findName 27 = .ok (.iconst 0, 1) := by decide +kernel
theorem dX12_findName_28 : decode cX12_findName 28 = .ok (.istore_n 3, 1) := by decide +kernel
theorem dX12_findName_29 : decode cX12_findName 29 = .ok (.iconst 0, 1) := by decide +kernel
theorem dX12_findName_30 : decode cX12_findName 30 = .ok (.istore 4, 2) := by decide +kernel
theorem dX12_findName_32 : decode cX12_findName 32 = .ok (.iload 4, 2) := by decide +kernel
theorem dX12_findName_34 : decode cX12_findName 34 = .ok (.aload_n 1, 1) := by decide +kernel
theorem dX12_findName_35 : decode cX12_findName 35 = .ok (.invokevirtual 283, 3) := by decide +kernel
theorem dX12_findName_38 : decode cX12_findName 38 = .ok (.if_icmp .ge 40, 3) := by decide +kernel
theorem dX12_findName_41 : decode cX12_findName 41 = .ok (.iload_n 3, 1) := by decide +kernel
theorem dX12_findName_42 : decode cX12_findName 42 = .ok (.ifCond .eq 36, 3) := by decide +kernel
theorem dX12_findName_45 : decode cX12_findName 45 = .ok (.aload_n 0, 1) := by decide +kernel
theorem dX12_findName_46 : decode cX12_findName 46 = .ok (.getfield 38, 3) := by decide +kernel
theorem dX12_findName_49 : decode cX12_findName 49 = .ok (.bipush 12, 2) := by decide +kernel
theorem dX12_findName_51 : decode cX12_findName 51 = .ok (.iload_n 2, 1) := by decide +kernel
theorem dX12_findName_52 : decode cX12_findName 52 = .ok (.imul, 1) := by decide +kernel
theorem dX12_findName_53 : decode cX12_findName 53 = .ok (.iload 4, 2) := by decide +kernel
theorem dX12_findName_55 : decode cX12_findName 55 = .ok (.iadd, 1) := by decide +kernel
theorem dX12_findName_56 : decode cX12_findName 56 = .ok (.baload, 1) := by decide +kernel
theorem dX12_findName_57 : decode cX12_findName 57 = .ok (.aload_n 1, 1) := by decide +kernel
theorem dX12_findName_58 : decode cX12_findName 58 = .ok (.iload 4, 2) := by decide +kernel
theorem dX12_findName_60 : decode cX12_findName 60 = .ok (.invokevirtual 289, 3) := by decide +kernel
theorem dX12_findName_63 : decode cX12_findName 63 = .ok (.if_icmp .ne 7, 3) := by decide +kernel
theorem dX12_findName_66 : decode cX12_findName 66 = .ok (.iconst 1, 1) := by decide +kernel
theorem dX12_findName_67 : decode cX12_findName 67 = .ok (.goto 4, 3) := by decide +kernel
theorem dX12_findName_70 : decode cX12_findName 70 = .ok (.iconst 0, 1) := by decide +kernel
theorem dX12_findName_71 : decode cX12_findName 71 = .ok (.istore_n 3, 1) := by decide +kernel
theorem dX12_findName_72 : decode cX12_findName 72 = .ok (.iinc 4 1, 3) := by decide +kernel
theorem dX12_findName_75 : decode cX12_findName 75 = .ok (.goto (-43), 3) := by decide +kernel
theorem dX12_findName_78 : decode cX12_findName 78 = .ok (.iload_n 3, 1) := by decide +kernel
theorem dX12_findName_79 : decode cX12_findName 79 = .ok (.ifCond .eq 5, 3) := by decide +kernel
theorem dX12_findName_82 : decode cX12_findName 82 = .ok (.iload_n 2, 1) := by decide +kernel
theorem dX12_findName_83 : decode cX12_findName 83 = .ok (.ireturn, 1) := by decide +kernel
theorem dX12_findName_84 : decode cX12_findName 84 = .ok (.iinc 2 1, 3) := by decide +kernel
theorem dX12_findName_87 : decode cX12_findName 87 = .ok (.goto (-85), 3) := by decide +kernel
theorem dX12_findName_90 : decode cX12_findName 90 = .ok (.iconst (-1), 1) := by decide +kernel
theorem dX12_findName_91 : decode cX12_findName 91 = .ok (.ireturn, 1) := by decide +kernel
def F_X12_findName (b0 : List Int32) (σ : MS) : MR :=
  loopF (fun (again_2 : (Int32 × MS) → MR) (s_1 : Int32 × MS) => (
    if (s_1.2.1 13) ≤ s_1.1 then (
      some ((-1), s_1.2)
    ) else (
      if s_1.1 < 0 ∨ 8000 ≤ s_1.1.toNatClampNeg then none else
      bnd ((Int32.ofNat (b0).length)) fun (x_10 : Int32) =>
      bnd (fun (t_12 : Int32) (σ_13 : MS) => (
        loopF (fun (again_18 : (Int32 × Int32 × MS) → MR) (s_17 : Int32 × Int32 × MS) => (
          bnd ((Int32.ofNat (b0).length)) fun (x_21 : Int32) =>
          bnd (fun  (σ_23 : MS) => (
            if s_17.1 = 0 then (
              bnd (s_1.1 + 1) fun (x_29 : Int32) =>
              again_2 (x_29, σ_23)
            ) else (
              some (s_1.1, σ_23)
            )
          ) : MS → MR) fun j_24 =>
          if x_21 ≤ s_17.2.1 then (
            j_24  s_17.2.2
          ) else (
            if s_17.1 = 0 then (
              j_24  s_17.2.2
            ) else (
              bnd (((12 * s_1.1) + s_17.2.1)) fun (x_38 : Int32) =>
              if x_38 < 0 ∨ 96000 ≤ x_38.toNatClampNeg then none else
              if s_17.2.1 < 0 ∨ Int32.ofNat (b0).length ≤ s_17.2.1 then none else
              bnd ((g_chr ((b0).getD s_17.2.1.toNatClampNeg 0))) fun (x_44 : Int32) =>
              bnd (fun (t_46 : Int32) (σ_47 : MS) => (
                bnd (s_17.2.1 + 1) fun (x_51 : Int32) =>
                again_18 (t_46, x_51, σ_47)
              ) : Int32 → MS → MR) fun j_48 =>
              if (s_17.2.2.2 11 x_38.toNatClampNeg) = x_44 then (
                j_48 1 s_17.2.2
              ) else (
                j_48 0 s_17.2.2
              )
            )
          )
        )) FU (t_12, 0, σ_13)
      ) : Int32 → MS → MR) fun j_14 =>
      if (s_1.2.2 12 s_1.1.toNatClampNeg) = x_10 then (
        j_14 1 s_1.2
      ) else (
        j_14 0 s_1.2
      )
    )
  )) FU (0, σ)
set_option maxHeartbeats 4000000 in
set_option maxRecDepth 100000 in
theorem m_X12_findName (l : Launch) (dC : Nat → ClassId) (dI : Nat → Nat → Nat) (cB cC cI cJ cZ cP : ClassId) (h qK qS : Nat) (ad : Nat → Nat) (hDD : mDis cB cI cZ h qK qS ad) (sz : Nat) (q0 vq0 : Nat) (b0 : List Int32) (σ : MS) (res : Int32 × MS) (hF : F_X12_findName b0 σ = some res) : Met l yX12_findName (g_ws yX12_findName cX12_findName 5 (some .int)) ({ frames := 5, cells := 0, slots := 0, locals := 125 }) (va_Pc [.ref h, .ref q0] (m_B (dC, dI) [(cB, .byte), (cC, .char), (cI, .int), (cJ, .long), (cZ, .boolean), (cP, .object "StoryHouse$Play")] sz h ad qK qS (mW cB cI cZ h qK qS ad σ) (fun U : State => g_S q0 vq0 b0 (mCells h ad sz) U U.heap))) (va_Qi (fun r (_ : Unit) => r = res.1) (fun _ t => va_P (dC, dI) vwCl (mW cB cI cZ h qK qS ad res.2) t.heap) (mCells h ad sz)) 0 0 (mCells h ad sz) := by
  refine Met.ofW (cc := cX12_findName) (maxL := 5) (ret := (some .int)) (by decide) rfl ?_
  intro p e s m args below meth c s₁ B hml hv
  obtain ⟨rfl, hsz, hP, hK, hE, hKS, hX⟩ := hv
  have hStr_q0 := hX
  have hx := B.exec
  have hb := B.bytes
  have hr := B.returns
  have hts0 := atoms_spec (ws := g_ws yX12_findName cX12_findName 5 (some .int)) B.pre
  have hts : ∀ w ∈ lw_good, w.before ([.ref h, .ref q0] : List Value).toArray s = true := fun w z => hts0 w (List.mem_cons_of_mem _ z)
  have hown : s.vm.findClass RX12 = some m.cls := findClass_of_methodNamed B.named
  have hlocks := B.notSynchronized
  have hS : va_S (mCells h ad sz) s.heap s.heap [] := va_S.rf
  have hl := lv_entry ([.ref h, .ref q0]) (n := 5) (Nat.le_of_ble_eq_true rfl)
  rw [lg_entry_eq]
  generalize (lg_sl ([.ref h, .ref q0]) ++ List.replicate (5 - (lg_sl ([.ref h, .ref q0])).length) Slot.unset).toArray = ls at hl ⊢
  have hl : lv_has ls 5 [(0, .ref h), (1, .ref q0)] := hl
  unfold F_X12_findName at hF
  refine lv_iconst (v := 0) hx hb dX12_findName_0 (by decide +kernel) ?_
  refine lv_istore_n (lv' := [(2, .int 0), (0, .ref h), (1, .ref q0)]) hx hb dX12_findName_1 rfl hl (by decide) rfl (fun ls hl => ?_)
  refine loopF_ind (P := fun (s_1 : Int32 × MS) => ∀ (H : Heap) (locs : List Loc), va_P (dC, dI) vwCl (mW cB cI cZ h qK qS ad s_1.2) H → va_S (mCells h ad sz) s.heap H locs → ∀ ls : Array Slot, lv_has ls 5 [(0, .ref h), (1, .ref q0), (2, .int s_1.1)] → W p l e (headSpec (g_ws yX12_findName cX12_findName 5 (some .int)) { frames := 5, cells := 0, slots := 0, locals := 125 }).room s m ([.ref h, .ref q0] : List Value).toArray below meth c H locs 0 0 (MQ below (va_Qi (fun r (_ : Unit) => r = res.1) (fun _ t => va_P (dC, dI) vwCl (mW cB cI cZ h qK qS ad res.2) t.heap) (mCells h ad sz)) ([.ref h, .ref q0] : List Value).toArray s 0 0 (mCells h ad sz)) (F0 m 2 ls [])) ?_ _ _ hF _ _ hP hS ls (lv_sub hl [1, 2, 0] rfl)
  intro again_2 s_1 ih_3 hF_4
  intro H locs hP hS ls hl
  refine lv_iload_n hx hb dX12_findName_2 rfl (lv_at hl 2 rfl) ?_
  refine lv_aload_n hx hb dX12_findName_3 rfl (lv_at hl 0 rfl) ?_
  refine va_get (D := (dC, dI)) (ci := 12) (v := .int (s_1.2.1 13)) (C := RX12) (T := TX12) (N := 123) hx hb hts ii_X12 hown hK hP 0 rfl rfl 13 (by decide) (hts (.fieldLink RX12 246 "StoryHouseModel" "names" "I") wq_1369) (fun _ h9 => h9) rfl dX12_findName_4 ?_
  refine lv_icmp_ge (tgt := 90) hx hb dX12_findName_7 (by decide) (fun c_5 => ?_) (fun c_5 => ?_)
  · have hF_6 := ipos c_5 hF_4
    clear hF_4
    refine lv_iconst (v := (-1)) hx hb dX12_findName_90 (by decide +kernel) ?_
    have h9 := Option.some.inj hF_6
    subst h9
    exact W.iret (v := (-1)) hx hb hr (fun t ht hW => ⟨⟨(-1), (), rfl, rfl, m_end ht hP⟩, hS.F ht⟩) hS.2.2 dX12_findName_91
  · have hF_7 := ineg c_5 hF_4
    clear hF_4
    refine lv_aload_n hx hb dX12_findName_10 rfl (lv_at hl 0 rfl) ?_
    refine va_get (D := (dC, dI)) (ci := 12) (v := .ref (ad 12)) (C := RX12) (T := TX12) (N := 123) hx hb hts ii_X12 hown hK hP 0 rfl rfl 12 (by decide) (hts (.fieldLink RX12 41 "StoryHouseModel" "nameSize" "[I") wq_1368) (fun _ h9 => h9) rfl dX12_findName_11 ?_
    refine lv_iload_n hx hb dX12_findName_14 rfl (lv_at hl 2 rfl) ?_
    obtain ⟨g_8, hF_9⟩ := nif_e hF_7
    clear hF_7
    refine va_iald (f := s_1.2.2 12) hx hb hK hP 7 2 rfl rfl g_8 dX12_findName_15 ?_
    refine lv_aload_n hx hb dX12_findName_16 rfl (lv_at hl 1 rfl) ?_
    refine m_cs (v := Int32.ofNat (b0).length) hsz hP hS (va_runV (As := []) (rest := [.int (s_1.2.2 12 s_1.1.toNatClampNeg)]) ⟨hx, hb, hml, hown, hts⟩ (c_J0_length_8abf5 l dC dI cB cC cI cJ cZ cP H.size q0  _ b0 ) (cwV 0 hts (g_gV wq_1509 wq_346 wq_347 wq_22 wq_348) rfl rfl rfl (by decide +kernel) ⟨Nat.le_of_ble_eq_true rfl, Nat.le_of_ble_eq_true rfl⟩) (g_preVs g_blS hK (wc := []) (A := mCells h ad sz) (fun k q z => by simp at z) ⟨fun i j p q z => by simp at z, fun k q z => by simp at z⟩ hS hE (m_nil hS hsz) (g_toS hStr_q0 hS (m_nil hS hsz)) (va_Orecv hStr_q0.1 hS)) rfl rfl hl.1 rfl (lv_room (Nat.le_of_ble_eq_true rfl)) dX12_findName_17 ⟨Nat.le_of_ble_eq_true rfl, Nat.le_of_ble_eq_true rfl⟩) (fun H locs hP hS => ?_)
    obtain ⟨x_10, ex_10, hF_11⟩ := bnd_e hF_9
    clear hF_9
    refine m_top ex_10 ?_
    obtain ⟨j_14, ej_14, hF_15⟩ := bnd_e hF_11
    clear hF_11
    have Jj_14 : ∀ (t_12 : Int32) (σ_13 : MS), j_14 t_12 σ_13 = some res → ∀ (H : Heap) (locs : List Loc), va_P (dC, dI) vwCl (mW cB cI cZ h qK qS ad σ_13) H → va_S (mCells h ad sz) s.heap H locs → ∀ ls : Array Slot, lv_has ls 5 [(0, .ref h), (1, .ref q0), (2, .int s_1.1)] → W p l e (headSpec (g_ws yX12_findName cX12_findName 5 (some .int)) { frames := 5, cells := 0, slots := 0, locals := 125 }).room s m ([.ref h, .ref q0] : List Value).toArray below meth c H locs 0 0 (MQ below (va_Qi (fun r (_ : Unit) => r = res.1) (fun _ t => va_P (dC, dI) vwCl (mW cB cI cZ h qK qS ad res.2) t.heap) (mCells h ad sz)) ([.ref h, .ref q0] : List Value).toArray s 0 0 (mCells h ad sz)) (F0 m 28 ls [.int t_12]) := by
      intro t_12 σ_13 hF0 H locs hP hS ls hl
      subst ej_14
      have hF_16 := hF0
      clear hF0
      refine lv_istore_n (lv' := [(3, .int t_12), (0, .ref h), (1, .ref q0), (2, .int s_1.1)]) hx hb dX12_findName_28 rfl hl (by decide) rfl (fun ls hl => ?_)
      refine lv_iconst (v := 0) hx hb dX12_findName_29 (by decide +kernel) ?_
      refine lv_istore (lv' := [(4, .int 0), (3, .int t_12), (0, .ref h), (1, .ref q0), (2, .int s_1.1)]) hx hb dX12_findName_30 hl (by decide) rfl (fun ls hl => ?_)
      refine loopF_ind (P := fun (s_17 : Int32 × Int32 × MS) => ∀ (H : Heap) (locs : List Loc), va_P (dC, dI) vwCl (mW cB cI cZ h qK qS ad s_17.2.2) H → va_S (mCells h ad sz) s.heap H locs → ∀ ls : Array Slot, lv_has ls 5 [(0, .ref h), (1, .ref q0), (2, .int s_1.1), (3, .int s_17.1), (4, .int s_17.2.1)] → W p l e (headSpec (g_ws yX12_findName cX12_findName 5 (some .int)) { frames := 5, cells := 0, slots := 0, locals := 125 }).room s m ([.ref h, .ref q0] : List Value).toArray below meth c H locs 0 0 (MQ below (va_Qi (fun r (_ : Unit) => r = res.1) (fun _ t => va_P (dC, dI) vwCl (mW cB cI cZ h qK qS ad res.2) t.heap) (mCells h ad sz)) ([.ref h, .ref q0] : List Value).toArray s 0 0 (mCells h ad sz)) (F0 m 32 ls [])) ?_ _ _ hF_16 _ _ hP hS ls (lv_sub hl [2, 3, 4, 1, 0] rfl)
      intro again_18 s_17 ih_19 hF_20
      intro H locs hP hS ls hl
      refine lv_iload hx hb dX12_findName_32 (lv_at hl 4 rfl) ?_
      refine lv_aload_n hx hb dX12_findName_34 rfl (lv_at hl 1 rfl) ?_
      refine m_cs (v := Int32.ofNat (b0).length) hsz hP hS (va_runV (As := []) (rest := [.int s_17.2.1]) ⟨hx, hb, hml, hown, hts⟩ (c_J0_length_8abf5 l dC dI cB cC cI cJ cZ cP H.size q0  _ b0 ) (cwV 0 hts (g_gV wq_1509 wq_346 wq_347 wq_22 wq_348) rfl rfl rfl (by decide +kernel) ⟨Nat.le_of_ble_eq_true rfl, Nat.le_of_ble_eq_true rfl⟩) (g_preVs g_blS hK (wc := []) (A := mCells h ad sz) (fun k q z => by simp at z) ⟨fun i j p q z => by simp at z, fun k q z => by simp at z⟩ hS hE (m_nil hS hsz) (g_toS hStr_q0 hS (m_nil hS hsz)) (va_Orecv hStr_q0.1 hS)) rfl rfl hl.1 rfl (lv_room (Nat.le_of_ble_eq_true rfl)) dX12_findName_35 ⟨Nat.le_of_ble_eq_true rfl, Nat.le_of_ble_eq_true rfl⟩) (fun H locs hP hS => ?_)
      obtain ⟨x_21, ex_21, hF_22⟩ := bnd_e hF_20
      clear hF_20
      refine m_top ex_21 ?_
      obtain ⟨j_24, ej_24, hF_25⟩ := bnd_e hF_22
      clear hF_22
      have Jj_24 : ∀  (σ_23 : MS), j_24  σ_23 = some res → ∀ (H : Heap) (locs : List Loc), va_P (dC, dI) vwCl (mW cB cI cZ h qK qS ad σ_23) H → va_S (mCells h ad sz) s.heap H locs → ∀ ls : Array Slot, lv_has ls 5 [(0, .ref h), (1, .ref q0), (2, .int s_1.1), (3, .int s_17.1)] → W p l e (headSpec (g_ws yX12_findName cX12_findName 5 (some .int)) { frames := 5, cells := 0, slots := 0, locals := 125 }).room s m ([.ref h, .ref q0] : List Value).toArray below meth c H locs 0 0 (MQ below (va_Qi (fun r (_ : Unit) => r = res.1) (fun _ t => va_P (dC, dI) vwCl (mW cB cI cZ h qK qS ad res.2) t.heap) (mCells h ad sz)) ([.ref h, .ref q0] : List Value).toArray s 0 0 (mCells h ad sz)) (F0 m 78 ls []) := by
        intro  σ_23 hF0 H locs hP hS ls hl
        subst ej_24
        have hF_26 := hF0
        clear hF0
        refine lv_iload_n hx hb dX12_findName_78 rfl (lv_at hl 3 rfl) ?_
        refine lv_if_eq (tgt := 84) hx hb dX12_findName_79 (by decide) (fun c_27 => ?_) (fun c_27 => ?_)
        · have hF_28 := ipos c_27 hF_26
          clear hF_26
          obtain ⟨x_29, ex_29, hF_30⟩ := bnd_e hF_28
          clear hF_28
          refine lv_iinc (v := x_29) (lv' := [(2, .int x_29), (0, .ref h), (1, .ref q0), (3, .int s_17.1)]) hx hb dX12_findName_84 hl (k := 2) rfl (by rw [ex_29]; rfl) (by decide) rfl (fun ls hl => ?_)
          refine lv_goto (tgt := 2) hx hb dX12_findName_87 (by decide) ?_
          exact ih_3 (x_29, σ_23) hF_30 _ _ hP hS ls (lv_sub hl [1, 2, 0] rfl)
        · have hF_31 := ineg c_27 hF_26
          clear hF_26
          refine lv_iload_n hx hb dX12_findName_82 rfl (lv_at hl 2 rfl) ?_
          have h9 := Option.some.inj hF_31
          subst h9
          exact W.iret (v := s_1.1) hx hb hr (fun t ht hW => ⟨⟨s_1.1, (), rfl, rfl, m_end ht hP⟩, hS.F ht⟩) hS.2.2 dX12_findName_83
      refine lv_icmp_ge (tgt := 78) hx hb dX12_findName_38 (by decide) (fun c_32 => ?_) (fun c_32 => ?_)
      · have hF_33 := ipos c_32 hF_25
        clear hF_25
        exact Jj_24  s_17.2.2 hF_33 _ _ hP hS ls (lv_sub hl [0, 1, 2, 3] rfl)
      · have hF_34 := ineg c_32 hF_25
        clear hF_25
        refine lv_iload_n hx hb dX12_findName_41 rfl (lv_at hl 3 rfl) ?_
        refine lv_if_eq (tgt := 78) hx hb dX12_findName_42 (by decide) (fun c_35 => ?_) (fun c_35 => ?_)
        · have hF_36 := ipos c_35 hF_34
          clear hF_34
          exact Jj_24  s_17.2.2 hF_36 _ _ hP hS ls (lv_sub hl [0, 1, 2, 3] rfl)
        · have hF_37 := ineg c_35 hF_34
          clear hF_34
          refine lv_aload_n hx hb dX12_findName_45 rfl (lv_at hl 0 rfl) ?_
          refine va_get (D := (dC, dI)) (ci := 12) (v := .ref (ad 11)) (C := RX12) (T := TX12) (N := 123) hx hb hts ii_X12 hown hK hP 0 rfl rfl 11 (by decide) (hts (.fieldLink RX12 38 "StoryHouseModel" "nameBytes" "[B") wq_1367) (fun _ h9 => h9) rfl dX12_findName_46 ?_
          refine lv_bipush (v := 12) hx hb dX12_findName_49 (by decide +kernel) ?_
          refine lv_iload_n hx hb dX12_findName_51 rfl (lv_at hl 2 rfl) ?_
          refine lv_imul hx hb dX12_findName_52 ?_
          refine lv_iload hx hb dX12_findName_53 (lv_at hl 4 rfl) ?_
          refine lv_iadd hx hb dX12_findName_55 ?_
          obtain ⟨x_38, ex_38, hF_39⟩ := bnd_e hF_37
          clear hF_37
          refine m_top ex_38 ?_
          obtain ⟨g_40, hF_41⟩ := nif_e hF_39
          clear hF_39
          refine va_bald (f := s_17.2.2.2 11) hx hb hK hP 6 0 rfl rfl g_40 dX12_findName_56 ?_
          refine lv_aload_n hx hb dX12_findName_57 rfl (lv_at hl 1 rfl) ?_
          refine lv_iload hx hb dX12_findName_58 (lv_at hl 4 rfl) ?_
          obtain ⟨g_42, hF_43⟩ := nif_e hF_41
          clear hF_41
          refine m_cs (v := g_chr ((b0).getD s_17.2.1.toNatClampNeg 0)) hsz hP hS (va_runV (As := [.int s_17.2.1]) (rest := [.int (s_17.2.2.2 11 x_38.toNatClampNeg)]) ⟨hx, hb, hml, hown, hts⟩ (c_J0_charAt_5068e l dC dI cB cC cI cJ cZ cP H.size q0 s_17.2.1 _ b0 (fun z => g_42 (Or.inl z)) (Int32.not_le.mp (fun z => g_42 (Or.inr z)))) (cwV 1 hts (g_gV wq_1510 wq_359 wq_360 wq_22 wq_361) rfl rfl rfl (by decide +kernel) ⟨Nat.le_of_ble_eq_true rfl, Nat.le_of_ble_eq_true rfl⟩) (g_preVs g_blS hK (wc := []) (A := mCells h ad sz) (fun k q z => by simp at z) ⟨fun i j p q z => by simp at z, fun k q z => by simp at z⟩ hS hE (m_nil hS hsz) (g_toS hStr_q0 hS (m_nil hS hsz)) (va_Orecv hStr_q0.1 hS)) rfl rfl hl.1 rfl (lv_room (Nat.le_of_ble_eq_true rfl)) dX12_findName_60 ⟨Nat.le_of_ble_eq_true rfl, Nat.le_of_ble_eq_true rfl⟩) (fun H locs hP hS => ?_)
          obtain ⟨x_44, ex_44, hF_45⟩ := bnd_e hF_43
          clear hF_43
          refine m_top ex_44 ?_
          obtain ⟨j_48, ej_48, hF_49⟩ := bnd_e hF_45
          clear hF_45
          have Jj_48 : ∀ (t_46 : Int32) (σ_47 : MS), j_48 t_46 σ_47 = some res → ∀ (H : Heap) (locs : List Loc), va_P (dC, dI) vwCl (mW cB cI cZ h qK qS ad σ_47) H → va_S (mCells h ad sz) s.heap H locs → ∀ ls : Array Slot, lv_has ls 5 [(0, .ref h), (1, .ref q0), (2, .int s_1.1), (4, .int s_17.2.1)] → W p l e (headSpec (g_ws yX12_findName cX12_findName 5 (some .int)) { frames := 5, cells := 0, slots := 0, locals := 125 }).room s m ([.ref h, .ref q0] : List Value).toArray below meth c H locs 0 0 (MQ below (va_Qi (fun r (_ : Unit) => r = res.1) (fun _ t => va_P (dC, dI) vwCl (mW cB cI cZ h qK qS ad res.2) t.heap) (mCells h ad sz)) ([.ref h, .ref q0] : List Value).toArray s 0 0 (mCells h ad sz)) (F0 m 71 ls [.int t_46]) := by
            intro t_46 σ_47 hF0 H locs hP hS ls hl
            subst ej_48
            have hF_50 := hF0
            clear hF0
            refine lv_istore_n (lv' := [(3, .int t_46), (0, .ref h), (1, .ref q0), (2, .int s_1.1), (4, .int s_17.2.1)]) hx hb dX12_findName_71 rfl hl (by decide) rfl (fun ls hl => ?_)
            obtain ⟨x_51, ex_51, hF_52⟩ := bnd_e hF_50
            clear hF_50
            refine lv_iinc (v := x_51) (lv' := [(4, .int x_51), (3, .int t_46), (0, .ref h), (1, .ref q0), (2, .int s_1.1)]) hx hb dX12_findName_72 hl (k := 4) rfl (by rw [ex_51]; rfl) (by decide) rfl (fun ls hl => ?_)
            refine lv_goto (tgt := 32) hx hb dX12_findName_75 (by decide) ?_
            exact ih_19 (t_46, x_51, σ_47) hF_52 _ _ hP hS ls (lv_sub hl [2, 3, 4, 1, 0] rfl)
          refine lv_icmp_ne (tgt := 70) hx hb dX12_findName_63 (by decide) (fun c_53 => ?_) (fun c_53 => ?_)
          · have hF_55 := ineg c_53 hF_49
            clear hF_49
            refine lv_iconst (v := 0) hx hb dX12_findName_70 (by decide +kernel) ?_
            exact Jj_48 0 s_17.2.2 hF_55 _ _ hP hS ls (lv_sub hl [0, 1, 2, 4] rfl)
          · have hF_54 := ipos c_53 hF_49
            clear hF_49
            refine lv_iconst (v := 1) hx hb dX12_findName_66 (by decide +kernel) ?_
            refine lv_goto (tgt := 71) hx hb dX12_findName_67 (by decide) ?_
            exact Jj_48 1 s_17.2.2 hF_54 _ _ hP hS ls (lv_sub hl [0, 1, 2, 4] rfl)
    refine lv_icmp_ne (tgt := 27) hx hb dX12_findName_20 (by decide) (fun c_56 => ?_) (fun c_56 => ?_)
    · have hF_58 := ineg c_56 hF_15
      clear hF_15
      refine lv_iconst (v := 0) hx hb dX12_findName_27 (by decide +kernel) ?_
      exact Jj_14 0 s_1.2 hF_58 _ _ hP hS ls (lv_sub hl [0, 1, 2] rfl)
    · have hF_57 := ipos c_56 hF_15
      clear hF_15
      refine lv_iconst (v := 1) hx hb dX12_findName_23 (by decide +kernel) ?_
      refine lv_goto (tgt := 28) hx hb dX12_findName_24 (by decide) ?_
      exact Jj_14 1 s_1.2 hF_57 _ _ hP hS ls (lv_sub hl [0, 1, 2] rfl)
theorem dX12_own_0 : decode cX12_own 0 = .ok (.aload_n 0, 1) := by decide +kernel
theorem dX12_own_1 : decode cX12_own 1 = .ok (.aload_n 1, 1) := by decide +kernel
theorem dX12_own_2 : decode cX12_own 2 = .ok (.invokevirtual 442, 3) := by decide +kernel
theorem dX12_own_5 : decode cX12_own 5 = .ok (.istore_n 3, 1) := by decide +kernel
theorem dX12_own_6 : decode cX12_own 6 = .ok (.iload_n 3, 1) := by decide +kernel
theorem dX12_own_7 : decode cX12_own 7 = .ok (.ifCond .ge 4, 3) := by decide +kernel
theorem dX12_own_10 : decode cX12_own 10 = .ok (.return_, 1) := by decide +kernel
theorem dX12_own_11 : decode cX12_own 11 = .ok (.aload_n 0, 1) := by decide +kernel
theorem dX12_own_12 : decode cX12_own 12 = .ok (.getfield 67, 3) := by decide +kernel
theorem dX12_own_15 : decode cX12_own 15 = .ok (.iload_n 3, 1) := by decide +kernel
theorem dX12_own_16 : decode cX12_own 16 = .ok (.iconst 3, 1) := by decide +kernel
theorem dX12_own_17 : decode cX12_own 17 = .ok (.iastore, 1) := by decide +kernel
theorem dX12_own_18 : decode cX12_own 18 = .ok (.aload_n 0, 1) := by decide +kernel
theorem dX12_own_19 : decode cX12_own 19 = .ok (.getfield 70, 3) := by decide +kernel
theorem dX12_own_22 : decode cX12_own 22 = .ok (.iload_n 3, 1) := by decide +kernel
theorem dX12_own_23 : decode cX12_own 23 = .ok (.iload_n 2, 1) := by decide +kernel
theorem dX12_own_24 : decode cX12_own 24 = .ok (.iastore, 1) := by decide +kernel
theorem dX12_own_25 : decode cX12_own 25 = .ok (.aload_n 0, 1) := by decide +kernel
theorem dX12_own_26 : decode cX12_own 26 = .ok (.getfield 73, 3) := by decide +kernel
theorem dX12_own_29 : decode cX12_own 29 = .ok (.iload_n 3, 1) := by decide +kernel
theorem dX12_own_30 : decode cX12_own 30 = .ok (.iconst (-1), 1) := by decide +kernel
theorem dX12_own_31 : decode cX12_own 31 = .ok (.iastore, 1) := by decide +kernel
theorem dX12_own_32 : decode cX12_own 32 = .ok (.return_, 1) := by decide +kernel
def F_X12_own (b0 : List Int32) (p1 : Int32) (σ : MS) : MR :=
  (F_X12_findName b0 σ).bind fun u_1 =>
  if 0 ≤ u_1.1 then (
    if u_1.1 < 0 ∨ 8000 ≤ u_1.1.toNatClampNeg then none else
    bnd (mA u_1.2 28 (upd (u_1.2.2 28) u_1.1.toNatClampNeg 3)) fun σ_7 =>
    if u_1.1 < 0 ∨ 8000 ≤ u_1.1.toNatClampNeg then none else
    bnd (mA σ_7 29 (upd (σ_7.2 29) u_1.1.toNatClampNeg p1)) fun σ_11 =>
    if u_1.1 < 0 ∨ 8000 ≤ u_1.1.toNatClampNeg then none else
    bnd (mA σ_11 30 (upd (σ_11.2 30) u_1.1.toNatClampNeg (-1))) fun σ_15 =>
    some (0, σ_15)
  ) else (
    some (0, u_1.2)
  )
set_option maxHeartbeats 4000000 in
set_option maxRecDepth 100000 in
theorem m_X12_own (l : Launch) (dC : Nat → ClassId) (dI : Nat → Nat → Nat) (cB cC cI cJ cZ cP : ClassId) (h qK qS : Nat) (ad : Nat → Nat) (hDD : mDis cB cI cZ h qK qS ad) (sz : Nat) (q0 vq0 : Nat) (b0 : List Int32) (p1 : Int32) (σ : MS) (res : Int32 × MS) (hF : F_X12_own b0 p1 σ = some res) : Met l yX12_own (g_ws yX12_own cX12_own 4 none) ({ frames := 6, cells := 0, slots := 0, locals := 149 }) (va_Pc [.ref h, .ref q0, .int p1] (m_B (dC, dI) [(cB, .byte), (cC, .char), (cI, .int), (cJ, .long), (cZ, .boolean), (cP, .object "StoryHouse$Play")] sz h ad qK qS (mW cB cI cZ h qK qS ad σ) (fun U : State => g_S q0 vq0 b0 (mCells h ad sz) U U.heap))) (va_Qv (fun (_ : Unit) => True) (fun _ t => va_P (dC, dI) vwCl (mW cB cI cZ h qK qS ad res.2) t.heap) (mCells h ad sz)) 0 0 (mCells h ad sz) := by
  refine Met.ofW (cc := cX12_own) (maxL := 4) (ret := none) (by decide) rfl ?_
  intro p e s m args below meth c s₁ B hml hv
  obtain ⟨rfl, hsz, hP, hK, hE, hKS, hX⟩ := hv
  have hStr_q0 := hX
  have hx := B.exec
  have hb := B.bytes
  have hr := B.returns
  have hts0 := atoms_spec (ws := g_ws yX12_own cX12_own 4 none) B.pre
  have hts : ∀ w ∈ lw_good, w.before ([.ref h, .ref q0, .int p1] : List Value).toArray s = true := fun w z => hts0 w (List.mem_cons_of_mem _ z)
  have hown : s.vm.findClass RX12 = some m.cls := findClass_of_methodNamed B.named
  have hlocks := B.notSynchronized
  have hS : va_S (mCells h ad sz) s.heap s.heap [] := va_S.rf
  have hl := lv_entry ([.ref h, .ref q0, .int p1]) (n := 4) (Nat.le_of_ble_eq_true rfl)
  rw [lg_entry_eq]
  generalize (lg_sl ([.ref h, .ref q0, .int p1]) ++ List.replicate (4 - (lg_sl ([.ref h, .ref q0, .int p1])).length) Slot.unset).toArray = ls at hl ⊢
  have hl : lv_has ls 4 [(0, .ref h), (1, .ref q0), (2, .int p1)] := hl
  unfold F_X12_own at hF
  refine lv_aload_n hx hb dX12_own_0 rfl (lv_at hl 0 rfl) ?_
  refine lv_aload_n hx hb dX12_own_1 rfl (lv_at hl 1 rfl) ?_
  obtain ⟨u_1, hu_1, hF_2⟩ := Option.bind_eq_some_iff.mp hF
  clear hF
  refine m_ci hsz hS (va_runV (As := [.ref q0]) (rest := []) ⟨hx, hb, hml, hown, hts⟩ (m_X12_findName l dC dI cB cC cI cJ cZ cP h qK qS ad hDD s.heap.size q0 _ b0 σ _ hu_1) (cwV 1 hts (g_gV wq_1651 wq_1652 wq_2163 wq_13 wq_1653) rfl rfl rfl (by decide +kernel) ⟨Nat.le_of_ble_eq_true rfl, Nat.le_of_ble_eq_true rfl⟩) (m_preV g_blS hsz hK hP hS hE hKS (g_toS hStr_q0 hS (m_narrow hS hsz))) rfl rfl hl.1 rfl (lv_room (Nat.le_of_ble_eq_true rfl)) dX12_own_2 ⟨Nat.le_of_ble_eq_true rfl, Nat.le_of_ble_eq_true rfl⟩) (fun H locs hP hS => ?_)
  refine lv_istore_n (lv' := [(3, .int u_1.1), (0, .ref h), (1, .ref q0), (2, .int p1)]) hx hb dX12_own_5 rfl hl (by decide) rfl (fun ls hl => ?_)
  refine lv_iload_n hx hb dX12_own_6 rfl (lv_at hl 0 rfl) ?_
  refine lv_if_ge (tgt := 11) hx hb dX12_own_7 (by decide) (fun c_3 => ?_) (fun c_3 => ?_)
  · have hF_4 := ipos c_3 hF_2
    clear hF_2
    refine lv_aload_n hx hb dX12_own_11 rfl (lv_at hl 1 rfl) ?_
    refine va_get (D := (dC, dI)) (ci := 12) (v := .ref (ad 28)) (C := RX12) (T := TX12) (N := 123) hx hb hts ii_X12 hown hK hP 0 rfl rfl 28 (by decide) (hts (.fieldLink RX12 67 "StoryHouseModel" "nameKind" "[I") wq_1384) (fun _ h9 => h9) rfl dX12_own_12 ?_
    refine lv_iload_n hx hb dX12_own_15 rfl (lv_at hl 0 rfl) ?_
    refine lv_iconst (v := 3) hx hb dX12_own_16 (by decide +kernel) ?_
    obtain ⟨g_5, hF_6⟩ := nif_e hF_4
    clear hF_4
    obtain ⟨σ_7, eσ_7, hF_8⟩ := bnd_e hF_6
    clear hF_6
    refine m_iast (σ' := σ_7) hx hb hK hP (hDD _ _) hS (q0 := 14) (t0 := 2) (f := u_1.2.2 28) rfl rfl (by rw [eσ_7]; exact mwA_28) g_5 dX12_own_17 (fun H locs hP hS => ?_)
    refine lv_aload_n hx hb dX12_own_18 rfl (lv_at hl 1 rfl) ?_
    refine va_get (D := (dC, dI)) (ci := 12) (v := .ref (ad 29)) (C := RX12) (T := TX12) (N := 123) hx hb hts ii_X12 hown hK hP 0 rfl rfl 29 (by decide) (hts (.fieldLink RX12 70 "StoryHouseModel" "nameNumber" "[I") wq_1385) (fun _ h9 => h9) rfl dX12_own_19 ?_
    refine lv_iload_n hx hb dX12_own_22 rfl (lv_at hl 0 rfl) ?_
    refine lv_iload_n hx hb dX12_own_23 rfl (lv_at hl 3 rfl) ?_
    obtain ⟨g_9, hF_10⟩ := nif_e hF_8
    clear hF_8
    obtain ⟨σ_11, eσ_11, hF_12⟩ := bnd_e hF_10
    clear hF_10
    refine m_iast (σ' := σ_11) hx hb hK hP (hDD _ _) hS (q0 := 15) (t0 := 2) (f := σ_7.2 29) rfl rfl (by rw [eσ_11]; exact mwA_29) g_9 dX12_own_24 (fun H locs hP hS => ?_)
    refine lv_aload_n hx hb dX12_own_25 rfl (lv_at hl 1 rfl) ?_
    refine va_get (D := (dC, dI)) (ci := 12) (v := .ref (ad 30)) (C := RX12) (T := TX12) (N := 123) hx hb hts ii_X12 hown hK hP 0 rfl rfl 30 (by decide) (hts (.fieldLink RX12 73 "StoryHouseModel" "itemOf" "[I") wq_1386) (fun _ h9 => h9) rfl dX12_own_26 ?_
    refine lv_iload_n hx hb dX12_own_29 rfl (lv_at hl 0 rfl) ?_
    refine lv_iconst (v := (-1)) hx hb dX12_own_30 (by decide +kernel) ?_
    obtain ⟨g_13, hF_14⟩ := nif_e hF_12
    clear hF_12
    obtain ⟨σ_15, eσ_15, hF_16⟩ := bnd_e hF_14
    clear hF_14
    refine m_iast (σ' := σ_15) hx hb hK hP (hDD _ _) hS (q0 := 16) (t0 := 2) (f := σ_11.2 30) rfl rfl (by rw [eσ_15]; exact mwA_30) g_13 dX12_own_31 (fun H locs hP hS => ?_)
    have h9 := Option.some.inj hF_16
    subst h9
    exact W.vret hx hb hr (fun t ht hW => ⟨⟨(), rfl, trivial, m_end ht hP⟩, hS.F ht⟩) hS.2.2 dX12_own_32
  · have hF_17 := ineg c_3 hF_2
    clear hF_2
    have h9 := Option.some.inj hF_17
    subst h9
    exact W.vret hx hb hr (fun t ht hW => ⟨⟨(), rfl, trivial, m_end ht hP⟩, hS.F ht⟩) hS.2.2 dX12_own_10
theorem dX12_tooManyWords_0 : decode cX12_tooManyWords 0 = .ok (.iload_n 2, 1) := by decide +kernel
theorem dX12_tooManyWords_1 : decode cX12_tooManyWords 1 = .ok (.istore_n 3, 1) := by decide +kernel
theorem dX12_tooManyWords_2 : decode cX12_tooManyWords 2 = .ok (.iload_n 1, 1) := by decide +kernel
theorem dX12_tooManyWords_3 : decode cX12_tooManyWords 3 = .ok (.istore 4, 2) := by decide +kernel
theorem dX12_tooManyWords_5 : decode cX12_tooManyWords 5 = .ok (.iload 4, 2) := by decide +kernel
theorem dX12_tooManyWords_7 : decode cX12_tooManyWords 7 = .ok (.ifCond .lt 36, 3) := by decide +kernel
theorem dX12_tooManyWords_10 : decode cX12_tooManyWords 10 = .ok (.iinc 3 1, 3) := by decide +kernel
theorem dX12_tooManyWords_13 : decode cX12_tooManyWords 13 = .ok (.iload_n 3, 1) := by decide +kernel
theorem dX12_tooManyWords_14 : decode cX12_tooManyWords 14 = .ok (.bipush 10, 2) := by decide +kernel
theorem dX12_tooManyWords_16 : decode cX12_tooManyWords 16 = .ok (.if_icmp .le 15, 3) := by decide +kernel
theorem dX12_tooManyWords_19 : decode cX12_tooManyWords 19 = .ok (.aload_n 0, 1) := by decide +kernel
theorem dX12_tooManyWords_20 : decode cX12_tooManyWords 20 = .ok (.iconst 5, 1) := by decide +kernel
theorem dX12_tooManyWords_21 : decode cX12_tooManyWords 21 = .ok (.aload_n 0, 1) := by decide +kernel
theorem dX12_tooManyWords_22 : decode cX12_tooManyWords 22 = .ok (.getfield 52, 3) := by decide +kernel
theorem dX12_tooManyWords_25 : decode cX12_tooManyWords 25 = .ok (.iload 4, 2) := by decide +kernel
theorem dX12_tooManyWords_27 : decode cX12_tooManyWords 27 = .ok (.iaload, 1) := by decide +kernel
theorem dX12_tooManyWords_28 : decode cX12_tooManyWords 28 = .ok (.invokevirtual 500, 3) := by decide +kernel
theorem dX12_tooManyWords_31 : decode cX12_tooManyWords 31 = .ok (.aload_n 0, 1) := by decide +kernel
theorem dX12_tooManyWords_32 : decode cX12_tooManyWords 32 = .ok (.getfield 64, 3) := by decide +kernel
theorem dX12_tooManyWords_35 : decode cX12_tooManyWords 35 = .ok (.iload 4, 2) := by decide +kernel
theorem dX12_tooManyWords_37 : decode cX12_tooManyWords 37 = .ok (.iaload, 1) := by decide +kernel
theorem dX12_tooManyWords_38 : decode cX12_tooManyWords 38 = .ok (.istore 4, 2) := by decide +kernel
theorem dX12_tooManyWords_40 : decode cX12_tooManyWords 40 = .ok (.goto (-35), 3) := by decide +kernel
theorem dX12_tooManyWords_43 : decode cX12_tooManyWords 43 = .ok (.iload_n 3, 1) := by decide +kernel
theorem dX12_tooManyWords_44 : decode cX12_tooManyWords 44 = .ok (.ireturn, 1) := by decide +kernel
def F_X12_tooManyWords (p0 : Int32) (p1 : Int32) (σ : MS) : MR :=
  loopF (fun (again_2 : (Int32 × Int32 × MS) → MR) (s_1 : Int32 × Int32 × MS) => (
    if s_1.2.1 < 0 then (
      some (s_1.1, s_1.2.2)
    ) else (
      bnd (s_1.1 + 1) fun (x_8 : Int32) =>
      bnd (fun  (σ_10 : MS) => (
        if s_1.2.1 < 0 ∨ 40000 ≤ s_1.2.1.toNatClampNeg then none else
        bnd ((σ_10.2 22 s_1.2.1.toNatClampNeg)) fun (x_16 : Int32) =>
        again_2 (x_8, x_16, σ_10)
      ) : MS → MR) fun j_11 =>
      if x_8 ≤ 10 then (
        j_11  s_1.2.2
      ) else (
        if s_1.2.1 < 0 ∨ 40000 ≤ s_1.2.1.toNatClampNeg then none else
        (F_X12_note 5 (s_1.2.2.2 18 s_1.2.1.toNatClampNeg) s_1.2.2).bind fun u_23 =>
        j_11  u_23.2
      )
    )
  )) FU (p1, p0, σ)
set_option maxHeartbeats 4000000 in
set_option maxRecDepth 100000 in
theorem m_X12_tooManyWords (l : Launch) (dC : Nat → ClassId) (dI : Nat → Nat → Nat) (cB cC cI cJ cZ cP : ClassId) (h qK qS : Nat) (ad : Nat → Nat) (hDD : mDis cB cI cZ h qK qS ad) (sz : Nat)  (p0 : Int32) (p1 : Int32) (σ : MS) (res : Int32 × MS) (hF : F_X12_tooManyWords p0 p1 σ = some res) : Met l yX12_tooManyWords (g_ws yX12_tooManyWords cX12_tooManyWords 5 (some .int)) ({ frames := 2, cells := 0, slots := 0, locals := 62 }) (va_Pc [.ref h, .int p0, .int p1] (m_B (dC, dI) [(cB, .byte), (cC, .char), (cI, .int), (cJ, .long), (cZ, .boolean), (cP, .object "StoryHouse$Play")] sz h ad qK qS (mW cB cI cZ h qK qS ad σ) g_0)) (va_Qi (fun r (_ : Unit) => r = res.1) (fun _ t => va_P (dC, dI) vwCl (mW cB cI cZ h qK qS ad res.2) t.heap) (mCells h ad sz)) 0 0 (mCells h ad sz) := by
  refine Met.ofW (cc := cX12_tooManyWords) (maxL := 5) (ret := (some .int)) (by decide) rfl ?_
  intro p e s m args below meth c s₁ B hml hv
  obtain ⟨rfl, hsz, hP, hK, hE, hKS, hX⟩ := hv
  have hx := B.exec
  have hb := B.bytes
  have hr := B.returns
  have hts0 := atoms_spec (ws := g_ws yX12_tooManyWords cX12_tooManyWords 5 (some .int)) B.pre
  have hts : ∀ w ∈ lw_good, w.before ([.ref h, .int p0, .int p1] : List Value).toArray s = true := fun w z => hts0 w (List.mem_cons_of_mem _ z)
  have hown : s.vm.findClass RX12 = some m.cls := findClass_of_methodNamed B.named
  have hlocks := B.notSynchronized
  have hS : va_S (mCells h ad sz) s.heap s.heap [] := va_S.rf
  have hl := lv_entry ([.ref h, .int p0, .int p1]) (n := 5) (Nat.le_of_ble_eq_true rfl)
  rw [lg_entry_eq]
  generalize (lg_sl ([.ref h, .int p0, .int p1]) ++ List.replicate (5 - (lg_sl ([.ref h, .int p0, .int p1])).length) Slot.unset).toArray = ls at hl ⊢
  have hl : lv_has ls 5 [(0, .ref h), (1, .int p0), (2, .int p1)] := hl
  unfold F_X12_tooManyWords at hF
  refine lv_iload_n hx hb dX12_tooManyWords_0 rfl (lv_at hl 2 rfl) ?_
  refine lv_istore_n (lv' := [(3, .int p1), (0, .ref h), (1, .int p0), (2, .int p1)]) hx hb dX12_tooManyWords_1 rfl hl (by decide) rfl (fun ls hl => ?_)
  refine lv_iload_n hx hb dX12_tooManyWords_2 rfl (lv_at hl 2 rfl) ?_
  refine lv_istore (lv' := [(4, .int p0), (3, .int p1), (0, .ref h), (1, .int p0), (2, .int p1)]) hx hb dX12_tooManyWords_3 hl (by decide) rfl (fun ls hl => ?_)
  refine loopF_ind (P := fun (s_1 : Int32 × Int32 × MS) => ∀ (H : Heap) (locs : List Loc), va_P (dC, dI) vwCl (mW cB cI cZ h qK qS ad s_1.2.2) H → va_S (mCells h ad sz) s.heap H locs → ∀ ls : Array Slot, lv_has ls 5 [(0, .ref h), (3, .int s_1.1), (4, .int s_1.2.1)] → W p l e (headSpec (g_ws yX12_tooManyWords cX12_tooManyWords 5 (some .int)) { frames := 2, cells := 0, slots := 0, locals := 62 }).room s m ([.ref h, .int p0, .int p1] : List Value).toArray below meth c H locs 0 0 (MQ below (va_Qi (fun r (_ : Unit) => r = res.1) (fun _ t => va_P (dC, dI) vwCl (mW cB cI cZ h qK qS ad res.2) t.heap) (mCells h ad sz)) ([.ref h, .int p0, .int p1] : List Value).toArray s 0 0 (mCells h ad sz)) (F0 m 5 ls [])) ?_ _ _ hF _ _ hP hS ls (lv_sub hl [2, 1, 0] rfl)
  intro again_2 s_1 ih_3 hF_4
  intro H locs hP hS ls hl
  refine lv_iload hx hb dX12_tooManyWords_5 (lv_at hl 2 rfl) ?_
  refine lv_if_lt (tgt := 43) hx hb dX12_tooManyWords_7 (by decide) (fun c_5 => ?_) (fun c_5 => ?_)
  · have hF_6 := ipos c_5 hF_4
    clear hF_4
    refine lv_iload_n hx hb dX12_tooManyWords_43 rfl (lv_at hl 1 rfl) ?_
    have h9 := Option.some.inj hF_6
    subst h9
    exact W.iret (v := s_1.1) hx hb hr (fun t ht hW => ⟨⟨s_1.1, (), rfl, rfl, m_end ht hP⟩, hS.F ht⟩) hS.2.2 dX12_tooManyWords_44
  · have hF_7 := ineg c_5 hF_4
    clear hF_4
    obtain ⟨x_8, ex_8, hF_9⟩ := bnd_e hF_7
    clear hF_7
    refine lv_iinc (v := x_8) (lv' := [(3, .int x_8), (0, .ref h), (4, .int s_1.2.1)]) hx hb dX12_tooManyWords_10 hl (k := 1) rfl (by rw [ex_8]; rfl) (by decide) rfl (fun ls hl => ?_)
    refine lv_iload_n hx hb dX12_tooManyWords_13 rfl (lv_at hl 0 rfl) ?_
    refine lv_bipush (v := 10) hx hb dX12_tooManyWords_14 (by decide +kernel) ?_
    obtain ⟨j_11, ej_11, hF_12⟩ := bnd_e hF_9
    clear hF_9
    have Jj_11 : ∀  (σ_10 : MS), j_11  σ_10 = some res → ∀ (H : Heap) (locs : List Loc), va_P (dC, dI) vwCl (mW cB cI cZ h qK qS ad σ_10) H → va_S (mCells h ad sz) s.heap H locs → ∀ ls : Array Slot, lv_has ls 5 [(0, .ref h), (3, .int x_8), (4, .int s_1.2.1)] → W p l e (headSpec (g_ws yX12_tooManyWords cX12_tooManyWords 5 (some .int)) { frames := 2, cells := 0, slots := 0, locals := 62 }).room s m ([.ref h, .int p0, .int p1] : List Value).toArray below meth c H locs 0 0 (MQ below (va_Qi (fun r (_ : Unit) => r = res.1) (fun _ t => va_P (dC, dI) vwCl (mW cB cI cZ h qK qS ad res.2) t.heap) (mCells h ad sz)) ([.ref h, .int p0, .int p1] : List Value).toArray s 0 0 (mCells h ad sz)) (F0 m 31 ls []) := by
      intro  σ_10 hF0 H locs hP hS ls hl
      subst ej_11
      have hF_13 := hF0
      clear hF0
      refine lv_aload_n hx hb dX12_tooManyWords_31 rfl (lv_at hl 0 rfl) ?_
      refine va_get (D := (dC, dI)) (ci := 12) (v := .ref (ad 22)) (C := RX12) (T := TX12) (N := 123) hx hb hts ii_X12 hown hK hP 0 rfl rfl 22 (by decide) (hts (.fieldLink RX12 64 "StoryHouseModel" "then" "[I") wq_1378) (fun _ h9 => h9) rfl dX12_tooManyWords_32 ?_
      refine lv_iload hx hb dX12_tooManyWords_35 (lv_at hl 2 rfl) ?_
      obtain ⟨g_14, hF_15⟩ := nif_e hF_13
      clear hF_13
      refine va_iald (f := σ_10.2 22) hx hb hK hP 13 2 rfl rfl g_14 dX12_tooManyWords_37 ?_
      obtain ⟨x_16, ex_16, hF_17⟩ := bnd_e hF_15
      clear hF_15
      refine m_top ex_16 ?_
      refine lv_istore (lv' := [(4, .int x_16), (0, .ref h), (3, .int x_8)]) hx hb dX12_tooManyWords_38 hl (by decide) rfl (fun ls hl => ?_)
      refine lv_goto (tgt := 5) hx hb dX12_tooManyWords_40 (by decide) ?_
      exact ih_3 (x_8, x_16, σ_10) hF_17 _ _ hP hS ls (lv_sub hl [1, 2, 0] rfl)
    refine lv_icmp_le (tgt := 31) hx hb dX12_tooManyWords_16 (by decide) (fun c_18 => ?_) (fun c_18 => ?_)
    · have hF_19 := ipos c_18 hF_12
      clear hF_12
      exact Jj_11  s_1.2.2 hF_19 _ _ hP hS ls (lv_sub hl [1, 0, 2] rfl)
    · have hF_20 := ineg c_18 hF_12
      clear hF_12
      refine lv_aload_n hx hb dX12_tooManyWords_19 rfl (lv_at hl 1 rfl) ?_
      refine lv_iconst (v := 5) hx hb dX12_tooManyWords_20 (by decide +kernel) ?_
      refine lv_aload_n hx hb dX12_tooManyWords_21 rfl (lv_at hl 1 rfl) ?_
      refine va_get (D := (dC, dI)) (ci := 12) (v := .ref (ad 18)) (C := RX12) (T := TX12) (N := 123) hx hb hts ii_X12 hown hK hP 0 rfl rfl 18 (by decide) (hts (.fieldLink RX12 52 "StoryHouseModel" "where" "[I") wq_1374) (fun _ h9 => h9) rfl dX12_tooManyWords_22 ?_
      refine lv_iload hx hb dX12_tooManyWords_25 (lv_at hl 2 rfl) ?_
      obtain ⟨g_21, hF_22⟩ := nif_e hF_20
      clear hF_20
      refine va_iald (f := s_1.2.2.2 18) hx hb hK hP 9 2 rfl rfl g_21 dX12_tooManyWords_27 ?_
      obtain ⟨u_23, hu_23, hF_24⟩ := Option.bind_eq_some_iff.mp hF_22
      clear hF_22
      refine m_cv hsz hS (va_runV (As := [.int 5, .int (s_1.2.2.2 18 s_1.2.1.toNatClampNeg)]) (rest := []) ⟨hx, hb, hml, hown, hts⟩ (m_X12_note l dC dI cB cC cI cJ cZ cP h qK qS ad hDD H.size  5 (s_1.2.2.2 18 s_1.2.1.toNatClampNeg) s_1.2.2 _ hu_23) (cwV 2 hts (g_gV wq_1660 wq_1661 wq_2165 wq_13 wq_1662) rfl rfl rfl (by decide +kernel) ⟨Nat.le_of_ble_eq_true rfl, Nat.le_of_ble_eq_true rfl⟩) (m_preV g_bl0 hsz hK hP hS hE hKS g_to0) rfl rfl hl.1 rfl (lv_room (Nat.le_of_ble_eq_true rfl)) dX12_tooManyWords_28 ⟨Nat.le_of_ble_eq_true rfl, Nat.le_of_ble_eq_true rfl⟩) (fun H locs hP hS => ?_)
      exact Jj_11  u_23.2 hF_24 _ _ hP hS ls (lv_sub hl [1, 0, 2] rfl)
theorem dX12_declareOne_0 : decode cX12_declareOne 0 = .ok (.aload_n 0, 1) := by decide +kernel
theorem dX12_declareOne_1 : decode cX12_declareOne 1 = .ok (.getfield 49, 3) := by decide +kernel
theorem dX12_declareOne_4 : decode cX12_declareOne 4 = .ok (.iload_n 1, 1) := by decide +kernel
theorem dX12_declareOne_5 : decode cX12_declareOne 5 = .ok (.iaload, 1) := by decide +kernel
theorem dX12_declareOne_6 : decode cX12_declareOne 6 = .ok (.istore_n 2, 1) := by decide +kernel
theorem dX12_declareOne_7 : decode cX12_declareOne 7 = .ok (.iload_n 2, 1) := by decide +kernel
theorem dX12_declareOne_8 : decode cX12_declareOne 8 = .ok (.invokestatic 497, 3) := by decide +kernel
theorem dX12_declareOne_11 : decode cX12_declareOne 11 = .ok (.ifCond .eq 285, 3) := by decide +kernel
theorem dX12_declareOne_14 : decode cX12_declareOne 14 = .ok (.aload_n 0, 1) := by decide +kernel
theorem dX12_declareOne_15 : decode cX12_declareOne 15 = .ok (.getfield 55, 3) := by decide +kernel
theorem dX12_declareOne_18 : decode cX12_declareOne 18 = .ok (.aload_n 0, 1) := by decide +kernel
theorem dX12_declareOne_19 : decode cX12_declareOne 19 = .ok (.getfield 55, 3) := by decide +kernel
theorem dX12_declareOne_22 : decode cX12_declareOne 22 = .ok (.iload_n 1, 1) := by decide +kernel
theorem dX12_declareOne_23 : decode cX12_declareOne 23 = .ok (.iaload, 1) := by decide +kernel
theorem dX12_declareOne_24 : decode cX12_declareOne 24 = .ok (.iaload, 1) := by decide +kernel
theorem dX12_declareOne_25 : decode cX12_declareOne 25 = .ok (.istore_n 3, 1) := by decide +kernel
theorem dX12_declareOne_26 : decode cX12_declareOne 26 = .ok (.aload_n 0, 1) := by decide +kernel
theorem dX12_declareOne_27 : decode cX12_declareOne 27 = .ok (.getfield 67, 3) := by decide +kernel
theorem dX12_declareOne_30 : decode cX12_declareOne 30 = .ok (.iload_n 3, 1) := by decide +kernel
theorem dX12_declareOne_31 : decode cX12_declareOne 31 = .ok (.iaload, 1) := by decide +kernel
theorem dX12_declareOne_32 : decode cX12_declareOne 32 = .ok (.ifCond .eq 19, 3) := by decide +kernel
theorem dX12_declareOne_35 : decode cX12_declareOne 35 = .ok (.aload_n 0, 1) := by decide +kernel
theorem dX12_declareOne_36 : decode cX12_declareOne 36 = .ok (.iconst 4, 1) := by decide +kernel
theorem dX12_declareOne_37 : decode cX12_declareOne 37 = .ok (.aload_n 0, 1) := by decide +kernel
theorem dX12_declareOne_38 : decode cX12_declareOne 38 = .ok (.getfield 52, 3) := by decide +kernel
theorem dX12_declareOne_41 : decode cX12_declareOne 41 = .ok (.aload_n 0, 1) := by decide +kernel
theorem dX12_declareOne_42 : decode cX12_declareOne 42 = .ok (.getfield 55, 3) := by decide +kernel
theorem dX12_declareOne_45 : decode cX12_declareOne 45 = .ok (.iload_n 1, 1) := by decide +kernel
theorem dX12_declareOne_46 : decode cX12_declareOne 46 = .ok (.iaload, 1) := by decide +kernel
theorem dX12_declareOne_47 : decode cX12_declareOne 47 = .ok (.iaload, 1) := by decide +kernel
theorem dX12_declareOne_48 : decode cX12_declareOne 48 = .ok (.invokevirtual 500, 3) := by decide +kernel
theorem dX12_declareOne_51 : decode cX12_declareOne 51 = .ok (.iload_n 2, 1) := by decide +kernel
theorem dX12_declareOne_52 : decode cX12_declareOne 52 = .ok (.iconst 2, 1) := by decide +kernel
theorem dX12_declareOne_53 : decode cX12_declareOne 53 = .ok (.if_icmp .gt 17, 3) := by decide +kernel
theorem dX12_declareOne_56 : decode cX12_declareOne 56 = .ok (.aload_n 0, 1) := by decide +kernel
theorem dX12_declareOne_57 : decode cX12_declareOne 57 = .ok (.dup, 1) := by decide +kernel
theorem dX12_declareOne_58 : decode cX12_declareOne 58 = .ok (.getfield 470, 3) := by decide +kernel
theorem dX12_declareOne_61 : decode cX12_declareOne 61 = .ok (.iconst 1, 1) := by decide +kernel
theorem dX12_declareOne_62 : decode cX12_declareOne 62 = .ok (.iadd, 1) := by decide +kernel
theorem dX12_declareOne_63 : decode cX12_declareOne 63 = .ok (.dup_x1, 1) := by decide +kernel
theorem dX12_declareOne_64 : decode cX12_declareOne 64 = .ok (.putfield 470, 3) := by decide +kernel
theorem dX12_declareOne_67 : decode cX12_declareOne 67 = .ok (.goto 71, 3) := by decide +kernel
theorem dX12_declareOne_70 : decode cX12_declareOne 70 = .ok (.iload_n 2, 1) := by decide +kernel
theorem dX12_declareOne_71 : decode cX12_declareOne 71 = .ok (.iconst 3, 1) := by decide +kernel
theorem dX12_declareOne_72 : decode cX12_declareOne 72 = .ok (.if_icmp .ne 17, 3) := by decide +kernel
theorem dX12_declareOne_75 : decode cX12_declareOne 75 = .ok (.aload_n 0, 1) := by decide +kernel
theorem dX12_declareOne_76 : decode cX12_declareOne 76 = .ok (.dup, 1) := by decide +kernel
theorem dX12_declareOne_77 : decode cX12_declareOne 77 = .ok (.getfield 473, 3) := by decide +kernel
theorem dX12_declareOne_80 : decode cX12_declareOne 80 = .ok (.iconst 1, 1) := by decide +kernel
theorem dX12_declareOne_81 : decode cX12_declareOne 81 = .ok (.iadd, 1) := by decide +kernel
theorem dX12_declareOne_82 : decode cX12_declareOne 82 = .ok (.dup_x1, 1) := by decide +kernel
theorem dX12_declareOne_83 : decode cX12_declareOne 83 = .ok (.putfield 473, 3) := by decide +kernel
theorem dX12_declareOne_86 : decode cX12_declareOne 86 = .ok (.goto 52, 3) := by decide +kernel
theorem dX12_declareOne_89 : decode cX12_declareOne 89 = .ok (.iload_n 2, 1) := by decide +kernel
theorem dX12_declareOne_90 : decode cX12_declareOne 90 = .ok (.iconst 4, 1) := by decide +kernel
theorem dX12_declareOne_91 : decode cX12_declareOne 91 = .ok (.if_icmp .ne 17, 3) := by decide +kernel
theorem dX12_declareOne_94 : decode cX12_declareOne 94 = .ok (.aload_n 0, 1) := by decide +kernel
theorem dX12_declareOne_95 : decode cX12_declareOne 95 = .ok (.dup, 1) := by decide +kernel
theorem dX12_declareOne_96 : decode cX12_declareOne 96 = .ok (.getfield 476, 3) := by decide +kernel
theorem dX12_declareOne_99 : decode cX12_declareOne 99 = .ok (.dup_x1, 1) := by decide +kernel
theorem dX12_declareOne_100 : decode cX12_declareOne 100 = .ok (.iconst 1, 1) := by decide +kernel
theorem dX12_declareOne_101 : decode cX12_declareOne 101 = .ok (.iadd, 1) := by decide +kernel
theorem dX12_declareOne_102 : decode cX12_declareOne 102 = .ok (.putfield 476, 3) := by decide +kernel
theorem dX12_declareOne_105 : decode cX12_declareOne 105 = .ok (.goto 33, 3) := by decide +kernel
theorem dX12_declareOne_108 : decode cX12_declareOne 108 = .ok (.iload_n 2, 1) := by decide +kernel
theorem dX12_declareOne_109 : decode cX12_declareOne 109 = .ok (.iconst 5, 1) := by decide +kernel
theorem dX12_declareOne_110 : decode cX12_declareOne 110 = .ok (.if_icmp .ne 17, 3) := by decide +kernel
theorem dX12_declareOne_113 : decode cX12_declareOne 113 = .ok (.aload_n 0, 1) := by decide +kernel
theorem dX12_declareOne_114 : decode cX12_declareOne 114 = .ok (.dup, 1) := by decide +kernel
theorem dX12_declareOne_115 : decode cX12_declareOne 115 = .ok (.getfield 479, 3) := by decide +kernel
theorem dX12_declareOne_118 : decode cX12_declareOne 118 = .ok (.dup_x1, 1) := by decide +kernel
theorem dX12_declareOne_119 : decode cX12_declareOne 119 = .ok (.iconst 1, 1) := by decide +kernel
theorem dX12_declareOne_120 : decode cX12_declareOne 120 = .ok (.iadd, 1) := by decide +kernel
theorem dX12_declareOne_121 : decode cX12_declareOne 121 = .ok (.putfield 479, 3) := by decide +kernel
theorem dX12_declareOne_124 : decode cX12_declareOne 124 = .ok (.goto 14, 3) := by decide +kernel
theorem dX12_declareOne_127 : decode cX12_declareOne 127 = .ok (.aload_n 0, 1) := by decide +kernel
theorem dX12_declareOne_128 : decode cX12_declareOne 128 = .ok (.dup, 1) := by decide +kernel
theorem dX12_declareOne_129 : decode cX12_declareOne 129 = .ok (.getfield 485, 3) := by decide +kernel
theorem dX12_declareOne_132 : decode cX12_declareOne 132 = .ok (.dup_x1, 1) := by decide +kernel
theorem dX12_declareOne_133 : decode cX12_declareOne 133 = .ok (.iconst 1, 1) := by decide +kernel
theorem dX12_declareOne_134 : decode cX12_declareOne 134 = .ok (.iadd, 1) := by decide +kernel
theorem dX12_declareOne_135 : decode cX12_declareOne 135 = .ok (.putfield 485, 3) := by decide +kernel
theorem dX12_declareOne_138 : decode cX12_declareOne 138 = .ok (.istore 4, 2) := by decide +kernel
theorem dX12_declareOne_140 : decode cX12_declareOne 140 = .ok (.iload_n 2, 1) := by decide +kernel
theorem dX12_declareOne_141 : decode cX12_declareOne 141 = .ok (.iconst 2, 1) := by decide +kernel
theorem dX12_declareOne_142 : decode cX12_declareOne 142 = .ok (.if_icmp .gt 20, 3) := by decide +kernel
theorem dX12_declareOne_145 : decode cX12_declareOne 145 = .ok (.aload_n 0, 1) := by decide +kernel
theorem dX12_declareOne_146 : decode cX12_declareOne 146 = .ok (.getfield 470, 3) := by decide +kernel
theorem dX12_declareOne_149 : decode cX12_declareOne 149 = .ok (.bipush 120, 2) := by decide +kernel
theorem dX12_declareOne_151 : decode cX12_declareOne 151 = .ok (.if_icmp .le 7, 3) := by decide +kernel
theorem dX12_declareOne_154 : decode cX12_declareOne 154 = .ok (.iconst 1, 1) := by decide +kernel
theorem dX12_declareOne_155 : decode cX12_declareOne 155 = .ok (.goto 87, 3) := by decide +kernel
theorem dX12_declareOne_158 : decode cX12_declareOne 158 = .ok (.iconst 0, 1) := by decide +kernel
theorem dX12_declareOne_159 : decode cX12_declareOne 159 = .ok (.goto 83, 3) := by decide +kernel
theorem dX12_declareOne_162 : decode cX12_declareOne 162 = .ok (.iload_n 2, 1) := by decide +kernel
theorem dX12_declareOne_163 : decode cX12_declareOne 163 = .ok (.iconst 3, 1) := by decide +kernel
theorem dX12_declareOne_164 : decode cX12_declareOne 164 = .ok (.if_icmp .ne 20, 3) := by decide +kernel
theorem dX12_declareOne_167 : decode cX12_declareOne 167 = .ok (.aload_n 0, 1) := by decide +kernel
theorem dX12_declareOne_168 : decode cX12_declareOne 168 = .ok (.getfield 473, 3) := by decide +kernel
theorem dX12_declareOne_171 : decode cX12_declareOne 171 = .ok (.bipush 60, 2) := by decide +kernel
theorem dX12_declareOne_173 : decode cX12_declareOne 173 = .ok (.if_icmp .le 7, 3) := by decide +kernel
theorem dX12_declareOne_176 : decode cX12_declareOne 176 = .ok (.iconst 1, 1) := by decide +kernel
theorem dX12_declareOne_177 : decode cX12_declareOne 177 = .ok (.goto 65, 3) := by decide +kernel
theorem dX12_declareOne_180 : decode cX12_declareOne 180 = .ok (.iconst 0, 1) := by decide +kernel
theorem dX12_declareOne_181 : decode cX12_declareOne 181 = .ok (.goto 61, 3) := by decide +kernel
theorem dX12_declareOne_184 : decode cX12_declareOne 184 = .ok (.iload_n 2, 1) := by decide +kernel
theorem dX12_declareOne_185 : decode cX12_declareOne 185 = .ok (.iconst 4, 1) := by decide +kernel
theorem dX12_declareOne_186 : decode cX12_declareOne 186 = .ok (.if_icmp .ne 20, 3) := by decide +kernel
theorem dX12_declareOne_189 : decode cX12_declareOne 189 = .ok (.aload_n 0, 1) := by decide +kernel
theorem dX12_declareOne_190 : decode cX12_declareOne 190 = .ok (.getfield 476, 3) := by decide +kernel
theorem dX12_declareOne_193 : decode cX12_declareOne 193 = .ok (.bipush 100, 2) := by decide +kernel
theorem dX12_declareOne_195 : decode cX12_declareOne 195 = .ok (.if_icmp .le 7, 3) := by decide +kernel
theorem dX12_declareOne_198 : decode cX12_declareOne 198 = .ok (.iconst 1, 1) := by decide +kernel
theorem dX12_declareOne_199 : decode cX12_declareOne 199 = .ok (.goto 43, 3) := by decide +kernel
theorem dX12_declareOne_202 : decode cX12_declareOne 202 = .ok (.iconst 0, 1) := by decide +kernel
theorem dX12_declareOne_203 : decode cX12_declareOne 203 = .ok (.goto 39, 3) := by decide +kernel
theorem dX12_declareOne_206 : decode cX12_declareOne 206 = .ok (.iload_n 2, 1) := by decide +kernel
theorem dX12_declareOne_207 : decode cX12_declareOne 207 = .ok (.iconst 5, 1) := by decide +kernel
theorem dX12_declareOne_208 : decode cX12_declareOne 208 = .ok (.if_icmp .ne 20, 3) := by decide +kernel
theorem dX12_declareOne_211 : decode cX12_declareOne 211 = .ok (.aload_n 0, 1) := by decide +kernel
theorem dX12_declareOne_212 : decode cX12_declareOne 212 = .ok (.getfield 479, 3) := by decide +kernel
theorem dX12_declareOne_215 : decode cX12_declareOne 215 = .ok (.bipush 20, 2) := by decide +kernel
theorem dX12_declareOne_217 : decode cX12_declareOne 217 = .ok (.if_icmp .le 7, 3) := by decide +kernel
theorem dX12_declareOne_220 : decode cX12_declareOne 220 = .ok (.iconst 1, 1) := by decide +kernel
theorem dX12_declareOne_221 : decode cX12_declareOne 221 = .ok (.goto 21, 3) := by decide +kernel
theorem dX12_declareOne_224 : decode cX12_declareOne 224 = .ok (.iconst 0, 1) := by decide +kernel
theorem dX12_declareOne_225 : decode cX12_declareOne 225 = .ok (.goto 17, 3) := by decide +kernel
theorem dX12_declareOne_228 : decode cX12_declareOne 228 = .ok (.aload_n 0, 1) := by decide +kernel
theorem dX12_declareOne_229 : decode cX12_declareOne 229 = .ok (.getfield 485, 3) := by decide +kernel
theorem dX12_declareOne_232 : decode cX12_declareOne 232 = .ok (.bipush 100, 2) := by decide +kernel
theorem dX12_declareOne_234 : decode cX12_declareOne 234 = .ok (.if_icmp .le 7, 3) := by decide +kernel
theorem dX12_declareOne_237 : decode cX12_declareOne 237 = .ok (.iconst 1, 1) := by decide +kernel
theorem dX12_declareOne_238 : decode cX12_declareOne 238 = .ok (.goto 4, 3) := by decide +kernel
theorem dX12_declareOne_241 : decode cX12_declareOne 241 = .ok (.iconst 0, 1) := by decide +kernel
theorem dX12_declareOne_242 : decode cX12_declareOne 242 = .ok (.istore 5, 2) := by decide +kernel
theorem dX12_declareOne_244 : decode cX12_declareOne 244 = .ok (.iload 5, 2) := by decide +kernel
theorem dX12_declareOne_246 : decode cX12_declareOne 246 = .ok (.ifCond .eq 19, 3) := by decide +kernel
theorem dX12_declareOne_249 : decode cX12_declareOne 249 = .ok (.aload_n 0, 1) := by decide +kernel
theorem dX12_declareOne_250 : decode cX12_declareOne 250 = .ok (.iconst 5, 1) := by decide +kernel
theorem dX12_declareOne_251 : decode cX12_declareOne 251 = .ok (.aload_n 0, 1) := by decide +kernel
theorem dX12_declareOne_252 : decode cX12_declareOne 252 = .ok (.getfield 52, 3) := by decide +kernel
theorem dX12_declareOne_255 : decode cX12_declareOne 255 = .ok (.aload_n 0, 1) := by decide +kernel
theorem dX12_declareOne_256 : decode cX12_declareOne 256 = .ok (.getfield 55, 3) := by decide +kernel
theorem dX12_declareOne_259 : decode cX12_declareOne 259 = .ok (.iload_n 1, 1) := by decide +kernel
theorem dX12_declareOne_260 : decode cX12_declareOne 260 = .ok (.iaload, 1) := by decide +kernel
theorem dX12_declareOne_261 : decode cX12_declareOne 261 = .ok (.iaload, 1) := by decide +kernel
theorem dX12_declareOne_262 : decode cX12_declareOne 262 = .ok (.invokevirtual 500, 3) := by decide +kernel
theorem dX12_declareOne_265 : decode cX12_declareOne 265 = .ok (.aload_n 0, 1) := by decide +kernel
theorem dX12_declareOne_266 : decode cX12_declareOne 266 = .ok (.getfield 67, 3) := by decide +kernel
theorem dX12_declareOne_269 : decode cX12_declareOne 269 = .ok (.iload_n 3, 1) := by decide +kernel
theorem dX12_declareOne_270 : decode cX12_declareOne 270 = .ok (.iaload, 1) := by decide +kernel
theorem dX12_declareOne_271 : decode cX12_declareOne 271 = .ok (.ifCond .ne 25, 3) := by decide +kernel
theorem dX12_declareOne_274 : decode cX12_declareOne 274 = .ok (.aload_n 0, 1) := by decide +kernel
theorem dX12_declareOne_275 : decode cX12_declareOne 275 = .ok (.getfield 67, 3) := by decide +kernel
theorem dX12_declareOne_278 : decode cX12_declareOne 278 = .ok (.iload_n 3, 1) := by decide +kernel
theorem dX12_declareOne_279 : decode cX12_declareOne 279 = .ok (.iload_n 2, 1) := by decide +kernel
theorem dX12_declareOne_280 : decode cX12_declareOne 280 = .ok (.iastore, 1) := by decide +kernel
theorem dX12_declareOne_281 : decode cX12_declareOne 281 = .ok (.aload_n 0, 1) := by decide +kernel
theorem dX12_declareOne_282 : decode cX12_declareOne 282 = .ok (.getfield 70, 3) := by decide +kernel
theorem dX12_declareOne_285 : decode cX12_declareOne 285 = .ok (.iload_n 3, 1) := by decide +kernel
theorem dX12_declareOne_286 : decode cX12_declareOne 286 = .ok (.iload 4, 2) := by decide +kernel
theorem dX12_declareOne_288 : decode cX12_declareOne 288 = .ok (.iastore, 1) := by decide +kernel
theorem dX12_declareOne_289 : decode cX12_declareOne 289 = .ok (.aload_n 0, 1) := by decide +kernel
theorem dX12_declareOne_290 : decode cX12_declareOne 290 = .ok (.getfield 73, 3) := by decide +kernel
theorem dX12_declareOne_293 : decode cX12_declareOne 293 = .ok (.iload_n 3, 1) := by decide +kernel
theorem dX12_declareOne_294 : decode cX12_declareOne 294 = .ok (.iload_n 1, 1) := by decide +kernel
theorem dX12_declareOne_295 : decode cX12_declareOne 295 = .ok (.iastore, 1) := by decide +kernel
theorem dX12_declareOne_296 : decode cX12_declareOne 296 = .ok (.iload_n 2, 1) := by decide +kernel
theorem dX12_declareOne_297 : decode cX12_declareOne 297 = .ok (.iconst 5, 1) := by decide +kernel
theorem dX12_declareOne_298 : decode cX12_declareOne 298 = .ok (.if_icmp .ne 61, 3) := by decide +kernel
theorem dX12_declareOne_301 : decode cX12_declareOne 301 = .ok (.aload_n 0, 1) := by decide +kernel
theorem dX12_declareOne_302 : decode cX12_declareOne 302 = .ok (.dup, 1) := by decide +kernel
theorem dX12_declareOne_303 : decode cX12_declareOne 303 = .ok (.getfield 482, 3) := by decide +kernel
theorem dX12_declareOne_306 : decode cX12_declareOne 306 = .ok (.aload_n 0, 1) := by decide +kernel
theorem dX12_declareOne_307 : decode cX12_declareOne 307 = .ok (.getfield 58, 3) := by decide +kernel
theorem dX12_declareOne_310 : decode cX12_declareOne 310 = .ok (.iload_n 1, 1) := by decide +kernel
theorem dX12_declareOne_311 : decode cX12_declareOne 311 = .ok (.iaload, 1) := by decide +kernel
theorem dX12_declareOne_312 : decode cX12_declareOne 312 = .ok (.iadd, 1) := by decide +kernel
theorem dX12_declareOne_313 : decode cX12_declareOne 313 = .ok (.putfield 482, 3) := by decide +kernel
theorem dX12_declareOne_316 : decode cX12_declareOne 316 = .ok (.aload_n 0, 1) := by decide +kernel
theorem dX12_declareOne_317 : decode cX12_declareOne 317 = .ok (.getfield 58, 3) := by decide +kernel
theorem dX12_declareOne_320 : decode cX12_declareOne 320 = .ok (.iload_n 1, 1) := by decide +kernel
theorem dX12_declareOne_321 : decode cX12_declareOne 321 = .ok (.iaload, 1) := by decide +kernel
theorem dX12_declareOne_322 : decode cX12_declareOne 322 = .ok (.iconst 1, 1) := by decide +kernel
theorem dX12_declareOne_323 : decode cX12_declareOne 323 = .ok (.if_icmp .lt 25, 3) := by decide +kernel
theorem dX12_declareOne_326 : decode cX12_declareOne 326 = .ok (.aload_n 0, 1) := by decide +kernel
theorem dX12_declareOne_327 : decode cX12_declareOne 327 = .ok (.getfield 58, 3) := by decide +kernel
theorem dX12_declareOne_330 : decode cX12_declareOne 330 = .ok (.iload_n 1, 1) := by decide +kernel
theorem dX12_declareOne_331 : decode cX12_declareOne 331 = .ok (.iaload, 1) := by decide +kernel
theorem dX12_declareOne_332 : decode cX12_declareOne 332 = .ok (.sipush 400, 3) := by decide +kernel
theorem dX12_declareOne_335 : decode cX12_declareOne 335 = .ok (.if_icmp .gt 13, 3) := by decide +kernel
theorem dX12_declareOne_338 : decode cX12_declareOne 338 = .ok (.aload_n 0, 1) := by decide +kernel
theorem dX12_declareOne_339 : decode cX12_declareOne 339 = .ok (.getfield 482, 3) := by decide +kernel
theorem dX12_declareOne_342 : decode cX12_declareOne 342 = .ok (.sipush 1000, 3) := by decide +kernel
theorem dX12_declareOne_345 : decode cX12_declareOne 345 = .ok (.if_icmp .le 14, 3) := by decide +kernel
theorem dX12_declareOne_348 : decode cX12_declareOne 348 = .ok (.aload_n 0, 1) := by decide +kernel
theorem dX12_declareOne_349 : decode cX12_declareOne 349 = .ok (.iconst 5, 1) := by decide +kernel
theorem dX12_declareOne_350 : decode cX12_declareOne 350 = .ok (.aload_n 0, 1) := by decide +kernel
theorem dX12_declareOne_351 : decode cX12_declareOne 351 = .ok (.getfield 61, 3) := by decide +kernel
theorem dX12_declareOne_354 : decode cX12_declareOne 354 = .ok (.iload_n 1, 1) := by decide +kernel
theorem dX12_declareOne_355 : decode cX12_declareOne 355 = .ok (.iaload, 1) := by decide +kernel
theorem dX12_declareOne_356 : decode cX12_declareOne 356 = .ok (.invokevirtual 500, 3) := by decide +kernel
theorem dX12_declareOne_359 : decode cX12_declareOne 359 = .ok (.iload_n 2, 1) := by decide +kernel
theorem dX12_declareOne_360 : decode cX12_declareOne 360 = .ok (.iconst 3, 1) := by decide +kernel
theorem dX12_declareOne_361 : decode cX12_declareOne 361 = .ok (.if_icmp .ne 15, 3) := by decide +kernel
theorem dX12_declareOne_364 : decode cX12_declareOne 364 = .ok (.aload_n 0, 1) := by decide +kernel
theorem dX12_declareOne_365 : decode cX12_declareOne 365 = .ok (.aload_n 0, 1) := by decide +kernel
theorem dX12_declareOne_366 : decode cX12_declareOne 366 = .ok (.getfield 58, 3) := by decide +kernel
theorem dX12_declareOne_369 : decode cX12_declareOne 369 = .ok (.iload_n 1, 1) := by decide +kernel
theorem dX12_declareOne_370 : decode cX12_declareOne 370 = .ok (.iaload, 1) := by decide +kernel
theorem dX12_declareOne_371 : decode cX12_declareOne 371 = .ok (.iconst 0, 1) := by decide +kernel
theorem dX12_declareOne_372 : decode cX12_declareOne 372 = .ok (.invokevirtual 503, 3) := by decide +kernel
theorem dX12_declareOne_375 : decode cX12_declareOne 375 = .ok (.pop, 1) := by decide +kernel
theorem dX12_declareOne_376 : decode cX12_declareOne 376 = .ok (.iload_n 2, 1) := by decide +kernel
theorem dX12_declareOne_377 : decode cX12_declareOne 377 = .ok (.iconst 2, 1) := by decide +kernel
theorem dX12_declareOne_378 : decode cX12_declareOne 378 = .ok (.if_icmp .ne 55, 3) := by decide +kernel
theorem dX12_declareOne_381 : decode cX12_declareOne 381 = .ok (.iconst 0, 1) := by decide +kernel
theorem dX12_declareOne_382 : decode cX12_declareOne 382 = .ok (.istore_n 3, 1) := by decide +kernel
theorem dX12_declareOne_383 : decode cX12_declareOne 383 = .ok (.aload_n 0, 1) := by decide +kernel
theorem dX12_declareOne_384 : decode cX12_declareOne 384 = .ok (.getfield 58, 3) := by decide +kernel
theorem dX12_declareOne_387 : decode cX12_declareOne 387 = .ok (.iload_n 1, 1) := by decide +kernel
theorem dX12_declareOne_388 : decode cX12_declareOne 388 = .ok (.iaload, 1) := by decide +kernel
theorem dX12_declareOne_389 : decode cX12_declareOne 389 = .ok (.istore 4, 2) := by decide +kernel
theorem dX12_declareOne_391 : decode cX12_declareOne 391 = .ok (.iload 4, 2) := by decide +kernel
theorem dX12_declareOne_393 : decode cX12_declareOne 393 = .ok (.ifCond .lt 40, 3) := by decide +kernel
theorem dX12_declareOne_396 : decode cX12_declareOne 396 = .ok (.aload_n 0, 1) := by decide +kernel
theorem dX12_declareOne_397 : decode cX12_declareOne 397 = .ok (.getfield 49, 3) := by decide +kernel
theorem dX12_declareOne_400 : decode cX12_declareOne 400 = .ok (.iload 4, 2) := by decide +kernel
theorem dX12_declareOne_402 : decode cX12_declareOne 402 = .ok (.iaload, 1) := by decide +kernel
theorem dX12_declareOne_403 : decode cX12_declareOne 403 = .ok (.bipush 14, 2) := by decide +kernel
theorem dX12_declareOne_405 : decode cX12_declareOne 405 = .ok (.if_icmp .ne 16, 3) := by decide +kernel
theorem dX12_declareOne_408 : decode cX12_declareOne 408 = .ok (.aload_n 0, 1) := by decide +kernel
theorem dX12_declareOne_409 : decode cX12_declareOne 409 = .ok (.aload_n 0, 1) := by decide +kernel
theorem dX12_declareOne_410 : decode cX12_declareOne 410 = .ok (.getfield 55, 3) := by decide +kernel
theorem dX12_declareOne_413 : decode cX12_declareOne 413 = .ok (.iload 4, 2) := by decide +kernel
theorem dX12_declareOne_415 : decode cX12_declareOne 415 = .ok (.iaload, 1) := by decide +kernel
theorem dX12_declareOne_416 : decode cX12_declareOne 416 = .ok (.iload_n 3, 1) := by decide +kernel
theorem dX12_declareOne_417 : decode cX12_declareOne 417 = .ok (.invokevirtual 503, 3) := by decide +kernel
theorem dX12_declareOne_420 : decode cX12_declareOne 420 = .ok (.istore_n 3, 1) := by decide +kernel
theorem dX12_declareOne_421 : decode cX12_declareOne 421 = .ok (.aload_n 0, 1) := by decide +kernel
theorem dX12_declareOne_422 : decode cX12_declareOne 422 = .ok (.getfield 64, 3) := by decide +kernel
theorem dX12_declareOne_425 : decode cX12_declareOne 425 = .ok (.iload 4, 2) := by decide +kernel
theorem dX12_declareOne_427 : decode cX12_declareOne 427 = .ok (.iaload, 1) := by decide +kernel
theorem dX12_declareOne_428 : decode cX12_declareOne 428 = .ok (.istore 4, 2) := by decide +kernel
theorem dX12_declareOne_430 : decode cX12_declareOne 430 = .ok (.goto (-39), 3) := by decide +kernel
theorem dX12_declareOne_433 : decode cX12_declareOne 433 = .ok (.iload_n 2, 1) := by decide +kernel
theorem dX12_declareOne_434 : decode cX12_declareOne 434 = .ok (.bipush 7, 2) := by decide +kernel
theorem dX12_declareOne_436 : decode cX12_declareOne 436 = .ok (.if_icmp .ne 20, 3) := by decide +kernel
theorem dX12_declareOne_439 : decode cX12_declareOne 439 = .ok (.aload_n 0, 1) := by decide +kernel
theorem dX12_declareOne_440 : decode cX12_declareOne 440 = .ok (.dup, 1) := by decide +kernel
theorem dX12_declareOne_441 : decode cX12_declareOne 441 = .ok (.getfield 488, 3) := by decide +kernel
theorem dX12_declareOne_444 : decode cX12_declareOne 444 = .ok (.iconst 1, 1) := by decide +kernel
theorem dX12_declareOne_445 : decode cX12_declareOne 445 = .ok (.iadd, 1) := by decide +kernel
theorem dX12_declareOne_446 : decode cX12_declareOne 446 = .ok (.dup_x1, 1) := by decide +kernel
theorem dX12_declareOne_447 : decode cX12_declareOne 447 = .ok (.putfield 488, 3) := by decide +kernel
theorem dX12_declareOne_450 : decode cX12_declareOne 450 = .ok (.sipush 200, 3) := by decide +kernel
theorem dX12_declareOne_453 : decode cX12_declareOne 453 = .ok (.if_icmp .gt 25, 3) := by decide +kernel
theorem dX12_declareOne_456 : decode cX12_declareOne 456 = .ok (.iload_n 2, 1) := by decide +kernel
theorem dX12_declareOne_457 : decode cX12_declareOne 457 = .ok (.bipush 8, 2) := by decide +kernel
theorem dX12_declareOne_459 : decode cX12_declareOne 459 = .ok (.if_icmp .ne 30, 3) := by decide +kernel
theorem dX12_declareOne_462 : decode cX12_declareOne 462 = .ok (.aload_n 0, 1) := by decide +kernel
theorem dX12_declareOne_463 : decode cX12_declareOne 463 = .ok (.dup, 1) := by decide +kernel
theorem dX12_declareOne_464 : decode cX12_declareOne 464 = .ok (.getfield 491, 3) := by decide +kernel
theorem dX12_declareOne_467 : decode cX12_declareOne 467 = .ok (.iconst 1, 1) := by decide +kernel
theorem dX12_declareOne_468 : decode cX12_declareOne 468 = .ok (.iadd, 1) := by decide +kernel
theorem dX12_declareOne_469 : decode cX12_declareOne 469 = .ok (.dup_x1, 1) := by decide +kernel
theorem dX12_declareOne_470 : decode cX12_declareOne 470 = .ok (.putfield 491, 3) := by decide +kernel
theorem dX12_declareOne_473 : decode cX12_declareOne 473 = .ok (.bipush 20, 2) := by decide +kernel
theorem dX12_declareOne_475 : decode cX12_declareOne 475 = .ok (.if_icmp .le 14, 3) := by decide +kernel
theorem dX12_declareOne_478 : decode cX12_declareOne 478 = .ok (.aload_n 0, 1) := by decide +kernel
theorem dX12_declareOne_479 : decode cX12_declareOne 479 = .ok (.iconst 5, 1) := by decide +kernel
theorem dX12_declareOne_480 : decode cX12_declareOne 480 = .ok (.aload_n 0, 1) := by decide +kernel
theorem dX12_declareOne_481 : decode cX12_declareOne 481 = .ok (.getfield 52, 3) := by decide +kernel
theorem dX12_declareOne_484 : decode cX12_declareOne 484 = .ok (.iload_n 1, 1) := by decide +kernel
theorem dX12_declareOne_485 : decode cX12_declareOne 485 = .ok (.iaload, 1) := by decide +kernel
theorem dX12_declareOne_486 : decode cX12_declareOne 486 = .ok (.invokevirtual 500, 3) := by decide +kernel
theorem dX12_declareOne_489 : decode cX12_declareOne 489 = .ok (.iload_n 2, 1) := by decide +kernel
theorem dX12_declareOne_490 : decode cX12_declareOne 490 = .ok (.bipush 6, 2) := by decide +kernel
theorem dX12_declareOne_492 : decode cX12_declareOne 492 = .ok (.if_icmp .lt 58, 3) := by decide +kernel
theorem dX12_declareOne_495 : decode cX12_declareOne 495 = .ok (.aload_n 0, 1) := by decide +kernel
theorem dX12_declareOne_496 : decode cX12_declareOne 496 = .ok (.getfield 52, 3) := by decide +kernel
theorem dX12_declareOne_499 : decode cX12_declareOne 499 = .ok (.aload_n 0, 1) := by decide +kernel
theorem dX12_declareOne_500 : decode cX12_declareOne 500 = .ok (.getfield 61, 3) := by decide +kernel
theorem dX12_declareOne_503 : decode cX12_declareOne 503 = .ok (.iload_n 1, 1) := by decide +kernel
theorem dX12_declareOne_504 : decode cX12_declareOne 504 = .ok (.iaload, 1) := by decide +kernel
theorem dX12_declareOne_505 : decode cX12_declareOne 505 = .ok (.iaload, 1) := by decide +kernel
theorem dX12_declareOne_506 : decode cX12_declareOne 506 = .ok (.aload_n 0, 1) := by decide +kernel
theorem dX12_declareOne_507 : decode cX12_declareOne 507 = .ok (.getfield 52, 3) := by decide +kernel
theorem dX12_declareOne_510 : decode cX12_declareOne 510 = .ok (.iload_n 1, 1) := by decide +kernel
theorem dX12_declareOne_511 : decode cX12_declareOne 511 = .ok (.iaload, 1) := by decide +kernel
theorem dX12_declareOne_512 : decode cX12_declareOne 512 = .ok (.isub, 1) := by decide +kernel
theorem dX12_declareOne_513 : decode cX12_declareOne 513 = .ok (.sipush 4000, 3) := by decide +kernel
theorem dX12_declareOne_516 : decode cX12_declareOne 516 = .ok (.if_icmp .le 34, 3) := by decide +kernel
theorem dX12_declareOne_519 : decode cX12_declareOne 519 = .ok (.aload_n 0, 1) := by decide +kernel
theorem dX12_declareOne_520 : decode cX12_declareOne 520 = .ok (.iconst 5, 1) := by decide +kernel
theorem dX12_declareOne_521 : decode cX12_declareOne 521 = .ok (.iload_n 2, 1) := by decide +kernel
theorem dX12_declareOne_522 : decode cX12_declareOne 522 = .ok (.bipush 6, 2) := by decide +kernel
theorem dX12_declareOne_524 : decode cX12_declareOne 524 = .ok (.if_icmp .ne 17, 3) := by decide +kernel
theorem dX12_declareOne_527 : decode cX12_declareOne 527 = .ok (.aload_n 0, 1) := by decide +kernel
theorem dX12_declareOne_528 : decode cX12_declareOne 528 = .ok (.getfield 52, 3) := by decide +kernel
theorem dX12_declareOne_531 : decode cX12_declareOne 531 = .ok (.aload_n 0, 1) := by decide +kernel
theorem dX12_declareOne_532 : decode cX12_declareOne 532 = .ok (.getfield 55, 3) := by decide +kernel
theorem dX12_declareOne_535 : decode cX12_declareOne 535 = .ok (.iload_n 1, 1) := by decide +kernel
theorem dX12_declareOne_536 : decode cX12_declareOne 536 = .ok (.iaload, 1) := by decide +kernel
theorem dX12_declareOne_537 : decode cX12_declareOne 537 = .ok (.iaload, 1) := by decide +kernel
theorem dX12_declareOne_538 : decode cX12_declareOne 538 = .ok (.goto 9, 3) := by decide +kernel
theorem dX12_declareOne_541 : decode cX12_declareOne 541 = .ok (.aload_n 0, 1) := by decide +kernel
theorem dX12_declareOne_542 : decode cX12_declareOne 542 = .ok (.getfield 52, 3) := by decide +kernel
theorem dX12_declareOne_545 : decode cX12_declareOne 545 = .ok (.iload_n 1, 1) := by decide +kernel
theorem dX12_declareOne_546 : decode cX12_declareOne 546 = .ok (.iaload, 1) := by decide +kernel
theorem dX12_declareOne_547 : decode cX12_declareOne 547 = .ok (.invokevirtual 500, 3) := by decide +kernel
theorem dX12_declareOne_550 : decode cX12_declareOne 550 = .ok (.return_, 1) := by decide +kernel
def F_X12_declareOne (p0 : Int32) (σ : MS) : MR :=
  if p0 < 0 ∨ 40000 ≤ p0.toNatClampNeg then none else
  bnd ((σ.2 17 p0.toNatClampNeg)) fun (x_3 : Int32) =>
  (F_X12_isItem x_3 σ).bind fun u_5 =>
  bnd (fun  (σ_7 : MS) => (
    bnd (fun  (σ_11 : MS) => (
      bnd (fun  (σ_15 : MS) => (
        bnd (fun  (σ_19 : MS) => (
          bnd (fun  (σ_23 : MS) => (
            if x_3 < 6 then (
              some (0, σ_23)
            ) else (
              if p0 < 0 ∨ 40000 ≤ p0.toNatClampNeg then none else
              bnd ((σ_23.2 21 p0.toNatClampNeg)) fun (x_32 : Int32) =>
              if x_32 < 0 ∨ 40000 ≤ x_32.toNatClampNeg then none else
              if p0 < 0 ∨ 40000 ≤ p0.toNatClampNeg then none else
              bnd (((σ_23.2 18 x_32.toNatClampNeg) - (σ_23.2 18 p0.toNatClampNeg))) fun (x_38 : Int32) =>
              if x_38 ≤ 4000 then (
                some (0, σ_23)
              ) else (
                bnd (fun (t_43 : Int32) (σ_44 : MS) => (
                  (F_X12_note 5 t_43 σ_44).bind fun u_48 =>
                  some (0, u_48.2)
                ) : Int32 → MS → MR) fun j_45 =>
                if x_3 = 6 then (
                  if p0 < 0 ∨ 40000 ≤ p0.toNatClampNeg then none else
                  bnd ((σ_23.2 19 p0.toNatClampNeg)) fun (x_54 : Int32) =>
                  if x_54 < 0 ∨ 40000 ≤ x_54.toNatClampNeg then none else
                  j_45 (σ_23.2 18 x_54.toNatClampNeg) σ_23
                ) else (
                  if p0 < 0 ∨ 40000 ≤ p0.toNatClampNeg then none else
                  j_45 (σ_23.2 18 p0.toNatClampNeg) σ_23
                )
              )
            )
          ) : MS → MR) fun j_24 =>
          bnd (fun  (σ_61 : MS) => (
            if p0 < 0 ∨ 40000 ≤ p0.toNatClampNeg then none else
            (F_X12_note 5 (σ_61.2 18 p0.toNatClampNeg) σ_61).bind fun u_67 =>
            j_24  u_67.2
          ) : MS → MR) fun j_62 =>
          bnd (fun  (σ_69 : MS) => (
            if x_3 = 8 then (
              bnd (mI σ_69 42 ((σ_69.1 42) + 1)) fun σ_75 =>
              if ((σ_69.1 42) + 1) ≤ 20 then (
                j_24  σ_75
              ) else (
                j_62  σ_75
              )
            ) else (
              j_24  σ_69
            )
          ) : MS → MR) fun j_70 =>
          if x_3 = 7 then (
            bnd (mI σ_19 41 ((σ_19.1 41) + 1)) fun σ_83 =>
            if 200 < ((σ_19.1 41) + 1) then (
              j_62  σ_83
            ) else (
              j_70  σ_83
            )
          ) else (
            j_70  σ_19
          )
        ) : MS → MR) fun j_20 =>
        if x_3 = 2 then (
          if p0 < 0 ∨ 40000 ≤ p0.toNatClampNeg then none else
          bnd ((σ_15.2 20 p0.toNatClampNeg)) fun (x_93 : Int32) =>
          loopF (fun (again_96 : (Int32 × Int32 × MS) → MR) (s_95 : Int32 × Int32 × MS) => (
            if s_95.2.1 < 0 then (
              j_20  s_95.2.2
            ) else (
              if s_95.2.1 < 0 ∨ 40000 ≤ s_95.2.1.toNatClampNeg then none else
              bnd (fun (v3_104 : Int32) (σ_105 : MS) => (
                if s_95.2.1 < 0 ∨ 40000 ≤ s_95.2.1.toNatClampNeg then none else
                bnd ((σ_105.2 22 s_95.2.1.toNatClampNeg)) fun (x_111 : Int32) =>
                again_96 (v3_104, x_111, σ_105)
              ) : Int32 → MS → MR) fun j_106 =>
              if (s_95.2.2.2 17 s_95.2.1.toNatClampNeg) = 14 then (
                if s_95.2.1 < 0 ∨ 40000 ≤ s_95.2.1.toNatClampNeg then none else
                (F_X12_tooManyWords (s_95.2.2.2 19 s_95.2.1.toNatClampNeg) s_95.1 s_95.2.2).bind fun u_117 =>
                j_106 u_117.1 u_117.2
              ) else (
                j_106 s_95.1 s_95.2.2
              )
            )
          )) FU (0, x_93, σ_15)
        ) else (
          j_20  σ_15
        )
      ) : MS → MR) fun j_16 =>
      if x_3 = 3 then (
        if p0 < 0 ∨ 40000 ≤ p0.toNatClampNeg then none else
        (F_X12_tooManyWords (σ_11.2 20 p0.toNatClampNeg) 0 σ_11).bind fun u_125 =>
        j_16  u_125.2
      ) else (
        j_16  σ_11
      )
    ) : MS → MR) fun j_12 =>
    if x_3 = 5 then (
      if p0 < 0 ∨ 40000 ≤ p0.toNatClampNeg then none else
      bnd (((σ_7.1 39) + (σ_7.2 20 p0.toNatClampNeg))) fun (x_132 : Int32) =>
      bnd (mI σ_7 39 x_132) fun σ_134 =>
      if p0 < 0 ∨ 40000 ≤ p0.toNatClampNeg then none else
      bnd (fun  (σ_138 : MS) => (
        if p0 < 0 ∨ 40000 ≤ p0.toNatClampNeg then none else
        (F_X12_note 5 (σ_138.2 21 p0.toNatClampNeg) σ_138).bind fun u_144 =>
        j_12  u_144.2
      ) : MS → MR) fun j_139 =>
      if (σ_134.2 20 p0.toNatClampNeg) < 1 then (
        j_139  σ_134
      ) else (
        if p0 < 0 ∨ 40000 ≤ p0.toNatClampNeg then none else
        if 400 < (σ_134.2 20 p0.toNatClampNeg) then (
          j_139  σ_134
        ) else (
          if (σ_134.1 39) ≤ 1000 then (
            j_12  σ_134
          ) else (
            j_139  σ_134
          )
        )
      )
    ) else (
      j_12  σ_7
    )
  ) : MS → MR) fun j_8 =>
  if u_5.1 = 0 then (
    j_8  u_5.2
  ) else (
    if p0 < 0 ∨ 40000 ≤ p0.toNatClampNeg then none else
    bnd ((u_5.2.2 19 p0.toNatClampNeg)) fun (x_163 : Int32) =>
    if x_163 < 0 ∨ 40000 ≤ x_163.toNatClampNeg then none else
    bnd ((u_5.2.2 19 x_163.toNatClampNeg)) fun (x_167 : Int32) =>
    if x_167 < 0 ∨ 8000 ≤ x_167.toNatClampNeg then none else
    bnd (fun  (σ_171 : MS) => (
      bnd (fun (t_175 : Int32) (σ_176 : MS) => (
        bnd (fun (t_180 : Int32) (σ_181 : MS) => (
          bnd (fun  (σ_185 : MS) => (
            if x_167 < 0 ∨ 8000 ≤ x_167.toNatClampNeg then none else
            if (σ_185.2 28 x_167.toNatClampNeg) = 0 then (
              if x_167 < 0 ∨ 8000 ≤ x_167.toNatClampNeg then none else
              bnd (mA σ_185 28 (upd (σ_185.2 28) x_167.toNatClampNeg x_3)) fun σ_195 =>
              if x_167 < 0 ∨ 8000 ≤ x_167.toNatClampNeg then none else
              bnd (mA σ_195 29 (upd (σ_195.2 29) x_167.toNatClampNeg t_175)) fun σ_199 =>
              if x_167 < 0 ∨ 8000 ≤ x_167.toNatClampNeg then none else
              bnd (mA σ_199 30 (upd (σ_199.2 30) x_167.toNatClampNeg p0)) fun σ_203 =>
              j_8  σ_203
            ) else (
              j_8  σ_185
            )
          ) : MS → MR) fun j_186 =>
          if t_180 = 0 then (
            j_186  σ_181
          ) else (
            if p0 < 0 ∨ 40000 ≤ p0.toNatClampNeg then none else
            bnd ((σ_181.2 19 p0.toNatClampNeg)) fun (x_211 : Int32) =>
            if x_211 < 0 ∨ 40000 ≤ x_211.toNatClampNeg then none else
            (F_X12_note 5 (σ_181.2 18 x_211.toNatClampNeg) σ_181).bind fun u_215 =>
            j_186  u_215.2
          )
        ) : Int32 → MS → MR) fun j_182 =>
        if 2 < x_3 then (
          if x_3 = 3 then (
            if (σ_176.1 36) ≤ 60 then (
              j_182 0 σ_176
            ) else (
              j_182 1 σ_176
            )
          ) else (
            if x_3 = 4 then (
              if (σ_176.1 37) ≤ 100 then (
                j_182 0 σ_176
              ) else (
                j_182 1 σ_176
              )
            ) else (
              if x_3 = 5 then (
                if (σ_176.1 38) ≤ 20 then (
                  j_182 0 σ_176
                ) else (
                  j_182 1 σ_176
                )
              ) else (
                if (σ_176.1 40) ≤ 100 then (
                  j_182 0 σ_176
                ) else (
                  j_182 1 σ_176
                )
              )
            )
          )
        ) else (
          if (σ_176.1 35) ≤ 120 then (
            j_182 0 σ_176
          ) else (
            j_182 1 σ_176
          )
        )
      ) : Int32 → MS → MR) fun j_177 =>
      if 2 < x_3 then (
        if x_3 = 3 then (
          bnd (mI σ_171 36 ((σ_171.1 36) + 1)) fun σ_248 =>
          j_177 ((σ_171.1 36) + 1) σ_248
        ) else (
          if x_3 = 4 then (
            bnd (mI σ_171 37 ((σ_171.1 37) + 1)) fun σ_253 =>
            j_177 (σ_171.1 37) σ_253
          ) else (
            if x_3 = 5 then (
              bnd (mI σ_171 38 ((σ_171.1 38) + 1)) fun σ_258 =>
              j_177 (σ_171.1 38) σ_258
            ) else (
              bnd (mI σ_171 40 ((σ_171.1 40) + 1)) fun σ_261 =>
              j_177 (σ_171.1 40) σ_261
            )
          )
        )
      ) else (
        bnd (mI σ_171 35 ((σ_171.1 35) + 1)) fun σ_264 =>
        j_177 ((σ_171.1 35) + 1) σ_264
      )
    ) : MS → MR) fun j_172 =>
    if (u_5.2.2 28 x_167.toNatClampNeg) = 0 then (
      j_172  u_5.2
    ) else (
      if p0 < 0 ∨ 40000 ≤ p0.toNatClampNeg then none else
      bnd ((u_5.2.2 19 p0.toNatClampNeg)) fun (x_271 : Int32) =>
      if x_271 < 0 ∨ 40000 ≤ x_271.toNatClampNeg then none else
      (F_X12_note 4 (u_5.2.2 18 x_271.toNatClampNeg) u_5.2).bind fun u_275 =>
      j_172  u_275.2
    )
  )
set_option maxHeartbeats 4000000 in
set_option maxRecDepth 100000 in
theorem m_X12_declareOne (l : Launch) (dC : Nat → ClassId) (dI : Nat → Nat → Nat) (cB cC cI cJ cZ cP : ClassId) (h qK qS : Nat) (ad : Nat → Nat) (hDD : mDis cB cI cZ h qK qS ad) (sz : Nat)  (p0 : Int32) (σ : MS) (res : Int32 × MS) (hF : F_X12_declareOne p0 σ = some res) : Met l yX12_declareOne (g_ws yX12_declareOne cX12_declareOne 6 none) ({ frames := 3, cells := 0, slots := 0, locals := 86 }) (va_Pc [.ref h, .int p0] (m_B (dC, dI) [(cB, .byte), (cC, .char), (cI, .int), (cJ, .long), (cZ, .boolean), (cP, .object "StoryHouse$Play")] sz h ad qK qS (mW cB cI cZ h qK qS ad σ) g_0)) (va_Qv (fun (_ : Unit) => True) (fun _ t => va_P (dC, dI) vwCl (mW cB cI cZ h qK qS ad res.2) t.heap) (mCells h ad sz)) 0 0 (mCells h ad sz) := by
  refine Met.ofW (cc := cX12_declareOne) (maxL := 6) (ret := none) (by decide) rfl ?_
  intro p e s m args below meth c s₁ B hml hv
  obtain ⟨rfl, hsz, hP, hK, hE, hKS, hX⟩ := hv
  have hx := B.exec
  have hb := B.bytes
  have hr := B.returns
  have hts0 := atoms_spec (ws := g_ws yX12_declareOne cX12_declareOne 6 none) B.pre
  have hts : ∀ w ∈ lw_good, w.before ([.ref h, .int p0] : List Value).toArray s = true := fun w z => hts0 w (List.mem_cons_of_mem _ z)
  have hown : s.vm.findClass RX12 = some m.cls := findClass_of_methodNamed B.named
  have hlocks := B.notSynchronized
  have hS : va_S (mCells h ad sz) s.heap s.heap [] := va_S.rf
  have hl := lv_entry ([.ref h, .int p0]) (n := 6) (Nat.le_of_ble_eq_true rfl)
  rw [lg_entry_eq]
  generalize (lg_sl ([.ref h, .int p0]) ++ List.replicate (6 - (lg_sl ([.ref h, .int p0])).length) Slot.unset).toArray = ls at hl ⊢
  have hl : lv_has ls 6 [(0, .ref h), (1, .int p0)] := hl
  unfold F_X12_declareOne at hF
  refine lv_aload_n hx hb dX12_declareOne_0 rfl (lv_at hl 0 rfl) ?_
  refine va_get (D := (dC, dI)) (ci := 12) (v := .ref (ad 17)) (C := RX12) (T := TX12) (N := 123) hx hb hts ii_X12 hown hK hP 0 rfl rfl 17 (by decide) (hts (.fieldLink RX12 49 "StoryHouseModel" "what" "[I") wq_1373) (fun _ h9 => h9) rfl dX12_declareOne_1 ?_
  refine lv_iload_n hx hb dX12_declareOne_4 rfl (lv_at hl 1 rfl) ?_
  obtain ⟨g_1, hF_2⟩ := nif_e hF
  clear hF
  refine va_iald (f := σ.2 17) hx hb hK hP 8 2 rfl rfl g_1 dX12_declareOne_5 ?_
  obtain ⟨x_3, ex_3, hF_4⟩ := bnd_e hF_2
  clear hF_2
  refine m_top ex_3 ?_
  refine lv_istore_n (lv' := [(2, .int x_3), (0, .ref h), (1, .int p0)]) hx hb dX12_declareOne_6 rfl hl (by decide) rfl (fun ls hl => ?_)
  refine lv_iload_n hx hb dX12_declareOne_7 rfl (lv_at hl 0 rfl) ?_
  obtain ⟨u_5, hu_5, hF_6⟩ := Option.bind_eq_some_iff.mp hF_4
  clear hF_4
  refine m_ci hsz hS (va_runS (As := [.int x_3]) (rest := []) ⟨hx, hb, hml, hown, hts⟩ (m_X12_isItem l dC dI cB cC cI cJ cZ cP h qK qS ad hDD s.heap.size  x_3 σ _ hu_5) (va_cwS 1 hts (g_gS wq_1657 wq_1658 wq_13 wq_1659) rfl rfl rfl (by decide +kernel) ⟨Nat.le_of_ble_eq_true rfl, Nat.le_of_ble_eq_true rfl⟩) (m_preS g_bl0 hsz hK hP hS hE hKS g_to0) rfl rfl hl.1 rfl (lv_room (Nat.le_of_ble_eq_true rfl)) dX12_declareOne_8 ⟨Nat.le_of_ble_eq_true rfl, Nat.le_of_ble_eq_true rfl⟩) (fun H locs hP hS => ?_)
  obtain ⟨j_8, ej_8, hF_9⟩ := bnd_e hF_6
  clear hF_6
  have Jj_8 : ∀  (σ_7 : MS), j_8  σ_7 = some res → ∀ (H : Heap) (locs : List Loc), va_P (dC, dI) vwCl (mW cB cI cZ h qK qS ad σ_7) H → va_S (mCells h ad sz) s.heap H locs → ∀ ls : Array Slot, lv_has ls 6 [(0, .ref h), (1, .int p0), (2, .int x_3)] → W p l e (headSpec (g_ws yX12_declareOne cX12_declareOne 6 none) { frames := 3, cells := 0, slots := 0, locals := 86 }).room s m ([.ref h, .int p0] : List Value).toArray below meth c H locs 0 0 (MQ below (va_Qv (fun (_ : Unit) => True) (fun _ t => va_P (dC, dI) vwCl (mW cB cI cZ h qK qS ad res.2) t.heap) (mCells h ad sz)) ([.ref h, .int p0] : List Value).toArray s 0 0 (mCells h ad sz)) (F0 m 296 ls []) := by
    intro  σ_7 hF0 H locs hP hS ls hl
    subst ej_8
    have hF_10 := hF0
    clear hF0
    refine lv_iload_n hx hb dX12_declareOne_296 rfl (lv_at hl 2 rfl) ?_
    refine lv_iconst (v := 5) hx hb dX12_declareOne_297 (by decide +kernel) ?_
    obtain ⟨j_12, ej_12, hF_13⟩ := bnd_e hF_10
    clear hF_10
    have Jj_12 : ∀  (σ_11 : MS), j_12  σ_11 = some res → ∀ (H : Heap) (locs : List Loc), va_P (dC, dI) vwCl (mW cB cI cZ h qK qS ad σ_11) H → va_S (mCells h ad sz) s.heap H locs → ∀ ls : Array Slot, lv_has ls 6 [(0, .ref h), (1, .int p0), (2, .int x_3)] → W p l e (headSpec (g_ws yX12_declareOne cX12_declareOne 6 none) { frames := 3, cells := 0, slots := 0, locals := 86 }).room s m ([.ref h, .int p0] : List Value).toArray below meth c H locs 0 0 (MQ below (va_Qv (fun (_ : Unit) => True) (fun _ t => va_P (dC, dI) vwCl (mW cB cI cZ h qK qS ad res.2) t.heap) (mCells h ad sz)) ([.ref h, .int p0] : List Value).toArray s 0 0 (mCells h ad sz)) (F0 m 359 ls []) := by
      intro  σ_11 hF0 H locs hP hS ls hl
      subst ej_12
      have hF_14 := hF0
      clear hF0
      refine lv_iload_n hx hb dX12_declareOne_359 rfl (lv_at hl 2 rfl) ?_
      refine lv_iconst (v := 3) hx hb dX12_declareOne_360 (by decide +kernel) ?_
      obtain ⟨j_16, ej_16, hF_17⟩ := bnd_e hF_14
      clear hF_14
      have Jj_16 : ∀  (σ_15 : MS), j_16  σ_15 = some res → ∀ (H : Heap) (locs : List Loc), va_P (dC, dI) vwCl (mW cB cI cZ h qK qS ad σ_15) H → va_S (mCells h ad sz) s.heap H locs → ∀ ls : Array Slot, lv_has ls 6 [(0, .ref h), (1, .int p0), (2, .int x_3)] → W p l e (headSpec (g_ws yX12_declareOne cX12_declareOne 6 none) { frames := 3, cells := 0, slots := 0, locals := 86 }).room s m ([.ref h, .int p0] : List Value).toArray below meth c H locs 0 0 (MQ below (va_Qv (fun (_ : Unit) => True) (fun _ t => va_P (dC, dI) vwCl (mW cB cI cZ h qK qS ad res.2) t.heap) (mCells h ad sz)) ([.ref h, .int p0] : List Value).toArray s 0 0 (mCells h ad sz)) (F0 m 376 ls []) := by
        intro  σ_15 hF0 H locs hP hS ls hl
        subst ej_16
        have hF_18 := hF0
        clear hF0
        refine lv_iload_n hx hb dX12_declareOne_376 rfl (lv_at hl 2 rfl) ?_
        refine lv_iconst (v := 2) hx hb dX12_declareOne_377 (by decide +kernel) ?_
        obtain ⟨j_20, ej_20, hF_21⟩ := bnd_e hF_18
        clear hF_18
        have Jj_20 : ∀  (σ_19 : MS), j_20  σ_19 = some res → ∀ (H : Heap) (locs : List Loc), va_P (dC, dI) vwCl (mW cB cI cZ h qK qS ad σ_19) H → va_S (mCells h ad sz) s.heap H locs → ∀ ls : Array Slot, lv_has ls 6 [(0, .ref h), (1, .int p0), (2, .int x_3)] → W p l e (headSpec (g_ws yX12_declareOne cX12_declareOne 6 none) { frames := 3, cells := 0, slots := 0, locals := 86 }).room s m ([.ref h, .int p0] : List Value).toArray below meth c H locs 0 0 (MQ below (va_Qv (fun (_ : Unit) => True) (fun _ t => va_P (dC, dI) vwCl (mW cB cI cZ h qK qS ad res.2) t.heap) (mCells h ad sz)) ([.ref h, .int p0] : List Value).toArray s 0 0 (mCells h ad sz)) (F0 m 433 ls []) := by
          intro  σ_19 hF0 H locs hP hS ls hl
          subst ej_20
          have hF_22 := hF0
          clear hF0
          refine lv_iload_n hx hb dX12_declareOne_433 rfl (lv_at hl 2 rfl) ?_
          refine lv_bipush (v := 7) hx hb dX12_declareOne_434 (by decide +kernel) ?_
          obtain ⟨j_24, ej_24, hF_25⟩ := bnd_e hF_22
          clear hF_22
          have Jj_24 : ∀  (σ_23 : MS), j_24  σ_23 = some res → ∀ (H : Heap) (locs : List Loc), va_P (dC, dI) vwCl (mW cB cI cZ h qK qS ad σ_23) H → va_S (mCells h ad sz) s.heap H locs → ∀ ls : Array Slot, lv_has ls 6 [(0, .ref h), (1, .int p0), (2, .int x_3)] → W p l e (headSpec (g_ws yX12_declareOne cX12_declareOne 6 none) { frames := 3, cells := 0, slots := 0, locals := 86 }).room s m ([.ref h, .int p0] : List Value).toArray below meth c H locs 0 0 (MQ below (va_Qv (fun (_ : Unit) => True) (fun _ t => va_P (dC, dI) vwCl (mW cB cI cZ h qK qS ad res.2) t.heap) (mCells h ad sz)) ([.ref h, .int p0] : List Value).toArray s 0 0 (mCells h ad sz)) (F0 m 489 ls []) := by
            intro  σ_23 hF0 H locs hP hS ls hl
            subst ej_24
            have hF_26 := hF0
            clear hF0
            refine lv_iload_n hx hb dX12_declareOne_489 rfl (lv_at hl 2 rfl) ?_
            refine lv_bipush (v := 6) hx hb dX12_declareOne_490 (by decide +kernel) ?_
            refine lv_icmp_lt (tgt := 550) hx hb dX12_declareOne_492 (by decide) (fun c_27 => ?_) (fun c_27 => ?_)
            · have hF_28 := ipos c_27 hF_26
              clear hF_26
              have h9 := Option.some.inj hF_28
              subst h9
              exact W.vret hx hb hr (fun t ht hW => ⟨⟨(), rfl, trivial, m_end ht hP⟩, hS.F ht⟩) hS.2.2 dX12_declareOne_550
            · have hF_29 := ineg c_27 hF_26
              clear hF_26
              refine lv_aload_n hx hb dX12_declareOne_495 rfl (lv_at hl 0 rfl) ?_
              refine va_get (D := (dC, dI)) (ci := 12) (v := .ref (ad 18)) (C := RX12) (T := TX12) (N := 123) hx hb hts ii_X12 hown hK hP 0 rfl rfl 18 (by decide) (hts (.fieldLink RX12 52 "StoryHouseModel" "where" "[I") wq_1374) (fun _ h9 => h9) rfl dX12_declareOne_496 ?_
              refine lv_aload_n hx hb dX12_declareOne_499 rfl (lv_at hl 0 rfl) ?_
              refine va_get (D := (dC, dI)) (ci := 12) (v := .ref (ad 21)) (C := RX12) (T := TX12) (N := 123) hx hb hts ii_X12 hown hK hP 0 rfl rfl 21 (by decide) (hts (.fieldLink RX12 61 "StoryHouseModel" "d" "[I") wq_1377) (fun _ h9 => h9) rfl dX12_declareOne_500 ?_
              refine lv_iload_n hx hb dX12_declareOne_503 rfl (lv_at hl 1 rfl) ?_
              obtain ⟨g_30, hF_31⟩ := nif_e hF_29
              clear hF_29
              refine va_iald (f := σ_23.2 21) hx hb hK hP 12 2 rfl rfl g_30 dX12_declareOne_504 ?_
              obtain ⟨x_32, ex_32, hF_33⟩ := bnd_e hF_31
              clear hF_31
              refine m_top ex_32 ?_
              obtain ⟨g_34, hF_35⟩ := nif_e hF_33
              clear hF_33
              refine va_iald (f := σ_23.2 18) hx hb hK hP 9 2 rfl rfl g_34 dX12_declareOne_505 ?_
              refine lv_aload_n hx hb dX12_declareOne_506 rfl (lv_at hl 0 rfl) ?_
              refine va_get (D := (dC, dI)) (ci := 12) (v := .ref (ad 18)) (C := RX12) (T := TX12) (N := 123) hx hb hts ii_X12 hown hK hP 0 rfl rfl 18 (by decide) (hts (.fieldLink RX12 52 "StoryHouseModel" "where" "[I") wq_1374) (fun _ h9 => h9) rfl dX12_declareOne_507 ?_
              refine lv_iload_n hx hb dX12_declareOne_510 rfl (lv_at hl 1 rfl) ?_
              obtain ⟨g_36, hF_37⟩ := nif_e hF_35
              clear hF_35
              refine va_iald (f := σ_23.2 18) hx hb hK hP 9 2 rfl rfl g_36 dX12_declareOne_511 ?_
              refine lv_isub hx hb dX12_declareOne_512 ?_
              obtain ⟨x_38, ex_38, hF_39⟩ := bnd_e hF_37
              clear hF_37
              refine m_top ex_38 ?_
              refine lv_sipush (v := 4000) hx hb dX12_declareOne_513 (by decide +kernel) ?_
              refine lv_icmp_le (tgt := 550) hx hb dX12_declareOne_516 (by decide) (fun c_40 => ?_) (fun c_40 => ?_)
              · have hF_41 := ipos c_40 hF_39
                clear hF_39
                have h9 := Option.some.inj hF_41
                subst h9
                exact W.vret hx hb hr (fun t ht hW => ⟨⟨(), rfl, trivial, m_end ht hP⟩, hS.F ht⟩) hS.2.2 dX12_declareOne_550
              · have hF_42 := ineg c_40 hF_39
                clear hF_39
                refine lv_aload_n hx hb dX12_declareOne_519 rfl (lv_at hl 0 rfl) ?_
                refine lv_iconst (v := 5) hx hb dX12_declareOne_520 (by decide +kernel) ?_
                refine lv_iload_n hx hb dX12_declareOne_521 rfl (lv_at hl 2 rfl) ?_
                refine lv_bipush (v := 6) hx hb dX12_declareOne_522 (by decide +kernel) ?_
                obtain ⟨j_45, ej_45, hF_46⟩ := bnd_e hF_42
                clear hF_42
                have Jj_45 : ∀ (t_43 : Int32) (σ_44 : MS), j_45 t_43 σ_44 = some res → ∀ (H : Heap) (locs : List Loc), va_P (dC, dI) vwCl (mW cB cI cZ h qK qS ad σ_44) H → va_S (mCells h ad sz) s.heap H locs → ∀ ls : Array Slot, lv_has ls 6 [] → W p l e (headSpec (g_ws yX12_declareOne cX12_declareOne 6 none) { frames := 3, cells := 0, slots := 0, locals := 86 }).room s m ([.ref h, .int p0] : List Value).toArray below meth c H locs 0 0 (MQ below (va_Qv (fun (_ : Unit) => True) (fun _ t => va_P (dC, dI) vwCl (mW cB cI cZ h qK qS ad res.2) t.heap) (mCells h ad sz)) ([.ref h, .int p0] : List Value).toArray s 0 0 (mCells h ad sz)) (F0 m 547 ls [.int t_43, .int 5, .ref h]) := by
                  intro t_43 σ_44 hF0 H locs hP hS ls hl
                  subst ej_45
                  have hF_47 := hF0
                  clear hF0
                  obtain ⟨u_48, hu_48, hF_49⟩ := Option.bind_eq_some_iff.mp hF_47
                  clear hF_47
                  refine m_cv hsz hS (va_runV (As := [.int 5, .int t_43]) (rest := []) ⟨hx, hb, hml, hown, hts⟩ (m_X12_note l dC dI cB cC cI cJ cZ cP h qK qS ad hDD H.size  5 t_43 σ_44 _ hu_48) (cwV 2 hts (g_gV wq_1660 wq_1661 wq_2165 wq_13 wq_1662) rfl rfl rfl (by decide +kernel) ⟨Nat.le_of_ble_eq_true rfl, Nat.le_of_ble_eq_true rfl⟩) (m_preV g_bl0 hsz hK hP hS hE hKS g_to0) rfl rfl hl.1 rfl (lv_room (Nat.le_of_ble_eq_true rfl)) dX12_declareOne_547 ⟨Nat.le_of_ble_eq_true rfl, Nat.le_of_ble_eq_true rfl⟩) (fun H locs hP hS => ?_)
                  have h9 := Option.some.inj hF_49
                  subst h9
                  exact W.vret hx hb hr (fun t ht hW => ⟨⟨(), rfl, trivial, m_end ht hP⟩, hS.F ht⟩) hS.2.2 dX12_declareOne_550
                refine lv_icmp_ne (tgt := 541) hx hb dX12_declareOne_524 (by decide) (fun c_50 => ?_) (fun c_50 => ?_)
                · have hF_58 := ineg c_50 hF_46
                  clear hF_46
                  refine lv_aload_n hx hb dX12_declareOne_541 rfl (lv_at hl 0 rfl) ?_
                  refine va_get (D := (dC, dI)) (ci := 12) (v := .ref (ad 18)) (C := RX12) (T := TX12) (N := 123) hx hb hts ii_X12 hown hK hP 0 rfl rfl 18 (by decide) (hts (.fieldLink RX12 52 "StoryHouseModel" "where" "[I") wq_1374) (fun _ h9 => h9) rfl dX12_declareOne_542 ?_
                  refine lv_iload_n hx hb dX12_declareOne_545 rfl (lv_at hl 1 rfl) ?_
                  obtain ⟨g_59, hF_60⟩ := nif_e hF_58
                  clear hF_58
                  refine va_iald (f := σ_23.2 18) hx hb hK hP 9 2 rfl rfl g_59 dX12_declareOne_546 ?_
                  exact Jj_45 (σ_23.2 18 p0.toNatClampNeg) σ_23 hF_60 _ _ hP hS ls (lv_sub hl [] rfl)
                · have hF_51 := ipos c_50 hF_46
                  clear hF_46
                  refine lv_aload_n hx hb dX12_declareOne_527 rfl (lv_at hl 0 rfl) ?_
                  refine va_get (D := (dC, dI)) (ci := 12) (v := .ref (ad 18)) (C := RX12) (T := TX12) (N := 123) hx hb hts ii_X12 hown hK hP 0 rfl rfl 18 (by decide) (hts (.fieldLink RX12 52 "StoryHouseModel" "where" "[I") wq_1374) (fun _ h9 => h9) rfl dX12_declareOne_528 ?_
                  refine lv_aload_n hx hb dX12_declareOne_531 rfl (lv_at hl 0 rfl) ?_
                  refine va_get (D := (dC, dI)) (ci := 12) (v := .ref (ad 19)) (C := RX12) (T := TX12) (N := 123) hx hb hts ii_X12 hown hK hP 0 rfl rfl 19 (by decide) (hts (.fieldLink RX12 55 "StoryHouseModel" "a" "[I") wq_1375) (fun _ h9 => h9) rfl dX12_declareOne_532 ?_
                  refine lv_iload_n hx hb dX12_declareOne_535 rfl (lv_at hl 1 rfl) ?_
                  obtain ⟨g_52, hF_53⟩ := nif_e hF_51
                  clear hF_51
                  refine va_iald (f := σ_23.2 19) hx hb hK hP 10 2 rfl rfl g_52 dX12_declareOne_536 ?_
                  obtain ⟨x_54, ex_54, hF_55⟩ := bnd_e hF_53
                  clear hF_53
                  refine m_top ex_54 ?_
                  obtain ⟨g_56, hF_57⟩ := nif_e hF_55
                  clear hF_55
                  refine va_iald (f := σ_23.2 18) hx hb hK hP 9 2 rfl rfl g_56 dX12_declareOne_537 ?_
                  refine lv_goto (tgt := 547) hx hb dX12_declareOne_538 (by decide) ?_
                  exact Jj_45 (σ_23.2 18 x_54.toNatClampNeg) σ_23 hF_57 _ _ hP hS ls (lv_sub hl [] rfl)
          obtain ⟨j_62, ej_62, hF_63⟩ := bnd_e hF_25
          clear hF_25
          have Jj_62 : ∀  (σ_61 : MS), j_62  σ_61 = some res → ∀ (H : Heap) (locs : List Loc), va_P (dC, dI) vwCl (mW cB cI cZ h qK qS ad σ_61) H → va_S (mCells h ad sz) s.heap H locs → ∀ ls : Array Slot, lv_has ls 6 [(0, .ref h), (1, .int p0), (2, .int x_3)] → W p l e (headSpec (g_ws yX12_declareOne cX12_declareOne 6 none) { frames := 3, cells := 0, slots := 0, locals := 86 }).room s m ([.ref h, .int p0] : List Value).toArray below meth c H locs 0 0 (MQ below (va_Qv (fun (_ : Unit) => True) (fun _ t => va_P (dC, dI) vwCl (mW cB cI cZ h qK qS ad res.2) t.heap) (mCells h ad sz)) ([.ref h, .int p0] : List Value).toArray s 0 0 (mCells h ad sz)) (F0 m 478 ls []) := by
            intro  σ_61 hF0 H locs hP hS ls hl
            subst ej_62
            have hF_64 := hF0
            clear hF0
            refine lv_aload_n hx hb dX12_declareOne_478 rfl (lv_at hl 0 rfl) ?_
            refine lv_iconst (v := 5) hx hb dX12_declareOne_479 (by decide +kernel) ?_
            refine lv_aload_n hx hb dX12_declareOne_480 rfl (lv_at hl 0 rfl) ?_
            refine va_get (D := (dC, dI)) (ci := 12) (v := .ref (ad 18)) (C := RX12) (T := TX12) (N := 123) hx hb hts ii_X12 hown hK hP 0 rfl rfl 18 (by decide) (hts (.fieldLink RX12 52 "StoryHouseModel" "where" "[I") wq_1374) (fun _ h9 => h9) rfl dX12_declareOne_481 ?_
            refine lv_iload_n hx hb dX12_declareOne_484 rfl (lv_at hl 1 rfl) ?_
            obtain ⟨g_65, hF_66⟩ := nif_e hF_64
            clear hF_64
            refine va_iald (f := σ_61.2 18) hx hb hK hP 9 2 rfl rfl g_65 dX12_declareOne_485 ?_
            obtain ⟨u_67, hu_67, hF_68⟩ := Option.bind_eq_some_iff.mp hF_66
            clear hF_66
            refine m_cv hsz hS (va_runV (As := [.int 5, .int (σ_61.2 18 p0.toNatClampNeg)]) (rest := []) ⟨hx, hb, hml, hown, hts⟩ (m_X12_note l dC dI cB cC cI cJ cZ cP h qK qS ad hDD H.size  5 (σ_61.2 18 p0.toNatClampNeg) σ_61 _ hu_67) (cwV 2 hts (g_gV wq_1660 wq_1661 wq_2165 wq_13 wq_1662) rfl rfl rfl (by decide +kernel) ⟨Nat.le_of_ble_eq_true rfl, Nat.le_of_ble_eq_true rfl⟩) (m_preV g_bl0 hsz hK hP hS hE hKS g_to0) rfl rfl hl.1 rfl (lv_room (Nat.le_of_ble_eq_true rfl)) dX12_declareOne_486 ⟨Nat.le_of_ble_eq_true rfl, Nat.le_of_ble_eq_true rfl⟩) (fun H locs hP hS => ?_)
            exact Jj_24  u_67.2 hF_68 _ _ hP hS ls (lv_sub hl [0, 1, 2] rfl)
          obtain ⟨j_70, ej_70, hF_71⟩ := bnd_e hF_63
          clear hF_63
          have Jj_70 : ∀  (σ_69 : MS), j_70  σ_69 = some res → ∀ (H : Heap) (locs : List Loc), va_P (dC, dI) vwCl (mW cB cI cZ h qK qS ad σ_69) H → va_S (mCells h ad sz) s.heap H locs → ∀ ls : Array Slot, lv_has ls 6 [(0, .ref h), (1, .int p0), (2, .int x_3)] → W p l e (headSpec (g_ws yX12_declareOne cX12_declareOne 6 none) { frames := 3, cells := 0, slots := 0, locals := 86 }).room s m ([.ref h, .int p0] : List Value).toArray below meth c H locs 0 0 (MQ below (va_Qv (fun (_ : Unit) => True) (fun _ t => va_P (dC, dI) vwCl (mW cB cI cZ h qK qS ad res.2) t.heap) (mCells h ad sz)) ([.ref h, .int p0] : List Value).toArray s 0 0 (mCells h ad sz)) (F0 m 456 ls []) := by
            intro  σ_69 hF0 H locs hP hS ls hl
            subst ej_70
            have hF_72 := hF0
            clear hF0
            refine lv_iload_n hx hb dX12_declareOne_456 rfl (lv_at hl 2 rfl) ?_
            refine lv_bipush (v := 8) hx hb dX12_declareOne_457 (by decide +kernel) ?_
            refine lv_icmp_ne (tgt := 489) hx hb dX12_declareOne_459 (by decide) (fun c_73 => ?_) (fun c_73 => ?_)
            · have hF_80 := ineg c_73 hF_72
              clear hF_72
              exact Jj_24  σ_69 hF_80 _ _ hP hS ls (lv_sub hl [0, 1, 2] rfl)
            · have hF_74 := ipos c_73 hF_72
              clear hF_72
              refine lv_aload_n hx hb dX12_declareOne_462 rfl (lv_at hl 0 rfl) ?_
              refine lv_dup hx hb dX12_declareOne_463 rfl ?_
              refine va_get (D := (dC, dI)) (ci := 12) (v := .int (σ_69.1 42)) (C := RX12) (T := TX12) (N := 123) hx hb hts ii_X12 hown hK hP 0 rfl rfl 42 (by decide) (hts (.fieldLink RX12 491 "StoryHouseModel" "eachs" "I") wq_1398) (fun _ h9 => h9) rfl dX12_declareOne_464 ?_
              refine lv_iconst (v := 1) hx hb dX12_declareOne_467 (by decide +kernel) ?_
              refine lv_iadd hx hb dX12_declareOne_468 ?_
              refine lv_dup_x1 hx hb dX12_declareOne_469 rfl rfl ?_
              obtain ⟨σ_75, eσ_75, hF_76⟩ := bnd_e hF_74
              clear hF_74
              refine m_put (σ' := σ_75) (v := .int ((σ_69.1 42) + 1)) (ty := .int) hx hb hts hown hK hP (hDD _ _) hS (by rw [eσ_75]; exact mwI_42) (k := 42) (by decide) (hts (.fieldLink RX12 491 "StoryHouseModel" "eachs" "I") wq_1398) (fun _ h9 => h9) rfl (by decide +kernel) rfl rfl dX12_declareOne_470 (fun H locs hP hS => ?_)
              refine lv_bipush (v := 20) hx hb dX12_declareOne_473 (by decide +kernel) ?_
              refine lv_icmp_le (tgt := 489) hx hb dX12_declareOne_475 (by decide) (fun c_77 => ?_) (fun c_77 => ?_)
              · have hF_78 := ipos c_77 hF_76
                clear hF_76
                exact Jj_24  σ_75 hF_78 _ _ hP hS ls (lv_sub hl [0, 1, 2] rfl)
              · have hF_79 := ineg c_77 hF_76
                clear hF_76
                exact Jj_62  σ_75 hF_79 _ _ hP hS ls (lv_sub hl [0, 1, 2] rfl)
          refine lv_icmp_ne (tgt := 456) hx hb dX12_declareOne_436 (by decide) (fun c_81 => ?_) (fun c_81 => ?_)
          · have hF_88 := ineg c_81 hF_71
            clear hF_71
            exact Jj_70  σ_19 hF_88 _ _ hP hS ls (lv_sub hl [0, 1, 2] rfl)
          · have hF_82 := ipos c_81 hF_71
            clear hF_71
            refine lv_aload_n hx hb dX12_declareOne_439 rfl (lv_at hl 0 rfl) ?_
            refine lv_dup hx hb dX12_declareOne_440 rfl ?_
            refine va_get (D := (dC, dI)) (ci := 12) (v := .int (σ_19.1 41)) (C := RX12) (T := TX12) (N := 123) hx hb hts ii_X12 hown hK hP 0 rfl rfl 41 (by decide) (hts (.fieldLink RX12 488 "StoryHouseModel" "ons" "I") wq_1397) (fun _ h9 => h9) rfl dX12_declareOne_441 ?_
            refine lv_iconst (v := 1) hx hb dX12_declareOne_444 (by decide +kernel) ?_
            refine lv_iadd hx hb dX12_declareOne_445 ?_
            refine lv_dup_x1 hx hb dX12_declareOne_446 rfl rfl ?_
            obtain ⟨σ_83, eσ_83, hF_84⟩ := bnd_e hF_82
            clear hF_82
            refine m_put (σ' := σ_83) (v := .int ((σ_19.1 41) + 1)) (ty := .int) hx hb hts hown hK hP (hDD _ _) hS (by rw [eσ_83]; exact mwI_41) (k := 41) (by decide) (hts (.fieldLink RX12 488 "StoryHouseModel" "ons" "I") wq_1397) (fun _ h9 => h9) rfl (by decide +kernel) rfl rfl dX12_declareOne_447 (fun H locs hP hS => ?_)
            refine lv_sipush (v := 200) hx hb dX12_declareOne_450 (by decide +kernel) ?_
            refine lv_icmp_gt (tgt := 478) hx hb dX12_declareOne_453 (by decide) (fun c_85 => ?_) (fun c_85 => ?_)
            · have hF_86 := ipos c_85 hF_84
              clear hF_84
              exact Jj_62  σ_83 hF_86 _ _ hP hS ls (lv_sub hl [0, 1, 2] rfl)
            · have hF_87 := ineg c_85 hF_84
              clear hF_84
              exact Jj_70  σ_83 hF_87 _ _ hP hS ls (lv_sub hl [0, 1, 2] rfl)
        refine lv_icmp_ne (tgt := 433) hx hb dX12_declareOne_378 (by decide) (fun c_89 => ?_) (fun c_89 => ?_)
        · have hF_120 := ineg c_89 hF_21
          clear hF_21
          exact Jj_20  σ_15 hF_120 _ _ hP hS ls (lv_sub hl [0, 1, 2] rfl)
        · have hF_90 := ipos c_89 hF_21
          clear hF_21
          refine lv_iconst (v := 0) hx hb dX12_declareOne_381 (by decide +kernel) ?_
          refine lv_istore_n (lv' := [(3, .int 0), (0, .ref h), (1, .int p0), (2, .int x_3)]) hx hb dX12_declareOne_382 rfl hl (by decide) rfl (fun ls hl => ?_)
          refine lv_aload_n hx hb dX12_declareOne_383 rfl (lv_at hl 1 rfl) ?_
          refine va_get (D := (dC, dI)) (ci := 12) (v := .ref (ad 20)) (C := RX12) (T := TX12) (N := 123) hx hb hts ii_X12 hown hK hP 0 rfl rfl 20 (by decide) (hts (.fieldLink RX12 58 "StoryHouseModel" "b" "[I") wq_1376) (fun _ h9 => h9) rfl dX12_declareOne_384 ?_
          refine lv_iload_n hx hb dX12_declareOne_387 rfl (lv_at hl 2 rfl) ?_
          obtain ⟨g_91, hF_92⟩ := nif_e hF_90
          clear hF_90
          refine va_iald (f := σ_15.2 20) hx hb hK hP 11 2 rfl rfl g_91 dX12_declareOne_388 ?_
          obtain ⟨x_93, ex_93, hF_94⟩ := bnd_e hF_92
          clear hF_92
          refine m_top ex_93 ?_
          refine lv_istore (lv' := [(4, .int x_93), (3, .int 0), (0, .ref h), (1, .int p0), (2, .int x_3)]) hx hb dX12_declareOne_389 hl (by decide) rfl (fun ls hl => ?_)
          refine loopF_ind (P := fun (s_95 : Int32 × Int32 × MS) => ∀ (H : Heap) (locs : List Loc), va_P (dC, dI) vwCl (mW cB cI cZ h qK qS ad s_95.2.2) H → va_S (mCells h ad sz) s.heap H locs → ∀ ls : Array Slot, lv_has ls 6 [(0, .ref h), (1, .int p0), (2, .int x_3), (3, .int s_95.1), (4, .int s_95.2.1)] → W p l e (headSpec (g_ws yX12_declareOne cX12_declareOne 6 none) { frames := 3, cells := 0, slots := 0, locals := 86 }).room s m ([.ref h, .int p0] : List Value).toArray below meth c H locs 0 0 (MQ below (va_Qv (fun (_ : Unit) => True) (fun _ t => va_P (dC, dI) vwCl (mW cB cI cZ h qK qS ad res.2) t.heap) (mCells h ad sz)) ([.ref h, .int p0] : List Value).toArray s 0 0 (mCells h ad sz)) (F0 m 391 ls [])) ?_ _ _ hF_94 _ _ hP hS ls (lv_sub hl [2, 3, 4, 1, 0] rfl)
          intro again_96 s_95 ih_97 hF_98
          intro H locs hP hS ls hl
          refine lv_iload hx hb dX12_declareOne_391 (lv_at hl 4 rfl) ?_
          refine lv_if_lt (tgt := 433) hx hb dX12_declareOne_393 (by decide) (fun c_99 => ?_) (fun c_99 => ?_)
          · have hF_100 := ipos c_99 hF_98
            clear hF_98
            exact Jj_20  s_95.2.2 hF_100 _ _ hP hS ls (lv_sub hl [0, 1, 2] rfl)
          · have hF_101 := ineg c_99 hF_98
            clear hF_98
            refine lv_aload_n hx hb dX12_declareOne_396 rfl (lv_at hl 0 rfl) ?_
            refine va_get (D := (dC, dI)) (ci := 12) (v := .ref (ad 17)) (C := RX12) (T := TX12) (N := 123) hx hb hts ii_X12 hown hK hP 0 rfl rfl 17 (by decide) (hts (.fieldLink RX12 49 "StoryHouseModel" "what" "[I") wq_1373) (fun _ h9 => h9) rfl dX12_declareOne_397 ?_
            refine lv_iload hx hb dX12_declareOne_400 (lv_at hl 4 rfl) ?_
            obtain ⟨g_102, hF_103⟩ := nif_e hF_101
            clear hF_101
            refine va_iald (f := s_95.2.2.2 17) hx hb hK hP 8 2 rfl rfl g_102 dX12_declareOne_402 ?_
            refine lv_bipush (v := 14) hx hb dX12_declareOne_403 (by decide +kernel) ?_
            obtain ⟨j_106, ej_106, hF_107⟩ := bnd_e hF_103
            clear hF_103
            have Jj_106 : ∀ (v3_104 : Int32) (σ_105 : MS), j_106 v3_104 σ_105 = some res → ∀ (H : Heap) (locs : List Loc), va_P (dC, dI) vwCl (mW cB cI cZ h qK qS ad σ_105) H → va_S (mCells h ad sz) s.heap H locs → ∀ ls : Array Slot, lv_has ls 6 [(0, .ref h), (1, .int p0), (2, .int x_3), (3, .int v3_104), (4, .int s_95.2.1)] → W p l e (headSpec (g_ws yX12_declareOne cX12_declareOne 6 none) { frames := 3, cells := 0, slots := 0, locals := 86 }).room s m ([.ref h, .int p0] : List Value).toArray below meth c H locs 0 0 (MQ below (va_Qv (fun (_ : Unit) => True) (fun _ t => va_P (dC, dI) vwCl (mW cB cI cZ h qK qS ad res.2) t.heap) (mCells h ad sz)) ([.ref h, .int p0] : List Value).toArray s 0 0 (mCells h ad sz)) (F0 m 421 ls []) := by
              intro v3_104 σ_105 hF0 H locs hP hS ls hl
              subst ej_106
              have hF_108 := hF0
              clear hF0
              refine lv_aload_n hx hb dX12_declareOne_421 rfl (lv_at hl 0 rfl) ?_
              refine va_get (D := (dC, dI)) (ci := 12) (v := .ref (ad 22)) (C := RX12) (T := TX12) (N := 123) hx hb hts ii_X12 hown hK hP 0 rfl rfl 22 (by decide) (hts (.fieldLink RX12 64 "StoryHouseModel" "then" "[I") wq_1378) (fun _ h9 => h9) rfl dX12_declareOne_422 ?_
              refine lv_iload hx hb dX12_declareOne_425 (lv_at hl 4 rfl) ?_
              obtain ⟨g_109, hF_110⟩ := nif_e hF_108
              clear hF_108
              refine va_iald (f := σ_105.2 22) hx hb hK hP 13 2 rfl rfl g_109 dX12_declareOne_427 ?_
              obtain ⟨x_111, ex_111, hF_112⟩ := bnd_e hF_110
              clear hF_110
              refine m_top ex_111 ?_
              refine lv_istore (lv' := [(4, .int x_111), (0, .ref h), (1, .int p0), (2, .int x_3), (3, .int v3_104)]) hx hb dX12_declareOne_428 hl (by decide) rfl (fun ls hl => ?_)
              refine lv_goto (tgt := 391) hx hb dX12_declareOne_430 (by decide) ?_
              exact ih_97 (v3_104, x_111, σ_105) hF_112 _ _ hP hS ls (lv_sub hl [1, 2, 3, 4, 0] rfl)
            refine lv_icmp_ne (tgt := 421) hx hb dX12_declareOne_405 (by decide) (fun c_113 => ?_) (fun c_113 => ?_)
            · have hF_119 := ineg c_113 hF_107
              clear hF_107
              exact Jj_106 s_95.1 s_95.2.2 hF_119 _ _ hP hS ls (lv_sub hl [0, 1, 2, 3, 4] rfl)
            · have hF_114 := ipos c_113 hF_107
              clear hF_107
              refine lv_aload_n hx hb dX12_declareOne_408 rfl (lv_at hl 0 rfl) ?_
              refine lv_aload_n hx hb dX12_declareOne_409 rfl (lv_at hl 0 rfl) ?_
              refine va_get (D := (dC, dI)) (ci := 12) (v := .ref (ad 19)) (C := RX12) (T := TX12) (N := 123) hx hb hts ii_X12 hown hK hP 0 rfl rfl 19 (by decide) (hts (.fieldLink RX12 55 "StoryHouseModel" "a" "[I") wq_1375) (fun _ h9 => h9) rfl dX12_declareOne_410 ?_
              refine lv_iload hx hb dX12_declareOne_413 (lv_at hl 4 rfl) ?_
              obtain ⟨g_115, hF_116⟩ := nif_e hF_114
              clear hF_114
              refine va_iald (f := s_95.2.2.2 19) hx hb hK hP 10 2 rfl rfl g_115 dX12_declareOne_415 ?_
              refine lv_iload_n hx hb dX12_declareOne_416 rfl (lv_at hl 3 rfl) ?_
              obtain ⟨u_117, hu_117, hF_118⟩ := Option.bind_eq_some_iff.mp hF_116
              clear hF_116
              refine m_ci hsz hS (va_runV (As := [.int (s_95.2.2.2 19 s_95.2.1.toNatClampNeg), .int s_95.1]) (rest := []) ⟨hx, hb, hml, hown, hts⟩ (m_X12_tooManyWords l dC dI cB cC cI cJ cZ cP h qK qS ad hDD H.size  (s_95.2.2.2 19 s_95.2.1.toNatClampNeg) s_95.1 s_95.2.2 _ hu_117) (cwV 2 hts (g_gV wq_1663 wq_1664 wq_2166 wq_13 wq_1665) rfl rfl rfl (by decide +kernel) ⟨Nat.le_of_ble_eq_true rfl, Nat.le_of_ble_eq_true rfl⟩) (m_preV g_bl0 hsz hK hP hS hE hKS g_to0) rfl rfl hl.1 rfl (lv_room (Nat.le_of_ble_eq_true rfl)) dX12_declareOne_417 ⟨Nat.le_of_ble_eq_true rfl, Nat.le_of_ble_eq_true rfl⟩) (fun H locs hP hS => ?_)
              refine lv_istore_n (lv' := [(3, .int u_117.1), (0, .ref h), (1, .int p0), (2, .int x_3), (4, .int s_95.2.1)]) hx hb dX12_declareOne_420 rfl hl (by decide) rfl (fun ls hl => ?_)
              exact Jj_106 u_117.1 u_117.2 hF_118 _ _ hP hS ls (lv_sub hl [1, 2, 3, 0, 4] rfl)
      refine lv_icmp_ne (tgt := 376) hx hb dX12_declareOne_361 (by decide) (fun c_121 => ?_) (fun c_121 => ?_)
      · have hF_127 := ineg c_121 hF_17
        clear hF_17
        exact Jj_16  σ_11 hF_127 _ _ hP hS ls (lv_sub hl [0, 1, 2] rfl)
      · have hF_122 := ipos c_121 hF_17
        clear hF_17
        refine lv_aload_n hx hb dX12_declareOne_364 rfl (lv_at hl 0 rfl) ?_
        refine lv_aload_n hx hb dX12_declareOne_365 rfl (lv_at hl 0 rfl) ?_
        refine va_get (D := (dC, dI)) (ci := 12) (v := .ref (ad 20)) (C := RX12) (T := TX12) (N := 123) hx hb hts ii_X12 hown hK hP 0 rfl rfl 20 (by decide) (hts (.fieldLink RX12 58 "StoryHouseModel" "b" "[I") wq_1376) (fun _ h9 => h9) rfl dX12_declareOne_366 ?_
        refine lv_iload_n hx hb dX12_declareOne_369 rfl (lv_at hl 1 rfl) ?_
        obtain ⟨g_123, hF_124⟩ := nif_e hF_122
        clear hF_122
        refine va_iald (f := σ_11.2 20) hx hb hK hP 11 2 rfl rfl g_123 dX12_declareOne_370 ?_
        refine lv_iconst (v := 0) hx hb dX12_declareOne_371 (by decide +kernel) ?_
        obtain ⟨u_125, hu_125, hF_126⟩ := Option.bind_eq_some_iff.mp hF_124
        clear hF_124
        refine m_ci hsz hS (va_runV (As := [.int (σ_11.2 20 p0.toNatClampNeg), .int 0]) (rest := []) ⟨hx, hb, hml, hown, hts⟩ (m_X12_tooManyWords l dC dI cB cC cI cJ cZ cP h qK qS ad hDD H.size  (σ_11.2 20 p0.toNatClampNeg) 0 σ_11 _ hu_125) (cwV 2 hts (g_gV wq_1663 wq_1664 wq_2166 wq_13 wq_1665) rfl rfl rfl (by decide +kernel) ⟨Nat.le_of_ble_eq_true rfl, Nat.le_of_ble_eq_true rfl⟩) (m_preV g_bl0 hsz hK hP hS hE hKS g_to0) rfl rfl hl.1 rfl (lv_room (Nat.le_of_ble_eq_true rfl)) dX12_declareOne_372 ⟨Nat.le_of_ble_eq_true rfl, Nat.le_of_ble_eq_true rfl⟩) (fun H locs hP hS => ?_)
        refine lv_pop hx hb dX12_declareOne_375 rfl ?_
        exact Jj_16  u_125.2 hF_126 _ _ hP hS ls (lv_sub hl [0, 1, 2] rfl)
    refine lv_icmp_ne (tgt := 359) hx hb dX12_declareOne_298 (by decide) (fun c_128 => ?_) (fun c_128 => ?_)
    · have hF_157 := ineg c_128 hF_13
      clear hF_13
      exact Jj_12  σ_7 hF_157 _ _ hP hS ls (lv_sub hl [0, 1, 2] rfl)
    · have hF_129 := ipos c_128 hF_13
      clear hF_13
      refine lv_aload_n hx hb dX12_declareOne_301 rfl (lv_at hl 0 rfl) ?_
      refine lv_dup hx hb dX12_declareOne_302 rfl ?_
      refine va_get (D := (dC, dI)) (ci := 12) (v := .int (σ_7.1 39)) (C := RX12) (T := TX12) (N := 123) hx hb hts ii_X12 hown hK hP 0 rfl rfl 39 (by decide) (hts (.fieldLink RX12 482 "StoryHouseModel" "cells" "I") wq_1395) (fun _ h9 => h9) rfl dX12_declareOne_303 ?_
      refine lv_aload_n hx hb dX12_declareOne_306 rfl (lv_at hl 0 rfl) ?_
      refine va_get (D := (dC, dI)) (ci := 12) (v := .ref (ad 20)) (C := RX12) (T := TX12) (N := 123) hx hb hts ii_X12 hown hK hP 0 rfl rfl 20 (by decide) (hts (.fieldLink RX12 58 "StoryHouseModel" "b" "[I") wq_1376) (fun _ h9 => h9) rfl dX12_declareOne_307 ?_
      refine lv_iload_n hx hb dX12_declareOne_310 rfl (lv_at hl 1 rfl) ?_
      obtain ⟨g_130, hF_131⟩ := nif_e hF_129
      clear hF_129
      refine va_iald (f := σ_7.2 20) hx hb hK hP 11 2 rfl rfl g_130 dX12_declareOne_311 ?_
      refine lv_iadd hx hb dX12_declareOne_312 ?_
      obtain ⟨x_132, ex_132, hF_133⟩ := bnd_e hF_131
      clear hF_131
      refine m_top ex_132 ?_
      obtain ⟨σ_134, eσ_134, hF_135⟩ := bnd_e hF_133
      clear hF_133
      refine m_put (σ' := σ_134) (v := .int x_132) (ty := .int) hx hb hts hown hK hP (hDD _ _) hS (by rw [eσ_134]; exact mwI_39) (k := 39) (by decide) (hts (.fieldLink RX12 482 "StoryHouseModel" "cells" "I") wq_1395) (fun _ h9 => h9) rfl (by decide +kernel) rfl rfl dX12_declareOne_313 (fun H locs hP hS => ?_)
      refine lv_aload_n hx hb dX12_declareOne_316 rfl (lv_at hl 0 rfl) ?_
      refine va_get (D := (dC, dI)) (ci := 12) (v := .ref (ad 20)) (C := RX12) (T := TX12) (N := 123) hx hb hts ii_X12 hown hK hP 0 rfl rfl 20 (by decide) (hts (.fieldLink RX12 58 "StoryHouseModel" "b" "[I") wq_1376) (fun _ h9 => h9) rfl dX12_declareOne_317 ?_
      refine lv_iload_n hx hb dX12_declareOne_320 rfl (lv_at hl 1 rfl) ?_
      obtain ⟨g_136, hF_137⟩ := nif_e hF_135
      clear hF_135
      refine va_iald (f := σ_134.2 20) hx hb hK hP 11 2 rfl rfl g_136 dX12_declareOne_321 ?_
      refine lv_iconst (v := 1) hx hb dX12_declareOne_322 (by decide +kernel) ?_
      obtain ⟨j_139, ej_139, hF_140⟩ := bnd_e hF_137
      clear hF_137
      have Jj_139 : ∀  (σ_138 : MS), j_139  σ_138 = some res → ∀ (H : Heap) (locs : List Loc), va_P (dC, dI) vwCl (mW cB cI cZ h qK qS ad σ_138) H → va_S (mCells h ad sz) s.heap H locs → ∀ ls : Array Slot, lv_has ls 6 [(0, .ref h), (1, .int p0), (2, .int x_3)] → W p l e (headSpec (g_ws yX12_declareOne cX12_declareOne 6 none) { frames := 3, cells := 0, slots := 0, locals := 86 }).room s m ([.ref h, .int p0] : List Value).toArray below meth c H locs 0 0 (MQ below (va_Qv (fun (_ : Unit) => True) (fun _ t => va_P (dC, dI) vwCl (mW cB cI cZ h qK qS ad res.2) t.heap) (mCells h ad sz)) ([.ref h, .int p0] : List Value).toArray s 0 0 (mCells h ad sz)) (F0 m 348 ls []) := by
        intro  σ_138 hF0 H locs hP hS ls hl
        subst ej_139
        have hF_141 := hF0
        clear hF0
        refine lv_aload_n hx hb dX12_declareOne_348 rfl (lv_at hl 0 rfl) ?_
        refine lv_iconst (v := 5) hx hb dX12_declareOne_349 (by decide +kernel) ?_
        refine lv_aload_n hx hb dX12_declareOne_350 rfl (lv_at hl 0 rfl) ?_
        refine va_get (D := (dC, dI)) (ci := 12) (v := .ref (ad 21)) (C := RX12) (T := TX12) (N := 123) hx hb hts ii_X12 hown hK hP 0 rfl rfl 21 (by decide) (hts (.fieldLink RX12 61 "StoryHouseModel" "d" "[I") wq_1377) (fun _ h9 => h9) rfl dX12_declareOne_351 ?_
        refine lv_iload_n hx hb dX12_declareOne_354 rfl (lv_at hl 1 rfl) ?_
        obtain ⟨g_142, hF_143⟩ := nif_e hF_141
        clear hF_141
        refine va_iald (f := σ_138.2 21) hx hb hK hP 12 2 rfl rfl g_142 dX12_declareOne_355 ?_
        obtain ⟨u_144, hu_144, hF_145⟩ := Option.bind_eq_some_iff.mp hF_143
        clear hF_143
        refine m_cv hsz hS (va_runV (As := [.int 5, .int (σ_138.2 21 p0.toNatClampNeg)]) (rest := []) ⟨hx, hb, hml, hown, hts⟩ (m_X12_note l dC dI cB cC cI cJ cZ cP h qK qS ad hDD H.size  5 (σ_138.2 21 p0.toNatClampNeg) σ_138 _ hu_144) (cwV 2 hts (g_gV wq_1660 wq_1661 wq_2165 wq_13 wq_1662) rfl rfl rfl (by decide +kernel) ⟨Nat.le_of_ble_eq_true rfl, Nat.le_of_ble_eq_true rfl⟩) (m_preV g_bl0 hsz hK hP hS hE hKS g_to0) rfl rfl hl.1 rfl (lv_room (Nat.le_of_ble_eq_true rfl)) dX12_declareOne_356 ⟨Nat.le_of_ble_eq_true rfl, Nat.le_of_ble_eq_true rfl⟩) (fun H locs hP hS => ?_)
        exact Jj_12  u_144.2 hF_145 _ _ hP hS ls (lv_sub hl [0, 1, 2] rfl)
      refine lv_icmp_lt (tgt := 348) hx hb dX12_declareOne_323 (by decide) (fun c_146 => ?_) (fun c_146 => ?_)
      · have hF_147 := ipos c_146 hF_140
        clear hF_140
        exact Jj_139  σ_134 hF_147 _ _ hP hS ls (lv_sub hl [0, 1, 2] rfl)
      · have hF_148 := ineg c_146 hF_140
        clear hF_140
        refine lv_aload_n hx hb dX12_declareOne_326 rfl (lv_at hl 0 rfl) ?_
        refine va_get (D := (dC, dI)) (ci := 12) (v := .ref (ad 20)) (C := RX12) (T := TX12) (N := 123) hx hb hts ii_X12 hown hK hP 0 rfl rfl 20 (by decide) (hts (.fieldLink RX12 58 "StoryHouseModel" "b" "[I") wq_1376) (fun _ h9 => h9) rfl dX12_declareOne_327 ?_
        refine lv_iload_n hx hb dX12_declareOne_330 rfl (lv_at hl 1 rfl) ?_
        obtain ⟨g_149, hF_150⟩ := nif_e hF_148
        clear hF_148
        refine va_iald (f := σ_134.2 20) hx hb hK hP 11 2 rfl rfl g_149 dX12_declareOne_331 ?_
        refine lv_sipush (v := 400) hx hb dX12_declareOne_332 (by decide +kernel) ?_
        refine lv_icmp_gt (tgt := 348) hx hb dX12_declareOne_335 (by decide) (fun c_151 => ?_) (fun c_151 => ?_)
        · have hF_152 := ipos c_151 hF_150
          clear hF_150
          exact Jj_139  σ_134 hF_152 _ _ hP hS ls (lv_sub hl [0, 1, 2] rfl)
        · have hF_153 := ineg c_151 hF_150
          clear hF_150
          refine lv_aload_n hx hb dX12_declareOne_338 rfl (lv_at hl 0 rfl) ?_
          refine va_get (D := (dC, dI)) (ci := 12) (v := .int (σ_134.1 39)) (C := RX12) (T := TX12) (N := 123) hx hb hts ii_X12 hown hK hP 0 rfl rfl 39 (by decide) (hts (.fieldLink RX12 482 "StoryHouseModel" "cells" "I") wq_1395) (fun _ h9 => h9) rfl dX12_declareOne_339 ?_
          refine lv_sipush (v := 1000) hx hb dX12_declareOne_342 (by decide +kernel) ?_
          refine lv_icmp_le (tgt := 359) hx hb dX12_declareOne_345 (by decide) (fun c_154 => ?_) (fun c_154 => ?_)
          · have hF_155 := ipos c_154 hF_153
            clear hF_153
            exact Jj_12  σ_134 hF_155 _ _ hP hS ls (lv_sub hl [0, 1, 2] rfl)
          · have hF_156 := ineg c_154 hF_153
            clear hF_153
            exact Jj_139  σ_134 hF_156 _ _ hP hS ls (lv_sub hl [0, 1, 2] rfl)
  refine lv_if_eq (tgt := 296) hx hb dX12_declareOne_11 (by decide) (fun c_158 => ?_) (fun c_158 => ?_)
  · have hF_159 := ipos c_158 hF_9
    clear hF_9
    exact Jj_8  u_5.2 hF_159 _ _ hP hS ls (lv_sub hl [1, 2, 0] rfl)
  · have hF_160 := ineg c_158 hF_9
    clear hF_9
    refine lv_aload_n hx hb dX12_declareOne_14 rfl (lv_at hl 1 rfl) ?_
    refine va_get (D := (dC, dI)) (ci := 12) (v := .ref (ad 19)) (C := RX12) (T := TX12) (N := 123) hx hb hts ii_X12 hown hK hP 0 rfl rfl 19 (by decide) (hts (.fieldLink RX12 55 "StoryHouseModel" "a" "[I") wq_1375) (fun _ h9 => h9) rfl dX12_declareOne_15 ?_
    refine lv_aload_n hx hb dX12_declareOne_18 rfl (lv_at hl 1 rfl) ?_
    refine va_get (D := (dC, dI)) (ci := 12) (v := .ref (ad 19)) (C := RX12) (T := TX12) (N := 123) hx hb hts ii_X12 hown hK hP 0 rfl rfl 19 (by decide) (hts (.fieldLink RX12 55 "StoryHouseModel" "a" "[I") wq_1375) (fun _ h9 => h9) rfl dX12_declareOne_19 ?_
    refine lv_iload_n hx hb dX12_declareOne_22 rfl (lv_at hl 2 rfl) ?_
    obtain ⟨g_161, hF_162⟩ := nif_e hF_160
    clear hF_160
    refine va_iald (f := u_5.2.2 19) hx hb hK hP 10 2 rfl rfl g_161 dX12_declareOne_23 ?_
    obtain ⟨x_163, ex_163, hF_164⟩ := bnd_e hF_162
    clear hF_162
    refine m_top ex_163 ?_
    obtain ⟨g_165, hF_166⟩ := nif_e hF_164
    clear hF_164
    refine va_iald (f := u_5.2.2 19) hx hb hK hP 10 2 rfl rfl g_165 dX12_declareOne_24 ?_
    obtain ⟨x_167, ex_167, hF_168⟩ := bnd_e hF_166
    clear hF_166
    refine m_top ex_167 ?_
    refine lv_istore_n (lv' := [(3, .int x_167), (2, .int x_3), (0, .ref h), (1, .int p0)]) hx hb dX12_declareOne_25 rfl hl (by decide) rfl (fun ls hl => ?_)
    refine lv_aload_n hx hb dX12_declareOne_26 rfl (lv_at hl 2 rfl) ?_
    refine va_get (D := (dC, dI)) (ci := 12) (v := .ref (ad 28)) (C := RX12) (T := TX12) (N := 123) hx hb hts ii_X12 hown hK hP 0 rfl rfl 28 (by decide) (hts (.fieldLink RX12 67 "StoryHouseModel" "nameKind" "[I") wq_1384) (fun _ h9 => h9) rfl dX12_declareOne_27 ?_
    refine lv_iload_n hx hb dX12_declareOne_30 rfl (lv_at hl 0 rfl) ?_
    obtain ⟨g_169, hF_170⟩ := nif_e hF_168
    clear hF_168
    refine va_iald (f := u_5.2.2 28) hx hb hK hP 14 2 rfl rfl g_169 dX12_declareOne_31 ?_
    obtain ⟨j_172, ej_172, hF_173⟩ := bnd_e hF_170
    clear hF_170
    have Jj_172 : ∀  (σ_171 : MS), j_172  σ_171 = some res → ∀ (H : Heap) (locs : List Loc), va_P (dC, dI) vwCl (mW cB cI cZ h qK qS ad σ_171) H → va_S (mCells h ad sz) s.heap H locs → ∀ ls : Array Slot, lv_has ls 6 [(0, .ref h), (1, .int p0), (2, .int x_3), (3, .int x_167)] → W p l e (headSpec (g_ws yX12_declareOne cX12_declareOne 6 none) { frames := 3, cells := 0, slots := 0, locals := 86 }).room s m ([.ref h, .int p0] : List Value).toArray below meth c H locs 0 0 (MQ below (va_Qv (fun (_ : Unit) => True) (fun _ t => va_P (dC, dI) vwCl (mW cB cI cZ h qK qS ad res.2) t.heap) (mCells h ad sz)) ([.ref h, .int p0] : List Value).toArray s 0 0 (mCells h ad sz)) (F0 m 51 ls []) := by
      intro  σ_171 hF0 H locs hP hS ls hl
      subst ej_172
      have hF_174 := hF0
      clear hF0
      refine lv_iload_n hx hb dX12_declareOne_51 rfl (lv_at hl 2 rfl) ?_
      refine lv_iconst (v := 2) hx hb dX12_declareOne_52 (by decide +kernel) ?_
      obtain ⟨j_177, ej_177, hF_178⟩ := bnd_e hF_174
      clear hF_174
      have Jj_177 : ∀ (t_175 : Int32) (σ_176 : MS), j_177 t_175 σ_176 = some res → ∀ (H : Heap) (locs : List Loc), va_P (dC, dI) vwCl (mW cB cI cZ h qK qS ad σ_176) H → va_S (mCells h ad sz) s.heap H locs → ∀ ls : Array Slot, lv_has ls 6 [(0, .ref h), (1, .int p0), (2, .int x_3), (3, .int x_167)] → W p l e (headSpec (g_ws yX12_declareOne cX12_declareOne 6 none) { frames := 3, cells := 0, slots := 0, locals := 86 }).room s m ([.ref h, .int p0] : List Value).toArray below meth c H locs 0 0 (MQ below (va_Qv (fun (_ : Unit) => True) (fun _ t => va_P (dC, dI) vwCl (mW cB cI cZ h qK qS ad res.2) t.heap) (mCells h ad sz)) ([.ref h, .int p0] : List Value).toArray s 0 0 (mCells h ad sz)) (F0 m 138 ls [.int t_175]) := by
        intro t_175 σ_176 hF0 H locs hP hS ls hl
        subst ej_177
        have hF_179 := hF0
        clear hF0
        refine lv_istore (lv' := [(4, .int t_175), (0, .ref h), (1, .int p0), (2, .int x_3), (3, .int x_167)]) hx hb dX12_declareOne_138 hl (by decide) rfl (fun ls hl => ?_)
        refine lv_iload_n hx hb dX12_declareOne_140 rfl (lv_at hl 3 rfl) ?_
        refine lv_iconst (v := 2) hx hb dX12_declareOne_141 (by decide +kernel) ?_
        obtain ⟨j_182, ej_182, hF_183⟩ := bnd_e hF_179
        clear hF_179
        have Jj_182 : ∀ (t_180 : Int32) (σ_181 : MS), j_182 t_180 σ_181 = some res → ∀ (H : Heap) (locs : List Loc), va_P (dC, dI) vwCl (mW cB cI cZ h qK qS ad σ_181) H → va_S (mCells h ad sz) s.heap H locs → ∀ ls : Array Slot, lv_has ls 6 [(0, .ref h), (1, .int p0), (2, .int x_3), (3, .int x_167), (4, .int t_175)] → W p l e (headSpec (g_ws yX12_declareOne cX12_declareOne 6 none) { frames := 3, cells := 0, slots := 0, locals := 86 }).room s m ([.ref h, .int p0] : List Value).toArray below meth c H locs 0 0 (MQ below (va_Qv (fun (_ : Unit) => True) (fun _ t => va_P (dC, dI) vwCl (mW cB cI cZ h qK qS ad res.2) t.heap) (mCells h ad sz)) ([.ref h, .int p0] : List Value).toArray s 0 0 (mCells h ad sz)) (F0 m 242 ls [.int t_180]) := by
          intro t_180 σ_181 hF0 H locs hP hS ls hl
          subst ej_182
          have hF_184 := hF0
          clear hF0
          refine lv_istore (lv' := [(5, .int t_180), (0, .ref h), (1, .int p0), (2, .int x_3), (3, .int x_167), (4, .int t_175)]) hx hb dX12_declareOne_242 hl (by decide) rfl (fun ls hl => ?_)
          refine lv_iload hx hb dX12_declareOne_244 (lv_at hl 0 rfl) ?_
          obtain ⟨j_186, ej_186, hF_187⟩ := bnd_e hF_184
          clear hF_184
          have Jj_186 : ∀  (σ_185 : MS), j_186  σ_185 = some res → ∀ (H : Heap) (locs : List Loc), va_P (dC, dI) vwCl (mW cB cI cZ h qK qS ad σ_185) H → va_S (mCells h ad sz) s.heap H locs → ∀ ls : Array Slot, lv_has ls 6 [(0, .ref h), (1, .int p0), (2, .int x_3), (3, .int x_167), (4, .int t_175)] → W p l e (headSpec (g_ws yX12_declareOne cX12_declareOne 6 none) { frames := 3, cells := 0, slots := 0, locals := 86 }).room s m ([.ref h, .int p0] : List Value).toArray below meth c H locs 0 0 (MQ below (va_Qv (fun (_ : Unit) => True) (fun _ t => va_P (dC, dI) vwCl (mW cB cI cZ h qK qS ad res.2) t.heap) (mCells h ad sz)) ([.ref h, .int p0] : List Value).toArray s 0 0 (mCells h ad sz)) (F0 m 265 ls []) := by
            intro  σ_185 hF0 H locs hP hS ls hl
            subst ej_186
            have hF_188 := hF0
            clear hF0
            refine lv_aload_n hx hb dX12_declareOne_265 rfl (lv_at hl 0 rfl) ?_
            refine va_get (D := (dC, dI)) (ci := 12) (v := .ref (ad 28)) (C := RX12) (T := TX12) (N := 123) hx hb hts ii_X12 hown hK hP 0 rfl rfl 28 (by decide) (hts (.fieldLink RX12 67 "StoryHouseModel" "nameKind" "[I") wq_1384) (fun _ h9 => h9) rfl dX12_declareOne_266 ?_
            refine lv_iload_n hx hb dX12_declareOne_269 rfl (lv_at hl 3 rfl) ?_
            obtain ⟨g_189, hF_190⟩ := nif_e hF_188
            clear hF_188
            refine va_iald (f := σ_185.2 28) hx hb hK hP 14 2 rfl rfl g_189 dX12_declareOne_270 ?_
            refine lv_if_ne (tgt := 296) hx hb dX12_declareOne_271 (by decide) (fun c_191 => ?_) (fun c_191 => ?_)
            · have hF_205 := ineg c_191 hF_190
              clear hF_190
              exact Jj_8  σ_185 hF_205 _ _ hP hS ls (lv_sub hl [0, 1, 2] rfl)
            · have hF_192 := ipos c_191 hF_190
              clear hF_190
              refine lv_aload_n hx hb dX12_declareOne_274 rfl (lv_at hl 0 rfl) ?_
              refine va_get (D := (dC, dI)) (ci := 12) (v := .ref (ad 28)) (C := RX12) (T := TX12) (N := 123) hx hb hts ii_X12 hown hK hP 0 rfl rfl 28 (by decide) (hts (.fieldLink RX12 67 "StoryHouseModel" "nameKind" "[I") wq_1384) (fun _ h9 => h9) rfl dX12_declareOne_275 ?_
              refine lv_iload_n hx hb dX12_declareOne_278 rfl (lv_at hl 3 rfl) ?_
              refine lv_iload_n hx hb dX12_declareOne_279 rfl (lv_at hl 2 rfl) ?_
              obtain ⟨g_193, hF_194⟩ := nif_e hF_192
              clear hF_192
              obtain ⟨σ_195, eσ_195, hF_196⟩ := bnd_e hF_194
              clear hF_194
              refine m_iast (σ' := σ_195) hx hb hK hP (hDD _ _) hS (q0 := 14) (t0 := 2) (f := σ_185.2 28) rfl rfl (by rw [eσ_195]; exact mwA_28) g_193 dX12_declareOne_280 (fun H locs hP hS => ?_)
              refine lv_aload_n hx hb dX12_declareOne_281 rfl (lv_at hl 0 rfl) ?_
              refine va_get (D := (dC, dI)) (ci := 12) (v := .ref (ad 29)) (C := RX12) (T := TX12) (N := 123) hx hb hts ii_X12 hown hK hP 0 rfl rfl 29 (by decide) (hts (.fieldLink RX12 70 "StoryHouseModel" "nameNumber" "[I") wq_1385) (fun _ h9 => h9) rfl dX12_declareOne_282 ?_
              refine lv_iload_n hx hb dX12_declareOne_285 rfl (lv_at hl 3 rfl) ?_
              refine lv_iload hx hb dX12_declareOne_286 (lv_at hl 4 rfl) ?_
              obtain ⟨g_197, hF_198⟩ := nif_e hF_196
              clear hF_196
              obtain ⟨σ_199, eσ_199, hF_200⟩ := bnd_e hF_198
              clear hF_198
              refine m_iast (σ' := σ_199) hx hb hK hP (hDD _ _) hS (q0 := 15) (t0 := 2) (f := σ_195.2 29) rfl rfl (by rw [eσ_199]; exact mwA_29) g_197 dX12_declareOne_288 (fun H locs hP hS => ?_)
              refine lv_aload_n hx hb dX12_declareOne_289 rfl (lv_at hl 0 rfl) ?_
              refine va_get (D := (dC, dI)) (ci := 12) (v := .ref (ad 30)) (C := RX12) (T := TX12) (N := 123) hx hb hts ii_X12 hown hK hP 0 rfl rfl 30 (by decide) (hts (.fieldLink RX12 73 "StoryHouseModel" "itemOf" "[I") wq_1386) (fun _ h9 => h9) rfl dX12_declareOne_290 ?_
              refine lv_iload_n hx hb dX12_declareOne_293 rfl (lv_at hl 3 rfl) ?_
              refine lv_iload_n hx hb dX12_declareOne_294 rfl (lv_at hl 1 rfl) ?_
              obtain ⟨g_201, hF_202⟩ := nif_e hF_200
              clear hF_200
              obtain ⟨σ_203, eσ_203, hF_204⟩ := bnd_e hF_202
              clear hF_202
              refine m_iast (σ' := σ_203) hx hb hK hP (hDD _ _) hS (q0 := 16) (t0 := 2) (f := σ_199.2 30) rfl rfl (by rw [eσ_203]; exact mwA_30) g_201 dX12_declareOne_295 (fun H locs hP hS => ?_)
              exact Jj_8  σ_203 hF_204 _ _ hP hS ls (lv_sub hl [0, 1, 2] rfl)
          refine lv_if_eq (tgt := 265) hx hb dX12_declareOne_246 (by decide) (fun c_206 => ?_) (fun c_206 => ?_)
          · have hF_207 := ipos c_206 hF_187
            clear hF_187
            exact Jj_186  σ_181 hF_207 _ _ hP hS ls (lv_sub hl [1, 2, 3, 4, 5] rfl)
          · have hF_208 := ineg c_206 hF_187
            clear hF_187
            refine lv_aload_n hx hb dX12_declareOne_249 rfl (lv_at hl 1 rfl) ?_
            refine lv_iconst (v := 5) hx hb dX12_declareOne_250 (by decide +kernel) ?_
            refine lv_aload_n hx hb dX12_declareOne_251 rfl (lv_at hl 1 rfl) ?_
            refine va_get (D := (dC, dI)) (ci := 12) (v := .ref (ad 18)) (C := RX12) (T := TX12) (N := 123) hx hb hts ii_X12 hown hK hP 0 rfl rfl 18 (by decide) (hts (.fieldLink RX12 52 "StoryHouseModel" "where" "[I") wq_1374) (fun _ h9 => h9) rfl dX12_declareOne_252 ?_
            refine lv_aload_n hx hb dX12_declareOne_255 rfl (lv_at hl 1 rfl) ?_
            refine va_get (D := (dC, dI)) (ci := 12) (v := .ref (ad 19)) (C := RX12) (T := TX12) (N := 123) hx hb hts ii_X12 hown hK hP 0 rfl rfl 19 (by decide) (hts (.fieldLink RX12 55 "StoryHouseModel" "a" "[I") wq_1375) (fun _ h9 => h9) rfl dX12_declareOne_256 ?_
            refine lv_iload_n hx hb dX12_declareOne_259 rfl (lv_at hl 2 rfl) ?_
            obtain ⟨g_209, hF_210⟩ := nif_e hF_208
            clear hF_208
            refine va_iald (f := σ_181.2 19) hx hb hK hP 10 2 rfl rfl g_209 dX12_declareOne_260 ?_
            obtain ⟨x_211, ex_211, hF_212⟩ := bnd_e hF_210
            clear hF_210
            refine m_top ex_211 ?_
            obtain ⟨g_213, hF_214⟩ := nif_e hF_212
            clear hF_212
            refine va_iald (f := σ_181.2 18) hx hb hK hP 9 2 rfl rfl g_213 dX12_declareOne_261 ?_
            obtain ⟨u_215, hu_215, hF_216⟩ := Option.bind_eq_some_iff.mp hF_214
            clear hF_214
            refine m_cv hsz hS (va_runV (As := [.int 5, .int (σ_181.2 18 x_211.toNatClampNeg)]) (rest := []) ⟨hx, hb, hml, hown, hts⟩ (m_X12_note l dC dI cB cC cI cJ cZ cP h qK qS ad hDD H.size  5 (σ_181.2 18 x_211.toNatClampNeg) σ_181 _ hu_215) (cwV 2 hts (g_gV wq_1660 wq_1661 wq_2165 wq_13 wq_1662) rfl rfl rfl (by decide +kernel) ⟨Nat.le_of_ble_eq_true rfl, Nat.le_of_ble_eq_true rfl⟩) (m_preV g_bl0 hsz hK hP hS hE hKS g_to0) rfl rfl hl.1 rfl (lv_room (Nat.le_of_ble_eq_true rfl)) dX12_declareOne_262 ⟨Nat.le_of_ble_eq_true rfl, Nat.le_of_ble_eq_true rfl⟩) (fun H locs hP hS => ?_)
            exact Jj_186  u_215.2 hF_216 _ _ hP hS ls (lv_sub hl [1, 2, 3, 4, 5] rfl)
        refine lv_icmp_gt (tgt := 162) hx hb dX12_declareOne_142 (by decide) (fun c_217 => ?_) (fun c_217 => ?_)
        · have hF_218 := ipos c_217 hF_183
          clear hF_183
          refine lv_iload_n hx hb dX12_declareOne_162 rfl (lv_at hl 3 rfl) ?_
          refine lv_iconst (v := 3) hx hb dX12_declareOne_163 (by decide +kernel) ?_
          refine lv_icmp_ne (tgt := 184) hx hb dX12_declareOne_164 (by decide) (fun c_219 => ?_) (fun c_219 => ?_)
          · have hF_224 := ineg c_219 hF_218
            clear hF_218
            refine lv_iload_n hx hb dX12_declareOne_184 rfl (lv_at hl 3 rfl) ?_
            refine lv_iconst (v := 4) hx hb dX12_declareOne_185 (by decide +kernel) ?_
            refine lv_icmp_ne (tgt := 206) hx hb dX12_declareOne_186 (by decide) (fun c_225 => ?_) (fun c_225 => ?_)
            · have hF_230 := ineg c_225 hF_224
              clear hF_224
              refine lv_iload_n hx hb dX12_declareOne_206 rfl (lv_at hl 3 rfl) ?_
              refine lv_iconst (v := 5) hx hb dX12_declareOne_207 (by decide +kernel) ?_
              refine lv_icmp_ne (tgt := 228) hx hb dX12_declareOne_208 (by decide) (fun c_231 => ?_) (fun c_231 => ?_)
              · have hF_236 := ineg c_231 hF_230
                clear hF_230
                refine lv_aload_n hx hb dX12_declareOne_228 rfl (lv_at hl 1 rfl) ?_
                refine va_get (D := (dC, dI)) (ci := 12) (v := .int (σ_176.1 40)) (C := RX12) (T := TX12) (N := 123) hx hb hts ii_X12 hown hK hP 0 rfl rfl 40 (by decide) (hts (.fieldLink RX12 485 "StoryHouseModel" "defs" "I") wq_1396) (fun _ h9 => h9) rfl dX12_declareOne_229 ?_
                refine lv_bipush (v := 100) hx hb dX12_declareOne_232 (by decide +kernel) ?_
                refine lv_icmp_le (tgt := 241) hx hb dX12_declareOne_234 (by decide) (fun c_237 => ?_) (fun c_237 => ?_)
                · have hF_238 := ipos c_237 hF_236
                  clear hF_236
                  refine lv_iconst (v := 0) hx hb dX12_declareOne_241 (by decide +kernel) ?_
                  exact Jj_182 0 σ_176 hF_238 _ _ hP hS ls (lv_sub hl [1, 2, 3, 4, 0] rfl)
                · have hF_239 := ineg c_237 hF_236
                  clear hF_236
                  refine lv_iconst (v := 1) hx hb dX12_declareOne_237 (by decide +kernel) ?_
                  refine lv_goto (tgt := 242) hx hb dX12_declareOne_238 (by decide) ?_
                  exact Jj_182 1 σ_176 hF_239 _ _ hP hS ls (lv_sub hl [1, 2, 3, 4, 0] rfl)
              · have hF_232 := ipos c_231 hF_230
                clear hF_230
                refine lv_aload_n hx hb dX12_declareOne_211 rfl (lv_at hl 1 rfl) ?_
                refine va_get (D := (dC, dI)) (ci := 12) (v := .int (σ_176.1 38)) (C := RX12) (T := TX12) (N := 123) hx hb hts ii_X12 hown hK hP 0 rfl rfl 38 (by decide) (hts (.fieldLink RX12 479 "StoryHouseModel" "arrays" "I") wq_1394) (fun _ h9 => h9) rfl dX12_declareOne_212 ?_
                refine lv_bipush (v := 20) hx hb dX12_declareOne_215 (by decide +kernel) ?_
                refine lv_icmp_le (tgt := 224) hx hb dX12_declareOne_217 (by decide) (fun c_233 => ?_) (fun c_233 => ?_)
                · have hF_234 := ipos c_233 hF_232
                  clear hF_232
                  refine lv_iconst (v := 0) hx hb dX12_declareOne_224 (by decide +kernel) ?_
                  refine lv_goto (tgt := 242) hx hb dX12_declareOne_225 (by decide) ?_
                  exact Jj_182 0 σ_176 hF_234 _ _ hP hS ls (lv_sub hl [1, 2, 3, 4, 0] rfl)
                · have hF_235 := ineg c_233 hF_232
                  clear hF_232
                  refine lv_iconst (v := 1) hx hb dX12_declareOne_220 (by decide +kernel) ?_
                  refine lv_goto (tgt := 242) hx hb dX12_declareOne_221 (by decide) ?_
                  exact Jj_182 1 σ_176 hF_235 _ _ hP hS ls (lv_sub hl [1, 2, 3, 4, 0] rfl)
            · have hF_226 := ipos c_225 hF_224
              clear hF_224
              refine lv_aload_n hx hb dX12_declareOne_189 rfl (lv_at hl 1 rfl) ?_
              refine va_get (D := (dC, dI)) (ci := 12) (v := .int (σ_176.1 37)) (C := RX12) (T := TX12) (N := 123) hx hb hts ii_X12 hown hK hP 0 rfl rfl 37 (by decide) (hts (.fieldLink RX12 476 "StoryHouseModel" "vars" "I") wq_1393) (fun _ h9 => h9) rfl dX12_declareOne_190 ?_
              refine lv_bipush (v := 100) hx hb dX12_declareOne_193 (by decide +kernel) ?_
              refine lv_icmp_le (tgt := 202) hx hb dX12_declareOne_195 (by decide) (fun c_227 => ?_) (fun c_227 => ?_)
              · have hF_228 := ipos c_227 hF_226
                clear hF_226
                refine lv_iconst (v := 0) hx hb dX12_declareOne_202 (by decide +kernel) ?_
                refine lv_goto (tgt := 242) hx hb dX12_declareOne_203 (by decide) ?_
                exact Jj_182 0 σ_176 hF_228 _ _ hP hS ls (lv_sub hl [1, 2, 3, 4, 0] rfl)
              · have hF_229 := ineg c_227 hF_226
                clear hF_226
                refine lv_iconst (v := 1) hx hb dX12_declareOne_198 (by decide +kernel) ?_
                refine lv_goto (tgt := 242) hx hb dX12_declareOne_199 (by decide) ?_
                exact Jj_182 1 σ_176 hF_229 _ _ hP hS ls (lv_sub hl [1, 2, 3, 4, 0] rfl)
          · have hF_220 := ipos c_219 hF_218
            clear hF_218
            refine lv_aload_n hx hb dX12_declareOne_167 rfl (lv_at hl 1 rfl) ?_
            refine va_get (D := (dC, dI)) (ci := 12) (v := .int (σ_176.1 36)) (C := RX12) (T := TX12) (N := 123) hx hb hts ii_X12 hown hK hP 0 rfl rfl 36 (by decide) (hts (.fieldLink RX12 473 "StoryHouseModel" "verbs" "I") wq_1392) (fun _ h9 => h9) rfl dX12_declareOne_168 ?_
            refine lv_bipush (v := 60) hx hb dX12_declareOne_171 (by decide +kernel) ?_
            refine lv_icmp_le (tgt := 180) hx hb dX12_declareOne_173 (by decide) (fun c_221 => ?_) (fun c_221 => ?_)
            · have hF_222 := ipos c_221 hF_220
              clear hF_220
              refine lv_iconst (v := 0) hx hb dX12_declareOne_180 (by decide +kernel) ?_
              refine lv_goto (tgt := 242) hx hb dX12_declareOne_181 (by decide) ?_
              exact Jj_182 0 σ_176 hF_222 _ _ hP hS ls (lv_sub hl [1, 2, 3, 4, 0] rfl)
            · have hF_223 := ineg c_221 hF_220
              clear hF_220
              refine lv_iconst (v := 1) hx hb dX12_declareOne_176 (by decide +kernel) ?_
              refine lv_goto (tgt := 242) hx hb dX12_declareOne_177 (by decide) ?_
              exact Jj_182 1 σ_176 hF_223 _ _ hP hS ls (lv_sub hl [1, 2, 3, 4, 0] rfl)
        · have hF_240 := ineg c_217 hF_183
          clear hF_183
          refine lv_aload_n hx hb dX12_declareOne_145 rfl (lv_at hl 1 rfl) ?_
          refine va_get (D := (dC, dI)) (ci := 12) (v := .int (σ_176.1 35)) (C := RX12) (T := TX12) (N := 123) hx hb hts ii_X12 hown hK hP 0 rfl rfl 35 (by decide) (hts (.fieldLink RX12 470 "StoryHouseModel" "objects" "I") wq_1391) (fun _ h9 => h9) rfl dX12_declareOne_146 ?_
          refine lv_bipush (v := 120) hx hb dX12_declareOne_149 (by decide +kernel) ?_
          refine lv_icmp_le (tgt := 158) hx hb dX12_declareOne_151 (by decide) (fun c_241 => ?_) (fun c_241 => ?_)
          · have hF_242 := ipos c_241 hF_240
            clear hF_240
            refine lv_iconst (v := 0) hx hb dX12_declareOne_158 (by decide +kernel) ?_
            refine lv_goto (tgt := 242) hx hb dX12_declareOne_159 (by decide) ?_
            exact Jj_182 0 σ_176 hF_242 _ _ hP hS ls (lv_sub hl [1, 2, 3, 4, 0] rfl)
          · have hF_243 := ineg c_241 hF_240
            clear hF_240
            refine lv_iconst (v := 1) hx hb dX12_declareOne_154 (by decide +kernel) ?_
            refine lv_goto (tgt := 242) hx hb dX12_declareOne_155 (by decide) ?_
            exact Jj_182 1 σ_176 hF_243 _ _ hP hS ls (lv_sub hl [1, 2, 3, 4, 0] rfl)
      refine lv_icmp_gt (tgt := 70) hx hb dX12_declareOne_53 (by decide) (fun c_244 => ?_) (fun c_244 => ?_)
      · have hF_245 := ipos c_244 hF_178
        clear hF_178
        refine lv_iload_n hx hb dX12_declareOne_70 rfl (lv_at hl 2 rfl) ?_
        refine lv_iconst (v := 3) hx hb dX12_declareOne_71 (by decide +kernel) ?_
        refine lv_icmp_ne (tgt := 89) hx hb dX12_declareOne_72 (by decide) (fun c_246 => ?_) (fun c_246 => ?_)
        · have hF_250 := ineg c_246 hF_245
          clear hF_245
          refine lv_iload_n hx hb dX12_declareOne_89 rfl (lv_at hl 2 rfl) ?_
          refine lv_iconst (v := 4) hx hb dX12_declareOne_90 (by decide +kernel) ?_
          refine lv_icmp_ne (tgt := 108) hx hb dX12_declareOne_91 (by decide) (fun c_251 => ?_) (fun c_251 => ?_)
          · have hF_255 := ineg c_251 hF_250
            clear hF_250
            refine lv_iload_n hx hb dX12_declareOne_108 rfl (lv_at hl 2 rfl) ?_
            refine lv_iconst (v := 5) hx hb dX12_declareOne_109 (by decide +kernel) ?_
            refine lv_icmp_ne (tgt := 127) hx hb dX12_declareOne_110 (by decide) (fun c_256 => ?_) (fun c_256 => ?_)
            · have hF_260 := ineg c_256 hF_255
              clear hF_255
              refine lv_aload_n hx hb dX12_declareOne_127 rfl (lv_at hl 0 rfl) ?_
              refine lv_dup hx hb dX12_declareOne_128 rfl ?_
              refine va_get (D := (dC, dI)) (ci := 12) (v := .int (σ_171.1 40)) (C := RX12) (T := TX12) (N := 123) hx hb hts ii_X12 hown hK hP 0 rfl rfl 40 (by decide) (hts (.fieldLink RX12 485 "StoryHouseModel" "defs" "I") wq_1396) (fun _ h9 => h9) rfl dX12_declareOne_129 ?_
              refine lv_dup_x1 hx hb dX12_declareOne_132 rfl rfl ?_
              refine lv_iconst (v := 1) hx hb dX12_declareOne_133 (by decide +kernel) ?_
              refine lv_iadd hx hb dX12_declareOne_134 ?_
              obtain ⟨σ_261, eσ_261, hF_262⟩ := bnd_e hF_260
              clear hF_260
              refine m_put (σ' := σ_261) (v := .int ((σ_171.1 40) + 1)) (ty := .int) hx hb hts hown hK hP (hDD _ _) hS (by rw [eσ_261]; exact mwI_40) (k := 40) (by decide) (hts (.fieldLink RX12 485 "StoryHouseModel" "defs" "I") wq_1396) (fun _ h9 => h9) rfl (by decide +kernel) rfl rfl dX12_declareOne_135 (fun H locs hP hS => ?_)
              exact Jj_177 (σ_171.1 40) σ_261 hF_262 _ _ hP hS ls (lv_sub hl [0, 1, 2, 3] rfl)
            · have hF_257 := ipos c_256 hF_255
              clear hF_255
              refine lv_aload_n hx hb dX12_declareOne_113 rfl (lv_at hl 0 rfl) ?_
              refine lv_dup hx hb dX12_declareOne_114 rfl ?_
              refine va_get (D := (dC, dI)) (ci := 12) (v := .int (σ_171.1 38)) (C := RX12) (T := TX12) (N := 123) hx hb hts ii_X12 hown hK hP 0 rfl rfl 38 (by decide) (hts (.fieldLink RX12 479 "StoryHouseModel" "arrays" "I") wq_1394) (fun _ h9 => h9) rfl dX12_declareOne_115 ?_
              refine lv_dup_x1 hx hb dX12_declareOne_118 rfl rfl ?_
              refine lv_iconst (v := 1) hx hb dX12_declareOne_119 (by decide +kernel) ?_
              refine lv_iadd hx hb dX12_declareOne_120 ?_
              obtain ⟨σ_258, eσ_258, hF_259⟩ := bnd_e hF_257
              clear hF_257
              refine m_put (σ' := σ_258) (v := .int ((σ_171.1 38) + 1)) (ty := .int) hx hb hts hown hK hP (hDD _ _) hS (by rw [eσ_258]; exact mwI_38) (k := 38) (by decide) (hts (.fieldLink RX12 479 "StoryHouseModel" "arrays" "I") wq_1394) (fun _ h9 => h9) rfl (by decide +kernel) rfl rfl dX12_declareOne_121 (fun H locs hP hS => ?_)
              refine lv_goto (tgt := 138) hx hb dX12_declareOne_124 (by decide) ?_
              exact Jj_177 (σ_171.1 38) σ_258 hF_259 _ _ hP hS ls (lv_sub hl [0, 1, 2, 3] rfl)
          · have hF_252 := ipos c_251 hF_250
            clear hF_250
            refine lv_aload_n hx hb dX12_declareOne_94 rfl (lv_at hl 0 rfl) ?_
            refine lv_dup hx hb dX12_declareOne_95 rfl ?_
            refine va_get (D := (dC, dI)) (ci := 12) (v := .int (σ_171.1 37)) (C := RX12) (T := TX12) (N := 123) hx hb hts ii_X12 hown hK hP 0 rfl rfl 37 (by decide) (hts (.fieldLink RX12 476 "StoryHouseModel" "vars" "I") wq_1393) (fun _ h9 => h9) rfl dX12_declareOne_96 ?_
            refine lv_dup_x1 hx hb dX12_declareOne_99 rfl rfl ?_
            refine lv_iconst (v := 1) hx hb dX12_declareOne_100 (by decide +kernel) ?_
            refine lv_iadd hx hb dX12_declareOne_101 ?_
            obtain ⟨σ_253, eσ_253, hF_254⟩ := bnd_e hF_252
            clear hF_252
            refine m_put (σ' := σ_253) (v := .int ((σ_171.1 37) + 1)) (ty := .int) hx hb hts hown hK hP (hDD _ _) hS (by rw [eσ_253]; exact mwI_37) (k := 37) (by decide) (hts (.fieldLink RX12 476 "StoryHouseModel" "vars" "I") wq_1393) (fun _ h9 => h9) rfl (by decide +kernel) rfl rfl dX12_declareOne_102 (fun H locs hP hS => ?_)
            refine lv_goto (tgt := 138) hx hb dX12_declareOne_105 (by decide) ?_
            exact Jj_177 (σ_171.1 37) σ_253 hF_254 _ _ hP hS ls (lv_sub hl [0, 1, 2, 3] rfl)
        · have hF_247 := ipos c_246 hF_245
          clear hF_245
          refine lv_aload_n hx hb dX12_declareOne_75 rfl (lv_at hl 0 rfl) ?_
          refine lv_dup hx hb dX12_declareOne_76 rfl ?_
          refine va_get (D := (dC, dI)) (ci := 12) (v := .int (σ_171.1 36)) (C := RX12) (T := TX12) (N := 123) hx hb hts ii_X12 hown hK hP 0 rfl rfl 36 (by decide) (hts (.fieldLink RX12 473 "StoryHouseModel" "verbs" "I") wq_1392) (fun _ h9 => h9) rfl dX12_declareOne_77 ?_
          refine lv_iconst (v := 1) hx hb dX12_declareOne_80 (by decide +kernel) ?_
          refine lv_iadd hx hb dX12_declareOne_81 ?_
          refine lv_dup_x1 hx hb dX12_declareOne_82 rfl rfl ?_
          obtain ⟨σ_248, eσ_248, hF_249⟩ := bnd_e hF_247
          clear hF_247
          refine m_put (σ' := σ_248) (v := .int ((σ_171.1 36) + 1)) (ty := .int) hx hb hts hown hK hP (hDD _ _) hS (by rw [eσ_248]; exact mwI_36) (k := 36) (by decide) (hts (.fieldLink RX12 473 "StoryHouseModel" "verbs" "I") wq_1392) (fun _ h9 => h9) rfl (by decide +kernel) rfl rfl dX12_declareOne_83 (fun H locs hP hS => ?_)
          refine lv_goto (tgt := 138) hx hb dX12_declareOne_86 (by decide) ?_
          exact Jj_177 ((σ_171.1 36) + 1) σ_248 hF_249 _ _ hP hS ls (lv_sub hl [0, 1, 2, 3] rfl)
      · have hF_263 := ineg c_244 hF_178
        clear hF_178
        refine lv_aload_n hx hb dX12_declareOne_56 rfl (lv_at hl 0 rfl) ?_
        refine lv_dup hx hb dX12_declareOne_57 rfl ?_
        refine va_get (D := (dC, dI)) (ci := 12) (v := .int (σ_171.1 35)) (C := RX12) (T := TX12) (N := 123) hx hb hts ii_X12 hown hK hP 0 rfl rfl 35 (by decide) (hts (.fieldLink RX12 470 "StoryHouseModel" "objects" "I") wq_1391) (fun _ h9 => h9) rfl dX12_declareOne_58 ?_
        refine lv_iconst (v := 1) hx hb dX12_declareOne_61 (by decide +kernel) ?_
        refine lv_iadd hx hb dX12_declareOne_62 ?_
        refine lv_dup_x1 hx hb dX12_declareOne_63 rfl rfl ?_
        obtain ⟨σ_264, eσ_264, hF_265⟩ := bnd_e hF_263
        clear hF_263
        refine m_put (σ' := σ_264) (v := .int ((σ_171.1 35) + 1)) (ty := .int) hx hb hts hown hK hP (hDD _ _) hS (by rw [eσ_264]; exact mwI_35) (k := 35) (by decide) (hts (.fieldLink RX12 470 "StoryHouseModel" "objects" "I") wq_1391) (fun _ h9 => h9) rfl (by decide +kernel) rfl rfl dX12_declareOne_64 (fun H locs hP hS => ?_)
        refine lv_goto (tgt := 138) hx hb dX12_declareOne_67 (by decide) ?_
        exact Jj_177 ((σ_171.1 35) + 1) σ_264 hF_265 _ _ hP hS ls (lv_sub hl [0, 1, 2, 3] rfl)
    refine lv_if_eq (tgt := 51) hx hb dX12_declareOne_32 (by decide) (fun c_266 => ?_) (fun c_266 => ?_)
    · have hF_267 := ipos c_266 hF_173
      clear hF_173
      exact Jj_172  u_5.2 hF_267 _ _ hP hS ls (lv_sub hl [2, 3, 1, 0] rfl)
    · have hF_268 := ineg c_266 hF_173
      clear hF_173
      refine lv_aload_n hx hb dX12_declareOne_35 rfl (lv_at hl 2 rfl) ?_
      refine lv_iconst (v := 4) hx hb dX12_declareOne_36 (by decide +kernel) ?_
      refine lv_aload_n hx hb dX12_declareOne_37 rfl (lv_at hl 2 rfl) ?_
      refine va_get (D := (dC, dI)) (ci := 12) (v := .ref (ad 18)) (C := RX12) (T := TX12) (N := 123) hx hb hts ii_X12 hown hK hP 0 rfl rfl 18 (by decide) (hts (.fieldLink RX12 52 "StoryHouseModel" "where" "[I") wq_1374) (fun _ h9 => h9) rfl dX12_declareOne_38 ?_
      refine lv_aload_n hx hb dX12_declareOne_41 rfl (lv_at hl 2 rfl) ?_
      refine va_get (D := (dC, dI)) (ci := 12) (v := .ref (ad 19)) (C := RX12) (T := TX12) (N := 123) hx hb hts ii_X12 hown hK hP 0 rfl rfl 19 (by decide) (hts (.fieldLink RX12 55 "StoryHouseModel" "a" "[I") wq_1375) (fun _ h9 => h9) rfl dX12_declareOne_42 ?_
      refine lv_iload_n hx hb dX12_declareOne_45 rfl (lv_at hl 3 rfl) ?_
      obtain ⟨g_269, hF_270⟩ := nif_e hF_268
      clear hF_268
      refine va_iald (f := u_5.2.2 19) hx hb hK hP 10 2 rfl rfl g_269 dX12_declareOne_46 ?_
      obtain ⟨x_271, ex_271, hF_272⟩ := bnd_e hF_270
      clear hF_270
      refine m_top ex_271 ?_
      obtain ⟨g_273, hF_274⟩ := nif_e hF_272
      clear hF_272
      refine va_iald (f := u_5.2.2 18) hx hb hK hP 9 2 rfl rfl g_273 dX12_declareOne_47 ?_
      obtain ⟨u_275, hu_275, hF_276⟩ := Option.bind_eq_some_iff.mp hF_274
      clear hF_274
      refine m_cv hsz hS (va_runV (As := [.int 4, .int (u_5.2.2 18 x_271.toNatClampNeg)]) (rest := []) ⟨hx, hb, hml, hown, hts⟩ (m_X12_note l dC dI cB cC cI cJ cZ cP h qK qS ad hDD H.size  4 (u_5.2.2 18 x_271.toNatClampNeg) u_5.2 _ hu_275) (cwV 2 hts (g_gV wq_1660 wq_1661 wq_2165 wq_13 wq_1662) rfl rfl rfl (by decide +kernel) ⟨Nat.le_of_ble_eq_true rfl, Nat.le_of_ble_eq_true rfl⟩) (m_preV g_bl0 hsz hK hP hS hE hKS g_to0) rfl rfl hl.1 rfl (lv_room (Nat.le_of_ble_eq_true rfl)) dX12_declareOne_48 ⟨Nat.le_of_ble_eq_true rfl, Nat.le_of_ble_eq_true rfl⟩) (fun H locs hP hS => ?_)
      exact Jj_172  u_275.2 hF_276 _ _ hP hS ls (lv_sub hl [2, 3, 1, 0] rfl)
theorem dX12_declare_0 : decode cX12_declare 0 = .ok (.iconst 0, 1) := by decide +kernel
theorem dX12_declare_1 : decode cX12_declare 1 = .ok (.istore_n 1, 1) := by decide +kernel
theorem dX12_declare_2 : decode cX12_declare 2 = .ok (.iload_n 1, 1) := by decide +kernel
theorem dX12_declare_3 : decode cX12_declare 3 = .ok (.aload_n 0, 1) := by decide +kernel
theorem dX12_declare_4 : decode cX12_declare 4 = .ok (.getfield 246, 3) := by decide +kernel
theorem dX12_declare_7 : decode cX12_declare 7 = .ok (.if_icmp .ge 16, 3) := by decide +kernel
theorem dX12_declare_10 : decode cX12_declare 10 = .ok (.aload_n 0, 1) := by decide +kernel
theorem dX12_declare_11 : decode cX12_declare 11 = .ok (.getfield 67, 3) := by decide +kernel
theorem dX12_declare_14 : decode cX12_declare 14 = .ok (.iload_n 1, 1) := by decide +kernel
theorem dX12_declare_15 : decode cX12_declare 15 = .ok (.iconst 0, 1) := by decide +kernel
theorem dX12_declare_16 : decode cX12_declare 16 = .ok (.iastore, 1) := by decide +kernel
theorem dX12_declare_17 : decode cX12_declare 17 = .ok (.iinc 1 1, 3) := by decide +kernel
theorem dX12_declare_20 : decode cX12_declare 20 = .ok (.goto (-18), 3) := by decide +kernel
theorem dX12_declare_23 : decode cX12_declare 23 = .ok (.aload_n 0, 1) := by decide +kernel
theorem dX12_declare_24 : decode cX12_declare 24 = .ok (.ldc_w 446, 3) := by decide +kernel
theorem dX12_declare_27 : decode cX12_declare 27 = .ok (.iconst 1, 1) := by decide +kernel
theorem dX12_declare_28 : decode cX12_declare 28 = .ok (.invokevirtual 448, 3) := by decide +kernel
theorem dX12_declare_31 : decode cX12_declare 31 = .ok (.aload_n 0, 1) := by decide +kernel
theorem dX12_declare_32 : decode cX12_declare 32 = .ok (.ldc_w 452, 3) := by decide +kernel
theorem dX12_declare_35 : decode cX12_declare 35 = .ok (.iconst 2, 1) := by decide +kernel
theorem dX12_declare_36 : decode cX12_declare 36 = .ok (.invokevirtual 448, 3) := by decide +kernel
theorem dX12_declare_39 : decode cX12_declare 39 = .ok (.aload_n 0, 1) := by decide +kernel
theorem dX12_declare_40 : decode cX12_declare 40 = .ok (.ldc_w 454, 3) := by decide +kernel
theorem dX12_declare_43 : decode cX12_declare 43 = .ok (.iconst 3, 1) := by decide +kernel
theorem dX12_declare_44 : decode cX12_declare 44 = .ok (.invokevirtual 448, 3) := by decide +kernel
theorem dX12_declare_47 : decode cX12_declare 47 = .ok (.aload_n 0, 1) := by decide +kernel
theorem dX12_declare_48 : decode cX12_declare 48 = .ok (.ldc_w 456, 3) := by decide +kernel
theorem dX12_declare_51 : decode cX12_declare 51 = .ok (.iconst 4, 1) := by decide +kernel
theorem dX12_declare_52 : decode cX12_declare 52 = .ok (.invokevirtual 448, 3) := by decide +kernel
theorem dX12_declare_55 : decode cX12_declare 55 = .ok (.aload_n 0, 1) := by decide +kernel
theorem dX12_declare_56 : decode cX12_declare 56 = .ok (.ldc_w 458, 3) := by decide +kernel
theorem dX12_declare_59 : decode cX12_declare 59 = .ok (.iconst 5, 1) := by decide +kernel
theorem dX12_declare_60 : decode cX12_declare 60 = .ok (.invokevirtual 448, 3) := by decide +kernel
theorem dX12_declare_63 : decode cX12_declare 63 = .ok (.aload_n 0, 1) := by decide +kernel
theorem dX12_declare_64 : decode cX12_declare 64 = .ok (.ldc_w 460, 3) := by decide +kernel
theorem dX12_declare_67 : decode cX12_declare 67 = .ok (.bipush 6, 2) := by decide +kernel
theorem dX12_declare_69 : decode cX12_declare 69 = .ok (.invokevirtual 448, 3) := by decide +kernel
theorem dX12_declare_72 : decode cX12_declare 72 = .ok (.aload_n 0, 1) := by decide +kernel
theorem dX12_declare_73 : decode cX12_declare 73 = .ok (.ldc_w 462, 3) := by decide +kernel
theorem dX12_declare_76 : decode cX12_declare 76 = .ok (.bipush 8, 2) := by decide +kernel
theorem dX12_declare_78 : decode cX12_declare 78 = .ok (.invokevirtual 448, 3) := by decide +kernel
theorem dX12_declare_81 : decode cX12_declare 81 = .ok (.aload_n 0, 1) := by decide +kernel
theorem dX12_declare_82 : decode cX12_declare 82 = .ok (.ldc_w 464, 3) := by decide +kernel
theorem dX12_declare_85 : decode cX12_declare 85 = .ok (.bipush 9, 2) := by decide +kernel
theorem dX12_declare_87 : decode cX12_declare 87 = .ok (.invokevirtual 448, 3) := by decide +kernel
theorem dX12_declare_90 : decode cX12_declare 90 = .ok (.aload_n 0, 1) := by decide +kernel
theorem dX12_declare_91 : decode cX12_declare 91 = .ok (.ldc_w 466, 3) := by decide +kernel
theorem dX12_declare_94 : decode cX12_declare 94 = .ok (.bipush 10, 2) := by decide +kernel
theorem dX12_declare_96 : decode cX12_declare 96 = .ok (.invokevirtual 448, 3) := by decide +kernel
theorem dX12_declare_99 : decode cX12_declare 99 = .ok (.aload_n 0, 1) := by decide +kernel
theorem dX12_declare_100 : decode cX12_declare 100 = .ok (.ldc_w 468, 3) := by decide +kernel
theorem dX12_declare_103 : decode cX12_declare 103 = .ok (.bipush 11, 2) := by decide +kernel
theorem dX12_declare_105 : decode cX12_declare 105 = .ok (.invokevirtual 448, 3) := by decide +kernel
theorem dX12_declare_108 : decode cX12_declare 108 = .ok (.aload_n 0, 1) := by decide +kernel
theorem dX12_declare_109 : decode cX12_declare 109 = .ok (.iconst 1, 1) := by decide +kernel
theorem dX12_declare_110 : decode cX12_declare 110 = .ok (.putfield 470, 3) := by decide +kernel
theorem dX12_declare_113 : decode cX12_declare 113 = .ok (.aload_n 0, 1) := by decide +kernel
theorem dX12_declare_114 : decode cX12_declare 114 = .ok (.bipush 11, 2) := by decide +kernel
theorem dX12_declare_116 : decode cX12_declare 116 = .ok (.putfield 473, 3) := by decide +kernel
theorem dX12_declare_119 : decode cX12_declare 119 = .ok (.aload_n 0, 1) := by decide +kernel
theorem dX12_declare_120 : decode cX12_declare 120 = .ok (.iconst 0, 1) := by decide +kernel
theorem dX12_declare_121 : decode cX12_declare 121 = .ok (.putfield 476, 3) := by decide +kernel
theorem dX12_declare_124 : decode cX12_declare 124 = .ok (.aload_n 0, 1) := by decide +kernel
theorem dX12_declare_125 : decode cX12_declare 125 = .ok (.iconst 0, 1) := by decide +kernel
theorem dX12_declare_126 : decode cX12_declare 126 = .ok (.putfield 479, 3) := by decide +kernel
theorem dX12_declare_129 : decode cX12_declare 129 = .ok (.aload_n 0, 1) := by decide +kernel
theorem dX12_declare_130 : decode cX12_declare 130 = .ok (.iconst 0, 1) := by decide +kernel
theorem dX12_declare_131 : decode cX12_declare 131 = .ok (.putfield 482, 3) := by decide +kernel
theorem dX12_declare_134 : decode cX12_declare 134 = .ok (.aload_n 0, 1) := by decide +kernel
theorem dX12_declare_135 : decode cX12_declare 135 = .ok (.iconst 0, 1) := by decide +kernel
theorem dX12_declare_136 : decode cX12_declare 136 = .ok (.putfield 485, 3) := by decide +kernel
theorem dX12_declare_139 : decode cX12_declare 139 = .ok (.aload_n 0, 1) := by decide +kernel
theorem dX12_declare_140 : decode cX12_declare 140 = .ok (.iconst 0, 1) := by decide +kernel
theorem dX12_declare_141 : decode cX12_declare 141 = .ok (.putfield 488, 3) := by decide +kernel
theorem dX12_declare_144 : decode cX12_declare 144 = .ok (.aload_n 0, 1) := by decide +kernel
theorem dX12_declare_145 : decode cX12_declare 145 = .ok (.iconst 0, 1) := by decide +kernel
theorem dX12_declare_146 : decode cX12_declare 146 = .ok (.putfield 491, 3) := by decide +kernel
theorem dX12_declare_149 : decode cX12_declare 149 = .ok (.aload_n 0, 1) := by decide +kernel
theorem dX12_declare_150 : decode cX12_declare 150 = .ok (.getfield 352, 3) := by decide +kernel
theorem dX12_declare_153 : decode cX12_declare 153 = .ok (.istore_n 1, 1) := by decide +kernel
theorem dX12_declare_154 : decode cX12_declare 154 = .ok (.iload_n 1, 1) := by decide +kernel
theorem dX12_declare_155 : decode cX12_declare 155 = .ok (.ifCond .lt 18, 3) := by decide +kernel
theorem dX12_declare_158 : decode cX12_declare 158 = .ok (.aload_n 0, 1) := by decide +kernel
theorem dX12_declare_159 : decode cX12_declare 159 = .ok (.iload_n 1, 1) := by decide +kernel
theorem dX12_declare_160 : decode cX12_declare 160 = .ok (.invokevirtual 494, 3) := by decide +kernel
theorem dX12_declare_163 : decode cX12_declare 163 = .ok (.aload_n 0, 1) := by decide +kernel
theorem dX12_declare_164 : decode cX12_declare 164 = .ok (.getfield 64, 3) := by decide +kernel
theorem dX12_declare_167 : decode cX12_declare 167 = .ok (.iload_n 1, 1) := by decide +kernel
theorem dX12_declare_168 : decode cX12_declare 168 = .ok (.iaload, 1) := by decide +kernel
theorem dX12_declare_169 : decode cX12_declare 169 = .ok (.istore_n 1, 1) := by decide +kernel
theorem dX12_declare_170 : decode cX12_declare 170 = .ok (.goto (-16), 3) := by decide +kernel
theorem dX12_declare_173 : decode cX12_declare 173 = .ok (.return_, 1) := by decide +kernel
def F_X12_declare  (σ : MS) : MR :=
  loopF (fun (again_2 : (Int32 × MS) → MR) (s_1 : Int32 × MS) => (
    if (s_1.2.1 13) ≤ s_1.1 then (
      (F_X12_own ([108, 111, 111, 107] : List Int32) 1 s_1.2).bind fun u_8 =>
      (F_X12_own ([105, 110, 118, 101, 110, 116, 111, 114, 121] : List Int32) 2 u_8.2).bind fun u_11 =>
      (F_X12_own ([119, 97, 105, 116] : List Int32) 3 u_11.2).bind fun u_14 =>
      (F_X12_own ([116, 97, 107, 101] : List Int32) 4 u_14.2).bind fun u_17 =>
      (F_X12_own ([100, 114, 111, 112] : List Int32) 5 u_17.2).bind fun u_20 =>
      (F_X12_own ([101, 120, 97, 109, 105, 110, 101] : List Int32) 6 u_20.2).bind fun u_23 =>
      (F_X12_own ([99, 108, 111, 115, 101] : List Int32) 8 u_23.2).bind fun u_26 =>
      (F_X12_own ([112, 117, 116, 105, 110] : List Int32) 9 u_26.2).bind fun u_29 =>
      (F_X12_own ([112, 117, 116, 111, 110] : List Int32) 10 u_29.2).bind fun u_32 =>
      (F_X12_own ([103, 111] : List Int32) 11 u_32.2).bind fun u_35 =>
      bnd (mI u_35.2 35 1) fun σ_37 =>
      bnd (mI σ_37 36 11) fun σ_39 =>
      bnd (mI σ_39 37 0) fun σ_41 =>
      bnd (mI σ_41 38 0) fun σ_43 =>
      bnd (mI σ_43 39 0) fun σ_45 =>
      bnd (mI σ_45 40 0) fun σ_47 =>
      bnd (mI σ_47 41 0) fun σ_49 =>
      bnd (mI σ_49 42 0) fun σ_51 =>
      bnd ((σ_51.1 24)) fun (x_53 : Int32) =>
      loopF (fun (again_56 : (Int32 × MS) → MR) (s_55 : Int32 × MS) => (
        if s_55.1 < 0 then (
          some (0, s_55.2)
        ) else (
          (F_X12_declareOne s_55.1 s_55.2).bind fun u_62 =>
          if s_55.1 < 0 ∨ 40000 ≤ s_55.1.toNatClampNeg then none else
          bnd ((u_62.2.2 22 s_55.1.toNatClampNeg)) fun (x_66 : Int32) =>
          again_56 (x_66, u_62.2)
        )
      )) FU (x_53, σ_51)
    ) else (
      if s_1.1 < 0 ∨ 8000 ≤ s_1.1.toNatClampNeg then none else
      bnd (mA s_1.2 28 (upd (s_1.2.2 28) s_1.1.toNatClampNeg 0)) fun σ_71 =>
      bnd (s_1.1 + 1) fun (x_73 : Int32) =>
      again_2 (x_73, σ_71)
    )
  )) FU (0, σ)
set_option maxHeartbeats 4000000 in
set_option maxRecDepth 100000 in
theorem m_X12_declare (l : Launch) (dC : Nat → ClassId) (dI : Nat → Nat → Nat) (cB cC cI cJ cZ cP : ClassId) (h qK qS : Nat) (ad : Nat → Nat) (hDD : mDis cB cI cZ h qK qS ad) (sz : Nat)   (σ : MS) (res : Int32 × MS) (hF : F_X12_declare  σ = some res) : Met l yX12_declare (g_ws yX12_declare cX12_declare 2 none) ({ frames := 7, cells := 0, slots := 0, locals := 172 }) (va_Pc [.ref h] (m_B (dC, dI) [(cB, .byte), (cC, .char), (cI, .int), (cJ, .long), (cZ, .boolean), (cP, .object "StoryHouse$Play")] sz h ad qK qS (mW cB cI cZ h qK qS ad σ) g_0)) (va_Qv (fun (_ : Unit) => True) (fun _ t => va_P (dC, dI) vwCl (mW cB cI cZ h qK qS ad res.2) t.heap) (mCells h ad sz)) 0 0 (mCells h ad sz) := by
  refine Met.ofW (cc := cX12_declare) (maxL := 2) (ret := none) (by decide) rfl ?_
  intro p e s m args below meth c s₁ B hml hv
  obtain ⟨rfl, hsz, hP, hK, hE, hKS, hX⟩ := hv
  have hx := B.exec
  have hb := B.bytes
  have hr := B.returns
  have hts0 := atoms_spec (ws := g_ws yX12_declare cX12_declare 2 none) B.pre
  have hts : ∀ w ∈ lw_good, w.before ([.ref h] : List Value).toArray s = true := fun w z => hts0 w (List.mem_cons_of_mem _ z)
  have hown : s.vm.findClass RX12 = some m.cls := findClass_of_methodNamed B.named
  have hlocks := B.notSynchronized
  have hS : va_S (mCells h ad sz) s.heap s.heap [] := va_S.rf
  have hl := lv_entry ([.ref h]) (n := 2) (Nat.le_of_ble_eq_true rfl)
  rw [lg_entry_eq]
  generalize (lg_sl ([.ref h]) ++ List.replicate (2 - (lg_sl ([.ref h])).length) Slot.unset).toArray = ls at hl ⊢
  have hl : lv_has ls 2 [(0, .ref h)] := hl
  unfold F_X12_declare at hF
  refine lv_iconst (v := 0) hx hb dX12_declare_0 (by decide +kernel) ?_
  refine lv_istore_n (lv' := [(1, .int 0), (0, .ref h)]) hx hb dX12_declare_1 rfl hl (by decide) rfl (fun ls hl => ?_)
  refine loopF_ind (P := fun (s_1 : Int32 × MS) => ∀ (H : Heap) (locs : List Loc), va_P (dC, dI) vwCl (mW cB cI cZ h qK qS ad s_1.2) H → va_S (mCells h ad sz) s.heap H locs → ∀ ls : Array Slot, lv_has ls 2 [(0, .ref h), (1, .int s_1.1)] → W p l e (headSpec (g_ws yX12_declare cX12_declare 2 none) { frames := 7, cells := 0, slots := 0, locals := 172 }).room s m ([.ref h] : List Value).toArray below meth c H locs 0 0 (MQ below (va_Qv (fun (_ : Unit) => True) (fun _ t => va_P (dC, dI) vwCl (mW cB cI cZ h qK qS ad res.2) t.heap) (mCells h ad sz)) ([.ref h] : List Value).toArray s 0 0 (mCells h ad sz)) (F0 m 2 ls [])) ?_ _ _ hF _ _ hP hS ls (lv_sub hl [1, 0] rfl)
  intro again_2 s_1 ih_3 hF_4
  intro H locs hP hS ls hl
  refine lv_iload_n hx hb dX12_declare_2 rfl (lv_at hl 1 rfl) ?_
  refine lv_aload_n hx hb dX12_declare_3 rfl (lv_at hl 0 rfl) ?_
  refine va_get (D := (dC, dI)) (ci := 12) (v := .int (s_1.2.1 13)) (C := RX12) (T := TX12) (N := 123) hx hb hts ii_X12 hown hK hP 0 rfl rfl 13 (by decide) (hts (.fieldLink RX12 246 "StoryHouseModel" "names" "I") wq_1369) (fun _ h9 => h9) rfl dX12_declare_4 ?_
  refine lv_icmp_ge (tgt := 23) hx hb dX12_declare_7 (by decide) (fun c_5 => ?_) (fun c_5 => ?_)
  · have hF_6 := ipos c_5 hF_4
    clear hF_4
    refine lv_aload_n hx hb dX12_declare_23 rfl (lv_at hl 0 rfl) ?_
    obtain ⟨q_7, vq_7, hRq_7, hSq_7⟩ := hE.2.2.2.2 _ (List.mem_of_getElem? (i := 80) rfl)
    refine g_ldcwS (own := RX12) (tx := "look") hx hb hown hRq_7 dX12_declare_24 ?_
    refine lv_iconst (v := 1) hx hb dX12_declare_27 (by decide +kernel) ?_
    obtain ⟨u_8, hu_8, hF_9⟩ := Option.bind_eq_some_iff.mp hF_6
    clear hF_6
    refine m_cv hsz hS (va_runV (As := [.ref q_7, .int 1]) (rest := []) ⟨hx, hb, hml, hown, hts⟩ (m_X12_own l dC dI cB cC cI cJ cZ cP h qK qS ad hDD H.size q_7 _ ([108, 111, 111, 107] : List Int32) 1 s_1.2 _ hu_8) (cwV 2 hts (g_gV wq_1648 wq_1649 wq_2162 wq_13 wq_1650) rfl rfl rfl (by decide +kernel) ⟨Nat.le_of_ble_eq_true rfl, Nat.le_of_ble_eq_true rfl⟩) (m_preV g_blS hsz hK hP hS hE hKS (g_toS hSq_7 hS (m_narrow hS hsz))) rfl rfl hl.1 rfl (lv_room (Nat.le_of_ble_eq_true rfl)) dX12_declare_28 ⟨Nat.le_of_ble_eq_true rfl, Nat.le_of_ble_eq_true rfl⟩) (fun H locs hP hS => ?_)
    refine lv_aload_n hx hb dX12_declare_31 rfl (lv_at hl 0 rfl) ?_
    obtain ⟨q_10, vq_10, hRq_10, hSq_10⟩ := hE.2.2.2.2 _ (List.mem_of_getElem? (i := 81) rfl)
    refine g_ldcwS (own := RX12) (tx := "inventory") hx hb hown hRq_10 dX12_declare_32 ?_
    refine lv_iconst (v := 2) hx hb dX12_declare_35 (by decide +kernel) ?_
    obtain ⟨u_11, hu_11, hF_12⟩ := Option.bind_eq_some_iff.mp hF_9
    clear hF_9
    refine m_cv hsz hS (va_runV (As := [.ref q_10, .int 2]) (rest := []) ⟨hx, hb, hml, hown, hts⟩ (m_X12_own l dC dI cB cC cI cJ cZ cP h qK qS ad hDD H.size q_10 _ ([105, 110, 118, 101, 110, 116, 111, 114, 121] : List Int32) 2 u_8.2 _ hu_11) (cwV 2 hts (g_gV wq_1648 wq_1649 wq_2162 wq_13 wq_1650) rfl rfl rfl (by decide +kernel) ⟨Nat.le_of_ble_eq_true rfl, Nat.le_of_ble_eq_true rfl⟩) (m_preV g_blS hsz hK hP hS hE hKS (g_toS hSq_10 hS (m_narrow hS hsz))) rfl rfl hl.1 rfl (lv_room (Nat.le_of_ble_eq_true rfl)) dX12_declare_36 ⟨Nat.le_of_ble_eq_true rfl, Nat.le_of_ble_eq_true rfl⟩) (fun H locs hP hS => ?_)
    refine lv_aload_n hx hb dX12_declare_39 rfl (lv_at hl 0 rfl) ?_
    obtain ⟨q_13, vq_13, hRq_13, hSq_13⟩ := hE.2.2.2.2 _ (List.mem_of_getElem? (i := 82) rfl)
    refine g_ldcwS (own := RX12) (tx := "wait") hx hb hown hRq_13 dX12_declare_40 ?_
    refine lv_iconst (v := 3) hx hb dX12_declare_43 (by decide +kernel) ?_
    obtain ⟨u_14, hu_14, hF_15⟩ := Option.bind_eq_some_iff.mp hF_12
    clear hF_12
    refine m_cv hsz hS (va_runV (As := [.ref q_13, .int 3]) (rest := []) ⟨hx, hb, hml, hown, hts⟩ (m_X12_own l dC dI cB cC cI cJ cZ cP h qK qS ad hDD H.size q_13 _ ([119, 97, 105, 116] : List Int32) 3 u_11.2 _ hu_14) (cwV 2 hts (g_gV wq_1648 wq_1649 wq_2162 wq_13 wq_1650) rfl rfl rfl (by decide +kernel) ⟨Nat.le_of_ble_eq_true rfl, Nat.le_of_ble_eq_true rfl⟩) (m_preV g_blS hsz hK hP hS hE hKS (g_toS hSq_13 hS (m_narrow hS hsz))) rfl rfl hl.1 rfl (lv_room (Nat.le_of_ble_eq_true rfl)) dX12_declare_44 ⟨Nat.le_of_ble_eq_true rfl, Nat.le_of_ble_eq_true rfl⟩) (fun H locs hP hS => ?_)
    refine lv_aload_n hx hb dX12_declare_47 rfl (lv_at hl 0 rfl) ?_
    obtain ⟨q_16, vq_16, hRq_16, hSq_16⟩ := hE.2.2.2.2 _ (List.mem_of_getElem? (i := 83) rfl)
    refine g_ldcwS (own := RX12) (tx := "take") hx hb hown hRq_16 dX12_declare_48 ?_
    refine lv_iconst (v := 4) hx hb dX12_declare_51 (by decide +kernel) ?_
    obtain ⟨u_17, hu_17, hF_18⟩ := Option.bind_eq_some_iff.mp hF_15
    clear hF_15
    refine m_cv hsz hS (va_runV (As := [.ref q_16, .int 4]) (rest := []) ⟨hx, hb, hml, hown, hts⟩ (m_X12_own l dC dI cB cC cI cJ cZ cP h qK qS ad hDD H.size q_16 _ ([116, 97, 107, 101] : List Int32) 4 u_14.2 _ hu_17) (cwV 2 hts (g_gV wq_1648 wq_1649 wq_2162 wq_13 wq_1650) rfl rfl rfl (by decide +kernel) ⟨Nat.le_of_ble_eq_true rfl, Nat.le_of_ble_eq_true rfl⟩) (m_preV g_blS hsz hK hP hS hE hKS (g_toS hSq_16 hS (m_narrow hS hsz))) rfl rfl hl.1 rfl (lv_room (Nat.le_of_ble_eq_true rfl)) dX12_declare_52 ⟨Nat.le_of_ble_eq_true rfl, Nat.le_of_ble_eq_true rfl⟩) (fun H locs hP hS => ?_)
    refine lv_aload_n hx hb dX12_declare_55 rfl (lv_at hl 0 rfl) ?_
    obtain ⟨q_19, vq_19, hRq_19, hSq_19⟩ := hE.2.2.2.2 _ (List.mem_of_getElem? (i := 84) rfl)
    refine g_ldcwS (own := RX12) (tx := "drop") hx hb hown hRq_19 dX12_declare_56 ?_
    refine lv_iconst (v := 5) hx hb dX12_declare_59 (by decide +kernel) ?_
    obtain ⟨u_20, hu_20, hF_21⟩ := Option.bind_eq_some_iff.mp hF_18
    clear hF_18
    refine m_cv hsz hS (va_runV (As := [.ref q_19, .int 5]) (rest := []) ⟨hx, hb, hml, hown, hts⟩ (m_X12_own l dC dI cB cC cI cJ cZ cP h qK qS ad hDD H.size q_19 _ ([100, 114, 111, 112] : List Int32) 5 u_17.2 _ hu_20) (cwV 2 hts (g_gV wq_1648 wq_1649 wq_2162 wq_13 wq_1650) rfl rfl rfl (by decide +kernel) ⟨Nat.le_of_ble_eq_true rfl, Nat.le_of_ble_eq_true rfl⟩) (m_preV g_blS hsz hK hP hS hE hKS (g_toS hSq_19 hS (m_narrow hS hsz))) rfl rfl hl.1 rfl (lv_room (Nat.le_of_ble_eq_true rfl)) dX12_declare_60 ⟨Nat.le_of_ble_eq_true rfl, Nat.le_of_ble_eq_true rfl⟩) (fun H locs hP hS => ?_)
    refine lv_aload_n hx hb dX12_declare_63 rfl (lv_at hl 0 rfl) ?_
    obtain ⟨q_22, vq_22, hRq_22, hSq_22⟩ := hE.2.2.2.2 _ (List.mem_of_getElem? (i := 85) rfl)
    refine g_ldcwS (own := RX12) (tx := "examine") hx hb hown hRq_22 dX12_declare_64 ?_
    refine lv_bipush (v := 6) hx hb dX12_declare_67 (by decide +kernel) ?_
    obtain ⟨u_23, hu_23, hF_24⟩ := Option.bind_eq_some_iff.mp hF_21
    clear hF_21
    refine m_cv hsz hS (va_runV (As := [.ref q_22, .int 6]) (rest := []) ⟨hx, hb, hml, hown, hts⟩ (m_X12_own l dC dI cB cC cI cJ cZ cP h qK qS ad hDD H.size q_22 _ ([101, 120, 97, 109, 105, 110, 101] : List Int32) 6 u_20.2 _ hu_23) (cwV 2 hts (g_gV wq_1648 wq_1649 wq_2162 wq_13 wq_1650) rfl rfl rfl (by decide +kernel) ⟨Nat.le_of_ble_eq_true rfl, Nat.le_of_ble_eq_true rfl⟩) (m_preV g_blS hsz hK hP hS hE hKS (g_toS hSq_22 hS (m_narrow hS hsz))) rfl rfl hl.1 rfl (lv_room (Nat.le_of_ble_eq_true rfl)) dX12_declare_69 ⟨Nat.le_of_ble_eq_true rfl, Nat.le_of_ble_eq_true rfl⟩) (fun H locs hP hS => ?_)
    refine lv_aload_n hx hb dX12_declare_72 rfl (lv_at hl 0 rfl) ?_
    obtain ⟨q_25, vq_25, hRq_25, hSq_25⟩ := hE.2.2.2.2 _ (List.mem_of_getElem? (i := 86) rfl)
    refine g_ldcwS (own := RX12) (tx := "close") hx hb hown hRq_25 dX12_declare_73 ?_
    refine lv_bipush (v := 8) hx hb dX12_declare_76 (by decide +kernel) ?_
    obtain ⟨u_26, hu_26, hF_27⟩ := Option.bind_eq_some_iff.mp hF_24
    clear hF_24
    refine m_cv hsz hS (va_runV (As := [.ref q_25, .int 8]) (rest := []) ⟨hx, hb, hml, hown, hts⟩ (m_X12_own l dC dI cB cC cI cJ cZ cP h qK qS ad hDD H.size q_25 _ ([99, 108, 111, 115, 101] : List Int32) 8 u_23.2 _ hu_26) (cwV 2 hts (g_gV wq_1648 wq_1649 wq_2162 wq_13 wq_1650) rfl rfl rfl (by decide +kernel) ⟨Nat.le_of_ble_eq_true rfl, Nat.le_of_ble_eq_true rfl⟩) (m_preV g_blS hsz hK hP hS hE hKS (g_toS hSq_25 hS (m_narrow hS hsz))) rfl rfl hl.1 rfl (lv_room (Nat.le_of_ble_eq_true rfl)) dX12_declare_78 ⟨Nat.le_of_ble_eq_true rfl, Nat.le_of_ble_eq_true rfl⟩) (fun H locs hP hS => ?_)
    refine lv_aload_n hx hb dX12_declare_81 rfl (lv_at hl 0 rfl) ?_
    obtain ⟨q_28, vq_28, hRq_28, hSq_28⟩ := hE.2.2.2.2 _ (List.mem_of_getElem? (i := 87) rfl)
    refine g_ldcwS (own := RX12) (tx := "putin") hx hb hown hRq_28 dX12_declare_82 ?_
    refine lv_bipush (v := 9) hx hb dX12_declare_85 (by decide +kernel) ?_
    obtain ⟨u_29, hu_29, hF_30⟩ := Option.bind_eq_some_iff.mp hF_27
    clear hF_27
    refine m_cv hsz hS (va_runV (As := [.ref q_28, .int 9]) (rest := []) ⟨hx, hb, hml, hown, hts⟩ (m_X12_own l dC dI cB cC cI cJ cZ cP h qK qS ad hDD H.size q_28 _ ([112, 117, 116, 105, 110] : List Int32) 9 u_26.2 _ hu_29) (cwV 2 hts (g_gV wq_1648 wq_1649 wq_2162 wq_13 wq_1650) rfl rfl rfl (by decide +kernel) ⟨Nat.le_of_ble_eq_true rfl, Nat.le_of_ble_eq_true rfl⟩) (m_preV g_blS hsz hK hP hS hE hKS (g_toS hSq_28 hS (m_narrow hS hsz))) rfl rfl hl.1 rfl (lv_room (Nat.le_of_ble_eq_true rfl)) dX12_declare_87 ⟨Nat.le_of_ble_eq_true rfl, Nat.le_of_ble_eq_true rfl⟩) (fun H locs hP hS => ?_)
    refine lv_aload_n hx hb dX12_declare_90 rfl (lv_at hl 0 rfl) ?_
    obtain ⟨q_31, vq_31, hRq_31, hSq_31⟩ := hE.2.2.2.2 _ (List.mem_of_getElem? (i := 88) rfl)
    refine g_ldcwS (own := RX12) (tx := "puton") hx hb hown hRq_31 dX12_declare_91 ?_
    refine lv_bipush (v := 10) hx hb dX12_declare_94 (by decide +kernel) ?_
    obtain ⟨u_32, hu_32, hF_33⟩ := Option.bind_eq_some_iff.mp hF_30
    clear hF_30
    refine m_cv hsz hS (va_runV (As := [.ref q_31, .int 10]) (rest := []) ⟨hx, hb, hml, hown, hts⟩ (m_X12_own l dC dI cB cC cI cJ cZ cP h qK qS ad hDD H.size q_31 _ ([112, 117, 116, 111, 110] : List Int32) 10 u_29.2 _ hu_32) (cwV 2 hts (g_gV wq_1648 wq_1649 wq_2162 wq_13 wq_1650) rfl rfl rfl (by decide +kernel) ⟨Nat.le_of_ble_eq_true rfl, Nat.le_of_ble_eq_true rfl⟩) (m_preV g_blS hsz hK hP hS hE hKS (g_toS hSq_31 hS (m_narrow hS hsz))) rfl rfl hl.1 rfl (lv_room (Nat.le_of_ble_eq_true rfl)) dX12_declare_96 ⟨Nat.le_of_ble_eq_true rfl, Nat.le_of_ble_eq_true rfl⟩) (fun H locs hP hS => ?_)
    refine lv_aload_n hx hb dX12_declare_99 rfl (lv_at hl 0 rfl) ?_
    obtain ⟨q_34, vq_34, hRq_34, hSq_34⟩ := hE.2.2.2.2 _ (List.mem_of_getElem? (i := 89) rfl)
    refine g_ldcwS (own := RX12) (tx := "go") hx hb hown hRq_34 dX12_declare_100 ?_
    refine lv_bipush (v := 11) hx hb dX12_declare_103 (by decide +kernel) ?_
    obtain ⟨u_35, hu_35, hF_36⟩ := Option.bind_eq_some_iff.mp hF_33
    clear hF_33
    refine m_cv hsz hS (va_runV (As := [.ref q_34, .int 11]) (rest := []) ⟨hx, hb, hml, hown, hts⟩ (m_X12_own l dC dI cB cC cI cJ cZ cP h qK qS ad hDD H.size q_34 _ ([103, 111] : List Int32) 11 u_32.2 _ hu_35) (cwV 2 hts (g_gV wq_1648 wq_1649 wq_2162 wq_13 wq_1650) rfl rfl rfl (by decide +kernel) ⟨Nat.le_of_ble_eq_true rfl, Nat.le_of_ble_eq_true rfl⟩) (m_preV g_blS hsz hK hP hS hE hKS (g_toS hSq_34 hS (m_narrow hS hsz))) rfl rfl hl.1 rfl (lv_room (Nat.le_of_ble_eq_true rfl)) dX12_declare_105 ⟨Nat.le_of_ble_eq_true rfl, Nat.le_of_ble_eq_true rfl⟩) (fun H locs hP hS => ?_)
    refine lv_aload_n hx hb dX12_declare_108 rfl (lv_at hl 0 rfl) ?_
    refine lv_iconst (v := 1) hx hb dX12_declare_109 (by decide +kernel) ?_
    obtain ⟨σ_37, eσ_37, hF_38⟩ := bnd_e hF_36
    clear hF_36
    refine m_put (σ' := σ_37) (v := .int 1) (ty := .int) hx hb hts hown hK hP (hDD _ _) hS (by rw [eσ_37]; exact mwI_35) (k := 35) (by decide) (hts (.fieldLink RX12 470 "StoryHouseModel" "objects" "I") wq_1391) (fun _ h9 => h9) rfl (by decide +kernel) rfl rfl dX12_declare_110 (fun H locs hP hS => ?_)
    refine lv_aload_n hx hb dX12_declare_113 rfl (lv_at hl 0 rfl) ?_
    refine lv_bipush (v := 11) hx hb dX12_declare_114 (by decide +kernel) ?_
    obtain ⟨σ_39, eσ_39, hF_40⟩ := bnd_e hF_38
    clear hF_38
    refine m_put (σ' := σ_39) (v := .int 11) (ty := .int) hx hb hts hown hK hP (hDD _ _) hS (by rw [eσ_39]; exact mwI_36) (k := 36) (by decide) (hts (.fieldLink RX12 473 "StoryHouseModel" "verbs" "I") wq_1392) (fun _ h9 => h9) rfl (by decide +kernel) rfl rfl dX12_declare_116 (fun H locs hP hS => ?_)
    refine lv_aload_n hx hb dX12_declare_119 rfl (lv_at hl 0 rfl) ?_
    refine lv_iconst (v := 0) hx hb dX12_declare_120 (by decide +kernel) ?_
    obtain ⟨σ_41, eσ_41, hF_42⟩ := bnd_e hF_40
    clear hF_40
    refine m_put (σ' := σ_41) (v := .int 0) (ty := .int) hx hb hts hown hK hP (hDD _ _) hS (by rw [eσ_41]; exact mwI_37) (k := 37) (by decide) (hts (.fieldLink RX12 476 "StoryHouseModel" "vars" "I") wq_1393) (fun _ h9 => h9) rfl (by decide +kernel) rfl rfl dX12_declare_121 (fun H locs hP hS => ?_)
    refine lv_aload_n hx hb dX12_declare_124 rfl (lv_at hl 0 rfl) ?_
    refine lv_iconst (v := 0) hx hb dX12_declare_125 (by decide +kernel) ?_
    obtain ⟨σ_43, eσ_43, hF_44⟩ := bnd_e hF_42
    clear hF_42
    refine m_put (σ' := σ_43) (v := .int 0) (ty := .int) hx hb hts hown hK hP (hDD _ _) hS (by rw [eσ_43]; exact mwI_38) (k := 38) (by decide) (hts (.fieldLink RX12 479 "StoryHouseModel" "arrays" "I") wq_1394) (fun _ h9 => h9) rfl (by decide +kernel) rfl rfl dX12_declare_126 (fun H locs hP hS => ?_)
    refine lv_aload_n hx hb dX12_declare_129 rfl (lv_at hl 0 rfl) ?_
    refine lv_iconst (v := 0) hx hb dX12_declare_130 (by decide +kernel) ?_
    obtain ⟨σ_45, eσ_45, hF_46⟩ := bnd_e hF_44
    clear hF_44
    refine m_put (σ' := σ_45) (v := .int 0) (ty := .int) hx hb hts hown hK hP (hDD _ _) hS (by rw [eσ_45]; exact mwI_39) (k := 39) (by decide) (hts (.fieldLink RX12 482 "StoryHouseModel" "cells" "I") wq_1395) (fun _ h9 => h9) rfl (by decide +kernel) rfl rfl dX12_declare_131 (fun H locs hP hS => ?_)
    refine lv_aload_n hx hb dX12_declare_134 rfl (lv_at hl 0 rfl) ?_
    refine lv_iconst (v := 0) hx hb dX12_declare_135 (by decide +kernel) ?_
    obtain ⟨σ_47, eσ_47, hF_48⟩ := bnd_e hF_46
    clear hF_46
    refine m_put (σ' := σ_47) (v := .int 0) (ty := .int) hx hb hts hown hK hP (hDD _ _) hS (by rw [eσ_47]; exact mwI_40) (k := 40) (by decide) (hts (.fieldLink RX12 485 "StoryHouseModel" "defs" "I") wq_1396) (fun _ h9 => h9) rfl (by decide +kernel) rfl rfl dX12_declare_136 (fun H locs hP hS => ?_)
    refine lv_aload_n hx hb dX12_declare_139 rfl (lv_at hl 0 rfl) ?_
    refine lv_iconst (v := 0) hx hb dX12_declare_140 (by decide +kernel) ?_
    obtain ⟨σ_49, eσ_49, hF_50⟩ := bnd_e hF_48
    clear hF_48
    refine m_put (σ' := σ_49) (v := .int 0) (ty := .int) hx hb hts hown hK hP (hDD _ _) hS (by rw [eσ_49]; exact mwI_41) (k := 41) (by decide) (hts (.fieldLink RX12 488 "StoryHouseModel" "ons" "I") wq_1397) (fun _ h9 => h9) rfl (by decide +kernel) rfl rfl dX12_declare_141 (fun H locs hP hS => ?_)
    refine lv_aload_n hx hb dX12_declare_144 rfl (lv_at hl 0 rfl) ?_
    refine lv_iconst (v := 0) hx hb dX12_declare_145 (by decide +kernel) ?_
    obtain ⟨σ_51, eσ_51, hF_52⟩ := bnd_e hF_50
    clear hF_50
    refine m_put (σ' := σ_51) (v := .int 0) (ty := .int) hx hb hts hown hK hP (hDD _ _) hS (by rw [eσ_51]; exact mwI_42) (k := 42) (by decide) (hts (.fieldLink RX12 491 "StoryHouseModel" "eachs" "I") wq_1398) (fun _ h9 => h9) rfl (by decide +kernel) rfl rfl dX12_declare_146 (fun H locs hP hS => ?_)
    refine lv_aload_n hx hb dX12_declare_149 rfl (lv_at hl 0 rfl) ?_
    refine va_get (D := (dC, dI)) (ci := 12) (v := .int (σ_51.1 24)) (C := RX12) (T := TX12) (N := 123) hx hb hts ii_X12 hown hK hP 0 rfl rfl 24 (by decide) (hts (.fieldLink RX12 352 "StoryHouseModel" "items" "I") wq_1380) (fun _ h9 => h9) rfl dX12_declare_150 ?_
    obtain ⟨x_53, ex_53, hF_54⟩ := bnd_e hF_52
    clear hF_52
    refine m_top ex_53 ?_
    refine lv_istore_n (lv' := [(1, .int x_53), (0, .ref h)]) hx hb dX12_declare_153 rfl hl (by decide) rfl (fun ls hl => ?_)
    refine loopF_ind (P := fun (s_55 : Int32 × MS) => ∀ (H : Heap) (locs : List Loc), va_P (dC, dI) vwCl (mW cB cI cZ h qK qS ad s_55.2) H → va_S (mCells h ad sz) s.heap H locs → ∀ ls : Array Slot, lv_has ls 2 [(0, .ref h), (1, .int s_55.1)] → W p l e (headSpec (g_ws yX12_declare cX12_declare 2 none) { frames := 7, cells := 0, slots := 0, locals := 172 }).room s m ([.ref h] : List Value).toArray below meth c H locs 0 0 (MQ below (va_Qv (fun (_ : Unit) => True) (fun _ t => va_P (dC, dI) vwCl (mW cB cI cZ h qK qS ad res.2) t.heap) (mCells h ad sz)) ([.ref h] : List Value).toArray s 0 0 (mCells h ad sz)) (F0 m 154 ls [])) ?_ _ _ hF_54 _ _ hP hS ls (lv_sub hl [1, 0] rfl)
    intro again_56 s_55 ih_57 hF_58
    intro H locs hP hS ls hl
    refine lv_iload_n hx hb dX12_declare_154 rfl (lv_at hl 1 rfl) ?_
    refine lv_if_lt (tgt := 173) hx hb dX12_declare_155 (by decide) (fun c_59 => ?_) (fun c_59 => ?_)
    · have hF_60 := ipos c_59 hF_58
      clear hF_58
      have h9 := Option.some.inj hF_60
      subst h9
      exact W.vret hx hb hr (fun t ht hW => ⟨⟨(), rfl, trivial, m_end ht hP⟩, hS.F ht⟩) hS.2.2 dX12_declare_173
    · have hF_61 := ineg c_59 hF_58
      clear hF_58
      refine lv_aload_n hx hb dX12_declare_158 rfl (lv_at hl 0 rfl) ?_
      refine lv_iload_n hx hb dX12_declare_159 rfl (lv_at hl 1 rfl) ?_
      obtain ⟨u_62, hu_62, hF_63⟩ := Option.bind_eq_some_iff.mp hF_61
      clear hF_61
      refine m_cv hsz hS (va_runV (As := [.int s_55.1]) (rest := []) ⟨hx, hb, hml, hown, hts⟩ (m_X12_declareOne l dC dI cB cC cI cJ cZ cP h qK qS ad hDD H.size  s_55.1 s_55.2 _ hu_62) (cwV 1 hts (g_gV wq_1654 wq_1655 wq_2164 wq_13 wq_1656) rfl rfl rfl (by decide +kernel) ⟨Nat.le_of_ble_eq_true rfl, Nat.le_of_ble_eq_true rfl⟩) (m_preV g_bl0 hsz hK hP hS hE hKS g_to0) rfl rfl hl.1 rfl (lv_room (Nat.le_of_ble_eq_true rfl)) dX12_declare_160 ⟨Nat.le_of_ble_eq_true rfl, Nat.le_of_ble_eq_true rfl⟩) (fun H locs hP hS => ?_)
      refine lv_aload_n hx hb dX12_declare_163 rfl (lv_at hl 0 rfl) ?_
      refine va_get (D := (dC, dI)) (ci := 12) (v := .ref (ad 22)) (C := RX12) (T := TX12) (N := 123) hx hb hts ii_X12 hown hK hP 0 rfl rfl 22 (by decide) (hts (.fieldLink RX12 64 "StoryHouseModel" "then" "[I") wq_1378) (fun _ h9 => h9) rfl dX12_declare_164 ?_
      refine lv_iload_n hx hb dX12_declare_167 rfl (lv_at hl 1 rfl) ?_
      obtain ⟨g_64, hF_65⟩ := nif_e hF_63
      clear hF_63
      refine va_iald (f := u_62.2.2 22) hx hb hK hP 13 2 rfl rfl g_64 dX12_declare_168 ?_
      obtain ⟨x_66, ex_66, hF_67⟩ := bnd_e hF_65
      clear hF_65
      refine m_top ex_66 ?_
      refine lv_istore_n (lv' := [(1, .int x_66), (0, .ref h)]) hx hb dX12_declare_169 rfl hl (by decide) rfl (fun ls hl => ?_)
      refine lv_goto (tgt := 154) hx hb dX12_declare_170 (by decide) ?_
      exact ih_57 (x_66, u_62.2) hF_67 _ _ hP hS ls (lv_sub hl [1, 0] rfl)
  · have hF_68 := ineg c_5 hF_4
    clear hF_4
    refine lv_aload_n hx hb dX12_declare_10 rfl (lv_at hl 0 rfl) ?_
    refine va_get (D := (dC, dI)) (ci := 12) (v := .ref (ad 28)) (C := RX12) (T := TX12) (N := 123) hx hb hts ii_X12 hown hK hP 0 rfl rfl 28 (by decide) (hts (.fieldLink RX12 67 "StoryHouseModel" "nameKind" "[I") wq_1384) (fun _ h9 => h9) rfl dX12_declare_11 ?_
    refine lv_iload_n hx hb dX12_declare_14 rfl (lv_at hl 1 rfl) ?_
    refine lv_iconst (v := 0) hx hb dX12_declare_15 (by decide +kernel) ?_
    obtain ⟨g_69, hF_70⟩ := nif_e hF_68
    clear hF_68
    obtain ⟨σ_71, eσ_71, hF_72⟩ := bnd_e hF_70
    clear hF_70
    refine m_iast (σ' := σ_71) hx hb hK hP (hDD _ _) hS (q0 := 14) (t0 := 2) (f := s_1.2.2 28) rfl rfl (by rw [eσ_71]; exact mwA_28) g_69 dX12_declare_16 (fun H locs hP hS => ?_)
    obtain ⟨x_73, ex_73, hF_74⟩ := bnd_e hF_72
    clear hF_72
    refine lv_iinc (v := x_73) (lv' := [(1, .int x_73), (0, .ref h)]) hx hb dX12_declare_17 hl (k := 1) rfl (by rw [ex_73]; rfl) (by decide) rfl (fun ls hl => ?_)
    refine lv_goto (tgt := 2) hx hb dX12_declare_20 (by decide) ?_
    exact ih_3 (x_73, σ_71) hF_74 _ _ hP hS ls (lv_sub hl [1, 0] rfl)
theorem dX12_seeAnew_0 : decode cX12_seeAnew 0 = .ok (.aload_n 0, 1) := by decide +kernel
theorem dX12_seeAnew_1 : decode cX12_seeAnew 1 = .ok (.getfield 67, 3) := by decide +kernel
theorem dX12_seeAnew_4 : decode cX12_seeAnew 4 = .ok (.aload_n 0, 1) := by decide +kernel
theorem dX12_seeAnew_5 : decode cX12_seeAnew 5 = .ok (.getfield 55, 3) := by decide +kernel
theorem dX12_seeAnew_8 : decode cX12_seeAnew 8 = .ok (.iload_n 1, 1) := by decide +kernel
theorem dX12_seeAnew_9 : decode cX12_seeAnew 9 = .ok (.iaload, 1) := by decide +kernel
theorem dX12_seeAnew_10 : decode cX12_seeAnew 10 = .ok (.iaload, 1) := by decide +kernel
theorem dX12_seeAnew_11 : decode cX12_seeAnew 11 = .ok (.ifCond .eq 7, 3) := by decide +kernel
theorem dX12_seeAnew_14 : decode cX12_seeAnew 14 = .ok (.iconst 1, 1) := by decide +kernel
theorem dX12_seeAnew_15 : decode cX12_seeAnew 15 = .ok (.goto 4, 3) := by decide +kernel
theorem dX12_seeAnew_18 : decode cX12_seeAnew 18 = .ok (.iconst 0, 1) := by decide +kernel
theorem dX12_seeAnew_19 : decode cX12_seeAnew 19 = .ok (.istore_n 2, 1) := by decide +kernel
theorem dX12_seeAnew_20 : decode cX12_seeAnew 20 = .ok (.iconst 0, 1) := by decide +kernel
theorem dX12_seeAnew_21 : decode cX12_seeAnew 21 = .ok (.istore_n 3, 1) := by decide +kernel
theorem dX12_seeAnew_22 : decode cX12_seeAnew 22 = .ok (.iload_n 3, 1) := by decide +kernel
theorem dX12_seeAnew_23 : decode cX12_seeAnew 23 = .ok (.aload_n 0, 1) := by decide +kernel
theorem dX12_seeAnew_24 : decode cX12_seeAnew 24 = .ok (.getfield 506, 3) := by decide +kernel
theorem dX12_seeAnew_27 : decode cX12_seeAnew 27 = .ok (.if_icmp .ge 32, 3) := by decide +kernel
theorem dX12_seeAnew_30 : decode cX12_seeAnew 30 = .ok (.iload_n 2, 1) := by decide +kernel
theorem dX12_seeAnew_31 : decode cX12_seeAnew 31 = .ok (.aload_n 0, 1) := by decide +kernel
theorem dX12_seeAnew_32 : decode cX12_seeAnew 32 = .ok (.getfield 76, 3) := by decide +kernel
theorem dX12_seeAnew_35 : decode cX12_seeAnew 35 = .ok (.iload_n 3, 1) := by decide +kernel
theorem dX12_seeAnew_36 : decode cX12_seeAnew 36 = .ok (.iaload, 1) := by decide +kernel
theorem dX12_seeAnew_37 : decode cX12_seeAnew 37 = .ok (.aload_n 0, 1) := by decide +kernel
theorem dX12_seeAnew_38 : decode cX12_seeAnew 38 = .ok (.getfield 55, 3) := by decide +kernel
theorem dX12_seeAnew_41 : decode cX12_seeAnew 41 = .ok (.iload_n 1, 1) := by decide +kernel
theorem dX12_seeAnew_42 : decode cX12_seeAnew 42 = .ok (.iaload, 1) := by decide +kernel
theorem dX12_seeAnew_43 : decode cX12_seeAnew 43 = .ok (.if_icmp .ne 7, 3) := by decide +kernel
theorem dX12_seeAnew_46 : decode cX12_seeAnew 46 = .ok (.iconst 1, 1) := by decide +kernel
theorem dX12_seeAnew_47 : decode cX12_seeAnew 47 = .ok (.goto 4, 3) := by decide +kernel
theorem dX12_seeAnew_50 : decode cX12_seeAnew 50 = .ok (.iconst 0, 1) := by decide +kernel
theorem dX12_seeAnew_51 : decode cX12_seeAnew 51 = .ok (.ior, 1) := by decide +kernel
theorem dX12_seeAnew_52 : decode cX12_seeAnew 52 = .ok (.istore_n 2, 1) := by decide +kernel
theorem dX12_seeAnew_53 : decode cX12_seeAnew 53 = .ok (.iinc 3 1, 3) := by decide +kernel
theorem dX12_seeAnew_56 : decode cX12_seeAnew 56 = .ok (.goto (-34), 3) := by decide +kernel
theorem dX12_seeAnew_59 : decode cX12_seeAnew 59 = .ok (.iload_n 2, 1) := by decide +kernel
theorem dX12_seeAnew_60 : decode cX12_seeAnew 60 = .ok (.ifCond .eq 14, 3) := by decide +kernel
theorem dX12_seeAnew_63 : decode cX12_seeAnew 63 = .ok (.aload_n 0, 1) := by decide +kernel
theorem dX12_seeAnew_64 : decode cX12_seeAnew 64 = .ok (.iconst 4, 1) := by decide +kernel
theorem dX12_seeAnew_65 : decode cX12_seeAnew 65 = .ok (.aload_n 0, 1) := by decide +kernel
theorem dX12_seeAnew_66 : decode cX12_seeAnew 66 = .ok (.getfield 52, 3) := by decide +kernel
theorem dX12_seeAnew_69 : decode cX12_seeAnew 69 = .ok (.iload_n 1, 1) := by decide +kernel
theorem dX12_seeAnew_70 : decode cX12_seeAnew 70 = .ok (.iaload, 1) := by decide +kernel
theorem dX12_seeAnew_71 : decode cX12_seeAnew 71 = .ok (.invokevirtual 500, 3) := by decide +kernel
theorem dX12_seeAnew_74 : decode cX12_seeAnew 74 = .ok (.aload_n 0, 1) := by decide +kernel
theorem dX12_seeAnew_75 : decode cX12_seeAnew 75 = .ok (.dup, 1) := by decide +kernel
theorem dX12_seeAnew_76 : decode cX12_seeAnew 76 = .ok (.getfield 509, 3) := by decide +kernel
theorem dX12_seeAnew_79 : decode cX12_seeAnew 79 = .ok (.iconst 1, 1) := by decide +kernel
theorem dX12_seeAnew_80 : decode cX12_seeAnew 80 = .ok (.iadd, 1) := by decide +kernel
theorem dX12_seeAnew_81 : decode cX12_seeAnew 81 = .ok (.dup_x1, 1) := by decide +kernel
theorem dX12_seeAnew_82 : decode cX12_seeAnew 82 = .ok (.putfield 509, 3) := by decide +kernel
theorem dX12_seeAnew_85 : decode cX12_seeAnew 85 = .ok (.bipush 14, 2) := by decide +kernel
theorem dX12_seeAnew_87 : decode cX12_seeAnew 87 = .ok (.if_icmp .le 14, 3) := by decide +kernel
theorem dX12_seeAnew_90 : decode cX12_seeAnew 90 = .ok (.aload_n 0, 1) := by decide +kernel
theorem dX12_seeAnew_91 : decode cX12_seeAnew 91 = .ok (.iconst 5, 1) := by decide +kernel
theorem dX12_seeAnew_92 : decode cX12_seeAnew 92 = .ok (.aload_n 0, 1) := by decide +kernel
theorem dX12_seeAnew_93 : decode cX12_seeAnew 93 = .ok (.getfield 52, 3) := by decide +kernel
theorem dX12_seeAnew_96 : decode cX12_seeAnew 96 = .ok (.iload_n 1, 1) := by decide +kernel
theorem dX12_seeAnew_97 : decode cX12_seeAnew 97 = .ok (.iaload, 1) := by decide +kernel
theorem dX12_seeAnew_98 : decode cX12_seeAnew 98 = .ok (.invokevirtual 500, 3) := by decide +kernel
theorem dX12_seeAnew_101 : decode cX12_seeAnew 101 = .ok (.aload_n 0, 1) := by decide +kernel
theorem dX12_seeAnew_102 : decode cX12_seeAnew 102 = .ok (.getfield 506, 3) := by decide +kernel
theorem dX12_seeAnew_105 : decode cX12_seeAnew 105 = .ok (.bipush 16, 2) := by decide +kernel
theorem dX12_seeAnew_107 : decode cX12_seeAnew 107 = .ok (.if_icmp .ge 25, 3) := by decide +kernel
theorem dX12_seeAnew_110 : decode cX12_seeAnew 110 = .ok (.aload_n 0, 1) := by decide +kernel
theorem dX12_seeAnew_111 : decode cX12_seeAnew 111 = .ok (.getfield 76, 3) := by decide +kernel
theorem dX12_seeAnew_114 : decode cX12_seeAnew 114 = .ok (.aload_n 0, 1) := by decide +kernel
theorem dX12_seeAnew_115 : decode cX12_seeAnew 115 = .ok (.dup, 1) := by decide +kernel
theorem dX12_seeAnew_116 : decode cX12_seeAnew 116 = .ok (.getfield 506, 3) := by decide +kernel
theorem dX12_seeAnew_119 : decode cX12_seeAnew 119 = .ok (.dup_x1, 1) := by decide +kernel
theorem dX12_seeAnew_120 : decode cX12_seeAnew 120 = .ok (.iconst 1, 1) := by decide +kernel
theorem dX12_seeAnew_121 : decode cX12_seeAnew 121 = .ok (.iadd, 1) := by decide +kernel
theorem dX12_seeAnew_122 : decode cX12_seeAnew 122 = .ok (.putfield 506, 3) := by decide +kernel
theorem dX12_seeAnew_125 : decode cX12_seeAnew 125 = .ok (.aload_n 0, 1) := by decide +kernel
theorem dX12_seeAnew_126 : decode cX12_seeAnew 126 = .ok (.getfield 55, 3) := by decide +kernel
theorem dX12_seeAnew_129 : decode cX12_seeAnew 129 = .ok (.iload_n 1, 1) := by decide +kernel
theorem dX12_seeAnew_130 : decode cX12_seeAnew 130 = .ok (.iaload, 1) := by decide +kernel
theorem dX12_seeAnew_131 : decode cX12_seeAnew 131 = .ok (.iastore, 1) := by decide +kernel
theorem dX12_seeAnew_132 : decode cX12_seeAnew 132 = .ok (.return_, 1) := by decide +kernel
def F_X12_seeAnew (p0 : Int32) (σ : MS) : MR :=
  if p0 < 0 ∨ 40000 ≤ p0.toNatClampNeg then none else
  bnd ((σ.2 19 p0.toNatClampNeg)) fun (x_3 : Int32) =>
  if x_3 < 0 ∨ 8000 ≤ x_3.toNatClampNeg then none else
  bnd (fun (t_7 : Int32) (σ_8 : MS) => (
    loopF (fun (again_13 : (Int32 × Int32 × MS) → MR) (s_12 : Int32 × Int32 × MS) => (
      if (s_12.2.2.1 33) ≤ s_12.2.1 then (
        bnd (fun  (σ_18 : MS) => (
          bnd (mI σ_18 34 ((σ_18.1 34) + 1)) fun σ_22 =>
          bnd (fun  (σ_24 : MS) => (
            if 16 ≤ (σ_24.1 33) then (
              some (0, σ_24)
            ) else (
              bnd (mI σ_24 33 ((σ_24.1 33) + 1)) fun σ_31 =>
              if p0 < 0 ∨ 40000 ≤ p0.toNatClampNeg then none else
              if (σ_24.1 33) < 0 ∨ 16 ≤ (σ_24.1 33).toNatClampNeg then none else
              bnd (mA σ_31 31 (upd (σ_31.2 31) (σ_24.1 33).toNatClampNeg (σ_31.2 19 p0.toNatClampNeg))) fun σ_37 =>
              some (0, σ_37)
            )
          ) : MS → MR) fun j_25 =>
          if ((σ_18.1 34) + 1) ≤ 14 then (
            j_25  σ_22
          ) else (
            if p0 < 0 ∨ 40000 ≤ p0.toNatClampNeg then none else
            (F_X12_note 5 (σ_22.2 18 p0.toNatClampNeg) σ_22).bind fun u_44 =>
            j_25  u_44.2
          )
        ) : MS → MR) fun j_19 =>
        if s_12.1 = 0 then (
          j_19  s_12.2.2
        ) else (
          if p0 < 0 ∨ 40000 ≤ p0.toNatClampNeg then none else
          (F_X12_note 4 (s_12.2.2.2 18 p0.toNatClampNeg) s_12.2.2).bind fun u_51 =>
          j_19  u_51.2
        )
      ) else (
        if s_12.2.1 < 0 ∨ 16 ≤ s_12.2.1.toNatClampNeg then none else
        if p0 < 0 ∨ 40000 ≤ p0.toNatClampNeg then none else
        bnd (fun (t_58 : Int32) (σ_59 : MS) => (
          bnd ((s_12.1 ||| t_58)) fun (x_63 : Int32) =>
          bnd (s_12.2.1 + 1) fun (x_65 : Int32) =>
          again_13 (x_63, x_65, σ_59)
        ) : Int32 → MS → MR) fun j_60 =>
        if (s_12.2.2.2 31 s_12.2.1.toNatClampNeg) = (s_12.2.2.2 19 p0.toNatClampNeg) then (
          j_60 1 s_12.2.2
        ) else (
          j_60 0 s_12.2.2
        )
      )
    )) FU (t_7, 0, σ_8)
  ) : Int32 → MS → MR) fun j_9 =>
  if (σ.2 28 x_3.toNatClampNeg) = 0 then (
    j_9 0 σ
  ) else (
    j_9 1 σ
  )
set_option maxHeartbeats 4000000 in
set_option maxRecDepth 100000 in
theorem m_X12_seeAnew (l : Launch) (dC : Nat → ClassId) (dI : Nat → Nat → Nat) (cB cC cI cJ cZ cP : ClassId) (h qK qS : Nat) (ad : Nat → Nat) (hDD : mDis cB cI cZ h qK qS ad) (sz : Nat)  (p0 : Int32) (σ : MS) (res : Int32 × MS) (hF : F_X12_seeAnew p0 σ = some res) : Met l yX12_seeAnew (g_ws yX12_seeAnew cX12_seeAnew 4 none) ({ frames := 2, cells := 0, slots := 0, locals := 62 }) (va_Pc [.ref h, .int p0] (m_B (dC, dI) [(cB, .byte), (cC, .char), (cI, .int), (cJ, .long), (cZ, .boolean), (cP, .object "StoryHouse$Play")] sz h ad qK qS (mW cB cI cZ h qK qS ad σ) g_0)) (va_Qv (fun (_ : Unit) => True) (fun _ t => va_P (dC, dI) vwCl (mW cB cI cZ h qK qS ad res.2) t.heap) (mCells h ad sz)) 0 0 (mCells h ad sz) := by
  refine Met.ofW (cc := cX12_seeAnew) (maxL := 4) (ret := none) (by decide) rfl ?_
  intro p e s m args below meth c s₁ B hml hv
  obtain ⟨rfl, hsz, hP, hK, hE, hKS, hX⟩ := hv
  have hx := B.exec
  have hb := B.bytes
  have hr := B.returns
  have hts0 := atoms_spec (ws := g_ws yX12_seeAnew cX12_seeAnew 4 none) B.pre
  have hts : ∀ w ∈ lw_good, w.before ([.ref h, .int p0] : List Value).toArray s = true := fun w z => hts0 w (List.mem_cons_of_mem _ z)
  have hown : s.vm.findClass RX12 = some m.cls := findClass_of_methodNamed B.named
  have hlocks := B.notSynchronized
  have hS : va_S (mCells h ad sz) s.heap s.heap [] := va_S.rf
  have hl := lv_entry ([.ref h, .int p0]) (n := 4) (Nat.le_of_ble_eq_true rfl)
  rw [lg_entry_eq]
  generalize (lg_sl ([.ref h, .int p0]) ++ List.replicate (4 - (lg_sl ([.ref h, .int p0])).length) Slot.unset).toArray = ls at hl ⊢
  have hl : lv_has ls 4 [(0, .ref h), (1, .int p0)] := hl
  unfold F_X12_seeAnew at hF
  refine lv_aload_n hx hb dX12_seeAnew_0 rfl (lv_at hl 0 rfl) ?_
  refine va_get (D := (dC, dI)) (ci := 12) (v := .ref (ad 28)) (C := RX12) (T := TX12) (N := 123) hx hb hts ii_X12 hown hK hP 0 rfl rfl 28 (by decide) (hts (.fieldLink RX12 67 "StoryHouseModel" "nameKind" "[I") wq_1384) (fun _ h9 => h9) rfl dX12_seeAnew_1 ?_
  refine lv_aload_n hx hb dX12_seeAnew_4 rfl (lv_at hl 0 rfl) ?_
  refine va_get (D := (dC, dI)) (ci := 12) (v := .ref (ad 19)) (C := RX12) (T := TX12) (N := 123) hx hb hts ii_X12 hown hK hP 0 rfl rfl 19 (by decide) (hts (.fieldLink RX12 55 "StoryHouseModel" "a" "[I") wq_1375) (fun _ h9 => h9) rfl dX12_seeAnew_5 ?_
  refine lv_iload_n hx hb dX12_seeAnew_8 rfl (lv_at hl 1 rfl) ?_
  obtain ⟨g_1, hF_2⟩ := nif_e hF
  clear hF
  refine va_iald (f := σ.2 19) hx hb hK hP 10 2 rfl rfl g_1 dX12_seeAnew_9 ?_
  obtain ⟨x_3, ex_3, hF_4⟩ := bnd_e hF_2
  clear hF_2
  refine m_top ex_3 ?_
  obtain ⟨g_5, hF_6⟩ := nif_e hF_4
  clear hF_4
  refine va_iald (f := σ.2 28) hx hb hK hP 14 2 rfl rfl g_5 dX12_seeAnew_10 ?_
  obtain ⟨j_9, ej_9, hF_10⟩ := bnd_e hF_6
  clear hF_6
  have Jj_9 : ∀ (t_7 : Int32) (σ_8 : MS), j_9 t_7 σ_8 = some res → ∀ (H : Heap) (locs : List Loc), va_P (dC, dI) vwCl (mW cB cI cZ h qK qS ad σ_8) H → va_S (mCells h ad sz) s.heap H locs → ∀ ls : Array Slot, lv_has ls 4 [(0, .ref h), (1, .int p0)] → W p l e (headSpec (g_ws yX12_seeAnew cX12_seeAnew 4 none) { frames := 2, cells := 0, slots := 0, locals := 62 }).room s m ([.ref h, .int p0] : List Value).toArray below meth c H locs 0 0 (MQ below (va_Qv (fun (_ : Unit) => True) (fun _ t => va_P (dC, dI) vwCl (mW cB cI cZ h qK qS ad res.2) t.heap) (mCells h ad sz)) ([.ref h, .int p0] : List Value).toArray s 0 0 (mCells h ad sz)) (F0 m 19 ls [.int t_7]) := by
    intro t_7 σ_8 hF0 H locs hP hS ls hl
    subst ej_9
    have hF_11 := hF0
    clear hF0
    refine lv_istore_n (lv' := [(2, .int t_7), (0, .ref h), (1, .int p0)]) hx hb dX12_seeAnew_19 rfl hl (by decide) rfl (fun ls hl => ?_)
    refine lv_iconst (v := 0) hx hb dX12_seeAnew_20 (by decide +kernel) ?_
    refine lv_istore_n (lv' := [(3, .int 0), (2, .int t_7), (0, .ref h), (1, .int p0)]) hx hb dX12_seeAnew_21 rfl hl (by decide) rfl (fun ls hl => ?_)
    refine loopF_ind (P := fun (s_12 : Int32 × Int32 × MS) => ∀ (H : Heap) (locs : List Loc), va_P (dC, dI) vwCl (mW cB cI cZ h qK qS ad s_12.2.2) H → va_S (mCells h ad sz) s.heap H locs → ∀ ls : Array Slot, lv_has ls 4 [(0, .ref h), (1, .int p0), (2, .int s_12.1), (3, .int s_12.2.1)] → W p l e (headSpec (g_ws yX12_seeAnew cX12_seeAnew 4 none) { frames := 2, cells := 0, slots := 0, locals := 62 }).room s m ([.ref h, .int p0] : List Value).toArray below meth c H locs 0 0 (MQ below (va_Qv (fun (_ : Unit) => True) (fun _ t => va_P (dC, dI) vwCl (mW cB cI cZ h qK qS ad res.2) t.heap) (mCells h ad sz)) ([.ref h, .int p0] : List Value).toArray s 0 0 (mCells h ad sz)) (F0 m 22 ls [])) ?_ _ _ hF_11 _ _ hP hS ls (lv_sub hl [2, 3, 1, 0] rfl)
    intro again_13 s_12 ih_14 hF_15
    intro H locs hP hS ls hl
    refine lv_iload_n hx hb dX12_seeAnew_22 rfl (lv_at hl 3 rfl) ?_
    refine lv_aload_n hx hb dX12_seeAnew_23 rfl (lv_at hl 0 rfl) ?_
    refine va_get (D := (dC, dI)) (ci := 12) (v := .int (s_12.2.2.1 33)) (C := RX12) (T := TX12) (N := 123) hx hb hts ii_X12 hown hK hP 0 rfl rfl 33 (by decide) (hts (.fieldLink RX12 506 "StoryHouseModel" "seenCount" "I") wq_1389) (fun _ h9 => h9) rfl dX12_seeAnew_24 ?_
    refine lv_icmp_ge (tgt := 59) hx hb dX12_seeAnew_27 (by decide) (fun c_16 => ?_) (fun c_16 => ?_)
    · have hF_17 := ipos c_16 hF_15
      clear hF_15
      refine lv_iload_n hx hb dX12_seeAnew_59 rfl (lv_at hl 2 rfl) ?_
      obtain ⟨j_19, ej_19, hF_20⟩ := bnd_e hF_17
      clear hF_17
      have Jj_19 : ∀  (σ_18 : MS), j_19  σ_18 = some res → ∀ (H : Heap) (locs : List Loc), va_P (dC, dI) vwCl (mW cB cI cZ h qK qS ad σ_18) H → va_S (mCells h ad sz) s.heap H locs → ∀ ls : Array Slot, lv_has ls 4 [(0, .ref h), (1, .int p0)] → W p l e (headSpec (g_ws yX12_seeAnew cX12_seeAnew 4 none) { frames := 2, cells := 0, slots := 0, locals := 62 }).room s m ([.ref h, .int p0] : List Value).toArray below meth c H locs 0 0 (MQ below (va_Qv (fun (_ : Unit) => True) (fun _ t => va_P (dC, dI) vwCl (mW cB cI cZ h qK qS ad res.2) t.heap) (mCells h ad sz)) ([.ref h, .int p0] : List Value).toArray s 0 0 (mCells h ad sz)) (F0 m 74 ls []) := by
        intro  σ_18 hF0 H locs hP hS ls hl
        subst ej_19
        have hF_21 := hF0
        clear hF0
        refine lv_aload_n hx hb dX12_seeAnew_74 rfl (lv_at hl 0 rfl) ?_
        refine lv_dup hx hb dX12_seeAnew_75 rfl ?_
        refine va_get (D := (dC, dI)) (ci := 12) (v := .int (σ_18.1 34)) (C := RX12) (T := TX12) (N := 123) hx hb hts ii_X12 hown hK hP 0 rfl rfl 34 (by decide) (hts (.fieldLink RX12 509 "StoryHouseModel" "slotCount" "I") wq_1390) (fun _ h9 => h9) rfl dX12_seeAnew_76 ?_
        refine lv_iconst (v := 1) hx hb dX12_seeAnew_79 (by decide +kernel) ?_
        refine lv_iadd hx hb dX12_seeAnew_80 ?_
        refine lv_dup_x1 hx hb dX12_seeAnew_81 rfl rfl ?_
        obtain ⟨σ_22, eσ_22, hF_23⟩ := bnd_e hF_21
        clear hF_21
        refine m_put (σ' := σ_22) (v := .int ((σ_18.1 34) + 1)) (ty := .int) hx hb hts hown hK hP (hDD _ _) hS (by rw [eσ_22]; exact mwI_34) (k := 34) (by decide) (hts (.fieldLink RX12 509 "StoryHouseModel" "slotCount" "I") wq_1390) (fun _ h9 => h9) rfl (by decide +kernel) rfl rfl dX12_seeAnew_82 (fun H locs hP hS => ?_)
        refine lv_bipush (v := 14) hx hb dX12_seeAnew_85 (by decide +kernel) ?_
        obtain ⟨j_25, ej_25, hF_26⟩ := bnd_e hF_23
        clear hF_23
        have Jj_25 : ∀  (σ_24 : MS), j_25  σ_24 = some res → ∀ (H : Heap) (locs : List Loc), va_P (dC, dI) vwCl (mW cB cI cZ h qK qS ad σ_24) H → va_S (mCells h ad sz) s.heap H locs → ∀ ls : Array Slot, lv_has ls 4 [(0, .ref h), (1, .int p0)] → W p l e (headSpec (g_ws yX12_seeAnew cX12_seeAnew 4 none) { frames := 2, cells := 0, slots := 0, locals := 62 }).room s m ([.ref h, .int p0] : List Value).toArray below meth c H locs 0 0 (MQ below (va_Qv (fun (_ : Unit) => True) (fun _ t => va_P (dC, dI) vwCl (mW cB cI cZ h qK qS ad res.2) t.heap) (mCells h ad sz)) ([.ref h, .int p0] : List Value).toArray s 0 0 (mCells h ad sz)) (F0 m 101 ls []) := by
          intro  σ_24 hF0 H locs hP hS ls hl
          subst ej_25
          have hF_27 := hF0
          clear hF0
          refine lv_aload_n hx hb dX12_seeAnew_101 rfl (lv_at hl 0 rfl) ?_
          refine va_get (D := (dC, dI)) (ci := 12) (v := .int (σ_24.1 33)) (C := RX12) (T := TX12) (N := 123) hx hb hts ii_X12 hown hK hP 0 rfl rfl 33 (by decide) (hts (.fieldLink RX12 506 "StoryHouseModel" "seenCount" "I") wq_1389) (fun _ h9 => h9) rfl dX12_seeAnew_102 ?_
          refine lv_bipush (v := 16) hx hb dX12_seeAnew_105 (by decide +kernel) ?_
          refine lv_icmp_ge (tgt := 132) hx hb dX12_seeAnew_107 (by decide) (fun c_28 => ?_) (fun c_28 => ?_)
          · have hF_29 := ipos c_28 hF_27
            clear hF_27
            have h9 := Option.some.inj hF_29
            subst h9
            exact W.vret hx hb hr (fun t ht hW => ⟨⟨(), rfl, trivial, m_end ht hP⟩, hS.F ht⟩) hS.2.2 dX12_seeAnew_132
          · have hF_30 := ineg c_28 hF_27
            clear hF_27
            refine lv_aload_n hx hb dX12_seeAnew_110 rfl (lv_at hl 0 rfl) ?_
            refine va_get (D := (dC, dI)) (ci := 12) (v := .ref (ad 31)) (C := RX12) (T := TX12) (N := 123) hx hb hts ii_X12 hown hK hP 0 rfl rfl 31 (by decide) (hts (.fieldLink RX12 76 "StoryHouseModel" "seen" "[I") wq_1387) (fun _ h9 => h9) rfl dX12_seeAnew_111 ?_
            refine lv_aload_n hx hb dX12_seeAnew_114 rfl (lv_at hl 0 rfl) ?_
            refine lv_dup hx hb dX12_seeAnew_115 rfl ?_
            refine va_get (D := (dC, dI)) (ci := 12) (v := .int (σ_24.1 33)) (C := RX12) (T := TX12) (N := 123) hx hb hts ii_X12 hown hK hP 0 rfl rfl 33 (by decide) (hts (.fieldLink RX12 506 "StoryHouseModel" "seenCount" "I") wq_1389) (fun _ h9 => h9) rfl dX12_seeAnew_116 ?_
            refine lv_dup_x1 hx hb dX12_seeAnew_119 rfl rfl ?_
            refine lv_iconst (v := 1) hx hb dX12_seeAnew_120 (by decide +kernel) ?_
            refine lv_iadd hx hb dX12_seeAnew_121 ?_
            obtain ⟨σ_31, eσ_31, hF_32⟩ := bnd_e hF_30
            clear hF_30
            refine m_put (σ' := σ_31) (v := .int ((σ_24.1 33) + 1)) (ty := .int) hx hb hts hown hK hP (hDD _ _) hS (by rw [eσ_31]; exact mwI_33) (k := 33) (by decide) (hts (.fieldLink RX12 506 "StoryHouseModel" "seenCount" "I") wq_1389) (fun _ h9 => h9) rfl (by decide +kernel) rfl rfl dX12_seeAnew_122 (fun H locs hP hS => ?_)
            refine lv_aload_n hx hb dX12_seeAnew_125 rfl (lv_at hl 0 rfl) ?_
            refine va_get (D := (dC, dI)) (ci := 12) (v := .ref (ad 19)) (C := RX12) (T := TX12) (N := 123) hx hb hts ii_X12 hown hK hP 0 rfl rfl 19 (by decide) (hts (.fieldLink RX12 55 "StoryHouseModel" "a" "[I") wq_1375) (fun _ h9 => h9) rfl dX12_seeAnew_126 ?_
            refine lv_iload_n hx hb dX12_seeAnew_129 rfl (lv_at hl 1 rfl) ?_
            obtain ⟨g_33, hF_34⟩ := nif_e hF_32
            clear hF_32
            refine va_iald (f := σ_31.2 19) hx hb hK hP 10 2 rfl rfl g_33 dX12_seeAnew_130 ?_
            obtain ⟨g_35, hF_36⟩ := nif_e hF_34
            clear hF_34
            obtain ⟨σ_37, eσ_37, hF_38⟩ := bnd_e hF_36
            clear hF_36
            refine m_iast (σ' := σ_37) hx hb hK hP (hDD _ _) hS (q0 := 17) (t0 := 2) (f := σ_31.2 31) rfl rfl (by rw [eσ_37]; exact mwA_31) g_35 dX12_seeAnew_131 (fun H locs hP hS => ?_)
            have h9 := Option.some.inj hF_38
            subst h9
            exact W.vret hx hb hr (fun t ht hW => ⟨⟨(), rfl, trivial, m_end ht hP⟩, hS.F ht⟩) hS.2.2 dX12_seeAnew_132
        refine lv_icmp_le (tgt := 101) hx hb dX12_seeAnew_87 (by decide) (fun c_39 => ?_) (fun c_39 => ?_)
        · have hF_40 := ipos c_39 hF_26
          clear hF_26
          exact Jj_25  σ_22 hF_40 _ _ hP hS ls (lv_sub hl [0, 1] rfl)
        · have hF_41 := ineg c_39 hF_26
          clear hF_26
          refine lv_aload_n hx hb dX12_seeAnew_90 rfl (lv_at hl 0 rfl) ?_
          refine lv_iconst (v := 5) hx hb dX12_seeAnew_91 (by decide +kernel) ?_
          refine lv_aload_n hx hb dX12_seeAnew_92 rfl (lv_at hl 0 rfl) ?_
          refine va_get (D := (dC, dI)) (ci := 12) (v := .ref (ad 18)) (C := RX12) (T := TX12) (N := 123) hx hb hts ii_X12 hown hK hP 0 rfl rfl 18 (by decide) (hts (.fieldLink RX12 52 "StoryHouseModel" "where" "[I") wq_1374) (fun _ h9 => h9) rfl dX12_seeAnew_93 ?_
          refine lv_iload_n hx hb dX12_seeAnew_96 rfl (lv_at hl 1 rfl) ?_
          obtain ⟨g_42, hF_43⟩ := nif_e hF_41
          clear hF_41
          refine va_iald (f := σ_22.2 18) hx hb hK hP 9 2 rfl rfl g_42 dX12_seeAnew_97 ?_
          obtain ⟨u_44, hu_44, hF_45⟩ := Option.bind_eq_some_iff.mp hF_43
          clear hF_43
          refine m_cv hsz hS (va_runV (As := [.int 5, .int (σ_22.2 18 p0.toNatClampNeg)]) (rest := []) ⟨hx, hb, hml, hown, hts⟩ (m_X12_note l dC dI cB cC cI cJ cZ cP h qK qS ad hDD H.size  5 (σ_22.2 18 p0.toNatClampNeg) σ_22 _ hu_44) (cwV 2 hts (g_gV wq_1660 wq_1661 wq_2165 wq_13 wq_1662) rfl rfl rfl (by decide +kernel) ⟨Nat.le_of_ble_eq_true rfl, Nat.le_of_ble_eq_true rfl⟩) (m_preV g_bl0 hsz hK hP hS hE hKS g_to0) rfl rfl hl.1 rfl (lv_room (Nat.le_of_ble_eq_true rfl)) dX12_seeAnew_98 ⟨Nat.le_of_ble_eq_true rfl, Nat.le_of_ble_eq_true rfl⟩) (fun H locs hP hS => ?_)
          exact Jj_25  u_44.2 hF_45 _ _ hP hS ls (lv_sub hl [0, 1] rfl)
      refine lv_if_eq (tgt := 74) hx hb dX12_seeAnew_60 (by decide) (fun c_46 => ?_) (fun c_46 => ?_)
      · have hF_47 := ipos c_46 hF_20
        clear hF_20
        exact Jj_19  s_12.2.2 hF_47 _ _ hP hS ls (lv_sub hl [0, 1] rfl)
      · have hF_48 := ineg c_46 hF_20
        clear hF_20
        refine lv_aload_n hx hb dX12_seeAnew_63 rfl (lv_at hl 0 rfl) ?_
        refine lv_iconst (v := 4) hx hb dX12_seeAnew_64 (by decide +kernel) ?_
        refine lv_aload_n hx hb dX12_seeAnew_65 rfl (lv_at hl 0 rfl) ?_
        refine va_get (D := (dC, dI)) (ci := 12) (v := .ref (ad 18)) (C := RX12) (T := TX12) (N := 123) hx hb hts ii_X12 hown hK hP 0 rfl rfl 18 (by decide) (hts (.fieldLink RX12 52 "StoryHouseModel" "where" "[I") wq_1374) (fun _ h9 => h9) rfl dX12_seeAnew_66 ?_
        refine lv_iload_n hx hb dX12_seeAnew_69 rfl (lv_at hl 1 rfl) ?_
        obtain ⟨g_49, hF_50⟩ := nif_e hF_48
        clear hF_48
        refine va_iald (f := s_12.2.2.2 18) hx hb hK hP 9 2 rfl rfl g_49 dX12_seeAnew_70 ?_
        obtain ⟨u_51, hu_51, hF_52⟩ := Option.bind_eq_some_iff.mp hF_50
        clear hF_50
        refine m_cv hsz hS (va_runV (As := [.int 4, .int (s_12.2.2.2 18 p0.toNatClampNeg)]) (rest := []) ⟨hx, hb, hml, hown, hts⟩ (m_X12_note l dC dI cB cC cI cJ cZ cP h qK qS ad hDD H.size  4 (s_12.2.2.2 18 p0.toNatClampNeg) s_12.2.2 _ hu_51) (cwV 2 hts (g_gV wq_1660 wq_1661 wq_2165 wq_13 wq_1662) rfl rfl rfl (by decide +kernel) ⟨Nat.le_of_ble_eq_true rfl, Nat.le_of_ble_eq_true rfl⟩) (m_preV g_bl0 hsz hK hP hS hE hKS g_to0) rfl rfl hl.1 rfl (lv_room (Nat.le_of_ble_eq_true rfl)) dX12_seeAnew_71 ⟨Nat.le_of_ble_eq_true rfl, Nat.le_of_ble_eq_true rfl⟩) (fun H locs hP hS => ?_)
        exact Jj_19  u_51.2 hF_52 _ _ hP hS ls (lv_sub hl [0, 1] rfl)
    · have hF_53 := ineg c_16 hF_15
      clear hF_15
      refine lv_iload_n hx hb dX12_seeAnew_30 rfl (lv_at hl 2 rfl) ?_
      refine lv_aload_n hx hb dX12_seeAnew_31 rfl (lv_at hl 0 rfl) ?_
      refine va_get (D := (dC, dI)) (ci := 12) (v := .ref (ad 31)) (C := RX12) (T := TX12) (N := 123) hx hb hts ii_X12 hown hK hP 0 rfl rfl 31 (by decide) (hts (.fieldLink RX12 76 "StoryHouseModel" "seen" "[I") wq_1387) (fun _ h9 => h9) rfl dX12_seeAnew_32 ?_
      refine lv_iload_n hx hb dX12_seeAnew_35 rfl (lv_at hl 3 rfl) ?_
      obtain ⟨g_54, hF_55⟩ := nif_e hF_53
      clear hF_53
      refine va_iald (f := s_12.2.2.2 31) hx hb hK hP 17 2 rfl rfl g_54 dX12_seeAnew_36 ?_
      refine lv_aload_n hx hb dX12_seeAnew_37 rfl (lv_at hl 0 rfl) ?_
      refine va_get (D := (dC, dI)) (ci := 12) (v := .ref (ad 19)) (C := RX12) (T := TX12) (N := 123) hx hb hts ii_X12 hown hK hP 0 rfl rfl 19 (by decide) (hts (.fieldLink RX12 55 "StoryHouseModel" "a" "[I") wq_1375) (fun _ h9 => h9) rfl dX12_seeAnew_38 ?_
      refine lv_iload_n hx hb dX12_seeAnew_41 rfl (lv_at hl 1 rfl) ?_
      obtain ⟨g_56, hF_57⟩ := nif_e hF_55
      clear hF_55
      refine va_iald (f := s_12.2.2.2 19) hx hb hK hP 10 2 rfl rfl g_56 dX12_seeAnew_42 ?_
      obtain ⟨j_60, ej_60, hF_61⟩ := bnd_e hF_57
      clear hF_57
      have Jj_60 : ∀ (t_58 : Int32) (σ_59 : MS), j_60 t_58 σ_59 = some res → ∀ (H : Heap) (locs : List Loc), va_P (dC, dI) vwCl (mW cB cI cZ h qK qS ad σ_59) H → va_S (mCells h ad sz) s.heap H locs → ∀ ls : Array Slot, lv_has ls 4 [(0, .ref h), (1, .int p0), (3, .int s_12.2.1)] → W p l e (headSpec (g_ws yX12_seeAnew cX12_seeAnew 4 none) { frames := 2, cells := 0, slots := 0, locals := 62 }).room s m ([.ref h, .int p0] : List Value).toArray below meth c H locs 0 0 (MQ below (va_Qv (fun (_ : Unit) => True) (fun _ t => va_P (dC, dI) vwCl (mW cB cI cZ h qK qS ad res.2) t.heap) (mCells h ad sz)) ([.ref h, .int p0] : List Value).toArray s 0 0 (mCells h ad sz)) (F0 m 51 ls [.int t_58, .int s_12.1]) := by
        intro t_58 σ_59 hF0 H locs hP hS ls hl
        subst ej_60
        have hF_62 := hF0
        clear hF0
        refine lv_ior hx hb dX12_seeAnew_51 ?_
        obtain ⟨x_63, ex_63, hF_64⟩ := bnd_e hF_62
        clear hF_62
        refine m_top ex_63 ?_
        refine lv_istore_n (lv' := [(2, .int x_63), (0, .ref h), (1, .int p0), (3, .int s_12.2.1)]) hx hb dX12_seeAnew_52 rfl hl (by decide) rfl (fun ls hl => ?_)
        obtain ⟨x_65, ex_65, hF_66⟩ := bnd_e hF_64
        clear hF_64
        refine lv_iinc (v := x_65) (lv' := [(3, .int x_65), (2, .int x_63), (0, .ref h), (1, .int p0)]) hx hb dX12_seeAnew_53 hl (k := 3) rfl (by rw [ex_65]; rfl) (by decide) rfl (fun ls hl => ?_)
        refine lv_goto (tgt := 22) hx hb dX12_seeAnew_56 (by decide) ?_
        exact ih_14 (x_63, x_65, σ_59) hF_66 _ _ hP hS ls (lv_sub hl [2, 3, 1, 0] rfl)
      refine lv_icmp_ne (tgt := 50) hx hb dX12_seeAnew_43 (by decide) (fun c_67 => ?_) (fun c_67 => ?_)
      · have hF_69 := ineg c_67 hF_61
        clear hF_61
        refine lv_iconst (v := 0) hx hb dX12_seeAnew_50 (by decide +kernel) ?_
        exact Jj_60 0 s_12.2.2 hF_69 _ _ hP hS ls (lv_sub hl [0, 1, 3] rfl)
      · have hF_68 := ipos c_67 hF_61
        clear hF_61
        refine lv_iconst (v := 1) hx hb dX12_seeAnew_46 (by decide +kernel) ?_
        refine lv_goto (tgt := 51) hx hb dX12_seeAnew_47 (by decide) ?_
        exact Jj_60 1 s_12.2.2 hF_68 _ _ hP hS ls (lv_sub hl [0, 1, 3] rfl)
  refine lv_if_eq (tgt := 18) hx hb dX12_seeAnew_11 (by decide) (fun c_70 => ?_) (fun c_70 => ?_)
  · have hF_71 := ipos c_70 hF_10
    clear hF_10
    refine lv_iconst (v := 0) hx hb dX12_seeAnew_18 (by decide +kernel) ?_
    exact Jj_9 0 σ hF_71 _ _ hP hS ls (lv_sub hl [0, 1] rfl)
  · have hF_72 := ineg c_70 hF_10
    clear hF_10
    refine lv_iconst (v := 1) hx hb dX12_seeAnew_14 (by decide +kernel) ?_
    refine lv_goto (tgt := 19) hx hb dX12_seeAnew_15 (by decide) ?_
    exact Jj_9 1 σ hF_72 _ _ hP hS ls (lv_sub hl [0, 1] rfl)
theorem dX12_seeBlock_0 : decode cX12_seeBlock 0 = .ok (.aload_n 0, 1) := by decide +kernel
theorem dX12_seeBlock_1 : decode cX12_seeBlock 1 = .ok (.getfield 506, 3) := by decide +kernel
theorem dX12_seeBlock_4 : decode cX12_seeBlock 4 = .ok (.istore_n 2, 1) := by decide +kernel
theorem dX12_seeBlock_5 : decode cX12_seeBlock 5 = .ok (.aload_n 0, 1) := by decide +kernel
theorem dX12_seeBlock_6 : decode cX12_seeBlock 6 = .ok (.getfield 55, 3) := by decide +kernel
theorem dX12_seeBlock_9 : decode cX12_seeBlock 9 = .ok (.iload_n 1, 1) := by decide +kernel
theorem dX12_seeBlock_10 : decode cX12_seeBlock 10 = .ok (.iaload, 1) := by decide +kernel
theorem dX12_seeBlock_11 : decode cX12_seeBlock 11 = .ok (.istore_n 3, 1) := by decide +kernel
theorem dX12_seeBlock_12 : decode cX12_seeBlock 12 = .ok (.iload_n 3, 1) := by decide +kernel
theorem dX12_seeBlock_13 : decode cX12_seeBlock 13 = .ok (.ifCond .lt 18, 3) := by decide +kernel
theorem dX12_seeBlock_16 : decode cX12_seeBlock 16 = .ok (.aload_n 0, 1) := by decide +kernel
theorem dX12_seeBlock_17 : decode cX12_seeBlock 17 = .ok (.iload_n 3, 1) := by decide +kernel
theorem dX12_seeBlock_18 : decode cX12_seeBlock 18 = .ok (.invokevirtual 518, 3) := by decide +kernel
theorem dX12_seeBlock_21 : decode cX12_seeBlock 21 = .ok (.aload_n 0, 1) := by decide +kernel
theorem dX12_seeBlock_22 : decode cX12_seeBlock 22 = .ok (.getfield 64, 3) := by decide +kernel
theorem dX12_seeBlock_25 : decode cX12_seeBlock 25 = .ok (.iload_n 3, 1) := by decide +kernel
theorem dX12_seeBlock_26 : decode cX12_seeBlock 26 = .ok (.iaload, 1) := by decide +kernel
theorem dX12_seeBlock_27 : decode cX12_seeBlock 27 = .ok (.istore_n 3, 1) := by decide +kernel
theorem dX12_seeBlock_28 : decode cX12_seeBlock 28 = .ok (.goto (-16), 3) := by decide +kernel
theorem dX12_seeBlock_31 : decode cX12_seeBlock 31 = .ok (.aload_n 0, 1) := by decide +kernel
theorem dX12_seeBlock_32 : decode cX12_seeBlock 32 = .ok (.iload_n 2, 1) := by decide +kernel
theorem dX12_seeBlock_33 : decode cX12_seeBlock 33 = .ok (.putfield 506, 3) := by decide +kernel
theorem dX12_seeBlock_36 : decode cX12_seeBlock 36 = .ok (.return_, 1) := by decide +kernel
theorem dX12_seeStatement_0 : decode cX12_seeStatement 0 = .ok (.aload_n 0, 1) := by decide +kernel
theorem dX12_seeStatement_1 : decode cX12_seeStatement 1 = .ok (.getfield 49, 3) := by decide +kernel
theorem dX12_seeStatement_4 : decode cX12_seeStatement 4 = .ok (.iload_n 1, 1) := by decide +kernel
theorem dX12_seeStatement_5 : decode cX12_seeStatement 5 = .ok (.iaload, 1) := by decide +kernel
theorem dX12_seeStatement_6 : decode cX12_seeStatement 6 = .ok (.bipush 21, 2) := by decide +kernel
theorem dX12_seeStatement_8 : decode cX12_seeStatement 8 = .ok (.if_icmp .ne 13, 3) := by decide +kernel
theorem dX12_seeStatement_11 : decode cX12_seeStatement 11 = .ok (.aload_n 0, 1) := by decide +kernel
theorem dX12_seeStatement_12 : decode cX12_seeStatement 12 = .ok (.aload_n 0, 1) := by decide +kernel
theorem dX12_seeStatement_13 : decode cX12_seeStatement 13 = .ok (.getfield 55, 3) := by decide +kernel
theorem dX12_seeStatement_16 : decode cX12_seeStatement 16 = .ok (.iload_n 1, 1) := by decide +kernel
theorem dX12_seeStatement_17 : decode cX12_seeStatement 17 = .ok (.iaload, 1) := by decide +kernel
theorem dX12_seeStatement_18 : decode cX12_seeStatement 18 = .ok (.invokevirtual 512, 3) := by decide +kernel
theorem dX12_seeStatement_21 : decode cX12_seeStatement 21 = .ok (.aload_n 0, 1) := by decide +kernel
theorem dX12_seeStatement_22 : decode cX12_seeStatement 22 = .ok (.getfield 49, 3) := by decide +kernel
theorem dX12_seeStatement_25 : decode cX12_seeStatement 25 = .ok (.iload_n 1, 1) := by decide +kernel
theorem dX12_seeStatement_26 : decode cX12_seeStatement 26 = .ok (.iaload, 1) := by decide +kernel
theorem dX12_seeStatement_27 : decode cX12_seeStatement 27 = .ok (.bipush 27, 2) := by decide +kernel
theorem dX12_seeStatement_29 : decode cX12_seeStatement 29 = .ok (.if_icmp .eq 14, 3) := by decide +kernel
theorem dX12_seeStatement_32 : decode cX12_seeStatement 32 = .ok (.aload_n 0, 1) := by decide +kernel
theorem dX12_seeStatement_33 : decode cX12_seeStatement 33 = .ok (.getfield 49, 3) := by decide +kernel
theorem dX12_seeStatement_36 : decode cX12_seeStatement 36 = .ok (.iload_n 1, 1) := by decide +kernel
theorem dX12_seeStatement_37 : decode cX12_seeStatement 37 = .ok (.iaload, 1) := by decide +kernel
theorem dX12_seeStatement_38 : decode cX12_seeStatement 38 = .ok (.bipush 28, 2) := by decide +kernel
theorem dX12_seeStatement_40 : decode cX12_seeStatement 40 = .ok (.if_icmp .ne 13, 3) := by decide +kernel
theorem dX12_seeStatement_43 : decode cX12_seeStatement 43 = .ok (.aload_n 0, 1) := by decide +kernel
theorem dX12_seeStatement_44 : decode cX12_seeStatement 44 = .ok (.aload_n 0, 1) := by decide +kernel
theorem dX12_seeStatement_45 : decode cX12_seeStatement 45 = .ok (.getfield 58, 3) := by decide +kernel
theorem dX12_seeStatement_48 : decode cX12_seeStatement 48 = .ok (.iload_n 1, 1) := by decide +kernel
theorem dX12_seeStatement_49 : decode cX12_seeStatement 49 = .ok (.iaload, 1) := by decide +kernel
theorem dX12_seeStatement_50 : decode cX12_seeStatement 50 = .ok (.invokevirtual 515, 3) := by decide +kernel
theorem dX12_seeStatement_53 : decode cX12_seeStatement 53 = .ok (.aload_n 0, 1) := by decide +kernel
theorem dX12_seeStatement_54 : decode cX12_seeStatement 54 = .ok (.getfield 49, 3) := by decide +kernel
theorem dX12_seeStatement_57 : decode cX12_seeStatement 57 = .ok (.iload_n 1, 1) := by decide +kernel
theorem dX12_seeStatement_58 : decode cX12_seeStatement 58 = .ok (.iaload, 1) := by decide +kernel
theorem dX12_seeStatement_59 : decode cX12_seeStatement 59 = .ok (.bipush 27, 2) := by decide +kernel
theorem dX12_seeStatement_61 : decode cX12_seeStatement 61 = .ok (.if_icmp .ne 51, 3) := by decide +kernel
theorem dX12_seeStatement_64 : decode cX12_seeStatement 64 = .ok (.aload_n 0, 1) := by decide +kernel
theorem dX12_seeStatement_65 : decode cX12_seeStatement 65 = .ok (.getfield 61, 3) := by decide +kernel
theorem dX12_seeStatement_68 : decode cX12_seeStatement 68 = .ok (.iload_n 1, 1) := by decide +kernel
theorem dX12_seeStatement_69 : decode cX12_seeStatement 69 = .ok (.iaload, 1) := by decide +kernel
theorem dX12_seeStatement_70 : decode cX12_seeStatement 70 = .ok (.ifCond .lt 42, 3) := by decide +kernel
theorem dX12_seeStatement_73 : decode cX12_seeStatement 73 = .ok (.aload_n 0, 1) := by decide +kernel
theorem dX12_seeStatement_74 : decode cX12_seeStatement 74 = .ok (.getfield 49, 3) := by decide +kernel
theorem dX12_seeStatement_77 : decode cX12_seeStatement 77 = .ok (.aload_n 0, 1) := by decide +kernel
theorem dX12_seeStatement_78 : decode cX12_seeStatement 78 = .ok (.getfield 61, 3) := by decide +kernel
theorem dX12_seeStatement_81 : decode cX12_seeStatement 81 = .ok (.iload_n 1, 1) := by decide +kernel
theorem dX12_seeStatement_82 : decode cX12_seeStatement 82 = .ok (.iaload, 1) := by decide +kernel
theorem dX12_seeStatement_83 : decode cX12_seeStatement 83 = .ok (.iaload, 1) := by decide +kernel
theorem dX12_seeStatement_84 : decode cX12_seeStatement 84 = .ok (.bipush 27, 2) := by decide +kernel
theorem dX12_seeStatement_86 : decode cX12_seeStatement 86 = .ok (.if_icmp .ne 16, 3) := by decide +kernel
theorem dX12_seeStatement_89 : decode cX12_seeStatement 89 = .ok (.aload_n 0, 1) := by decide +kernel
theorem dX12_seeStatement_90 : decode cX12_seeStatement 90 = .ok (.aload_n 0, 1) := by decide +kernel
theorem dX12_seeStatement_91 : decode cX12_seeStatement 91 = .ok (.getfield 61, 3) := by decide +kernel
theorem dX12_seeStatement_94 : decode cX12_seeStatement 94 = .ok (.iload_n 1, 1) := by decide +kernel
theorem dX12_seeStatement_95 : decode cX12_seeStatement 95 = .ok (.iaload, 1) := by decide +kernel
theorem dX12_seeStatement_96 : decode cX12_seeStatement 96 = .ok (.invokevirtual 518, 3) := by decide +kernel
theorem dX12_seeStatement_99 : decode cX12_seeStatement 99 = .ok (.goto 13, 3) := by decide +kernel
theorem dX12_seeStatement_102 : decode cX12_seeStatement 102 = .ok (.aload_n 0, 1) := by decide +kernel
theorem dX12_seeStatement_103 : decode cX12_seeStatement 103 = .ok (.aload_n 0, 1) := by decide +kernel
theorem dX12_seeStatement_104 : decode cX12_seeStatement 104 = .ok (.getfield 61, 3) := by decide +kernel
theorem dX12_seeStatement_107 : decode cX12_seeStatement 107 = .ok (.iload_n 1, 1) := by decide +kernel
theorem dX12_seeStatement_108 : decode cX12_seeStatement 108 = .ok (.iaload, 1) := by decide +kernel
theorem dX12_seeStatement_109 : decode cX12_seeStatement 109 = .ok (.invokevirtual 515, 3) := by decide +kernel
theorem dX12_seeStatement_112 : decode cX12_seeStatement 112 = .ok (.return_, 1) := by decide +kernel
def F_X12_seeBlock (rec : GF) (p0 : Int32) (σ : MS) : MR :=
  if p0 < 0 ∨ 40000 ≤ p0.toNatClampNeg then none else
  bnd ((σ.2 19 p0.toNatClampNeg)) fun (x_3 : Int32) =>
  loopF (fun (again_6 : (Int32 × MS) → MR) (s_5 : Int32 × MS) => (
    if s_5.1 < 0 then (
      bnd (mI s_5.2 33 (σ.1 33)) fun σ_11 =>
      some (0, σ_11)
    ) else (
      (rec 1 s_5.1 0 0 s_5.2).bind fun u_14 =>
      if s_5.1 < 0 ∨ 40000 ≤ s_5.1.toNatClampNeg then none else
      bnd ((u_14.2.2 22 s_5.1.toNatClampNeg)) fun (x_18 : Int32) =>
      again_6 (x_18, u_14.2)
    )
  )) FU (x_3, σ)
set_option maxHeartbeats 4000000 in
set_option maxRecDepth 100000 in
theorem m_X12_seeBlock_st (l : Launch) (dC : Nat → ClassId) (dI : Nat → Nat → Nat) (cB cC cI cJ cZ cP : ClassId) (h qK qS : Nat) (ad : Nat → Nat) (hDD : mDis cB cI cZ h qK qS ad) (d : Nat) (rec : GF) (hI0 : ∀ (sz : Nat) (p0 : Int32) (σ : MS) (res : Int32 × MS), rec 0 p0 0 0 σ = some res → Met l yX12_seeBlock (g_ws yX12_seeBlock cX12_seeBlock 4 none) ({ frames := 3 + d, cells := 0, slots := 0, locals := 85 + 23 * d }) (va_Pc [.ref h, .int p0] (m_B (dC, dI) [(cB, .byte), (cC, .char), (cI, .int), (cJ, .long), (cZ, .boolean), (cP, .object "StoryHouse$Play")] sz h ad qK qS (mW cB cI cZ h qK qS ad σ) g_0)) (va_Qv (fun (_ : Unit) => True) (fun _ t => va_P (dC, dI) vwCl (mW cB cI cZ h qK qS ad res.2) t.heap) (mCells h ad sz)) 0 0 (mCells h ad sz)) (hI1 : ∀ (sz : Nat) (p0 : Int32) (σ : MS) (res : Int32 × MS), rec 1 p0 0 0 σ = some res → Met l yX12_seeStatement (g_ws yX12_seeStatement cX12_seeStatement 2 none) ({ frames := 3 + d, cells := 0, slots := 0, locals := 85 + 23 * d }) (va_Pc [.ref h, .int p0] (m_B (dC, dI) [(cB, .byte), (cC, .char), (cI, .int), (cJ, .long), (cZ, .boolean), (cP, .object "StoryHouse$Play")] sz h ad qK qS (mW cB cI cZ h qK qS ad σ) g_0)) (va_Qv (fun (_ : Unit) => True) (fun _ t => va_P (dC, dI) vwCl (mW cB cI cZ h qK qS ad res.2) t.heap) (mCells h ad sz)) 0 0 (mCells h ad sz)) (sz : Nat)  (p0 : Int32) (σ : MS) (res : Int32 × MS) (hF : F_X12_seeBlock rec p0 σ = some res) : Met l yX12_seeBlock (g_ws yX12_seeBlock cX12_seeBlock 4 none) ({ frames := 3 + (d + 1), cells := 0, slots := 0, locals := 85 + 23 * (d + 1) }) (va_Pc [.ref h, .int p0] (m_B (dC, dI) [(cB, .byte), (cC, .char), (cI, .int), (cJ, .long), (cZ, .boolean), (cP, .object "StoryHouse$Play")] sz h ad qK qS (mW cB cI cZ h qK qS ad σ) g_0)) (va_Qv (fun (_ : Unit) => True) (fun _ t => va_P (dC, dI) vwCl (mW cB cI cZ h qK qS ad res.2) t.heap) (mCells h ad sz)) 0 0 (mCells h ad sz) := by
  refine Met.ofW (cc := cX12_seeBlock) (maxL := 4) (ret := none) (by decide) rfl ?_
  intro p e s m args below meth c s₁ B hml hv
  obtain ⟨rfl, hsz, hP, hK, hE, hKS, hX⟩ := hv
  have hx := B.exec
  have hb := B.bytes
  have hr := B.returns
  have hts0 := atoms_spec (ws := g_ws yX12_seeBlock cX12_seeBlock 4 none) B.pre
  have hts : ∀ w ∈ lw_good, w.before ([.ref h, .int p0] : List Value).toArray s = true := fun w z => hts0 w (List.mem_cons_of_mem _ z)
  have hown : s.vm.findClass RX12 = some m.cls := findClass_of_methodNamed B.named
  have hlocks := B.notSynchronized
  have hS : va_S (mCells h ad sz) s.heap s.heap [] := va_S.rf
  have hl := lv_entry ([.ref h, .int p0]) (n := 4) (Nat.le_of_ble_eq_true rfl)
  rw [lg_entry_eq]
  generalize (lg_sl ([.ref h, .int p0]) ++ List.replicate (4 - (lg_sl ([.ref h, .int p0])).length) Slot.unset).toArray = ls at hl ⊢
  have hl : lv_has ls 4 [(0, .ref h), (1, .int p0)] := hl
  unfold F_X12_seeBlock at hF
  refine lv_aload_n hx hb dX12_seeBlock_0 rfl (lv_at hl 0 rfl) ?_
  refine va_get (D := (dC, dI)) (ci := 12) (v := .int (σ.1 33)) (C := RX12) (T := TX12) (N := 123) hx hb hts ii_X12 hown hK hP 0 rfl rfl 33 (by decide) (hts (.fieldLink RX12 506 "StoryHouseModel" "seenCount" "I") wq_1389) (fun _ h9 => h9) rfl dX12_seeBlock_1 ?_
  refine lv_istore_n (lv' := [(2, .int (σ.1 33)), (0, .ref h), (1, .int p0)]) hx hb dX12_seeBlock_4 rfl hl (by decide) rfl (fun ls hl => ?_)
  refine lv_aload_n hx hb dX12_seeBlock_5 rfl (lv_at hl 1 rfl) ?_
  refine va_get (D := (dC, dI)) (ci := 12) (v := .ref (ad 19)) (C := RX12) (T := TX12) (N := 123) hx hb hts ii_X12 hown hK hP 0 rfl rfl 19 (by decide) (hts (.fieldLink RX12 55 "StoryHouseModel" "a" "[I") wq_1375) (fun _ h9 => h9) rfl dX12_seeBlock_6 ?_
  refine lv_iload_n hx hb dX12_seeBlock_9 rfl (lv_at hl 2 rfl) ?_
  obtain ⟨g_1, hF_2⟩ := nif_e hF
  clear hF
  refine va_iald (f := σ.2 19) hx hb hK hP 10 2 rfl rfl g_1 dX12_seeBlock_10 ?_
  obtain ⟨x_3, ex_3, hF_4⟩ := bnd_e hF_2
  clear hF_2
  refine m_top ex_3 ?_
  refine lv_istore_n (lv' := [(3, .int x_3), (2, .int (σ.1 33)), (0, .ref h), (1, .int p0)]) hx hb dX12_seeBlock_11 rfl hl (by decide) rfl (fun ls hl => ?_)
  refine loopF_ind (P := fun (s_5 : Int32 × MS) => ∀ (H : Heap) (locs : List Loc), va_P (dC, dI) vwCl (mW cB cI cZ h qK qS ad s_5.2) H → va_S (mCells h ad sz) s.heap H locs → ∀ ls : Array Slot, lv_has ls 4 [(0, .ref h), (2, .int (σ.1 33)), (3, .int s_5.1)] → W p l e (headSpec (g_ws yX12_seeBlock cX12_seeBlock 4 none) { frames := 3 + (d + 1), cells := 0, slots := 0, locals := 85 + 23 * (d + 1) }).room s m ([.ref h, .int p0] : List Value).toArray below meth c H locs 0 0 (MQ below (va_Qv (fun (_ : Unit) => True) (fun _ t => va_P (dC, dI) vwCl (mW cB cI cZ h qK qS ad res.2) t.heap) (mCells h ad sz)) ([.ref h, .int p0] : List Value).toArray s 0 0 (mCells h ad sz)) (F0 m 12 ls [])) ?_ _ _ hF_4 _ _ hP hS ls (lv_sub hl [2, 1, 0] rfl)
  intro again_6 s_5 ih_7 hF_8
  intro H locs hP hS ls hl
  refine lv_iload_n hx hb dX12_seeBlock_12 rfl (lv_at hl 2 rfl) ?_
  refine lv_if_lt (tgt := 31) hx hb dX12_seeBlock_13 (by decide) (fun c_9 => ?_) (fun c_9 => ?_)
  · have hF_10 := ipos c_9 hF_8
    clear hF_8
    refine lv_aload_n hx hb dX12_seeBlock_31 rfl (lv_at hl 0 rfl) ?_
    refine lv_iload_n hx hb dX12_seeBlock_32 rfl (lv_at hl 1 rfl) ?_
    obtain ⟨σ_11, eσ_11, hF_12⟩ := bnd_e hF_10
    clear hF_10
    refine m_put (σ' := σ_11) (v := .int (σ.1 33)) (ty := .int) hx hb hts hown hK hP (hDD _ _) hS (by rw [eσ_11]; exact mwI_33) (k := 33) (by decide) (hts (.fieldLink RX12 506 "StoryHouseModel" "seenCount" "I") wq_1389) (fun _ h9 => h9) rfl (by decide +kernel) rfl rfl dX12_seeBlock_33 (fun H locs hP hS => ?_)
    have h9 := Option.some.inj hF_12
    subst h9
    exact W.vret hx hb hr (fun t ht hW => ⟨⟨(), rfl, trivial, m_end ht hP⟩, hS.F ht⟩) hS.2.2 dX12_seeBlock_36
  · have hF_13 := ineg c_9 hF_8
    clear hF_8
    refine lv_aload_n hx hb dX12_seeBlock_16 rfl (lv_at hl 0 rfl) ?_
    refine lv_iload_n hx hb dX12_seeBlock_17 rfl (lv_at hl 2 rfl) ?_
    obtain ⟨u_14, hu_14, hF_15⟩ := Option.bind_eq_some_iff.mp hF_13
    clear hF_13
    refine m_cv hsz hS (va_runV (As := [.int s_5.1]) (rest := []) ⟨hx, hb, hml, hown, hts⟩ (hI1 H.size s_5.1 s_5.2 _ hu_14) (cwV 1 hts (g_gV wq_1675 wq_1676 wq_2170 wq_13 wq_1677) rfl rfl rfl (by decide +kernel) ⟨by show 3 + d + 1 ≤ 3 + (d + 1); omega, by show 8 + (2 + 11) + (85 + 23 * d) ≤ 85 + 23 * (d + 1); omega⟩) (m_preV g_bl0 hsz hK hP hS hE hKS g_to0) rfl rfl hl.1 rfl (lv_room (Nat.le_of_ble_eq_true rfl)) dX12_seeBlock_18 ⟨Nat.le_of_ble_eq_true rfl, Nat.le_of_ble_eq_true rfl⟩) (fun H locs hP hS => ?_)
    refine lv_aload_n hx hb dX12_seeBlock_21 rfl (lv_at hl 0 rfl) ?_
    refine va_get (D := (dC, dI)) (ci := 12) (v := .ref (ad 22)) (C := RX12) (T := TX12) (N := 123) hx hb hts ii_X12 hown hK hP 0 rfl rfl 22 (by decide) (hts (.fieldLink RX12 64 "StoryHouseModel" "then" "[I") wq_1378) (fun _ h9 => h9) rfl dX12_seeBlock_22 ?_
    refine lv_iload_n hx hb dX12_seeBlock_25 rfl (lv_at hl 2 rfl) ?_
    obtain ⟨g_16, hF_17⟩ := nif_e hF_15
    clear hF_15
    refine va_iald (f := u_14.2.2 22) hx hb hK hP 13 2 rfl rfl g_16 dX12_seeBlock_26 ?_
    obtain ⟨x_18, ex_18, hF_19⟩ := bnd_e hF_17
    clear hF_17
    refine m_top ex_18 ?_
    refine lv_istore_n (lv' := [(3, .int x_18), (0, .ref h), (2, .int (σ.1 33))]) hx hb dX12_seeBlock_27 rfl hl (by decide) rfl (fun ls hl => ?_)
    refine lv_goto (tgt := 12) hx hb dX12_seeBlock_28 (by decide) ?_
    exact ih_7 (x_18, u_14.2) hF_19 _ _ hP hS ls (lv_sub hl [1, 2, 0] rfl)

def F_X12_seeStatement (rec : GF) (p0 : Int32) (σ : MS) : MR :=
  if p0 < 0 ∨ 40000 ≤ p0.toNatClampNeg then none else
  bnd (fun  (σ_3 : MS) => (
    if p0 < 0 ∨ 40000 ≤ p0.toNatClampNeg then none else
    bnd (fun  (σ_9 : MS) => (
      if p0 < 0 ∨ 40000 ≤ p0.toNatClampNeg then none else
      if (σ_9.2 17 p0.toNatClampNeg) = 27 then (
        if p0 < 0 ∨ 40000 ≤ p0.toNatClampNeg then none else
        if (σ_9.2 21 p0.toNatClampNeg) < 0 then (
          some (0, σ_9)
        ) else (
          if p0 < 0 ∨ 40000 ≤ p0.toNatClampNeg then none else
          bnd ((σ_9.2 21 p0.toNatClampNeg)) fun (x_24 : Int32) =>
          if x_24 < 0 ∨ 40000 ≤ x_24.toNatClampNeg then none else
          if (σ_9.2 17 x_24.toNatClampNeg) = 27 then (
            if p0 < 0 ∨ 40000 ≤ p0.toNatClampNeg then none else
            (rec 1 (σ_9.2 21 p0.toNatClampNeg) 0 0 σ_9).bind fun u_32 =>
            some (0, u_32.2)
          ) else (
            if p0 < 0 ∨ 40000 ≤ p0.toNatClampNeg then none else
            (rec 0 (σ_9.2 21 p0.toNatClampNeg) 0 0 σ_9).bind fun u_37 =>
            some (0, u_37.2)
          )
        )
      ) else (
        some (0, σ_9)
      )
    ) : MS → MR) fun j_10 =>
    bnd (fun  (σ_40 : MS) => (
      if p0 < 0 ∨ 40000 ≤ p0.toNatClampNeg then none else
      (rec 0 (σ_40.2 20 p0.toNatClampNeg) 0 0 σ_40).bind fun u_46 =>
      j_10  u_46.2
    ) : MS → MR) fun j_41 =>
    if (σ_3.2 17 p0.toNatClampNeg) = 27 then (
      j_41  σ_3
    ) else (
      if p0 < 0 ∨ 40000 ≤ p0.toNatClampNeg then none else
      if (σ_3.2 17 p0.toNatClampNeg) = 28 then (
        j_41  σ_3
      ) else (
        j_10  σ_3
      )
    )
  ) : MS → MR) fun j_4 =>
  if (σ.2 17 p0.toNatClampNeg) = 21 then (
    if p0 < 0 ∨ 40000 ≤ p0.toNatClampNeg then none else
    (F_X12_seeAnew (σ.2 19 p0.toNatClampNeg) σ).bind fun u_60 =>
    j_4  u_60.2
  ) else (
    j_4  σ
  )
set_option maxHeartbeats 4000000 in
set_option maxRecDepth 100000 in
theorem m_X12_seeStatement_st (l : Launch) (dC : Nat → ClassId) (dI : Nat → Nat → Nat) (cB cC cI cJ cZ cP : ClassId) (h qK qS : Nat) (ad : Nat → Nat) (hDD : mDis cB cI cZ h qK qS ad) (d : Nat) (rec : GF) (hI0 : ∀ (sz : Nat) (p0 : Int32) (σ : MS) (res : Int32 × MS), rec 0 p0 0 0 σ = some res → Met l yX12_seeBlock (g_ws yX12_seeBlock cX12_seeBlock 4 none) ({ frames := 3 + d, cells := 0, slots := 0, locals := 85 + 23 * d }) (va_Pc [.ref h, .int p0] (m_B (dC, dI) [(cB, .byte), (cC, .char), (cI, .int), (cJ, .long), (cZ, .boolean), (cP, .object "StoryHouse$Play")] sz h ad qK qS (mW cB cI cZ h qK qS ad σ) g_0)) (va_Qv (fun (_ : Unit) => True) (fun _ t => va_P (dC, dI) vwCl (mW cB cI cZ h qK qS ad res.2) t.heap) (mCells h ad sz)) 0 0 (mCells h ad sz)) (hI1 : ∀ (sz : Nat) (p0 : Int32) (σ : MS) (res : Int32 × MS), rec 1 p0 0 0 σ = some res → Met l yX12_seeStatement (g_ws yX12_seeStatement cX12_seeStatement 2 none) ({ frames := 3 + d, cells := 0, slots := 0, locals := 85 + 23 * d }) (va_Pc [.ref h, .int p0] (m_B (dC, dI) [(cB, .byte), (cC, .char), (cI, .int), (cJ, .long), (cZ, .boolean), (cP, .object "StoryHouse$Play")] sz h ad qK qS (mW cB cI cZ h qK qS ad σ) g_0)) (va_Qv (fun (_ : Unit) => True) (fun _ t => va_P (dC, dI) vwCl (mW cB cI cZ h qK qS ad res.2) t.heap) (mCells h ad sz)) 0 0 (mCells h ad sz)) (sz : Nat)  (p0 : Int32) (σ : MS) (res : Int32 × MS) (hF : F_X12_seeStatement rec p0 σ = some res) : Met l yX12_seeStatement (g_ws yX12_seeStatement cX12_seeStatement 2 none) ({ frames := 3 + (d + 1), cells := 0, slots := 0, locals := 85 + 23 * (d + 1) }) (va_Pc [.ref h, .int p0] (m_B (dC, dI) [(cB, .byte), (cC, .char), (cI, .int), (cJ, .long), (cZ, .boolean), (cP, .object "StoryHouse$Play")] sz h ad qK qS (mW cB cI cZ h qK qS ad σ) g_0)) (va_Qv (fun (_ : Unit) => True) (fun _ t => va_P (dC, dI) vwCl (mW cB cI cZ h qK qS ad res.2) t.heap) (mCells h ad sz)) 0 0 (mCells h ad sz) := by
  refine Met.ofW (cc := cX12_seeStatement) (maxL := 2) (ret := none) (by decide) rfl ?_
  intro p e s m args below meth c s₁ B hml hv
  obtain ⟨rfl, hsz, hP, hK, hE, hKS, hX⟩ := hv
  have hx := B.exec
  have hb := B.bytes
  have hr := B.returns
  have hts0 := atoms_spec (ws := g_ws yX12_seeStatement cX12_seeStatement 2 none) B.pre
  have hts : ∀ w ∈ lw_good, w.before ([.ref h, .int p0] : List Value).toArray s = true := fun w z => hts0 w (List.mem_cons_of_mem _ z)
  have hown : s.vm.findClass RX12 = some m.cls := findClass_of_methodNamed B.named
  have hlocks := B.notSynchronized
  have hS : va_S (mCells h ad sz) s.heap s.heap [] := va_S.rf
  have hl := lv_entry ([.ref h, .int p0]) (n := 2) (Nat.le_of_ble_eq_true rfl)
  rw [lg_entry_eq]
  generalize (lg_sl ([.ref h, .int p0]) ++ List.replicate (2 - (lg_sl ([.ref h, .int p0])).length) Slot.unset).toArray = ls at hl ⊢
  have hl : lv_has ls 2 [(0, .ref h), (1, .int p0)] := hl
  unfold F_X12_seeStatement at hF
  refine lv_aload_n hx hb dX12_seeStatement_0 rfl (lv_at hl 0 rfl) ?_
  refine va_get (D := (dC, dI)) (ci := 12) (v := .ref (ad 17)) (C := RX12) (T := TX12) (N := 123) hx hb hts ii_X12 hown hK hP 0 rfl rfl 17 (by decide) (hts (.fieldLink RX12 49 "StoryHouseModel" "what" "[I") wq_1373) (fun _ h9 => h9) rfl dX12_seeStatement_1 ?_
  refine lv_iload_n hx hb dX12_seeStatement_4 rfl (lv_at hl 1 rfl) ?_
  obtain ⟨g_1, hF_2⟩ := nif_e hF
  clear hF
  refine va_iald (f := σ.2 17) hx hb hK hP 8 2 rfl rfl g_1 dX12_seeStatement_5 ?_
  refine lv_bipush (v := 21) hx hb dX12_seeStatement_6 (by decide +kernel) ?_
  obtain ⟨j_4, ej_4, hF_5⟩ := bnd_e hF_2
  clear hF_2
  have Jj_4 : ∀  (σ_3 : MS), j_4  σ_3 = some res → ∀ (H : Heap) (locs : List Loc), va_P (dC, dI) vwCl (mW cB cI cZ h qK qS ad σ_3) H → va_S (mCells h ad sz) s.heap H locs → ∀ ls : Array Slot, lv_has ls 2 [(0, .ref h), (1, .int p0)] → W p l e (headSpec (g_ws yX12_seeStatement cX12_seeStatement 2 none) { frames := 3 + (d + 1), cells := 0, slots := 0, locals := 85 + 23 * (d + 1) }).room s m ([.ref h, .int p0] : List Value).toArray below meth c H locs 0 0 (MQ below (va_Qv (fun (_ : Unit) => True) (fun _ t => va_P (dC, dI) vwCl (mW cB cI cZ h qK qS ad res.2) t.heap) (mCells h ad sz)) ([.ref h, .int p0] : List Value).toArray s 0 0 (mCells h ad sz)) (F0 m 21 ls []) := by
    intro  σ_3 hF0 H locs hP hS ls hl
    subst ej_4
    have hF_6 := hF0
    clear hF0
    refine lv_aload_n hx hb dX12_seeStatement_21 rfl (lv_at hl 0 rfl) ?_
    refine va_get (D := (dC, dI)) (ci := 12) (v := .ref (ad 17)) (C := RX12) (T := TX12) (N := 123) hx hb hts ii_X12 hown hK hP 0 rfl rfl 17 (by decide) (hts (.fieldLink RX12 49 "StoryHouseModel" "what" "[I") wq_1373) (fun _ h9 => h9) rfl dX12_seeStatement_22 ?_
    refine lv_iload_n hx hb dX12_seeStatement_25 rfl (lv_at hl 1 rfl) ?_
    obtain ⟨g_7, hF_8⟩ := nif_e hF_6
    clear hF_6
    refine va_iald (f := σ_3.2 17) hx hb hK hP 8 2 rfl rfl g_7 dX12_seeStatement_26 ?_
    refine lv_bipush (v := 27) hx hb dX12_seeStatement_27 (by decide +kernel) ?_
    obtain ⟨j_10, ej_10, hF_11⟩ := bnd_e hF_8
    clear hF_8
    have Jj_10 : ∀  (σ_9 : MS), j_10  σ_9 = some res → ∀ (H : Heap) (locs : List Loc), va_P (dC, dI) vwCl (mW cB cI cZ h qK qS ad σ_9) H → va_S (mCells h ad sz) s.heap H locs → ∀ ls : Array Slot, lv_has ls 2 [(0, .ref h), (1, .int p0)] → W p l e (headSpec (g_ws yX12_seeStatement cX12_seeStatement 2 none) { frames := 3 + (d + 1), cells := 0, slots := 0, locals := 85 + 23 * (d + 1) }).room s m ([.ref h, .int p0] : List Value).toArray below meth c H locs 0 0 (MQ below (va_Qv (fun (_ : Unit) => True) (fun _ t => va_P (dC, dI) vwCl (mW cB cI cZ h qK qS ad res.2) t.heap) (mCells h ad sz)) ([.ref h, .int p0] : List Value).toArray s 0 0 (mCells h ad sz)) (F0 m 53 ls []) := by
      intro  σ_9 hF0 H locs hP hS ls hl
      subst ej_10
      have hF_12 := hF0
      clear hF0
      refine lv_aload_n hx hb dX12_seeStatement_53 rfl (lv_at hl 0 rfl) ?_
      refine va_get (D := (dC, dI)) (ci := 12) (v := .ref (ad 17)) (C := RX12) (T := TX12) (N := 123) hx hb hts ii_X12 hown hK hP 0 rfl rfl 17 (by decide) (hts (.fieldLink RX12 49 "StoryHouseModel" "what" "[I") wq_1373) (fun _ h9 => h9) rfl dX12_seeStatement_54 ?_
      refine lv_iload_n hx hb dX12_seeStatement_57 rfl (lv_at hl 1 rfl) ?_
      obtain ⟨g_13, hF_14⟩ := nif_e hF_12
      clear hF_12
      refine va_iald (f := σ_9.2 17) hx hb hK hP 8 2 rfl rfl g_13 dX12_seeStatement_58 ?_
      refine lv_bipush (v := 27) hx hb dX12_seeStatement_59 (by decide +kernel) ?_
      refine lv_icmp_ne (tgt := 112) hx hb dX12_seeStatement_61 (by decide) (fun c_15 => ?_) (fun c_15 => ?_)
      · have hF_39 := ineg c_15 hF_14
        clear hF_14
        have h9 := Option.some.inj hF_39
        subst h9
        exact W.vret hx hb hr (fun t ht hW => ⟨⟨(), rfl, trivial, m_end ht hP⟩, hS.F ht⟩) hS.2.2 dX12_seeStatement_112
      · have hF_16 := ipos c_15 hF_14
        clear hF_14
        refine lv_aload_n hx hb dX12_seeStatement_64 rfl (lv_at hl 0 rfl) ?_
        refine va_get (D := (dC, dI)) (ci := 12) (v := .ref (ad 21)) (C := RX12) (T := TX12) (N := 123) hx hb hts ii_X12 hown hK hP 0 rfl rfl 21 (by decide) (hts (.fieldLink RX12 61 "StoryHouseModel" "d" "[I") wq_1377) (fun _ h9 => h9) rfl dX12_seeStatement_65 ?_
        refine lv_iload_n hx hb dX12_seeStatement_68 rfl (lv_at hl 1 rfl) ?_
        obtain ⟨g_17, hF_18⟩ := nif_e hF_16
        clear hF_16
        refine va_iald (f := σ_9.2 21) hx hb hK hP 12 2 rfl rfl g_17 dX12_seeStatement_69 ?_
        refine lv_if_lt (tgt := 112) hx hb dX12_seeStatement_70 (by decide) (fun c_19 => ?_) (fun c_19 => ?_)
        · have hF_20 := ipos c_19 hF_18
          clear hF_18
          have h9 := Option.some.inj hF_20
          subst h9
          exact W.vret hx hb hr (fun t ht hW => ⟨⟨(), rfl, trivial, m_end ht hP⟩, hS.F ht⟩) hS.2.2 dX12_seeStatement_112
        · have hF_21 := ineg c_19 hF_18
          clear hF_18
          refine lv_aload_n hx hb dX12_seeStatement_73 rfl (lv_at hl 0 rfl) ?_
          refine va_get (D := (dC, dI)) (ci := 12) (v := .ref (ad 17)) (C := RX12) (T := TX12) (N := 123) hx hb hts ii_X12 hown hK hP 0 rfl rfl 17 (by decide) (hts (.fieldLink RX12 49 "StoryHouseModel" "what" "[I") wq_1373) (fun _ h9 => h9) rfl dX12_seeStatement_74 ?_
          refine lv_aload_n hx hb dX12_seeStatement_77 rfl (lv_at hl 0 rfl) ?_
          refine va_get (D := (dC, dI)) (ci := 12) (v := .ref (ad 21)) (C := RX12) (T := TX12) (N := 123) hx hb hts ii_X12 hown hK hP 0 rfl rfl 21 (by decide) (hts (.fieldLink RX12 61 "StoryHouseModel" "d" "[I") wq_1377) (fun _ h9 => h9) rfl dX12_seeStatement_78 ?_
          refine lv_iload_n hx hb dX12_seeStatement_81 rfl (lv_at hl 1 rfl) ?_
          obtain ⟨g_22, hF_23⟩ := nif_e hF_21
          clear hF_21
          refine va_iald (f := σ_9.2 21) hx hb hK hP 12 2 rfl rfl g_22 dX12_seeStatement_82 ?_
          obtain ⟨x_24, ex_24, hF_25⟩ := bnd_e hF_23
          clear hF_23
          refine m_top ex_24 ?_
          obtain ⟨g_26, hF_27⟩ := nif_e hF_25
          clear hF_25
          refine va_iald (f := σ_9.2 17) hx hb hK hP 8 2 rfl rfl g_26 dX12_seeStatement_83 ?_
          refine lv_bipush (v := 27) hx hb dX12_seeStatement_84 (by decide +kernel) ?_
          refine lv_icmp_ne (tgt := 102) hx hb dX12_seeStatement_86 (by decide) (fun c_28 => ?_) (fun c_28 => ?_)
          · have hF_34 := ineg c_28 hF_27
            clear hF_27
            refine lv_aload_n hx hb dX12_seeStatement_102 rfl (lv_at hl 0 rfl) ?_
            refine lv_aload_n hx hb dX12_seeStatement_103 rfl (lv_at hl 0 rfl) ?_
            refine va_get (D := (dC, dI)) (ci := 12) (v := .ref (ad 21)) (C := RX12) (T := TX12) (N := 123) hx hb hts ii_X12 hown hK hP 0 rfl rfl 21 (by decide) (hts (.fieldLink RX12 61 "StoryHouseModel" "d" "[I") wq_1377) (fun _ h9 => h9) rfl dX12_seeStatement_104 ?_
            refine lv_iload_n hx hb dX12_seeStatement_107 rfl (lv_at hl 1 rfl) ?_
            obtain ⟨g_35, hF_36⟩ := nif_e hF_34
            clear hF_34
            refine va_iald (f := σ_9.2 21) hx hb hK hP 12 2 rfl rfl g_35 dX12_seeStatement_108 ?_
            obtain ⟨u_37, hu_37, hF_38⟩ := Option.bind_eq_some_iff.mp hF_36
            clear hF_36
            refine m_cv hsz hS (va_runV (As := [.int (σ_9.2 21 p0.toNatClampNeg)]) (rest := []) ⟨hx, hb, hml, hown, hts⟩ (hI0 H.size (σ_9.2 21 p0.toNatClampNeg) σ_9 _ hu_37) (cwV 1 hts (g_gV wq_1672 wq_1673 wq_2169 wq_13 wq_1674) rfl rfl rfl (by decide +kernel) ⟨by show 3 + d + 1 ≤ 3 + (d + 1); omega, by show 8 + (4 + 11) + (85 + 23 * d) ≤ 85 + 23 * (d + 1); omega⟩) (m_preV g_bl0 hsz hK hP hS hE hKS g_to0) rfl rfl hl.1 rfl (lv_room (Nat.le_of_ble_eq_true rfl)) dX12_seeStatement_109 ⟨Nat.le_of_ble_eq_true rfl, Nat.le_of_ble_eq_true rfl⟩) (fun H locs hP hS => ?_)
            have h9 := Option.some.inj hF_38
            subst h9
            exact W.vret hx hb hr (fun t ht hW => ⟨⟨(), rfl, trivial, m_end ht hP⟩, hS.F ht⟩) hS.2.2 dX12_seeStatement_112
          · have hF_29 := ipos c_28 hF_27
            clear hF_27
            refine lv_aload_n hx hb dX12_seeStatement_89 rfl (lv_at hl 0 rfl) ?_
            refine lv_aload_n hx hb dX12_seeStatement_90 rfl (lv_at hl 0 rfl) ?_
            refine va_get (D := (dC, dI)) (ci := 12) (v := .ref (ad 21)) (C := RX12) (T := TX12) (N := 123) hx hb hts ii_X12 hown hK hP 0 rfl rfl 21 (by decide) (hts (.fieldLink RX12 61 "StoryHouseModel" "d" "[I") wq_1377) (fun _ h9 => h9) rfl dX12_seeStatement_91 ?_
            refine lv_iload_n hx hb dX12_seeStatement_94 rfl (lv_at hl 1 rfl) ?_
            obtain ⟨g_30, hF_31⟩ := nif_e hF_29
            clear hF_29
            refine va_iald (f := σ_9.2 21) hx hb hK hP 12 2 rfl rfl g_30 dX12_seeStatement_95 ?_
            obtain ⟨u_32, hu_32, hF_33⟩ := Option.bind_eq_some_iff.mp hF_31
            clear hF_31
            refine m_cv hsz hS (va_runV (As := [.int (σ_9.2 21 p0.toNatClampNeg)]) (rest := []) ⟨hx, hb, hml, hown, hts⟩ (hI1 H.size (σ_9.2 21 p0.toNatClampNeg) σ_9 _ hu_32) (cwV 1 hts (g_gV wq_1675 wq_1676 wq_2170 wq_13 wq_1677) rfl rfl rfl (by decide +kernel) ⟨by show 3 + d + 1 ≤ 3 + (d + 1); omega, by show 8 + (2 + 11) + (85 + 23 * d) ≤ 85 + 23 * (d + 1); omega⟩) (m_preV g_bl0 hsz hK hP hS hE hKS g_to0) rfl rfl hl.1 rfl (lv_room (Nat.le_of_ble_eq_true rfl)) dX12_seeStatement_96 ⟨Nat.le_of_ble_eq_true rfl, Nat.le_of_ble_eq_true rfl⟩) (fun H locs hP hS => ?_)
            refine lv_goto (tgt := 112) hx hb dX12_seeStatement_99 (by decide) ?_
            have h9 := Option.some.inj hF_33
            subst h9
            exact W.vret hx hb hr (fun t ht hW => ⟨⟨(), rfl, trivial, m_end ht hP⟩, hS.F ht⟩) hS.2.2 dX12_seeStatement_112
    obtain ⟨j_41, ej_41, hF_42⟩ := bnd_e hF_11
    clear hF_11
    have Jj_41 : ∀  (σ_40 : MS), j_41  σ_40 = some res → ∀ (H : Heap) (locs : List Loc), va_P (dC, dI) vwCl (mW cB cI cZ h qK qS ad σ_40) H → va_S (mCells h ad sz) s.heap H locs → ∀ ls : Array Slot, lv_has ls 2 [(0, .ref h), (1, .int p0)] → W p l e (headSpec (g_ws yX12_seeStatement cX12_seeStatement 2 none) { frames := 3 + (d + 1), cells := 0, slots := 0, locals := 85 + 23 * (d + 1) }).room s m ([.ref h, .int p0] : List Value).toArray below meth c H locs 0 0 (MQ below (va_Qv (fun (_ : Unit) => True) (fun _ t => va_P (dC, dI) vwCl (mW cB cI cZ h qK qS ad res.2) t.heap) (mCells h ad sz)) ([.ref h, .int p0] : List Value).toArray s 0 0 (mCells h ad sz)) (F0 m 43 ls []) := by
      intro  σ_40 hF0 H locs hP hS ls hl
      subst ej_41
      have hF_43 := hF0
      clear hF0
      refine lv_aload_n hx hb dX12_seeStatement_43 rfl (lv_at hl 0 rfl) ?_
      refine lv_aload_n hx hb dX12_seeStatement_44 rfl (lv_at hl 0 rfl) ?_
      refine va_get (D := (dC, dI)) (ci := 12) (v := .ref (ad 20)) (C := RX12) (T := TX12) (N := 123) hx hb hts ii_X12 hown hK hP 0 rfl rfl 20 (by decide) (hts (.fieldLink RX12 58 "StoryHouseModel" "b" "[I") wq_1376) (fun _ h9 => h9) rfl dX12_seeStatement_45 ?_
      refine lv_iload_n hx hb dX12_seeStatement_48 rfl (lv_at hl 1 rfl) ?_
      obtain ⟨g_44, hF_45⟩ := nif_e hF_43
      clear hF_43
      refine va_iald (f := σ_40.2 20) hx hb hK hP 11 2 rfl rfl g_44 dX12_seeStatement_49 ?_
      obtain ⟨u_46, hu_46, hF_47⟩ := Option.bind_eq_some_iff.mp hF_45
      clear hF_45
      refine m_cv hsz hS (va_runV (As := [.int (σ_40.2 20 p0.toNatClampNeg)]) (rest := []) ⟨hx, hb, hml, hown, hts⟩ (hI0 H.size (σ_40.2 20 p0.toNatClampNeg) σ_40 _ hu_46) (cwV 1 hts (g_gV wq_1672 wq_1673 wq_2169 wq_13 wq_1674) rfl rfl rfl (by decide +kernel) ⟨by show 3 + d + 1 ≤ 3 + (d + 1); omega, by show 8 + (4 + 11) + (85 + 23 * d) ≤ 85 + 23 * (d + 1); omega⟩) (m_preV g_bl0 hsz hK hP hS hE hKS g_to0) rfl rfl hl.1 rfl (lv_room (Nat.le_of_ble_eq_true rfl)) dX12_seeStatement_50 ⟨Nat.le_of_ble_eq_true rfl, Nat.le_of_ble_eq_true rfl⟩) (fun H locs hP hS => ?_)
      exact Jj_10  u_46.2 hF_47 _ _ hP hS ls (lv_sub hl [0, 1] rfl)
    refine lv_icmp_eq (tgt := 43) hx hb dX12_seeStatement_29 (by decide) (fun c_48 => ?_) (fun c_48 => ?_)
    · have hF_49 := ipos c_48 hF_42
      clear hF_42
      exact Jj_41  σ_3 hF_49 _ _ hP hS ls (lv_sub hl [0, 1] rfl)
    · have hF_50 := ineg c_48 hF_42
      clear hF_42
      refine lv_aload_n hx hb dX12_seeStatement_32 rfl (lv_at hl 0 rfl) ?_
      refine va_get (D := (dC, dI)) (ci := 12) (v := .ref (ad 17)) (C := RX12) (T := TX12) (N := 123) hx hb hts ii_X12 hown hK hP 0 rfl rfl 17 (by decide) (hts (.fieldLink RX12 49 "StoryHouseModel" "what" "[I") wq_1373) (fun _ h9 => h9) rfl dX12_seeStatement_33 ?_
      refine lv_iload_n hx hb dX12_seeStatement_36 rfl (lv_at hl 1 rfl) ?_
      obtain ⟨g_51, hF_52⟩ := nif_e hF_50
      clear hF_50
      refine va_iald (f := σ_3.2 17) hx hb hK hP 8 2 rfl rfl g_51 dX12_seeStatement_37 ?_
      refine lv_bipush (v := 28) hx hb dX12_seeStatement_38 (by decide +kernel) ?_
      refine lv_icmp_ne (tgt := 53) hx hb dX12_seeStatement_40 (by decide) (fun c_53 => ?_) (fun c_53 => ?_)
      · have hF_55 := ineg c_53 hF_52
        clear hF_52
        exact Jj_10  σ_3 hF_55 _ _ hP hS ls (lv_sub hl [0, 1] rfl)
      · have hF_54 := ipos c_53 hF_52
        clear hF_52
        exact Jj_41  σ_3 hF_54 _ _ hP hS ls (lv_sub hl [0, 1] rfl)
  refine lv_icmp_ne (tgt := 21) hx hb dX12_seeStatement_8 (by decide) (fun c_56 => ?_) (fun c_56 => ?_)
  · have hF_62 := ineg c_56 hF_5
    clear hF_5
    exact Jj_4  σ hF_62 _ _ hP hS ls (lv_sub hl [0, 1] rfl)
  · have hF_57 := ipos c_56 hF_5
    clear hF_5
    refine lv_aload_n hx hb dX12_seeStatement_11 rfl (lv_at hl 0 rfl) ?_
    refine lv_aload_n hx hb dX12_seeStatement_12 rfl (lv_at hl 0 rfl) ?_
    refine va_get (D := (dC, dI)) (ci := 12) (v := .ref (ad 19)) (C := RX12) (T := TX12) (N := 123) hx hb hts ii_X12 hown hK hP 0 rfl rfl 19 (by decide) (hts (.fieldLink RX12 55 "StoryHouseModel" "a" "[I") wq_1375) (fun _ h9 => h9) rfl dX12_seeStatement_13 ?_
    refine lv_iload_n hx hb dX12_seeStatement_16 rfl (lv_at hl 1 rfl) ?_
    obtain ⟨g_58, hF_59⟩ := nif_e hF_57
    clear hF_57
    refine va_iald (f := σ.2 19) hx hb hK hP 10 2 rfl rfl g_58 dX12_seeStatement_17 ?_
    obtain ⟨u_60, hu_60, hF_61⟩ := Option.bind_eq_some_iff.mp hF_59
    clear hF_59
    refine m_cv hsz hS (va_runV (As := [.int (σ.2 19 p0.toNatClampNeg)]) (rest := []) ⟨hx, hb, hml, hown, hts⟩ (m_X12_seeAnew l dC dI cB cC cI cJ cZ cP h qK qS ad hDD s.heap.size  (σ.2 19 p0.toNatClampNeg) σ _ hu_60) (cwV 1 hts (g_gV wq_1669 wq_1670 wq_2168 wq_13 wq_1671) rfl rfl rfl (by decide +kernel) ⟨by show 2 + 1 ≤ 3 + (d + 1); omega, by show 8 + (4 + 11) + 62 ≤ 85 + 23 * (d + 1); omega⟩) (m_preV g_bl0 hsz hK hP hS hE hKS g_to0) rfl rfl hl.1 rfl (lv_room (Nat.le_of_ble_eq_true rfl)) dX12_seeStatement_18 ⟨Nat.le_of_ble_eq_true rfl, Nat.le_of_ble_eq_true rfl⟩) (fun H locs hP hS => ?_)
    exact Jj_4  u_60.2 hF_61 _ _ hP hS ls (lv_sub hl [0, 1] rfl)

/-- the group, by its depth -/
def gV : Nat → GF
  | 0, _, _, _, _, _ => none
  | d + 1, t, a, b, c, σ => if t = 0 then F_X12_seeBlock (gV d) a σ else if t = 1 then F_X12_seeStatement (gV d) a σ else none
theorem gV_0 (d : Nat) (a b c : Int32) (σ : MS) : gV (d + 1) 0 a b c σ = F_X12_seeBlock (gV d) a σ := rfl
theorem gV_1 (d : Nat) (a b c : Int32) (σ : MS) : gV (d + 1) 1 a b c σ = F_X12_seeStatement (gV d) a σ := rfl
set_option maxHeartbeats 4000000 in
theorem gV_all (l : Launch) (dC : Nat → ClassId) (dI : Nat → Nat → Nat) (cB cC cI cJ cZ cP : ClassId) (h qK qS : Nat) (ad : Nat → Nat) (hDD : mDis cB cI cZ h qK qS ad) : ∀ d : Nat, (∀ (sz : Nat) (p0 : Int32) (σ : MS) (res : Int32 × MS), gV d 0 p0 0 0 σ = some res → Met l yX12_seeBlock (g_ws yX12_seeBlock cX12_seeBlock 4 none) ({ frames := 3 + d, cells := 0, slots := 0, locals := 85 + 23 * d }) (va_Pc [.ref h, .int p0] (m_B (dC, dI) [(cB, .byte), (cC, .char), (cI, .int), (cJ, .long), (cZ, .boolean), (cP, .object "StoryHouse$Play")] sz h ad qK qS (mW cB cI cZ h qK qS ad σ) g_0)) (va_Qv (fun (_ : Unit) => True) (fun _ t => va_P (dC, dI) vwCl (mW cB cI cZ h qK qS ad res.2) t.heap) (mCells h ad sz)) 0 0 (mCells h ad sz)) ∧ (∀ (sz : Nat) (p0 : Int32) (σ : MS) (res : Int32 × MS), gV d 1 p0 0 0 σ = some res → Met l yX12_seeStatement (g_ws yX12_seeStatement cX12_seeStatement 2 none) ({ frames := 3 + d, cells := 0, slots := 0, locals := 85 + 23 * d }) (va_Pc [.ref h, .int p0] (m_B (dC, dI) [(cB, .byte), (cC, .char), (cI, .int), (cJ, .long), (cZ, .boolean), (cP, .object "StoryHouse$Play")] sz h ad qK qS (mW cB cI cZ h qK qS ad σ) g_0)) (va_Qv (fun (_ : Unit) => True) (fun _ t => va_P (dC, dI) vwCl (mW cB cI cZ h qK qS ad res.2) t.heap) (mCells h ad sz)) 0 0 (mCells h ad sz)) := by
  intro d
  induction d with
  | zero => exact ⟨(fun sz p0 σ res hz => by cases hz), (fun sz p0 σ res hz => by cases hz)⟩
  | succ d ih =>
    obtain ⟨hI0, hI1⟩ := ih
    exact ⟨(fun sz p0 σ res hF => m_X12_seeBlock_st l dC dI cB cC cI cJ cZ cP h qK qS ad hDD d (gV d) hI0 hI1 sz p0 σ res ((gV_0 d p0 0 0 σ).symm.trans hF)), (fun sz p0 σ res hF => m_X12_seeStatement_st l dC dI cB cC cI cJ cZ cP h qK qS ad hDD d (gV d) hI0 hI1 sz p0 σ res ((gV_1 d p0 0 0 σ).symm.trans hF))⟩

def G_X12_seeBlock (p0 : Int32) (σ : MS) : MR := gV 70 0 p0 0 0 σ
theorem m_X12_seeBlock (l : Launch) (dC : Nat → ClassId) (dI : Nat → Nat → Nat) (cB cC cI cJ cZ cP : ClassId) (h qK qS : Nat) (ad : Nat → Nat) (hDD : mDis cB cI cZ h qK qS ad) : ∀ (sz : Nat) (p0 : Int32) (σ : MS) (res : Int32 × MS), G_X12_seeBlock p0 σ = some res → Met l yX12_seeBlock (g_ws yX12_seeBlock cX12_seeBlock 4 none) ({ frames := 73, cells := 0, slots := 0, locals := 1695 }) (va_Pc [.ref h, .int p0] (m_B (dC, dI) [(cB, .byte), (cC, .char), (cI, .int), (cJ, .long), (cZ, .boolean), (cP, .object "StoryHouse$Play")] sz h ad qK qS (mW cB cI cZ h qK qS ad σ) g_0)) (va_Qv (fun (_ : Unit) => True) (fun _ t => va_P (dC, dI) vwCl (mW cB cI cZ h qK qS ad res.2) t.heap) (mCells h ad sz)) 0 0 (mCells h ad sz) := (gV_all l dC dI cB cC cI cJ cZ cP h qK qS ad hDD 70).1

def G_X12_seeStatement (p0 : Int32) (σ : MS) : MR := gV 70 1 p0 0 0 σ
theorem m_X12_seeStatement (l : Launch) (dC : Nat → ClassId) (dI : Nat → Nat → Nat) (cB cC cI cJ cZ cP : ClassId) (h qK qS : Nat) (ad : Nat → Nat) (hDD : mDis cB cI cZ h qK qS ad) : ∀ (sz : Nat) (p0 : Int32) (σ : MS) (res : Int32 × MS), G_X12_seeStatement p0 σ = some res → Met l yX12_seeStatement (g_ws yX12_seeStatement cX12_seeStatement 2 none) ({ frames := 73, cells := 0, slots := 0, locals := 1695 }) (va_Pc [.ref h, .int p0] (m_B (dC, dI) [(cB, .byte), (cC, .char), (cI, .int), (cJ, .long), (cZ, .boolean), (cP, .object "StoryHouse$Play")] sz h ad qK qS (mW cB cI cZ h qK qS ad σ) g_0)) (va_Qv (fun (_ : Unit) => True) (fun _ t => va_P (dC, dI) vwCl (mW cB cI cZ h qK qS ad res.2) t.heap) (mCells h ad sz)) 0 0 (mCells h ad sz) := (gV_all l dC dI cB cC cI cJ cZ cP h qK qS ad hDD 70).2
