/-! methods of the reference: what each does is its function -/
theorem dX12_declareSeen_0 : decode cX12_declareSeen 0 = .ok (.aload_n 0, 1) := by decide +kernel
theorem dX12_declareSeen_1 : decode cX12_declareSeen 1 = .ok (.getfield 352, 3) := by decide +kernel
theorem dX12_declareSeen_4 : decode cX12_declareSeen 4 = .ok (.istore_n 1, 1) := by decide +kernel
theorem dX12_declareSeen_5 : decode cX12_declareSeen 5 = .ok (.iload_n 1, 1) := by decide +kernel
theorem dX12_declareSeen_6 : decode cX12_declareSeen 6 = .ok (.ifCond .lt 115, 3) := by decide +kernel
theorem dX12_declareSeen_9 : decode cX12_declareSeen 9 = .ok (.aload_n 0, 1) := by decide +kernel
theorem dX12_declareSeen_10 : decode cX12_declareSeen 10 = .ok (.getfield 49, 3) := by decide +kernel
theorem dX12_declareSeen_13 : decode cX12_declareSeen 13 = .ok (.iload_n 1, 1) := by decide +kernel
theorem dX12_declareSeen_14 : decode cX12_declareSeen 14 = .ok (.iaload, 1) := by decide +kernel
theorem dX12_declareSeen_15 : decode cX12_declareSeen 15 = .ok (.bipush 6, 2) := by decide +kernel
theorem dX12_declareSeen_17 : decode cX12_declareSeen 17 = .ok (.if_icmp .ge 6, 3) := by decide +kernel
theorem dX12_declareSeen_20 : decode cX12_declareSeen 20 = .ok (.goto 91, 3) := by decide +kernel
theorem dX12_declareSeen_23 : decode cX12_declareSeen 23 = .ok (.aload_n 0, 1) := by decide +kernel
theorem dX12_declareSeen_24 : decode cX12_declareSeen 24 = .ok (.iconst 0, 1) := by decide +kernel
theorem dX12_declareSeen_25 : decode cX12_declareSeen 25 = .ok (.putfield 506, 3) := by decide +kernel
theorem dX12_declareSeen_28 : decode cX12_declareSeen 28 = .ok (.aload_n 0, 1) := by decide +kernel
theorem dX12_declareSeen_29 : decode cX12_declareSeen 29 = .ok (.iconst 0, 1) := by decide +kernel
theorem dX12_declareSeen_30 : decode cX12_declareSeen 30 = .ok (.putfield 509, 3) := by decide +kernel
theorem dX12_declareSeen_33 : decode cX12_declareSeen 33 = .ok (.iconst 0, 1) := by decide +kernel
theorem dX12_declareSeen_34 : decode cX12_declareSeen 34 = .ok (.istore_n 2, 1) := by decide +kernel
theorem dX12_declareSeen_35 : decode cX12_declareSeen 35 = .ok (.aload_n 0, 1) := by decide +kernel
theorem dX12_declareSeen_36 : decode cX12_declareSeen 36 = .ok (.getfield 49, 3) := by decide +kernel
theorem dX12_declareSeen_39 : decode cX12_declareSeen 39 = .ok (.iload_n 1, 1) := by decide +kernel
theorem dX12_declareSeen_40 : decode cX12_declareSeen 40 = .ok (.iaload, 1) := by decide +kernel
theorem dX12_declareSeen_41 : decode cX12_declareSeen 41 = .ok (.bipush 6, 2) := by decide +kernel
theorem dX12_declareSeen_43 : decode cX12_declareSeen 43 = .ok (.if_icmp .ne 12, 3) := by decide +kernel
theorem dX12_declareSeen_46 : decode cX12_declareSeen 46 = .ok (.aload_n 0, 1) := by decide +kernel
theorem dX12_declareSeen_47 : decode cX12_declareSeen 47 = .ok (.getfield 58, 3) := by decide +kernel
theorem dX12_declareSeen_50 : decode cX12_declareSeen 50 = .ok (.iload_n 1, 1) := by decide +kernel
theorem dX12_declareSeen_51 : decode cX12_declareSeen 51 = .ok (.iaload, 1) := by decide +kernel
theorem dX12_declareSeen_52 : decode cX12_declareSeen 52 = .ok (.goto 4, 3) := by decide +kernel
theorem dX12_declareSeen_55 : decode cX12_declareSeen 55 = .ok (.iconst (-1), 1) := by decide +kernel
theorem dX12_declareSeen_56 : decode cX12_declareSeen 56 = .ok (.istore_n 3, 1) := by decide +kernel
theorem dX12_declareSeen_57 : decode cX12_declareSeen 57 = .ok (.iload_n 3, 1) := by decide +kernel
theorem dX12_declareSeen_58 : decode cX12_declareSeen 58 = .ok (.ifCond .lt 38, 3) := by decide +kernel
theorem dX12_declareSeen_61 : decode cX12_declareSeen 61 = .ok (.aload_n 0, 1) := by decide +kernel
theorem dX12_declareSeen_62 : decode cX12_declareSeen 62 = .ok (.iload_n 3, 1) := by decide +kernel
theorem dX12_declareSeen_63 : decode cX12_declareSeen 63 = .ok (.invokevirtual 512, 3) := by decide +kernel
theorem dX12_declareSeen_66 : decode cX12_declareSeen 66 = .ok (.iinc 2 1, 3) := by decide +kernel
theorem dX12_declareSeen_69 : decode cX12_declareSeen 69 = .ok (.iload_n 2, 1) := by decide +kernel
theorem dX12_declareSeen_70 : decode cX12_declareSeen 70 = .ok (.bipush 6, 2) := by decide +kernel
theorem dX12_declareSeen_72 : decode cX12_declareSeen 72 = .ok (.if_icmp .le 14, 3) := by decide +kernel
theorem dX12_declareSeen_75 : decode cX12_declareSeen 75 = .ok (.aload_n 0, 1) := by decide +kernel
theorem dX12_declareSeen_76 : decode cX12_declareSeen 76 = .ok (.iconst 5, 1) := by decide +kernel
theorem dX12_declareSeen_77 : decode cX12_declareSeen 77 = .ok (.aload_n 0, 1) := by decide +kernel
theorem dX12_declareSeen_78 : decode cX12_declareSeen 78 = .ok (.getfield 52, 3) := by decide +kernel
theorem dX12_declareSeen_81 : decode cX12_declareSeen 81 = .ok (.iload_n 3, 1) := by decide +kernel
theorem dX12_declareSeen_82 : decode cX12_declareSeen 82 = .ok (.iaload, 1) := by decide +kernel
theorem dX12_declareSeen_83 : decode cX12_declareSeen 83 = .ok (.invokevirtual 500, 3) := by decide +kernel
theorem dX12_declareSeen_86 : decode cX12_declareSeen 86 = .ok (.aload_n 0, 1) := by decide +kernel
theorem dX12_declareSeen_87 : decode cX12_declareSeen 87 = .ok (.getfield 64, 3) := by decide +kernel
theorem dX12_declareSeen_90 : decode cX12_declareSeen 90 = .ok (.iload_n 3, 1) := by decide +kernel
theorem dX12_declareSeen_91 : decode cX12_declareSeen 91 = .ok (.iaload, 1) := by decide +kernel
theorem dX12_declareSeen_92 : decode cX12_declareSeen 92 = .ok (.istore_n 3, 1) := by decide +kernel
theorem dX12_declareSeen_93 : decode cX12_declareSeen 93 = .ok (.goto (-36), 3) := by decide +kernel
theorem dX12_declareSeen_96 : decode cX12_declareSeen 96 = .ok (.aload_n 0, 1) := by decide +kernel
theorem dX12_declareSeen_97 : decode cX12_declareSeen 97 = .ok (.aload_n 0, 1) := by decide +kernel
theorem dX12_declareSeen_98 : decode cX12_declareSeen 98 = .ok (.getfield 55, 3) := by decide +kernel
theorem dX12_declareSeen_101 : decode cX12_declareSeen 101 = .ok (.aload_n 0, 1) := by decide +kernel
theorem dX12_declareSeen_102 : decode cX12_declareSeen 102 = .ok (.getfield 61, 3) := by decide +kernel
theorem dX12_declareSeen_105 : decode cX12_declareSeen 105 = .ok (.iload_n 1, 1) := by decide +kernel
theorem dX12_declareSeen_106 : decode cX12_declareSeen 106 = .ok (.iaload, 1) := by decide +kernel
theorem dX12_declareSeen_107 : decode cX12_declareSeen 107 = .ok (.iaload, 1) := by decide +kernel
theorem dX12_declareSeen_108 : decode cX12_declareSeen 108 = .ok (.invokevirtual 515, 3) := by decide +kernel
theorem dX12_declareSeen_111 : decode cX12_declareSeen 111 = .ok (.aload_n 0, 1) := by decide +kernel
theorem dX12_declareSeen_112 : decode cX12_declareSeen 112 = .ok (.getfield 64, 3) := by decide +kernel
theorem dX12_declareSeen_115 : decode cX12_declareSeen 115 = .ok (.iload_n 1, 1) := by decide +kernel
theorem dX12_declareSeen_116 : decode cX12_declareSeen 116 = .ok (.iaload, 1) := by decide +kernel
theorem dX12_declareSeen_117 : decode cX12_declareSeen 117 = .ok (.istore_n 1, 1) := by decide +kernel
theorem dX12_declareSeen_118 : decode cX12_declareSeen 118 = .ok (.goto (-113), 3) := by decide +kernel
theorem dX12_declareSeen_121 : decode cX12_declareSeen 121 = .ok (.return_, 1) := by decide +kernel
def F_X12_declareSeen  (σ : MS) : MR :=
  loopF (fun (again_2 : (Int32 × MS) → MR) (s_1 : Int32 × MS) => (
    if s_1.1 < 0 then (
      some (0, s_1.2)
    ) else (
      if s_1.1 < 0 ∨ 40000 ≤ s_1.1.toNatClampNeg then none else
      bnd (fun  (σ_10 : MS) => (
        if s_1.1 < 0 ∨ 40000 ≤ s_1.1.toNatClampNeg then none else
        bnd ((σ_10.2 22 s_1.1.toNatClampNeg)) fun (x_16 : Int32) =>
        again_2 (x_16, σ_10)
      ) : MS → MR) fun j_11 =>
      if 6 ≤ (s_1.2.2 17 s_1.1.toNatClampNeg) then (
        bnd (mI s_1.2 33 0) fun σ_20 =>
        bnd (mI σ_20 34 0) fun σ_22 =>
        if s_1.1 < 0 ∨ 40000 ≤ s_1.1.toNatClampNeg then none else
        bnd (fun (t_26 : Int32) (σ_27 : MS) => (
          loopF (fun (again_32 : (Int32 × Int32 × MS) → MR) (s_31 : Int32 × Int32 × MS) => (
            if s_31.2.1 < 0 then (
              if s_1.1 < 0 ∨ 40000 ≤ s_1.1.toNatClampNeg then none else
              bnd ((s_31.2.2.2 21 s_1.1.toNatClampNeg)) fun (x_39 : Int32) =>
              if x_39 < 0 ∨ 40000 ≤ x_39.toNatClampNeg then none else
              (G_X12_seeBlock (s_31.2.2.2 19 x_39.toNatClampNeg) s_31.2.2).bind fun u_43 =>
              j_11  u_43.2
            ) else (
              (F_X12_seeAnew s_31.2.1 s_31.2.2).bind fun u_46 =>
              bnd (s_31.1 + 1) fun (x_48 : Int32) =>
              bnd (fun  (σ_50 : MS) => (
                if s_31.2.1 < 0 ∨ 40000 ≤ s_31.2.1.toNatClampNeg then none else
                bnd ((σ_50.2 22 s_31.2.1.toNatClampNeg)) fun (x_56 : Int32) =>
                again_32 (x_48, x_56, σ_50)
              ) : MS → MR) fun j_51 =>
              if x_48 ≤ 6 then (
                j_51  u_46.2
              ) else (
                if s_31.2.1 < 0 ∨ 40000 ≤ s_31.2.1.toNatClampNeg then none else
                (F_X12_note 5 (u_46.2.2 18 s_31.2.1.toNatClampNeg) u_46.2).bind fun u_63 =>
                j_51  u_63.2
              )
            )
          )) FU (0, t_26, σ_27)
        ) : Int32 → MS → MR) fun j_28 =>
        if (σ_22.2 17 s_1.1.toNatClampNeg) = 6 then (
          if s_1.1 < 0 ∨ 40000 ≤ s_1.1.toNatClampNeg then none else
          j_28 (σ_22.2 20 s_1.1.toNatClampNeg) σ_22
        ) else (
          j_28 (-1) σ_22
        )
      ) else (
        j_11  s_1.2
      )
    )
  )) FU ((σ.1 24), σ)
set_option maxHeartbeats 4000000 in
set_option maxRecDepth 100000 in
theorem m_X12_declareSeen (l : Launch) (dC : Nat → ClassId) (dI : Nat → Nat → Nat) (cB cC cI cJ cZ cP : ClassId) (h qK qS : Nat) (ad : Nat → Nat) (hDD : mDis cB cI cZ h qK qS ad) (sz : Nat)   (σ : MS) (res : Int32 × MS) (hF : F_X12_declareSeen  σ = some res) : Met l yX12_declareSeen (g_ws yX12_declareSeen cX12_declareSeen 4 none) ({ frames := 74, cells := 0, slots := 0, locals := 1718 }) (va_Pc [.ref h] (m_B (dC, dI) [(cB, .byte), (cC, .char), (cI, .int), (cJ, .long), (cZ, .boolean), (cP, .object "StoryHouse$Play")] sz h ad qK qS (mW cB cI cZ h qK qS ad σ) g_0)) (va_Qv (fun (_ : Unit) => True) (fun _ t => va_P (dC, dI) vwCl (mW cB cI cZ h qK qS ad res.2) t.heap) (mCells h ad sz)) 0 0 (mCells h ad sz) := by
  refine Met.ofW (cc := cX12_declareSeen) (maxL := 4) (ret := none) (by decide) rfl ?_
  intro p e s m args below meth c s₁ B hml hv
  obtain ⟨rfl, hsz, hP, hK, hE, hKS, hX⟩ := hv
  have hx := B.exec
  have hb := B.bytes
  have hr := B.returns
  have hts0 := atoms_spec (ws := g_ws yX12_declareSeen cX12_declareSeen 4 none) B.pre
  have hts : ∀ w ∈ lw_good, w.before ([.ref h] : List Value).toArray s = true := fun w z => hts0 w (List.mem_cons_of_mem _ z)
  have hown : s.vm.findClass RX12 = some m.cls := findClass_of_methodNamed B.named
  have hlocks := B.notSynchronized
  have hS : va_S (mCells h ad sz) s.heap s.heap [] := va_S.rf
  have hl := lv_entry ([.ref h]) (n := 4) (Nat.le_of_ble_eq_true rfl)
  rw [lg_entry_eq]
  generalize (lg_sl ([.ref h]) ++ List.replicate (4 - (lg_sl ([.ref h])).length) Slot.unset).toArray = ls at hl ⊢
  have hl : lv_has ls 4 [(0, .ref h)] := hl
  unfold F_X12_declareSeen at hF
  refine lv_aload_n hx hb dX12_declareSeen_0 rfl (lv_at hl 0 rfl) ?_
  refine va_get (D := (dC, dI)) (ci := 12) (v := .int (σ.1 24)) (C := RX12) (T := TX12) (N := 123) hx hb hts ii_X12 hown hK hP 0 rfl rfl 24 (by decide) (hts (.fieldLink RX12 352 "StoryHouseModel" "items" "I") wq_1380) (fun _ h9 => h9) rfl dX12_declareSeen_1 ?_
  refine lv_istore_n (lv' := [(1, .int (σ.1 24)), (0, .ref h)]) hx hb dX12_declareSeen_4 rfl hl (by decide) rfl (fun ls hl => ?_)
  refine loopF_ind (P := fun (s_1 : Int32 × MS) => ∀ (H : Heap) (locs : List Loc), va_P (dC, dI) vwCl (mW cB cI cZ h qK qS ad s_1.2) H → va_S (mCells h ad sz) s.heap H locs → ∀ ls : Array Slot, lv_has ls 4 [(0, .ref h), (1, .int s_1.1)] → W p l e (headSpec (g_ws yX12_declareSeen cX12_declareSeen 4 none) { frames := 74, cells := 0, slots := 0, locals := 1718 }).room s m ([.ref h] : List Value).toArray below meth c H locs 0 0 (MQ below (va_Qv (fun (_ : Unit) => True) (fun _ t => va_P (dC, dI) vwCl (mW cB cI cZ h qK qS ad res.2) t.heap) (mCells h ad sz)) ([.ref h] : List Value).toArray s 0 0 (mCells h ad sz)) (F0 m 5 ls [])) ?_ _ _ hF _ _ hP hS ls (lv_sub hl [1, 0] rfl)
  intro again_2 s_1 ih_3 hF_4
  intro H locs hP hS ls hl
  refine lv_iload_n hx hb dX12_declareSeen_5 rfl (lv_at hl 1 rfl) ?_
  refine lv_if_lt (tgt := 121) hx hb dX12_declareSeen_6 (by decide) (fun c_5 => ?_) (fun c_5 => ?_)
  · have hF_6 := ipos c_5 hF_4
    clear hF_4
    have h9 := Option.some.inj hF_6
    subst h9
    exact W.vret hx hb hr (fun t ht hW => ⟨⟨(), rfl, trivial, m_end ht hP⟩, hS.F ht⟩) hS.2.2 dX12_declareSeen_121
  · have hF_7 := ineg c_5 hF_4
    clear hF_4
    refine lv_aload_n hx hb dX12_declareSeen_9 rfl (lv_at hl 0 rfl) ?_
    refine va_get (D := (dC, dI)) (ci := 12) (v := .ref (ad 17)) (C := RX12) (T := TX12) (N := 123) hx hb hts ii_X12 hown hK hP 0 rfl rfl 17 (by decide) (hts (.fieldLink RX12 49 "StoryHouseModel" "what" "[I") wq_1373) (fun _ h9 => h9) rfl dX12_declareSeen_10 ?_
    refine lv_iload_n hx hb dX12_declareSeen_13 rfl (lv_at hl 1 rfl) ?_
    obtain ⟨g_8, hF_9⟩ := nif_e hF_7
    clear hF_7
    refine va_iald (f := s_1.2.2 17) hx hb hK hP 8 2 rfl rfl g_8 dX12_declareSeen_14 ?_
    refine lv_bipush (v := 6) hx hb dX12_declareSeen_15 (by decide +kernel) ?_
    obtain ⟨j_11, ej_11, hF_12⟩ := bnd_e hF_9
    clear hF_9
    have Jj_11 : ∀  (σ_10 : MS), j_11  σ_10 = some res → ∀ (H : Heap) (locs : List Loc), va_P (dC, dI) vwCl (mW cB cI cZ h qK qS ad σ_10) H → va_S (mCells h ad sz) s.heap H locs → ∀ ls : Array Slot, lv_has ls 4 [(0, .ref h), (1, .int s_1.1)] → W p l e (headSpec (g_ws yX12_declareSeen cX12_declareSeen 4 none) { frames := 74, cells := 0, slots := 0, locals := 1718 }).room s m ([.ref h] : List Value).toArray below meth c H locs 0 0 (MQ below (va_Qv (fun (_ : Unit) => True) (fun _ t => va_P (dC, dI) vwCl (mW cB cI cZ h qK qS ad res.2) t.heap) (mCells h ad sz)) ([.ref h] : List Value).toArray s 0 0 (mCells h ad sz)) (F0 m 111 ls []) := by
      intro  σ_10 hF0 H locs hP hS ls hl
      subst ej_11
      have hF_13 := hF0
      clear hF0
      refine lv_aload_n hx hb dX12_declareSeen_111 rfl (lv_at hl 0 rfl) ?_
      refine va_get (D := (dC, dI)) (ci := 12) (v := .ref (ad 22)) (C := RX12) (T := TX12) (N := 123) hx hb hts ii_X12 hown hK hP 0 rfl rfl 22 (by decide) (hts (.fieldLink RX12 64 "StoryHouseModel" "then" "[I") wq_1378) (fun _ h9 => h9) rfl dX12_declareSeen_112 ?_
      refine lv_iload_n hx hb dX12_declareSeen_115 rfl (lv_at hl 1 rfl) ?_
      obtain ⟨g_14, hF_15⟩ := nif_e hF_13
      clear hF_13
      refine va_iald (f := σ_10.2 22) hx hb hK hP 13 2 rfl rfl g_14 dX12_declareSeen_116 ?_
      obtain ⟨x_16, ex_16, hF_17⟩ := bnd_e hF_15
      clear hF_15
      refine m_top ex_16 ?_
      refine lv_istore_n (lv' := [(1, .int x_16), (0, .ref h)]) hx hb dX12_declareSeen_117 rfl hl (by decide) rfl (fun ls hl => ?_)
      refine lv_goto (tgt := 5) hx hb dX12_declareSeen_118 (by decide) ?_
      exact ih_3 (x_16, σ_10) hF_17 _ _ hP hS ls (lv_sub hl [1, 0] rfl)
    refine lv_icmp_ge (tgt := 23) hx hb dX12_declareSeen_17 (by decide) (fun c_18 => ?_) (fun c_18 => ?_)
    · have hF_19 := ipos c_18 hF_12
      clear hF_12
      refine lv_aload_n hx hb dX12_declareSeen_23 rfl (lv_at hl 0 rfl) ?_
      refine lv_iconst (v := 0) hx hb dX12_declareSeen_24 (by decide +kernel) ?_
      obtain ⟨σ_20, eσ_20, hF_21⟩ := bnd_e hF_19
      clear hF_19
      refine m_put (σ' := σ_20) (v := .int 0) (ty := .int) hx hb hts hown hK hP (hDD _ _) hS (by rw [eσ_20]; exact mwI_33) (k := 33) (by decide) (hts (.fieldLink RX12 506 "StoryHouseModel" "seenCount" "I") wq_1389) (fun _ h9 => h9) rfl (by decide +kernel) rfl rfl dX12_declareSeen_25 (fun H locs hP hS => ?_)
      refine lv_aload_n hx hb dX12_declareSeen_28 rfl (lv_at hl 0 rfl) ?_
      refine lv_iconst (v := 0) hx hb dX12_declareSeen_29 (by decide +kernel) ?_
      obtain ⟨σ_22, eσ_22, hF_23⟩ := bnd_e hF_21
      clear hF_21
      refine m_put (σ' := σ_22) (v := .int 0) (ty := .int) hx hb hts hown hK hP (hDD _ _) hS (by rw [eσ_22]; exact mwI_34) (k := 34) (by decide) (hts (.fieldLink RX12 509 "StoryHouseModel" "slotCount" "I") wq_1390) (fun _ h9 => h9) rfl (by decide +kernel) rfl rfl dX12_declareSeen_30 (fun H locs hP hS => ?_)
      refine lv_iconst (v := 0) hx hb dX12_declareSeen_33 (by decide +kernel) ?_
      refine lv_istore_n (lv' := [(2, .int 0), (0, .ref h), (1, .int s_1.1)]) hx hb dX12_declareSeen_34 rfl hl (by decide) rfl (fun ls hl => ?_)
      refine lv_aload_n hx hb dX12_declareSeen_35 rfl (lv_at hl 1 rfl) ?_
      refine va_get (D := (dC, dI)) (ci := 12) (v := .ref (ad 17)) (C := RX12) (T := TX12) (N := 123) hx hb hts ii_X12 hown hK hP 0 rfl rfl 17 (by decide) (hts (.fieldLink RX12 49 "StoryHouseModel" "what" "[I") wq_1373) (fun _ h9 => h9) rfl dX12_declareSeen_36 ?_
      refine lv_iload_n hx hb dX12_declareSeen_39 rfl (lv_at hl 2 rfl) ?_
      obtain ⟨g_24, hF_25⟩ := nif_e hF_23
      clear hF_23
      refine va_iald (f := σ_22.2 17) hx hb hK hP 8 2 rfl rfl g_24 dX12_declareSeen_40 ?_
      refine lv_bipush (v := 6) hx hb dX12_declareSeen_41 (by decide +kernel) ?_
      obtain ⟨j_28, ej_28, hF_29⟩ := bnd_e hF_25
      clear hF_25
      have Jj_28 : ∀ (t_26 : Int32) (σ_27 : MS), j_28 t_26 σ_27 = some res → ∀ (H : Heap) (locs : List Loc), va_P (dC, dI) vwCl (mW cB cI cZ h qK qS ad σ_27) H → va_S (mCells h ad sz) s.heap H locs → ∀ ls : Array Slot, lv_has ls 4 [(0, .ref h), (1, .int s_1.1), (2, .int 0)] → W p l e (headSpec (g_ws yX12_declareSeen cX12_declareSeen 4 none) { frames := 74, cells := 0, slots := 0, locals := 1718 }).room s m ([.ref h] : List Value).toArray below meth c H locs 0 0 (MQ below (va_Qv (fun (_ : Unit) => True) (fun _ t => va_P (dC, dI) vwCl (mW cB cI cZ h qK qS ad res.2) t.heap) (mCells h ad sz)) ([.ref h] : List Value).toArray s 0 0 (mCells h ad sz)) (F0 m 56 ls [.int t_26]) := by
        intro t_26 σ_27 hF0 H locs hP hS ls hl
        subst ej_28
        have hF_30 := hF0
        clear hF0
        refine lv_istore_n (lv' := [(3, .int t_26), (0, .ref h), (1, .int s_1.1), (2, .int 0)]) hx hb dX12_declareSeen_56 rfl hl (by decide) rfl (fun ls hl => ?_)
        refine loopF_ind (P := fun (s_31 : Int32 × Int32 × MS) => ∀ (H : Heap) (locs : List Loc), va_P (dC, dI) vwCl (mW cB cI cZ h qK qS ad s_31.2.2) H → va_S (mCells h ad sz) s.heap H locs → ∀ ls : Array Slot, lv_has ls 4 [(0, .ref h), (1, .int s_1.1), (2, .int s_31.1), (3, .int s_31.2.1)] → W p l e (headSpec (g_ws yX12_declareSeen cX12_declareSeen 4 none) { frames := 74, cells := 0, slots := 0, locals := 1718 }).room s m ([.ref h] : List Value).toArray below meth c H locs 0 0 (MQ below (va_Qv (fun (_ : Unit) => True) (fun _ t => va_P (dC, dI) vwCl (mW cB cI cZ h qK qS ad res.2) t.heap) (mCells h ad sz)) ([.ref h] : List Value).toArray s 0 0 (mCells h ad sz)) (F0 m 57 ls [])) ?_ _ _ hF_30 _ _ hP hS ls (lv_sub hl [1, 2, 3, 0] rfl)
        intro again_32 s_31 ih_33 hF_34
        intro H locs hP hS ls hl
        refine lv_iload_n hx hb dX12_declareSeen_57 rfl (lv_at hl 3 rfl) ?_
        refine lv_if_lt (tgt := 96) hx hb dX12_declareSeen_58 (by decide) (fun c_35 => ?_) (fun c_35 => ?_)
        · have hF_36 := ipos c_35 hF_34
          clear hF_34
          refine lv_aload_n hx hb dX12_declareSeen_96 rfl (lv_at hl 0 rfl) ?_
          refine lv_aload_n hx hb dX12_declareSeen_97 rfl (lv_at hl 0 rfl) ?_
          refine va_get (D := (dC, dI)) (ci := 12) (v := .ref (ad 19)) (C := RX12) (T := TX12) (N := 123) hx hb hts ii_X12 hown hK hP 0 rfl rfl 19 (by decide) (hts (.fieldLink RX12 55 "StoryHouseModel" "a" "[I") wq_1375) (fun _ h9 => h9) rfl dX12_declareSeen_98 ?_
          refine lv_aload_n hx hb dX12_declareSeen_101 rfl (lv_at hl 0 rfl) ?_
          refine va_get (D := (dC, dI)) (ci := 12) (v := .ref (ad 21)) (C := RX12) (T := TX12) (N := 123) hx hb hts ii_X12 hown hK hP 0 rfl rfl 21 (by decide) (hts (.fieldLink RX12 61 "StoryHouseModel" "d" "[I") wq_1377) (fun _ h9 => h9) rfl dX12_declareSeen_102 ?_
          refine lv_iload_n hx hb dX12_declareSeen_105 rfl (lv_at hl 1 rfl) ?_
          obtain ⟨g_37, hF_38⟩ := nif_e hF_36
          clear hF_36
          refine va_iald (f := s_31.2.2.2 21) hx hb hK hP 12 2 rfl rfl g_37 dX12_declareSeen_106 ?_
          obtain ⟨x_39, ex_39, hF_40⟩ := bnd_e hF_38
          clear hF_38
          refine m_top ex_39 ?_
          obtain ⟨g_41, hF_42⟩ := nif_e hF_40
          clear hF_40
          refine va_iald (f := s_31.2.2.2 19) hx hb hK hP 10 2 rfl rfl g_41 dX12_declareSeen_107 ?_
          obtain ⟨u_43, hu_43, hF_44⟩ := Option.bind_eq_some_iff.mp hF_42
          clear hF_42
          refine m_cv hsz hS (va_runV (As := [.int (s_31.2.2.2 19 x_39.toNatClampNeg)]) (rest := []) ⟨hx, hb, hml, hown, hts⟩ (m_X12_seeBlock l dC dI cB cC cI cJ cZ cP h qK qS ad hDD H.size  (s_31.2.2.2 19 x_39.toNatClampNeg) s_31.2.2 _ hu_43) (cwV 1 hts (g_gV wq_1672 wq_1673 wq_2169 wq_13 wq_1674) rfl rfl rfl (by decide +kernel) ⟨Nat.le_of_ble_eq_true rfl, Nat.le_of_ble_eq_true rfl⟩) (m_preV g_bl0 hsz hK hP hS hE hKS g_to0) rfl rfl hl.1 rfl (lv_room (Nat.le_of_ble_eq_true rfl)) dX12_declareSeen_108 ⟨Nat.le_of_ble_eq_true rfl, Nat.le_of_ble_eq_true rfl⟩) (fun H locs hP hS => ?_)
          exact Jj_11  u_43.2 hF_44 _ _ hP hS ls (lv_sub hl [0, 1] rfl)
        · have hF_45 := ineg c_35 hF_34
          clear hF_34
          refine lv_aload_n hx hb dX12_declareSeen_61 rfl (lv_at hl 0 rfl) ?_
          refine lv_iload_n hx hb dX12_declareSeen_62 rfl (lv_at hl 3 rfl) ?_
          obtain ⟨u_46, hu_46, hF_47⟩ := Option.bind_eq_some_iff.mp hF_45
          clear hF_45
          refine m_cv hsz hS (va_runV (As := [.int s_31.2.1]) (rest := []) ⟨hx, hb, hml, hown, hts⟩ (m_X12_seeAnew l dC dI cB cC cI cJ cZ cP h qK qS ad hDD H.size  s_31.2.1 s_31.2.2 _ hu_46) (cwV 1 hts (g_gV wq_1669 wq_1670 wq_2168 wq_13 wq_1671) rfl rfl rfl (by decide +kernel) ⟨Nat.le_of_ble_eq_true rfl, Nat.le_of_ble_eq_true rfl⟩) (m_preV g_bl0 hsz hK hP hS hE hKS g_to0) rfl rfl hl.1 rfl (lv_room (Nat.le_of_ble_eq_true rfl)) dX12_declareSeen_63 ⟨Nat.le_of_ble_eq_true rfl, Nat.le_of_ble_eq_true rfl⟩) (fun H locs hP hS => ?_)
          obtain ⟨x_48, ex_48, hF_49⟩ := bnd_e hF_47
          clear hF_47
          refine lv_iinc (v := x_48) (lv' := [(2, .int x_48), (0, .ref h), (1, .int s_1.1), (3, .int s_31.2.1)]) hx hb dX12_declareSeen_66 hl (k := 2) rfl (by rw [ex_48]; rfl) (by decide) rfl (fun ls hl => ?_)
          refine lv_iload_n hx hb dX12_declareSeen_69 rfl (lv_at hl 0 rfl) ?_
          refine lv_bipush (v := 6) hx hb dX12_declareSeen_70 (by decide +kernel) ?_
          obtain ⟨j_51, ej_51, hF_52⟩ := bnd_e hF_49
          clear hF_49
          have Jj_51 : ∀  (σ_50 : MS), j_51  σ_50 = some res → ∀ (H : Heap) (locs : List Loc), va_P (dC, dI) vwCl (mW cB cI cZ h qK qS ad σ_50) H → va_S (mCells h ad sz) s.heap H locs → ∀ ls : Array Slot, lv_has ls 4 [(0, .ref h), (1, .int s_1.1), (2, .int x_48), (3, .int s_31.2.1)] → W p l e (headSpec (g_ws yX12_declareSeen cX12_declareSeen 4 none) { frames := 74, cells := 0, slots := 0, locals := 1718 }).room s m ([.ref h] : List Value).toArray below meth c H locs 0 0 (MQ below (va_Qv (fun (_ : Unit) => True) (fun _ t => va_P (dC, dI) vwCl (mW cB cI cZ h qK qS ad res.2) t.heap) (mCells h ad sz)) ([.ref h] : List Value).toArray s 0 0 (mCells h ad sz)) (F0 m 86 ls []) := by
            intro  σ_50 hF0 H locs hP hS ls hl
            subst ej_51
            have hF_53 := hF0
            clear hF0
            refine lv_aload_n hx hb dX12_declareSeen_86 rfl (lv_at hl 0 rfl) ?_
            refine va_get (D := (dC, dI)) (ci := 12) (v := .ref (ad 22)) (C := RX12) (T := TX12) (N := 123) hx hb hts ii_X12 hown hK hP 0 rfl rfl 22 (by decide) (hts (.fieldLink RX12 64 "StoryHouseModel" "then" "[I") wq_1378) (fun _ h9 => h9) rfl dX12_declareSeen_87 ?_
            refine lv_iload_n hx hb dX12_declareSeen_90 rfl (lv_at hl 3 rfl) ?_
            obtain ⟨g_54, hF_55⟩ := nif_e hF_53
            clear hF_53
            refine va_iald (f := σ_50.2 22) hx hb hK hP 13 2 rfl rfl g_54 dX12_declareSeen_91 ?_
            obtain ⟨x_56, ex_56, hF_57⟩ := bnd_e hF_55
            clear hF_55
            refine m_top ex_56 ?_
            refine lv_istore_n (lv' := [(3, .int x_56), (0, .ref h), (1, .int s_1.1), (2, .int x_48)]) hx hb dX12_declareSeen_92 rfl hl (by decide) rfl (fun ls hl => ?_)
            refine lv_goto (tgt := 57) hx hb dX12_declareSeen_93 (by decide) ?_
            exact ih_33 (x_48, x_56, σ_50) hF_57 _ _ hP hS ls (lv_sub hl [1, 2, 3, 0] rfl)
          refine lv_icmp_le (tgt := 86) hx hb dX12_declareSeen_72 (by decide) (fun c_58 => ?_) (fun c_58 => ?_)
          · have hF_59 := ipos c_58 hF_52
            clear hF_52
            exact Jj_51  u_46.2 hF_59 _ _ hP hS ls (lv_sub hl [1, 2, 0, 3] rfl)
          · have hF_60 := ineg c_58 hF_52
            clear hF_52
            refine lv_aload_n hx hb dX12_declareSeen_75 rfl (lv_at hl 1 rfl) ?_
            refine lv_iconst (v := 5) hx hb dX12_declareSeen_76 (by decide +kernel) ?_
            refine lv_aload_n hx hb dX12_declareSeen_77 rfl (lv_at hl 1 rfl) ?_
            refine va_get (D := (dC, dI)) (ci := 12) (v := .ref (ad 18)) (C := RX12) (T := TX12) (N := 123) hx hb hts ii_X12 hown hK hP 0 rfl rfl 18 (by decide) (hts (.fieldLink RX12 52 "StoryHouseModel" "where" "[I") wq_1374) (fun _ h9 => h9) rfl dX12_declareSeen_78 ?_
            refine lv_iload_n hx hb dX12_declareSeen_81 rfl (lv_at hl 3 rfl) ?_
            obtain ⟨g_61, hF_62⟩ := nif_e hF_60
            clear hF_60
            refine va_iald (f := u_46.2.2 18) hx hb hK hP 9 2 rfl rfl g_61 dX12_declareSeen_82 ?_
            obtain ⟨u_63, hu_63, hF_64⟩ := Option.bind_eq_some_iff.mp hF_62
            clear hF_62
            refine m_cv hsz hS (va_runV (As := [.int 5, .int (u_46.2.2 18 s_31.2.1.toNatClampNeg)]) (rest := []) ⟨hx, hb, hml, hown, hts⟩ (m_X12_note l dC dI cB cC cI cJ cZ cP h qK qS ad hDD H.size  5 (u_46.2.2 18 s_31.2.1.toNatClampNeg) u_46.2 _ hu_63) (cwV 2 hts (g_gV wq_1660 wq_1661 wq_2165 wq_13 wq_1662) rfl rfl rfl (by decide +kernel) ⟨Nat.le_of_ble_eq_true rfl, Nat.le_of_ble_eq_true rfl⟩) (m_preV g_bl0 hsz hK hP hS hE hKS g_to0) rfl rfl hl.1 rfl (lv_room (Nat.le_of_ble_eq_true rfl)) dX12_declareSeen_83 ⟨Nat.le_of_ble_eq_true rfl, Nat.le_of_ble_eq_true rfl⟩) (fun H locs hP hS => ?_)
            exact Jj_51  u_63.2 hF_64 _ _ hP hS ls (lv_sub hl [1, 2, 0, 3] rfl)
      refine lv_icmp_ne (tgt := 55) hx hb dX12_declareSeen_43 (by decide) (fun c_65 => ?_) (fun c_65 => ?_)
      · have hF_69 := ineg c_65 hF_29
        clear hF_29
        refine lv_iconst (v := (-1)) hx hb dX12_declareSeen_55 (by decide +kernel) ?_
        exact Jj_28 (-1) σ_22 hF_69 _ _ hP hS ls (lv_sub hl [1, 2, 0] rfl)
      · have hF_66 := ipos c_65 hF_29
        clear hF_29
        refine lv_aload_n hx hb dX12_declareSeen_46 rfl (lv_at hl 1 rfl) ?_
        refine va_get (D := (dC, dI)) (ci := 12) (v := .ref (ad 20)) (C := RX12) (T := TX12) (N := 123) hx hb hts ii_X12 hown hK hP 0 rfl rfl 20 (by decide) (hts (.fieldLink RX12 58 "StoryHouseModel" "b" "[I") wq_1376) (fun _ h9 => h9) rfl dX12_declareSeen_47 ?_
        refine lv_iload_n hx hb dX12_declareSeen_50 rfl (lv_at hl 2 rfl) ?_
        obtain ⟨g_67, hF_68⟩ := nif_e hF_66
        clear hF_66
        refine va_iald (f := σ_22.2 20) hx hb hK hP 11 2 rfl rfl g_67 dX12_declareSeen_51 ?_
        refine lv_goto (tgt := 56) hx hb dX12_declareSeen_52 (by decide) ?_
        exact Jj_28 (σ_22.2 20 s_1.1.toNatClampNeg) σ_22 hF_68 _ _ hP hS ls (lv_sub hl [1, 2, 0] rfl)
    · have hF_70 := ineg c_18 hF_12
      clear hF_12
      refine lv_goto (tgt := 111) hx hb dX12_declareSeen_20 (by decide) ?_
      exact Jj_11  s_1.2 hF_70 _ _ hP hS ls (lv_sub hl [0, 1] rfl)
theorem dX12_wrong_0 : decode cX12_wrong 0 = .ok (.aload_n 0, 1) := by decide +kernel
theorem dX12_wrong_1 : decode cX12_wrong 1 = .ok (.iconst 3, 1) := by decide +kernel
theorem dX12_wrong_2 : decode cX12_wrong 2 = .ok (.iload_n 1, 1) := by decide +kernel
theorem dX12_wrong_3 : decode cX12_wrong 3 = .ok (.invokevirtual 500, 3) := by decide +kernel
theorem dX12_wrong_6 : decode cX12_wrong 6 = .ok (.return_, 1) := by decide +kernel
def F_X12_wrong (p0 : Int32) (σ : MS) : MR :=
  (F_X12_note 3 p0 σ).bind fun u_1 =>
  some (0, u_1.2)
set_option maxHeartbeats 4000000 in
set_option maxRecDepth 100000 in
theorem m_X12_wrong (l : Launch) (dC : Nat → ClassId) (dI : Nat → Nat → Nat) (cB cC cI cJ cZ cP : ClassId) (h qK qS : Nat) (ad : Nat → Nat) (hDD : mDis cB cI cZ h qK qS ad) (sz : Nat)  (p0 : Int32) (σ : MS) (res : Int32 × MS) (hF : F_X12_wrong p0 σ = some res) : Met l yX12_wrong (g_ws yX12_wrong cX12_wrong 2 none) ({ frames := 2, cells := 0, slots := 0, locals := 62 }) (va_Pc [.ref h, .int p0] (m_B (dC, dI) [(cB, .byte), (cC, .char), (cI, .int), (cJ, .long), (cZ, .boolean), (cP, .object "StoryHouse$Play")] sz h ad qK qS (mW cB cI cZ h qK qS ad σ) g_0)) (va_Qv (fun (_ : Unit) => True) (fun _ t => va_P (dC, dI) vwCl (mW cB cI cZ h qK qS ad res.2) t.heap) (mCells h ad sz)) 0 0 (mCells h ad sz) := by
  refine Met.ofW (cc := cX12_wrong) (maxL := 2) (ret := none) (by decide) rfl ?_
  intro p e s m args below meth c s₁ B hml hv
  obtain ⟨rfl, hsz, hP, hK, hE, hKS, hX⟩ := hv
  have hx := B.exec
  have hb := B.bytes
  have hr := B.returns
  have hts0 := atoms_spec (ws := g_ws yX12_wrong cX12_wrong 2 none) B.pre
  have hts : ∀ w ∈ lw_good, w.before ([.ref h, .int p0] : List Value).toArray s = true := fun w z => hts0 w (List.mem_cons_of_mem _ z)
  have hown : s.vm.findClass RX12 = some m.cls := findClass_of_methodNamed B.named
  have hlocks := B.notSynchronized
  have hS : va_S (mCells h ad sz) s.heap s.heap [] := va_S.rf
  have hl := lv_entry ([.ref h, .int p0]) (n := 2) (Nat.le_of_ble_eq_true rfl)
  rw [lg_entry_eq]
  generalize (lg_sl ([.ref h, .int p0]) ++ List.replicate (2 - (lg_sl ([.ref h, .int p0])).length) Slot.unset).toArray = ls at hl ⊢
  have hl : lv_has ls 2 [(0, .ref h), (1, .int p0)] := hl
  unfold F_X12_wrong at hF
  refine lv_aload_n hx hb dX12_wrong_0 rfl (lv_at hl 0 rfl) ?_
  refine lv_iconst (v := 3) hx hb dX12_wrong_1 (by decide +kernel) ?_
  refine lv_iload_n hx hb dX12_wrong_2 rfl (lv_at hl 1 rfl) ?_
  obtain ⟨u_1, hu_1, hF_2⟩ := Option.bind_eq_some_iff.mp hF
  clear hF
  refine m_cv hsz hS (va_runV (As := [.int 3, .int p0]) (rest := []) ⟨hx, hb, hml, hown, hts⟩ (m_X12_note l dC dI cB cC cI cJ cZ cP h qK qS ad hDD s.heap.size  3 p0 σ _ hu_1) (cwV 2 hts (g_gV wq_1660 wq_1661 wq_2165 wq_13 wq_1662) rfl rfl rfl (by decide +kernel) ⟨Nat.le_of_ble_eq_true rfl, Nat.le_of_ble_eq_true rfl⟩) (m_preV g_bl0 hsz hK hP hS hE hKS g_to0) rfl rfl hl.1 rfl (lv_room (Nat.le_of_ble_eq_true rfl)) dX12_wrong_3 ⟨Nat.le_of_ble_eq_true rfl, Nat.le_of_ble_eq_true rfl⟩) (fun H locs hP hS => ?_)
  have h9 := Option.some.inj hF_2
  subst h9
  exact W.vret hx hb hr (fun t ht hW => ⟨⟨(), rfl, trivial, m_end ht hP⟩, hS.F ht⟩) hS.2.2 dX12_wrong_6
theorem dX12_is_0 : decode cX12_is 0 = .ok (.aload_n 0, 1) := by decide +kernel
theorem dX12_is_1 : decode cX12_is 1 = .ok (.getfield 67, 3) := by decide +kernel
theorem dX12_is_4 : decode cX12_is 4 = .ok (.iload_n 1, 1) := by decide +kernel
theorem dX12_is_5 : decode cX12_is 5 = .ok (.iaload, 1) := by decide +kernel
theorem dX12_is_6 : decode cX12_is 6 = .ok (.iload_n 2, 1) := by decide +kernel
theorem dX12_is_7 : decode cX12_is 7 = .ok (.if_icmp .ne 7, 3) := by decide +kernel
theorem dX12_is_10 : decode cX12_is 10 = .ok (.iconst 1, 1) := by decide +kernel
theorem dX12_is_11 : decode cX12_is 11 = .ok (.goto 4, 3) := by decide +kernel
theorem dX12_is_14 : decode cX12_is 14 = .ok (.iconst 0, 1) := by decide +kernel
theorem dX12_is_15 : decode cX12_is 15 = .ok (.ireturn, 1) := by decide +kernel
def F_X12_is (p0 : Int32) (p1 : Int32) (σ : MS) : MR :=
  if p0 < 0 ∨ 8000 ≤ p0.toNatClampNeg then none else
  if (σ.2 28 p0.toNatClampNeg) = p1 then (
    some (1, σ)
  ) else (
    some (0, σ)
  )
set_option maxHeartbeats 4000000 in
set_option maxRecDepth 100000 in
theorem m_X12_is (l : Launch) (dC : Nat → ClassId) (dI : Nat → Nat → Nat) (cB cC cI cJ cZ cP : ClassId) (h qK qS : Nat) (ad : Nat → Nat) (hDD : mDis cB cI cZ h qK qS ad) (sz : Nat)  (p0 : Int32) (p1 : Int32) (σ : MS) (res : Int32 × MS) (hF : F_X12_is p0 p1 σ = some res) : Met l yX12_is (g_ws yX12_is cX12_is 3 (some .boolean)) ({ frames := 1, cells := 0, slots := 0, locals := 40 }) (va_Pc [.ref h, .int p0, .int p1] (m_B (dC, dI) [(cB, .byte), (cC, .char), (cI, .int), (cJ, .long), (cZ, .boolean), (cP, .object "StoryHouse$Play")] sz h ad qK qS (mW cB cI cZ h qK qS ad σ) g_0)) (va_Qi (fun r (_ : Unit) => r = res.1) (fun _ t => va_P (dC, dI) vwCl (mW cB cI cZ h qK qS ad res.2) t.heap) (mCells h ad sz)) 0 0 (mCells h ad sz) := by
  refine Met.ofW (cc := cX12_is) (maxL := 3) (ret := (some .boolean)) (by decide) rfl ?_
  intro p e s m args below meth c s₁ B hml hv
  obtain ⟨rfl, hsz, hP, hK, hE, hKS, hX⟩ := hv
  have hx := B.exec
  have hb := B.bytes
  have hr := B.returns
  have hts0 := atoms_spec (ws := g_ws yX12_is cX12_is 3 (some .boolean)) B.pre
  have hts : ∀ w ∈ lw_good, w.before ([.ref h, .int p0, .int p1] : List Value).toArray s = true := fun w z => hts0 w (List.mem_cons_of_mem _ z)
  have hown : s.vm.findClass RX12 = some m.cls := findClass_of_methodNamed B.named
  have hlocks := B.notSynchronized
  have hS : va_S (mCells h ad sz) s.heap s.heap [] := va_S.rf
  have hl := lv_entry ([.ref h, .int p0, .int p1]) (n := 3) (Nat.le_of_ble_eq_true rfl)
  rw [lg_entry_eq]
  generalize (lg_sl ([.ref h, .int p0, .int p1]) ++ List.replicate (3 - (lg_sl ([.ref h, .int p0, .int p1])).length) Slot.unset).toArray = ls at hl ⊢
  have hl : lv_has ls 3 [(0, .ref h), (1, .int p0), (2, .int p1)] := hl
  unfold F_X12_is at hF
  refine lv_aload_n hx hb dX12_is_0 rfl (lv_at hl 0 rfl) ?_
  refine va_get (D := (dC, dI)) (ci := 12) (v := .ref (ad 28)) (C := RX12) (T := TX12) (N := 123) hx hb hts ii_X12 hown hK hP 0 rfl rfl 28 (by decide) (hts (.fieldLink RX12 67 "StoryHouseModel" "nameKind" "[I") wq_1384) (fun _ h9 => h9) rfl dX12_is_1 ?_
  refine lv_iload_n hx hb dX12_is_4 rfl (lv_at hl 1 rfl) ?_
  obtain ⟨g_1, hF_2⟩ := nif_e hF
  clear hF
  refine va_iald (f := σ.2 28) hx hb hK hP 14 2 rfl rfl g_1 dX12_is_5 ?_
  refine lv_iload_n hx hb dX12_is_6 rfl (lv_at hl 2 rfl) ?_
  refine lv_icmp_ne (tgt := 14) hx hb dX12_is_7 (by decide) (fun c_3 => ?_) (fun c_3 => ?_)
  · have hF_5 := ineg c_3 hF_2
    clear hF_2
    refine lv_iconst (v := 0) hx hb dX12_is_14 (by decide +kernel) ?_
    have h9 := Option.some.inj hF_5
    subst h9
    exact W.zret (v := 0) hx hb hr (by decide +kernel) (fun t ht hW => ⟨⟨0, (), rfl, rfl, m_end ht hP⟩, hS.F ht⟩) hS.2.2 dX12_is_15
  · have hF_4 := ipos c_3 hF_2
    clear hF_2
    refine lv_iconst (v := 1) hx hb dX12_is_10 (by decide +kernel) ?_
    refine lv_goto (tgt := 15) hx hb dX12_is_11 (by decide) ?_
    have h9 := Option.some.inj hF_4
    subst h9
    exact W.zret (v := 1) hx hb hr (by decide +kernel) (fun t ht hW => ⟨⟨1, (), rfl, rfl, m_end ht hP⟩, hS.F ht⟩) hS.2.2 dX12_is_15
theorem dX12_slotOf_0 : decode cX12_slotOf 0 = .ok (.aload_n 0, 1) := by decide +kernel
theorem dX12_slotOf_1 : decode cX12_slotOf 1 = .ok (.getfield 506, 3) := by decide +kernel
theorem dX12_slotOf_4 : decode cX12_slotOf 4 = .ok (.iconst 1, 1) := by decide +kernel
theorem dX12_slotOf_5 : decode cX12_slotOf 5 = .ok (.isub, 1) := by decide +kernel
theorem dX12_slotOf_6 : decode cX12_slotOf 6 = .ok (.istore_n 2, 1) := by decide +kernel
theorem dX12_slotOf_7 : decode cX12_slotOf 7 = .ok (.iload_n 2, 1) := by decide +kernel
theorem dX12_slotOf_8 : decode cX12_slotOf 8 = .ok (.ifCond .lt 26, 3) := by decide +kernel
theorem dX12_slotOf_11 : decode cX12_slotOf 11 = .ok (.aload_n 0, 1) := by decide +kernel
theorem dX12_slotOf_12 : decode cX12_slotOf 12 = .ok (.getfield 76, 3) := by decide +kernel
theorem dX12_slotOf_15 : decode cX12_slotOf 15 = .ok (.iload_n 2, 1) := by decide +kernel
theorem dX12_slotOf_16 : decode cX12_slotOf 16 = .ok (.iaload, 1) := by decide +kernel
theorem dX12_slotOf_17 : decode cX12_slotOf 17 = .ok (.iload_n 1, 1) := by decide +kernel
theorem dX12_slotOf_18 : decode cX12_slotOf 18 = .ok (.if_icmp .ne 10, 3) := by decide +kernel
theorem dX12_slotOf_21 : decode cX12_slotOf 21 = .ok (.aload_n 0, 1) := by decide +kernel
theorem dX12_slotOf_22 : decode cX12_slotOf 22 = .ok (.getfield 79, 3) := by decide +kernel
theorem dX12_slotOf_25 : decode cX12_slotOf 25 = .ok (.iload_n 2, 1) := by decide +kernel
theorem dX12_slotOf_26 : decode cX12_slotOf 26 = .ok (.iaload, 1) := by decide +kernel
theorem dX12_slotOf_27 : decode cX12_slotOf 27 = .ok (.ireturn, 1) := by decide +kernel
theorem dX12_slotOf_28 : decode cX12_slotOf 28 = .ok (.iinc 2 (-1), 3) := by decide +kernel
theorem dX12_slotOf_31 : decode cX12_slotOf 31 = .ok (.goto (-24), 3) := by decide +kernel
theorem dX12_slotOf_34 : decode cX12_slotOf 34 = .ok (.iconst (-1), 1) := by decide +kernel
theorem dX12_slotOf_35 : decode cX12_slotOf 35 = .ok (.ireturn, 1) := by decide +kernel
def F_X12_slotOf (p0 : Int32) (σ : MS) : MR :=
  bnd (((σ.1 33) - 1)) fun (x_1 : Int32) =>
  loopF (fun (again_4 : (Int32 × MS) → MR) (s_3 : Int32 × MS) => (
    if s_3.1 < 0 then (
      some ((-1), s_3.2)
    ) else (
      if s_3.1 < 0 ∨ 16 ≤ s_3.1.toNatClampNeg then none else
      if (s_3.2.2 31 s_3.1.toNatClampNeg) = p0 then (
        if s_3.1 < 0 ∨ 16 ≤ s_3.1.toNatClampNeg then none else
        some ((s_3.2.2 32 s_3.1.toNatClampNeg), s_3.2)
      ) else (
        bnd (s_3.1 + (-1)) fun (x_17 : Int32) =>
        again_4 (x_17, s_3.2)
      )
    )
  )) FU (x_1, σ)
set_option maxHeartbeats 4000000 in
set_option maxRecDepth 100000 in
theorem m_X12_slotOf (l : Launch) (dC : Nat → ClassId) (dI : Nat → Nat → Nat) (cB cC cI cJ cZ cP : ClassId) (h qK qS : Nat) (ad : Nat → Nat) (hDD : mDis cB cI cZ h qK qS ad) (sz : Nat)  (p0 : Int32) (σ : MS) (res : Int32 × MS) (hF : F_X12_slotOf p0 σ = some res) : Met l yX12_slotOf (g_ws yX12_slotOf cX12_slotOf 3 (some .int)) ({ frames := 1, cells := 0, slots := 0, locals := 40 }) (va_Pc [.ref h, .int p0] (m_B (dC, dI) [(cB, .byte), (cC, .char), (cI, .int), (cJ, .long), (cZ, .boolean), (cP, .object "StoryHouse$Play")] sz h ad qK qS (mW cB cI cZ h qK qS ad σ) g_0)) (va_Qi (fun r (_ : Unit) => r = res.1) (fun _ t => va_P (dC, dI) vwCl (mW cB cI cZ h qK qS ad res.2) t.heap) (mCells h ad sz)) 0 0 (mCells h ad sz) := by
  refine Met.ofW (cc := cX12_slotOf) (maxL := 3) (ret := (some .int)) (by decide) rfl ?_
  intro p e s m args below meth c s₁ B hml hv
  obtain ⟨rfl, hsz, hP, hK, hE, hKS, hX⟩ := hv
  have hx := B.exec
  have hb := B.bytes
  have hr := B.returns
  have hts0 := atoms_spec (ws := g_ws yX12_slotOf cX12_slotOf 3 (some .int)) B.pre
  have hts : ∀ w ∈ lw_good, w.before ([.ref h, .int p0] : List Value).toArray s = true := fun w z => hts0 w (List.mem_cons_of_mem _ z)
  have hown : s.vm.findClass RX12 = some m.cls := findClass_of_methodNamed B.named
  have hlocks := B.notSynchronized
  have hS : va_S (mCells h ad sz) s.heap s.heap [] := va_S.rf
  have hl := lv_entry ([.ref h, .int p0]) (n := 3) (Nat.le_of_ble_eq_true rfl)
  rw [lg_entry_eq]
  generalize (lg_sl ([.ref h, .int p0]) ++ List.replicate (3 - (lg_sl ([.ref h, .int p0])).length) Slot.unset).toArray = ls at hl ⊢
  have hl : lv_has ls 3 [(0, .ref h), (1, .int p0)] := hl
  unfold F_X12_slotOf at hF
  refine lv_aload_n hx hb dX12_slotOf_0 rfl (lv_at hl 0 rfl) ?_
  refine va_get (D := (dC, dI)) (ci := 12) (v := .int (σ.1 33)) (C := RX12) (T := TX12) (N := 123) hx hb hts ii_X12 hown hK hP 0 rfl rfl 33 (by decide) (hts (.fieldLink RX12 506 "StoryHouseModel" "seenCount" "I") wq_1389) (fun _ h9 => h9) rfl dX12_slotOf_1 ?_
  refine lv_iconst (v := 1) hx hb dX12_slotOf_4 (by decide +kernel) ?_
  refine lv_isub hx hb dX12_slotOf_5 ?_
  obtain ⟨x_1, ex_1, hF_2⟩ := bnd_e hF
  clear hF
  refine m_top ex_1 ?_
  refine lv_istore_n (lv' := [(2, .int x_1), (0, .ref h), (1, .int p0)]) hx hb dX12_slotOf_6 rfl hl (by decide) rfl (fun ls hl => ?_)
  refine loopF_ind (P := fun (s_3 : Int32 × MS) => ∀ (H : Heap) (locs : List Loc), va_P (dC, dI) vwCl (mW cB cI cZ h qK qS ad s_3.2) H → va_S (mCells h ad sz) s.heap H locs → ∀ ls : Array Slot, lv_has ls 3 [(0, .ref h), (1, .int p0), (2, .int s_3.1)] → W p l e (headSpec (g_ws yX12_slotOf cX12_slotOf 3 (some .int)) { frames := 1, cells := 0, slots := 0, locals := 40 }).room s m ([.ref h, .int p0] : List Value).toArray below meth c H locs 0 0 (MQ below (va_Qi (fun r (_ : Unit) => r = res.1) (fun _ t => va_P (dC, dI) vwCl (mW cB cI cZ h qK qS ad res.2) t.heap) (mCells h ad sz)) ([.ref h, .int p0] : List Value).toArray s 0 0 (mCells h ad sz)) (F0 m 7 ls [])) ?_ _ _ hF_2 _ _ hP hS ls (lv_sub hl [1, 2, 0] rfl)
  intro again_4 s_3 ih_5 hF_6
  intro H locs hP hS ls hl
  refine lv_iload_n hx hb dX12_slotOf_7 rfl (lv_at hl 2 rfl) ?_
  refine lv_if_lt (tgt := 34) hx hb dX12_slotOf_8 (by decide) (fun c_7 => ?_) (fun c_7 => ?_)
  · have hF_8 := ipos c_7 hF_6
    clear hF_6
    refine lv_iconst (v := (-1)) hx hb dX12_slotOf_34 (by decide +kernel) ?_
    have h9 := Option.some.inj hF_8
    subst h9
    exact W.iret (v := (-1)) hx hb hr (fun t ht hW => ⟨⟨(-1), (), rfl, rfl, m_end ht hP⟩, hS.F ht⟩) hS.2.2 dX12_slotOf_35
  · have hF_9 := ineg c_7 hF_6
    clear hF_6
    refine lv_aload_n hx hb dX12_slotOf_11 rfl (lv_at hl 0 rfl) ?_
    refine va_get (D := (dC, dI)) (ci := 12) (v := .ref (ad 31)) (C := RX12) (T := TX12) (N := 123) hx hb hts ii_X12 hown hK hP 0 rfl rfl 31 (by decide) (hts (.fieldLink RX12 76 "StoryHouseModel" "seen" "[I") wq_1387) (fun _ h9 => h9) rfl dX12_slotOf_12 ?_
    refine lv_iload_n hx hb dX12_slotOf_15 rfl (lv_at hl 2 rfl) ?_
    obtain ⟨g_10, hF_11⟩ := nif_e hF_9
    clear hF_9
    refine va_iald (f := s_3.2.2 31) hx hb hK hP 17 2 rfl rfl g_10 dX12_slotOf_16 ?_
    refine lv_iload_n hx hb dX12_slotOf_17 rfl (lv_at hl 1 rfl) ?_
    refine lv_icmp_ne (tgt := 28) hx hb dX12_slotOf_18 (by decide) (fun c_12 => ?_) (fun c_12 => ?_)
    · have hF_16 := ineg c_12 hF_11
      clear hF_11
      obtain ⟨x_17, ex_17, hF_18⟩ := bnd_e hF_16
      clear hF_16
      refine lv_iinc (v := x_17) (lv' := [(2, .int x_17), (0, .ref h), (1, .int p0)]) hx hb dX12_slotOf_28 hl (k := 2) rfl (by rw [ex_17]; rfl) (by decide) rfl (fun ls hl => ?_)
      refine lv_goto (tgt := 7) hx hb dX12_slotOf_31 (by decide) ?_
      exact ih_5 (x_17, s_3.2) hF_18 _ _ hP hS ls (lv_sub hl [1, 2, 0] rfl)
    · have hF_13 := ipos c_12 hF_11
      clear hF_11
      refine lv_aload_n hx hb dX12_slotOf_21 rfl (lv_at hl 0 rfl) ?_
      refine va_get (D := (dC, dI)) (ci := 12) (v := .ref (ad 32)) (C := RX12) (T := TX12) (N := 123) hx hb hts ii_X12 hown hK hP 0 rfl rfl 32 (by decide) (hts (.fieldLink RX12 79 "StoryHouseModel" "slots" "[I") wq_1388) (fun _ h9 => h9) rfl dX12_slotOf_22 ?_
      refine lv_iload_n hx hb dX12_slotOf_25 rfl (lv_at hl 2 rfl) ?_
      obtain ⟨g_14, hF_15⟩ := nif_e hF_13
      clear hF_13
      refine va_iald (f := s_3.2.2 32) hx hb hK hP 18 2 rfl rfl g_14 dX12_slotOf_26 ?_
      have h9 := Option.some.inj hF_15
      subst h9
      exact W.iret (v := (s_3.2.2 32 s_3.1.toNatClampNeg)) hx hb hr (fun t ht hW => ⟨⟨(s_3.2.2 32 s_3.1.toNatClampNeg), (), rfl, rfl, m_end ht hP⟩, hS.F ht⟩) hS.2.2 dX12_slotOf_27
theorem dX12_means_0 : decode cX12_means 0 = .ok (.aload_n 0, 1) := by decide +kernel
theorem dX12_means_1 : decode cX12_means 1 = .ok (.getfield 55, 3) := by decide +kernel
theorem dX12_means_4 : decode cX12_means 4 = .ok (.iload_n 1, 1) := by decide +kernel
theorem dX12_means_5 : decode cX12_means 5 = .ok (.iaload, 1) := by decide +kernel
theorem dX12_means_6 : decode cX12_means 6 = .ok (.istore_n 3, 1) := by decide +kernel
theorem dX12_means_7 : decode cX12_means 7 = .ok (.aload_n 0, 1) := by decide +kernel
theorem dX12_means_8 : decode cX12_means 8 = .ok (.iload_n 3, 1) := by decide +kernel
theorem dX12_means_9 : decode cX12_means 9 = .ok (.invokevirtual 546, 3) := by decide +kernel
theorem dX12_means_12 : decode cX12_means 12 = .ok (.istore 4, 2) := by decide +kernel
theorem dX12_means_14 : decode cX12_means 14 = .ok (.aload_n 0, 1) := by decide +kernel
theorem dX12_means_15 : decode cX12_means 15 = .ok (.getfield 58, 3) := by decide +kernel
theorem dX12_means_18 : decode cX12_means 18 = .ok (.iload_n 1, 1) := by decide +kernel
theorem dX12_means_19 : decode cX12_means 19 = .ok (.iload 4, 2) := by decide +kernel
theorem dX12_means_21 : decode cX12_means 21 = .ok (.ifCond .lt 8, 3) := by decide +kernel
theorem dX12_means_24 : decode cX12_means 24 = .ok (.bipush 9, 2) := by decide +kernel
theorem dX12_means_26 : decode cX12_means 26 = .ok (.goto 9, 3) := by decide +kernel
theorem dX12_means_29 : decode cX12_means 29 = .ok (.aload_n 0, 1) := by decide +kernel
theorem dX12_means_30 : decode cX12_means 30 = .ok (.getfield 67, 3) := by decide +kernel
theorem dX12_means_33 : decode cX12_means 33 = .ok (.iload_n 3, 1) := by decide +kernel
theorem dX12_means_34 : decode cX12_means 34 = .ok (.iaload, 1) := by decide +kernel
theorem dX12_means_35 : decode cX12_means 35 = .ok (.iastore, 1) := by decide +kernel
theorem dX12_means_36 : decode cX12_means 36 = .ok (.aload_n 0, 1) := by decide +kernel
theorem dX12_means_37 : decode cX12_means 37 = .ok (.getfield 61, 3) := by decide +kernel
theorem dX12_means_40 : decode cX12_means 40 = .ok (.iload_n 1, 1) := by decide +kernel
theorem dX12_means_41 : decode cX12_means 41 = .ok (.iload 4, 2) := by decide +kernel
theorem dX12_means_43 : decode cX12_means 43 = .ok (.ifCond .lt 8, 3) := by decide +kernel
theorem dX12_means_46 : decode cX12_means 46 = .ok (.iload 4, 2) := by decide +kernel
theorem dX12_means_48 : decode cX12_means 48 = .ok (.goto 9, 3) := by decide +kernel
theorem dX12_means_51 : decode cX12_means 51 = .ok (.aload_n 0, 1) := by decide +kernel
theorem dX12_means_52 : decode cX12_means 52 = .ok (.getfield 70, 3) := by decide +kernel
theorem dX12_means_55 : decode cX12_means 55 = .ok (.iload_n 3, 1) := by decide +kernel
theorem dX12_means_56 : decode cX12_means 56 = .ok (.iaload, 1) := by decide +kernel
theorem dX12_means_57 : decode cX12_means 57 = .ok (.iastore, 1) := by decide +kernel
theorem dX12_means_58 : decode cX12_means 58 = .ok (.iload 4, 2) := by decide +kernel
theorem dX12_means_60 : decode cX12_means 60 = .ok (.ifCond .ge 34, 3) := by decide +kernel
theorem dX12_means_63 : decode cX12_means 63 = .ok (.aload_n 0, 1) := by decide +kernel
theorem dX12_means_64 : decode cX12_means 64 = .ok (.iload_n 3, 1) := by decide +kernel
theorem dX12_means_65 : decode cX12_means 65 = .ok (.iconst 4, 1) := by decide +kernel
theorem dX12_means_66 : decode cX12_means 66 = .ok (.invokevirtual 521, 3) := by decide +kernel
theorem dX12_means_69 : decode cX12_means 69 = .ok (.ifCond .ne 25, 3) := by decide +kernel
theorem dX12_means_72 : decode cX12_means 72 = .ok (.iload_n 2, 1) := by decide +kernel
theorem dX12_means_73 : decode cX12_means 73 = .ok (.ifCond .eq 25, 3) := by decide +kernel
theorem dX12_means_76 : decode cX12_means 76 = .ok (.aload_n 0, 1) := by decide +kernel
theorem dX12_means_77 : decode cX12_means 77 = .ok (.iload_n 3, 1) := by decide +kernel
theorem dX12_means_78 : decode cX12_means 78 = .ok (.iconst 1, 1) := by decide +kernel
theorem dX12_means_79 : decode cX12_means 79 = .ok (.invokevirtual 521, 3) := by decide +kernel
theorem dX12_means_82 : decode cX12_means 82 = .ok (.ifCond .ne 12, 3) := by decide +kernel
theorem dX12_means_85 : decode cX12_means 85 = .ok (.aload_n 0, 1) := by decide +kernel
theorem dX12_means_86 : decode cX12_means 86 = .ok (.iload_n 3, 1) := by decide +kernel
theorem dX12_means_87 : decode cX12_means 87 = .ok (.iconst 2, 1) := by decide +kernel
theorem dX12_means_88 : decode cX12_means 88 = .ok (.invokevirtual 521, 3) := by decide +kernel
theorem dX12_means_91 : decode cX12_means 91 = .ok (.ifCond .eq 7, 3) := by decide +kernel
theorem dX12_means_94 : decode cX12_means 94 = .ok (.iconst 1, 1) := by decide +kernel
theorem dX12_means_95 : decode cX12_means 95 = .ok (.goto 4, 3) := by decide +kernel
theorem dX12_means_98 : decode cX12_means 98 = .ok (.iconst 0, 1) := by decide +kernel
theorem dX12_means_99 : decode cX12_means 99 = .ok (.ireturn, 1) := by decide +kernel
def F_X12_means (p0 : Int32) (p1 : Int32) (σ : MS) : MR :=
  if p0 < 0 ∨ 40000 ≤ p0.toNatClampNeg then none else
  bnd ((σ.2 19 p0.toNatClampNeg)) fun (x_3 : Int32) =>
  (F_X12_slotOf x_3 σ).bind fun u_5 =>
  bnd (fun (t_7 : Int32) (σ_8 : MS) => (
    if p0 < 0 ∨ 40000 ≤ p0.toNatClampNeg then none else
    bnd (mA σ_8 20 (upd (σ_8.2 20) p0.toNatClampNeg t_7)) fun σ_14 =>
    bnd (fun (t_16 : Int32) (σ_17 : MS) => (
      if p0 < 0 ∨ 40000 ≤ p0.toNatClampNeg then none else
      bnd (mA σ_17 21 (upd (σ_17.2 21) p0.toNatClampNeg t_16)) fun σ_23 =>
      if 0 ≤ u_5.1 then (
        some (1, σ_23)
      ) else (
        (F_X12_is x_3 4 σ_23).bind fun u_28 =>
        if u_28.1 = 0 then (
          if p1 = 0 then (
            some (0, u_28.2)
          ) else (
            (F_X12_is x_3 1 u_28.2).bind fun u_35 =>
            if u_35.1 = 0 then (
              (F_X12_is x_3 2 u_35.2).bind fun u_39 =>
              if u_39.1 = 0 then (
                some (0, u_39.2)
              ) else (
                some (1, u_39.2)
              )
            ) else (
              some (1, u_35.2)
            )
          )
        ) else (
          some (1, u_28.2)
        )
      )
    ) : Int32 → MS → MR) fun j_18 =>
    if u_5.1 < 0 then (
      if x_3 < 0 ∨ 8000 ≤ x_3.toNatClampNeg then none else
      j_18 (σ_14.2 29 x_3.toNatClampNeg) σ_14
    ) else (
      j_18 u_5.1 σ_14
    )
  ) : Int32 → MS → MR) fun j_9 =>
  if u_5.1 < 0 then (
    if x_3 < 0 ∨ 8000 ≤ x_3.toNatClampNeg then none else
    j_9 (u_5.2.2 28 x_3.toNatClampNeg) u_5.2
  ) else (
    j_9 9 u_5.2
  )
set_option maxHeartbeats 4000000 in
set_option maxRecDepth 100000 in
theorem m_X12_means (l : Launch) (dC : Nat → ClassId) (dI : Nat → Nat → Nat) (cB cC cI cJ cZ cP : ClassId) (h qK qS : Nat) (ad : Nat → Nat) (hDD : mDis cB cI cZ h qK qS ad) (sz : Nat)  (p0 : Int32) (p1 : Int32) (σ : MS) (res : Int32 × MS) (hF : F_X12_means p0 p1 σ = some res) : Met l yX12_means (g_ws yX12_means cX12_means 5 (some .boolean)) ({ frames := 2, cells := 0, slots := 0, locals := 62 }) (va_Pc [.ref h, .int p0, .int p1] (m_B (dC, dI) [(cB, .byte), (cC, .char), (cI, .int), (cJ, .long), (cZ, .boolean), (cP, .object "StoryHouse$Play")] sz h ad qK qS (mW cB cI cZ h qK qS ad σ) g_0)) (va_Qi (fun r (_ : Unit) => r = res.1) (fun _ t => va_P (dC, dI) vwCl (mW cB cI cZ h qK qS ad res.2) t.heap) (mCells h ad sz)) 0 0 (mCells h ad sz) := by
  refine Met.ofW (cc := cX12_means) (maxL := 5) (ret := (some .boolean)) (by decide) rfl ?_
  intro p e s m args below meth c s₁ B hml hv
  obtain ⟨rfl, hsz, hP, hK, hE, hKS, hX⟩ := hv
  have hx := B.exec
  have hb := B.bytes
  have hr := B.returns
  have hts0 := atoms_spec (ws := g_ws yX12_means cX12_means 5 (some .boolean)) B.pre
  have hts : ∀ w ∈ lw_good, w.before ([.ref h, .int p0, .int p1] : List Value).toArray s = true := fun w z => hts0 w (List.mem_cons_of_mem _ z)
  have hown : s.vm.findClass RX12 = some m.cls := findClass_of_methodNamed B.named
  have hlocks := B.notSynchronized
  have hS : va_S (mCells h ad sz) s.heap s.heap [] := va_S.rf
  have hl := lv_entry ([.ref h, .int p0, .int p1]) (n := 5) (Nat.le_of_ble_eq_true rfl)
  rw [lg_entry_eq]
  generalize (lg_sl ([.ref h, .int p0, .int p1]) ++ List.replicate (5 - (lg_sl ([.ref h, .int p0, .int p1])).length) Slot.unset).toArray = ls at hl ⊢
  have hl : lv_has ls 5 [(0, .ref h), (1, .int p0), (2, .int p1)] := hl
  unfold F_X12_means at hF
  refine lv_aload_n hx hb dX12_means_0 rfl (lv_at hl 0 rfl) ?_
  refine va_get (D := (dC, dI)) (ci := 12) (v := .ref (ad 19)) (C := RX12) (T := TX12) (N := 123) hx hb hts ii_X12 hown hK hP 0 rfl rfl 19 (by decide) (hts (.fieldLink RX12 55 "StoryHouseModel" "a" "[I") wq_1375) (fun _ h9 => h9) rfl dX12_means_1 ?_
  refine lv_iload_n hx hb dX12_means_4 rfl (lv_at hl 1 rfl) ?_
  obtain ⟨g_1, hF_2⟩ := nif_e hF
  clear hF
  refine va_iald (f := σ.2 19) hx hb hK hP 10 2 rfl rfl g_1 dX12_means_5 ?_
  obtain ⟨x_3, ex_3, hF_4⟩ := bnd_e hF_2
  clear hF_2
  refine m_top ex_3 ?_
  refine lv_istore_n (lv' := [(3, .int x_3), (0, .ref h), (1, .int p0), (2, .int p1)]) hx hb dX12_means_6 rfl hl (by decide) rfl (fun ls hl => ?_)
  refine lv_aload_n hx hb dX12_means_7 rfl (lv_at hl 1 rfl) ?_
  refine lv_iload_n hx hb dX12_means_8 rfl (lv_at hl 0 rfl) ?_
  obtain ⟨u_5, hu_5, hF_6⟩ := Option.bind_eq_some_iff.mp hF_4
  clear hF_4
  refine m_ci hsz hS (va_runV (As := [.int x_3]) (rest := []) ⟨hx, hb, hml, hown, hts⟩ (m_X12_slotOf l dC dI cB cC cI cJ cZ cP h qK qS ad hDD s.heap.size  x_3 σ _ hu_5) (cwV 1 hts (g_gV wq_1708 wq_1709 wq_2181 wq_13 wq_1710) rfl rfl rfl (by decide +kernel) ⟨Nat.le_of_ble_eq_true rfl, Nat.le_of_ble_eq_true rfl⟩) (m_preV g_bl0 hsz hK hP hS hE hKS g_to0) rfl rfl hl.1 rfl (lv_room (Nat.le_of_ble_eq_true rfl)) dX12_means_9 ⟨Nat.le_of_ble_eq_true rfl, Nat.le_of_ble_eq_true rfl⟩) (fun H locs hP hS => ?_)
  refine lv_istore (lv' := [(4, .int u_5.1), (3, .int x_3), (0, .ref h), (1, .int p0), (2, .int p1)]) hx hb dX12_means_12 hl (by decide) rfl (fun ls hl => ?_)
  refine lv_aload_n hx hb dX12_means_14 rfl (lv_at hl 2 rfl) ?_
  refine va_get (D := (dC, dI)) (ci := 12) (v := .ref (ad 20)) (C := RX12) (T := TX12) (N := 123) hx hb hts ii_X12 hown hK hP 0 rfl rfl 20 (by decide) (hts (.fieldLink RX12 58 "StoryHouseModel" "b" "[I") wq_1376) (fun _ h9 => h9) rfl dX12_means_15 ?_
  refine lv_iload_n hx hb dX12_means_18 rfl (lv_at hl 3 rfl) ?_
  refine lv_iload hx hb dX12_means_19 (lv_at hl 0 rfl) ?_
  obtain ⟨j_9, ej_9, hF_10⟩ := bnd_e hF_6
  clear hF_6
  have Jj_9 : ∀ (t_7 : Int32) (σ_8 : MS), j_9 t_7 σ_8 = some res → ∀ (H : Heap) (locs : List Loc), va_P (dC, dI) vwCl (mW cB cI cZ h qK qS ad σ_8) H → va_S (mCells h ad sz) s.heap H locs → ∀ ls : Array Slot, lv_has ls 5 [(0, .ref h), (1, .int p0), (2, .int p1), (3, .int x_3), (4, .int u_5.1)] → W p l e (headSpec (g_ws yX12_means cX12_means 5 (some .boolean)) { frames := 2, cells := 0, slots := 0, locals := 62 }).room s m ([.ref h, .int p0, .int p1] : List Value).toArray below meth c H locs 0 0 (MQ below (va_Qi (fun r (_ : Unit) => r = res.1) (fun _ t => va_P (dC, dI) vwCl (mW cB cI cZ h qK qS ad res.2) t.heap) (mCells h ad sz)) ([.ref h, .int p0, .int p1] : List Value).toArray s 0 0 (mCells h ad sz)) (F0 m 35 ls [.int t_7, .int p0, .ref (ad 20)]) := by
    intro t_7 σ_8 hF0 H locs hP hS ls hl
    subst ej_9
    have hF_11 := hF0
    clear hF0
    obtain ⟨g_12, hF_13⟩ := nif_e hF_11
    clear hF_11
    obtain ⟨σ_14, eσ_14, hF_15⟩ := bnd_e hF_13
    clear hF_13
    refine m_iast (σ' := σ_14) hx hb hK hP (hDD _ _) hS (q0 := 11) (t0 := 2) (f := σ_8.2 20) rfl rfl (by rw [eσ_14]; exact mwA_20) g_12 dX12_means_35 (fun H locs hP hS => ?_)
    refine lv_aload_n hx hb dX12_means_36 rfl (lv_at hl 0 rfl) ?_
    refine va_get (D := (dC, dI)) (ci := 12) (v := .ref (ad 21)) (C := RX12) (T := TX12) (N := 123) hx hb hts ii_X12 hown hK hP 0 rfl rfl 21 (by decide) (hts (.fieldLink RX12 61 "StoryHouseModel" "d" "[I") wq_1377) (fun _ h9 => h9) rfl dX12_means_37 ?_
    refine lv_iload_n hx hb dX12_means_40 rfl (lv_at hl 1 rfl) ?_
    refine lv_iload hx hb dX12_means_41 (lv_at hl 4 rfl) ?_
    obtain ⟨j_18, ej_18, hF_19⟩ := bnd_e hF_15
    clear hF_15
    have Jj_18 : ∀ (t_16 : Int32) (σ_17 : MS), j_18 t_16 σ_17 = some res → ∀ (H : Heap) (locs : List Loc), va_P (dC, dI) vwCl (mW cB cI cZ h qK qS ad σ_17) H → va_S (mCells h ad sz) s.heap H locs → ∀ ls : Array Slot, lv_has ls 5 [(0, .ref h), (2, .int p1), (3, .int x_3), (4, .int u_5.1)] → W p l e (headSpec (g_ws yX12_means cX12_means 5 (some .boolean)) { frames := 2, cells := 0, slots := 0, locals := 62 }).room s m ([.ref h, .int p0, .int p1] : List Value).toArray below meth c H locs 0 0 (MQ below (va_Qi (fun r (_ : Unit) => r = res.1) (fun _ t => va_P (dC, dI) vwCl (mW cB cI cZ h qK qS ad res.2) t.heap) (mCells h ad sz)) ([.ref h, .int p0, .int p1] : List Value).toArray s 0 0 (mCells h ad sz)) (F0 m 57 ls [.int t_16, .int p0, .ref (ad 21)]) := by
      intro t_16 σ_17 hF0 H locs hP hS ls hl
      subst ej_18
      have hF_20 := hF0
      clear hF0
      obtain ⟨g_21, hF_22⟩ := nif_e hF_20
      clear hF_20
      obtain ⟨σ_23, eσ_23, hF_24⟩ := bnd_e hF_22
      clear hF_22
      refine m_iast (σ' := σ_23) hx hb hK hP (hDD _ _) hS (q0 := 12) (t0 := 2) (f := σ_17.2 21) rfl rfl (by rw [eσ_23]; exact mwA_21) g_21 dX12_means_57 (fun H locs hP hS => ?_)
      refine lv_iload hx hb dX12_means_58 (lv_at hl 3 rfl) ?_
      refine lv_if_ge (tgt := 94) hx hb dX12_means_60 (by decide) (fun c_25 => ?_) (fun c_25 => ?_)
      · have hF_26 := ipos c_25 hF_24
        clear hF_24
        refine lv_iconst (v := 1) hx hb dX12_means_94 (by decide +kernel) ?_
        refine lv_goto (tgt := 99) hx hb dX12_means_95 (by decide) ?_
        have h9 := Option.some.inj hF_26
        subst h9
        exact W.zret (v := 1) hx hb hr (by decide +kernel) (fun t ht hW => ⟨⟨1, (), rfl, rfl, m_end ht hP⟩, hS.F ht⟩) hS.2.2 dX12_means_99
      · have hF_27 := ineg c_25 hF_24
        clear hF_24
        refine lv_aload_n hx hb dX12_means_63 rfl (lv_at hl 0 rfl) ?_
        refine lv_iload_n hx hb dX12_means_64 rfl (lv_at hl 2 rfl) ?_
        refine lv_iconst (v := 4) hx hb dX12_means_65 (by decide +kernel) ?_
        obtain ⟨u_28, hu_28, hF_29⟩ := Option.bind_eq_some_iff.mp hF_27
        clear hF_27
        refine m_ci hsz hS (va_runV (As := [.int x_3, .int 4]) (rest := []) ⟨hx, hb, hml, hown, hts⟩ (m_X12_is l dC dI cB cC cI cJ cZ cP h qK qS ad hDD H.size  x_3 4 σ_23 _ hu_28) (cwV 2 hts (g_gV wq_1681 wq_1682 wq_2172 wq_13 wq_1683) rfl rfl rfl (by decide +kernel) ⟨Nat.le_of_ble_eq_true rfl, Nat.le_of_ble_eq_true rfl⟩) (m_preV g_bl0 hsz hK hP hS hE hKS g_to0) rfl rfl hl.1 rfl (lv_room (Nat.le_of_ble_eq_true rfl)) dX12_means_66 ⟨Nat.le_of_ble_eq_true rfl, Nat.le_of_ble_eq_true rfl⟩) (fun H locs hP hS => ?_)
        refine lv_if_ne (tgt := 94) hx hb dX12_means_69 (by decide) (fun c_30 => ?_) (fun c_30 => ?_)
        · have hF_45 := ineg c_30 hF_29
          clear hF_29
          refine lv_iconst (v := 1) hx hb dX12_means_94 (by decide +kernel) ?_
          refine lv_goto (tgt := 99) hx hb dX12_means_95 (by decide) ?_
          have h9 := Option.some.inj hF_45
          subst h9
          exact W.zret (v := 1) hx hb hr (by decide +kernel) (fun t ht hW => ⟨⟨1, (), rfl, rfl, m_end ht hP⟩, hS.F ht⟩) hS.2.2 dX12_means_99
        · have hF_31 := ipos c_30 hF_29
          clear hF_29
          refine lv_iload_n hx hb dX12_means_72 rfl (lv_at hl 1 rfl) ?_
          refine lv_if_eq (tgt := 98) hx hb dX12_means_73 (by decide) (fun c_32 => ?_) (fun c_32 => ?_)
          · have hF_33 := ipos c_32 hF_31
            clear hF_31
            refine lv_iconst (v := 0) hx hb dX12_means_98 (by decide +kernel) ?_
            have h9 := Option.some.inj hF_33
            subst h9
            exact W.zret (v := 0) hx hb hr (by decide +kernel) (fun t ht hW => ⟨⟨0, (), rfl, rfl, m_end ht hP⟩, hS.F ht⟩) hS.2.2 dX12_means_99
          · have hF_34 := ineg c_32 hF_31
            clear hF_31
            refine lv_aload_n hx hb dX12_means_76 rfl (lv_at hl 0 rfl) ?_
            refine lv_iload_n hx hb dX12_means_77 rfl (lv_at hl 2 rfl) ?_
            refine lv_iconst (v := 1) hx hb dX12_means_78 (by decide +kernel) ?_
            obtain ⟨u_35, hu_35, hF_36⟩ := Option.bind_eq_some_iff.mp hF_34
            clear hF_34
            refine m_ci hsz hS (va_runV (As := [.int x_3, .int 1]) (rest := []) ⟨hx, hb, hml, hown, hts⟩ (m_X12_is l dC dI cB cC cI cJ cZ cP h qK qS ad hDD H.size  x_3 1 u_28.2 _ hu_35) (cwV 2 hts (g_gV wq_1681 wq_1682 wq_2172 wq_13 wq_1683) rfl rfl rfl (by decide +kernel) ⟨Nat.le_of_ble_eq_true rfl, Nat.le_of_ble_eq_true rfl⟩) (m_preV g_bl0 hsz hK hP hS hE hKS g_to0) rfl rfl hl.1 rfl (lv_room (Nat.le_of_ble_eq_true rfl)) dX12_means_79 ⟨Nat.le_of_ble_eq_true rfl, Nat.le_of_ble_eq_true rfl⟩) (fun H locs hP hS => ?_)
            refine lv_if_ne (tgt := 94) hx hb dX12_means_82 (by decide) (fun c_37 => ?_) (fun c_37 => ?_)
            · have hF_44 := ineg c_37 hF_36
              clear hF_36
              refine lv_iconst (v := 1) hx hb dX12_means_94 (by decide +kernel) ?_
              refine lv_goto (tgt := 99) hx hb dX12_means_95 (by decide) ?_
              have h9 := Option.some.inj hF_44
              subst h9
              exact W.zret (v := 1) hx hb hr (by decide +kernel) (fun t ht hW => ⟨⟨1, (), rfl, rfl, m_end ht hP⟩, hS.F ht⟩) hS.2.2 dX12_means_99
            · have hF_38 := ipos c_37 hF_36
              clear hF_36
              refine lv_aload_n hx hb dX12_means_85 rfl (lv_at hl 0 rfl) ?_
              refine lv_iload_n hx hb dX12_means_86 rfl (lv_at hl 2 rfl) ?_
              refine lv_iconst (v := 2) hx hb dX12_means_87 (by decide +kernel) ?_
              obtain ⟨u_39, hu_39, hF_40⟩ := Option.bind_eq_some_iff.mp hF_38
              clear hF_38
              refine m_ci hsz hS (va_runV (As := [.int x_3, .int 2]) (rest := []) ⟨hx, hb, hml, hown, hts⟩ (m_X12_is l dC dI cB cC cI cJ cZ cP h qK qS ad hDD H.size  x_3 2 u_35.2 _ hu_39) (cwV 2 hts (g_gV wq_1681 wq_1682 wq_2172 wq_13 wq_1683) rfl rfl rfl (by decide +kernel) ⟨Nat.le_of_ble_eq_true rfl, Nat.le_of_ble_eq_true rfl⟩) (m_preV g_bl0 hsz hK hP hS hE hKS g_to0) rfl rfl hl.1 rfl (lv_room (Nat.le_of_ble_eq_true rfl)) dX12_means_88 ⟨Nat.le_of_ble_eq_true rfl, Nat.le_of_ble_eq_true rfl⟩) (fun H locs hP hS => ?_)
              refine lv_if_eq (tgt := 98) hx hb dX12_means_91 (by decide) (fun c_41 => ?_) (fun c_41 => ?_)
              · have hF_42 := ipos c_41 hF_40
                clear hF_40
                refine lv_iconst (v := 0) hx hb dX12_means_98 (by decide +kernel) ?_
                have h9 := Option.some.inj hF_42
                subst h9
                exact W.zret (v := 0) hx hb hr (by decide +kernel) (fun t ht hW => ⟨⟨0, (), rfl, rfl, m_end ht hP⟩, hS.F ht⟩) hS.2.2 dX12_means_99
              · have hF_43 := ineg c_41 hF_40
                clear hF_40
                refine lv_iconst (v := 1) hx hb dX12_means_94 (by decide +kernel) ?_
                refine lv_goto (tgt := 99) hx hb dX12_means_95 (by decide) ?_
                have h9 := Option.some.inj hF_43
                subst h9
                exact W.zret (v := 1) hx hb hr (by decide +kernel) (fun t ht hW => ⟨⟨1, (), rfl, rfl, m_end ht hP⟩, hS.F ht⟩) hS.2.2 dX12_means_99
    refine lv_if_lt (tgt := 51) hx hb dX12_means_43 (by decide) (fun c_46 => ?_) (fun c_46 => ?_)
    · have hF_47 := ipos c_46 hF_19
      clear hF_19
      refine lv_aload_n hx hb dX12_means_51 rfl (lv_at hl 0 rfl) ?_
      refine va_get (D := (dC, dI)) (ci := 12) (v := .ref (ad 29)) (C := RX12) (T := TX12) (N := 123) hx hb hts ii_X12 hown hK hP 0 rfl rfl 29 (by decide) (hts (.fieldLink RX12 70 "StoryHouseModel" "nameNumber" "[I") wq_1385) (fun _ h9 => h9) rfl dX12_means_52 ?_
      refine lv_iload_n hx hb dX12_means_55 rfl (lv_at hl 3 rfl) ?_
      obtain ⟨g_48, hF_49⟩ := nif_e hF_47
      clear hF_47
      refine va_iald (f := σ_14.2 29) hx hb hK hP 15 2 rfl rfl g_48 dX12_means_56 ?_
      exact Jj_18 (σ_14.2 29 x_3.toNatClampNeg) σ_14 hF_49 _ _ hP hS ls (lv_sub hl [0, 2, 3, 4] rfl)
    · have hF_50 := ineg c_46 hF_19
      clear hF_19
      refine lv_iload hx hb dX12_means_46 (lv_at hl 4 rfl) ?_
      refine lv_goto (tgt := 57) hx hb dX12_means_48 (by decide) ?_
      exact Jj_18 u_5.1 σ_14 hF_50 _ _ hP hS ls (lv_sub hl [0, 2, 3, 4] rfl)
  refine lv_if_lt (tgt := 29) hx hb dX12_means_21 (by decide) (fun c_51 => ?_) (fun c_51 => ?_)
  · have hF_52 := ipos c_51 hF_10
    clear hF_10
    refine lv_aload_n hx hb dX12_means_29 rfl (lv_at hl 2 rfl) ?_
    refine va_get (D := (dC, dI)) (ci := 12) (v := .ref (ad 28)) (C := RX12) (T := TX12) (N := 123) hx hb hts ii_X12 hown hK hP 0 rfl rfl 28 (by decide) (hts (.fieldLink RX12 67 "StoryHouseModel" "nameKind" "[I") wq_1384) (fun _ h9 => h9) rfl dX12_means_30 ?_
    refine lv_iload_n hx hb dX12_means_33 rfl (lv_at hl 1 rfl) ?_
    obtain ⟨g_53, hF_54⟩ := nif_e hF_52
    clear hF_52
    refine va_iald (f := u_5.2.2 28) hx hb hK hP 14 2 rfl rfl g_53 dX12_means_34 ?_
    exact Jj_9 (u_5.2.2 28 x_3.toNatClampNeg) u_5.2 hF_54 _ _ hP hS ls (lv_sub hl [2, 3, 4, 1, 0] rfl)
  · have hF_55 := ineg c_51 hF_10
    clear hF_10
    refine lv_bipush (v := 9) hx hb dX12_means_24 (by decide +kernel) ?_
    refine lv_goto (tgt := 35) hx hb dX12_means_26 (by decide) ?_
    exact Jj_9 9 u_5.2 hF_55 _ _ hP hS ls (lv_sub hl [2, 3, 4, 1, 0] rfl)
theorem dX12_meanExpression_0 : decode cX12_meanExpression 0 = .ok (.iload_n 1, 1) := by decide +kernel
theorem dX12_meanExpression_1 : decode cX12_meanExpression 1 = .ok (.istore_n 2, 1) := by decide +kernel
theorem dX12_meanExpression_2 : decode cX12_meanExpression 2 = .ok (.aload_n 0, 1) := by decide +kernel
theorem dX12_meanExpression_3 : decode cX12_meanExpression 3 = .ok (.getfield 49, 3) := by decide +kernel
theorem dX12_meanExpression_6 : decode cX12_meanExpression 6 = .ok (.iload_n 2, 1) := by decide +kernel
theorem dX12_meanExpression_7 : decode cX12_meanExpression 7 = .ok (.iaload, 1) := by decide +kernel
theorem dX12_meanExpression_8 : decode cX12_meanExpression 8 = .ok (.bipush 54, 2) := by decide +kernel
theorem dX12_meanExpression_10 : decode cX12_meanExpression 10 = .ok (.if_icmp .eq 36, 3) := by decide +kernel
theorem dX12_meanExpression_13 : decode cX12_meanExpression 13 = .ok (.aload_n 0, 1) := by decide +kernel
theorem dX12_meanExpression_14 : decode cX12_meanExpression 14 = .ok (.getfield 49, 3) := by decide +kernel
theorem dX12_meanExpression_17 : decode cX12_meanExpression 17 = .ok (.iload_n 2, 1) := by decide +kernel
theorem dX12_meanExpression_18 : decode cX12_meanExpression 18 = .ok (.iaload, 1) := by decide +kernel
theorem dX12_meanExpression_19 : decode cX12_meanExpression 19 = .ok (.bipush 55, 2) := by decide +kernel
theorem dX12_meanExpression_21 : decode cX12_meanExpression 21 = .ok (.if_icmp .eq 25, 3) := by decide +kernel
theorem dX12_meanExpression_24 : decode cX12_meanExpression 24 = .ok (.aload_n 0, 1) := by decide +kernel
theorem dX12_meanExpression_25 : decode cX12_meanExpression 25 = .ok (.getfield 49, 3) := by decide +kernel
theorem dX12_meanExpression_28 : decode cX12_meanExpression 28 = .ok (.iload_n 2, 1) := by decide +kernel
theorem dX12_meanExpression_29 : decode cX12_meanExpression 29 = .ok (.iaload, 1) := by decide +kernel
theorem dX12_meanExpression_30 : decode cX12_meanExpression 30 = .ok (.bipush 56, 2) := by decide +kernel
theorem dX12_meanExpression_32 : decode cX12_meanExpression 32 = .ok (.if_icmp .eq 14, 3) := by decide +kernel
theorem dX12_meanExpression_35 : decode cX12_meanExpression 35 = .ok (.aload_n 0, 1) := by decide +kernel
theorem dX12_meanExpression_36 : decode cX12_meanExpression 36 = .ok (.getfield 49, 3) := by decide +kernel
theorem dX12_meanExpression_39 : decode cX12_meanExpression 39 = .ok (.iload_n 2, 1) := by decide +kernel
theorem dX12_meanExpression_40 : decode cX12_meanExpression 40 = .ok (.iaload, 1) := by decide +kernel
theorem dX12_meanExpression_41 : decode cX12_meanExpression 41 = .ok (.bipush 57, 2) := by decide +kernel
theorem dX12_meanExpression_43 : decode cX12_meanExpression 43 = .ok (.if_icmp .ne 23, 3) := by decide +kernel
theorem dX12_meanExpression_46 : decode cX12_meanExpression 46 = .ok (.aload_n 0, 1) := by decide +kernel
theorem dX12_meanExpression_47 : decode cX12_meanExpression 47 = .ok (.aload_n 0, 1) := by decide +kernel
theorem dX12_meanExpression_48 : decode cX12_meanExpression 48 = .ok (.getfield 58, 3) := by decide +kernel
theorem dX12_meanExpression_51 : decode cX12_meanExpression 51 = .ok (.iload_n 2, 1) := by decide +kernel
theorem dX12_meanExpression_52 : decode cX12_meanExpression 52 = .ok (.iaload, 1) := by decide +kernel
theorem dX12_meanExpression_53 : decode cX12_meanExpression 53 = .ok (.invokevirtual 549, 3) := by decide +kernel
theorem dX12_meanExpression_56 : decode cX12_meanExpression 56 = .ok (.aload_n 0, 1) := by decide +kernel
theorem dX12_meanExpression_57 : decode cX12_meanExpression 57 = .ok (.getfield 55, 3) := by decide +kernel
theorem dX12_meanExpression_60 : decode cX12_meanExpression 60 = .ok (.iload_n 2, 1) := by decide +kernel
theorem dX12_meanExpression_61 : decode cX12_meanExpression 61 = .ok (.iaload, 1) := by decide +kernel
theorem dX12_meanExpression_62 : decode cX12_meanExpression 62 = .ok (.istore_n 2, 1) := by decide +kernel
theorem dX12_meanExpression_63 : decode cX12_meanExpression 63 = .ok (.goto (-61), 3) := by decide +kernel
theorem dX12_meanExpression_66 : decode cX12_meanExpression 66 = .ok (.aload_n 0, 1) := by decide +kernel
theorem dX12_meanExpression_67 : decode cX12_meanExpression 67 = .ok (.getfield 49, 3) := by decide +kernel
theorem dX12_meanExpression_70 : decode cX12_meanExpression 70 = .ok (.iload_n 2, 1) := by decide +kernel
theorem dX12_meanExpression_71 : decode cX12_meanExpression 71 = .ok (.iaload, 1) := by decide +kernel
theorem dX12_meanExpression_72 : decode cX12_meanExpression 72 = .ok (.tableswitch 232 41 58 #[88, 110, 152, 232, 232, 232, 232, 219, 219, 219, 219, 219, 219, 232, 232, 232, 232, 219], 88) := by decide +kernel
theorem dX12_meanExpression_160 : decode cX12_meanExpression 160 = .ok (.aload_n 0, 1) := by decide +kernel
theorem dX12_meanExpression_161 : decode cX12_meanExpression 161 = .ok (.iload_n 2, 1) := by decide +kernel
theorem dX12_meanExpression_162 : decode cX12_meanExpression 162 = .ok (.iconst 1, 1) := by decide +kernel
theorem dX12_meanExpression_163 : decode cX12_meanExpression 163 = .ok (.invokevirtual 552, 3) := by decide +kernel
theorem dX12_meanExpression_166 : decode cX12_meanExpression 166 = .ok (.ifCond .ne 138, 3) := by decide +kernel
theorem dX12_meanExpression_169 : decode cX12_meanExpression 169 = .ok (.aload_n 0, 1) := by decide +kernel
theorem dX12_meanExpression_170 : decode cX12_meanExpression 170 = .ok (.aload_n 0, 1) := by decide +kernel
theorem dX12_meanExpression_171 : decode cX12_meanExpression 171 = .ok (.getfield 52, 3) := by decide +kernel
theorem dX12_meanExpression_174 : decode cX12_meanExpression 174 = .ok (.iload_n 2, 1) := by decide +kernel
theorem dX12_meanExpression_175 : decode cX12_meanExpression 175 = .ok (.iaload, 1) := by decide +kernel
theorem dX12_meanExpression_176 : decode cX12_meanExpression 176 = .ok (.invokevirtual 525, 3) := by decide +kernel
theorem dX12_meanExpression_179 : decode cX12_meanExpression 179 = .ok (.goto 125, 3) := by decide +kernel
theorem dX12_meanExpression_182 : decode cX12_meanExpression 182 = .ok (.aload_n 0, 1) := by decide +kernel
theorem dX12_meanExpression_183 : decode cX12_meanExpression 183 = .ok (.aload_n 0, 1) := by decide +kernel
theorem dX12_meanExpression_184 : decode cX12_meanExpression 184 = .ok (.getfield 55, 3) := by decide +kernel
theorem dX12_meanExpression_187 : decode cX12_meanExpression 187 = .ok (.iload_n 2, 1) := by decide +kernel
theorem dX12_meanExpression_188 : decode cX12_meanExpression 188 = .ok (.iaload, 1) := by decide +kernel
theorem dX12_meanExpression_189 : decode cX12_meanExpression 189 = .ok (.aload_n 0, 1) := by decide +kernel
theorem dX12_meanExpression_190 : decode cX12_meanExpression 190 = .ok (.getfield 52, 3) := by decide +kernel
theorem dX12_meanExpression_193 : decode cX12_meanExpression 193 = .ok (.iload_n 2, 1) := by decide +kernel
theorem dX12_meanExpression_194 : decode cX12_meanExpression 194 = .ok (.iaload, 1) := by decide +kernel
theorem dX12_meanExpression_195 : decode cX12_meanExpression 195 = .ok (.aload_n 0, 1) := by decide +kernel
theorem dX12_meanExpression_196 : decode cX12_meanExpression 196 = .ok (.getfield 58, 3) := by decide +kernel
theorem dX12_meanExpression_199 : decode cX12_meanExpression 199 = .ok (.iload_n 2, 1) := by decide +kernel
theorem dX12_meanExpression_200 : decode cX12_meanExpression 200 = .ok (.iaload, 1) := by decide +kernel
theorem dX12_meanExpression_201 : decode cX12_meanExpression 201 = .ok (.invokevirtual 556, 3) := by decide +kernel
theorem dX12_meanExpression_204 : decode cX12_meanExpression 204 = .ok (.aload_n 0, 1) := by decide +kernel
theorem dX12_meanExpression_205 : decode cX12_meanExpression 205 = .ok (.getfield 61, 3) := by decide +kernel
theorem dX12_meanExpression_208 : decode cX12_meanExpression 208 = .ok (.iload_n 2, 1) := by decide +kernel
theorem dX12_meanExpression_209 : decode cX12_meanExpression 209 = .ok (.aload_n 0, 1) := by decide +kernel
theorem dX12_meanExpression_210 : decode cX12_meanExpression 210 = .ok (.getfield 73, 3) := by decide +kernel
theorem dX12_meanExpression_213 : decode cX12_meanExpression 213 = .ok (.aload_n 0, 1) := by decide +kernel
theorem dX12_meanExpression_214 : decode cX12_meanExpression 214 = .ok (.getfield 55, 3) := by decide +kernel
theorem dX12_meanExpression_217 : decode cX12_meanExpression 217 = .ok (.iload_n 2, 1) := by decide +kernel
theorem dX12_meanExpression_218 : decode cX12_meanExpression 218 = .ok (.iaload, 1) := by decide +kernel
theorem dX12_meanExpression_219 : decode cX12_meanExpression 219 = .ok (.iaload, 1) := by decide +kernel
theorem dX12_meanExpression_220 : decode cX12_meanExpression 220 = .ok (.iastore, 1) := by decide +kernel
theorem dX12_meanExpression_221 : decode cX12_meanExpression 221 = .ok (.goto 83, 3) := by decide +kernel
theorem dX12_meanExpression_224 : decode cX12_meanExpression 224 = .ok (.aload_n 0, 1) := by decide +kernel
theorem dX12_meanExpression_225 : decode cX12_meanExpression 225 = .ok (.aload_n 0, 1) := by decide +kernel
theorem dX12_meanExpression_226 : decode cX12_meanExpression 226 = .ok (.getfield 55, 3) := by decide +kernel
theorem dX12_meanExpression_229 : decode cX12_meanExpression 229 = .ok (.iload_n 2, 1) := by decide +kernel
theorem dX12_meanExpression_230 : decode cX12_meanExpression 230 = .ok (.iaload, 1) := by decide +kernel
theorem dX12_meanExpression_231 : decode cX12_meanExpression 231 = .ok (.iconst 5, 1) := by decide +kernel
theorem dX12_meanExpression_232 : decode cX12_meanExpression 232 = .ok (.invokevirtual 521, 3) := by decide +kernel
theorem dX12_meanExpression_235 : decode cX12_meanExpression 235 = .ok (.ifCond .eq 16, 3) := by decide +kernel
theorem dX12_meanExpression_238 : decode cX12_meanExpression 238 = .ok (.aload_n 0, 1) := by decide +kernel
theorem dX12_meanExpression_239 : decode cX12_meanExpression 239 = .ok (.aload_n 0, 1) := by decide +kernel
theorem dX12_meanExpression_240 : decode cX12_meanExpression 240 = .ok (.getfield 55, 3) := by decide +kernel
theorem dX12_meanExpression_243 : decode cX12_meanExpression 243 = .ok (.iload_n 2, 1) := by decide +kernel
theorem dX12_meanExpression_244 : decode cX12_meanExpression 244 = .ok (.iaload, 1) := by decide +kernel
theorem dX12_meanExpression_245 : decode cX12_meanExpression 245 = .ok (.invokevirtual 546, 3) := by decide +kernel
theorem dX12_meanExpression_248 : decode cX12_meanExpression 248 = .ok (.ifCond .lt 13, 3) := by decide +kernel
theorem dX12_meanExpression_251 : decode cX12_meanExpression 251 = .ok (.aload_n 0, 1) := by decide +kernel
theorem dX12_meanExpression_252 : decode cX12_meanExpression 252 = .ok (.aload_n 0, 1) := by decide +kernel
theorem dX12_meanExpression_253 : decode cX12_meanExpression 253 = .ok (.getfield 52, 3) := by decide +kernel
theorem dX12_meanExpression_256 : decode cX12_meanExpression 256 = .ok (.iload_n 2, 1) := by decide +kernel
theorem dX12_meanExpression_257 : decode cX12_meanExpression 257 = .ok (.iaload, 1) := by decide +kernel
theorem dX12_meanExpression_258 : decode cX12_meanExpression 258 = .ok (.invokevirtual 525, 3) := by decide +kernel
theorem dX12_meanExpression_261 : decode cX12_meanExpression 261 = .ok (.aload_n 0, 1) := by decide +kernel
theorem dX12_meanExpression_262 : decode cX12_meanExpression 262 = .ok (.getfield 61, 3) := by decide +kernel
theorem dX12_meanExpression_265 : decode cX12_meanExpression 265 = .ok (.iload_n 2, 1) := by decide +kernel
theorem dX12_meanExpression_266 : decode cX12_meanExpression 266 = .ok (.aload_n 0, 1) := by decide +kernel
theorem dX12_meanExpression_267 : decode cX12_meanExpression 267 = .ok (.getfield 70, 3) := by decide +kernel
theorem dX12_meanExpression_270 : decode cX12_meanExpression 270 = .ok (.aload_n 0, 1) := by decide +kernel
theorem dX12_meanExpression_271 : decode cX12_meanExpression 271 = .ok (.getfield 55, 3) := by decide +kernel
theorem dX12_meanExpression_274 : decode cX12_meanExpression 274 = .ok (.iload_n 2, 1) := by decide +kernel
theorem dX12_meanExpression_275 : decode cX12_meanExpression 275 = .ok (.iaload, 1) := by decide +kernel
theorem dX12_meanExpression_276 : decode cX12_meanExpression 276 = .ok (.iaload, 1) := by decide +kernel
theorem dX12_meanExpression_277 : decode cX12_meanExpression 277 = .ok (.iastore, 1) := by decide +kernel
theorem dX12_meanExpression_278 : decode cX12_meanExpression 278 = .ok (.aload_n 0, 1) := by decide +kernel
theorem dX12_meanExpression_279 : decode cX12_meanExpression 279 = .ok (.aload_n 0, 1) := by decide +kernel
theorem dX12_meanExpression_280 : decode cX12_meanExpression 280 = .ok (.getfield 58, 3) := by decide +kernel
theorem dX12_meanExpression_283 : decode cX12_meanExpression 283 = .ok (.iload_n 2, 1) := by decide +kernel
theorem dX12_meanExpression_284 : decode cX12_meanExpression 284 = .ok (.iaload, 1) := by decide +kernel
theorem dX12_meanExpression_285 : decode cX12_meanExpression 285 = .ok (.invokevirtual 549, 3) := by decide +kernel
theorem dX12_meanExpression_288 : decode cX12_meanExpression 288 = .ok (.goto 16, 3) := by decide +kernel
theorem dX12_meanExpression_291 : decode cX12_meanExpression 291 = .ok (.aload_n 0, 1) := by decide +kernel
theorem dX12_meanExpression_292 : decode cX12_meanExpression 292 = .ok (.aload_n 0, 1) := by decide +kernel
theorem dX12_meanExpression_293 : decode cX12_meanExpression 293 = .ok (.getfield 55, 3) := by decide +kernel
theorem dX12_meanExpression_296 : decode cX12_meanExpression 296 = .ok (.iload_n 2, 1) := by decide +kernel
theorem dX12_meanExpression_297 : decode cX12_meanExpression 297 = .ok (.iaload, 1) := by decide +kernel
theorem dX12_meanExpression_298 : decode cX12_meanExpression 298 = .ok (.invokevirtual 549, 3) := by decide +kernel
theorem dX12_meanExpression_301 : decode cX12_meanExpression 301 = .ok (.goto 3, 3) := by decide +kernel
theorem dX12_meanExpression_304 : decode cX12_meanExpression 304 = .ok (.return_, 1) := by decide +kernel
theorem dX12_meanCall_0 : decode cX12_meanCall 0 = .ok (.iconst 0, 1) := by decide +kernel
theorem dX12_meanCall_1 : decode cX12_meanCall 1 = .ok (.istore 4, 2) := by decide +kernel
theorem dX12_meanCall_3 : decode cX12_meanCall 3 = .ok (.iload_n 3, 1) := by decide +kernel
theorem dX12_meanCall_4 : decode cX12_meanCall 4 = .ok (.istore 5, 2) := by decide +kernel
theorem dX12_meanCall_6 : decode cX12_meanCall 6 = .ok (.iload 5, 2) := by decide +kernel
theorem dX12_meanCall_8 : decode cX12_meanCall 8 = .ok (.ifCond .lt 24, 3) := by decide +kernel
theorem dX12_meanCall_11 : decode cX12_meanCall 11 = .ok (.aload_n 0, 1) := by decide +kernel
theorem dX12_meanCall_12 : decode cX12_meanCall 12 = .ok (.iload 5, 2) := by decide +kernel
theorem dX12_meanCall_14 : decode cX12_meanCall 14 = .ok (.invokevirtual 549, 3) := by decide +kernel
theorem dX12_meanCall_17 : decode cX12_meanCall 17 = .ok (.iinc 4 1, 3) := by decide +kernel
theorem dX12_meanCall_20 : decode cX12_meanCall 20 = .ok (.aload_n 0, 1) := by decide +kernel
theorem dX12_meanCall_21 : decode cX12_meanCall 21 = .ok (.getfield 64, 3) := by decide +kernel
theorem dX12_meanCall_24 : decode cX12_meanCall 24 = .ok (.iload 5, 2) := by decide +kernel
theorem dX12_meanCall_26 : decode cX12_meanCall 26 = .ok (.iaload, 1) := by decide +kernel
theorem dX12_meanCall_27 : decode cX12_meanCall 27 = .ok (.istore 5, 2) := by decide +kernel
theorem dX12_meanCall_29 : decode cX12_meanCall 29 = .ok (.goto (-23), 3) := by decide +kernel
theorem dX12_meanCall_32 : decode cX12_meanCall 32 = .ok (.iconst 0, 1) := by decide +kernel
theorem dX12_meanCall_33 : decode cX12_meanCall 33 = .ok (.istore 5, 2) := by decide +kernel
theorem dX12_meanCall_35 : decode cX12_meanCall 35 = .ok (.aload_n 0, 1) := by decide +kernel
theorem dX12_meanCall_36 : decode cX12_meanCall 36 = .ok (.iload_n 1, 1) := by decide +kernel
theorem dX12_meanCall_37 : decode cX12_meanCall 37 = .ok (.bipush 6, 2) := by decide +kernel
theorem dX12_meanCall_39 : decode cX12_meanCall 39 = .ok (.invokevirtual 521, 3) := by decide +kernel
theorem dX12_meanCall_42 : decode cX12_meanCall 42 = .ok (.ifCond .eq 36, 3) := by decide +kernel
theorem dX12_meanCall_45 : decode cX12_meanCall 45 = .ok (.aload_n 0, 1) := by decide +kernel
theorem dX12_meanCall_46 : decode cX12_meanCall 46 = .ok (.getfield 58, 3) := by decide +kernel
theorem dX12_meanCall_49 : decode cX12_meanCall 49 = .ok (.aload_n 0, 1) := by decide +kernel
theorem dX12_meanCall_50 : decode cX12_meanCall 50 = .ok (.getfield 73, 3) := by decide +kernel
theorem dX12_meanCall_53 : decode cX12_meanCall 53 = .ok (.iload_n 1, 1) := by decide +kernel
theorem dX12_meanCall_54 : decode cX12_meanCall 54 = .ok (.iaload, 1) := by decide +kernel
theorem dX12_meanCall_55 : decode cX12_meanCall 55 = .ok (.iaload, 1) := by decide +kernel
theorem dX12_meanCall_56 : decode cX12_meanCall 56 = .ok (.istore 6, 2) := by decide +kernel
theorem dX12_meanCall_58 : decode cX12_meanCall 58 = .ok (.iload 6, 2) := by decide +kernel
theorem dX12_meanCall_60 : decode cX12_meanCall 60 = .ok (.ifCond .lt 18, 3) := by decide +kernel
theorem dX12_meanCall_63 : decode cX12_meanCall 63 = .ok (.iinc 5 1, 3) := by decide +kernel
theorem dX12_meanCall_66 : decode cX12_meanCall 66 = .ok (.aload_n 0, 1) := by decide +kernel
theorem dX12_meanCall_67 : decode cX12_meanCall 67 = .ok (.getfield 64, 3) := by decide +kernel
theorem dX12_meanCall_70 : decode cX12_meanCall 70 = .ok (.iload 6, 2) := by decide +kernel
theorem dX12_meanCall_72 : decode cX12_meanCall 72 = .ok (.iaload, 1) := by decide +kernel
theorem dX12_meanCall_73 : decode cX12_meanCall 73 = .ok (.istore 6, 2) := by decide +kernel
theorem dX12_meanCall_75 : decode cX12_meanCall 75 = .ok (.goto (-17), 3) := by decide +kernel
theorem dX12_meanCall_78 : decode cX12_meanCall 78 = .ok (.aload_n 0, 1) := by decide +kernel
theorem dX12_meanCall_79 : decode cX12_meanCall 79 = .ok (.iload_n 1, 1) := by decide +kernel
theorem dX12_meanCall_80 : decode cX12_meanCall 80 = .ok (.bipush 6, 2) := by decide +kernel
theorem dX12_meanCall_82 : decode cX12_meanCall 82 = .ok (.invokevirtual 521, 3) := by decide +kernel
theorem dX12_meanCall_85 : decode cX12_meanCall 85 = .ok (.ifCond .eq 18, 3) := by decide +kernel
theorem dX12_meanCall_88 : decode cX12_meanCall 88 = .ok (.aload_n 0, 1) := by decide +kernel
theorem dX12_meanCall_89 : decode cX12_meanCall 89 = .ok (.iload_n 1, 1) := by decide +kernel
theorem dX12_meanCall_90 : decode cX12_meanCall 90 = .ok (.invokevirtual 546, 3) := by decide +kernel
theorem dX12_meanCall_93 : decode cX12_meanCall 93 = .ok (.ifCond .ge 10, 3) := by decide +kernel
theorem dX12_meanCall_96 : decode cX12_meanCall 96 = .ok (.iload 5, 2) := by decide +kernel
theorem dX12_meanCall_98 : decode cX12_meanCall 98 = .ok (.iload 4, 2) := by decide +kernel
theorem dX12_meanCall_100 : decode cX12_meanCall 100 = .ok (.if_icmp .eq 8, 3) := by decide +kernel
theorem dX12_meanCall_103 : decode cX12_meanCall 103 = .ok (.aload_n 0, 1) := by decide +kernel
theorem dX12_meanCall_104 : decode cX12_meanCall 104 = .ok (.iload_n 2, 1) := by decide +kernel
theorem dX12_meanCall_105 : decode cX12_meanCall 105 = .ok (.invokevirtual 525, 3) := by decide +kernel
theorem dX12_meanCall_108 : decode cX12_meanCall 108 = .ok (.return_, 1) := by decide +kernel
def F_X12_meanExpression (rec : GF) (p0 : Int32) (σ : MS) : MR :=
  loopF (fun (again_2 : (Int32 × MS) → MR) (s_1 : Int32 × MS) => (
    if s_1.1 < 0 ∨ 40000 ≤ s_1.1.toNatClampNeg then none else
    bnd (fun  (σ_7 : MS) => (
      if s_1.1 < 0 ∨ 40000 ≤ s_1.1.toNatClampNeg then none else
      (rec 0 (σ_7.2 20 s_1.1.toNatClampNeg) 0 0 σ_7).bind fun u_13 =>
      if s_1.1 < 0 ∨ 40000 ≤ s_1.1.toNatClampNeg then none else
      bnd ((u_13.2.2 19 s_1.1.toNatClampNeg)) fun (x_17 : Int32) =>
      again_2 (x_17, u_13.2)
    ) : MS → MR) fun j_8 =>
    if (s_1.2.2 17 s_1.1.toNatClampNeg) = 54 then (
      j_8  s_1.2
    ) else (
      if s_1.1 < 0 ∨ 40000 ≤ s_1.1.toNatClampNeg then none else
      if (s_1.2.2 17 s_1.1.toNatClampNeg) = 55 then (
        j_8  s_1.2
      ) else (
        if s_1.1 < 0 ∨ 40000 ≤ s_1.1.toNatClampNeg then none else
        if (s_1.2.2 17 s_1.1.toNatClampNeg) = 56 then (
          j_8  s_1.2
        ) else (
          if s_1.1 < 0 ∨ 40000 ≤ s_1.1.toNatClampNeg then none else
          if (s_1.2.2 17 s_1.1.toNatClampNeg) = 57 then (
            j_8  s_1.2
          ) else (
            if s_1.1 < 0 ∨ 40000 ≤ s_1.1.toNatClampNeg then none else
            bnd ((s_1.2.2 17 s_1.1.toNatClampNeg)) fun (x_39 : Int32) =>
            if x_39 = 41 then (
              (F_X12_means s_1.1 1 s_1.2).bind fun u_43 =>
              if u_43.1 = 0 then (
                if s_1.1 < 0 ∨ 40000 ≤ s_1.1.toNatClampNeg then none else
                (F_X12_wrong (u_43.2.2 18 s_1.1.toNatClampNeg) u_43.2).bind fun u_49 =>
                some (0, u_49.2)
              ) else (
                some (0, u_43.2)
              )
            ) else
            if x_39 = 42 then (
              if s_1.1 < 0 ∨ 40000 ≤ s_1.1.toNatClampNeg then none else
              if s_1.1 < 0 ∨ 40000 ≤ s_1.1.toNatClampNeg then none else
              if s_1.1 < 0 ∨ 40000 ≤ s_1.1.toNatClampNeg then none else
              (rec 1 (s_1.2.2 19 s_1.1.toNatClampNeg) (s_1.2.2 18 s_1.1.toNatClampNeg) (s_1.2.2 20 s_1.1.toNatClampNeg) s_1.2).bind fun u_61 =>
              if s_1.1 < 0 ∨ 40000 ≤ s_1.1.toNatClampNeg then none else
              bnd ((u_61.2.2 19 s_1.1.toNatClampNeg)) fun (x_65 : Int32) =>
              if x_65 < 0 ∨ 8000 ≤ x_65.toNatClampNeg then none else
              bnd ((u_61.2.2 30 x_65.toNatClampNeg)) fun (x_69 : Int32) =>
              if s_1.1 < 0 ∨ 40000 ≤ s_1.1.toNatClampNeg then none else
              bnd (mA u_61.2 21 (upd (u_61.2.2 21) s_1.1.toNatClampNeg x_69)) fun σ_73 =>
              some (0, σ_73)
            ) else
            if x_39 = 43 then (
              if s_1.1 < 0 ∨ 40000 ≤ s_1.1.toNatClampNeg then none else
              (F_X12_is (s_1.2.2 19 s_1.1.toNatClampNeg) 5 s_1.2).bind fun u_80 =>
              bnd (fun  (σ_82 : MS) => (
                if s_1.1 < 0 ∨ 40000 ≤ s_1.1.toNatClampNeg then none else
                bnd ((σ_82.2 19 s_1.1.toNatClampNeg)) fun (x_88 : Int32) =>
                if x_88 < 0 ∨ 8000 ≤ x_88.toNatClampNeg then none else
                if s_1.1 < 0 ∨ 40000 ≤ s_1.1.toNatClampNeg then none else
                bnd (mA σ_82 21 (upd (σ_82.2 21) s_1.1.toNatClampNeg (σ_82.2 29 x_88.toNatClampNeg))) fun σ_94 =>
                if s_1.1 < 0 ∨ 40000 ≤ s_1.1.toNatClampNeg then none else
                (rec 0 (σ_94.2 20 s_1.1.toNatClampNeg) 0 0 σ_94).bind fun u_98 =>
                some (0, u_98.2)
              ) : MS → MR) fun j_83 =>
              bnd (fun  (σ_100 : MS) => (
                if s_1.1 < 0 ∨ 40000 ≤ s_1.1.toNatClampNeg then none else
                (F_X12_wrong (σ_100.2 18 s_1.1.toNatClampNeg) σ_100).bind fun u_106 =>
                j_83  u_106.2
              ) : MS → MR) fun j_101 =>
              if u_80.1 = 0 then (
                j_101  u_80.2
              ) else (
                if s_1.1 < 0 ∨ 40000 ≤ s_1.1.toNatClampNeg then none else
                (F_X12_slotOf (u_80.2.2 19 s_1.1.toNatClampNeg) u_80.2).bind fun u_113 =>
                if u_113.1 < 0 then (
                  j_83  u_113.2
                ) else (
                  j_101  u_113.2
                )
              )
            ) else
            if x_39 = 48 ∨ x_39 = 49 ∨ x_39 = 50 ∨ x_39 = 51 ∨ x_39 = 52 ∨ x_39 = 53 ∨ x_39 = 58 then (
              if s_1.1 < 0 ∨ 40000 ≤ s_1.1.toNatClampNeg then none else
              (rec 0 (s_1.2.2 19 s_1.1.toNatClampNeg) 0 0 s_1.2).bind fun u_123 =>
              some (0, u_123.2)
            ) else
            (
              some (0, s_1.2)
            )
          )
        )
      )
    )
  )) FU (p0, σ)
set_option maxHeartbeats 4000000 in
set_option maxRecDepth 100000 in
theorem m_X12_meanExpression_st (l : Launch) (dC : Nat → ClassId) (dI : Nat → Nat → Nat) (cB cC cI cJ cZ cP : ClassId) (h qK qS : Nat) (ad : Nat → Nat) (hDD : mDis cB cI cZ h qK qS ad) (d : Nat) (rec : GF) (hI0 : ∀ (sz : Nat) (p0 : Int32) (σ : MS) (res : Int32 × MS), rec 0 p0 0 0 σ = some res → Met l yX12_meanExpression (g_ws yX12_meanExpression cX12_meanExpression 3 none) ({ frames := 3 + d, cells := 0, slots := 0, locals := 86 + 26 * d }) (va_Pc [.ref h, .int p0] (m_B (dC, dI) [(cB, .byte), (cC, .char), (cI, .int), (cJ, .long), (cZ, .boolean), (cP, .object "StoryHouse$Play")] sz h ad qK qS (mW cB cI cZ h qK qS ad σ) g_0)) (va_Qv (fun (_ : Unit) => True) (fun _ t => va_P (dC, dI) vwCl (mW cB cI cZ h qK qS ad res.2) t.heap) (mCells h ad sz)) 0 0 (mCells h ad sz)) (hI1 : ∀ (sz : Nat) (p0 : Int32) (p1 : Int32) (p2 : Int32) (σ : MS) (res : Int32 × MS), rec 1 p0 p1 p2  σ = some res → Met l yX12_meanCall (g_ws yX12_meanCall cX12_meanCall 7 none) ({ frames := 3 + d, cells := 0, slots := 0, locals := 86 + 26 * d }) (va_Pc [.ref h, .int p0, .int p1, .int p2] (m_B (dC, dI) [(cB, .byte), (cC, .char), (cI, .int), (cJ, .long), (cZ, .boolean), (cP, .object "StoryHouse$Play")] sz h ad qK qS (mW cB cI cZ h qK qS ad σ) g_0)) (va_Qv (fun (_ : Unit) => True) (fun _ t => va_P (dC, dI) vwCl (mW cB cI cZ h qK qS ad res.2) t.heap) (mCells h ad sz)) 0 0 (mCells h ad sz)) (sz : Nat)  (p0 : Int32) (σ : MS) (res : Int32 × MS) (hF : F_X12_meanExpression rec p0 σ = some res) : Met l yX12_meanExpression (g_ws yX12_meanExpression cX12_meanExpression 3 none) ({ frames := 3 + (d + 1), cells := 0, slots := 0, locals := 86 + 26 * (d + 1) }) (va_Pc [.ref h, .int p0] (m_B (dC, dI) [(cB, .byte), (cC, .char), (cI, .int), (cJ, .long), (cZ, .boolean), (cP, .object "StoryHouse$Play")] sz h ad qK qS (mW cB cI cZ h qK qS ad σ) g_0)) (va_Qv (fun (_ : Unit) => True) (fun _ t => va_P (dC, dI) vwCl (mW cB cI cZ h qK qS ad res.2) t.heap) (mCells h ad sz)) 0 0 (mCells h ad sz) := by
  refine Met.ofW (cc := cX12_meanExpression) (maxL := 3) (ret := none) (by decide) rfl ?_
  intro p e s m args below meth c s₁ B hml hv
  obtain ⟨rfl, hsz, hP, hK, hE, hKS, hX⟩ := hv
  have hx := B.exec
  have hb := B.bytes
  have hr := B.returns
  have hts0 := atoms_spec (ws := g_ws yX12_meanExpression cX12_meanExpression 3 none) B.pre
  have hts : ∀ w ∈ lw_good, w.before ([.ref h, .int p0] : List Value).toArray s = true := fun w z => hts0 w (List.mem_cons_of_mem _ z)
  have hown : s.vm.findClass RX12 = some m.cls := findClass_of_methodNamed B.named
  have hlocks := B.notSynchronized
  have hS : va_S (mCells h ad sz) s.heap s.heap [] := va_S.rf
  have hl := lv_entry ([.ref h, .int p0]) (n := 3) (Nat.le_of_ble_eq_true rfl)
  rw [lg_entry_eq]
  generalize (lg_sl ([.ref h, .int p0]) ++ List.replicate (3 - (lg_sl ([.ref h, .int p0])).length) Slot.unset).toArray = ls at hl ⊢
  have hl : lv_has ls 3 [(0, .ref h), (1, .int p0)] := hl
  unfold F_X12_meanExpression at hF
  refine lv_iload_n hx hb dX12_meanExpression_0 rfl (lv_at hl 1 rfl) ?_
  refine lv_istore_n (lv' := [(2, .int p0), (0, .ref h), (1, .int p0)]) hx hb dX12_meanExpression_1 rfl hl (by decide) rfl (fun ls hl => ?_)
  refine loopF_ind (P := fun (s_1 : Int32 × MS) => ∀ (H : Heap) (locs : List Loc), va_P (dC, dI) vwCl (mW cB cI cZ h qK qS ad s_1.2) H → va_S (mCells h ad sz) s.heap H locs → ∀ ls : Array Slot, lv_has ls 3 [(0, .ref h), (2, .int s_1.1)] → W p l e (headSpec (g_ws yX12_meanExpression cX12_meanExpression 3 none) { frames := 3 + (d + 1), cells := 0, slots := 0, locals := 86 + 26 * (d + 1) }).room s m ([.ref h, .int p0] : List Value).toArray below meth c H locs 0 0 (MQ below (va_Qv (fun (_ : Unit) => True) (fun _ t => va_P (dC, dI) vwCl (mW cB cI cZ h qK qS ad res.2) t.heap) (mCells h ad sz)) ([.ref h, .int p0] : List Value).toArray s 0 0 (mCells h ad sz)) (F0 m 2 ls [])) ?_ _ _ hF _ _ hP hS ls (lv_sub hl [1, 0] rfl)
  intro again_2 s_1 ih_3 hF_4
  intro H locs hP hS ls hl
  refine lv_aload_n hx hb dX12_meanExpression_2 rfl (lv_at hl 0 rfl) ?_
  refine va_get (D := (dC, dI)) (ci := 12) (v := .ref (ad 17)) (C := RX12) (T := TX12) (N := 123) hx hb hts ii_X12 hown hK hP 0 rfl rfl 17 (by decide) (hts (.fieldLink RX12 49 "StoryHouseModel" "what" "[I") wq_1373) (fun _ h9 => h9) rfl dX12_meanExpression_3 ?_
  refine lv_iload_n hx hb dX12_meanExpression_6 rfl (lv_at hl 1 rfl) ?_
  obtain ⟨g_5, hF_6⟩ := nif_e hF_4
  clear hF_4
  refine va_iald (f := s_1.2.2 17) hx hb hK hP 8 2 rfl rfl g_5 dX12_meanExpression_7 ?_
  refine lv_bipush (v := 54) hx hb dX12_meanExpression_8 (by decide +kernel) ?_
  obtain ⟨j_8, ej_8, hF_9⟩ := bnd_e hF_6
  clear hF_6
  have Jj_8 : ∀  (σ_7 : MS), j_8  σ_7 = some res → ∀ (H : Heap) (locs : List Loc), va_P (dC, dI) vwCl (mW cB cI cZ h qK qS ad σ_7) H → va_S (mCells h ad sz) s.heap H locs → ∀ ls : Array Slot, lv_has ls 3 [(0, .ref h), (2, .int s_1.1)] → W p l e (headSpec (g_ws yX12_meanExpression cX12_meanExpression 3 none) { frames := 3 + (d + 1), cells := 0, slots := 0, locals := 86 + 26 * (d + 1) }).room s m ([.ref h, .int p0] : List Value).toArray below meth c H locs 0 0 (MQ below (va_Qv (fun (_ : Unit) => True) (fun _ t => va_P (dC, dI) vwCl (mW cB cI cZ h qK qS ad res.2) t.heap) (mCells h ad sz)) ([.ref h, .int p0] : List Value).toArray s 0 0 (mCells h ad sz)) (F0 m 46 ls []) := by
    intro  σ_7 hF0 H locs hP hS ls hl
    subst ej_8
    have hF_10 := hF0
    clear hF0
    refine lv_aload_n hx hb dX12_meanExpression_46 rfl (lv_at hl 0 rfl) ?_
    refine lv_aload_n hx hb dX12_meanExpression_47 rfl (lv_at hl 0 rfl) ?_
    refine va_get (D := (dC, dI)) (ci := 12) (v := .ref (ad 20)) (C := RX12) (T := TX12) (N := 123) hx hb hts ii_X12 hown hK hP 0 rfl rfl 20 (by decide) (hts (.fieldLink RX12 58 "StoryHouseModel" "b" "[I") wq_1376) (fun _ h9 => h9) rfl dX12_meanExpression_48 ?_
    refine lv_iload_n hx hb dX12_meanExpression_51 rfl (lv_at hl 1 rfl) ?_
    obtain ⟨g_11, hF_12⟩ := nif_e hF_10
    clear hF_10
    refine va_iald (f := σ_7.2 20) hx hb hK hP 11 2 rfl rfl g_11 dX12_meanExpression_52 ?_
    obtain ⟨u_13, hu_13, hF_14⟩ := Option.bind_eq_some_iff.mp hF_12
    clear hF_12
    refine m_cv hsz hS (va_runV (As := [.int (σ_7.2 20 s_1.1.toNatClampNeg)]) (rest := []) ⟨hx, hb, hml, hown, hts⟩ (hI0 H.size (σ_7.2 20 s_1.1.toNatClampNeg) σ_7 _ hu_13) (cwV 1 hts (g_gV wq_1702 wq_1703 wq_2179 wq_13 wq_1704) rfl rfl rfl (by decide +kernel) ⟨by show 3 + d + 1 ≤ 3 + (d + 1); omega, by show 8 + (3 + 11) + (86 + 26 * d) ≤ 86 + 26 * (d + 1); omega⟩) (m_preV g_bl0 hsz hK hP hS hE hKS g_to0) rfl rfl hl.1 rfl (lv_room (Nat.le_of_ble_eq_true rfl)) dX12_meanExpression_53 ⟨Nat.le_of_ble_eq_true rfl, Nat.le_of_ble_eq_true rfl⟩) (fun H locs hP hS => ?_)
    refine lv_aload_n hx hb dX12_meanExpression_56 rfl (lv_at hl 0 rfl) ?_
    refine va_get (D := (dC, dI)) (ci := 12) (v := .ref (ad 19)) (C := RX12) (T := TX12) (N := 123) hx hb hts ii_X12 hown hK hP 0 rfl rfl 19 (by decide) (hts (.fieldLink RX12 55 "StoryHouseModel" "a" "[I") wq_1375) (fun _ h9 => h9) rfl dX12_meanExpression_57 ?_
    refine lv_iload_n hx hb dX12_meanExpression_60 rfl (lv_at hl 1 rfl) ?_
    obtain ⟨g_15, hF_16⟩ := nif_e hF_14
    clear hF_14
    refine va_iald (f := u_13.2.2 19) hx hb hK hP 10 2 rfl rfl g_15 dX12_meanExpression_61 ?_
    obtain ⟨x_17, ex_17, hF_18⟩ := bnd_e hF_16
    clear hF_16
    refine m_top ex_17 ?_
    refine lv_istore_n (lv' := [(2, .int x_17), (0, .ref h)]) hx hb dX12_meanExpression_62 rfl hl (by decide) rfl (fun ls hl => ?_)
    refine lv_goto (tgt := 2) hx hb dX12_meanExpression_63 (by decide) ?_
    exact ih_3 (x_17, u_13.2) hF_18 _ _ hP hS ls (lv_sub hl [1, 0] rfl)
  refine lv_icmp_eq (tgt := 46) hx hb dX12_meanExpression_10 (by decide) (fun c_19 => ?_) (fun c_19 => ?_)
  · have hF_20 := ipos c_19 hF_9
    clear hF_9
    exact Jj_8  s_1.2 hF_20 _ _ hP hS ls (lv_sub hl [0, 1] rfl)
  · have hF_21 := ineg c_19 hF_9
    clear hF_9
    refine lv_aload_n hx hb dX12_meanExpression_13 rfl (lv_at hl 0 rfl) ?_
    refine va_get (D := (dC, dI)) (ci := 12) (v := .ref (ad 17)) (C := RX12) (T := TX12) (N := 123) hx hb hts ii_X12 hown hK hP 0 rfl rfl 17 (by decide) (hts (.fieldLink RX12 49 "StoryHouseModel" "what" "[I") wq_1373) (fun _ h9 => h9) rfl dX12_meanExpression_14 ?_
    refine lv_iload_n hx hb dX12_meanExpression_17 rfl (lv_at hl 1 rfl) ?_
    obtain ⟨g_22, hF_23⟩ := nif_e hF_21
    clear hF_21
    refine va_iald (f := s_1.2.2 17) hx hb hK hP 8 2 rfl rfl g_22 dX12_meanExpression_18 ?_
    refine lv_bipush (v := 55) hx hb dX12_meanExpression_19 (by decide +kernel) ?_
    refine lv_icmp_eq (tgt := 46) hx hb dX12_meanExpression_21 (by decide) (fun c_24 => ?_) (fun c_24 => ?_)
    · have hF_25 := ipos c_24 hF_23
      clear hF_23
      exact Jj_8  s_1.2 hF_25 _ _ hP hS ls (lv_sub hl [0, 1] rfl)
    · have hF_26 := ineg c_24 hF_23
      clear hF_23
      refine lv_aload_n hx hb dX12_meanExpression_24 rfl (lv_at hl 0 rfl) ?_
      refine va_get (D := (dC, dI)) (ci := 12) (v := .ref (ad 17)) (C := RX12) (T := TX12) (N := 123) hx hb hts ii_X12 hown hK hP 0 rfl rfl 17 (by decide) (hts (.fieldLink RX12 49 "StoryHouseModel" "what" "[I") wq_1373) (fun _ h9 => h9) rfl dX12_meanExpression_25 ?_
      refine lv_iload_n hx hb dX12_meanExpression_28 rfl (lv_at hl 1 rfl) ?_
      obtain ⟨g_27, hF_28⟩ := nif_e hF_26
      clear hF_26
      refine va_iald (f := s_1.2.2 17) hx hb hK hP 8 2 rfl rfl g_27 dX12_meanExpression_29 ?_
      refine lv_bipush (v := 56) hx hb dX12_meanExpression_30 (by decide +kernel) ?_
      refine lv_icmp_eq (tgt := 46) hx hb dX12_meanExpression_32 (by decide) (fun c_29 => ?_) (fun c_29 => ?_)
      · have hF_30 := ipos c_29 hF_28
        clear hF_28
        exact Jj_8  s_1.2 hF_30 _ _ hP hS ls (lv_sub hl [0, 1] rfl)
      · have hF_31 := ineg c_29 hF_28
        clear hF_28
        refine lv_aload_n hx hb dX12_meanExpression_35 rfl (lv_at hl 0 rfl) ?_
        refine va_get (D := (dC, dI)) (ci := 12) (v := .ref (ad 17)) (C := RX12) (T := TX12) (N := 123) hx hb hts ii_X12 hown hK hP 0 rfl rfl 17 (by decide) (hts (.fieldLink RX12 49 "StoryHouseModel" "what" "[I") wq_1373) (fun _ h9 => h9) rfl dX12_meanExpression_36 ?_
        refine lv_iload_n hx hb dX12_meanExpression_39 rfl (lv_at hl 1 rfl) ?_
        obtain ⟨g_32, hF_33⟩ := nif_e hF_31
        clear hF_31
        refine va_iald (f := s_1.2.2 17) hx hb hK hP 8 2 rfl rfl g_32 dX12_meanExpression_40 ?_
        refine lv_bipush (v := 57) hx hb dX12_meanExpression_41 (by decide +kernel) ?_
        refine lv_icmp_ne (tgt := 66) hx hb dX12_meanExpression_43 (by decide) (fun c_34 => ?_) (fun c_34 => ?_)
        · have hF_36 := ineg c_34 hF_33
          clear hF_33
          refine lv_aload_n hx hb dX12_meanExpression_66 rfl (lv_at hl 0 rfl) ?_
          refine va_get (D := (dC, dI)) (ci := 12) (v := .ref (ad 17)) (C := RX12) (T := TX12) (N := 123) hx hb hts ii_X12 hown hK hP 0 rfl rfl 17 (by decide) (hts (.fieldLink RX12 49 "StoryHouseModel" "what" "[I") wq_1373) (fun _ h9 => h9) rfl dX12_meanExpression_67 ?_
          refine lv_iload_n hx hb dX12_meanExpression_70 rfl (lv_at hl 1 rfl) ?_
          obtain ⟨g_37, hF_38⟩ := nif_e hF_36
          clear hF_36
          refine va_iald (f := s_1.2.2 17) hx hb hK hP 8 2 rfl rfl g_37 dX12_meanExpression_71 ?_
          obtain ⟨x_39, ex_39, hF_40⟩ := bnd_e hF_38
          clear hF_38
          refine m_top ex_39 ?_
          by_cases c_41 : x_39 = 41
          · have hF_42 := ipos c_41 hF_40
            clear hF_40
            refine lv_tableIn (off := 88) (tgt := 160) hx hb dX12_meanExpression_72 (by rw [c_41]; decide +kernel) (by rw [c_41]; decide +kernel) (by rw [c_41]; decide +kernel) (by decide) ?_
            refine lv_aload_n hx hb dX12_meanExpression_160 rfl (lv_at hl 0 rfl) ?_
            refine lv_iload_n hx hb dX12_meanExpression_161 rfl (lv_at hl 1 rfl) ?_
            refine lv_iconst (v := 1) hx hb dX12_meanExpression_162 (by decide +kernel) ?_
            obtain ⟨u_43, hu_43, hF_44⟩ := Option.bind_eq_some_iff.mp hF_42
            clear hF_42
            refine m_ci hsz hS (va_runV (As := [.int s_1.1, .int 1]) (rest := []) ⟨hx, hb, hml, hown, hts⟩ (m_X12_means l dC dI cB cC cI cJ cZ cP h qK qS ad hDD H.size  s_1.1 1 s_1.2 _ hu_43) (cwV 2 hts (g_gV wq_1705 wq_1706 wq_2180 wq_13 wq_1707) rfl rfl rfl (by decide +kernel) ⟨by show 2 + 1 ≤ 3 + (d + 1); omega, by show 8 + (5 + 11) + 62 ≤ 86 + 26 * (d + 1); omega⟩) (m_preV g_bl0 hsz hK hP hS hE hKS g_to0) rfl rfl hl.1 rfl (lv_room (Nat.le_of_ble_eq_true rfl)) dX12_meanExpression_163 ⟨Nat.le_of_ble_eq_true rfl, Nat.le_of_ble_eq_true rfl⟩) (fun H locs hP hS => ?_)
            refine lv_if_ne (tgt := 304) hx hb dX12_meanExpression_166 (by decide) (fun c_45 => ?_) (fun c_45 => ?_)
            · have hF_51 := ineg c_45 hF_44
              clear hF_44
              have h9 := Option.some.inj hF_51
              subst h9
              exact W.vret hx hb hr (fun t ht hW => ⟨⟨(), rfl, trivial, m_end ht hP⟩, hS.F ht⟩) hS.2.2 dX12_meanExpression_304
            · have hF_46 := ipos c_45 hF_44
              clear hF_44
              refine lv_aload_n hx hb dX12_meanExpression_169 rfl (lv_at hl 0 rfl) ?_
              refine lv_aload_n hx hb dX12_meanExpression_170 rfl (lv_at hl 0 rfl) ?_
              refine va_get (D := (dC, dI)) (ci := 12) (v := .ref (ad 18)) (C := RX12) (T := TX12) (N := 123) hx hb hts ii_X12 hown hK hP 0 rfl rfl 18 (by decide) (hts (.fieldLink RX12 52 "StoryHouseModel" "where" "[I") wq_1374) (fun _ h9 => h9) rfl dX12_meanExpression_171 ?_
              refine lv_iload_n hx hb dX12_meanExpression_174 rfl (lv_at hl 1 rfl) ?_
              obtain ⟨g_47, hF_48⟩ := nif_e hF_46
              clear hF_46
              refine va_iald (f := u_43.2.2 18) hx hb hK hP 9 2 rfl rfl g_47 dX12_meanExpression_175 ?_
              obtain ⟨u_49, hu_49, hF_50⟩ := Option.bind_eq_some_iff.mp hF_48
              clear hF_48
              refine m_cv hsz hS (va_runV (As := [.int (u_43.2.2 18 s_1.1.toNatClampNeg)]) (rest := []) ⟨hx, hb, hml, hown, hts⟩ (m_X12_wrong l dC dI cB cC cI cJ cZ cP h qK qS ad hDD H.size  (u_43.2.2 18 s_1.1.toNatClampNeg) u_43.2 _ hu_49) (cwV 1 hts (g_gV wq_1684 wq_1685 wq_2173 wq_13 wq_1686) rfl rfl rfl (by decide +kernel) ⟨by show 2 + 1 ≤ 3 + (d + 1); omega, by show 8 + (2 + 11) + 62 ≤ 86 + 26 * (d + 1); omega⟩) (m_preV g_bl0 hsz hK hP hS hE hKS g_to0) rfl rfl hl.1 rfl (lv_room (Nat.le_of_ble_eq_true rfl)) dX12_meanExpression_176 ⟨Nat.le_of_ble_eq_true rfl, Nat.le_of_ble_eq_true rfl⟩) (fun H locs hP hS => ?_)
              refine lv_goto (tgt := 304) hx hb dX12_meanExpression_179 (by decide) ?_
              have h9 := Option.some.inj hF_50
              subst h9
              exact W.vret hx hb hr (fun t ht hW => ⟨⟨(), rfl, trivial, m_end ht hP⟩, hS.F ht⟩) hS.2.2 dX12_meanExpression_304
          have hF_52 := ineg c_41 hF_40
          clear hF_40
          by_cases c_53 : x_39 = 42
          · have hF_54 := ipos c_53 hF_52
            clear hF_52
            refine lv_tableIn (off := 110) (tgt := 182) hx hb dX12_meanExpression_72 (by rw [c_53]; decide +kernel) (by rw [c_53]; decide +kernel) (by rw [c_53]; decide +kernel) (by decide) ?_
            refine lv_aload_n hx hb dX12_meanExpression_182 rfl (lv_at hl 0 rfl) ?_
            refine lv_aload_n hx hb dX12_meanExpression_183 rfl (lv_at hl 0 rfl) ?_
            refine va_get (D := (dC, dI)) (ci := 12) (v := .ref (ad 19)) (C := RX12) (T := TX12) (N := 123) hx hb hts ii_X12 hown hK hP 0 rfl rfl 19 (by decide) (hts (.fieldLink RX12 55 "StoryHouseModel" "a" "[I") wq_1375) (fun _ h9 => h9) rfl dX12_meanExpression_184 ?_
            refine lv_iload_n hx hb dX12_meanExpression_187 rfl (lv_at hl 1 rfl) ?_
            obtain ⟨g_55, hF_56⟩ := nif_e hF_54
            clear hF_54
            refine va_iald (f := s_1.2.2 19) hx hb hK hP 10 2 rfl rfl g_55 dX12_meanExpression_188 ?_
            refine lv_aload_n hx hb dX12_meanExpression_189 rfl (lv_at hl 0 rfl) ?_
            refine va_get (D := (dC, dI)) (ci := 12) (v := .ref (ad 18)) (C := RX12) (T := TX12) (N := 123) hx hb hts ii_X12 hown hK hP 0 rfl rfl 18 (by decide) (hts (.fieldLink RX12 52 "StoryHouseModel" "where" "[I") wq_1374) (fun _ h9 => h9) rfl dX12_meanExpression_190 ?_
            refine lv_iload_n hx hb dX12_meanExpression_193 rfl (lv_at hl 1 rfl) ?_
            obtain ⟨g_57, hF_58⟩ := nif_e hF_56
            clear hF_56
            refine va_iald (f := s_1.2.2 18) hx hb hK hP 9 2 rfl rfl g_57 dX12_meanExpression_194 ?_
            refine lv_aload_n hx hb dX12_meanExpression_195 rfl (lv_at hl 0 rfl) ?_
            refine va_get (D := (dC, dI)) (ci := 12) (v := .ref (ad 20)) (C := RX12) (T := TX12) (N := 123) hx hb hts ii_X12 hown hK hP 0 rfl rfl 20 (by decide) (hts (.fieldLink RX12 58 "StoryHouseModel" "b" "[I") wq_1376) (fun _ h9 => h9) rfl dX12_meanExpression_196 ?_
            refine lv_iload_n hx hb dX12_meanExpression_199 rfl (lv_at hl 1 rfl) ?_
            obtain ⟨g_59, hF_60⟩ := nif_e hF_58
            clear hF_58
            refine va_iald (f := s_1.2.2 20) hx hb hK hP 11 2 rfl rfl g_59 dX12_meanExpression_200 ?_
            obtain ⟨u_61, hu_61, hF_62⟩ := Option.bind_eq_some_iff.mp hF_60
            clear hF_60
            refine m_cv hsz hS (va_runV (As := [.int (s_1.2.2 19 s_1.1.toNatClampNeg), .int (s_1.2.2 18 s_1.1.toNatClampNeg), .int (s_1.2.2 20 s_1.1.toNatClampNeg)]) (rest := []) ⟨hx, hb, hml, hown, hts⟩ (hI1 H.size (s_1.2.2 19 s_1.1.toNatClampNeg) (s_1.2.2 18 s_1.1.toNatClampNeg) (s_1.2.2 20 s_1.1.toNatClampNeg) s_1.2 _ hu_61) (cwV 3 hts (g_gV wq_1711 wq_1712 wq_2182 wq_13 wq_1713) rfl rfl rfl (by decide +kernel) ⟨by show 3 + d + 1 ≤ 3 + (d + 1); omega, by show 8 + (7 + 11) + (86 + 26 * d) ≤ 86 + 26 * (d + 1); omega⟩) (m_preV g_bl0 hsz hK hP hS hE hKS g_to0) rfl rfl hl.1 rfl (lv_room (Nat.le_of_ble_eq_true rfl)) dX12_meanExpression_201 ⟨Nat.le_of_ble_eq_true rfl, Nat.le_of_ble_eq_true rfl⟩) (fun H locs hP hS => ?_)
            refine lv_aload_n hx hb dX12_meanExpression_204 rfl (lv_at hl 0 rfl) ?_
            refine va_get (D := (dC, dI)) (ci := 12) (v := .ref (ad 21)) (C := RX12) (T := TX12) (N := 123) hx hb hts ii_X12 hown hK hP 0 rfl rfl 21 (by decide) (hts (.fieldLink RX12 61 "StoryHouseModel" "d" "[I") wq_1377) (fun _ h9 => h9) rfl dX12_meanExpression_205 ?_
            refine lv_iload_n hx hb dX12_meanExpression_208 rfl (lv_at hl 1 rfl) ?_
            refine lv_aload_n hx hb dX12_meanExpression_209 rfl (lv_at hl 0 rfl) ?_
            refine va_get (D := (dC, dI)) (ci := 12) (v := .ref (ad 30)) (C := RX12) (T := TX12) (N := 123) hx hb hts ii_X12 hown hK hP 0 rfl rfl 30 (by decide) (hts (.fieldLink RX12 73 "StoryHouseModel" "itemOf" "[I") wq_1386) (fun _ h9 => h9) rfl dX12_meanExpression_210 ?_
            refine lv_aload_n hx hb dX12_meanExpression_213 rfl (lv_at hl 0 rfl) ?_
            refine va_get (D := (dC, dI)) (ci := 12) (v := .ref (ad 19)) (C := RX12) (T := TX12) (N := 123) hx hb hts ii_X12 hown hK hP 0 rfl rfl 19 (by decide) (hts (.fieldLink RX12 55 "StoryHouseModel" "a" "[I") wq_1375) (fun _ h9 => h9) rfl dX12_meanExpression_214 ?_
            refine lv_iload_n hx hb dX12_meanExpression_217 rfl (lv_at hl 1 rfl) ?_
            obtain ⟨g_63, hF_64⟩ := nif_e hF_62
            clear hF_62
            refine va_iald (f := u_61.2.2 19) hx hb hK hP 10 2 rfl rfl g_63 dX12_meanExpression_218 ?_
            obtain ⟨x_65, ex_65, hF_66⟩ := bnd_e hF_64
            clear hF_64
            refine m_top ex_65 ?_
            obtain ⟨g_67, hF_68⟩ := nif_e hF_66
            clear hF_66
            refine va_iald (f := u_61.2.2 30) hx hb hK hP 16 2 rfl rfl g_67 dX12_meanExpression_219 ?_
            obtain ⟨x_69, ex_69, hF_70⟩ := bnd_e hF_68
            clear hF_68
            refine m_top ex_69 ?_
            obtain ⟨g_71, hF_72⟩ := nif_e hF_70
            clear hF_70
            obtain ⟨σ_73, eσ_73, hF_74⟩ := bnd_e hF_72
            clear hF_72
            refine m_iast (σ' := σ_73) hx hb hK hP (hDD _ _) hS (q0 := 12) (t0 := 2) (f := u_61.2.2 21) rfl rfl (by rw [eσ_73]; exact mwA_21) g_71 dX12_meanExpression_220 (fun H locs hP hS => ?_)
            refine lv_goto (tgt := 304) hx hb dX12_meanExpression_221 (by decide) ?_
            have h9 := Option.some.inj hF_74
            subst h9
            exact W.vret hx hb hr (fun t ht hW => ⟨⟨(), rfl, trivial, m_end ht hP⟩, hS.F ht⟩) hS.2.2 dX12_meanExpression_304
          have hF_75 := ineg c_53 hF_52
          clear hF_52
          by_cases c_76 : x_39 = 43
          · have hF_77 := ipos c_76 hF_75
            clear hF_75
            refine lv_tableIn (off := 152) (tgt := 224) hx hb dX12_meanExpression_72 (by rw [c_76]; decide +kernel) (by rw [c_76]; decide +kernel) (by rw [c_76]; decide +kernel) (by decide) ?_
            refine lv_aload_n hx hb dX12_meanExpression_224 rfl (lv_at hl 0 rfl) ?_
            refine lv_aload_n hx hb dX12_meanExpression_225 rfl (lv_at hl 0 rfl) ?_
            refine va_get (D := (dC, dI)) (ci := 12) (v := .ref (ad 19)) (C := RX12) (T := TX12) (N := 123) hx hb hts ii_X12 hown hK hP 0 rfl rfl 19 (by decide) (hts (.fieldLink RX12 55 "StoryHouseModel" "a" "[I") wq_1375) (fun _ h9 => h9) rfl dX12_meanExpression_226 ?_
            refine lv_iload_n hx hb dX12_meanExpression_229 rfl (lv_at hl 1 rfl) ?_
            obtain ⟨g_78, hF_79⟩ := nif_e hF_77
            clear hF_77
            refine va_iald (f := s_1.2.2 19) hx hb hK hP 10 2 rfl rfl g_78 dX12_meanExpression_230 ?_
            refine lv_iconst (v := 5) hx hb dX12_meanExpression_231 (by decide +kernel) ?_
            obtain ⟨u_80, hu_80, hF_81⟩ := Option.bind_eq_some_iff.mp hF_79
            clear hF_79
            refine m_ci hsz hS (va_runV (As := [.int (s_1.2.2 19 s_1.1.toNatClampNeg), .int 5]) (rest := []) ⟨hx, hb, hml, hown, hts⟩ (m_X12_is l dC dI cB cC cI cJ cZ cP h qK qS ad hDD H.size  (s_1.2.2 19 s_1.1.toNatClampNeg) 5 s_1.2 _ hu_80) (cwV 2 hts (g_gV wq_1681 wq_1682 wq_2172 wq_13 wq_1683) rfl rfl rfl (by decide +kernel) ⟨by show 1 + 1 ≤ 3 + (d + 1); omega, by show 8 + (3 + 11) + 40 ≤ 86 + 26 * (d + 1); omega⟩) (m_preV g_bl0 hsz hK hP hS hE hKS g_to0) rfl rfl hl.1 rfl (lv_room (Nat.le_of_ble_eq_true rfl)) dX12_meanExpression_232 ⟨Nat.le_of_ble_eq_true rfl, Nat.le_of_ble_eq_true rfl⟩) (fun H locs hP hS => ?_)
            obtain ⟨j_83, ej_83, hF_84⟩ := bnd_e hF_81
            clear hF_81
            have Jj_83 : ∀  (σ_82 : MS), j_83  σ_82 = some res → ∀ (H : Heap) (locs : List Loc), va_P (dC, dI) vwCl (mW cB cI cZ h qK qS ad σ_82) H → va_S (mCells h ad sz) s.heap H locs → ∀ ls : Array Slot, lv_has ls 3 [(0, .ref h), (2, .int s_1.1)] → W p l e (headSpec (g_ws yX12_meanExpression cX12_meanExpression 3 none) { frames := 3 + (d + 1), cells := 0, slots := 0, locals := 86 + 26 * (d + 1) }).room s m ([.ref h, .int p0] : List Value).toArray below meth c H locs 0 0 (MQ below (va_Qv (fun (_ : Unit) => True) (fun _ t => va_P (dC, dI) vwCl (mW cB cI cZ h qK qS ad res.2) t.heap) (mCells h ad sz)) ([.ref h, .int p0] : List Value).toArray s 0 0 (mCells h ad sz)) (F0 m 261 ls []) := by
              intro  σ_82 hF0 H locs hP hS ls hl
              subst ej_83
              have hF_85 := hF0
              clear hF0
              refine lv_aload_n hx hb dX12_meanExpression_261 rfl (lv_at hl 0 rfl) ?_
              refine va_get (D := (dC, dI)) (ci := 12) (v := .ref (ad 21)) (C := RX12) (T := TX12) (N := 123) hx hb hts ii_X12 hown hK hP 0 rfl rfl 21 (by decide) (hts (.fieldLink RX12 61 "StoryHouseModel" "d" "[I") wq_1377) (fun _ h9 => h9) rfl dX12_meanExpression_262 ?_
              refine lv_iload_n hx hb dX12_meanExpression_265 rfl (lv_at hl 1 rfl) ?_
              refine lv_aload_n hx hb dX12_meanExpression_266 rfl (lv_at hl 0 rfl) ?_
              refine va_get (D := (dC, dI)) (ci := 12) (v := .ref (ad 29)) (C := RX12) (T := TX12) (N := 123) hx hb hts ii_X12 hown hK hP 0 rfl rfl 29 (by decide) (hts (.fieldLink RX12 70 "StoryHouseModel" "nameNumber" "[I") wq_1385) (fun _ h9 => h9) rfl dX12_meanExpression_267 ?_
              refine lv_aload_n hx hb dX12_meanExpression_270 rfl (lv_at hl 0 rfl) ?_
              refine va_get (D := (dC, dI)) (ci := 12) (v := .ref (ad 19)) (C := RX12) (T := TX12) (N := 123) hx hb hts ii_X12 hown hK hP 0 rfl rfl 19 (by decide) (hts (.fieldLink RX12 55 "StoryHouseModel" "a" "[I") wq_1375) (fun _ h9 => h9) rfl dX12_meanExpression_271 ?_
              refine lv_iload_n hx hb dX12_meanExpression_274 rfl (lv_at hl 1 rfl) ?_
              obtain ⟨g_86, hF_87⟩ := nif_e hF_85
              clear hF_85
              refine va_iald (f := σ_82.2 19) hx hb hK hP 10 2 rfl rfl g_86 dX12_meanExpression_275 ?_
              obtain ⟨x_88, ex_88, hF_89⟩ := bnd_e hF_87
              clear hF_87
              refine m_top ex_88 ?_
              obtain ⟨g_90, hF_91⟩ := nif_e hF_89
              clear hF_89
              refine va_iald (f := σ_82.2 29) hx hb hK hP 15 2 rfl rfl g_90 dX12_meanExpression_276 ?_
              obtain ⟨g_92, hF_93⟩ := nif_e hF_91
              clear hF_91
              obtain ⟨σ_94, eσ_94, hF_95⟩ := bnd_e hF_93
              clear hF_93
              refine m_iast (σ' := σ_94) hx hb hK hP (hDD _ _) hS (q0 := 12) (t0 := 2) (f := σ_82.2 21) rfl rfl (by rw [eσ_94]; exact mwA_21) g_92 dX12_meanExpression_277 (fun H locs hP hS => ?_)
              refine lv_aload_n hx hb dX12_meanExpression_278 rfl (lv_at hl 0 rfl) ?_
              refine lv_aload_n hx hb dX12_meanExpression_279 rfl (lv_at hl 0 rfl) ?_
              refine va_get (D := (dC, dI)) (ci := 12) (v := .ref (ad 20)) (C := RX12) (T := TX12) (N := 123) hx hb hts ii_X12 hown hK hP 0 rfl rfl 20 (by decide) (hts (.fieldLink RX12 58 "StoryHouseModel" "b" "[I") wq_1376) (fun _ h9 => h9) rfl dX12_meanExpression_280 ?_
              refine lv_iload_n hx hb dX12_meanExpression_283 rfl (lv_at hl 1 rfl) ?_
              obtain ⟨g_96, hF_97⟩ := nif_e hF_95
              clear hF_95
              refine va_iald (f := σ_94.2 20) hx hb hK hP 11 2 rfl rfl g_96 dX12_meanExpression_284 ?_
              obtain ⟨u_98, hu_98, hF_99⟩ := Option.bind_eq_some_iff.mp hF_97
              clear hF_97
              refine m_cv hsz hS (va_runV (As := [.int (σ_94.2 20 s_1.1.toNatClampNeg)]) (rest := []) ⟨hx, hb, hml, hown, hts⟩ (hI0 H.size (σ_94.2 20 s_1.1.toNatClampNeg) σ_94 _ hu_98) (cwV 1 hts (g_gV wq_1702 wq_1703 wq_2179 wq_13 wq_1704) rfl rfl rfl (by decide +kernel) ⟨by show 3 + d + 1 ≤ 3 + (d + 1); omega, by show 8 + (3 + 11) + (86 + 26 * d) ≤ 86 + 26 * (d + 1); omega⟩) (m_preV g_bl0 hsz hK hP hS hE hKS g_to0) rfl rfl hl.1 rfl (lv_room (Nat.le_of_ble_eq_true rfl)) dX12_meanExpression_285 ⟨Nat.le_of_ble_eq_true rfl, Nat.le_of_ble_eq_true rfl⟩) (fun H locs hP hS => ?_)
              refine lv_goto (tgt := 304) hx hb dX12_meanExpression_288 (by decide) ?_
              have h9 := Option.some.inj hF_99
              subst h9
              exact W.vret hx hb hr (fun t ht hW => ⟨⟨(), rfl, trivial, m_end ht hP⟩, hS.F ht⟩) hS.2.2 dX12_meanExpression_304
            obtain ⟨j_101, ej_101, hF_102⟩ := bnd_e hF_84
            clear hF_84
            have Jj_101 : ∀  (σ_100 : MS), j_101  σ_100 = some res → ∀ (H : Heap) (locs : List Loc), va_P (dC, dI) vwCl (mW cB cI cZ h qK qS ad σ_100) H → va_S (mCells h ad sz) s.heap H locs → ∀ ls : Array Slot, lv_has ls 3 [(0, .ref h), (2, .int s_1.1)] → W p l e (headSpec (g_ws yX12_meanExpression cX12_meanExpression 3 none) { frames := 3 + (d + 1), cells := 0, slots := 0, locals := 86 + 26 * (d + 1) }).room s m ([.ref h, .int p0] : List Value).toArray below meth c H locs 0 0 (MQ below (va_Qv (fun (_ : Unit) => True) (fun _ t => va_P (dC, dI) vwCl (mW cB cI cZ h qK qS ad res.2) t.heap) (mCells h ad sz)) ([.ref h, .int p0] : List Value).toArray s 0 0 (mCells h ad sz)) (F0 m 251 ls []) := by
              intro  σ_100 hF0 H locs hP hS ls hl
              subst ej_101
              have hF_103 := hF0
              clear hF0
              refine lv_aload_n hx hb dX12_meanExpression_251 rfl (lv_at hl 0 rfl) ?_
              refine lv_aload_n hx hb dX12_meanExpression_252 rfl (lv_at hl 0 rfl) ?_
              refine va_get (D := (dC, dI)) (ci := 12) (v := .ref (ad 18)) (C := RX12) (T := TX12) (N := 123) hx hb hts ii_X12 hown hK hP 0 rfl rfl 18 (by decide) (hts (.fieldLink RX12 52 "StoryHouseModel" "where" "[I") wq_1374) (fun _ h9 => h9) rfl dX12_meanExpression_253 ?_
              refine lv_iload_n hx hb dX12_meanExpression_256 rfl (lv_at hl 1 rfl) ?_
              obtain ⟨g_104, hF_105⟩ := nif_e hF_103
              clear hF_103
              refine va_iald (f := σ_100.2 18) hx hb hK hP 9 2 rfl rfl g_104 dX12_meanExpression_257 ?_
              obtain ⟨u_106, hu_106, hF_107⟩ := Option.bind_eq_some_iff.mp hF_105
              clear hF_105
              refine m_cv hsz hS (va_runV (As := [.int (σ_100.2 18 s_1.1.toNatClampNeg)]) (rest := []) ⟨hx, hb, hml, hown, hts⟩ (m_X12_wrong l dC dI cB cC cI cJ cZ cP h qK qS ad hDD H.size  (σ_100.2 18 s_1.1.toNatClampNeg) σ_100 _ hu_106) (cwV 1 hts (g_gV wq_1684 wq_1685 wq_2173 wq_13 wq_1686) rfl rfl rfl (by decide +kernel) ⟨by show 2 + 1 ≤ 3 + (d + 1); omega, by show 8 + (2 + 11) + 62 ≤ 86 + 26 * (d + 1); omega⟩) (m_preV g_bl0 hsz hK hP hS hE hKS g_to0) rfl rfl hl.1 rfl (lv_room (Nat.le_of_ble_eq_true rfl)) dX12_meanExpression_258 ⟨Nat.le_of_ble_eq_true rfl, Nat.le_of_ble_eq_true rfl⟩) (fun H locs hP hS => ?_)
              exact Jj_83  u_106.2 hF_107 _ _ hP hS ls (lv_sub hl [0, 1] rfl)
            refine lv_if_eq (tgt := 251) hx hb dX12_meanExpression_235 (by decide) (fun c_108 => ?_) (fun c_108 => ?_)
            · have hF_109 := ipos c_108 hF_102
              clear hF_102
              exact Jj_101  u_80.2 hF_109 _ _ hP hS ls (lv_sub hl [0, 1] rfl)
            · have hF_110 := ineg c_108 hF_102
              clear hF_102
              refine lv_aload_n hx hb dX12_meanExpression_238 rfl (lv_at hl 0 rfl) ?_
              refine lv_aload_n hx hb dX12_meanExpression_239 rfl (lv_at hl 0 rfl) ?_
              refine va_get (D := (dC, dI)) (ci := 12) (v := .ref (ad 19)) (C := RX12) (T := TX12) (N := 123) hx hb hts ii_X12 hown hK hP 0 rfl rfl 19 (by decide) (hts (.fieldLink RX12 55 "StoryHouseModel" "a" "[I") wq_1375) (fun _ h9 => h9) rfl dX12_meanExpression_240 ?_
              refine lv_iload_n hx hb dX12_meanExpression_243 rfl (lv_at hl 1 rfl) ?_
              obtain ⟨g_111, hF_112⟩ := nif_e hF_110
              clear hF_110
              refine va_iald (f := u_80.2.2 19) hx hb hK hP 10 2 rfl rfl g_111 dX12_meanExpression_244 ?_
              obtain ⟨u_113, hu_113, hF_114⟩ := Option.bind_eq_some_iff.mp hF_112
              clear hF_112
              refine m_ci hsz hS (va_runV (As := [.int (u_80.2.2 19 s_1.1.toNatClampNeg)]) (rest := []) ⟨hx, hb, hml, hown, hts⟩ (m_X12_slotOf l dC dI cB cC cI cJ cZ cP h qK qS ad hDD H.size  (u_80.2.2 19 s_1.1.toNatClampNeg) u_80.2 _ hu_113) (cwV 1 hts (g_gV wq_1708 wq_1709 wq_2181 wq_13 wq_1710) rfl rfl rfl (by decide +kernel) ⟨by show 1 + 1 ≤ 3 + (d + 1); omega, by show 8 + (3 + 11) + 40 ≤ 86 + 26 * (d + 1); omega⟩) (m_preV g_bl0 hsz hK hP hS hE hKS g_to0) rfl rfl hl.1 rfl (lv_room (Nat.le_of_ble_eq_true rfl)) dX12_meanExpression_245 ⟨Nat.le_of_ble_eq_true rfl, Nat.le_of_ble_eq_true rfl⟩) (fun H locs hP hS => ?_)
              refine lv_if_lt (tgt := 261) hx hb dX12_meanExpression_248 (by decide) (fun c_115 => ?_) (fun c_115 => ?_)
              · have hF_116 := ipos c_115 hF_114
                clear hF_114
                exact Jj_83  u_113.2 hF_116 _ _ hP hS ls (lv_sub hl [0, 1] rfl)
              · have hF_117 := ineg c_115 hF_114
                clear hF_114
                exact Jj_101  u_113.2 hF_117 _ _ hP hS ls (lv_sub hl [0, 1] rfl)
          have hF_118 := ineg c_76 hF_75
          clear hF_75
          by_cases c_119 : x_39 = 48 ∨ x_39 = 49 ∨ x_39 = 50 ∨ x_39 = 51 ∨ x_39 = 52 ∨ x_39 = 53 ∨ x_39 = 58
          · have hF_120 := ipos c_119 hF_118
            clear hF_118
            refine lv_tableIn (off := 219) (tgt := 291) hx hb dX12_meanExpression_72 (by rcases c_119 with q9 | q9 | q9 | q9 | q9 | q9 | q9 <;> (rw [q9]; decide +kernel)) (by rcases c_119 with q9 | q9 | q9 | q9 | q9 | q9 | q9 <;> (rw [q9]; decide +kernel)) (by rcases c_119 with q9 | q9 | q9 | q9 | q9 | q9 | q9 <;> (rw [q9]; decide +kernel)) (by decide) ?_
            refine lv_aload_n hx hb dX12_meanExpression_291 rfl (lv_at hl 0 rfl) ?_
            refine lv_aload_n hx hb dX12_meanExpression_292 rfl (lv_at hl 0 rfl) ?_
            refine va_get (D := (dC, dI)) (ci := 12) (v := .ref (ad 19)) (C := RX12) (T := TX12) (N := 123) hx hb hts ii_X12 hown hK hP 0 rfl rfl 19 (by decide) (hts (.fieldLink RX12 55 "StoryHouseModel" "a" "[I") wq_1375) (fun _ h9 => h9) rfl dX12_meanExpression_293 ?_
            refine lv_iload_n hx hb dX12_meanExpression_296 rfl (lv_at hl 1 rfl) ?_
            obtain ⟨g_121, hF_122⟩ := nif_e hF_120
            clear hF_120
            refine va_iald (f := s_1.2.2 19) hx hb hK hP 10 2 rfl rfl g_121 dX12_meanExpression_297 ?_
            obtain ⟨u_123, hu_123, hF_124⟩ := Option.bind_eq_some_iff.mp hF_122
            clear hF_122
            refine m_cv hsz hS (va_runV (As := [.int (s_1.2.2 19 s_1.1.toNatClampNeg)]) (rest := []) ⟨hx, hb, hml, hown, hts⟩ (hI0 H.size (s_1.2.2 19 s_1.1.toNatClampNeg) s_1.2 _ hu_123) (cwV 1 hts (g_gV wq_1702 wq_1703 wq_2179 wq_13 wq_1704) rfl rfl rfl (by decide +kernel) ⟨by show 3 + d + 1 ≤ 3 + (d + 1); omega, by show 8 + (3 + 11) + (86 + 26 * d) ≤ 86 + 26 * (d + 1); omega⟩) (m_preV g_bl0 hsz hK hP hS hE hKS g_to0) rfl rfl hl.1 rfl (lv_room (Nat.le_of_ble_eq_true rfl)) dX12_meanExpression_298 ⟨Nat.le_of_ble_eq_true rfl, Nat.le_of_ble_eq_true rfl⟩) (fun H locs hP hS => ?_)
            refine lv_goto (tgt := 304) hx hb dX12_meanExpression_301 (by decide) ?_
            have h9 := Option.some.inj hF_124
            subst h9
            exact W.vret hx hb hr (fun t ht hW => ⟨⟨(), rfl, trivial, m_end ht hP⟩, hS.F ht⟩) hS.2.2 dX12_meanExpression_304
          have hF_125 := ineg c_119 hF_118
          clear hF_118
          refine m_tabD (lo := 41) (n := 18) (tgt := 304) hx hb dX12_meanExpression_72 (by decide +kernel) (by decide) (fun j9 h9 e9 => by
              match j9, h9 with
              | 0, _ => exact absurd ((by rw [e9]; decide +kernel)) c_41
              | 1, _ => exact absurd ((by rw [e9]; decide +kernel)) c_53
              | 2, _ => exact absurd ((by rw [e9]; decide +kernel)) c_76
              | 3, _ => rfl
              | 4, _ => rfl
              | 5, _ => rfl
              | 6, _ => rfl
              | 7, _ => exact absurd (Or.inl (by rw [e9]; decide +kernel)) c_119
              | 8, _ => exact absurd (Or.inr (Or.inl (by rw [e9]; decide +kernel))) c_119
              | 9, _ => exact absurd (Or.inr (Or.inr (Or.inl (by rw [e9]; decide +kernel)))) c_119
              | 10, _ => exact absurd (Or.inr (Or.inr (Or.inr (Or.inl (by rw [e9]; decide +kernel))))) c_119
              | 11, _ => exact absurd (Or.inr (Or.inr (Or.inr (Or.inr (Or.inl (by rw [e9]; decide +kernel)))))) c_119
              | 12, _ => exact absurd (Or.inr (Or.inr (Or.inr (Or.inr (Or.inr (Or.inl (by rw [e9]; decide +kernel))))))) c_119
              | 13, _ => rfl
              | 14, _ => rfl
              | 15, _ => rfl
              | 16, _ => rfl
              | 17, _ => exact absurd (Or.inr (Or.inr (Or.inr (Or.inr (Or.inr (Or.inr ((by rw [e9]; decide +kernel)))))))) c_119
              | n9 + 18, h9 => exact absurd h9 (by omega)) ?_
          have h9 := Option.some.inj hF_125
          subst h9
          exact W.vret hx hb hr (fun t ht hW => ⟨⟨(), rfl, trivial, m_end ht hP⟩, hS.F ht⟩) hS.2.2 dX12_meanExpression_304
        · have hF_35 := ipos c_34 hF_33
          clear hF_33
          exact Jj_8  s_1.2 hF_35 _ _ hP hS ls (lv_sub hl [0, 1] rfl)

def F_X12_meanCall (rec : GF) (p0 : Int32) (p1 : Int32) (p2 : Int32) (σ : MS) : MR :=
  loopF (fun (again_2 : (Int32 × Int32 × MS) → MR) (s_1 : Int32 × Int32 × MS) => (
    if s_1.2.1 < 0 then (
      (F_X12_is p0 6 s_1.2.2).bind fun u_7 =>
      bnd (fun (v5_9 : Int32) (σ_10 : MS) => (
        (F_X12_is p0 6 σ_10).bind fun u_14 =>
        bnd (fun  (σ_16 : MS) => (
          (F_X12_wrong p1 σ_16).bind fun u_20 =>
          some (0, u_20.2)
        ) : MS → MR) fun j_17 =>
        if u_14.1 = 0 then (
          j_17  u_14.2
        ) else (
          (F_X12_slotOf p0 u_14.2).bind fun u_25 =>
          if 0 ≤ u_25.1 then (
            j_17  u_25.2
          ) else (
            if v5_9 = s_1.1 then (
              some (0, u_25.2)
            ) else (
              j_17  u_25.2
            )
          )
        )
      ) : Int32 → MS → MR) fun j_11 =>
      if u_7.1 = 0 then (
        j_11 0 u_7.2
      ) else (
        if p0 < 0 ∨ 8000 ≤ p0.toNatClampNeg then none else
        bnd ((u_7.2.2 30 p0.toNatClampNeg)) fun (x_38 : Int32) =>
        if x_38 < 0 ∨ 40000 ≤ x_38.toNatClampNeg then none else
        bnd ((u_7.2.2 20 x_38.toNatClampNeg)) fun (x_42 : Int32) =>
        loopF (fun (again_45 : (Int32 × Int32 × MS) → MR) (s_44 : Int32 × Int32 × MS) => (
          if s_44.2.1 < 0 then (
            j_11 s_44.1 s_44.2.2
          ) else (
            bnd (s_44.1 + 1) fun (x_51 : Int32) =>
            if s_44.2.1 < 0 ∨ 40000 ≤ s_44.2.1.toNatClampNeg then none else
            bnd ((s_44.2.2.2 22 s_44.2.1.toNatClampNeg)) fun (x_55 : Int32) =>
            again_45 (x_51, x_55, s_44.2.2)
          )
        )) FU (0, x_42, u_7.2)
      )
    ) else (
      (rec 0 s_1.2.1 0 0 s_1.2.2).bind fun u_58 =>
      bnd (s_1.1 + 1) fun (x_60 : Int32) =>
      if s_1.2.1 < 0 ∨ 40000 ≤ s_1.2.1.toNatClampNeg then none else
      bnd ((u_58.2.2 22 s_1.2.1.toNatClampNeg)) fun (x_64 : Int32) =>
      again_2 (x_60, x_64, u_58.2)
    )
  )) FU (0, p2, σ)
set_option maxHeartbeats 4000000 in
set_option maxRecDepth 100000 in
theorem m_X12_meanCall_st (l : Launch) (dC : Nat → ClassId) (dI : Nat → Nat → Nat) (cB cC cI cJ cZ cP : ClassId) (h qK qS : Nat) (ad : Nat → Nat) (hDD : mDis cB cI cZ h qK qS ad) (d : Nat) (rec : GF) (hI0 : ∀ (sz : Nat) (p0 : Int32) (σ : MS) (res : Int32 × MS), rec 0 p0 0 0 σ = some res → Met l yX12_meanExpression (g_ws yX12_meanExpression cX12_meanExpression 3 none) ({ frames := 3 + d, cells := 0, slots := 0, locals := 86 + 26 * d }) (va_Pc [.ref h, .int p0] (m_B (dC, dI) [(cB, .byte), (cC, .char), (cI, .int), (cJ, .long), (cZ, .boolean), (cP, .object "StoryHouse$Play")] sz h ad qK qS (mW cB cI cZ h qK qS ad σ) g_0)) (va_Qv (fun (_ : Unit) => True) (fun _ t => va_P (dC, dI) vwCl (mW cB cI cZ h qK qS ad res.2) t.heap) (mCells h ad sz)) 0 0 (mCells h ad sz)) (hI1 : ∀ (sz : Nat) (p0 : Int32) (p1 : Int32) (p2 : Int32) (σ : MS) (res : Int32 × MS), rec 1 p0 p1 p2  σ = some res → Met l yX12_meanCall (g_ws yX12_meanCall cX12_meanCall 7 none) ({ frames := 3 + d, cells := 0, slots := 0, locals := 86 + 26 * d }) (va_Pc [.ref h, .int p0, .int p1, .int p2] (m_B (dC, dI) [(cB, .byte), (cC, .char), (cI, .int), (cJ, .long), (cZ, .boolean), (cP, .object "StoryHouse$Play")] sz h ad qK qS (mW cB cI cZ h qK qS ad σ) g_0)) (va_Qv (fun (_ : Unit) => True) (fun _ t => va_P (dC, dI) vwCl (mW cB cI cZ h qK qS ad res.2) t.heap) (mCells h ad sz)) 0 0 (mCells h ad sz)) (sz : Nat)  (p0 : Int32) (p1 : Int32) (p2 : Int32) (σ : MS) (res : Int32 × MS) (hF : F_X12_meanCall rec p0 p1 p2 σ = some res) : Met l yX12_meanCall (g_ws yX12_meanCall cX12_meanCall 7 none) ({ frames := 3 + (d + 1), cells := 0, slots := 0, locals := 86 + 26 * (d + 1) }) (va_Pc [.ref h, .int p0, .int p1, .int p2] (m_B (dC, dI) [(cB, .byte), (cC, .char), (cI, .int), (cJ, .long), (cZ, .boolean), (cP, .object "StoryHouse$Play")] sz h ad qK qS (mW cB cI cZ h qK qS ad σ) g_0)) (va_Qv (fun (_ : Unit) => True) (fun _ t => va_P (dC, dI) vwCl (mW cB cI cZ h qK qS ad res.2) t.heap) (mCells h ad sz)) 0 0 (mCells h ad sz) := by
  refine Met.ofW (cc := cX12_meanCall) (maxL := 7) (ret := none) (by decide) rfl ?_
  intro p e s m args below meth c s₁ B hml hv
  obtain ⟨rfl, hsz, hP, hK, hE, hKS, hX⟩ := hv
  have hx := B.exec
  have hb := B.bytes
  have hr := B.returns
  have hts0 := atoms_spec (ws := g_ws yX12_meanCall cX12_meanCall 7 none) B.pre
  have hts : ∀ w ∈ lw_good, w.before ([.ref h, .int p0, .int p1, .int p2] : List Value).toArray s = true := fun w z => hts0 w (List.mem_cons_of_mem _ z)
  have hown : s.vm.findClass RX12 = some m.cls := findClass_of_methodNamed B.named
  have hlocks := B.notSynchronized
  have hS : va_S (mCells h ad sz) s.heap s.heap [] := va_S.rf
  have hl := lv_entry ([.ref h, .int p0, .int p1, .int p2]) (n := 7) (Nat.le_of_ble_eq_true rfl)
  rw [lg_entry_eq]
  generalize (lg_sl ([.ref h, .int p0, .int p1, .int p2]) ++ List.replicate (7 - (lg_sl ([.ref h, .int p0, .int p1, .int p2])).length) Slot.unset).toArray = ls at hl ⊢
  have hl : lv_has ls 7 [(0, .ref h), (1, .int p0), (2, .int p1), (3, .int p2)] := hl
  unfold F_X12_meanCall at hF
  refine lv_iconst (v := 0) hx hb dX12_meanCall_0 (by decide +kernel) ?_
  refine lv_istore (lv' := [(4, .int 0), (0, .ref h), (1, .int p0), (2, .int p1), (3, .int p2)]) hx hb dX12_meanCall_1 hl (by decide) rfl (fun ls hl => ?_)
  refine lv_iload_n hx hb dX12_meanCall_3 rfl (lv_at hl 4 rfl) ?_
  refine lv_istore (lv' := [(5, .int p2), (4, .int 0), (0, .ref h), (1, .int p0), (2, .int p1), (3, .int p2)]) hx hb dX12_meanCall_4 hl (by decide) rfl (fun ls hl => ?_)
  refine loopF_ind (P := fun (s_1 : Int32 × Int32 × MS) => ∀ (H : Heap) (locs : List Loc), va_P (dC, dI) vwCl (mW cB cI cZ h qK qS ad s_1.2.2) H → va_S (mCells h ad sz) s.heap H locs → ∀ ls : Array Slot, lv_has ls 7 [(0, .ref h), (1, .int p0), (2, .int p1), (4, .int s_1.1), (5, .int s_1.2.1)] → W p l e (headSpec (g_ws yX12_meanCall cX12_meanCall 7 none) { frames := 3 + (d + 1), cells := 0, slots := 0, locals := 86 + 26 * (d + 1) }).room s m ([.ref h, .int p0, .int p1, .int p2] : List Value).toArray below meth c H locs 0 0 (MQ below (va_Qv (fun (_ : Unit) => True) (fun _ t => va_P (dC, dI) vwCl (mW cB cI cZ h qK qS ad res.2) t.heap) (mCells h ad sz)) ([.ref h, .int p0, .int p1, .int p2] : List Value).toArray s 0 0 (mCells h ad sz)) (F0 m 6 ls [])) ?_ _ _ hF _ _ hP hS ls (lv_sub hl [2, 3, 4, 1, 0] rfl)
  intro again_2 s_1 ih_3 hF_4
  intro H locs hP hS ls hl
  refine lv_iload hx hb dX12_meanCall_6 (lv_at hl 4 rfl) ?_
  refine lv_if_lt (tgt := 32) hx hb dX12_meanCall_8 (by decide) (fun c_5 => ?_) (fun c_5 => ?_)
  · have hF_6 := ipos c_5 hF_4
    clear hF_4
    refine lv_iconst (v := 0) hx hb dX12_meanCall_32 (by decide +kernel) ?_
    refine lv_istore (lv' := [(5, .int 0), (0, .ref h), (1, .int p0), (2, .int p1), (4, .int s_1.1)]) hx hb dX12_meanCall_33 hl (by decide) rfl (fun ls hl => ?_)
    refine lv_aload_n hx hb dX12_meanCall_35 rfl (lv_at hl 1 rfl) ?_
    refine lv_iload_n hx hb dX12_meanCall_36 rfl (lv_at hl 2 rfl) ?_
    refine lv_bipush (v := 6) hx hb dX12_meanCall_37 (by decide +kernel) ?_
    obtain ⟨u_7, hu_7, hF_8⟩ := Option.bind_eq_some_iff.mp hF_6
    clear hF_6
    refine m_ci hsz hS (va_runV (As := [.int p0, .int 6]) (rest := []) ⟨hx, hb, hml, hown, hts⟩ (m_X12_is l dC dI cB cC cI cJ cZ cP h qK qS ad hDD H.size  p0 6 s_1.2.2 _ hu_7) (cwV 2 hts (g_gV wq_1681 wq_1682 wq_2172 wq_13 wq_1683) rfl rfl rfl (by decide +kernel) ⟨by show 1 + 1 ≤ 3 + (d + 1); omega, by show 8 + (3 + 11) + 40 ≤ 86 + 26 * (d + 1); omega⟩) (m_preV g_bl0 hsz hK hP hS hE hKS g_to0) rfl rfl hl.1 rfl (lv_room (Nat.le_of_ble_eq_true rfl)) dX12_meanCall_39 ⟨Nat.le_of_ble_eq_true rfl, Nat.le_of_ble_eq_true rfl⟩) (fun H locs hP hS => ?_)
    obtain ⟨j_11, ej_11, hF_12⟩ := bnd_e hF_8
    clear hF_8
    have Jj_11 : ∀ (v5_9 : Int32) (σ_10 : MS), j_11 v5_9 σ_10 = some res → ∀ (H : Heap) (locs : List Loc), va_P (dC, dI) vwCl (mW cB cI cZ h qK qS ad σ_10) H → va_S (mCells h ad sz) s.heap H locs → ∀ ls : Array Slot, lv_has ls 7 [(0, .ref h), (1, .int p0), (2, .int p1), (4, .int s_1.1), (5, .int v5_9)] → W p l e (headSpec (g_ws yX12_meanCall cX12_meanCall 7 none) { frames := 3 + (d + 1), cells := 0, slots := 0, locals := 86 + 26 * (d + 1) }).room s m ([.ref h, .int p0, .int p1, .int p2] : List Value).toArray below meth c H locs 0 0 (MQ below (va_Qv (fun (_ : Unit) => True) (fun _ t => va_P (dC, dI) vwCl (mW cB cI cZ h qK qS ad res.2) t.heap) (mCells h ad sz)) ([.ref h, .int p0, .int p1, .int p2] : List Value).toArray s 0 0 (mCells h ad sz)) (F0 m 78 ls []) := by
      intro v5_9 σ_10 hF0 H locs hP hS ls hl
      subst ej_11
      have hF_13 := hF0
      clear hF0
      refine lv_aload_n hx hb dX12_meanCall_78 rfl (lv_at hl 0 rfl) ?_
      refine lv_iload_n hx hb dX12_meanCall_79 rfl (lv_at hl 1 rfl) ?_
      refine lv_bipush (v := 6) hx hb dX12_meanCall_80 (by decide +kernel) ?_
      obtain ⟨u_14, hu_14, hF_15⟩ := Option.bind_eq_some_iff.mp hF_13
      clear hF_13
      refine m_ci hsz hS (va_runV (As := [.int p0, .int 6]) (rest := []) ⟨hx, hb, hml, hown, hts⟩ (m_X12_is l dC dI cB cC cI cJ cZ cP h qK qS ad hDD H.size  p0 6 σ_10 _ hu_14) (cwV 2 hts (g_gV wq_1681 wq_1682 wq_2172 wq_13 wq_1683) rfl rfl rfl (by decide +kernel) ⟨by show 1 + 1 ≤ 3 + (d + 1); omega, by show 8 + (3 + 11) + 40 ≤ 86 + 26 * (d + 1); omega⟩) (m_preV g_bl0 hsz hK hP hS hE hKS g_to0) rfl rfl hl.1 rfl (lv_room (Nat.le_of_ble_eq_true rfl)) dX12_meanCall_82 ⟨Nat.le_of_ble_eq_true rfl, Nat.le_of_ble_eq_true rfl⟩) (fun H locs hP hS => ?_)
      obtain ⟨j_17, ej_17, hF_18⟩ := bnd_e hF_15
      clear hF_15
      have Jj_17 : ∀  (σ_16 : MS), j_17  σ_16 = some res → ∀ (H : Heap) (locs : List Loc), va_P (dC, dI) vwCl (mW cB cI cZ h qK qS ad σ_16) H → va_S (mCells h ad sz) s.heap H locs → ∀ ls : Array Slot, lv_has ls 7 [(0, .ref h), (2, .int p1)] → W p l e (headSpec (g_ws yX12_meanCall cX12_meanCall 7 none) { frames := 3 + (d + 1), cells := 0, slots := 0, locals := 86 + 26 * (d + 1) }).room s m ([.ref h, .int p0, .int p1, .int p2] : List Value).toArray below meth c H locs 0 0 (MQ below (va_Qv (fun (_ : Unit) => True) (fun _ t => va_P (dC, dI) vwCl (mW cB cI cZ h qK qS ad res.2) t.heap) (mCells h ad sz)) ([.ref h, .int p0, .int p1, .int p2] : List Value).toArray s 0 0 (mCells h ad sz)) (F0 m 103 ls []) := by
        intro  σ_16 hF0 H locs hP hS ls hl
        subst ej_17
        have hF_19 := hF0
        clear hF0
        refine lv_aload_n hx hb dX12_meanCall_103 rfl (lv_at hl 0 rfl) ?_
        refine lv_iload_n hx hb dX12_meanCall_104 rfl (lv_at hl 1 rfl) ?_
        obtain ⟨u_20, hu_20, hF_21⟩ := Option.bind_eq_some_iff.mp hF_19
        clear hF_19
        refine m_cv hsz hS (va_runV (As := [.int p1]) (rest := []) ⟨hx, hb, hml, hown, hts⟩ (m_X12_wrong l dC dI cB cC cI cJ cZ cP h qK qS ad hDD H.size  p1 σ_16 _ hu_20) (cwV 1 hts (g_gV wq_1684 wq_1685 wq_2173 wq_13 wq_1686) rfl rfl rfl (by decide +kernel) ⟨by show 2 + 1 ≤ 3 + (d + 1); omega, by show 8 + (2 + 11) + 62 ≤ 86 + 26 * (d + 1); omega⟩) (m_preV g_bl0 hsz hK hP hS hE hKS g_to0) rfl rfl hl.1 rfl (lv_room (Nat.le_of_ble_eq_true rfl)) dX12_meanCall_105 ⟨Nat.le_of_ble_eq_true rfl, Nat.le_of_ble_eq_true rfl⟩) (fun H locs hP hS => ?_)
        have h9 := Option.some.inj hF_21
        subst h9
        exact W.vret hx hb hr (fun t ht hW => ⟨⟨(), rfl, trivial, m_end ht hP⟩, hS.F ht⟩) hS.2.2 dX12_meanCall_108
      refine lv_if_eq (tgt := 103) hx hb dX12_meanCall_85 (by decide) (fun c_22 => ?_) (fun c_22 => ?_)
      · have hF_23 := ipos c_22 hF_18
        clear hF_18
        exact Jj_17  u_14.2 hF_23 _ _ hP hS ls (lv_sub hl [0, 2] rfl)
      · have hF_24 := ineg c_22 hF_18
        clear hF_18
        refine lv_aload_n hx hb dX12_meanCall_88 rfl (lv_at hl 0 rfl) ?_
        refine lv_iload_n hx hb dX12_meanCall_89 rfl (lv_at hl 1 rfl) ?_
        obtain ⟨u_25, hu_25, hF_26⟩ := Option.bind_eq_some_iff.mp hF_24
        clear hF_24
        refine m_ci hsz hS (va_runV (As := [.int p0]) (rest := []) ⟨hx, hb, hml, hown, hts⟩ (m_X12_slotOf l dC dI cB cC cI cJ cZ cP h qK qS ad hDD H.size  p0 u_14.2 _ hu_25) (cwV 1 hts (g_gV wq_1708 wq_1709 wq_2181 wq_13 wq_1710) rfl rfl rfl (by decide +kernel) ⟨by show 1 + 1 ≤ 3 + (d + 1); omega, by show 8 + (3 + 11) + 40 ≤ 86 + 26 * (d + 1); omega⟩) (m_preV g_bl0 hsz hK hP hS hE hKS g_to0) rfl rfl hl.1 rfl (lv_room (Nat.le_of_ble_eq_true rfl)) dX12_meanCall_90 ⟨Nat.le_of_ble_eq_true rfl, Nat.le_of_ble_eq_true rfl⟩) (fun H locs hP hS => ?_)
        refine lv_if_ge (tgt := 103) hx hb dX12_meanCall_93 (by decide) (fun c_27 => ?_) (fun c_27 => ?_)
        · have hF_28 := ipos c_27 hF_26
          clear hF_26
          exact Jj_17  u_25.2 hF_28 _ _ hP hS ls (lv_sub hl [0, 2] rfl)
        · have hF_29 := ineg c_27 hF_26
          clear hF_26
          refine lv_iload hx hb dX12_meanCall_96 (lv_at hl 4 rfl) ?_
          refine lv_iload hx hb dX12_meanCall_98 (lv_at hl 3 rfl) ?_
          refine lv_icmp_eq (tgt := 108) hx hb dX12_meanCall_100 (by decide) (fun c_30 => ?_) (fun c_30 => ?_)
          · have hF_31 := ipos c_30 hF_29
            clear hF_29
            have h9 := Option.some.inj hF_31
            subst h9
            exact W.vret hx hb hr (fun t ht hW => ⟨⟨(), rfl, trivial, m_end ht hP⟩, hS.F ht⟩) hS.2.2 dX12_meanCall_108
          · have hF_32 := ineg c_30 hF_29
            clear hF_29
            exact Jj_17  u_25.2 hF_32 _ _ hP hS ls (lv_sub hl [0, 2] rfl)
    refine lv_if_eq (tgt := 78) hx hb dX12_meanCall_42 (by decide) (fun c_33 => ?_) (fun c_33 => ?_)
    · have hF_34 := ipos c_33 hF_12
      clear hF_12
      exact Jj_11 0 u_7.2 hF_34 _ _ hP hS ls (lv_sub hl [1, 2, 3, 4, 0] rfl)
    · have hF_35 := ineg c_33 hF_12
      clear hF_12
      refine lv_aload_n hx hb dX12_meanCall_45 rfl (lv_at hl 1 rfl) ?_
      refine va_get (D := (dC, dI)) (ci := 12) (v := .ref (ad 20)) (C := RX12) (T := TX12) (N := 123) hx hb hts ii_X12 hown hK hP 0 rfl rfl 20 (by decide) (hts (.fieldLink RX12 58 "StoryHouseModel" "b" "[I") wq_1376) (fun _ h9 => h9) rfl dX12_meanCall_46 ?_
      refine lv_aload_n hx hb dX12_meanCall_49 rfl (lv_at hl 1 rfl) ?_
      refine va_get (D := (dC, dI)) (ci := 12) (v := .ref (ad 30)) (C := RX12) (T := TX12) (N := 123) hx hb hts ii_X12 hown hK hP 0 rfl rfl 30 (by decide) (hts (.fieldLink RX12 73 "StoryHouseModel" "itemOf" "[I") wq_1386) (fun _ h9 => h9) rfl dX12_meanCall_50 ?_
      refine lv_iload_n hx hb dX12_meanCall_53 rfl (lv_at hl 2 rfl) ?_
      obtain ⟨g_36, hF_37⟩ := nif_e hF_35
      clear hF_35
      refine va_iald (f := u_7.2.2 30) hx hb hK hP 16 2 rfl rfl g_36 dX12_meanCall_54 ?_
      obtain ⟨x_38, ex_38, hF_39⟩ := bnd_e hF_37
      clear hF_37
      refine m_top ex_38 ?_
      obtain ⟨g_40, hF_41⟩ := nif_e hF_39
      clear hF_39
      refine va_iald (f := u_7.2.2 20) hx hb hK hP 11 2 rfl rfl g_40 dX12_meanCall_55 ?_
      obtain ⟨x_42, ex_42, hF_43⟩ := bnd_e hF_41
      clear hF_41
      refine m_top ex_42 ?_
      refine lv_istore (lv' := [(6, .int x_42), (5, .int 0), (0, .ref h), (1, .int p0), (2, .int p1), (4, .int s_1.1)]) hx hb dX12_meanCall_56 hl (by decide) rfl (fun ls hl => ?_)
      refine loopF_ind (P := fun (s_44 : Int32 × Int32 × MS) => ∀ (H : Heap) (locs : List Loc), va_P (dC, dI) vwCl (mW cB cI cZ h qK qS ad s_44.2.2) H → va_S (mCells h ad sz) s.heap H locs → ∀ ls : Array Slot, lv_has ls 7 [(0, .ref h), (1, .int p0), (2, .int p1), (4, .int s_1.1), (5, .int s_44.1), (6, .int s_44.2.1)] → W p l e (headSpec (g_ws yX12_meanCall cX12_meanCall 7 none) { frames := 3 + (d + 1), cells := 0, slots := 0, locals := 86 + 26 * (d + 1) }).room s m ([.ref h, .int p0, .int p1, .int p2] : List Value).toArray below meth c H locs 0 0 (MQ below (va_Qv (fun (_ : Unit) => True) (fun _ t => va_P (dC, dI) vwCl (mW cB cI cZ h qK qS ad res.2) t.heap) (mCells h ad sz)) ([.ref h, .int p0, .int p1, .int p2] : List Value).toArray s 0 0 (mCells h ad sz)) (F0 m 58 ls [])) ?_ _ _ hF_43 _ _ hP hS ls (lv_sub hl [2, 3, 4, 5, 1, 0] rfl)
      intro again_45 s_44 ih_46 hF_47
      intro H locs hP hS ls hl
      refine lv_iload hx hb dX12_meanCall_58 (lv_at hl 5 rfl) ?_
      refine lv_if_lt (tgt := 78) hx hb dX12_meanCall_60 (by decide) (fun c_48 => ?_) (fun c_48 => ?_)
      · have hF_49 := ipos c_48 hF_47
        clear hF_47
        exact Jj_11 s_44.1 s_44.2.2 hF_49 _ _ hP hS ls (lv_sub hl [0, 1, 2, 3, 4] rfl)
      · have hF_50 := ineg c_48 hF_47
        clear hF_47
        obtain ⟨x_51, ex_51, hF_52⟩ := bnd_e hF_50
        clear hF_50
        refine lv_iinc (v := x_51) (lv' := [(5, .int x_51), (0, .ref h), (1, .int p0), (2, .int p1), (4, .int s_1.1), (6, .int s_44.2.1)]) hx hb dX12_meanCall_63 hl (k := 4) rfl (by rw [ex_51]; rfl) (by decide) rfl (fun ls hl => ?_)
        refine lv_aload_n hx hb dX12_meanCall_66 rfl (lv_at hl 1 rfl) ?_
        refine va_get (D := (dC, dI)) (ci := 12) (v := .ref (ad 22)) (C := RX12) (T := TX12) (N := 123) hx hb hts ii_X12 hown hK hP 0 rfl rfl 22 (by decide) (hts (.fieldLink RX12 64 "StoryHouseModel" "then" "[I") wq_1378) (fun _ h9 => h9) rfl dX12_meanCall_67 ?_
        refine lv_iload hx hb dX12_meanCall_70 (lv_at hl 5 rfl) ?_
        obtain ⟨g_53, hF_54⟩ := nif_e hF_52
        clear hF_52
        refine va_iald (f := s_44.2.2.2 22) hx hb hK hP 13 2 rfl rfl g_53 dX12_meanCall_72 ?_
        obtain ⟨x_55, ex_55, hF_56⟩ := bnd_e hF_54
        clear hF_54
        refine m_top ex_55 ?_
        refine lv_istore (lv' := [(6, .int x_55), (5, .int x_51), (0, .ref h), (1, .int p0), (2, .int p1), (4, .int s_1.1)]) hx hb dX12_meanCall_73 hl (by decide) rfl (fun ls hl => ?_)
        refine lv_goto (tgt := 58) hx hb dX12_meanCall_75 (by decide) ?_
        exact ih_46 (x_51, x_55, s_44.2.2) hF_56 _ _ hP hS ls (lv_sub hl [2, 3, 4, 5, 1, 0] rfl)
  · have hF_57 := ineg c_5 hF_4
    clear hF_4
    refine lv_aload_n hx hb dX12_meanCall_11 rfl (lv_at hl 0 rfl) ?_
    refine lv_iload hx hb dX12_meanCall_12 (lv_at hl 4 rfl) ?_
    obtain ⟨u_58, hu_58, hF_59⟩ := Option.bind_eq_some_iff.mp hF_57
    clear hF_57
    refine m_cv hsz hS (va_runV (As := [.int s_1.2.1]) (rest := []) ⟨hx, hb, hml, hown, hts⟩ (hI0 H.size s_1.2.1 s_1.2.2 _ hu_58) (cwV 1 hts (g_gV wq_1702 wq_1703 wq_2179 wq_13 wq_1704) rfl rfl rfl (by decide +kernel) ⟨by show 3 + d + 1 ≤ 3 + (d + 1); omega, by show 8 + (3 + 11) + (86 + 26 * d) ≤ 86 + 26 * (d + 1); omega⟩) (m_preV g_bl0 hsz hK hP hS hE hKS g_to0) rfl rfl hl.1 rfl (lv_room (Nat.le_of_ble_eq_true rfl)) dX12_meanCall_14 ⟨Nat.le_of_ble_eq_true rfl, Nat.le_of_ble_eq_true rfl⟩) (fun H locs hP hS => ?_)
    obtain ⟨x_60, ex_60, hF_61⟩ := bnd_e hF_59
    clear hF_59
    refine lv_iinc (v := x_60) (lv' := [(4, .int x_60), (0, .ref h), (1, .int p0), (2, .int p1), (5, .int s_1.2.1)]) hx hb dX12_meanCall_17 hl (k := 3) rfl (by rw [ex_60]; rfl) (by decide) rfl (fun ls hl => ?_)
    refine lv_aload_n hx hb dX12_meanCall_20 rfl (lv_at hl 1 rfl) ?_
    refine va_get (D := (dC, dI)) (ci := 12) (v := .ref (ad 22)) (C := RX12) (T := TX12) (N := 123) hx hb hts ii_X12 hown hK hP 0 rfl rfl 22 (by decide) (hts (.fieldLink RX12 64 "StoryHouseModel" "then" "[I") wq_1378) (fun _ h9 => h9) rfl dX12_meanCall_21 ?_
    refine lv_iload hx hb dX12_meanCall_24 (lv_at hl 4 rfl) ?_
    obtain ⟨g_62, hF_63⟩ := nif_e hF_61
    clear hF_61
    refine va_iald (f := u_58.2.2 22) hx hb hK hP 13 2 rfl rfl g_62 dX12_meanCall_26 ?_
    obtain ⟨x_64, ex_64, hF_65⟩ := bnd_e hF_63
    clear hF_63
    refine m_top ex_64 ?_
    refine lv_istore (lv' := [(5, .int x_64), (4, .int x_60), (0, .ref h), (1, .int p0), (2, .int p1)]) hx hb dX12_meanCall_27 hl (by decide) rfl (fun ls hl => ?_)
    refine lv_goto (tgt := 6) hx hb dX12_meanCall_29 (by decide) ?_
    exact ih_3 (x_60, x_64, u_58.2) hF_65 _ _ hP hS ls (lv_sub hl [2, 3, 4, 1, 0] rfl)

/-- the group, by its depth -/
def gX : Nat → GF
  | 0, _, _, _, _, _ => none
  | d + 1, t, a, b, c, σ => if t = 0 then F_X12_meanExpression (gX d) a σ else if t = 1 then F_X12_meanCall (gX d) a b c σ else none
theorem gX_0 (d : Nat) (a b c : Int32) (σ : MS) : gX (d + 1) 0 a b c σ = F_X12_meanExpression (gX d) a σ := by
  rw [gX]
  exact if_pos rfl
theorem gX_1 (d : Nat) (a b c : Int32) (σ : MS) : gX (d + 1) 1 a b c σ = F_X12_meanCall (gX d) a b c σ := by
  rw [gX]
  exact (if_neg (by decide)).trans (if_pos rfl)
set_option maxHeartbeats 4000000 in
theorem gX_all (l : Launch) (dC : Nat → ClassId) (dI : Nat → Nat → Nat) (cB cC cI cJ cZ cP : ClassId) (h qK qS : Nat) (ad : Nat → Nat) (hDD : mDis cB cI cZ h qK qS ad) : ∀ d : Nat, (∀ (sz : Nat) (p0 : Int32) (σ : MS) (res : Int32 × MS), gX d 0 p0 0 0 σ = some res → Met l yX12_meanExpression (g_ws yX12_meanExpression cX12_meanExpression 3 none) ({ frames := 3 + d, cells := 0, slots := 0, locals := 86 + 26 * d }) (va_Pc [.ref h, .int p0] (m_B (dC, dI) [(cB, .byte), (cC, .char), (cI, .int), (cJ, .long), (cZ, .boolean), (cP, .object "StoryHouse$Play")] sz h ad qK qS (mW cB cI cZ h qK qS ad σ) g_0)) (va_Qv (fun (_ : Unit) => True) (fun _ t => va_P (dC, dI) vwCl (mW cB cI cZ h qK qS ad res.2) t.heap) (mCells h ad sz)) 0 0 (mCells h ad sz)) ∧ (∀ (sz : Nat) (p0 : Int32) (p1 : Int32) (p2 : Int32) (σ : MS) (res : Int32 × MS), gX d 1 p0 p1 p2  σ = some res → Met l yX12_meanCall (g_ws yX12_meanCall cX12_meanCall 7 none) ({ frames := 3 + d, cells := 0, slots := 0, locals := 86 + 26 * d }) (va_Pc [.ref h, .int p0, .int p1, .int p2] (m_B (dC, dI) [(cB, .byte), (cC, .char), (cI, .int), (cJ, .long), (cZ, .boolean), (cP, .object "StoryHouse$Play")] sz h ad qK qS (mW cB cI cZ h qK qS ad σ) g_0)) (va_Qv (fun (_ : Unit) => True) (fun _ t => va_P (dC, dI) vwCl (mW cB cI cZ h qK qS ad res.2) t.heap) (mCells h ad sz)) 0 0 (mCells h ad sz)) := by
  intro d
  induction d with
  | zero => exact ⟨(fun sz p0 σ res hz => by cases hz), (fun sz p0 p1 p2 σ res hz => by cases hz)⟩
  | succ d ih =>
    obtain ⟨hI0, hI1⟩ := ih
    exact ⟨(fun sz p0 σ res hF => m_X12_meanExpression_st l dC dI cB cC cI cJ cZ cP h qK qS ad hDD d (gX d) hI0 hI1 sz p0 σ res ((gX_0 d p0 0 0 σ).symm.trans hF)), (fun sz p0 p1 p2 σ res hF => m_X12_meanCall_st l dC dI cB cC cI cJ cZ cP h qK qS ad hDD d (gX d) hI0 hI1 sz p0 p1 p2 σ res ((gX_1 d p0 p1 p2 σ).symm.trans hF))⟩

def G_X12_meanExpression (p0 : Int32) (σ : MS) : MR := gX 1400 0 p0 0 0 σ
theorem m_X12_meanExpression (l : Launch) (dC : Nat → ClassId) (dI : Nat → Nat → Nat) (cB cC cI cJ cZ cP : ClassId) (h qK qS : Nat) (ad : Nat → Nat) (hDD : mDis cB cI cZ h qK qS ad) : ∀ (sz : Nat) (p0 : Int32) (σ : MS) (res : Int32 × MS), G_X12_meanExpression p0 σ = some res → Met l yX12_meanExpression (g_ws yX12_meanExpression cX12_meanExpression 3 none) ({ frames := 1403, cells := 0, slots := 0, locals := 36486 }) (va_Pc [.ref h, .int p0] (m_B (dC, dI) [(cB, .byte), (cC, .char), (cI, .int), (cJ, .long), (cZ, .boolean), (cP, .object "StoryHouse$Play")] sz h ad qK qS (mW cB cI cZ h qK qS ad σ) g_0)) (va_Qv (fun (_ : Unit) => True) (fun _ t => va_P (dC, dI) vwCl (mW cB cI cZ h qK qS ad res.2) t.heap) (mCells h ad sz)) 0 0 (mCells h ad sz) := (gX_all l dC dI cB cC cI cJ cZ cP h qK qS ad hDD 1400).1

def G_X12_meanCall (p0 : Int32) (p1 : Int32) (p2 : Int32) (σ : MS) : MR := gX 1400 1 p0 p1 p2  σ
theorem m_X12_meanCall (l : Launch) (dC : Nat → ClassId) (dI : Nat → Nat → Nat) (cB cC cI cJ cZ cP : ClassId) (h qK qS : Nat) (ad : Nat → Nat) (hDD : mDis cB cI cZ h qK qS ad) : ∀ (sz : Nat) (p0 : Int32) (p1 : Int32) (p2 : Int32) (σ : MS) (res : Int32 × MS), G_X12_meanCall p0 p1 p2 σ = some res → Met l yX12_meanCall (g_ws yX12_meanCall cX12_meanCall 7 none) ({ frames := 1403, cells := 0, slots := 0, locals := 36486 }) (va_Pc [.ref h, .int p0, .int p1, .int p2] (m_B (dC, dI) [(cB, .byte), (cC, .char), (cI, .int), (cJ, .long), (cZ, .boolean), (cP, .object "StoryHouse$Play")] sz h ad qK qS (mW cB cI cZ h qK qS ad σ) g_0)) (va_Qv (fun (_ : Unit) => True) (fun _ t => va_P (dC, dI) vwCl (mW cB cI cZ h qK qS ad res.2) t.heap) (mCells h ad sz)) 0 0 (mCells h ad sz) := (gX_all l dC dI cB cC cI cJ cZ cP h qK qS ad hDD 1400).2
theorem dX12_see_0 : decode cX12_see 0 = .ok (.aload_n 0, 1) := by decide +kernel
theorem dX12_see_1 : decode cX12_see 1 = .ok (.getfield 506, 3) := by decide +kernel
theorem dX12_see_4 : decode cX12_see 4 = .ok (.bipush 16, 2) := by decide +kernel
theorem dX12_see_6 : decode cX12_see 6 = .ok (.if_icmp .ge 38, 3) := by decide +kernel
theorem dX12_see_9 : decode cX12_see 9 = .ok (.aload_n 0, 1) := by decide +kernel
theorem dX12_see_10 : decode cX12_see 10 = .ok (.getfield 76, 3) := by decide +kernel
theorem dX12_see_13 : decode cX12_see 13 = .ok (.aload_n 0, 1) := by decide +kernel
theorem dX12_see_14 : decode cX12_see 14 = .ok (.getfield 506, 3) := by decide +kernel
theorem dX12_see_17 : decode cX12_see 17 = .ok (.aload_n 0, 1) := by decide +kernel
theorem dX12_see_18 : decode cX12_see 18 = .ok (.getfield 55, 3) := by decide +kernel
theorem dX12_see_21 : decode cX12_see 21 = .ok (.iload_n 1, 1) := by decide +kernel
theorem dX12_see_22 : decode cX12_see 22 = .ok (.iaload, 1) := by decide +kernel
theorem dX12_see_23 : decode cX12_see 23 = .ok (.iastore, 1) := by decide +kernel
theorem dX12_see_24 : decode cX12_see 24 = .ok (.aload_n 0, 1) := by decide +kernel
theorem dX12_see_25 : decode cX12_see 25 = .ok (.getfield 79, 3) := by decide +kernel
theorem dX12_see_28 : decode cX12_see 28 = .ok (.aload_n 0, 1) := by decide +kernel
theorem dX12_see_29 : decode cX12_see 29 = .ok (.dup, 1) := by decide +kernel
theorem dX12_see_30 : decode cX12_see 30 = .ok (.getfield 506, 3) := by decide +kernel
theorem dX12_see_33 : decode cX12_see 33 = .ok (.dup_x1, 1) := by decide +kernel
theorem dX12_see_34 : decode cX12_see 34 = .ok (.iconst 1, 1) := by decide +kernel
theorem dX12_see_35 : decode cX12_see 35 = .ok (.iadd, 1) := by decide +kernel
theorem dX12_see_36 : decode cX12_see 36 = .ok (.putfield 506, 3) := by decide +kernel
theorem dX12_see_39 : decode cX12_see 39 = .ok (.aload_n 0, 1) := by decide +kernel
theorem dX12_see_40 : decode cX12_see 40 = .ok (.getfield 509, 3) := by decide +kernel
theorem dX12_see_43 : decode cX12_see 43 = .ok (.iastore, 1) := by decide +kernel
theorem dX12_see_44 : decode cX12_see 44 = .ok (.aload_n 0, 1) := by decide +kernel
theorem dX12_see_45 : decode cX12_see 45 = .ok (.getfield 61, 3) := by decide +kernel
theorem dX12_see_48 : decode cX12_see 48 = .ok (.iload_n 1, 1) := by decide +kernel
theorem dX12_see_49 : decode cX12_see 49 = .ok (.aload_n 0, 1) := by decide +kernel
theorem dX12_see_50 : decode cX12_see 50 = .ok (.dup, 1) := by decide +kernel
theorem dX12_see_51 : decode cX12_see 51 = .ok (.getfield 509, 3) := by decide +kernel
theorem dX12_see_54 : decode cX12_see 54 = .ok (.dup_x1, 1) := by decide +kernel
theorem dX12_see_55 : decode cX12_see 55 = .ok (.iconst 1, 1) := by decide +kernel
theorem dX12_see_56 : decode cX12_see 56 = .ok (.iadd, 1) := by decide +kernel
theorem dX12_see_57 : decode cX12_see 57 = .ok (.putfield 509, 3) := by decide +kernel
theorem dX12_see_60 : decode cX12_see 60 = .ok (.iastore, 1) := by decide +kernel
theorem dX12_see_61 : decode cX12_see 61 = .ok (.return_, 1) := by decide +kernel
def F_X12_see (p0 : Int32) (σ : MS) : MR :=
  bnd (fun  (σ_1 : MS) => (
    bnd (mI σ_1 34 ((σ_1.1 34) + 1)) fun σ_5 =>
    if p0 < 0 ∨ 40000 ≤ p0.toNatClampNeg then none else
    bnd (mA σ_5 21 (upd (σ_5.2 21) p0.toNatClampNeg (σ_1.1 34))) fun σ_9 =>
    some (0, σ_9)
  ) : MS → MR) fun j_2 =>
  if 16 ≤ (σ.1 33) then (
    j_2  σ
  ) else (
    if p0 < 0 ∨ 40000 ≤ p0.toNatClampNeg then none else
    if (σ.1 33) < 0 ∨ 16 ≤ (σ.1 33).toNatClampNeg then none else
    bnd (mA σ 31 (upd (σ.2 31) (σ.1 33).toNatClampNeg (σ.2 19 p0.toNatClampNeg))) fun σ_18 =>
    bnd (mI σ_18 33 ((σ_18.1 33) + 1)) fun σ_20 =>
    if (σ_18.1 33) < 0 ∨ 16 ≤ (σ_18.1 33).toNatClampNeg then none else
    bnd (mA σ_20 32 (upd (σ_20.2 32) (σ_18.1 33).toNatClampNeg (σ_20.1 34))) fun σ_24 =>
    j_2  σ_24
  )
set_option maxHeartbeats 4000000 in
set_option maxRecDepth 100000 in
theorem m_X12_see (l : Launch) (dC : Nat → ClassId) (dI : Nat → Nat → Nat) (cB cC cI cJ cZ cP : ClassId) (h qK qS : Nat) (ad : Nat → Nat) (hDD : mDis cB cI cZ h qK qS ad) (sz : Nat)  (p0 : Int32) (σ : MS) (res : Int32 × MS) (hF : F_X12_see p0 σ = some res) : Met l yX12_see (g_ws yX12_see cX12_see 2 none) ({ frames := 1, cells := 0, slots := 0, locals := 40 }) (va_Pc [.ref h, .int p0] (m_B (dC, dI) [(cB, .byte), (cC, .char), (cI, .int), (cJ, .long), (cZ, .boolean), (cP, .object "StoryHouse$Play")] sz h ad qK qS (mW cB cI cZ h qK qS ad σ) g_0)) (va_Qv (fun (_ : Unit) => True) (fun _ t => va_P (dC, dI) vwCl (mW cB cI cZ h qK qS ad res.2) t.heap) (mCells h ad sz)) 0 0 (mCells h ad sz) := by
  refine Met.ofW (cc := cX12_see) (maxL := 2) (ret := none) (by decide) rfl ?_
  intro p e s m args below meth c s₁ B hml hv
  obtain ⟨rfl, hsz, hP, hK, hE, hKS, hX⟩ := hv
  have hx := B.exec
  have hb := B.bytes
  have hr := B.returns
  have hts0 := atoms_spec (ws := g_ws yX12_see cX12_see 2 none) B.pre
  have hts : ∀ w ∈ lw_good, w.before ([.ref h, .int p0] : List Value).toArray s = true := fun w z => hts0 w (List.mem_cons_of_mem _ z)
  have hown : s.vm.findClass RX12 = some m.cls := findClass_of_methodNamed B.named
  have hlocks := B.notSynchronized
  have hS : va_S (mCells h ad sz) s.heap s.heap [] := va_S.rf
  have hl := lv_entry ([.ref h, .int p0]) (n := 2) (Nat.le_of_ble_eq_true rfl)
  rw [lg_entry_eq]
  generalize (lg_sl ([.ref h, .int p0]) ++ List.replicate (2 - (lg_sl ([.ref h, .int p0])).length) Slot.unset).toArray = ls at hl ⊢
  have hl : lv_has ls 2 [(0, .ref h), (1, .int p0)] := hl
  unfold F_X12_see at hF
  refine lv_aload_n hx hb dX12_see_0 rfl (lv_at hl 0 rfl) ?_
  refine va_get (D := (dC, dI)) (ci := 12) (v := .int (σ.1 33)) (C := RX12) (T := TX12) (N := 123) hx hb hts ii_X12 hown hK hP 0 rfl rfl 33 (by decide) (hts (.fieldLink RX12 506 "StoryHouseModel" "seenCount" "I") wq_1389) (fun _ h9 => h9) rfl dX12_see_1 ?_
  refine lv_bipush (v := 16) hx hb dX12_see_4 (by decide +kernel) ?_
  obtain ⟨j_2, ej_2, hF_3⟩ := bnd_e hF
  clear hF
  have Jj_2 : ∀  (σ_1 : MS), j_2  σ_1 = some res → ∀ (H : Heap) (locs : List Loc), va_P (dC, dI) vwCl (mW cB cI cZ h qK qS ad σ_1) H → va_S (mCells h ad sz) s.heap H locs → ∀ ls : Array Slot, lv_has ls 2 [(0, .ref h), (1, .int p0)] → W p l e (headSpec (g_ws yX12_see cX12_see 2 none) { frames := 1, cells := 0, slots := 0, locals := 40 }).room s m ([.ref h, .int p0] : List Value).toArray below meth c H locs 0 0 (MQ below (va_Qv (fun (_ : Unit) => True) (fun _ t => va_P (dC, dI) vwCl (mW cB cI cZ h qK qS ad res.2) t.heap) (mCells h ad sz)) ([.ref h, .int p0] : List Value).toArray s 0 0 (mCells h ad sz)) (F0 m 44 ls []) := by
    intro  σ_1 hF0 H locs hP hS ls hl
    subst ej_2
    have hF_4 := hF0
    clear hF0
    refine lv_aload_n hx hb dX12_see_44 rfl (lv_at hl 0 rfl) ?_
    refine va_get (D := (dC, dI)) (ci := 12) (v := .ref (ad 21)) (C := RX12) (T := TX12) (N := 123) hx hb hts ii_X12 hown hK hP 0 rfl rfl 21 (by decide) (hts (.fieldLink RX12 61 "StoryHouseModel" "d" "[I") wq_1377) (fun _ h9 => h9) rfl dX12_see_45 ?_
    refine lv_iload_n hx hb dX12_see_48 rfl (lv_at hl 1 rfl) ?_
    refine lv_aload_n hx hb dX12_see_49 rfl (lv_at hl 0 rfl) ?_
    refine lv_dup hx hb dX12_see_50 rfl ?_
    refine va_get (D := (dC, dI)) (ci := 12) (v := .int (σ_1.1 34)) (C := RX12) (T := TX12) (N := 123) hx hb hts ii_X12 hown hK hP 0 rfl rfl 34 (by decide) (hts (.fieldLink RX12 509 "StoryHouseModel" "slotCount" "I") wq_1390) (fun _ h9 => h9) rfl dX12_see_51 ?_
    refine lv_dup_x1 hx hb dX12_see_54 rfl rfl ?_
    refine lv_iconst (v := 1) hx hb dX12_see_55 (by decide +kernel) ?_
    refine lv_iadd hx hb dX12_see_56 ?_
    obtain ⟨σ_5, eσ_5, hF_6⟩ := bnd_e hF_4
    clear hF_4
    refine m_put (σ' := σ_5) (v := .int ((σ_1.1 34) + 1)) (ty := .int) hx hb hts hown hK hP (hDD _ _) hS (by rw [eσ_5]; exact mwI_34) (k := 34) (by decide) (hts (.fieldLink RX12 509 "StoryHouseModel" "slotCount" "I") wq_1390) (fun _ h9 => h9) rfl (by decide +kernel) rfl rfl dX12_see_57 (fun H locs hP hS => ?_)
    obtain ⟨g_7, hF_8⟩ := nif_e hF_6
    clear hF_6
    obtain ⟨σ_9, eσ_9, hF_10⟩ := bnd_e hF_8
    clear hF_8
    refine m_iast (σ' := σ_9) hx hb hK hP (hDD _ _) hS (q0 := 12) (t0 := 2) (f := σ_5.2 21) rfl rfl (by rw [eσ_9]; exact mwA_21) g_7 dX12_see_60 (fun H locs hP hS => ?_)
    have h9 := Option.some.inj hF_10
    subst h9
    exact W.vret hx hb hr (fun t ht hW => ⟨⟨(), rfl, trivial, m_end ht hP⟩, hS.F ht⟩) hS.2.2 dX12_see_61
  refine lv_icmp_ge (tgt := 44) hx hb dX12_see_6 (by decide) (fun c_11 => ?_) (fun c_11 => ?_)
  · have hF_12 := ipos c_11 hF_3
    clear hF_3
    exact Jj_2  σ hF_12 _ _ hP hS ls (lv_sub hl [0, 1] rfl)
  · have hF_13 := ineg c_11 hF_3
    clear hF_3
    refine lv_aload_n hx hb dX12_see_9 rfl (lv_at hl 0 rfl) ?_
    refine va_get (D := (dC, dI)) (ci := 12) (v := .ref (ad 31)) (C := RX12) (T := TX12) (N := 123) hx hb hts ii_X12 hown hK hP 0 rfl rfl 31 (by decide) (hts (.fieldLink RX12 76 "StoryHouseModel" "seen" "[I") wq_1387) (fun _ h9 => h9) rfl dX12_see_10 ?_
    refine lv_aload_n hx hb dX12_see_13 rfl (lv_at hl 0 rfl) ?_
    refine va_get (D := (dC, dI)) (ci := 12) (v := .int (σ.1 33)) (C := RX12) (T := TX12) (N := 123) hx hb hts ii_X12 hown hK hP 0 rfl rfl 33 (by decide) (hts (.fieldLink RX12 506 "StoryHouseModel" "seenCount" "I") wq_1389) (fun _ h9 => h9) rfl dX12_see_14 ?_
    refine lv_aload_n hx hb dX12_see_17 rfl (lv_at hl 0 rfl) ?_
    refine va_get (D := (dC, dI)) (ci := 12) (v := .ref (ad 19)) (C := RX12) (T := TX12) (N := 123) hx hb hts ii_X12 hown hK hP 0 rfl rfl 19 (by decide) (hts (.fieldLink RX12 55 "StoryHouseModel" "a" "[I") wq_1375) (fun _ h9 => h9) rfl dX12_see_18 ?_
    refine lv_iload_n hx hb dX12_see_21 rfl (lv_at hl 1 rfl) ?_
    obtain ⟨g_14, hF_15⟩ := nif_e hF_13
    clear hF_13
    refine va_iald (f := σ.2 19) hx hb hK hP 10 2 rfl rfl g_14 dX12_see_22 ?_
    obtain ⟨g_16, hF_17⟩ := nif_e hF_15
    clear hF_15
    obtain ⟨σ_18, eσ_18, hF_19⟩ := bnd_e hF_17
    clear hF_17
    refine m_iast (σ' := σ_18) hx hb hK hP (hDD _ _) hS (q0 := 17) (t0 := 2) (f := σ.2 31) rfl rfl (by rw [eσ_18]; exact mwA_31) g_16 dX12_see_23 (fun H locs hP hS => ?_)
    refine lv_aload_n hx hb dX12_see_24 rfl (lv_at hl 0 rfl) ?_
    refine va_get (D := (dC, dI)) (ci := 12) (v := .ref (ad 32)) (C := RX12) (T := TX12) (N := 123) hx hb hts ii_X12 hown hK hP 0 rfl rfl 32 (by decide) (hts (.fieldLink RX12 79 "StoryHouseModel" "slots" "[I") wq_1388) (fun _ h9 => h9) rfl dX12_see_25 ?_
    refine lv_aload_n hx hb dX12_see_28 rfl (lv_at hl 0 rfl) ?_
    refine lv_dup hx hb dX12_see_29 rfl ?_
    refine va_get (D := (dC, dI)) (ci := 12) (v := .int (σ_18.1 33)) (C := RX12) (T := TX12) (N := 123) hx hb hts ii_X12 hown hK hP 0 rfl rfl 33 (by decide) (hts (.fieldLink RX12 506 "StoryHouseModel" "seenCount" "I") wq_1389) (fun _ h9 => h9) rfl dX12_see_30 ?_
    refine lv_dup_x1 hx hb dX12_see_33 rfl rfl ?_
    refine lv_iconst (v := 1) hx hb dX12_see_34 (by decide +kernel) ?_
    refine lv_iadd hx hb dX12_see_35 ?_
    obtain ⟨σ_20, eσ_20, hF_21⟩ := bnd_e hF_19
    clear hF_19
    refine m_put (σ' := σ_20) (v := .int ((σ_18.1 33) + 1)) (ty := .int) hx hb hts hown hK hP (hDD _ _) hS (by rw [eσ_20]; exact mwI_33) (k := 33) (by decide) (hts (.fieldLink RX12 506 "StoryHouseModel" "seenCount" "I") wq_1389) (fun _ h9 => h9) rfl (by decide +kernel) rfl rfl dX12_see_36 (fun H locs hP hS => ?_)
    refine lv_aload_n hx hb dX12_see_39 rfl (lv_at hl 0 rfl) ?_
    refine va_get (D := (dC, dI)) (ci := 12) (v := .int (σ_20.1 34)) (C := RX12) (T := TX12) (N := 123) hx hb hts ii_X12 hown hK hP 0 rfl rfl 34 (by decide) (hts (.fieldLink RX12 509 "StoryHouseModel" "slotCount" "I") wq_1390) (fun _ h9 => h9) rfl dX12_see_40 ?_
    obtain ⟨g_22, hF_23⟩ := nif_e hF_21
    clear hF_21
    obtain ⟨σ_24, eσ_24, hF_25⟩ := bnd_e hF_23
    clear hF_23
    refine m_iast (σ' := σ_24) hx hb hK hP (hDD _ _) hS (q0 := 18) (t0 := 2) (f := σ_20.2 32) rfl rfl (by rw [eσ_24]; exact mwA_32) g_22 dX12_see_43 (fun H locs hP hS => ?_)
    exact Jj_2  σ_24 hF_25 _ _ hP hS ls (lv_sub hl [0, 1] rfl)
